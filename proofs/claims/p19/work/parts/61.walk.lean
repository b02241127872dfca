/-! THE LAW'S PLACES -/
def zL0 (b L : Nat) (xs : Nat → Int32) (N1 pc : Nat) (lv : Nat → List (Nat × Value)) (st : List Value) (sh : List zShp) (M : zMem) : Prop :=
  ∀ (p : Program) (l : Launch) (e : Env) (s : State) (m : MethodId) (below : List Frame) (meth : Method) (c : Code) (H : Heap) (locs : List Loc) (cells slots : Nat) (D : va_G) (cy : zCy) (ls : Array Slot),
    lw_At p s m meth c b L xs → zNx s → zWd D cy s.heap.size s H locs cells sh M → slots ≤ N1 → lv_has ls 4 ((0, .ref b) :: lv s.heap.size) →
    W p l e room_1 s m #[Value.ref b] below meth c H locs cells slots (lw_Z below #[Value.ref b] s) (F0 m pc ls (st.map (zv s.heap.size)))
def lwV (i : Nat) (B : Nat) : List (Nat × Value) := [(1, .ref B), (2, .ref (B + 35)), (3, .int (nI i))]
def zLT (b L : Nat) (xs : Nat → Int32) (pc i : Nat) (st : List Value) (sh : List zShp) (M : zMem) : Prop := zL0 b L xs (751 + 9 * (sh.length - 52)) pc (lwV i) st sh M
theorem lw_fix {p : Program} {s : State} {m : MethodId} {meth : Method} {c : Code} {b L : Nat} {xs : Nat → Int32} (C : lw_At p s m meth c b L xs) : CallFix p m c code 4 s #[Value.ref b] zgt R_law :=
  ⟨C.1, C.2.1, C.2.2.2.1, C.2.2.2.2.1, fun w hw => C.2.2.2.2.2.1 w (List.mem_filter.mp hw).1⟩
theorem lw_len (g : Nat → Option Nat) (X : List zShp) : (SHP g X).length = 52 + X.length := by
  unfold SHP
  simp only [List.length_cons]
  omega
section zLaw
variable {b L : Nat} {xs : Nat → Int32} {N1 pc i : Nat} {lv : Nat → List (Nat × Value)} {st : List Value} {sh : List zShp} {M : zMem}
theorem zl_x (hd : decode code pc = .ok (.aload_n 1, 1)) (k : zLT b L xs (pc + 1) i (.ref 0 :: st) sh M) : zLT b L xs pc i st sh M := by
  intro p l e s m below meth c H locs cells slots D cy ls C N V hs hl
  exact lv_aload_n C.1 C.2.1 hd rfl (hl.2.2 (1, .ref s.heap.size) (List.mem_of_getElem? (i := 1) rfl)) (k p l e s m below meth c H locs cells slots D cy ls C N V hs hl)
theorem zl_m (hd : decode code pc = .ok (.aload_n 2, 1)) (k : zLT b L xs (pc + 1) i (.ref 35 :: st) sh M) : zLT b L xs pc i st sh M := by
  intro p l e s m below meth c H locs cells slots D cy ls C N V hs hl
  exact lv_aload_n C.1 C.2.1 hd rfl (hl.2.2 (2, .ref (s.heap.size + 35)) (List.mem_of_getElem? (i := 2) rfl)) (k p l e s m below meth c H locs cells slots D cy ls C N V hs hl)
theorem zl_ar (j : Nat) {n : Int} (hn : Int32.ofInt n = nI j) (h0 : decode code pc = .ok (.aload_n 0, 1)) (h1 : decode code (pc + 1) = .ok (.iload_n 3, 1)) (h2 : decode code (pc + 2) = .ok (.iconst n, 1)) (h3 : decode code (pc + 3) = .ok (.iadd, 1)) (h4 : decode code (pc + 4) = .ok (.iaload, 1)) (hi : i + j < L) (hL : L < 2 ^ 31) (k : zLT b L xs (pc + 5) i (.int (xs (i + j)) :: st) sh M) : zLT b L xs pc i st sh M := by
  intro p l e s m below meth c H locs cells slots D cy ls C N V hs hl
  refine lv_aload_n C.1 C.2.1 h0 rfl (hl.2.2 (0, .ref b) (List.mem_of_getElem? (i := 0) rfl)) ?_
  refine lv_iload_n C.1 C.2.1 h1 rfl (hl.2.2 (3, .int (nI i)) (List.mem_of_getElem? (i := 3) rfl)) ?_
  refine lv_iconst C.1 C.2.1 h2 hn ?_
  refine lv_iadd C.1 C.2.1 h3 ?_
  rw [nI_add]
  refine va_sld (A := fun q => s.heap.size ≤ q) C.1 C.2.1 C.2.2.2.2.2.2.1 C.2.2.2.2.2.2.2.1 (Nat.not_le.mpr C.2.2.2.2.2.2.2.1) V.2.2.2.2.1 (vp_in_nI hi hL) h4 ?_
  rw [nI_clamp (by omega)]
  exact k p l e s m below meth c H locs cells slots D cy ls C N V hs hl
theorem zl_call {ν : zMI} {kc ks o ix n ci : Nat} {as rest : List Value} {R0 : zEnd} {fs : List (Option (Option Nat))} {T : u_T} {Nf : Nat} (hE : zEx ν kc ks (.ref o :: as) sh M R0) (hK : ks ≤ 9 * kc) (Lk : zLV R_law ix ν n) (ho : sh[o]? = some (.inr (.inl (ci, fs)))) (hc : zCL[ci]? = some (ν.1.cls, T, Nf)) (hro : ν.2.2.2.2.1 + 1 ≤ 9 ∧ 8 + (ν.2.2.1 + 11) + ν.2.2.2.2.2 ≤ 318) (hn : as.length = n) (hW : (rest.map fun v => v.category).sum ≤ 8) (hdg : decode code pc = .ok (.invokevirtual ix, 3)) (hm : 52 ≤ sh.length ∧ ∀ v sh1 M1, R0 v sh1 M1 → sh1.length ≤ 74)
  (kk : ∀ v sh1 M1, R0 v sh1 M1 → zLT b L xs (pc + 3) i (v.toList ++ rest) sh1 M1) (hsm : sh.length + kc ≤ 600000) : zLT b L xs pc i (as.reverse ++ .ref o :: rest) sh M := by
  intro p l e s m below meth c H locs cells slots D cy ls C N V hs hl
  have hce : cells = sh.length := by
    have h1 := V.2.2.1
    have h2 := V.2.2.2.1
    omega
  rw [List.map_append, List.map_reverse, List.map_cons]
  have hWr : ((rest.map (zv s.heap.size)).map fun v => v.category).sum ≤ 8 := by
    have : (rest.map (zv s.heap.size)).map (fun v => v.category) = rest.map (fun v => v.category) := by
      rw [List.map_map]
      exact List.map_congr_left (fun v _ => zv_cat _ v)
    rw [this]; exact hW
  refine zW_cont (zrun_V (rest := rest.map (zv s.heap.size)) (lw_fix C) N V hE Lk ho hc hro.1 hro.2 hn hl.1 hWr hdg ⟨by rw [hce]; exact hsm, ?_⟩) V (fun v sh1 M1 H1 locs1 hR V1 => ?_)
  · show slots + ks ≤ 7302250
    omega
  · have k := kk v sh1 M1 hR p l e s m below meth c H1 locs1 (cells + kc) (slots + ks) D cy ls C N V1 (by
      have h1 := V1.2.2.1
      have h2 := V1.2.2.2.1
      have h3 := hm.1
      omega) hl
    have e1 : (v.toList ++ rest).map (zv s.heap.size) = (v.map (zv s.heap.size)).toList ++ rest.map (zv s.heap.size) := by
      cases v <;> rfl
    rw [e1] at k
    exact k
theorem zl_pop {w : Value} (hd : decode code pc = .ok (.pop, 1)) (hw : w.category = 1) (k : zLT b L xs (pc + 1) i st sh M) : zLT b L xs pc i (w :: st) sh M := by
  intro p l e s m below meth c H locs cells slots D cy ls C N V hs hl
  exact lv_pop C.1 C.2.1 hd (by rw [zv_cat]; exact hw) (k p l e s m below meth c H locs cells slots D cy ls C N V hs hl)
theorem zl_pop2 {w : Value} (hd : decode code pc = .ok (.pop2, 1)) (hw : w.category = 2) (k : zLT b L xs (pc + 1) i st sh M) : zLT b L xs pc i (w :: st) sh M := by
  intro p l e s m below meth c H locs cells slots D cy ls C N V hs hl
  exact lv_pop2_2 C.1 C.2.1 hd (by rw [zv_cat]; exact hw) (k p l e s m below meth c H locs cells slots D cy ls C N V hs hl)
theorem zl_goto {off : Int} {tgt : Nat} (hd : decode code pc = .ok (.goto off, 3)) (ht : (pc : Int) + off = (tgt : Int)) (k : zLT b L xs tgt i st sh M) : zLT b L xs pc i st sh M := by
  intro p l e s m below meth c H locs cells slots D cy ls C N V hs hl
  exact lv_goto C.1 C.2.1 hd ht (k p l e s m below meth c H locs cells slots D cy ls C N V hs hl)
theorem zl_eq {off : Int} {tgt : Nat} {r : Int32} (hd : decode code pc = .ok (.if_icmp .eq off, 3)) (ht : (pc : Int) + off = (tgt : Int)) (k : zLT b L xs tgt i st sh M) : zLT b L xs pc i (.int r :: .int r :: st) sh M := by
  intro p l e s m below meth c H locs cells slots D cy ls C N V hs hl
  exact lv_icmp_eq C.1 C.2.1 hd ht (fun _ => k p l e s m below meth c H locs cells slots D cy ls C N V hs hl) (fun h => absurd rfl h)
/-- the loop's step -/
theorem zl_next {off : Int} {tgt : Nat} (h0 : decode code pc = .ok (.iinc 3 4, 3)) (h1 : decode code (pc + 3) = .ok (.goto off, 3)) (ht : ((pc + 3 : Nat) : Int) + off = (tgt : Int)) (k : zLT b L xs tgt (i + 4) [] sh M) : zLT b L xs pc i [] sh M := by
  intro p l e s m below meth c H locs cells slots D cy ls C N V hs hl
  refine lv_iinc (k := 3) C.1 C.2.1 h0 hl rfl (nI_add i 4) (by decide) rfl (fun ls2 hl2 => ?_)
  refine lv_goto C.1 C.2.1 h1 ht (k p l e s m below meth c H locs cells slots D cy ls2 C N V hs ⟨hl2.1, hl2.2.1, fun q hq => hl2.2.2 q ?_⟩)
  simp only [lwV, List.mem_cons, List.not_mem_nil, or_false] at hq
  rcases hq with rfl | rfl | rfl | rfl
  · exact List.mem_of_getElem? (i := 1) rfl
  · exact List.mem_of_getElem? (i := 2) rfl
  · exact List.mem_of_getElem? (i := 3) rfl
  · exact List.mem_of_getElem? (i := 0) rfl
/-- the end -/
theorem zl_end (h0 : decode code pc = .ok (.iconst 1, 1)) (h1 : decode code (pc + 1) = .ok (.ireturn, 1)) (hm : sh.length ≤ 74) : zLT b L xs pc i [] sh M := by
  intro p l e s m below meth c H locs cells slots D cy ls C N V hs hl
  refine lv_iconst C.1 C.2.1 h0 rfl ?_
  have hce : cells = sh.length := by
    have h1 := V.2.2.1
    have h2 := V.2.2.2.1
    omega
  refine W.widen (k := 600000) (n := 7302250) (by omega) (by omega) ?_
  exact va_forget V.2.2.2.2.1.2.2 (lw_ret C.1 C.2.1 C.2.2.1 C.2.2.2.2.2.2.2.2.1 h1)
/-- the loop's head -/
theorem zl_head {off : Int} {tgt : Nat} (hL : L ≤ 2048) (hiL : i ≤ L) (h0 : decode code pc = .ok (.iload_n 3, 1)) (h1 : decode code (pc + 1) = .ok (.aload_n 0, 1)) (h2 : decode code (pc + 2) = .ok (.arraylength, 1)) (h3 : decode code (pc + 3) = .ok (.iconst 4, 1)) (h4 : decode code (pc + 4) = .ok (.isub, 1)) (h5 : decode code (pc + 5) = .ok (.if_icmp .gt off, 3)) (ht : ((pc + 5 : Nat) : Int) + off = (tgt : Int)) (h8 : decode code (pc + 8) = .ok (.aload_n 0, 1)) (h9 : decode code (pc + 9) = .ok (.iload_n 3, 1)) (h10 : decode code (pc + 10) = .ok (.iaload, 1)) (h11 : decode code (pc + 11) = .ok (.bipush 31, 2)) (h13 : decode code (pc + 13) = .ok (.iand, 1))
  (ke : L < i + 4 → zLT b L xs tgt i [] sh M) (kb : i + 4 ≤ L → zLT b L xs (pc + 14) i [.int (xs i &&& 31)] sh M) : zLT b L xs pc i [] sh M := by
  intro p l e s m below meth c H locs cells slots D cy ls C N V hs hl
  refine lv_iload_n C.1 C.2.1 h0 rfl (hl.2.2 (3, .int (nI i)) (List.mem_of_getElem? (i := 3) rfl)) ?_
  refine lv_aload_n C.1 C.2.1 h1 rfl (hl.2.2 (0, .ref b) (List.mem_of_getElem? (i := 0) rfl)) ?_
  refine va_slen (A := fun q => s.heap.size ≤ q) C.1 C.2.1 C.2.2.2.2.2.2.1 C.2.2.2.2.2.2.2.1 (Nat.not_le.mpr C.2.2.2.2.2.2.2.1) V.2.2.2.2.1 h2 ?_
  refine lv_iconst (v := nI 4) C.1 C.2.1 h3 rfl ?_
  refine lv_isub C.1 C.2.1 h4 ?_
  have hcmp : (Int32.ofNat L - nI 4 < nI i) ↔ L < i + 4 := by
    rw [show Int32.ofNat L = nI L from rfl, Int32.lt_iff_toInt_lt, pk_sub_toInt (by omega) (by omega), nI_toInt (by omega)]
    omega
  refine lv_icmp_gt C.1 C.2.1 h5 ht (fun h => ke (hcmp.mp h) p l e s m below meth c H locs cells slots D cy ls C N V hs hl) (fun h => ?_)
  have hb : i + 4 ≤ L := Nat.le_of_not_lt (fun q => h (hcmp.mpr q))
  refine lv_aload_n C.1 C.2.1 h8 rfl (hl.2.2 (0, .ref b) (List.mem_of_getElem? (i := 0) rfl)) ?_
  refine lv_iload_n C.1 C.2.1 h9 rfl (hl.2.2 (3, .int (nI i)) (List.mem_of_getElem? (i := 3) rfl)) ?_
  refine va_sld (A := fun q => s.heap.size ≤ q) C.1 C.2.1 C.2.2.2.2.2.2.1 C.2.2.2.2.2.2.2.1 (Nat.not_le.mpr C.2.2.2.2.2.2.2.1) V.2.2.2.2.1 (vp_in_nI (n := i) (by omega) (by omega)) h10 ?_
  rw [nI_clamp (by omega)]
  refine lv_bipush (v := 31) C.1 C.2.1 h11 rfl ?_
  refine lv_iand C.1 C.2.1 h13 ?_
  exact kb hb p l e s m below meth c H locs cells slots D cy ls C N V hs hl
theorem zl_in {dflt lo hi : Int} {offs : Array Int} {len : Nat} {x : Int32} {off : Int} {tgt : Nat} (hd : decode code pc = .ok (.tableswitch dflt lo hi offs, len)) (h1 : ¬ x.toInt < lo) (h2 : ¬ hi < x.toInt) (ho : offs[(x.toInt - lo).toNat]? = some off) (ht : (pc : Int) + off = (tgt : Int)) (k : zLT b L xs tgt i st sh M) : zLT b L xs pc i (.int x :: st) sh M := by
  intro p l e s m below meth c H locs cells slots D cy ls C N V hs hl
  exact lv_tableIn C.1 C.2.1 hd h1 h2 ho ht (k p l e s m below meth c H locs cells slots D cy ls C N V hs hl)
theorem zl_out {dflt lo hi : Int} {offs : Array Int} {len : Nat} {x : Int32} {tgt : Nat} (hd : decode code pc = .ok (.tableswitch dflt lo hi offs, len)) (h : x.toInt < lo ∨ hi < x.toInt) (ht : (pc : Int) + dflt = (tgt : Int)) (k : zLT b L xs tgt i st sh M) : zLT b L xs pc i (.int x :: st) sh M := by
  intro p l e s m below meth c H locs cells slots D cy ls C N V hs hl
  exact lv_tableOut C.1 C.2.1 hd h ht (k p l e s m below meth c H locs cells slots D cy ls C N V hs hl)
/-- a pair of calls: the class's, then the reference's -/
theorem zl_c1 {E : Value → Value → Prop} {cat : Nat} {ν μ : zMI} {as : List Value} {g : Nat → Option Nat} {X : List zShp} {M : zMem} {ix n : Nat} (hp : kPr E cat ν μ as M g X) (hX : X.length ≤ 22) (Lk : zLV R_law ix ν n) (hcl : ν.1.cls = "OthersHands") (hro : ν.2.2.2.2.1 + 1 ≤ 9 ∧ 8 + (ν.2.2.1 + 11) + ν.2.2.2.2.2 ≤ 318) (hn : as.length = n) (hdg : decode code pc = .ok (.invokevirtual ix, 3))
  (kk : ∀ w g2 X2 M1, w.category = cat → X2.length ≤ 22 → zEx μ 0 0 (.ref 35 :: as) (SHP g2 X2) M1 (fun v2 sh2 M2 => ∃ w2, some w2 = v2 ∧ SHP g2 X2 = sh2 ∧ kSt M2 g2 X2 ∧ E w w2) → zLT b L xs (pc + 3) i [w] (SHP g2 X2) M1) : zLT b L xs pc i (as.reverse ++ [.ref 0]) (SHP g X) M := by
  obtain ⟨kc, ks, h1, h2⟩ := hp
  have hlen := lw_len
  refine zl_call h2 h1.2 Lk (ci := 8) rfl (by rw [hcl]; rfl) hro hn (by decide) hdg ⟨by rw [hlen]; omega, ?_⟩ ?_ (by rw [hlen]; omega)
  · rintro v sh1 M1 ⟨g2, X2, w, rfl, h0, rfl, h3, h4⟩
    rw [hlen]; omega
  · rintro v sh1 M1 ⟨g2, X2, w, rfl, h0, rfl, h3, h4⟩
    exact kk w g2 X2 M1 h0 h3 h4
theorem zl_c2 {E : Value → Value → Prop} {μ : zMI} {as rest : List Value} {w : Value} {g : Nat → Option Nat} {X : List zShp} {M : zMem} {ix n : Nat} (hX : X.length ≤ 22) (h : zEx μ 0 0 (.ref 35 :: as) (SHP g X) M (fun v2 sh2 M2 => ∃ w2, some w2 = v2 ∧ SHP g X = sh2 ∧ kSt M2 g X ∧ E w w2)) (Lk : zLV R_law ix μ n) (hcl : μ.1.cls = "OthersHandsModel") (hro : μ.2.2.2.2.1 + 1 ≤ 9 ∧ 8 + (μ.2.2.1 + 11) + μ.2.2.2.2.2 ≤ 318) (hn : as.length = n) (hW : (rest.map fun v => v.category).sum ≤ 8) (hdg : decode code pc = .ok (.invokevirtual ix, 3))
  (kk : ∀ w2 M2, kSt M2 g X → E w w2 → zLT b L xs (pc + 3) i (w2 :: rest) (SHP g X) M2) : zLT b L xs pc i (as.reverse ++ .ref 35 :: rest) (SHP g X) M := by
  have hlen := lw_len
  refine zl_call h (Nat.zero_le _) Lk (ci := 9) rfl (by rw [hcl]; rfl) hro hn hW hdg ⟨by rw [hlen]; omega, ?_⟩ ?_ (by rw [hlen]; omega)
  · rintro v sh1 M1 ⟨w2, rfl, rfl, h3, h4⟩
    rw [hlen]; omega
  · rintro v sh1 M1 ⟨w2, rfl, rfl, h3, h4⟩
    exact kk w2 M1 h3 h4
end zLaw
theorem lw_31 (x : Int32) : ∃ k : Nat, k < 32 ∧ x &&& 31 = nI k := pk_andE x 5 rfl
theorem lv_lcmpE {p : Program} {l : Launch} {e : Env} {R : Room} {s : State} {m : MethodId} {args : Array Value} {below : List Frame} {meth : Method} {c : Code} {H : Heap} {locs : List Loc} {cells slots : Nat} {Q : State → Prop} {cc : ByteArray} {pc : Nat} {ls : Array Slot} {rest : List Value} (hexec : p.tables.exec = Jvm.exec) (hb : c.code = cc) {x : Int64} (hdg : decode cc pc = .ok (.lcmp, 1))
    (k : W p l e R s m args below meth c H locs cells slots Q (F0 m (pc + 1) ls (.int 0 :: rest))) : W p l e R s m args below meth c H locs cells slots Q (F0 m pc ls (.long x :: .long x :: rest)) := by
  intro T hT X
  obtain ⟨t, a, b⟩ := k T hT X
  refine ⟨t, ?_, b⟩
  jvm_step X.here [X.here.top, hexec, hb, hdg]
  exact a
theorem zl_leq {b L : Nat} {xs : Nat → Int32} {pc i : Nat} {st : List Value} {sh : List zShp} {M : zMem} {off : Int} {tgt : Nat} {r : Int64} (hd : decode code pc = .ok (.lcmp, 1)) (hd2 : decode code (pc + 1) = .ok (.ifCond .eq off, 3)) (ht : ((pc + 1 : Nat) : Int) + off = (tgt : Int)) (k : zLT b L xs tgt i st sh M) : zLT b L xs pc i (.long r :: .long r :: st) sh M := by
  intro p l e s m below meth c H locs cells slots D cy ls C N V hs hl
  refine lv_lcmpE C.1 C.2.1 hd ?_
  exact lv_if_eq C.1 C.2.1 hd2 ht (fun _ => k p l e s m below meth c H locs cells slots D cy ls C N V hs hl) (fun h => absurd rfl h)
