/-! the start -/
theorem nw_law_7 : zNW "OthersHandsLaw" 7 8 8 [some none, some none, some none, some none, some none, some none, some none, some none] := ⟨_, _, _, rfl, zi_O, zo_O, by decide +kernel, by decide +kernel, by decide +kernel, by decide, by decide⟩
theorem nw_law_10 : zNW "OthersHandsLaw" 10 9 22 [none, none, none, some none, none, some none, none, some none, some none, none, some none, some none, some none, some none, some none, some none, some none, some none, some none, some none, some none, some none] := ⟨_, _, _, rfl, zi_X, zo_X, by decide +kernel, by decide +kernel, by decide +kernel, by decide, by decide⟩
theorem lw_kn {s : State} {args : Array Value} (hts : ∀ w ∈ zgt, w.before args s = true) (c : Nat) : ∃ (cC : ClassId) (iS : Nat → Nat), ∀ q : vw_C, zCL[c]? = some q → u_Kn s q.1 q.2.1 q.2.2 cC iS := by
  match c with
  | 0 => obtain ⟨a, b, h⟩ := u_known (n := 3) hts zi_Bread (hts (.instantiable "OthersHands$Bread" 3) (by decide +kernel)); exact ⟨a, b, fun q hq => by cases hq; exact h⟩
  | 1 => obtain ⟨a, b, h⟩ := u_known (n := 4) hts zi_Filling (hts (.instantiable "OthersHands$Filling" 4) (by decide +kernel)); exact ⟨a, b, fun q hq => by cases hq; exact h⟩
  | 2 => obtain ⟨a, b, h⟩ := u_known (n := 3) hts zi_Matchmaker (hts (.instantiable "OthersHands$Matchmaker" 3) (by decide +kernel)); exact ⟨a, b, fun q hq => by cases hq; exact h⟩
  | 3 => obtain ⟨a, b, h⟩ := u_known (n := 2) hts zi_Pad (hts (.instantiable "OthersHands$Pad" 2) (by decide +kernel)); exact ⟨a, b, fun q hq => by cases hq; exact h⟩
  | 4 => obtain ⟨a, b, h⟩ := u_known (n := 6) hts zi_Pages (hts (.instantiable "OthersHands$Pages" 6) (by decide +kernel)); exact ⟨a, b, fun q hq => by cases hq; exact h⟩
  | 5 => obtain ⟨a, b, h⟩ := u_known (n := 3) hts zi_Reader (hts (.instantiable "OthersHands$Reader" 3) (by decide +kernel)); exact ⟨a, b, fun q hq => by cases hq; exact h⟩
  | 6 => obtain ⟨a, b, h⟩ := u_known (n := 1) hts zi_Shares (hts (.instantiable "OthersHands$Shares" 1) (by decide +kernel)); exact ⟨a, b, fun q hq => by cases hq; exact h⟩
  | 7 => obtain ⟨a, b, h⟩ := u_known (n := 9) hts zi_Town (hts (.instantiable "OthersHands$Town" 9) (by decide +kernel)); exact ⟨a, b, fun q hq => by cases hq; exact h⟩
  | 8 => obtain ⟨a, b, h⟩ := u_known (n := 8) hts zi_O (hts (.instantiable "OthersHands" 8) (by decide +kernel)); exact ⟨a, b, fun q hq => by cases hq; exact h⟩
  | 9 => obtain ⟨a, b, h⟩ := u_known (n := 22) hts zi_X (hts (.instantiable "OthersHandsModel" 22) (by decide +kernel)); exact ⟨a, b, fun q hq => by cases hq; exact h⟩
  | n + 10 => obtain ⟨a, b, h⟩ := u_known (n := 3) hts zi_Bread (hts (.instantiable "OthersHands$Bread" 3) (by decide +kernel)); exact ⟨a, b, fun q hq => by cases hq⟩
theorem lw_known {s : State} {args : Array Value} (hts : ∀ w ∈ zgt, w.before args s = true) (hAO : va_AO "OthersHands$Town" s) : ∃ (D : va_G) (cy : zCy), va_K D zCL (zTY cy) s := by
  have h1 := lw_kn hts
  obtain ⟨c1, k1, p1, a1, a2, a3⟩ := Cond.arrayClass_spec (hts (.arrayClass .int) (by decide +kernel))
  obtain ⟨c2, k2, p2, b1, b2, b3⟩ := Cond.arrayClass_spec (hts (.arrayClass .boolean) (by decide +kernel))
  obtain ⟨p3, c3, k3, d1, d2, d3, d4, d5⟩ := Cond.arrayOver_spec hAO
  refine ⟨(fun c => Classical.choose (h1 c), fun c => Classical.choose (Classical.choose_spec (h1 c))), (c1, c2, c3), fun c q hq => Classical.choose_spec (Classical.choose_spec (h1 c)) q hq, fun k q hk => ?_⟩
  match k with
  | 0 => cases hk; exact ⟨fun n z => ⟨fun k h => (by cases h), k1, a2, p1, a3⟩, a1⟩
  | 1 => cases hk; exact ⟨fun n z => ⟨fun k h => (by cases h), k2, b2, p2, b3⟩, b1⟩
  | 2 => cases hk; exact ⟨fun n z => ⟨fun k h => (by cases h), k3, d3, p3, d4⟩, k3, p3, d3, d4, d1, d5⟩
  | n + 3 => cases hk
section zLaw0
variable {b L : Nat} {xs : Nat → Int32} {N1 pc : Nat} {lv : Nat → List (Nat × Value)} {st : List Value} {sh : List zShp} {M : zMem}
theorem zl_new {ix ci N : Nat} {fs : List (Option (Option Nat))} (hd : decode code pc = .ok (.new ix, 3)) (F : zNW R_law ix ci N fs) (hN : N1 + N ≤ 7302250) (hsm : sh.length + 1 ≤ 600000) (k : zL0 b L xs (N1 + N) (pc + 3) lv (.ref sh.length :: st) (sh ++ [.inr (.inl (ci, fs))]) (zmr M sh.length (fun _ => 0))) : zL0 b L xs N1 pc lv st sh M := by
  intro p l e s m below meth c H locs cells slots D cy ls C N0 V hs hl
  obtain ⟨Cn, T, t, h1, h2, h3, h4, h5, h6, h7, h8⟩ := F
  have hts : ∀ w ∈ zgt, w.before #[Value.ref b] s = true := (lw_fix C).2.2.2.2
  have hKn := V.1.1 ci _ h1
  have hce : cells = sh.length := by
    have h1 := V.2.2.1
    have h2 := V.2.2.2.1
    omega
  refine W.newcK C.1 C.2.1 C.2.2.2.2.1 (hts _ h4) (hts _ h5) (hts _ h6) rfl hd (show cells + 1 ≤ 600000 by omega) (show slots + N ≤ 7302250 by omega) hKn.2.1 rfl fun H1 kC hkC e1 z1 o1 => ?_
  have hfs : fs.mapIdx (fun j x => zv s.heap.size (zfv (fun _ => 0) j x)) = fs.mapIdx (fun j x => zfv (fun _ => 0) j x) := by
    refine List.ext_getElem? fun j => ?_
    simp only [List.getElem?_mapIdx]
    cases hj : fs[j]? with
    | none => rfl
    | some x =>
      rcases h8 x (List.mem_of_getElem? hj) with rfl | rfl <;> rfl
  have hV := zWd_new V (.inr (.inl (ci, fs))) z1 o1 ⟨_, h1, by
    show t_OB H.size (D.1 ci) N (D.2 ci) H1 (vp_V (fs.mapIdx (fun j x => zv s.heap.size (zfv (fun _ => 0) j x))))
    rw [hfs]
    exact (u_born t hts h2 hKn hkC e1 h3).to h7⟩
  have k := k p l e s m below meth c H1 locs (cells + 1) (slots + N) D cy ls C N0 hV (by omega) hl
  rw [List.map_cons, show zv s.heap.size (.ref sh.length) = .ref (s.heap.size + sh.length) from rfl, ← V.2.2.1] at k
  exact k
theorem zl_dup {o : Nat} (hd : decode code pc = .ok (.dup, 1)) (k : zL0 b L xs N1 (pc + 1) lv (.ref o :: .ref o :: st) sh M) : zL0 b L xs N1 pc lv (.ref o :: st) sh M := by
  intro p l e s m below meth c H locs cells slots D cy ls C N0 V hs hl
  exact lv_dup C.1 C.2.1 hd rfl (k p l e s m below meth c H locs cells slots D cy ls C N0 V hs hl)
theorem zl_ini {ν : zMI} {kc ks o ix : Nat} {sh2 : List zShp} {M2 : zMem} (hE : zEx ν kc ks [.ref o] sh M (fun v sh1 M1 => none = v ∧ sh2 = sh1 ∧ M2 = M1)) (Lk : zLI R_law ix ν 0) (hro : ν.2.2.2.2.1 + 1 ≤ 9 ∧ 8 + (ν.2.2.1 + 11) + ν.2.2.2.2.2 ≤ 318) (hW : (st.map fun v => v.category).sum ≤ 8) (hdg : decode code pc = .ok (.invokespecial ix, 3)) (hN : N1 + ks ≤ 7302250) (hsm : sh.length + kc ≤ 600000) (k : zL0 b L xs (N1 + ks) (pc + 3) lv st sh2 M2) : zL0 b L xs N1 pc lv (.ref o :: st) sh M := by
  intro p l e s m below meth c H locs cells slots D cy ls C N0 V hs hl
  have hce : cells = sh.length := by
    have h1 := V.2.2.1
    have h2 := V.2.2.2.1
    omega
  have hWr : ((st.map (zv s.heap.size)).map fun v => v.category).sum ≤ 8 := by
    have : (st.map (zv s.heap.size)).map (fun v => v.category) = st.map (fun v => v.category) := by
      rw [List.map_map]
      exact List.map_congr_left (fun v _ => zv_cat _ v)
    rw [this]; exact hW
  refine zW_cont (zrun_I (as := []) (rest := st.map (zv s.heap.size)) (lw_fix C) N0 V hE Lk hro.1 hro.2 rfl hl.1 hWr hdg ⟨show cells + kc ≤ 600000 by omega, show slots + ks ≤ 7302250 by omega⟩) V (fun v sh1 M1 H1 locs1 hR V1 => ?_)
  obtain ⟨rfl, rfl, rfl⟩ := hR
  exact k p l e s m below meth c H1 locs1 (cells + kc) (slots + ks) D cy ls C N0 V1 (by omega) hl
end zLaw0
theorem lw_fresh (g : Nat → Option Nat) (hg : g = fun _ => none) (M : zMem) (hM : M 1 1 = 0 ∧ M 11 5 = 0 ∧ M 10 5 = 0 ∧ M 10 6 = 2 ∧ M 10 7 = 0 ∧ M 10 8 = 1 ∧ (∀ j, j < 6 → M 17 j = -6) ∧ (∀ j, j < 10 → M 18 j = 0) ∧ (∀ j, j < 6 → M 19 j = 0) ∧ (∀ j, j < 6 → M 20 j = 0)) (hX : M 35 4 = 0 ∧ M 35 6 = 0 ∧ M 35 9 = 0 ∧ M 35 0 = 2 ∧ M 35 1 = 0 ∧ M 35 2 = 1 ∧ (∀ j, j < 6 → M 36 j = -6) ∧ (∀ j, j < 10 → M 39 j = 0) ∧ (∀ j, j < 12 → M 40 j = 0) ∧ ∀ j, j < 2 → M 51 j = 0) : kOk 0 (fun _ => 0) (M 38, fun _ => 0, fun _ => 0, fun _ => -6, 0, 0, 2, 0, 1) (fun _ => none) M g [] := by
  subst hg
  obtain ⟨m1, m2, m3, m4, m5, m6, m7, m8, m9, m10⟩ := hM
  obtain ⟨x1, x2, x3, x4, x5, x6, x7, x8, x9, x10⟩ := hX
  refine ⟨by decide, fun j h => absurd h (Nat.not_lt_zero j), ⟨⟨rfl, Nat.le_of_ble_eq_true rfl⟩, ⟨rfl, Nat.le_of_ble_eq_true rfl⟩, ⟨2, by decide, rfl⟩, Or.inl rfl, ⟨1, by decide, rfl⟩, fun j _ => Or.inl rfl, fun j _ => ⟨0, by decide, rfl⟩, fun i h => absurd h (Nat.not_lt_zero i), fun k h => absurd h (Nat.not_lt_zero k), Nat.zero_le _⟩, ⟨m1, fun j h => absurd h (Nat.not_lt_zero j), ⟨m2, m3, m4, m5, m6, m7, m8, fun i hi => ⟨m9 i hi, m10 i hi⟩, fun k h => absurd h (Nat.not_lt_zero k)⟩, Or.inl ⟨rfl, rfl, rfl, rfl, rfl⟩⟩, ⟨x1, fun j h => absurd h (Nat.not_lt_zero j), ⟨fun k _ => rfl, x8, x9, x7, x2, x3, x4, x5, x6⟩, fun i hi => Or.inl ⟨rfl, x10 i hi⟩⟩⟩
theorem zL0_w {b L : Nat} {xs : Nat → Int32} {N1 N2 pc : Nat} {lv : Nat → List (Nat × Value)} {st : List Value} {sh : List zShp} {M : zMem} (h : N1 ≤ N2) (k : zL0 b L xs N2 pc lv st sh M) : zL0 b L xs N1 pc lv st sh M := by
  intro p l e s m below meth c H locs cells slots D cy ls C N0 V hs hl
  exact k p l e s m below meth c H locs cells slots D cy ls C N0 V (Nat.le_trans hs h) hl
theorem zl_s1 {b L : Nat} {xs : Nat → Int32} {N1 pc o : Nat} {st : List Value} {sh : List zShp} {M : zMem} (hd : decode code pc = .ok (.astore_n 1, 1)) (k : zL0 b L xs N1 (pc + 1) (fun B => [(1, .ref (B + o))]) st sh M) : zL0 b L xs N1 pc (fun _ => []) (.ref o :: st) sh M := by
  intro p l e s m below meth c H locs cells slots D cy ls C N0 V hs hl
  refine lv_astore_n (i := 1) C.1 C.2.1 hd rfl hl (by decide) rfl (fun ls2 hl2 => ?_)
  exact k p l e s m below meth c H locs cells slots D cy ls2 C N0 V hs ⟨hl2.1, hl2.2.1, fun q hq => hl2.2.2 q (by
    simp only [List.mem_cons, List.not_mem_nil, or_false] at hq
    rcases hq with rfl | rfl
    · exact List.mem_of_getElem? (i := 1) rfl
    · exact List.mem_of_getElem? (i := 0) rfl)⟩
theorem zl_s2 {b L : Nat} {xs : Nat → Int32} {N1 pc o o1 : Nat} {st : List Value} {sh : List zShp} {M : zMem} (hd : decode code pc = .ok (.astore_n 2, 1)) (h1 : decode code (pc + 1) = .ok (.iconst 0, 1)) (h2 : decode code (pc + 2) = .ok (.istore_n 3, 1)) (k : zL0 b L xs N1 (pc + 3) (fun B => [(1, .ref (B + o1)), (2, .ref (B + o)), (3, .int (nI 0))]) st sh M) : zL0 b L xs N1 pc (fun B => [(1, .ref (B + o1))]) (.ref o :: st) sh M := by
  intro p l e s m below meth c H locs cells slots D cy ls C N0 V hs hl
  refine lv_astore_n (i := 2) C.1 C.2.1 hd rfl hl (by decide) rfl (fun ls2 hl2 => ?_)
  refine lv_iconst (v := nI 0) C.1 C.2.1 h1 rfl ?_
  refine lv_istore_n (i := 3) C.1 C.2.1 h2 rfl hl2 (by decide) rfl (fun ls3 hl3 => ?_)
  exact k p l e s m below meth c H locs cells slots D cy ls3 C N0 V hs ⟨hl3.1, hl3.2.1, fun q hq => hl3.2.2 q (by
    simp only [List.mem_cons, List.not_mem_nil, or_false] at hq
    rcases hq with rfl | rfl | rfl | rfl
    · exact List.mem_of_getElem? (i := 2) rfl
    · exact List.mem_of_getElem? (i := 3) rfl
    · exact List.mem_of_getElem? (i := 1) rfl
    · exact List.mem_of_getElem? (i := 0) rfl)⟩
set_option maxHeartbeats 4000000 in
set_option maxRecDepth 100000 in
theorem lw_open {b L : Nat} {xs : Nat → Int32} (k : ∀ M, kSt M (fun _ => none) [] → zLT b L xs 18 0 [] (SHP (fun _ => none) []) M) : zL0 b L xs 0 0 (fun _ => []) [] [] (fun _ _ => 0) := by
  refine zl_new dl_0 nw_law_7 (by decide) (by decide) ?_
  refine zl_dup dl_3 ?_
  refine zl_ini (ex_O_init _ _ 0 rfl) ll_9 ⟨by decide, by decide⟩ (by decide) dl_4 (by decide) (Nat.le_of_ble_eq_true rfl) ?_
  refine zl_s1 dl_7 ?_
  refine zl_new dl_8 nw_law_10 (by decide) (Nat.le_of_ble_eq_true rfl) ?_
  refine zl_dup dl_11 ?_
  refine zl_ini (ex_X_init _ _ 35 rfl) ll_12 ⟨by decide, by decide⟩ (by decide) dl_12 (by decide) (Nat.le_of_ble_eq_true rfl) ?_
  refine zl_s2 dl_15 dl_16 dl_17 ?_
  refine zL0_w (N2 := 751 + 9 * ((SHP (fun _ => none) []).length - 52)) (Nat.le_of_ble_eq_true rfl) ?_
  refine k _ ⟨_, _, _, _, lw_fresh _ rfl _ ?_ ?_⟩
  · decide
  · decide
theorem lw_begin {p : Program} {e : Env} {s : State} {m : MethodId} {below : List Frame} {meth : Method} {c : Code} (l : Launch) {b L : Nat} {xs : Nat → Int32} (hL : L ≤ 2048) (C0 : lw_At p s m meth c b L xs) : W p l e room_1 s m #[Value.ref b] below meth c s.heap [] 0 0 (lw_Z below #[Value.ref b] s) (entryFrame m ([Value.ref b] : List Value).toArray 4) := by
  have hts : ∀ w ∈ zgt, w.before #[Value.ref b] s = true := (lw_fix C0).2.2.2.2
  have N : zNx s := by
    refine ⟨fun w hw => ?_, va_AO.of (C0.2.2.2.2.2.1 (.arrayOver (.object "OthersHands$Town")) (by decide +kernel))⟩
    have h1 := C0.2.2.2.2.2.1 w (List.mem_filter.mp hw).1
    have h2 : zisN w = true := (List.mem_filter.mp hw).2
    cases w <;> first | exact va_Nw.of rfl h1 | (simp [zisN] at h2)
  obtain ⟨D, cy, hK⟩ := lw_known hts N.2
  have hl := lv_entry [Value.ref b] (n := 4) (by simp [lg_sl, Value.category])
  rw [lg_entry_eq]
  generalize (lg_sl [Value.ref b] ++ List.replicate (4 - (lg_sl [Value.ref b]).length) Slot.unset).toArray = ls at hl ⊢
  exact lw_open (fun M hs => lw_loop hL L 0 M (fun _ => none) [] (Nat.zero_le _) (by omega) hs) p l e s m below meth c s.heap [] 0 0 D cy ls C0 N ⟨hK, fun k q hq => by simp [zw] at hq, rfl, rfl, va_S.rf, Nat.le_refl _⟩ (Nat.le_refl _) hl
/-- YOUR PART: from the entry, for every script of at most 2048 ints, the law comes to its end with true -/
theorem whole_start {p : Program} {e : Env} {s : State} {m : MethodId} {below : List Frame} {meth : Method} {c : Code} (l : Launch) {b L : Nat} {xs : Nat → Int32} (hL : L ≤ 2048) (C0 : lw_At p s m meth c b L xs) : W p l e room_1 s m #[Value.ref b] below meth c s.heap [] 0 0 (lw_Z below #[Value.ref b] s) (entryFrame m ([Value.ref b] : List Value).toArray 4) := by
  exact lw_begin l (by omega) C0
set_option maxHeartbeats 4000000 in
theorem lw_walk (l : Launch) (b : Addr) (xs : List Int32) : MetFree l x (headSpec (Jvm.Cond.code x code maxLocals ret :: tables_1) room_1) (lw_P b xs) (fun _ _ _ _ _ => True) lw_Q := by
  refine MetFree.of_bodyS (code := code) (maxLocals := maxLocals) (ret := ret) (by decide) ?_ ?_
  · intro args s m h hn
    obtain ⟨meth, c, h1, h2, h3, h4, h5, h6, -, -⟩ := Cond.code_spec hn (atoms_spec (ws := Jvm.Cond.code x code maxLocals ret :: tables_1) h _ List.mem_cons_self)
    exact ⟨meth, c, h1, h2, h3, h4, h5, h6⟩
  · intro p e s m args below meth c s₁ B hml0 hP _
    obtain ⟨rfl, hx, hbd, hgv⟩ := hP
    obtain ⟨scr, harrAt, hlist, hof, hsmall⟩ := hx
    obtain ⟨hcb, hkn, -, -⟩ := State.arrayAt?_spec harrAt
    have hown : s.vm.findClass R_law = some m.cls := findClass_of_methodNamed B.named
    have hts0 : ∀ c ∈ (Jvm.Cond.code x code maxLocals ret :: tables_1), c.before #[Value.ref b] s = true := atoms_spec (ws := Jvm.Cond.code x code maxLocals ret :: tables_1) B.pre
    have hts : ∀ w ∈ lw_tbl, w.before #[Value.ref b] s = true := k2_hts_sels lw_privs (fun w hw => hts0 w (List.mem_cons_of_mem _ hw)) lw_privs_ok
    have hml : c.maxLocals = 4 := B.maxLocals_eq (hts0 _ List.mem_cons_self)
    have X₀ : Stand p l e room_1 s m #[Value.ref b] below meth c s₁ [] 0 0 := Stand.of_body B
    have hh0 : s₁.heap = s.heap := by rw [B.state]; rfl
    have hsz : scr.slots.size = xs.length := by rw [← Array.length_toList, hlist, List.length_map]
    have hval : ∀ j : Nat, j < xs.length → scr.slots[j]? = some (.int (xs.getD j 0)) := fun j hj => by
      rw [← Array.getElem?_toList, hlist]
      simp [hj]
    have hbl : b < s.heap.size := (Array.getElem?_eq_some_iff.mp hcb).1
    have hX : va_X b xs.length (fun j => xs.getD j 0) s s.heap := ⟨scr, hcb, hof, hkn, hsz, hval⟩
    have K : W p l e room_1 s m #[Value.ref b] below meth c s₁.heap [] 0 0 (lw_Z below #[Value.ref b] s) (entryFrame m ([Value.ref b] : List Value).toArray 4) := by
      rw [hh0]
      exact whole_start l hbd ⟨B.exec, B.bytes, B.returns, hml, hown, hts, hX, hbl, B.notSynchronized, hgv⟩
    obtain ⟨t, a1, o, b1, b2, b3⟩ := K s₁ rfl X₀
    exact ⟨t, o, a1, b1, b2, b3⟩
theorem lw_pre_spec {args : Array Value} {s : State} (h : (Jvm.Cond.and given_1 narrow_1).before args s = true) (hr : rest_1_c.before args s = true) : ∃ (b : Addr) (xs : List Int32), lw_P b xs args s := by
  have hs := flat_of_before _ h
  have hq := flat_of_before _ hr
  have hc : (Cond.count 1).before args s = true := hs _ (by decide +kernel)
  have harr : (Cond.arrayOf (.arg 0) .int).before args s = true := hs _ (by decide +kernel)
  have hle : (Cond.le (.length (.arg 0)) (.int 2048)).before args s = true := hs _ (by decide +kernel)
  have hlen : (Cond.isInt (.length (.arg 0))).before args s = true := hq _ (by decide +kernel)
  have hall : (Cond.all (.arg 0) (.isInt (.elem (.arg 0) (.index 0)))).before args s = true := hq _ (by decide +kernel)
  obtain ⟨b, xs, hb, hx⟩ := State.ints_of_pre rfl harr hlen hall
  have hsm : xs.length < 2 ^ 31 := hx.choose_spec.2.2.2
  have hev : (Term.length (.arg 0)).eval args s none [] s = some (.int xs.length.toInt32) := hx.length_eval hb
  have hv := Cond.le_ints hev (show (Term.int 2048).eval args s none [] s = some (.int 2048) from rfl)
  have hd : xs.length.toInt32 ≤ 2048 := by
    simpa [Cond.before, Cond.holds, hv] using hle
  have hN : xs.length ≤ 2048 := (Int32.ofNat_le_ofNat hsm (by decide)).mp (show Int32.ofNat xs.length ≤ Int32.ofNat 2048 from hd)
  exact ⟨b, xs, Cond.one_arg hc (show args[0]? = some (.ref b) from hb), hx, hN, h⟩
theorem lw_comes (l : Launch) : Comes l x (Jvm.Cond.code x code maxLocals ret :: tables_1) room_1 (fun tb e args s => Calls_1 tb e args s ∧ rest_1 tb e args s ∧ Pre_1 tb e args s)
    (fun _ _ args s o t => lw_Q args s o t) := by
  intro p e ha hc hk s m args below hf hfit hheap happ hpre
  obtain ⟨b, xs, hP⟩ := lw_pre_spec hpre.2.2 hpre.2.1
  obtain ⟨k, o, h1, h2, h3, hQ⟩ := lw_walk l b xs p e ha hc hk s m args below hf ((Spec.applies_iff_loose hf).mp happ).1 hP trivial
  exact ⟨k, o, h1, h2, h3, hQ⟩
theorem lw_frame {s t : State} {o : Outcome} {args : Array Value} (h : Framed s o t [] 600000 7302250) :
    Framed s o t (fieldLocs frame_1_writes args s ++ arrayLocs frame_1_arrays args s ++ staticLocs frame_1_statics s) 600000 7302250 := h
theorem lw_limb (L : Cond) (hL : ∀ (args : Array Value) (s t : State), L.after args s (.returned (some (.int 1))) t = true) :
    ArmFor flags0 classFile x code maxLocals ret World_1 tables_1 room_1 Calls_1 rest_1 Pre_1
      (fun tb e a s o t => postC L tb e a s o t ∧ Framed s o t (fieldLocs frame_1_writes a s ++ arrayLocs frame_1_arrays a s ++ staticLocs frame_1_statics s) 600000 7302250) := by
  intro l _ _ _ p e ha hc hk s m args below hf hfit hheap happ hpre
  obtain ⟨k, o, h1, h2, h3, rfl, hF⟩ := lw_comes l p e ha hc hk s m args below hf hfit hheap happ hpre
  exact ⟨k, _, h1, h2, h3, hL args s _, lw_frame hF⟩
theorem i_vc : Claimed_1_1 ∧ Claimed_1_2 := ⟨lw_limb limb_1_1 (fun args s t => by simp [limb_1_1, Cond.after, Cond.holds, Cond.value]), lw_limb limb_1_2 (fun args s t => Cond.after_iff.mpr (by
  first | (rw [show limb_1_2 = Cond.eq .result (.int 1) from rfl, Cond.eq_ints (x := 1) (y := 1) rfl rfl]; simp; done) | (simp [limb_1_2, Cond.value, Term.eval]; done)))⟩
