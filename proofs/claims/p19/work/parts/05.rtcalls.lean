theorem zst_sum (B : Nat) (st : List Value) : ((st.map (zv B)).map fun v => v.category).sum = (st.map fun v => v.category).sum := by simp [Function.comp_def, zv_cat]
theorem zCx_fix {μ : zMI} {p : Program} {Rm : Room} {s : State} {m : MethodId} {args : Array Value} {meth : Method} {c : Code} (C : zCx μ p Rm s m args meth c) : CallFix p m c μ.2.1 μ.2.2.1 s args zgt μ.1.cls := ⟨C.1, C.2.1, C.2.2.2.1, C.2.2.2.2.1, C.2.2.2.2.2.1⟩
theorem zCx_N {μ : zMI} {p : Program} {Rm : Room} {s : State} {m : MethodId} {args : Array Value} {meth : Method} {c : Code} (C : zCx μ p Rm s m args meth c) : zNx s := C.2.2.2.2.2.2.2.2.2.2
theorem zCx_fr {μ ν : zMI} {p : Program} {Rm : Room} {s : State} {m : MethodId} {args : Array Value} {meth : Method} {c : Code} (C : zCx μ p Rm s m args meth c) (h : zRo μ ν) : ν.2.2.2.2.1 + 1 ≤ Rm.frames := Nat.le_trans h.1 C.2.2.2.2.2.2.2.2.1
theorem zCx_lo {μ ν : zMI} {p : Program} {Rm : Room} {s : State} {m : MethodId} {args : Array Value} {meth : Method} {c : Code} (C : zCx μ p Rm s m args meth c) (h : zRo μ ν) : 8 + (ν.2.2.1 + 11) + ν.2.2.2.2.2 ≤ Rm.locals := Nat.le_trans h.2 C.2.2.2.2.2.2.2.2.2.1
theorem zs_callV {μ : zMI} {kc ks pc : Nat} {lv : List (Nat × Value)} {st : List Value} {sh : List zShp} {M : zMem} {R : zEnd}  {ν : zMI} {R0 : zEnd} {ix n kc1 ks1 : Nat} (as : List Value) {o : Nat} {ci : Nat} {fs : List (Option (Option Nat))} {T : u_T} {N : Nat} (hd : decode μ.2.1 pc = .ok (.invokevirtual ix, 3)) (L : zLV μ.1.cls ix ν n) (hr : zRo μ ν) (hn : as.length = n) (ho : sh[o]? = some (.inr (.inl (ci, fs)))) (hci : zCL[ci]? = some (ν.1.cls, T, N)) (hW : (st.map fun v => v.category).sum ≤ 8) (hE : zEx ν kc1 ks1 (.ref o :: as) sh M R0) (kk : ∀ (v : Option Value) (sh1 : List zShp) (M1 : zMem), R0 v sh1 M1 → zRT μ kc ks (pc + 3) lv (v.toList ++ st) sh1 M1 R) : zRT μ (kc1 + kc) (ks1 + ks) pc lv (as.reverse ++ .ref o :: st) sh M R := by
  intro p l e Rm s m args below meth c H locs cells slots D cy B ls C V hc hs hl
  rw [List.map_append, List.map_reverse, List.map_cons]
  refine zW_cont (zrun_V (zCx_fix C) (zCx_N C) V hE L ho hci (zCx_fr C hr) (zCx_lo C hr) hn hl.1 (by rw [zst_sum]; exact hW) hd ⟨by omega, by omega⟩) V (fun v sh1 M1 H1 locs1 hR V1 => ?_)
  have k := kk v sh1 M1 hR p l e Rm s m args below meth c H1 locs1 (cells + kc1) (slots + ks1) D cy B ls C V1 (by omega) (by omega) hl
  rw [List.map_append] at k
  cases v <;> exact k
theorem zs_callVN {μ : zMI} {kc ks pc : Nat} {lv : List (Nat × Value)} {st : List Value} {sh : List zShp} {M : zMem} {R : zEnd} {host : String} {ν : zMI} {R0 : zEnd} {ix n kc1 ks1 : Nat} (as : List Value) {o : Nat} {ci : Nat} {fs : List (Option (Option Nat))} {T : u_T} {N : Nat} (hd : decode μ.2.1 pc = .ok (.invokevirtual ix, 3)) (L : zLVN μ.1.cls host ix ν n) (hr : zRo μ ν) (hn : as.length = n) (ho : sh[o]? = some (.inr (.inl (ci, fs)))) (hci : zCL[ci]? = some (ν.1.cls, T, N)) (hW : (st.map fun v => v.category).sum ≤ 8) (hE : zEx ν kc1 ks1 (.ref o :: as) sh M R0) (kk : ∀ (v : Option Value) (sh1 : List zShp) (M1 : zMem), R0 v sh1 M1 → zRT μ kc ks (pc + 3) lv (v.toList ++ st) sh1 M1 R) : zRT μ (kc1 + kc) (ks1 + ks) pc lv (as.reverse ++ .ref o :: st) sh M R := by
  intro p l e Rm s m args below meth c H locs cells slots D cy B ls C V hc hs hl
  rw [List.map_append, List.map_reverse, List.map_cons]
  refine zW_cont (zrun_VN (zCx_fix C) (zCx_N C) V hE L ho hci (zCx_fr C hr) (zCx_lo C hr) hn hl.1 (by rw [zst_sum]; exact hW) hd ⟨by omega, by omega⟩) V (fun v sh1 M1 H1 locs1 hR V1 => ?_)
  have k := kk v sh1 M1 hR p l e Rm s m args below meth c H1 locs1 (cells + kc1) (slots + ks1) D cy B ls C V1 (by omega) (by omega) hl
  rw [List.map_append] at k
  cases v <;> exact k
theorem zs_callS {μ : zMI} {kc ks pc : Nat} {lv : List (Nat × Value)} {st : List Value} {sh : List zShp} {M : zMem} {R : zEnd}  {ν : zMI} {R0 : zEnd} {ix n kc1 ks1 : Nat} (as : List Value) (hd : decode μ.2.1 pc = .ok (.invokestatic ix, 3)) (L : zLS μ.1.cls ix ν n) (hr : zRo μ ν) (hn : as.length = n) (hW : (st.map fun v => v.category).sum ≤ 8) (hE : zEx ν kc1 ks1 (as) sh M R0) (kk : ∀ (v : Option Value) (sh1 : List zShp) (M1 : zMem), R0 v sh1 M1 → zRT μ kc ks (pc + 3) lv (v.toList ++ st) sh1 M1 R) : zRT μ (kc1 + kc) (ks1 + ks) pc lv (as.reverse ++ st) sh M R := by
  intro p l e Rm s m args below meth c H locs cells slots D cy B ls C V hc hs hl
  rw [List.map_append, List.map_reverse]
  refine zW_cont (zrun_S (zCx_fix C) (zCx_N C) V hE L (zCx_fr C hr) (zCx_lo C hr) hn hl.1 (by rw [zst_sum]; exact hW) hd ⟨by omega, by omega⟩) V (fun v sh1 M1 H1 locs1 hR V1 => ?_)
  have k := kk v sh1 M1 hR p l e Rm s m args below meth c H1 locs1 (cells + kc1) (slots + ks1) D cy B ls C V1 (by omega) (by omega) hl
  rw [List.map_append] at k
  cases v <;> exact k
theorem zs_callSN {μ : zMI} {kc ks pc : Nat} {lv : List (Nat × Value)} {st : List Value} {sh : List zShp} {M : zMem} {R : zEnd} {host : String} {ν : zMI} {R0 : zEnd} {ix n kc1 ks1 : Nat} (as : List Value) (hd : decode μ.2.1 pc = .ok (.invokestatic ix, 3)) (L : zLSN μ.1.cls host ix ν n) (hr : zRo μ ν) (hn : as.length = n) (hW : (st.map fun v => v.category).sum ≤ 8) (hE : zEx ν kc1 ks1 (as) sh M R0) (kk : ∀ (v : Option Value) (sh1 : List zShp) (M1 : zMem), R0 v sh1 M1 → zRT μ kc ks (pc + 3) lv (v.toList ++ st) sh1 M1 R) : zRT μ (kc1 + kc) (ks1 + ks) pc lv (as.reverse ++ st) sh M R := by
  intro p l e Rm s m args below meth c H locs cells slots D cy B ls C V hc hs hl
  rw [List.map_append, List.map_reverse]
  refine zW_cont (zrun_SN (zCx_fix C) (zCx_N C) V hE L (zCx_fr C hr) (zCx_lo C hr) hn hl.1 (by rw [zst_sum]; exact hW) hd ⟨by omega, by omega⟩) V (fun v sh1 M1 H1 locs1 hR V1 => ?_)
  have k := kk v sh1 M1 hR p l e Rm s m args below meth c H1 locs1 (cells + kc1) (slots + ks1) D cy B ls C V1 (by omega) (by omega) hl
  rw [List.map_append] at k
  cases v <;> exact k
theorem zs_callI {μ : zMI} {kc ks pc : Nat} {lv : List (Nat × Value)} {st : List Value} {sh : List zShp} {M : zMem} {R : zEnd}  {ν : zMI} {R0 : zEnd} {ix n kc1 ks1 : Nat} (as : List Value) {o : Nat} (hd : decode μ.2.1 pc = .ok (.invokespecial ix, 3)) (L : zLI μ.1.cls ix ν n) (hr : zRo μ ν) (hn : as.length = n) (hW : (st.map fun v => v.category).sum ≤ 8) (hE : zEx ν kc1 ks1 (.ref o :: as) sh M R0) (kk : ∀ (v : Option Value) (sh1 : List zShp) (M1 : zMem), R0 v sh1 M1 → zRT μ kc ks (pc + 3) lv (v.toList ++ st) sh1 M1 R) : zRT μ (kc1 + kc) (ks1 + ks) pc lv (as.reverse ++ .ref o :: st) sh M R := by
  intro p l e Rm s m args below meth c H locs cells slots D cy B ls C V hc hs hl
  rw [List.map_append, List.map_reverse, List.map_cons]
  refine zW_cont (zrun_I (zCx_fix C) (zCx_N C) V hE L (zCx_fr C hr) (zCx_lo C hr) hn hl.1 (by rw [zst_sum]; exact hW) hd ⟨by omega, by omega⟩) V (fun v sh1 M1 H1 locs1 hR V1 => ?_)
  have k := kk v sh1 M1 hR p l e Rm s m args below meth c H1 locs1 (cells + kc1) (slots + ks1) D cy B ls C V1 (by omega) (by omega) hl
  rw [List.map_append] at k
  cases v <;> exact k
theorem zs_callIN {μ : zMI} {kc ks pc : Nat} {lv : List (Nat × Value)} {st : List Value} {sh : List zShp} {M : zMem} {R : zEnd} {host : String} {ν : zMI} {R0 : zEnd} {ix n kc1 ks1 : Nat} (as : List Value) {o : Nat} (hd : decode μ.2.1 pc = .ok (.invokespecial ix, 3)) (L : zLIN μ.1.cls host ix ν n) (hr : zRo μ ν) (hn : as.length = n) (hW : (st.map fun v => v.category).sum ≤ 8) (hE : zEx ν kc1 ks1 (.ref o :: as) sh M R0) (kk : ∀ (v : Option Value) (sh1 : List zShp) (M1 : zMem), R0 v sh1 M1 → zRT μ kc ks (pc + 3) lv (v.toList ++ st) sh1 M1 R) : zRT μ (kc1 + kc) (ks1 + ks) pc lv (as.reverse ++ .ref o :: st) sh M R := by
  intro p l e Rm s m args below meth c H locs cells slots D cy B ls C V hc hs hl
  rw [List.map_append, List.map_reverse, List.map_cons]
  refine zW_cont (zrun_IN (zCx_fix C) (zCx_N C) V hE L (zCx_fr C hr) (zCx_lo C hr) hn hl.1 (by rw [zst_sum]; exact hW) hd ⟨by omega, by omega⟩) V (fun v sh1 M1 H1 locs1 hR V1 => ?_)
  have k := kk v sh1 M1 hR p l e Rm s m args below meth c H1 locs1 (cells + kc1) (slots + ks1) D cy B ls C V1 (by omega) (by omega) hl
  rw [List.map_append] at k
  cases v <;> exact k
theorem zs_iret {μ : zMI} {ks pc : Nat} {lv : List (Nat × Value)} {sh : List zShp} {M : zMem} {R : zEnd} {v : Int32} (hd : decode μ.2.1 pc = .ok (.ireturn, 1)) (hret : μ.2.2.2.1 = some .int) (hR : R (some (.int v)) sh M) : zRT μ 0 ks pc lv [.int v] sh M R := by
  intro p l e Rm s m args below meth c H locs cells slots D cy B ls C V hc hs hl
  refine W.widen (k := Rm.cells) (n := Rm.slots) (by omega) (by omega) ?_
  exact W.iret C.1 C.2.1 (C.2.2.1.trans hret) (fun t ht hW => ⟨⟨some (.int v), sh, M, rfl, hR, va_K.moved hW.alike V.1, by rw [ht]; exact V.2.1, by rw [ht]; exact V.2.2.1⟩, V.2.2.2.2.1.F ht, by rw [ht]; have := V.2.2.2.1; omega⟩) V.2.2.2.2.1.2.2 hd C.2.2.2.2.2.2.1
theorem zs_lret {μ : zMI} {ks pc : Nat} {lv : List (Nat × Value)} {sh : List zShp} {M : zMem} {R : zEnd} {v : Int64} (hd : decode μ.2.1 pc = .ok (.lreturn, 1)) (hret : μ.2.2.2.1 = some .long) (hR : R (some (.long v)) sh M) : zRT μ 0 ks pc lv [.long v] sh M R := by
  intro p l e Rm s m args below meth c H locs cells slots D cy B ls C V hc hs hl
  refine W.widen (k := Rm.cells) (n := Rm.slots) (by omega) (by omega) ?_
  exact W.lret C.1 C.2.1 (C.2.2.1.trans hret) (fun t ht hW => ⟨⟨some (.long v), sh, M, rfl, hR, va_K.moved hW.alike V.1, by rw [ht]; exact V.2.1, by rw [ht]; exact V.2.2.1⟩, V.2.2.2.2.1.F ht, by rw [ht]; have := V.2.2.2.1; omega⟩) V.2.2.2.2.1.2.2 hd C.2.2.2.2.2.2.1
theorem zs_vret {μ : zMI} {ks pc : Nat} {lv : List (Nat × Value)} {sh : List zShp} {M : zMem} {R : zEnd} (hd : decode μ.2.1 pc = .ok (.return_, 1)) (hret : μ.2.2.2.1 = none) (hR : R (none) sh M) : zRT μ 0 ks pc lv [] sh M R := by
  intro p l e Rm s m args below meth c H locs cells slots D cy B ls C V hc hs hl
  refine W.widen (k := Rm.cells) (n := Rm.slots) (by omega) (by omega) ?_
  exact W.vret C.1 C.2.1 (C.2.2.1.trans hret) (fun t ht hW => ⟨⟨none, sh, M, rfl, hR, va_K.moved hW.alike V.1, by rw [ht]; exact V.2.1, by rw [ht]; exact V.2.2.1⟩, V.2.2.2.2.1.F ht, by rw [ht]; have := V.2.2.2.1; omega⟩) V.2.2.2.2.1.2.2 hd C.2.2.2.2.2.2.1
theorem zs_zret {μ : zMI} {ks pc : Nat} {lv : List (Nat × Value)} {sh : List zShp} {M : zMem} {R : zEnd} {v : Int32} (hn : narrow .boolean (.int v) = .int v) (hd : decode μ.2.1 pc = .ok (.ireturn, 1)) (hret : μ.2.2.2.1 = some .boolean) (hR : R (some (.int v)) sh M) : zRT μ 0 ks pc lv [.int v] sh M R := by
  intro p l e Rm s m args below meth c H locs cells slots D cy B ls C V hc hs hl
  refine W.widen (k := Rm.cells) (n := Rm.slots) (by omega) (by omega) ?_
  exact W.zret C.1 C.2.1 (C.2.2.1.trans hret) hn (fun t ht hW => ⟨⟨some (.int v), sh, M, rfl, hR, va_K.moved hW.alike V.1, by rw [ht]; exact V.2.1, by rw [ht]; exact V.2.2.1⟩, V.2.2.2.2.1.F ht, by rw [ht]; have := V.2.2.2.1; omega⟩) V.2.2.2.2.1.2.2 hd C.2.2.2.2.2.2.1
theorem zEx_of {μ : zMI} {kc ks : Nat} {as : List Value} {sh : List zShp} {M : zMem} {R : zEnd} (lv : List (Nat × Value)) (hy : plainName μ.1.cls = true) (hcat : ∀ v ∈ as, v.category = 1) (hlen : as.length ≤ μ.2.2.1) (hlv : lv_args 0 as = lv) (k : zRT μ kc ks 0 lv [] sh M R) : zEx μ kc ks as sh M R := by
  intro l D cy B
  refine Met.ofW (cc := μ.2.1) (maxL := μ.2.2.1) (ret := μ.2.2.2.1) hy rfl ?_
  intro p e s m args below meth c s₁ Bd hml hv
  obtain ⟨rfl, hK, hP, hz, hN⟩ := hv
  have hts := atoms_spec (ws := zws μ) Bd.pre
  have hcat2 : ∀ v ∈ as.map (zv B), v.category = 1 := fun v hv => by
    obtain ⟨w, hw, rfl⟩ := List.mem_map.mp hv
    rw [zv_cat]; exact hcat w hw
  have hsl : ∀ vs : List Value, (∀ v ∈ vs, v.category = 1) → (lg_sl vs).length = vs.length := by
    intro vs
    induction vs with
    | nil => intro _; rfl
    | cons v vs ih =>
      intro h
      have h1 := h v List.mem_cons_self
      have h2 := ih (fun w hw => h w (List.mem_cons_of_mem _ hw))
      simp only [lg_sl, List.flatMap_cons, h1, List.length_append] at h2 ⊢
      simp at h2 ⊢
      omega
  have hargs : ∀ (vs : List Value) (i : Nat), lv_args i (vs.map (zv B)) = (lv_args i vs).map (fun q => (q.1, zv B q.2)) := by
    intro vs
    induction vs with
    | nil => intro i; rfl
    | cons v vs ih =>
      intro i
      simp only [List.map_cons, lv_args, zv_cat, ih]
  have hl := lv_entry (as.map (zv B)) (n := μ.2.2.1) (by rw [hsl _ hcat2, List.length_map]; exact hlen)
  rw [lg_entry_eq]
  generalize (lg_sl (as.map (zv B)) ++ List.replicate (μ.2.2.1 - (lg_sl (as.map (zv B))).length) Slot.unset).toArray = ls at hl ⊢
  rw [hargs, hlv] at hl
  exact k p l e _ s m _ below meth c s.heap [] 0 0 D cy B ls ⟨Bd.exec, Bd.bytes, Bd.returns, hml, findClass_of_methodNamed Bd.named, fun w hw => hts w (List.mem_cons_of_mem _ hw), Bd.notSynchronized, (name_of_methodNamed Bd.named Bd.method).1, Nat.le_refl _, Nat.le_refl _, hN⟩ ⟨hK, hP, hz, rfl, va_S.rf, by omega⟩ (Nat.zero_add _) (Nat.le_of_eq (Nat.zero_add _)) hl
theorem zEx_mono {μ : zMI} {kc ks : Nat} {as : List Value} {sh : List zShp} {M : zMem} {R R2 : zEnd} (h : zEx μ kc ks as sh M R) (hR : ∀ v sh1 M1, R v sh1 M1 → R2 v sh1 M1) : zEx μ kc ks as sh M R2 := by
  intro l D cy B
  intro p e a1 a2 a3 s m args below a4 a5 a6 a7
  obtain ⟨k, o, b1, b2, b3, ⟨⟨v, sh1, M1, h1, h2, h3⟩, h4⟩, h5⟩ := h l D cy B p e a1 a2 a3 s m args below a4 a5 a6 a7
  exact ⟨k, o, b1, b2, b3, ⟨⟨v, sh1, M1, h1, hR _ _ _ h2, h3⟩, h4⟩, h5⟩
