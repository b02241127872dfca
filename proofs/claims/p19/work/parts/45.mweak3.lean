/-! the reference's asking methods, the rest: bread, makers, marriages, days -/
section zX6
variable (g : Nat → Option Nat) (X : List zShp) (M : zMem)
def mE (T : Nat) (M1 : zMem) (j : Nat) : Prop := ∃ e : Nat, e ≤ T + 1 ∧ M1 45 j + 1 = nI e ∧ (M1 45 j < 0 ∨ ∃ f : Nat, f ≤ T ∧ M1 45 j = nI f)
theorem mE_m1 {T : Nat} {M1 : zMem} {j : Nat} (h : M1 45 j = -1) : mE T M1 j := ⟨0, by omega, by rw [h]; decide, Or.inl (by rw [h]; decide)⟩
theorem mE_n {T f : Nat} {M1 : zMem} {j : Nat} (hf : f ≤ T) (h : M1 45 j = nI f) : mE T M1 j := ⟨f + 1, by omega, by rw [h, nI_1], Or.inr ⟨f, hf, h⟩⟩
def mIv (M M1 : zMem) : Prop := mAg M M1 ∧ ∀ j, j < 6 → mE (mTN M) M1 j
theorem mIv.so {M M1 : zMem} {p i : Nat} {v : Int32} (h : mIv M M1) (hp : p ∈ [41, 42, 43, 44, 46, 47, 48, 49]) : mIv M (zms M1 p i v) := by
  have hp2 : p ∈ [41, 42, 43, 44, 45, 46, 47, 48, 49] := by
    simp only [List.mem_cons, List.not_mem_nil, or_false] at hp ⊢
    omega
  have e : (zms M1 p i v) 45 = M1 45 := zms_ne M1 p i v 45 (by rintro rfl; exact absurd hp (by decide))
  refine ⟨h.1.st hp2, fun j hj => ?_⟩
  unfold mE
  rw [e]
  exact h.2 j hj
theorem mIv.s5 {M M1 : zMem} {i : Nat} {v : Int32} (h : mIv M M1) (hv : v = -1 ∨ ∃ f : Nat, f ≤ mTN M ∧ v = nI f) : mIv M (zms M1 45 i v) := by
  refine ⟨h.1.st (by decide), fun j hj => ?_⟩
  by_cases q : j = i
  · subst q
    have e : (zms M1 45 j v) 45 j = v := by rw [zms_row]; exact pk_us
    rcases hv with r | ⟨f, hf, r⟩
    · exact mE_m1 (e.trans r)
    · exact mE_n hf (e.trans r)
  · have e : (zms M1 45 i v) 45 j = M1 45 j := by rw [zms_row]; exact pk_un q
    unfold mE
    rw [e]
    exact h.2 j hj
theorem m45_o {M1 : zMem} {p i : Nat} {v : Int32} (hp : p ≠ 45) (k : Nat) : (zms M1 p i v) 45 k = M1 45 k := by rw [zms_ne M1 p i v 45 (Ne.symm hp)]
theorem m45_n {M1 : zMem} {i k : Nat} {v : Int32} (h : k ≠ i) : (zms M1 45 i v) 45 k = M1 45 k := by rw [zms_row]; exact pk_un h
theorem m45_s {M1 : zMem} {i : Nat} {v : Int32} : (zms M1 45 i v) 45 i = v := by rw [zms_row]; exact pk_us
theorem v_X_fed_0 (g : Nat → Option Nat) (X : List zShp) (M : zMem) (x1 : Int32) (R : zEnd) (h : (mK M) ∧ (∀ (M1 : zMem), (mAg M M1) → (zRT m_X_fed 0 0 9 [(0, .ref 35), (1, .int x1), (2, .int (-6)), (3, .int 0)] [] (SHP g X) M1 R))) : zRT m_X_fed 0 0 0 [(0, .ref 35), (1, .int x1)] [] (SHP g X) M R := by
  refine zs_aload_n 0 d_X_fed_0 rfl (List.mem_of_getElem? (i := 0) rfl) ?_
  obtain ⟨p1, h⟩ := h
  refine zs_callV (kc := 0) (ks := 0) (kc1 := 0) (ks1 := 0) (st := []) [] d_X_fed_1 lk_X_147 ⟨by decide, by decide⟩ rfl (sh_35 g X) rfl (Nat.le_of_ble_eq_true rfl) (ex_X_layMays g X M p1) (fun v1 sh1 M1 hR => ?_)
  obtain ⟨rfl, rfl, hq1⟩ := hR
  replace h := h M1 hq1
  refine zs_bipush (-6) d_X_fed_4 (by decide) ?_
  refine zs_istore_n2 2 [1, 2, 0] [(0, .ref 35), (1, .int x1), (2, .int (-6))] d_X_fed_6 rfl (by decide) rfl ?_
  refine zs_iconst 0 d_X_fed_7 (by decide) ?_
  refine zs_istore_n2 3 [1, 2, 3, 0] [(0, .ref 35), (1, .int x1), (2, .int (-6)), (3, .int 0)] d_X_fed_8 rfl (by decide) rfl ?_
  exact h
theorem v_X_fed_9 (g : Nat → Option Nat) (X : List zShp) (M : zMem) (x1 x2 x3 : Int32) (R : zEnd) (h : (((M 35 6) ≤ x3) → (zRT m_X_fed 0 0 37 [(0, .ref 35), (1, .int x1), (2, .int x2), (3, .int 0)] [] (SHP g X) M R)) ∧ ((¬ (M 35 6) ≤ x3) → ((vp_in x3 10) ∧ (zRT m_X_fed 0 0 9 [(0, .ref 35), (1, .int x1), (2, .int x2), (3, .int (x3 + 1))] [] (SHP g X) (zms M 47 (Int32.toNatClampNeg x3) (M 39 (Int32.toNatClampNeg x3))) R)))) : zRT m_X_fed 0 0 9 [(0, .ref 35), (1, .int x1), (2, .int x2), (3, .int x3)] [] (SHP g X) M R := by
  refine zs_iload_n 3 d_X_fed_9 rfl (List.mem_of_getElem? (i := 3) rfl) ?_
  refine zs_aload_n 0 d_X_fed_10 rfl (List.mem_of_getElem? (i := 0) rfl) ?_
  refine zs_get d_X_fed_11 gf_X_70 (sh_35 g X) rfl ?_
  refine zs_icmp_ge 35 d_X_fed_14 (by decide) (fun c1 => ?_) (fun c1 => ?_)
  · replace h := h.1 c1
    refine zs_iconst 0 d_X_fed_35 (by decide) ?_
    refine zs_istore_n2 3 [1, 2, 3, 0] [(0, .ref 35), (1, .int x1), (2, .int x2), (3, .int 0)] d_X_fed_36 rfl (by decide) rfl ?_
    exact h
  · replace h := h.2 c1
    refine zs_aload_n 0 d_X_fed_17 rfl (List.mem_of_getElem? (i := 0) rfl) ?_
    refine zs_get d_X_fed_18 gf_X_50 (sh_35 g X) rfl ?_
    refine zs_iload_n 3 d_X_fed_21 rfl (List.mem_of_getElem? (i := 3) rfl) ?_
    refine zs_aload_n 0 d_X_fed_22 rfl (List.mem_of_getElem? (i := 0) rfl) ?_
    refine zs_get d_X_fed_23 gf_X_26 (sh_35 g X) rfl ?_
    refine zs_iload_n 3 d_X_fed_26 rfl (List.mem_of_getElem? (i := 3) rfl) ?_
    obtain ⟨b2, h⟩ := h
    refine zs_iald d_X_fed_27 (sh_39 g X) b2 ?_
    refine zs_iast d_X_fed_28 (sh_47 g X) b2 ?_
    refine zs_iinc2 3 (x3 + 1) [1, 2, 3, 0] [(0, .ref 35), (1, .int x1), (2, .int x2), (3, .int (x3 + 1))] d_X_fed_29 rfl rfl (by decide) rfl ?_
    refine zs_goto 9 d_X_fed_32 (by decide) ?_
    exact h
theorem v_X_fed_37 (g : Nat → Option Nat) (X : List zShp) (M : zMem) (x1 x2 x3 : Int32) (R : zEnd) (h : ((6 ≤ x3) → (zRT m_X_fed 0 0 61 [(0, .ref 35), (1, .int x1), (2, .int x2), (3, .int 0), (4, .int 0)] [] (SHP g X) M R)) ∧ ((¬ 6 ≤ x3) → ((vp_in x3 6) ∧ (zRT m_X_fed 0 0 37 [(0, .ref 35), (1, .int x1), (2, .int x2), (3, .int (x3 + 1))] [] (SHP g X) (zms M 45 (Int32.toNatClampNeg x3) (-1)) R)))) : zRT m_X_fed 0 0 37 [(0, .ref 35), (1, .int x1), (2, .int x2), (3, .int x3)] [] (SHP g X) M R := by
  refine zs_iload_n 3 d_X_fed_37 rfl (List.mem_of_getElem? (i := 3) rfl) ?_
  refine zs_bipush 6 d_X_fed_38 (by decide) ?_
  refine zs_icmp_ge 56 d_X_fed_40 (by decide) (fun c1 => ?_) (fun c1 => ?_)
  · replace h := h.1 c1
    refine zs_iconst 0 d_X_fed_56 (by decide) ?_
    refine zs_istore_n2 3 [1, 2, 3, 0] [(0, .ref 35), (1, .int x1), (2, .int x2), (3, .int 0)] d_X_fed_57 rfl (by decide) rfl ?_
    refine zs_iconst 0 d_X_fed_58 (by decide) ?_
    refine zs_istore2 [1, 2, 3, 4, 0] [(0, .ref 35), (1, .int x1), (2, .int x2), (3, .int 0), (4, .int 0)] d_X_fed_59 (by decide) rfl ?_
    exact h
  · replace h := h.2 c1
    refine zs_aload_n 0 d_X_fed_43 rfl (List.mem_of_getElem? (i := 0) rfl) ?_
    refine zs_get d_X_fed_44 gf_X_44 (sh_35 g X) rfl ?_
    refine zs_iload_n 3 d_X_fed_47 rfl (List.mem_of_getElem? (i := 3) rfl) ?_
    refine zs_iconst (-1) d_X_fed_48 (by decide) ?_
    obtain ⟨b2, h⟩ := h
    refine zs_iast d_X_fed_49 (sh_45 g X) b2 ?_
    refine zs_iinc2 3 (x3 + 1) [1, 2, 3, 0] [(0, .ref 35), (1, .int x1), (2, .int x2), (3, .int (x3 + 1))] d_X_fed_50 rfl rfl (by decide) rfl ?_
    refine zs_goto 37 d_X_fed_53 (by decide) ?_
    exact h
theorem v_X_fed_61 (g : Nat → Option Nat) (X : List zShp) (M : zMem) (x1 x2 x3 x4 : Int32) (R : zEnd) (h : ((x3 < 0) → (((¬ x1 = (-1)) → ((((isM x1) = false) → (R (some (.int (-6))) (SHP g X) M)) ∧ (((isM x1) = true) → ((vp_in x1 6) ∧ (R (some (.int (M 46 (Int32.toNatClampNeg x1)))) (SHP g X) M))))) ∧ ((x1 = (-1)) → (R (some (.int x2)) (SHP g X) M)))) ∧ ((¬ x3 < 0) → (((¬ x3 = 6) → ((vp_in x3 6) ∧ ((((M 45 (Int32.toNatClampNeg x3)) < 0) → (zRT m_X_fed 0 0 185 [(0, .ref 35), (1, .int x1), (2, .int x2), (3, .int x3), (4, .int x4), (5, .int ((M 45 (Int32.toNatClampNeg x3)) + 1))] [] (SHP g X) M R)) ∧ ((¬ (M 45 (Int32.toNatClampNeg x3)) < 0) → ((((M 35 6) ≤ (M 45 (Int32.toNatClampNeg x3))) → (zRT m_X_fed 0 0 185 [(0, .ref 35), (1, .int x1), (2, .int x2), (3, .int x3), (4, .int x4), (5, .int ((M 45 (Int32.toNatClampNeg x3)) + 1))] [] (SHP g X) M R)) ∧ ((¬ (M 35 6) ≤ (M 45 (Int32.toNatClampNeg x3))) → ((vp_in (M 45 (Int32.toNatClampNeg x3)) 10) ∧ (zRT m_X_fed 0 0 185 [(0, .ref 35), (1, .int x1), (2, .int x2), (3, .int x3), (4, .int (x4 + (-1))), (5, .int ((M 45 (Int32.toNatClampNeg x3)) + 1))] [] (SHP g X) (zms M 47 (Int32.toNatClampNeg (M 45 (Int32.toNatClampNeg x3))) ((M 47 (Int32.toNatClampNeg (M 45 (Int32.toNatClampNeg x3)))) + 1)) R)))))))) ∧ ((x3 = 6) → (((x4 ≤ x2) → (zRT m_X_fed 0 0 61 [(0, .ref 35), (1, .int x1), (2, .int x2), (3, .int (x3 + (-1))), (4, .int x4)] [] (SHP g X) M R)) ∧ ((¬ x4 ≤ x2) → (zRT m_X_fed 0 0 83 [(0, .ref 35), (1, .int x1), (2, .int x4), (3, .int x3), (4, .int x4), (5, .int 0)] [] (SHP g X) M R))))))) : zRT m_X_fed 0 0 61 [(0, .ref 35), (1, .int x1), (2, .int x2), (3, .int x3), (4, .int x4)] [] (SHP g X) M R := by
  refine zs_iload_n 3 d_X_fed_61 rfl (List.mem_of_getElem? (i := 3) rfl) ?_
  refine zs_if_lt 294 d_X_fed_62 (by decide) (fun c1 => ?_) (fun c1 => ?_)
  · replace h := h.1 c1
    refine zs_iload_n 1 d_X_fed_294 rfl (List.mem_of_getElem? (i := 1) rfl) ?_
    refine zs_iconst (-1) d_X_fed_295 (by decide) ?_
    refine zs_icmp_ne 303 d_X_fed_296 (by decide) (fun c2 => ?_) (fun c2 => ?_)
    · replace h := h.1 c2
      refine zs_iload_n 1 d_X_fed_303 rfl (List.mem_of_getElem? (i := 1) rfl) ?_
      refine zs_callS (kc := 0) (ks := 0) (kc1 := 0) (ks1 := 0) (st := []) [.int x1] d_X_fed_304 lk_X_87 ⟨by decide, by decide⟩ rfl (Nat.le_of_ble_eq_true rfl) (ex_X_isMan g X M x1) (fun v3 sh3 M3 hR => ?_)
      obtain ⟨rfl, rfl, rfl⟩ := hR
      refine zs_if_eq 319 d_X_fed_307 (by decide) (fun c4 => ?_) (fun c4 => ?_)
      · replace h := h.1 (bI_0 c4)
        refine zs_bipush (-6) d_X_fed_319 (by decide) ?_
        exact zs_iret d_X_fed_321 rfl h
      · replace h := h.2 (bI_1 c4)
        refine zs_aload_n 0 d_X_fed_310 rfl (List.mem_of_getElem? (i := 0) rfl) ?_
        refine zs_get d_X_fed_311 gf_X_47 (sh_35 g X) rfl ?_
        refine zs_iload_n 1 d_X_fed_314 rfl (List.mem_of_getElem? (i := 1) rfl) ?_
        obtain ⟨b5, h⟩ := h
        refine zs_iald d_X_fed_315 (sh_46 g X) b5 ?_
        refine zs_goto 321 d_X_fed_316 (by decide) ?_
        exact zs_iret d_X_fed_321 rfl h
    · replace h := h.2 c2
      refine zs_iload_n 2 d_X_fed_299 rfl (List.mem_of_getElem? (i := 2) rfl) ?_
      refine zs_goto 321 d_X_fed_300 (by decide) ?_
      exact zs_iret d_X_fed_321 rfl h
  · replace h := h.2 c1
    refine zs_iload_n 3 d_X_fed_65 rfl (List.mem_of_getElem? (i := 3) rfl) ?_
    refine zs_bipush 6 d_X_fed_66 (by decide) ?_
    refine zs_icmp_ne 135 d_X_fed_68 (by decide) (fun c6 => ?_) (fun c6 => ?_)
    · replace h := h.1 c6
      refine zs_aload_n 0 d_X_fed_135 rfl (List.mem_of_getElem? (i := 0) rfl) ?_
      refine zs_get d_X_fed_136 gf_X_44 (sh_35 g X) rfl ?_
      refine zs_iload_n 3 d_X_fed_139 rfl (List.mem_of_getElem? (i := 3) rfl) ?_
      obtain ⟨b7, h⟩ := h
      refine zs_iald d_X_fed_140 (sh_45 g X) b7 ?_
      refine zs_if_lt 175 d_X_fed_141 (by decide) (fun c8 => ?_) (fun c8 => ?_)
      · replace h := h.1 c8
        refine zs_aload_n 0 d_X_fed_175 rfl (List.mem_of_getElem? (i := 0) rfl) ?_
        refine zs_get d_X_fed_176 gf_X_44 (sh_35 g X) rfl ?_
        refine zs_iload_n 3 d_X_fed_179 rfl (List.mem_of_getElem? (i := 3) rfl) ?_
        refine zs_iald d_X_fed_180 (sh_45 g X) b7 ?_
        refine zs_iconst 1 d_X_fed_181 (by decide) ?_
        refine zs_iadd d_X_fed_182 ?_
        refine zs_istore2 [1, 2, 3, 4, 5, 0] [(0, .ref 35), (1, .int x1), (2, .int x2), (3, .int x3), (4, .int x4), (5, .int ((M 45 (Int32.toNatClampNeg x3)) + 1))] d_X_fed_183 (by decide) rfl ?_
        exact h
      · replace h := h.2 c8
        refine zs_aload_n 0 d_X_fed_144 rfl (List.mem_of_getElem? (i := 0) rfl) ?_
        refine zs_get d_X_fed_145 gf_X_44 (sh_35 g X) rfl ?_
        refine zs_iload_n 3 d_X_fed_148 rfl (List.mem_of_getElem? (i := 3) rfl) ?_
        refine zs_iald d_X_fed_149 (sh_45 g X) b7 ?_
        refine zs_aload_n 0 d_X_fed_150 rfl (List.mem_of_getElem? (i := 0) rfl) ?_
        refine zs_get d_X_fed_151 gf_X_70 (sh_35 g X) rfl ?_
        refine zs_icmp_ge 175 d_X_fed_154 (by decide) (fun c9 => ?_) (fun c9 => ?_)
        · replace h := h.1 c9
          refine zs_aload_n 0 d_X_fed_175 rfl (List.mem_of_getElem? (i := 0) rfl) ?_
          refine zs_get d_X_fed_176 gf_X_44 (sh_35 g X) rfl ?_
          refine zs_iload_n 3 d_X_fed_179 rfl (List.mem_of_getElem? (i := 3) rfl) ?_
          refine zs_iald d_X_fed_180 (sh_45 g X) b7 ?_
          refine zs_iconst 1 d_X_fed_181 (by decide) ?_
          refine zs_iadd d_X_fed_182 ?_
          refine zs_istore2 [1, 2, 3, 4, 5, 0] [(0, .ref 35), (1, .int x1), (2, .int x2), (3, .int x3), (4, .int x4), (5, .int ((M 45 (Int32.toNatClampNeg x3)) + 1))] d_X_fed_183 (by decide) rfl ?_
          exact h
        · replace h := h.2 c9
          refine zs_aload_n 0 d_X_fed_157 rfl (List.mem_of_getElem? (i := 0) rfl) ?_
          refine zs_get d_X_fed_158 gf_X_50 (sh_35 g X) rfl ?_
          refine zs_aload_n 0 d_X_fed_161 rfl (List.mem_of_getElem? (i := 0) rfl) ?_
          refine zs_get d_X_fed_162 gf_X_44 (sh_35 g X) rfl ?_
          refine zs_iload_n 3 d_X_fed_165 rfl (List.mem_of_getElem? (i := 3) rfl) ?_
          refine zs_iald d_X_fed_166 (sh_45 g X) b7 ?_
          refine zs_dup2 d_X_fed_167 rfl rfl ?_
          obtain ⟨b10, h⟩ := h
          refine zs_iald d_X_fed_168 (sh_47 g X) b10 ?_
          refine zs_iconst 1 d_X_fed_169 (by decide) ?_
          refine zs_iadd d_X_fed_170 ?_
          refine zs_iast d_X_fed_171 (sh_47 g X) b10 ?_
          refine zs_iinc2 4 (x4 + (-1)) [1, 2, 3, 4, 0] [(0, .ref 35), (1, .int x1), (2, .int x2), (3, .int x3), (4, .int (x4 + (-1)))] d_X_fed_172 rfl rfl (by decide) rfl ?_
          refine zs_aload_n 0 d_X_fed_175 rfl (List.mem_of_getElem? (i := 0) rfl) ?_
          refine zs_get d_X_fed_176 gf_X_44 (sh_35 g X) rfl ?_
          refine zs_iload_n 3 d_X_fed_179 rfl (List.mem_of_getElem? (i := 3) rfl) ?_
          refine zs_iald d_X_fed_180 (sh_45 g X) b7 ?_
          refine zs_iconst 1 d_X_fed_181 (by decide) ?_
          refine zs_iadd d_X_fed_182 ?_
          refine zs_istore2 [1, 2, 3, 4, 5, 0] [(0, .ref 35), (1, .int x1), (2, .int x2), (3, .int x3), (4, .int (x4 + (-1))), (5, .int ((M 45 (Int32.toNatClampNeg x3)) + 1))] d_X_fed_183 (by decide) rfl ?_
          exact h
    · replace h := h.2 c6
      refine zs_iload d_X_fed_71 (List.mem_of_getElem? (i := 4) rfl) ?_
      refine zs_iload_n 2 d_X_fed_73 rfl (List.mem_of_getElem? (i := 2) rfl) ?_
      refine zs_icmp_le 129 d_X_fed_74 (by decide) (fun c11 => ?_) (fun c11 => ?_)
      · replace h := h.1 c11
        refine zs_iinc2 3 (x3 + (-1)) [1, 2, 3, 0, 4] [(0, .ref 35), (1, .int x1), (2, .int x2), (3, .int (x3 + (-1))), (4, .int x4)] d_X_fed_129 rfl rfl (by decide) rfl ?_
        refine zs_goto 61 d_X_fed_132 (by decide) ?_
        exact h
      · replace h := h.2 c11
        refine zs_iload d_X_fed_77 (List.mem_of_getElem? (i := 4) rfl) ?_
        refine zs_istore_n2 2 [1, 2, 0, 3, 4] [(0, .ref 35), (1, .int x1), (2, .int x4), (3, .int x3), (4, .int x4)] d_X_fed_79 rfl (by decide) rfl ?_
        refine zs_iconst 0 d_X_fed_80 (by decide) ?_
        refine zs_istore2 [1, 2, 3, 4, 5, 0] [(0, .ref 35), (1, .int x1), (2, .int x4), (3, .int x3), (4, .int x4), (5, .int 0)] d_X_fed_81 (by decide) rfl ?_
        exact h
theorem v_X_fed_83 (g : Nat → Option Nat) (X : List zShp) (M : zMem) (x1 x2 x3 x4 x5 : Int32) (R : zEnd) (h : ((6 ≤ x5) → (zRT m_X_fed 0 0 61 [(0, .ref 35), (1, .int x1), (2, .int x2), (3, .int (x3 + (-1))), (4, .int x4)] [] (SHP g X) M R)) ∧ ((¬ 6 ≤ x5) → ((vp_in x5 6) ∧ (((¬ (M 45 (Int32.toNatClampNeg x5)) = (M 35 6)) → (zRT m_X_fed 0 0 83 [(0, .ref 35), (1, .int x1), (2, .int x2), (3, .int x3), (4, .int x4), (5, .int (x5 + 1))] [] (SHP g X) (zms M 46 (Int32.toNatClampNeg x5) (M 45 (Int32.toNatClampNeg x5))) R)) ∧ (((M 45 (Int32.toNatClampNeg x5)) = (M 35 6)) → (zRT m_X_fed 0 0 83 [(0, .ref 35), (1, .int x1), (2, .int x2), (3, .int x3), (4, .int x4), (5, .int (x5 + 1))] [] (SHP g X) (zms M 46 (Int32.toNatClampNeg x5) (-6)) R)))))) : zRT m_X_fed 0 0 83 [(0, .ref 35), (1, .int x1), (2, .int x2), (3, .int x3), (4, .int x4), (5, .int x5)] [] (SHP g X) M R := by
  refine zs_iload d_X_fed_83 (List.mem_of_getElem? (i := 5) rfl) ?_
  refine zs_bipush 6 d_X_fed_85 (by decide) ?_
  refine zs_icmp_ge 129 d_X_fed_87 (by decide) (fun c1 => ?_) (fun c1 => ?_)
  · replace h := h.1 c1
    refine zs_iinc2 3 (x3 + (-1)) [1, 2, 3, 0, 4, 5] [(0, .ref 35), (1, .int x1), (2, .int x2), (3, .int (x3 + (-1))), (4, .int x4), (5, .int x5)] d_X_fed_129 rfl rfl (by decide) rfl ?_
    refine zs_goto 61 d_X_fed_132 (by decide) ?_
    exact zRT_sub [0, 1, 2, 3, 4] rfl h
  · replace h := h.2 c1
    refine zs_aload_n 0 d_X_fed_90 rfl (List.mem_of_getElem? (i := 0) rfl) ?_
    refine zs_get d_X_fed_91 gf_X_47 (sh_35 g X) rfl ?_
    refine zs_iload d_X_fed_94 (List.mem_of_getElem? (i := 5) rfl) ?_
    refine zs_aload_n 0 d_X_fed_96 rfl (List.mem_of_getElem? (i := 0) rfl) ?_
    refine zs_get d_X_fed_97 gf_X_44 (sh_35 g X) rfl ?_
    refine zs_iload d_X_fed_100 (List.mem_of_getElem? (i := 5) rfl) ?_
    obtain ⟨b2, h⟩ := h
    refine zs_iald d_X_fed_102 (sh_45 g X) b2 ?_
    refine zs_aload_n 0 d_X_fed_103 rfl (List.mem_of_getElem? (i := 0) rfl) ?_
    refine zs_get d_X_fed_104 gf_X_70 (sh_35 g X) rfl ?_
    refine zs_icmp_ne 115 d_X_fed_107 (by decide) (fun c3 => ?_) (fun c3 => ?_)
    · replace h := h.1 c3
      refine zs_aload_n 0 d_X_fed_115 rfl (List.mem_of_getElem? (i := 0) rfl) ?_
      refine zs_get d_X_fed_116 gf_X_44 (sh_35 g X) rfl ?_
      refine zs_iload d_X_fed_119 (List.mem_of_getElem? (i := 5) rfl) ?_
      refine zs_iald d_X_fed_121 (sh_45 g X) b2 ?_
      refine zs_iast d_X_fed_122 (sh_46 g X) b2 ?_
      refine zs_iinc2 5 (x5 + 1) [1, 2, 3, 4, 5, 0] [(0, .ref 35), (1, .int x1), (2, .int x2), (3, .int x3), (4, .int x4), (5, .int (x5 + 1))] d_X_fed_123 rfl rfl (by decide) rfl ?_
      refine zs_goto 83 d_X_fed_126 (by decide) ?_
      exact h
    · replace h := h.2 c3
      refine zs_bipush (-6) d_X_fed_110 (by decide) ?_
      refine zs_goto 122 d_X_fed_112 (by decide) ?_
      refine zs_iast d_X_fed_122 (sh_46 g X) b2 ?_
      refine zs_iinc2 5 (x5 + 1) [1, 2, 3, 4, 5, 0] [(0, .ref 35), (1, .int x1), (2, .int x2), (3, .int x3), (4, .int x4), (5, .int (x5 + 1))] d_X_fed_123 rfl rfl (by decide) rfl ?_
      refine zs_goto 83 d_X_fed_126 (by decide) ?_
      exact h
theorem v_X_fed_185 (g : Nat → Option Nat) (X : List zShp) (M : zMem) (x1 x2 x3 x4 x5 : Int32) (R : zEnd) (h : (((M 35 6) ≤ x5) → ((((M 35 6) < x5) → ((vp_in x3 6) ∧ (zRT m_X_fed 0 0 61 [(0, .ref 35), (1, .int x1), (2, .int x2), (3, .int (x3 + (-1))), (4, .int x4)] [] (SHP g X) (zms M 45 (Int32.toNatClampNeg x3) (-1)) R))) ∧ ((¬ (M 35 6) < x5) → (((x2 < ((x4 + 6) - x3)) → ((vp_in x3 6) ∧ ((((M 35 6) ≤ x5) → (zRT m_X_fed 0 0 61 [(0, .ref 35), (1, .int x1), (2, .int x2), (3, .int (x3 + 1)), (4, .int x4)] [] (SHP g X) (zms M 45 (Int32.toNatClampNeg x3) x5) R)) ∧ ((¬ (M 35 6) ≤ x5) → ((vp_in x5 10) ∧ (zRT m_X_fed 0 0 61 [(0, .ref 35), (1, .int x1), (2, .int x2), (3, .int (x3 + 1)), (4, .int (x4 + 1))] [] (SHP g X) (zms (zms M 45 (Int32.toNatClampNeg x3) x5) 47 (Int32.toNatClampNeg x5) ((M 47 (Int32.toNatClampNeg x5)) - 1)) R)))))) ∧ ((¬ x2 < ((x4 + 6) - x3)) → ((vp_in x3 6) ∧ (zRT m_X_fed 0 0 61 [(0, .ref 35), (1, .int x1), (2, .int x2), (3, .int (x3 + (-1))), (4, .int x4)] [] (SHP g X) (zms M 45 (Int32.toNatClampNeg x3) (-1)) R))))))) ∧ ((¬ (M 35 6) ≤ x5) → ((vp_in x3 6) ∧ ((((hb (M 44 (Int32.toNatClampNeg x3)) x5) = false) → (zRT m_X_fed 0 0 185 [(0, .ref 35), (1, .int x1), (2, .int x2), (3, .int x3), (4, .int x4), (5, .int (x5 + 1))] [] (SHP g X) M R)) ∧ (((hb (M 44 (Int32.toNatClampNeg x3)) x5) = true) → ((vp_in x5 10) ∧ (((¬ (M 47 (Int32.toNatClampNeg x5)) = 0) → ((((M 35 6) < x5) → (zRT m_X_fed 0 0 61 [(0, .ref 35), (1, .int x1), (2, .int x2), (3, .int (x3 + (-1))), (4, .int x4)] [] (SHP g X) (zms M 45 (Int32.toNatClampNeg x3) (-1)) R)) ∧ ((¬ (M 35 6) < x5) → (((x2 < ((x4 + 6) - x3)) → ((((M 35 6) ≤ x5) → (zRT m_X_fed 0 0 61 [(0, .ref 35), (1, .int x1), (2, .int x2), (3, .int (x3 + 1)), (4, .int x4)] [] (SHP g X) (zms M 45 (Int32.toNatClampNeg x3) x5) R)) ∧ ((¬ (M 35 6) ≤ x5) → (zRT m_X_fed 0 0 61 [(0, .ref 35), (1, .int x1), (2, .int x2), (3, .int (x3 + 1)), (4, .int (x4 + 1))] [] (SHP g X) (zms (zms M 45 (Int32.toNatClampNeg x3) x5) 47 (Int32.toNatClampNeg x5) ((M 47 (Int32.toNatClampNeg x5)) - 1)) R)))) ∧ ((¬ x2 < ((x4 + 6) - x3)) → (zRT m_X_fed 0 0 61 [(0, .ref 35), (1, .int x1), (2, .int x2), (3, .int (x3 + (-1))), (4, .int x4)] [] (SHP g X) (zms M 45 (Int32.toNatClampNeg x3) (-1)) R)))))) ∧ (((M 47 (Int32.toNatClampNeg x5)) = 0) → (zRT m_X_fed 0 0 185 [(0, .ref 35), (1, .int x1), (2, .int x2), (3, .int x3), (4, .int x4), (5, .int (x5 + 1))] [] (SHP g X) M R))))))))) : zRT m_X_fed 0 0 185 [(0, .ref 35), (1, .int x1), (2, .int x2), (3, .int x3), (4, .int x4), (5, .int x5)] [] (SHP g X) M R := by
  refine zs_iload d_X_fed_185 (List.mem_of_getElem? (i := 5) rfl) ?_
  refine zs_aload_n 0 d_X_fed_187 rfl (List.mem_of_getElem? (i := 0) rfl) ?_
  refine zs_get d_X_fed_188 gf_X_70 (sh_35 g X) rfl ?_
  refine zs_icmp_ge 224 d_X_fed_191 (by decide) (fun c1 => ?_) (fun c1 => ?_)
  · replace h := h.1 c1
    refine zs_iload d_X_fed_224 (List.mem_of_getElem? (i := 5) rfl) ?_
    refine zs_aload_n 0 d_X_fed_226 rfl (List.mem_of_getElem? (i := 0) rfl) ?_
    refine zs_get d_X_fed_227 gf_X_70 (sh_35 g X) rfl ?_
    refine zs_icmp_gt 244 d_X_fed_230 (by decide) (fun c2 => ?_) (fun c2 => ?_)
    · replace h := h.1 c2
      refine zs_aload_n 0 d_X_fed_244 rfl (List.mem_of_getElem? (i := 0) rfl) ?_
      refine zs_get d_X_fed_245 gf_X_44 (sh_35 g X) rfl ?_
      refine zs_iload_n 3 d_X_fed_248 rfl (List.mem_of_getElem? (i := 3) rfl) ?_
      refine zs_iconst (-1) d_X_fed_249 (by decide) ?_
      obtain ⟨b3, h⟩ := h
      refine zs_iast d_X_fed_250 (sh_45 g X) b3 ?_
      refine zs_iinc2 3 (x3 + (-1)) [1, 2, 3, 0, 4, 5] [(0, .ref 35), (1, .int x1), (2, .int x2), (3, .int (x3 + (-1))), (4, .int x4), (5, .int x5)] d_X_fed_251 rfl rfl (by decide) rfl ?_
      refine zs_goto 61 d_X_fed_254 (by decide) ?_
      exact zRT_sub [0, 1, 2, 3, 4] rfl h
    · replace h := h.2 c2
      refine zs_iload d_X_fed_233 (List.mem_of_getElem? (i := 4) rfl) ?_
      refine zs_bipush 6 d_X_fed_235 (by decide) ?_
      refine zs_iadd d_X_fed_237 ?_
      refine zs_iload_n 3 d_X_fed_238 rfl (List.mem_of_getElem? (i := 3) rfl) ?_
      refine zs_isub d_X_fed_239 ?_
      refine zs_iload_n 2 d_X_fed_240 rfl (List.mem_of_getElem? (i := 2) rfl) ?_
      refine zs_icmp_gt 257 d_X_fed_241 (by decide) (fun c4 => ?_) (fun c4 => ?_)
      · replace h := h.1 c4
        refine zs_aload_n 0 d_X_fed_257 rfl (List.mem_of_getElem? (i := 0) rfl) ?_
        refine zs_get d_X_fed_258 gf_X_44 (sh_35 g X) rfl ?_
        refine zs_iload_n 3 d_X_fed_261 rfl (List.mem_of_getElem? (i := 3) rfl) ?_
        refine zs_iload d_X_fed_262 (List.mem_of_getElem? (i := 5) rfl) ?_
        obtain ⟨b5, h⟩ := h
        refine zs_iast d_X_fed_264 (sh_45 g X) b5 ?_
        refine zs_iload d_X_fed_265 (List.mem_of_getElem? (i := 5) rfl) ?_
        refine zs_aload_n 0 d_X_fed_267 rfl (List.mem_of_getElem? (i := 0) rfl) ?_
        refine zs_get d_X_fed_268 gf_X_70 (sh_35 g X) rfl ?_
        refine zs_icmp_ge 288 d_X_fed_271 (by decide) (fun c6 => ?_) (fun c6 => ?_)
        · replace h := h.1 c6
          refine zs_iinc2 3 (x3 + 1) [1, 2, 3, 0, 4, 5] [(0, .ref 35), (1, .int x1), (2, .int x2), (3, .int (x3 + 1)), (4, .int x4), (5, .int x5)] d_X_fed_288 rfl rfl (by decide) rfl ?_
          refine zs_goto 61 d_X_fed_291 (by decide) ?_
          exact zRT_sub [0, 1, 2, 3, 4] rfl h
        · replace h := h.2 c6
          refine zs_aload_n 0 d_X_fed_274 rfl (List.mem_of_getElem? (i := 0) rfl) ?_
          refine zs_get d_X_fed_275 gf_X_50 (sh_35 g X) rfl ?_
          refine zs_iload d_X_fed_278 (List.mem_of_getElem? (i := 5) rfl) ?_
          refine zs_dup2 d_X_fed_280 rfl rfl ?_
          obtain ⟨b7, h⟩ := h
          refine zs_iald d_X_fed_281 (sh_47 g X) b7 ?_
          refine zs_iconst 1 d_X_fed_282 (by decide) ?_
          refine zs_isub d_X_fed_283 ?_
          refine zs_iast d_X_fed_284 (sh_47 g X) b7 ?_
          refine zs_iinc2 4 (x4 + 1) [1, 2, 3, 4, 0, 5] [(0, .ref 35), (1, .int x1), (2, .int x2), (3, .int x3), (4, .int (x4 + 1)), (5, .int x5)] d_X_fed_285 rfl rfl (by decide) rfl ?_
          refine zs_iinc2 3 (x3 + 1) [1, 2, 3, 0, 4, 5] [(0, .ref 35), (1, .int x1), (2, .int x2), (3, .int (x3 + 1)), (4, .int (x4 + 1)), (5, .int x5)] d_X_fed_288 rfl rfl (by decide) rfl ?_
          refine zs_goto 61 d_X_fed_291 (by decide) ?_
          exact zRT_sub [0, 1, 2, 3, 4] rfl h
      · replace h := h.2 c4
        refine zs_aload_n 0 d_X_fed_244 rfl (List.mem_of_getElem? (i := 0) rfl) ?_
        refine zs_get d_X_fed_245 gf_X_44 (sh_35 g X) rfl ?_
        refine zs_iload_n 3 d_X_fed_248 rfl (List.mem_of_getElem? (i := 3) rfl) ?_
        refine zs_iconst (-1) d_X_fed_249 (by decide) ?_
        obtain ⟨b8, h⟩ := h
        refine zs_iast d_X_fed_250 (sh_45 g X) b8 ?_
        refine zs_iinc2 3 (x3 + (-1)) [1, 2, 3, 0, 4, 5] [(0, .ref 35), (1, .int x1), (2, .int x2), (3, .int (x3 + (-1))), (4, .int x4), (5, .int x5)] d_X_fed_251 rfl rfl (by decide) rfl ?_
        refine zs_goto 61 d_X_fed_254 (by decide) ?_
        exact zRT_sub [0, 1, 2, 3, 4] rfl h
  · replace h := h.2 c1
    refine zs_aload_n 0 d_X_fed_194 rfl (List.mem_of_getElem? (i := 0) rfl) ?_
    refine zs_get d_X_fed_195 gf_X_41 (sh_35 g X) rfl ?_
    refine zs_iload_n 3 d_X_fed_198 rfl (List.mem_of_getElem? (i := 3) rfl) ?_
    obtain ⟨b9, h⟩ := h
    refine zs_iald d_X_fed_199 (sh_44 g X) b9 ?_
    refine zs_iload d_X_fed_200 (List.mem_of_getElem? (i := 5) rfl) ?_
    refine zs_callS (kc := 0) (ks := 0) (kc1 := 0) (ks1 := 0) (st := []) [.int (M 44 (Int32.toNatClampNeg x3)), .int x5] d_X_fed_202 lk_X_98 ⟨by decide, by decide⟩ rfl (Nat.le_of_ble_eq_true rfl) (ex_X_has g X M (M 44 (Int32.toNatClampNeg x3)) x5) (fun v10 sh10 M10 hR => ?_)
    obtain ⟨rfl, rfl, rfl⟩ := hR
    refine zs_if_eq 218 d_X_fed_205 (by decide) (fun c11 => ?_) (fun c11 => ?_)
    · replace h := h.1 (bI_0 c11)
      refine zs_iinc2 5 (x5 + 1) [1, 2, 3, 4, 5, 0] [(0, .ref 35), (1, .int x1), (2, .int x2), (3, .int x3), (4, .int x4), (5, .int (x5 + 1))] d_X_fed_218 rfl rfl (by decide) rfl ?_
      refine zs_goto 185 d_X_fed_221 (by decide) ?_
      exact h
    · replace h := h.2 (bI_1 c11)
      refine zs_aload_n 0 d_X_fed_208 rfl (List.mem_of_getElem? (i := 0) rfl) ?_
      refine zs_get d_X_fed_209 gf_X_50 (sh_35 g X) rfl ?_
      refine zs_iload d_X_fed_212 (List.mem_of_getElem? (i := 5) rfl) ?_
      obtain ⟨b12, h⟩ := h
      refine zs_iald d_X_fed_214 (sh_47 g X) b12 ?_
      refine zs_if_ne 224 d_X_fed_215 (by decide) (fun c13 => ?_) (fun c13 => ?_)
      · replace h := h.1 c13
        refine zs_iload d_X_fed_224 (List.mem_of_getElem? (i := 5) rfl) ?_
        refine zs_aload_n 0 d_X_fed_226 rfl (List.mem_of_getElem? (i := 0) rfl) ?_
        refine zs_get d_X_fed_227 gf_X_70 (sh_35 g X) rfl ?_
        refine zs_icmp_gt 244 d_X_fed_230 (by decide) (fun c14 => ?_) (fun c14 => ?_)
        · replace h := h.1 c14
          refine zs_aload_n 0 d_X_fed_244 rfl (List.mem_of_getElem? (i := 0) rfl) ?_
          refine zs_get d_X_fed_245 gf_X_44 (sh_35 g X) rfl ?_
          refine zs_iload_n 3 d_X_fed_248 rfl (List.mem_of_getElem? (i := 3) rfl) ?_
          refine zs_iconst (-1) d_X_fed_249 (by decide) ?_
          refine zs_iast d_X_fed_250 (sh_45 g X) b9 ?_
          refine zs_iinc2 3 (x3 + (-1)) [1, 2, 3, 0, 4, 5] [(0, .ref 35), (1, .int x1), (2, .int x2), (3, .int (x3 + (-1))), (4, .int x4), (5, .int x5)] d_X_fed_251 rfl rfl (by decide) rfl ?_
          refine zs_goto 61 d_X_fed_254 (by decide) ?_
          exact zRT_sub [0, 1, 2, 3, 4] rfl h
        · replace h := h.2 c14
          refine zs_iload d_X_fed_233 (List.mem_of_getElem? (i := 4) rfl) ?_
          refine zs_bipush 6 d_X_fed_235 (by decide) ?_
          refine zs_iadd d_X_fed_237 ?_
          refine zs_iload_n 3 d_X_fed_238 rfl (List.mem_of_getElem? (i := 3) rfl) ?_
          refine zs_isub d_X_fed_239 ?_
          refine zs_iload_n 2 d_X_fed_240 rfl (List.mem_of_getElem? (i := 2) rfl) ?_
          refine zs_icmp_gt 257 d_X_fed_241 (by decide) (fun c15 => ?_) (fun c15 => ?_)
          · replace h := h.1 c15
            refine zs_aload_n 0 d_X_fed_257 rfl (List.mem_of_getElem? (i := 0) rfl) ?_
            refine zs_get d_X_fed_258 gf_X_44 (sh_35 g X) rfl ?_
            refine zs_iload_n 3 d_X_fed_261 rfl (List.mem_of_getElem? (i := 3) rfl) ?_
            refine zs_iload d_X_fed_262 (List.mem_of_getElem? (i := 5) rfl) ?_
            refine zs_iast d_X_fed_264 (sh_45 g X) b9 ?_
            refine zs_iload d_X_fed_265 (List.mem_of_getElem? (i := 5) rfl) ?_
            refine zs_aload_n 0 d_X_fed_267 rfl (List.mem_of_getElem? (i := 0) rfl) ?_
            refine zs_get d_X_fed_268 gf_X_70 (sh_35 g X) rfl ?_
            refine zs_icmp_ge 288 d_X_fed_271 (by decide) (fun c16 => ?_) (fun c16 => ?_)
            · replace h := h.1 c16
              refine zs_iinc2 3 (x3 + 1) [1, 2, 3, 0, 4, 5] [(0, .ref 35), (1, .int x1), (2, .int x2), (3, .int (x3 + 1)), (4, .int x4), (5, .int x5)] d_X_fed_288 rfl rfl (by decide) rfl ?_
              refine zs_goto 61 d_X_fed_291 (by decide) ?_
              exact zRT_sub [0, 1, 2, 3, 4] rfl h
            · replace h := h.2 c16
              refine zs_aload_n 0 d_X_fed_274 rfl (List.mem_of_getElem? (i := 0) rfl) ?_
              refine zs_get d_X_fed_275 gf_X_50 (sh_35 g X) rfl ?_
              refine zs_iload d_X_fed_278 (List.mem_of_getElem? (i := 5) rfl) ?_
              refine zs_dup2 d_X_fed_280 rfl rfl ?_
              refine zs_iald d_X_fed_281 (sh_47 g X) b12 ?_
              refine zs_iconst 1 d_X_fed_282 (by decide) ?_
              refine zs_isub d_X_fed_283 ?_
              refine zs_iast d_X_fed_284 (sh_47 g X) b12 ?_
              refine zs_iinc2 4 (x4 + 1) [1, 2, 3, 4, 0, 5] [(0, .ref 35), (1, .int x1), (2, .int x2), (3, .int x3), (4, .int (x4 + 1)), (5, .int x5)] d_X_fed_285 rfl rfl (by decide) rfl ?_
              refine zs_iinc2 3 (x3 + 1) [1, 2, 3, 0, 4, 5] [(0, .ref 35), (1, .int x1), (2, .int x2), (3, .int (x3 + 1)), (4, .int (x4 + 1)), (5, .int x5)] d_X_fed_288 rfl rfl (by decide) rfl ?_
              refine zs_goto 61 d_X_fed_291 (by decide) ?_
              exact zRT_sub [0, 1, 2, 3, 4] rfl h
          · replace h := h.2 c15
            refine zs_aload_n 0 d_X_fed_244 rfl (List.mem_of_getElem? (i := 0) rfl) ?_
            refine zs_get d_X_fed_245 gf_X_44 (sh_35 g X) rfl ?_
            refine zs_iload_n 3 d_X_fed_248 rfl (List.mem_of_getElem? (i := 3) rfl) ?_
            refine zs_iconst (-1) d_X_fed_249 (by decide) ?_
            refine zs_iast d_X_fed_250 (sh_45 g X) b9 ?_
            refine zs_iinc2 3 (x3 + (-1)) [1, 2, 3, 0, 4, 5] [(0, .ref 35), (1, .int x1), (2, .int x2), (3, .int (x3 + (-1))), (4, .int x4), (5, .int x5)] d_X_fed_251 rfl rfl (by decide) rfl ?_
            refine zs_goto 61 d_X_fed_254 (by decide) ?_
            exact zRT_sub [0, 1, 2, 3, 4] rfl h
      · replace h := h.2 c13
        refine zs_iinc2 5 (x5 + 1) [1, 2, 3, 4, 5, 0] [(0, .ref 35), (1, .int x1), (2, .int x2), (3, .int x3), (4, .int x4), (5, .int (x5 + 1))] d_X_fed_218 rfl rfl (by decide) rfl ?_
        refine zs_goto 185 d_X_fed_221 (by decide) ?_
        exact h
theorem ex_X_fed (i : Int32) (hh : mK M) : zEx m_X_fed 0 0 [.ref 35, .int i] (SHP g X) M (qR g X (fun _ M2 => mAg M M2)) := by
  obtain ⟨hc, h10⟩ := mCnt_e hh.1
  -- the search for the next loaf
  have A : ∀ m, m < 6 → ∀ (x0 : Nat) (M0 : zMem) (Kd : ∀ M2 a b, mIv M M2 → (∀ k, k < m → M2 45 k = M0 45 k) → zRT m_X_fed 0 0 61 [(0, .ref 35), (1, .int i), (2, .int a), (3, .int (nI m + (-1))), (4, .int b)] [] (SHP g X) M2 (qR g X (fun _ M2 => mAg M M2))) (Ku : ∀ y M2 a b, x0 ≤ y → y ≤ mTN M → mIv M M2 → M2 45 m = nI y → (∀ k, k < m → M2 45 k = M0 45 k) → zRT m_X_fed 0 0 61 [(0, .ref 35), (1, .int i), (2, .int a), (3, .int (nI (m + 1))), (4, .int b)] [] (SHP g X) M2 (qR g X (fun _ M2 => mAg M M2))), ∀ d x M1 a b, x0 ≤ x → x + d = mTN M + 1 → mIv M M1 → (∀ k, k < m → M1 45 k = M0 45 k) → zRT m_X_fed 0 0 185 [(0, .ref 35), (1, .int i), (2, .int a), (3, .int (nI m)), (4, .int b), (5, .int (nI x))] [] (SHP g X) M1 (qR g X (fun _ M2 => mAg M M2)) := by
    intro m hm x0 M0 Kd Ku d
    induction d with
    | zero =>
      intro x M1 a b hx hxd hv hp
      have hm6 : vp_in (nI m) 6 := vp_in_nI (by omega) (by decide)
      have dn : ∀ a b, zRT m_X_fed 0 0 61 [(0, .ref 35), (1, .int i), (2, .int a), (3, .int (nI m + (-1))), (4, .int b)] [] (SHP g X) (zms M1 45 m (-1)) (qR g X (fun _ M2 => mAg M M2)) := fun a b => Kd _ a b (hv.s5 (Or.inl rfl)) (fun k hk => (m45_n (by omega)).trans (hp k hk))
      refine v_X_fed_185 g X _ _ _ _ _ _ _ ⟨fun _ => ?_, fun h => absurd (by rw [hv.1.e35, hc]; exact nI_le (by omega) (by omega)) h⟩
      rw [nI_clamp (n := m) (by omega), hv.1.e35, hc]
      exact ⟨fun _ => ⟨hm6, dn _ _⟩, fun h => absurd (nI_lt (by omega) (by omega)) h⟩
    | succ d ih =>
      intro x M1 a b hx hxd hv hp
      have hm6 : vp_in (nI m) 6 := vp_in_nI (by omega) (by decide)
      have dn : ∀ a b, zRT m_X_fed 0 0 61 [(0, .ref 35), (1, .int i), (2, .int a), (3, .int (nI m + (-1))), (4, .int b)] [] (SHP g X) (zms M1 45 m (-1)) (qR g X (fun _ M2 => mAg M M2)) := fun a b => Kd _ a b (hv.s5 (Or.inl rfl)) (fun k hk => (m45_n (by omega)).trans (hp k hk))
      have h1 : mIv M (zms M1 45 m (nI x)) := hv.s5 (Or.inr ⟨x, by omega, rfl⟩)
      have up : ∀ a b, zRT m_X_fed 0 0 61 [(0, .ref 35), (1, .int i), (2, .int a), (3, .int (nI (m + 1))), (4, .int b)] [] (SHP g X) (zms M1 45 m (nI x)) (qR g X (fun _ M2 => mAg M M2)) := fun a b => Ku x _ a b hx (by omega) h1 m45_s (fun k hk => (m45_n (by omega)).trans (hp k hk))
      have up2 : ∀ a b v, zRT m_X_fed 0 0 61 [(0, .ref 35), (1, .int i), (2, .int a), (3, .int (nI (m + 1))), (4, .int b)] [] (SHP g X) (zms (zms M1 45 m (nI x)) 47 x v) (qR g X (fun _ M2 => mAg M M2)) := fun a b v => Ku x _ a b hx (by omega) (h1.so (by decide)) ((m45_o (by decide) _).trans m45_s) (fun k hk => (m45_o (by decide) _).trans ((m45_n (by omega)).trans (hp k hk)))
      have nx : ∀ a b, zRT m_X_fed 0 0 185 [(0, .ref 35), (1, .int i), (2, .int a), (3, .int (nI m)), (4, .int b), (5, .int (nI (x + 1)))] [] (SHP g X) M1 (qR g X (fun _ M2 => mAg M M2)) := fun a b => ih (x + 1) M1 a b (by omega) (by omega) hv hp
      refine v_X_fed_185 g X _ _ _ _ _ _ _ ?_
      rw [nI_clamp (n := m) (by omega), nI_clamp (n := x) (by omega), nI_1, nI_1, hv.1.e35, hc]
      have x10 : ¬ nI (mTN M) ≤ nI x → vp_in (nI x) 10 := by
        intro h
        have : ¬ mTN M ≤ x := fun q => h (nI_le q (by omega))
        exact vp_in_nI (by omega) (by decide)
      exact ⟨fun _ => ⟨fun _ => ⟨hm6, dn _ _⟩, fun _ => ⟨fun _ => ⟨hm6, fun _ => up _ _, fun h => ⟨x10 h, up2 _ _ _⟩⟩, fun _ => ⟨hm6, dn _ _⟩⟩⟩, fun h => ⟨hm6, fun _ => nx _ _, fun _ => ⟨x10 h, fun _ => ⟨fun _ => dn _ _, fun _ => ⟨fun _ => ⟨fun _ => up _ _, fun _ => up2 _ _ _⟩, fun _ => dn _ _⟩⟩, fun _ => nx _ _⟩⟩⟩
  -- one man's turn, and all that come after him
  have P : ∀ c m, m + c = 6 → ∀ M1 a b, mIv M M1 → (∀ M2 a b, mIv M M2 → (∀ k, k < m → M2 45 k = M1 45 k) → zRT m_X_fed 0 0 61 [(0, .ref 35), (1, .int i), (2, .int a), (3, .int (nI m + (-1))), (4, .int b)] [] (SHP g X) M2 (qR g X (fun _ M2 => mAg M M2))) → zRT m_X_fed 0 0 61 [(0, .ref 35), (1, .int i), (2, .int a), (3, .int (nI m)), (4, .int b)] [] (SHP g X) M1 (qR g X (fun _ M2 => mAg M M2)) := by
    intro c
    induction c with
    | zero =>
      intro m hm M1 a b hv K
      have em : m = 6 := by omega
      subst em
      have L : ∀ d k M2, k + d = 6 → mIv M M2 → (∀ k, k < 6 → M2 45 k = M1 45 k) → zRT m_X_fed 0 0 83 [(0, .ref 35), (1, .int i), (2, .int b), (3, .int (nI 6)), (4, .int b), (5, .int (nI k))] [] (SHP g X) M2 (qR g X (fun _ M2 => mAg M M2)) := by
        intro d
        induction d with
        | zero =>
          intro k M2 hk hv2 hp
          exact v_X_fed_83 g X _ _ _ _ _ _ _ ⟨fun _ => K M2 _ _ hv2 hp, fun h => absurd (nI_le (a := 6) (by omega) (by omega)) h⟩
        | succ d ih =>
          intro k M2 hk hv2 hp
          refine v_X_fed_83 g X _ _ _ _ _ _ _ ⟨fun h => absurd h (nI_ge (b := 6) (by omega) (by omega)), fun _ => ⟨vp_in_nI (by omega) (by decide), ?_⟩⟩
          rw [nI_1]
          have i1 := fun v j => ih (k + 1) (zms M2 46 j v) (by omega) (hv2.so (by decide)) (fun q hq => (m45_o (by decide) _).trans (hp q hq))
          exact ⟨fun _ => i1 _ _, fun _ => i1 _ _⟩
      exact v_X_fed_61 g X _ _ _ _ _ _ ⟨fun h => absurd h (by decide), fun _ => ⟨fun h => absurd rfl h, fun _ => ⟨fun _ => K M1 _ _ hv (fun _ _ => rfl), fun _ => L 6 0 M1 rfl hv (fun _ _ => rfl)⟩⟩⟩
    | succ c ihc =>
      intro m hm M1 a b hv K
      have I : ∀ N x M2 a b, mTN M + 2 ≤ x + N → x ≤ mTN M + 1 → M2 45 m + 1 = nI x → mIv M M2 → (∀ k, k < m → M2 45 k = M1 45 k) → zRT m_X_fed 0 0 61 [(0, .ref 35), (1, .int i), (2, .int a), (3, .int (nI m)), (4, .int b)] [] (SHP g X) M2 (qR g X (fun _ M2 => mAg M M2)) := by
        intro N
        induction N with
        | zero => intro x M2 a b h1 h2; omega
        | succ N ihn =>
          intro x M2 a b h1 h2 hx hv2 hp
          have AA := A m (by omega) x M1 (fun M3 a b hv3 hp3 => K M3 a b hv3 hp3) (fun y M3 a b hy hyT hv3 e3 hp3 => ihc (m + 1) (by omega) M3 a b hv3 (fun M4 a b hv4 hp4 => by
            rw [pk_m1]
            refine ihn (y + 1) M4 a b (by omega) (by omega) ?_ hv4 (fun k hk => (hp4 k (by omega)).trans (hp3 k hk))
            rw [hp4 m (by omega), e3, nI_1]))
          have go := fun M3 a b hv3 hp3 => AA (mTN M + 1 - x) x M3 a b (by omega) (by omega) hv3 hp3
          refine v_X_fed_61 g X _ _ _ _ _ _ ⟨fun h => absurd h (nI_pos (by omega)), fun _ => ⟨fun _ => ?_, fun h => absurd h ?_⟩⟩
          · rw [nI_clamp (n := m) (by omega), hx]
            refine ⟨vp_in_nI (by omega) (by decide), fun _ => go _ _ _ hv2 hp, fun hn => ⟨fun _ => go _ _ _ hv2 hp, fun hl => ⟨?_, go _ _ _ (hv2.so (by decide)) (fun k hk => (m45_o (by decide) _).trans (hp k hk))⟩⟩⟩
            obtain ⟨e, he, -, r⟩ := hv2.2 m (by omega)
            rcases r with r | ⟨f, hf, r⟩
            · exact absurd r hn
            · rw [hv2.1.e35, hc, r] at hl
              have : ¬ mTN M ≤ f := fun q => hl (nI_le q (by omega))
              rw [r]
              exact vp_in_nI (by omega) (by decide)
          · intro q
            have := congrArg Int32.toNatClampNeg q
            rw [nI_clamp (by omega)] at this
            have e6 : Int32.toNatClampNeg 6 = 6 := by decide
            omega
      obtain ⟨e, he, he2, -⟩ := hv.2 m (by omega)
      exact I (mTN M + 2) e M1 a b (by omega) he he2 hv (fun _ _ => rfl)
  have F : ∀ M1 a b, mIv M M1 → zRT m_X_fed 0 0 61 [(0, .ref 35), (1, .int i), (2, .int a), (3, .int 0), (4, .int b)] [] (SHP g X) M1 (qR g X (fun _ M2 => mAg M M2)) := by
    intro M1 a b hv
    refine P 6 0 rfl M1 a b hv (fun M2 a b hv2 _ => ?_)
    exact v_X_fed_61 g X _ _ _ _ _ _ ⟨fun _ => ⟨fun _ => ⟨fun _ => qR_i hv2.1, fun h => ⟨isM_in h, qR_i hv2.1⟩⟩, fun _ => qR_i hv2.1⟩, fun h => absurd (by decide) h⟩
  have L2 : ∀ d k a M1, k + d = 6 → mAg M M1 → (∀ j, j < k → M1 45 j = -1) → zRT m_X_fed 0 0 37 [(0, .ref 35), (1, .int i), (2, .int a), (3, .int (nI k))] [] (SHP g X) M1 (qR g X (fun _ M2 => mAg M M2)) := by
    intro d
    induction d with
    | zero =>
      intro k a M1 hk ha hj
      exact v_X_fed_37 g X _ _ _ _ _ ⟨fun _ => F M1 _ _ ⟨ha, fun j h => mE_m1 (hj j (by omega))⟩, fun h => absurd (nI_le (a := 6) (by omega) (by omega)) h⟩
    | succ d ih =>
      intro k a M1 hk ha hj
      refine v_X_fed_37 g X _ _ _ _ _ ⟨fun h => absurd h (nI_ge (b := 6) (by omega) (by omega)), fun _ => ⟨vp_in_nI (by omega) (by decide), ?_⟩⟩
      rw [nI_1, nI_clamp (by omega)]
      refine ih (k + 1) a _ (by omega) (ha.st (by decide)) (fun j h => ?_)
      by_cases q : j = k
      · rw [q]; exact m45_s
      · exact (m45_n q).trans (hj j (by omega))
  have L1 : ∀ d k a M1, k + d = mTN M → mAg M M1 → zRT m_X_fed 0 0 9 [(0, .ref 35), (1, .int i), (2, .int a), (3, .int (nI k))] [] (SHP g X) M1 (qR g X (fun _ M2 => mAg M M2)) := by
    intro d
    induction d with
    | zero =>
      intro k a M1 hk ha
      exact v_X_fed_9 g X _ _ _ _ _ ⟨fun _ => L2 6 0 _ M1 rfl ha (fun j h => absurd h (by omega)), fun h => absurd (by rw [ha.e35, hc]; exact nI_le (by omega) (by omega)) h⟩
    | succ d ih =>
      intro k a M1 hk ha
      refine v_X_fed_9 g X _ _ _ _ _ ⟨fun h => absurd h (by rw [ha.e35, hc]; exact nI_ge (by omega) (by omega)), fun _ => ⟨vp_in_nI (by omega) (by decide), ?_⟩⟩
      rw [nI_1]
      exact ih (k + 1) a _ (by omega) (ha.st (by decide))
  refine zEx_of _ (by decide) (by simp [Value.category]) (Nat.le_of_ble_eq_true rfl) rfl (v_X_fed_0 g X M i _ ⟨hh, fun M1 h1 => ?_⟩)
  exact L1 (mTN M) 0 _ M1 (by omega) h1
theorem v_X_lack_0 (g : Nat → Option Nat) (X : List zShp) (M : zMem) (R : zEnd) (h : (mK M) ∧ (∀ (M1 : zMem), (mAg M M1) → (zRT m_X_lack 0 0 6 [(0, .ref 35), (1, .int 1)] [] (SHP g X) M1 R))) : zRT m_X_lack 0 0 0 [(0, .ref 35)] [] (SHP g X) M R := by
  refine zs_aload_n 0 d_X_lack_0 rfl (List.mem_of_getElem? (i := 0) rfl) ?_
  obtain ⟨p1, h⟩ := h
  refine zs_callV (kc := 0) (ks := 0) (kc1 := 0) (ks1 := 0) (st := []) [] d_X_lack_1 lk_X_147 ⟨by decide, by decide⟩ rfl (sh_35 g X) rfl (Nat.le_of_ble_eq_true rfl) (ex_X_layMays g X M p1) (fun v1 sh1 M1 hR => ?_)
  obtain ⟨rfl, rfl, hq1⟩ := hR
  replace h := h M1 hq1
  refine zs_iconst 1 d_X_lack_4 (by decide) ?_
  refine zs_istore_n2 1 [1, 0] [(0, .ref 35), (1, .int 1)] d_X_lack_5 rfl (by decide) rfl ?_
  exact h
theorem v_X_lack_6 (g : Nat → Option Nat) (X : List zShp) (M : zMem) (x1 : Int32) (R : zEnd) (h : ((64 ≤ x1) → (R (some (.int (-6))) (SHP g X) M)) ∧ ((¬ 64 ≤ x1) → (zRT m_X_lack 0 0 16 [(0, .ref 35), (1, .int x1), (2, .int 0), (3, .int 0)] [] (SHP g X) M R))) : zRT m_X_lack 0 0 6 [(0, .ref 35), (1, .int x1)] [] (SHP g X) M R := by
  refine zs_iload_n 1 d_X_lack_6 rfl (List.mem_of_getElem? (i := 1) rfl) ?_
  refine zs_bipush 64 d_X_lack_7 (by decide) ?_
  refine zs_icmp_ge 108 d_X_lack_9 (by decide) (fun c1 => ?_) (fun c1 => ?_)
  · replace h := h.1 c1
    refine zs_bipush (-6) d_X_lack_108 (by decide) ?_
    exact zs_iret d_X_lack_110 rfl h
  · replace h := h.2 c1
    refine zs_iconst 0 d_X_lack_12 (by decide) ?_
    refine zs_istore_n2 2 [1, 2, 0] [(0, .ref 35), (1, .int x1), (2, .int 0)] d_X_lack_13 rfl (by decide) rfl ?_
    refine zs_iconst 0 d_X_lack_14 (by decide) ?_
    refine zs_istore_n2 3 [1, 2, 3, 0] [(0, .ref 35), (1, .int x1), (2, .int 0), (3, .int 0)] d_X_lack_15 rfl (by decide) rfl ?_
    exact h
theorem v_X_lack_16 (g : Nat → Option Nat) (X : List zShp) (M : zMem) (x1 x2 x3 : Int32) (R : zEnd) (h : ((6 ≤ x3) → (zRT m_X_lack 0 0 54 [(0, .ref 35), (1, .int x1), (2, .int x2), (3, .int 0), (4, .int 0)] [] (SHP g X) M R)) ∧ ((¬ 6 ≤ x3) → ((((hb x1 x3) = false) → (zRT m_X_lack 0 0 16 [(0, .ref 35), (1, .int x1), (2, .int (x2 ||| 0)), (3, .int (x3 + 1))] [] (SHP g X) M R)) ∧ (((hb x1 x3) = true) → ((vp_in x3 6) ∧ (zRT m_X_lack 0 0 16 [(0, .ref 35), (1, .int x1), (2, .int (x2 ||| (M 44 (Int32.toNatClampNeg x3)))), (3, .int (x3 + 1))] [] (SHP g X) M R)))))) : zRT m_X_lack 0 0 16 [(0, .ref 35), (1, .int x1), (2, .int x2), (3, .int x3)] [] (SHP g X) M R := by
  refine zs_iload_n 3 d_X_lack_16 rfl (List.mem_of_getElem? (i := 3) rfl) ?_
  refine zs_bipush 6 d_X_lack_17 (by decide) ?_
  refine zs_icmp_ge 49 d_X_lack_19 (by decide) (fun c1 => ?_) (fun c1 => ?_)
  · replace h := h.1 c1
    refine zs_iconst 0 d_X_lack_49 (by decide) ?_
    refine zs_istore_n2 3 [1, 2, 3, 0] [(0, .ref 35), (1, .int x1), (2, .int x2), (3, .int 0)] d_X_lack_50 rfl (by decide) rfl ?_
    refine zs_iconst 0 d_X_lack_51 (by decide) ?_
    refine zs_istore2 [1, 2, 3, 4, 0] [(0, .ref 35), (1, .int x1), (2, .int x2), (3, .int 0), (4, .int 0)] d_X_lack_52 (by decide) rfl ?_
    exact h
  · replace h := h.2 c1
    refine zs_iload_n 2 d_X_lack_22 rfl (List.mem_of_getElem? (i := 2) rfl) ?_
    refine zs_iload_n 1 d_X_lack_23 rfl (List.mem_of_getElem? (i := 1) rfl) ?_
    refine zs_iload_n 3 d_X_lack_24 rfl (List.mem_of_getElem? (i := 3) rfl) ?_
    refine zs_callS (kc := 0) (ks := 0) (kc1 := 0) (ks1 := 0) (st := [.int x2]) [.int x1, .int x3] d_X_lack_25 lk_X_98 ⟨by decide, by decide⟩ rfl (Nat.le_of_ble_eq_true rfl) (ex_X_has g X M x1 x3) (fun v2 sh2 M2 hR => ?_)
    obtain ⟨rfl, rfl, rfl⟩ := hR
    refine zs_if_eq 40 d_X_lack_28 (by decide) (fun c3 => ?_) (fun c3 => ?_)
    · replace h := h.1 (bI_0 c3)
      refine zs_iconst 0 d_X_lack_40 (by decide) ?_
      refine zs_ior d_X_lack_41 ?_
      refine zs_istore_n2 2 [1, 2, 0, 3] [(0, .ref 35), (1, .int x1), (2, .int (x2 ||| 0)), (3, .int x3)] d_X_lack_42 rfl (by decide) rfl ?_
      refine zs_iinc2 3 (x3 + 1) [1, 2, 3, 0] [(0, .ref 35), (1, .int x1), (2, .int (x2 ||| 0)), (3, .int (x3 + 1))] d_X_lack_43 rfl rfl (by decide) rfl ?_
      refine zs_goto 16 d_X_lack_46 (by decide) ?_
      exact h
    · replace h := h.2 (bI_1 c3)
      refine zs_aload_n 0 d_X_lack_31 rfl (List.mem_of_getElem? (i := 0) rfl) ?_
      refine zs_get d_X_lack_32 gf_X_41 (sh_35 g X) rfl ?_
      refine zs_iload_n 3 d_X_lack_35 rfl (List.mem_of_getElem? (i := 3) rfl) ?_
      obtain ⟨b4, h⟩ := h
      refine zs_iald d_X_lack_36 (sh_44 g X) b4 ?_
      refine zs_goto 41 d_X_lack_37 (by decide) ?_
      refine zs_ior d_X_lack_41 ?_
      refine zs_istore_n2 2 [1, 2, 0, 3] [(0, .ref 35), (1, .int x1), (2, .int (x2 ||| (M 44 (Int32.toNatClampNeg x3)))), (3, .int x3)] d_X_lack_42 rfl (by decide) rfl ?_
      refine zs_iinc2 3 (x3 + 1) [1, 2, 3, 0] [(0, .ref 35), (1, .int x1), (2, .int (x2 ||| (M 44 (Int32.toNatClampNeg x3)))), (3, .int (x3 + 1))] d_X_lack_43 rfl rfl (by decide) rfl ?_
      refine zs_goto 16 d_X_lack_46 (by decide) ?_
      exact h
theorem v_X_lack_54 (g : Nat → Option Nat) (X : List zShp) (M : zMem) (x1 x2 x3 x4 : Int32) (R : zEnd) (h : (((M 35 6) ≤ x4) → ((((bt6 x1) ≤ x3) → (zRT m_X_lack 0 0 6 [(0, .ref 35), (1, .int (x1 + 1))] [] (SHP g X) M R)) ∧ ((¬ (bt6 x1) ≤ x3) → (R (some (.int x1)) (SHP g X) M)))) ∧ ((¬ (M 35 6) ≤ x4) → ((((hb x2 x4) = false) → (zRT m_X_lack 0 0 54 [(0, .ref 35), (1, .int x1), (2, .int x2), (3, .int (x3 + 0)), (4, .int (x4 + 1))] [] (SHP g X) M R)) ∧ (((hb x2 x4) = true) → ((vp_in x4 10) ∧ (zRT m_X_lack 0 0 54 [(0, .ref 35), (1, .int x1), (2, .int x2), (3, .int (x3 + (M 39 (Int32.toNatClampNeg x4)))), (4, .int (x4 + 1))] [] (SHP g X) M R)))))) : zRT m_X_lack 0 0 54 [(0, .ref 35), (1, .int x1), (2, .int x2), (3, .int x3), (4, .int x4)] [] (SHP g X) M R := by
  refine zs_iload d_X_lack_54 (List.mem_of_getElem? (i := 4) rfl) ?_
  refine zs_aload_n 0 d_X_lack_56 rfl (List.mem_of_getElem? (i := 0) rfl) ?_
  refine zs_get d_X_lack_57 gf_X_70 (sh_35 g X) rfl ?_
  refine zs_icmp_ge 92 d_X_lack_60 (by decide) (fun c1 => ?_) (fun c1 => ?_)
  · replace h := h.1 c1
    refine zs_iload_n 3 d_X_lack_92 rfl (List.mem_of_getElem? (i := 3) rfl) ?_
    refine zs_iload_n 1 d_X_lack_93 rfl (List.mem_of_getElem? (i := 1) rfl) ?_
    refine zs_callS (kc := 0) (ks := 0) (kc1 := 0) (ks1 := 0) (st := [.int x3]) [.int x1] d_X_lack_94 lk_X_109 ⟨by decide, by decide⟩ rfl (Nat.le_of_ble_eq_true rfl) (ex_X_bits g X M x1) (fun v2 sh2 M2 hR => ?_)
    obtain ⟨rfl, rfl, rfl⟩ := hR
    refine zs_icmp_ge 102 d_X_lack_97 (by decide) (fun c3 => ?_) (fun c3 => ?_)
    · replace h := h.1 c3
      refine zs_iinc2 1 (x1 + 1) [1, 0, 2, 3, 4] [(0, .ref 35), (1, .int (x1 + 1)), (2, .int x2), (3, .int x3), (4, .int x4)] d_X_lack_102 rfl rfl (by decide) rfl ?_
      refine zs_goto 6 d_X_lack_105 (by decide) ?_
      exact zRT_sub [0, 1] rfl h
    · replace h := h.2 c3
      refine zs_iload_n 1 d_X_lack_100 rfl (List.mem_of_getElem? (i := 1) rfl) ?_
      exact zs_iret d_X_lack_101 rfl h
  · replace h := h.2 c1
    refine zs_iload_n 3 d_X_lack_63 rfl (List.mem_of_getElem? (i := 3) rfl) ?_
    refine zs_iload_n 2 d_X_lack_64 rfl (List.mem_of_getElem? (i := 2) rfl) ?_
    refine zs_iload d_X_lack_65 (List.mem_of_getElem? (i := 4) rfl) ?_
    refine zs_callS (kc := 0) (ks := 0) (kc1 := 0) (ks1 := 0) (st := [.int x3]) [.int x2, .int x4] d_X_lack_67 lk_X_98 ⟨by decide, by decide⟩ rfl (Nat.le_of_ble_eq_true rfl) (ex_X_has g X M x2 x4) (fun v4 sh4 M4 hR => ?_)
    obtain ⟨rfl, rfl, rfl⟩ := hR
    refine zs_if_eq 83 d_X_lack_70 (by decide) (fun c5 => ?_) (fun c5 => ?_)
    · replace h := h.1 (bI_0 c5)
      refine zs_iconst 0 d_X_lack_83 (by decide) ?_
      refine zs_iadd d_X_lack_84 ?_
      refine zs_istore_n2 3 [1, 2, 3, 0, 4] [(0, .ref 35), (1, .int x1), (2, .int x2), (3, .int (x3 + 0)), (4, .int x4)] d_X_lack_85 rfl (by decide) rfl ?_
      refine zs_iinc2 4 (x4 + 1) [1, 2, 3, 4, 0] [(0, .ref 35), (1, .int x1), (2, .int x2), (3, .int (x3 + 0)), (4, .int (x4 + 1))] d_X_lack_86 rfl rfl (by decide) rfl ?_
      refine zs_goto 54 d_X_lack_89 (by decide) ?_
      exact h
    · replace h := h.2 (bI_1 c5)
      refine zs_aload_n 0 d_X_lack_73 rfl (List.mem_of_getElem? (i := 0) rfl) ?_
      refine zs_get d_X_lack_74 gf_X_26 (sh_35 g X) rfl ?_
      refine zs_iload d_X_lack_77 (List.mem_of_getElem? (i := 4) rfl) ?_
      obtain ⟨b6, h⟩ := h
      refine zs_iald d_X_lack_79 (sh_39 g X) b6 ?_
      refine zs_goto 84 d_X_lack_80 (by decide) ?_
      refine zs_iadd d_X_lack_84 ?_
      refine zs_istore_n2 3 [1, 2, 3, 0, 4] [(0, .ref 35), (1, .int x1), (2, .int x2), (3, .int (x3 + (M 39 (Int32.toNatClampNeg x4)))), (4, .int x4)] d_X_lack_85 rfl (by decide) rfl ?_
      refine zs_iinc2 4 (x4 + 1) [1, 2, 3, 4, 0] [(0, .ref 35), (1, .int x1), (2, .int x2), (3, .int (x3 + (M 39 (Int32.toNatClampNeg x4)))), (4, .int (x4 + 1))] d_X_lack_86 rfl rfl (by decide) rfl ?_
      refine zs_goto 54 d_X_lack_89 (by decide) ?_
      exact h
theorem ex_X_lack (hh : mK M) : zEx m_X_lack 0 0 [.ref 35] (SHP g X) M (qR g X (fun _ M2 => mAg M M2)) := by
  obtain ⟨hc, h10⟩ := mCnt_e hh.1
  refine zEx_of _ (by decide) (by simp [Value.category]) (Nat.le_of_ble_eq_true rfl) rfl (v_X_lack_0 g X M _ ⟨hh, fun M1 ha => ?_⟩)
  have L3 : ∀ (s : Int32) (K : zRT m_X_lack 0 0 6 [(0, .ref 35), (1, .int (s + 1))] [] (SHP g X) M1 (qR g X (fun _ M2 => mAg M M2))), ∀ d k w a, k + d = mTN M → zRT m_X_lack 0 0 54 [(0, .ref 35), (1, .int s), (2, .int w), (3, .int a), (4, .int (nI k))] [] (SHP g X) M1 (qR g X (fun _ M2 => mAg M M2)) := by
    intro s K d
    induction d with
    | zero =>
      intro k w a hk
      exact v_X_lack_54 g X _ _ _ _ _ _ ⟨fun _ => ⟨fun _ => K, fun _ => qR_i ha⟩, fun h => absurd (by rw [ha.e35, hc]; exact nI_le (by omega) (by omega)) h⟩
    | succ d ih =>
      intro k w a hk
      refine v_X_lack_54 g X _ _ _ _ _ _ ⟨fun h => absurd h (by rw [ha.e35, hc]; exact nI_ge (by omega) (by omega)), fun _ => ?_⟩
      rw [nI_1]
      exact ⟨fun _ => ih (k + 1) _ _ (by omega), fun _ => ⟨vp_in_nI (by omega) (by decide), ih (k + 1) _ _ (by omega)⟩⟩
  have L2 : ∀ (s : Int32) (K : zRT m_X_lack 0 0 6 [(0, .ref 35), (1, .int (s + 1))] [] (SHP g X) M1 (qR g X (fun _ M2 => mAg M M2))), ∀ d k w, k + d = 6 → zRT m_X_lack 0 0 16 [(0, .ref 35), (1, .int s), (2, .int w), (3, .int (nI k))] [] (SHP g X) M1 (qR g X (fun _ M2 => mAg M M2)) := by
    intro s K d
    induction d with
    | zero =>
      intro k w hk
      exact v_X_lack_16 g X _ _ _ _ _ ⟨fun _ => L3 s K (mTN M) 0 _ _ (by omega), fun h => absurd (nI_le (a := 6) (by omega) (by omega)) h⟩
    | succ d ih =>
      intro k w hk
      refine v_X_lack_16 g X _ _ _ _ _ ⟨fun h => absurd h (nI_ge (b := 6) (by omega) (by omega)), fun _ => ?_⟩
      rw [nI_1]
      exact ⟨fun _ => ih (k + 1) _ (by omega), fun _ => ⟨vp_in_nI (by omega) (by decide), ih (k + 1) _ (by omega)⟩⟩
  have L1 : ∀ d k, k + d = 64 → zRT m_X_lack 0 0 6 [(0, .ref 35), (1, .int (nI k))] [] (SHP g X) M1 (qR g X (fun _ M2 => mAg M M2)) := by
    intro d
    induction d with
    | zero =>
      intro k hk
      exact v_X_lack_6 g X _ _ _ ⟨fun _ => qR_i ha, fun h => absurd (nI_le (a := 64) (by omega) (by omega)) h⟩
    | succ d ih =>
      intro k hk
      refine v_X_lack_6 g X _ _ _ ⟨fun h => absurd h (nI_ge (b := 64) (by omega) (by omega)), fun _ => ?_⟩
      exact L2 (nI k) (by rw [nI_1]; exact ih (k + 1) (by omega)) 6 0 _ rfl
  exact L1 63 1 rfl
theorem v_X_feeds_0 (g : Nat → Option Nat) (X : List zShp) (M : zMem) (x1 x2 : Int32) (R : zEnd) (h : zRT m_X_feeds 0 0 2 [(0, .ref 35), (1, .int x1), (2, .int x2), (3, .int 1)] [] (SHP g X) M R) : zRT m_X_feeds 0 0 0 [(0, .ref 35), (1, .int x1), (2, .int x2)] [] (SHP g X) M R := by
  refine zs_iconst 1 d_X_feeds_0 (by decide) ?_
  refine zs_istore_n2 3 [1, 2, 3, 0] [(0, .ref 35), (1, .int x1), (2, .int x2), (3, .int 1)] d_X_feeds_1 rfl (by decide) rfl ?_
  exact h
theorem v_X_feeds_2 (g : Nat → Option Nat) (X : List zShp) (M : zMem) (x1 x2 x3 : Int32) (R : zEnd) (h : ((64 ≤ x3) → (R (some (.int 1)) (SHP g X) M)) ∧ ((¬ 64 ≤ x3) → (zRT m_X_feeds 0 0 14 [(0, .ref 35), (1, .int x1), (2, .int x2), (3, .int x3), (4, .int 0), (5, .int 0)] [] (SHP g X) M R))) : zRT m_X_feeds 0 0 2 [(0, .ref 35), (1, .int x1), (2, .int x2), (3, .int x3)] [] (SHP g X) M R := by
  refine zs_iload_n 3 d_X_feeds_2 rfl (List.mem_of_getElem? (i := 3) rfl) ?_
  refine zs_bipush 64 d_X_feeds_3 (by decide) ?_
  refine zs_icmp_ge 104 d_X_feeds_5 (by decide) (fun c1 => ?_) (fun c1 => ?_)
  · replace h := h.1 c1
    refine zs_iconst 1 d_X_feeds_104 (by decide) ?_
    exact zs_zret (by decide) d_X_feeds_105 rfl h
  · replace h := h.2 c1
    refine zs_iconst 0 d_X_feeds_8 (by decide) ?_
    refine zs_istore2 [1, 2, 3, 4, 0] [(0, .ref 35), (1, .int x1), (2, .int x2), (3, .int x3), (4, .int 0)] d_X_feeds_9 (by decide) rfl ?_
    refine zs_iconst 0 d_X_feeds_11 (by decide) ?_
    refine zs_istore2 [1, 2, 3, 4, 5, 0] [(0, .ref 35), (1, .int x1), (2, .int x2), (3, .int x3), (4, .int 0), (5, .int 0)] d_X_feeds_12 (by decide) rfl ?_
    exact h
theorem v_X_feeds_14 (g : Nat → Option Nat) (X : List zShp) (M : zMem) (x1 x2 x3 x4 x5 : Int32) (R : zEnd) (h : ((6 ≤ x5) → ((((bt6 x3) ≤ x4) → (zRT m_X_feeds 0 0 2 [(0, .ref 35), (1, .int x1), (2, .int x2), (3, .int (x3 + 1))] [] (SHP g X) M R)) ∧ ((¬ (bt6 x3) ≤ x4) → (R (some (.int 0)) (SHP g X) M)))) ∧ ((¬ 6 ≤ x5) → ((vp_in x5 6) ∧ ((((M 36 (Int32.toNatClampNeg x5)) < 0) → ((((hb x1 x5) = false) → (zRT m_X_feeds 0 0 14 [(0, .ref 35), (1, .int x1), (2, .int x2), (3, .int x3), (4, .int (x4 + 0)), (5, .int (x5 + 1))] [] (SHP g X) M R)) ∧ (((hb x1 x5) = true) → (((((x3 &&& (((1 : Int32) <<< (x5 &&& 31)) ^^^ (-1))) &&& ((0 : Int32) ^^^ (-1))) = 0) → (zRT m_X_feeds 0 0 14 [(0, .ref 35), (1, .int x1), (2, .int x2), (3, .int x3), (4, .int (x4 + 0)), (5, .int (x5 + 1))] [] (SHP g X) M R)) ∧ ((¬ ((x3 &&& (((1 : Int32) <<< (x5 &&& 31)) ^^^ (-1))) &&& ((0 : Int32) ^^^ (-1))) = 0) → (zRT m_X_feeds 0 0 14 [(0, .ref 35), (1, .int x1), (2, .int x2), (3, .int x3), (4, .int (x4 + x2)), (5, .int (x5 + 1))] [] (SHP g X) M R)))))) ∧ ((¬ (M 36 (Int32.toNatClampNeg x5)) < 0) → ((((hb x1 x5) = false) → (zRT m_X_feeds 0 0 14 [(0, .ref 35), (1, .int x1), (2, .int x2), (3, .int x3), (4, .int (x4 + 0)), (5, .int (x5 + 1))] [] (SHP g X) M R)) ∧ (((hb x1 x5) = true) → (((((x3 &&& (((1 : Int32) <<< (x5 &&& 31)) ^^^ (-1))) &&& (((1 : Int32) <<< ((M 36 (Int32.toNatClampNeg x5)) &&& 31)) ^^^ (-1))) = 0) → (zRT m_X_feeds 0 0 14 [(0, .ref 35), (1, .int x1), (2, .int x2), (3, .int x3), (4, .int (x4 + 0)), (5, .int (x5 + 1))] [] (SHP g X) M R)) ∧ ((¬ ((x3 &&& (((1 : Int32) <<< (x5 &&& 31)) ^^^ (-1))) &&& (((1 : Int32) <<< ((M 36 (Int32.toNatClampNeg x5)) &&& 31)) ^^^ (-1))) = 0) → (zRT m_X_feeds 0 0 14 [(0, .ref 35), (1, .int x1), (2, .int x2), (3, .int x3), (4, .int (x4 + x2)), (5, .int (x5 + 1))] [] (SHP g X) M R)))))))))) : zRT m_X_feeds 0 0 14 [(0, .ref 35), (1, .int x1), (2, .int x2), (3, .int x3), (4, .int x4), (5, .int x5)] [] (SHP g X) M R := by
  refine zs_iload d_X_feeds_14 (List.mem_of_getElem? (i := 5) rfl) ?_
  refine zs_bipush 6 d_X_feeds_16 (by decide) ?_
  refine zs_icmp_ge 87 d_X_feeds_18 (by decide) (fun c1 => ?_) (fun c1 => ?_)
  · replace h := h.1 c1
    refine zs_iload d_X_feeds_87 (List.mem_of_getElem? (i := 4) rfl) ?_
    refine zs_iload_n 3 d_X_feeds_89 rfl (List.mem_of_getElem? (i := 3) rfl) ?_
    refine zs_callS (kc := 0) (ks := 0) (kc1 := 0) (ks1 := 0) (st := [.int x4]) [.int x3] d_X_feeds_90 lk_X_109 ⟨by decide, by decide⟩ rfl (Nat.le_of_ble_eq_true rfl) (ex_X_bits g X M x3) (fun v2 sh2 M2 hR => ?_)
    obtain ⟨rfl, rfl, rfl⟩ := hR
    refine zs_icmp_ge 98 d_X_feeds_93 (by decide) (fun c3 => ?_) (fun c3 => ?_)
    · replace h := h.1 c3
      refine zs_iinc2 3 (x3 + 1) [1, 2, 3, 0, 4, 5] [(0, .ref 35), (1, .int x1), (2, .int x2), (3, .int (x3 + 1)), (4, .int x4), (5, .int x5)] d_X_feeds_98 rfl rfl (by decide) rfl ?_
      refine zs_goto 2 d_X_feeds_101 (by decide) ?_
      exact zRT_sub [0, 1, 2, 3] rfl h
    · replace h := h.2 c3
      refine zs_iconst 0 d_X_feeds_96 (by decide) ?_
      exact zs_zret (by decide) d_X_feeds_97 rfl h
  · replace h := h.2 c1
    refine zs_iload_n 3 d_X_feeds_21 rfl (List.mem_of_getElem? (i := 3) rfl) ?_
    refine zs_iconst 1 d_X_feeds_22 (by decide) ?_
    refine zs_iload d_X_feeds_23 (List.mem_of_getElem? (i := 5) rfl) ?_
    refine zs_ishl d_X_feeds_25 ?_
    refine zs_iconst (-1) d_X_feeds_26 (by decide) ?_
    refine zs_ixor d_X_feeds_27 ?_
    refine zs_iand d_X_feeds_28 ?_
    refine zs_aload_n 0 d_X_feeds_29 rfl (List.mem_of_getElem? (i := 0) rfl) ?_
    refine zs_get d_X_feeds_30 gf_X_16 (sh_35 g X) rfl ?_
    refine zs_iload d_X_feeds_33 (List.mem_of_getElem? (i := 5) rfl) ?_
    obtain ⟨b4, h⟩ := h
    refine zs_iald d_X_feeds_35 (sh_36 g X) b4 ?_
    refine zs_if_lt 51 d_X_feeds_36 (by decide) (fun c5 => ?_) (fun c5 => ?_)
    · replace h := h.1 c5
      refine zs_iconst 0 d_X_feeds_51 (by decide) ?_
      refine zs_iconst (-1) d_X_feeds_52 (by decide) ?_
      refine zs_ixor d_X_feeds_53 ?_
      refine zs_iand d_X_feeds_54 ?_
      refine zs_istore2 [1, 2, 3, 4, 5, 6, 0] [(0, .ref 35), (1, .int x1), (2, .int x2), (3, .int x3), (4, .int x4), (5, .int x5), (6, .int ((x3 &&& (((1 : Int32) <<< (x5 &&& 31)) ^^^ (-1))) &&& ((0 : Int32) ^^^ (-1))))] d_X_feeds_55 (by decide) rfl ?_
      refine zs_iload d_X_feeds_57 (List.mem_of_getElem? (i := 4) rfl) ?_
      refine zs_iload_n 1 d_X_feeds_59 rfl (List.mem_of_getElem? (i := 1) rfl) ?_
      refine zs_iload d_X_feeds_60 (List.mem_of_getElem? (i := 5) rfl) ?_
      refine zs_callS (kc := 0) (ks := 0) (kc1 := 0) (ks1 := 0) (st := [.int x4]) [.int x1, .int x5] d_X_feeds_62 lk_X_98 ⟨by decide, by decide⟩ rfl (Nat.le_of_ble_eq_true rfl) (ex_X_has g X M x1 x5) (fun v6 sh6 M6 hR => ?_)
      obtain ⟨rfl, rfl, rfl⟩ := hR
      refine zs_if_eq 77 d_X_feeds_65 (by decide) (fun c7 => ?_) (fun c7 => ?_)
      · replace h := h.1 (bI_0 c7)
        refine zs_iconst 0 d_X_feeds_77 (by decide) ?_
        refine zs_iadd d_X_feeds_78 ?_
        refine zs_istore2 [1, 2, 3, 4, 0, 5, 6] [(0, .ref 35), (1, .int x1), (2, .int x2), (3, .int x3), (4, .int (x4 + 0)), (5, .int x5), (6, .int ((x3 &&& (((1 : Int32) <<< (x5 &&& 31)) ^^^ (-1))) &&& ((0 : Int32) ^^^ (-1))))] d_X_feeds_79 (by decide) rfl ?_
        refine zs_iinc2 5 (x5 + 1) [1, 2, 3, 4, 5, 0, 6] [(0, .ref 35), (1, .int x1), (2, .int x2), (3, .int x3), (4, .int (x4 + 0)), (5, .int (x5 + 1)), (6, .int ((x3 &&& (((1 : Int32) <<< (x5 &&& 31)) ^^^ (-1))) &&& ((0 : Int32) ^^^ (-1))))] d_X_feeds_81 rfl rfl (by decide) rfl ?_
        refine zs_goto 14 d_X_feeds_84 (by decide) ?_
        exact zRT_sub [0, 1, 2, 3, 4, 5] rfl h
      · replace h := h.2 (bI_1 c7)
        refine zs_iload d_X_feeds_68 (List.mem_of_getElem? (i := 6) rfl) ?_
        refine zs_if_eq 77 d_X_feeds_70 (by decide) (fun c8 => ?_) (fun c8 => ?_)
        · replace h := h.1 c8
          refine zs_iconst 0 d_X_feeds_77 (by decide) ?_
          refine zs_iadd d_X_feeds_78 ?_
          refine zs_istore2 [1, 2, 3, 4, 0, 5, 6] [(0, .ref 35), (1, .int x1), (2, .int x2), (3, .int x3), (4, .int (x4 + 0)), (5, .int x5), (6, .int ((x3 &&& (((1 : Int32) <<< (x5 &&& 31)) ^^^ (-1))) &&& ((0 : Int32) ^^^ (-1))))] d_X_feeds_79 (by decide) rfl ?_
          refine zs_iinc2 5 (x5 + 1) [1, 2, 3, 4, 5, 0, 6] [(0, .ref 35), (1, .int x1), (2, .int x2), (3, .int x3), (4, .int (x4 + 0)), (5, .int (x5 + 1)), (6, .int ((x3 &&& (((1 : Int32) <<< (x5 &&& 31)) ^^^ (-1))) &&& ((0 : Int32) ^^^ (-1))))] d_X_feeds_81 rfl rfl (by decide) rfl ?_
          refine zs_goto 14 d_X_feeds_84 (by decide) ?_
          exact zRT_sub [0, 1, 2, 3, 4, 5] rfl h
        · replace h := h.2 c8
          refine zs_iload_n 2 d_X_feeds_73 rfl (List.mem_of_getElem? (i := 2) rfl) ?_
          refine zs_goto 78 d_X_feeds_74 (by decide) ?_
          refine zs_iadd d_X_feeds_78 ?_
          refine zs_istore2 [1, 2, 3, 4, 0, 5, 6] [(0, .ref 35), (1, .int x1), (2, .int x2), (3, .int x3), (4, .int (x4 + x2)), (5, .int x5), (6, .int ((x3 &&& (((1 : Int32) <<< (x5 &&& 31)) ^^^ (-1))) &&& ((0 : Int32) ^^^ (-1))))] d_X_feeds_79 (by decide) rfl ?_
          refine zs_iinc2 5 (x5 + 1) [1, 2, 3, 4, 5, 0, 6] [(0, .ref 35), (1, .int x1), (2, .int x2), (3, .int x3), (4, .int (x4 + x2)), (5, .int (x5 + 1)), (6, .int ((x3 &&& (((1 : Int32) <<< (x5 &&& 31)) ^^^ (-1))) &&& ((0 : Int32) ^^^ (-1))))] d_X_feeds_81 rfl rfl (by decide) rfl ?_
          refine zs_goto 14 d_X_feeds_84 (by decide) ?_
          exact zRT_sub [0, 1, 2, 3, 4, 5] rfl h
    · replace h := h.2 c5
      refine zs_iconst 1 d_X_feeds_39 (by decide) ?_
      refine zs_aload_n 0 d_X_feeds_40 rfl (List.mem_of_getElem? (i := 0) rfl) ?_
      refine zs_get d_X_feeds_41 gf_X_16 (sh_35 g X) rfl ?_
      refine zs_iload d_X_feeds_44 (List.mem_of_getElem? (i := 5) rfl) ?_
      refine zs_iald d_X_feeds_46 (sh_36 g X) b4 ?_
      refine zs_ishl d_X_feeds_47 ?_
      refine zs_goto 52 d_X_feeds_48 (by decide) ?_
      refine zs_iconst (-1) d_X_feeds_52 (by decide) ?_
      refine zs_ixor d_X_feeds_53 ?_
      refine zs_iand d_X_feeds_54 ?_
      refine zs_istore2 [1, 2, 3, 4, 5, 6, 0] [(0, .ref 35), (1, .int x1), (2, .int x2), (3, .int x3), (4, .int x4), (5, .int x5), (6, .int ((x3 &&& (((1 : Int32) <<< (x5 &&& 31)) ^^^ (-1))) &&& (((1 : Int32) <<< ((M 36 (Int32.toNatClampNeg x5)) &&& 31)) ^^^ (-1))))] d_X_feeds_55 (by decide) rfl ?_
      refine zs_iload d_X_feeds_57 (List.mem_of_getElem? (i := 4) rfl) ?_
      refine zs_iload_n 1 d_X_feeds_59 rfl (List.mem_of_getElem? (i := 1) rfl) ?_
      refine zs_iload d_X_feeds_60 (List.mem_of_getElem? (i := 5) rfl) ?_
      refine zs_callS (kc := 0) (ks := 0) (kc1 := 0) (ks1 := 0) (st := [.int x4]) [.int x1, .int x5] d_X_feeds_62 lk_X_98 ⟨by decide, by decide⟩ rfl (Nat.le_of_ble_eq_true rfl) (ex_X_has g X M x1 x5) (fun v9 sh9 M9 hR => ?_)
      obtain ⟨rfl, rfl, rfl⟩ := hR
      refine zs_if_eq 77 d_X_feeds_65 (by decide) (fun c10 => ?_) (fun c10 => ?_)
      · replace h := h.1 (bI_0 c10)
        refine zs_iconst 0 d_X_feeds_77 (by decide) ?_
        refine zs_iadd d_X_feeds_78 ?_
        refine zs_istore2 [1, 2, 3, 4, 0, 5, 6] [(0, .ref 35), (1, .int x1), (2, .int x2), (3, .int x3), (4, .int (x4 + 0)), (5, .int x5), (6, .int ((x3 &&& (((1 : Int32) <<< (x5 &&& 31)) ^^^ (-1))) &&& (((1 : Int32) <<< ((M 36 (Int32.toNatClampNeg x5)) &&& 31)) ^^^ (-1))))] d_X_feeds_79 (by decide) rfl ?_
        refine zs_iinc2 5 (x5 + 1) [1, 2, 3, 4, 5, 0, 6] [(0, .ref 35), (1, .int x1), (2, .int x2), (3, .int x3), (4, .int (x4 + 0)), (5, .int (x5 + 1)), (6, .int ((x3 &&& (((1 : Int32) <<< (x5 &&& 31)) ^^^ (-1))) &&& (((1 : Int32) <<< ((M 36 (Int32.toNatClampNeg x5)) &&& 31)) ^^^ (-1))))] d_X_feeds_81 rfl rfl (by decide) rfl ?_
        refine zs_goto 14 d_X_feeds_84 (by decide) ?_
        exact zRT_sub [0, 1, 2, 3, 4, 5] rfl h
      · replace h := h.2 (bI_1 c10)
        refine zs_iload d_X_feeds_68 (List.mem_of_getElem? (i := 6) rfl) ?_
        refine zs_if_eq 77 d_X_feeds_70 (by decide) (fun c11 => ?_) (fun c11 => ?_)
        · replace h := h.1 c11
          refine zs_iconst 0 d_X_feeds_77 (by decide) ?_
          refine zs_iadd d_X_feeds_78 ?_
          refine zs_istore2 [1, 2, 3, 4, 0, 5, 6] [(0, .ref 35), (1, .int x1), (2, .int x2), (3, .int x3), (4, .int (x4 + 0)), (5, .int x5), (6, .int ((x3 &&& (((1 : Int32) <<< (x5 &&& 31)) ^^^ (-1))) &&& (((1 : Int32) <<< ((M 36 (Int32.toNatClampNeg x5)) &&& 31)) ^^^ (-1))))] d_X_feeds_79 (by decide) rfl ?_
          refine zs_iinc2 5 (x5 + 1) [1, 2, 3, 4, 5, 0, 6] [(0, .ref 35), (1, .int x1), (2, .int x2), (3, .int x3), (4, .int (x4 + 0)), (5, .int (x5 + 1)), (6, .int ((x3 &&& (((1 : Int32) <<< (x5 &&& 31)) ^^^ (-1))) &&& (((1 : Int32) <<< ((M 36 (Int32.toNatClampNeg x5)) &&& 31)) ^^^ (-1))))] d_X_feeds_81 rfl rfl (by decide) rfl ?_
          refine zs_goto 14 d_X_feeds_84 (by decide) ?_
          exact zRT_sub [0, 1, 2, 3, 4, 5] rfl h
        · replace h := h.2 c11
          refine zs_iload_n 2 d_X_feeds_73 rfl (List.mem_of_getElem? (i := 2) rfl) ?_
          refine zs_goto 78 d_X_feeds_74 (by decide) ?_
          refine zs_iadd d_X_feeds_78 ?_
          refine zs_istore2 [1, 2, 3, 4, 0, 5, 6] [(0, .ref 35), (1, .int x1), (2, .int x2), (3, .int x3), (4, .int (x4 + x2)), (5, .int x5), (6, .int ((x3 &&& (((1 : Int32) <<< (x5 &&& 31)) ^^^ (-1))) &&& (((1 : Int32) <<< ((M 36 (Int32.toNatClampNeg x5)) &&& 31)) ^^^ (-1))))] d_X_feeds_79 (by decide) rfl ?_
          refine zs_iinc2 5 (x5 + 1) [1, 2, 3, 4, 5, 0, 6] [(0, .ref 35), (1, .int x1), (2, .int x2), (3, .int x3), (4, .int (x4 + x2)), (5, .int (x5 + 1)), (6, .int ((x3 &&& (((1 : Int32) <<< (x5 &&& 31)) ^^^ (-1))) &&& (((1 : Int32) <<< ((M 36 (Int32.toNatClampNeg x5)) &&& 31)) ^^^ (-1))))] d_X_feeds_81 rfl rfl (by decide) rfl ?_
          refine zs_goto 14 d_X_feeds_84 (by decide) ?_
          exact zRT_sub [0, 1, 2, 3, 4, 5] rfl h
theorem ex_X_feeds (a c : Int32) : zEx m_X_feeds 0 0 [.ref 35, .int a, .int c] (SHP g X) M (qR g X (fun r M2 => M2 = M ∧ (r = 0 ∨ r = 1))) := by
  refine zEx_of _ (by decide) (by simp [Value.category]) (Nat.le_of_ble_eq_true rfl) rfl (v_X_feeds_0 g X M a c _ ?_)
  have L2 : ∀ (s : Int32) (K : zRT m_X_feeds 0 0 2 [(0, .ref 35), (1, .int a), (2, .int c), (3, .int (s + 1))] [] (SHP g X) M (qR g X (fun r M2 => M2 = M ∧ (r = 0 ∨ r = 1)))), ∀ d k w, k + d = 6 → zRT m_X_feeds 0 0 14 [(0, .ref 35), (1, .int a), (2, .int c), (3, .int s), (4, .int w), (5, .int (nI k))] [] (SHP g X) M (qR g X (fun r M2 => M2 = M ∧ (r = 0 ∨ r = 1))) := by
    intro s K d
    induction d with
    | zero =>
      intro k w hk
      exact v_X_feeds_14 g X _ _ _ _ _ _ _ ⟨fun _ => ⟨fun _ => K, fun _ => qR_i ⟨rfl, Or.inl rfl⟩⟩, fun h => absurd (nI_le (a := 6) (by omega) (by omega)) h⟩
    | succ d ih =>
      intro k w hk
      refine v_X_feeds_14 g X _ _ _ _ _ _ _ ⟨fun h => absurd h (nI_ge (b := 6) (by omega) (by omega)), fun _ => ?_⟩
      rw [nI_1]
      have i1 := fun w => ih (k + 1) w (by omega)
      exact ⟨vp_in_nI (by omega) (by decide), fun _ => ⟨fun _ => i1 _, fun _ => ⟨fun _ => i1 _, fun _ => i1 _⟩⟩, fun _ => ⟨fun _ => i1 _, fun _ => ⟨fun _ => i1 _, fun _ => i1 _⟩⟩⟩
  have L1 : ∀ d k, k + d = 64 → zRT m_X_feeds 0 0 2 [(0, .ref 35), (1, .int a), (2, .int c), (3, .int (nI k))] [] (SHP g X) M (qR g X (fun r M2 => M2 = M ∧ (r = 0 ∨ r = 1))) := by
    intro d
    induction d with
    | zero =>
      intro k hk
      exact v_X_feeds_2 g X _ _ _ _ _ ⟨fun _ => qR_i ⟨rfl, Or.inr rfl⟩, fun h => absurd (nI_le (a := 64) (by omega) (by omega)) h⟩
    | succ d ih =>
      intro k hk
      refine v_X_feeds_2 g X _ _ _ _ _ ⟨fun h => absurd h (nI_ge (b := 64) (by omega) (by omega)), fun _ => ?_⟩
      exact L2 (nI k) (by rw [nI_1]; exact ih (k + 1) (by omega)) 6 0 _ rfl
  exact L1 63 1 rfl
theorem v_X_makers_0 (g : Nat → Option Nat) (X : List zShp) (M : zMem) (x1 x2 : Int32) (R : zEnd) (h : (((inI x1 1 6) = false) → (R (some (.int (-2))) (SHP g X) M)) ∧ (((inI x1 1 6) = true) → ((((inI x2 0 1) = true) → (zRT m_X_makers 0 0 28 [(0, .ref 35), (1, .int x1), (2, .int x2), (3, .int (-6)), (4, .int 0)] [] (SHP g X) M R)) ∧ (((inI x2 0 1) = false) → (R (some (.int (-2))) (SHP g X) M))))) : zRT m_X_makers 0 0 0 [(0, .ref 35), (1, .int x1), (2, .int x2)] [] (SHP g X) M R := by
  refine zs_iload_n 1 d_X_makers_0 rfl (List.mem_of_getElem? (i := 1) rfl) ?_
  refine zs_iconst 1 d_X_makers_1 (by decide) ?_
  refine zs_bipush 6 d_X_makers_2 (by decide) ?_
  refine zs_callS (kc := 0) (ks := 0) (kc1 := 0) (ks1 := 0) (st := []) [.int x1, .int 1, .int 6] d_X_makers_4 lk_X_66 ⟨by decide, by decide⟩ rfl (Nat.le_of_ble_eq_true rfl) (ex_X_in g X M x1 1 6) (fun v1 sh1 M1 hR => ?_)
  obtain ⟨rfl, rfl, rfl⟩ := hR
  refine zs_if_eq 19 d_X_makers_7 (by decide) (fun c2 => ?_) (fun c2 => ?_)
  · replace h := h.1 (bI_0 c2)
    refine zs_bipush (-2) d_X_makers_19 (by decide) ?_
    exact zs_iret d_X_makers_21 rfl h
  · replace h := h.2 (bI_1 c2)
    refine zs_iload_n 2 d_X_makers_10 rfl (List.mem_of_getElem? (i := 2) rfl) ?_
    refine zs_iconst 0 d_X_makers_11 (by decide) ?_
    refine zs_iconst 1 d_X_makers_12 (by decide) ?_
    refine zs_callS (kc := 0) (ks := 0) (kc1 := 0) (ks1 := 0) (st := []) [.int x2, .int 0, .int 1] d_X_makers_13 lk_X_66 ⟨by decide, by decide⟩ rfl (Nat.le_of_ble_eq_true rfl) (ex_X_in g X M x2 0 1) (fun v3 sh3 M3 hR => ?_)
    obtain ⟨rfl, rfl, rfl⟩ := hR
    refine zs_if_ne 22 d_X_makers_16 (by decide) (fun c4 => ?_) (fun c4 => ?_)
    · replace h := h.1 (bI_1 c4)
      refine zs_bipush (-6) d_X_makers_22 (by decide) ?_
      refine zs_istore_n2 3 [1, 2, 3, 0] [(0, .ref 35), (1, .int x1), (2, .int x2), (3, .int (-6))] d_X_makers_24 rfl (by decide) rfl ?_
      refine zs_iconst 0 d_X_makers_25 (by decide) ?_
      refine zs_istore2 [1, 2, 3, 4, 0] [(0, .ref 35), (1, .int x1), (2, .int x2), (3, .int (-6)), (4, .int 0)] d_X_makers_26 (by decide) rfl ?_
      exact h
    · replace h := h.2 (bI_0 c4)
      refine zs_bipush (-2) d_X_makers_19 (by decide) ?_
      exact zs_iret d_X_makers_21 rfl h
theorem v_X_makers_28 (g : Nat → Option Nat) (X : List zShp) (M : zMem) (x1 x2 x3 x4 : Int32) (R : zEnd) (h : ((64 ≤ x4) → (((x3 < 0) → (R (some (.int x3)) (SHP g X) M)) ∧ ((¬ x3 < 0) → (((¬ x2 = 1) → (R (some (.int (bt6 x3))) (SHP g X) M)) ∧ ((x2 = 1) → (R (some (.int x3)) (SHP g X) M)))))) ∧ ((¬ 64 ≤ x4) → (((x3 < 0) → (∀ (r6 : Int32) (M6 : zMem), (M6 = M ∧ (r6 = 0 ∨ r6 = 1)) → (((r6 = 0) → (zRT m_X_makers 0 0 28 [(0, .ref 35), (1, .int x1), (2, .int x2), (3, .int x3), (4, .int (x4 + 1))] [] (SHP g X) M6 R)) ∧ ((¬ r6 = 0) → (zRT m_X_makers 0 0 28 [(0, .ref 35), (1, .int x1), (2, .int x2), (3, .int x4), (4, .int (x4 + 1))] [] (SHP g X) M6 R))))) ∧ ((¬ x3 < 0) → ((((bt6 x3) ≤ (bt6 x4)) → (zRT m_X_makers 0 0 28 [(0, .ref 35), (1, .int x1), (2, .int x2), (3, .int x3), (4, .int (x4 + 1))] [] (SHP g X) M R)) ∧ ((¬ (bt6 x3) ≤ (bt6 x4)) → (∀ (r11 : Int32) (M11 : zMem), (M11 = M ∧ (r11 = 0 ∨ r11 = 1)) → (((r11 = 0) → (zRT m_X_makers 0 0 28 [(0, .ref 35), (1, .int x1), (2, .int x2), (3, .int x3), (4, .int (x4 + 1))] [] (SHP g X) M11 R)) ∧ ((¬ r11 = 0) → (zRT m_X_makers 0 0 28 [(0, .ref 35), (1, .int x1), (2, .int x2), (3, .int x4), (4, .int (x4 + 1))] [] (SHP g X) M11 R)))))))))) : zRT m_X_makers 0 0 28 [(0, .ref 35), (1, .int x1), (2, .int x2), (3, .int x3), (4, .int x4)] [] (SHP g X) M R := by
  refine zs_iload d_X_makers_28 (List.mem_of_getElem? (i := 4) rfl) ?_
  refine zs_bipush 64 d_X_makers_30 (by decide) ?_
  refine zs_icmp_ge 86 d_X_makers_32 (by decide) (fun c1 => ?_) (fun c1 => ?_)
  · replace h := h.1 c1
    refine zs_iload_n 3 d_X_makers_86 rfl (List.mem_of_getElem? (i := 3) rfl) ?_
    refine zs_if_lt 95 d_X_makers_87 (by decide) (fun c2 => ?_) (fun c2 => ?_)
    · replace h := h.1 c2
      refine zs_iload_n 3 d_X_makers_95 rfl (List.mem_of_getElem? (i := 3) rfl) ?_
      refine zs_goto 103 d_X_makers_96 (by decide) ?_
      exact zs_iret d_X_makers_103 rfl h
    · replace h := h.2 c2
      refine zs_iload_n 2 d_X_makers_90 rfl (List.mem_of_getElem? (i := 2) rfl) ?_
      refine zs_iconst 1 d_X_makers_91 (by decide) ?_
      refine zs_icmp_ne 99 d_X_makers_92 (by decide) (fun c3 => ?_) (fun c3 => ?_)
      · replace h := h.1 c3
        refine zs_iload_n 3 d_X_makers_99 rfl (List.mem_of_getElem? (i := 3) rfl) ?_
        refine zs_callS (kc := 0) (ks := 0) (kc1 := 0) (ks1 := 0) (st := []) [.int x3] d_X_makers_100 lk_X_109 ⟨by decide, by decide⟩ rfl (Nat.le_of_ble_eq_true rfl) (ex_X_bits g X M x3) (fun v4 sh4 M4 hR => ?_)
        obtain ⟨rfl, rfl, rfl⟩ := hR
        exact zs_iret d_X_makers_103 rfl h
      · replace h := h.2 c3
        refine zs_iload_n 3 d_X_makers_95 rfl (List.mem_of_getElem? (i := 3) rfl) ?_
        refine zs_goto 103 d_X_makers_96 (by decide) ?_
        exact zs_iret d_X_makers_103 rfl h
  · replace h := h.2 c1
    refine zs_iload_n 3 d_X_makers_35 rfl (List.mem_of_getElem? (i := 3) rfl) ?_
    refine zs_if_lt 51 d_X_makers_36 (by decide) (fun c5 => ?_) (fun c5 => ?_)
    · replace h := h.1 c5
      refine zs_iconst 1 d_X_makers_51 (by decide) ?_
      refine zs_goto 56 d_X_makers_52 (by decide) ?_
      refine zs_istore2 [1, 2, 3, 4, 5, 0] [(0, .ref 35), (1, .int x1), (2, .int x2), (3, .int x3), (4, .int x4), (5, .int 1)] d_X_makers_56 (by decide) rfl ?_
      refine zs_iload d_X_makers_58 (List.mem_of_getElem? (i := 5) rfl) ?_
      refine zs_if_eq 78 d_X_makers_60 (by decide) (fun c => absurd c (by decide)) (fun _ => ?_)
      refine zs_aload_n 0 d_X_makers_63 rfl (List.mem_of_getElem? (i := 0) rfl) ?_
      refine zs_iload d_X_makers_64 (List.mem_of_getElem? (i := 4) rfl) ?_
      refine zs_iload_n 1 d_X_makers_66 rfl (List.mem_of_getElem? (i := 1) rfl) ?_
      refine zs_callV (kc := 0) (ks := 0) (kc1 := 0) (ks1 := 0) (st := []) [.int x4, .int x1] d_X_makers_67 lk_X_150 ⟨by decide, by decide⟩ rfl (sh_35 g X) rfl (Nat.le_of_ble_eq_true rfl) (ex_X_feeds g X M x4 x1) (fun v6 sh6 M6 hR => ?_)
      obtain ⟨r6, rfl, rfl, hq6⟩ := hR
      replace h := h r6 M6 hq6
      refine zs_if_eq 78 d_X_makers_70 (by decide) (fun c7 => ?_) (fun c7 => ?_)
      · replace h := h.1 c7
        refine zs_iload_n 3 d_X_makers_78 rfl (List.mem_of_getElem? (i := 3) rfl) ?_
        refine zs_istore_n2 3 [1, 2, 3, 0, 4, 5] [(0, .ref 35), (1, .int x1), (2, .int x2), (3, .int x3), (4, .int x4), (5, .int 1)] d_X_makers_79 rfl (by decide) rfl ?_
        refine zs_iinc2 4 (x4 + 1) [1, 2, 3, 4, 0, 5] [(0, .ref 35), (1, .int x1), (2, .int x2), (3, .int x3), (4, .int (x4 + 1)), (5, .int 1)] d_X_makers_80 rfl rfl (by decide) rfl ?_
        refine zs_goto 28 d_X_makers_83 (by decide) ?_
        exact zRT_sub [0, 1, 2, 3, 4] rfl h
      · replace h := h.2 c7
        refine zs_iload d_X_makers_73 (List.mem_of_getElem? (i := 4) rfl) ?_
        refine zs_goto 79 d_X_makers_75 (by decide) ?_
        refine zs_istore_n2 3 [1, 2, 3, 0, 4, 5] [(0, .ref 35), (1, .int x1), (2, .int x2), (3, .int x4), (4, .int x4), (5, .int 1)] d_X_makers_79 rfl (by decide) rfl ?_
        refine zs_iinc2 4 (x4 + 1) [1, 2, 3, 4, 0, 5] [(0, .ref 35), (1, .int x1), (2, .int x2), (3, .int x4), (4, .int (x4 + 1)), (5, .int 1)] d_X_makers_80 rfl rfl (by decide) rfl ?_
        refine zs_goto 28 d_X_makers_83 (by decide) ?_
        exact zRT_sub [0, 1, 2, 3, 4] rfl h
    · replace h := h.2 c5
      refine zs_iload d_X_makers_39 (List.mem_of_getElem? (i := 4) rfl) ?_
      refine zs_callS (kc := 0) (ks := 0) (kc1 := 0) (ks1 := 0) (st := []) [.int x4] d_X_makers_41 lk_X_109 ⟨by decide, by decide⟩ rfl (Nat.le_of_ble_eq_true rfl) (ex_X_bits g X M x4) (fun v8 sh8 M8 hR => ?_)
      obtain ⟨rfl, rfl, rfl⟩ := hR
      refine zs_iload_n 3 d_X_makers_44 rfl (List.mem_of_getElem? (i := 3) rfl) ?_
      refine zs_callS (kc := 0) (ks := 0) (kc1 := 0) (ks1 := 0) (st := [.int (bt6 x4)]) [.int x3] d_X_makers_45 lk_X_109 ⟨by decide, by decide⟩ rfl (Nat.le_of_ble_eq_true rfl) (ex_X_bits g X M x3) (fun v9 sh9 M9 hR => ?_)
      obtain ⟨rfl, rfl, rfl⟩ := hR
      refine zs_icmp_ge 55 d_X_makers_48 (by decide) (fun c10 => ?_) (fun c10 => ?_)
      · replace h := h.1 c10
        refine zs_iconst 0 d_X_makers_55 (by decide) ?_
        refine zs_istore2 [1, 2, 3, 4, 5, 0] [(0, .ref 35), (1, .int x1), (2, .int x2), (3, .int x3), (4, .int x4), (5, .int 0)] d_X_makers_56 (by decide) rfl ?_
        refine zs_iload d_X_makers_58 (List.mem_of_getElem? (i := 5) rfl) ?_
        refine zs_if_eq 78 d_X_makers_60 (by decide) (fun _ => ?_) (fun c => absurd c (by decide))
        refine zs_iload_n 3 d_X_makers_78 rfl (List.mem_of_getElem? (i := 3) rfl) ?_
        refine zs_istore_n2 3 [1, 2, 3, 0, 4, 5] [(0, .ref 35), (1, .int x1), (2, .int x2), (3, .int x3), (4, .int x4), (5, .int 0)] d_X_makers_79 rfl (by decide) rfl ?_
        refine zs_iinc2 4 (x4 + 1) [1, 2, 3, 4, 0, 5] [(0, .ref 35), (1, .int x1), (2, .int x2), (3, .int x3), (4, .int (x4 + 1)), (5, .int 0)] d_X_makers_80 rfl rfl (by decide) rfl ?_
        refine zs_goto 28 d_X_makers_83 (by decide) ?_
        exact zRT_sub [0, 1, 2, 3, 4] rfl h
      · replace h := h.2 c10
        refine zs_iconst 1 d_X_makers_51 (by decide) ?_
        refine zs_goto 56 d_X_makers_52 (by decide) ?_
        refine zs_istore2 [1, 2, 3, 4, 5, 0] [(0, .ref 35), (1, .int x1), (2, .int x2), (3, .int x3), (4, .int x4), (5, .int 1)] d_X_makers_56 (by decide) rfl ?_
        refine zs_iload d_X_makers_58 (List.mem_of_getElem? (i := 5) rfl) ?_
        refine zs_if_eq 78 d_X_makers_60 (by decide) (fun c => absurd c (by decide)) (fun _ => ?_)
        refine zs_aload_n 0 d_X_makers_63 rfl (List.mem_of_getElem? (i := 0) rfl) ?_
        refine zs_iload d_X_makers_64 (List.mem_of_getElem? (i := 4) rfl) ?_
        refine zs_iload_n 1 d_X_makers_66 rfl (List.mem_of_getElem? (i := 1) rfl) ?_
        refine zs_callV (kc := 0) (ks := 0) (kc1 := 0) (ks1 := 0) (st := []) [.int x4, .int x1] d_X_makers_67 lk_X_150 ⟨by decide, by decide⟩ rfl (sh_35 g X) rfl (Nat.le_of_ble_eq_true rfl) (ex_X_feeds g X M x4 x1) (fun v11 sh11 M11 hR => ?_)
        obtain ⟨r11, rfl, rfl, hq11⟩ := hR
        replace h := h r11 M11 hq11
        refine zs_if_eq 78 d_X_makers_70 (by decide) (fun c12 => ?_) (fun c12 => ?_)
        · replace h := h.1 c12
          refine zs_iload_n 3 d_X_makers_78 rfl (List.mem_of_getElem? (i := 3) rfl) ?_
          refine zs_istore_n2 3 [1, 2, 3, 0, 4, 5] [(0, .ref 35), (1, .int x1), (2, .int x2), (3, .int x3), (4, .int x4), (5, .int 1)] d_X_makers_79 rfl (by decide) rfl ?_
          refine zs_iinc2 4 (x4 + 1) [1, 2, 3, 4, 0, 5] [(0, .ref 35), (1, .int x1), (2, .int x2), (3, .int x3), (4, .int (x4 + 1)), (5, .int 1)] d_X_makers_80 rfl rfl (by decide) rfl ?_
          refine zs_goto 28 d_X_makers_83 (by decide) ?_
          exact zRT_sub [0, 1, 2, 3, 4] rfl h
        · replace h := h.2 c12
          refine zs_iload d_X_makers_73 (List.mem_of_getElem? (i := 4) rfl) ?_
          refine zs_goto 79 d_X_makers_75 (by decide) ?_
          refine zs_istore_n2 3 [1, 2, 3, 0, 4, 5] [(0, .ref 35), (1, .int x1), (2, .int x2), (3, .int x4), (4, .int x4), (5, .int 1)] d_X_makers_79 rfl (by decide) rfl ?_
          refine zs_iinc2 4 (x4 + 1) [1, 2, 3, 4, 0, 5] [(0, .ref 35), (1, .int x1), (2, .int x2), (3, .int x4), (4, .int (x4 + 1)), (5, .int 1)] d_X_makers_80 rfl rfl (by decide) rfl ?_
          refine zs_goto 28 d_X_makers_83 (by decide) ?_
          exact zRT_sub [0, 1, 2, 3, 4] rfl h
theorem ex_X_makers (c y : Int32) : zEx m_X_makers 0 0 [.ref 35, .int c, .int y] (SHP g X) M (qR g X (fun _ M2 => mAg M M2)) := by
  refine zEx_of _ (by decide) (by simp [Value.category]) (Nat.le_of_ble_eq_true rfl) rfl (v_X_makers_0 g X M c y _ ⟨fun _ => qR_i mAg.rf, fun _ => ⟨fun _ => ?_, fun _ => qR_i mAg.rf⟩⟩)
  have L : ∀ d k w, k + d = 64 → zRT m_X_makers 0 0 28 [(0, .ref 35), (1, .int c), (2, .int y), (3, .int w), (4, .int (nI k))] [] (SHP g X) M (qR g X (fun _ M2 => mAg M M2)) := by
    intro d
    induction d with
    | zero =>
      intro k w hk
      exact v_X_makers_28 g X _ _ _ _ _ _ ⟨fun _ => ⟨fun _ => qR_i mAg.rf, fun _ => ⟨fun _ => qR_i mAg.rf, fun _ => qR_i mAg.rf⟩⟩, fun h => absurd (nI_le (a := 64) (by omega) (by omega)) h⟩
    | succ d ih =>
      intro k w hk
      refine v_X_makers_28 g X _ _ _ _ _ _ ⟨fun h => absurd h (nI_ge (b := 64) (by omega) (by omega)), fun _ => ?_⟩
      rw [nI_1]
      have i1 := fun w => ih (k + 1) w (by omega)
      refine ⟨fun _ r M6 h6 => ?_, fun _ => ⟨fun _ => i1 _, fun _ r M6 h6 => ?_⟩⟩
      · rw [h6.1]; exact ⟨fun _ => i1 _, fun _ => i1 _⟩
      · rw [h6.1]; exact ⟨fun _ => i1 _, fun _ => i1 _⟩
  exact L 64 0 _ rfl
theorem v_X_washed_0 (g : Nat → Option Nat) (X : List zShp) (M : zMem) (x1 x2 : Int32) (R : zEnd) (h : (((inI x1 0 (M 35 6 - 1)) = false) → (R (some (.int (-1))) (SHP g X) M)) ∧ (((inI x1 0 (M 35 6 - 1)) = true) → ((((isM x2) = true) → ((mRw M x1) ∧ ((vp_in x2 6) ∧ (((((mWk M (Int32.toNatClampNeg x1)) 36 (Int32.toNatClampNeg x2)) < 0) → (((1000000 ≤ (mNr M x1 x2)) → (((1000000 ≤ ((mWk M (Int32.toNatClampNeg x1)) 35 0)) → (R (some (.int ((((mWk M (Int32.toNatClampNeg x1)) 35 0) - 1000000) + 1))) (SHP g X) (mWk M (Int32.toNatClampNeg x1)))) ∧ ((¬ 1000000 ≤ ((mWk M (Int32.toNatClampNeg x1)) 35 0)) → (R (some (.int 0)) (SHP g X) (mWk M (Int32.toNatClampNeg x1)))))) ∧ ((¬ 1000000 ≤ (mNr M x1 x2)) → ((((mNr M x1 x2) ≤ ((mWk M (Int32.toNatClampNeg x1)) 35 0)) → (R (some (.int ((((mWk M (Int32.toNatClampNeg x1)) 35 0) - (mNr M x1 x2)) + 1))) (SHP g X) (mWk M (Int32.toNatClampNeg x1)))) ∧ ((¬ (mNr M x1 x2) ≤ ((mWk M (Int32.toNatClampNeg x1)) 35 0)) → (R (some (.int 0)) (SHP g X) (mWk M (Int32.toNatClampNeg x1)))))))) ∧ ((¬ ((mWk M (Int32.toNatClampNeg x1)) 36 (Int32.toNatClampNeg x2)) < 0) → ((mRw (mWk M (Int32.toNatClampNeg x1)) x1) ∧ ((((mNr (mWk M (Int32.toNatClampNeg x1)) x1 ((mWk M (Int32.toNatClampNeg x1)) 36 (Int32.toNatClampNeg x2))) ≤ (mNr M x1 x2)) → ((((mNr (mWk M (Int32.toNatClampNeg x1)) x1 ((mWk M (Int32.toNatClampNeg x1)) 36 (Int32.toNatClampNeg x2))) ≤ ((mWk (mWk M (Int32.toNatClampNeg x1)) (Int32.toNatClampNeg x1)) 35 0)) → (R (some (.int ((((mWk (mWk M (Int32.toNatClampNeg x1)) (Int32.toNatClampNeg x1)) 35 0) - (mNr (mWk M (Int32.toNatClampNeg x1)) x1 ((mWk M (Int32.toNatClampNeg x1)) 36 (Int32.toNatClampNeg x2)))) + 1))) (SHP g X) (mWk (mWk M (Int32.toNatClampNeg x1)) (Int32.toNatClampNeg x1)))) ∧ ((¬ (mNr (mWk M (Int32.toNatClampNeg x1)) x1 ((mWk M (Int32.toNatClampNeg x1)) 36 (Int32.toNatClampNeg x2))) ≤ ((mWk (mWk M (Int32.toNatClampNeg x1)) (Int32.toNatClampNeg x1)) 35 0)) → (R (some (.int 0)) (SHP g X) (mWk (mWk M (Int32.toNatClampNeg x1)) (Int32.toNatClampNeg x1)))))) ∧ ((¬ (mNr (mWk M (Int32.toNatClampNeg x1)) x1 ((mWk M (Int32.toNatClampNeg x1)) 36 (Int32.toNatClampNeg x2))) ≤ (mNr M x1 x2)) → ((((mNr M x1 x2) ≤ ((mWk (mWk M (Int32.toNatClampNeg x1)) (Int32.toNatClampNeg x1)) 35 0)) → (R (some (.int ((((mWk (mWk M (Int32.toNatClampNeg x1)) (Int32.toNatClampNeg x1)) 35 0) - (mNr M x1 x2)) + 1))) (SHP g X) (mWk (mWk M (Int32.toNatClampNeg x1)) (Int32.toNatClampNeg x1)))) ∧ ((¬ (mNr M x1 x2) ≤ ((mWk (mWk M (Int32.toNatClampNeg x1)) (Int32.toNatClampNeg x1)) 35 0)) → (R (some (.int 0)) (SHP g X) (mWk (mWk M (Int32.toNatClampNeg x1)) (Int32.toNatClampNeg x1))))))))))))) ∧ (((isM x2) = false) → (R (some (.int (-1))) (SHP g X) M))))) : zRT m_X_washed 0 0 0 [(0, .ref 35), (1, .int x1), (2, .int x2)] [] (SHP g X) M R := by
  refine zs_aload_n 0 d_X_washed_0 rfl (List.mem_of_getElem? (i := 0) rfl) ?_
  refine zs_iload_n 1 d_X_washed_1 rfl (List.mem_of_getElem? (i := 1) rfl) ?_
  refine zs_callV (kc := 0) (ks := 0) (kc1 := 0) (ks1 := 0) (st := []) [.int x1] d_X_washed_2 lk_X_83 ⟨by decide, by decide⟩ rfl (sh_35 g X) rfl (Nat.le_of_ble_eq_true rfl) (ex_X_isThing g X M x1) (fun v1 sh1 M1 hR => ?_)
  obtain ⟨rfl, rfl, rfl⟩ := hR
  refine zs_if_eq 15 d_X_washed_5 (by decide) (fun c2 => ?_) (fun c2 => ?_)
  · replace h := h.1 (bI_0 c2)
    refine zs_iconst (-1) d_X_washed_15 (by decide) ?_
    exact zs_iret d_X_washed_16 rfl h
  · replace h := h.2 (bI_1 c2)
    refine zs_iload_n 2 d_X_washed_8 rfl (List.mem_of_getElem? (i := 2) rfl) ?_
    refine zs_callS (kc := 0) (ks := 0) (kc1 := 0) (ks1 := 0) (st := []) [.int x2] d_X_washed_9 lk_X_87 ⟨by decide, by decide⟩ rfl (Nat.le_of_ble_eq_true rfl) (ex_X_isMan g X M x2) (fun v3 sh3 M3 hR => ?_)
    obtain ⟨rfl, rfl, rfl⟩ := hR
    refine zs_if_ne 17 d_X_washed_12 (by decide) (fun c4 => ?_) (fun c4 => ?_)
    · replace h := h.1 (bI_1 c4)
      refine zs_aload_n 0 d_X_washed_17 rfl (List.mem_of_getElem? (i := 0) rfl) ?_
      refine zs_iload_n 1 d_X_washed_18 rfl (List.mem_of_getElem? (i := 1) rfl) ?_
      refine zs_iload_n 2 d_X_washed_19 rfl (List.mem_of_getElem? (i := 2) rfl) ?_
      obtain ⟨p5, h⟩ := h
      refine zs_callV (kc := 0) (ks := 0) (kc1 := 0) (ks1 := 0) (st := []) [.int x1, .int x2] d_X_washed_20 lk_X_128 ⟨by decide, by decide⟩ rfl (sh_35 g X) rfl (Nat.le_of_ble_eq_true rfl) (ex_X_nearTo g X M x1 x2 p5) (fun v5 sh5 M5 hR => ?_)
      obtain ⟨rfl, rfl, rfl⟩ := hR
      refine zs_istore_n2 3 [1, 2, 3, 0] [(0, .ref 35), (1, .int x1), (2, .int x2), (3, .int (mNr M x1 x2))] d_X_washed_23 rfl (by decide) rfl ?_
      refine zs_aload_n 0 d_X_washed_24 rfl (List.mem_of_getElem? (i := 0) rfl) ?_
      refine zs_get d_X_washed_25 gf_X_16 (sh_35 g X) rfl ?_
      refine zs_iload_n 2 d_X_washed_28 rfl (List.mem_of_getElem? (i := 2) rfl) ?_
      obtain ⟨b6, h⟩ := h
      refine zs_iald d_X_washed_29 (sh_36 g X) b6 ?_
      refine zs_if_lt 47 d_X_washed_30 (by decide) (fun c7 => ?_) (fun c7 => ?_)
      · replace h := h.1 c7
        refine zs_ldc (v := 1000000) d_X_washed_47 (by decide +kernel) ?_
        refine zs_istore2 [1, 2, 3, 4, 0] [(0, .ref 35), (1, .int x1), (2, .int x2), (3, .int (mNr M x1 x2)), (4, .int 1000000)] d_X_washed_49 (by decide) rfl ?_
        refine zs_iload_n 3 d_X_washed_51 rfl (List.mem_of_getElem? (i := 3) rfl) ?_
        refine zs_iload d_X_washed_52 (List.mem_of_getElem? (i := 4) rfl) ?_
        refine zs_icmp_ge 61 d_X_washed_54 (by decide) (fun c8 => ?_) (fun c8 => ?_)
        · replace h := h.1 c8
          refine zs_iload d_X_washed_61 (List.mem_of_getElem? (i := 4) rfl) ?_
          refine zs_istore2 [1, 2, 3, 4, 5, 0] [(0, .ref 35), (1, .int x1), (2, .int x2), (3, .int (mNr M x1 x2)), (4, .int 1000000), (5, .int 1000000)] d_X_washed_63 (by decide) rfl ?_
          refine zs_iload d_X_washed_65 (List.mem_of_getElem? (i := 5) rfl) ?_
          refine zs_aload_n 0 d_X_washed_67 rfl (List.mem_of_getElem? (i := 0) rfl) ?_
          refine zs_get d_X_washed_68 gf_X_7 (sh_35 g X) rfl ?_
          refine zs_icmp_le 78 d_X_washed_71 (by decide) (fun c9 => ?_) (fun c9 => ?_)
          · replace h := h.1 c9
            refine zs_aload_n 0 d_X_washed_78 rfl (List.mem_of_getElem? (i := 0) rfl) ?_
            refine zs_get d_X_washed_79 gf_X_7 (sh_35 g X) rfl ?_
            refine zs_iload d_X_washed_82 (List.mem_of_getElem? (i := 5) rfl) ?_
            refine zs_isub d_X_washed_84 ?_
            refine zs_iconst 1 d_X_washed_85 (by decide) ?_
            refine zs_iadd d_X_washed_86 ?_
            exact zs_iret d_X_washed_87 rfl h
          · replace h := h.2 c9
            refine zs_iconst 0 d_X_washed_74 (by decide) ?_
            refine zs_goto 87 d_X_washed_75 (by decide) ?_
            exact zs_iret d_X_washed_87 rfl h
        · replace h := h.2 c8
          refine zs_iload_n 3 d_X_washed_57 rfl (List.mem_of_getElem? (i := 3) rfl) ?_
          refine zs_goto 63 d_X_washed_58 (by decide) ?_
          refine zs_istore2 [1, 2, 3, 4, 5, 0] [(0, .ref 35), (1, .int x1), (2, .int x2), (3, .int (mNr M x1 x2)), (4, .int 1000000), (5, .int (mNr M x1 x2))] d_X_washed_63 (by decide) rfl ?_
          refine zs_iload d_X_washed_65 (List.mem_of_getElem? (i := 5) rfl) ?_
          refine zs_aload_n 0 d_X_washed_67 rfl (List.mem_of_getElem? (i := 0) rfl) ?_
          refine zs_get d_X_washed_68 gf_X_7 (sh_35 g X) rfl ?_
          refine zs_icmp_le 78 d_X_washed_71 (by decide) (fun c10 => ?_) (fun c10 => ?_)
          · replace h := h.1 c10
            refine zs_aload_n 0 d_X_washed_78 rfl (List.mem_of_getElem? (i := 0) rfl) ?_
            refine zs_get d_X_washed_79 gf_X_7 (sh_35 g X) rfl ?_
            refine zs_iload d_X_washed_82 (List.mem_of_getElem? (i := 5) rfl) ?_
            refine zs_isub d_X_washed_84 ?_
            refine zs_iconst 1 d_X_washed_85 (by decide) ?_
            refine zs_iadd d_X_washed_86 ?_
            exact zs_iret d_X_washed_87 rfl h
          · replace h := h.2 c10
            refine zs_iconst 0 d_X_washed_74 (by decide) ?_
            refine zs_goto 87 d_X_washed_75 (by decide) ?_
            exact zs_iret d_X_washed_87 rfl h
      · replace h := h.2 c7
        refine zs_aload_n 0 d_X_washed_33 rfl (List.mem_of_getElem? (i := 0) rfl) ?_
        refine zs_iload_n 1 d_X_washed_34 rfl (List.mem_of_getElem? (i := 1) rfl) ?_
        refine zs_aload_n 0 d_X_washed_35 rfl (List.mem_of_getElem? (i := 0) rfl) ?_
        refine zs_get d_X_washed_36 gf_X_16 (sh_35 g X) rfl ?_
        refine zs_iload_n 2 d_X_washed_39 rfl (List.mem_of_getElem? (i := 2) rfl) ?_
        refine zs_iald d_X_washed_40 (sh_36 g X) b6 ?_
        obtain ⟨p11, h⟩ := h
        refine zs_callV (kc := 0) (ks := 0) (kc1 := 0) (ks1 := 0) (st := []) [.int x1, .int ((mWk M (Int32.toNatClampNeg x1)) 36 (Int32.toNatClampNeg x2))] d_X_washed_41 lk_X_128 ⟨by decide, by decide⟩ rfl (sh_35 g X) rfl (Nat.le_of_ble_eq_true rfl) (ex_X_nearTo g X (mWk M (Int32.toNatClampNeg x1)) x1 ((mWk M (Int32.toNatClampNeg x1)) 36 (Int32.toNatClampNeg x2)) p11) (fun v11 sh11 M11 hR => ?_)
        obtain ⟨rfl, rfl, rfl⟩ := hR
        refine zs_goto 49 d_X_washed_44 (by decide) ?_
        refine zs_istore2 [1, 2, 3, 4, 0] [(0, .ref 35), (1, .int x1), (2, .int x2), (3, .int (mNr M x1 x2)), (4, .int (mNr (mWk M (Int32.toNatClampNeg x1)) x1 ((mWk M (Int32.toNatClampNeg x1)) 36 (Int32.toNatClampNeg x2))))] d_X_washed_49 (by decide) rfl ?_
        refine zs_iload_n 3 d_X_washed_51 rfl (List.mem_of_getElem? (i := 3) rfl) ?_
        refine zs_iload d_X_washed_52 (List.mem_of_getElem? (i := 4) rfl) ?_
        refine zs_icmp_ge 61 d_X_washed_54 (by decide) (fun c12 => ?_) (fun c12 => ?_)
        · replace h := h.1 c12
          refine zs_iload d_X_washed_61 (List.mem_of_getElem? (i := 4) rfl) ?_
          refine zs_istore2 [1, 2, 3, 4, 5, 0] [(0, .ref 35), (1, .int x1), (2, .int x2), (3, .int (mNr M x1 x2)), (4, .int (mNr (mWk M (Int32.toNatClampNeg x1)) x1 ((mWk M (Int32.toNatClampNeg x1)) 36 (Int32.toNatClampNeg x2)))), (5, .int (mNr (mWk M (Int32.toNatClampNeg x1)) x1 ((mWk M (Int32.toNatClampNeg x1)) 36 (Int32.toNatClampNeg x2))))] d_X_washed_63 (by decide) rfl ?_
          refine zs_iload d_X_washed_65 (List.mem_of_getElem? (i := 5) rfl) ?_
          refine zs_aload_n 0 d_X_washed_67 rfl (List.mem_of_getElem? (i := 0) rfl) ?_
          refine zs_get d_X_washed_68 gf_X_7 (sh_35 g X) rfl ?_
          refine zs_icmp_le 78 d_X_washed_71 (by decide) (fun c13 => ?_) (fun c13 => ?_)
          · replace h := h.1 c13
            refine zs_aload_n 0 d_X_washed_78 rfl (List.mem_of_getElem? (i := 0) rfl) ?_
            refine zs_get d_X_washed_79 gf_X_7 (sh_35 g X) rfl ?_
            refine zs_iload d_X_washed_82 (List.mem_of_getElem? (i := 5) rfl) ?_
            refine zs_isub d_X_washed_84 ?_
            refine zs_iconst 1 d_X_washed_85 (by decide) ?_
            refine zs_iadd d_X_washed_86 ?_
            exact zs_iret d_X_washed_87 rfl h
          · replace h := h.2 c13
            refine zs_iconst 0 d_X_washed_74 (by decide) ?_
            refine zs_goto 87 d_X_washed_75 (by decide) ?_
            exact zs_iret d_X_washed_87 rfl h
        · replace h := h.2 c12
          refine zs_iload_n 3 d_X_washed_57 rfl (List.mem_of_getElem? (i := 3) rfl) ?_
          refine zs_goto 63 d_X_washed_58 (by decide) ?_
          refine zs_istore2 [1, 2, 3, 4, 5, 0] [(0, .ref 35), (1, .int x1), (2, .int x2), (3, .int (mNr M x1 x2)), (4, .int (mNr (mWk M (Int32.toNatClampNeg x1)) x1 ((mWk M (Int32.toNatClampNeg x1)) 36 (Int32.toNatClampNeg x2)))), (5, .int (mNr M x1 x2))] d_X_washed_63 (by decide) rfl ?_
          refine zs_iload d_X_washed_65 (List.mem_of_getElem? (i := 5) rfl) ?_
          refine zs_aload_n 0 d_X_washed_67 rfl (List.mem_of_getElem? (i := 0) rfl) ?_
          refine zs_get d_X_washed_68 gf_X_7 (sh_35 g X) rfl ?_
          refine zs_icmp_le 78 d_X_washed_71 (by decide) (fun c14 => ?_) (fun c14 => ?_)
          · replace h := h.1 c14
            refine zs_aload_n 0 d_X_washed_78 rfl (List.mem_of_getElem? (i := 0) rfl) ?_
            refine zs_get d_X_washed_79 gf_X_7 (sh_35 g X) rfl ?_
            refine zs_iload d_X_washed_82 (List.mem_of_getElem? (i := 5) rfl) ?_
            refine zs_isub d_X_washed_84 ?_
            refine zs_iconst 1 d_X_washed_85 (by decide) ?_
            refine zs_iadd d_X_washed_86 ?_
            exact zs_iret d_X_washed_87 rfl h
          · replace h := h.2 c14
            refine zs_iconst 0 d_X_washed_74 (by decide) ?_
            refine zs_goto 87 d_X_washed_75 (by decide) ?_
            exact zs_iret d_X_washed_87 rfl h
    · replace h := h.2 (bI_0 c4)
      refine zs_iconst (-1) d_X_washed_15 (by decide) ?_
      exact zs_iret d_X_washed_16 rfl h
theorem ex_X_washed (x m : Int32) (hh : mK M) : zEx m_X_washed 0 0 [.ref 35, .int x, .int m] (SHP g X) M (qR g X (fun _ M2 => mAg M M2)) := by
  have h1 : ∀ n, mAg M (mWk M n) := fun n => mAg.rf.wk
  have h2 : ∀ n k, mAg M (mWk (mWk M n) k) := fun n k => (h1 n).wk
  have q1 : ∀ n r, qR g X (fun _ M2 => mAg M M2) (some (.int r)) (SHP g X) (mWk M n) := fun n r => qR_i (h1 n)
  have q2 : ∀ n k r, qR g X (fun _ M2 => mAg M M2) (some (.int r)) (SHP g X) (mWk (mWk M n) k) := fun n k r => qR_i (h2 n k)
  exact zEx_of _ (by decide) (by simp [Value.category]) (Nat.le_of_ble_eq_true rfl) rfl (v_X_washed_0 g X M x m _ ⟨fun _ => qR_i mAg.rf, fun h => ⟨fun hm => ⟨hh.rw (hh.th h), isM_in hm, fun _ => ⟨fun _ => ⟨fun _ => q1 _ _, fun _ => q1 _ _⟩, fun _ => ⟨fun _ => q1 _ _, fun _ => q1 _ _⟩⟩, fun _ => ⟨((h1 _).mk hh).rw ((h1 _).th (hh.th h)), fun _ => ⟨fun _ => q2 _ _ _, fun _ => q2 _ _ _⟩, fun _ => ⟨fun _ => q2 _ _ _, fun _ => q2 _ _ _⟩⟩⟩, fun _ => qR_i mAg.rf⟩⟩)
theorem v_X_allBarred_0 (g : Nat → Option Nat) (X : List zShp) (M : zMem) (R : zEnd) (h : zRT m_X_allBarred 0 0 4 [(0, .ref 35), (1, .int 0), (2, .int 0)] [] (SHP g X) M R) : zRT m_X_allBarred 0 0 0 [(0, .ref 35)] [] (SHP g X) M R := by
  refine zs_iconst 0 d_X_allBarred_0 (by decide) ?_
  refine zs_istore_n2 1 [1, 0] [(0, .ref 35), (1, .int 0)] d_X_allBarred_1 rfl (by decide) rfl ?_
  refine zs_iconst 0 d_X_allBarred_2 (by decide) ?_
  refine zs_istore_n2 2 [1, 2, 0] [(0, .ref 35), (1, .int 0), (2, .int 0)] d_X_allBarred_3 rfl (by decide) rfl ?_
  exact h
theorem v_X_allBarred_4 (g : Nat → Option Nat) (X : List zShp) (M : zMem) (x1 x2 : Int32) (R : zEnd) (h : (((M 35 6) ≤ x2) → (R (some (.int x1)) (SHP g X) M)) ∧ ((¬ (M 35 6) ≤ x2) → ((mRw M x2) ∧ (zRT m_X_allBarred 0 0 4 [(0, .ref 35), (1, .int (x1 + (bt6 (mWP M (mTc M x2))))), (2, .int (x2 + 1))] [] (SHP g X) (mWk M (Int32.toNatClampNeg x2)) R)))) : zRT m_X_allBarred 0 0 4 [(0, .ref 35), (1, .int x1), (2, .int x2)] [] (SHP g X) M R := by
  refine zs_iload_n 2 d_X_allBarred_4 rfl (List.mem_of_getElem? (i := 2) rfl) ?_
  refine zs_aload_n 0 d_X_allBarred_5 rfl (List.mem_of_getElem? (i := 0) rfl) ?_
  refine zs_get d_X_allBarred_6 gf_X_70 (sh_35 g X) rfl ?_
  refine zs_icmp_ge 29 d_X_allBarred_9 (by decide) (fun c1 => ?_) (fun c1 => ?_)
  · replace h := h.1 c1
    refine zs_iload_n 1 d_X_allBarred_29 rfl (List.mem_of_getElem? (i := 1) rfl) ?_
    exact zs_iret d_X_allBarred_30 rfl h
  · replace h := h.2 c1
    refine zs_iload_n 1 d_X_allBarred_12 rfl (List.mem_of_getElem? (i := 1) rfl) ?_
    refine zs_aload_n 0 d_X_allBarred_13 rfl (List.mem_of_getElem? (i := 0) rfl) ?_
    refine zs_iload_n 2 d_X_allBarred_14 rfl (List.mem_of_getElem? (i := 2) rfl) ?_
    obtain ⟨p2, h⟩ := h
    refine zs_callV (kc := 0) (ks := 0) (kc1 := 0) (ks1 := 0) (st := [.int x1]) [.int x2] d_X_allBarred_15 lk_X_119 ⟨by decide, by decide⟩ rfl (sh_35 g X) rfl (Nat.le_of_ble_eq_true rfl) (ex_X_barredFrom g X M x2 p2) (fun v2 sh2 M2 hR => ?_)
    obtain ⟨rfl, rfl, rfl⟩ := hR
    refine zs_callS (kc := 0) (ks := 0) (kc1 := 0) (ks1 := 0) (st := [.int x1]) [.int (mWP M (mTc M x2))] d_X_allBarred_18 lk_X_109 ⟨by decide, by decide⟩ rfl (Nat.le_of_ble_eq_true rfl) (ex_X_bits g X (mWk M (Int32.toNatClampNeg x2)) (mWP M (mTc M x2))) (fun v3 sh3 M3 hR => ?_)
    obtain ⟨rfl, rfl, rfl⟩ := hR
    refine zs_iadd d_X_allBarred_21 ?_
    refine zs_istore_n2 1 [1, 0, 2] [(0, .ref 35), (1, .int (x1 + (bt6 (mWP M (mTc M x2))))), (2, .int x2)] d_X_allBarred_22 rfl (by decide) rfl ?_
    refine zs_iinc2 2 (x2 + 1) [1, 2, 0] [(0, .ref 35), (1, .int (x1 + (bt6 (mWP M (mTc M x2))))), (2, .int (x2 + 1))] d_X_allBarred_23 rfl rfl (by decide) rfl ?_
    refine zs_goto 4 d_X_allBarred_26 (by decide) ?_
    exact h
theorem ex_X_allBarred (hh : mK M) : zEx m_X_allBarred 0 0 [.ref 35] (SHP g X) M (qR g X (fun _ M2 => kAg [42] M M2)) := by
  refine zEx_of _ (by decide) (by simp [Value.category]) (Nat.le_of_ble_eq_true rfl) rfl (v_X_allBarred_0 g X M _ ?_)
  obtain ⟨hc, h10⟩ := mCnt_e hh.1
  have L : ∀ d k a M1, k + d = mTN M → kAg [42] M M1 → zRT m_X_allBarred 0 0 4 [(0, .ref 35), (1, .int a), (2, .int (nI k))] [] (SHP g X) M1 (qR g X (fun _ M2 => kAg [42] M M2)) := by
    intro d
    induction d with
    | zero =>
      intro k a M1 hk ha
      exact v_X_allBarred_4 g X _ _ _ _ ⟨fun _ => qR_i ha, fun h => absurd (by rw [ha 35 (by decide), hc]; exact nI_le (by omega) (by omega)) h⟩
    | succ d ih =>
      intro k a M1 hk ha
      have e35 := ha 35 (by decide)
      refine v_X_allBarred_4 g X _ _ _ _ ⟨fun h => absurd h (by rw [e35, hc]; exact nI_ge (by omega) (by omega)), fun _ => ⟨(mK_e e35 (ha 38 (by decide)) hh).rw (mTh_e e35 ⟨k, by omega, rfl⟩), ?_⟩⟩
      rw [nI_1]
      exact ih (k + 1) _ (mWk M1 _) (by omega) (ha.sr (by decide))
  exact L (mTN M) 0 _ M (by omega) kAg.rf
end zX6
