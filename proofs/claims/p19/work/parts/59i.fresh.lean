/-! a fresh town: nothing made, nobody with a partner -/
def pB : Nat → Int32 := fun j => nI (d7 17973 j)
section zH1
variable (g : Nat → Option Nat) (X : List zShp) (M : zMem)
theorem vS_X_married_0 (g : Nat → Option Nat) (X : List zShp) (M : zMem) (x1 : Int32) (R : zEnd) (h : (mCnt M) ∧ ((mK (mTo M)) ∧ (∀ (r2 : Int32) (M2 : zMem), (kAg [42] (mTo M) M2 ∧ ((mTo M) 35 6 = 0 → r2 = 0)) → (zRT m_X_married 0 0 15 [(0, .ref 35), (1, .int x1), (2, .int r2), (3, .int 1000000), (4, .int 0)] [] (SHP g X) M2 R)))) : zRT m_X_married 0 0 0 [(0, .ref 35), (1, .int x1)] [] (SHP g X) M R := by
  refine zs_aload_n 0 d_X_married_0 rfl (List.mem_of_getElem? (i := 0) rfl) ?_
  obtain ⟨p1, h⟩ := h
  refine zs_callV (kc := 0) (ks := 0) (kc1 := 0) (ks1 := 0) (st := []) [] d_X_married_1 lk_X_116 ⟨by decide, by decide⟩ rfl (sh_35 g X) rfl (Nat.le_of_ble_eq_true rfl) (ex_X_asTold g X M p1) (fun v1 sh1 M1 hR => ?_)
  obtain ⟨rfl, rfl, rfl⟩ := hR
  refine zs_aload_n 0 d_X_married_4 rfl (List.mem_of_getElem? (i := 0) rfl) ?_
  obtain ⟨p2, h⟩ := h
  refine zs_callV (kc := 0) (ks := 0) (kc1 := 0) (ks1 := 0) (st := []) [] d_X_married_5 lk_X_153 ⟨by decide, by decide⟩ rfl (sh_35 g X) rfl (Nat.le_of_ble_eq_true rfl) (ex2_X_allBarred g X (mTo M) p2) (fun v2 sh2 M2 hR => ?_)
  obtain ⟨r2, rfl, rfl, hq2⟩ := hR
  replace h := h r2 M2 hq2
  refine zs_istore_n2 2 [1, 2, 0] [(0, .ref 35), (1, .int x1), (2, .int r2)] d_X_married_8 rfl (by decide) rfl ?_
  refine zs_ldc (v := 1000000) d_X_married_9 (by decide +kernel) ?_
  refine zs_istore_n2 3 [1, 2, 3, 0] [(0, .ref 35), (1, .int x1), (2, .int r2), (3, .int 1000000)] d_X_married_11 rfl (by decide) rfl ?_
  refine zs_iconst 0 d_X_married_12 (by decide) ?_
  refine zs_istore2 [1, 2, 3, 4, 0] [(0, .ref 35), (1, .int x1), (2, .int r2), (3, .int 1000000), (4, .int 0)] d_X_married_13 (by decide) rfl ?_
  exact h
theorem vS_X_married_15 (g : Nat → Option Nat) (X : List zShp) (M : zMem) (x1 x2 x3 x4 : Int32) (R : zEnd) (h : ((6 ≤ x4) → (zRT m_X_married 0 0 45 [(0, .ref 35), (1, .int x1), (2, .int x2), (3, .int x3), (4, .int 0)] [] (SHP g X) M R)) ∧ ((¬ 6 ≤ x4) → ((vp_in x4 6) ∧ (zRT m_X_married 0 0 15 [(0, .ref 35), (1, .int x1), (2, .int x2), (3, .int x3), (4, .int (x4 + 1))] [] (SHP g X) (zms M 48 (Int32.toNatClampNeg x4) (M 36 (Int32.toNatClampNeg x4))) R)))) : zRT m_X_married 0 0 15 [(0, .ref 35), (1, .int x1), (2, .int x2), (3, .int x3), (4, .int x4)] [] (SHP g X) M R := by
  refine zs_iload d_X_married_15 (List.mem_of_getElem? (i := 4) rfl) ?_
  refine zs_bipush 6 d_X_married_17 (by decide) ?_
  refine zs_icmp_ge 42 d_X_married_19 (by decide) (fun c1 => ?_) (fun c1 => ?_)
  · replace h := h.1 c1
    refine zs_iconst 0 d_X_married_42 (by decide) ?_
    refine zs_istore2 [1, 2, 3, 4, 0] [(0, .ref 35), (1, .int x1), (2, .int x2), (3, .int x3), (4, .int 0)] d_X_married_43 (by decide) rfl ?_
    exact h
  · replace h := h.2 c1
    refine zs_aload_n 0 d_X_married_22 rfl (List.mem_of_getElem? (i := 0) rfl) ?_
    refine zs_get d_X_married_23 gf_X_53 (sh_35 g X) rfl ?_
    refine zs_iload d_X_married_26 (List.mem_of_getElem? (i := 4) rfl) ?_
    refine zs_aload_n 0 d_X_married_28 rfl (List.mem_of_getElem? (i := 0) rfl) ?_
    refine zs_get d_X_married_29 gf_X_16 (sh_35 g X) rfl ?_
    refine zs_iload d_X_married_32 (List.mem_of_getElem? (i := 4) rfl) ?_
    obtain ⟨b2, h⟩ := h
    refine zs_iald d_X_married_34 (sh_36 g X) b2 ?_
    refine zs_iast d_X_married_35 (sh_48 g X) b2 ?_
    refine zs_iinc2 4 (x4 + 1) [1, 2, 3, 4, 0] [(0, .ref 35), (1, .int x1), (2, .int x2), (3, .int x3), (4, .int (x4 + 1))] d_X_married_36 rfl rfl (by decide) rfl ?_
    refine zs_goto 15 d_X_married_39 (by decide) ?_
    exact h
theorem vS_X_married_45 (g : Nat → Option Nat) (X : List zShp) (M : zMem) (x1 x2 x3 x4 : Int32) (R : zEnd) (h : ((117649 ≤ x4) → (zRT m_X_married 0 0 172 [(0, .ref 35), (1, .int x1), (2, .int x2), (3, .int x3), (4, .int 0)] [] (SHP g X) M R)) ∧ ((¬ 117649 ≤ x4) → ((∃ c : Nat, c < 2 ^ 31 ∧ x4 = nI c) ∧ (∀ (r2 : Int32) (M2 : zMem), (kAg [49] M M2 ∧ (r2 = 0 ∨ r2 = 1) ∧ (∀ c : Nat, c < 117649 → x4 = nI c → (∀ j, j < 6 → M2 49 j = nI (d7 c j)) ∧ (¬ r2 = 0 ↔ pOk M c))) → (((r2 = 0) → (zRT m_X_married 0 0 45 [(0, .ref 35), (1, .int x1), (2, .int x2), (3, .int x3), (4, .int (x4 + 1))] [] (SHP g X) M2 R)) ∧ ((¬ r2 = 0) → (zRT m_X_married 0 0 64 [(0, .ref 35), (1, .int x1), (2, .int x2), (3, .int x3), (4, .int x4), (5, .int 0)] [] (SHP g X) M2 R))))))) : zRT m_X_married 0 0 45 [(0, .ref 35), (1, .int x1), (2, .int x2), (3, .int x3), (4, .int x4)] [] (SHP g X) M R := by
  refine zs_iload d_X_married_45 (List.mem_of_getElem? (i := 4) rfl) ?_
  refine zs_ldc (v := 117649) d_X_married_47 (by decide +kernel) ?_
  refine zs_icmp_ge 169 d_X_married_49 (by decide) (fun c1 => ?_) (fun c1 => ?_)
  · replace h := h.1 c1
    refine zs_iconst 0 d_X_married_169 (by decide) ?_
    refine zs_istore2 [1, 2, 3, 4, 0] [(0, .ref 35), (1, .int x1), (2, .int x2), (3, .int x3), (4, .int 0)] d_X_married_170 (by decide) rfl ?_
    exact h
  · replace h := h.2 c1
    refine zs_aload_n 0 d_X_married_52 rfl (List.mem_of_getElem? (i := 0) rfl) ?_
    refine zs_iload d_X_married_53 (List.mem_of_getElem? (i := 4) rfl) ?_
    obtain ⟨p2, h⟩ := h
    refine zs_callV (kc := 0) (ks := 0) (kc1 := 0) (ks1 := 0) (st := []) [.int x4] d_X_married_55 lk_X_157 ⟨by decide, by decide⟩ rfl (sh_35 g X) rfl (Nat.le_of_ble_eq_true rfl) (ex2_X_layPlan g X M x4 p2) (fun v2 sh2 M2 hR => ?_)
    obtain ⟨r2, rfl, rfl, hq2⟩ := hR
    replace h := h r2 M2 hq2
    refine zs_if_eq 163 d_X_married_58 (by decide) (fun c3 => ?_) (fun c3 => ?_)
    · replace h := h.1 c3
      refine zs_iinc2 4 (x4 + 1) [1, 2, 3, 4, 0] [(0, .ref 35), (1, .int x1), (2, .int x2), (3, .int x3), (4, .int (x4 + 1))] d_X_married_163 rfl rfl (by decide) rfl ?_
      refine zs_goto 45 d_X_married_166 (by decide) ?_
      exact h
    · replace h := h.2 c3
      refine zs_iconst 0 d_X_married_61 (by decide) ?_
      refine zs_istore2 [1, 2, 3, 4, 5, 0] [(0, .ref 35), (1, .int x1), (2, .int x2), (3, .int x3), (4, .int x4), (5, .int 0)] d_X_married_62 (by decide) rfl ?_
      exact h
theorem vS_X_married_64 (g : Nat → Option Nat) (X : List zShp) (M : zMem) (x1 x2 x3 x4 x5 : Int32) (R : zEnd) (h : ((6 ≤ x5) → ((mK M) ∧ (∀ (r2 : Int32) (M2 : zMem), (kAg [42] M M2 ∧ (M 35 6 = 0 → r2 = 0)) → (zRT m_X_married 0 0 117 [(0, .ref 35), (1, .int x1), (2, .int x2), (3, .int x3), (4, .int x4), (5, .int r2), (6, .int 0)] [] (SHP g X) M2 R)))) ∧ ((¬ 6 ≤ x5) → ((vp_in x5 6) ∧ (((¬ (M 49 (Int32.toNatClampNeg x5)) = 6) → (zRT m_X_married 0 0 64 [(0, .ref 35), (1, .int x1), (2, .int x2), (3, .int x3), (4, .int x4), (5, .int (x5 + 1))] [] (SHP g X) (zms M 36 (Int32.toNatClampNeg x5) (M 49 (Int32.toNatClampNeg x5))) R)) ∧ (((M 49 (Int32.toNatClampNeg x5)) = 6) → (zRT m_X_married 0 0 64 [(0, .ref 35), (1, .int x1), (2, .int x2), (3, .int x3), (4, .int x4), (5, .int (x5 + 1))] [] (SHP g X) (zms M 36 (Int32.toNatClampNeg x5) (-6)) R)))))) : zRT m_X_married 0 0 64 [(0, .ref 35), (1, .int x1), (2, .int x2), (3, .int x3), (4, .int x4), (5, .int x5)] [] (SHP g X) M R := by
  refine zs_iload d_X_married_64 (List.mem_of_getElem? (i := 5) rfl) ?_
  refine zs_bipush 6 d_X_married_66 (by decide) ?_
  refine zs_icmp_ge 108 d_X_married_68 (by decide) (fun c1 => ?_) (fun c1 => ?_)
  · replace h := h.1 c1
    refine zs_aload_n 0 d_X_married_108 rfl (List.mem_of_getElem? (i := 0) rfl) ?_
    obtain ⟨p2, h⟩ := h
    refine zs_callV (kc := 0) (ks := 0) (kc1 := 0) (ks1 := 0) (st := []) [] d_X_married_109 lk_X_153 ⟨by decide, by decide⟩ rfl (sh_35 g X) rfl (Nat.le_of_ble_eq_true rfl) (ex2_X_allBarred g X M p2) (fun v2 sh2 M2 hR => ?_)
    obtain ⟨r2, rfl, rfl, hq2⟩ := hR
    replace h := h r2 M2 hq2
    refine zs_istore2 [1, 2, 3, 4, 5, 0] [(0, .ref 35), (1, .int x1), (2, .int x2), (3, .int x3), (4, .int x4), (5, .int r2)] d_X_married_112 (by decide) rfl ?_
    refine zs_iconst 0 d_X_married_114 (by decide) ?_
    refine zs_istore2 [1, 2, 3, 4, 5, 6, 0] [(0, .ref 35), (1, .int x1), (2, .int x2), (3, .int x3), (4, .int x4), (5, .int r2), (6, .int 0)] d_X_married_115 (by decide) rfl ?_
    exact h
  · replace h := h.2 c1
    refine zs_aload_n 0 d_X_married_71 rfl (List.mem_of_getElem? (i := 0) rfl) ?_
    refine zs_get d_X_married_72 gf_X_16 (sh_35 g X) rfl ?_
    refine zs_iload d_X_married_75 (List.mem_of_getElem? (i := 5) rfl) ?_
    refine zs_aload_n 0 d_X_married_77 rfl (List.mem_of_getElem? (i := 0) rfl) ?_
    refine zs_get d_X_married_78 gf_X_56 (sh_35 g X) rfl ?_
    refine zs_iload d_X_married_81 (List.mem_of_getElem? (i := 5) rfl) ?_
    obtain ⟨b3, h⟩ := h
    refine zs_iald d_X_married_83 (sh_49 g X) b3 ?_
    refine zs_bipush 6 d_X_married_84 (by decide) ?_
    refine zs_icmp_ne 94 d_X_married_86 (by decide) (fun c4 => ?_) (fun c4 => ?_)
    · replace h := h.1 c4
      refine zs_aload_n 0 d_X_married_94 rfl (List.mem_of_getElem? (i := 0) rfl) ?_
      refine zs_get d_X_married_95 gf_X_56 (sh_35 g X) rfl ?_
      refine zs_iload d_X_married_98 (List.mem_of_getElem? (i := 5) rfl) ?_
      refine zs_iald d_X_married_100 (sh_49 g X) b3 ?_
      refine zs_iast d_X_married_101 (sh_36 g X) b3 ?_
      refine zs_iinc2 5 (x5 + 1) [1, 2, 3, 4, 5, 0] [(0, .ref 35), (1, .int x1), (2, .int x2), (3, .int x3), (4, .int x4), (5, .int (x5 + 1))] d_X_married_102 rfl rfl (by decide) rfl ?_
      refine zs_goto 64 d_X_married_105 (by decide) ?_
      exact h
    · replace h := h.2 c4
      refine zs_bipush (-6) d_X_married_89 (by decide) ?_
      refine zs_goto 101 d_X_married_91 (by decide) ?_
      refine zs_iast d_X_married_101 (sh_36 g X) b3 ?_
      refine zs_iinc2 5 (x5 + 1) [1, 2, 3, 4, 5, 0] [(0, .ref 35), (1, .int x1), (2, .int x2), (3, .int x3), (4, .int x4), (5, .int (x5 + 1))] d_X_married_102 rfl rfl (by decide) rfl ?_
      refine zs_goto 64 d_X_married_105 (by decide) ?_
      exact h
theorem vS_X_married_117 (g : Nat → Option Nat) (X : List zShp) (M : zMem) (x1 x2 x3 x4 x5 x6 : Int32) (R : zEnd) (h : ((6 ≤ x6) → (((x3 ≤ x5) → (zRT m_X_married 0 0 45 [(0, .ref 35), (1, .int x1), (2, .int x2), (3, .int x3), (4, .int (x4 + 1))] [] (SHP g X) M R)) ∧ ((¬ x3 ≤ x5) → (zRT m_X_married 0 0 45 [(0, .ref 35), (1, .int x1), (2, .int x2), (3, .int x5), (4, .int (x4 + 1))] [] (SHP g X) M R)))) ∧ ((¬ 6 ≤ x6) → (((x3 ≤ x5) → (((x3 ≤ x5) → (zRT m_X_married 0 0 45 [(0, .ref 35), (1, .int x1), (2, .int x2), (3, .int x3), (4, .int (x4 + 1))] [] (SHP g X) M R)) ∧ ((¬ x3 ≤ x5) → (zRT m_X_married 0 0 45 [(0, .ref 35), (1, .int x1), (2, .int x2), (3, .int x5), (4, .int (x4 + 1))] [] (SHP g X) M R)))) ∧ ((¬ x3 ≤ x5) → ((vp_in x6 6) ∧ (zRT m_X_married 0 0 117 [(0, .ref 35), (1, .int x1), (2, .int x2), (3, .int x3), (4, .int x4), (5, .int x5), (6, .int (x6 + 1))] [] (SHP g X) (zms M 46 (Int32.toNatClampNeg x6) (M 36 (Int32.toNatClampNeg x6))) R)))))) : zRT m_X_married 0 0 117 [(0, .ref 35), (1, .int x1), (2, .int x2), (3, .int x3), (4, .int x4), (5, .int x5), (6, .int x6)] [] (SHP g X) M R := by
  refine zs_iload d_X_married_117 (List.mem_of_getElem? (i := 6) rfl) ?_
  refine zs_bipush 6 d_X_married_119 (by decide) ?_
  refine zs_icmp_ge 150 d_X_married_121 (by decide) (fun c1 => ?_) (fun c1 => ?_)
  · replace h := h.1 c1
    refine zs_iload d_X_married_150 (List.mem_of_getElem? (i := 5) rfl) ?_
    refine zs_iload_n 3 d_X_married_152 rfl (List.mem_of_getElem? (i := 3) rfl) ?_
    refine zs_icmp_ge 161 d_X_married_153 (by decide) (fun c2 => ?_) (fun c2 => ?_)
    · replace h := h.1 c2
      refine zs_iload_n 3 d_X_married_161 rfl (List.mem_of_getElem? (i := 3) rfl) ?_
      refine zs_istore_n2 3 [1, 2, 3, 0, 4, 5, 6] [(0, .ref 35), (1, .int x1), (2, .int x2), (3, .int x3), (4, .int x4), (5, .int x5), (6, .int x6)] d_X_married_162 rfl (by decide) rfl ?_
      refine zs_iinc2 4 (x4 + 1) [1, 2, 3, 4, 0, 5, 6] [(0, .ref 35), (1, .int x1), (2, .int x2), (3, .int x3), (4, .int (x4 + 1)), (5, .int x5), (6, .int x6)] d_X_married_163 rfl rfl (by decide) rfl ?_
      refine zs_goto 45 d_X_married_166 (by decide) ?_
      exact zRT_sub [0, 1, 2, 3, 4] rfl h
    · replace h := h.2 c2
      refine zs_iload d_X_married_156 (List.mem_of_getElem? (i := 5) rfl) ?_
      refine zs_goto 162 d_X_married_158 (by decide) ?_
      refine zs_istore_n2 3 [1, 2, 3, 0, 4, 5, 6] [(0, .ref 35), (1, .int x1), (2, .int x2), (3, .int x5), (4, .int x4), (5, .int x5), (6, .int x6)] d_X_married_162 rfl (by decide) rfl ?_
      refine zs_iinc2 4 (x4 + 1) [1, 2, 3, 4, 0, 5, 6] [(0, .ref 35), (1, .int x1), (2, .int x2), (3, .int x5), (4, .int (x4 + 1)), (5, .int x5), (6, .int x6)] d_X_married_163 rfl rfl (by decide) rfl ?_
      refine zs_goto 45 d_X_married_166 (by decide) ?_
      exact zRT_sub [0, 1, 2, 3, 4] rfl h
  · replace h := h.2 c1
    refine zs_iload d_X_married_124 (List.mem_of_getElem? (i := 5) rfl) ?_
    refine zs_iload_n 3 d_X_married_126 rfl (List.mem_of_getElem? (i := 3) rfl) ?_
    refine zs_icmp_ge 150 d_X_married_127 (by decide) (fun c3 => ?_) (fun c3 => ?_)
    · replace h := h.1 c3
      refine zs_iload d_X_married_150 (List.mem_of_getElem? (i := 5) rfl) ?_
      refine zs_iload_n 3 d_X_married_152 rfl (List.mem_of_getElem? (i := 3) rfl) ?_
      refine zs_icmp_ge 161 d_X_married_153 (by decide) (fun c4 => ?_) (fun c4 => ?_)
      · replace h := h.1 c4
        refine zs_iload_n 3 d_X_married_161 rfl (List.mem_of_getElem? (i := 3) rfl) ?_
        refine zs_istore_n2 3 [1, 2, 3, 0, 4, 5, 6] [(0, .ref 35), (1, .int x1), (2, .int x2), (3, .int x3), (4, .int x4), (5, .int x5), (6, .int x6)] d_X_married_162 rfl (by decide) rfl ?_
        refine zs_iinc2 4 (x4 + 1) [1, 2, 3, 4, 0, 5, 6] [(0, .ref 35), (1, .int x1), (2, .int x2), (3, .int x3), (4, .int (x4 + 1)), (5, .int x5), (6, .int x6)] d_X_married_163 rfl rfl (by decide) rfl ?_
        refine zs_goto 45 d_X_married_166 (by decide) ?_
        exact zRT_sub [0, 1, 2, 3, 4] rfl h
      · replace h := h.2 c4
        refine zs_iload d_X_married_156 (List.mem_of_getElem? (i := 5) rfl) ?_
        refine zs_goto 162 d_X_married_158 (by decide) ?_
        refine zs_istore_n2 3 [1, 2, 3, 0, 4, 5, 6] [(0, .ref 35), (1, .int x1), (2, .int x2), (3, .int x5), (4, .int x4), (5, .int x5), (6, .int x6)] d_X_married_162 rfl (by decide) rfl ?_
        refine zs_iinc2 4 (x4 + 1) [1, 2, 3, 4, 0, 5, 6] [(0, .ref 35), (1, .int x1), (2, .int x2), (3, .int x5), (4, .int (x4 + 1)), (5, .int x5), (6, .int x6)] d_X_married_163 rfl rfl (by decide) rfl ?_
        refine zs_goto 45 d_X_married_166 (by decide) ?_
        exact zRT_sub [0, 1, 2, 3, 4] rfl h
    · replace h := h.2 c3
      refine zs_aload_n 0 d_X_married_130 rfl (List.mem_of_getElem? (i := 0) rfl) ?_
      refine zs_get d_X_married_131 gf_X_47 (sh_35 g X) rfl ?_
      refine zs_iload d_X_married_134 (List.mem_of_getElem? (i := 6) rfl) ?_
      refine zs_aload_n 0 d_X_married_136 rfl (List.mem_of_getElem? (i := 0) rfl) ?_
      refine zs_get d_X_married_137 gf_X_16 (sh_35 g X) rfl ?_
      refine zs_iload d_X_married_140 (List.mem_of_getElem? (i := 6) rfl) ?_
      obtain ⟨b5, h⟩ := h
      refine zs_iald d_X_married_142 (sh_36 g X) b5 ?_
      refine zs_iast d_X_married_143 (sh_46 g X) b5 ?_
      refine zs_iinc2 6 (x6 + 1) [1, 2, 3, 4, 5, 6, 0] [(0, .ref 35), (1, .int x1), (2, .int x2), (3, .int x3), (4, .int x4), (5, .int x5), (6, .int (x6 + 1))] d_X_married_144 rfl rfl (by decide) rfl ?_
      refine zs_goto 117 d_X_married_147 (by decide) ?_
      exact h
theorem vS_X_married_172 (g : Nat → Option Nat) (X : List zShp) (M : zMem) (x1 x2 x3 x4 : Int32) (R : zEnd) (h : ((6 ≤ x4) → (((¬ x1 = (-1)) → ((((isM x1) = false) → (R (some (.int (-6))) (SHP g X) M)) ∧ (((isM x1) = true) → ((vp_in x1 6) ∧ (R (some (.int (M 46 (Int32.toNatClampNeg x1)))) (SHP g X) M))))) ∧ ((x1 = (-1)) → (R (some (.int (x3 - x2))) (SHP g X) M)))) ∧ ((¬ 6 ≤ x4) → ((vp_in x4 6) ∧ (zRT m_X_married 0 0 172 [(0, .ref 35), (1, .int x1), (2, .int x2), (3, .int x3), (4, .int (x4 + 1))] [] (SHP g X) (zms M 36 (Int32.toNatClampNeg x4) (M 48 (Int32.toNatClampNeg x4))) R)))) : zRT m_X_married 0 0 172 [(0, .ref 35), (1, .int x1), (2, .int x2), (3, .int x3), (4, .int x4)] [] (SHP g X) M R := by
  refine zs_iload d_X_married_172 (List.mem_of_getElem? (i := 4) rfl) ?_
  refine zs_bipush 6 d_X_married_174 (by decide) ?_
  refine zs_icmp_ge 199 d_X_married_176 (by decide) (fun c1 => ?_) (fun c1 => ?_)
  · replace h := h.1 c1
    refine zs_iload_n 1 d_X_married_199 rfl (List.mem_of_getElem? (i := 1) rfl) ?_
    refine zs_iconst (-1) d_X_married_200 (by decide) ?_
    refine zs_icmp_ne 210 d_X_married_201 (by decide) (fun c2 => ?_) (fun c2 => ?_)
    · replace h := h.1 c2
      refine zs_iload_n 1 d_X_married_210 rfl (List.mem_of_getElem? (i := 1) rfl) ?_
      refine zs_callS (kc := 0) (ks := 0) (kc1 := 0) (ks1 := 0) (st := []) [.int x1] d_X_married_211 lk_X_87 ⟨by decide, by decide⟩ rfl (Nat.le_of_ble_eq_true rfl) (ex_X_isMan g X M x1) (fun v3 sh3 M3 hR => ?_)
      obtain ⟨rfl, rfl, rfl⟩ := hR
      refine zs_if_eq 226 d_X_married_214 (by decide) (fun c4 => ?_) (fun c4 => ?_)
      · replace h := h.1 (bI_0 c4)
        refine zs_bipush (-6) d_X_married_226 (by decide) ?_
        exact zs_iret d_X_married_228 rfl h
      · replace h := h.2 (bI_1 c4)
        refine zs_aload_n 0 d_X_married_217 rfl (List.mem_of_getElem? (i := 0) rfl) ?_
        refine zs_get d_X_married_218 gf_X_47 (sh_35 g X) rfl ?_
        refine zs_iload_n 1 d_X_married_221 rfl (List.mem_of_getElem? (i := 1) rfl) ?_
        obtain ⟨b5, h⟩ := h
        refine zs_iald d_X_married_222 (sh_46 g X) b5 ?_
        refine zs_goto 228 d_X_married_223 (by decide) ?_
        exact zs_iret d_X_married_228 rfl h
    · replace h := h.2 c2
      refine zs_iload_n 3 d_X_married_204 rfl (List.mem_of_getElem? (i := 3) rfl) ?_
      refine zs_iload_n 2 d_X_married_205 rfl (List.mem_of_getElem? (i := 2) rfl) ?_
      refine zs_isub d_X_married_206 ?_
      refine zs_goto 228 d_X_married_207 (by decide) ?_
      exact zs_iret d_X_married_228 rfl h
  · replace h := h.2 c1
    refine zs_aload_n 0 d_X_married_179 rfl (List.mem_of_getElem? (i := 0) rfl) ?_
    refine zs_get d_X_married_180 gf_X_16 (sh_35 g X) rfl ?_
    refine zs_iload d_X_married_183 (List.mem_of_getElem? (i := 4) rfl) ?_
    refine zs_aload_n 0 d_X_married_185 rfl (List.mem_of_getElem? (i := 0) rfl) ?_
    refine zs_get d_X_married_186 gf_X_53 (sh_35 g X) rfl ?_
    refine zs_iload d_X_married_189 (List.mem_of_getElem? (i := 4) rfl) ?_
    obtain ⟨b6, h⟩ := h
    refine zs_iald d_X_married_191 (sh_48 g X) b6 ?_
    refine zs_iast d_X_married_192 (sh_36 g X) b6 ?_
    refine zs_iinc2 4 (x4 + 1) [1, 2, 3, 4, 0] [(0, .ref 35), (1, .int x1), (2, .int x2), (3, .int x3), (4, .int (x4 + 1))] d_X_married_193 rfl rfl (by decide) rfl ?_
    refine zs_goto 172 d_X_married_196 (by decide) ?_
    exact h
set_option maxHeartbeats 4000000 in
theorem ex2_X_married (i : Int32) (hh : mK M) (h0 : M 35 6 = 0) (hp : ∀ j, j < 6 → M 36 j = -6) : zEx m_X_married 0 0 [.ref 35, .int i] (SHP g X) M (qR g X (fun r M2 => mAg M M2 ∧ r = if i = -1 then 0 else if isM i = true then pB (Int32.toNatClampNeg i) else -6)) := by
  have kk : ∀ M1, mIw M M1 → mK M1 := fun M1 h => mK_e (h.1 35 (by decide)) (h.1 38 (by decide)) hh
  have k0 : ∀ M1, mIw M M1 → M1 35 6 = 0 := fun M1 h => by rw [h.1 35 (by decide)]; exact h0
  have k48 : ∀ M1, mIw M M1 → ∀ j, j < 6 → M1 48 j < 0 := fun M1 h j hj => by rw [h.2.2 j hj, hp j hj]; decide
  have L5 : ∀ d k M1, k + d = 6 → mIw M M1 → (∀ j, j < 6 → M1 46 j = pB j) → (∀ j, j < k → M1 36 j = M 36 j) → zRT m_X_married 0 0 172 [(0, .ref 35), (1, .int i), (2, .int 0), (3, .int 0), (4, .int (nI k))] [] (SHP g X) M1 (qR g X (fun r M2 => mAg M M2 ∧ r = if i = -1 then 0 else if isM i = true then pB (Int32.toNatClampNeg i) else -6)) := by
    intro d
    induction d with
    | zero =>
      intro k M1 hk hv hb hq
      have ha : mAg M M1 := by
        intro p hp2
        by_cases q : p = 36
        · rw [q]
          funext j
          rcases Nat.lt_or_ge j 6 with r | r
          · exact hq j (by omega)
          · exact hv.2.1 j r
        · refine hv.1 p ?_
          simp only [List.mem_cons, List.not_mem_nil, or_false] at hp2 ⊢
          omega
      refine vS_X_married_172 g X _ _ _ _ _ _ ⟨fun _ => ⟨fun h => ⟨fun h2 => qR_i ⟨ha, ?_⟩, fun h2 => ⟨isM_in h2, qR_i ⟨ha, ?_⟩⟩⟩, fun h => qR_i ⟨ha, ?_⟩⟩, fun h => absurd (nI_le (a := 6) (by omega) (by omega)) h⟩
      · rw [if_neg h, if_neg (by rw [h2]; decide)]
      · rw [if_neg h, if_pos h2]
        exact hb _ (isM_n h2).1
      · rw [if_pos h]; rfl
    | succ d ih =>
      intro k M1 hk hv hb hq
      refine vS_X_married_172 g X _ _ _ _ _ _ ⟨fun h => absurd h (nI_ge (b := 6) (by omega) (by omega)), fun _ => ⟨vp_in_nI (by omega) (by decide), ?_⟩⟩
      rw [nI_1, nI_clamp (n := k) (by omega), hv.2.2 k (by omega)]
      refine ih (k + 1) _ (by omega) (hv.s6 (by omega)) ?_ (fun j hj => ?_)
      · rw [zms_ne _ _ _ _ 46 (by decide)]; exact hb
      · rw [zms_at]
        by_cases q : j = k
        · rw [if_pos q, q]
        · rw [if_neg q]; exact hq j (by omega)
  -- what holds at the head of the codes
  have L4 : ∀ (k6 : Nat) (x3 : Int32) (K0 : x3 = 0 → ∀ M1, mIw M M1 → (∀ j, j < 6 → M1 46 j = pB j) → zRT m_X_married 0 0 45 [(0, .ref 35), (1, .int i), (2, .int 0), (3, .int 0), (4, .int (nI k6 + 1))] [] (SHP g X) M1 (qR g X (fun r M2 => mAg M M2 ∧ r = if i = -1 then 0 else if isM i = true then pB (Int32.toNatClampNeg i) else -6))) (K1 : x3 = 1000000 → ∀ M1, mIw M M1 → (∀ j, j < 6 → M1 46 j = M1 36 j) → (∀ j, j < 6 → M1 36 j = pB j) → zRT m_X_married 0 0 45 [(0, .ref 35), (1, .int i), (2, .int 0), (3, .int 0), (4, .int (nI k6 + 1))] [] (SHP g X) M1 (qR g X (fun r M2 => mAg M M2 ∧ r = if i = -1 then 0 else if isM i = true then pB (Int32.toNatClampNeg i) else -6))), ∀ d k M1, k + d = 6 → mIw M M1 → ((x3 = 0 ∧ k = 0 ∧ ∀ j, j < 6 → M1 46 j = pB j) ∨ (x3 = 1000000 ∧ (∀ j, j < k → M1 46 j = M1 36 j) ∧ ∀ j, j < 6 → M1 36 j = pB j)) → zRT m_X_married 0 0 117 [(0, .ref 35), (1, .int i), (2, .int 0), (3, .int x3), (4, .int (nI k6)), (5, .int 0), (6, .int (nI k))] [] (SHP g X) M1 (qR g X (fun r M2 => mAg M M2 ∧ r = if i = -1 then 0 else if isM i = true then pB (Int32.toNatClampNeg i) else -6)) := by
    intro k6 x3 K0 K1 d
    induction d with
    | zero =>
      intro k M1 hk hv hq
      rcases hq with ⟨q1, q2, q3⟩ | ⟨q1, q2, q3⟩
      · omega
      · refine vS_X_married_117 g X _ _ _ _ _ _ _ _ ⟨fun _ => ⟨fun h => absurd h (by rw [q1]; decide), fun h => K1 q1 M1 hv (fun j hj => q2 j (by omega)) q3⟩, fun h => absurd (nI_le (a := 6) (by omega) (by omega)) h⟩
    | succ d ih =>
      intro k M1 hk hv hq
      refine vS_X_married_117 g X _ _ _ _ _ _ _ _ ⟨fun h => absurd h (nI_ge (b := 6) (by omega) (by omega)), fun _ => ?_⟩
      rw [nI_1 k, nI_clamp (n := k) (by omega)]
      rcases hq with ⟨q1, q2, q3⟩ | ⟨q1, q2, q3⟩
      · subst q1
        exact ⟨fun _ => ⟨fun _ => K0 rfl M1 hv q3, fun h => absurd (by decide) h⟩, fun h => absurd (by decide) h⟩
      · refine ⟨fun h => absurd h (by rw [q1]; decide), fun h => ⟨vp_in_nI (by omega) (by decide), ih (k + 1) _ (by omega) (hv.st (by decide)) (Or.inr ⟨q1, fun j hj => ?_, ?_⟩)⟩⟩
        · rw [zms_at, zms_ne _ _ _ _ 36 (by decide)]
          by_cases q : j = k
          · rw [if_pos q, q]
          · rw [if_neg q]; exact q2 j (by omega)
        · rw [zms_ne _ _ _ _ 36 (by decide)]; exact q3
  have L2 : ∀ d k M1 (x3 : Int32), k + d = 117649 → mIw M M1 → ((k ≤ 17973 ∧ x3 = 1000000) ∨ (17973 < k ∧ x3 = 0 ∧ ∀ j, j < 6 → M1 46 j = pB j)) → zRT m_X_married 0 0 45 [(0, .ref 35), (1, .int i), (2, .int 0), (3, .int x3), (4, .int (nI k))] [] (SHP g X) M1 (qR g X (fun r M2 => mAg M M2 ∧ r = if i = -1 then 0 else if isM i = true then pB (Int32.toNatClampNeg i) else -6)) := by
    intro d
    induction d with
    | zero =>
      intro k M1 x3 hk hv hq
      rcases hq with ⟨q1, q2⟩ | ⟨q1, q2, q3⟩
      · omega
      · subst q2
        exact vS_X_married_45 g X _ _ _ _ _ _ ⟨fun _ => L5 6 0 M1 rfl hv q3 (fun j hj => absurd hj (by omega)), fun h => absurd (nI_le (a := 117649) (by omega) (by omega)) h⟩
    | succ d ih =>
      intro k M1 x3 hk hv hq
      refine vS_X_married_45 g X _ _ _ _ _ _ ⟨fun h => absurd h (nI_ge (b := 117649) (by omega) (by omega)), fun _ => ⟨⟨k, by omega, rfl⟩, fun r M2 h2 => ?_⟩⟩
      obtain ⟨a2, -, h2⟩ := h2
      obtain ⟨d1, d2⟩ := h2 k (by omega) rfl
      have hv2 := hv.ag a2 (fun p hp => Or.inr (List.mem_singleton.mp hp))
      have e46 : M2 46 = M1 46 := a2 46 (by decide)
      refine ⟨fun r0 => ?_, fun r0 => ?_⟩
      · rw [nI_1]
        refine ih (k + 1) M2 x3 (by omega) hv2 ?_
        rcases hq with ⟨q1, q2⟩ | ⟨q1, q2, q3⟩
        · refine Or.inl ⟨?_, q2⟩
          by_cases e : k = 17973
          · exfalso
            subst e
            exact (d2.mpr (pFirst0 (k48 M1 hv))) r0
          · omega
        · exact Or.inr ⟨by omega, q2, by rw [e46]; exact q3⟩
      · have ok := d2.mp r0
        have kl := pFirst (by omega) ok
        have k6 : ∀ j, j < 6 → ¬ d7 k j = 6 ∨ x3 = 0 := fun j hj => by
          rcases hq with ⟨q1, q2⟩ | ⟨q1, q2, q3⟩
          · have e : k = 17973 := by omega
            subst e
            have : ∀ j, j < 6 → ¬ d7 17973 j = 6 := by decide
            exact Or.inl (this j hj)
          · exact Or.inr q2
        have L3 : ∀ d l M3, l + d = 6 → mIw M M3 → (∀ j, j < 6 → M3 49 j = nI (d7 k j)) → (x3 = 0 → ∀ j, j < 6 → M3 46 j = pB j) → (x3 = 1000000 → ∀ j, j < l → M3 36 j = pB j) → zRT m_X_married 0 0 64 [(0, .ref 35), (1, .int i), (2, .int 0), (3, .int x3), (4, .int (nI k)), (5, .int (nI l))] [] (SHP g X) M3 (qR g X (fun r M2 => mAg M M2 ∧ r = if i = -1 then 0 else if isM i = true then pB (Int32.toNatClampNeg i) else -6)) := by
          intro d
          induction d with
          | zero =>
            intro l M3 hl hv3 h49 hb0 hb1
            have e6 : l = 6 := by omega
            subst e6
            refine vS_X_married_64 g X _ _ _ _ _ _ _ ⟨fun _ => ⟨kk M3 hv3, fun r M4 h4 => ?_⟩, fun h => absurd (nI_le (a := 6) (by omega) (by omega)) h⟩
            have er := h4.2 (k0 M3 hv3)
            subst er
            have hv4 := hv3.ag h4.1 (fun p hp => Or.inl (List.mem_singleton.mp hp))
            refine L4 k x3 (fun e0 M5 hv5 hb5 => ?_) (fun e1 M5 hv5 hb5 hb6 => ?_) 6 0 M4 rfl hv4 ?_
            · rw [nI_1]
              rcases hq with ⟨q1, q2⟩ | ⟨q1, q2, q3⟩
              · rw [e0] at q2; exact absurd q2 (by decide)
              · exact ih (k + 1) M5 0 (by omega) hv5 (Or.inr ⟨by omega, rfl, hb5⟩)
            · rw [nI_1]
              refine ih (k + 1) M5 0 (by omega) hv5 (Or.inr ⟨by omega, rfl, fun j hj => ?_⟩)
              rw [hb5 j hj]; exact hb6 j hj
            · rcases hq with ⟨q1, q2⟩ | ⟨q1, q2, q3⟩
              · refine Or.inr ⟨q2, fun j hj => absurd hj (Nat.not_lt_zero j), fun j hj => ?_⟩
                rw [h4.1 36 (by decide)]; exact hb1 q2 j hj
              · refine Or.inl ⟨q2, rfl, fun j hj => ?_⟩
                rw [h4.1 46 (by decide)]; exact hb0 q2 j hj
          | succ d ihl =>
            intro l M3 hl hv3 h49 hb0 hb1
            refine vS_X_married_64 g X _ _ _ _ _ _ _ ⟨fun h => absurd h (nI_ge (b := 6) (by omega) (by omega)), fun _ => ⟨vp_in_nI (by omega) (by decide), ?_⟩⟩
            rw [nI_1 l, nI_clamp (n := l) (by omega), h49 l (by omega)]
            have nxt : ∀ v : Int32, (x3 = 1000000 → v = pB l) → zRT m_X_married 0 0 64 [(0, .ref 35), (1, .int i), (2, .int 0), (3, .int x3), (4, .int (nI k)), (5, .int (nI (l + 1)))] [] (SHP g X) (zms M3 36 l v) (qR g X (fun r M2 => mAg M M2 ∧ r = if i = -1 then 0 else if isM i = true then pB (Int32.toNatClampNeg i) else -6)) := by
              intro v hv1
              refine ihl (l + 1) _ (by omega) (hv3.s6 (by omega)) ?_ (fun e0 => ?_) (fun e1 j hj => ?_)
              · rw [zms_ne _ _ _ _ 49 (by decide)]; exact h49
              · rw [zms_ne _ _ _ _ 46 (by decide)]; exact hb0 e0
              · rw [zms_at]
                by_cases q : j = l
                · rw [if_pos q, q]; exact hv1 e1
                · rw [if_neg q]; exact hb1 e1 j (by omega)
            refine ⟨fun h => nxt _ (fun e1 => ?_), fun h => nxt _ (fun e1 => ?_)⟩
            · rcases hq with ⟨q1, q2⟩ | ⟨q1, q2, q3⟩
              · have e : k = 17973 := by omega
                rw [e]; rfl
              · rw [e1] at q2; exact absurd q2 (by decide)
            · exfalso
              rcases k6 l (by omega) with q | q
              · exact q ((nI_eq (b := 6) (by have := d7_7 k l; omega) (by decide)).mp h)
              · rw [e1] at q; exact absurd q (by decide)
        refine L3 6 0 M2 rfl hv2 d1 (fun e0 => ?_) (fun _ j hj => absurd hj (Nat.not_lt_zero j))
        rcases hq with ⟨q1, q2⟩ | ⟨q1, q2, q3⟩
        · rw [e0] at q2; exact absurd q2 (by decide)
        · rw [e46]; exact q3
  have L1 : ∀ d k M1, k + d = 6 → mAg M M1 → (∀ j, j < k → M1 48 j = M 36 j) → zRT m_X_married 0 0 15 [(0, .ref 35), (1, .int i), (2, .int 0), (3, .int 1000000), (4, .int (nI k))] [] (SHP g X) M1 (qR g X (fun r M2 => mAg M M2 ∧ r = if i = -1 then 0 else if isM i = true then pB (Int32.toNatClampNeg i) else -6)) := by
    intro d
    induction d with
    | zero =>
      intro k M1 hk ha hq
      refine vS_X_married_15 g X _ _ _ _ _ _ ⟨fun _ => L2 117649 0 M1 1000000 (by omega) ⟨fun p hp2 => ha p ?_, fun j _ => by rw [ha.e36], fun j hj => hq j (by omega)⟩ (Or.inl ⟨Nat.zero_le _, rfl⟩), fun h => absurd (nI_le (a := 6) (by omega) (by omega)) h⟩
      simp only [List.mem_cons, List.not_mem_nil, or_false] at hp2 ⊢
      omega
    | succ d ih =>
      intro k M1 hk ha hq
      refine vS_X_married_15 g X _ _ _ _ _ _ ⟨fun h => absurd h (nI_ge (b := 6) (by omega) (by omega)), fun _ => ⟨vp_in_nI (by omega) (by decide), ?_⟩⟩
      rw [nI_1, nI_clamp (n := k) (by omega), ha.e36]
      refine ih (k + 1) _ (by omega) (ha.st (by decide)) (fun j hj => ?_)
      rw [zms_at]
      by_cases q : j = k
      · rw [if_pos q, q]
      · rw [if_neg q]; exact hq j (by omega)
  have h1 : mAg M (mTo M) := mAg.rf.mt
  refine zEx_of _ (by decide) (by simp [Value.category]) (Nat.le_of_ble_eq_true rfl) rfl (vS_X_married_0 g X M i _ ⟨hh.1, h1.mk hh, fun r M2 h2 => ?_⟩)
  have er := h2.2 (by rw [h1.e35]; exact h0)
  subst er
  refine L1 6 0 M2 rfl (h1.tr (fun p hp => h2.1 p (fun q => hp ?_))) (fun j hj => absurd hj (by omega))
  rw [List.mem_singleton.mp q]; decide
theorem vS_X_fed_0 (g : Nat → Option Nat) (X : List zShp) (M : zMem) (x1 : Int32) (R : zEnd) (h : (mK M) ∧ (∀ (M1 : zMem), (mAg M M1 ∧ (∀ F Mc, cM F Mc M → ∀ j, j < 6 → M1 44 j = kLwf Mc (nI j))) → (zRT m_X_fed 0 0 9 [(0, .ref 35), (1, .int x1), (2, .int (-6)), (3, .int 0)] [] (SHP g X) M1 R))) : zRT m_X_fed 0 0 0 [(0, .ref 35), (1, .int x1)] [] (SHP g X) M R := by
  refine zs_aload_n 0 d_X_fed_0 rfl (List.mem_of_getElem? (i := 0) rfl) ?_
  obtain ⟨p1, h⟩ := h
  refine zs_callV (kc := 0) (ks := 0) (kc1 := 0) (ks1 := 0) (st := []) [] d_X_fed_1 lk_X_147 ⟨by decide, by decide⟩ rfl (sh_35 g X) rfl (Nat.le_of_ble_eq_true rfl) (ex2_X_layMays g X M p1) (fun v1 sh1 M1 hR => ?_)
  obtain ⟨rfl, rfl, hq1⟩ := hR
  replace h := h M1 hq1
  refine zs_bipush (-6) d_X_fed_4 (by decide) ?_
  refine zs_istore_n2 2 [1, 2, 0] [(0, .ref 35), (1, .int x1), (2, .int (-6))] d_X_fed_6 rfl (by decide) rfl ?_
  refine zs_iconst 0 d_X_fed_7 (by decide) ?_
  refine zs_istore_n2 3 [1, 2, 3, 0] [(0, .ref 35), (1, .int x1), (2, .int (-6)), (3, .int 0)] d_X_fed_8 rfl (by decide) rfl ?_
  exact h
theorem vS_X_fed_9 (g : Nat → Option Nat) (X : List zShp) (M : zMem) (x1 x2 x3 : Int32) (R : zEnd) (h : (((M 35 6) ≤ x3) → (zRT m_X_fed 0 0 37 [(0, .ref 35), (1, .int x1), (2, .int x2), (3, .int 0)] [] (SHP g X) M R)) ∧ ((¬ (M 35 6) ≤ x3) → ((vp_in x3 10) ∧ (zRT m_X_fed 0 0 9 [(0, .ref 35), (1, .int x1), (2, .int x2), (3, .int (x3 + 1))] [] (SHP g X) (zms M 47 (Int32.toNatClampNeg x3) (M 39 (Int32.toNatClampNeg x3))) R)))) : zRT m_X_fed 0 0 9 [(0, .ref 35), (1, .int x1), (2, .int x2), (3, .int x3)] [] (SHP g X) M R := by
  refine zs_iload_n 3 d_X_fed_9 rfl (List.mem_of_getElem? (i := 3) rfl) ?_
  refine zs_aload_n 0 d_X_fed_10 rfl (List.mem_of_getElem? (i := 0) rfl) ?_
  refine zs_get d_X_fed_11 gf_X_70 (sh_35 g X) rfl ?_
  refine zs_icmp_ge 35 d_X_fed_14 (by decide) (fun c1 => ?_) (fun c1 => ?_)
  · replace h := h.1 c1
    refine zs_iconst 0 d_X_fed_35 (by decide) ?_
    refine zs_istore_n2 3 [1, 2, 3, 0] [(0, .ref 35), (1, .int x1), (2, .int x2), (3, .int 0)] d_X_fed_36 rfl (by decide) rfl ?_
    exact h
  · replace h := h.2 c1
    refine zs_aload_n 0 d_X_fed_17 rfl (List.mem_of_getElem? (i := 0) rfl) ?_
    refine zs_get d_X_fed_18 gf_X_50 (sh_35 g X) rfl ?_
    refine zs_iload_n 3 d_X_fed_21 rfl (List.mem_of_getElem? (i := 3) rfl) ?_
    refine zs_aload_n 0 d_X_fed_22 rfl (List.mem_of_getElem? (i := 0) rfl) ?_
    refine zs_get d_X_fed_23 gf_X_26 (sh_35 g X) rfl ?_
    refine zs_iload_n 3 d_X_fed_26 rfl (List.mem_of_getElem? (i := 3) rfl) ?_
    obtain ⟨b2, h⟩ := h
    refine zs_iald d_X_fed_27 (sh_39 g X) b2 ?_
    refine zs_iast d_X_fed_28 (sh_47 g X) b2 ?_
    refine zs_iinc2 3 (x3 + 1) [1, 2, 3, 0] [(0, .ref 35), (1, .int x1), (2, .int x2), (3, .int (x3 + 1))] d_X_fed_29 rfl rfl (by decide) rfl ?_
    refine zs_goto 9 d_X_fed_32 (by decide) ?_
    exact h
theorem vS_X_fed_37 (g : Nat → Option Nat) (X : List zShp) (M : zMem) (x1 x2 x3 : Int32) (R : zEnd) (h : ((6 ≤ x3) → (zRT m_X_fed 0 0 61 [(0, .ref 35), (1, .int x1), (2, .int x2), (3, .int 0), (4, .int 0)] [] (SHP g X) M R)) ∧ ((¬ 6 ≤ x3) → ((vp_in x3 6) ∧ (zRT m_X_fed 0 0 37 [(0, .ref 35), (1, .int x1), (2, .int x2), (3, .int (x3 + 1))] [] (SHP g X) (zms M 45 (Int32.toNatClampNeg x3) (-1)) R)))) : zRT m_X_fed 0 0 37 [(0, .ref 35), (1, .int x1), (2, .int x2), (3, .int x3)] [] (SHP g X) M R := by
  refine zs_iload_n 3 d_X_fed_37 rfl (List.mem_of_getElem? (i := 3) rfl) ?_
  refine zs_bipush 6 d_X_fed_38 (by decide) ?_
  refine zs_icmp_ge 56 d_X_fed_40 (by decide) (fun c1 => ?_) (fun c1 => ?_)
  · replace h := h.1 c1
    refine zs_iconst 0 d_X_fed_56 (by decide) ?_
    refine zs_istore_n2 3 [1, 2, 3, 0] [(0, .ref 35), (1, .int x1), (2, .int x2), (3, .int 0)] d_X_fed_57 rfl (by decide) rfl ?_
    refine zs_iconst 0 d_X_fed_58 (by decide) ?_
    refine zs_istore2 [1, 2, 3, 4, 0] [(0, .ref 35), (1, .int x1), (2, .int x2), (3, .int 0), (4, .int 0)] d_X_fed_59 (by decide) rfl ?_
    exact h
  · replace h := h.2 c1
    refine zs_aload_n 0 d_X_fed_43 rfl (List.mem_of_getElem? (i := 0) rfl) ?_
    refine zs_get d_X_fed_44 gf_X_44 (sh_35 g X) rfl ?_
    refine zs_iload_n 3 d_X_fed_47 rfl (List.mem_of_getElem? (i := 3) rfl) ?_
    refine zs_iconst (-1) d_X_fed_48 (by decide) ?_
    obtain ⟨b2, h⟩ := h
    refine zs_iast d_X_fed_49 (sh_45 g X) b2 ?_
    refine zs_iinc2 3 (x3 + 1) [1, 2, 3, 0] [(0, .ref 35), (1, .int x1), (2, .int x2), (3, .int (x3 + 1))] d_X_fed_50 rfl rfl (by decide) rfl ?_
    refine zs_goto 37 d_X_fed_53 (by decide) ?_
    exact h
theorem vS_X_fed_61 (g : Nat → Option Nat) (X : List zShp) (M : zMem) (x1 x2 x3 x4 : Int32) (R : zEnd) (h : ((x3 < 0) → (((¬ x1 = (-1)) → ((((isM x1) = false) → (R (some (.int (-6))) (SHP g X) M)) ∧ (((isM x1) = true) → ((vp_in x1 6) ∧ (R (some (.int (M 46 (Int32.toNatClampNeg x1)))) (SHP g X) M))))) ∧ ((x1 = (-1)) → (R (some (.int x2)) (SHP g X) M)))) ∧ ((¬ x3 < 0) → (((¬ x3 = 6) → ((vp_in x3 6) ∧ ((((M 45 (Int32.toNatClampNeg x3)) < 0) → (zRT m_X_fed 0 0 185 [(0, .ref 35), (1, .int x1), (2, .int x2), (3, .int x3), (4, .int x4), (5, .int ((M 45 (Int32.toNatClampNeg x3)) + 1))] [] (SHP g X) M R)) ∧ ((¬ (M 45 (Int32.toNatClampNeg x3)) < 0) → ((((M 35 6) ≤ (M 45 (Int32.toNatClampNeg x3))) → (zRT m_X_fed 0 0 185 [(0, .ref 35), (1, .int x1), (2, .int x2), (3, .int x3), (4, .int x4), (5, .int ((M 45 (Int32.toNatClampNeg x3)) + 1))] [] (SHP g X) M R)) ∧ ((¬ (M 35 6) ≤ (M 45 (Int32.toNatClampNeg x3))) → ((vp_in (M 45 (Int32.toNatClampNeg x3)) 10) ∧ (zRT m_X_fed 0 0 185 [(0, .ref 35), (1, .int x1), (2, .int x2), (3, .int x3), (4, .int (x4 + (-1))), (5, .int ((M 45 (Int32.toNatClampNeg x3)) + 1))] [] (SHP g X) (zms M 47 (Int32.toNatClampNeg (M 45 (Int32.toNatClampNeg x3))) ((M 47 (Int32.toNatClampNeg (M 45 (Int32.toNatClampNeg x3)))) + 1)) R)))))))) ∧ ((x3 = 6) → (((x4 ≤ x2) → (zRT m_X_fed 0 0 61 [(0, .ref 35), (1, .int x1), (2, .int x2), (3, .int (x3 + (-1))), (4, .int x4)] [] (SHP g X) M R)) ∧ ((¬ x4 ≤ x2) → (zRT m_X_fed 0 0 83 [(0, .ref 35), (1, .int x1), (2, .int x4), (3, .int x3), (4, .int x4), (5, .int 0)] [] (SHP g X) M R))))))) : zRT m_X_fed 0 0 61 [(0, .ref 35), (1, .int x1), (2, .int x2), (3, .int x3), (4, .int x4)] [] (SHP g X) M R := by
  refine zs_iload_n 3 d_X_fed_61 rfl (List.mem_of_getElem? (i := 3) rfl) ?_
  refine zs_if_lt 294 d_X_fed_62 (by decide) (fun c1 => ?_) (fun c1 => ?_)
  · replace h := h.1 c1
    refine zs_iload_n 1 d_X_fed_294 rfl (List.mem_of_getElem? (i := 1) rfl) ?_
    refine zs_iconst (-1) d_X_fed_295 (by decide) ?_
    refine zs_icmp_ne 303 d_X_fed_296 (by decide) (fun c2 => ?_) (fun c2 => ?_)
    · replace h := h.1 c2
      refine zs_iload_n 1 d_X_fed_303 rfl (List.mem_of_getElem? (i := 1) rfl) ?_
      refine zs_callS (kc := 0) (ks := 0) (kc1 := 0) (ks1 := 0) (st := []) [.int x1] d_X_fed_304 lk_X_87 ⟨by decide, by decide⟩ rfl (Nat.le_of_ble_eq_true rfl) (ex_X_isMan g X M x1) (fun v3 sh3 M3 hR => ?_)
      obtain ⟨rfl, rfl, rfl⟩ := hR
      refine zs_if_eq 319 d_X_fed_307 (by decide) (fun c4 => ?_) (fun c4 => ?_)
      · replace h := h.1 (bI_0 c4)
        refine zs_bipush (-6) d_X_fed_319 (by decide) ?_
        exact zs_iret d_X_fed_321 rfl h
      · replace h := h.2 (bI_1 c4)
        refine zs_aload_n 0 d_X_fed_310 rfl (List.mem_of_getElem? (i := 0) rfl) ?_
        refine zs_get d_X_fed_311 gf_X_47 (sh_35 g X) rfl ?_
        refine zs_iload_n 1 d_X_fed_314 rfl (List.mem_of_getElem? (i := 1) rfl) ?_
        obtain ⟨b5, h⟩ := h
        refine zs_iald d_X_fed_315 (sh_46 g X) b5 ?_
        refine zs_goto 321 d_X_fed_316 (by decide) ?_
        exact zs_iret d_X_fed_321 rfl h
    · replace h := h.2 c2
      refine zs_iload_n 2 d_X_fed_299 rfl (List.mem_of_getElem? (i := 2) rfl) ?_
      refine zs_goto 321 d_X_fed_300 (by decide) ?_
      exact zs_iret d_X_fed_321 rfl h
  · replace h := h.2 c1
    refine zs_iload_n 3 d_X_fed_65 rfl (List.mem_of_getElem? (i := 3) rfl) ?_
    refine zs_bipush 6 d_X_fed_66 (by decide) ?_
    refine zs_icmp_ne 135 d_X_fed_68 (by decide) (fun c6 => ?_) (fun c6 => ?_)
    · replace h := h.1 c6
      refine zs_aload_n 0 d_X_fed_135 rfl (List.mem_of_getElem? (i := 0) rfl) ?_
      refine zs_get d_X_fed_136 gf_X_44 (sh_35 g X) rfl ?_
      refine zs_iload_n 3 d_X_fed_139 rfl (List.mem_of_getElem? (i := 3) rfl) ?_
      obtain ⟨b7, h⟩ := h
      refine zs_iald d_X_fed_140 (sh_45 g X) b7 ?_
      refine zs_if_lt 175 d_X_fed_141 (by decide) (fun c8 => ?_) (fun c8 => ?_)
      · replace h := h.1 c8
        refine zs_aload_n 0 d_X_fed_175 rfl (List.mem_of_getElem? (i := 0) rfl) ?_
        refine zs_get d_X_fed_176 gf_X_44 (sh_35 g X) rfl ?_
        refine zs_iload_n 3 d_X_fed_179 rfl (List.mem_of_getElem? (i := 3) rfl) ?_
        refine zs_iald d_X_fed_180 (sh_45 g X) b7 ?_
        refine zs_iconst 1 d_X_fed_181 (by decide) ?_
        refine zs_iadd d_X_fed_182 ?_
        refine zs_istore2 [1, 2, 3, 4, 5, 0] [(0, .ref 35), (1, .int x1), (2, .int x2), (3, .int x3), (4, .int x4), (5, .int ((M 45 (Int32.toNatClampNeg x3)) + 1))] d_X_fed_183 (by decide) rfl ?_
        exact h
      · replace h := h.2 c8
        refine zs_aload_n 0 d_X_fed_144 rfl (List.mem_of_getElem? (i := 0) rfl) ?_
        refine zs_get d_X_fed_145 gf_X_44 (sh_35 g X) rfl ?_
        refine zs_iload_n 3 d_X_fed_148 rfl (List.mem_of_getElem? (i := 3) rfl) ?_
        refine zs_iald d_X_fed_149 (sh_45 g X) b7 ?_
        refine zs_aload_n 0 d_X_fed_150 rfl (List.mem_of_getElem? (i := 0) rfl) ?_
        refine zs_get d_X_fed_151 gf_X_70 (sh_35 g X) rfl ?_
        refine zs_icmp_ge 175 d_X_fed_154 (by decide) (fun c9 => ?_) (fun c9 => ?_)
        · replace h := h.1 c9
          refine zs_aload_n 0 d_X_fed_175 rfl (List.mem_of_getElem? (i := 0) rfl) ?_
          refine zs_get d_X_fed_176 gf_X_44 (sh_35 g X) rfl ?_
          refine zs_iload_n 3 d_X_fed_179 rfl (List.mem_of_getElem? (i := 3) rfl) ?_
          refine zs_iald d_X_fed_180 (sh_45 g X) b7 ?_
          refine zs_iconst 1 d_X_fed_181 (by decide) ?_
          refine zs_iadd d_X_fed_182 ?_
          refine zs_istore2 [1, 2, 3, 4, 5, 0] [(0, .ref 35), (1, .int x1), (2, .int x2), (3, .int x3), (4, .int x4), (5, .int ((M 45 (Int32.toNatClampNeg x3)) + 1))] d_X_fed_183 (by decide) rfl ?_
          exact h
        · replace h := h.2 c9
          refine zs_aload_n 0 d_X_fed_157 rfl (List.mem_of_getElem? (i := 0) rfl) ?_
          refine zs_get d_X_fed_158 gf_X_50 (sh_35 g X) rfl ?_
          refine zs_aload_n 0 d_X_fed_161 rfl (List.mem_of_getElem? (i := 0) rfl) ?_
          refine zs_get d_X_fed_162 gf_X_44 (sh_35 g X) rfl ?_
          refine zs_iload_n 3 d_X_fed_165 rfl (List.mem_of_getElem? (i := 3) rfl) ?_
          refine zs_iald d_X_fed_166 (sh_45 g X) b7 ?_
          refine zs_dup2 d_X_fed_167 rfl rfl ?_
          obtain ⟨b10, h⟩ := h
          refine zs_iald d_X_fed_168 (sh_47 g X) b10 ?_
          refine zs_iconst 1 d_X_fed_169 (by decide) ?_
          refine zs_iadd d_X_fed_170 ?_
          refine zs_iast d_X_fed_171 (sh_47 g X) b10 ?_
          refine zs_iinc2 4 (x4 + (-1)) [1, 2, 3, 4, 0] [(0, .ref 35), (1, .int x1), (2, .int x2), (3, .int x3), (4, .int (x4 + (-1)))] d_X_fed_172 rfl rfl (by decide) rfl ?_
          refine zs_aload_n 0 d_X_fed_175 rfl (List.mem_of_getElem? (i := 0) rfl) ?_
          refine zs_get d_X_fed_176 gf_X_44 (sh_35 g X) rfl ?_
          refine zs_iload_n 3 d_X_fed_179 rfl (List.mem_of_getElem? (i := 3) rfl) ?_
          refine zs_iald d_X_fed_180 (sh_45 g X) b7 ?_
          refine zs_iconst 1 d_X_fed_181 (by decide) ?_
          refine zs_iadd d_X_fed_182 ?_
          refine zs_istore2 [1, 2, 3, 4, 5, 0] [(0, .ref 35), (1, .int x1), (2, .int x2), (3, .int x3), (4, .int (x4 + (-1))), (5, .int ((M 45 (Int32.toNatClampNeg x3)) + 1))] d_X_fed_183 (by decide) rfl ?_
          exact h
    · replace h := h.2 c6
      refine zs_iload d_X_fed_71 (List.mem_of_getElem? (i := 4) rfl) ?_
      refine zs_iload_n 2 d_X_fed_73 rfl (List.mem_of_getElem? (i := 2) rfl) ?_
      refine zs_icmp_le 129 d_X_fed_74 (by decide) (fun c11 => ?_) (fun c11 => ?_)
      · replace h := h.1 c11
        refine zs_iinc2 3 (x3 + (-1)) [1, 2, 3, 0, 4] [(0, .ref 35), (1, .int x1), (2, .int x2), (3, .int (x3 + (-1))), (4, .int x4)] d_X_fed_129 rfl rfl (by decide) rfl ?_
        refine zs_goto 61 d_X_fed_132 (by decide) ?_
        exact h
      · replace h := h.2 c11
        refine zs_iload d_X_fed_77 (List.mem_of_getElem? (i := 4) rfl) ?_
        refine zs_istore_n2 2 [1, 2, 0, 3, 4] [(0, .ref 35), (1, .int x1), (2, .int x4), (3, .int x3), (4, .int x4)] d_X_fed_79 rfl (by decide) rfl ?_
        refine zs_iconst 0 d_X_fed_80 (by decide) ?_
        refine zs_istore2 [1, 2, 3, 4, 5, 0] [(0, .ref 35), (1, .int x1), (2, .int x4), (3, .int x3), (4, .int x4), (5, .int 0)] d_X_fed_81 (by decide) rfl ?_
        exact h
theorem vS_X_fed_83 (g : Nat → Option Nat) (X : List zShp) (M : zMem) (x1 x2 x3 x4 x5 : Int32) (R : zEnd) (h : ((6 ≤ x5) → (zRT m_X_fed 0 0 61 [(0, .ref 35), (1, .int x1), (2, .int x2), (3, .int (x3 + (-1))), (4, .int x4)] [] (SHP g X) M R)) ∧ ((¬ 6 ≤ x5) → ((vp_in x5 6) ∧ (((¬ (M 45 (Int32.toNatClampNeg x5)) = (M 35 6)) → (zRT m_X_fed 0 0 83 [(0, .ref 35), (1, .int x1), (2, .int x2), (3, .int x3), (4, .int x4), (5, .int (x5 + 1))] [] (SHP g X) (zms M 46 (Int32.toNatClampNeg x5) (M 45 (Int32.toNatClampNeg x5))) R)) ∧ (((M 45 (Int32.toNatClampNeg x5)) = (M 35 6)) → (zRT m_X_fed 0 0 83 [(0, .ref 35), (1, .int x1), (2, .int x2), (3, .int x3), (4, .int x4), (5, .int (x5 + 1))] [] (SHP g X) (zms M 46 (Int32.toNatClampNeg x5) (-6)) R)))))) : zRT m_X_fed 0 0 83 [(0, .ref 35), (1, .int x1), (2, .int x2), (3, .int x3), (4, .int x4), (5, .int x5)] [] (SHP g X) M R := by
  refine zs_iload d_X_fed_83 (List.mem_of_getElem? (i := 5) rfl) ?_
  refine zs_bipush 6 d_X_fed_85 (by decide) ?_
  refine zs_icmp_ge 129 d_X_fed_87 (by decide) (fun c1 => ?_) (fun c1 => ?_)
  · replace h := h.1 c1
    refine zs_iinc2 3 (x3 + (-1)) [1, 2, 3, 0, 4, 5] [(0, .ref 35), (1, .int x1), (2, .int x2), (3, .int (x3 + (-1))), (4, .int x4), (5, .int x5)] d_X_fed_129 rfl rfl (by decide) rfl ?_
    refine zs_goto 61 d_X_fed_132 (by decide) ?_
    exact zRT_sub [0, 1, 2, 3, 4] rfl h
  · replace h := h.2 c1
    refine zs_aload_n 0 d_X_fed_90 rfl (List.mem_of_getElem? (i := 0) rfl) ?_
    refine zs_get d_X_fed_91 gf_X_47 (sh_35 g X) rfl ?_
    refine zs_iload d_X_fed_94 (List.mem_of_getElem? (i := 5) rfl) ?_
    refine zs_aload_n 0 d_X_fed_96 rfl (List.mem_of_getElem? (i := 0) rfl) ?_
    refine zs_get d_X_fed_97 gf_X_44 (sh_35 g X) rfl ?_
    refine zs_iload d_X_fed_100 (List.mem_of_getElem? (i := 5) rfl) ?_
    obtain ⟨b2, h⟩ := h
    refine zs_iald d_X_fed_102 (sh_45 g X) b2 ?_
    refine zs_aload_n 0 d_X_fed_103 rfl (List.mem_of_getElem? (i := 0) rfl) ?_
    refine zs_get d_X_fed_104 gf_X_70 (sh_35 g X) rfl ?_
    refine zs_icmp_ne 115 d_X_fed_107 (by decide) (fun c3 => ?_) (fun c3 => ?_)
    · replace h := h.1 c3
      refine zs_aload_n 0 d_X_fed_115 rfl (List.mem_of_getElem? (i := 0) rfl) ?_
      refine zs_get d_X_fed_116 gf_X_44 (sh_35 g X) rfl ?_
      refine zs_iload d_X_fed_119 (List.mem_of_getElem? (i := 5) rfl) ?_
      refine zs_iald d_X_fed_121 (sh_45 g X) b2 ?_
      refine zs_iast d_X_fed_122 (sh_46 g X) b2 ?_
      refine zs_iinc2 5 (x5 + 1) [1, 2, 3, 4, 5, 0] [(0, .ref 35), (1, .int x1), (2, .int x2), (3, .int x3), (4, .int x4), (5, .int (x5 + 1))] d_X_fed_123 rfl rfl (by decide) rfl ?_
      refine zs_goto 83 d_X_fed_126 (by decide) ?_
      exact h
    · replace h := h.2 c3
      refine zs_bipush (-6) d_X_fed_110 (by decide) ?_
      refine zs_goto 122 d_X_fed_112 (by decide) ?_
      refine zs_iast d_X_fed_122 (sh_46 g X) b2 ?_
      refine zs_iinc2 5 (x5 + 1) [1, 2, 3, 4, 5, 0] [(0, .ref 35), (1, .int x1), (2, .int x2), (3, .int x3), (4, .int x4), (5, .int (x5 + 1))] d_X_fed_123 rfl rfl (by decide) rfl ?_
      refine zs_goto 83 d_X_fed_126 (by decide) ?_
      exact h
theorem vS_X_fed_185 (g : Nat → Option Nat) (X : List zShp) (M : zMem) (x1 x2 x3 x4 x5 : Int32) (R : zEnd) (h : (((M 35 6) ≤ x5) → ((((M 35 6) < x5) → ((vp_in x3 6) ∧ (zRT m_X_fed 0 0 61 [(0, .ref 35), (1, .int x1), (2, .int x2), (3, .int (x3 + (-1))), (4, .int x4)] [] (SHP g X) (zms M 45 (Int32.toNatClampNeg x3) (-1)) R))) ∧ ((¬ (M 35 6) < x5) → (((x2 < ((x4 + 6) - x3)) → ((vp_in x3 6) ∧ ((((M 35 6) ≤ x5) → (zRT m_X_fed 0 0 61 [(0, .ref 35), (1, .int x1), (2, .int x2), (3, .int (x3 + 1)), (4, .int x4)] [] (SHP g X) (zms M 45 (Int32.toNatClampNeg x3) x5) R)) ∧ ((¬ (M 35 6) ≤ x5) → ((vp_in x5 10) ∧ (zRT m_X_fed 0 0 61 [(0, .ref 35), (1, .int x1), (2, .int x2), (3, .int (x3 + 1)), (4, .int (x4 + 1))] [] (SHP g X) (zms (zms M 45 (Int32.toNatClampNeg x3) x5) 47 (Int32.toNatClampNeg x5) ((M 47 (Int32.toNatClampNeg x5)) - 1)) R)))))) ∧ ((¬ x2 < ((x4 + 6) - x3)) → ((vp_in x3 6) ∧ (zRT m_X_fed 0 0 61 [(0, .ref 35), (1, .int x1), (2, .int x2), (3, .int (x3 + (-1))), (4, .int x4)] [] (SHP g X) (zms M 45 (Int32.toNatClampNeg x3) (-1)) R))))))) ∧ ((¬ (M 35 6) ≤ x5) → ((vp_in x3 6) ∧ ((((hb (M 44 (Int32.toNatClampNeg x3)) x5) = false) → (zRT m_X_fed 0 0 185 [(0, .ref 35), (1, .int x1), (2, .int x2), (3, .int x3), (4, .int x4), (5, .int (x5 + 1))] [] (SHP g X) M R)) ∧ (((hb (M 44 (Int32.toNatClampNeg x3)) x5) = true) → ((vp_in x5 10) ∧ (((¬ (M 47 (Int32.toNatClampNeg x5)) = 0) → ((((M 35 6) < x5) → (zRT m_X_fed 0 0 61 [(0, .ref 35), (1, .int x1), (2, .int x2), (3, .int (x3 + (-1))), (4, .int x4)] [] (SHP g X) (zms M 45 (Int32.toNatClampNeg x3) (-1)) R)) ∧ ((¬ (M 35 6) < x5) → (((x2 < ((x4 + 6) - x3)) → ((((M 35 6) ≤ x5) → (zRT m_X_fed 0 0 61 [(0, .ref 35), (1, .int x1), (2, .int x2), (3, .int (x3 + 1)), (4, .int x4)] [] (SHP g X) (zms M 45 (Int32.toNatClampNeg x3) x5) R)) ∧ ((¬ (M 35 6) ≤ x5) → (zRT m_X_fed 0 0 61 [(0, .ref 35), (1, .int x1), (2, .int x2), (3, .int (x3 + 1)), (4, .int (x4 + 1))] [] (SHP g X) (zms (zms M 45 (Int32.toNatClampNeg x3) x5) 47 (Int32.toNatClampNeg x5) ((M 47 (Int32.toNatClampNeg x5)) - 1)) R)))) ∧ ((¬ x2 < ((x4 + 6) - x3)) → (zRT m_X_fed 0 0 61 [(0, .ref 35), (1, .int x1), (2, .int x2), (3, .int (x3 + (-1))), (4, .int x4)] [] (SHP g X) (zms M 45 (Int32.toNatClampNeg x3) (-1)) R)))))) ∧ (((M 47 (Int32.toNatClampNeg x5)) = 0) → (zRT m_X_fed 0 0 185 [(0, .ref 35), (1, .int x1), (2, .int x2), (3, .int x3), (4, .int x4), (5, .int (x5 + 1))] [] (SHP g X) M R))))))))) : zRT m_X_fed 0 0 185 [(0, .ref 35), (1, .int x1), (2, .int x2), (3, .int x3), (4, .int x4), (5, .int x5)] [] (SHP g X) M R := by
  refine zs_iload d_X_fed_185 (List.mem_of_getElem? (i := 5) rfl) ?_
  refine zs_aload_n 0 d_X_fed_187 rfl (List.mem_of_getElem? (i := 0) rfl) ?_
  refine zs_get d_X_fed_188 gf_X_70 (sh_35 g X) rfl ?_
  refine zs_icmp_ge 224 d_X_fed_191 (by decide) (fun c1 => ?_) (fun c1 => ?_)
  · replace h := h.1 c1
    refine zs_iload d_X_fed_224 (List.mem_of_getElem? (i := 5) rfl) ?_
    refine zs_aload_n 0 d_X_fed_226 rfl (List.mem_of_getElem? (i := 0) rfl) ?_
    refine zs_get d_X_fed_227 gf_X_70 (sh_35 g X) rfl ?_
    refine zs_icmp_gt 244 d_X_fed_230 (by decide) (fun c2 => ?_) (fun c2 => ?_)
    · replace h := h.1 c2
      refine zs_aload_n 0 d_X_fed_244 rfl (List.mem_of_getElem? (i := 0) rfl) ?_
      refine zs_get d_X_fed_245 gf_X_44 (sh_35 g X) rfl ?_
      refine zs_iload_n 3 d_X_fed_248 rfl (List.mem_of_getElem? (i := 3) rfl) ?_
      refine zs_iconst (-1) d_X_fed_249 (by decide) ?_
      obtain ⟨b3, h⟩ := h
      refine zs_iast d_X_fed_250 (sh_45 g X) b3 ?_
      refine zs_iinc2 3 (x3 + (-1)) [1, 2, 3, 0, 4, 5] [(0, .ref 35), (1, .int x1), (2, .int x2), (3, .int (x3 + (-1))), (4, .int x4), (5, .int x5)] d_X_fed_251 rfl rfl (by decide) rfl ?_
      refine zs_goto 61 d_X_fed_254 (by decide) ?_
      exact zRT_sub [0, 1, 2, 3, 4] rfl h
    · replace h := h.2 c2
      refine zs_iload d_X_fed_233 (List.mem_of_getElem? (i := 4) rfl) ?_
      refine zs_bipush 6 d_X_fed_235 (by decide) ?_
      refine zs_iadd d_X_fed_237 ?_
      refine zs_iload_n 3 d_X_fed_238 rfl (List.mem_of_getElem? (i := 3) rfl) ?_
      refine zs_isub d_X_fed_239 ?_
      refine zs_iload_n 2 d_X_fed_240 rfl (List.mem_of_getElem? (i := 2) rfl) ?_
      refine zs_icmp_gt 257 d_X_fed_241 (by decide) (fun c4 => ?_) (fun c4 => ?_)
      · replace h := h.1 c4
        refine zs_aload_n 0 d_X_fed_257 rfl (List.mem_of_getElem? (i := 0) rfl) ?_
        refine zs_get d_X_fed_258 gf_X_44 (sh_35 g X) rfl ?_
        refine zs_iload_n 3 d_X_fed_261 rfl (List.mem_of_getElem? (i := 3) rfl) ?_
        refine zs_iload d_X_fed_262 (List.mem_of_getElem? (i := 5) rfl) ?_
        obtain ⟨b5, h⟩ := h
        refine zs_iast d_X_fed_264 (sh_45 g X) b5 ?_
        refine zs_iload d_X_fed_265 (List.mem_of_getElem? (i := 5) rfl) ?_
        refine zs_aload_n 0 d_X_fed_267 rfl (List.mem_of_getElem? (i := 0) rfl) ?_
        refine zs_get d_X_fed_268 gf_X_70 (sh_35 g X) rfl ?_
        refine zs_icmp_ge 288 d_X_fed_271 (by decide) (fun c6 => ?_) (fun c6 => ?_)
        · replace h := h.1 c6
          refine zs_iinc2 3 (x3 + 1) [1, 2, 3, 0, 4, 5] [(0, .ref 35), (1, .int x1), (2, .int x2), (3, .int (x3 + 1)), (4, .int x4), (5, .int x5)] d_X_fed_288 rfl rfl (by decide) rfl ?_
          refine zs_goto 61 d_X_fed_291 (by decide) ?_
          exact zRT_sub [0, 1, 2, 3, 4] rfl h
        · replace h := h.2 c6
          refine zs_aload_n 0 d_X_fed_274 rfl (List.mem_of_getElem? (i := 0) rfl) ?_
          refine zs_get d_X_fed_275 gf_X_50 (sh_35 g X) rfl ?_
          refine zs_iload d_X_fed_278 (List.mem_of_getElem? (i := 5) rfl) ?_
          refine zs_dup2 d_X_fed_280 rfl rfl ?_
          obtain ⟨b7, h⟩ := h
          refine zs_iald d_X_fed_281 (sh_47 g X) b7 ?_
          refine zs_iconst 1 d_X_fed_282 (by decide) ?_
          refine zs_isub d_X_fed_283 ?_
          refine zs_iast d_X_fed_284 (sh_47 g X) b7 ?_
          refine zs_iinc2 4 (x4 + 1) [1, 2, 3, 4, 0, 5] [(0, .ref 35), (1, .int x1), (2, .int x2), (3, .int x3), (4, .int (x4 + 1)), (5, .int x5)] d_X_fed_285 rfl rfl (by decide) rfl ?_
          refine zs_iinc2 3 (x3 + 1) [1, 2, 3, 0, 4, 5] [(0, .ref 35), (1, .int x1), (2, .int x2), (3, .int (x3 + 1)), (4, .int (x4 + 1)), (5, .int x5)] d_X_fed_288 rfl rfl (by decide) rfl ?_
          refine zs_goto 61 d_X_fed_291 (by decide) ?_
          exact zRT_sub [0, 1, 2, 3, 4] rfl h
      · replace h := h.2 c4
        refine zs_aload_n 0 d_X_fed_244 rfl (List.mem_of_getElem? (i := 0) rfl) ?_
        refine zs_get d_X_fed_245 gf_X_44 (sh_35 g X) rfl ?_
        refine zs_iload_n 3 d_X_fed_248 rfl (List.mem_of_getElem? (i := 3) rfl) ?_
        refine zs_iconst (-1) d_X_fed_249 (by decide) ?_
        obtain ⟨b8, h⟩ := h
        refine zs_iast d_X_fed_250 (sh_45 g X) b8 ?_
        refine zs_iinc2 3 (x3 + (-1)) [1, 2, 3, 0, 4, 5] [(0, .ref 35), (1, .int x1), (2, .int x2), (3, .int (x3 + (-1))), (4, .int x4), (5, .int x5)] d_X_fed_251 rfl rfl (by decide) rfl ?_
        refine zs_goto 61 d_X_fed_254 (by decide) ?_
        exact zRT_sub [0, 1, 2, 3, 4] rfl h
  · replace h := h.2 c1
    refine zs_aload_n 0 d_X_fed_194 rfl (List.mem_of_getElem? (i := 0) rfl) ?_
    refine zs_get d_X_fed_195 gf_X_41 (sh_35 g X) rfl ?_
    refine zs_iload_n 3 d_X_fed_198 rfl (List.mem_of_getElem? (i := 3) rfl) ?_
    obtain ⟨b9, h⟩ := h
    refine zs_iald d_X_fed_199 (sh_44 g X) b9 ?_
    refine zs_iload d_X_fed_200 (List.mem_of_getElem? (i := 5) rfl) ?_
    refine zs_callS (kc := 0) (ks := 0) (kc1 := 0) (ks1 := 0) (st := []) [.int (M 44 (Int32.toNatClampNeg x3)), .int x5] d_X_fed_202 lk_X_98 ⟨by decide, by decide⟩ rfl (Nat.le_of_ble_eq_true rfl) (ex_X_has g X M (M 44 (Int32.toNatClampNeg x3)) x5) (fun v10 sh10 M10 hR => ?_)
    obtain ⟨rfl, rfl, rfl⟩ := hR
    refine zs_if_eq 218 d_X_fed_205 (by decide) (fun c11 => ?_) (fun c11 => ?_)
    · replace h := h.1 (bI_0 c11)
      refine zs_iinc2 5 (x5 + 1) [1, 2, 3, 4, 5, 0] [(0, .ref 35), (1, .int x1), (2, .int x2), (3, .int x3), (4, .int x4), (5, .int (x5 + 1))] d_X_fed_218 rfl rfl (by decide) rfl ?_
      refine zs_goto 185 d_X_fed_221 (by decide) ?_
      exact h
    · replace h := h.2 (bI_1 c11)
      refine zs_aload_n 0 d_X_fed_208 rfl (List.mem_of_getElem? (i := 0) rfl) ?_
      refine zs_get d_X_fed_209 gf_X_50 (sh_35 g X) rfl ?_
      refine zs_iload d_X_fed_212 (List.mem_of_getElem? (i := 5) rfl) ?_
      obtain ⟨b12, h⟩ := h
      refine zs_iald d_X_fed_214 (sh_47 g X) b12 ?_
      refine zs_if_ne 224 d_X_fed_215 (by decide) (fun c13 => ?_) (fun c13 => ?_)
      · replace h := h.1 c13
        refine zs_iload d_X_fed_224 (List.mem_of_getElem? (i := 5) rfl) ?_
        refine zs_aload_n 0 d_X_fed_226 rfl (List.mem_of_getElem? (i := 0) rfl) ?_
        refine zs_get d_X_fed_227 gf_X_70 (sh_35 g X) rfl ?_
        refine zs_icmp_gt 244 d_X_fed_230 (by decide) (fun c14 => ?_) (fun c14 => ?_)
        · replace h := h.1 c14
          refine zs_aload_n 0 d_X_fed_244 rfl (List.mem_of_getElem? (i := 0) rfl) ?_
          refine zs_get d_X_fed_245 gf_X_44 (sh_35 g X) rfl ?_
          refine zs_iload_n 3 d_X_fed_248 rfl (List.mem_of_getElem? (i := 3) rfl) ?_
          refine zs_iconst (-1) d_X_fed_249 (by decide) ?_
          refine zs_iast d_X_fed_250 (sh_45 g X) b9 ?_
          refine zs_iinc2 3 (x3 + (-1)) [1, 2, 3, 0, 4, 5] [(0, .ref 35), (1, .int x1), (2, .int x2), (3, .int (x3 + (-1))), (4, .int x4), (5, .int x5)] d_X_fed_251 rfl rfl (by decide) rfl ?_
          refine zs_goto 61 d_X_fed_254 (by decide) ?_
          exact zRT_sub [0, 1, 2, 3, 4] rfl h
        · replace h := h.2 c14
          refine zs_iload d_X_fed_233 (List.mem_of_getElem? (i := 4) rfl) ?_
          refine zs_bipush 6 d_X_fed_235 (by decide) ?_
          refine zs_iadd d_X_fed_237 ?_
          refine zs_iload_n 3 d_X_fed_238 rfl (List.mem_of_getElem? (i := 3) rfl) ?_
          refine zs_isub d_X_fed_239 ?_
          refine zs_iload_n 2 d_X_fed_240 rfl (List.mem_of_getElem? (i := 2) rfl) ?_
          refine zs_icmp_gt 257 d_X_fed_241 (by decide) (fun c15 => ?_) (fun c15 => ?_)
          · replace h := h.1 c15
            refine zs_aload_n 0 d_X_fed_257 rfl (List.mem_of_getElem? (i := 0) rfl) ?_
            refine zs_get d_X_fed_258 gf_X_44 (sh_35 g X) rfl ?_
            refine zs_iload_n 3 d_X_fed_261 rfl (List.mem_of_getElem? (i := 3) rfl) ?_
            refine zs_iload d_X_fed_262 (List.mem_of_getElem? (i := 5) rfl) ?_
            refine zs_iast d_X_fed_264 (sh_45 g X) b9 ?_
            refine zs_iload d_X_fed_265 (List.mem_of_getElem? (i := 5) rfl) ?_
            refine zs_aload_n 0 d_X_fed_267 rfl (List.mem_of_getElem? (i := 0) rfl) ?_
            refine zs_get d_X_fed_268 gf_X_70 (sh_35 g X) rfl ?_
            refine zs_icmp_ge 288 d_X_fed_271 (by decide) (fun c16 => ?_) (fun c16 => ?_)
            · replace h := h.1 c16
              refine zs_iinc2 3 (x3 + 1) [1, 2, 3, 0, 4, 5] [(0, .ref 35), (1, .int x1), (2, .int x2), (3, .int (x3 + 1)), (4, .int x4), (5, .int x5)] d_X_fed_288 rfl rfl (by decide) rfl ?_
              refine zs_goto 61 d_X_fed_291 (by decide) ?_
              exact zRT_sub [0, 1, 2, 3, 4] rfl h
            · replace h := h.2 c16
              refine zs_aload_n 0 d_X_fed_274 rfl (List.mem_of_getElem? (i := 0) rfl) ?_
              refine zs_get d_X_fed_275 gf_X_50 (sh_35 g X) rfl ?_
              refine zs_iload d_X_fed_278 (List.mem_of_getElem? (i := 5) rfl) ?_
              refine zs_dup2 d_X_fed_280 rfl rfl ?_
              refine zs_iald d_X_fed_281 (sh_47 g X) b12 ?_
              refine zs_iconst 1 d_X_fed_282 (by decide) ?_
              refine zs_isub d_X_fed_283 ?_
              refine zs_iast d_X_fed_284 (sh_47 g X) b12 ?_
              refine zs_iinc2 4 (x4 + 1) [1, 2, 3, 4, 0, 5] [(0, .ref 35), (1, .int x1), (2, .int x2), (3, .int x3), (4, .int (x4 + 1)), (5, .int x5)] d_X_fed_285 rfl rfl (by decide) rfl ?_
              refine zs_iinc2 3 (x3 + 1) [1, 2, 3, 0, 4, 5] [(0, .ref 35), (1, .int x1), (2, .int x2), (3, .int (x3 + 1)), (4, .int (x4 + 1)), (5, .int x5)] d_X_fed_288 rfl rfl (by decide) rfl ?_
              refine zs_goto 61 d_X_fed_291 (by decide) ?_
              exact zRT_sub [0, 1, 2, 3, 4] rfl h
          · replace h := h.2 c15
            refine zs_aload_n 0 d_X_fed_244 rfl (List.mem_of_getElem? (i := 0) rfl) ?_
            refine zs_get d_X_fed_245 gf_X_44 (sh_35 g X) rfl ?_
            refine zs_iload_n 3 d_X_fed_248 rfl (List.mem_of_getElem? (i := 3) rfl) ?_
            refine zs_iconst (-1) d_X_fed_249 (by decide) ?_
            refine zs_iast d_X_fed_250 (sh_45 g X) b9 ?_
            refine zs_iinc2 3 (x3 + (-1)) [1, 2, 3, 0, 4, 5] [(0, .ref 35), (1, .int x1), (2, .int x2), (3, .int (x3 + (-1))), (4, .int x4), (5, .int x5)] d_X_fed_251 rfl rfl (by decide) rfl ?_
            refine zs_goto 61 d_X_fed_254 (by decide) ?_
            exact zRT_sub [0, 1, 2, 3, 4] rfl h
      · replace h := h.2 c13
        refine zs_iinc2 5 (x5 + 1) [1, 2, 3, 4, 5, 0] [(0, .ref 35), (1, .int x1), (2, .int x2), (3, .int x3), (4, .int x4), (5, .int (x5 + 1))] d_X_fed_218 rfl rfl (by decide) rfl ?_
        refine zs_goto 185 d_X_fed_221 (by decide) ?_
        exact h
set_option maxHeartbeats 4000000 in
theorem ex2_X_fed (i : Int32) (hh : mK M) (h0 : M 35 6 = 0) : zEx m_X_fed 0 0 [.ref 35, .int i] (SHP g X) M (qR g X (fun r M2 => mAg M M2 ∧ r = if i = -1 then 0 else -6)) := by
  have k0 : ∀ M1, mAg M M1 → M1 35 6 = 0 := fun M1 h => by rw [h.e35]; exact h0
  -- going down: all is told
  have D : ∀ d M1, mAg M M1 → d ≤ 6 → (∀ j, j < 6 → M1 46 j = -6) → (∀ j, j < d → M1 45 j = 0) → zRT m_X_fed 0 0 61 [(0, .ref 35), (1, .int i), (2, .int 0), (3, .int (nI d + (-1))), (4, .int 0)] [] (SHP g X) M1 (qR g X (fun r M2 => mAg M M2 ∧ r = if i = -1 then 0 else -6)) := by
    intro d
    induction d with
    | zero =>
      intro M1 ha _ hb _
      refine vS_X_fed_61 g X _ _ _ _ _ _ ⟨fun _ => ⟨fun h => ⟨fun h2 => qR_i ⟨ha, (if_neg h).symm⟩, fun h2 => ⟨isM_in h2, qR_i ⟨ha, ?_⟩⟩⟩, fun h => qR_i ⟨ha, (if_pos h).symm⟩⟩, fun h => absurd (by decide) h⟩
      rw [if_neg h]
      exact hb _ (isM_n h2).1
    | succ d ih =>
      intro M1 ha hd hb he
      rw [pk_m1]
      refine vS_X_fed_61 g X _ _ _ _ _ _ ⟨fun h => absurd h (nI_pos (by omega)), fun _ => ⟨fun h6 => ⟨vp_in_nI (by omega) (by decide), ?_⟩, fun h6 => absurd ((nI_eq (b := 6) (by omega) (by decide)).mp h6) (by omega)⟩⟩
      rw [nI_clamp (n := d) (by omega), he d (by omega), k0 M1 ha]
      have nx : zRT m_X_fed 0 0 185 [(0, .ref 35), (1, .int i), (2, .int 0), (3, .int (nI d)), (4, .int 0), (5, .int (0 + 1))] [] (SHP g X) M1 (qR g X (fun r M2 => mAg M M2 ∧ r = if i = -1 then 0 else -6)) := by
        refine vS_X_fed_185 g X _ _ _ _ _ _ _ ⟨fun _ => ⟨fun _ => ⟨vp_in_nI (by omega) (by decide), ?_⟩, fun h => absurd (by rw [k0 M1 ha]; decide) h⟩, fun h => absurd (by rw [k0 M1 ha]; decide) h⟩
        rw [nI_clamp (n := d) (by omega)]
        refine ih _ (ha.st (by decide)) (by omega) ?_ (fun j hj => ?_)
        · rw [zms_ne _ _ _ _ 46 (by decide)]; exact hb
        · rw [zms_at, if_neg (by omega)]; exact he j (by omega)
      exact ⟨fun h => absurd h (by decide), fun _ => ⟨fun _ => nx, fun h => absurd (by decide) h⟩⟩
  -- the best is laid down
  have B : ∀ d k M1, k + d = 6 → mAg M M1 → (∀ j, j < 6 → M1 45 j = 0) → (∀ j, j < k → M1 46 j = -6) → zRT m_X_fed 0 0 83 [(0, .ref 35), (1, .int i), (2, .int 0), (3, .int 6), (4, .int 0), (5, .int (nI k))] [] (SHP g X) M1 (qR g X (fun r M2 => mAg M M2 ∧ r = if i = -1 then 0 else -6)) := by
    intro d
    induction d with
    | zero =>
      intro k M1 hk ha he hb
      exact vS_X_fed_83 g X _ _ _ _ _ _ _ ⟨fun _ => D 6 M1 ha (Nat.le_refl _) (fun j hj => hb j (by omega)) he, fun h => absurd (nI_le (a := 6) (by omega) (by omega)) h⟩
    | succ d ih =>
      intro k M1 hk ha he hb
      refine vS_X_fed_83 g X _ _ _ _ _ _ _ ⟨fun h => absurd h (nI_ge (b := 6) (by omega) (by omega)), fun _ => ⟨vp_in_nI (by omega) (by decide), ?_⟩⟩
      rw [nI_1, nI_clamp (n := k) (by omega), he k (by omega), k0 M1 ha]
      refine ⟨fun h => absurd rfl h, fun _ => ih (k + 1) _ (by omega) (ha.st (by decide)) ?_ (fun j hj => ?_)⟩
      · rw [zms_ne _ _ _ _ 45 (by decide)]; exact he
      · rw [zms_at]
        by_cases q : j = k
        · rw [if_pos q]
        · rw [if_neg q]; exact hb j (by omega)
  -- going up
  have U : ∀ d k M1, k + d = 6 → mAg M M1 → (∀ j, j < 6 → M1 45 j = if j < k then 0 else -1) → zRT m_X_fed 0 0 61 [(0, .ref 35), (1, .int i), (2, .int (-6)), (3, .int (nI k)), (4, .int 0)] [] (SHP g X) M1 (qR g X (fun r M2 => mAg M M2 ∧ r = if i = -1 then 0 else -6)) := by
    intro d
    induction d with
    | zero =>
      intro k M1 hk ha he
      have e6 : k = 6 := by omega
      subst e6
      refine vS_X_fed_61 g X _ _ _ _ _ _ ⟨fun h => absurd h (by decide), fun _ => ⟨fun h => absurd rfl h, fun _ => ⟨fun h => absurd h (by decide), fun _ => ?_⟩⟩⟩
      exact B 6 0 M1 rfl ha (fun j hj => by rw [he j hj, if_pos hj]) (fun j hj => absurd hj (Nat.not_lt_zero j))
    | succ d ih =>
      intro k M1 hk ha he
      refine vS_X_fed_61 g X _ _ _ _ _ _ ⟨fun h => absurd h (nI_pos (by omega)), fun _ => ⟨fun h6 => ⟨vp_in_nI (by omega) (by decide), ?_⟩, fun h6 => absurd ((nI_eq (b := 6) (by omega) (by decide)).mp h6) (by omega)⟩⟩
      rw [nI_clamp (n := k) (by omega), he k (by omega), if_neg (by omega)]
      refine ⟨fun _ => ?_, fun h => absurd (by decide) h⟩
      refine vS_X_fed_185 g X _ _ _ _ _ _ _ ⟨fun _ => ⟨fun h => absurd h (by rw [k0 M1 ha]; decide), fun _ => ⟨fun _ => ⟨vp_in_nI (by omega) (by decide), fun _ => ?_, fun h => absurd (by rw [k0 M1 ha]; decide) h⟩, fun h => ?_⟩⟩, fun h => absurd (by rw [k0 M1 ha]; decide) h⟩
      · rw [nI_1, nI_clamp (n := k) (by omega)]
        refine ih (k + 1) _ (by omega) (ha.st (by decide)) (fun j hj => ?_)
        rw [zms_at]
        by_cases q : j = k
        · rw [if_pos q, if_pos (by omega)]; rfl
        · rw [if_neg q, he j hj]
          by_cases q2 : j < k
          · rw [if_pos q2, if_pos (by omega)]
          · rw [if_neg q2, if_neg (by omega)]
      · exfalso
        have kb : ∀ k, k < 6 → (-6 : Int32) < (0 + 6) - nI k := by decide
        exact h (kb k (by omega))
  have E : ∀ d k M1, k + d = 6 → mAg M M1 → (∀ j, j < k → M1 45 j = -1) → zRT m_X_fed 0 0 37 [(0, .ref 35), (1, .int i), (2, .int (-6)), (3, .int (nI k))] [] (SHP g X) M1 (qR g X (fun r M2 => mAg M M2 ∧ r = if i = -1 then 0 else -6)) := by
    intro d
    induction d with
    | zero =>
      intro k M1 hk ha he
      exact vS_X_fed_37 g X _ _ _ _ _ ⟨fun _ => U 6 0 M1 rfl ha (fun j hj => by rw [he j (by omega), if_neg (Nat.not_lt_zero j)]), fun h => absurd (nI_le (a := 6) (by omega) (by omega)) h⟩
    | succ d ih =>
      intro k M1 hk ha he
      refine vS_X_fed_37 g X _ _ _ _ _ ⟨fun h => absurd h (nI_ge (b := 6) (by omega) (by omega)), fun _ => ⟨vp_in_nI (by omega) (by decide), ?_⟩⟩
      rw [nI_1, nI_clamp (n := k) (by omega)]
      exact ih (k + 1) _ (by omega) (ha.st (by decide)) (kUp (f := fun _ => -1) he rfl)
  refine zEx_of _ (by decide) (by simp [Value.category]) (Nat.le_of_ble_eq_true rfl) rfl (vS_X_fed_0 g X M i _ ⟨hh, fun M1 h1 => ?_⟩)
  exact vS_X_fed_9 g X _ _ _ _ _ ⟨fun _ => E 6 0 M1 rfl h1.1 (fun j hj => absurd hj (Nat.not_lt_zero j)), fun h => absurd (by rw [k0 M1 h1.1]; decide) h⟩
end zH1
