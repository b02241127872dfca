/-! the reference's marriages and days -/
section zX7
variable (g : Nat → Option Nat) (X : List zShp) (M : zMem)
theorem v_X_layPlan_0 (g : Nat → Option Nat) (X : List zShp) (M : zMem) (x1 : Int32) (R : zEnd) (h : zRT m_X_layPlan 0 0 10 [(0, .ref 35), (2, .int x1), (3, .int 0), (4, .int 1), (5, .int 5)] [] (SHP g X) M R) : zRT m_X_layPlan 0 0 0 [(0, .ref 35), (1, .int x1)] [] (SHP g X) M R := by
  refine zs_iload_n 1 d_X_layPlan_0 rfl (List.mem_of_getElem? (i := 1) rfl) ?_
  refine zs_istore_n2 2 [1, 2, 0] [(0, .ref 35), (1, .int x1), (2, .int x1)] d_X_layPlan_1 rfl (by decide) rfl ?_
  refine zs_iconst 0 d_X_layPlan_2 (by decide) ?_
  refine zs_istore_n2 3 [1, 2, 3, 0] [(0, .ref 35), (1, .int x1), (2, .int x1), (3, .int 0)] d_X_layPlan_3 rfl (by decide) rfl ?_
  refine zs_iconst 1 d_X_layPlan_4 (by decide) ?_
  refine zs_istore2 [1, 2, 3, 4, 0] [(0, .ref 35), (1, .int x1), (2, .int x1), (3, .int 0), (4, .int 1)] d_X_layPlan_5 (by decide) rfl ?_
  refine zs_iconst 5 d_X_layPlan_7 (by decide) ?_
  refine zs_istore2 [1, 2, 3, 4, 5, 0] [(0, .ref 35), (1, .int x1), (2, .int x1), (3, .int 0), (4, .int 1), (5, .int 5)] d_X_layPlan_8 (by decide) rfl ?_
  exact zRT_sub [0, 2, 3, 4, 5] rfl h
theorem v_X_layPlan_10 (g : Nat → Option Nat) (X : List zShp) (M : zMem) (x2 x3 x4 x5 : Int32) (R : zEnd) (h : ((x5 < 0) → (zRT m_X_layPlan 0 0 40 [(0, .ref 35), (3, .int x3), (4, .int x4), (5, .int 0)] [] (SHP g X) M R)) ∧ ((¬ x5 < 0) → ((vp_in x5 6) ∧ (zRT m_X_layPlan 0 0 10 [(0, .ref 35), (2, .int (x2 / 7)), (3, .int x3), (4, .int x4), (5, .int (x5 + (-1)))] [] (SHP g X) (zms M 49 (Int32.toNatClampNeg x5) (x2 - x2 / 7 * 7)) R)))) : zRT m_X_layPlan 0 0 10 [(0, .ref 35), (2, .int x2), (3, .int x3), (4, .int x4), (5, .int x5)] [] (SHP g X) M R := by
  refine zs_iload d_X_layPlan_10 (List.mem_of_getElem? (i := 4) rfl) ?_
  refine zs_if_lt 37 d_X_layPlan_12 (by decide) (fun c1 => ?_) (fun c1 => ?_)
  · replace h := h.1 c1
    refine zs_iconst 0 d_X_layPlan_37 (by decide) ?_
    refine zs_istore2 [1, 2, 3, 4, 0] [(0, .ref 35), (2, .int x2), (3, .int x3), (4, .int x4), (5, .int 0)] d_X_layPlan_38 (by decide) rfl ?_
    exact zRT_sub [0, 2, 3, 4] rfl h
  · replace h := h.2 c1
    refine zs_aload_n 0 d_X_layPlan_15 rfl (List.mem_of_getElem? (i := 0) rfl) ?_
    refine zs_get d_X_layPlan_16 gf_X_56 (sh_35 g X) rfl ?_
    refine zs_iload d_X_layPlan_19 (List.mem_of_getElem? (i := 4) rfl) ?_
    refine zs_iload_n 2 d_X_layPlan_21 rfl (List.mem_of_getElem? (i := 1) rfl) ?_
    refine zs_bipush 7 d_X_layPlan_22 (by decide) ?_
    refine zs_irem d_X_layPlan_24 (by decide) ?_
    obtain ⟨b2, h⟩ := h
    refine zs_iast d_X_layPlan_25 (sh_49 g X) b2 ?_
    refine zs_iload_n 2 d_X_layPlan_26 rfl (List.mem_of_getElem? (i := 1) rfl) ?_
    refine zs_bipush 7 d_X_layPlan_27 (by decide) ?_
    refine zs_idiv d_X_layPlan_29 (by decide) ?_
    refine zs_istore_n2 2 [1, 0, 2, 3, 4] [(0, .ref 35), (2, .int (x2 / 7)), (3, .int x3), (4, .int x4), (5, .int x5)] d_X_layPlan_30 rfl (by decide) rfl ?_
    refine zs_iinc2 4 (x5 + (-1)) [1, 2, 3, 4, 0] [(0, .ref 35), (2, .int (x2 / 7)), (3, .int x3), (4, .int x4), (5, .int (x5 + (-1)))] d_X_layPlan_31 rfl rfl (by decide) rfl ?_
    refine zs_goto 10 d_X_layPlan_34 (by decide) ?_
    exact h
theorem v_X_layPlan_40 (g : Nat → Option Nat) (X : List zShp) (M : zMem) (x3 x4 x5 : Int32) (R : zEnd) (h : ((6 ≤ x5) → (((x4 = 0) → (R (some (.int 0)) (SHP g X) M)) ∧ ((¬ x4 = 0) → (((2 ≤ x3) → (R (some (.int 0)) (SHP g X) M)) ∧ ((¬ 2 ≤ x3) → (R (some (.int 1)) (SHP g X) M)))))) ∧ ((¬ 6 ≤ x5) → ((vp_in x5 6) ∧ (((x4 = 0) → (((¬ (M 49 (Int32.toNatClampNeg x5)) = 6) → (zRT m_X_layPlan 0 0 40 [(0, .ref 35), (3, .int (x3 + 0)), (4, .int 0), (5, .int (x5 + 1))] [] (SHP g X) M R)) ∧ (((M 49 (Int32.toNatClampNeg x5)) = 6) → (zRT m_X_layPlan 0 0 40 [(0, .ref 35), (3, .int (x3 + 1)), (4, .int 0), (5, .int (x5 + 1))] [] (SHP g X) M R)))) ∧ ((¬ x4 = 0) → ((((M 49 (Int32.toNatClampNeg x5)) = x5) → (((¬ (M 49 (Int32.toNatClampNeg x5)) = 6) → (zRT m_X_layPlan 0 0 40 [(0, .ref 35), (3, .int (x3 + 0)), (4, .int 0), (5, .int (x5 + 1))] [] (SHP g X) M R)) ∧ (((M 49 (Int32.toNatClampNeg x5)) = 6) → (zRT m_X_layPlan 0 0 40 [(0, .ref 35), (3, .int (x3 + 1)), (4, .int 0), (5, .int (x5 + 1))] [] (SHP g X) M R)))) ∧ ((¬ (M 49 (Int32.toNatClampNeg x5)) = x5) → ((((M 49 (Int32.toNatClampNeg x5)) = 6) → ((((M 48 (Int32.toNatClampNeg x5)) < 0) → (zRT m_X_layPlan 0 0 40 [(0, .ref 35), (3, .int (x3 + 1)), (4, .int 1), (5, .int (x5 + 1))] [] (SHP g X) M R)) ∧ ((¬ (M 48 (Int32.toNatClampNeg x5)) < 0) → (((¬ (M 49 (Int32.toNatClampNeg x5)) = (M 48 (Int32.toNatClampNeg x5))) → (zRT m_X_layPlan 0 0 40 [(0, .ref 35), (3, .int (x3 + 1)), (4, .int 0), (5, .int (x5 + 1))] [] (SHP g X) M R)) ∧ (((M 49 (Int32.toNatClampNeg x5)) = (M 48 (Int32.toNatClampNeg x5))) → (zRT m_X_layPlan 0 0 40 [(0, .ref 35), (3, .int (x3 + 1)), (4, .int 1), (5, .int (x5 + 1))] [] (SHP g X) M R)))))) ∧ ((¬ (M 49 (Int32.toNatClampNeg x5)) = 6) → ((vp_in (M 49 (Int32.toNatClampNeg x5)) 6) ∧ (((¬ (M 49 (Int32.toNatClampNeg (M 49 (Int32.toNatClampNeg x5)))) = x5) → (zRT m_X_layPlan 0 0 40 [(0, .ref 35), (3, .int (x3 + 0)), (4, .int 0), (5, .int (x5 + 1))] [] (SHP g X) M R)) ∧ (((M 49 (Int32.toNatClampNeg (M 49 (Int32.toNatClampNeg x5)))) = x5) → ((((M 48 (Int32.toNatClampNeg x5)) < 0) → (zRT m_X_layPlan 0 0 40 [(0, .ref 35), (3, .int (x3 + 0)), (4, .int 1), (5, .int (x5 + 1))] [] (SHP g X) M R)) ∧ ((¬ (M 48 (Int32.toNatClampNeg x5)) < 0) → (((¬ (M 49 (Int32.toNatClampNeg x5)) = (M 48 (Int32.toNatClampNeg x5))) → (zRT m_X_layPlan 0 0 40 [(0, .ref 35), (3, .int (x3 + 0)), (4, .int 0), (5, .int (x5 + 1))] [] (SHP g X) M R)) ∧ (((M 49 (Int32.toNatClampNeg x5)) = (M 48 (Int32.toNatClampNeg x5))) → (zRT m_X_layPlan 0 0 40 [(0, .ref 35), (3, .int (x3 + 0)), (4, .int 1), (5, .int (x5 + 1))] [] (SHP g X) M R))))))))))))))))) : zRT m_X_layPlan 0 0 40 [(0, .ref 35), (3, .int x3), (4, .int x4), (5, .int x5)] [] (SHP g X) M R := by
  refine zs_iload d_X_layPlan_40 (List.mem_of_getElem? (i := 3) rfl) ?_
  refine zs_bipush 6 d_X_layPlan_42 (by decide) ?_
  refine zs_icmp_ge 137 d_X_layPlan_44 (by decide) (fun c1 => ?_) (fun c1 => ?_)
  · replace h := h.1 c1
    refine zs_iload d_X_layPlan_137 (List.mem_of_getElem? (i := 2) rfl) ?_
    refine zs_if_eq 151 d_X_layPlan_139 (by decide) (fun c2 => ?_) (fun c2 => ?_)
    · replace h := h.1 c2
      refine zs_iconst 0 d_X_layPlan_151 (by decide) ?_
      exact zs_zret (by decide) d_X_layPlan_152 rfl h
    · replace h := h.2 c2
      refine zs_iload_n 3 d_X_layPlan_142 rfl (List.mem_of_getElem? (i := 1) rfl) ?_
      refine zs_iconst 2 d_X_layPlan_143 (by decide) ?_
      refine zs_icmp_ge 151 d_X_layPlan_144 (by decide) (fun c3 => ?_) (fun c3 => ?_)
      · replace h := h.1 c3
        refine zs_iconst 0 d_X_layPlan_151 (by decide) ?_
        exact zs_zret (by decide) d_X_layPlan_152 rfl h
      · replace h := h.2 c3
        refine zs_iconst 1 d_X_layPlan_147 (by decide) ?_
        refine zs_goto 152 d_X_layPlan_148 (by decide) ?_
        exact zs_zret (by decide) d_X_layPlan_152 rfl h
  · replace h := h.2 c1
    refine zs_aload_n 0 d_X_layPlan_47 rfl (List.mem_of_getElem? (i := 0) rfl) ?_
    refine zs_get d_X_layPlan_48 gf_X_56 (sh_35 g X) rfl ?_
    refine zs_iload d_X_layPlan_51 (List.mem_of_getElem? (i := 3) rfl) ?_
    obtain ⟨b4, h⟩ := h
    refine zs_iald d_X_layPlan_53 (sh_49 g X) b4 ?_
    refine zs_istore2 [1, 2, 3, 4, 0] [(0, .ref 35), (3, .int x3), (4, .int x4), (5, .int x5), (6, .int (M 49 (Int32.toNatClampNeg x5)))] d_X_layPlan_54 (by decide) rfl ?_
    refine zs_iload d_X_layPlan_56 (List.mem_of_getElem? (i := 2) rfl) ?_
    refine zs_if_eq 113 d_X_layPlan_58 (by decide) (fun c5 => ?_) (fun c5 => ?_)
    · replace h := h.1 c5
      refine zs_iconst 0 d_X_layPlan_113 (by decide) ?_
      refine zs_istore2 [1, 2, 0, 3, 4] [(0, .ref 35), (3, .int x3), (4, .int 0), (5, .int x5), (6, .int (M 49 (Int32.toNatClampNeg x5)))] d_X_layPlan_114 (by decide) rfl ?_
      refine zs_iload_n 3 d_X_layPlan_116 rfl (List.mem_of_getElem? (i := 1) rfl) ?_
      refine zs_iload d_X_layPlan_117 (List.mem_of_getElem? (i := 4) rfl) ?_
      refine zs_bipush 6 d_X_layPlan_119 (by decide) ?_
      refine zs_icmp_ne 128 d_X_layPlan_121 (by decide) (fun c6 => ?_) (fun c6 => ?_)
      · replace h := h.1 c6
        refine zs_iconst 0 d_X_layPlan_128 (by decide) ?_
        refine zs_iadd d_X_layPlan_129 ?_
        refine zs_istore_n2 3 [1, 0, 2, 3, 4] [(0, .ref 35), (3, .int (x3 + 0)), (4, .int 0), (5, .int x5), (6, .int (M 49 (Int32.toNatClampNeg x5)))] d_X_layPlan_130 rfl (by decide) rfl ?_
        refine zs_iinc2 3 (x5 + 1) [1, 2, 3, 0, 4] [(0, .ref 35), (3, .int (x3 + 0)), (4, .int 0), (5, .int (x5 + 1)), (6, .int (M 49 (Int32.toNatClampNeg x5)))] d_X_layPlan_131 rfl rfl (by decide) rfl ?_
        refine zs_goto 40 d_X_layPlan_134 (by decide) ?_
        exact zRT_sub [0, 1, 2, 3] rfl h
      · replace h := h.2 c6
        refine zs_iconst 1 d_X_layPlan_124 (by decide) ?_
        refine zs_goto 129 d_X_layPlan_125 (by decide) ?_
        refine zs_iadd d_X_layPlan_129 ?_
        refine zs_istore_n2 3 [1, 0, 2, 3, 4] [(0, .ref 35), (3, .int (x3 + 1)), (4, .int 0), (5, .int x5), (6, .int (M 49 (Int32.toNatClampNeg x5)))] d_X_layPlan_130 rfl (by decide) rfl ?_
        refine zs_iinc2 3 (x5 + 1) [1, 2, 3, 0, 4] [(0, .ref 35), (3, .int (x3 + 1)), (4, .int 0), (5, .int (x5 + 1)), (6, .int (M 49 (Int32.toNatClampNeg x5)))] d_X_layPlan_131 rfl rfl (by decide) rfl ?_
        refine zs_goto 40 d_X_layPlan_134 (by decide) ?_
        exact zRT_sub [0, 1, 2, 3] rfl h
    · replace h := h.2 c5
      refine zs_iload d_X_layPlan_61 (List.mem_of_getElem? (i := 4) rfl) ?_
      refine zs_iload d_X_layPlan_63 (List.mem_of_getElem? (i := 3) rfl) ?_
      refine zs_icmp_eq 113 d_X_layPlan_65 (by decide) (fun c7 => ?_) (fun c7 => ?_)
      · replace h := h.1 c7
        refine zs_iconst 0 d_X_layPlan_113 (by decide) ?_
        refine zs_istore2 [1, 2, 0, 3, 4] [(0, .ref 35), (3, .int x3), (4, .int 0), (5, .int x5), (6, .int (M 49 (Int32.toNatClampNeg x5)))] d_X_layPlan_114 (by decide) rfl ?_
        refine zs_iload_n 3 d_X_layPlan_116 rfl (List.mem_of_getElem? (i := 1) rfl) ?_
        refine zs_iload d_X_layPlan_117 (List.mem_of_getElem? (i := 4) rfl) ?_
        refine zs_bipush 6 d_X_layPlan_119 (by decide) ?_
        refine zs_icmp_ne 128 d_X_layPlan_121 (by decide) (fun c8 => ?_) (fun c8 => ?_)
        · replace h := h.1 c8
          refine zs_iconst 0 d_X_layPlan_128 (by decide) ?_
          refine zs_iadd d_X_layPlan_129 ?_
          refine zs_istore_n2 3 [1, 0, 2, 3, 4] [(0, .ref 35), (3, .int (x3 + 0)), (4, .int 0), (5, .int x5), (6, .int (M 49 (Int32.toNatClampNeg x5)))] d_X_layPlan_130 rfl (by decide) rfl ?_
          refine zs_iinc2 3 (x5 + 1) [1, 2, 3, 0, 4] [(0, .ref 35), (3, .int (x3 + 0)), (4, .int 0), (5, .int (x5 + 1)), (6, .int (M 49 (Int32.toNatClampNeg x5)))] d_X_layPlan_131 rfl rfl (by decide) rfl ?_
          refine zs_goto 40 d_X_layPlan_134 (by decide) ?_
          exact zRT_sub [0, 1, 2, 3] rfl h
        · replace h := h.2 c8
          refine zs_iconst 1 d_X_layPlan_124 (by decide) ?_
          refine zs_goto 129 d_X_layPlan_125 (by decide) ?_
          refine zs_iadd d_X_layPlan_129 ?_
          refine zs_istore_n2 3 [1, 0, 2, 3, 4] [(0, .ref 35), (3, .int (x3 + 1)), (4, .int 0), (5, .int x5), (6, .int (M 49 (Int32.toNatClampNeg x5)))] d_X_layPlan_130 rfl (by decide) rfl ?_
          refine zs_iinc2 3 (x5 + 1) [1, 2, 3, 0, 4] [(0, .ref 35), (3, .int (x3 + 1)), (4, .int 0), (5, .int (x5 + 1)), (6, .int (M 49 (Int32.toNatClampNeg x5)))] d_X_layPlan_131 rfl rfl (by decide) rfl ?_
          refine zs_goto 40 d_X_layPlan_134 (by decide) ?_
          exact zRT_sub [0, 1, 2, 3] rfl h
      · replace h := h.2 c7
        refine zs_iload d_X_layPlan_68 (List.mem_of_getElem? (i := 4) rfl) ?_
        refine zs_bipush 6 d_X_layPlan_70 (by decide) ?_
        refine zs_icmp_eq 87 d_X_layPlan_72 (by decide) (fun c9 => ?_) (fun c9 => ?_)
        · replace h := h.1 c9
          refine zs_aload_n 0 d_X_layPlan_87 rfl (List.mem_of_getElem? (i := 0) rfl) ?_
          refine zs_get d_X_layPlan_88 gf_X_53 (sh_35 g X) rfl ?_
          refine zs_iload d_X_layPlan_91 (List.mem_of_getElem? (i := 3) rfl) ?_
          refine zs_iald d_X_layPlan_93 (sh_48 g X) b4 ?_
          refine zs_if_lt 109 d_X_layPlan_94 (by decide) (fun c10 => ?_) (fun c10 => ?_)
          · replace h := h.1 c10
            refine zs_iconst 1 d_X_layPlan_109 (by decide) ?_
            refine zs_goto 114 d_X_layPlan_110 (by decide) ?_
            refine zs_istore2 [1, 2, 0, 3, 4] [(0, .ref 35), (3, .int x3), (4, .int 1), (5, .int x5), (6, .int (M 49 (Int32.toNatClampNeg x5)))] d_X_layPlan_114 (by decide) rfl ?_
            refine zs_iload_n 3 d_X_layPlan_116 rfl (List.mem_of_getElem? (i := 1) rfl) ?_
            refine zs_iload d_X_layPlan_117 (List.mem_of_getElem? (i := 4) rfl) ?_
            refine zs_bipush 6 d_X_layPlan_119 (by decide) ?_
            refine zs_icmp_ne 128 d_X_layPlan_121 (by decide) (fun c => absurd c9 c) (fun _ => ?_)
            refine zs_iconst 1 d_X_layPlan_124 (by decide) ?_
            refine zs_goto 129 d_X_layPlan_125 (by decide) ?_
            refine zs_iadd d_X_layPlan_129 ?_
            refine zs_istore_n2 3 [1, 0, 2, 3, 4] [(0, .ref 35), (3, .int (x3 + 1)), (4, .int 1), (5, .int x5), (6, .int (M 49 (Int32.toNatClampNeg x5)))] d_X_layPlan_130 rfl (by decide) rfl ?_
            refine zs_iinc2 3 (x5 + 1) [1, 2, 3, 0, 4] [(0, .ref 35), (3, .int (x3 + 1)), (4, .int 1), (5, .int (x5 + 1)), (6, .int (M 49 (Int32.toNatClampNeg x5)))] d_X_layPlan_131 rfl rfl (by decide) rfl ?_
            refine zs_goto 40 d_X_layPlan_134 (by decide) ?_
            exact zRT_sub [0, 1, 2, 3] rfl h
          · replace h := h.2 c10
            refine zs_iload d_X_layPlan_97 (List.mem_of_getElem? (i := 4) rfl) ?_
            refine zs_aload_n 0 d_X_layPlan_99 rfl (List.mem_of_getElem? (i := 0) rfl) ?_
            refine zs_get d_X_layPlan_100 gf_X_53 (sh_35 g X) rfl ?_
            refine zs_iload d_X_layPlan_103 (List.mem_of_getElem? (i := 3) rfl) ?_
            refine zs_iald d_X_layPlan_105 (sh_48 g X) b4 ?_
            refine zs_icmp_ne 113 d_X_layPlan_106 (by decide) (fun c11 => ?_) (fun c11 => ?_)
            · replace h := h.1 c11
              refine zs_iconst 0 d_X_layPlan_113 (by decide) ?_
              refine zs_istore2 [1, 2, 0, 3, 4] [(0, .ref 35), (3, .int x3), (4, .int 0), (5, .int x5), (6, .int (M 49 (Int32.toNatClampNeg x5)))] d_X_layPlan_114 (by decide) rfl ?_
              refine zs_iload_n 3 d_X_layPlan_116 rfl (List.mem_of_getElem? (i := 1) rfl) ?_
              refine zs_iload d_X_layPlan_117 (List.mem_of_getElem? (i := 4) rfl) ?_
              refine zs_bipush 6 d_X_layPlan_119 (by decide) ?_
              refine zs_icmp_ne 128 d_X_layPlan_121 (by decide) (fun c => absurd c9 c) (fun _ => ?_)
              refine zs_iconst 1 d_X_layPlan_124 (by decide) ?_
              refine zs_goto 129 d_X_layPlan_125 (by decide) ?_
              refine zs_iadd d_X_layPlan_129 ?_
              refine zs_istore_n2 3 [1, 0, 2, 3, 4] [(0, .ref 35), (3, .int (x3 + 1)), (4, .int 0), (5, .int x5), (6, .int (M 49 (Int32.toNatClampNeg x5)))] d_X_layPlan_130 rfl (by decide) rfl ?_
              refine zs_iinc2 3 (x5 + 1) [1, 2, 3, 0, 4] [(0, .ref 35), (3, .int (x3 + 1)), (4, .int 0), (5, .int (x5 + 1)), (6, .int (M 49 (Int32.toNatClampNeg x5)))] d_X_layPlan_131 rfl rfl (by decide) rfl ?_
              refine zs_goto 40 d_X_layPlan_134 (by decide) ?_
              exact zRT_sub [0, 1, 2, 3] rfl h
            · replace h := h.2 c11
              refine zs_iconst 1 d_X_layPlan_109 (by decide) ?_
              refine zs_goto 114 d_X_layPlan_110 (by decide) ?_
              refine zs_istore2 [1, 2, 0, 3, 4] [(0, .ref 35), (3, .int x3), (4, .int 1), (5, .int x5), (6, .int (M 49 (Int32.toNatClampNeg x5)))] d_X_layPlan_114 (by decide) rfl ?_
              refine zs_iload_n 3 d_X_layPlan_116 rfl (List.mem_of_getElem? (i := 1) rfl) ?_
              refine zs_iload d_X_layPlan_117 (List.mem_of_getElem? (i := 4) rfl) ?_
              refine zs_bipush 6 d_X_layPlan_119 (by decide) ?_
              refine zs_icmp_ne 128 d_X_layPlan_121 (by decide) (fun c => absurd c9 c) (fun _ => ?_)
              refine zs_iconst 1 d_X_layPlan_124 (by decide) ?_
              refine zs_goto 129 d_X_layPlan_125 (by decide) ?_
              refine zs_iadd d_X_layPlan_129 ?_
              refine zs_istore_n2 3 [1, 0, 2, 3, 4] [(0, .ref 35), (3, .int (x3 + 1)), (4, .int 1), (5, .int x5), (6, .int (M 49 (Int32.toNatClampNeg x5)))] d_X_layPlan_130 rfl (by decide) rfl ?_
              refine zs_iinc2 3 (x5 + 1) [1, 2, 3, 0, 4] [(0, .ref 35), (3, .int (x3 + 1)), (4, .int 1), (5, .int (x5 + 1)), (6, .int (M 49 (Int32.toNatClampNeg x5)))] d_X_layPlan_131 rfl rfl (by decide) rfl ?_
              refine zs_goto 40 d_X_layPlan_134 (by decide) ?_
              exact zRT_sub [0, 1, 2, 3] rfl h
        · replace h := h.2 c9
          refine zs_aload_n 0 d_X_layPlan_75 rfl (List.mem_of_getElem? (i := 0) rfl) ?_
          refine zs_get d_X_layPlan_76 gf_X_56 (sh_35 g X) rfl ?_
          refine zs_iload d_X_layPlan_79 (List.mem_of_getElem? (i := 4) rfl) ?_
          obtain ⟨b12, h⟩ := h
          refine zs_iald d_X_layPlan_81 (sh_49 g X) b12 ?_
          refine zs_iload d_X_layPlan_82 (List.mem_of_getElem? (i := 3) rfl) ?_
          refine zs_icmp_ne 113 d_X_layPlan_84 (by decide) (fun c13 => ?_) (fun c13 => ?_)
          · replace h := h.1 c13
            refine zs_iconst 0 d_X_layPlan_113 (by decide) ?_
            refine zs_istore2 [1, 2, 0, 3, 4] [(0, .ref 35), (3, .int x3), (4, .int 0), (5, .int x5), (6, .int (M 49 (Int32.toNatClampNeg x5)))] d_X_layPlan_114 (by decide) rfl ?_
            refine zs_iload_n 3 d_X_layPlan_116 rfl (List.mem_of_getElem? (i := 1) rfl) ?_
            refine zs_iload d_X_layPlan_117 (List.mem_of_getElem? (i := 4) rfl) ?_
            refine zs_bipush 6 d_X_layPlan_119 (by decide) ?_
            refine zs_icmp_ne 128 d_X_layPlan_121 (by decide) (fun _ => ?_) (fun c => absurd c c9)
            refine zs_iconst 0 d_X_layPlan_128 (by decide) ?_
            refine zs_iadd d_X_layPlan_129 ?_
            refine zs_istore_n2 3 [1, 0, 2, 3, 4] [(0, .ref 35), (3, .int (x3 + 0)), (4, .int 0), (5, .int x5), (6, .int (M 49 (Int32.toNatClampNeg x5)))] d_X_layPlan_130 rfl (by decide) rfl ?_
            refine zs_iinc2 3 (x5 + 1) [1, 2, 3, 0, 4] [(0, .ref 35), (3, .int (x3 + 0)), (4, .int 0), (5, .int (x5 + 1)), (6, .int (M 49 (Int32.toNatClampNeg x5)))] d_X_layPlan_131 rfl rfl (by decide) rfl ?_
            refine zs_goto 40 d_X_layPlan_134 (by decide) ?_
            exact zRT_sub [0, 1, 2, 3] rfl h
          · replace h := h.2 c13
            refine zs_aload_n 0 d_X_layPlan_87 rfl (List.mem_of_getElem? (i := 0) rfl) ?_
            refine zs_get d_X_layPlan_88 gf_X_53 (sh_35 g X) rfl ?_
            refine zs_iload d_X_layPlan_91 (List.mem_of_getElem? (i := 3) rfl) ?_
            refine zs_iald d_X_layPlan_93 (sh_48 g X) b4 ?_
            refine zs_if_lt 109 d_X_layPlan_94 (by decide) (fun c14 => ?_) (fun c14 => ?_)
            · replace h := h.1 c14
              refine zs_iconst 1 d_X_layPlan_109 (by decide) ?_
              refine zs_goto 114 d_X_layPlan_110 (by decide) ?_
              refine zs_istore2 [1, 2, 0, 3, 4] [(0, .ref 35), (3, .int x3), (4, .int 1), (5, .int x5), (6, .int (M 49 (Int32.toNatClampNeg x5)))] d_X_layPlan_114 (by decide) rfl ?_
              refine zs_iload_n 3 d_X_layPlan_116 rfl (List.mem_of_getElem? (i := 1) rfl) ?_
              refine zs_iload d_X_layPlan_117 (List.mem_of_getElem? (i := 4) rfl) ?_
              refine zs_bipush 6 d_X_layPlan_119 (by decide) ?_
              refine zs_icmp_ne 128 d_X_layPlan_121 (by decide) (fun _ => ?_) (fun c => absurd c c9)
              refine zs_iconst 0 d_X_layPlan_128 (by decide) ?_
              refine zs_iadd d_X_layPlan_129 ?_
              refine zs_istore_n2 3 [1, 0, 2, 3, 4] [(0, .ref 35), (3, .int (x3 + 0)), (4, .int 1), (5, .int x5), (6, .int (M 49 (Int32.toNatClampNeg x5)))] d_X_layPlan_130 rfl (by decide) rfl ?_
              refine zs_iinc2 3 (x5 + 1) [1, 2, 3, 0, 4] [(0, .ref 35), (3, .int (x3 + 0)), (4, .int 1), (5, .int (x5 + 1)), (6, .int (M 49 (Int32.toNatClampNeg x5)))] d_X_layPlan_131 rfl rfl (by decide) rfl ?_
              refine zs_goto 40 d_X_layPlan_134 (by decide) ?_
              exact zRT_sub [0, 1, 2, 3] rfl h
            · replace h := h.2 c14
              refine zs_iload d_X_layPlan_97 (List.mem_of_getElem? (i := 4) rfl) ?_
              refine zs_aload_n 0 d_X_layPlan_99 rfl (List.mem_of_getElem? (i := 0) rfl) ?_
              refine zs_get d_X_layPlan_100 gf_X_53 (sh_35 g X) rfl ?_
              refine zs_iload d_X_layPlan_103 (List.mem_of_getElem? (i := 3) rfl) ?_
              refine zs_iald d_X_layPlan_105 (sh_48 g X) b4 ?_
              refine zs_icmp_ne 113 d_X_layPlan_106 (by decide) (fun c15 => ?_) (fun c15 => ?_)
              · replace h := h.1 c15
                refine zs_iconst 0 d_X_layPlan_113 (by decide) ?_
                refine zs_istore2 [1, 2, 0, 3, 4] [(0, .ref 35), (3, .int x3), (4, .int 0), (5, .int x5), (6, .int (M 49 (Int32.toNatClampNeg x5)))] d_X_layPlan_114 (by decide) rfl ?_
                refine zs_iload_n 3 d_X_layPlan_116 rfl (List.mem_of_getElem? (i := 1) rfl) ?_
                refine zs_iload d_X_layPlan_117 (List.mem_of_getElem? (i := 4) rfl) ?_
                refine zs_bipush 6 d_X_layPlan_119 (by decide) ?_
                refine zs_icmp_ne 128 d_X_layPlan_121 (by decide) (fun _ => ?_) (fun c => absurd c c9)
                refine zs_iconst 0 d_X_layPlan_128 (by decide) ?_
                refine zs_iadd d_X_layPlan_129 ?_
                refine zs_istore_n2 3 [1, 0, 2, 3, 4] [(0, .ref 35), (3, .int (x3 + 0)), (4, .int 0), (5, .int x5), (6, .int (M 49 (Int32.toNatClampNeg x5)))] d_X_layPlan_130 rfl (by decide) rfl ?_
                refine zs_iinc2 3 (x5 + 1) [1, 2, 3, 0, 4] [(0, .ref 35), (3, .int (x3 + 0)), (4, .int 0), (5, .int (x5 + 1)), (6, .int (M 49 (Int32.toNatClampNeg x5)))] d_X_layPlan_131 rfl rfl (by decide) rfl ?_
                refine zs_goto 40 d_X_layPlan_134 (by decide) ?_
                exact zRT_sub [0, 1, 2, 3] rfl h
              · replace h := h.2 c15
                refine zs_iconst 1 d_X_layPlan_109 (by decide) ?_
                refine zs_goto 114 d_X_layPlan_110 (by decide) ?_
                refine zs_istore2 [1, 2, 0, 3, 4] [(0, .ref 35), (3, .int x3), (4, .int 1), (5, .int x5), (6, .int (M 49 (Int32.toNatClampNeg x5)))] d_X_layPlan_114 (by decide) rfl ?_
                refine zs_iload_n 3 d_X_layPlan_116 rfl (List.mem_of_getElem? (i := 1) rfl) ?_
                refine zs_iload d_X_layPlan_117 (List.mem_of_getElem? (i := 4) rfl) ?_
                refine zs_bipush 6 d_X_layPlan_119 (by decide) ?_
                refine zs_icmp_ne 128 d_X_layPlan_121 (by decide) (fun _ => ?_) (fun c => absurd c c9)
                refine zs_iconst 0 d_X_layPlan_128 (by decide) ?_
                refine zs_iadd d_X_layPlan_129 ?_
                refine zs_istore_n2 3 [1, 0, 2, 3, 4] [(0, .ref 35), (3, .int (x3 + 0)), (4, .int 1), (5, .int x5), (6, .int (M 49 (Int32.toNatClampNeg x5)))] d_X_layPlan_130 rfl (by decide) rfl ?_
                refine zs_iinc2 3 (x5 + 1) [1, 2, 3, 0, 4] [(0, .ref 35), (3, .int (x3 + 0)), (4, .int 1), (5, .int (x5 + 1)), (6, .int (M 49 (Int32.toNatClampNeg x5)))] d_X_layPlan_131 rfl rfl (by decide) rfl ?_
                refine zs_goto 40 d_X_layPlan_134 (by decide) ?_
                exact zRT_sub [0, 1, 2, 3] rfl h
theorem ex_X_layPlan (c : Int32) (hh : ∃ n : Nat, n < 2 ^ 31 ∧ c = nI n) : zEx m_X_layPlan 0 0 [.ref 35, .int c] (SHP g X) M (qR g X (fun r M2 => kAg [49] M M2 ∧ (r = 0 ∨ r = 1) ∧ (∀ j, j < 6 → ∃ n : Nat, n < 7 ∧ M2 49 j = nI n))) := by
  refine zEx_of _ (by decide) (by simp [Value.category]) (Nat.le_of_ble_eq_true rfl) rfl (v_X_layPlan_0 g X M c _ ?_)
  have L2 : ∀ d k M1 a b, k + d = 6 → kAg [49] M M1 → (∀ j, j < 6 → ∃ n : Nat, n < 7 ∧ M1 49 j = nI n) → zRT m_X_layPlan 0 0 40 [(0, .ref 35), (3, .int a), (4, .int b), (5, .int (nI k))] [] (SHP g X) M1 (qR g X (fun r M2 => kAg [49] M M2 ∧ (r = 0 ∨ r = 1) ∧ (∀ j, j < 6 → ∃ n : Nat, n < 7 ∧ M2 49 j = nI n))) := by
    intro d
    induction d with
    | zero =>
      intro k M1 a b hk ha hp
      exact v_X_layPlan_40 g X _ _ _ _ _ ⟨fun _ => ⟨fun _ => qR_i ⟨ha, Or.inl rfl, hp⟩, fun _ => ⟨fun _ => qR_i ⟨ha, Or.inl rfl, hp⟩, fun _ => qR_i ⟨ha, Or.inr rfl, hp⟩⟩⟩, fun h => absurd (nI_le (a := 6) (by omega) (by omega)) h⟩
    | succ d ih =>
      intro k M1 a b hk ha hp
      refine v_X_layPlan_40 g X _ _ _ _ _ ⟨fun h => absurd h (nI_ge (b := 6) (by omega) (by omega)), fun _ => ?_⟩
      have i1 := fun a b => ih (k + 1) M1 a b (by omega) ha hp
      obtain ⟨n, hn, en⟩ := hp k (by omega)
      rw [nI_1, nI_clamp (n := k) (by omega), en]
      have h6 : ¬ nI n = 6 → vp_in (nI n) 6 := by
        intro h
        have : n ≠ 6 := fun q => h (by rw [q]; rfl)
        exact vp_in_nI (by omega) (by decide)
      exact ⟨vp_in_nI (by omega) (by decide), fun _ => ⟨fun _ => i1 _ _, fun _ => i1 _ _⟩, fun _ => ⟨fun _ => ⟨fun _ => i1 _ _, fun _ => i1 _ _⟩, fun _ => ⟨fun _ => ⟨fun _ => i1 _ _, fun _ => ⟨fun _ => i1 _ _, fun _ => i1 _ _⟩⟩, fun h => ⟨h6 h, fun _ => i1 _ _, fun _ => ⟨fun _ => i1 _ _, fun _ => ⟨fun _ => i1 _ _, fun _ => i1 _ _⟩⟩⟩⟩⟩⟩
  have L1 : ∀ d n M1 a b, d ≤ 6 → n < 2 ^ 31 → kAg [49] M M1 → (∀ j, d ≤ j → j < 6 → ∃ n : Nat, n < 7 ∧ M1 49 j = nI n) → zRT m_X_layPlan 0 0 10 [(0, .ref 35), (2, .int (nI n)), (3, .int a), (4, .int b), (5, .int (nI d + (-1)))] [] (SHP g X) M1 (qR g X (fun r M2 => kAg [49] M M2 ∧ (r = 0 ∨ r = 1) ∧ (∀ j, j < 6 → ∃ n : Nat, n < 7 ∧ M2 49 j = nI n))) := by
    intro d
    induction d with
    | zero =>
      intro n M1 a b _ hn ha hp
      exact v_X_layPlan_10 g X _ _ _ _ _ _ ⟨fun _ => L2 6 0 M1 _ _ rfl ha (fun j hj => hp j (by omega) hj), fun h => absurd (by decide) h⟩
    | succ d ih =>
      intro n M1 a b hd hn ha hp
      rw [pk_m1]
      refine v_X_layPlan_10 g X _ _ _ _ _ _ ⟨fun h => absurd h (nI_pos (by omega)), fun _ => ⟨vp_in_nI (by omega) (by decide), ?_⟩⟩
      rw [nI_clamp (n := d) (by omega), show (7 : Int32) = nI 7 from rfl, pk_rem hn (by omega) (by omega), pk_div hn (by omega) (by omega)]
      refine ih (n / 7) _ _ _ (by omega) (by omega) (ha.st (by decide)) (fun j h1 h2 => ?_)
      by_cases q : j = d
      · exact ⟨n % 7, Nat.mod_lt _ (by omega), by rw [q, zms_row]; exact pk_us⟩
      · rw [zms_row, pk_un q]
        exact hp j (by omega) h2
  obtain ⟨n, hn, e⟩ := hh
  rw [e]
  exact L1 6 n M _ _ (by omega) hn kAg.rf (fun j h1 h2 => absurd h1 (by omega))
def mIw (M M1 : zMem) : Prop := kAg [36, 41, 42, 43, 44, 45, 46, 47, 48, 49] M M1 ∧ (∀ j, 6 ≤ j → M1 36 j = M 36 j) ∧ ∀ j, j < 6 → M1 48 j = M 36 j
theorem mIw.st {M M1 : zMem} {p i : Nat} {v : Int32} (h : mIw M M1) (hp : p ∈ [41, 42, 43, 44, 45, 46, 47, 49]) : mIw M (zms M1 p i v) := by
  have hp2 : p ∈ [36, 41, 42, 43, 44, 45, 46, 47, 48, 49] := by
    simp only [List.mem_cons, List.not_mem_nil, or_false] at hp ⊢
    omega
  refine ⟨h.1.st hp2, ?_, ?_⟩
  · rw [zms_ne M1 p i v 36 (by rintro rfl; exact absurd hp (by decide))]; exact h.2.1
  · rw [zms_ne M1 p i v 48 (by rintro rfl; exact absurd hp (by decide))]; exact h.2.2
theorem mIw.s6 {M M1 : zMem} {i : Nat} {v : Int32} (h : mIw M M1) (hi : i < 6) : mIw M (zms M1 36 i v) := by
  refine ⟨h.1.st (by decide), ?_, ?_⟩
  · intro j hj
    rw [zms_row, pk_un (by omega)]; exact h.2.1 j hj
  · rw [zms_ne M1 36 i v 48 (by decide)]; exact h.2.2
theorem mIw.ag {M M1 M2 : zMem} {l : List Nat} (h : mIw M M1) (h2 : kAg l M1 M2) (hl : ∀ p ∈ l, p = 42 ∨ p = 49) : mIw M M2 := by
  have e : ∀ p, p ≠ 42 → p ≠ 49 → M2 p = M1 p := fun p h1 h3 => h2 p (fun q => (hl p q).elim h1 h3)
  refine ⟨fun p hp => ?_, ?_, ?_⟩
  · rw [e p (fun q => hp (by rw [q]; decide)) (fun q => hp (by rw [q]; decide))]; exact h.1 p hp
  · rw [e 36 (by decide) (by decide)]; exact h.2.1
  · rw [e 48 (by decide) (by decide)]; exact h.2.2
theorem v_X_married_0 (g : Nat → Option Nat) (X : List zShp) (M : zMem) (x1 : Int32) (R : zEnd) (h : (mCnt M) ∧ ((mK (mTo M)) ∧ (∀ (r2 : Int32) (M2 : zMem), (kAg [42] (mTo M) M2) → (zRT m_X_married 0 0 15 [(0, .ref 35), (1, .int x1), (2, .int r2), (3, .int 1000000), (4, .int 0)] [] (SHP g X) M2 R)))) : zRT m_X_married 0 0 0 [(0, .ref 35), (1, .int x1)] [] (SHP g X) M R := by
  refine zs_aload_n 0 d_X_married_0 rfl (List.mem_of_getElem? (i := 0) rfl) ?_
  obtain ⟨p1, h⟩ := h
  refine zs_callV (kc := 0) (ks := 0) (kc1 := 0) (ks1 := 0) (st := []) [] d_X_married_1 lk_X_116 ⟨by decide, by decide⟩ rfl (sh_35 g X) rfl (Nat.le_of_ble_eq_true rfl) (ex_X_asTold g X M p1) (fun v1 sh1 M1 hR => ?_)
  obtain ⟨rfl, rfl, rfl⟩ := hR
  refine zs_aload_n 0 d_X_married_4 rfl (List.mem_of_getElem? (i := 0) rfl) ?_
  obtain ⟨p2, h⟩ := h
  refine zs_callV (kc := 0) (ks := 0) (kc1 := 0) (ks1 := 0) (st := []) [] d_X_married_5 lk_X_153 ⟨by decide, by decide⟩ rfl (sh_35 g X) rfl (Nat.le_of_ble_eq_true rfl) (ex_X_allBarred g X (mTo M) p2) (fun v2 sh2 M2 hR => ?_)
  obtain ⟨r2, rfl, rfl, hq2⟩ := hR
  replace h := h r2 M2 hq2
  refine zs_istore_n2 2 [1, 2, 0] [(0, .ref 35), (1, .int x1), (2, .int r2)] d_X_married_8 rfl (by decide) rfl ?_
  refine zs_ldc (v := 1000000) d_X_married_9 (by decide +kernel) ?_
  refine zs_istore_n2 3 [1, 2, 3, 0] [(0, .ref 35), (1, .int x1), (2, .int r2), (3, .int 1000000)] d_X_married_11 rfl (by decide) rfl ?_
  refine zs_iconst 0 d_X_married_12 (by decide) ?_
  refine zs_istore2 [1, 2, 3, 4, 0] [(0, .ref 35), (1, .int x1), (2, .int r2), (3, .int 1000000), (4, .int 0)] d_X_married_13 (by decide) rfl ?_
  exact h
theorem v_X_married_15 (g : Nat → Option Nat) (X : List zShp) (M : zMem) (x1 x2 x3 x4 : Int32) (R : zEnd) (h : ((6 ≤ x4) → (zRT m_X_married 0 0 45 [(0, .ref 35), (1, .int x1), (2, .int x2), (3, .int x3), (4, .int 0)] [] (SHP g X) M R)) ∧ ((¬ 6 ≤ x4) → ((vp_in x4 6) ∧ (zRT m_X_married 0 0 15 [(0, .ref 35), (1, .int x1), (2, .int x2), (3, .int x3), (4, .int (x4 + 1))] [] (SHP g X) (zms M 48 (Int32.toNatClampNeg x4) (M 36 (Int32.toNatClampNeg x4))) R)))) : zRT m_X_married 0 0 15 [(0, .ref 35), (1, .int x1), (2, .int x2), (3, .int x3), (4, .int x4)] [] (SHP g X) M R := by
  refine zs_iload d_X_married_15 (List.mem_of_getElem? (i := 4) rfl) ?_
  refine zs_bipush 6 d_X_married_17 (by decide) ?_
  refine zs_icmp_ge 42 d_X_married_19 (by decide) (fun c1 => ?_) (fun c1 => ?_)
  · replace h := h.1 c1
    refine zs_iconst 0 d_X_married_42 (by decide) ?_
    refine zs_istore2 [1, 2, 3, 4, 0] [(0, .ref 35), (1, .int x1), (2, .int x2), (3, .int x3), (4, .int 0)] d_X_married_43 (by decide) rfl ?_
    exact h
  · replace h := h.2 c1
    refine zs_aload_n 0 d_X_married_22 rfl (List.mem_of_getElem? (i := 0) rfl) ?_
    refine zs_get d_X_married_23 gf_X_53 (sh_35 g X) rfl ?_
    refine zs_iload d_X_married_26 (List.mem_of_getElem? (i := 4) rfl) ?_
    refine zs_aload_n 0 d_X_married_28 rfl (List.mem_of_getElem? (i := 0) rfl) ?_
    refine zs_get d_X_married_29 gf_X_16 (sh_35 g X) rfl ?_
    refine zs_iload d_X_married_32 (List.mem_of_getElem? (i := 4) rfl) ?_
    obtain ⟨b2, h⟩ := h
    refine zs_iald d_X_married_34 (sh_36 g X) b2 ?_
    refine zs_iast d_X_married_35 (sh_48 g X) b2 ?_
    refine zs_iinc2 4 (x4 + 1) [1, 2, 3, 4, 0] [(0, .ref 35), (1, .int x1), (2, .int x2), (3, .int x3), (4, .int (x4 + 1))] d_X_married_36 rfl rfl (by decide) rfl ?_
    refine zs_goto 15 d_X_married_39 (by decide) ?_
    exact h
theorem v_X_married_45 (g : Nat → Option Nat) (X : List zShp) (M : zMem) (x1 x2 x3 x4 : Int32) (R : zEnd) (h : ((117649 ≤ x4) → (zRT m_X_married 0 0 172 [(0, .ref 35), (1, .int x1), (2, .int x2), (3, .int x3), (4, .int 0)] [] (SHP g X) M R)) ∧ ((¬ 117649 ≤ x4) → ((∃ c : Nat, c < 2 ^ 31 ∧ x4 = nI c) ∧ (∀ (r2 : Int32) (M2 : zMem), (kAg [49] M M2 ∧ (r2 = 0 ∨ r2 = 1) ∧ (∀ j, j < 6 → ∃ n : Nat, n < 7 ∧ M2 49 j = nI n)) → (((r2 = 0) → (zRT m_X_married 0 0 45 [(0, .ref 35), (1, .int x1), (2, .int x2), (3, .int x3), (4, .int (x4 + 1))] [] (SHP g X) M2 R)) ∧ ((¬ r2 = 0) → (zRT m_X_married 0 0 64 [(0, .ref 35), (1, .int x1), (2, .int x2), (3, .int x3), (4, .int x4), (5, .int 0)] [] (SHP g X) M2 R))))))) : zRT m_X_married 0 0 45 [(0, .ref 35), (1, .int x1), (2, .int x2), (3, .int x3), (4, .int x4)] [] (SHP g X) M R := by
  refine zs_iload d_X_married_45 (List.mem_of_getElem? (i := 4) rfl) ?_
  refine zs_ldc (v := 117649) d_X_married_47 (by decide +kernel) ?_
  refine zs_icmp_ge 169 d_X_married_49 (by decide) (fun c1 => ?_) (fun c1 => ?_)
  · replace h := h.1 c1
    refine zs_iconst 0 d_X_married_169 (by decide) ?_
    refine zs_istore2 [1, 2, 3, 4, 0] [(0, .ref 35), (1, .int x1), (2, .int x2), (3, .int x3), (4, .int 0)] d_X_married_170 (by decide) rfl ?_
    exact h
  · replace h := h.2 c1
    refine zs_aload_n 0 d_X_married_52 rfl (List.mem_of_getElem? (i := 0) rfl) ?_
    refine zs_iload d_X_married_53 (List.mem_of_getElem? (i := 4) rfl) ?_
    obtain ⟨p2, h⟩ := h
    refine zs_callV (kc := 0) (ks := 0) (kc1 := 0) (ks1 := 0) (st := []) [.int x4] d_X_married_55 lk_X_157 ⟨by decide, by decide⟩ rfl (sh_35 g X) rfl (Nat.le_of_ble_eq_true rfl) (ex_X_layPlan g X M x4 p2) (fun v2 sh2 M2 hR => ?_)
    obtain ⟨r2, rfl, rfl, hq2⟩ := hR
    replace h := h r2 M2 hq2
    refine zs_if_eq 163 d_X_married_58 (by decide) (fun c3 => ?_) (fun c3 => ?_)
    · replace h := h.1 c3
      refine zs_iinc2 4 (x4 + 1) [1, 2, 3, 4, 0] [(0, .ref 35), (1, .int x1), (2, .int x2), (3, .int x3), (4, .int (x4 + 1))] d_X_married_163 rfl rfl (by decide) rfl ?_
      refine zs_goto 45 d_X_married_166 (by decide) ?_
      exact h
    · replace h := h.2 c3
      refine zs_iconst 0 d_X_married_61 (by decide) ?_
      refine zs_istore2 [1, 2, 3, 4, 5, 0] [(0, .ref 35), (1, .int x1), (2, .int x2), (3, .int x3), (4, .int x4), (5, .int 0)] d_X_married_62 (by decide) rfl ?_
      exact h
theorem v_X_married_64 (g : Nat → Option Nat) (X : List zShp) (M : zMem) (x1 x2 x3 x4 x5 : Int32) (R : zEnd) (h : ((6 ≤ x5) → ((mK M) ∧ (∀ (r2 : Int32) (M2 : zMem), (kAg [42] M M2) → (zRT m_X_married 0 0 117 [(0, .ref 35), (1, .int x1), (2, .int x2), (3, .int x3), (4, .int x4), (5, .int r2), (6, .int 0)] [] (SHP g X) M2 R)))) ∧ ((¬ 6 ≤ x5) → ((vp_in x5 6) ∧ (((¬ (M 49 (Int32.toNatClampNeg x5)) = 6) → (zRT m_X_married 0 0 64 [(0, .ref 35), (1, .int x1), (2, .int x2), (3, .int x3), (4, .int x4), (5, .int (x5 + 1))] [] (SHP g X) (zms M 36 (Int32.toNatClampNeg x5) (M 49 (Int32.toNatClampNeg x5))) R)) ∧ (((M 49 (Int32.toNatClampNeg x5)) = 6) → (zRT m_X_married 0 0 64 [(0, .ref 35), (1, .int x1), (2, .int x2), (3, .int x3), (4, .int x4), (5, .int (x5 + 1))] [] (SHP g X) (zms M 36 (Int32.toNatClampNeg x5) (-6)) R)))))) : zRT m_X_married 0 0 64 [(0, .ref 35), (1, .int x1), (2, .int x2), (3, .int x3), (4, .int x4), (5, .int x5)] [] (SHP g X) M R := by
  refine zs_iload d_X_married_64 (List.mem_of_getElem? (i := 5) rfl) ?_
  refine zs_bipush 6 d_X_married_66 (by decide) ?_
  refine zs_icmp_ge 108 d_X_married_68 (by decide) (fun c1 => ?_) (fun c1 => ?_)
  · replace h := h.1 c1
    refine zs_aload_n 0 d_X_married_108 rfl (List.mem_of_getElem? (i := 0) rfl) ?_
    obtain ⟨p2, h⟩ := h
    refine zs_callV (kc := 0) (ks := 0) (kc1 := 0) (ks1 := 0) (st := []) [] d_X_married_109 lk_X_153 ⟨by decide, by decide⟩ rfl (sh_35 g X) rfl (Nat.le_of_ble_eq_true rfl) (ex_X_allBarred g X M p2) (fun v2 sh2 M2 hR => ?_)
    obtain ⟨r2, rfl, rfl, hq2⟩ := hR
    replace h := h r2 M2 hq2
    refine zs_istore2 [1, 2, 3, 4, 5, 0] [(0, .ref 35), (1, .int x1), (2, .int x2), (3, .int x3), (4, .int x4), (5, .int r2)] d_X_married_112 (by decide) rfl ?_
    refine zs_iconst 0 d_X_married_114 (by decide) ?_
    refine zs_istore2 [1, 2, 3, 4, 5, 6, 0] [(0, .ref 35), (1, .int x1), (2, .int x2), (3, .int x3), (4, .int x4), (5, .int r2), (6, .int 0)] d_X_married_115 (by decide) rfl ?_
    exact h
  · replace h := h.2 c1
    refine zs_aload_n 0 d_X_married_71 rfl (List.mem_of_getElem? (i := 0) rfl) ?_
    refine zs_get d_X_married_72 gf_X_16 (sh_35 g X) rfl ?_
    refine zs_iload d_X_married_75 (List.mem_of_getElem? (i := 5) rfl) ?_
    refine zs_aload_n 0 d_X_married_77 rfl (List.mem_of_getElem? (i := 0) rfl) ?_
    refine zs_get d_X_married_78 gf_X_56 (sh_35 g X) rfl ?_
    refine zs_iload d_X_married_81 (List.mem_of_getElem? (i := 5) rfl) ?_
    obtain ⟨b3, h⟩ := h
    refine zs_iald d_X_married_83 (sh_49 g X) b3 ?_
    refine zs_bipush 6 d_X_married_84 (by decide) ?_
    refine zs_icmp_ne 94 d_X_married_86 (by decide) (fun c4 => ?_) (fun c4 => ?_)
    · replace h := h.1 c4
      refine zs_aload_n 0 d_X_married_94 rfl (List.mem_of_getElem? (i := 0) rfl) ?_
      refine zs_get d_X_married_95 gf_X_56 (sh_35 g X) rfl ?_
      refine zs_iload d_X_married_98 (List.mem_of_getElem? (i := 5) rfl) ?_
      refine zs_iald d_X_married_100 (sh_49 g X) b3 ?_
      refine zs_iast d_X_married_101 (sh_36 g X) b3 ?_
      refine zs_iinc2 5 (x5 + 1) [1, 2, 3, 4, 5, 0] [(0, .ref 35), (1, .int x1), (2, .int x2), (3, .int x3), (4, .int x4), (5, .int (x5 + 1))] d_X_married_102 rfl rfl (by decide) rfl ?_
      refine zs_goto 64 d_X_married_105 (by decide) ?_
      exact h
    · replace h := h.2 c4
      refine zs_bipush (-6) d_X_married_89 (by decide) ?_
      refine zs_goto 101 d_X_married_91 (by decide) ?_
      refine zs_iast d_X_married_101 (sh_36 g X) b3 ?_
      refine zs_iinc2 5 (x5 + 1) [1, 2, 3, 4, 5, 0] [(0, .ref 35), (1, .int x1), (2, .int x2), (3, .int x3), (4, .int x4), (5, .int (x5 + 1))] d_X_married_102 rfl rfl (by decide) rfl ?_
      refine zs_goto 64 d_X_married_105 (by decide) ?_
      exact h
theorem v_X_married_117 (g : Nat → Option Nat) (X : List zShp) (M : zMem) (x1 x2 x3 x4 x5 x6 : Int32) (R : zEnd) (h : ((6 ≤ x6) → (((x3 ≤ x5) → (zRT m_X_married 0 0 45 [(0, .ref 35), (1, .int x1), (2, .int x2), (3, .int x3), (4, .int (x4 + 1))] [] (SHP g X) M R)) ∧ ((¬ x3 ≤ x5) → (zRT m_X_married 0 0 45 [(0, .ref 35), (1, .int x1), (2, .int x2), (3, .int x5), (4, .int (x4 + 1))] [] (SHP g X) M R)))) ∧ ((¬ 6 ≤ x6) → (((x3 ≤ x5) → (((x3 ≤ x5) → (zRT m_X_married 0 0 45 [(0, .ref 35), (1, .int x1), (2, .int x2), (3, .int x3), (4, .int (x4 + 1))] [] (SHP g X) M R)) ∧ ((¬ x3 ≤ x5) → (zRT m_X_married 0 0 45 [(0, .ref 35), (1, .int x1), (2, .int x2), (3, .int x5), (4, .int (x4 + 1))] [] (SHP g X) M R)))) ∧ ((¬ x3 ≤ x5) → ((vp_in x6 6) ∧ (zRT m_X_married 0 0 117 [(0, .ref 35), (1, .int x1), (2, .int x2), (3, .int x3), (4, .int x4), (5, .int x5), (6, .int (x6 + 1))] [] (SHP g X) (zms M 46 (Int32.toNatClampNeg x6) (M 36 (Int32.toNatClampNeg x6))) R)))))) : zRT m_X_married 0 0 117 [(0, .ref 35), (1, .int x1), (2, .int x2), (3, .int x3), (4, .int x4), (5, .int x5), (6, .int x6)] [] (SHP g X) M R := by
  refine zs_iload d_X_married_117 (List.mem_of_getElem? (i := 6) rfl) ?_
  refine zs_bipush 6 d_X_married_119 (by decide) ?_
  refine zs_icmp_ge 150 d_X_married_121 (by decide) (fun c1 => ?_) (fun c1 => ?_)
  · replace h := h.1 c1
    refine zs_iload d_X_married_150 (List.mem_of_getElem? (i := 5) rfl) ?_
    refine zs_iload_n 3 d_X_married_152 rfl (List.mem_of_getElem? (i := 3) rfl) ?_
    refine zs_icmp_ge 161 d_X_married_153 (by decide) (fun c2 => ?_) (fun c2 => ?_)
    · replace h := h.1 c2
      refine zs_iload_n 3 d_X_married_161 rfl (List.mem_of_getElem? (i := 3) rfl) ?_
      refine zs_istore_n2 3 [1, 2, 3, 0, 4, 5, 6] [(0, .ref 35), (1, .int x1), (2, .int x2), (3, .int x3), (4, .int x4), (5, .int x5), (6, .int x6)] d_X_married_162 rfl (by decide) rfl ?_
      refine zs_iinc2 4 (x4 + 1) [1, 2, 3, 4, 0, 5, 6] [(0, .ref 35), (1, .int x1), (2, .int x2), (3, .int x3), (4, .int (x4 + 1)), (5, .int x5), (6, .int x6)] d_X_married_163 rfl rfl (by decide) rfl ?_
      refine zs_goto 45 d_X_married_166 (by decide) ?_
      exact zRT_sub [0, 1, 2, 3, 4] rfl h
    · replace h := h.2 c2
      refine zs_iload d_X_married_156 (List.mem_of_getElem? (i := 5) rfl) ?_
      refine zs_goto 162 d_X_married_158 (by decide) ?_
      refine zs_istore_n2 3 [1, 2, 3, 0, 4, 5, 6] [(0, .ref 35), (1, .int x1), (2, .int x2), (3, .int x5), (4, .int x4), (5, .int x5), (6, .int x6)] d_X_married_162 rfl (by decide) rfl ?_
      refine zs_iinc2 4 (x4 + 1) [1, 2, 3, 4, 0, 5, 6] [(0, .ref 35), (1, .int x1), (2, .int x2), (3, .int x5), (4, .int (x4 + 1)), (5, .int x5), (6, .int x6)] d_X_married_163 rfl rfl (by decide) rfl ?_
      refine zs_goto 45 d_X_married_166 (by decide) ?_
      exact zRT_sub [0, 1, 2, 3, 4] rfl h
  · replace h := h.2 c1
    refine zs_iload d_X_married_124 (List.mem_of_getElem? (i := 5) rfl) ?_
    refine zs_iload_n 3 d_X_married_126 rfl (List.mem_of_getElem? (i := 3) rfl) ?_
    refine zs_icmp_ge 150 d_X_married_127 (by decide) (fun c3 => ?_) (fun c3 => ?_)
    · replace h := h.1 c3
      refine zs_iload d_X_married_150 (List.mem_of_getElem? (i := 5) rfl) ?_
      refine zs_iload_n 3 d_X_married_152 rfl (List.mem_of_getElem? (i := 3) rfl) ?_
      refine zs_icmp_ge 161 d_X_married_153 (by decide) (fun c4 => ?_) (fun c4 => ?_)
      · replace h := h.1 c4
        refine zs_iload_n 3 d_X_married_161 rfl (List.mem_of_getElem? (i := 3) rfl) ?_
        refine zs_istore_n2 3 [1, 2, 3, 0, 4, 5, 6] [(0, .ref 35), (1, .int x1), (2, .int x2), (3, .int x3), (4, .int x4), (5, .int x5), (6, .int x6)] d_X_married_162 rfl (by decide) rfl ?_
        refine zs_iinc2 4 (x4 + 1) [1, 2, 3, 4, 0, 5, 6] [(0, .ref 35), (1, .int x1), (2, .int x2), (3, .int x3), (4, .int (x4 + 1)), (5, .int x5), (6, .int x6)] d_X_married_163 rfl rfl (by decide) rfl ?_
        refine zs_goto 45 d_X_married_166 (by decide) ?_
        exact zRT_sub [0, 1, 2, 3, 4] rfl h
      · replace h := h.2 c4
        refine zs_iload d_X_married_156 (List.mem_of_getElem? (i := 5) rfl) ?_
        refine zs_goto 162 d_X_married_158 (by decide) ?_
        refine zs_istore_n2 3 [1, 2, 3, 0, 4, 5, 6] [(0, .ref 35), (1, .int x1), (2, .int x2), (3, .int x5), (4, .int x4), (5, .int x5), (6, .int x6)] d_X_married_162 rfl (by decide) rfl ?_
        refine zs_iinc2 4 (x4 + 1) [1, 2, 3, 4, 0, 5, 6] [(0, .ref 35), (1, .int x1), (2, .int x2), (3, .int x5), (4, .int (x4 + 1)), (5, .int x5), (6, .int x6)] d_X_married_163 rfl rfl (by decide) rfl ?_
        refine zs_goto 45 d_X_married_166 (by decide) ?_
        exact zRT_sub [0, 1, 2, 3, 4] rfl h
    · replace h := h.2 c3
      refine zs_aload_n 0 d_X_married_130 rfl (List.mem_of_getElem? (i := 0) rfl) ?_
      refine zs_get d_X_married_131 gf_X_47 (sh_35 g X) rfl ?_
      refine zs_iload d_X_married_134 (List.mem_of_getElem? (i := 6) rfl) ?_
      refine zs_aload_n 0 d_X_married_136 rfl (List.mem_of_getElem? (i := 0) rfl) ?_
      refine zs_get d_X_married_137 gf_X_16 (sh_35 g X) rfl ?_
      refine zs_iload d_X_married_140 (List.mem_of_getElem? (i := 6) rfl) ?_
      obtain ⟨b5, h⟩ := h
      refine zs_iald d_X_married_142 (sh_36 g X) b5 ?_
      refine zs_iast d_X_married_143 (sh_46 g X) b5 ?_
      refine zs_iinc2 6 (x6 + 1) [1, 2, 3, 4, 5, 6, 0] [(0, .ref 35), (1, .int x1), (2, .int x2), (3, .int x3), (4, .int x4), (5, .int x5), (6, .int (x6 + 1))] d_X_married_144 rfl rfl (by decide) rfl ?_
      refine zs_goto 117 d_X_married_147 (by decide) ?_
      exact h
theorem v_X_married_172 (g : Nat → Option Nat) (X : List zShp) (M : zMem) (x1 x2 x3 x4 : Int32) (R : zEnd) (h : ((6 ≤ x4) → (((¬ x1 = (-1)) → ((((isM x1) = false) → (R (some (.int (-6))) (SHP g X) M)) ∧ (((isM x1) = true) → ((vp_in x1 6) ∧ (R (some (.int (M 46 (Int32.toNatClampNeg x1)))) (SHP g X) M))))) ∧ ((x1 = (-1)) → (R (some (.int (x3 - x2))) (SHP g X) M)))) ∧ ((¬ 6 ≤ x4) → ((vp_in x4 6) ∧ (zRT m_X_married 0 0 172 [(0, .ref 35), (1, .int x1), (2, .int x2), (3, .int x3), (4, .int (x4 + 1))] [] (SHP g X) (zms M 36 (Int32.toNatClampNeg x4) (M 48 (Int32.toNatClampNeg x4))) R)))) : zRT m_X_married 0 0 172 [(0, .ref 35), (1, .int x1), (2, .int x2), (3, .int x3), (4, .int x4)] [] (SHP g X) M R := by
  refine zs_iload d_X_married_172 (List.mem_of_getElem? (i := 4) rfl) ?_
  refine zs_bipush 6 d_X_married_174 (by decide) ?_
  refine zs_icmp_ge 199 d_X_married_176 (by decide) (fun c1 => ?_) (fun c1 => ?_)
  · replace h := h.1 c1
    refine zs_iload_n 1 d_X_married_199 rfl (List.mem_of_getElem? (i := 1) rfl) ?_
    refine zs_iconst (-1) d_X_married_200 (by decide) ?_
    refine zs_icmp_ne 210 d_X_married_201 (by decide) (fun c2 => ?_) (fun c2 => ?_)
    · replace h := h.1 c2
      refine zs_iload_n 1 d_X_married_210 rfl (List.mem_of_getElem? (i := 1) rfl) ?_
      refine zs_callS (kc := 0) (ks := 0) (kc1 := 0) (ks1 := 0) (st := []) [.int x1] d_X_married_211 lk_X_87 ⟨by decide, by decide⟩ rfl (Nat.le_of_ble_eq_true rfl) (ex_X_isMan g X M x1) (fun v3 sh3 M3 hR => ?_)
      obtain ⟨rfl, rfl, rfl⟩ := hR
      refine zs_if_eq 226 d_X_married_214 (by decide) (fun c4 => ?_) (fun c4 => ?_)
      · replace h := h.1 (bI_0 c4)
        refine zs_bipush (-6) d_X_married_226 (by decide) ?_
        exact zs_iret d_X_married_228 rfl h
      · replace h := h.2 (bI_1 c4)
        refine zs_aload_n 0 d_X_married_217 rfl (List.mem_of_getElem? (i := 0) rfl) ?_
        refine zs_get d_X_married_218 gf_X_47 (sh_35 g X) rfl ?_
        refine zs_iload_n 1 d_X_married_221 rfl (List.mem_of_getElem? (i := 1) rfl) ?_
        obtain ⟨b5, h⟩ := h
        refine zs_iald d_X_married_222 (sh_46 g X) b5 ?_
        refine zs_goto 228 d_X_married_223 (by decide) ?_
        exact zs_iret d_X_married_228 rfl h
    · replace h := h.2 c2
      refine zs_iload_n 3 d_X_married_204 rfl (List.mem_of_getElem? (i := 3) rfl) ?_
      refine zs_iload_n 2 d_X_married_205 rfl (List.mem_of_getElem? (i := 2) rfl) ?_
      refine zs_isub d_X_married_206 ?_
      refine zs_goto 228 d_X_married_207 (by decide) ?_
      exact zs_iret d_X_married_228 rfl h
  · replace h := h.2 c1
    refine zs_aload_n 0 d_X_married_179 rfl (List.mem_of_getElem? (i := 0) rfl) ?_
    refine zs_get d_X_married_180 gf_X_16 (sh_35 g X) rfl ?_
    refine zs_iload d_X_married_183 (List.mem_of_getElem? (i := 4) rfl) ?_
    refine zs_aload_n 0 d_X_married_185 rfl (List.mem_of_getElem? (i := 0) rfl) ?_
    refine zs_get d_X_married_186 gf_X_53 (sh_35 g X) rfl ?_
    refine zs_iload d_X_married_189 (List.mem_of_getElem? (i := 4) rfl) ?_
    obtain ⟨b6, h⟩ := h
    refine zs_iald d_X_married_191 (sh_48 g X) b6 ?_
    refine zs_iast d_X_married_192 (sh_36 g X) b6 ?_
    refine zs_iinc2 4 (x4 + 1) [1, 2, 3, 4, 0] [(0, .ref 35), (1, .int x1), (2, .int x2), (3, .int x3), (4, .int (x4 + 1))] d_X_married_193 rfl rfl (by decide) rfl ?_
    refine zs_goto 172 d_X_married_196 (by decide) ?_
    exact h
theorem ex_X_married (i : Int32) (hh : mK M) : zEx m_X_married 0 0 [.ref 35, .int i] (SHP g X) M (qR g X (fun _ M2 => mAg M M2)) := by
  have kk : ∀ M1, mIw M M1 → mK M1 := fun M1 h => mK_e (h.1 35 (by decide)) (h.1 38 (by decide)) hh
  -- back to what was
  have L5 : ∀ d k M1 a b, k + d = 6 → mIw M M1 → (∀ j, j < k → M1 36 j = M 36 j) → zRT m_X_married 0 0 172 [(0, .ref 35), (1, .int i), (2, .int a), (3, .int b), (4, .int (nI k))] [] (SHP g X) M1 (qR g X (fun _ M2 => mAg M M2)) := by
    intro d
    induction d with
    | zero =>
      intro k M1 a b hk hv hp
      have ha : mAg M M1 := by
        intro p hp2
        by_cases q : p = 36
        · rw [q]
          funext j
          rcases Nat.lt_or_ge j 6 with r | r
          · exact hp j (by omega)
          · exact hv.2.1 j r
        · refine hv.1 p ?_
          simp only [List.mem_cons, List.not_mem_nil, or_false] at hp2 ⊢
          omega
      exact v_X_married_172 g X _ _ _ _ _ _ ⟨fun _ => ⟨fun _ => ⟨fun _ => qR_i ha, fun h => ⟨isM_in h, qR_i ha⟩⟩, fun _ => qR_i ha⟩, fun h => absurd (nI_le (a := 6) (by omega) (by omega)) h⟩
    | succ d ih =>
      intro k M1 a b hk hv hp
      refine v_X_married_172 g X _ _ _ _ _ _ ⟨fun h => absurd h (nI_ge (b := 6) (by omega) (by omega)), fun _ => ⟨vp_in_nI (by omega) (by decide), ?_⟩⟩
      rw [nI_1, nI_clamp (n := k) (by omega), hv.2.2 k (by omega)]
      refine ih (k + 1) _ _ _ (by omega) (hv.s6 (by omega)) (fun j hj => ?_)
      by_cases q : j = k
      · rw [q, zms_row]; exact pk_us
      · rw [zms_row, pk_un q]; exact hp j (by omega)
  have L4 : ∀ (x4 : Int32) (K : ∀ M1 a b, mIw M M1 → zRT m_X_married 0 0 45 [(0, .ref 35), (1, .int i), (2, .int a), (3, .int b), (4, .int (x4 + 1))] [] (SHP g X) M1 (qR g X (fun _ M2 => mAg M M2))), ∀ d k M1 a b c, k + d = 6 → mIw M M1 → zRT m_X_married 0 0 117 [(0, .ref 35), (1, .int i), (2, .int a), (3, .int b), (4, .int x4), (5, .int c), (6, .int (nI k))] [] (SHP g X) M1 (qR g X (fun _ M2 => mAg M M2)) := by
    intro x4 K d
    induction d with
    | zero =>
      intro k M1 a b c hk hv
      exact v_X_married_117 g X _ _ _ _ _ _ _ _ ⟨fun _ => ⟨fun _ => K _ _ _ hv, fun _ => K _ _ _ hv⟩, fun h => absurd (nI_le (a := 6) (by omega) (by omega)) h⟩
    | succ d ih =>
      intro k M1 a b c hk hv
      refine v_X_married_117 g X _ _ _ _ _ _ _ _ ⟨fun h => absurd h (nI_ge (b := 6) (by omega) (by omega)), fun _ => ?_⟩
      rw [nI_1 k]
      exact ⟨fun _ => ⟨fun _ => K _ _ _ hv, fun _ => K _ _ _ hv⟩, fun _ => ⟨vp_in_nI (by omega) (by decide), ih (k + 1) _ _ _ _ (by omega) (hv.st (by decide))⟩⟩
  have L3 : ∀ (x4 : Int32) (K : ∀ M1 a b, mIw M M1 → zRT m_X_married 0 0 45 [(0, .ref 35), (1, .int i), (2, .int a), (3, .int b), (4, .int (x4 + 1))] [] (SHP g X) M1 (qR g X (fun _ M2 => mAg M M2))), ∀ d k M1 a b, k + d = 6 → mIw M M1 → zRT m_X_married 0 0 64 [(0, .ref 35), (1, .int i), (2, .int a), (3, .int b), (4, .int x4), (5, .int (nI k))] [] (SHP g X) M1 (qR g X (fun _ M2 => mAg M M2)) := by
    intro x4 K d
    induction d with
    | zero =>
      intro k M1 a b hk hv
      refine v_X_married_64 g X _ _ _ _ _ _ _ ⟨fun _ => ⟨kk M1 hv, fun r M2 h2 => ?_⟩, fun h => absurd (nI_le (a := 6) (by omega) (by omega)) h⟩
      exact L4 x4 K 6 0 M2 _ _ _ rfl (hv.ag h2 (fun p hp => Or.inl (List.mem_singleton.mp hp)))
    | succ d ih =>
      intro k M1 a b hk hv
      refine v_X_married_64 g X _ _ _ _ _ _ _ ⟨fun h => absurd h (nI_ge (b := 6) (by omega) (by omega)), fun _ => ⟨vp_in_nI (by omega) (by decide), ?_⟩⟩
      rw [nI_1 k, nI_clamp (n := k) (by omega)]
      have i1 := fun v => ih (k + 1) (zms M1 36 k v) a b (by omega) (hv.s6 (by omega))
      exact ⟨fun _ => i1 _, fun _ => i1 _⟩
  have L2 : ∀ d k M1 a b, k + d = 117649 → mIw M M1 → zRT m_X_married 0 0 45 [(0, .ref 35), (1, .int i), (2, .int a), (3, .int b), (4, .int (nI k))] [] (SHP g X) M1 (qR g X (fun _ M2 => mAg M M2)) := by
    intro d
    induction d with
    | zero =>
      intro k M1 a b hk hv
      exact v_X_married_45 g X _ _ _ _ _ _ ⟨fun _ => L5 6 0 M1 _ _ rfl hv (fun j hj => absurd hj (by omega)), fun h => absurd (nI_le (a := 117649) (by omega) (by omega)) h⟩
    | succ d ih =>
      intro k M1 a b hk hv
      refine v_X_married_45 g X _ _ _ _ _ _ ⟨fun h => absurd h (nI_ge (b := 117649) (by omega) (by omega)), fun _ => ⟨⟨k, by omega, rfl⟩, fun r M2 h2 => ?_⟩⟩
      have i1 := fun M1 a b hv => ih (k + 1) M1 a b (by omega) hv
      have hv2 := hv.ag h2.1 (fun p hp => Or.inr (List.mem_singleton.mp hp))
      refine ⟨fun _ => by rw [nI_1]; exact i1 _ _ _ hv2, fun _ => L3 (nI k) (by rw [nI_1]; exact i1) 6 0 M2 _ _ rfl hv2⟩
  have L1 : ∀ d k M1 a b, k + d = 6 → mAg M M1 → (∀ j, j < k → M1 48 j = M 36 j) → zRT m_X_married 0 0 15 [(0, .ref 35), (1, .int i), (2, .int a), (3, .int b), (4, .int (nI k))] [] (SHP g X) M1 (qR g X (fun _ M2 => mAg M M2)) := by
    intro d
    induction d with
    | zero =>
      intro k M1 a b hk ha hp
      refine v_X_married_15 g X _ _ _ _ _ _ ⟨fun _ => L2 117649 0 M1 _ _ (by omega) ⟨fun p hp2 => ha p ?_, fun j _ => by rw [ha.e36], fun j hj => hp j (by omega)⟩, fun h => absurd (nI_le (a := 6) (by omega) (by omega)) h⟩
      simp only [List.mem_cons, List.not_mem_nil, or_false] at hp2 ⊢
      omega
    | succ d ih =>
      intro k M1 a b hk ha hp
      refine v_X_married_15 g X _ _ _ _ _ _ ⟨fun h => absurd h (nI_ge (b := 6) (by omega) (by omega)), fun _ => ⟨vp_in_nI (by omega) (by decide), ?_⟩⟩
      rw [nI_1, nI_clamp (n := k) (by omega), ha.e36]
      refine ih (k + 1) _ _ _ (by omega) (ha.st (by decide)) (fun j hj => ?_)
      by_cases q : j = k
      · rw [q, zms_row]; exact pk_us
      · rw [zms_row, pk_un q]; exact hp j (by omega)
  have h0 : mAg M (mTo M) := mAg.rf.mt
  refine zEx_of _ (by decide) (by simp [Value.category]) (Nat.le_of_ble_eq_true rfl) rfl (v_X_married_0 g X M i _ ⟨hh.1, h0.mk hh, fun r M2 h2 => ?_⟩)
  refine L1 6 0 M2 _ _ rfl (h0.tr (fun p hp => h2 p (fun q => hp ?_))) (fun j hj => absurd hj (by omega))
  rw [List.mem_singleton.mp q]; decide
theorem v_X_days_0 (g : Nat → Option Nat) (X : List zShp) (M : zMem) (x1 x2 x3 : Int32) (R : zEnd) (h : ((x3 = (-1)) → ((((inI x1 0 9999) = false) → (R (some (.int (-2))) (SHP g X) M)) ∧ (((inI x1 0 9999) = true) → ((((inI x2 1 99) = true) → ((mK M) ∧ (∀ (M6 : zMem), (mAg M M6) → (zRT m_X_days 0 0 46 [(0, .ref 35), (1, .int x1), (2, .int x2), (3, .int x3), (4, .int 0)] [] (SHP g X) M6 R)))) ∧ (((inI x2 1 99) = false) → (R (some (.int (-2))) (SHP g X) M)))))) ∧ ((¬ x3 = (-1)) → ((((inI x3 0 (M 35 6 - 1)) = true) → ((((inI x1 0 9999) = false) → (R (some (.int (-2))) (SHP g X) M)) ∧ (((inI x1 0 9999) = true) → ((((inI x2 1 99) = true) → ((mK M) ∧ (∀ (M13 : zMem), (mAg M M13) → (zRT m_X_days 0 0 46 [(0, .ref 35), (1, .int x1), (2, .int x2), (3, .int x3), (4, .int 0)] [] (SHP g X) M13 R)))) ∧ (((inI x2 1 99) = false) → (R (some (.int (-2))) (SHP g X) M)))))) ∧ (((inI x3 0 (M 35 6 - 1)) = false) → (R (some (.int (-1))) (SHP g X) M))))) : zRT m_X_days 0 0 0 [(0, .ref 35), (1, .int x1), (2, .int x2), (3, .int x3)] [] (SHP g X) M R := by
  refine zs_iload_n 3 d_X_days_0 rfl (List.mem_of_getElem? (i := 3) rfl) ?_
  refine zs_iconst (-1) d_X_days_1 (by decide) ?_
  refine zs_icmp_eq 15 d_X_days_2 (by decide) (fun c1 => ?_) (fun c1 => ?_)
  · replace h := h.1 c1
    refine zs_iload_n 1 d_X_days_15 rfl (List.mem_of_getElem? (i := 1) rfl) ?_
    refine zs_iconst 0 d_X_days_16 (by decide) ?_
    refine zs_sipush 9999 d_X_days_17 (by decide) ?_
    refine zs_callS (kc := 0) (ks := 0) (kc1 := 0) (ks1 := 0) (st := []) [.int x1, .int 0, .int 9999] d_X_days_20 lk_X_66 ⟨by decide, by decide⟩ rfl (Nat.le_of_ble_eq_true rfl) (ex_X_in g X M x1 0 9999) (fun v2 sh2 M2 hR => ?_)
    obtain ⟨rfl, rfl, rfl⟩ := hR
    refine zs_if_eq 36 d_X_days_23 (by decide) (fun c3 => ?_) (fun c3 => ?_)
    · replace h := h.1 (bI_0 c3)
      refine zs_bipush (-2) d_X_days_36 (by decide) ?_
      exact zs_iret d_X_days_38 rfl h
    · replace h := h.2 (bI_1 c3)
      refine zs_iload_n 2 d_X_days_26 rfl (List.mem_of_getElem? (i := 2) rfl) ?_
      refine zs_iconst 1 d_X_days_27 (by decide) ?_
      refine zs_bipush 99 d_X_days_28 (by decide) ?_
      refine zs_callS (kc := 0) (ks := 0) (kc1 := 0) (ks1 := 0) (st := []) [.int x2, .int 1, .int 99] d_X_days_30 lk_X_66 ⟨by decide, by decide⟩ rfl (Nat.le_of_ble_eq_true rfl) (ex_X_in g X M x2 1 99) (fun v4 sh4 M4 hR => ?_)
      obtain ⟨rfl, rfl, rfl⟩ := hR
      refine zs_if_ne 39 d_X_days_33 (by decide) (fun c5 => ?_) (fun c5 => ?_)
      · replace h := h.1 (bI_1 c5)
        refine zs_aload_n 0 d_X_days_39 rfl (List.mem_of_getElem? (i := 0) rfl) ?_
        obtain ⟨p6, h⟩ := h
        refine zs_callV (kc := 0) (ks := 0) (kc1 := 0) (ks1 := 0) (st := []) [] d_X_days_40 lk_X_147 ⟨by decide, by decide⟩ rfl (sh_35 g X) rfl (Nat.le_of_ble_eq_true rfl) (ex_X_layMays g X M p6) (fun v6 sh6 M6 hR => ?_)
        obtain ⟨rfl, rfl, hq6⟩ := hR
        replace h := h M6 hq6
        refine zs_iconst 0 d_X_days_43 (by decide) ?_
        refine zs_istore2 [1, 2, 3, 4, 0] [(0, .ref 35), (1, .int x1), (2, .int x2), (3, .int x3), (4, .int 0)] d_X_days_44 (by decide) rfl ?_
        exact h
      · replace h := h.2 (bI_0 c5)
        refine zs_bipush (-2) d_X_days_36 (by decide) ?_
        exact zs_iret d_X_days_38 rfl h
  · replace h := h.2 c1
    refine zs_aload_n 0 d_X_days_5 rfl (List.mem_of_getElem? (i := 0) rfl) ?_
    refine zs_iload_n 3 d_X_days_6 rfl (List.mem_of_getElem? (i := 3) rfl) ?_
    refine zs_callV (kc := 0) (ks := 0) (kc1 := 0) (ks1 := 0) (st := []) [.int x3] d_X_days_7 lk_X_83 ⟨by decide, by decide⟩ rfl (sh_35 g X) rfl (Nat.le_of_ble_eq_true rfl) (ex_X_isThing g X M x3) (fun v7 sh7 M7 hR => ?_)
    obtain ⟨rfl, rfl, rfl⟩ := hR
    refine zs_if_ne 15 d_X_days_10 (by decide) (fun c8 => ?_) (fun c8 => ?_)
    · replace h := h.1 (bI_1 c8)
      refine zs_iload_n 1 d_X_days_15 rfl (List.mem_of_getElem? (i := 1) rfl) ?_
      refine zs_iconst 0 d_X_days_16 (by decide) ?_
      refine zs_sipush 9999 d_X_days_17 (by decide) ?_
      refine zs_callS (kc := 0) (ks := 0) (kc1 := 0) (ks1 := 0) (st := []) [.int x1, .int 0, .int 9999] d_X_days_20 lk_X_66 ⟨by decide, by decide⟩ rfl (Nat.le_of_ble_eq_true rfl) (ex_X_in g X M x1 0 9999) (fun v9 sh9 M9 hR => ?_)
      obtain ⟨rfl, rfl, rfl⟩ := hR
      refine zs_if_eq 36 d_X_days_23 (by decide) (fun c10 => ?_) (fun c10 => ?_)
      · replace h := h.1 (bI_0 c10)
        refine zs_bipush (-2) d_X_days_36 (by decide) ?_
        exact zs_iret d_X_days_38 rfl h
      · replace h := h.2 (bI_1 c10)
        refine zs_iload_n 2 d_X_days_26 rfl (List.mem_of_getElem? (i := 2) rfl) ?_
        refine zs_iconst 1 d_X_days_27 (by decide) ?_
        refine zs_bipush 99 d_X_days_28 (by decide) ?_
        refine zs_callS (kc := 0) (ks := 0) (kc1 := 0) (ks1 := 0) (st := []) [.int x2, .int 1, .int 99] d_X_days_30 lk_X_66 ⟨by decide, by decide⟩ rfl (Nat.le_of_ble_eq_true rfl) (ex_X_in g X M x2 1 99) (fun v11 sh11 M11 hR => ?_)
        obtain ⟨rfl, rfl, rfl⟩ := hR
        refine zs_if_ne 39 d_X_days_33 (by decide) (fun c12 => ?_) (fun c12 => ?_)
        · replace h := h.1 (bI_1 c12)
          refine zs_aload_n 0 d_X_days_39 rfl (List.mem_of_getElem? (i := 0) rfl) ?_
          obtain ⟨p13, h⟩ := h
          refine zs_callV (kc := 0) (ks := 0) (kc1 := 0) (ks1 := 0) (st := []) [] d_X_days_40 lk_X_147 ⟨by decide, by decide⟩ rfl (sh_35 g X) rfl (Nat.le_of_ble_eq_true rfl) (ex_X_layMays g X M p13) (fun v13 sh13 M13 hR => ?_)
          obtain ⟨rfl, rfl, hq13⟩ := hR
          replace h := h M13 hq13
          refine zs_iconst 0 d_X_days_43 (by decide) ?_
          refine zs_istore2 [1, 2, 3, 4, 0] [(0, .ref 35), (1, .int x1), (2, .int x2), (3, .int x3), (4, .int 0)] d_X_days_44 (by decide) rfl ?_
          exact h
        · replace h := h.2 (bI_0 c12)
          refine zs_bipush (-2) d_X_days_36 (by decide) ?_
          exact zs_iret d_X_days_38 rfl h
    · replace h := h.2 (bI_0 c8)
      refine zs_iconst (-1) d_X_days_13 (by decide) ?_
      exact zs_iret d_X_days_14 rfl h
theorem v_X_days_46 (g : Nat → Option Nat) (X : List zShp) (M : zMem) (x1 x2 x3 x4 : Int32) (R : zEnd) (h : (((M 35 6) ≤ x4) → (zRT m_X_days 0 0 84 [(0, .ref 35), (2, .int x2), (3, .int x3), (4, .int x1), (5, .int 0), (6, .int 0)] [] (SHP g X) M R)) ∧ ((¬ (M 35 6) ≤ x4) → ((vp_in x4 10) ∧ (zRT m_X_days 0 0 46 [(0, .ref 35), (1, .int x1), (2, .int x2), (3, .int x3), (4, .int (x4 + 1))] [] (SHP g X) (zms M 47 (Int32.toNatClampNeg x4) (M 39 (Int32.toNatClampNeg x4))) R)))) : zRT m_X_days 0 0 46 [(0, .ref 35), (1, .int x1), (2, .int x2), (3, .int x3), (4, .int x4)] [] (SHP g X) M R := by
  refine zs_iload d_X_days_46 (List.mem_of_getElem? (i := 4) rfl) ?_
  refine zs_aload_n 0 d_X_days_48 rfl (List.mem_of_getElem? (i := 0) rfl) ?_
  refine zs_get d_X_days_49 gf_X_70 (sh_35 g X) rfl ?_
  refine zs_icmp_ge 75 d_X_days_52 (by decide) (fun c1 => ?_) (fun c1 => ?_)
  · replace h := h.1 c1
    refine zs_iload_n 1 d_X_days_75 rfl (List.mem_of_getElem? (i := 1) rfl) ?_
    refine zs_istore2 [1, 2, 3, 4, 0] [(0, .ref 35), (1, .int x1), (2, .int x2), (3, .int x3), (4, .int x1)] d_X_days_76 (by decide) rfl ?_
    refine zs_iconst 0 d_X_days_78 (by decide) ?_
    refine zs_istore2 [1, 2, 3, 4, 5, 0] [(0, .ref 35), (1, .int x1), (2, .int x2), (3, .int x3), (4, .int x1), (5, .int 0)] d_X_days_79 (by decide) rfl ?_
    refine zs_iconst 0 d_X_days_81 (by decide) ?_
    refine zs_istore2 [1, 2, 3, 4, 5, 6, 0] [(0, .ref 35), (1, .int x1), (2, .int x2), (3, .int x3), (4, .int x1), (5, .int 0), (6, .int 0)] d_X_days_82 (by decide) rfl ?_
    exact zRT_sub [0, 2, 3, 4, 5, 6] rfl h
  · replace h := h.2 c1
    refine zs_aload_n 0 d_X_days_55 rfl (List.mem_of_getElem? (i := 0) rfl) ?_
    refine zs_get d_X_days_56 gf_X_50 (sh_35 g X) rfl ?_
    refine zs_iload d_X_days_59 (List.mem_of_getElem? (i := 4) rfl) ?_
    refine zs_aload_n 0 d_X_days_61 rfl (List.mem_of_getElem? (i := 0) rfl) ?_
    refine zs_get d_X_days_62 gf_X_26 (sh_35 g X) rfl ?_
    refine zs_iload d_X_days_65 (List.mem_of_getElem? (i := 4) rfl) ?_
    obtain ⟨b2, h⟩ := h
    refine zs_iald d_X_days_67 (sh_39 g X) b2 ?_
    refine zs_iast d_X_days_68 (sh_47 g X) b2 ?_
    refine zs_iinc2 4 (x4 + 1) [1, 2, 3, 4, 0] [(0, .ref 35), (1, .int x1), (2, .int x2), (3, .int x3), (4, .int (x4 + 1))] d_X_days_69 rfl rfl (by decide) rfl ?_
    refine zs_goto 46 d_X_days_72 (by decide) ?_
    exact h
theorem v_X_days_84 (g : Nat → Option Nat) (X : List zShp) (M : zMem) (x2 x3 x4 x5 x6 : Int32) (R : zEnd) (h : ((x2 ≤ x6) → (((¬ x3 = (-1)) → ((vp_in x3 10) ∧ (R (some (.int (M 47 (Int32.toNatClampNeg x3)))) (SHP g X) M))) ∧ ((x3 = (-1)) → (R (some (.int x5)) (SHP g X) M)))) ∧ ((¬ x2 ≤ x6) → (zRT m_X_days 0 0 122 [(0, .ref 35), (2, .int x2), (3, .int x3), (4, .int ((((75 : Int32) * x4) + 74) - (((75 : Int32) * x4) + 74) / 65537 * 65537)), (5, .int x5), (6, .int x6), (7, .int (((((75 : Int32) * x4) + 74) - (((75 : Int32) * x4) + 74) / 65537 * 65537) - ((((75 : Int32) * x4) + 74) - (((75 : Int32) * x4) + 74) / 65537 * 65537) / 6 * 6)), (8, .int (-6)), (9, .int ((M 35 6) - 1))] [] (SHP g X) M R))) : zRT m_X_days 0 0 84 [(0, .ref 35), (2, .int x2), (3, .int x3), (4, .int x4), (5, .int x5), (6, .int x6)] [] (SHP g X) M R := by
  refine zs_iload d_X_days_84 (List.mem_of_getElem? (i := 5) rfl) ?_
  refine zs_iload_n 2 d_X_days_86 rfl (List.mem_of_getElem? (i := 1) rfl) ?_
  refine zs_icmp_ge 192 d_X_days_87 (by decide) (fun c1 => ?_) (fun c1 => ?_)
  · replace h := h.1 c1
    refine zs_iload_n 3 d_X_days_192 rfl (List.mem_of_getElem? (i := 2) rfl) ?_
    refine zs_iconst (-1) d_X_days_193 (by decide) ?_
    refine zs_icmp_ne 202 d_X_days_194 (by decide) (fun c2 => ?_) (fun c2 => ?_)
    · replace h := h.1 c2
      refine zs_aload_n 0 d_X_days_202 rfl (List.mem_of_getElem? (i := 0) rfl) ?_
      refine zs_get d_X_days_203 gf_X_50 (sh_35 g X) rfl ?_
      refine zs_iload_n 3 d_X_days_206 rfl (List.mem_of_getElem? (i := 2) rfl) ?_
      obtain ⟨b3, h⟩ := h
      refine zs_iald d_X_days_207 (sh_47 g X) b3 ?_
      exact zs_iret d_X_days_208 rfl h
    · replace h := h.2 c2
      refine zs_iload d_X_days_197 (List.mem_of_getElem? (i := 4) rfl) ?_
      refine zs_goto 208 d_X_days_199 (by decide) ?_
      exact zs_iret d_X_days_208 rfl h
  · replace h := h.2 c1
    refine zs_bipush 75 d_X_days_90 (by decide) ?_
    refine zs_iload d_X_days_92 (List.mem_of_getElem? (i := 3) rfl) ?_
    refine zs_imul d_X_days_94 ?_
    refine zs_bipush 74 d_X_days_95 (by decide) ?_
    refine zs_iadd d_X_days_97 ?_
    refine zs_ldc (v := 65537) d_X_days_98 (by decide +kernel) ?_
    refine zs_irem d_X_days_100 (by decide) ?_
    refine zs_istore2 [1, 2, 3, 0, 4, 5] [(0, .ref 35), (2, .int x2), (3, .int x3), (4, .int ((((75 : Int32) * x4) + 74) - (((75 : Int32) * x4) + 74) / 65537 * 65537)), (5, .int x5), (6, .int x6)] d_X_days_101 (by decide) rfl ?_
    refine zs_iload d_X_days_103 (List.mem_of_getElem? (i := 3) rfl) ?_
    refine zs_bipush 6 d_X_days_105 (by decide) ?_
    refine zs_irem d_X_days_107 (by decide) ?_
    refine zs_istore2 [1, 2, 3, 4, 5, 6, 0] [(0, .ref 35), (2, .int x2), (3, .int x3), (4, .int ((((75 : Int32) * x4) + 74) - (((75 : Int32) * x4) + 74) / 65537 * 65537)), (5, .int x5), (6, .int x6), (7, .int (((((75 : Int32) * x4) + 74) - (((75 : Int32) * x4) + 74) / 65537 * 65537) - ((((75 : Int32) * x4) + 74) - (((75 : Int32) * x4) + 74) / 65537 * 65537) / 6 * 6))] d_X_days_108 (by decide) rfl ?_
    refine zs_bipush (-6) d_X_days_110 (by decide) ?_
    refine zs_istore2 [1, 2, 3, 4, 5, 6, 7, 0] [(0, .ref 35), (2, .int x2), (3, .int x3), (4, .int ((((75 : Int32) * x4) + 74) - (((75 : Int32) * x4) + 74) / 65537 * 65537)), (5, .int x5), (6, .int x6), (7, .int (((((75 : Int32) * x4) + 74) - (((75 : Int32) * x4) + 74) / 65537 * 65537) - ((((75 : Int32) * x4) + 74) - (((75 : Int32) * x4) + 74) / 65537 * 65537) / 6 * 6)), (8, .int (-6))] d_X_days_112 (by decide) rfl ?_
    refine zs_aload_n 0 d_X_days_114 rfl (List.mem_of_getElem? (i := 0) rfl) ?_
    refine zs_get d_X_days_115 gf_X_70 (sh_35 g X) rfl ?_
    refine zs_iconst 1 d_X_days_118 (by decide) ?_
    refine zs_isub d_X_days_119 ?_
    refine zs_istore2 [1, 2, 3, 4, 5, 6, 7, 8, 0] [(0, .ref 35), (2, .int x2), (3, .int x3), (4, .int ((((75 : Int32) * x4) + 74) - (((75 : Int32) * x4) + 74) / 65537 * 65537)), (5, .int x5), (6, .int x6), (7, .int (((((75 : Int32) * x4) + 74) - (((75 : Int32) * x4) + 74) / 65537 * 65537) - ((((75 : Int32) * x4) + 74) - (((75 : Int32) * x4) + 74) / 65537 * 65537) / 6 * 6)), (8, .int (-6)), (9, .int ((M 35 6) - 1))] d_X_days_120 (by decide) rfl ?_
    exact h
theorem v_X_days_122 (g : Nat → Option Nat) (X : List zShp) (M : zMem) (x2 x3 x4 x5 x6 x7 x8 x9 : Int32) (R : zEnd) (h : ((x9 < 0) → (((x8 < 0) → (zRT m_X_days 0 0 84 [(0, .ref 35), (2, .int x2), (3, .int x3), (4, .int x4), (5, .int x5), (6, .int (x6 + 1))] [] (SHP g X) M R)) ∧ ((¬ x8 < 0) → ((vp_in x8 10) ∧ (zRT m_X_days 0 0 84 [(0, .ref 35), (2, .int x2), (3, .int x3), (4, .int x4), (5, .int (x5 + 1)), (6, .int (x6 + 1))] [] (SHP g X) (zms M 47 (Int32.toNatClampNeg x8) ((M 47 (Int32.toNatClampNeg x8)) - 1)) R))))) ∧ ((¬ x9 < 0) → ((vp_in x7 6) ∧ ((((hb (M 44 (Int32.toNatClampNeg x7)) x9) = false) → (zRT m_X_days 0 0 122 [(0, .ref 35), (2, .int x2), (3, .int x3), (4, .int x4), (5, .int x5), (6, .int x6), (7, .int x7), (8, .int x8), (9, .int (x9 + (-1)))] [] (SHP g X) M R)) ∧ (((hb (M 44 (Int32.toNatClampNeg x7)) x9) = true) → ((vp_in x9 10) ∧ ((((M 47 (Int32.toNatClampNeg x9)) ≤ 0) → (zRT m_X_days 0 0 122 [(0, .ref 35), (2, .int x2), (3, .int x3), (4, .int x4), (5, .int x5), (6, .int x6), (7, .int x7), (8, .int x8), (9, .int (x9 + (-1)))] [] (SHP g X) M R)) ∧ ((¬ (M 47 (Int32.toNatClampNeg x9)) ≤ 0) → (zRT m_X_days 0 0 122 [(0, .ref 35), (2, .int x2), (3, .int x3), (4, .int x4), (5, .int x5), (6, .int x6), (7, .int x7), (8, .int x9), (9, .int (x9 + (-1)))] [] (SHP g X) M R))))))))) : zRT m_X_days 0 0 122 [(0, .ref 35), (2, .int x2), (3, .int x3), (4, .int x4), (5, .int x5), (6, .int x6), (7, .int x7), (8, .int x8), (9, .int x9)] [] (SHP g X) M R := by
  refine zs_iload d_X_days_122 (List.mem_of_getElem? (i := 8) rfl) ?_
  refine zs_if_lt 167 d_X_days_124 (by decide) (fun c1 => ?_) (fun c1 => ?_)
  · replace h := h.1 c1
    refine zs_iload d_X_days_167 (List.mem_of_getElem? (i := 7) rfl) ?_
    refine zs_if_lt 186 d_X_days_169 (by decide) (fun c2 => ?_) (fun c2 => ?_)
    · replace h := h.1 c2
      refine zs_iinc2 5 (x6 + 1) [1, 2, 3, 4, 5, 0, 6, 7, 8] [(0, .ref 35), (2, .int x2), (3, .int x3), (4, .int x4), (5, .int x5), (6, .int (x6 + 1)), (7, .int x7), (8, .int x8), (9, .int x9)] d_X_days_186 rfl rfl (by decide) rfl ?_
      refine zs_goto 84 d_X_days_189 (by decide) ?_
      exact zRT_sub [0, 1, 2, 3, 4, 5] rfl h
    · replace h := h.2 c2
      refine zs_aload_n 0 d_X_days_172 rfl (List.mem_of_getElem? (i := 0) rfl) ?_
      refine zs_get d_X_days_173 gf_X_50 (sh_35 g X) rfl ?_
      refine zs_iload d_X_days_176 (List.mem_of_getElem? (i := 7) rfl) ?_
      refine zs_dup2 d_X_days_178 rfl rfl ?_
      obtain ⟨b3, h⟩ := h
      refine zs_iald d_X_days_179 (sh_47 g X) b3 ?_
      refine zs_iconst 1 d_X_days_180 (by decide) ?_
      refine zs_isub d_X_days_181 ?_
      refine zs_iast d_X_days_182 (sh_47 g X) b3 ?_
      refine zs_iinc2 4 (x5 + 1) [1, 2, 3, 4, 0, 5, 6, 7, 8] [(0, .ref 35), (2, .int x2), (3, .int x3), (4, .int x4), (5, .int (x5 + 1)), (6, .int x6), (7, .int x7), (8, .int x8), (9, .int x9)] d_X_days_183 rfl rfl (by decide) rfl ?_
      refine zs_iinc2 5 (x6 + 1) [1, 2, 3, 4, 5, 0, 6, 7, 8] [(0, .ref 35), (2, .int x2), (3, .int x3), (4, .int x4), (5, .int (x5 + 1)), (6, .int (x6 + 1)), (7, .int x7), (8, .int x8), (9, .int x9)] d_X_days_186 rfl rfl (by decide) rfl ?_
      refine zs_goto 84 d_X_days_189 (by decide) ?_
      exact zRT_sub [0, 1, 2, 3, 4, 5] rfl h
  · replace h := h.2 c1
    refine zs_aload_n 0 d_X_days_127 rfl (List.mem_of_getElem? (i := 0) rfl) ?_
    refine zs_get d_X_days_128 gf_X_41 (sh_35 g X) rfl ?_
    refine zs_iload d_X_days_131 (List.mem_of_getElem? (i := 6) rfl) ?_
    obtain ⟨b4, h⟩ := h
    refine zs_iald d_X_days_133 (sh_44 g X) b4 ?_
    refine zs_iload d_X_days_134 (List.mem_of_getElem? (i := 8) rfl) ?_
    refine zs_callS (kc := 0) (ks := 0) (kc1 := 0) (ks1 := 0) (st := []) [.int (M 44 (Int32.toNatClampNeg x7)), .int x9] d_X_days_136 lk_X_98 ⟨by decide, by decide⟩ rfl (Nat.le_of_ble_eq_true rfl) (ex_X_has g X M (M 44 (Int32.toNatClampNeg x7)) x9) (fun v5 sh5 M5 hR => ?_)
    obtain ⟨rfl, rfl, rfl⟩ := hR
    refine zs_if_eq 157 d_X_days_139 (by decide) (fun c6 => ?_) (fun c6 => ?_)
    · replace h := h.1 (bI_0 c6)
      refine zs_iload d_X_days_157 (List.mem_of_getElem? (i := 7) rfl) ?_
      refine zs_istore2 [1, 2, 3, 4, 5, 6, 7, 0, 8] [(0, .ref 35), (2, .int x2), (3, .int x3), (4, .int x4), (5, .int x5), (6, .int x6), (7, .int x7), (8, .int x8), (9, .int x9)] d_X_days_159 (by decide) rfl ?_
      refine zs_iinc2 8 (x9 + (-1)) [1, 2, 3, 4, 5, 6, 7, 8, 0] [(0, .ref 35), (2, .int x2), (3, .int x3), (4, .int x4), (5, .int x5), (6, .int x6), (7, .int x7), (8, .int x8), (9, .int (x9 + (-1)))] d_X_days_161 rfl rfl (by decide) rfl ?_
      refine zs_goto 122 d_X_days_164 (by decide) ?_
      exact h
    · replace h := h.2 (bI_1 c6)
      refine zs_aload_n 0 d_X_days_142 rfl (List.mem_of_getElem? (i := 0) rfl) ?_
      refine zs_get d_X_days_143 gf_X_50 (sh_35 g X) rfl ?_
      refine zs_iload d_X_days_146 (List.mem_of_getElem? (i := 8) rfl) ?_
      obtain ⟨b7, h⟩ := h
      refine zs_iald d_X_days_148 (sh_47 g X) b7 ?_
      refine zs_if_le 157 d_X_days_149 (by decide) (fun c8 => ?_) (fun c8 => ?_)
      · replace h := h.1 c8
        refine zs_iload d_X_days_157 (List.mem_of_getElem? (i := 7) rfl) ?_
        refine zs_istore2 [1, 2, 3, 4, 5, 6, 7, 0, 8] [(0, .ref 35), (2, .int x2), (3, .int x3), (4, .int x4), (5, .int x5), (6, .int x6), (7, .int x7), (8, .int x8), (9, .int x9)] d_X_days_159 (by decide) rfl ?_
        refine zs_iinc2 8 (x9 + (-1)) [1, 2, 3, 4, 5, 6, 7, 8, 0] [(0, .ref 35), (2, .int x2), (3, .int x3), (4, .int x4), (5, .int x5), (6, .int x6), (7, .int x7), (8, .int x8), (9, .int (x9 + (-1)))] d_X_days_161 rfl rfl (by decide) rfl ?_
        refine zs_goto 122 d_X_days_164 (by decide) ?_
        exact h
      · replace h := h.2 c8
        refine zs_iload d_X_days_152 (List.mem_of_getElem? (i := 8) rfl) ?_
        refine zs_goto 159 d_X_days_154 (by decide) ?_
        refine zs_istore2 [1, 2, 3, 4, 5, 6, 7, 0, 8] [(0, .ref 35), (2, .int x2), (3, .int x3), (4, .int x4), (5, .int x5), (6, .int x6), (7, .int x7), (8, .int x9), (9, .int x9)] d_X_days_159 (by decide) rfl ?_
        refine zs_iinc2 8 (x9 + (-1)) [1, 2, 3, 4, 5, 6, 7, 8, 0] [(0, .ref 35), (2, .int x2), (3, .int x3), (4, .int x4), (5, .int x5), (6, .int x6), (7, .int x7), (8, .int x9), (9, .int (x9 + (-1)))] d_X_days_161 rfl rfl (by decide) rfl ?_
        refine zs_goto 122 d_X_days_164 (by decide) ?_
        exact h
theorem ex_X_days (s n t : Int32) (hh : mK M) : zEx m_X_days 0 0 [.ref 35, .int s, .int n, .int t] (SHP g X) M (qR g X (fun _ M2 => mAg M M2)) := by
  obtain ⟨hc, h10⟩ := mCnt_e hh.1
  have I : (t = -1 ∨ mTh M t) → inI s 0 9999 = true → inI n 1 99 = true → ∀ M1, mAg M M1 → zRT m_X_days 0 0 46 [(0, .ref 35), (1, .int s), (2, .int n), (3, .int t), (4, .int 0)] [] (SHP g X) M1 (qR g X (fun _ M2 => mAg M M2)) := by
    intro ht hs hn M1 h1
    have hs2 : ∃ a : Nat, a ≤ 9999 ∧ s = nI a := by
      simp only [inI, Bool.and_eq_true, Bool.not_eq_true', decide_eq_false_iff_not] at hs
      exact nI_of2 (M := 9999) rfl hs.1 (Int32.not_lt.mp hs.2)
    have hn2 : ∃ a : Nat, a ≤ 99 ∧ n = nI a := by
      simp only [inI, Bool.and_eq_true, Bool.not_eq_true', decide_eq_false_iff_not] at hn
      refine nI_of2 (M := 99) rfl ?_ (Int32.not_lt.mp hn.2)
      have q := hn.1
      intro q2
      exact q (Int32.lt_trans q2 (by decide))
    obtain ⟨sn, hsn, es⟩ := hs2
    obtain ⟨nn, hnn, en⟩ := hn2
    -- the search in a day
    have L3 : ∀ (x6 : Int32) (K : ∀ M2 a x4, mAg M M2 → (∃ b : Nat, b < 65537 ∧ x4 = nI b) → zRT m_X_days 0 0 84 [(0, .ref 35), (2, .int n), (3, .int t), (4, .int x4), (5, .int a), (6, .int (x6 + 1))] [] (SHP g X) M2 (qR g X (fun _ M2 => mAg M M2))), ∀ d M2 a x4 x7 x8, d ≤ 10 → mAg M M2 → (∃ b : Nat, b < 65537 ∧ x4 = nI b) → vp_in x7 6 → (x8 < 0 ∨ vp_in x8 10) → zRT m_X_days 0 0 122 [(0, .ref 35), (2, .int n), (3, .int t), (4, .int x4), (5, .int a), (6, .int x6), (7, .int x7), (8, .int x8), (9, .int (nI d + (-1)))] [] (SHP g X) M2 (qR g X (fun _ M2 => mAg M M2)) := by
      intro x6 K d
      induction d with
      | zero =>
        intro M2 a x4 x7 x8 _ ha hx4 hx7 hx8
        exact v_X_days_122 g X _ _ _ _ _ _ _ _ _ _ ⟨fun _ => ⟨fun _ => K _ _ _ ha hx4, fun h => ⟨hx8.resolve_left h, K _ _ _ (ha.st (by decide)) hx4⟩⟩, fun h => absurd (by decide) h⟩
      | succ d ih =>
        intro M2 a x4 x7 x8 hd ha hx4 hx7 hx8
        rw [pk_m1]
        have d10 : vp_in (nI d) 10 := vp_in_nI (by omega) (by decide)
        have i1 := fun x8 h => ih M2 a x4 x7 x8 (by omega) ha hx4 hx7 h
        exact v_X_days_122 g X _ _ _ _ _ _ _ _ _ _ ⟨fun h => absurd h (nI_pos (by omega)), fun _ => ⟨hx7, fun _ => i1 _ hx8, fun _ => ⟨d10, fun _ => i1 _ hx8, fun _ => i1 _ (Or.inr d10)⟩⟩⟩
    have L2 : ∀ d k M2 a x4, k + d = nn → mAg M M2 → (∃ b : Nat, b < 65537 ∧ x4 = nI b) → zRT m_X_days 0 0 84 [(0, .ref 35), (2, .int n), (3, .int t), (4, .int x4), (5, .int a), (6, .int (nI k))] [] (SHP g X) M2 (qR g X (fun _ M2 => mAg M M2)) := by
      intro d
      induction d with
      | zero =>
        intro k M2 a x4 hk ha hx4
        refine v_X_days_84 g X _ _ _ _ _ _ _ ⟨fun _ => ⟨fun h => ⟨?_, qR_i ha⟩, fun _ => qR_i ha⟩, fun h => absurd (by rw [en]; exact nI_le (by omega) (by omega)) h⟩
        rcases ht with q | ⟨f, hf, q⟩
        · exact absurd q h
        · rw [q]; exact vp_in_nI (by omega) (by decide)
      | succ d ih =>
        intro k M2 a x4 hk ha hx4
        refine v_X_days_84 g X _ _ _ _ _ _ _ ⟨fun h => absurd h (by rw [en]; exact nI_ge (by omega) (by omega)), fun _ => ?_⟩
        obtain ⟨b, hb, e4⟩ := hx4
        have e1 : (75 : Int32) * x4 + 74 = nI (75 * b + 74) := by
          rw [e4, show (75 : Int32) = nI 75 from rfl, show (74 : Int32) = nI 74 from rfl, pk_mul, nI_add]
        rw [e1, show (65537 : Int32) = nI 65537 from rfl, pk_rem (by omega) (by omega) (by omega)]
        have hr : (75 * b + 74) % 65537 < 65537 := Nat.mod_lt _ (by omega)
        rw [show (6 : Int32) = nI 6 from rfl, pk_rem (by omega) (by omega) (by omega), ha.e35, hc]
        have h3 := L3 (nI k) (fun M3 a x4 h3 h4 => by rw [nI_1]; exact ih (k + 1) M3 a x4 (by omega) h3 h4) (mTN M) M2 a (nI ((75 * b + 74) % 65537)) (nI ((75 * b + 74) % 65537 % 6)) (-6) h10 ha ⟨_, hr, rfl⟩ (vp_in_nI (Nat.mod_lt _ (by omega)) (by decide)) (Or.inl (by decide))
        rw [show nI (mTN M) + (-1) = nI (mTN M) - 1 from by rw [Int32.sub_eq_add_neg]] at h3
        exact h3
    have L1 : ∀ d k M2, k + d = mTN M → mAg M M2 → zRT m_X_days 0 0 46 [(0, .ref 35), (1, .int s), (2, .int n), (3, .int t), (4, .int (nI k))] [] (SHP g X) M2 (qR g X (fun _ M2 => mAg M M2)) := by
      intro d
      induction d with
      | zero =>
        intro k M2 hk ha
        exact v_X_days_46 g X _ _ _ _ _ _ ⟨fun _ => L2 nn 0 M2 _ _ (by omega) ha ⟨sn, by omega, es⟩, fun h => absurd (by rw [ha.e35, hc]; exact nI_le (by omega) (by omega)) h⟩
      | succ d ih =>
        intro k M2 hk ha
        refine v_X_days_46 g X _ _ _ _ _ _ ⟨fun h => absurd h (by rw [ha.e35, hc]; exact nI_ge (by omega) (by omega)), fun _ => ⟨vp_in_nI (by omega) (by decide), ?_⟩⟩
        rw [nI_1]
        exact ih (k + 1) _ (by omega) (ha.st (by decide))
    exact L1 (mTN M) 0 M1 (by omega) h1
  exact zEx_of _ (by decide) (by simp [Value.category]) (Nat.le_of_ble_eq_true rfl) rfl (v_X_days_0 g X M s n t _ ⟨fun ht => ⟨fun _ => qR_i mAg.rf, fun hs => ⟨fun hn => ⟨hh, fun M1 h1 => I (Or.inl ht) hs hn M1 h1⟩, fun _ => qR_i mAg.rf⟩⟩, fun _ => ⟨fun ht => ⟨fun _ => qR_i mAg.rf, fun hs => ⟨fun hn => ⟨hh, fun M1 h1 => I (Or.inr (hh.th ht)) hs hn M1 h1⟩, fun _ => qR_i mAg.rf⟩⟩, fun _ => qR_i mAg.rf⟩⟩)
end zX7
