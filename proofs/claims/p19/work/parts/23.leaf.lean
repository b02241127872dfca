theorem v_O_has_0 (g : Nat → Option Nat) (X : List zShp) (M : zMem) (x0 x1 : Int32) (R : zEnd) (h : ((((x0 >>> (x1 &&& 31)) &&& 1) = 0) → (R (some (.int 0)) (SHP g X) M)) ∧ ((¬ ((x0 >>> (x1 &&& 31)) &&& 1) = 0) → (R (some (.int 1)) (SHP g X) M))) : zRT m_O_has 0 0 0 [(0, .int x0), (1, .int x1)] [] (SHP g X) M R := by
  refine zs_iload_n 0 d_O_has_0 rfl (List.mem_of_getElem? (i := 0) rfl) ?_
  refine zs_iload_n 1 d_O_has_1 rfl (List.mem_of_getElem? (i := 1) rfl) ?_
  refine zs_ishr d_O_has_2 ?_
  refine zs_iconst 1 d_O_has_3 (by decide) ?_
  refine zs_iand d_O_has_4 ?_
  refine zs_if_eq 12 d_O_has_5 (by decide) (fun c1 => ?_) (fun c1 => ?_)
  · replace h := h.1 c1
    refine zs_iconst 0 d_O_has_12 (by decide) ?_
    exact zs_zret (by decide) d_O_has_13 rfl h
  · replace h := h.2 c1
    refine zs_iconst 1 d_O_has_8 (by decide) ?_
    refine zs_goto 13 d_O_has_9 (by decide) ?_
    exact zs_zret (by decide) d_O_has_13 rfl h
theorem v_O_isMan_0 (g : Nat → Option Nat) (X : List zShp) (M : zMem) (x0 : Int32) (R : zEnd) (h : ((x0 < 0) → (R (some (.int 0)) (SHP g X) M)) ∧ ((¬ x0 < 0) → (((6 ≤ x0) → (R (some (.int 0)) (SHP g X) M)) ∧ ((¬ 6 ≤ x0) → (R (some (.int 1)) (SHP g X) M))))) : zRT m_O_isMan 0 0 0 [(0, .int x0)] [] (SHP g X) M R := by
  refine zs_iload_n 0 d_O_isMan_0 rfl (List.mem_of_getElem? (i := 0) rfl) ?_
  refine zs_if_lt 14 d_O_isMan_1 (by decide) (fun c1 => ?_) (fun c1 => ?_)
  · replace h := h.1 c1
    refine zs_iconst 0 d_O_isMan_14 (by decide) ?_
    exact zs_zret (by decide) d_O_isMan_15 rfl h
  · replace h := h.2 c1
    refine zs_iload_n 0 d_O_isMan_4 rfl (List.mem_of_getElem? (i := 0) rfl) ?_
    refine zs_bipush 6 d_O_isMan_5 (by decide) ?_
    refine zs_icmp_ge 14 d_O_isMan_7 (by decide) (fun c2 => ?_) (fun c2 => ?_)
    · replace h := h.1 c2
      refine zs_iconst 0 d_O_isMan_14 (by decide) ?_
      exact zs_zret (by decide) d_O_isMan_15 rfl h
    · replace h := h.2 c2
      refine zs_iconst 1 d_O_isMan_10 (by decide) ?_
      refine zs_goto 15 d_O_isMan_11 (by decide) ?_
      exact zs_zret (by decide) d_O_isMan_15 rfl h
theorem v_X_in_0 (g : Nat → Option Nat) (X : List zShp) (M : zMem) (x0 x1 x2 : Int32) (R : zEnd) (h : ((x0 < x1) → (R (some (.int 0)) (SHP g X) M)) ∧ ((¬ x0 < x1) → (((x2 < x0) → (R (some (.int 0)) (SHP g X) M)) ∧ ((¬ x2 < x0) → (R (some (.int 1)) (SHP g X) M))))) : zRT m_X_in 0 0 0 [(0, .int x0), (1, .int x1), (2, .int x2)] [] (SHP g X) M R := by
  refine zs_iload_n 0 d_X_in_0 rfl (List.mem_of_getElem? (i := 0) rfl) ?_
  refine zs_iload_n 1 d_X_in_1 rfl (List.mem_of_getElem? (i := 1) rfl) ?_
  refine zs_icmp_lt 14 d_X_in_2 (by decide) (fun c1 => ?_) (fun c1 => ?_)
  · replace h := h.1 c1
    refine zs_iconst 0 d_X_in_14 (by decide) ?_
    exact zs_zret (by decide) d_X_in_15 rfl h
  · replace h := h.2 c1
    refine zs_iload_n 0 d_X_in_5 rfl (List.mem_of_getElem? (i := 0) rfl) ?_
    refine zs_iload_n 2 d_X_in_6 rfl (List.mem_of_getElem? (i := 2) rfl) ?_
    refine zs_icmp_gt 14 d_X_in_7 (by decide) (fun c2 => ?_) (fun c2 => ?_)
    · replace h := h.1 c2
      refine zs_iconst 0 d_X_in_14 (by decide) ?_
      exact zs_zret (by decide) d_X_in_15 rfl h
    · replace h := h.2 c2
      refine zs_iconst 1 d_X_in_10 (by decide) ?_
      refine zs_goto 15 d_X_in_11 (by decide) ?_
      exact zs_zret (by decide) d_X_in_15 rfl h
theorem v_X_has_0 (g : Nat → Option Nat) (X : List zShp) (M : zMem) (x0 x1 : Int32) (R : zEnd) (h : ((¬ ((x0 >>> (x1 &&& 31)) &&& 1) = 1) → (R (some (.int 0)) (SHP g X) M)) ∧ ((((x0 >>> (x1 &&& 31)) &&& 1) = 1) → (R (some (.int 1)) (SHP g X) M))) : zRT m_X_has 0 0 0 [(0, .int x0), (1, .int x1)] [] (SHP g X) M R := by
  refine zs_iload_n 0 d_X_has_0 rfl (List.mem_of_getElem? (i := 0) rfl) ?_
  refine zs_iload_n 1 d_X_has_1 rfl (List.mem_of_getElem? (i := 1) rfl) ?_
  refine zs_ishr d_X_has_2 ?_
  refine zs_iconst 1 d_X_has_3 (by decide) ?_
  refine zs_iand d_X_has_4 ?_
  refine zs_iconst 1 d_X_has_5 (by decide) ?_
  refine zs_icmp_ne 13 d_X_has_6 (by decide) (fun c1 => ?_) (fun c1 => ?_)
  · replace h := h.1 c1
    refine zs_iconst 0 d_X_has_13 (by decide) ?_
    exact zs_zret (by decide) d_X_has_14 rfl h
  · replace h := h.2 c1
    refine zs_iconst 1 d_X_has_9 (by decide) ?_
    refine zs_goto 14 d_X_has_10 (by decide) ?_
    exact zs_zret (by decide) d_X_has_14 rfl h
theorem v_Pages_bitOf_0 (g : Nat → Option Nat) (X : List zShp) (M : zMem) (x0 : Int32) (R : zEnd) (h : ((¬ x0 = (-6)) → (R (some (.int ((1 : Int32) <<< (x0 &&& 31)))) (SHP g X) M)) ∧ ((x0 = (-6)) → (R (some (.int 0)) (SHP g X) M))) : zRT m_Pages_bitOf 0 0 0 [(0, .int x0)] [] (SHP g X) M R := by
  refine zs_iload_n 0 d_Pages_bitOf_0 rfl (List.mem_of_getElem? (i := 0) rfl) ?_
  refine zs_bipush (-6) d_Pages_bitOf_1 (by decide) ?_
  refine zs_icmp_ne 10 d_Pages_bitOf_3 (by decide) (fun c1 => ?_) (fun c1 => ?_)
  · replace h := h.1 c1
    refine zs_iconst 1 d_Pages_bitOf_10 (by decide) ?_
    refine zs_iload_n 0 d_Pages_bitOf_11 rfl (List.mem_of_getElem? (i := 0) rfl) ?_
    refine zs_ishl d_Pages_bitOf_12 ?_
    exact zs_iret d_Pages_bitOf_13 rfl h
  · replace h := h.2 c1
    refine zs_iconst 0 d_Pages_bitOf_6 (by decide) ?_
    refine zs_goto 13 d_Pages_bitOf_7 (by decide) ?_
    exact zs_iret d_Pages_bitOf_13 rfl h
theorem v_Shares_isAhead_0 (g : Nat → Option Nat) (X : List zShp) (M : zMem) (x0 x1 : Int32) (R : zEnd) (h : ((x0 < 0) → (R (some (.int 0)) (SHP g X) M)) ∧ ((¬ x0 < 0) → (((x1 ≤ x0) → (R (some (.int 0)) (SHP g X) M)) ∧ ((¬ x1 ≤ x0) → (R (some (.int 1)) (SHP g X) M))))) : zRT m_Shares_isAhead 0 0 0 [(0, .int x0), (1, .int x1)] [] (SHP g X) M R := by
  refine zs_iload_n 0 d_Shares_isAhead_0 rfl (List.mem_of_getElem? (i := 0) rfl) ?_
  refine zs_if_lt 13 d_Shares_isAhead_1 (by decide) (fun c1 => ?_) (fun c1 => ?_)
  · replace h := h.1 c1
    refine zs_iconst 0 d_Shares_isAhead_13 (by decide) ?_
    exact zs_zret (by decide) d_Shares_isAhead_14 rfl h
  · replace h := h.2 c1
    refine zs_iload_n 0 d_Shares_isAhead_4 rfl (List.mem_of_getElem? (i := 0) rfl) ?_
    refine zs_iload_n 1 d_Shares_isAhead_5 rfl (List.mem_of_getElem? (i := 1) rfl) ?_
    refine zs_icmp_ge 13 d_Shares_isAhead_6 (by decide) (fun c2 => ?_) (fun c2 => ?_)
    · replace h := h.1 c2
      refine zs_iconst 0 d_Shares_isAhead_13 (by decide) ?_
      exact zs_zret (by decide) d_Shares_isAhead_14 rfl h
    · replace h := h.2 c2
      refine zs_iconst 1 d_Shares_isAhead_9 (by decide) ?_
      refine zs_goto 14 d_Shares_isAhead_10 (by decide) ?_
      exact zs_zret (by decide) d_Shares_isAhead_14 rfl h
theorem v_JI_bitCount_0 (g : Nat → Option Nat) (X : List zShp) (M : zMem) (x0 : Int32) (R : zEnd) (h : zRT m_JI_bitCount 0 0 10 [(0, .int (x0 - (((Int32.toUInt32 x0 >>> (Int32.toUInt32 1 &&& Int32.toUInt32 31)).toInt32) &&& 1431655765)))] [] (SHP g X) M R) : zRT m_JI_bitCount 0 0 0 [(0, .int x0)] [] (SHP g X) M R := by
  refine zs_iload_n 0 d_JI_bitCount_0 rfl (List.mem_of_getElem? (i := 0) rfl) ?_
  refine zs_iload_n 0 d_JI_bitCount_1 rfl (List.mem_of_getElem? (i := 0) rfl) ?_
  refine zs_iconst 1 d_JI_bitCount_2 (by decide) ?_
  refine zs_iushr d_JI_bitCount_3 ?_
  refine zs_ldcw (v := 1431655765) d_JI_bitCount_4 (by decide +kernel) ?_
  refine zs_iand d_JI_bitCount_7 ?_
  refine zs_isub d_JI_bitCount_8 ?_
  refine zs_istore_n2 0 [0] [(0, .int (x0 - (((Int32.toUInt32 x0 >>> (Int32.toUInt32 1 &&& Int32.toUInt32 31)).toInt32) &&& 1431655765)))] d_JI_bitCount_9 rfl (by decide) rfl ?_
  exact h
theorem v_JI_bitCount_10 (g : Nat → Option Nat) (X : List zShp) (M : zMem) (x0 : Int32) (R : zEnd) (h : zRT m_JI_bitCount 0 0 24 [(0, .int ((x0 &&& 858993459) + (((Int32.toUInt32 x0 >>> (Int32.toUInt32 2 &&& Int32.toUInt32 31)).toInt32) &&& 858993459)))] [] (SHP g X) M R) : zRT m_JI_bitCount 0 0 10 [(0, .int x0)] [] (SHP g X) M R := by
  refine zs_iload_n 0 d_JI_bitCount_10 rfl (List.mem_of_getElem? (i := 0) rfl) ?_
  refine zs_ldcw (v := 858993459) d_JI_bitCount_11 (by decide +kernel) ?_
  refine zs_iand d_JI_bitCount_14 ?_
  refine zs_iload_n 0 d_JI_bitCount_15 rfl (List.mem_of_getElem? (i := 0) rfl) ?_
  refine zs_iconst 2 d_JI_bitCount_16 (by decide) ?_
  refine zs_iushr d_JI_bitCount_17 ?_
  refine zs_ldcw (v := 858993459) d_JI_bitCount_18 (by decide +kernel) ?_
  refine zs_iand d_JI_bitCount_21 ?_
  refine zs_iadd d_JI_bitCount_22 ?_
  refine zs_istore_n2 0 [0] [(0, .int ((x0 &&& 858993459) + (((Int32.toUInt32 x0 >>> (Int32.toUInt32 2 &&& Int32.toUInt32 31)).toInt32) &&& 858993459)))] d_JI_bitCount_23 rfl (by decide) rfl ?_
  exact h
theorem v_JI_bitCount_24 (g : Nat → Option Nat) (X : List zShp) (M : zMem) (x0 : Int32) (R : zEnd) (h : zRT m_JI_bitCount 0 0 34 [(0, .int ((x0 + ((Int32.toUInt32 x0 >>> (Int32.toUInt32 4 &&& Int32.toUInt32 31)).toInt32)) &&& 252645135))] [] (SHP g X) M R) : zRT m_JI_bitCount 0 0 24 [(0, .int x0)] [] (SHP g X) M R := by
  refine zs_iload_n 0 d_JI_bitCount_24 rfl (List.mem_of_getElem? (i := 0) rfl) ?_
  refine zs_iload_n 0 d_JI_bitCount_25 rfl (List.mem_of_getElem? (i := 0) rfl) ?_
  refine zs_iconst 4 d_JI_bitCount_26 (by decide) ?_
  refine zs_iushr d_JI_bitCount_27 ?_
  refine zs_iadd d_JI_bitCount_28 ?_
  refine zs_ldcw (v := 252645135) d_JI_bitCount_29 (by decide +kernel) ?_
  refine zs_iand d_JI_bitCount_32 ?_
  refine zs_istore_n2 0 [0] [(0, .int ((x0 + ((Int32.toUInt32 x0 >>> (Int32.toUInt32 4 &&& Int32.toUInt32 31)).toInt32)) &&& 252645135))] d_JI_bitCount_33 rfl (by decide) rfl ?_
  exact h
theorem v_JI_bitCount_34 (g : Nat → Option Nat) (X : List zShp) (M : zMem) (x0 : Int32) (R : zEnd) (h : zRT m_JI_bitCount 0 0 41 [(0, .int (x0 + ((Int32.toUInt32 x0 >>> (Int32.toUInt32 8 &&& Int32.toUInt32 31)).toInt32)))] [] (SHP g X) M R) : zRT m_JI_bitCount 0 0 34 [(0, .int x0)] [] (SHP g X) M R := by
  refine zs_iload_n 0 d_JI_bitCount_34 rfl (List.mem_of_getElem? (i := 0) rfl) ?_
  refine zs_iload_n 0 d_JI_bitCount_35 rfl (List.mem_of_getElem? (i := 0) rfl) ?_
  refine zs_bipush 8 d_JI_bitCount_36 (by decide) ?_
  refine zs_iushr d_JI_bitCount_38 ?_
  refine zs_iadd d_JI_bitCount_39 ?_
  refine zs_istore_n2 0 [0] [(0, .int (x0 + ((Int32.toUInt32 x0 >>> (Int32.toUInt32 8 &&& Int32.toUInt32 31)).toInt32)))] d_JI_bitCount_40 rfl (by decide) rfl ?_
  exact h
theorem v_JI_bitCount_41 (g : Nat → Option Nat) (X : List zShp) (M : zMem) (x0 : Int32) (R : zEnd) (h : zRT m_JI_bitCount 0 0 48 [(0, .int (x0 + ((Int32.toUInt32 x0 >>> (Int32.toUInt32 16 &&& Int32.toUInt32 31)).toInt32)))] [] (SHP g X) M R) : zRT m_JI_bitCount 0 0 41 [(0, .int x0)] [] (SHP g X) M R := by
  refine zs_iload_n 0 d_JI_bitCount_41 rfl (List.mem_of_getElem? (i := 0) rfl) ?_
  refine zs_iload_n 0 d_JI_bitCount_42 rfl (List.mem_of_getElem? (i := 0) rfl) ?_
  refine zs_bipush 16 d_JI_bitCount_43 (by decide) ?_
  refine zs_iushr d_JI_bitCount_45 ?_
  refine zs_iadd d_JI_bitCount_46 ?_
  refine zs_istore_n2 0 [0] [(0, .int (x0 + ((Int32.toUInt32 x0 >>> (Int32.toUInt32 16 &&& Int32.toUInt32 31)).toInt32)))] d_JI_bitCount_47 rfl (by decide) rfl ?_
  exact h
theorem v_JI_bitCount_48 (g : Nat → Option Nat) (X : List zShp) (M : zMem) (x0 : Int32) (R : zEnd) (h : R (some (.int (x0 &&& 63))) (SHP g X) M) : zRT m_JI_bitCount 0 0 48 [(0, .int x0)] [] (SHP g X) M R := by
  refine zs_iload_n 0 d_JI_bitCount_48 rfl (List.mem_of_getElem? (i := 0) rfl) ?_
  refine zs_bipush 63 d_JI_bitCount_49 (by decide) ?_
  refine zs_iand d_JI_bitCount_51 ?_
  exact zs_iret d_JI_bitCount_52 rfl h
theorem v_Town_mostOf_0 (g : Nat → Option Nat) (X : List zShp) (M : zMem) (x0 : Int32) (R : zEnd) (h : ((x0 = 0) → (R (some (.int 9)) (SHP g X) M)) ∧ ((¬ x0 = 0) → (((x0 = 1) → (R (some (.int 1)) (SHP g X) M)) ∧ ((¬ x0 = 1) → (R (some (.int 10)) (SHP g X) M))))) : zRT m_Town_mostOf 0 0 0 [(0, .int x0)] [] (SHP g X) M R := by
  refine zs_iload_n 0 d_Town_mostOf_0 rfl (List.mem_of_getElem? (i := 0) rfl) ?_
  by_cases c1_0 : x0 = 0
  · replace h := h.1 c1_0
    refine zs_lookup 28 d_Town_mostOf_1 (by decide) (by rw [c1_0]; try rfl) (by decide) ?_
    refine zs_bipush 9 d_Town_mostOf_28 (by decide) ?_
    exact zs_iret d_Town_mostOf_30 rfl h
  replace h := h.2 c1_0
  by_cases c1_1 : x0 = 1
  · replace h := h.1 c1_1
    refine zs_lookup 31 d_Town_mostOf_1 (by decide) (by rw [c1_1]; try rfl) (by decide) ?_
    refine zs_iconst 1 d_Town_mostOf_31 (by decide) ?_
    exact zs_iret d_Town_mostOf_32 rfl h
  replace h := h.2 c1_1
  have q1_0 := zI_ne (z := 0) c1_0 (by decide)
  have q1_1 := zI_ne (z := 1) c1_1 (by decide)
  refine zs_lookup 33 d_Town_mostOf_1 (by decide) (zsw_lk2 q1_0 q1_1) (by decide) ?_
  refine zs_bipush 10 d_Town_mostOf_33 (by decide) ?_
  exact zs_iret d_Town_mostOf_35 rfl h
theorem v_X_bits_0 (g : Nat → Option Nat) (X : List zShp) (M : zMem) (x0 : Int32) (R : zEnd) (h : zRT m_X_bits 0 0 4 [(0, .int x0), (1, .int 0), (2, .int 0)] [] (SHP g X) M R) : zRT m_X_bits 0 0 0 [(0, .int x0)] [] (SHP g X) M R := by
  refine zs_iconst 0 d_X_bits_0 (by decide) ?_
  refine zs_istore_n2 1 [1, 0] [(0, .int x0), (1, .int 0)] d_X_bits_1 rfl (by decide) rfl ?_
  refine zs_iconst 0 d_X_bits_2 (by decide) ?_
  refine zs_istore_n2 2 [1, 2, 0] [(0, .int x0), (1, .int 0), (2, .int 0)] d_X_bits_3 rfl (by decide) rfl ?_
  exact h
theorem v_X_bits_4 (g : Nat → Option Nat) (X : List zShp) (M : zMem) (x0 x1 x2 : Int32) (R : zEnd) (h : ((6 ≤ x2) → (R (some (.int x1)) (SHP g X) M)) ∧ ((¬ 6 ≤ x2) → (zRT m_X_bits 0 0 4 [(0, .int x0), (1, .int (x1 + ((x0 >>> (x2 &&& 31)) &&& 1))), (2, .int (x2 + 1))] [] (SHP g X) M R))) : zRT m_X_bits 0 0 4 [(0, .int x0), (1, .int x1), (2, .int x2)] [] (SHP g X) M R := by
  refine zs_iload_n 2 d_X_bits_4 rfl (List.mem_of_getElem? (i := 2) rfl) ?_
  refine zs_bipush 6 d_X_bits_5 (by decide) ?_
  refine zs_icmp_ge 24 d_X_bits_7 (by decide) (fun c1 => ?_) (fun c1 => ?_)
  · replace h := h.1 c1
    refine zs_iload_n 1 d_X_bits_24 rfl (List.mem_of_getElem? (i := 1) rfl) ?_
    exact zs_iret d_X_bits_25 rfl h
  · replace h := h.2 c1
    refine zs_iload_n 1 d_X_bits_10 rfl (List.mem_of_getElem? (i := 1) rfl) ?_
    refine zs_iload_n 0 d_X_bits_11 rfl (List.mem_of_getElem? (i := 0) rfl) ?_
    refine zs_iload_n 2 d_X_bits_12 rfl (List.mem_of_getElem? (i := 2) rfl) ?_
    refine zs_ishr d_X_bits_13 ?_
    refine zs_iconst 1 d_X_bits_14 (by decide) ?_
    refine zs_iand d_X_bits_15 ?_
    refine zs_iadd d_X_bits_16 ?_
    refine zs_istore_n2 1 [1, 0, 2] [(0, .int x0), (1, .int (x1 + ((x0 >>> (x2 &&& 31)) &&& 1))), (2, .int x2)] d_X_bits_17 rfl (by decide) rfl ?_
    refine zs_iinc2 2 (x2 + 1) [1, 2, 0] [(0, .int x0), (1, .int (x1 + ((x0 >>> (x2 &&& 31)) &&& 1))), (2, .int (x2 + 1))] d_X_bits_18 rfl rfl (by decide) rfl ?_
    refine zs_goto 4 d_X_bits_21 (by decide) ?_
    exact h
section zLeaf
variable (g : Nat → Option Nat) (X : List zShp) (M : zMem)
theorem ex_O_has (a k : Int32) : zEx m_O_has 0 0 [.int a, .int k] (SHP g X) M (qF g X (bI (hb a k)) M) := by
  refine zEx_of _ (by decide) (by simp [Value.category]) (Nat.le_of_ble_eq_true rfl) rfl (v_O_has_0 g X M a k _ ⟨fun h => qF_i ?_ rfl, fun h => qF_i ?_ rfl⟩) <;> simp [hb, h, bI]
theorem ex_X_has (a k : Int32) : zEx m_X_has 0 0 [.int a, .int k] (SHP g X) M (qF g X (bI (hb a k)) M) := by
  have e : ∀ z : Int32, z &&& 1 = 0 ∨ z &&& 1 = 1 := by
    intro z
    obtain ⟨j, hj, e⟩ := pk_andE z (m := 1) 1 rfl
    have hj2 : j = 0 ∨ j = 1 := by omega
    rw [e]
    rcases hj2 with rfl | rfl
    · exact Or.inl rfl
    · exact Or.inr rfl
  refine zEx_of _ (by decide) (by simp [Value.category]) (Nat.le_of_ble_eq_true rfl) rfl (v_X_has_0 g X M a k _ ⟨fun h => qF_i ?_ rfl, fun h => qF_i ?_ rfl⟩)
  · have h0 := (e (a >>> (k &&& 31))).resolve_right h
    simp [hb, h0, bI]
  · simp [hb, h, bI]
theorem ex_O_isMan (m : Int32) : zEx m_O_isMan 0 0 [.int m] (SHP g X) M (qF g X (bI (isM m)) M) := by
  refine zEx_of _ (by decide) (by simp [Value.category]) (Nat.le_of_ble_eq_true rfl) rfl (v_O_isMan_0 g X M m _ ⟨fun h => qF_i ?_ rfl, fun h => ⟨fun h2 => qF_i ?_ rfl, fun h2 => qF_i ?_ rfl⟩⟩) <;> simp [isM, *, bI]
theorem ex_X_in (v lo hi : Int32) : zEx m_X_in 0 0 [.int v, .int lo, .int hi] (SHP g X) M (qF g X (bI (inI v lo hi)) M) := by
  refine zEx_of _ (by decide) (by simp [Value.category]) (Nat.le_of_ble_eq_true rfl) rfl (v_X_in_0 g X M v lo hi _ ⟨fun h => qF_i ?_ rfl, fun h => ⟨fun h2 => qF_i ?_ rfl, fun h2 => qF_i ?_ rfl⟩⟩) <;> simp [inI, *, bI]
theorem ex_Pages_bitOf (x : Int32) : zEx m_Pages_bitOf 0 0 [.int x] (SHP g X) M (qF g X (bO x) M) := by
  refine zEx_of _ (by decide) (by simp [Value.category]) (Nat.le_of_ble_eq_true rfl) rfl (v_Pages_bitOf_0 g X M x _ ⟨fun h => qF_i ?_ rfl, fun h => qF_i ?_ rfl⟩) <;> simp [bO, h]
theorem ex_Shares_isAhead (x k : Int32) : zEx m_Shares_isAhead 0 0 [.int x, .int k] (SHP g X) M (qF g X (bI (ahd x k)) M) := by
  refine zEx_of _ (by decide) (by simp [Value.category]) (Nat.le_of_ble_eq_true rfl) rfl (v_Shares_isAhead_0 g X M x k _ ⟨fun h => qF_i ?_ rfl, fun h => ⟨fun h2 => qF_i ?_ rfl, fun h2 => qF_i ?_ rfl⟩⟩) <;> simp [ahd, *, bI]
theorem ex_Town_mostOf (w : Int32) : zEx m_Town_mostOf 0 0 [.int w] (SHP g X) M (qF g X (mO w) M) := by
  refine zEx_of _ (by decide) (by simp [Value.category]) (Nat.le_of_ble_eq_true rfl) rfl (v_Town_mostOf_0 g X M w _ ⟨fun h => qF_i ?_ rfl, fun h => ⟨fun h2 => qF_i ?_ rfl, fun h2 => qF_i ?_ rfl⟩⟩) <;> simp [mO, *]
theorem ex_JI_bitCount (x : Int32) : zEx m_JI_bitCount 0 0 [.int x] (SHP g X) M (qF g X (bc x) M) := by
  refine zEx_of _ (by decide) (by simp [Value.category]) (Nat.le_of_ble_eq_true rfl) rfl (v_JI_bitCount_0 g X M x _ ?_)
  refine v_JI_bitCount_10 g X M (bc1 x) _ ?_
  refine v_JI_bitCount_24 g X M (bc2 (bc1 x)) _ ?_
  refine v_JI_bitCount_34 g X M (bc3 (bc2 (bc1 x))) _ ?_
  refine v_JI_bitCount_41 g X M (bc4 (bc3 (bc2 (bc1 x)))) _ ?_
  refine v_JI_bitCount_48 g X M (bc5 (bc4 (bc3 (bc2 (bc1 x))))) _ ?_
  exact qF_i rfl rfl
theorem ex_X_bits (x : Int32) : zEx m_X_bits 0 0 [.int x] (SHP g X) M (qF g X (bt6 x) M) := by
  refine zEx_of _ (by decide) (by simp [Value.category]) (Nat.le_of_ble_eq_true rfl) rfl (v_X_bits_0 g X M x _ ?_)
  have L : ∀ n k, k + n = 6 → zRT m_X_bits 0 0 4 [(0, .int x), (1, .int (bt6n x k)), (2, .int (nI k))] [] (SHP g X) M (qF g X (bt6 x) M) := by
    intro n
    induction n with
    | zero =>
      intro k hk
      have : k = 6 := by omega
      subst this
      exact v_X_bits_4 g X M x _ _ _ ⟨fun _ => qF_i rfl rfl, fun h => absurd (by decide) h⟩
    | succ n ih =>
      intro k hk
      refine v_X_bits_4 g X M x _ _ _ ⟨fun h => absurd h (nI_ge (b := 6) (by omega) (by decide)), fun _ => ?_⟩
      rw [nI_1]
      exact ih (k + 1) (by omega)
  exact L 6 0 rfl
end zLeaf
