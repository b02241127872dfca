/-! the reference: where a book is at fault -/
def mPd (M : zMem) (n : Nat) : Prop := n ≤ 60 ∧ M 35 4 = nI n ∧ bSg n (M 37)
def bFo (P : Nat → Int32) (n k d : Nat) (A : bS) (r : Int32) : Prop := (r < 0 ∧ ∃ B, bRun P k d A = some B ∧ B.1 = 0) ∨ (¬ r < 0 ∧ ∀ B, bRun P k d A = some B → ¬ B.1 = 0)
section zX8
variable (g : Nat → Option Nat) (X : List zShp) (M : zMem)
theorem v_X_faultOf_0 (g : Nat → Option Nat) (X : List zShp) (M : zMem) (R : zEnd) (h : zRT m_X_faultOf 0 0 16 [(0, .ref 35), (1, .int 0), (2, .int 0), (3, .int (-6)), (4, .int 0), (5, .int 0), (6, .int 0)] [] (SHP g X) M R) : zRT m_X_faultOf 0 0 0 [(0, .ref 35)] [] (SHP g X) M R := by
  refine zs_iconst 0 d_X_faultOf_0 (by decide) ?_
  refine zs_istore_n2 1 [1, 0] [(0, .ref 35), (1, .int 0)] d_X_faultOf_1 rfl (by decide) rfl ?_
  refine zs_iconst 0 d_X_faultOf_2 (by decide) ?_
  refine zs_istore_n2 2 [1, 2, 0] [(0, .ref 35), (1, .int 0), (2, .int 0)] d_X_faultOf_3 rfl (by decide) rfl ?_
  refine zs_bipush (-6) d_X_faultOf_4 (by decide) ?_
  refine zs_istore_n2 3 [1, 2, 3, 0] [(0, .ref 35), (1, .int 0), (2, .int 0), (3, .int (-6))] d_X_faultOf_6 rfl (by decide) rfl ?_
  refine zs_iconst 0 d_X_faultOf_7 (by decide) ?_
  refine zs_istore2 [1, 2, 3, 4, 0] [(0, .ref 35), (1, .int 0), (2, .int 0), (3, .int (-6)), (4, .int 0)] d_X_faultOf_8 (by decide) rfl ?_
  refine zs_iconst 0 d_X_faultOf_10 (by decide) ?_
  refine zs_istore2 [1, 2, 3, 4, 5, 0] [(0, .ref 35), (1, .int 0), (2, .int 0), (3, .int (-6)), (4, .int 0), (5, .int 0)] d_X_faultOf_11 (by decide) rfl ?_
  refine zs_iconst 0 d_X_faultOf_13 (by decide) ?_
  refine zs_istore2 [1, 2, 3, 4, 5, 6, 0] [(0, .ref 35), (1, .int 0), (2, .int 0), (3, .int (-6)), (4, .int 0), (5, .int 0), (6, .int 0)] d_X_faultOf_14 (by decide) rfl ?_
  exact h
theorem v_X_faultOf_16 (g : Nat → Option Nat) (X : List zShp) (M : zMem) (x1 x2 x3 x4 x5 x6 : Int32) (R : zEnd) (h : (((M 35 4) ≤ x6) → (((¬ x1 = 0) → (R (some (.int (M 35 4))) (SHP g X) M)) ∧ ((x1 = 0) → (R (some (.int (-6))) (SHP g X) M)))) ∧ ((¬ (M 35 4) ≤ x6) → ((vp_in x6 60) ∧ (((¬ x2 = 10) → (((2 ≤ x1) → (((¬ x1 = 3) → (((3 ≤ x1) → (((x1 = 6) → (((¬ (M 37 (Int32.toNatClampNeg x6)) = 59) → (R (some (.int x6)) (SHP g X) M)) ∧ (((M 37 (Int32.toNatClampNeg x6)) = 59) → (((x1 ≤ 4) → (R (some (.int x6)) (SHP g X) M)) ∧ ((¬ x1 ≤ 4) → (zRT m_X_faultOf 0 0 16 [(0, .ref 35), (1, .int 0), (2, .int (x2 + 1)), (3, .int (-6)), (4, .int 0), (5, .int x5), (6, .int (x6 + 1))] [] (SHP g X) M R)))))) ∧ ((¬ x1 = 6) → ((((inI (M 37 (Int32.toNatClampNeg x6)) 65 70) = false) → (((¬ (M 37 (Int32.toNatClampNeg x6)) = 63) → (((¬ (M 37 (Int32.toNatClampNeg x6)) = 59) → (R (some (.int x6)) (SHP g X) M)) ∧ (((M 37 (Int32.toNatClampNeg x6)) = 59) → (((x1 ≤ 4) → (R (some (.int x6)) (SHP g X) M)) ∧ ((¬ x1 ≤ 4) → (zRT m_X_faultOf 0 0 16 [(0, .ref 35), (1, .int 0), (2, .int (x2 + 1)), (3, .int (-6)), (4, .int 0), (5, .int x5), (6, .int (x6 + 1))] [] (SHP g X) M R)))))) ∧ (((M 37 (Int32.toNatClampNeg x6)) = 63) → (((3 ≤ x4) → (R (some (.int x6)) (SHP g X) M)) ∧ ((¬ 3 ≤ x4) → (((4 ≤ x5) → (R (some (.int x6)) (SHP g X) M)) ∧ ((¬ 4 ≤ x5) → (zRT m_X_faultOf 0 0 16 [(0, .ref 35), (1, .int 6), (2, .int x2), (3, .int x3), (4, .int x4), (5, .int (x5 + 1)), (6, .int (x6 + 1))] [] (SHP g X) M R)))))))) ∧ (((inI (M 37 (Int32.toNatClampNeg x6)) 65 70) = true) → (((3 ≤ x4) → (R (some (.int x6)) (SHP g X) M)) ∧ ((¬ 3 ≤ x4) → (((x4 = 0) → (zRT m_X_faultOf 0 0 16 [(0, .ref 35), (1, .int 5), (2, .int x2), (3, .int (M 37 (Int32.toNatClampNeg x6))), (4, .int (x4 + 1)), (5, .int x5), (6, .int (x6 + 1))] [] (SHP g X) M R)) ∧ ((¬ x4 = 0) → ((((M 37 (Int32.toNatClampNeg x6)) ≤ x3) → (R (some (.int x6)) (SHP g X) M)) ∧ ((¬ (M 37 (Int32.toNatClampNeg x6)) ≤ x3) → (zRT m_X_faultOf 0 0 16 [(0, .ref 35), (1, .int 5), (2, .int x2), (3, .int (M 37 (Int32.toNatClampNeg x6))), (4, .int (x4 + 1)), (5, .int x5), (6, .int (x6 + 1))] [] (SHP g X) M R)))))))))))) ∧ ((¬ 3 ≤ x1) → (((¬ (M 37 (Int32.toNatClampNeg x6)) = 43) → (((x1 = 6) → (((¬ (M 37 (Int32.toNatClampNeg x6)) = 59) → (R (some (.int x6)) (SHP g X) M)) ∧ (((M 37 (Int32.toNatClampNeg x6)) = 59) → (((x1 ≤ 4) → (R (some (.int x6)) (SHP g X) M)) ∧ ((¬ x1 ≤ 4) → (zRT m_X_faultOf 0 0 16 [(0, .ref 35), (1, .int 0), (2, .int (x2 + 1)), (3, .int (-6)), (4, .int 0), (5, .int x5), (6, .int (x6 + 1))] [] (SHP g X) M R)))))) ∧ ((¬ x1 = 6) → ((((inI (M 37 (Int32.toNatClampNeg x6)) 65 70) = false) → (((¬ (M 37 (Int32.toNatClampNeg x6)) = 63) → (((¬ (M 37 (Int32.toNatClampNeg x6)) = 59) → (R (some (.int x6)) (SHP g X) M)) ∧ (((M 37 (Int32.toNatClampNeg x6)) = 59) → (((x1 ≤ 4) → (R (some (.int x6)) (SHP g X) M)) ∧ ((¬ x1 ≤ 4) → (zRT m_X_faultOf 0 0 16 [(0, .ref 35), (1, .int 0), (2, .int (x2 + 1)), (3, .int (-6)), (4, .int 0), (5, .int x5), (6, .int (x6 + 1))] [] (SHP g X) M R)))))) ∧ (((M 37 (Int32.toNatClampNeg x6)) = 63) → (((3 ≤ x4) → (R (some (.int x6)) (SHP g X) M)) ∧ ((¬ 3 ≤ x4) → (((4 ≤ x5) → (R (some (.int x6)) (SHP g X) M)) ∧ ((¬ 4 ≤ x5) → (zRT m_X_faultOf 0 0 16 [(0, .ref 35), (1, .int 6), (2, .int x2), (3, .int x3), (4, .int x4), (5, .int (x5 + 1)), (6, .int (x6 + 1))] [] (SHP g X) M R)))))))) ∧ (((inI (M 37 (Int32.toNatClampNeg x6)) 65 70) = true) → (((3 ≤ x4) → (R (some (.int x6)) (SHP g X) M)) ∧ ((¬ 3 ≤ x4) → (((x4 = 0) → (zRT m_X_faultOf 0 0 16 [(0, .ref 35), (1, .int 5), (2, .int x2), (3, .int (M 37 (Int32.toNatClampNeg x6))), (4, .int (x4 + 1)), (5, .int x5), (6, .int (x6 + 1))] [] (SHP g X) M R)) ∧ ((¬ x4 = 0) → ((((M 37 (Int32.toNatClampNeg x6)) ≤ x3) → (R (some (.int x6)) (SHP g X) M)) ∧ ((¬ (M 37 (Int32.toNatClampNeg x6)) ≤ x3) → (zRT m_X_faultOf 0 0 16 [(0, .ref 35), (1, .int 5), (2, .int x2), (3, .int (M 37 (Int32.toNatClampNeg x6))), (4, .int (x4 + 1)), (5, .int x5), (6, .int (x6 + 1))] [] (SHP g X) M R)))))))))))) ∧ (((M 37 (Int32.toNatClampNeg x6)) = 43) → (zRT m_X_faultOf 0 0 16 [(0, .ref 35), (1, .int 3), (2, .int x2), (3, .int x3), (4, .int x4), (5, .int x5), (6, .int (x6 + 1))] [] (SHP g X) M R)))))) ∧ ((x1 = 3) → ((((inI ((M 37 (Int32.toNatClampNeg x6)) - 97) 0 (x2 - 1)) = true) → (zRT m_X_faultOf 0 0 16 [(0, .ref 35), (1, .int 4), (2, .int x2), (3, .int x3), (4, .int x4), (5, .int x5), (6, .int (x6 + 1))] [] (SHP g X) M R)) ∧ (((inI ((M 37 (Int32.toNatClampNeg x6)) - 97) 0 (x2 - 1)) = false) → (R (some (.int x6)) (SHP g X) M)))))) ∧ ((¬ 2 ≤ x1) → ((((inI ((M 37 (Int32.toNatClampNeg x6)) - 97) 0 (x2 - 1)) = false) → (((¬ x1 = 3) → (((3 ≤ x1) → (((x1 = 6) → (((¬ (M 37 (Int32.toNatClampNeg x6)) = 59) → (R (some (.int x6)) (SHP g X) M)) ∧ (((M 37 (Int32.toNatClampNeg x6)) = 59) → (((x1 ≤ 4) → (R (some (.int x6)) (SHP g X) M)) ∧ ((¬ x1 ≤ 4) → (zRT m_X_faultOf 0 0 16 [(0, .ref 35), (1, .int 0), (2, .int (x2 + 1)), (3, .int (-6)), (4, .int 0), (5, .int x5), (6, .int (x6 + 1))] [] (SHP g X) M R)))))) ∧ ((¬ x1 = 6) → ((((inI (M 37 (Int32.toNatClampNeg x6)) 65 70) = false) → (((¬ (M 37 (Int32.toNatClampNeg x6)) = 63) → (((¬ (M 37 (Int32.toNatClampNeg x6)) = 59) → (R (some (.int x6)) (SHP g X) M)) ∧ (((M 37 (Int32.toNatClampNeg x6)) = 59) → (((x1 ≤ 4) → (R (some (.int x6)) (SHP g X) M)) ∧ ((¬ x1 ≤ 4) → (zRT m_X_faultOf 0 0 16 [(0, .ref 35), (1, .int 0), (2, .int (x2 + 1)), (3, .int (-6)), (4, .int 0), (5, .int x5), (6, .int (x6 + 1))] [] (SHP g X) M R)))))) ∧ (((M 37 (Int32.toNatClampNeg x6)) = 63) → (((3 ≤ x4) → (R (some (.int x6)) (SHP g X) M)) ∧ ((¬ 3 ≤ x4) → (((4 ≤ x5) → (R (some (.int x6)) (SHP g X) M)) ∧ ((¬ 4 ≤ x5) → (zRT m_X_faultOf 0 0 16 [(0, .ref 35), (1, .int 6), (2, .int x2), (3, .int x3), (4, .int x4), (5, .int (x5 + 1)), (6, .int (x6 + 1))] [] (SHP g X) M R)))))))) ∧ (((inI (M 37 (Int32.toNatClampNeg x6)) 65 70) = true) → (((3 ≤ x4) → (R (some (.int x6)) (SHP g X) M)) ∧ ((¬ 3 ≤ x4) → (((x4 = 0) → (zRT m_X_faultOf 0 0 16 [(0, .ref 35), (1, .int 5), (2, .int x2), (3, .int (M 37 (Int32.toNatClampNeg x6))), (4, .int (x4 + 1)), (5, .int x5), (6, .int (x6 + 1))] [] (SHP g X) M R)) ∧ ((¬ x4 = 0) → ((((M 37 (Int32.toNatClampNeg x6)) ≤ x3) → (R (some (.int x6)) (SHP g X) M)) ∧ ((¬ (M 37 (Int32.toNatClampNeg x6)) ≤ x3) → (zRT m_X_faultOf 0 0 16 [(0, .ref 35), (1, .int 5), (2, .int x2), (3, .int (M 37 (Int32.toNatClampNeg x6))), (4, .int (x4 + 1)), (5, .int x5), (6, .int (x6 + 1))] [] (SHP g X) M R)))))))))))) ∧ ((¬ 3 ≤ x1) → (((¬ (M 37 (Int32.toNatClampNeg x6)) = 43) → (((x1 = 6) → (((¬ (M 37 (Int32.toNatClampNeg x6)) = 59) → (R (some (.int x6)) (SHP g X) M)) ∧ (((M 37 (Int32.toNatClampNeg x6)) = 59) → (((x1 ≤ 4) → (R (some (.int x6)) (SHP g X) M)) ∧ ((¬ x1 ≤ 4) → (zRT m_X_faultOf 0 0 16 [(0, .ref 35), (1, .int 0), (2, .int (x2 + 1)), (3, .int (-6)), (4, .int 0), (5, .int x5), (6, .int (x6 + 1))] [] (SHP g X) M R)))))) ∧ ((¬ x1 = 6) → ((((inI (M 37 (Int32.toNatClampNeg x6)) 65 70) = false) → (((¬ (M 37 (Int32.toNatClampNeg x6)) = 63) → (((¬ (M 37 (Int32.toNatClampNeg x6)) = 59) → (R (some (.int x6)) (SHP g X) M)) ∧ (((M 37 (Int32.toNatClampNeg x6)) = 59) → (((x1 ≤ 4) → (R (some (.int x6)) (SHP g X) M)) ∧ ((¬ x1 ≤ 4) → (zRT m_X_faultOf 0 0 16 [(0, .ref 35), (1, .int 0), (2, .int (x2 + 1)), (3, .int (-6)), (4, .int 0), (5, .int x5), (6, .int (x6 + 1))] [] (SHP g X) M R)))))) ∧ (((M 37 (Int32.toNatClampNeg x6)) = 63) → (((3 ≤ x4) → (R (some (.int x6)) (SHP g X) M)) ∧ ((¬ 3 ≤ x4) → (((4 ≤ x5) → (R (some (.int x6)) (SHP g X) M)) ∧ ((¬ 4 ≤ x5) → (zRT m_X_faultOf 0 0 16 [(0, .ref 35), (1, .int 6), (2, .int x2), (3, .int x3), (4, .int x4), (5, .int (x5 + 1)), (6, .int (x6 + 1))] [] (SHP g X) M R)))))))) ∧ (((inI (M 37 (Int32.toNatClampNeg x6)) 65 70) = true) → (((3 ≤ x4) → (R (some (.int x6)) (SHP g X) M)) ∧ ((¬ 3 ≤ x4) → (((x4 = 0) → (zRT m_X_faultOf 0 0 16 [(0, .ref 35), (1, .int 5), (2, .int x2), (3, .int (M 37 (Int32.toNatClampNeg x6))), (4, .int (x4 + 1)), (5, .int x5), (6, .int (x6 + 1))] [] (SHP g X) M R)) ∧ ((¬ x4 = 0) → ((((M 37 (Int32.toNatClampNeg x6)) ≤ x3) → (R (some (.int x6)) (SHP g X) M)) ∧ ((¬ (M 37 (Int32.toNatClampNeg x6)) ≤ x3) → (zRT m_X_faultOf 0 0 16 [(0, .ref 35), (1, .int 5), (2, .int x2), (3, .int (M 37 (Int32.toNatClampNeg x6))), (4, .int (x4 + 1)), (5, .int x5), (6, .int (x6 + 1))] [] (SHP g X) M R)))))))))))) ∧ (((M 37 (Int32.toNatClampNeg x6)) = 43) → (zRT m_X_faultOf 0 0 16 [(0, .ref 35), (1, .int 3), (2, .int x2), (3, .int x3), (4, .int x4), (5, .int x5), (6, .int (x6 + 1))] [] (SHP g X) M R)))))) ∧ ((x1 = 3) → ((((inI ((M 37 (Int32.toNatClampNeg x6)) - 97) 0 (x2 - 1)) = true) → (zRT m_X_faultOf 0 0 16 [(0, .ref 35), (1, .int 4), (2, .int x2), (3, .int x3), (4, .int x4), (5, .int x5), (6, .int (x6 + 1))] [] (SHP g X) M R)) ∧ (((inI ((M 37 (Int32.toNatClampNeg x6)) - 97) 0 (x2 - 1)) = false) → (R (some (.int x6)) (SHP g X) M)))))) ∧ (((inI ((M 37 (Int32.toNatClampNeg x6)) - 97) 0 (x2 - 1)) = true) → (((((M 37 (Int32.toNatClampNeg x6)) - 97) ≤ x3) → (R (some (.int x6)) (SHP g X) M)) ∧ ((¬ ((M 37 (Int32.toNatClampNeg x6)) - 97) ≤ x3) → (zRT m_X_faultOf 0 0 16 [(0, .ref 35), (1, .int (x1 + 1)), (2, .int x2), (3, .int ((M 37 (Int32.toNatClampNeg x6)) - 97)), (4, .int x4), (5, .int x5), (6, .int (x6 + 1))] [] (SHP g X) M R)))))))) ∧ ((x2 = 10) → (R (some (.int x6)) (SHP g X) M)))))) : zRT m_X_faultOf 0 0 16 [(0, .ref 35), (1, .int x1), (2, .int x2), (3, .int x3), (4, .int x4), (5, .int x5), (6, .int x6)] [] (SHP g X) M R := by
  refine zs_iload d_X_faultOf_16 (List.mem_of_getElem? (i := 6) rfl) ?_
  refine zs_aload_n 0 d_X_faultOf_18 rfl (List.mem_of_getElem? (i := 0) rfl) ?_
  refine zs_get d_X_faultOf_19 gf_X_73 (sh_35 g X) rfl ?_
  refine zs_icmp_ge 268 d_X_faultOf_22 (by decide) (fun c1 => ?_) (fun c1 => ?_)
  · replace h := h.1 c1
    refine zs_iload_n 1 d_X_faultOf_268 rfl (List.mem_of_getElem? (i := 1) rfl) ?_
    refine zs_if_ne 277 d_X_faultOf_269 (by decide) (fun c2 => ?_) (fun c2 => ?_)
    · replace h := h.1 c2
      refine zs_aload_n 0 d_X_faultOf_277 rfl (List.mem_of_getElem? (i := 0) rfl) ?_
      refine zs_get d_X_faultOf_278 gf_X_73 (sh_35 g X) rfl ?_
      exact zs_iret d_X_faultOf_281 rfl h
    · replace h := h.2 c2
      refine zs_bipush (-6) d_X_faultOf_272 (by decide) ?_
      refine zs_goto 281 d_X_faultOf_274 (by decide) ?_
      exact zs_iret d_X_faultOf_281 rfl h
  · replace h := h.2 c1
    refine zs_aload_n 0 d_X_faultOf_25 rfl (List.mem_of_getElem? (i := 0) rfl) ?_
    refine zs_get d_X_faultOf_26 gf_X_20 (sh_35 g X) rfl ?_
    refine zs_iload d_X_faultOf_29 (List.mem_of_getElem? (i := 6) rfl) ?_
    obtain ⟨b3, h⟩ := h
    refine zs_iald d_X_faultOf_31 (sh_37 g X) b3 ?_
    refine zs_istore2 [1, 2, 3, 4, 5, 6, 7, 0] [(0, .ref 35), (1, .int x1), (2, .int x2), (3, .int x3), (4, .int x4), (5, .int x5), (6, .int x6), (7, .int (M 37 (Int32.toNatClampNeg x6)))] d_X_faultOf_32 (by decide) rfl ?_
    refine zs_iload d_X_faultOf_34 (List.mem_of_getElem? (i := 7) rfl) ?_
    refine zs_bipush 97 d_X_faultOf_36 (by decide) ?_
    refine zs_isub d_X_faultOf_38 ?_
    refine zs_istore2 [1, 2, 3, 4, 5, 6, 7, 8, 0] [(0, .ref 35), (1, .int x1), (2, .int x2), (3, .int x3), (4, .int x4), (5, .int x5), (6, .int x6), (7, .int (M 37 (Int32.toNatClampNeg x6))), (8, .int ((M 37 (Int32.toNatClampNeg x6)) - 97))] d_X_faultOf_39 (by decide) rfl ?_
    refine zs_iload d_X_faultOf_41 (List.mem_of_getElem? (i := 8) rfl) ?_
    refine zs_iconst 0 d_X_faultOf_43 (by decide) ?_
    refine zs_iload_n 2 d_X_faultOf_44 rfl (List.mem_of_getElem? (i := 2) rfl) ?_
    refine zs_iconst 1 d_X_faultOf_45 (by decide) ?_
    refine zs_isub d_X_faultOf_46 ?_
    refine zs_callS (kc := 0) (ks := 0) (kc1 := 0) (ks1 := 0) (st := []) [.int ((M 37 (Int32.toNatClampNeg x6)) - 97), .int 0, .int (x2 - 1)] d_X_faultOf_47 lk_X_66 ⟨by decide, by decide⟩ rfl (Nat.le_of_ble_eq_true rfl) (ex_X_in g X M ((M 37 (Int32.toNatClampNeg x6)) - 97) 0 (x2 - 1)) (fun v4 sh4 M4 hR => ?_)
    obtain ⟨rfl, rfl, rfl⟩ := hR
    refine zs_istore2 [1, 2, 3, 4, 5, 6, 7, 8, 9, 0] [(0, .ref 35), (1, .int x1), (2, .int x2), (3, .int x3), (4, .int x4), (5, .int x5), (6, .int x6), (7, .int (M 37 (Int32.toNatClampNeg x6))), (8, .int ((M 37 (Int32.toNatClampNeg x6)) - 97)), (9, .int (bI (inI ((M 37 (Int32.toNatClampNeg x6)) - 97) 0 (x2 - 1))))] d_X_faultOf_50 (by decide) rfl ?_
    refine zs_iload_n 2 d_X_faultOf_52 rfl (List.mem_of_getElem? (i := 2) rfl) ?_
    refine zs_bipush 10 d_X_faultOf_53 (by decide) ?_
    refine zs_icmp_ne 64 d_X_faultOf_55 (by decide) (fun c5 => ?_) (fun c5 => ?_)
    · replace h := h.1 c5
      refine zs_iload_n 1 d_X_faultOf_64 rfl (List.mem_of_getElem? (i := 1) rfl) ?_
      refine zs_iconst 2 d_X_faultOf_65 (by decide) ?_
      refine zs_icmp_ge 96 d_X_faultOf_66 (by decide) (fun c6 => ?_) (fun c6 => ?_)
      · replace h := h.1 c6
        refine zs_iload_n 1 d_X_faultOf_96 rfl (List.mem_of_getElem? (i := 1) rfl) ?_
        refine zs_iconst 3 d_X_faultOf_97 (by decide) ?_
        refine zs_icmp_ne 110 d_X_faultOf_98 (by decide) (fun c7 => ?_) (fun c7 => ?_)
        · replace h := h.1 c7
          refine zs_iload_n 1 d_X_faultOf_110 rfl (List.mem_of_getElem? (i := 1) rfl) ?_
          refine zs_iconst 3 d_X_faultOf_111 (by decide) ?_
          refine zs_icmp_ge 130 d_X_faultOf_112 (by decide) (fun c8 => ?_) (fun c8 => ?_)
          · replace h := h.1 c8
            refine zs_iload_n 1 d_X_faultOf_130 rfl (List.mem_of_getElem? (i := 1) rfl) ?_
            refine zs_bipush 6 d_X_faultOf_131 (by decide) ?_
            refine zs_icmp_eq 183 d_X_faultOf_133 (by decide) (fun c9 => ?_) (fun c9 => ?_)
            · replace h := h.1 c9
              refine zs_iload_n 1 d_X_faultOf_183 rfl (List.mem_of_getElem? (i := 1) rfl) ?_
              refine zs_bipush 6 d_X_faultOf_184 (by decide) ?_
              refine zs_icmp_eq 224 d_X_faultOf_186 (by decide) (fun _ => ?_) (fun c => absurd c9 c)
              refine zs_iload d_X_faultOf_224 (List.mem_of_getElem? (i := 7) rfl) ?_
              refine zs_bipush 59 d_X_faultOf_226 (by decide) ?_
              refine zs_icmp_ne 240 d_X_faultOf_228 (by decide) (fun c10 => ?_) (fun c10 => ?_)
              · replace h := h.1 c10
                refine zs_iconst 0 d_X_faultOf_240 (by decide) ?_
                refine zs_istore2 [1, 2, 3, 4, 5, 6, 7, 8, 9, 10, 0] [(0, .ref 35), (1, .int x1), (2, .int x2), (3, .int x3), (4, .int x4), (5, .int x5), (6, .int x6), (7, .int (M 37 (Int32.toNatClampNeg x6))), (8, .int ((M 37 (Int32.toNatClampNeg x6)) - 97)), (9, .int (bI (inI ((M 37 (Int32.toNatClampNeg x6)) - 97) 0 (x2 - 1)))), (10, .int 0)] d_X_faultOf_241 (by decide) rfl ?_
                refine zs_iinc2 2 (x2 + 1) [1, 2, 0, 3, 4, 5, 6, 7, 8, 9, 10] [(0, .ref 35), (1, .int x1), (2, .int (x2 + 1)), (3, .int x3), (4, .int x4), (5, .int x5), (6, .int x6), (7, .int (M 37 (Int32.toNatClampNeg x6))), (8, .int ((M 37 (Int32.toNatClampNeg x6)) - 97)), (9, .int (bI (inI ((M 37 (Int32.toNatClampNeg x6)) - 97) 0 (x2 - 1)))), (10, .int 0)] d_X_faultOf_243 rfl rfl (by decide) rfl ?_
                refine zs_iconst 0 d_X_faultOf_246 (by decide) ?_
                refine zs_istore_n2 1 [1, 0, 2, 3, 4, 5, 6, 7, 8, 9, 10] [(0, .ref 35), (1, .int 0), (2, .int (x2 + 1)), (3, .int x3), (4, .int x4), (5, .int x5), (6, .int x6), (7, .int (M 37 (Int32.toNatClampNeg x6))), (8, .int ((M 37 (Int32.toNatClampNeg x6)) - 97)), (9, .int (bI (inI ((M 37 (Int32.toNatClampNeg x6)) - 97) 0 (x2 - 1)))), (10, .int 0)] d_X_faultOf_247 rfl (by decide) rfl ?_
                refine zs_bipush (-6) d_X_faultOf_248 (by decide) ?_
                refine zs_istore_n2 3 [1, 2, 3, 0, 4, 5, 6, 7, 8, 9, 10] [(0, .ref 35), (1, .int 0), (2, .int (x2 + 1)), (3, .int (-6)), (4, .int x4), (5, .int x5), (6, .int x6), (7, .int (M 37 (Int32.toNatClampNeg x6))), (8, .int ((M 37 (Int32.toNatClampNeg x6)) - 97)), (9, .int (bI (inI ((M 37 (Int32.toNatClampNeg x6)) - 97) 0 (x2 - 1)))), (10, .int 0)] d_X_faultOf_250 rfl (by decide) rfl ?_
                refine zs_iconst 0 d_X_faultOf_251 (by decide) ?_
                refine zs_istore2 [1, 2, 3, 4, 0, 5, 6, 7, 8, 9, 10] [(0, .ref 35), (1, .int 0), (2, .int (x2 + 1)), (3, .int (-6)), (4, .int 0), (5, .int x5), (6, .int x6), (7, .int (M 37 (Int32.toNatClampNeg x6))), (8, .int ((M 37 (Int32.toNatClampNeg x6)) - 97)), (9, .int (bI (inI ((M 37 (Int32.toNatClampNeg x6)) - 97) 0 (x2 - 1)))), (10, .int 0)] d_X_faultOf_252 (by decide) rfl ?_
                refine zs_iload d_X_faultOf_254 (List.mem_of_getElem? (i := 10) rfl) ?_
                refine zs_if_ne 262 d_X_faultOf_256 (by decide) (fun c => absurd c (by decide)) (fun _ => ?_)
                refine zs_iload d_X_faultOf_259 (List.mem_of_getElem? (i := 6) rfl) ?_
                exact zs_iret d_X_faultOf_261 rfl h
              · replace h := h.2 c10
                refine zs_iload_n 1 d_X_faultOf_231 rfl (List.mem_of_getElem? (i := 1) rfl) ?_
                refine zs_iconst 4 d_X_faultOf_232 (by decide) ?_
                refine zs_icmp_le 240 d_X_faultOf_233 (by decide) (fun c11 => ?_) (fun c11 => ?_)
                · replace h := h.1 c11
                  refine zs_iconst 0 d_X_faultOf_240 (by decide) ?_
                  refine zs_istore2 [1, 2, 3, 4, 5, 6, 7, 8, 9, 10, 0] [(0, .ref 35), (1, .int x1), (2, .int x2), (3, .int x3), (4, .int x4), (5, .int x5), (6, .int x6), (7, .int (M 37 (Int32.toNatClampNeg x6))), (8, .int ((M 37 (Int32.toNatClampNeg x6)) - 97)), (9, .int (bI (inI ((M 37 (Int32.toNatClampNeg x6)) - 97) 0 (x2 - 1)))), (10, .int 0)] d_X_faultOf_241 (by decide) rfl ?_
                  refine zs_iinc2 2 (x2 + 1) [1, 2, 0, 3, 4, 5, 6, 7, 8, 9, 10] [(0, .ref 35), (1, .int x1), (2, .int (x2 + 1)), (3, .int x3), (4, .int x4), (5, .int x5), (6, .int x6), (7, .int (M 37 (Int32.toNatClampNeg x6))), (8, .int ((M 37 (Int32.toNatClampNeg x6)) - 97)), (9, .int (bI (inI ((M 37 (Int32.toNatClampNeg x6)) - 97) 0 (x2 - 1)))), (10, .int 0)] d_X_faultOf_243 rfl rfl (by decide) rfl ?_
                  refine zs_iconst 0 d_X_faultOf_246 (by decide) ?_
                  refine zs_istore_n2 1 [1, 0, 2, 3, 4, 5, 6, 7, 8, 9, 10] [(0, .ref 35), (1, .int 0), (2, .int (x2 + 1)), (3, .int x3), (4, .int x4), (5, .int x5), (6, .int x6), (7, .int (M 37 (Int32.toNatClampNeg x6))), (8, .int ((M 37 (Int32.toNatClampNeg x6)) - 97)), (9, .int (bI (inI ((M 37 (Int32.toNatClampNeg x6)) - 97) 0 (x2 - 1)))), (10, .int 0)] d_X_faultOf_247 rfl (by decide) rfl ?_
                  refine zs_bipush (-6) d_X_faultOf_248 (by decide) ?_
                  refine zs_istore_n2 3 [1, 2, 3, 0, 4, 5, 6, 7, 8, 9, 10] [(0, .ref 35), (1, .int 0), (2, .int (x2 + 1)), (3, .int (-6)), (4, .int x4), (5, .int x5), (6, .int x6), (7, .int (M 37 (Int32.toNatClampNeg x6))), (8, .int ((M 37 (Int32.toNatClampNeg x6)) - 97)), (9, .int (bI (inI ((M 37 (Int32.toNatClampNeg x6)) - 97) 0 (x2 - 1)))), (10, .int 0)] d_X_faultOf_250 rfl (by decide) rfl ?_
                  refine zs_iconst 0 d_X_faultOf_251 (by decide) ?_
                  refine zs_istore2 [1, 2, 3, 4, 0, 5, 6, 7, 8, 9, 10] [(0, .ref 35), (1, .int 0), (2, .int (x2 + 1)), (3, .int (-6)), (4, .int 0), (5, .int x5), (6, .int x6), (7, .int (M 37 (Int32.toNatClampNeg x6))), (8, .int ((M 37 (Int32.toNatClampNeg x6)) - 97)), (9, .int (bI (inI ((M 37 (Int32.toNatClampNeg x6)) - 97) 0 (x2 - 1)))), (10, .int 0)] d_X_faultOf_252 (by decide) rfl ?_
                  refine zs_iload d_X_faultOf_254 (List.mem_of_getElem? (i := 10) rfl) ?_
                  refine zs_if_ne 262 d_X_faultOf_256 (by decide) (fun c => absurd c (by decide)) (fun _ => ?_)
                  refine zs_iload d_X_faultOf_259 (List.mem_of_getElem? (i := 6) rfl) ?_
                  exact zs_iret d_X_faultOf_261 rfl h
                · replace h := h.2 c11
                  refine zs_iconst 1 d_X_faultOf_236 (by decide) ?_
                  refine zs_goto 241 d_X_faultOf_237 (by decide) ?_
                  refine zs_istore2 [1, 2, 3, 4, 5, 6, 7, 8, 9, 10, 0] [(0, .ref 35), (1, .int x1), (2, .int x2), (3, .int x3), (4, .int x4), (5, .int x5), (6, .int x6), (7, .int (M 37 (Int32.toNatClampNeg x6))), (8, .int ((M 37 (Int32.toNatClampNeg x6)) - 97)), (9, .int (bI (inI ((M 37 (Int32.toNatClampNeg x6)) - 97) 0 (x2 - 1)))), (10, .int 1)] d_X_faultOf_241 (by decide) rfl ?_
                  refine zs_iinc2 2 (x2 + 1) [1, 2, 0, 3, 4, 5, 6, 7, 8, 9, 10] [(0, .ref 35), (1, .int x1), (2, .int (x2 + 1)), (3, .int x3), (4, .int x4), (5, .int x5), (6, .int x6), (7, .int (M 37 (Int32.toNatClampNeg x6))), (8, .int ((M 37 (Int32.toNatClampNeg x6)) - 97)), (9, .int (bI (inI ((M 37 (Int32.toNatClampNeg x6)) - 97) 0 (x2 - 1)))), (10, .int 1)] d_X_faultOf_243 rfl rfl (by decide) rfl ?_
                  refine zs_iconst 0 d_X_faultOf_246 (by decide) ?_
                  refine zs_istore_n2 1 [1, 0, 2, 3, 4, 5, 6, 7, 8, 9, 10] [(0, .ref 35), (1, .int 0), (2, .int (x2 + 1)), (3, .int x3), (4, .int x4), (5, .int x5), (6, .int x6), (7, .int (M 37 (Int32.toNatClampNeg x6))), (8, .int ((M 37 (Int32.toNatClampNeg x6)) - 97)), (9, .int (bI (inI ((M 37 (Int32.toNatClampNeg x6)) - 97) 0 (x2 - 1)))), (10, .int 1)] d_X_faultOf_247 rfl (by decide) rfl ?_
                  refine zs_bipush (-6) d_X_faultOf_248 (by decide) ?_
                  refine zs_istore_n2 3 [1, 2, 3, 0, 4, 5, 6, 7, 8, 9, 10] [(0, .ref 35), (1, .int 0), (2, .int (x2 + 1)), (3, .int (-6)), (4, .int x4), (5, .int x5), (6, .int x6), (7, .int (M 37 (Int32.toNatClampNeg x6))), (8, .int ((M 37 (Int32.toNatClampNeg x6)) - 97)), (9, .int (bI (inI ((M 37 (Int32.toNatClampNeg x6)) - 97) 0 (x2 - 1)))), (10, .int 1)] d_X_faultOf_250 rfl (by decide) rfl ?_
                  refine zs_iconst 0 d_X_faultOf_251 (by decide) ?_
                  refine zs_istore2 [1, 2, 3, 4, 0, 5, 6, 7, 8, 9, 10] [(0, .ref 35), (1, .int 0), (2, .int (x2 + 1)), (3, .int (-6)), (4, .int 0), (5, .int x5), (6, .int x6), (7, .int (M 37 (Int32.toNatClampNeg x6))), (8, .int ((M 37 (Int32.toNatClampNeg x6)) - 97)), (9, .int (bI (inI ((M 37 (Int32.toNatClampNeg x6)) - 97) 0 (x2 - 1)))), (10, .int 1)] d_X_faultOf_252 (by decide) rfl ?_
                  refine zs_iload d_X_faultOf_254 (List.mem_of_getElem? (i := 10) rfl) ?_
                  refine zs_if_ne 262 d_X_faultOf_256 (by decide) (fun _ => ?_) (fun c => absurd c (by decide))
                  refine zs_iinc2 6 (x6 + 1) [1, 2, 3, 4, 5, 6, 0, 7, 8, 9, 10] [(0, .ref 35), (1, .int 0), (2, .int (x2 + 1)), (3, .int (-6)), (4, .int 0), (5, .int x5), (6, .int (x6 + 1)), (7, .int (M 37 (Int32.toNatClampNeg x6))), (8, .int ((M 37 (Int32.toNatClampNeg x6)) - 97)), (9, .int (bI (inI ((M 37 (Int32.toNatClampNeg x6)) - 97) 0 (x2 - 1)))), (10, .int 1)] d_X_faultOf_262 rfl rfl (by decide) rfl ?_
                  refine zs_goto 16 d_X_faultOf_265 (by decide) ?_
                  exact zRT_sub [0, 1, 2, 3, 4, 5, 6] rfl h
            · replace h := h.2 c9
              refine zs_iload d_X_faultOf_136 (List.mem_of_getElem? (i := 7) rfl) ?_
              refine zs_bipush 65 d_X_faultOf_138 (by decide) ?_
              refine zs_bipush 70 d_X_faultOf_140 (by decide) ?_
              refine zs_callS (kc := 0) (ks := 0) (kc1 := 0) (ks1 := 0) (st := []) [.int (M 37 (Int32.toNatClampNeg x6)), .int 65, .int 70] d_X_faultOf_142 lk_X_66 ⟨by decide, by decide⟩ rfl (Nat.le_of_ble_eq_true rfl) (ex_X_in g X M (M 37 (Int32.toNatClampNeg x6)) 65 70) (fun v12 sh12 M12 hR => ?_)
              obtain ⟨rfl, rfl, rfl⟩ := hR
              refine zs_if_eq 183 d_X_faultOf_145 (by decide) (fun c13 => ?_) (fun c13 => ?_)
              · replace h := h.1 (bI_0 c13)
                refine zs_iload_n 1 d_X_faultOf_183 rfl (List.mem_of_getElem? (i := 1) rfl) ?_
                refine zs_bipush 6 d_X_faultOf_184 (by decide) ?_
                refine zs_icmp_eq 224 d_X_faultOf_186 (by decide) (fun c => absurd c c9) (fun _ => ?_)
                refine zs_iload d_X_faultOf_189 (List.mem_of_getElem? (i := 7) rfl) ?_
                refine zs_bipush 63 d_X_faultOf_191 (by decide) ?_
                refine zs_icmp_ne 224 d_X_faultOf_193 (by decide) (fun c14 => ?_) (fun c14 => ?_)
                · replace h := h.1 c14
                  refine zs_iload d_X_faultOf_224 (List.mem_of_getElem? (i := 7) rfl) ?_
                  refine zs_bipush 59 d_X_faultOf_226 (by decide) ?_
                  refine zs_icmp_ne 240 d_X_faultOf_228 (by decide) (fun c15 => ?_) (fun c15 => ?_)
                  · replace h := h.1 c15
                    refine zs_iconst 0 d_X_faultOf_240 (by decide) ?_
                    refine zs_istore2 [1, 2, 3, 4, 5, 6, 7, 8, 9, 10, 0] [(0, .ref 35), (1, .int x1), (2, .int x2), (3, .int x3), (4, .int x4), (5, .int x5), (6, .int x6), (7, .int (M 37 (Int32.toNatClampNeg x6))), (8, .int ((M 37 (Int32.toNatClampNeg x6)) - 97)), (9, .int (bI (inI ((M 37 (Int32.toNatClampNeg x6)) - 97) 0 (x2 - 1)))), (10, .int 0)] d_X_faultOf_241 (by decide) rfl ?_
                    refine zs_iinc2 2 (x2 + 1) [1, 2, 0, 3, 4, 5, 6, 7, 8, 9, 10] [(0, .ref 35), (1, .int x1), (2, .int (x2 + 1)), (3, .int x3), (4, .int x4), (5, .int x5), (6, .int x6), (7, .int (M 37 (Int32.toNatClampNeg x6))), (8, .int ((M 37 (Int32.toNatClampNeg x6)) - 97)), (9, .int (bI (inI ((M 37 (Int32.toNatClampNeg x6)) - 97) 0 (x2 - 1)))), (10, .int 0)] d_X_faultOf_243 rfl rfl (by decide) rfl ?_
                    refine zs_iconst 0 d_X_faultOf_246 (by decide) ?_
                    refine zs_istore_n2 1 [1, 0, 2, 3, 4, 5, 6, 7, 8, 9, 10] [(0, .ref 35), (1, .int 0), (2, .int (x2 + 1)), (3, .int x3), (4, .int x4), (5, .int x5), (6, .int x6), (7, .int (M 37 (Int32.toNatClampNeg x6))), (8, .int ((M 37 (Int32.toNatClampNeg x6)) - 97)), (9, .int (bI (inI ((M 37 (Int32.toNatClampNeg x6)) - 97) 0 (x2 - 1)))), (10, .int 0)] d_X_faultOf_247 rfl (by decide) rfl ?_
                    refine zs_bipush (-6) d_X_faultOf_248 (by decide) ?_
                    refine zs_istore_n2 3 [1, 2, 3, 0, 4, 5, 6, 7, 8, 9, 10] [(0, .ref 35), (1, .int 0), (2, .int (x2 + 1)), (3, .int (-6)), (4, .int x4), (5, .int x5), (6, .int x6), (7, .int (M 37 (Int32.toNatClampNeg x6))), (8, .int ((M 37 (Int32.toNatClampNeg x6)) - 97)), (9, .int (bI (inI ((M 37 (Int32.toNatClampNeg x6)) - 97) 0 (x2 - 1)))), (10, .int 0)] d_X_faultOf_250 rfl (by decide) rfl ?_
                    refine zs_iconst 0 d_X_faultOf_251 (by decide) ?_
                    refine zs_istore2 [1, 2, 3, 4, 0, 5, 6, 7, 8, 9, 10] [(0, .ref 35), (1, .int 0), (2, .int (x2 + 1)), (3, .int (-6)), (4, .int 0), (5, .int x5), (6, .int x6), (7, .int (M 37 (Int32.toNatClampNeg x6))), (8, .int ((M 37 (Int32.toNatClampNeg x6)) - 97)), (9, .int (bI (inI ((M 37 (Int32.toNatClampNeg x6)) - 97) 0 (x2 - 1)))), (10, .int 0)] d_X_faultOf_252 (by decide) rfl ?_
                    refine zs_iload d_X_faultOf_254 (List.mem_of_getElem? (i := 10) rfl) ?_
                    refine zs_if_ne 262 d_X_faultOf_256 (by decide) (fun c => absurd c (by decide)) (fun _ => ?_)
                    refine zs_iload d_X_faultOf_259 (List.mem_of_getElem? (i := 6) rfl) ?_
                    exact zs_iret d_X_faultOf_261 rfl h
                  · replace h := h.2 c15
                    refine zs_iload_n 1 d_X_faultOf_231 rfl (List.mem_of_getElem? (i := 1) rfl) ?_
                    refine zs_iconst 4 d_X_faultOf_232 (by decide) ?_
                    refine zs_icmp_le 240 d_X_faultOf_233 (by decide) (fun c16 => ?_) (fun c16 => ?_)
                    · replace h := h.1 c16
                      refine zs_iconst 0 d_X_faultOf_240 (by decide) ?_
                      refine zs_istore2 [1, 2, 3, 4, 5, 6, 7, 8, 9, 10, 0] [(0, .ref 35), (1, .int x1), (2, .int x2), (3, .int x3), (4, .int x4), (5, .int x5), (6, .int x6), (7, .int (M 37 (Int32.toNatClampNeg x6))), (8, .int ((M 37 (Int32.toNatClampNeg x6)) - 97)), (9, .int (bI (inI ((M 37 (Int32.toNatClampNeg x6)) - 97) 0 (x2 - 1)))), (10, .int 0)] d_X_faultOf_241 (by decide) rfl ?_
                      refine zs_iinc2 2 (x2 + 1) [1, 2, 0, 3, 4, 5, 6, 7, 8, 9, 10] [(0, .ref 35), (1, .int x1), (2, .int (x2 + 1)), (3, .int x3), (4, .int x4), (5, .int x5), (6, .int x6), (7, .int (M 37 (Int32.toNatClampNeg x6))), (8, .int ((M 37 (Int32.toNatClampNeg x6)) - 97)), (9, .int (bI (inI ((M 37 (Int32.toNatClampNeg x6)) - 97) 0 (x2 - 1)))), (10, .int 0)] d_X_faultOf_243 rfl rfl (by decide) rfl ?_
                      refine zs_iconst 0 d_X_faultOf_246 (by decide) ?_
                      refine zs_istore_n2 1 [1, 0, 2, 3, 4, 5, 6, 7, 8, 9, 10] [(0, .ref 35), (1, .int 0), (2, .int (x2 + 1)), (3, .int x3), (4, .int x4), (5, .int x5), (6, .int x6), (7, .int (M 37 (Int32.toNatClampNeg x6))), (8, .int ((M 37 (Int32.toNatClampNeg x6)) - 97)), (9, .int (bI (inI ((M 37 (Int32.toNatClampNeg x6)) - 97) 0 (x2 - 1)))), (10, .int 0)] d_X_faultOf_247 rfl (by decide) rfl ?_
                      refine zs_bipush (-6) d_X_faultOf_248 (by decide) ?_
                      refine zs_istore_n2 3 [1, 2, 3, 0, 4, 5, 6, 7, 8, 9, 10] [(0, .ref 35), (1, .int 0), (2, .int (x2 + 1)), (3, .int (-6)), (4, .int x4), (5, .int x5), (6, .int x6), (7, .int (M 37 (Int32.toNatClampNeg x6))), (8, .int ((M 37 (Int32.toNatClampNeg x6)) - 97)), (9, .int (bI (inI ((M 37 (Int32.toNatClampNeg x6)) - 97) 0 (x2 - 1)))), (10, .int 0)] d_X_faultOf_250 rfl (by decide) rfl ?_
                      refine zs_iconst 0 d_X_faultOf_251 (by decide) ?_
                      refine zs_istore2 [1, 2, 3, 4, 0, 5, 6, 7, 8, 9, 10] [(0, .ref 35), (1, .int 0), (2, .int (x2 + 1)), (3, .int (-6)), (4, .int 0), (5, .int x5), (6, .int x6), (7, .int (M 37 (Int32.toNatClampNeg x6))), (8, .int ((M 37 (Int32.toNatClampNeg x6)) - 97)), (9, .int (bI (inI ((M 37 (Int32.toNatClampNeg x6)) - 97) 0 (x2 - 1)))), (10, .int 0)] d_X_faultOf_252 (by decide) rfl ?_
                      refine zs_iload d_X_faultOf_254 (List.mem_of_getElem? (i := 10) rfl) ?_
                      refine zs_if_ne 262 d_X_faultOf_256 (by decide) (fun c => absurd c (by decide)) (fun _ => ?_)
                      refine zs_iload d_X_faultOf_259 (List.mem_of_getElem? (i := 6) rfl) ?_
                      exact zs_iret d_X_faultOf_261 rfl h
                    · replace h := h.2 c16
                      refine zs_iconst 1 d_X_faultOf_236 (by decide) ?_
                      refine zs_goto 241 d_X_faultOf_237 (by decide) ?_
                      refine zs_istore2 [1, 2, 3, 4, 5, 6, 7, 8, 9, 10, 0] [(0, .ref 35), (1, .int x1), (2, .int x2), (3, .int x3), (4, .int x4), (5, .int x5), (6, .int x6), (7, .int (M 37 (Int32.toNatClampNeg x6))), (8, .int ((M 37 (Int32.toNatClampNeg x6)) - 97)), (9, .int (bI (inI ((M 37 (Int32.toNatClampNeg x6)) - 97) 0 (x2 - 1)))), (10, .int 1)] d_X_faultOf_241 (by decide) rfl ?_
                      refine zs_iinc2 2 (x2 + 1) [1, 2, 0, 3, 4, 5, 6, 7, 8, 9, 10] [(0, .ref 35), (1, .int x1), (2, .int (x2 + 1)), (3, .int x3), (4, .int x4), (5, .int x5), (6, .int x6), (7, .int (M 37 (Int32.toNatClampNeg x6))), (8, .int ((M 37 (Int32.toNatClampNeg x6)) - 97)), (9, .int (bI (inI ((M 37 (Int32.toNatClampNeg x6)) - 97) 0 (x2 - 1)))), (10, .int 1)] d_X_faultOf_243 rfl rfl (by decide) rfl ?_
                      refine zs_iconst 0 d_X_faultOf_246 (by decide) ?_
                      refine zs_istore_n2 1 [1, 0, 2, 3, 4, 5, 6, 7, 8, 9, 10] [(0, .ref 35), (1, .int 0), (2, .int (x2 + 1)), (3, .int x3), (4, .int x4), (5, .int x5), (6, .int x6), (7, .int (M 37 (Int32.toNatClampNeg x6))), (8, .int ((M 37 (Int32.toNatClampNeg x6)) - 97)), (9, .int (bI (inI ((M 37 (Int32.toNatClampNeg x6)) - 97) 0 (x2 - 1)))), (10, .int 1)] d_X_faultOf_247 rfl (by decide) rfl ?_
                      refine zs_bipush (-6) d_X_faultOf_248 (by decide) ?_
                      refine zs_istore_n2 3 [1, 2, 3, 0, 4, 5, 6, 7, 8, 9, 10] [(0, .ref 35), (1, .int 0), (2, .int (x2 + 1)), (3, .int (-6)), (4, .int x4), (5, .int x5), (6, .int x6), (7, .int (M 37 (Int32.toNatClampNeg x6))), (8, .int ((M 37 (Int32.toNatClampNeg x6)) - 97)), (9, .int (bI (inI ((M 37 (Int32.toNatClampNeg x6)) - 97) 0 (x2 - 1)))), (10, .int 1)] d_X_faultOf_250 rfl (by decide) rfl ?_
                      refine zs_iconst 0 d_X_faultOf_251 (by decide) ?_
                      refine zs_istore2 [1, 2, 3, 4, 0, 5, 6, 7, 8, 9, 10] [(0, .ref 35), (1, .int 0), (2, .int (x2 + 1)), (3, .int (-6)), (4, .int 0), (5, .int x5), (6, .int x6), (7, .int (M 37 (Int32.toNatClampNeg x6))), (8, .int ((M 37 (Int32.toNatClampNeg x6)) - 97)), (9, .int (bI (inI ((M 37 (Int32.toNatClampNeg x6)) - 97) 0 (x2 - 1)))), (10, .int 1)] d_X_faultOf_252 (by decide) rfl ?_
                      refine zs_iload d_X_faultOf_254 (List.mem_of_getElem? (i := 10) rfl) ?_
                      refine zs_if_ne 262 d_X_faultOf_256 (by decide) (fun _ => ?_) (fun c => absurd c (by decide))
                      refine zs_iinc2 6 (x6 + 1) [1, 2, 3, 4, 5, 6, 0, 7, 8, 9, 10] [(0, .ref 35), (1, .int 0), (2, .int (x2 + 1)), (3, .int (-6)), (4, .int 0), (5, .int x5), (6, .int (x6 + 1)), (7, .int (M 37 (Int32.toNatClampNeg x6))), (8, .int ((M 37 (Int32.toNatClampNeg x6)) - 97)), (9, .int (bI (inI ((M 37 (Int32.toNatClampNeg x6)) - 97) 0 (x2 - 1)))), (10, .int 1)] d_X_faultOf_262 rfl rfl (by decide) rfl ?_
                      refine zs_goto 16 d_X_faultOf_265 (by decide) ?_
                      exact zRT_sub [0, 1, 2, 3, 4, 5, 6] rfl h
                · replace h := h.2 c14
                  refine zs_iload d_X_faultOf_196 (List.mem_of_getElem? (i := 4) rfl) ?_
                  refine zs_iconst 3 d_X_faultOf_198 (by decide) ?_
                  refine zs_icmp_ge 212 d_X_faultOf_199 (by decide) (fun c17 => ?_) (fun c17 => ?_)
                  · replace h := h.1 c17
                    refine zs_iconst 0 d_X_faultOf_212 (by decide) ?_
                    refine zs_istore2 [1, 2, 3, 4, 5, 6, 7, 8, 9, 10, 0] [(0, .ref 35), (1, .int x1), (2, .int x2), (3, .int x3), (4, .int x4), (5, .int x5), (6, .int x6), (7, .int (M 37 (Int32.toNatClampNeg x6))), (8, .int ((M 37 (Int32.toNatClampNeg x6)) - 97)), (9, .int (bI (inI ((M 37 (Int32.toNatClampNeg x6)) - 97) 0 (x2 - 1)))), (10, .int 0)] d_X_faultOf_213 (by decide) rfl ?_
                    refine zs_iinc2 5 (x5 + 1) [1, 2, 3, 4, 5, 0, 6, 7, 8, 9, 10] [(0, .ref 35), (1, .int x1), (2, .int x2), (3, .int x3), (4, .int x4), (5, .int (x5 + 1)), (6, .int x6), (7, .int (M 37 (Int32.toNatClampNeg x6))), (8, .int ((M 37 (Int32.toNatClampNeg x6)) - 97)), (9, .int (bI (inI ((M 37 (Int32.toNatClampNeg x6)) - 97) 0 (x2 - 1)))), (10, .int 0)] d_X_faultOf_215 rfl rfl (by decide) rfl ?_
                    refine zs_bipush 6 d_X_faultOf_218 (by decide) ?_
                    refine zs_istore_n2 1 [1, 0, 2, 3, 4, 5, 6, 7, 8, 9, 10] [(0, .ref 35), (1, .int 6), (2, .int x2), (3, .int x3), (4, .int x4), (5, .int (x5 + 1)), (6, .int x6), (7, .int (M 37 (Int32.toNatClampNeg x6))), (8, .int ((M 37 (Int32.toNatClampNeg x6)) - 97)), (9, .int (bI (inI ((M 37 (Int32.toNatClampNeg x6)) - 97) 0 (x2 - 1)))), (10, .int 0)] d_X_faultOf_220 rfl (by decide) rfl ?_
                    refine zs_goto 254 d_X_faultOf_221 (by decide) ?_
                    refine zs_iload d_X_faultOf_254 (List.mem_of_getElem? (i := 10) rfl) ?_
                    refine zs_if_ne 262 d_X_faultOf_256 (by decide) (fun c => absurd c (by decide)) (fun _ => ?_)
                    refine zs_iload d_X_faultOf_259 (List.mem_of_getElem? (i := 6) rfl) ?_
                    exact zs_iret d_X_faultOf_261 rfl h
                  · replace h := h.2 c17
                    refine zs_iload d_X_faultOf_202 (List.mem_of_getElem? (i := 5) rfl) ?_
                    refine zs_iconst 4 d_X_faultOf_204 (by decide) ?_
                    refine zs_icmp_ge 212 d_X_faultOf_205 (by decide) (fun c18 => ?_) (fun c18 => ?_)
                    · replace h := h.1 c18
                      refine zs_iconst 0 d_X_faultOf_212 (by decide) ?_
                      refine zs_istore2 [1, 2, 3, 4, 5, 6, 7, 8, 9, 10, 0] [(0, .ref 35), (1, .int x1), (2, .int x2), (3, .int x3), (4, .int x4), (5, .int x5), (6, .int x6), (7, .int (M 37 (Int32.toNatClampNeg x6))), (8, .int ((M 37 (Int32.toNatClampNeg x6)) - 97)), (9, .int (bI (inI ((M 37 (Int32.toNatClampNeg x6)) - 97) 0 (x2 - 1)))), (10, .int 0)] d_X_faultOf_213 (by decide) rfl ?_
                      refine zs_iinc2 5 (x5 + 1) [1, 2, 3, 4, 5, 0, 6, 7, 8, 9, 10] [(0, .ref 35), (1, .int x1), (2, .int x2), (3, .int x3), (4, .int x4), (5, .int (x5 + 1)), (6, .int x6), (7, .int (M 37 (Int32.toNatClampNeg x6))), (8, .int ((M 37 (Int32.toNatClampNeg x6)) - 97)), (9, .int (bI (inI ((M 37 (Int32.toNatClampNeg x6)) - 97) 0 (x2 - 1)))), (10, .int 0)] d_X_faultOf_215 rfl rfl (by decide) rfl ?_
                      refine zs_bipush 6 d_X_faultOf_218 (by decide) ?_
                      refine zs_istore_n2 1 [1, 0, 2, 3, 4, 5, 6, 7, 8, 9, 10] [(0, .ref 35), (1, .int 6), (2, .int x2), (3, .int x3), (4, .int x4), (5, .int (x5 + 1)), (6, .int x6), (7, .int (M 37 (Int32.toNatClampNeg x6))), (8, .int ((M 37 (Int32.toNatClampNeg x6)) - 97)), (9, .int (bI (inI ((M 37 (Int32.toNatClampNeg x6)) - 97) 0 (x2 - 1)))), (10, .int 0)] d_X_faultOf_220 rfl (by decide) rfl ?_
                      refine zs_goto 254 d_X_faultOf_221 (by decide) ?_
                      refine zs_iload d_X_faultOf_254 (List.mem_of_getElem? (i := 10) rfl) ?_
                      refine zs_if_ne 262 d_X_faultOf_256 (by decide) (fun c => absurd c (by decide)) (fun _ => ?_)
                      refine zs_iload d_X_faultOf_259 (List.mem_of_getElem? (i := 6) rfl) ?_
                      exact zs_iret d_X_faultOf_261 rfl h
                    · replace h := h.2 c18
                      refine zs_iconst 1 d_X_faultOf_208 (by decide) ?_
                      refine zs_goto 213 d_X_faultOf_209 (by decide) ?_
                      refine zs_istore2 [1, 2, 3, 4, 5, 6, 7, 8, 9, 10, 0] [(0, .ref 35), (1, .int x1), (2, .int x2), (3, .int x3), (4, .int x4), (5, .int x5), (6, .int x6), (7, .int (M 37 (Int32.toNatClampNeg x6))), (8, .int ((M 37 (Int32.toNatClampNeg x6)) - 97)), (9, .int (bI (inI ((M 37 (Int32.toNatClampNeg x6)) - 97) 0 (x2 - 1)))), (10, .int 1)] d_X_faultOf_213 (by decide) rfl ?_
                      refine zs_iinc2 5 (x5 + 1) [1, 2, 3, 4, 5, 0, 6, 7, 8, 9, 10] [(0, .ref 35), (1, .int x1), (2, .int x2), (3, .int x3), (4, .int x4), (5, .int (x5 + 1)), (6, .int x6), (7, .int (M 37 (Int32.toNatClampNeg x6))), (8, .int ((M 37 (Int32.toNatClampNeg x6)) - 97)), (9, .int (bI (inI ((M 37 (Int32.toNatClampNeg x6)) - 97) 0 (x2 - 1)))), (10, .int 1)] d_X_faultOf_215 rfl rfl (by decide) rfl ?_
                      refine zs_bipush 6 d_X_faultOf_218 (by decide) ?_
                      refine zs_istore_n2 1 [1, 0, 2, 3, 4, 5, 6, 7, 8, 9, 10] [(0, .ref 35), (1, .int 6), (2, .int x2), (3, .int x3), (4, .int x4), (5, .int (x5 + 1)), (6, .int x6), (7, .int (M 37 (Int32.toNatClampNeg x6))), (8, .int ((M 37 (Int32.toNatClampNeg x6)) - 97)), (9, .int (bI (inI ((M 37 (Int32.toNatClampNeg x6)) - 97) 0 (x2 - 1)))), (10, .int 1)] d_X_faultOf_220 rfl (by decide) rfl ?_
                      refine zs_goto 254 d_X_faultOf_221 (by decide) ?_
                      refine zs_iload d_X_faultOf_254 (List.mem_of_getElem? (i := 10) rfl) ?_
                      refine zs_if_ne 262 d_X_faultOf_256 (by decide) (fun _ => ?_) (fun c => absurd c (by decide))
                      refine zs_iinc2 6 (x6 + 1) [1, 2, 3, 4, 5, 6, 0, 7, 8, 9, 10] [(0, .ref 35), (1, .int 6), (2, .int x2), (3, .int x3), (4, .int x4), (5, .int (x5 + 1)), (6, .int (x6 + 1)), (7, .int (M 37 (Int32.toNatClampNeg x6))), (8, .int ((M 37 (Int32.toNatClampNeg x6)) - 97)), (9, .int (bI (inI ((M 37 (Int32.toNatClampNeg x6)) - 97) 0 (x2 - 1)))), (10, .int 1)] d_X_faultOf_262 rfl rfl (by decide) rfl ?_
                      refine zs_goto 16 d_X_faultOf_265 (by decide) ?_
                      exact zRT_sub [0, 1, 2, 3, 4, 5, 6] rfl h
              · replace h := h.2 (bI_1 c13)
                refine zs_iload d_X_faultOf_148 (List.mem_of_getElem? (i := 4) rfl) ?_
                refine zs_iconst 3 d_X_faultOf_150 (by decide) ?_
                refine zs_icmp_ge 169 d_X_faultOf_151 (by decide) (fun c19 => ?_) (fun c19 => ?_)
                · replace h := h.1 c19
                  refine zs_iconst 0 d_X_faultOf_169 (by decide) ?_
                  refine zs_istore2 [1, 2, 3, 4, 5, 6, 7, 8, 9, 10, 0] [(0, .ref 35), (1, .int x1), (2, .int x2), (3, .int x3), (4, .int x4), (5, .int x5), (6, .int x6), (7, .int (M 37 (Int32.toNatClampNeg x6))), (8, .int ((M 37 (Int32.toNatClampNeg x6)) - 97)), (9, .int (bI (inI ((M 37 (Int32.toNatClampNeg x6)) - 97) 0 (x2 - 1)))), (10, .int 0)] d_X_faultOf_170 (by decide) rfl ?_
                  refine zs_iload d_X_faultOf_172 (List.mem_of_getElem? (i := 7) rfl) ?_
                  refine zs_istore_n2 3 [1, 2, 3, 0, 4, 5, 6, 7, 8, 9, 10] [(0, .ref 35), (1, .int x1), (2, .int x2), (3, .int (M 37 (Int32.toNatClampNeg x6))), (4, .int x4), (5, .int x5), (6, .int x6), (7, .int (M 37 (Int32.toNatClampNeg x6))), (8, .int ((M 37 (Int32.toNatClampNeg x6)) - 97)), (9, .int (bI (inI ((M 37 (Int32.toNatClampNeg x6)) - 97) 0 (x2 - 1)))), (10, .int 0)] d_X_faultOf_174 rfl (by decide) rfl ?_
                  refine zs_iinc2 4 (x4 + 1) [1, 2, 3, 4, 0, 5, 6, 7, 8, 9, 10] [(0, .ref 35), (1, .int x1), (2, .int x2), (3, .int (M 37 (Int32.toNatClampNeg x6))), (4, .int (x4 + 1)), (5, .int x5), (6, .int x6), (7, .int (M 37 (Int32.toNatClampNeg x6))), (8, .int ((M 37 (Int32.toNatClampNeg x6)) - 97)), (9, .int (bI (inI ((M 37 (Int32.toNatClampNeg x6)) - 97) 0 (x2 - 1)))), (10, .int 0)] d_X_faultOf_175 rfl rfl (by decide) rfl ?_
                  refine zs_iconst 5 d_X_faultOf_178 (by decide) ?_
                  refine zs_istore_n2 1 [1, 0, 2, 3, 4, 5, 6, 7, 8, 9, 10] [(0, .ref 35), (1, .int 5), (2, .int x2), (3, .int (M 37 (Int32.toNatClampNeg x6))), (4, .int (x4 + 1)), (5, .int x5), (6, .int x6), (7, .int (M 37 (Int32.toNatClampNeg x6))), (8, .int ((M 37 (Int32.toNatClampNeg x6)) - 97)), (9, .int (bI (inI ((M 37 (Int32.toNatClampNeg x6)) - 97) 0 (x2 - 1)))), (10, .int 0)] d_X_faultOf_179 rfl (by decide) rfl ?_
                  refine zs_goto 254 d_X_faultOf_180 (by decide) ?_
                  refine zs_iload d_X_faultOf_254 (List.mem_of_getElem? (i := 10) rfl) ?_
                  refine zs_if_ne 262 d_X_faultOf_256 (by decide) (fun c => absurd c (by decide)) (fun _ => ?_)
                  refine zs_iload d_X_faultOf_259 (List.mem_of_getElem? (i := 6) rfl) ?_
                  exact zs_iret d_X_faultOf_261 rfl h
                · replace h := h.2 c19
                  refine zs_iload d_X_faultOf_154 (List.mem_of_getElem? (i := 4) rfl) ?_
                  refine zs_if_eq 165 d_X_faultOf_156 (by decide) (fun c20 => ?_) (fun c20 => ?_)
                  · replace h := h.1 c20
                    refine zs_iconst 1 d_X_faultOf_165 (by decide) ?_
                    refine zs_goto 170 d_X_faultOf_166 (by decide) ?_
                    refine zs_istore2 [1, 2, 3, 4, 5, 6, 7, 8, 9, 10, 0] [(0, .ref 35), (1, .int x1), (2, .int x2), (3, .int x3), (4, .int x4), (5, .int x5), (6, .int x6), (7, .int (M 37 (Int32.toNatClampNeg x6))), (8, .int ((M 37 (Int32.toNatClampNeg x6)) - 97)), (9, .int (bI (inI ((M 37 (Int32.toNatClampNeg x6)) - 97) 0 (x2 - 1)))), (10, .int 1)] d_X_faultOf_170 (by decide) rfl ?_
                    refine zs_iload d_X_faultOf_172 (List.mem_of_getElem? (i := 7) rfl) ?_
                    refine zs_istore_n2 3 [1, 2, 3, 0, 4, 5, 6, 7, 8, 9, 10] [(0, .ref 35), (1, .int x1), (2, .int x2), (3, .int (M 37 (Int32.toNatClampNeg x6))), (4, .int x4), (5, .int x5), (6, .int x6), (7, .int (M 37 (Int32.toNatClampNeg x6))), (8, .int ((M 37 (Int32.toNatClampNeg x6)) - 97)), (9, .int (bI (inI ((M 37 (Int32.toNatClampNeg x6)) - 97) 0 (x2 - 1)))), (10, .int 1)] d_X_faultOf_174 rfl (by decide) rfl ?_
                    refine zs_iinc2 4 (x4 + 1) [1, 2, 3, 4, 0, 5, 6, 7, 8, 9, 10] [(0, .ref 35), (1, .int x1), (2, .int x2), (3, .int (M 37 (Int32.toNatClampNeg x6))), (4, .int (x4 + 1)), (5, .int x5), (6, .int x6), (7, .int (M 37 (Int32.toNatClampNeg x6))), (8, .int ((M 37 (Int32.toNatClampNeg x6)) - 97)), (9, .int (bI (inI ((M 37 (Int32.toNatClampNeg x6)) - 97) 0 (x2 - 1)))), (10, .int 1)] d_X_faultOf_175 rfl rfl (by decide) rfl ?_
                    refine zs_iconst 5 d_X_faultOf_178 (by decide) ?_
                    refine zs_istore_n2 1 [1, 0, 2, 3, 4, 5, 6, 7, 8, 9, 10] [(0, .ref 35), (1, .int 5), (2, .int x2), (3, .int (M 37 (Int32.toNatClampNeg x6))), (4, .int (x4 + 1)), (5, .int x5), (6, .int x6), (7, .int (M 37 (Int32.toNatClampNeg x6))), (8, .int ((M 37 (Int32.toNatClampNeg x6)) - 97)), (9, .int (bI (inI ((M 37 (Int32.toNatClampNeg x6)) - 97) 0 (x2 - 1)))), (10, .int 1)] d_X_faultOf_179 rfl (by decide) rfl ?_
                    refine zs_goto 254 d_X_faultOf_180 (by decide) ?_
                    refine zs_iload d_X_faultOf_254 (List.mem_of_getElem? (i := 10) rfl) ?_
                    refine zs_if_ne 262 d_X_faultOf_256 (by decide) (fun _ => ?_) (fun c => absurd c (by decide))
                    refine zs_iinc2 6 (x6 + 1) [1, 2, 3, 4, 5, 6, 0, 7, 8, 9, 10] [(0, .ref 35), (1, .int 5), (2, .int x2), (3, .int (M 37 (Int32.toNatClampNeg x6))), (4, .int (x4 + 1)), (5, .int x5), (6, .int (x6 + 1)), (7, .int (M 37 (Int32.toNatClampNeg x6))), (8, .int ((M 37 (Int32.toNatClampNeg x6)) - 97)), (9, .int (bI (inI ((M 37 (Int32.toNatClampNeg x6)) - 97) 0 (x2 - 1)))), (10, .int 1)] d_X_faultOf_262 rfl rfl (by decide) rfl ?_
                    refine zs_goto 16 d_X_faultOf_265 (by decide) ?_
                    exact zRT_sub [0, 1, 2, 3, 4, 5, 6] rfl h
                  · replace h := h.2 c20
                    refine zs_iload d_X_faultOf_159 (List.mem_of_getElem? (i := 7) rfl) ?_
                    refine zs_iload_n 3 d_X_faultOf_161 rfl (List.mem_of_getElem? (i := 3) rfl) ?_
                    refine zs_icmp_le 169 d_X_faultOf_162 (by decide) (fun c21 => ?_) (fun c21 => ?_)
                    · replace h := h.1 c21
                      refine zs_iconst 0 d_X_faultOf_169 (by decide) ?_
                      refine zs_istore2 [1, 2, 3, 4, 5, 6, 7, 8, 9, 10, 0] [(0, .ref 35), (1, .int x1), (2, .int x2), (3, .int x3), (4, .int x4), (5, .int x5), (6, .int x6), (7, .int (M 37 (Int32.toNatClampNeg x6))), (8, .int ((M 37 (Int32.toNatClampNeg x6)) - 97)), (9, .int (bI (inI ((M 37 (Int32.toNatClampNeg x6)) - 97) 0 (x2 - 1)))), (10, .int 0)] d_X_faultOf_170 (by decide) rfl ?_
                      refine zs_iload d_X_faultOf_172 (List.mem_of_getElem? (i := 7) rfl) ?_
                      refine zs_istore_n2 3 [1, 2, 3, 0, 4, 5, 6, 7, 8, 9, 10] [(0, .ref 35), (1, .int x1), (2, .int x2), (3, .int (M 37 (Int32.toNatClampNeg x6))), (4, .int x4), (5, .int x5), (6, .int x6), (7, .int (M 37 (Int32.toNatClampNeg x6))), (8, .int ((M 37 (Int32.toNatClampNeg x6)) - 97)), (9, .int (bI (inI ((M 37 (Int32.toNatClampNeg x6)) - 97) 0 (x2 - 1)))), (10, .int 0)] d_X_faultOf_174 rfl (by decide) rfl ?_
                      refine zs_iinc2 4 (x4 + 1) [1, 2, 3, 4, 0, 5, 6, 7, 8, 9, 10] [(0, .ref 35), (1, .int x1), (2, .int x2), (3, .int (M 37 (Int32.toNatClampNeg x6))), (4, .int (x4 + 1)), (5, .int x5), (6, .int x6), (7, .int (M 37 (Int32.toNatClampNeg x6))), (8, .int ((M 37 (Int32.toNatClampNeg x6)) - 97)), (9, .int (bI (inI ((M 37 (Int32.toNatClampNeg x6)) - 97) 0 (x2 - 1)))), (10, .int 0)] d_X_faultOf_175 rfl rfl (by decide) rfl ?_
                      refine zs_iconst 5 d_X_faultOf_178 (by decide) ?_
                      refine zs_istore_n2 1 [1, 0, 2, 3, 4, 5, 6, 7, 8, 9, 10] [(0, .ref 35), (1, .int 5), (2, .int x2), (3, .int (M 37 (Int32.toNatClampNeg x6))), (4, .int (x4 + 1)), (5, .int x5), (6, .int x6), (7, .int (M 37 (Int32.toNatClampNeg x6))), (8, .int ((M 37 (Int32.toNatClampNeg x6)) - 97)), (9, .int (bI (inI ((M 37 (Int32.toNatClampNeg x6)) - 97) 0 (x2 - 1)))), (10, .int 0)] d_X_faultOf_179 rfl (by decide) rfl ?_
                      refine zs_goto 254 d_X_faultOf_180 (by decide) ?_
                      refine zs_iload d_X_faultOf_254 (List.mem_of_getElem? (i := 10) rfl) ?_
                      refine zs_if_ne 262 d_X_faultOf_256 (by decide) (fun c => absurd c (by decide)) (fun _ => ?_)
                      refine zs_iload d_X_faultOf_259 (List.mem_of_getElem? (i := 6) rfl) ?_
                      exact zs_iret d_X_faultOf_261 rfl h
                    · replace h := h.2 c21
                      refine zs_iconst 1 d_X_faultOf_165 (by decide) ?_
                      refine zs_goto 170 d_X_faultOf_166 (by decide) ?_
                      refine zs_istore2 [1, 2, 3, 4, 5, 6, 7, 8, 9, 10, 0] [(0, .ref 35), (1, .int x1), (2, .int x2), (3, .int x3), (4, .int x4), (5, .int x5), (6, .int x6), (7, .int (M 37 (Int32.toNatClampNeg x6))), (8, .int ((M 37 (Int32.toNatClampNeg x6)) - 97)), (9, .int (bI (inI ((M 37 (Int32.toNatClampNeg x6)) - 97) 0 (x2 - 1)))), (10, .int 1)] d_X_faultOf_170 (by decide) rfl ?_
                      refine zs_iload d_X_faultOf_172 (List.mem_of_getElem? (i := 7) rfl) ?_
                      refine zs_istore_n2 3 [1, 2, 3, 0, 4, 5, 6, 7, 8, 9, 10] [(0, .ref 35), (1, .int x1), (2, .int x2), (3, .int (M 37 (Int32.toNatClampNeg x6))), (4, .int x4), (5, .int x5), (6, .int x6), (7, .int (M 37 (Int32.toNatClampNeg x6))), (8, .int ((M 37 (Int32.toNatClampNeg x6)) - 97)), (9, .int (bI (inI ((M 37 (Int32.toNatClampNeg x6)) - 97) 0 (x2 - 1)))), (10, .int 1)] d_X_faultOf_174 rfl (by decide) rfl ?_
                      refine zs_iinc2 4 (x4 + 1) [1, 2, 3, 4, 0, 5, 6, 7, 8, 9, 10] [(0, .ref 35), (1, .int x1), (2, .int x2), (3, .int (M 37 (Int32.toNatClampNeg x6))), (4, .int (x4 + 1)), (5, .int x5), (6, .int x6), (7, .int (M 37 (Int32.toNatClampNeg x6))), (8, .int ((M 37 (Int32.toNatClampNeg x6)) - 97)), (9, .int (bI (inI ((M 37 (Int32.toNatClampNeg x6)) - 97) 0 (x2 - 1)))), (10, .int 1)] d_X_faultOf_175 rfl rfl (by decide) rfl ?_
                      refine zs_iconst 5 d_X_faultOf_178 (by decide) ?_
                      refine zs_istore_n2 1 [1, 0, 2, 3, 4, 5, 6, 7, 8, 9, 10] [(0, .ref 35), (1, .int 5), (2, .int x2), (3, .int (M 37 (Int32.toNatClampNeg x6))), (4, .int (x4 + 1)), (5, .int x5), (6, .int x6), (7, .int (M 37 (Int32.toNatClampNeg x6))), (8, .int ((M 37 (Int32.toNatClampNeg x6)) - 97)), (9, .int (bI (inI ((M 37 (Int32.toNatClampNeg x6)) - 97) 0 (x2 - 1)))), (10, .int 1)] d_X_faultOf_179 rfl (by decide) rfl ?_
                      refine zs_goto 254 d_X_faultOf_180 (by decide) ?_
                      refine zs_iload d_X_faultOf_254 (List.mem_of_getElem? (i := 10) rfl) ?_
                      refine zs_if_ne 262 d_X_faultOf_256 (by decide) (fun _ => ?_) (fun c => absurd c (by decide))
                      refine zs_iinc2 6 (x6 + 1) [1, 2, 3, 4, 5, 6, 0, 7, 8, 9, 10] [(0, .ref 35), (1, .int 5), (2, .int x2), (3, .int (M 37 (Int32.toNatClampNeg x6))), (4, .int (x4 + 1)), (5, .int x5), (6, .int (x6 + 1)), (7, .int (M 37 (Int32.toNatClampNeg x6))), (8, .int ((M 37 (Int32.toNatClampNeg x6)) - 97)), (9, .int (bI (inI ((M 37 (Int32.toNatClampNeg x6)) - 97) 0 (x2 - 1)))), (10, .int 1)] d_X_faultOf_262 rfl rfl (by decide) rfl ?_
                      refine zs_goto 16 d_X_faultOf_265 (by decide) ?_
                      exact zRT_sub [0, 1, 2, 3, 4, 5, 6] rfl h
          · replace h := h.2 c8
            refine zs_iload d_X_faultOf_115 (List.mem_of_getElem? (i := 7) rfl) ?_
            refine zs_bipush 43 d_X_faultOf_117 (by decide) ?_
            refine zs_icmp_ne 130 d_X_faultOf_119 (by decide) (fun c22 => ?_) (fun c22 => ?_)
            · replace h := h.1 c22
              refine zs_iload_n 1 d_X_faultOf_130 rfl (List.mem_of_getElem? (i := 1) rfl) ?_
              refine zs_bipush 6 d_X_faultOf_131 (by decide) ?_
              refine zs_icmp_eq 183 d_X_faultOf_133 (by decide) (fun c23 => ?_) (fun c23 => ?_)
              · replace h := h.1 c23
                refine zs_iload_n 1 d_X_faultOf_183 rfl (List.mem_of_getElem? (i := 1) rfl) ?_
                refine zs_bipush 6 d_X_faultOf_184 (by decide) ?_
                refine zs_icmp_eq 224 d_X_faultOf_186 (by decide) (fun _ => ?_) (fun c => absurd c23 c)
                refine zs_iload d_X_faultOf_224 (List.mem_of_getElem? (i := 7) rfl) ?_
                refine zs_bipush 59 d_X_faultOf_226 (by decide) ?_
                refine zs_icmp_ne 240 d_X_faultOf_228 (by decide) (fun c24 => ?_) (fun c24 => ?_)
                · replace h := h.1 c24
                  refine zs_iconst 0 d_X_faultOf_240 (by decide) ?_
                  refine zs_istore2 [1, 2, 3, 4, 5, 6, 7, 8, 9, 10, 0] [(0, .ref 35), (1, .int x1), (2, .int x2), (3, .int x3), (4, .int x4), (5, .int x5), (6, .int x6), (7, .int (M 37 (Int32.toNatClampNeg x6))), (8, .int ((M 37 (Int32.toNatClampNeg x6)) - 97)), (9, .int (bI (inI ((M 37 (Int32.toNatClampNeg x6)) - 97) 0 (x2 - 1)))), (10, .int 0)] d_X_faultOf_241 (by decide) rfl ?_
                  refine zs_iinc2 2 (x2 + 1) [1, 2, 0, 3, 4, 5, 6, 7, 8, 9, 10] [(0, .ref 35), (1, .int x1), (2, .int (x2 + 1)), (3, .int x3), (4, .int x4), (5, .int x5), (6, .int x6), (7, .int (M 37 (Int32.toNatClampNeg x6))), (8, .int ((M 37 (Int32.toNatClampNeg x6)) - 97)), (9, .int (bI (inI ((M 37 (Int32.toNatClampNeg x6)) - 97) 0 (x2 - 1)))), (10, .int 0)] d_X_faultOf_243 rfl rfl (by decide) rfl ?_
                  refine zs_iconst 0 d_X_faultOf_246 (by decide) ?_
                  refine zs_istore_n2 1 [1, 0, 2, 3, 4, 5, 6, 7, 8, 9, 10] [(0, .ref 35), (1, .int 0), (2, .int (x2 + 1)), (3, .int x3), (4, .int x4), (5, .int x5), (6, .int x6), (7, .int (M 37 (Int32.toNatClampNeg x6))), (8, .int ((M 37 (Int32.toNatClampNeg x6)) - 97)), (9, .int (bI (inI ((M 37 (Int32.toNatClampNeg x6)) - 97) 0 (x2 - 1)))), (10, .int 0)] d_X_faultOf_247 rfl (by decide) rfl ?_
                  refine zs_bipush (-6) d_X_faultOf_248 (by decide) ?_
                  refine zs_istore_n2 3 [1, 2, 3, 0, 4, 5, 6, 7, 8, 9, 10] [(0, .ref 35), (1, .int 0), (2, .int (x2 + 1)), (3, .int (-6)), (4, .int x4), (5, .int x5), (6, .int x6), (7, .int (M 37 (Int32.toNatClampNeg x6))), (8, .int ((M 37 (Int32.toNatClampNeg x6)) - 97)), (9, .int (bI (inI ((M 37 (Int32.toNatClampNeg x6)) - 97) 0 (x2 - 1)))), (10, .int 0)] d_X_faultOf_250 rfl (by decide) rfl ?_
                  refine zs_iconst 0 d_X_faultOf_251 (by decide) ?_
                  refine zs_istore2 [1, 2, 3, 4, 0, 5, 6, 7, 8, 9, 10] [(0, .ref 35), (1, .int 0), (2, .int (x2 + 1)), (3, .int (-6)), (4, .int 0), (5, .int x5), (6, .int x6), (7, .int (M 37 (Int32.toNatClampNeg x6))), (8, .int ((M 37 (Int32.toNatClampNeg x6)) - 97)), (9, .int (bI (inI ((M 37 (Int32.toNatClampNeg x6)) - 97) 0 (x2 - 1)))), (10, .int 0)] d_X_faultOf_252 (by decide) rfl ?_
                  refine zs_iload d_X_faultOf_254 (List.mem_of_getElem? (i := 10) rfl) ?_
                  refine zs_if_ne 262 d_X_faultOf_256 (by decide) (fun c => absurd c (by decide)) (fun _ => ?_)
                  refine zs_iload d_X_faultOf_259 (List.mem_of_getElem? (i := 6) rfl) ?_
                  exact zs_iret d_X_faultOf_261 rfl h
                · replace h := h.2 c24
                  refine zs_iload_n 1 d_X_faultOf_231 rfl (List.mem_of_getElem? (i := 1) rfl) ?_
                  refine zs_iconst 4 d_X_faultOf_232 (by decide) ?_
                  refine zs_icmp_le 240 d_X_faultOf_233 (by decide) (fun c25 => ?_) (fun c25 => ?_)
                  · replace h := h.1 c25
                    refine zs_iconst 0 d_X_faultOf_240 (by decide) ?_
                    refine zs_istore2 [1, 2, 3, 4, 5, 6, 7, 8, 9, 10, 0] [(0, .ref 35), (1, .int x1), (2, .int x2), (3, .int x3), (4, .int x4), (5, .int x5), (6, .int x6), (7, .int (M 37 (Int32.toNatClampNeg x6))), (8, .int ((M 37 (Int32.toNatClampNeg x6)) - 97)), (9, .int (bI (inI ((M 37 (Int32.toNatClampNeg x6)) - 97) 0 (x2 - 1)))), (10, .int 0)] d_X_faultOf_241 (by decide) rfl ?_
                    refine zs_iinc2 2 (x2 + 1) [1, 2, 0, 3, 4, 5, 6, 7, 8, 9, 10] [(0, .ref 35), (1, .int x1), (2, .int (x2 + 1)), (3, .int x3), (4, .int x4), (5, .int x5), (6, .int x6), (7, .int (M 37 (Int32.toNatClampNeg x6))), (8, .int ((M 37 (Int32.toNatClampNeg x6)) - 97)), (9, .int (bI (inI ((M 37 (Int32.toNatClampNeg x6)) - 97) 0 (x2 - 1)))), (10, .int 0)] d_X_faultOf_243 rfl rfl (by decide) rfl ?_
                    refine zs_iconst 0 d_X_faultOf_246 (by decide) ?_
                    refine zs_istore_n2 1 [1, 0, 2, 3, 4, 5, 6, 7, 8, 9, 10] [(0, .ref 35), (1, .int 0), (2, .int (x2 + 1)), (3, .int x3), (4, .int x4), (5, .int x5), (6, .int x6), (7, .int (M 37 (Int32.toNatClampNeg x6))), (8, .int ((M 37 (Int32.toNatClampNeg x6)) - 97)), (9, .int (bI (inI ((M 37 (Int32.toNatClampNeg x6)) - 97) 0 (x2 - 1)))), (10, .int 0)] d_X_faultOf_247 rfl (by decide) rfl ?_
                    refine zs_bipush (-6) d_X_faultOf_248 (by decide) ?_
                    refine zs_istore_n2 3 [1, 2, 3, 0, 4, 5, 6, 7, 8, 9, 10] [(0, .ref 35), (1, .int 0), (2, .int (x2 + 1)), (3, .int (-6)), (4, .int x4), (5, .int x5), (6, .int x6), (7, .int (M 37 (Int32.toNatClampNeg x6))), (8, .int ((M 37 (Int32.toNatClampNeg x6)) - 97)), (9, .int (bI (inI ((M 37 (Int32.toNatClampNeg x6)) - 97) 0 (x2 - 1)))), (10, .int 0)] d_X_faultOf_250 rfl (by decide) rfl ?_
                    refine zs_iconst 0 d_X_faultOf_251 (by decide) ?_
                    refine zs_istore2 [1, 2, 3, 4, 0, 5, 6, 7, 8, 9, 10] [(0, .ref 35), (1, .int 0), (2, .int (x2 + 1)), (3, .int (-6)), (4, .int 0), (5, .int x5), (6, .int x6), (7, .int (M 37 (Int32.toNatClampNeg x6))), (8, .int ((M 37 (Int32.toNatClampNeg x6)) - 97)), (9, .int (bI (inI ((M 37 (Int32.toNatClampNeg x6)) - 97) 0 (x2 - 1)))), (10, .int 0)] d_X_faultOf_252 (by decide) rfl ?_
                    refine zs_iload d_X_faultOf_254 (List.mem_of_getElem? (i := 10) rfl) ?_
                    refine zs_if_ne 262 d_X_faultOf_256 (by decide) (fun c => absurd c (by decide)) (fun _ => ?_)
                    refine zs_iload d_X_faultOf_259 (List.mem_of_getElem? (i := 6) rfl) ?_
                    exact zs_iret d_X_faultOf_261 rfl h
                  · replace h := h.2 c25
                    refine zs_iconst 1 d_X_faultOf_236 (by decide) ?_
                    refine zs_goto 241 d_X_faultOf_237 (by decide) ?_
                    refine zs_istore2 [1, 2, 3, 4, 5, 6, 7, 8, 9, 10, 0] [(0, .ref 35), (1, .int x1), (2, .int x2), (3, .int x3), (4, .int x4), (5, .int x5), (6, .int x6), (7, .int (M 37 (Int32.toNatClampNeg x6))), (8, .int ((M 37 (Int32.toNatClampNeg x6)) - 97)), (9, .int (bI (inI ((M 37 (Int32.toNatClampNeg x6)) - 97) 0 (x2 - 1)))), (10, .int 1)] d_X_faultOf_241 (by decide) rfl ?_
                    refine zs_iinc2 2 (x2 + 1) [1, 2, 0, 3, 4, 5, 6, 7, 8, 9, 10] [(0, .ref 35), (1, .int x1), (2, .int (x2 + 1)), (3, .int x3), (4, .int x4), (5, .int x5), (6, .int x6), (7, .int (M 37 (Int32.toNatClampNeg x6))), (8, .int ((M 37 (Int32.toNatClampNeg x6)) - 97)), (9, .int (bI (inI ((M 37 (Int32.toNatClampNeg x6)) - 97) 0 (x2 - 1)))), (10, .int 1)] d_X_faultOf_243 rfl rfl (by decide) rfl ?_
                    refine zs_iconst 0 d_X_faultOf_246 (by decide) ?_
                    refine zs_istore_n2 1 [1, 0, 2, 3, 4, 5, 6, 7, 8, 9, 10] [(0, .ref 35), (1, .int 0), (2, .int (x2 + 1)), (3, .int x3), (4, .int x4), (5, .int x5), (6, .int x6), (7, .int (M 37 (Int32.toNatClampNeg x6))), (8, .int ((M 37 (Int32.toNatClampNeg x6)) - 97)), (9, .int (bI (inI ((M 37 (Int32.toNatClampNeg x6)) - 97) 0 (x2 - 1)))), (10, .int 1)] d_X_faultOf_247 rfl (by decide) rfl ?_
                    refine zs_bipush (-6) d_X_faultOf_248 (by decide) ?_
                    refine zs_istore_n2 3 [1, 2, 3, 0, 4, 5, 6, 7, 8, 9, 10] [(0, .ref 35), (1, .int 0), (2, .int (x2 + 1)), (3, .int (-6)), (4, .int x4), (5, .int x5), (6, .int x6), (7, .int (M 37 (Int32.toNatClampNeg x6))), (8, .int ((M 37 (Int32.toNatClampNeg x6)) - 97)), (9, .int (bI (inI ((M 37 (Int32.toNatClampNeg x6)) - 97) 0 (x2 - 1)))), (10, .int 1)] d_X_faultOf_250 rfl (by decide) rfl ?_
                    refine zs_iconst 0 d_X_faultOf_251 (by decide) ?_
                    refine zs_istore2 [1, 2, 3, 4, 0, 5, 6, 7, 8, 9, 10] [(0, .ref 35), (1, .int 0), (2, .int (x2 + 1)), (3, .int (-6)), (4, .int 0), (5, .int x5), (6, .int x6), (7, .int (M 37 (Int32.toNatClampNeg x6))), (8, .int ((M 37 (Int32.toNatClampNeg x6)) - 97)), (9, .int (bI (inI ((M 37 (Int32.toNatClampNeg x6)) - 97) 0 (x2 - 1)))), (10, .int 1)] d_X_faultOf_252 (by decide) rfl ?_
                    refine zs_iload d_X_faultOf_254 (List.mem_of_getElem? (i := 10) rfl) ?_
                    refine zs_if_ne 262 d_X_faultOf_256 (by decide) (fun _ => ?_) (fun c => absurd c (by decide))
                    refine zs_iinc2 6 (x6 + 1) [1, 2, 3, 4, 5, 6, 0, 7, 8, 9, 10] [(0, .ref 35), (1, .int 0), (2, .int (x2 + 1)), (3, .int (-6)), (4, .int 0), (5, .int x5), (6, .int (x6 + 1)), (7, .int (M 37 (Int32.toNatClampNeg x6))), (8, .int ((M 37 (Int32.toNatClampNeg x6)) - 97)), (9, .int (bI (inI ((M 37 (Int32.toNatClampNeg x6)) - 97) 0 (x2 - 1)))), (10, .int 1)] d_X_faultOf_262 rfl rfl (by decide) rfl ?_
                    refine zs_goto 16 d_X_faultOf_265 (by decide) ?_
                    exact zRT_sub [0, 1, 2, 3, 4, 5, 6] rfl h
              · replace h := h.2 c23
                refine zs_iload d_X_faultOf_136 (List.mem_of_getElem? (i := 7) rfl) ?_
                refine zs_bipush 65 d_X_faultOf_138 (by decide) ?_
                refine zs_bipush 70 d_X_faultOf_140 (by decide) ?_
                refine zs_callS (kc := 0) (ks := 0) (kc1 := 0) (ks1 := 0) (st := []) [.int (M 37 (Int32.toNatClampNeg x6)), .int 65, .int 70] d_X_faultOf_142 lk_X_66 ⟨by decide, by decide⟩ rfl (Nat.le_of_ble_eq_true rfl) (ex_X_in g X M (M 37 (Int32.toNatClampNeg x6)) 65 70) (fun v26 sh26 M26 hR => ?_)
                obtain ⟨rfl, rfl, rfl⟩ := hR
                refine zs_if_eq 183 d_X_faultOf_145 (by decide) (fun c27 => ?_) (fun c27 => ?_)
                · replace h := h.1 (bI_0 c27)
                  refine zs_iload_n 1 d_X_faultOf_183 rfl (List.mem_of_getElem? (i := 1) rfl) ?_
                  refine zs_bipush 6 d_X_faultOf_184 (by decide) ?_
                  refine zs_icmp_eq 224 d_X_faultOf_186 (by decide) (fun c => absurd c c23) (fun _ => ?_)
                  refine zs_iload d_X_faultOf_189 (List.mem_of_getElem? (i := 7) rfl) ?_
                  refine zs_bipush 63 d_X_faultOf_191 (by decide) ?_
                  refine zs_icmp_ne 224 d_X_faultOf_193 (by decide) (fun c28 => ?_) (fun c28 => ?_)
                  · replace h := h.1 c28
                    refine zs_iload d_X_faultOf_224 (List.mem_of_getElem? (i := 7) rfl) ?_
                    refine zs_bipush 59 d_X_faultOf_226 (by decide) ?_
                    refine zs_icmp_ne 240 d_X_faultOf_228 (by decide) (fun c29 => ?_) (fun c29 => ?_)
                    · replace h := h.1 c29
                      refine zs_iconst 0 d_X_faultOf_240 (by decide) ?_
                      refine zs_istore2 [1, 2, 3, 4, 5, 6, 7, 8, 9, 10, 0] [(0, .ref 35), (1, .int x1), (2, .int x2), (3, .int x3), (4, .int x4), (5, .int x5), (6, .int x6), (7, .int (M 37 (Int32.toNatClampNeg x6))), (8, .int ((M 37 (Int32.toNatClampNeg x6)) - 97)), (9, .int (bI (inI ((M 37 (Int32.toNatClampNeg x6)) - 97) 0 (x2 - 1)))), (10, .int 0)] d_X_faultOf_241 (by decide) rfl ?_
                      refine zs_iinc2 2 (x2 + 1) [1, 2, 0, 3, 4, 5, 6, 7, 8, 9, 10] [(0, .ref 35), (1, .int x1), (2, .int (x2 + 1)), (3, .int x3), (4, .int x4), (5, .int x5), (6, .int x6), (7, .int (M 37 (Int32.toNatClampNeg x6))), (8, .int ((M 37 (Int32.toNatClampNeg x6)) - 97)), (9, .int (bI (inI ((M 37 (Int32.toNatClampNeg x6)) - 97) 0 (x2 - 1)))), (10, .int 0)] d_X_faultOf_243 rfl rfl (by decide) rfl ?_
                      refine zs_iconst 0 d_X_faultOf_246 (by decide) ?_
                      refine zs_istore_n2 1 [1, 0, 2, 3, 4, 5, 6, 7, 8, 9, 10] [(0, .ref 35), (1, .int 0), (2, .int (x2 + 1)), (3, .int x3), (4, .int x4), (5, .int x5), (6, .int x6), (7, .int (M 37 (Int32.toNatClampNeg x6))), (8, .int ((M 37 (Int32.toNatClampNeg x6)) - 97)), (9, .int (bI (inI ((M 37 (Int32.toNatClampNeg x6)) - 97) 0 (x2 - 1)))), (10, .int 0)] d_X_faultOf_247 rfl (by decide) rfl ?_
                      refine zs_bipush (-6) d_X_faultOf_248 (by decide) ?_
                      refine zs_istore_n2 3 [1, 2, 3, 0, 4, 5, 6, 7, 8, 9, 10] [(0, .ref 35), (1, .int 0), (2, .int (x2 + 1)), (3, .int (-6)), (4, .int x4), (5, .int x5), (6, .int x6), (7, .int (M 37 (Int32.toNatClampNeg x6))), (8, .int ((M 37 (Int32.toNatClampNeg x6)) - 97)), (9, .int (bI (inI ((M 37 (Int32.toNatClampNeg x6)) - 97) 0 (x2 - 1)))), (10, .int 0)] d_X_faultOf_250 rfl (by decide) rfl ?_
                      refine zs_iconst 0 d_X_faultOf_251 (by decide) ?_
                      refine zs_istore2 [1, 2, 3, 4, 0, 5, 6, 7, 8, 9, 10] [(0, .ref 35), (1, .int 0), (2, .int (x2 + 1)), (3, .int (-6)), (4, .int 0), (5, .int x5), (6, .int x6), (7, .int (M 37 (Int32.toNatClampNeg x6))), (8, .int ((M 37 (Int32.toNatClampNeg x6)) - 97)), (9, .int (bI (inI ((M 37 (Int32.toNatClampNeg x6)) - 97) 0 (x2 - 1)))), (10, .int 0)] d_X_faultOf_252 (by decide) rfl ?_
                      refine zs_iload d_X_faultOf_254 (List.mem_of_getElem? (i := 10) rfl) ?_
                      refine zs_if_ne 262 d_X_faultOf_256 (by decide) (fun c => absurd c (by decide)) (fun _ => ?_)
                      refine zs_iload d_X_faultOf_259 (List.mem_of_getElem? (i := 6) rfl) ?_
                      exact zs_iret d_X_faultOf_261 rfl h
                    · replace h := h.2 c29
                      refine zs_iload_n 1 d_X_faultOf_231 rfl (List.mem_of_getElem? (i := 1) rfl) ?_
                      refine zs_iconst 4 d_X_faultOf_232 (by decide) ?_
                      refine zs_icmp_le 240 d_X_faultOf_233 (by decide) (fun c30 => ?_) (fun c30 => ?_)
                      · replace h := h.1 c30
                        refine zs_iconst 0 d_X_faultOf_240 (by decide) ?_
                        refine zs_istore2 [1, 2, 3, 4, 5, 6, 7, 8, 9, 10, 0] [(0, .ref 35), (1, .int x1), (2, .int x2), (3, .int x3), (4, .int x4), (5, .int x5), (6, .int x6), (7, .int (M 37 (Int32.toNatClampNeg x6))), (8, .int ((M 37 (Int32.toNatClampNeg x6)) - 97)), (9, .int (bI (inI ((M 37 (Int32.toNatClampNeg x6)) - 97) 0 (x2 - 1)))), (10, .int 0)] d_X_faultOf_241 (by decide) rfl ?_
                        refine zs_iinc2 2 (x2 + 1) [1, 2, 0, 3, 4, 5, 6, 7, 8, 9, 10] [(0, .ref 35), (1, .int x1), (2, .int (x2 + 1)), (3, .int x3), (4, .int x4), (5, .int x5), (6, .int x6), (7, .int (M 37 (Int32.toNatClampNeg x6))), (8, .int ((M 37 (Int32.toNatClampNeg x6)) - 97)), (9, .int (bI (inI ((M 37 (Int32.toNatClampNeg x6)) - 97) 0 (x2 - 1)))), (10, .int 0)] d_X_faultOf_243 rfl rfl (by decide) rfl ?_
                        refine zs_iconst 0 d_X_faultOf_246 (by decide) ?_
                        refine zs_istore_n2 1 [1, 0, 2, 3, 4, 5, 6, 7, 8, 9, 10] [(0, .ref 35), (1, .int 0), (2, .int (x2 + 1)), (3, .int x3), (4, .int x4), (5, .int x5), (6, .int x6), (7, .int (M 37 (Int32.toNatClampNeg x6))), (8, .int ((M 37 (Int32.toNatClampNeg x6)) - 97)), (9, .int (bI (inI ((M 37 (Int32.toNatClampNeg x6)) - 97) 0 (x2 - 1)))), (10, .int 0)] d_X_faultOf_247 rfl (by decide) rfl ?_
                        refine zs_bipush (-6) d_X_faultOf_248 (by decide) ?_
                        refine zs_istore_n2 3 [1, 2, 3, 0, 4, 5, 6, 7, 8, 9, 10] [(0, .ref 35), (1, .int 0), (2, .int (x2 + 1)), (3, .int (-6)), (4, .int x4), (5, .int x5), (6, .int x6), (7, .int (M 37 (Int32.toNatClampNeg x6))), (8, .int ((M 37 (Int32.toNatClampNeg x6)) - 97)), (9, .int (bI (inI ((M 37 (Int32.toNatClampNeg x6)) - 97) 0 (x2 - 1)))), (10, .int 0)] d_X_faultOf_250 rfl (by decide) rfl ?_
                        refine zs_iconst 0 d_X_faultOf_251 (by decide) ?_
                        refine zs_istore2 [1, 2, 3, 4, 0, 5, 6, 7, 8, 9, 10] [(0, .ref 35), (1, .int 0), (2, .int (x2 + 1)), (3, .int (-6)), (4, .int 0), (5, .int x5), (6, .int x6), (7, .int (M 37 (Int32.toNatClampNeg x6))), (8, .int ((M 37 (Int32.toNatClampNeg x6)) - 97)), (9, .int (bI (inI ((M 37 (Int32.toNatClampNeg x6)) - 97) 0 (x2 - 1)))), (10, .int 0)] d_X_faultOf_252 (by decide) rfl ?_
                        refine zs_iload d_X_faultOf_254 (List.mem_of_getElem? (i := 10) rfl) ?_
                        refine zs_if_ne 262 d_X_faultOf_256 (by decide) (fun c => absurd c (by decide)) (fun _ => ?_)
                        refine zs_iload d_X_faultOf_259 (List.mem_of_getElem? (i := 6) rfl) ?_
                        exact zs_iret d_X_faultOf_261 rfl h
                      · replace h := h.2 c30
                        refine zs_iconst 1 d_X_faultOf_236 (by decide) ?_
                        refine zs_goto 241 d_X_faultOf_237 (by decide) ?_
                        refine zs_istore2 [1, 2, 3, 4, 5, 6, 7, 8, 9, 10, 0] [(0, .ref 35), (1, .int x1), (2, .int x2), (3, .int x3), (4, .int x4), (5, .int x5), (6, .int x6), (7, .int (M 37 (Int32.toNatClampNeg x6))), (8, .int ((M 37 (Int32.toNatClampNeg x6)) - 97)), (9, .int (bI (inI ((M 37 (Int32.toNatClampNeg x6)) - 97) 0 (x2 - 1)))), (10, .int 1)] d_X_faultOf_241 (by decide) rfl ?_
                        refine zs_iinc2 2 (x2 + 1) [1, 2, 0, 3, 4, 5, 6, 7, 8, 9, 10] [(0, .ref 35), (1, .int x1), (2, .int (x2 + 1)), (3, .int x3), (4, .int x4), (5, .int x5), (6, .int x6), (7, .int (M 37 (Int32.toNatClampNeg x6))), (8, .int ((M 37 (Int32.toNatClampNeg x6)) - 97)), (9, .int (bI (inI ((M 37 (Int32.toNatClampNeg x6)) - 97) 0 (x2 - 1)))), (10, .int 1)] d_X_faultOf_243 rfl rfl (by decide) rfl ?_
                        refine zs_iconst 0 d_X_faultOf_246 (by decide) ?_
                        refine zs_istore_n2 1 [1, 0, 2, 3, 4, 5, 6, 7, 8, 9, 10] [(0, .ref 35), (1, .int 0), (2, .int (x2 + 1)), (3, .int x3), (4, .int x4), (5, .int x5), (6, .int x6), (7, .int (M 37 (Int32.toNatClampNeg x6))), (8, .int ((M 37 (Int32.toNatClampNeg x6)) - 97)), (9, .int (bI (inI ((M 37 (Int32.toNatClampNeg x6)) - 97) 0 (x2 - 1)))), (10, .int 1)] d_X_faultOf_247 rfl (by decide) rfl ?_
                        refine zs_bipush (-6) d_X_faultOf_248 (by decide) ?_
                        refine zs_istore_n2 3 [1, 2, 3, 0, 4, 5, 6, 7, 8, 9, 10] [(0, .ref 35), (1, .int 0), (2, .int (x2 + 1)), (3, .int (-6)), (4, .int x4), (5, .int x5), (6, .int x6), (7, .int (M 37 (Int32.toNatClampNeg x6))), (8, .int ((M 37 (Int32.toNatClampNeg x6)) - 97)), (9, .int (bI (inI ((M 37 (Int32.toNatClampNeg x6)) - 97) 0 (x2 - 1)))), (10, .int 1)] d_X_faultOf_250 rfl (by decide) rfl ?_
                        refine zs_iconst 0 d_X_faultOf_251 (by decide) ?_
                        refine zs_istore2 [1, 2, 3, 4, 0, 5, 6, 7, 8, 9, 10] [(0, .ref 35), (1, .int 0), (2, .int (x2 + 1)), (3, .int (-6)), (4, .int 0), (5, .int x5), (6, .int x6), (7, .int (M 37 (Int32.toNatClampNeg x6))), (8, .int ((M 37 (Int32.toNatClampNeg x6)) - 97)), (9, .int (bI (inI ((M 37 (Int32.toNatClampNeg x6)) - 97) 0 (x2 - 1)))), (10, .int 1)] d_X_faultOf_252 (by decide) rfl ?_
                        refine zs_iload d_X_faultOf_254 (List.mem_of_getElem? (i := 10) rfl) ?_
                        refine zs_if_ne 262 d_X_faultOf_256 (by decide) (fun _ => ?_) (fun c => absurd c (by decide))
                        refine zs_iinc2 6 (x6 + 1) [1, 2, 3, 4, 5, 6, 0, 7, 8, 9, 10] [(0, .ref 35), (1, .int 0), (2, .int (x2 + 1)), (3, .int (-6)), (4, .int 0), (5, .int x5), (6, .int (x6 + 1)), (7, .int (M 37 (Int32.toNatClampNeg x6))), (8, .int ((M 37 (Int32.toNatClampNeg x6)) - 97)), (9, .int (bI (inI ((M 37 (Int32.toNatClampNeg x6)) - 97) 0 (x2 - 1)))), (10, .int 1)] d_X_faultOf_262 rfl rfl (by decide) rfl ?_
                        refine zs_goto 16 d_X_faultOf_265 (by decide) ?_
                        exact zRT_sub [0, 1, 2, 3, 4, 5, 6] rfl h
                  · replace h := h.2 c28
                    refine zs_iload d_X_faultOf_196 (List.mem_of_getElem? (i := 4) rfl) ?_
                    refine zs_iconst 3 d_X_faultOf_198 (by decide) ?_
                    refine zs_icmp_ge 212 d_X_faultOf_199 (by decide) (fun c31 => ?_) (fun c31 => ?_)
                    · replace h := h.1 c31
                      refine zs_iconst 0 d_X_faultOf_212 (by decide) ?_
                      refine zs_istore2 [1, 2, 3, 4, 5, 6, 7, 8, 9, 10, 0] [(0, .ref 35), (1, .int x1), (2, .int x2), (3, .int x3), (4, .int x4), (5, .int x5), (6, .int x6), (7, .int (M 37 (Int32.toNatClampNeg x6))), (8, .int ((M 37 (Int32.toNatClampNeg x6)) - 97)), (9, .int (bI (inI ((M 37 (Int32.toNatClampNeg x6)) - 97) 0 (x2 - 1)))), (10, .int 0)] d_X_faultOf_213 (by decide) rfl ?_
                      refine zs_iinc2 5 (x5 + 1) [1, 2, 3, 4, 5, 0, 6, 7, 8, 9, 10] [(0, .ref 35), (1, .int x1), (2, .int x2), (3, .int x3), (4, .int x4), (5, .int (x5 + 1)), (6, .int x6), (7, .int (M 37 (Int32.toNatClampNeg x6))), (8, .int ((M 37 (Int32.toNatClampNeg x6)) - 97)), (9, .int (bI (inI ((M 37 (Int32.toNatClampNeg x6)) - 97) 0 (x2 - 1)))), (10, .int 0)] d_X_faultOf_215 rfl rfl (by decide) rfl ?_
                      refine zs_bipush 6 d_X_faultOf_218 (by decide) ?_
                      refine zs_istore_n2 1 [1, 0, 2, 3, 4, 5, 6, 7, 8, 9, 10] [(0, .ref 35), (1, .int 6), (2, .int x2), (3, .int x3), (4, .int x4), (5, .int (x5 + 1)), (6, .int x6), (7, .int (M 37 (Int32.toNatClampNeg x6))), (8, .int ((M 37 (Int32.toNatClampNeg x6)) - 97)), (9, .int (bI (inI ((M 37 (Int32.toNatClampNeg x6)) - 97) 0 (x2 - 1)))), (10, .int 0)] d_X_faultOf_220 rfl (by decide) rfl ?_
                      refine zs_goto 254 d_X_faultOf_221 (by decide) ?_
                      refine zs_iload d_X_faultOf_254 (List.mem_of_getElem? (i := 10) rfl) ?_
                      refine zs_if_ne 262 d_X_faultOf_256 (by decide) (fun c => absurd c (by decide)) (fun _ => ?_)
                      refine zs_iload d_X_faultOf_259 (List.mem_of_getElem? (i := 6) rfl) ?_
                      exact zs_iret d_X_faultOf_261 rfl h
                    · replace h := h.2 c31
                      refine zs_iload d_X_faultOf_202 (List.mem_of_getElem? (i := 5) rfl) ?_
                      refine zs_iconst 4 d_X_faultOf_204 (by decide) ?_
                      refine zs_icmp_ge 212 d_X_faultOf_205 (by decide) (fun c32 => ?_) (fun c32 => ?_)
                      · replace h := h.1 c32
                        refine zs_iconst 0 d_X_faultOf_212 (by decide) ?_
                        refine zs_istore2 [1, 2, 3, 4, 5, 6, 7, 8, 9, 10, 0] [(0, .ref 35), (1, .int x1), (2, .int x2), (3, .int x3), (4, .int x4), (5, .int x5), (6, .int x6), (7, .int (M 37 (Int32.toNatClampNeg x6))), (8, .int ((M 37 (Int32.toNatClampNeg x6)) - 97)), (9, .int (bI (inI ((M 37 (Int32.toNatClampNeg x6)) - 97) 0 (x2 - 1)))), (10, .int 0)] d_X_faultOf_213 (by decide) rfl ?_
                        refine zs_iinc2 5 (x5 + 1) [1, 2, 3, 4, 5, 0, 6, 7, 8, 9, 10] [(0, .ref 35), (1, .int x1), (2, .int x2), (3, .int x3), (4, .int x4), (5, .int (x5 + 1)), (6, .int x6), (7, .int (M 37 (Int32.toNatClampNeg x6))), (8, .int ((M 37 (Int32.toNatClampNeg x6)) - 97)), (9, .int (bI (inI ((M 37 (Int32.toNatClampNeg x6)) - 97) 0 (x2 - 1)))), (10, .int 0)] d_X_faultOf_215 rfl rfl (by decide) rfl ?_
                        refine zs_bipush 6 d_X_faultOf_218 (by decide) ?_
                        refine zs_istore_n2 1 [1, 0, 2, 3, 4, 5, 6, 7, 8, 9, 10] [(0, .ref 35), (1, .int 6), (2, .int x2), (3, .int x3), (4, .int x4), (5, .int (x5 + 1)), (6, .int x6), (7, .int (M 37 (Int32.toNatClampNeg x6))), (8, .int ((M 37 (Int32.toNatClampNeg x6)) - 97)), (9, .int (bI (inI ((M 37 (Int32.toNatClampNeg x6)) - 97) 0 (x2 - 1)))), (10, .int 0)] d_X_faultOf_220 rfl (by decide) rfl ?_
                        refine zs_goto 254 d_X_faultOf_221 (by decide) ?_
                        refine zs_iload d_X_faultOf_254 (List.mem_of_getElem? (i := 10) rfl) ?_
                        refine zs_if_ne 262 d_X_faultOf_256 (by decide) (fun c => absurd c (by decide)) (fun _ => ?_)
                        refine zs_iload d_X_faultOf_259 (List.mem_of_getElem? (i := 6) rfl) ?_
                        exact zs_iret d_X_faultOf_261 rfl h
                      · replace h := h.2 c32
                        refine zs_iconst 1 d_X_faultOf_208 (by decide) ?_
                        refine zs_goto 213 d_X_faultOf_209 (by decide) ?_
                        refine zs_istore2 [1, 2, 3, 4, 5, 6, 7, 8, 9, 10, 0] [(0, .ref 35), (1, .int x1), (2, .int x2), (3, .int x3), (4, .int x4), (5, .int x5), (6, .int x6), (7, .int (M 37 (Int32.toNatClampNeg x6))), (8, .int ((M 37 (Int32.toNatClampNeg x6)) - 97)), (9, .int (bI (inI ((M 37 (Int32.toNatClampNeg x6)) - 97) 0 (x2 - 1)))), (10, .int 1)] d_X_faultOf_213 (by decide) rfl ?_
                        refine zs_iinc2 5 (x5 + 1) [1, 2, 3, 4, 5, 0, 6, 7, 8, 9, 10] [(0, .ref 35), (1, .int x1), (2, .int x2), (3, .int x3), (4, .int x4), (5, .int (x5 + 1)), (6, .int x6), (7, .int (M 37 (Int32.toNatClampNeg x6))), (8, .int ((M 37 (Int32.toNatClampNeg x6)) - 97)), (9, .int (bI (inI ((M 37 (Int32.toNatClampNeg x6)) - 97) 0 (x2 - 1)))), (10, .int 1)] d_X_faultOf_215 rfl rfl (by decide) rfl ?_
                        refine zs_bipush 6 d_X_faultOf_218 (by decide) ?_
                        refine zs_istore_n2 1 [1, 0, 2, 3, 4, 5, 6, 7, 8, 9, 10] [(0, .ref 35), (1, .int 6), (2, .int x2), (3, .int x3), (4, .int x4), (5, .int (x5 + 1)), (6, .int x6), (7, .int (M 37 (Int32.toNatClampNeg x6))), (8, .int ((M 37 (Int32.toNatClampNeg x6)) - 97)), (9, .int (bI (inI ((M 37 (Int32.toNatClampNeg x6)) - 97) 0 (x2 - 1)))), (10, .int 1)] d_X_faultOf_220 rfl (by decide) rfl ?_
                        refine zs_goto 254 d_X_faultOf_221 (by decide) ?_
                        refine zs_iload d_X_faultOf_254 (List.mem_of_getElem? (i := 10) rfl) ?_
                        refine zs_if_ne 262 d_X_faultOf_256 (by decide) (fun _ => ?_) (fun c => absurd c (by decide))
                        refine zs_iinc2 6 (x6 + 1) [1, 2, 3, 4, 5, 6, 0, 7, 8, 9, 10] [(0, .ref 35), (1, .int 6), (2, .int x2), (3, .int x3), (4, .int x4), (5, .int (x5 + 1)), (6, .int (x6 + 1)), (7, .int (M 37 (Int32.toNatClampNeg x6))), (8, .int ((M 37 (Int32.toNatClampNeg x6)) - 97)), (9, .int (bI (inI ((M 37 (Int32.toNatClampNeg x6)) - 97) 0 (x2 - 1)))), (10, .int 1)] d_X_faultOf_262 rfl rfl (by decide) rfl ?_
                        refine zs_goto 16 d_X_faultOf_265 (by decide) ?_
                        exact zRT_sub [0, 1, 2, 3, 4, 5, 6] rfl h
                · replace h := h.2 (bI_1 c27)
                  refine zs_iload d_X_faultOf_148 (List.mem_of_getElem? (i := 4) rfl) ?_
                  refine zs_iconst 3 d_X_faultOf_150 (by decide) ?_
                  refine zs_icmp_ge 169 d_X_faultOf_151 (by decide) (fun c33 => ?_) (fun c33 => ?_)
                  · replace h := h.1 c33
                    refine zs_iconst 0 d_X_faultOf_169 (by decide) ?_
                    refine zs_istore2 [1, 2, 3, 4, 5, 6, 7, 8, 9, 10, 0] [(0, .ref 35), (1, .int x1), (2, .int x2), (3, .int x3), (4, .int x4), (5, .int x5), (6, .int x6), (7, .int (M 37 (Int32.toNatClampNeg x6))), (8, .int ((M 37 (Int32.toNatClampNeg x6)) - 97)), (9, .int (bI (inI ((M 37 (Int32.toNatClampNeg x6)) - 97) 0 (x2 - 1)))), (10, .int 0)] d_X_faultOf_170 (by decide) rfl ?_
                    refine zs_iload d_X_faultOf_172 (List.mem_of_getElem? (i := 7) rfl) ?_
                    refine zs_istore_n2 3 [1, 2, 3, 0, 4, 5, 6, 7, 8, 9, 10] [(0, .ref 35), (1, .int x1), (2, .int x2), (3, .int (M 37 (Int32.toNatClampNeg x6))), (4, .int x4), (5, .int x5), (6, .int x6), (7, .int (M 37 (Int32.toNatClampNeg x6))), (8, .int ((M 37 (Int32.toNatClampNeg x6)) - 97)), (9, .int (bI (inI ((M 37 (Int32.toNatClampNeg x6)) - 97) 0 (x2 - 1)))), (10, .int 0)] d_X_faultOf_174 rfl (by decide) rfl ?_
                    refine zs_iinc2 4 (x4 + 1) [1, 2, 3, 4, 0, 5, 6, 7, 8, 9, 10] [(0, .ref 35), (1, .int x1), (2, .int x2), (3, .int (M 37 (Int32.toNatClampNeg x6))), (4, .int (x4 + 1)), (5, .int x5), (6, .int x6), (7, .int (M 37 (Int32.toNatClampNeg x6))), (8, .int ((M 37 (Int32.toNatClampNeg x6)) - 97)), (9, .int (bI (inI ((M 37 (Int32.toNatClampNeg x6)) - 97) 0 (x2 - 1)))), (10, .int 0)] d_X_faultOf_175 rfl rfl (by decide) rfl ?_
                    refine zs_iconst 5 d_X_faultOf_178 (by decide) ?_
                    refine zs_istore_n2 1 [1, 0, 2, 3, 4, 5, 6, 7, 8, 9, 10] [(0, .ref 35), (1, .int 5), (2, .int x2), (3, .int (M 37 (Int32.toNatClampNeg x6))), (4, .int (x4 + 1)), (5, .int x5), (6, .int x6), (7, .int (M 37 (Int32.toNatClampNeg x6))), (8, .int ((M 37 (Int32.toNatClampNeg x6)) - 97)), (9, .int (bI (inI ((M 37 (Int32.toNatClampNeg x6)) - 97) 0 (x2 - 1)))), (10, .int 0)] d_X_faultOf_179 rfl (by decide) rfl ?_
                    refine zs_goto 254 d_X_faultOf_180 (by decide) ?_
                    refine zs_iload d_X_faultOf_254 (List.mem_of_getElem? (i := 10) rfl) ?_
                    refine zs_if_ne 262 d_X_faultOf_256 (by decide) (fun c => absurd c (by decide)) (fun _ => ?_)
                    refine zs_iload d_X_faultOf_259 (List.mem_of_getElem? (i := 6) rfl) ?_
                    exact zs_iret d_X_faultOf_261 rfl h
                  · replace h := h.2 c33
                    refine zs_iload d_X_faultOf_154 (List.mem_of_getElem? (i := 4) rfl) ?_
                    refine zs_if_eq 165 d_X_faultOf_156 (by decide) (fun c34 => ?_) (fun c34 => ?_)
                    · replace h := h.1 c34
                      refine zs_iconst 1 d_X_faultOf_165 (by decide) ?_
                      refine zs_goto 170 d_X_faultOf_166 (by decide) ?_
                      refine zs_istore2 [1, 2, 3, 4, 5, 6, 7, 8, 9, 10, 0] [(0, .ref 35), (1, .int x1), (2, .int x2), (3, .int x3), (4, .int x4), (5, .int x5), (6, .int x6), (7, .int (M 37 (Int32.toNatClampNeg x6))), (8, .int ((M 37 (Int32.toNatClampNeg x6)) - 97)), (9, .int (bI (inI ((M 37 (Int32.toNatClampNeg x6)) - 97) 0 (x2 - 1)))), (10, .int 1)] d_X_faultOf_170 (by decide) rfl ?_
                      refine zs_iload d_X_faultOf_172 (List.mem_of_getElem? (i := 7) rfl) ?_
                      refine zs_istore_n2 3 [1, 2, 3, 0, 4, 5, 6, 7, 8, 9, 10] [(0, .ref 35), (1, .int x1), (2, .int x2), (3, .int (M 37 (Int32.toNatClampNeg x6))), (4, .int x4), (5, .int x5), (6, .int x6), (7, .int (M 37 (Int32.toNatClampNeg x6))), (8, .int ((M 37 (Int32.toNatClampNeg x6)) - 97)), (9, .int (bI (inI ((M 37 (Int32.toNatClampNeg x6)) - 97) 0 (x2 - 1)))), (10, .int 1)] d_X_faultOf_174 rfl (by decide) rfl ?_
                      refine zs_iinc2 4 (x4 + 1) [1, 2, 3, 4, 0, 5, 6, 7, 8, 9, 10] [(0, .ref 35), (1, .int x1), (2, .int x2), (3, .int (M 37 (Int32.toNatClampNeg x6))), (4, .int (x4 + 1)), (5, .int x5), (6, .int x6), (7, .int (M 37 (Int32.toNatClampNeg x6))), (8, .int ((M 37 (Int32.toNatClampNeg x6)) - 97)), (9, .int (bI (inI ((M 37 (Int32.toNatClampNeg x6)) - 97) 0 (x2 - 1)))), (10, .int 1)] d_X_faultOf_175 rfl rfl (by decide) rfl ?_
                      refine zs_iconst 5 d_X_faultOf_178 (by decide) ?_
                      refine zs_istore_n2 1 [1, 0, 2, 3, 4, 5, 6, 7, 8, 9, 10] [(0, .ref 35), (1, .int 5), (2, .int x2), (3, .int (M 37 (Int32.toNatClampNeg x6))), (4, .int (x4 + 1)), (5, .int x5), (6, .int x6), (7, .int (M 37 (Int32.toNatClampNeg x6))), (8, .int ((M 37 (Int32.toNatClampNeg x6)) - 97)), (9, .int (bI (inI ((M 37 (Int32.toNatClampNeg x6)) - 97) 0 (x2 - 1)))), (10, .int 1)] d_X_faultOf_179 rfl (by decide) rfl ?_
                      refine zs_goto 254 d_X_faultOf_180 (by decide) ?_
                      refine zs_iload d_X_faultOf_254 (List.mem_of_getElem? (i := 10) rfl) ?_
                      refine zs_if_ne 262 d_X_faultOf_256 (by decide) (fun _ => ?_) (fun c => absurd c (by decide))
                      refine zs_iinc2 6 (x6 + 1) [1, 2, 3, 4, 5, 6, 0, 7, 8, 9, 10] [(0, .ref 35), (1, .int 5), (2, .int x2), (3, .int (M 37 (Int32.toNatClampNeg x6))), (4, .int (x4 + 1)), (5, .int x5), (6, .int (x6 + 1)), (7, .int (M 37 (Int32.toNatClampNeg x6))), (8, .int ((M 37 (Int32.toNatClampNeg x6)) - 97)), (9, .int (bI (inI ((M 37 (Int32.toNatClampNeg x6)) - 97) 0 (x2 - 1)))), (10, .int 1)] d_X_faultOf_262 rfl rfl (by decide) rfl ?_
                      refine zs_goto 16 d_X_faultOf_265 (by decide) ?_
                      exact zRT_sub [0, 1, 2, 3, 4, 5, 6] rfl h
                    · replace h := h.2 c34
                      refine zs_iload d_X_faultOf_159 (List.mem_of_getElem? (i := 7) rfl) ?_
                      refine zs_iload_n 3 d_X_faultOf_161 rfl (List.mem_of_getElem? (i := 3) rfl) ?_
                      refine zs_icmp_le 169 d_X_faultOf_162 (by decide) (fun c35 => ?_) (fun c35 => ?_)
                      · replace h := h.1 c35
                        refine zs_iconst 0 d_X_faultOf_169 (by decide) ?_
                        refine zs_istore2 [1, 2, 3, 4, 5, 6, 7, 8, 9, 10, 0] [(0, .ref 35), (1, .int x1), (2, .int x2), (3, .int x3), (4, .int x4), (5, .int x5), (6, .int x6), (7, .int (M 37 (Int32.toNatClampNeg x6))), (8, .int ((M 37 (Int32.toNatClampNeg x6)) - 97)), (9, .int (bI (inI ((M 37 (Int32.toNatClampNeg x6)) - 97) 0 (x2 - 1)))), (10, .int 0)] d_X_faultOf_170 (by decide) rfl ?_
                        refine zs_iload d_X_faultOf_172 (List.mem_of_getElem? (i := 7) rfl) ?_
                        refine zs_istore_n2 3 [1, 2, 3, 0, 4, 5, 6, 7, 8, 9, 10] [(0, .ref 35), (1, .int x1), (2, .int x2), (3, .int (M 37 (Int32.toNatClampNeg x6))), (4, .int x4), (5, .int x5), (6, .int x6), (7, .int (M 37 (Int32.toNatClampNeg x6))), (8, .int ((M 37 (Int32.toNatClampNeg x6)) - 97)), (9, .int (bI (inI ((M 37 (Int32.toNatClampNeg x6)) - 97) 0 (x2 - 1)))), (10, .int 0)] d_X_faultOf_174 rfl (by decide) rfl ?_
                        refine zs_iinc2 4 (x4 + 1) [1, 2, 3, 4, 0, 5, 6, 7, 8, 9, 10] [(0, .ref 35), (1, .int x1), (2, .int x2), (3, .int (M 37 (Int32.toNatClampNeg x6))), (4, .int (x4 + 1)), (5, .int x5), (6, .int x6), (7, .int (M 37 (Int32.toNatClampNeg x6))), (8, .int ((M 37 (Int32.toNatClampNeg x6)) - 97)), (9, .int (bI (inI ((M 37 (Int32.toNatClampNeg x6)) - 97) 0 (x2 - 1)))), (10, .int 0)] d_X_faultOf_175 rfl rfl (by decide) rfl ?_
                        refine zs_iconst 5 d_X_faultOf_178 (by decide) ?_
                        refine zs_istore_n2 1 [1, 0, 2, 3, 4, 5, 6, 7, 8, 9, 10] [(0, .ref 35), (1, .int 5), (2, .int x2), (3, .int (M 37 (Int32.toNatClampNeg x6))), (4, .int (x4 + 1)), (5, .int x5), (6, .int x6), (7, .int (M 37 (Int32.toNatClampNeg x6))), (8, .int ((M 37 (Int32.toNatClampNeg x6)) - 97)), (9, .int (bI (inI ((M 37 (Int32.toNatClampNeg x6)) - 97) 0 (x2 - 1)))), (10, .int 0)] d_X_faultOf_179 rfl (by decide) rfl ?_
                        refine zs_goto 254 d_X_faultOf_180 (by decide) ?_
                        refine zs_iload d_X_faultOf_254 (List.mem_of_getElem? (i := 10) rfl) ?_
                        refine zs_if_ne 262 d_X_faultOf_256 (by decide) (fun c => absurd c (by decide)) (fun _ => ?_)
                        refine zs_iload d_X_faultOf_259 (List.mem_of_getElem? (i := 6) rfl) ?_
                        exact zs_iret d_X_faultOf_261 rfl h
                      · replace h := h.2 c35
                        refine zs_iconst 1 d_X_faultOf_165 (by decide) ?_
                        refine zs_goto 170 d_X_faultOf_166 (by decide) ?_
                        refine zs_istore2 [1, 2, 3, 4, 5, 6, 7, 8, 9, 10, 0] [(0, .ref 35), (1, .int x1), (2, .int x2), (3, .int x3), (4, .int x4), (5, .int x5), (6, .int x6), (7, .int (M 37 (Int32.toNatClampNeg x6))), (8, .int ((M 37 (Int32.toNatClampNeg x6)) - 97)), (9, .int (bI (inI ((M 37 (Int32.toNatClampNeg x6)) - 97) 0 (x2 - 1)))), (10, .int 1)] d_X_faultOf_170 (by decide) rfl ?_
                        refine zs_iload d_X_faultOf_172 (List.mem_of_getElem? (i := 7) rfl) ?_
                        refine zs_istore_n2 3 [1, 2, 3, 0, 4, 5, 6, 7, 8, 9, 10] [(0, .ref 35), (1, .int x1), (2, .int x2), (3, .int (M 37 (Int32.toNatClampNeg x6))), (4, .int x4), (5, .int x5), (6, .int x6), (7, .int (M 37 (Int32.toNatClampNeg x6))), (8, .int ((M 37 (Int32.toNatClampNeg x6)) - 97)), (9, .int (bI (inI ((M 37 (Int32.toNatClampNeg x6)) - 97) 0 (x2 - 1)))), (10, .int 1)] d_X_faultOf_174 rfl (by decide) rfl ?_
                        refine zs_iinc2 4 (x4 + 1) [1, 2, 3, 4, 0, 5, 6, 7, 8, 9, 10] [(0, .ref 35), (1, .int x1), (2, .int x2), (3, .int (M 37 (Int32.toNatClampNeg x6))), (4, .int (x4 + 1)), (5, .int x5), (6, .int x6), (7, .int (M 37 (Int32.toNatClampNeg x6))), (8, .int ((M 37 (Int32.toNatClampNeg x6)) - 97)), (9, .int (bI (inI ((M 37 (Int32.toNatClampNeg x6)) - 97) 0 (x2 - 1)))), (10, .int 1)] d_X_faultOf_175 rfl rfl (by decide) rfl ?_
                        refine zs_iconst 5 d_X_faultOf_178 (by decide) ?_
                        refine zs_istore_n2 1 [1, 0, 2, 3, 4, 5, 6, 7, 8, 9, 10] [(0, .ref 35), (1, .int 5), (2, .int x2), (3, .int (M 37 (Int32.toNatClampNeg x6))), (4, .int (x4 + 1)), (5, .int x5), (6, .int x6), (7, .int (M 37 (Int32.toNatClampNeg x6))), (8, .int ((M 37 (Int32.toNatClampNeg x6)) - 97)), (9, .int (bI (inI ((M 37 (Int32.toNatClampNeg x6)) - 97) 0 (x2 - 1)))), (10, .int 1)] d_X_faultOf_179 rfl (by decide) rfl ?_
                        refine zs_goto 254 d_X_faultOf_180 (by decide) ?_
                        refine zs_iload d_X_faultOf_254 (List.mem_of_getElem? (i := 10) rfl) ?_
                        refine zs_if_ne 262 d_X_faultOf_256 (by decide) (fun _ => ?_) (fun c => absurd c (by decide))
                        refine zs_iinc2 6 (x6 + 1) [1, 2, 3, 4, 5, 6, 0, 7, 8, 9, 10] [(0, .ref 35), (1, .int 5), (2, .int x2), (3, .int (M 37 (Int32.toNatClampNeg x6))), (4, .int (x4 + 1)), (5, .int x5), (6, .int (x6 + 1)), (7, .int (M 37 (Int32.toNatClampNeg x6))), (8, .int ((M 37 (Int32.toNatClampNeg x6)) - 97)), (9, .int (bI (inI ((M 37 (Int32.toNatClampNeg x6)) - 97) 0 (x2 - 1)))), (10, .int 1)] d_X_faultOf_262 rfl rfl (by decide) rfl ?_
                        refine zs_goto 16 d_X_faultOf_265 (by decide) ?_
                        exact zRT_sub [0, 1, 2, 3, 4, 5, 6] rfl h
            · replace h := h.2 c22
              refine zs_iconst 1 d_X_faultOf_122 (by decide) ?_
              refine zs_istore2 [1, 2, 3, 4, 5, 6, 7, 8, 9, 10, 0] [(0, .ref 35), (1, .int x1), (2, .int x2), (3, .int x3), (4, .int x4), (5, .int x5), (6, .int x6), (7, .int (M 37 (Int32.toNatClampNeg x6))), (8, .int ((M 37 (Int32.toNatClampNeg x6)) - 97)), (9, .int (bI (inI ((M 37 (Int32.toNatClampNeg x6)) - 97) 0 (x2 - 1)))), (10, .int 1)] d_X_faultOf_123 (by decide) rfl ?_
              refine zs_iconst 3 d_X_faultOf_125 (by decide) ?_
              refine zs_istore_n2 1 [1, 0, 2, 3, 4, 5, 6, 7, 8, 9, 10] [(0, .ref 35), (1, .int 3), (2, .int x2), (3, .int x3), (4, .int x4), (5, .int x5), (6, .int x6), (7, .int (M 37 (Int32.toNatClampNeg x6))), (8, .int ((M 37 (Int32.toNatClampNeg x6)) - 97)), (9, .int (bI (inI ((M 37 (Int32.toNatClampNeg x6)) - 97) 0 (x2 - 1)))), (10, .int 1)] d_X_faultOf_126 rfl (by decide) rfl ?_
              refine zs_goto 254 d_X_faultOf_127 (by decide) ?_
              refine zs_iload d_X_faultOf_254 (List.mem_of_getElem? (i := 10) rfl) ?_
              refine zs_if_ne 262 d_X_faultOf_256 (by decide) (fun _ => ?_) (fun c => absurd c (by decide))
              refine zs_iinc2 6 (x6 + 1) [1, 2, 3, 4, 5, 6, 0, 7, 8, 9, 10] [(0, .ref 35), (1, .int 3), (2, .int x2), (3, .int x3), (4, .int x4), (5, .int x5), (6, .int (x6 + 1)), (7, .int (M 37 (Int32.toNatClampNeg x6))), (8, .int ((M 37 (Int32.toNatClampNeg x6)) - 97)), (9, .int (bI (inI ((M 37 (Int32.toNatClampNeg x6)) - 97) 0 (x2 - 1)))), (10, .int 1)] d_X_faultOf_262 rfl rfl (by decide) rfl ?_
              refine zs_goto 16 d_X_faultOf_265 (by decide) ?_
              exact zRT_sub [0, 1, 2, 3, 4, 5, 6] rfl h
        · replace h := h.2 c7
          refine zs_iload d_X_faultOf_101 (List.mem_of_getElem? (i := 9) rfl) ?_
          refine zs_istore2 [1, 2, 3, 4, 5, 6, 7, 8, 9, 10, 0] [(0, .ref 35), (1, .int x1), (2, .int x2), (3, .int x3), (4, .int x4), (5, .int x5), (6, .int x6), (7, .int (M 37 (Int32.toNatClampNeg x6))), (8, .int ((M 37 (Int32.toNatClampNeg x6)) - 97)), (9, .int (bI (inI ((M 37 (Int32.toNatClampNeg x6)) - 97) 0 (x2 - 1)))), (10, .int (bI (inI ((M 37 (Int32.toNatClampNeg x6)) - 97) 0 (x2 - 1))))] d_X_faultOf_103 (by decide) rfl ?_
          refine zs_iconst 4 d_X_faultOf_105 (by decide) ?_
          refine zs_istore_n2 1 [1, 0, 2, 3, 4, 5, 6, 7, 8, 9, 10] [(0, .ref 35), (1, .int 4), (2, .int x2), (3, .int x3), (4, .int x4), (5, .int x5), (6, .int x6), (7, .int (M 37 (Int32.toNatClampNeg x6))), (8, .int ((M 37 (Int32.toNatClampNeg x6)) - 97)), (9, .int (bI (inI ((M 37 (Int32.toNatClampNeg x6)) - 97) 0 (x2 - 1)))), (10, .int (bI (inI ((M 37 (Int32.toNatClampNeg x6)) - 97) 0 (x2 - 1))))] d_X_faultOf_106 rfl (by decide) rfl ?_
          refine zs_goto 254 d_X_faultOf_107 (by decide) ?_
          refine zs_iload d_X_faultOf_254 (List.mem_of_getElem? (i := 10) rfl) ?_
          refine zs_if_ne 262 d_X_faultOf_256 (by decide) (fun c36 => ?_) (fun c36 => ?_)
          · replace h := h.1 (bI_1 c36)
            refine zs_iinc2 6 (x6 + 1) [1, 2, 3, 4, 5, 6, 0, 7, 8, 9, 10] [(0, .ref 35), (1, .int 4), (2, .int x2), (3, .int x3), (4, .int x4), (5, .int x5), (6, .int (x6 + 1)), (7, .int (M 37 (Int32.toNatClampNeg x6))), (8, .int ((M 37 (Int32.toNatClampNeg x6)) - 97)), (9, .int (bI (inI ((M 37 (Int32.toNatClampNeg x6)) - 97) 0 (x2 - 1)))), (10, .int (bI (inI ((M 37 (Int32.toNatClampNeg x6)) - 97) 0 (x2 - 1))))] d_X_faultOf_262 rfl rfl (by decide) rfl ?_
            refine zs_goto 16 d_X_faultOf_265 (by decide) ?_
            exact zRT_sub [0, 1, 2, 3, 4, 5, 6] rfl h
          · replace h := h.2 (bI_0 c36)
            refine zs_iload d_X_faultOf_259 (List.mem_of_getElem? (i := 6) rfl) ?_
            exact zs_iret d_X_faultOf_261 rfl h
      · replace h := h.2 c6
        refine zs_iload d_X_faultOf_69 (List.mem_of_getElem? (i := 9) rfl) ?_
        refine zs_if_eq 96 d_X_faultOf_71 (by decide) (fun c37 => ?_) (fun c37 => ?_)
        · replace h := h.1 (bI_0 c37)
          refine zs_iload_n 1 d_X_faultOf_96 rfl (List.mem_of_getElem? (i := 1) rfl) ?_
          refine zs_iconst 3 d_X_faultOf_97 (by decide) ?_
          refine zs_icmp_ne 110 d_X_faultOf_98 (by decide) (fun c38 => ?_) (fun c38 => ?_)
          · replace h := h.1 c38
            refine zs_iload_n 1 d_X_faultOf_110 rfl (List.mem_of_getElem? (i := 1) rfl) ?_
            refine zs_iconst 3 d_X_faultOf_111 (by decide) ?_
            refine zs_icmp_ge 130 d_X_faultOf_112 (by decide) (fun c39 => ?_) (fun c39 => ?_)
            · replace h := h.1 c39
              refine zs_iload_n 1 d_X_faultOf_130 rfl (List.mem_of_getElem? (i := 1) rfl) ?_
              refine zs_bipush 6 d_X_faultOf_131 (by decide) ?_
              refine zs_icmp_eq 183 d_X_faultOf_133 (by decide) (fun c40 => ?_) (fun c40 => ?_)
              · replace h := h.1 c40
                refine zs_iload_n 1 d_X_faultOf_183 rfl (List.mem_of_getElem? (i := 1) rfl) ?_
                refine zs_bipush 6 d_X_faultOf_184 (by decide) ?_
                refine zs_icmp_eq 224 d_X_faultOf_186 (by decide) (fun _ => ?_) (fun c => absurd c40 c)
                refine zs_iload d_X_faultOf_224 (List.mem_of_getElem? (i := 7) rfl) ?_
                refine zs_bipush 59 d_X_faultOf_226 (by decide) ?_
                refine zs_icmp_ne 240 d_X_faultOf_228 (by decide) (fun c41 => ?_) (fun c41 => ?_)
                · replace h := h.1 c41
                  refine zs_iconst 0 d_X_faultOf_240 (by decide) ?_
                  refine zs_istore2 [1, 2, 3, 4, 5, 6, 7, 8, 9, 10, 0] [(0, .ref 35), (1, .int x1), (2, .int x2), (3, .int x3), (4, .int x4), (5, .int x5), (6, .int x6), (7, .int (M 37 (Int32.toNatClampNeg x6))), (8, .int ((M 37 (Int32.toNatClampNeg x6)) - 97)), (9, .int (bI (inI ((M 37 (Int32.toNatClampNeg x6)) - 97) 0 (x2 - 1)))), (10, .int 0)] d_X_faultOf_241 (by decide) rfl ?_
                  refine zs_iinc2 2 (x2 + 1) [1, 2, 0, 3, 4, 5, 6, 7, 8, 9, 10] [(0, .ref 35), (1, .int x1), (2, .int (x2 + 1)), (3, .int x3), (4, .int x4), (5, .int x5), (6, .int x6), (7, .int (M 37 (Int32.toNatClampNeg x6))), (8, .int ((M 37 (Int32.toNatClampNeg x6)) - 97)), (9, .int (bI (inI ((M 37 (Int32.toNatClampNeg x6)) - 97) 0 (x2 - 1)))), (10, .int 0)] d_X_faultOf_243 rfl rfl (by decide) rfl ?_
                  refine zs_iconst 0 d_X_faultOf_246 (by decide) ?_
                  refine zs_istore_n2 1 [1, 0, 2, 3, 4, 5, 6, 7, 8, 9, 10] [(0, .ref 35), (1, .int 0), (2, .int (x2 + 1)), (3, .int x3), (4, .int x4), (5, .int x5), (6, .int x6), (7, .int (M 37 (Int32.toNatClampNeg x6))), (8, .int ((M 37 (Int32.toNatClampNeg x6)) - 97)), (9, .int (bI (inI ((M 37 (Int32.toNatClampNeg x6)) - 97) 0 (x2 - 1)))), (10, .int 0)] d_X_faultOf_247 rfl (by decide) rfl ?_
                  refine zs_bipush (-6) d_X_faultOf_248 (by decide) ?_
                  refine zs_istore_n2 3 [1, 2, 3, 0, 4, 5, 6, 7, 8, 9, 10] [(0, .ref 35), (1, .int 0), (2, .int (x2 + 1)), (3, .int (-6)), (4, .int x4), (5, .int x5), (6, .int x6), (7, .int (M 37 (Int32.toNatClampNeg x6))), (8, .int ((M 37 (Int32.toNatClampNeg x6)) - 97)), (9, .int (bI (inI ((M 37 (Int32.toNatClampNeg x6)) - 97) 0 (x2 - 1)))), (10, .int 0)] d_X_faultOf_250 rfl (by decide) rfl ?_
                  refine zs_iconst 0 d_X_faultOf_251 (by decide) ?_
                  refine zs_istore2 [1, 2, 3, 4, 0, 5, 6, 7, 8, 9, 10] [(0, .ref 35), (1, .int 0), (2, .int (x2 + 1)), (3, .int (-6)), (4, .int 0), (5, .int x5), (6, .int x6), (7, .int (M 37 (Int32.toNatClampNeg x6))), (8, .int ((M 37 (Int32.toNatClampNeg x6)) - 97)), (9, .int (bI (inI ((M 37 (Int32.toNatClampNeg x6)) - 97) 0 (x2 - 1)))), (10, .int 0)] d_X_faultOf_252 (by decide) rfl ?_
                  refine zs_iload d_X_faultOf_254 (List.mem_of_getElem? (i := 10) rfl) ?_
                  refine zs_if_ne 262 d_X_faultOf_256 (by decide) (fun c => absurd c (by decide)) (fun _ => ?_)
                  refine zs_iload d_X_faultOf_259 (List.mem_of_getElem? (i := 6) rfl) ?_
                  exact zs_iret d_X_faultOf_261 rfl h
                · replace h := h.2 c41
                  refine zs_iload_n 1 d_X_faultOf_231 rfl (List.mem_of_getElem? (i := 1) rfl) ?_
                  refine zs_iconst 4 d_X_faultOf_232 (by decide) ?_
                  refine zs_icmp_le 240 d_X_faultOf_233 (by decide) (fun c42 => ?_) (fun c42 => ?_)
                  · replace h := h.1 c42
                    refine zs_iconst 0 d_X_faultOf_240 (by decide) ?_
                    refine zs_istore2 [1, 2, 3, 4, 5, 6, 7, 8, 9, 10, 0] [(0, .ref 35), (1, .int x1), (2, .int x2), (3, .int x3), (4, .int x4), (5, .int x5), (6, .int x6), (7, .int (M 37 (Int32.toNatClampNeg x6))), (8, .int ((M 37 (Int32.toNatClampNeg x6)) - 97)), (9, .int (bI (inI ((M 37 (Int32.toNatClampNeg x6)) - 97) 0 (x2 - 1)))), (10, .int 0)] d_X_faultOf_241 (by decide) rfl ?_
                    refine zs_iinc2 2 (x2 + 1) [1, 2, 0, 3, 4, 5, 6, 7, 8, 9, 10] [(0, .ref 35), (1, .int x1), (2, .int (x2 + 1)), (3, .int x3), (4, .int x4), (5, .int x5), (6, .int x6), (7, .int (M 37 (Int32.toNatClampNeg x6))), (8, .int ((M 37 (Int32.toNatClampNeg x6)) - 97)), (9, .int (bI (inI ((M 37 (Int32.toNatClampNeg x6)) - 97) 0 (x2 - 1)))), (10, .int 0)] d_X_faultOf_243 rfl rfl (by decide) rfl ?_
                    refine zs_iconst 0 d_X_faultOf_246 (by decide) ?_
                    refine zs_istore_n2 1 [1, 0, 2, 3, 4, 5, 6, 7, 8, 9, 10] [(0, .ref 35), (1, .int 0), (2, .int (x2 + 1)), (3, .int x3), (4, .int x4), (5, .int x5), (6, .int x6), (7, .int (M 37 (Int32.toNatClampNeg x6))), (8, .int ((M 37 (Int32.toNatClampNeg x6)) - 97)), (9, .int (bI (inI ((M 37 (Int32.toNatClampNeg x6)) - 97) 0 (x2 - 1)))), (10, .int 0)] d_X_faultOf_247 rfl (by decide) rfl ?_
                    refine zs_bipush (-6) d_X_faultOf_248 (by decide) ?_
                    refine zs_istore_n2 3 [1, 2, 3, 0, 4, 5, 6, 7, 8, 9, 10] [(0, .ref 35), (1, .int 0), (2, .int (x2 + 1)), (3, .int (-6)), (4, .int x4), (5, .int x5), (6, .int x6), (7, .int (M 37 (Int32.toNatClampNeg x6))), (8, .int ((M 37 (Int32.toNatClampNeg x6)) - 97)), (9, .int (bI (inI ((M 37 (Int32.toNatClampNeg x6)) - 97) 0 (x2 - 1)))), (10, .int 0)] d_X_faultOf_250 rfl (by decide) rfl ?_
                    refine zs_iconst 0 d_X_faultOf_251 (by decide) ?_
                    refine zs_istore2 [1, 2, 3, 4, 0, 5, 6, 7, 8, 9, 10] [(0, .ref 35), (1, .int 0), (2, .int (x2 + 1)), (3, .int (-6)), (4, .int 0), (5, .int x5), (6, .int x6), (7, .int (M 37 (Int32.toNatClampNeg x6))), (8, .int ((M 37 (Int32.toNatClampNeg x6)) - 97)), (9, .int (bI (inI ((M 37 (Int32.toNatClampNeg x6)) - 97) 0 (x2 - 1)))), (10, .int 0)] d_X_faultOf_252 (by decide) rfl ?_
                    refine zs_iload d_X_faultOf_254 (List.mem_of_getElem? (i := 10) rfl) ?_
                    refine zs_if_ne 262 d_X_faultOf_256 (by decide) (fun c => absurd c (by decide)) (fun _ => ?_)
                    refine zs_iload d_X_faultOf_259 (List.mem_of_getElem? (i := 6) rfl) ?_
                    exact zs_iret d_X_faultOf_261 rfl h
                  · replace h := h.2 c42
                    refine zs_iconst 1 d_X_faultOf_236 (by decide) ?_
                    refine zs_goto 241 d_X_faultOf_237 (by decide) ?_
                    refine zs_istore2 [1, 2, 3, 4, 5, 6, 7, 8, 9, 10, 0] [(0, .ref 35), (1, .int x1), (2, .int x2), (3, .int x3), (4, .int x4), (5, .int x5), (6, .int x6), (7, .int (M 37 (Int32.toNatClampNeg x6))), (8, .int ((M 37 (Int32.toNatClampNeg x6)) - 97)), (9, .int (bI (inI ((M 37 (Int32.toNatClampNeg x6)) - 97) 0 (x2 - 1)))), (10, .int 1)] d_X_faultOf_241 (by decide) rfl ?_
                    refine zs_iinc2 2 (x2 + 1) [1, 2, 0, 3, 4, 5, 6, 7, 8, 9, 10] [(0, .ref 35), (1, .int x1), (2, .int (x2 + 1)), (3, .int x3), (4, .int x4), (5, .int x5), (6, .int x6), (7, .int (M 37 (Int32.toNatClampNeg x6))), (8, .int ((M 37 (Int32.toNatClampNeg x6)) - 97)), (9, .int (bI (inI ((M 37 (Int32.toNatClampNeg x6)) - 97) 0 (x2 - 1)))), (10, .int 1)] d_X_faultOf_243 rfl rfl (by decide) rfl ?_
                    refine zs_iconst 0 d_X_faultOf_246 (by decide) ?_
                    refine zs_istore_n2 1 [1, 0, 2, 3, 4, 5, 6, 7, 8, 9, 10] [(0, .ref 35), (1, .int 0), (2, .int (x2 + 1)), (3, .int x3), (4, .int x4), (5, .int x5), (6, .int x6), (7, .int (M 37 (Int32.toNatClampNeg x6))), (8, .int ((M 37 (Int32.toNatClampNeg x6)) - 97)), (9, .int (bI (inI ((M 37 (Int32.toNatClampNeg x6)) - 97) 0 (x2 - 1)))), (10, .int 1)] d_X_faultOf_247 rfl (by decide) rfl ?_
                    refine zs_bipush (-6) d_X_faultOf_248 (by decide) ?_
                    refine zs_istore_n2 3 [1, 2, 3, 0, 4, 5, 6, 7, 8, 9, 10] [(0, .ref 35), (1, .int 0), (2, .int (x2 + 1)), (3, .int (-6)), (4, .int x4), (5, .int x5), (6, .int x6), (7, .int (M 37 (Int32.toNatClampNeg x6))), (8, .int ((M 37 (Int32.toNatClampNeg x6)) - 97)), (9, .int (bI (inI ((M 37 (Int32.toNatClampNeg x6)) - 97) 0 (x2 - 1)))), (10, .int 1)] d_X_faultOf_250 rfl (by decide) rfl ?_
                    refine zs_iconst 0 d_X_faultOf_251 (by decide) ?_
                    refine zs_istore2 [1, 2, 3, 4, 0, 5, 6, 7, 8, 9, 10] [(0, .ref 35), (1, .int 0), (2, .int (x2 + 1)), (3, .int (-6)), (4, .int 0), (5, .int x5), (6, .int x6), (7, .int (M 37 (Int32.toNatClampNeg x6))), (8, .int ((M 37 (Int32.toNatClampNeg x6)) - 97)), (9, .int (bI (inI ((M 37 (Int32.toNatClampNeg x6)) - 97) 0 (x2 - 1)))), (10, .int 1)] d_X_faultOf_252 (by decide) rfl ?_
                    refine zs_iload d_X_faultOf_254 (List.mem_of_getElem? (i := 10) rfl) ?_
                    refine zs_if_ne 262 d_X_faultOf_256 (by decide) (fun _ => ?_) (fun c => absurd c (by decide))
                    refine zs_iinc2 6 (x6 + 1) [1, 2, 3, 4, 5, 6, 0, 7, 8, 9, 10] [(0, .ref 35), (1, .int 0), (2, .int (x2 + 1)), (3, .int (-6)), (4, .int 0), (5, .int x5), (6, .int (x6 + 1)), (7, .int (M 37 (Int32.toNatClampNeg x6))), (8, .int ((M 37 (Int32.toNatClampNeg x6)) - 97)), (9, .int (bI (inI ((M 37 (Int32.toNatClampNeg x6)) - 97) 0 (x2 - 1)))), (10, .int 1)] d_X_faultOf_262 rfl rfl (by decide) rfl ?_
                    refine zs_goto 16 d_X_faultOf_265 (by decide) ?_
                    exact zRT_sub [0, 1, 2, 3, 4, 5, 6] rfl h
              · replace h := h.2 c40
                refine zs_iload d_X_faultOf_136 (List.mem_of_getElem? (i := 7) rfl) ?_
                refine zs_bipush 65 d_X_faultOf_138 (by decide) ?_
                refine zs_bipush 70 d_X_faultOf_140 (by decide) ?_
                refine zs_callS (kc := 0) (ks := 0) (kc1 := 0) (ks1 := 0) (st := []) [.int (M 37 (Int32.toNatClampNeg x6)), .int 65, .int 70] d_X_faultOf_142 lk_X_66 ⟨by decide, by decide⟩ rfl (Nat.le_of_ble_eq_true rfl) (ex_X_in g X M (M 37 (Int32.toNatClampNeg x6)) 65 70) (fun v43 sh43 M43 hR => ?_)
                obtain ⟨rfl, rfl, rfl⟩ := hR
                refine zs_if_eq 183 d_X_faultOf_145 (by decide) (fun c44 => ?_) (fun c44 => ?_)
                · replace h := h.1 (bI_0 c44)
                  refine zs_iload_n 1 d_X_faultOf_183 rfl (List.mem_of_getElem? (i := 1) rfl) ?_
                  refine zs_bipush 6 d_X_faultOf_184 (by decide) ?_
                  refine zs_icmp_eq 224 d_X_faultOf_186 (by decide) (fun c => absurd c c40) (fun _ => ?_)
                  refine zs_iload d_X_faultOf_189 (List.mem_of_getElem? (i := 7) rfl) ?_
                  refine zs_bipush 63 d_X_faultOf_191 (by decide) ?_
                  refine zs_icmp_ne 224 d_X_faultOf_193 (by decide) (fun c45 => ?_) (fun c45 => ?_)
                  · replace h := h.1 c45
                    refine zs_iload d_X_faultOf_224 (List.mem_of_getElem? (i := 7) rfl) ?_
                    refine zs_bipush 59 d_X_faultOf_226 (by decide) ?_
                    refine zs_icmp_ne 240 d_X_faultOf_228 (by decide) (fun c46 => ?_) (fun c46 => ?_)
                    · replace h := h.1 c46
                      refine zs_iconst 0 d_X_faultOf_240 (by decide) ?_
                      refine zs_istore2 [1, 2, 3, 4, 5, 6, 7, 8, 9, 10, 0] [(0, .ref 35), (1, .int x1), (2, .int x2), (3, .int x3), (4, .int x4), (5, .int x5), (6, .int x6), (7, .int (M 37 (Int32.toNatClampNeg x6))), (8, .int ((M 37 (Int32.toNatClampNeg x6)) - 97)), (9, .int (bI (inI ((M 37 (Int32.toNatClampNeg x6)) - 97) 0 (x2 - 1)))), (10, .int 0)] d_X_faultOf_241 (by decide) rfl ?_
                      refine zs_iinc2 2 (x2 + 1) [1, 2, 0, 3, 4, 5, 6, 7, 8, 9, 10] [(0, .ref 35), (1, .int x1), (2, .int (x2 + 1)), (3, .int x3), (4, .int x4), (5, .int x5), (6, .int x6), (7, .int (M 37 (Int32.toNatClampNeg x6))), (8, .int ((M 37 (Int32.toNatClampNeg x6)) - 97)), (9, .int (bI (inI ((M 37 (Int32.toNatClampNeg x6)) - 97) 0 (x2 - 1)))), (10, .int 0)] d_X_faultOf_243 rfl rfl (by decide) rfl ?_
                      refine zs_iconst 0 d_X_faultOf_246 (by decide) ?_
                      refine zs_istore_n2 1 [1, 0, 2, 3, 4, 5, 6, 7, 8, 9, 10] [(0, .ref 35), (1, .int 0), (2, .int (x2 + 1)), (3, .int x3), (4, .int x4), (5, .int x5), (6, .int x6), (7, .int (M 37 (Int32.toNatClampNeg x6))), (8, .int ((M 37 (Int32.toNatClampNeg x6)) - 97)), (9, .int (bI (inI ((M 37 (Int32.toNatClampNeg x6)) - 97) 0 (x2 - 1)))), (10, .int 0)] d_X_faultOf_247 rfl (by decide) rfl ?_
                      refine zs_bipush (-6) d_X_faultOf_248 (by decide) ?_
                      refine zs_istore_n2 3 [1, 2, 3, 0, 4, 5, 6, 7, 8, 9, 10] [(0, .ref 35), (1, .int 0), (2, .int (x2 + 1)), (3, .int (-6)), (4, .int x4), (5, .int x5), (6, .int x6), (7, .int (M 37 (Int32.toNatClampNeg x6))), (8, .int ((M 37 (Int32.toNatClampNeg x6)) - 97)), (9, .int (bI (inI ((M 37 (Int32.toNatClampNeg x6)) - 97) 0 (x2 - 1)))), (10, .int 0)] d_X_faultOf_250 rfl (by decide) rfl ?_
                      refine zs_iconst 0 d_X_faultOf_251 (by decide) ?_
                      refine zs_istore2 [1, 2, 3, 4, 0, 5, 6, 7, 8, 9, 10] [(0, .ref 35), (1, .int 0), (2, .int (x2 + 1)), (3, .int (-6)), (4, .int 0), (5, .int x5), (6, .int x6), (7, .int (M 37 (Int32.toNatClampNeg x6))), (8, .int ((M 37 (Int32.toNatClampNeg x6)) - 97)), (9, .int (bI (inI ((M 37 (Int32.toNatClampNeg x6)) - 97) 0 (x2 - 1)))), (10, .int 0)] d_X_faultOf_252 (by decide) rfl ?_
                      refine zs_iload d_X_faultOf_254 (List.mem_of_getElem? (i := 10) rfl) ?_
                      refine zs_if_ne 262 d_X_faultOf_256 (by decide) (fun c => absurd c (by decide)) (fun _ => ?_)
                      refine zs_iload d_X_faultOf_259 (List.mem_of_getElem? (i := 6) rfl) ?_
                      exact zs_iret d_X_faultOf_261 rfl h
                    · replace h := h.2 c46
                      refine zs_iload_n 1 d_X_faultOf_231 rfl (List.mem_of_getElem? (i := 1) rfl) ?_
                      refine zs_iconst 4 d_X_faultOf_232 (by decide) ?_
                      refine zs_icmp_le 240 d_X_faultOf_233 (by decide) (fun c47 => ?_) (fun c47 => ?_)
                      · replace h := h.1 c47
                        refine zs_iconst 0 d_X_faultOf_240 (by decide) ?_
                        refine zs_istore2 [1, 2, 3, 4, 5, 6, 7, 8, 9, 10, 0] [(0, .ref 35), (1, .int x1), (2, .int x2), (3, .int x3), (4, .int x4), (5, .int x5), (6, .int x6), (7, .int (M 37 (Int32.toNatClampNeg x6))), (8, .int ((M 37 (Int32.toNatClampNeg x6)) - 97)), (9, .int (bI (inI ((M 37 (Int32.toNatClampNeg x6)) - 97) 0 (x2 - 1)))), (10, .int 0)] d_X_faultOf_241 (by decide) rfl ?_
                        refine zs_iinc2 2 (x2 + 1) [1, 2, 0, 3, 4, 5, 6, 7, 8, 9, 10] [(0, .ref 35), (1, .int x1), (2, .int (x2 + 1)), (3, .int x3), (4, .int x4), (5, .int x5), (6, .int x6), (7, .int (M 37 (Int32.toNatClampNeg x6))), (8, .int ((M 37 (Int32.toNatClampNeg x6)) - 97)), (9, .int (bI (inI ((M 37 (Int32.toNatClampNeg x6)) - 97) 0 (x2 - 1)))), (10, .int 0)] d_X_faultOf_243 rfl rfl (by decide) rfl ?_
                        refine zs_iconst 0 d_X_faultOf_246 (by decide) ?_
                        refine zs_istore_n2 1 [1, 0, 2, 3, 4, 5, 6, 7, 8, 9, 10] [(0, .ref 35), (1, .int 0), (2, .int (x2 + 1)), (3, .int x3), (4, .int x4), (5, .int x5), (6, .int x6), (7, .int (M 37 (Int32.toNatClampNeg x6))), (8, .int ((M 37 (Int32.toNatClampNeg x6)) - 97)), (9, .int (bI (inI ((M 37 (Int32.toNatClampNeg x6)) - 97) 0 (x2 - 1)))), (10, .int 0)] d_X_faultOf_247 rfl (by decide) rfl ?_
                        refine zs_bipush (-6) d_X_faultOf_248 (by decide) ?_
                        refine zs_istore_n2 3 [1, 2, 3, 0, 4, 5, 6, 7, 8, 9, 10] [(0, .ref 35), (1, .int 0), (2, .int (x2 + 1)), (3, .int (-6)), (4, .int x4), (5, .int x5), (6, .int x6), (7, .int (M 37 (Int32.toNatClampNeg x6))), (8, .int ((M 37 (Int32.toNatClampNeg x6)) - 97)), (9, .int (bI (inI ((M 37 (Int32.toNatClampNeg x6)) - 97) 0 (x2 - 1)))), (10, .int 0)] d_X_faultOf_250 rfl (by decide) rfl ?_
                        refine zs_iconst 0 d_X_faultOf_251 (by decide) ?_
                        refine zs_istore2 [1, 2, 3, 4, 0, 5, 6, 7, 8, 9, 10] [(0, .ref 35), (1, .int 0), (2, .int (x2 + 1)), (3, .int (-6)), (4, .int 0), (5, .int x5), (6, .int x6), (7, .int (M 37 (Int32.toNatClampNeg x6))), (8, .int ((M 37 (Int32.toNatClampNeg x6)) - 97)), (9, .int (bI (inI ((M 37 (Int32.toNatClampNeg x6)) - 97) 0 (x2 - 1)))), (10, .int 0)] d_X_faultOf_252 (by decide) rfl ?_
                        refine zs_iload d_X_faultOf_254 (List.mem_of_getElem? (i := 10) rfl) ?_
                        refine zs_if_ne 262 d_X_faultOf_256 (by decide) (fun c => absurd c (by decide)) (fun _ => ?_)
                        refine zs_iload d_X_faultOf_259 (List.mem_of_getElem? (i := 6) rfl) ?_
                        exact zs_iret d_X_faultOf_261 rfl h
                      · replace h := h.2 c47
                        refine zs_iconst 1 d_X_faultOf_236 (by decide) ?_
                        refine zs_goto 241 d_X_faultOf_237 (by decide) ?_
                        refine zs_istore2 [1, 2, 3, 4, 5, 6, 7, 8, 9, 10, 0] [(0, .ref 35), (1, .int x1), (2, .int x2), (3, .int x3), (4, .int x4), (5, .int x5), (6, .int x6), (7, .int (M 37 (Int32.toNatClampNeg x6))), (8, .int ((M 37 (Int32.toNatClampNeg x6)) - 97)), (9, .int (bI (inI ((M 37 (Int32.toNatClampNeg x6)) - 97) 0 (x2 - 1)))), (10, .int 1)] d_X_faultOf_241 (by decide) rfl ?_
                        refine zs_iinc2 2 (x2 + 1) [1, 2, 0, 3, 4, 5, 6, 7, 8, 9, 10] [(0, .ref 35), (1, .int x1), (2, .int (x2 + 1)), (3, .int x3), (4, .int x4), (5, .int x5), (6, .int x6), (7, .int (M 37 (Int32.toNatClampNeg x6))), (8, .int ((M 37 (Int32.toNatClampNeg x6)) - 97)), (9, .int (bI (inI ((M 37 (Int32.toNatClampNeg x6)) - 97) 0 (x2 - 1)))), (10, .int 1)] d_X_faultOf_243 rfl rfl (by decide) rfl ?_
                        refine zs_iconst 0 d_X_faultOf_246 (by decide) ?_
                        refine zs_istore_n2 1 [1, 0, 2, 3, 4, 5, 6, 7, 8, 9, 10] [(0, .ref 35), (1, .int 0), (2, .int (x2 + 1)), (3, .int x3), (4, .int x4), (5, .int x5), (6, .int x6), (7, .int (M 37 (Int32.toNatClampNeg x6))), (8, .int ((M 37 (Int32.toNatClampNeg x6)) - 97)), (9, .int (bI (inI ((M 37 (Int32.toNatClampNeg x6)) - 97) 0 (x2 - 1)))), (10, .int 1)] d_X_faultOf_247 rfl (by decide) rfl ?_
                        refine zs_bipush (-6) d_X_faultOf_248 (by decide) ?_
                        refine zs_istore_n2 3 [1, 2, 3, 0, 4, 5, 6, 7, 8, 9, 10] [(0, .ref 35), (1, .int 0), (2, .int (x2 + 1)), (3, .int (-6)), (4, .int x4), (5, .int x5), (6, .int x6), (7, .int (M 37 (Int32.toNatClampNeg x6))), (8, .int ((M 37 (Int32.toNatClampNeg x6)) - 97)), (9, .int (bI (inI ((M 37 (Int32.toNatClampNeg x6)) - 97) 0 (x2 - 1)))), (10, .int 1)] d_X_faultOf_250 rfl (by decide) rfl ?_
                        refine zs_iconst 0 d_X_faultOf_251 (by decide) ?_
                        refine zs_istore2 [1, 2, 3, 4, 0, 5, 6, 7, 8, 9, 10] [(0, .ref 35), (1, .int 0), (2, .int (x2 + 1)), (3, .int (-6)), (4, .int 0), (5, .int x5), (6, .int x6), (7, .int (M 37 (Int32.toNatClampNeg x6))), (8, .int ((M 37 (Int32.toNatClampNeg x6)) - 97)), (9, .int (bI (inI ((M 37 (Int32.toNatClampNeg x6)) - 97) 0 (x2 - 1)))), (10, .int 1)] d_X_faultOf_252 (by decide) rfl ?_
                        refine zs_iload d_X_faultOf_254 (List.mem_of_getElem? (i := 10) rfl) ?_
                        refine zs_if_ne 262 d_X_faultOf_256 (by decide) (fun _ => ?_) (fun c => absurd c (by decide))
                        refine zs_iinc2 6 (x6 + 1) [1, 2, 3, 4, 5, 6, 0, 7, 8, 9, 10] [(0, .ref 35), (1, .int 0), (2, .int (x2 + 1)), (3, .int (-6)), (4, .int 0), (5, .int x5), (6, .int (x6 + 1)), (7, .int (M 37 (Int32.toNatClampNeg x6))), (8, .int ((M 37 (Int32.toNatClampNeg x6)) - 97)), (9, .int (bI (inI ((M 37 (Int32.toNatClampNeg x6)) - 97) 0 (x2 - 1)))), (10, .int 1)] d_X_faultOf_262 rfl rfl (by decide) rfl ?_
                        refine zs_goto 16 d_X_faultOf_265 (by decide) ?_
                        exact zRT_sub [0, 1, 2, 3, 4, 5, 6] rfl h
                  · replace h := h.2 c45
                    refine zs_iload d_X_faultOf_196 (List.mem_of_getElem? (i := 4) rfl) ?_
                    refine zs_iconst 3 d_X_faultOf_198 (by decide) ?_
                    refine zs_icmp_ge 212 d_X_faultOf_199 (by decide) (fun c48 => ?_) (fun c48 => ?_)
                    · replace h := h.1 c48
                      refine zs_iconst 0 d_X_faultOf_212 (by decide) ?_
                      refine zs_istore2 [1, 2, 3, 4, 5, 6, 7, 8, 9, 10, 0] [(0, .ref 35), (1, .int x1), (2, .int x2), (3, .int x3), (4, .int x4), (5, .int x5), (6, .int x6), (7, .int (M 37 (Int32.toNatClampNeg x6))), (8, .int ((M 37 (Int32.toNatClampNeg x6)) - 97)), (9, .int (bI (inI ((M 37 (Int32.toNatClampNeg x6)) - 97) 0 (x2 - 1)))), (10, .int 0)] d_X_faultOf_213 (by decide) rfl ?_
                      refine zs_iinc2 5 (x5 + 1) [1, 2, 3, 4, 5, 0, 6, 7, 8, 9, 10] [(0, .ref 35), (1, .int x1), (2, .int x2), (3, .int x3), (4, .int x4), (5, .int (x5 + 1)), (6, .int x6), (7, .int (M 37 (Int32.toNatClampNeg x6))), (8, .int ((M 37 (Int32.toNatClampNeg x6)) - 97)), (9, .int (bI (inI ((M 37 (Int32.toNatClampNeg x6)) - 97) 0 (x2 - 1)))), (10, .int 0)] d_X_faultOf_215 rfl rfl (by decide) rfl ?_
                      refine zs_bipush 6 d_X_faultOf_218 (by decide) ?_
                      refine zs_istore_n2 1 [1, 0, 2, 3, 4, 5, 6, 7, 8, 9, 10] [(0, .ref 35), (1, .int 6), (2, .int x2), (3, .int x3), (4, .int x4), (5, .int (x5 + 1)), (6, .int x6), (7, .int (M 37 (Int32.toNatClampNeg x6))), (8, .int ((M 37 (Int32.toNatClampNeg x6)) - 97)), (9, .int (bI (inI ((M 37 (Int32.toNatClampNeg x6)) - 97) 0 (x2 - 1)))), (10, .int 0)] d_X_faultOf_220 rfl (by decide) rfl ?_
                      refine zs_goto 254 d_X_faultOf_221 (by decide) ?_
                      refine zs_iload d_X_faultOf_254 (List.mem_of_getElem? (i := 10) rfl) ?_
                      refine zs_if_ne 262 d_X_faultOf_256 (by decide) (fun c => absurd c (by decide)) (fun _ => ?_)
                      refine zs_iload d_X_faultOf_259 (List.mem_of_getElem? (i := 6) rfl) ?_
                      exact zs_iret d_X_faultOf_261 rfl h
                    · replace h := h.2 c48
                      refine zs_iload d_X_faultOf_202 (List.mem_of_getElem? (i := 5) rfl) ?_
                      refine zs_iconst 4 d_X_faultOf_204 (by decide) ?_
                      refine zs_icmp_ge 212 d_X_faultOf_205 (by decide) (fun c49 => ?_) (fun c49 => ?_)
                      · replace h := h.1 c49
                        refine zs_iconst 0 d_X_faultOf_212 (by decide) ?_
                        refine zs_istore2 [1, 2, 3, 4, 5, 6, 7, 8, 9, 10, 0] [(0, .ref 35), (1, .int x1), (2, .int x2), (3, .int x3), (4, .int x4), (5, .int x5), (6, .int x6), (7, .int (M 37 (Int32.toNatClampNeg x6))), (8, .int ((M 37 (Int32.toNatClampNeg x6)) - 97)), (9, .int (bI (inI ((M 37 (Int32.toNatClampNeg x6)) - 97) 0 (x2 - 1)))), (10, .int 0)] d_X_faultOf_213 (by decide) rfl ?_
                        refine zs_iinc2 5 (x5 + 1) [1, 2, 3, 4, 5, 0, 6, 7, 8, 9, 10] [(0, .ref 35), (1, .int x1), (2, .int x2), (3, .int x3), (4, .int x4), (5, .int (x5 + 1)), (6, .int x6), (7, .int (M 37 (Int32.toNatClampNeg x6))), (8, .int ((M 37 (Int32.toNatClampNeg x6)) - 97)), (9, .int (bI (inI ((M 37 (Int32.toNatClampNeg x6)) - 97) 0 (x2 - 1)))), (10, .int 0)] d_X_faultOf_215 rfl rfl (by decide) rfl ?_
                        refine zs_bipush 6 d_X_faultOf_218 (by decide) ?_
                        refine zs_istore_n2 1 [1, 0, 2, 3, 4, 5, 6, 7, 8, 9, 10] [(0, .ref 35), (1, .int 6), (2, .int x2), (3, .int x3), (4, .int x4), (5, .int (x5 + 1)), (6, .int x6), (7, .int (M 37 (Int32.toNatClampNeg x6))), (8, .int ((M 37 (Int32.toNatClampNeg x6)) - 97)), (9, .int (bI (inI ((M 37 (Int32.toNatClampNeg x6)) - 97) 0 (x2 - 1)))), (10, .int 0)] d_X_faultOf_220 rfl (by decide) rfl ?_
                        refine zs_goto 254 d_X_faultOf_221 (by decide) ?_
                        refine zs_iload d_X_faultOf_254 (List.mem_of_getElem? (i := 10) rfl) ?_
                        refine zs_if_ne 262 d_X_faultOf_256 (by decide) (fun c => absurd c (by decide)) (fun _ => ?_)
                        refine zs_iload d_X_faultOf_259 (List.mem_of_getElem? (i := 6) rfl) ?_
                        exact zs_iret d_X_faultOf_261 rfl h
                      · replace h := h.2 c49
                        refine zs_iconst 1 d_X_faultOf_208 (by decide) ?_
                        refine zs_goto 213 d_X_faultOf_209 (by decide) ?_
                        refine zs_istore2 [1, 2, 3, 4, 5, 6, 7, 8, 9, 10, 0] [(0, .ref 35), (1, .int x1), (2, .int x2), (3, .int x3), (4, .int x4), (5, .int x5), (6, .int x6), (7, .int (M 37 (Int32.toNatClampNeg x6))), (8, .int ((M 37 (Int32.toNatClampNeg x6)) - 97)), (9, .int (bI (inI ((M 37 (Int32.toNatClampNeg x6)) - 97) 0 (x2 - 1)))), (10, .int 1)] d_X_faultOf_213 (by decide) rfl ?_
                        refine zs_iinc2 5 (x5 + 1) [1, 2, 3, 4, 5, 0, 6, 7, 8, 9, 10] [(0, .ref 35), (1, .int x1), (2, .int x2), (3, .int x3), (4, .int x4), (5, .int (x5 + 1)), (6, .int x6), (7, .int (M 37 (Int32.toNatClampNeg x6))), (8, .int ((M 37 (Int32.toNatClampNeg x6)) - 97)), (9, .int (bI (inI ((M 37 (Int32.toNatClampNeg x6)) - 97) 0 (x2 - 1)))), (10, .int 1)] d_X_faultOf_215 rfl rfl (by decide) rfl ?_
                        refine zs_bipush 6 d_X_faultOf_218 (by decide) ?_
                        refine zs_istore_n2 1 [1, 0, 2, 3, 4, 5, 6, 7, 8, 9, 10] [(0, .ref 35), (1, .int 6), (2, .int x2), (3, .int x3), (4, .int x4), (5, .int (x5 + 1)), (6, .int x6), (7, .int (M 37 (Int32.toNatClampNeg x6))), (8, .int ((M 37 (Int32.toNatClampNeg x6)) - 97)), (9, .int (bI (inI ((M 37 (Int32.toNatClampNeg x6)) - 97) 0 (x2 - 1)))), (10, .int 1)] d_X_faultOf_220 rfl (by decide) rfl ?_
                        refine zs_goto 254 d_X_faultOf_221 (by decide) ?_
                        refine zs_iload d_X_faultOf_254 (List.mem_of_getElem? (i := 10) rfl) ?_
                        refine zs_if_ne 262 d_X_faultOf_256 (by decide) (fun _ => ?_) (fun c => absurd c (by decide))
                        refine zs_iinc2 6 (x6 + 1) [1, 2, 3, 4, 5, 6, 0, 7, 8, 9, 10] [(0, .ref 35), (1, .int 6), (2, .int x2), (3, .int x3), (4, .int x4), (5, .int (x5 + 1)), (6, .int (x6 + 1)), (7, .int (M 37 (Int32.toNatClampNeg x6))), (8, .int ((M 37 (Int32.toNatClampNeg x6)) - 97)), (9, .int (bI (inI ((M 37 (Int32.toNatClampNeg x6)) - 97) 0 (x2 - 1)))), (10, .int 1)] d_X_faultOf_262 rfl rfl (by decide) rfl ?_
                        refine zs_goto 16 d_X_faultOf_265 (by decide) ?_
                        exact zRT_sub [0, 1, 2, 3, 4, 5, 6] rfl h
                · replace h := h.2 (bI_1 c44)
                  refine zs_iload d_X_faultOf_148 (List.mem_of_getElem? (i := 4) rfl) ?_
                  refine zs_iconst 3 d_X_faultOf_150 (by decide) ?_
                  refine zs_icmp_ge 169 d_X_faultOf_151 (by decide) (fun c50 => ?_) (fun c50 => ?_)
                  · replace h := h.1 c50
                    refine zs_iconst 0 d_X_faultOf_169 (by decide) ?_
                    refine zs_istore2 [1, 2, 3, 4, 5, 6, 7, 8, 9, 10, 0] [(0, .ref 35), (1, .int x1), (2, .int x2), (3, .int x3), (4, .int x4), (5, .int x5), (6, .int x6), (7, .int (M 37 (Int32.toNatClampNeg x6))), (8, .int ((M 37 (Int32.toNatClampNeg x6)) - 97)), (9, .int (bI (inI ((M 37 (Int32.toNatClampNeg x6)) - 97) 0 (x2 - 1)))), (10, .int 0)] d_X_faultOf_170 (by decide) rfl ?_
                    refine zs_iload d_X_faultOf_172 (List.mem_of_getElem? (i := 7) rfl) ?_
                    refine zs_istore_n2 3 [1, 2, 3, 0, 4, 5, 6, 7, 8, 9, 10] [(0, .ref 35), (1, .int x1), (2, .int x2), (3, .int (M 37 (Int32.toNatClampNeg x6))), (4, .int x4), (5, .int x5), (6, .int x6), (7, .int (M 37 (Int32.toNatClampNeg x6))), (8, .int ((M 37 (Int32.toNatClampNeg x6)) - 97)), (9, .int (bI (inI ((M 37 (Int32.toNatClampNeg x6)) - 97) 0 (x2 - 1)))), (10, .int 0)] d_X_faultOf_174 rfl (by decide) rfl ?_
                    refine zs_iinc2 4 (x4 + 1) [1, 2, 3, 4, 0, 5, 6, 7, 8, 9, 10] [(0, .ref 35), (1, .int x1), (2, .int x2), (3, .int (M 37 (Int32.toNatClampNeg x6))), (4, .int (x4 + 1)), (5, .int x5), (6, .int x6), (7, .int (M 37 (Int32.toNatClampNeg x6))), (8, .int ((M 37 (Int32.toNatClampNeg x6)) - 97)), (9, .int (bI (inI ((M 37 (Int32.toNatClampNeg x6)) - 97) 0 (x2 - 1)))), (10, .int 0)] d_X_faultOf_175 rfl rfl (by decide) rfl ?_
                    refine zs_iconst 5 d_X_faultOf_178 (by decide) ?_
                    refine zs_istore_n2 1 [1, 0, 2, 3, 4, 5, 6, 7, 8, 9, 10] [(0, .ref 35), (1, .int 5), (2, .int x2), (3, .int (M 37 (Int32.toNatClampNeg x6))), (4, .int (x4 + 1)), (5, .int x5), (6, .int x6), (7, .int (M 37 (Int32.toNatClampNeg x6))), (8, .int ((M 37 (Int32.toNatClampNeg x6)) - 97)), (9, .int (bI (inI ((M 37 (Int32.toNatClampNeg x6)) - 97) 0 (x2 - 1)))), (10, .int 0)] d_X_faultOf_179 rfl (by decide) rfl ?_
                    refine zs_goto 254 d_X_faultOf_180 (by decide) ?_
                    refine zs_iload d_X_faultOf_254 (List.mem_of_getElem? (i := 10) rfl) ?_
                    refine zs_if_ne 262 d_X_faultOf_256 (by decide) (fun c => absurd c (by decide)) (fun _ => ?_)
                    refine zs_iload d_X_faultOf_259 (List.mem_of_getElem? (i := 6) rfl) ?_
                    exact zs_iret d_X_faultOf_261 rfl h
                  · replace h := h.2 c50
                    refine zs_iload d_X_faultOf_154 (List.mem_of_getElem? (i := 4) rfl) ?_
                    refine zs_if_eq 165 d_X_faultOf_156 (by decide) (fun c51 => ?_) (fun c51 => ?_)
                    · replace h := h.1 c51
                      refine zs_iconst 1 d_X_faultOf_165 (by decide) ?_
                      refine zs_goto 170 d_X_faultOf_166 (by decide) ?_
                      refine zs_istore2 [1, 2, 3, 4, 5, 6, 7, 8, 9, 10, 0] [(0, .ref 35), (1, .int x1), (2, .int x2), (3, .int x3), (4, .int x4), (5, .int x5), (6, .int x6), (7, .int (M 37 (Int32.toNatClampNeg x6))), (8, .int ((M 37 (Int32.toNatClampNeg x6)) - 97)), (9, .int (bI (inI ((M 37 (Int32.toNatClampNeg x6)) - 97) 0 (x2 - 1)))), (10, .int 1)] d_X_faultOf_170 (by decide) rfl ?_
                      refine zs_iload d_X_faultOf_172 (List.mem_of_getElem? (i := 7) rfl) ?_
                      refine zs_istore_n2 3 [1, 2, 3, 0, 4, 5, 6, 7, 8, 9, 10] [(0, .ref 35), (1, .int x1), (2, .int x2), (3, .int (M 37 (Int32.toNatClampNeg x6))), (4, .int x4), (5, .int x5), (6, .int x6), (7, .int (M 37 (Int32.toNatClampNeg x6))), (8, .int ((M 37 (Int32.toNatClampNeg x6)) - 97)), (9, .int (bI (inI ((M 37 (Int32.toNatClampNeg x6)) - 97) 0 (x2 - 1)))), (10, .int 1)] d_X_faultOf_174 rfl (by decide) rfl ?_
                      refine zs_iinc2 4 (x4 + 1) [1, 2, 3, 4, 0, 5, 6, 7, 8, 9, 10] [(0, .ref 35), (1, .int x1), (2, .int x2), (3, .int (M 37 (Int32.toNatClampNeg x6))), (4, .int (x4 + 1)), (5, .int x5), (6, .int x6), (7, .int (M 37 (Int32.toNatClampNeg x6))), (8, .int ((M 37 (Int32.toNatClampNeg x6)) - 97)), (9, .int (bI (inI ((M 37 (Int32.toNatClampNeg x6)) - 97) 0 (x2 - 1)))), (10, .int 1)] d_X_faultOf_175 rfl rfl (by decide) rfl ?_
                      refine zs_iconst 5 d_X_faultOf_178 (by decide) ?_
                      refine zs_istore_n2 1 [1, 0, 2, 3, 4, 5, 6, 7, 8, 9, 10] [(0, .ref 35), (1, .int 5), (2, .int x2), (3, .int (M 37 (Int32.toNatClampNeg x6))), (4, .int (x4 + 1)), (5, .int x5), (6, .int x6), (7, .int (M 37 (Int32.toNatClampNeg x6))), (8, .int ((M 37 (Int32.toNatClampNeg x6)) - 97)), (9, .int (bI (inI ((M 37 (Int32.toNatClampNeg x6)) - 97) 0 (x2 - 1)))), (10, .int 1)] d_X_faultOf_179 rfl (by decide) rfl ?_
                      refine zs_goto 254 d_X_faultOf_180 (by decide) ?_
                      refine zs_iload d_X_faultOf_254 (List.mem_of_getElem? (i := 10) rfl) ?_
                      refine zs_if_ne 262 d_X_faultOf_256 (by decide) (fun _ => ?_) (fun c => absurd c (by decide))
                      refine zs_iinc2 6 (x6 + 1) [1, 2, 3, 4, 5, 6, 0, 7, 8, 9, 10] [(0, .ref 35), (1, .int 5), (2, .int x2), (3, .int (M 37 (Int32.toNatClampNeg x6))), (4, .int (x4 + 1)), (5, .int x5), (6, .int (x6 + 1)), (7, .int (M 37 (Int32.toNatClampNeg x6))), (8, .int ((M 37 (Int32.toNatClampNeg x6)) - 97)), (9, .int (bI (inI ((M 37 (Int32.toNatClampNeg x6)) - 97) 0 (x2 - 1)))), (10, .int 1)] d_X_faultOf_262 rfl rfl (by decide) rfl ?_
                      refine zs_goto 16 d_X_faultOf_265 (by decide) ?_
                      exact zRT_sub [0, 1, 2, 3, 4, 5, 6] rfl h
                    · replace h := h.2 c51
                      refine zs_iload d_X_faultOf_159 (List.mem_of_getElem? (i := 7) rfl) ?_
                      refine zs_iload_n 3 d_X_faultOf_161 rfl (List.mem_of_getElem? (i := 3) rfl) ?_
                      refine zs_icmp_le 169 d_X_faultOf_162 (by decide) (fun c52 => ?_) (fun c52 => ?_)
                      · replace h := h.1 c52
                        refine zs_iconst 0 d_X_faultOf_169 (by decide) ?_
                        refine zs_istore2 [1, 2, 3, 4, 5, 6, 7, 8, 9, 10, 0] [(0, .ref 35), (1, .int x1), (2, .int x2), (3, .int x3), (4, .int x4), (5, .int x5), (6, .int x6), (7, .int (M 37 (Int32.toNatClampNeg x6))), (8, .int ((M 37 (Int32.toNatClampNeg x6)) - 97)), (9, .int (bI (inI ((M 37 (Int32.toNatClampNeg x6)) - 97) 0 (x2 - 1)))), (10, .int 0)] d_X_faultOf_170 (by decide) rfl ?_
                        refine zs_iload d_X_faultOf_172 (List.mem_of_getElem? (i := 7) rfl) ?_
                        refine zs_istore_n2 3 [1, 2, 3, 0, 4, 5, 6, 7, 8, 9, 10] [(0, .ref 35), (1, .int x1), (2, .int x2), (3, .int (M 37 (Int32.toNatClampNeg x6))), (4, .int x4), (5, .int x5), (6, .int x6), (7, .int (M 37 (Int32.toNatClampNeg x6))), (8, .int ((M 37 (Int32.toNatClampNeg x6)) - 97)), (9, .int (bI (inI ((M 37 (Int32.toNatClampNeg x6)) - 97) 0 (x2 - 1)))), (10, .int 0)] d_X_faultOf_174 rfl (by decide) rfl ?_
                        refine zs_iinc2 4 (x4 + 1) [1, 2, 3, 4, 0, 5, 6, 7, 8, 9, 10] [(0, .ref 35), (1, .int x1), (2, .int x2), (3, .int (M 37 (Int32.toNatClampNeg x6))), (4, .int (x4 + 1)), (5, .int x5), (6, .int x6), (7, .int (M 37 (Int32.toNatClampNeg x6))), (8, .int ((M 37 (Int32.toNatClampNeg x6)) - 97)), (9, .int (bI (inI ((M 37 (Int32.toNatClampNeg x6)) - 97) 0 (x2 - 1)))), (10, .int 0)] d_X_faultOf_175 rfl rfl (by decide) rfl ?_
                        refine zs_iconst 5 d_X_faultOf_178 (by decide) ?_
                        refine zs_istore_n2 1 [1, 0, 2, 3, 4, 5, 6, 7, 8, 9, 10] [(0, .ref 35), (1, .int 5), (2, .int x2), (3, .int (M 37 (Int32.toNatClampNeg x6))), (4, .int (x4 + 1)), (5, .int x5), (6, .int x6), (7, .int (M 37 (Int32.toNatClampNeg x6))), (8, .int ((M 37 (Int32.toNatClampNeg x6)) - 97)), (9, .int (bI (inI ((M 37 (Int32.toNatClampNeg x6)) - 97) 0 (x2 - 1)))), (10, .int 0)] d_X_faultOf_179 rfl (by decide) rfl ?_
                        refine zs_goto 254 d_X_faultOf_180 (by decide) ?_
                        refine zs_iload d_X_faultOf_254 (List.mem_of_getElem? (i := 10) rfl) ?_
                        refine zs_if_ne 262 d_X_faultOf_256 (by decide) (fun c => absurd c (by decide)) (fun _ => ?_)
                        refine zs_iload d_X_faultOf_259 (List.mem_of_getElem? (i := 6) rfl) ?_
                        exact zs_iret d_X_faultOf_261 rfl h
                      · replace h := h.2 c52
                        refine zs_iconst 1 d_X_faultOf_165 (by decide) ?_
                        refine zs_goto 170 d_X_faultOf_166 (by decide) ?_
                        refine zs_istore2 [1, 2, 3, 4, 5, 6, 7, 8, 9, 10, 0] [(0, .ref 35), (1, .int x1), (2, .int x2), (3, .int x3), (4, .int x4), (5, .int x5), (6, .int x6), (7, .int (M 37 (Int32.toNatClampNeg x6))), (8, .int ((M 37 (Int32.toNatClampNeg x6)) - 97)), (9, .int (bI (inI ((M 37 (Int32.toNatClampNeg x6)) - 97) 0 (x2 - 1)))), (10, .int 1)] d_X_faultOf_170 (by decide) rfl ?_
                        refine zs_iload d_X_faultOf_172 (List.mem_of_getElem? (i := 7) rfl) ?_
                        refine zs_istore_n2 3 [1, 2, 3, 0, 4, 5, 6, 7, 8, 9, 10] [(0, .ref 35), (1, .int x1), (2, .int x2), (3, .int (M 37 (Int32.toNatClampNeg x6))), (4, .int x4), (5, .int x5), (6, .int x6), (7, .int (M 37 (Int32.toNatClampNeg x6))), (8, .int ((M 37 (Int32.toNatClampNeg x6)) - 97)), (9, .int (bI (inI ((M 37 (Int32.toNatClampNeg x6)) - 97) 0 (x2 - 1)))), (10, .int 1)] d_X_faultOf_174 rfl (by decide) rfl ?_
                        refine zs_iinc2 4 (x4 + 1) [1, 2, 3, 4, 0, 5, 6, 7, 8, 9, 10] [(0, .ref 35), (1, .int x1), (2, .int x2), (3, .int (M 37 (Int32.toNatClampNeg x6))), (4, .int (x4 + 1)), (5, .int x5), (6, .int x6), (7, .int (M 37 (Int32.toNatClampNeg x6))), (8, .int ((M 37 (Int32.toNatClampNeg x6)) - 97)), (9, .int (bI (inI ((M 37 (Int32.toNatClampNeg x6)) - 97) 0 (x2 - 1)))), (10, .int 1)] d_X_faultOf_175 rfl rfl (by decide) rfl ?_
                        refine zs_iconst 5 d_X_faultOf_178 (by decide) ?_
                        refine zs_istore_n2 1 [1, 0, 2, 3, 4, 5, 6, 7, 8, 9, 10] [(0, .ref 35), (1, .int 5), (2, .int x2), (3, .int (M 37 (Int32.toNatClampNeg x6))), (4, .int (x4 + 1)), (5, .int x5), (6, .int x6), (7, .int (M 37 (Int32.toNatClampNeg x6))), (8, .int ((M 37 (Int32.toNatClampNeg x6)) - 97)), (9, .int (bI (inI ((M 37 (Int32.toNatClampNeg x6)) - 97) 0 (x2 - 1)))), (10, .int 1)] d_X_faultOf_179 rfl (by decide) rfl ?_
                        refine zs_goto 254 d_X_faultOf_180 (by decide) ?_
                        refine zs_iload d_X_faultOf_254 (List.mem_of_getElem? (i := 10) rfl) ?_
                        refine zs_if_ne 262 d_X_faultOf_256 (by decide) (fun _ => ?_) (fun c => absurd c (by decide))
                        refine zs_iinc2 6 (x6 + 1) [1, 2, 3, 4, 5, 6, 0, 7, 8, 9, 10] [(0, .ref 35), (1, .int 5), (2, .int x2), (3, .int (M 37 (Int32.toNatClampNeg x6))), (4, .int (x4 + 1)), (5, .int x5), (6, .int (x6 + 1)), (7, .int (M 37 (Int32.toNatClampNeg x6))), (8, .int ((M 37 (Int32.toNatClampNeg x6)) - 97)), (9, .int (bI (inI ((M 37 (Int32.toNatClampNeg x6)) - 97) 0 (x2 - 1)))), (10, .int 1)] d_X_faultOf_262 rfl rfl (by decide) rfl ?_
                        refine zs_goto 16 d_X_faultOf_265 (by decide) ?_
                        exact zRT_sub [0, 1, 2, 3, 4, 5, 6] rfl h
            · replace h := h.2 c39
              refine zs_iload d_X_faultOf_115 (List.mem_of_getElem? (i := 7) rfl) ?_
              refine zs_bipush 43 d_X_faultOf_117 (by decide) ?_
              refine zs_icmp_ne 130 d_X_faultOf_119 (by decide) (fun c53 => ?_) (fun c53 => ?_)
              · replace h := h.1 c53
                refine zs_iload_n 1 d_X_faultOf_130 rfl (List.mem_of_getElem? (i := 1) rfl) ?_
                refine zs_bipush 6 d_X_faultOf_131 (by decide) ?_
                refine zs_icmp_eq 183 d_X_faultOf_133 (by decide) (fun c54 => ?_) (fun c54 => ?_)
                · replace h := h.1 c54
                  refine zs_iload_n 1 d_X_faultOf_183 rfl (List.mem_of_getElem? (i := 1) rfl) ?_
                  refine zs_bipush 6 d_X_faultOf_184 (by decide) ?_
                  refine zs_icmp_eq 224 d_X_faultOf_186 (by decide) (fun _ => ?_) (fun c => absurd c54 c)
                  refine zs_iload d_X_faultOf_224 (List.mem_of_getElem? (i := 7) rfl) ?_
                  refine zs_bipush 59 d_X_faultOf_226 (by decide) ?_
                  refine zs_icmp_ne 240 d_X_faultOf_228 (by decide) (fun c55 => ?_) (fun c55 => ?_)
                  · replace h := h.1 c55
                    refine zs_iconst 0 d_X_faultOf_240 (by decide) ?_
                    refine zs_istore2 [1, 2, 3, 4, 5, 6, 7, 8, 9, 10, 0] [(0, .ref 35), (1, .int x1), (2, .int x2), (3, .int x3), (4, .int x4), (5, .int x5), (6, .int x6), (7, .int (M 37 (Int32.toNatClampNeg x6))), (8, .int ((M 37 (Int32.toNatClampNeg x6)) - 97)), (9, .int (bI (inI ((M 37 (Int32.toNatClampNeg x6)) - 97) 0 (x2 - 1)))), (10, .int 0)] d_X_faultOf_241 (by decide) rfl ?_
                    refine zs_iinc2 2 (x2 + 1) [1, 2, 0, 3, 4, 5, 6, 7, 8, 9, 10] [(0, .ref 35), (1, .int x1), (2, .int (x2 + 1)), (3, .int x3), (4, .int x4), (5, .int x5), (6, .int x6), (7, .int (M 37 (Int32.toNatClampNeg x6))), (8, .int ((M 37 (Int32.toNatClampNeg x6)) - 97)), (9, .int (bI (inI ((M 37 (Int32.toNatClampNeg x6)) - 97) 0 (x2 - 1)))), (10, .int 0)] d_X_faultOf_243 rfl rfl (by decide) rfl ?_
                    refine zs_iconst 0 d_X_faultOf_246 (by decide) ?_
                    refine zs_istore_n2 1 [1, 0, 2, 3, 4, 5, 6, 7, 8, 9, 10] [(0, .ref 35), (1, .int 0), (2, .int (x2 + 1)), (3, .int x3), (4, .int x4), (5, .int x5), (6, .int x6), (7, .int (M 37 (Int32.toNatClampNeg x6))), (8, .int ((M 37 (Int32.toNatClampNeg x6)) - 97)), (9, .int (bI (inI ((M 37 (Int32.toNatClampNeg x6)) - 97) 0 (x2 - 1)))), (10, .int 0)] d_X_faultOf_247 rfl (by decide) rfl ?_
                    refine zs_bipush (-6) d_X_faultOf_248 (by decide) ?_
                    refine zs_istore_n2 3 [1, 2, 3, 0, 4, 5, 6, 7, 8, 9, 10] [(0, .ref 35), (1, .int 0), (2, .int (x2 + 1)), (3, .int (-6)), (4, .int x4), (5, .int x5), (6, .int x6), (7, .int (M 37 (Int32.toNatClampNeg x6))), (8, .int ((M 37 (Int32.toNatClampNeg x6)) - 97)), (9, .int (bI (inI ((M 37 (Int32.toNatClampNeg x6)) - 97) 0 (x2 - 1)))), (10, .int 0)] d_X_faultOf_250 rfl (by decide) rfl ?_
                    refine zs_iconst 0 d_X_faultOf_251 (by decide) ?_
                    refine zs_istore2 [1, 2, 3, 4, 0, 5, 6, 7, 8, 9, 10] [(0, .ref 35), (1, .int 0), (2, .int (x2 + 1)), (3, .int (-6)), (4, .int 0), (5, .int x5), (6, .int x6), (7, .int (M 37 (Int32.toNatClampNeg x6))), (8, .int ((M 37 (Int32.toNatClampNeg x6)) - 97)), (9, .int (bI (inI ((M 37 (Int32.toNatClampNeg x6)) - 97) 0 (x2 - 1)))), (10, .int 0)] d_X_faultOf_252 (by decide) rfl ?_
                    refine zs_iload d_X_faultOf_254 (List.mem_of_getElem? (i := 10) rfl) ?_
                    refine zs_if_ne 262 d_X_faultOf_256 (by decide) (fun c => absurd c (by decide)) (fun _ => ?_)
                    refine zs_iload d_X_faultOf_259 (List.mem_of_getElem? (i := 6) rfl) ?_
                    exact zs_iret d_X_faultOf_261 rfl h
                  · replace h := h.2 c55
                    refine zs_iload_n 1 d_X_faultOf_231 rfl (List.mem_of_getElem? (i := 1) rfl) ?_
                    refine zs_iconst 4 d_X_faultOf_232 (by decide) ?_
                    refine zs_icmp_le 240 d_X_faultOf_233 (by decide) (fun c56 => ?_) (fun c56 => ?_)
                    · replace h := h.1 c56
                      refine zs_iconst 0 d_X_faultOf_240 (by decide) ?_
                      refine zs_istore2 [1, 2, 3, 4, 5, 6, 7, 8, 9, 10, 0] [(0, .ref 35), (1, .int x1), (2, .int x2), (3, .int x3), (4, .int x4), (5, .int x5), (6, .int x6), (7, .int (M 37 (Int32.toNatClampNeg x6))), (8, .int ((M 37 (Int32.toNatClampNeg x6)) - 97)), (9, .int (bI (inI ((M 37 (Int32.toNatClampNeg x6)) - 97) 0 (x2 - 1)))), (10, .int 0)] d_X_faultOf_241 (by decide) rfl ?_
                      refine zs_iinc2 2 (x2 + 1) [1, 2, 0, 3, 4, 5, 6, 7, 8, 9, 10] [(0, .ref 35), (1, .int x1), (2, .int (x2 + 1)), (3, .int x3), (4, .int x4), (5, .int x5), (6, .int x6), (7, .int (M 37 (Int32.toNatClampNeg x6))), (8, .int ((M 37 (Int32.toNatClampNeg x6)) - 97)), (9, .int (bI (inI ((M 37 (Int32.toNatClampNeg x6)) - 97) 0 (x2 - 1)))), (10, .int 0)] d_X_faultOf_243 rfl rfl (by decide) rfl ?_
                      refine zs_iconst 0 d_X_faultOf_246 (by decide) ?_
                      refine zs_istore_n2 1 [1, 0, 2, 3, 4, 5, 6, 7, 8, 9, 10] [(0, .ref 35), (1, .int 0), (2, .int (x2 + 1)), (3, .int x3), (4, .int x4), (5, .int x5), (6, .int x6), (7, .int (M 37 (Int32.toNatClampNeg x6))), (8, .int ((M 37 (Int32.toNatClampNeg x6)) - 97)), (9, .int (bI (inI ((M 37 (Int32.toNatClampNeg x6)) - 97) 0 (x2 - 1)))), (10, .int 0)] d_X_faultOf_247 rfl (by decide) rfl ?_
                      refine zs_bipush (-6) d_X_faultOf_248 (by decide) ?_
                      refine zs_istore_n2 3 [1, 2, 3, 0, 4, 5, 6, 7, 8, 9, 10] [(0, .ref 35), (1, .int 0), (2, .int (x2 + 1)), (3, .int (-6)), (4, .int x4), (5, .int x5), (6, .int x6), (7, .int (M 37 (Int32.toNatClampNeg x6))), (8, .int ((M 37 (Int32.toNatClampNeg x6)) - 97)), (9, .int (bI (inI ((M 37 (Int32.toNatClampNeg x6)) - 97) 0 (x2 - 1)))), (10, .int 0)] d_X_faultOf_250 rfl (by decide) rfl ?_
                      refine zs_iconst 0 d_X_faultOf_251 (by decide) ?_
                      refine zs_istore2 [1, 2, 3, 4, 0, 5, 6, 7, 8, 9, 10] [(0, .ref 35), (1, .int 0), (2, .int (x2 + 1)), (3, .int (-6)), (4, .int 0), (5, .int x5), (6, .int x6), (7, .int (M 37 (Int32.toNatClampNeg x6))), (8, .int ((M 37 (Int32.toNatClampNeg x6)) - 97)), (9, .int (bI (inI ((M 37 (Int32.toNatClampNeg x6)) - 97) 0 (x2 - 1)))), (10, .int 0)] d_X_faultOf_252 (by decide) rfl ?_
                      refine zs_iload d_X_faultOf_254 (List.mem_of_getElem? (i := 10) rfl) ?_
                      refine zs_if_ne 262 d_X_faultOf_256 (by decide) (fun c => absurd c (by decide)) (fun _ => ?_)
                      refine zs_iload d_X_faultOf_259 (List.mem_of_getElem? (i := 6) rfl) ?_
                      exact zs_iret d_X_faultOf_261 rfl h
                    · replace h := h.2 c56
                      refine zs_iconst 1 d_X_faultOf_236 (by decide) ?_
                      refine zs_goto 241 d_X_faultOf_237 (by decide) ?_
                      refine zs_istore2 [1, 2, 3, 4, 5, 6, 7, 8, 9, 10, 0] [(0, .ref 35), (1, .int x1), (2, .int x2), (3, .int x3), (4, .int x4), (5, .int x5), (6, .int x6), (7, .int (M 37 (Int32.toNatClampNeg x6))), (8, .int ((M 37 (Int32.toNatClampNeg x6)) - 97)), (9, .int (bI (inI ((M 37 (Int32.toNatClampNeg x6)) - 97) 0 (x2 - 1)))), (10, .int 1)] d_X_faultOf_241 (by decide) rfl ?_
                      refine zs_iinc2 2 (x2 + 1) [1, 2, 0, 3, 4, 5, 6, 7, 8, 9, 10] [(0, .ref 35), (1, .int x1), (2, .int (x2 + 1)), (3, .int x3), (4, .int x4), (5, .int x5), (6, .int x6), (7, .int (M 37 (Int32.toNatClampNeg x6))), (8, .int ((M 37 (Int32.toNatClampNeg x6)) - 97)), (9, .int (bI (inI ((M 37 (Int32.toNatClampNeg x6)) - 97) 0 (x2 - 1)))), (10, .int 1)] d_X_faultOf_243 rfl rfl (by decide) rfl ?_
                      refine zs_iconst 0 d_X_faultOf_246 (by decide) ?_
                      refine zs_istore_n2 1 [1, 0, 2, 3, 4, 5, 6, 7, 8, 9, 10] [(0, .ref 35), (1, .int 0), (2, .int (x2 + 1)), (3, .int x3), (4, .int x4), (5, .int x5), (6, .int x6), (7, .int (M 37 (Int32.toNatClampNeg x6))), (8, .int ((M 37 (Int32.toNatClampNeg x6)) - 97)), (9, .int (bI (inI ((M 37 (Int32.toNatClampNeg x6)) - 97) 0 (x2 - 1)))), (10, .int 1)] d_X_faultOf_247 rfl (by decide) rfl ?_
                      refine zs_bipush (-6) d_X_faultOf_248 (by decide) ?_
                      refine zs_istore_n2 3 [1, 2, 3, 0, 4, 5, 6, 7, 8, 9, 10] [(0, .ref 35), (1, .int 0), (2, .int (x2 + 1)), (3, .int (-6)), (4, .int x4), (5, .int x5), (6, .int x6), (7, .int (M 37 (Int32.toNatClampNeg x6))), (8, .int ((M 37 (Int32.toNatClampNeg x6)) - 97)), (9, .int (bI (inI ((M 37 (Int32.toNatClampNeg x6)) - 97) 0 (x2 - 1)))), (10, .int 1)] d_X_faultOf_250 rfl (by decide) rfl ?_
                      refine zs_iconst 0 d_X_faultOf_251 (by decide) ?_
                      refine zs_istore2 [1, 2, 3, 4, 0, 5, 6, 7, 8, 9, 10] [(0, .ref 35), (1, .int 0), (2, .int (x2 + 1)), (3, .int (-6)), (4, .int 0), (5, .int x5), (6, .int x6), (7, .int (M 37 (Int32.toNatClampNeg x6))), (8, .int ((M 37 (Int32.toNatClampNeg x6)) - 97)), (9, .int (bI (inI ((M 37 (Int32.toNatClampNeg x6)) - 97) 0 (x2 - 1)))), (10, .int 1)] d_X_faultOf_252 (by decide) rfl ?_
                      refine zs_iload d_X_faultOf_254 (List.mem_of_getElem? (i := 10) rfl) ?_
                      refine zs_if_ne 262 d_X_faultOf_256 (by decide) (fun _ => ?_) (fun c => absurd c (by decide))
                      refine zs_iinc2 6 (x6 + 1) [1, 2, 3, 4, 5, 6, 0, 7, 8, 9, 10] [(0, .ref 35), (1, .int 0), (2, .int (x2 + 1)), (3, .int (-6)), (4, .int 0), (5, .int x5), (6, .int (x6 + 1)), (7, .int (M 37 (Int32.toNatClampNeg x6))), (8, .int ((M 37 (Int32.toNatClampNeg x6)) - 97)), (9, .int (bI (inI ((M 37 (Int32.toNatClampNeg x6)) - 97) 0 (x2 - 1)))), (10, .int 1)] d_X_faultOf_262 rfl rfl (by decide) rfl ?_
                      refine zs_goto 16 d_X_faultOf_265 (by decide) ?_
                      exact zRT_sub [0, 1, 2, 3, 4, 5, 6] rfl h
                · replace h := h.2 c54
                  refine zs_iload d_X_faultOf_136 (List.mem_of_getElem? (i := 7) rfl) ?_
                  refine zs_bipush 65 d_X_faultOf_138 (by decide) ?_
                  refine zs_bipush 70 d_X_faultOf_140 (by decide) ?_
                  refine zs_callS (kc := 0) (ks := 0) (kc1 := 0) (ks1 := 0) (st := []) [.int (M 37 (Int32.toNatClampNeg x6)), .int 65, .int 70] d_X_faultOf_142 lk_X_66 ⟨by decide, by decide⟩ rfl (Nat.le_of_ble_eq_true rfl) (ex_X_in g X M (M 37 (Int32.toNatClampNeg x6)) 65 70) (fun v57 sh57 M57 hR => ?_)
                  obtain ⟨rfl, rfl, rfl⟩ := hR
                  refine zs_if_eq 183 d_X_faultOf_145 (by decide) (fun c58 => ?_) (fun c58 => ?_)
                  · replace h := h.1 (bI_0 c58)
                    refine zs_iload_n 1 d_X_faultOf_183 rfl (List.mem_of_getElem? (i := 1) rfl) ?_
                    refine zs_bipush 6 d_X_faultOf_184 (by decide) ?_
                    refine zs_icmp_eq 224 d_X_faultOf_186 (by decide) (fun c => absurd c c54) (fun _ => ?_)
                    refine zs_iload d_X_faultOf_189 (List.mem_of_getElem? (i := 7) rfl) ?_
                    refine zs_bipush 63 d_X_faultOf_191 (by decide) ?_
                    refine zs_icmp_ne 224 d_X_faultOf_193 (by decide) (fun c59 => ?_) (fun c59 => ?_)
                    · replace h := h.1 c59
                      refine zs_iload d_X_faultOf_224 (List.mem_of_getElem? (i := 7) rfl) ?_
                      refine zs_bipush 59 d_X_faultOf_226 (by decide) ?_
                      refine zs_icmp_ne 240 d_X_faultOf_228 (by decide) (fun c60 => ?_) (fun c60 => ?_)
                      · replace h := h.1 c60
                        refine zs_iconst 0 d_X_faultOf_240 (by decide) ?_
                        refine zs_istore2 [1, 2, 3, 4, 5, 6, 7, 8, 9, 10, 0] [(0, .ref 35), (1, .int x1), (2, .int x2), (3, .int x3), (4, .int x4), (5, .int x5), (6, .int x6), (7, .int (M 37 (Int32.toNatClampNeg x6))), (8, .int ((M 37 (Int32.toNatClampNeg x6)) - 97)), (9, .int (bI (inI ((M 37 (Int32.toNatClampNeg x6)) - 97) 0 (x2 - 1)))), (10, .int 0)] d_X_faultOf_241 (by decide) rfl ?_
                        refine zs_iinc2 2 (x2 + 1) [1, 2, 0, 3, 4, 5, 6, 7, 8, 9, 10] [(0, .ref 35), (1, .int x1), (2, .int (x2 + 1)), (3, .int x3), (4, .int x4), (5, .int x5), (6, .int x6), (7, .int (M 37 (Int32.toNatClampNeg x6))), (8, .int ((M 37 (Int32.toNatClampNeg x6)) - 97)), (9, .int (bI (inI ((M 37 (Int32.toNatClampNeg x6)) - 97) 0 (x2 - 1)))), (10, .int 0)] d_X_faultOf_243 rfl rfl (by decide) rfl ?_
                        refine zs_iconst 0 d_X_faultOf_246 (by decide) ?_
                        refine zs_istore_n2 1 [1, 0, 2, 3, 4, 5, 6, 7, 8, 9, 10] [(0, .ref 35), (1, .int 0), (2, .int (x2 + 1)), (3, .int x3), (4, .int x4), (5, .int x5), (6, .int x6), (7, .int (M 37 (Int32.toNatClampNeg x6))), (8, .int ((M 37 (Int32.toNatClampNeg x6)) - 97)), (9, .int (bI (inI ((M 37 (Int32.toNatClampNeg x6)) - 97) 0 (x2 - 1)))), (10, .int 0)] d_X_faultOf_247 rfl (by decide) rfl ?_
                        refine zs_bipush (-6) d_X_faultOf_248 (by decide) ?_
                        refine zs_istore_n2 3 [1, 2, 3, 0, 4, 5, 6, 7, 8, 9, 10] [(0, .ref 35), (1, .int 0), (2, .int (x2 + 1)), (3, .int (-6)), (4, .int x4), (5, .int x5), (6, .int x6), (7, .int (M 37 (Int32.toNatClampNeg x6))), (8, .int ((M 37 (Int32.toNatClampNeg x6)) - 97)), (9, .int (bI (inI ((M 37 (Int32.toNatClampNeg x6)) - 97) 0 (x2 - 1)))), (10, .int 0)] d_X_faultOf_250 rfl (by decide) rfl ?_
                        refine zs_iconst 0 d_X_faultOf_251 (by decide) ?_
                        refine zs_istore2 [1, 2, 3, 4, 0, 5, 6, 7, 8, 9, 10] [(0, .ref 35), (1, .int 0), (2, .int (x2 + 1)), (3, .int (-6)), (4, .int 0), (5, .int x5), (6, .int x6), (7, .int (M 37 (Int32.toNatClampNeg x6))), (8, .int ((M 37 (Int32.toNatClampNeg x6)) - 97)), (9, .int (bI (inI ((M 37 (Int32.toNatClampNeg x6)) - 97) 0 (x2 - 1)))), (10, .int 0)] d_X_faultOf_252 (by decide) rfl ?_
                        refine zs_iload d_X_faultOf_254 (List.mem_of_getElem? (i := 10) rfl) ?_
                        refine zs_if_ne 262 d_X_faultOf_256 (by decide) (fun c => absurd c (by decide)) (fun _ => ?_)
                        refine zs_iload d_X_faultOf_259 (List.mem_of_getElem? (i := 6) rfl) ?_
                        exact zs_iret d_X_faultOf_261 rfl h
                      · replace h := h.2 c60
                        refine zs_iload_n 1 d_X_faultOf_231 rfl (List.mem_of_getElem? (i := 1) rfl) ?_
                        refine zs_iconst 4 d_X_faultOf_232 (by decide) ?_
                        refine zs_icmp_le 240 d_X_faultOf_233 (by decide) (fun c61 => ?_) (fun c61 => ?_)
                        · replace h := h.1 c61
                          refine zs_iconst 0 d_X_faultOf_240 (by decide) ?_
                          refine zs_istore2 [1, 2, 3, 4, 5, 6, 7, 8, 9, 10, 0] [(0, .ref 35), (1, .int x1), (2, .int x2), (3, .int x3), (4, .int x4), (5, .int x5), (6, .int x6), (7, .int (M 37 (Int32.toNatClampNeg x6))), (8, .int ((M 37 (Int32.toNatClampNeg x6)) - 97)), (9, .int (bI (inI ((M 37 (Int32.toNatClampNeg x6)) - 97) 0 (x2 - 1)))), (10, .int 0)] d_X_faultOf_241 (by decide) rfl ?_
                          refine zs_iinc2 2 (x2 + 1) [1, 2, 0, 3, 4, 5, 6, 7, 8, 9, 10] [(0, .ref 35), (1, .int x1), (2, .int (x2 + 1)), (3, .int x3), (4, .int x4), (5, .int x5), (6, .int x6), (7, .int (M 37 (Int32.toNatClampNeg x6))), (8, .int ((M 37 (Int32.toNatClampNeg x6)) - 97)), (9, .int (bI (inI ((M 37 (Int32.toNatClampNeg x6)) - 97) 0 (x2 - 1)))), (10, .int 0)] d_X_faultOf_243 rfl rfl (by decide) rfl ?_
                          refine zs_iconst 0 d_X_faultOf_246 (by decide) ?_
                          refine zs_istore_n2 1 [1, 0, 2, 3, 4, 5, 6, 7, 8, 9, 10] [(0, .ref 35), (1, .int 0), (2, .int (x2 + 1)), (3, .int x3), (4, .int x4), (5, .int x5), (6, .int x6), (7, .int (M 37 (Int32.toNatClampNeg x6))), (8, .int ((M 37 (Int32.toNatClampNeg x6)) - 97)), (9, .int (bI (inI ((M 37 (Int32.toNatClampNeg x6)) - 97) 0 (x2 - 1)))), (10, .int 0)] d_X_faultOf_247 rfl (by decide) rfl ?_
                          refine zs_bipush (-6) d_X_faultOf_248 (by decide) ?_
                          refine zs_istore_n2 3 [1, 2, 3, 0, 4, 5, 6, 7, 8, 9, 10] [(0, .ref 35), (1, .int 0), (2, .int (x2 + 1)), (3, .int (-6)), (4, .int x4), (5, .int x5), (6, .int x6), (7, .int (M 37 (Int32.toNatClampNeg x6))), (8, .int ((M 37 (Int32.toNatClampNeg x6)) - 97)), (9, .int (bI (inI ((M 37 (Int32.toNatClampNeg x6)) - 97) 0 (x2 - 1)))), (10, .int 0)] d_X_faultOf_250 rfl (by decide) rfl ?_
                          refine zs_iconst 0 d_X_faultOf_251 (by decide) ?_
                          refine zs_istore2 [1, 2, 3, 4, 0, 5, 6, 7, 8, 9, 10] [(0, .ref 35), (1, .int 0), (2, .int (x2 + 1)), (3, .int (-6)), (4, .int 0), (5, .int x5), (6, .int x6), (7, .int (M 37 (Int32.toNatClampNeg x6))), (8, .int ((M 37 (Int32.toNatClampNeg x6)) - 97)), (9, .int (bI (inI ((M 37 (Int32.toNatClampNeg x6)) - 97) 0 (x2 - 1)))), (10, .int 0)] d_X_faultOf_252 (by decide) rfl ?_
                          refine zs_iload d_X_faultOf_254 (List.mem_of_getElem? (i := 10) rfl) ?_
                          refine zs_if_ne 262 d_X_faultOf_256 (by decide) (fun c => absurd c (by decide)) (fun _ => ?_)
                          refine zs_iload d_X_faultOf_259 (List.mem_of_getElem? (i := 6) rfl) ?_
                          exact zs_iret d_X_faultOf_261 rfl h
                        · replace h := h.2 c61
                          refine zs_iconst 1 d_X_faultOf_236 (by decide) ?_
                          refine zs_goto 241 d_X_faultOf_237 (by decide) ?_
                          refine zs_istore2 [1, 2, 3, 4, 5, 6, 7, 8, 9, 10, 0] [(0, .ref 35), (1, .int x1), (2, .int x2), (3, .int x3), (4, .int x4), (5, .int x5), (6, .int x6), (7, .int (M 37 (Int32.toNatClampNeg x6))), (8, .int ((M 37 (Int32.toNatClampNeg x6)) - 97)), (9, .int (bI (inI ((M 37 (Int32.toNatClampNeg x6)) - 97) 0 (x2 - 1)))), (10, .int 1)] d_X_faultOf_241 (by decide) rfl ?_
                          refine zs_iinc2 2 (x2 + 1) [1, 2, 0, 3, 4, 5, 6, 7, 8, 9, 10] [(0, .ref 35), (1, .int x1), (2, .int (x2 + 1)), (3, .int x3), (4, .int x4), (5, .int x5), (6, .int x6), (7, .int (M 37 (Int32.toNatClampNeg x6))), (8, .int ((M 37 (Int32.toNatClampNeg x6)) - 97)), (9, .int (bI (inI ((M 37 (Int32.toNatClampNeg x6)) - 97) 0 (x2 - 1)))), (10, .int 1)] d_X_faultOf_243 rfl rfl (by decide) rfl ?_
                          refine zs_iconst 0 d_X_faultOf_246 (by decide) ?_
                          refine zs_istore_n2 1 [1, 0, 2, 3, 4, 5, 6, 7, 8, 9, 10] [(0, .ref 35), (1, .int 0), (2, .int (x2 + 1)), (3, .int x3), (4, .int x4), (5, .int x5), (6, .int x6), (7, .int (M 37 (Int32.toNatClampNeg x6))), (8, .int ((M 37 (Int32.toNatClampNeg x6)) - 97)), (9, .int (bI (inI ((M 37 (Int32.toNatClampNeg x6)) - 97) 0 (x2 - 1)))), (10, .int 1)] d_X_faultOf_247 rfl (by decide) rfl ?_
                          refine zs_bipush (-6) d_X_faultOf_248 (by decide) ?_
                          refine zs_istore_n2 3 [1, 2, 3, 0, 4, 5, 6, 7, 8, 9, 10] [(0, .ref 35), (1, .int 0), (2, .int (x2 + 1)), (3, .int (-6)), (4, .int x4), (5, .int x5), (6, .int x6), (7, .int (M 37 (Int32.toNatClampNeg x6))), (8, .int ((M 37 (Int32.toNatClampNeg x6)) - 97)), (9, .int (bI (inI ((M 37 (Int32.toNatClampNeg x6)) - 97) 0 (x2 - 1)))), (10, .int 1)] d_X_faultOf_250 rfl (by decide) rfl ?_
                          refine zs_iconst 0 d_X_faultOf_251 (by decide) ?_
                          refine zs_istore2 [1, 2, 3, 4, 0, 5, 6, 7, 8, 9, 10] [(0, .ref 35), (1, .int 0), (2, .int (x2 + 1)), (3, .int (-6)), (4, .int 0), (5, .int x5), (6, .int x6), (7, .int (M 37 (Int32.toNatClampNeg x6))), (8, .int ((M 37 (Int32.toNatClampNeg x6)) - 97)), (9, .int (bI (inI ((M 37 (Int32.toNatClampNeg x6)) - 97) 0 (x2 - 1)))), (10, .int 1)] d_X_faultOf_252 (by decide) rfl ?_
                          refine zs_iload d_X_faultOf_254 (List.mem_of_getElem? (i := 10) rfl) ?_
                          refine zs_if_ne 262 d_X_faultOf_256 (by decide) (fun _ => ?_) (fun c => absurd c (by decide))
                          refine zs_iinc2 6 (x6 + 1) [1, 2, 3, 4, 5, 6, 0, 7, 8, 9, 10] [(0, .ref 35), (1, .int 0), (2, .int (x2 + 1)), (3, .int (-6)), (4, .int 0), (5, .int x5), (6, .int (x6 + 1)), (7, .int (M 37 (Int32.toNatClampNeg x6))), (8, .int ((M 37 (Int32.toNatClampNeg x6)) - 97)), (9, .int (bI (inI ((M 37 (Int32.toNatClampNeg x6)) - 97) 0 (x2 - 1)))), (10, .int 1)] d_X_faultOf_262 rfl rfl (by decide) rfl ?_
                          refine zs_goto 16 d_X_faultOf_265 (by decide) ?_
                          exact zRT_sub [0, 1, 2, 3, 4, 5, 6] rfl h
                    · replace h := h.2 c59
                      refine zs_iload d_X_faultOf_196 (List.mem_of_getElem? (i := 4) rfl) ?_
                      refine zs_iconst 3 d_X_faultOf_198 (by decide) ?_
                      refine zs_icmp_ge 212 d_X_faultOf_199 (by decide) (fun c62 => ?_) (fun c62 => ?_)
                      · replace h := h.1 c62
                        refine zs_iconst 0 d_X_faultOf_212 (by decide) ?_
                        refine zs_istore2 [1, 2, 3, 4, 5, 6, 7, 8, 9, 10, 0] [(0, .ref 35), (1, .int x1), (2, .int x2), (3, .int x3), (4, .int x4), (5, .int x5), (6, .int x6), (7, .int (M 37 (Int32.toNatClampNeg x6))), (8, .int ((M 37 (Int32.toNatClampNeg x6)) - 97)), (9, .int (bI (inI ((M 37 (Int32.toNatClampNeg x6)) - 97) 0 (x2 - 1)))), (10, .int 0)] d_X_faultOf_213 (by decide) rfl ?_
                        refine zs_iinc2 5 (x5 + 1) [1, 2, 3, 4, 5, 0, 6, 7, 8, 9, 10] [(0, .ref 35), (1, .int x1), (2, .int x2), (3, .int x3), (4, .int x4), (5, .int (x5 + 1)), (6, .int x6), (7, .int (M 37 (Int32.toNatClampNeg x6))), (8, .int ((M 37 (Int32.toNatClampNeg x6)) - 97)), (9, .int (bI (inI ((M 37 (Int32.toNatClampNeg x6)) - 97) 0 (x2 - 1)))), (10, .int 0)] d_X_faultOf_215 rfl rfl (by decide) rfl ?_
                        refine zs_bipush 6 d_X_faultOf_218 (by decide) ?_
                        refine zs_istore_n2 1 [1, 0, 2, 3, 4, 5, 6, 7, 8, 9, 10] [(0, .ref 35), (1, .int 6), (2, .int x2), (3, .int x3), (4, .int x4), (5, .int (x5 + 1)), (6, .int x6), (7, .int (M 37 (Int32.toNatClampNeg x6))), (8, .int ((M 37 (Int32.toNatClampNeg x6)) - 97)), (9, .int (bI (inI ((M 37 (Int32.toNatClampNeg x6)) - 97) 0 (x2 - 1)))), (10, .int 0)] d_X_faultOf_220 rfl (by decide) rfl ?_
                        refine zs_goto 254 d_X_faultOf_221 (by decide) ?_
                        refine zs_iload d_X_faultOf_254 (List.mem_of_getElem? (i := 10) rfl) ?_
                        refine zs_if_ne 262 d_X_faultOf_256 (by decide) (fun c => absurd c (by decide)) (fun _ => ?_)
                        refine zs_iload d_X_faultOf_259 (List.mem_of_getElem? (i := 6) rfl) ?_
                        exact zs_iret d_X_faultOf_261 rfl h
                      · replace h := h.2 c62
                        refine zs_iload d_X_faultOf_202 (List.mem_of_getElem? (i := 5) rfl) ?_
                        refine zs_iconst 4 d_X_faultOf_204 (by decide) ?_
                        refine zs_icmp_ge 212 d_X_faultOf_205 (by decide) (fun c63 => ?_) (fun c63 => ?_)
                        · replace h := h.1 c63
                          refine zs_iconst 0 d_X_faultOf_212 (by decide) ?_
                          refine zs_istore2 [1, 2, 3, 4, 5, 6, 7, 8, 9, 10, 0] [(0, .ref 35), (1, .int x1), (2, .int x2), (3, .int x3), (4, .int x4), (5, .int x5), (6, .int x6), (7, .int (M 37 (Int32.toNatClampNeg x6))), (8, .int ((M 37 (Int32.toNatClampNeg x6)) - 97)), (9, .int (bI (inI ((M 37 (Int32.toNatClampNeg x6)) - 97) 0 (x2 - 1)))), (10, .int 0)] d_X_faultOf_213 (by decide) rfl ?_
                          refine zs_iinc2 5 (x5 + 1) [1, 2, 3, 4, 5, 0, 6, 7, 8, 9, 10] [(0, .ref 35), (1, .int x1), (2, .int x2), (3, .int x3), (4, .int x4), (5, .int (x5 + 1)), (6, .int x6), (7, .int (M 37 (Int32.toNatClampNeg x6))), (8, .int ((M 37 (Int32.toNatClampNeg x6)) - 97)), (9, .int (bI (inI ((M 37 (Int32.toNatClampNeg x6)) - 97) 0 (x2 - 1)))), (10, .int 0)] d_X_faultOf_215 rfl rfl (by decide) rfl ?_
                          refine zs_bipush 6 d_X_faultOf_218 (by decide) ?_
                          refine zs_istore_n2 1 [1, 0, 2, 3, 4, 5, 6, 7, 8, 9, 10] [(0, .ref 35), (1, .int 6), (2, .int x2), (3, .int x3), (4, .int x4), (5, .int (x5 + 1)), (6, .int x6), (7, .int (M 37 (Int32.toNatClampNeg x6))), (8, .int ((M 37 (Int32.toNatClampNeg x6)) - 97)), (9, .int (bI (inI ((M 37 (Int32.toNatClampNeg x6)) - 97) 0 (x2 - 1)))), (10, .int 0)] d_X_faultOf_220 rfl (by decide) rfl ?_
                          refine zs_goto 254 d_X_faultOf_221 (by decide) ?_
                          refine zs_iload d_X_faultOf_254 (List.mem_of_getElem? (i := 10) rfl) ?_
                          refine zs_if_ne 262 d_X_faultOf_256 (by decide) (fun c => absurd c (by decide)) (fun _ => ?_)
                          refine zs_iload d_X_faultOf_259 (List.mem_of_getElem? (i := 6) rfl) ?_
                          exact zs_iret d_X_faultOf_261 rfl h
                        · replace h := h.2 c63
                          refine zs_iconst 1 d_X_faultOf_208 (by decide) ?_
                          refine zs_goto 213 d_X_faultOf_209 (by decide) ?_
                          refine zs_istore2 [1, 2, 3, 4, 5, 6, 7, 8, 9, 10, 0] [(0, .ref 35), (1, .int x1), (2, .int x2), (3, .int x3), (4, .int x4), (5, .int x5), (6, .int x6), (7, .int (M 37 (Int32.toNatClampNeg x6))), (8, .int ((M 37 (Int32.toNatClampNeg x6)) - 97)), (9, .int (bI (inI ((M 37 (Int32.toNatClampNeg x6)) - 97) 0 (x2 - 1)))), (10, .int 1)] d_X_faultOf_213 (by decide) rfl ?_
                          refine zs_iinc2 5 (x5 + 1) [1, 2, 3, 4, 5, 0, 6, 7, 8, 9, 10] [(0, .ref 35), (1, .int x1), (2, .int x2), (3, .int x3), (4, .int x4), (5, .int (x5 + 1)), (6, .int x6), (7, .int (M 37 (Int32.toNatClampNeg x6))), (8, .int ((M 37 (Int32.toNatClampNeg x6)) - 97)), (9, .int (bI (inI ((M 37 (Int32.toNatClampNeg x6)) - 97) 0 (x2 - 1)))), (10, .int 1)] d_X_faultOf_215 rfl rfl (by decide) rfl ?_
                          refine zs_bipush 6 d_X_faultOf_218 (by decide) ?_
                          refine zs_istore_n2 1 [1, 0, 2, 3, 4, 5, 6, 7, 8, 9, 10] [(0, .ref 35), (1, .int 6), (2, .int x2), (3, .int x3), (4, .int x4), (5, .int (x5 + 1)), (6, .int x6), (7, .int (M 37 (Int32.toNatClampNeg x6))), (8, .int ((M 37 (Int32.toNatClampNeg x6)) - 97)), (9, .int (bI (inI ((M 37 (Int32.toNatClampNeg x6)) - 97) 0 (x2 - 1)))), (10, .int 1)] d_X_faultOf_220 rfl (by decide) rfl ?_
                          refine zs_goto 254 d_X_faultOf_221 (by decide) ?_
                          refine zs_iload d_X_faultOf_254 (List.mem_of_getElem? (i := 10) rfl) ?_
                          refine zs_if_ne 262 d_X_faultOf_256 (by decide) (fun _ => ?_) (fun c => absurd c (by decide))
                          refine zs_iinc2 6 (x6 + 1) [1, 2, 3, 4, 5, 6, 0, 7, 8, 9, 10] [(0, .ref 35), (1, .int 6), (2, .int x2), (3, .int x3), (4, .int x4), (5, .int (x5 + 1)), (6, .int (x6 + 1)), (7, .int (M 37 (Int32.toNatClampNeg x6))), (8, .int ((M 37 (Int32.toNatClampNeg x6)) - 97)), (9, .int (bI (inI ((M 37 (Int32.toNatClampNeg x6)) - 97) 0 (x2 - 1)))), (10, .int 1)] d_X_faultOf_262 rfl rfl (by decide) rfl ?_
                          refine zs_goto 16 d_X_faultOf_265 (by decide) ?_
                          exact zRT_sub [0, 1, 2, 3, 4, 5, 6] rfl h
                  · replace h := h.2 (bI_1 c58)
                    refine zs_iload d_X_faultOf_148 (List.mem_of_getElem? (i := 4) rfl) ?_
                    refine zs_iconst 3 d_X_faultOf_150 (by decide) ?_
                    refine zs_icmp_ge 169 d_X_faultOf_151 (by decide) (fun c64 => ?_) (fun c64 => ?_)
                    · replace h := h.1 c64
                      refine zs_iconst 0 d_X_faultOf_169 (by decide) ?_
                      refine zs_istore2 [1, 2, 3, 4, 5, 6, 7, 8, 9, 10, 0] [(0, .ref 35), (1, .int x1), (2, .int x2), (3, .int x3), (4, .int x4), (5, .int x5), (6, .int x6), (7, .int (M 37 (Int32.toNatClampNeg x6))), (8, .int ((M 37 (Int32.toNatClampNeg x6)) - 97)), (9, .int (bI (inI ((M 37 (Int32.toNatClampNeg x6)) - 97) 0 (x2 - 1)))), (10, .int 0)] d_X_faultOf_170 (by decide) rfl ?_
                      refine zs_iload d_X_faultOf_172 (List.mem_of_getElem? (i := 7) rfl) ?_
                      refine zs_istore_n2 3 [1, 2, 3, 0, 4, 5, 6, 7, 8, 9, 10] [(0, .ref 35), (1, .int x1), (2, .int x2), (3, .int (M 37 (Int32.toNatClampNeg x6))), (4, .int x4), (5, .int x5), (6, .int x6), (7, .int (M 37 (Int32.toNatClampNeg x6))), (8, .int ((M 37 (Int32.toNatClampNeg x6)) - 97)), (9, .int (bI (inI ((M 37 (Int32.toNatClampNeg x6)) - 97) 0 (x2 - 1)))), (10, .int 0)] d_X_faultOf_174 rfl (by decide) rfl ?_
                      refine zs_iinc2 4 (x4 + 1) [1, 2, 3, 4, 0, 5, 6, 7, 8, 9, 10] [(0, .ref 35), (1, .int x1), (2, .int x2), (3, .int (M 37 (Int32.toNatClampNeg x6))), (4, .int (x4 + 1)), (5, .int x5), (6, .int x6), (7, .int (M 37 (Int32.toNatClampNeg x6))), (8, .int ((M 37 (Int32.toNatClampNeg x6)) - 97)), (9, .int (bI (inI ((M 37 (Int32.toNatClampNeg x6)) - 97) 0 (x2 - 1)))), (10, .int 0)] d_X_faultOf_175 rfl rfl (by decide) rfl ?_
                      refine zs_iconst 5 d_X_faultOf_178 (by decide) ?_
                      refine zs_istore_n2 1 [1, 0, 2, 3, 4, 5, 6, 7, 8, 9, 10] [(0, .ref 35), (1, .int 5), (2, .int x2), (3, .int (M 37 (Int32.toNatClampNeg x6))), (4, .int (x4 + 1)), (5, .int x5), (6, .int x6), (7, .int (M 37 (Int32.toNatClampNeg x6))), (8, .int ((M 37 (Int32.toNatClampNeg x6)) - 97)), (9, .int (bI (inI ((M 37 (Int32.toNatClampNeg x6)) - 97) 0 (x2 - 1)))), (10, .int 0)] d_X_faultOf_179 rfl (by decide) rfl ?_
                      refine zs_goto 254 d_X_faultOf_180 (by decide) ?_
                      refine zs_iload d_X_faultOf_254 (List.mem_of_getElem? (i := 10) rfl) ?_
                      refine zs_if_ne 262 d_X_faultOf_256 (by decide) (fun c => absurd c (by decide)) (fun _ => ?_)
                      refine zs_iload d_X_faultOf_259 (List.mem_of_getElem? (i := 6) rfl) ?_
                      exact zs_iret d_X_faultOf_261 rfl h
                    · replace h := h.2 c64
                      refine zs_iload d_X_faultOf_154 (List.mem_of_getElem? (i := 4) rfl) ?_
                      refine zs_if_eq 165 d_X_faultOf_156 (by decide) (fun c65 => ?_) (fun c65 => ?_)
                      · replace h := h.1 c65
                        refine zs_iconst 1 d_X_faultOf_165 (by decide) ?_
                        refine zs_goto 170 d_X_faultOf_166 (by decide) ?_
                        refine zs_istore2 [1, 2, 3, 4, 5, 6, 7, 8, 9, 10, 0] [(0, .ref 35), (1, .int x1), (2, .int x2), (3, .int x3), (4, .int x4), (5, .int x5), (6, .int x6), (7, .int (M 37 (Int32.toNatClampNeg x6))), (8, .int ((M 37 (Int32.toNatClampNeg x6)) - 97)), (9, .int (bI (inI ((M 37 (Int32.toNatClampNeg x6)) - 97) 0 (x2 - 1)))), (10, .int 1)] d_X_faultOf_170 (by decide) rfl ?_
                        refine zs_iload d_X_faultOf_172 (List.mem_of_getElem? (i := 7) rfl) ?_
                        refine zs_istore_n2 3 [1, 2, 3, 0, 4, 5, 6, 7, 8, 9, 10] [(0, .ref 35), (1, .int x1), (2, .int x2), (3, .int (M 37 (Int32.toNatClampNeg x6))), (4, .int x4), (5, .int x5), (6, .int x6), (7, .int (M 37 (Int32.toNatClampNeg x6))), (8, .int ((M 37 (Int32.toNatClampNeg x6)) - 97)), (9, .int (bI (inI ((M 37 (Int32.toNatClampNeg x6)) - 97) 0 (x2 - 1)))), (10, .int 1)] d_X_faultOf_174 rfl (by decide) rfl ?_
                        refine zs_iinc2 4 (x4 + 1) [1, 2, 3, 4, 0, 5, 6, 7, 8, 9, 10] [(0, .ref 35), (1, .int x1), (2, .int x2), (3, .int (M 37 (Int32.toNatClampNeg x6))), (4, .int (x4 + 1)), (5, .int x5), (6, .int x6), (7, .int (M 37 (Int32.toNatClampNeg x6))), (8, .int ((M 37 (Int32.toNatClampNeg x6)) - 97)), (9, .int (bI (inI ((M 37 (Int32.toNatClampNeg x6)) - 97) 0 (x2 - 1)))), (10, .int 1)] d_X_faultOf_175 rfl rfl (by decide) rfl ?_
                        refine zs_iconst 5 d_X_faultOf_178 (by decide) ?_
                        refine zs_istore_n2 1 [1, 0, 2, 3, 4, 5, 6, 7, 8, 9, 10] [(0, .ref 35), (1, .int 5), (2, .int x2), (3, .int (M 37 (Int32.toNatClampNeg x6))), (4, .int (x4 + 1)), (5, .int x5), (6, .int x6), (7, .int (M 37 (Int32.toNatClampNeg x6))), (8, .int ((M 37 (Int32.toNatClampNeg x6)) - 97)), (9, .int (bI (inI ((M 37 (Int32.toNatClampNeg x6)) - 97) 0 (x2 - 1)))), (10, .int 1)] d_X_faultOf_179 rfl (by decide) rfl ?_
                        refine zs_goto 254 d_X_faultOf_180 (by decide) ?_
                        refine zs_iload d_X_faultOf_254 (List.mem_of_getElem? (i := 10) rfl) ?_
                        refine zs_if_ne 262 d_X_faultOf_256 (by decide) (fun _ => ?_) (fun c => absurd c (by decide))
                        refine zs_iinc2 6 (x6 + 1) [1, 2, 3, 4, 5, 6, 0, 7, 8, 9, 10] [(0, .ref 35), (1, .int 5), (2, .int x2), (3, .int (M 37 (Int32.toNatClampNeg x6))), (4, .int (x4 + 1)), (5, .int x5), (6, .int (x6 + 1)), (7, .int (M 37 (Int32.toNatClampNeg x6))), (8, .int ((M 37 (Int32.toNatClampNeg x6)) - 97)), (9, .int (bI (inI ((M 37 (Int32.toNatClampNeg x6)) - 97) 0 (x2 - 1)))), (10, .int 1)] d_X_faultOf_262 rfl rfl (by decide) rfl ?_
                        refine zs_goto 16 d_X_faultOf_265 (by decide) ?_
                        exact zRT_sub [0, 1, 2, 3, 4, 5, 6] rfl h
                      · replace h := h.2 c65
                        refine zs_iload d_X_faultOf_159 (List.mem_of_getElem? (i := 7) rfl) ?_
                        refine zs_iload_n 3 d_X_faultOf_161 rfl (List.mem_of_getElem? (i := 3) rfl) ?_
                        refine zs_icmp_le 169 d_X_faultOf_162 (by decide) (fun c66 => ?_) (fun c66 => ?_)
                        · replace h := h.1 c66
                          refine zs_iconst 0 d_X_faultOf_169 (by decide) ?_
                          refine zs_istore2 [1, 2, 3, 4, 5, 6, 7, 8, 9, 10, 0] [(0, .ref 35), (1, .int x1), (2, .int x2), (3, .int x3), (4, .int x4), (5, .int x5), (6, .int x6), (7, .int (M 37 (Int32.toNatClampNeg x6))), (8, .int ((M 37 (Int32.toNatClampNeg x6)) - 97)), (9, .int (bI (inI ((M 37 (Int32.toNatClampNeg x6)) - 97) 0 (x2 - 1)))), (10, .int 0)] d_X_faultOf_170 (by decide) rfl ?_
                          refine zs_iload d_X_faultOf_172 (List.mem_of_getElem? (i := 7) rfl) ?_
                          refine zs_istore_n2 3 [1, 2, 3, 0, 4, 5, 6, 7, 8, 9, 10] [(0, .ref 35), (1, .int x1), (2, .int x2), (3, .int (M 37 (Int32.toNatClampNeg x6))), (4, .int x4), (5, .int x5), (6, .int x6), (7, .int (M 37 (Int32.toNatClampNeg x6))), (8, .int ((M 37 (Int32.toNatClampNeg x6)) - 97)), (9, .int (bI (inI ((M 37 (Int32.toNatClampNeg x6)) - 97) 0 (x2 - 1)))), (10, .int 0)] d_X_faultOf_174 rfl (by decide) rfl ?_
                          refine zs_iinc2 4 (x4 + 1) [1, 2, 3, 4, 0, 5, 6, 7, 8, 9, 10] [(0, .ref 35), (1, .int x1), (2, .int x2), (3, .int (M 37 (Int32.toNatClampNeg x6))), (4, .int (x4 + 1)), (5, .int x5), (6, .int x6), (7, .int (M 37 (Int32.toNatClampNeg x6))), (8, .int ((M 37 (Int32.toNatClampNeg x6)) - 97)), (9, .int (bI (inI ((M 37 (Int32.toNatClampNeg x6)) - 97) 0 (x2 - 1)))), (10, .int 0)] d_X_faultOf_175 rfl rfl (by decide) rfl ?_
                          refine zs_iconst 5 d_X_faultOf_178 (by decide) ?_
                          refine zs_istore_n2 1 [1, 0, 2, 3, 4, 5, 6, 7, 8, 9, 10] [(0, .ref 35), (1, .int 5), (2, .int x2), (3, .int (M 37 (Int32.toNatClampNeg x6))), (4, .int (x4 + 1)), (5, .int x5), (6, .int x6), (7, .int (M 37 (Int32.toNatClampNeg x6))), (8, .int ((M 37 (Int32.toNatClampNeg x6)) - 97)), (9, .int (bI (inI ((M 37 (Int32.toNatClampNeg x6)) - 97) 0 (x2 - 1)))), (10, .int 0)] d_X_faultOf_179 rfl (by decide) rfl ?_
                          refine zs_goto 254 d_X_faultOf_180 (by decide) ?_
                          refine zs_iload d_X_faultOf_254 (List.mem_of_getElem? (i := 10) rfl) ?_
                          refine zs_if_ne 262 d_X_faultOf_256 (by decide) (fun c => absurd c (by decide)) (fun _ => ?_)
                          refine zs_iload d_X_faultOf_259 (List.mem_of_getElem? (i := 6) rfl) ?_
                          exact zs_iret d_X_faultOf_261 rfl h
                        · replace h := h.2 c66
                          refine zs_iconst 1 d_X_faultOf_165 (by decide) ?_
                          refine zs_goto 170 d_X_faultOf_166 (by decide) ?_
                          refine zs_istore2 [1, 2, 3, 4, 5, 6, 7, 8, 9, 10, 0] [(0, .ref 35), (1, .int x1), (2, .int x2), (3, .int x3), (4, .int x4), (5, .int x5), (6, .int x6), (7, .int (M 37 (Int32.toNatClampNeg x6))), (8, .int ((M 37 (Int32.toNatClampNeg x6)) - 97)), (9, .int (bI (inI ((M 37 (Int32.toNatClampNeg x6)) - 97) 0 (x2 - 1)))), (10, .int 1)] d_X_faultOf_170 (by decide) rfl ?_
                          refine zs_iload d_X_faultOf_172 (List.mem_of_getElem? (i := 7) rfl) ?_
                          refine zs_istore_n2 3 [1, 2, 3, 0, 4, 5, 6, 7, 8, 9, 10] [(0, .ref 35), (1, .int x1), (2, .int x2), (3, .int (M 37 (Int32.toNatClampNeg x6))), (4, .int x4), (5, .int x5), (6, .int x6), (7, .int (M 37 (Int32.toNatClampNeg x6))), (8, .int ((M 37 (Int32.toNatClampNeg x6)) - 97)), (9, .int (bI (inI ((M 37 (Int32.toNatClampNeg x6)) - 97) 0 (x2 - 1)))), (10, .int 1)] d_X_faultOf_174 rfl (by decide) rfl ?_
                          refine zs_iinc2 4 (x4 + 1) [1, 2, 3, 4, 0, 5, 6, 7, 8, 9, 10] [(0, .ref 35), (1, .int x1), (2, .int x2), (3, .int (M 37 (Int32.toNatClampNeg x6))), (4, .int (x4 + 1)), (5, .int x5), (6, .int x6), (7, .int (M 37 (Int32.toNatClampNeg x6))), (8, .int ((M 37 (Int32.toNatClampNeg x6)) - 97)), (9, .int (bI (inI ((M 37 (Int32.toNatClampNeg x6)) - 97) 0 (x2 - 1)))), (10, .int 1)] d_X_faultOf_175 rfl rfl (by decide) rfl ?_
                          refine zs_iconst 5 d_X_faultOf_178 (by decide) ?_
                          refine zs_istore_n2 1 [1, 0, 2, 3, 4, 5, 6, 7, 8, 9, 10] [(0, .ref 35), (1, .int 5), (2, .int x2), (3, .int (M 37 (Int32.toNatClampNeg x6))), (4, .int (x4 + 1)), (5, .int x5), (6, .int x6), (7, .int (M 37 (Int32.toNatClampNeg x6))), (8, .int ((M 37 (Int32.toNatClampNeg x6)) - 97)), (9, .int (bI (inI ((M 37 (Int32.toNatClampNeg x6)) - 97) 0 (x2 - 1)))), (10, .int 1)] d_X_faultOf_179 rfl (by decide) rfl ?_
                          refine zs_goto 254 d_X_faultOf_180 (by decide) ?_
                          refine zs_iload d_X_faultOf_254 (List.mem_of_getElem? (i := 10) rfl) ?_
                          refine zs_if_ne 262 d_X_faultOf_256 (by decide) (fun _ => ?_) (fun c => absurd c (by decide))
                          refine zs_iinc2 6 (x6 + 1) [1, 2, 3, 4, 5, 6, 0, 7, 8, 9, 10] [(0, .ref 35), (1, .int 5), (2, .int x2), (3, .int (M 37 (Int32.toNatClampNeg x6))), (4, .int (x4 + 1)), (5, .int x5), (6, .int (x6 + 1)), (7, .int (M 37 (Int32.toNatClampNeg x6))), (8, .int ((M 37 (Int32.toNatClampNeg x6)) - 97)), (9, .int (bI (inI ((M 37 (Int32.toNatClampNeg x6)) - 97) 0 (x2 - 1)))), (10, .int 1)] d_X_faultOf_262 rfl rfl (by decide) rfl ?_
                          refine zs_goto 16 d_X_faultOf_265 (by decide) ?_
                          exact zRT_sub [0, 1, 2, 3, 4, 5, 6] rfl h
              · replace h := h.2 c53
                refine zs_iconst 1 d_X_faultOf_122 (by decide) ?_
                refine zs_istore2 [1, 2, 3, 4, 5, 6, 7, 8, 9, 10, 0] [(0, .ref 35), (1, .int x1), (2, .int x2), (3, .int x3), (4, .int x4), (5, .int x5), (6, .int x6), (7, .int (M 37 (Int32.toNatClampNeg x6))), (8, .int ((M 37 (Int32.toNatClampNeg x6)) - 97)), (9, .int (bI (inI ((M 37 (Int32.toNatClampNeg x6)) - 97) 0 (x2 - 1)))), (10, .int 1)] d_X_faultOf_123 (by decide) rfl ?_
                refine zs_iconst 3 d_X_faultOf_125 (by decide) ?_
                refine zs_istore_n2 1 [1, 0, 2, 3, 4, 5, 6, 7, 8, 9, 10] [(0, .ref 35), (1, .int 3), (2, .int x2), (3, .int x3), (4, .int x4), (5, .int x5), (6, .int x6), (7, .int (M 37 (Int32.toNatClampNeg x6))), (8, .int ((M 37 (Int32.toNatClampNeg x6)) - 97)), (9, .int (bI (inI ((M 37 (Int32.toNatClampNeg x6)) - 97) 0 (x2 - 1)))), (10, .int 1)] d_X_faultOf_126 rfl (by decide) rfl ?_
                refine zs_goto 254 d_X_faultOf_127 (by decide) ?_
                refine zs_iload d_X_faultOf_254 (List.mem_of_getElem? (i := 10) rfl) ?_
                refine zs_if_ne 262 d_X_faultOf_256 (by decide) (fun _ => ?_) (fun c => absurd c (by decide))
                refine zs_iinc2 6 (x6 + 1) [1, 2, 3, 4, 5, 6, 0, 7, 8, 9, 10] [(0, .ref 35), (1, .int 3), (2, .int x2), (3, .int x3), (4, .int x4), (5, .int x5), (6, .int (x6 + 1)), (7, .int (M 37 (Int32.toNatClampNeg x6))), (8, .int ((M 37 (Int32.toNatClampNeg x6)) - 97)), (9, .int (bI (inI ((M 37 (Int32.toNatClampNeg x6)) - 97) 0 (x2 - 1)))), (10, .int 1)] d_X_faultOf_262 rfl rfl (by decide) rfl ?_
                refine zs_goto 16 d_X_faultOf_265 (by decide) ?_
                exact zRT_sub [0, 1, 2, 3, 4, 5, 6] rfl h
          · replace h := h.2 c38
            refine zs_iload d_X_faultOf_101 (List.mem_of_getElem? (i := 9) rfl) ?_
            refine zs_istore2 [1, 2, 3, 4, 5, 6, 7, 8, 9, 10, 0] [(0, .ref 35), (1, .int x1), (2, .int x2), (3, .int x3), (4, .int x4), (5, .int x5), (6, .int x6), (7, .int (M 37 (Int32.toNatClampNeg x6))), (8, .int ((M 37 (Int32.toNatClampNeg x6)) - 97)), (9, .int (bI (inI ((M 37 (Int32.toNatClampNeg x6)) - 97) 0 (x2 - 1)))), (10, .int (bI (inI ((M 37 (Int32.toNatClampNeg x6)) - 97) 0 (x2 - 1))))] d_X_faultOf_103 (by decide) rfl ?_
            refine zs_iconst 4 d_X_faultOf_105 (by decide) ?_
            refine zs_istore_n2 1 [1, 0, 2, 3, 4, 5, 6, 7, 8, 9, 10] [(0, .ref 35), (1, .int 4), (2, .int x2), (3, .int x3), (4, .int x4), (5, .int x5), (6, .int x6), (7, .int (M 37 (Int32.toNatClampNeg x6))), (8, .int ((M 37 (Int32.toNatClampNeg x6)) - 97)), (9, .int (bI (inI ((M 37 (Int32.toNatClampNeg x6)) - 97) 0 (x2 - 1)))), (10, .int (bI (inI ((M 37 (Int32.toNatClampNeg x6)) - 97) 0 (x2 - 1))))] d_X_faultOf_106 rfl (by decide) rfl ?_
            refine zs_goto 254 d_X_faultOf_107 (by decide) ?_
            refine zs_iload d_X_faultOf_254 (List.mem_of_getElem? (i := 10) rfl) ?_
            refine zs_if_ne 262 d_X_faultOf_256 (by decide) (fun c67 => ?_) (fun c67 => ?_)
            · replace h := h.1 (bI_1 c67)
              refine zs_iinc2 6 (x6 + 1) [1, 2, 3, 4, 5, 6, 0, 7, 8, 9, 10] [(0, .ref 35), (1, .int 4), (2, .int x2), (3, .int x3), (4, .int x4), (5, .int x5), (6, .int (x6 + 1)), (7, .int (M 37 (Int32.toNatClampNeg x6))), (8, .int ((M 37 (Int32.toNatClampNeg x6)) - 97)), (9, .int (bI (inI ((M 37 (Int32.toNatClampNeg x6)) - 97) 0 (x2 - 1)))), (10, .int (bI (inI ((M 37 (Int32.toNatClampNeg x6)) - 97) 0 (x2 - 1))))] d_X_faultOf_262 rfl rfl (by decide) rfl ?_
              refine zs_goto 16 d_X_faultOf_265 (by decide) ?_
              exact zRT_sub [0, 1, 2, 3, 4, 5, 6] rfl h
            · replace h := h.2 (bI_0 c67)
              refine zs_iload d_X_faultOf_259 (List.mem_of_getElem? (i := 6) rfl) ?_
              exact zs_iret d_X_faultOf_261 rfl h
        · replace h := h.2 (bI_1 c37)
          refine zs_iload d_X_faultOf_74 (List.mem_of_getElem? (i := 8) rfl) ?_
          refine zs_iload_n 3 d_X_faultOf_76 rfl (List.mem_of_getElem? (i := 3) rfl) ?_
          refine zs_icmp_le 84 d_X_faultOf_77 (by decide) (fun c68 => ?_) (fun c68 => ?_)
          · replace h := h.1 c68
            refine zs_iconst 0 d_X_faultOf_84 (by decide) ?_
            refine zs_istore2 [1, 2, 3, 4, 5, 6, 7, 8, 9, 10, 0] [(0, .ref 35), (1, .int x1), (2, .int x2), (3, .int x3), (4, .int x4), (5, .int x5), (6, .int x6), (7, .int (M 37 (Int32.toNatClampNeg x6))), (8, .int ((M 37 (Int32.toNatClampNeg x6)) - 97)), (9, .int (bI (inI ((M 37 (Int32.toNatClampNeg x6)) - 97) 0 (x2 - 1)))), (10, .int 0)] d_X_faultOf_85 (by decide) rfl ?_
            refine zs_iload d_X_faultOf_87 (List.mem_of_getElem? (i := 8) rfl) ?_
            refine zs_istore_n2 3 [1, 2, 3, 0, 4, 5, 6, 7, 8, 9, 10] [(0, .ref 35), (1, .int x1), (2, .int x2), (3, .int ((M 37 (Int32.toNatClampNeg x6)) - 97)), (4, .int x4), (5, .int x5), (6, .int x6), (7, .int (M 37 (Int32.toNatClampNeg x6))), (8, .int ((M 37 (Int32.toNatClampNeg x6)) - 97)), (9, .int (bI (inI ((M 37 (Int32.toNatClampNeg x6)) - 97) 0 (x2 - 1)))), (10, .int 0)] d_X_faultOf_89 rfl (by decide) rfl ?_
            refine zs_iinc2 1 (x1 + 1) [1, 0, 2, 3, 4, 5, 6, 7, 8, 9, 10] [(0, .ref 35), (1, .int (x1 + 1)), (2, .int x2), (3, .int ((M 37 (Int32.toNatClampNeg x6)) - 97)), (4, .int x4), (5, .int x5), (6, .int x6), (7, .int (M 37 (Int32.toNatClampNeg x6))), (8, .int ((M 37 (Int32.toNatClampNeg x6)) - 97)), (9, .int (bI (inI ((M 37 (Int32.toNatClampNeg x6)) - 97) 0 (x2 - 1)))), (10, .int 0)] d_X_faultOf_90 rfl rfl (by decide) rfl ?_
            refine zs_goto 254 d_X_faultOf_93 (by decide) ?_
            refine zs_iload d_X_faultOf_254 (List.mem_of_getElem? (i := 10) rfl) ?_
            refine zs_if_ne 262 d_X_faultOf_256 (by decide) (fun c => absurd c (by decide)) (fun _ => ?_)
            refine zs_iload d_X_faultOf_259 (List.mem_of_getElem? (i := 6) rfl) ?_
            exact zs_iret d_X_faultOf_261 rfl h
          · replace h := h.2 c68
            refine zs_iconst 1 d_X_faultOf_80 (by decide) ?_
            refine zs_goto 85 d_X_faultOf_81 (by decide) ?_
            refine zs_istore2 [1, 2, 3, 4, 5, 6, 7, 8, 9, 10, 0] [(0, .ref 35), (1, .int x1), (2, .int x2), (3, .int x3), (4, .int x4), (5, .int x5), (6, .int x6), (7, .int (M 37 (Int32.toNatClampNeg x6))), (8, .int ((M 37 (Int32.toNatClampNeg x6)) - 97)), (9, .int (bI (inI ((M 37 (Int32.toNatClampNeg x6)) - 97) 0 (x2 - 1)))), (10, .int 1)] d_X_faultOf_85 (by decide) rfl ?_
            refine zs_iload d_X_faultOf_87 (List.mem_of_getElem? (i := 8) rfl) ?_
            refine zs_istore_n2 3 [1, 2, 3, 0, 4, 5, 6, 7, 8, 9, 10] [(0, .ref 35), (1, .int x1), (2, .int x2), (3, .int ((M 37 (Int32.toNatClampNeg x6)) - 97)), (4, .int x4), (5, .int x5), (6, .int x6), (7, .int (M 37 (Int32.toNatClampNeg x6))), (8, .int ((M 37 (Int32.toNatClampNeg x6)) - 97)), (9, .int (bI (inI ((M 37 (Int32.toNatClampNeg x6)) - 97) 0 (x2 - 1)))), (10, .int 1)] d_X_faultOf_89 rfl (by decide) rfl ?_
            refine zs_iinc2 1 (x1 + 1) [1, 0, 2, 3, 4, 5, 6, 7, 8, 9, 10] [(0, .ref 35), (1, .int (x1 + 1)), (2, .int x2), (3, .int ((M 37 (Int32.toNatClampNeg x6)) - 97)), (4, .int x4), (5, .int x5), (6, .int x6), (7, .int (M 37 (Int32.toNatClampNeg x6))), (8, .int ((M 37 (Int32.toNatClampNeg x6)) - 97)), (9, .int (bI (inI ((M 37 (Int32.toNatClampNeg x6)) - 97) 0 (x2 - 1)))), (10, .int 1)] d_X_faultOf_90 rfl rfl (by decide) rfl ?_
            refine zs_goto 254 d_X_faultOf_93 (by decide) ?_
            refine zs_iload d_X_faultOf_254 (List.mem_of_getElem? (i := 10) rfl) ?_
            refine zs_if_ne 262 d_X_faultOf_256 (by decide) (fun _ => ?_) (fun c => absurd c (by decide))
            refine zs_iinc2 6 (x6 + 1) [1, 2, 3, 4, 5, 6, 0, 7, 8, 9, 10] [(0, .ref 35), (1, .int (x1 + 1)), (2, .int x2), (3, .int ((M 37 (Int32.toNatClampNeg x6)) - 97)), (4, .int x4), (5, .int x5), (6, .int (x6 + 1)), (7, .int (M 37 (Int32.toNatClampNeg x6))), (8, .int ((M 37 (Int32.toNatClampNeg x6)) - 97)), (9, .int (bI (inI ((M 37 (Int32.toNatClampNeg x6)) - 97) 0 (x2 - 1)))), (10, .int 1)] d_X_faultOf_262 rfl rfl (by decide) rfl ?_
            refine zs_goto 16 d_X_faultOf_265 (by decide) ?_
            exact zRT_sub [0, 1, 2, 3, 4, 5, 6] rfl h
    · replace h := h.2 c5
      refine zs_iconst 0 d_X_faultOf_58 (by decide) ?_
      refine zs_istore2 [1, 2, 3, 4, 5, 6, 7, 8, 9, 10, 0] [(0, .ref 35), (1, .int x1), (2, .int x2), (3, .int x3), (4, .int x4), (5, .int x5), (6, .int x6), (7, .int (M 37 (Int32.toNatClampNeg x6))), (8, .int ((M 37 (Int32.toNatClampNeg x6)) - 97)), (9, .int (bI (inI ((M 37 (Int32.toNatClampNeg x6)) - 97) 0 (x2 - 1)))), (10, .int 0)] d_X_faultOf_59 (by decide) rfl ?_
      refine zs_goto 254 d_X_faultOf_61 (by decide) ?_
      refine zs_iload d_X_faultOf_254 (List.mem_of_getElem? (i := 10) rfl) ?_
      refine zs_if_ne 262 d_X_faultOf_256 (by decide) (fun c => absurd c (by decide)) (fun _ => ?_)
      refine zs_iload d_X_faultOf_259 (List.mem_of_getElem? (i := 6) rfl) ?_
      exact zs_iret d_X_faultOf_261 rfl h
set_option maxHeartbeats 4000000 in
theorem bFaultStep (n : Nat) (hp : mPd M n) (Q : zEnd) (k : Nat) (hk : k < n) (A : bS) (x : Int32) (hz : bSz A) (hl : bLs A x)
  (bad : bStep A (Int32.toNatClampNeg (M 37 k)) = none → Q (some (.int (nI k))) (SHP g X) M)
  (good : ∀ B y, bStep A (Int32.toNatClampNeg (M 37 k)) = some B → bSz B → bLs B y → zRT m_X_faultOf 0 0 16 [(0, .ref 35), (1, .int (nI B.1)), (2, .int (nI B.2.1)), (3, .int y), (4, .int (nI B.2.2.2.1)), (5, .int (nI B.2.2.2.2.1)), (6, .int (nI (k + 1)))] [] (SHP g X) M Q) :
  zRT m_X_faultOf 0 0 16 [(0, .ref 35), (1, .int (nI A.1)), (2, .int (nI A.2.1)), (3, .int x), (4, .int (nI A.2.2.2.1)), (5, .int (nI A.2.2.2.2.1)), (6, .int (nI k))] [] (SHP g X) M Q := by
  obtain ⟨hn, e4, hsg⟩ := hp
  obtain ⟨s, hs1, hs2, es⟩ := hsg k hk
  rw [es, nI_clamp (by omega)] at bad good
  have gd : ∀ B y, bStep A s = some B → bLs B y → zRT m_X_faultOf 0 0 16 [(0, .ref 35), (1, .int (nI B.1)), (2, .int (nI B.2.1)), (3, .int y), (4, .int (nI B.2.2.2.1)), (5, .int (nI B.2.2.2.2.1)), (6, .int (nI (k + 1)))] [] (SHP g X) M Q := fun B y h1 h2 => good B y h1 (bStep_sz hs2 hz h1) h2
  clear good
  obtain ⟨q, N, L, c, o, R⟩ := A
  obtain ⟨z1, z2, z3, z4, z5⟩ := hz
  obtain ⟨l1, l2, l3⟩ := hl
  simp only at z1 z2 z3 z4 z5 l1 l2 l3 gd bad ⊢
  refine v_X_faultOf_16 g X _ _ _ _ _ _ _ _ ⟨fun h => absurd h (by rw [e4]; exact nI_ge (by omega) (by omega)), fun _ => ⟨vp_in_nI (by omega) (by decide), ?_⟩⟩
  have cN : nI N = 10 ↔ N = 10 := nI_eq (b := 10) (by omega) (by omega)
  have q2 : (2 ≤ nI q) ↔ 2 ≤ q := nI_leI (a := 2) (by omega) (by omega)
  have q3 : (3 ≤ nI q) ↔ 3 ≤ q := nI_leI (a := 3) (by omega) (by omega)
  have q4 : (nI q ≤ 4) ↔ q ≤ 4 := nI_leI (b := 4) (by omega) (by omega)
  have q5 : nI q = 3 ↔ q = 3 := nI_eq (b := 3) (by omega) (by omega)
  have q6 : nI q = 6 ↔ q = 6 := nI_eq (b := 6) (by omega) (by omega)
  have c3 : (3 ≤ nI c) ↔ 3 ≤ c := nI_leI (a := 3) (by omega) (by omega)
  have c0 : nI c = 0 ↔ c = 0 := nI_eq (b := 0) (by omega) (by omega)
  have o4 : (4 ≤ nI o) ↔ 4 ≤ o := nI_leI (a := 4) (by omega) (by omega)
  have s1 : nI s = 59 ↔ s = 59 := nI_eq (b := 59) (by omega) (by omega)
  have s2 : nI s = 63 ↔ s = 63 := nI_eq (b := 63) (by omega) (by omega)
  have s3 : nI s = 43 ↔ s = 43 := nI_eq (b := 43) (by omega) (by omega)
  have sA := bAhead (n := N) hs2 z2
  have sH := bHand hs2
  have sA' : inI (nI s - 97) 0 (nI N - 1) = false ↔ ¬ (97 ≤ s ∧ s < 97 + N) := by rw [← sA]; simp
  have sH' : inI (nI s) 65 70 = false ↔ ¬ (65 ≤ s ∧ s ≤ 70) := by rw [← sH]; simp
  rw [nI_clamp (by omega), es]
  simp only [cN, q2, q3, q4, q5, q6, c3, c0, o4, s1, s2, s3, sA, sH, sA', sH', nI_1]
  have t0 : ¬ N = 10 → s = 59 → 4 < q → zRT m_X_faultOf 0 0 16 [(0, .ref 35), (1, .int 0), (2, .int (nI (N + 1))), (3, .int (-6)), (4, .int 0), (5, .int (nI o)), (6, .int (nI (k + 1)))] [] (SHP g X) M Q := by
    intro a1 a2 a3
    refine gd (0, N + 1, 0, 0, o, R) (-6) ?_ ⟨fun _ => rfl, fun h => absurd h (by simp), fun h => absurd h (by simp)⟩
    unfold bStep
    simp only
    rw [if_neg a1, if_neg (by omega), if_neg (by omega), if_neg (by omega), if_neg (by omega), if_pos (by omega)]
  have t3 : ¬ N = 10 → s = 43 → q < 3 → zRT m_X_faultOf 0 0 16 [(0, .ref 35), (1, .int 3), (2, .int (nI N)), (3, .int x), (4, .int (nI c)), (5, .int (nI o)), (6, .int (nI (k + 1)))] [] (SHP g X) M Q := by
    intro a1 a2 a3
    refine gd (3, N, L, c, o, R) x ?_ ⟨fun h => absurd h (by simp), fun h => absurd h (by simp), l3⟩
    unfold bStep
    simp only
    rw [if_neg a1, if_neg (by omega), if_pos a2, if_pos a3]
  have t4 : ¬ N = 10 → q = 3 → (97 ≤ s ∧ s < 97 + N) → zRT m_X_faultOf 0 0 16 [(0, .ref 35), (1, .int 4), (2, .int (nI N)), (3, .int x), (4, .int (nI c)), (5, .int (nI o)), (6, .int (nI (k + 1)))] [] (SHP g X) M Q := by
    intro a1 a2 a3
    refine gd (4, N, L, c, o, upd R (5 * N + 3) (nI (s - 97))) x ?_ ⟨fun h => absurd h (by simp), fun h => absurd h (by simp), l3⟩
    unfold bStep
    simp only
    rw [if_neg a1, if_pos a3, if_neg (by omega), if_neg (by omega), if_pos a2]
  have t5 : ¬ N = 10 → ¬ q = 3 → ¬ q = 6 → (65 ≤ s ∧ s ≤ 70) → ¬ 3 ≤ c → (c = 0 ∨ L < s) → zRT m_X_faultOf 0 0 16 [(0, .ref 35), (1, .int 5), (2, .int (nI N)), (3, .int (nI s)), (4, .int (nI (c + 1))), (5, .int (nI o)), (6, .int (nI (k + 1)))] [] (SHP g X) M Q := by
    intro a1 a2 a3 a4 a5 a6
    refine gd (5, N, s, c + 1, o, upd R (5 * N) (R (5 * N) ||| ((1 : Int32) <<< (nI (s - 65) &&& 31)))) (nI s) ?_ ⟨fun h => absurd h (by simp), fun h => absurd h (by simp), fun _ => rfl⟩
    unfold bStep
    simp only
    rw [if_neg a1, if_neg (by omega), if_neg (by omega), if_pos a4, if_pos ⟨a2, a3, by omega, a6⟩]
  have t6 : ¬ N = 10 → ¬ q = 3 → ¬ q = 6 → s = 63 → ¬ 3 ≤ c → ¬ 4 ≤ o → zRT m_X_faultOf 0 0 16 [(0, .ref 35), (1, .int 6), (2, .int (nI N)), (3, .int x), (4, .int (nI c)), (5, .int (nI (o + 1))), (6, .int (nI (k + 1)))] [] (SHP g X) M Q := by
    intro a1 a2 a3 a4 a5 a6
    refine gd (6, N, L, c, o + 1, upd R (5 * N + 4) 1) x ?_ ⟨fun h => absurd h (by simp), fun h => absurd h (by simp), l3⟩
    unfold bStep
    simp only
    rw [if_neg a1, if_neg (by omega), if_neg (by omega), if_neg (by omega), if_pos a4, if_pos ⟨a2, a3, by omega, by omega⟩]
  have bd : (¬ N = 10 → (97 ≤ s ∧ s < 97 + N) → ¬ q = 0) → (¬ N = 10 → (97 ≤ s ∧ s < 97 + N) → q = 1 → ¬ L < s - 97) → (¬ N = 10 → (97 ≤ s ∧ s < 97 + N) → ¬ q = 3) → (¬ N = 10 → s = 43 → ¬ q < 3) → (¬ N = 10 → (65 ≤ s ∧ s ≤ 70) → ¬ (q ≠ 3 ∧ q ≠ 6 ∧ c < 3 ∧ (c = 0 ∨ L < s))) → (¬ N = 10 → s = 63 → ¬ (q ≠ 3 ∧ q ≠ 6 ∧ c < 3 ∧ o < 4)) → (¬ N = 10 → s = 59 → ¬ 4 < q) → Q (some (.int (nI k))) (SHP g X) M := by
    intro b1a b1b b1c b2 b3 b4 b5
    refine bad ?_
    unfold bStep
    simp only
    by_cases h1 : N = 10
    · rw [if_pos h1]
    · rw [if_neg h1]
      by_cases h2 : 97 ≤ s ∧ s < 97 + N
      · rw [if_pos h2, if_neg (b1a h1 h2)]
        by_cases h3 : q = 1
        · rw [if_pos h3, if_neg (b1b h1 h2 h3)]
        · rw [if_neg h3, if_neg (b1c h1 h2)]
      · rw [if_neg h2]
        by_cases h3 : s = 43
        · rw [if_pos h3, if_neg (b2 h1 h3)]
        · rw [if_neg h3]
          by_cases h4 : 65 ≤ s ∧ s ≤ 70
          · rw [if_pos h4, if_neg (b3 h1 h4)]
          · rw [if_neg h4]
            by_cases h5 : s = 63
            · rw [if_pos h5, if_neg (b4 h1 h5)]
            · rw [if_neg h5, if_neg (fun h => b5 h1 h.1 h.2)]
  have t1 : ¬ N = 10 → (97 ≤ s ∧ s < 97 + N) → q < 2 → (q = 1 → L < s - 97) → zRT m_X_faultOf 0 0 16 [(0, .ref 35), (1, .int (nI (q + 1))), (2, .int (nI N)), (3, .int (nI s - 97)), (4, .int (nI c)), (5, .int (nI o)), (6, .int (nI (k + 1)))] [] (SHP g X) M Q := by
    intro a1 a2 a3 a4
    rw [show (97 : Int32) = nI 97 from rfl, pk_sub (by omega)]
    rcases Nat.lt_or_ge q 1 with r | r
    · have e : q = 0 := by omega
      subst e
      refine gd (1, N, s - 97, c, o, upd R (5 * N + 1) (nI (s - 97))) (nI (s - 97)) ?_ ⟨fun h => absurd h (by simp), fun _ => rfl, fun _ => rfl⟩
      unfold bStep
      simp only
      rw [if_neg a1, if_pos a2, if_pos trivial]
    · have e : q = 1 := by omega
      subst e
      refine gd (2, N, s - 97, c, o, upd R (5 * N + 2) (nI (s - 97))) (nI (s - 97)) ?_ ⟨fun h => absurd h (by simp), fun h => absurd h (by simp), fun _ => rfl⟩
      unfold bStep
      simp only
      rw [if_neg a1, if_pos a2, if_neg (by decide), if_pos trivial, if_pos (a4 rfl)]
  clear gd bad
  have e1 : (97 ≤ s ∧ s < 97 + N) → q < 2 → ((nI s - 97 ≤ x) ↔ (q = 1 ∧ s - 97 ≤ L)) := by
    intro a1 a2
    rcases Nat.lt_or_ge q 1 with r | r
    · rw [l1 (by omega)]
      exact ⟨fun h => absurd h (bGt0 hs2 a1.1), fun h => absurd h.1 (by omega)⟩
    · rw [bGt hs2 a1.1 (l2 (by omega)) z5]
      exact ⟨fun h => ⟨by omega, h⟩, fun h => h.2⟩
  have e2 : ¬ c = 0 → ((nI s ≤ x) ↔ s ≤ L) := by
    intro a1
    rw [l3 (by omega), nI_leI (by omega) (by omega)]
  exact bTree z1 e1 e2 t0 t1 t3 t4 t5 t6 bd
end zX8
