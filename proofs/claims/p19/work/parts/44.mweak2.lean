/-! the reference's asking methods, more: filling, bread, makers, marriages, days -/
def mOp (M : zMem) : Nat := kAsN (M 38) (mTN M)
def mKo (M : zMem) : Prop := mCnt M ∧ (∀ t, t < mTN M → M 38 (5 * t + 4) = 0 ∨ M 38 (5 * t + 4) = 1) ∧ mOp M ≤ 4
def mKs (M : zMem) : Prop := ∃ s : Nat, s ≤ 6 ∧ M 35 9 = nI s ∧ ∀ i, i < s → ∃ t : Nat, t < mTN M ∧ M 40 (2 * i + 1) = nI t
theorem mAg.op {M M1 : zMem} (h : mAg M M1) : mOp M1 = mOp M := by unfold mOp; rw [mTN_e h.e35, h.e38]
theorem mAg.ko {M M1 : zMem} (h : mAg M M1) (hk : mKo M) : mKo M1 := by
  refine ⟨?_, ?_, ?_⟩
  · unfold mCnt; rw [h.e35]; exact hk.1
  · rw [mTN_e h.e35, h.e38]; exact hk.2.1
  · rw [h.op]; exact hk.2.2
theorem mAg.ks {M M1 : zMem} (h : mAg M M1) (hk : mKs M) : mKs M1 := by
  unfold mKs; rw [mTN_e h.e35, h.e35, h.e40]; exact hk
theorem nI_2 (a : Nat) : (2 : Int32) * nI a = nI (2 * a) := by rw [show (2 : Int32) = nI 2 from rfl, pk_mul]
section zX5
variable (g : Nat → Option Nat) (X : List zShp) (M : zMem)
theorem v_X_opens_0 (g : Nat → Option Nat) (X : List zShp) (M : zMem) (R : zEnd) (h : zRT m_X_opens 0 0 4 [(0, .ref 35), (1, .int 0), (2, .int 0)] [] (SHP g X) M R) : zRT m_X_opens 0 0 0 [(0, .ref 35)] [] (SHP g X) M R := by
  refine zs_iconst 0 d_X_opens_0 (by decide) ?_
  refine zs_istore_n2 1 [1, 0] [(0, .ref 35), (1, .int 0)] d_X_opens_1 rfl (by decide) rfl ?_
  refine zs_iconst 0 d_X_opens_2 (by decide) ?_
  refine zs_istore_n2 2 [1, 2, 0] [(0, .ref 35), (1, .int 0), (2, .int 0)] d_X_opens_3 rfl (by decide) rfl ?_
  exact h
theorem v_X_opens_4 (g : Nat → Option Nat) (X : List zShp) (M : zMem) (x1 x2 : Int32) (R : zEnd) (h : (((M 35 6) ≤ x2) → (R (some (.int x1)) (SHP g X) M)) ∧ ((¬ (M 35 6) ≤ x2) → ((vp_in (((5 : Int32) * x2) + 4) 50) ∧ (zRT m_X_opens 0 0 4 [(0, .ref 35), (1, .int (x1 + (M 38 (Int32.toNatClampNeg (((5 : Int32) * x2) + 4))))), (2, .int (x2 + 1))] [] (SHP g X) M R)))) : zRT m_X_opens 0 0 4 [(0, .ref 35), (1, .int x1), (2, .int x2)] [] (SHP g X) M R := by
  refine zs_iload_n 2 d_X_opens_4 rfl (List.mem_of_getElem? (i := 2) rfl) ?_
  refine zs_aload_n 0 d_X_opens_5 rfl (List.mem_of_getElem? (i := 0) rfl) ?_
  refine zs_get d_X_opens_6 gf_X_70 (sh_35 g X) rfl ?_
  refine zs_icmp_ge 31 d_X_opens_9 (by decide) (fun c1 => ?_) (fun c1 => ?_)
  · replace h := h.1 c1
    refine zs_iload_n 1 d_X_opens_31 rfl (List.mem_of_getElem? (i := 1) rfl) ?_
    exact zs_iret d_X_opens_32 rfl h
  · replace h := h.2 c1
    refine zs_iload_n 1 d_X_opens_12 rfl (List.mem_of_getElem? (i := 1) rfl) ?_
    refine zs_aload_n 0 d_X_opens_13 rfl (List.mem_of_getElem? (i := 0) rfl) ?_
    refine zs_get d_X_opens_14 gf_X_23 (sh_35 g X) rfl ?_
    refine zs_iconst 5 d_X_opens_17 (by decide) ?_
    refine zs_iload_n 2 d_X_opens_18 rfl (List.mem_of_getElem? (i := 2) rfl) ?_
    refine zs_imul d_X_opens_19 ?_
    refine zs_iconst 4 d_X_opens_20 (by decide) ?_
    refine zs_iadd d_X_opens_21 ?_
    obtain ⟨b2, h⟩ := h
    refine zs_iald d_X_opens_22 (sh_38 g X) b2 ?_
    refine zs_iadd d_X_opens_23 ?_
    refine zs_istore_n2 1 [1, 0, 2] [(0, .ref 35), (1, .int (x1 + (M 38 (Int32.toNatClampNeg (((5 : Int32) * x2) + 4))))), (2, .int x2)] d_X_opens_24 rfl (by decide) rfl ?_
    refine zs_iinc2 2 (x2 + 1) [1, 2, 0] [(0, .ref 35), (1, .int (x1 + (M 38 (Int32.toNatClampNeg (((5 : Int32) * x2) + 4))))), (2, .int (x2 + 1))] d_X_opens_25 rfl rfl (by decide) rfl ?_
    refine zs_goto 4 d_X_opens_28 (by decide) ?_
    exact h
theorem ex_X_opens (hh : mKo M) : zEx m_X_opens 0 0 [.ref 35] (SHP g X) M (qF g X (nI (mOp M)) M) := by
  refine zEx_of _ (by decide) (by simp [Value.category]) (Nat.le_of_ble_eq_true rfl) rfl (v_X_opens_0 g X M _ ?_)
  obtain ⟨hc, h10⟩ := mCnt_e hh.1
  have L : ∀ d k, k + d = mTN M → zRT m_X_opens 0 0 4 [(0, .ref 35), (1, .int (nI (kAsN (M 38) k))), (2, .int (nI k))] [] (SHP g X) M (qF g X (nI (mOp M)) M) := by
    intro d
    induction d with
    | zero =>
      intro k hk
      have e : k = mTN M := by omega
      subst e
      exact v_X_opens_4 g X _ _ _ _ ⟨fun _ => qF_i rfl rfl, fun h => absurd (by rw [hc]; exact nI_le (by omega) (by omega)) h⟩
    | succ d ih =>
      intro k hk
      refine v_X_opens_4 g X _ _ _ _ ⟨fun h => absurd h (by rw [hc]; exact nI_ge (by omega) (by omega)), fun _ => ?_⟩
      rw [nI_1, nI_54, nI_clamp (by omega)]
      refine ⟨vp_in_nI (by omega) (by decide), ?_⟩
      have e : nI (kAsN (M 38) k) + M 38 (5 * k + 4) = nI (kAsN (M 38) (k + 1)) := by
        rcases hh.2.1 k (by omega) with q | q
        · simp only [kAsN, q]
          rw [if_neg (by decide), show (0 : Int32) = nI 0 from rfl, nI_add]
        · simp only [kAsN, q, if_true]
          exact nI_1 _
      rw [e]
      exact ih (k + 1) (by omega)
  exact L (mTN M) 0 (by omega)
theorem v_X_codes_0 (g : Nat → Option Nat) (X : List zShp) (M : zMem) (R : zEnd) (h : zRT m_X_codes 0 0 4 [(0, .ref 35), (1, .int 1), (2, .int 0)] [] (SHP g X) M R) : zRT m_X_codes 0 0 0 [(0, .ref 35)] [] (SHP g X) M R := by
  refine zs_iconst 1 d_X_codes_0 (by decide) ?_
  refine zs_istore_n2 1 [1, 0] [(0, .ref 35), (1, .int 1)] d_X_codes_1 rfl (by decide) rfl ?_
  refine zs_iconst 0 d_X_codes_2 (by decide) ?_
  refine zs_istore_n2 2 [1, 2, 0] [(0, .ref 35), (1, .int 1), (2, .int 0)] d_X_codes_3 rfl (by decide) rfl ?_
  exact h
theorem v_X_codes_4 (g : Nat → Option Nat) (X : List zShp) (M : zMem) (x1 x2 : Int32) (R : zEnd) (h : (mKo M) ∧ ((((nI (mOp M)) ≤ x2) → (R (some (.int x1)) (SHP g X) M)) ∧ ((¬ (nI (mOp M)) ≤ x2) → (zRT m_X_codes 0 0 4 [(0, .ref 35), (1, .int (x1 * 6)), (2, .int (x2 + 1))] [] (SHP g X) M R)))) : zRT m_X_codes 0 0 4 [(0, .ref 35), (1, .int x1), (2, .int x2)] [] (SHP g X) M R := by
  refine zs_iload_n 2 d_X_codes_4 rfl (List.mem_of_getElem? (i := 2) rfl) ?_
  refine zs_aload_n 0 d_X_codes_5 rfl (List.mem_of_getElem? (i := 0) rfl) ?_
  obtain ⟨p1, h⟩ := h
  refine zs_callV (kc := 0) (ks := 0) (kc1 := 0) (ks1 := 0) (st := [.int x2]) [] d_X_codes_6 lk_X_135 ⟨by decide, by decide⟩ rfl (sh_35 g X) rfl (Nat.le_of_ble_eq_true rfl) (ex_X_opens g X M p1) (fun v1 sh1 M1 hR => ?_)
  obtain ⟨rfl, rfl, rfl⟩ := hR
  refine zs_icmp_ge 23 d_X_codes_9 (by decide) (fun c2 => ?_) (fun c2 => ?_)
  · replace h := h.1 c2
    refine zs_iload_n 1 d_X_codes_23 rfl (List.mem_of_getElem? (i := 1) rfl) ?_
    exact zs_iret d_X_codes_24 rfl h
  · replace h := h.2 c2
    refine zs_iload_n 1 d_X_codes_12 rfl (List.mem_of_getElem? (i := 1) rfl) ?_
    refine zs_bipush 6 d_X_codes_13 (by decide) ?_
    refine zs_imul d_X_codes_15 ?_
    refine zs_istore_n2 1 [1, 0, 2] [(0, .ref 35), (1, .int (x1 * 6)), (2, .int x2)] d_X_codes_16 rfl (by decide) rfl ?_
    refine zs_iinc2 2 (x2 + 1) [1, 2, 0] [(0, .ref 35), (1, .int (x1 * 6)), (2, .int (x2 + 1))] d_X_codes_17 rfl rfl (by decide) rfl ?_
    refine zs_goto 4 d_X_codes_20 (by decide) ?_
    exact h
theorem ex_X_codes (hh : mKo M) : zEx m_X_codes 0 0 [.ref 35] (SHP g X) M (qF g X (nI (6 ^ mOp M)) M) := by
  refine zEx_of _ (by decide) (by simp [Value.category]) (Nat.le_of_ble_eq_true rfl) rfl (v_X_codes_0 g X M _ ?_)
  have h4 := hh.2.2
  have L : ∀ d k, k + d = mOp M → zRT m_X_codes 0 0 4 [(0, .ref 35), (1, .int (nI (6 ^ k))), (2, .int (nI k))] [] (SHP g X) M (qF g X (nI (6 ^ mOp M)) M) := by
    intro d
    induction d with
    | zero =>
      intro k hk
      have e : k = mOp M := by omega
      rw [e]
      exact v_X_codes_4 g X _ _ _ _ ⟨hh, fun _ => qF_i rfl rfl, fun h => absurd (nI_le (by omega) (by omega)) h⟩
    | succ d ih =>
      intro k hk
      refine v_X_codes_4 g X _ _ _ _ ⟨hh, fun h => absurd h (nI_ge (by omega) (by omega)), fun _ => ?_⟩
      rw [nI_1, show (6 : Int32) = nI 6 from rfl, pk_mul, ← Nat.pow_succ]
      exact ih (k + 1) (by omega)
  exact L (mOp M) 0 (by omega)
theorem v_X_manAt_0 (g : Nat → Option Nat) (X : List zShp) (M : zMem) (x1 x2 : Int32) (R : zEnd) (h : (mKo M) ∧ (zRT m_X_manAt 0 0 10 [(2, .int x2), (3, .int x1), (4, .int ((nI (mOp M)) - 1))] [] (SHP g X) M R)) : zRT m_X_manAt 0 0 0 [(0, .ref 35), (1, .int x1), (2, .int x2)] [] (SHP g X) M R := by
  refine zs_iload_n 1 d_X_manAt_0 rfl (List.mem_of_getElem? (i := 1) rfl) ?_
  refine zs_istore_n2 3 [1, 2, 3, 0] [(0, .ref 35), (1, .int x1), (2, .int x2), (3, .int x1)] d_X_manAt_1 rfl (by decide) rfl ?_
  refine zs_aload_n 0 d_X_manAt_2 rfl (List.mem_of_getElem? (i := 0) rfl) ?_
  obtain ⟨p1, h⟩ := h
  refine zs_callV (kc := 0) (ks := 0) (kc1 := 0) (ks1 := 0) (st := []) [] d_X_manAt_3 lk_X_135 ⟨by decide, by decide⟩ rfl (sh_35 g X) rfl (Nat.le_of_ble_eq_true rfl) (ex_X_opens g X M p1) (fun v1 sh1 M1 hR => ?_)
  obtain ⟨rfl, rfl, rfl⟩ := hR
  refine zs_iconst 1 d_X_manAt_6 (by decide) ?_
  refine zs_isub d_X_manAt_7 ?_
  refine zs_istore2 [1, 2, 3, 4, 0] [(0, .ref 35), (1, .int x1), (2, .int x2), (3, .int x1), (4, .int ((nI (mOp M)) - 1))] d_X_manAt_8 (by decide) rfl ?_
  exact zRT_sub [2, 3, 4] rfl h
theorem v_X_manAt_10 (g : Nat → Option Nat) (X : List zShp) (M : zMem) (x2 x3 x4 : Int32) (R : zEnd) (h : ((x4 ≤ x2) → (R (some (.int (x3 - x3 / 6 * 6))) (SHP g X) M)) ∧ ((¬ x4 ≤ x2) → (zRT m_X_manAt 0 0 10 [(2, .int x2), (3, .int (x3 / 6)), (4, .int (x4 + (-1)))] [] (SHP g X) M R))) : zRT m_X_manAt 0 0 10 [(2, .int x2), (3, .int x3), (4, .int x4)] [] (SHP g X) M R := by
  refine zs_iload d_X_manAt_10 (List.mem_of_getElem? (i := 2) rfl) ?_
  refine zs_iload_n 2 d_X_manAt_12 rfl (List.mem_of_getElem? (i := 0) rfl) ?_
  refine zs_icmp_le 27 d_X_manAt_13 (by decide) (fun c1 => ?_) (fun c1 => ?_)
  · replace h := h.1 c1
    refine zs_iload_n 3 d_X_manAt_27 rfl (List.mem_of_getElem? (i := 1) rfl) ?_
    refine zs_bipush 6 d_X_manAt_28 (by decide) ?_
    refine zs_irem d_X_manAt_30 (by decide) ?_
    exact zs_iret d_X_manAt_31 rfl h
  · replace h := h.2 c1
    refine zs_iload_n 3 d_X_manAt_16 rfl (List.mem_of_getElem? (i := 1) rfl) ?_
    refine zs_bipush 6 d_X_manAt_17 (by decide) ?_
    refine zs_idiv d_X_manAt_19 (by decide) ?_
    refine zs_istore_n2 3 [1, 0, 2] [(2, .int x2), (3, .int (x3 / 6)), (4, .int x4)] d_X_manAt_20 rfl (by decide) rfl ?_
    refine zs_iinc2 2 (x4 + (-1)) [1, 2, 0] [(2, .int x2), (3, .int (x3 / 6)), (4, .int (x4 + (-1)))] d_X_manAt_21 rfl rfl (by decide) rfl ?_
    refine zs_goto 10 d_X_manAt_24 (by decide) ?_
    exact h
theorem ex_X_manAt (c k : Int32) (hh : mKo M ∧ ¬ k < 0) : zEx m_X_manAt 0 0 [.ref 35, .int c, .int k] (SHP g X) M (qR g X (fun _ M2 => M2 = M)) := by
  refine zEx_of _ (by decide) (by simp [Value.category]) (Nat.le_of_ble_eq_true rfl) rfl (v_X_manAt_0 g X M c k _ ⟨hh.1, ?_⟩)
  obtain ⟨j, hj, ek⟩ := nI_of hh.2
  have h4 := hh.1.2.2
  have L : ∀ d c, d ≤ 4 → zRT m_X_manAt 0 0 10 [(2, .int k), (3, .int c), (4, .int (nI d + (-1)))] [] (SHP g X) M (qR g X (fun _ M2 => M2 = M)) := by
    intro d
    induction d with
    | zero =>
      intro c _
      refine v_X_manAt_10 g X _ _ _ _ _ ⟨fun _ => qR_i rfl, fun h => absurd ?_ h⟩
      rw [Int32.le_iff_toInt_le, ek, nI_toInt hj]
      have : (nI 0 + (-1)).toInt = -1 := by decide
      omega
    | succ d ih =>
      intro c hd
      rw [pk_m1]
      exact v_X_manAt_10 g X _ _ _ _ _ ⟨fun _ => qR_i rfl, fun _ => ih _ (by omega)⟩
  have h1 := L (mOp M) c h4
  rw [show nI (mOp M) + (-1) = nI (mOp M) - 1 from by rw [Int32.sub_eq_add_neg]] at h1
  exact h1
theorem v_X_fill_0 (g : Nat → Option Nat) (X : List zShp) (M : zMem) (x1 : Int32) (R : zEnd) (h : (mCnt M) ∧ (zRT m_X_fill 0 0 11 [(0, .ref 35), (1, .int x1), (2, .int 0), (3, .int 1), (4, .int 0)] [] (SHP g X) (mTo M) R)) : zRT m_X_fill 0 0 0 [(0, .ref 35), (1, .int x1)] [] (SHP g X) M R := by
  refine zs_aload_n 0 d_X_fill_0 rfl (List.mem_of_getElem? (i := 0) rfl) ?_
  obtain ⟨p1, h⟩ := h
  refine zs_callV (kc := 0) (ks := 0) (kc1 := 0) (ks1 := 0) (st := []) [] d_X_fill_1 lk_X_116 ⟨by decide, by decide⟩ rfl (sh_35 g X) rfl (Nat.le_of_ble_eq_true rfl) (ex_X_asTold g X M p1) (fun v1 sh1 M1 hR => ?_)
  obtain ⟨rfl, rfl, rfl⟩ := hR
  refine zs_iconst 0 d_X_fill_4 (by decide) ?_
  refine zs_istore_n2 2 [1, 2, 0] [(0, .ref 35), (1, .int x1), (2, .int 0)] d_X_fill_5 rfl (by decide) rfl ?_
  refine zs_iconst 1 d_X_fill_6 (by decide) ?_
  refine zs_istore_n2 3 [1, 2, 3, 0] [(0, .ref 35), (1, .int x1), (2, .int 0), (3, .int 1)] d_X_fill_7 rfl (by decide) rfl ?_
  refine zs_iconst 0 d_X_fill_8 (by decide) ?_
  refine zs_istore2 [1, 2, 3, 4, 0] [(0, .ref 35), (1, .int x1), (2, .int 0), (3, .int 1), (4, .int 0)] d_X_fill_9 (by decide) rfl ?_
  exact h
theorem v_X_fill_11 (g : Nat → Option Nat) (X : List zShp) (M : zMem) (x1 x2 x3 x4 : Int32) (R : zEnd) (h : (((M 35 6) ≤ x4) → (zRT m_X_fill 0 0 94 [(0, .ref 35), (3, .int x3), (4, .int 0)] [] (SHP g X) M R)) ∧ ((¬ (M 35 6) ≤ x4) → ((vp_in (((5 : Int32) * x4) + 4) 50) ∧ (((¬ (M 38 (Int32.toNatClampNeg (((5 : Int32) * x4) + 4))) = 1) → (zRT m_X_fill 0 0 11 [(0, .ref 35), (1, .int x1), (2, .int x2), (3, .int x3), (4, .int (x4 + 1))] [] (SHP g X) M R)) ∧ (((M 38 (Int32.toNatClampNeg (((5 : Int32) * x4) + 4))) = 1) → ((mKo M ∧ ¬ x2 < 0) ∧ (∀ (r4 : Int32) (M4 : zMem), (M4 = M) → (((x3 = 0) → ((vp_in x4 10) ∧ (zRT m_X_fill 0 0 11 [(0, .ref 35), (1, .int x1), (2, .int (x2 + 1)), (3, .int 0), (4, .int (x4 + 1))] [] (SHP g X) (zms M4 41 (Int32.toNatClampNeg x4) ((M4 41 (Int32.toNatClampNeg x4)) ||| ((1 : Int32) <<< (r4 &&& 31)))) R))) ∧ ((¬ x3 = 0) → ((vp_in x4 10) ∧ ((((hb (M4 41 (Int32.toNatClampNeg x4)) r4) = true) → (zRT m_X_fill 0 0 11 [(0, .ref 35), (1, .int x1), (2, .int (x2 + 1)), (3, .int 0), (4, .int (x4 + 1))] [] (SHP g X) (zms M4 41 (Int32.toNatClampNeg x4) ((M4 41 (Int32.toNatClampNeg x4)) ||| ((1 : Int32) <<< (r4 &&& 31)))) R)) ∧ (((hb (M4 41 (Int32.toNatClampNeg x4)) r4) = false) → (zRT m_X_fill 0 0 11 [(0, .ref 35), (1, .int x1), (2, .int (x2 + 1)), (3, .int 1), (4, .int (x4 + 1))] [] (SHP g X) (zms M4 41 (Int32.toNatClampNeg x4) ((M4 41 (Int32.toNatClampNeg x4)) ||| ((1 : Int32) <<< (r4 &&& 31)))) R))))))))))))) : zRT m_X_fill 0 0 11 [(0, .ref 35), (1, .int x1), (2, .int x2), (3, .int x3), (4, .int x4)] [] (SHP g X) M R := by
  refine zs_iload d_X_fill_11 (List.mem_of_getElem? (i := 4) rfl) ?_
  refine zs_aload_n 0 d_X_fill_13 rfl (List.mem_of_getElem? (i := 0) rfl) ?_
  refine zs_get d_X_fill_14 gf_X_70 (sh_35 g X) rfl ?_
  refine zs_icmp_ge 91 d_X_fill_17 (by decide) (fun c1 => ?_) (fun c1 => ?_)
  · replace h := h.1 c1
    refine zs_iconst 0 d_X_fill_91 (by decide) ?_
    refine zs_istore2 [1, 2, 3, 4, 0] [(0, .ref 35), (1, .int x1), (2, .int x2), (3, .int x3), (4, .int 0)] d_X_fill_92 (by decide) rfl ?_
    exact zRT_sub [0, 3, 4] rfl h
  · replace h := h.2 c1
    refine zs_aload_n 0 d_X_fill_20 rfl (List.mem_of_getElem? (i := 0) rfl) ?_
    refine zs_get d_X_fill_21 gf_X_23 (sh_35 g X) rfl ?_
    refine zs_iconst 5 d_X_fill_24 (by decide) ?_
    refine zs_iload d_X_fill_25 (List.mem_of_getElem? (i := 4) rfl) ?_
    refine zs_imul d_X_fill_27 ?_
    refine zs_iconst 4 d_X_fill_28 (by decide) ?_
    refine zs_iadd d_X_fill_29 ?_
    obtain ⟨b2, h⟩ := h
    refine zs_iald d_X_fill_30 (sh_38 g X) b2 ?_
    refine zs_iconst 1 d_X_fill_31 (by decide) ?_
    refine zs_icmp_ne 85 d_X_fill_32 (by decide) (fun c3 => ?_) (fun c3 => ?_)
    · replace h := h.1 c3
      refine zs_iinc2 4 (x4 + 1) [1, 2, 3, 4, 0] [(0, .ref 35), (1, .int x1), (2, .int x2), (3, .int x3), (4, .int (x4 + 1))] d_X_fill_85 rfl rfl (by decide) rfl ?_
      refine zs_goto 11 d_X_fill_88 (by decide) ?_
      exact h
    · replace h := h.2 c3
      refine zs_aload_n 0 d_X_fill_35 rfl (List.mem_of_getElem? (i := 0) rfl) ?_
      refine zs_iload_n 1 d_X_fill_36 rfl (List.mem_of_getElem? (i := 1) rfl) ?_
      refine zs_iload_n 2 d_X_fill_37 rfl (List.mem_of_getElem? (i := 2) rfl) ?_
      obtain ⟨p4, h⟩ := h
      refine zs_callV (kc := 0) (ks := 0) (kc1 := 0) (ks1 := 0) (st := []) [.int x1, .int x2] d_X_fill_38 lk_X_138 ⟨by decide, by decide⟩ rfl (sh_35 g X) rfl (Nat.le_of_ble_eq_true rfl) (ex_X_manAt g X M x1 x2 p4) (fun v4 sh4 M4 hR => ?_)
      obtain ⟨r4, rfl, rfl, hq4⟩ := hR
      replace h := h r4 M4 hq4
      refine zs_istore2 [1, 2, 3, 4, 5, 0] [(0, .ref 35), (1, .int x1), (2, .int x2), (3, .int x3), (4, .int x4), (5, .int r4)] d_X_fill_41 (by decide) rfl ?_
      refine zs_iload_n 3 d_X_fill_43 rfl (List.mem_of_getElem? (i := 3) rfl) ?_
      refine zs_if_eq 66 d_X_fill_44 (by decide) (fun c5 => ?_) (fun c5 => ?_)
      · replace h := h.1 c5
        refine zs_iconst 0 d_X_fill_66 (by decide) ?_
        refine zs_istore_n2 3 [1, 2, 3, 0, 4, 5] [(0, .ref 35), (1, .int x1), (2, .int x2), (3, .int 0), (4, .int x4), (5, .int r4)] d_X_fill_67 rfl (by decide) rfl ?_
        refine zs_aload_n 0 d_X_fill_68 rfl (List.mem_of_getElem? (i := 0) rfl) ?_
        refine zs_get d_X_fill_69 gf_X_32 (sh_35 g X) rfl ?_
        refine zs_iload d_X_fill_72 (List.mem_of_getElem? (i := 4) rfl) ?_
        refine zs_dup2 d_X_fill_74 rfl rfl ?_
        obtain ⟨b6, h⟩ := h
        refine zs_iald d_X_fill_75 (sh_41 g X) b6 ?_
        refine zs_iconst 1 d_X_fill_76 (by decide) ?_
        refine zs_iload d_X_fill_77 (List.mem_of_getElem? (i := 5) rfl) ?_
        refine zs_ishl d_X_fill_79 ?_
        refine zs_ior d_X_fill_80 ?_
        refine zs_iast d_X_fill_81 (sh_41 g X) b6 ?_
        refine zs_iinc2 2 (x2 + 1) [1, 2, 0, 3, 4, 5] [(0, .ref 35), (1, .int x1), (2, .int (x2 + 1)), (3, .int 0), (4, .int x4), (5, .int r4)] d_X_fill_82 rfl rfl (by decide) rfl ?_
        refine zs_iinc2 4 (x4 + 1) [1, 2, 3, 4, 0, 5] [(0, .ref 35), (1, .int x1), (2, .int (x2 + 1)), (3, .int 0), (4, .int (x4 + 1)), (5, .int r4)] d_X_fill_85 rfl rfl (by decide) rfl ?_
        refine zs_goto 11 d_X_fill_88 (by decide) ?_
        exact zRT_sub [0, 1, 2, 3, 4] rfl h
      · replace h := h.2 c5
        refine zs_aload_n 0 d_X_fill_47 rfl (List.mem_of_getElem? (i := 0) rfl) ?_
        refine zs_get d_X_fill_48 gf_X_32 (sh_35 g X) rfl ?_
        refine zs_iload d_X_fill_51 (List.mem_of_getElem? (i := 4) rfl) ?_
        obtain ⟨b7, h⟩ := h
        refine zs_iald d_X_fill_53 (sh_41 g X) b7 ?_
        refine zs_iload d_X_fill_54 (List.mem_of_getElem? (i := 5) rfl) ?_
        refine zs_callS (kc := 0) (ks := 0) (kc1 := 0) (ks1 := 0) (st := []) [.int (M4 41 (Int32.toNatClampNeg x4)), .int r4] d_X_fill_56 lk_X_98 ⟨by decide, by decide⟩ rfl (Nat.le_of_ble_eq_true rfl) (ex_X_has g X M4 (M4 41 (Int32.toNatClampNeg x4)) r4) (fun v8 sh8 M8 hR => ?_)
        obtain ⟨rfl, rfl, rfl⟩ := hR
        refine zs_if_ne 66 d_X_fill_59 (by decide) (fun c9 => ?_) (fun c9 => ?_)
        · replace h := h.1 (bI_1 c9)
          refine zs_iconst 0 d_X_fill_66 (by decide) ?_
          refine zs_istore_n2 3 [1, 2, 3, 0, 4, 5] [(0, .ref 35), (1, .int x1), (2, .int x2), (3, .int 0), (4, .int x4), (5, .int r4)] d_X_fill_67 rfl (by decide) rfl ?_
          refine zs_aload_n 0 d_X_fill_68 rfl (List.mem_of_getElem? (i := 0) rfl) ?_
          refine zs_get d_X_fill_69 gf_X_32 (sh_35 g X) rfl ?_
          refine zs_iload d_X_fill_72 (List.mem_of_getElem? (i := 4) rfl) ?_
          refine zs_dup2 d_X_fill_74 rfl rfl ?_
          refine zs_iald d_X_fill_75 (sh_41 g X) b7 ?_
          refine zs_iconst 1 d_X_fill_76 (by decide) ?_
          refine zs_iload d_X_fill_77 (List.mem_of_getElem? (i := 5) rfl) ?_
          refine zs_ishl d_X_fill_79 ?_
          refine zs_ior d_X_fill_80 ?_
          refine zs_iast d_X_fill_81 (sh_41 g X) b7 ?_
          refine zs_iinc2 2 (x2 + 1) [1, 2, 0, 3, 4, 5] [(0, .ref 35), (1, .int x1), (2, .int (x2 + 1)), (3, .int 0), (4, .int x4), (5, .int r4)] d_X_fill_82 rfl rfl (by decide) rfl ?_
          refine zs_iinc2 4 (x4 + 1) [1, 2, 3, 4, 0, 5] [(0, .ref 35), (1, .int x1), (2, .int (x2 + 1)), (3, .int 0), (4, .int (x4 + 1)), (5, .int r4)] d_X_fill_85 rfl rfl (by decide) rfl ?_
          refine zs_goto 11 d_X_fill_88 (by decide) ?_
          exact zRT_sub [0, 1, 2, 3, 4] rfl h
        · replace h := h.2 (bI_0 c9)
          refine zs_iconst 1 d_X_fill_62 (by decide) ?_
          refine zs_goto 67 d_X_fill_63 (by decide) ?_
          refine zs_istore_n2 3 [1, 2, 3, 0, 4, 5] [(0, .ref 35), (1, .int x1), (2, .int x2), (3, .int 1), (4, .int x4), (5, .int r4)] d_X_fill_67 rfl (by decide) rfl ?_
          refine zs_aload_n 0 d_X_fill_68 rfl (List.mem_of_getElem? (i := 0) rfl) ?_
          refine zs_get d_X_fill_69 gf_X_32 (sh_35 g X) rfl ?_
          refine zs_iload d_X_fill_72 (List.mem_of_getElem? (i := 4) rfl) ?_
          refine zs_dup2 d_X_fill_74 rfl rfl ?_
          refine zs_iald d_X_fill_75 (sh_41 g X) b7 ?_
          refine zs_iconst 1 d_X_fill_76 (by decide) ?_
          refine zs_iload d_X_fill_77 (List.mem_of_getElem? (i := 5) rfl) ?_
          refine zs_ishl d_X_fill_79 ?_
          refine zs_ior d_X_fill_80 ?_
          refine zs_iast d_X_fill_81 (sh_41 g X) b7 ?_
          refine zs_iinc2 2 (x2 + 1) [1, 2, 0, 3, 4, 5] [(0, .ref 35), (1, .int x1), (2, .int (x2 + 1)), (3, .int 1), (4, .int x4), (5, .int r4)] d_X_fill_82 rfl rfl (by decide) rfl ?_
          refine zs_iinc2 4 (x4 + 1) [1, 2, 3, 4, 0, 5] [(0, .ref 35), (1, .int x1), (2, .int (x2 + 1)), (3, .int 1), (4, .int (x4 + 1)), (5, .int r4)] d_X_fill_85 rfl rfl (by decide) rfl ?_
          refine zs_goto 11 d_X_fill_88 (by decide) ?_
          exact zRT_sub [0, 1, 2, 3, 4] rfl h
theorem v_X_fill_94 (g : Nat → Option Nat) (X : List zShp) (M : zMem) (x3 x4 : Int32) (R : zEnd) (h : (((M 35 9) ≤ x4) → ((narrow .boolean (.int x3) = .int x3) ∧ (R (some (.int x3)) (SHP g X) M))) ∧ ((¬ (M 35 9) ≤ x4) → (((x3 = 0) → ((narrow .boolean (.int x3) = .int x3) ∧ (R (some (.int x3)) (SHP g X) M))) ∧ ((¬ x3 = 0) → ((vp_in (((2 : Int32) * x4) + 1) 12) ∧ ((mRw M (M 40 (Int32.toNatClampNeg (((2 : Int32) * x4) + 1)))) ∧ ((vp_in ((2 : Int32) * x4) 12) ∧ ((((hb (mWP M (mTc M (M 40 (Int32.toNatClampNeg (((2 : Int32) * x4) + 1))))) ((mWk M (Int32.toNatClampNeg (M 40 (Int32.toNatClampNeg (((2 : Int32) * x4) + 1))))) 40 (Int32.toNatClampNeg ((2 : Int32) * x4)))) = true) → (zRT m_X_fill 0 0 94 [(0, .ref 35), (3, .int 0), (4, .int (x4 + 1))] [] (SHP g X) (mWk M (Int32.toNatClampNeg (M 40 (Int32.toNatClampNeg (((2 : Int32) * x4) + 1))))) R)) ∧ (((hb (mWP M (mTc M (M 40 (Int32.toNatClampNeg (((2 : Int32) * x4) + 1))))) ((mWk M (Int32.toNatClampNeg (M 40 (Int32.toNatClampNeg (((2 : Int32) * x4) + 1))))) 40 (Int32.toNatClampNeg ((2 : Int32) * x4)))) = false) → (zRT m_X_fill 0 0 94 [(0, .ref 35), (3, .int 1), (4, .int (x4 + 1))] [] (SHP g X) (mWk M (Int32.toNatClampNeg (M 40 (Int32.toNatClampNeg (((2 : Int32) * x4) + 1))))) R)))))))))) : zRT m_X_fill 0 0 94 [(0, .ref 35), (3, .int x3), (4, .int x4)] [] (SHP g X) M R := by
  refine zs_iload d_X_fill_94 (List.mem_of_getElem? (i := 2) rfl) ?_
  refine zs_aload_n 0 d_X_fill_96 rfl (List.mem_of_getElem? (i := 0) rfl) ?_
  refine zs_get d_X_fill_97 gf_X_80 (sh_35 g X) rfl ?_
  refine zs_icmp_ge 149 d_X_fill_100 (by decide) (fun c1 => ?_) (fun c1 => ?_)
  · replace h := h.1 c1
    refine zs_iload_n 3 d_X_fill_149 rfl (List.mem_of_getElem? (i := 1) rfl) ?_
    exact zs_zret h.1 d_X_fill_150 rfl h.2
  · replace h := h.2 c1
    refine zs_iload_n 3 d_X_fill_103 rfl (List.mem_of_getElem? (i := 1) rfl) ?_
    refine zs_if_eq 149 d_X_fill_104 (by decide) (fun c2 => ?_) (fun c2 => ?_)
    · replace h := h.1 c2
      refine zs_iload_n 3 d_X_fill_149 rfl (List.mem_of_getElem? (i := 1) rfl) ?_
      exact zs_zret h.1 d_X_fill_150 rfl h.2
    · replace h := h.2 c2
      refine zs_aload_n 0 d_X_fill_107 rfl (List.mem_of_getElem? (i := 0) rfl) ?_
      refine zs_aload_n 0 d_X_fill_108 rfl (List.mem_of_getElem? (i := 0) rfl) ?_
      refine zs_get d_X_fill_109 gf_X_29 (sh_35 g X) rfl ?_
      refine zs_iconst 2 d_X_fill_112 (by decide) ?_
      refine zs_iload d_X_fill_113 (List.mem_of_getElem? (i := 2) rfl) ?_
      refine zs_imul d_X_fill_115 ?_
      refine zs_iconst 1 d_X_fill_116 (by decide) ?_
      refine zs_iadd d_X_fill_117 ?_
      obtain ⟨b3, h⟩ := h
      refine zs_iald d_X_fill_118 (sh_40 g X) b3 ?_
      obtain ⟨p4, h⟩ := h
      refine zs_callV (kc := 0) (ks := 0) (kc1 := 0) (ks1 := 0) (st := []) [.int (M 40 (Int32.toNatClampNeg (((2 : Int32) * x4) + 1)))] d_X_fill_119 lk_X_119 ⟨by decide, by decide⟩ rfl (sh_35 g X) rfl (Nat.le_of_ble_eq_true rfl) (ex_X_barredFrom g X M (M 40 (Int32.toNatClampNeg (((2 : Int32) * x4) + 1))) p4) (fun v4 sh4 M4 hR => ?_)
      obtain ⟨rfl, rfl, rfl⟩ := hR
      refine zs_aload_n 0 d_X_fill_122 rfl (List.mem_of_getElem? (i := 0) rfl) ?_
      refine zs_get d_X_fill_123 gf_X_29 (sh_35 g X) rfl ?_
      refine zs_iconst 2 d_X_fill_126 (by decide) ?_
      refine zs_iload d_X_fill_127 (List.mem_of_getElem? (i := 2) rfl) ?_
      refine zs_imul d_X_fill_129 ?_
      obtain ⟨b5, h⟩ := h
      refine zs_iald d_X_fill_130 (sh_40 g X) b5 ?_
      refine zs_callS (kc := 0) (ks := 0) (kc1 := 0) (ks1 := 0) (st := []) [.int (mWP M (mTc M (M 40 (Int32.toNatClampNeg (((2 : Int32) * x4) + 1))))), .int ((mWk M (Int32.toNatClampNeg (M 40 (Int32.toNatClampNeg (((2 : Int32) * x4) + 1))))) 40 (Int32.toNatClampNeg ((2 : Int32) * x4)))] d_X_fill_131 lk_X_98 ⟨by decide, by decide⟩ rfl (Nat.le_of_ble_eq_true rfl) (ex_X_has g X (mWk M (Int32.toNatClampNeg (M 40 (Int32.toNatClampNeg (((2 : Int32) * x4) + 1))))) (mWP M (mTc M (M 40 (Int32.toNatClampNeg (((2 : Int32) * x4) + 1))))) ((mWk M (Int32.toNatClampNeg (M 40 (Int32.toNatClampNeg (((2 : Int32) * x4) + 1))))) 40 (Int32.toNatClampNeg ((2 : Int32) * x4)))) (fun v6 sh6 M6 hR => ?_)
      obtain ⟨rfl, rfl, rfl⟩ := hR
      refine zs_if_ne 141 d_X_fill_134 (by decide) (fun c7 => ?_) (fun c7 => ?_)
      · replace h := h.1 (bI_1 c7)
        refine zs_iconst 0 d_X_fill_141 (by decide) ?_
        refine zs_istore_n2 3 [1, 0, 2] [(0, .ref 35), (3, .int 0), (4, .int x4)] d_X_fill_142 rfl (by decide) rfl ?_
        refine zs_iinc2 2 (x4 + 1) [1, 2, 0] [(0, .ref 35), (3, .int 0), (4, .int (x4 + 1))] d_X_fill_143 rfl rfl (by decide) rfl ?_
        refine zs_goto 94 d_X_fill_146 (by decide) ?_
        exact h
      · replace h := h.2 (bI_0 c7)
        refine zs_iconst 1 d_X_fill_137 (by decide) ?_
        refine zs_goto 142 d_X_fill_138 (by decide) ?_
        refine zs_istore_n2 3 [1, 0, 2] [(0, .ref 35), (3, .int 1), (4, .int x4)] d_X_fill_142 rfl (by decide) rfl ?_
        refine zs_iinc2 2 (x4 + 1) [1, 2, 0] [(0, .ref 35), (3, .int 1), (4, .int (x4 + 1))] d_X_fill_143 rfl rfl (by decide) rfl ?_
        refine zs_goto 94 d_X_fill_146 (by decide) ?_
        exact h
theorem ex_X_fill (c : Int32) (hh : mK M ∧ mKo M ∧ mKs M) : zEx m_X_fill 0 0 [.ref 35, .int c] (SHP g X) M (qR g X (fun r M2 => mAg M M2 ∧ (r = 0 ∨ r = 1))) := by
  refine zEx_of _ (by decide) (by simp [Value.category]) (Nat.le_of_ble_eq_true rfl) rfl (v_X_fill_0 g X M c _ ⟨hh.1.1, ?_⟩)
  obtain ⟨hk, hko, hks⟩ := hh
  obtain ⟨hc, h10⟩ := mCnt_e hk.1
  obtain ⟨s, hs6, es, hs⟩ := hks
  have nb : ∀ b : Int32, b = 0 ∨ b = 1 → narrow .boolean (.int b) = .int b := by
    intro b hb
    rcases hb with e | e <;> rw [e] <;> rfl
  have L2 : ∀ d k b M1, k + d = s → mAg M M1 → (b = 0 ∨ b = 1) → zRT m_X_fill 0 0 94 [(0, .ref 35), (3, .int b), (4, .int (nI k))] [] (SHP g X) M1 (qR g X (fun r M2 => mAg M M2 ∧ (r = 0 ∨ r = 1))) := by
    intro d
    induction d with
    | zero =>
      intro k b M1 hkd ha hb
      exact v_X_fill_94 g X _ _ _ _ ⟨fun _ => ⟨nb b hb, qR_i ⟨ha, hb⟩⟩, fun h => absurd (by rw [ha.e35, es]; exact nI_le (by omega) (by omega)) h⟩
    | succ d ih =>
      intro k b M1 hkd ha hb
      refine v_X_fill_94 g X _ _ _ _ ⟨fun h => absurd h (by rw [ha.e35, es]; exact nI_ge (by omega) (by omega)), fun _ => ⟨fun _ => ⟨nb b hb, qR_i ⟨ha, hb⟩⟩, fun _ => ?_⟩⟩
      rw [nI_1, nI_2, nI_1, nI_clamp (n := 2 * k + 1) (by omega)]
      obtain ⟨t, ht, et⟩ := hs k (by omega)
      have i1 := fun b hb n => ih (k + 1) b (mWk M1 n) (by omega) ha.wk hb
      refine ⟨vp_in_nI (by omega) (by decide), ?_, vp_in_nI (by omega) (by decide), fun _ => i1 _ (Or.inl rfl) _, fun _ => i1 _ (Or.inr rfl) _⟩
      rw [ha.e40, et]
      exact (ha.mk hk).rw (ha.th ⟨t, ht, rfl⟩)
  have L1 : ∀ d k j b M1, k + d = mTN M → j ≤ k → mAg M M1 → (b = 0 ∨ b = 1) → zRT m_X_fill 0 0 11 [(0, .ref 35), (1, .int c), (2, .int (nI j)), (3, .int b), (4, .int (nI k))] [] (SHP g X) M1 (qR g X (fun r M2 => mAg M M2 ∧ (r = 0 ∨ r = 1))) := by
    intro d
    induction d with
    | zero =>
      intro k j b M1 hkd hj ha hb
      exact v_X_fill_11 g X _ _ _ _ _ _ ⟨fun _ => L2 s 0 b M1 (by omega) ha hb, fun h => absurd (by rw [ha.e35, hc]; exact nI_le (by omega) (by omega)) h⟩
    | succ d ih =>
      intro k j b M1 hkd hj ha hb
      refine v_X_fill_11 g X _ _ _ _ _ _ ⟨fun h => absurd h (by rw [ha.e35, hc]; exact nI_ge (by omega) (by omega)), fun _ => ?_⟩
      rw [nI_1, nI_1, nI_54, nI_clamp (n := k) (by omega)]
      have k10 : vp_in (nI k) 10 := vp_in_nI (by omega) (by decide)
      refine ⟨vp_in_nI (by omega) (by decide), fun _ => ih (k + 1) j b M1 (by omega) (by omega) ha hb, fun _ => ⟨⟨ha.ko hko, nI_pos (by omega)⟩, fun r M4 e4 => ?_⟩⟩
      subst e4
      have i1 := fun b hb v => ih (k + 1) (j + 1) b (zms M4 41 k v) (by omega) (by omega) (ha.st (by decide)) hb
      exact ⟨fun _ => ⟨k10, i1 _ (Or.inl rfl) _⟩, fun _ => ⟨k10, fun _ => i1 _ (Or.inl rfl) _, fun _ => i1 _ (Or.inr rfl) _⟩⟩
  exact L1 (mTN M) 0 0 1 (mTo M) (by omega) (by omega) mAg.rf.mt (Or.inr rfl)
theorem m64 {a : Nat} (h : a ≤ 4) : 6 ^ a ≤ 1296 := Nat.le_trans (Nat.pow_le_pow_right (by omega) h) (by decide)
theorem v_X_filled_0 (g : Nat → Option Nat) (X : List zShp) (M : zMem) (x1 : Int32) (R : zEnd) (h : zRT m_X_filled 0 0 8 [(0, .ref 35), (1, .int x1), (2, .int 0), (3, .int (-6)), (4, .int 0)] [] (SHP g X) M R) : zRT m_X_filled 0 0 0 [(0, .ref 35), (1, .int x1)] [] (SHP g X) M R := by
  refine zs_iconst 0 d_X_filled_0 (by decide) ?_
  refine zs_istore_n2 2 [1, 2, 0] [(0, .ref 35), (1, .int x1), (2, .int 0)] d_X_filled_1 rfl (by decide) rfl ?_
  refine zs_bipush (-6) d_X_filled_2 (by decide) ?_
  refine zs_istore_n2 3 [1, 2, 3, 0] [(0, .ref 35), (1, .int x1), (2, .int 0), (3, .int (-6))] d_X_filled_4 rfl (by decide) rfl ?_
  refine zs_iconst 0 d_X_filled_5 (by decide) ?_
  refine zs_istore2 [1, 2, 3, 4, 0] [(0, .ref 35), (1, .int x1), (2, .int 0), (3, .int (-6)), (4, .int 0)] d_X_filled_6 (by decide) rfl ?_
  exact h
theorem v_X_filled_8 (g : Nat → Option Nat) (X : List zShp) (M : zMem) (x1 x2 x3 x4 : Int32) (R : zEnd) (h : (mKo M) ∧ ((((nI (6 ^ mOp M)) ≤ x4) → (((¬ x1 = (-1)) → (((x3 < 0) → (R (some (.int (-6))) (SHP g X) M)) ∧ ((¬ x3 < 0) → ((mKo M) ∧ ((((inI x1 0 ((nI (mOp M)) - 1)) = false) → (R (some (.int (-6))) (SHP g X) M)) ∧ (((inI x1 0 ((nI (mOp M)) - 1)) = true) → ((mKo M ∧ ¬ x1 < 0) ∧ (∀ (r8 : Int32) (M8 : zMem), (M8 = M) → (R (some (.int r8)) (SHP g X) M8))))))))) ∧ ((x1 = (-1)) → (R (some (.int x2)) (SHP g X) M)))) ∧ ((¬ (nI (6 ^ mOp M)) ≤ x4) → ((mK M ∧ mKo M ∧ mKs M) ∧ (∀ (r9 : Int32) (M9 : zMem), (mAg M M9 ∧ (r9 = 0 ∨ r9 = 1)) → (((r9 = 0) → (zRT m_X_filled 0 0 8 [(0, .ref 35), (1, .int x1), (2, .int x2), (3, .int x3), (4, .int (x4 + 1))] [] (SHP g X) M9 R)) ∧ ((¬ r9 = 0) → (((0 ≤ x3) → (zRT m_X_filled 0 0 8 [(0, .ref 35), (1, .int x1), (2, .int (x2 + 1)), (3, .int x3), (4, .int (x4 + 1))] [] (SHP g X) M9 R)) ∧ ((¬ 0 ≤ x3) → (zRT m_X_filled 0 0 8 [(0, .ref 35), (1, .int x1), (2, .int (x2 + 1)), (3, .int x4), (4, .int (x4 + 1))] [] (SHP g X) M9 R)))))))))) : zRT m_X_filled 0 0 8 [(0, .ref 35), (1, .int x1), (2, .int x2), (3, .int x3), (4, .int x4)] [] (SHP g X) M R := by
  refine zs_iload d_X_filled_8 (List.mem_of_getElem? (i := 4) rfl) ?_
  refine zs_aload_n 0 d_X_filled_10 rfl (List.mem_of_getElem? (i := 0) rfl) ?_
  obtain ⟨p1, h⟩ := h
  refine zs_callV (kc := 0) (ks := 0) (kc1 := 0) (ks1 := 0) (st := [.int x4]) [] d_X_filled_11 lk_X_141 ⟨by decide, by decide⟩ rfl (sh_35 g X) rfl (Nat.le_of_ble_eq_true rfl) (ex_X_codes g X M p1) (fun v1 sh1 M1 hR => ?_)
  obtain ⟨rfl, rfl, rfl⟩ := hR
  refine zs_icmp_ge 46 d_X_filled_14 (by decide) (fun c2 => ?_) (fun c2 => ?_)
  · replace h := h.1 c2
    refine zs_iload_n 1 d_X_filled_46 rfl (List.mem_of_getElem? (i := 1) rfl) ?_
    refine zs_iconst (-1) d_X_filled_47 (by decide) ?_
    refine zs_icmp_ne 53 d_X_filled_48 (by decide) (fun c3 => ?_) (fun c3 => ?_)
    · replace h := h.1 c3
      refine zs_iload_n 3 d_X_filled_53 rfl (List.mem_of_getElem? (i := 3) rfl) ?_
      refine zs_if_lt 80 d_X_filled_54 (by decide) (fun c4 => ?_) (fun c4 => ?_)
      · replace h := h.1 c4
        refine zs_bipush (-6) d_X_filled_80 (by decide) ?_
        exact zs_iret d_X_filled_82 rfl h
      · replace h := h.2 c4
        refine zs_iload_n 1 d_X_filled_57 rfl (List.mem_of_getElem? (i := 1) rfl) ?_
        refine zs_iconst 0 d_X_filled_58 (by decide) ?_
        refine zs_aload_n 0 d_X_filled_59 rfl (List.mem_of_getElem? (i := 0) rfl) ?_
        obtain ⟨p5, h⟩ := h
        refine zs_callV (kc := 0) (ks := 0) (kc1 := 0) (ks1 := 0) (st := [.int 0, .int x1]) [] d_X_filled_60 lk_X_135 ⟨by decide, by decide⟩ rfl (sh_35 g X) rfl (Nat.le_of_ble_eq_true rfl) (ex_X_opens g X M p5) (fun v5 sh5 M5 hR => ?_)
        obtain ⟨rfl, rfl, rfl⟩ := hR
        refine zs_iconst 1 d_X_filled_63 (by decide) ?_
        refine zs_isub d_X_filled_64 ?_
        refine zs_callS (kc := 0) (ks := 0) (kc1 := 0) (ks1 := 0) (st := []) [.int x1, .int 0, .int ((nI (mOp M)) - 1)] d_X_filled_65 lk_X_66 ⟨by decide, by decide⟩ rfl (Nat.le_of_ble_eq_true rfl) (ex_X_in g X M x1 0 ((nI (mOp M)) - 1)) (fun v6 sh6 M6 hR => ?_)
        obtain ⟨rfl, rfl, rfl⟩ := hR
        refine zs_if_eq 80 d_X_filled_68 (by decide) (fun c7 => ?_) (fun c7 => ?_)
        · replace h := h.1 (bI_0 c7)
          refine zs_bipush (-6) d_X_filled_80 (by decide) ?_
          exact zs_iret d_X_filled_82 rfl h
        · replace h := h.2 (bI_1 c7)
          refine zs_aload_n 0 d_X_filled_71 rfl (List.mem_of_getElem? (i := 0) rfl) ?_
          refine zs_iload_n 3 d_X_filled_72 rfl (List.mem_of_getElem? (i := 3) rfl) ?_
          refine zs_iload_n 1 d_X_filled_73 rfl (List.mem_of_getElem? (i := 1) rfl) ?_
          obtain ⟨p8, h⟩ := h
          refine zs_callV (kc := 0) (ks := 0) (kc1 := 0) (ks1 := 0) (st := []) [.int x3, .int x1] d_X_filled_74 lk_X_138 ⟨by decide, by decide⟩ rfl (sh_35 g X) rfl (Nat.le_of_ble_eq_true rfl) (ex_X_manAt g X M x3 x1 p8) (fun v8 sh8 M8 hR => ?_)
          obtain ⟨r8, rfl, rfl, hq8⟩ := hR
          replace h := h r8 M8 hq8
          refine zs_goto 82 d_X_filled_77 (by decide) ?_
          exact zs_iret d_X_filled_82 rfl h
    · replace h := h.2 c3
      refine zs_iload_n 2 d_X_filled_51 rfl (List.mem_of_getElem? (i := 2) rfl) ?_
      exact zs_iret d_X_filled_52 rfl h
  · replace h := h.2 c2
    refine zs_aload_n 0 d_X_filled_17 rfl (List.mem_of_getElem? (i := 0) rfl) ?_
    refine zs_iload d_X_filled_18 (List.mem_of_getElem? (i := 4) rfl) ?_
    obtain ⟨p9, h⟩ := h
    refine zs_callV (kc := 0) (ks := 0) (kc1 := 0) (ks1 := 0) (st := []) [.int x4] d_X_filled_20 lk_X_144 ⟨by decide, by decide⟩ rfl (sh_35 g X) rfl (Nat.le_of_ble_eq_true rfl) (ex_X_fill g X M x4 p9) (fun v9 sh9 M9 hR => ?_)
    obtain ⟨r9, rfl, rfl, hq9⟩ := hR
    replace h := h r9 M9 hq9
    refine zs_if_eq 40 d_X_filled_23 (by decide) (fun c10 => ?_) (fun c10 => ?_)
    · replace h := h.1 c10
      refine zs_iinc2 4 (x4 + 1) [1, 2, 3, 4, 0] [(0, .ref 35), (1, .int x1), (2, .int x2), (3, .int x3), (4, .int (x4 + 1))] d_X_filled_40 rfl rfl (by decide) rfl ?_
      refine zs_goto 8 d_X_filled_43 (by decide) ?_
      exact h
    · replace h := h.2 c10
      refine zs_iload_n 3 d_X_filled_26 rfl (List.mem_of_getElem? (i := 3) rfl) ?_
      refine zs_if_ge 35 d_X_filled_27 (by decide) (fun c11 => ?_) (fun c11 => ?_)
      · replace h := h.1 c11
        refine zs_iload_n 3 d_X_filled_35 rfl (List.mem_of_getElem? (i := 3) rfl) ?_
        refine zs_istore_n2 3 [1, 2, 3, 0, 4] [(0, .ref 35), (1, .int x1), (2, .int x2), (3, .int x3), (4, .int x4)] d_X_filled_36 rfl (by decide) rfl ?_
        refine zs_iinc2 2 (x2 + 1) [1, 2, 0, 3, 4] [(0, .ref 35), (1, .int x1), (2, .int (x2 + 1)), (3, .int x3), (4, .int x4)] d_X_filled_37 rfl rfl (by decide) rfl ?_
        refine zs_iinc2 4 (x4 + 1) [1, 2, 3, 4, 0] [(0, .ref 35), (1, .int x1), (2, .int (x2 + 1)), (3, .int x3), (4, .int (x4 + 1))] d_X_filled_40 rfl rfl (by decide) rfl ?_
        refine zs_goto 8 d_X_filled_43 (by decide) ?_
        exact h
      · replace h := h.2 c11
        refine zs_iload d_X_filled_30 (List.mem_of_getElem? (i := 4) rfl) ?_
        refine zs_goto 36 d_X_filled_32 (by decide) ?_
        refine zs_istore_n2 3 [1, 2, 3, 0, 4] [(0, .ref 35), (1, .int x1), (2, .int x2), (3, .int x4), (4, .int x4)] d_X_filled_36 rfl (by decide) rfl ?_
        refine zs_iinc2 2 (x2 + 1) [1, 2, 0, 3, 4] [(0, .ref 35), (1, .int x1), (2, .int (x2 + 1)), (3, .int x4), (4, .int x4)] d_X_filled_37 rfl rfl (by decide) rfl ?_
        refine zs_iinc2 4 (x4 + 1) [1, 2, 3, 4, 0] [(0, .ref 35), (1, .int x1), (2, .int (x2 + 1)), (3, .int x4), (4, .int (x4 + 1))] d_X_filled_40 rfl rfl (by decide) rfl ?_
        refine zs_goto 8 d_X_filled_43 (by decide) ?_
        exact h
theorem ex_X_filled (i : Int32) (hh : mK M ∧ mKo M ∧ mKs M) : zEx m_X_filled 0 0 [.ref 35, .int i] (SHP g X) M (qR g X (fun _ M2 => mAg M M2)) := by
  refine zEx_of _ (by decide) (by simp [Value.category]) (Nat.le_of_ble_eq_true rfl) rfl (v_X_filled_0 g X M i _ ?_)
  obtain ⟨hk, hko, hks⟩ := hh
  have h6 := m64 hko.2.2
  have L : ∀ d k n b M1, k + d = 6 ^ mOp M → mAg M M1 → zRT m_X_filled 0 0 8 [(0, .ref 35), (1, .int i), (2, .int n), (3, .int b), (4, .int (nI k))] [] (SHP g X) M1 (qR g X (fun _ M2 => mAg M M2)) := by
    intro d
    induction d with
    | zero =>
      intro k n b M1 hkd ha
      refine v_X_filled_8 g X _ _ _ _ _ _ ⟨ha.ko hko, fun _ => ⟨fun _ => ⟨fun _ => qR_i ha, fun _ => ⟨ha.ko hko, fun _ => qR_i ha, fun h => ⟨⟨ha.ko hko, ?_⟩, fun r M8 e => qR_i (by rw [e]; exact ha)⟩⟩⟩, fun _ => qR_i ha⟩, fun h => absurd (by rw [ha.op]; exact nI_le (by omega) (by omega)) h⟩
      intro h0
      simp [inI, h0] at h
    | succ d ih =>
      intro k n b M1 hkd ha
      refine v_X_filled_8 g X _ _ _ _ _ _ ⟨ha.ko hko, fun h => absurd h (by rw [ha.op]; exact nI_ge (by omega) (by omega)), fun _ => ⟨⟨ha.mk hk, ha.ko hko, ha.ks hks⟩, fun r M9 h9 => ?_⟩⟩
      rw [nI_1]
      have i1 := fun n b => ih (k + 1) n b M9 (by omega) (ha.tr h9.1)
      exact ⟨fun _ => i1 _ _, fun _ => ⟨fun _ => i1 _ _, fun _ => i1 _ _⟩⟩
  exact L (6 ^ mOp M) 0 _ _ M (by omega) mAg.rf
theorem v_X_sure_0 (g : Nat → Option Nat) (X : List zShp) (M : zMem) (x1 x2 : Int32) (R : zEnd) (h : (((inI x1 0 (M 35 6 - 1)) = true) → ((((inI x2 0 1) = true) → (zRT m_X_sure 0 0 34 [(0, .ref 35), (1, .int x1), (2, .int x2), (3, .int 63), (4, .int 0), (5, .int 0), (6, .int 0)] [] (SHP g X) M R)) ∧ (((inI x2 0 1) = false) → (R (some (.int (-2))) (SHP g X) M)))) ∧ (((inI x1 0 (M 35 6 - 1)) = false) → (R (some (.int (-1))) (SHP g X) M))) : zRT m_X_sure 0 0 0 [(0, .ref 35), (1, .int x1), (2, .int x2)] [] (SHP g X) M R := by
  refine zs_aload_n 0 d_X_sure_0 rfl (List.mem_of_getElem? (i := 0) rfl) ?_
  refine zs_iload_n 1 d_X_sure_1 rfl (List.mem_of_getElem? (i := 1) rfl) ?_
  refine zs_callV (kc := 0) (ks := 0) (kc1 := 0) (ks1 := 0) (st := []) [.int x1] d_X_sure_2 lk_X_83 ⟨by decide, by decide⟩ rfl (sh_35 g X) rfl (Nat.le_of_ble_eq_true rfl) (ex_X_isThing g X M x1) (fun v1 sh1 M1 hR => ?_)
  obtain ⟨rfl, rfl, rfl⟩ := hR
  refine zs_if_ne 10 d_X_sure_5 (by decide) (fun c2 => ?_) (fun c2 => ?_)
  · replace h := h.1 (bI_1 c2)
    refine zs_iload_n 2 d_X_sure_10 rfl (List.mem_of_getElem? (i := 2) rfl) ?_
    refine zs_iconst 0 d_X_sure_11 (by decide) ?_
    refine zs_iconst 1 d_X_sure_12 (by decide) ?_
    refine zs_callS (kc := 0) (ks := 0) (kc1 := 0) (ks1 := 0) (st := []) [.int x2, .int 0, .int 1] d_X_sure_13 lk_X_66 ⟨by decide, by decide⟩ rfl (Nat.le_of_ble_eq_true rfl) (ex_X_in g X M x2 0 1) (fun v3 sh3 M3 hR => ?_)
    obtain ⟨rfl, rfl, rfl⟩ := hR
    refine zs_if_ne 22 d_X_sure_16 (by decide) (fun c4 => ?_) (fun c4 => ?_)
    · replace h := h.1 (bI_1 c4)
      refine zs_bipush 63 d_X_sure_22 (by decide) ?_
      refine zs_istore_n2 3 [1, 2, 3, 0] [(0, .ref 35), (1, .int x1), (2, .int x2), (3, .int 63)] d_X_sure_24 rfl (by decide) rfl ?_
      refine zs_iconst 0 d_X_sure_25 (by decide) ?_
      refine zs_istore2 [1, 2, 3, 4, 0] [(0, .ref 35), (1, .int x1), (2, .int x2), (3, .int 63), (4, .int 0)] d_X_sure_26 (by decide) rfl ?_
      refine zs_iconst 0 d_X_sure_28 (by decide) ?_
      refine zs_istore2 [1, 2, 3, 4, 5, 0] [(0, .ref 35), (1, .int x1), (2, .int x2), (3, .int 63), (4, .int 0), (5, .int 0)] d_X_sure_29 (by decide) rfl ?_
      refine zs_iconst 0 d_X_sure_31 (by decide) ?_
      refine zs_istore2 [1, 2, 3, 4, 5, 6, 0] [(0, .ref 35), (1, .int x1), (2, .int x2), (3, .int 63), (4, .int 0), (5, .int 0), (6, .int 0)] d_X_sure_32 (by decide) rfl ?_
      exact h
    · replace h := h.2 (bI_0 c4)
      refine zs_bipush (-2) d_X_sure_19 (by decide) ?_
      exact zs_iret d_X_sure_21 rfl h
  · replace h := h.2 (bI_0 c2)
    refine zs_iconst (-1) d_X_sure_8 (by decide) ?_
    exact zs_iret d_X_sure_9 rfl h
theorem v_X_sure_34 (g : Nat → Option Nat) (X : List zShp) (M : zMem) (x1 x2 x3 x4 x5 x6 : Int32) (R : zEnd) (h : (mKo M) ∧ ((((nI (6 ^ mOp M)) ≤ x6) → (((¬ x5 = 0) → (((¬ x2 = 0) → (R (some (.int x4)) (SHP g X) M)) ∧ ((x2 = 0) → (R (some (.int x3)) (SHP g X) M)))) ∧ ((x5 = 0) → (R (some (.int (-3))) (SHP g X) M)))) ∧ ((¬ (nI (6 ^ mOp M)) ≤ x6) → ((mK M ∧ mKo M ∧ mKs M) ∧ (∀ (r5 : Int32) (M5 : zMem), (mAg M M5 ∧ (r5 = 0 ∨ r5 = 1)) → (((r5 = 0) → (zRT m_X_sure 0 0 34 [(0, .ref 35), (1, .int x1), (2, .int x2), (3, .int x3), (4, .int x4), (5, .int x5), (6, .int (x6 + 1))] [] (SHP g X) M5 R)) ∧ ((¬ r5 = 0) → ((mRw M5 x1) ∧ (zRT m_X_sure 0 0 34 [(0, .ref 35), (1, .int x1), (2, .int x2), (3, .int (x3 &&& (mWP M5 (mTc M5 x1)))), (4, .int (x4 ||| (mWP M5 (mTc M5 x1)))), (5, .int 1), (6, .int (x6 + 1))] [] (SHP g X) (mWk M5 (Int32.toNatClampNeg x1)) R))))))))) : zRT m_X_sure 0 0 34 [(0, .ref 35), (1, .int x1), (2, .int x2), (3, .int x3), (4, .int x4), (5, .int x5), (6, .int x6)] [] (SHP g X) M R := by
  refine zs_iload d_X_sure_34 (List.mem_of_getElem? (i := 6) rfl) ?_
  refine zs_aload_n 0 d_X_sure_36 rfl (List.mem_of_getElem? (i := 0) rfl) ?_
  obtain ⟨p1, h⟩ := h
  refine zs_callV (kc := 0) (ks := 0) (kc1 := 0) (ks1 := 0) (st := [.int x6]) [] d_X_sure_37 lk_X_141 ⟨by decide, by decide⟩ rfl (sh_35 g X) rfl (Nat.le_of_ble_eq_true rfl) (ex_X_codes g X M p1) (fun v1 sh1 M1 hR => ?_)
  obtain ⟨rfl, rfl, rfl⟩ := hR
  refine zs_icmp_ge 80 d_X_sure_40 (by decide) (fun c2 => ?_) (fun c2 => ?_)
  · replace h := h.1 c2
    refine zs_iload d_X_sure_80 (List.mem_of_getElem? (i := 5) rfl) ?_
    refine zs_if_ne 90 d_X_sure_82 (by decide) (fun c3 => ?_) (fun c3 => ?_)
    · replace h := h.1 c3
      refine zs_iload_n 2 d_X_sure_90 rfl (List.mem_of_getElem? (i := 2) rfl) ?_
      refine zs_if_ne 98 d_X_sure_91 (by decide) (fun c4 => ?_) (fun c4 => ?_)
      · replace h := h.1 c4
        refine zs_iload d_X_sure_98 (List.mem_of_getElem? (i := 4) rfl) ?_
        exact zs_iret d_X_sure_100 rfl h
      · replace h := h.2 c4
        refine zs_iload_n 3 d_X_sure_94 rfl (List.mem_of_getElem? (i := 3) rfl) ?_
        refine zs_goto 100 d_X_sure_95 (by decide) ?_
        exact zs_iret d_X_sure_100 rfl h
    · replace h := h.2 c3
      refine zs_bipush (-3) d_X_sure_85 (by decide) ?_
      refine zs_goto 100 d_X_sure_87 (by decide) ?_
      exact zs_iret d_X_sure_100 rfl h
  · replace h := h.2 c2
    refine zs_aload_n 0 d_X_sure_43 rfl (List.mem_of_getElem? (i := 0) rfl) ?_
    refine zs_iload d_X_sure_44 (List.mem_of_getElem? (i := 6) rfl) ?_
    obtain ⟨p5, h⟩ := h
    refine zs_callV (kc := 0) (ks := 0) (kc1 := 0) (ks1 := 0) (st := []) [.int x6] d_X_sure_46 lk_X_144 ⟨by decide, by decide⟩ rfl (sh_35 g X) rfl (Nat.le_of_ble_eq_true rfl) (ex_X_fill g X M x6 p5) (fun v5 sh5 M5 hR => ?_)
    obtain ⟨r5, rfl, rfl, hq5⟩ := hR
    replace h := h r5 M5 hq5
    refine zs_if_eq 74 d_X_sure_49 (by decide) (fun c6 => ?_) (fun c6 => ?_)
    · replace h := h.1 c6
      refine zs_iinc2 6 (x6 + 1) [1, 2, 3, 4, 5, 6, 0] [(0, .ref 35), (1, .int x1), (2, .int x2), (3, .int x3), (4, .int x4), (5, .int x5), (6, .int (x6 + 1))] d_X_sure_74 rfl rfl (by decide) rfl ?_
      refine zs_goto 34 d_X_sure_77 (by decide) ?_
      exact h
    · replace h := h.2 c6
      refine zs_aload_n 0 d_X_sure_52 rfl (List.mem_of_getElem? (i := 0) rfl) ?_
      refine zs_iload_n 1 d_X_sure_53 rfl (List.mem_of_getElem? (i := 1) rfl) ?_
      obtain ⟨p7, h⟩ := h
      refine zs_callV (kc := 0) (ks := 0) (kc1 := 0) (ks1 := 0) (st := []) [.int x1] d_X_sure_54 lk_X_119 ⟨by decide, by decide⟩ rfl (sh_35 g X) rfl (Nat.le_of_ble_eq_true rfl) (ex_X_barredFrom g X M5 x1 p7) (fun v7 sh7 M7 hR => ?_)
      obtain ⟨rfl, rfl, rfl⟩ := hR
      refine zs_istore2 [1, 2, 3, 4, 5, 6, 7, 0] [(0, .ref 35), (1, .int x1), (2, .int x2), (3, .int x3), (4, .int x4), (5, .int x5), (6, .int x6), (7, .int (mWP M5 (mTc M5 x1)))] d_X_sure_57 (by decide) rfl ?_
      refine zs_iload_n 3 d_X_sure_59 rfl (List.mem_of_getElem? (i := 3) rfl) ?_
      refine zs_iload d_X_sure_60 (List.mem_of_getElem? (i := 7) rfl) ?_
      refine zs_iand d_X_sure_62 ?_
      refine zs_istore_n2 3 [1, 2, 3, 0, 4, 5, 6, 7] [(0, .ref 35), (1, .int x1), (2, .int x2), (3, .int (x3 &&& (mWP M5 (mTc M5 x1)))), (4, .int x4), (5, .int x5), (6, .int x6), (7, .int (mWP M5 (mTc M5 x1)))] d_X_sure_63 rfl (by decide) rfl ?_
      refine zs_iload d_X_sure_64 (List.mem_of_getElem? (i := 4) rfl) ?_
      refine zs_iload d_X_sure_66 (List.mem_of_getElem? (i := 7) rfl) ?_
      refine zs_ior d_X_sure_68 ?_
      refine zs_istore2 [1, 2, 3, 4, 0, 5, 6, 7] [(0, .ref 35), (1, .int x1), (2, .int x2), (3, .int (x3 &&& (mWP M5 (mTc M5 x1)))), (4, .int (x4 ||| (mWP M5 (mTc M5 x1)))), (5, .int x5), (6, .int x6), (7, .int (mWP M5 (mTc M5 x1)))] d_X_sure_69 (by decide) rfl ?_
      refine zs_iconst 1 d_X_sure_71 (by decide) ?_
      refine zs_istore2 [1, 2, 3, 4, 5, 0, 6, 7] [(0, .ref 35), (1, .int x1), (2, .int x2), (3, .int (x3 &&& (mWP M5 (mTc M5 x1)))), (4, .int (x4 ||| (mWP M5 (mTc M5 x1)))), (5, .int 1), (6, .int x6), (7, .int (mWP M5 (mTc M5 x1)))] d_X_sure_72 (by decide) rfl ?_
      refine zs_iinc2 6 (x6 + 1) [1, 2, 3, 4, 5, 6, 0, 7] [(0, .ref 35), (1, .int x1), (2, .int x2), (3, .int (x3 &&& (mWP M5 (mTc M5 x1)))), (4, .int (x4 ||| (mWP M5 (mTc M5 x1)))), (5, .int 1), (6, .int (x6 + 1)), (7, .int (mWP M5 (mTc M5 x1)))] d_X_sure_74 rfl rfl (by decide) rfl ?_
      refine zs_goto 34 d_X_sure_77 (by decide) ?_
      exact zRT_sub [0, 1, 2, 3, 4, 5, 6] rfl h
theorem ex_X_sure (x y : Int32) (hh : mK M ∧ mKo M ∧ mKs M) : zEx m_X_sure 0 0 [.ref 35, .int x, .int y] (SHP g X) M (qR g X (fun _ M2 => mAg M M2)) := by
  obtain ⟨hk, hko, hks⟩ := hh
  have h6 := m64 hko.2.2
  refine zEx_of _ (by decide) (by simp [Value.category]) (Nat.le_of_ble_eq_true rfl) rfl (v_X_sure_0 g X M x y _ ⟨fun hx => ⟨fun _ => ?_, fun _ => qR_i mAg.rf⟩, fun _ => qR_i mAg.rf⟩)
  have L : ∀ d k a b c M1, k + d = 6 ^ mOp M → mAg M M1 → zRT m_X_sure 0 0 34 [(0, .ref 35), (1, .int x), (2, .int y), (3, .int a), (4, .int b), (5, .int c), (6, .int (nI k))] [] (SHP g X) M1 (qR g X (fun _ M2 => mAg M M2)) := by
    intro d
    induction d with
    | zero =>
      intro k a b c M1 hkd ha
      exact v_X_sure_34 g X _ _ _ _ _ _ _ _ ⟨ha.ko hko, fun _ => ⟨fun _ => ⟨fun _ => qR_i ha, fun _ => qR_i ha⟩, fun _ => qR_i ha⟩, fun h => absurd (by rw [ha.op]; exact nI_le (by omega) (by omega)) h⟩
    | succ d ih =>
      intro k a b c M1 hkd ha
      refine v_X_sure_34 g X _ _ _ _ _ _ _ _ ⟨ha.ko hko, fun h => absurd h (by rw [ha.op]; exact nI_ge (by omega) (by omega)), fun _ => ⟨⟨ha.mk hk, ha.ko hko, ha.ks hks⟩, fun r M9 h9 => ?_⟩⟩
      rw [nI_1]
      have h2 := ha.tr h9.1
      exact ⟨fun _ => ih (k + 1) _ _ _ M9 (by omega) h2, fun _ => ⟨(h2.mk hk).rw (h2.th (hk.th hx)), ih (k + 1) _ _ _ _ (by omega) h2.wk⟩⟩
  exact L (6 ^ mOp M) 0 _ _ _ M (by omega) mAg.rf
theorem v_X_layMays_0 (g : Nat → Option Nat) (X : List zShp) (M : zMem) (R : zEnd) (h : (mCnt M) ∧ (zRT m_X_layMays 0 0 6 [(0, .ref 35), (1, .int 0)] [] (SHP g X) (mTo M) R)) : zRT m_X_layMays 0 0 0 [(0, .ref 35)] [] (SHP g X) M R := by
  refine zs_aload_n 0 d_X_layMays_0 rfl (List.mem_of_getElem? (i := 0) rfl) ?_
  obtain ⟨p1, h⟩ := h
  refine zs_callV (kc := 0) (ks := 0) (kc1 := 0) (ks1 := 0) (st := []) [] d_X_layMays_1 lk_X_116 ⟨by decide, by decide⟩ rfl (sh_35 g X) rfl (Nat.le_of_ble_eq_true rfl) (ex_X_asTold g X M p1) (fun v1 sh1 M1 hR => ?_)
  obtain ⟨rfl, rfl, rfl⟩ := hR
  refine zs_iconst 0 d_X_layMays_4 (by decide) ?_
  refine zs_istore_n2 1 [1, 0] [(0, .ref 35), (1, .int 0)] d_X_layMays_5 rfl (by decide) rfl ?_
  exact h
theorem v_X_layMays_6 (g : Nat → Option Nat) (X : List zShp) (M : zMem) (x1 : Int32) (R : zEnd) (h : ((6 ≤ x1) → (R none (SHP g X) M)) ∧ ((¬ 6 ≤ x1) → ((mK M) ∧ (∀ (r2 : Int32) (M2 : zMem), (mAg M M2) → ((vp_in x1 6) ∧ (zRT m_X_layMays 0 0 6 [(0, .ref 35), (1, .int (x1 + 1))] [] (SHP g X) (zms M2 44 (Int32.toNatClampNeg x1) r2) R)))))) : zRT m_X_layMays 0 0 6 [(0, .ref 35), (1, .int x1)] [] (SHP g X) M R := by
  refine zs_iload_n 1 d_X_layMays_6 rfl (List.mem_of_getElem? (i := 1) rfl) ?_
  refine zs_bipush 6 d_X_layMays_7 (by decide) ?_
  refine zs_icmp_ge 29 d_X_layMays_9 (by decide) (fun c1 => ?_) (fun c1 => ?_)
  · replace h := h.1 c1
    exact zs_vret d_X_layMays_29 rfl h
  · replace h := h.2 c1
    refine zs_aload_n 0 d_X_layMays_12 rfl (List.mem_of_getElem? (i := 0) rfl) ?_
    refine zs_get d_X_layMays_13 gf_X_41 (sh_35 g X) rfl ?_
    refine zs_iload_n 1 d_X_layMays_16 rfl (List.mem_of_getElem? (i := 1) rfl) ?_
    refine zs_aload_n 0 d_X_layMays_17 rfl (List.mem_of_getElem? (i := 0) rfl) ?_
    refine zs_iload_n 1 d_X_layMays_18 rfl (List.mem_of_getElem? (i := 1) rfl) ?_
    obtain ⟨p2, h⟩ := h
    refine zs_callV (kc := 0) (ks := 0) (kc1 := 0) (ks1 := 0) (st := [.int x1, .ref 44]) [.int x1] d_X_layMays_19 lk_X_125 ⟨by decide, by decide⟩ rfl (sh_35 g X) rfl (Nat.le_of_ble_eq_true rfl) (ex_X_mayHave g X M x1 p2) (fun v2 sh2 M2 hR => ?_)
    obtain ⟨r2, rfl, rfl, hq2⟩ := hR
    replace h := h r2 M2 hq2
    obtain ⟨b3, h⟩ := h
    refine zs_iast d_X_layMays_22 (sh_44 g X) b3 ?_
    refine zs_iinc2 1 (x1 + 1) [1, 0] [(0, .ref 35), (1, .int (x1 + 1))] d_X_layMays_23 rfl rfl (by decide) rfl ?_
    refine zs_goto 6 d_X_layMays_26 (by decide) ?_
    exact h
theorem ex_X_layMays (hh : mK M) : zEx m_X_layMays 0 0 [.ref 35] (SHP g X) M (qW g X (fun M2 => mAg M M2)) := by
  refine zEx_of _ (by decide) (by simp [Value.category]) (Nat.le_of_ble_eq_true rfl) rfl (v_X_layMays_0 g X M _ ⟨hh.1, ?_⟩)
  have L : ∀ d k M1, k + d = 6 → mAg M M1 → zRT m_X_layMays 0 0 6 [(0, .ref 35), (1, .int (nI k))] [] (SHP g X) M1 (qW g X (fun M2 => mAg M M2)) := by
    intro d
    induction d with
    | zero =>
      intro k M1 hkd ha
      exact v_X_layMays_6 g X _ _ _ ⟨fun _ => ⟨rfl, rfl, ha⟩, fun h => absurd (nI_le (a := 6) (by omega) (by omega)) h⟩
    | succ d ih =>
      intro k M1 hkd ha
      refine v_X_layMays_6 g X _ _ _ ⟨fun h => absurd h (nI_ge (b := 6) (by omega) (by omega)), fun _ => ⟨ha.mk hh, fun r M2 h2 => ⟨vp_in_nI (by omega) (by decide), ?_⟩⟩⟩
      rw [nI_1]
      exact ih (k + 1) _ (by omega) ((ha.tr h2).st (by decide))
  exact L 6 0 (mTo M) rfl mAg.rf.mt
end zX5
