/-! lack, days: the reference answers as the class does -/
theorem kSm_cg {f g : Nat → Int32} : ∀ n, (∀ k, k < n → f k = g k) → kSm f n = kSm g n
  | 0, _ => rfl
  | n + 1, h => by
    show kSm f n + f n = kSm g n + g n
    rw [kSm_cg n (fun k hk => h k (by omega)), h n (by omega)]
theorem kSm_up {f : Nat → Int32} {n : Nat} : ∀ d, (∀ k, n ≤ k → k < n + d → f k = 0) → kSm f (n + d) = kSm f n
  | 0, _ => rfl
  | d + 1, h => by
    show kSm f (n + d) + f (n + d) = kSm f n
    rw [kSm_up d (fun k h1 h2 => h k h1 (by omega)), h (n + d) (by omega) (by omega)]
    exact Int32.add_zero _
section zS1
variable {F : zTS} {Mc M : zMem}
theorem kLay_28 {j : Nat} (hj : j < 6) : (kLay Mc) 28 j = kLwf Mc (nI j) := by
  unfold kLay kCp
  rw [zmr_ne _ _ _ 28 (by decide)]
  unfold kLayn
  rw [zmr_row]
  exact if_pos hj
theorem kLay_29 (ht : kTR Mc 10 F) {k : Nat} (hk : k < 10) : (kLay Mc) 29 k = fL F k := by
  unfold kLay kCp
  rw [zmr_row, sb_cpy0 hk]
  unfold kLayn
  rw [zmr_ne _ _ _ 18 (by decide)]
  exact ht.2.2.2.2.2.2.1 k hk
theorem kLwf_bt (hw : kWF F) (ht : kTR Mc 10 F) {m : Int32} {i : Nat} (h : bt (kLwf Mc m) i = true) : i < tN F := by
  have h10 := hw.1.2
  unfold kLwf at h
  rw [kTR_cn ht, kOr_bt] at h
  obtain ⟨k, hk, h2⟩ := h
  by_cases hi : i < 32
  · by_cases c : kTch Mc (nI k) &&& kCpl Mc m = 0
    · rw [if_pos c, b_1shl (by omega) hi, decide_eq_true_iff] at h2
      omega
    · rw [if_neg c, b_0] at h2; cases h2
  · rw [b_big (by omega)] at h2; cases h2
theorem kThs_bt (hw : kWF F) (ht : kTR Mc 10 F) {men : Int32} {i : Nat} (h : bt (kThs (kLay Mc) men) i = true) : i < tN F := by
  unfold kThs at h
  rw [kOr_bt] at h
  obtain ⟨k, hk, h2⟩ := h
  by_cases c : hb men (nI k) = true
  · rw [if_pos c, kLay_28 hk] at h2
    exact kLwf_bt hw ht h2
  · rw [if_neg c, b_0] at h2; cases h2
theorem kLf_n (hw : kWF F) (ht : kTR Mc 10 F) (men : Int32) : kLf (kLay Mc) men = kSm (fun k => if hb (kThs (kLay Mc) men) (nI k) = true then fL F k else 0) (tN F) := by
  have h10 := hw.1.2
  unfold kLf
  rw [show (10 : Nat) = tN F + (10 - tN F) by omega, kSm_up (10 - tN F) (fun k h1 h2 => ?_)]
  · refine kSm_cg _ (fun k hk => ?_)
    rw [kLay_29 ht (by omega)]
  · refine if_neg (fun q => ?_)
    rw [hb_bt (by omega)] at q
    have := kThs_bt hw ht q
    omega
end zS1
set_option maxRecDepth 100000 in
theorem bt6_bc : ∀ s, s < 64 → bt6 (nI s) = bc (nI s) := by decide
section zS2
variable (g : Nat → Option Nat) (X : List zShp) (M : zMem)
theorem vS_X_layMays_0 (g : Nat → Option Nat) (X : List zShp) (M : zMem) (R : zEnd) (h : (mCnt M) ∧ (zRT m_X_layMays 0 0 6 [(0, .ref 35), (1, .int 0)] [] (SHP g X) (mTo M) R)) : zRT m_X_layMays 0 0 0 [(0, .ref 35)] [] (SHP g X) M R := by
  refine zs_aload_n 0 d_X_layMays_0 rfl (List.mem_of_getElem? (i := 0) rfl) ?_
  obtain ⟨p1, h⟩ := h
  refine zs_callV (kc := 0) (ks := 0) (kc1 := 0) (ks1 := 0) (st := []) [] d_X_layMays_1 lk_X_116 ⟨by decide, by decide⟩ rfl (sh_35 g X) rfl (Nat.le_of_ble_eq_true rfl) (ex_X_asTold g X M p1) (fun v1 sh1 M1 hR => ?_)
  obtain ⟨rfl, rfl, rfl⟩ := hR
  refine zs_iconst 0 d_X_layMays_4 (by decide) ?_
  refine zs_istore_n2 1 [1, 0] [(0, .ref 35), (1, .int 0)] d_X_layMays_5 rfl (by decide) rfl ?_
  exact h
theorem vS_X_layMays_6 (g : Nat → Option Nat) (X : List zShp) (M : zMem) (x1 : Int32) (R : zEnd) (h : ((6 ≤ x1) → (R none (SHP g X) M)) ∧ ((¬ 6 ≤ x1) → ((mK M ∧ vp_in x1 6) ∧ (∀ (r2 : Int32) (M2 : zMem), (kAg [42] M M2 ∧ (∀ F Mc, cM F Mc M → m41 F M → r2 = kLwf Mc x1)) → ((vp_in x1 6) ∧ (zRT m_X_layMays 0 0 6 [(0, .ref 35), (1, .int (x1 + 1))] [] (SHP g X) (zms M2 44 (Int32.toNatClampNeg x1) r2) R)))))) : zRT m_X_layMays 0 0 6 [(0, .ref 35), (1, .int x1)] [] (SHP g X) M R := by
  refine zs_iload_n 1 d_X_layMays_6 rfl (List.mem_of_getElem? (i := 1) rfl) ?_
  refine zs_bipush 6 d_X_layMays_7 (by decide) ?_
  refine zs_icmp_ge 29 d_X_layMays_9 (by decide) (fun c1 => ?_) (fun c1 => ?_)
  · replace h := h.1 c1
    exact zs_vret d_X_layMays_29 rfl h
  · replace h := h.2 c1
    refine zs_aload_n 0 d_X_layMays_12 rfl (List.mem_of_getElem? (i := 0) rfl) ?_
    refine zs_get d_X_layMays_13 gf_X_41 (sh_35 g X) rfl ?_
    refine zs_iload_n 1 d_X_layMays_16 rfl (List.mem_of_getElem? (i := 1) rfl) ?_
    refine zs_aload_n 0 d_X_layMays_17 rfl (List.mem_of_getElem? (i := 0) rfl) ?_
    refine zs_iload_n 1 d_X_layMays_18 rfl (List.mem_of_getElem? (i := 1) rfl) ?_
    obtain ⟨p2, h⟩ := h
    refine zs_callV (kc := 0) (ks := 0) (kc1 := 0) (ks1 := 0) (st := [.int x1, .ref 44]) [.int x1] d_X_layMays_19 lk_X_125 ⟨by decide, by decide⟩ rfl (sh_35 g X) rfl (Nat.le_of_ble_eq_true rfl) (ex2_X_mayHave g X M x1 p2) (fun v2 sh2 M2 hR => ?_)
    obtain ⟨r2, rfl, rfl, hq2⟩ := hR
    replace h := h r2 M2 hq2
    obtain ⟨b3, h⟩ := h
    refine zs_iast d_X_layMays_22 (sh_44 g X) b3 ?_
    refine zs_iinc2 1 (x1 + 1) [1, 0] [(0, .ref 35), (1, .int (x1 + 1))] d_X_layMays_23 rfl rfl (by decide) rfl ?_
    refine zs_goto 6 d_X_layMays_26 (by decide) ?_
    exact h
theorem ex2_X_layMays (hh : mK M) : zEx m_X_layMays 0 0 [.ref 35] (SHP g X) M (qW g X (fun M2 => mAg M M2 ∧ (∀ F Mc, cM F Mc M → ∀ j, j < 6 → M2 44 j = kLwf Mc (nI j)))) := by
  refine zEx_of _ (by decide) (by simp [Value.category]) (Nat.le_of_ble_eq_true rfl) rfl (vS_X_layMays_0 g X M _ ⟨hh.1, ?_⟩)
  have L : ∀ d k M1, k + d = 6 → mAg M M1 → M1 41 = (mTo M) 41 → (∀ F Mc, cM F Mc M → ∀ j, j < k → M1 44 j = kLwf Mc (nI j)) → zRT m_X_layMays 0 0 6 [(0, .ref 35), (1, .int (nI k))] [] (SHP g X) M1 (qW g X (fun M2 => mAg M M2 ∧ (∀ F Mc, cM F Mc M → ∀ j, j < 6 → M2 44 j = kLwf Mc (nI j)))) := by
    intro d
    induction d with
    | zero =>
      intro k M1 hkd ha h41 hv
      have e : k = 6 := by omega
      subst e
      exact vS_X_layMays_6 g X _ _ _ ⟨fun _ => ⟨rfl, rfl, ha, hv⟩, fun h => absurd (nI_le (a := 6) (by omega) (by omega)) h⟩
    | succ d ih =>
      intro k M1 hkd ha h41 hv
      refine vS_X_layMays_6 g X _ _ _ ⟨fun h => absurd h (nI_ge (b := 6) (by omega) (by omega)), fun _ => ⟨⟨ha.mk hh, vp_in_nI (by omega) (by decide)⟩, fun r M2 h2 => ⟨vp_in_nI (by omega) (by decide), ?_⟩⟩⟩
      rw [nI_1, nI_clamp (by omega)]
      refine ih (k + 1) _ (by omega) ((ha.tr (mAg_42 h2.1)).st (by decide)) ?_ (fun F Mc hc => kUp (f := fun j => kLwf Mc (nI j)) ?_ ?_)
      · rw [zms_ne _ _ _ _ 41 (by decide), h2.1 41 (by decide)]; exact h41
      · rw [h2.1 44 (by decide)]; exact hv F Mc hc
      · exact h2.2 F Mc (cM_ag ha hc) (fun t ht => by rw [h41]; exact m41_to hc t ht)
  exact L 6 0 (mTo M) rfl mAg.rf.mt rfl (fun _ _ _ j h => absurd h (Nat.not_lt_zero j))
theorem vS_X_lack_0 (g : Nat → Option Nat) (X : List zShp) (M : zMem) (R : zEnd) (h : (mK M) ∧ (∀ (M1 : zMem), (mAg M M1 ∧ (∀ F Mc, cM F Mc M → ∀ j, j < 6 → M1 44 j = kLwf Mc (nI j))) → (zRT m_X_lack 0 0 6 [(0, .ref 35), (1, .int 1)] [] (SHP g X) M1 R))) : zRT m_X_lack 0 0 0 [(0, .ref 35)] [] (SHP g X) M R := by
  refine zs_aload_n 0 d_X_lack_0 rfl (List.mem_of_getElem? (i := 0) rfl) ?_
  obtain ⟨p1, h⟩ := h
  refine zs_callV (kc := 0) (ks := 0) (kc1 := 0) (ks1 := 0) (st := []) [] d_X_lack_1 lk_X_147 ⟨by decide, by decide⟩ rfl (sh_35 g X) rfl (Nat.le_of_ble_eq_true rfl) (ex2_X_layMays g X M p1) (fun v1 sh1 M1 hR => ?_)
  obtain ⟨rfl, rfl, hq1⟩ := hR
  replace h := h M1 hq1
  refine zs_iconst 1 d_X_lack_4 (by decide) ?_
  refine zs_istore_n2 1 [1, 0] [(0, .ref 35), (1, .int 1)] d_X_lack_5 rfl (by decide) rfl ?_
  exact h
theorem vS_X_lack_6 (g : Nat → Option Nat) (X : List zShp) (M : zMem) (x1 : Int32) (R : zEnd) (h : ((64 ≤ x1) → (R (some (.int (-6))) (SHP g X) M)) ∧ ((¬ 64 ≤ x1) → (zRT m_X_lack 0 0 16 [(0, .ref 35), (1, .int x1), (2, .int 0), (3, .int 0)] [] (SHP g X) M R))) : zRT m_X_lack 0 0 6 [(0, .ref 35), (1, .int x1)] [] (SHP g X) M R := by
  refine zs_iload_n 1 d_X_lack_6 rfl (List.mem_of_getElem? (i := 1) rfl) ?_
  refine zs_bipush 64 d_X_lack_7 (by decide) ?_
  refine zs_icmp_ge 108 d_X_lack_9 (by decide) (fun c1 => ?_) (fun c1 => ?_)
  · replace h := h.1 c1
    refine zs_bipush (-6) d_X_lack_108 (by decide) ?_
    exact zs_iret d_X_lack_110 rfl h
  · replace h := h.2 c1
    refine zs_iconst 0 d_X_lack_12 (by decide) ?_
    refine zs_istore_n2 2 [1, 2, 0] [(0, .ref 35), (1, .int x1), (2, .int 0)] d_X_lack_13 rfl (by decide) rfl ?_
    refine zs_iconst 0 d_X_lack_14 (by decide) ?_
    refine zs_istore_n2 3 [1, 2, 3, 0] [(0, .ref 35), (1, .int x1), (2, .int 0), (3, .int 0)] d_X_lack_15 rfl (by decide) rfl ?_
    exact h
theorem vS_X_lack_16 (g : Nat → Option Nat) (X : List zShp) (M : zMem) (x1 x2 x3 : Int32) (R : zEnd) (h : ((6 ≤ x3) → (zRT m_X_lack 0 0 54 [(0, .ref 35), (1, .int x1), (2, .int x2), (3, .int 0), (4, .int 0)] [] (SHP g X) M R)) ∧ ((¬ 6 ≤ x3) → ((((hb x1 x3) = false) → (zRT m_X_lack 0 0 16 [(0, .ref 35), (1, .int x1), (2, .int (x2 ||| 0)), (3, .int (x3 + 1))] [] (SHP g X) M R)) ∧ (((hb x1 x3) = true) → ((vp_in x3 6) ∧ (zRT m_X_lack 0 0 16 [(0, .ref 35), (1, .int x1), (2, .int (x2 ||| (M 44 (Int32.toNatClampNeg x3)))), (3, .int (x3 + 1))] [] (SHP g X) M R)))))) : zRT m_X_lack 0 0 16 [(0, .ref 35), (1, .int x1), (2, .int x2), (3, .int x3)] [] (SHP g X) M R := by
  refine zs_iload_n 3 d_X_lack_16 rfl (List.mem_of_getElem? (i := 3) rfl) ?_
  refine zs_bipush 6 d_X_lack_17 (by decide) ?_
  refine zs_icmp_ge 49 d_X_lack_19 (by decide) (fun c1 => ?_) (fun c1 => ?_)
  · replace h := h.1 c1
    refine zs_iconst 0 d_X_lack_49 (by decide) ?_
    refine zs_istore_n2 3 [1, 2, 3, 0] [(0, .ref 35), (1, .int x1), (2, .int x2), (3, .int 0)] d_X_lack_50 rfl (by decide) rfl ?_
    refine zs_iconst 0 d_X_lack_51 (by decide) ?_
    refine zs_istore2 [1, 2, 3, 4, 0] [(0, .ref 35), (1, .int x1), (2, .int x2), (3, .int 0), (4, .int 0)] d_X_lack_52 (by decide) rfl ?_
    exact h
  · replace h := h.2 c1
    refine zs_iload_n 2 d_X_lack_22 rfl (List.mem_of_getElem? (i := 2) rfl) ?_
    refine zs_iload_n 1 d_X_lack_23 rfl (List.mem_of_getElem? (i := 1) rfl) ?_
    refine zs_iload_n 3 d_X_lack_24 rfl (List.mem_of_getElem? (i := 3) rfl) ?_
    refine zs_callS (kc := 0) (ks := 0) (kc1 := 0) (ks1 := 0) (st := [.int x2]) [.int x1, .int x3] d_X_lack_25 lk_X_98 ⟨by decide, by decide⟩ rfl (Nat.le_of_ble_eq_true rfl) (ex_X_has g X M x1 x3) (fun v2 sh2 M2 hR => ?_)
    obtain ⟨rfl, rfl, rfl⟩ := hR
    refine zs_if_eq 40 d_X_lack_28 (by decide) (fun c3 => ?_) (fun c3 => ?_)
    · replace h := h.1 (bI_0 c3)
      refine zs_iconst 0 d_X_lack_40 (by decide) ?_
      refine zs_ior d_X_lack_41 ?_
      refine zs_istore_n2 2 [1, 2, 0, 3] [(0, .ref 35), (1, .int x1), (2, .int (x2 ||| 0)), (3, .int x3)] d_X_lack_42 rfl (by decide) rfl ?_
      refine zs_iinc2 3 (x3 + 1) [1, 2, 3, 0] [(0, .ref 35), (1, .int x1), (2, .int (x2 ||| 0)), (3, .int (x3 + 1))] d_X_lack_43 rfl rfl (by decide) rfl ?_
      refine zs_goto 16 d_X_lack_46 (by decide) ?_
      exact h
    · replace h := h.2 (bI_1 c3)
      refine zs_aload_n 0 d_X_lack_31 rfl (List.mem_of_getElem? (i := 0) rfl) ?_
      refine zs_get d_X_lack_32 gf_X_41 (sh_35 g X) rfl ?_
      refine zs_iload_n 3 d_X_lack_35 rfl (List.mem_of_getElem? (i := 3) rfl) ?_
      obtain ⟨b4, h⟩ := h
      refine zs_iald d_X_lack_36 (sh_44 g X) b4 ?_
      refine zs_goto 41 d_X_lack_37 (by decide) ?_
      refine zs_ior d_X_lack_41 ?_
      refine zs_istore_n2 2 [1, 2, 0, 3] [(0, .ref 35), (1, .int x1), (2, .int (x2 ||| (M 44 (Int32.toNatClampNeg x3)))), (3, .int x3)] d_X_lack_42 rfl (by decide) rfl ?_
      refine zs_iinc2 3 (x3 + 1) [1, 2, 3, 0] [(0, .ref 35), (1, .int x1), (2, .int (x2 ||| (M 44 (Int32.toNatClampNeg x3)))), (3, .int (x3 + 1))] d_X_lack_43 rfl rfl (by decide) rfl ?_
      refine zs_goto 16 d_X_lack_46 (by decide) ?_
      exact h
theorem vS_X_lack_54 (g : Nat → Option Nat) (X : List zShp) (M : zMem) (x1 x2 x3 x4 : Int32) (R : zEnd) (h : (((M 35 6) ≤ x4) → ((((bt6 x1) ≤ x3) → (zRT m_X_lack 0 0 6 [(0, .ref 35), (1, .int (x1 + 1))] [] (SHP g X) M R)) ∧ ((¬ (bt6 x1) ≤ x3) → (R (some (.int x1)) (SHP g X) M)))) ∧ ((¬ (M 35 6) ≤ x4) → ((((hb x2 x4) = false) → (zRT m_X_lack 0 0 54 [(0, .ref 35), (1, .int x1), (2, .int x2), (3, .int (x3 + 0)), (4, .int (x4 + 1))] [] (SHP g X) M R)) ∧ (((hb x2 x4) = true) → ((vp_in x4 10) ∧ (zRT m_X_lack 0 0 54 [(0, .ref 35), (1, .int x1), (2, .int x2), (3, .int (x3 + (M 39 (Int32.toNatClampNeg x4)))), (4, .int (x4 + 1))] [] (SHP g X) M R)))))) : zRT m_X_lack 0 0 54 [(0, .ref 35), (1, .int x1), (2, .int x2), (3, .int x3), (4, .int x4)] [] (SHP g X) M R := by
  refine zs_iload d_X_lack_54 (List.mem_of_getElem? (i := 4) rfl) ?_
  refine zs_aload_n 0 d_X_lack_56 rfl (List.mem_of_getElem? (i := 0) rfl) ?_
  refine zs_get d_X_lack_57 gf_X_70 (sh_35 g X) rfl ?_
  refine zs_icmp_ge 92 d_X_lack_60 (by decide) (fun c1 => ?_) (fun c1 => ?_)
  · replace h := h.1 c1
    refine zs_iload_n 3 d_X_lack_92 rfl (List.mem_of_getElem? (i := 3) rfl) ?_
    refine zs_iload_n 1 d_X_lack_93 rfl (List.mem_of_getElem? (i := 1) rfl) ?_
    refine zs_callS (kc := 0) (ks := 0) (kc1 := 0) (ks1 := 0) (st := [.int x3]) [.int x1] d_X_lack_94 lk_X_109 ⟨by decide, by decide⟩ rfl (Nat.le_of_ble_eq_true rfl) (ex_X_bits g X M x1) (fun v2 sh2 M2 hR => ?_)
    obtain ⟨rfl, rfl, rfl⟩ := hR
    refine zs_icmp_ge 102 d_X_lack_97 (by decide) (fun c3 => ?_) (fun c3 => ?_)
    · replace h := h.1 c3
      refine zs_iinc2 1 (x1 + 1) [1, 0, 2, 3, 4] [(0, .ref 35), (1, .int (x1 + 1)), (2, .int x2), (3, .int x3), (4, .int x4)] d_X_lack_102 rfl rfl (by decide) rfl ?_
      refine zs_goto 6 d_X_lack_105 (by decide) ?_
      exact zRT_sub [0, 1] rfl h
    · replace h := h.2 c3
      refine zs_iload_n 1 d_X_lack_100 rfl (List.mem_of_getElem? (i := 1) rfl) ?_
      exact zs_iret d_X_lack_101 rfl h
  · replace h := h.2 c1
    refine zs_iload_n 3 d_X_lack_63 rfl (List.mem_of_getElem? (i := 3) rfl) ?_
    refine zs_iload_n 2 d_X_lack_64 rfl (List.mem_of_getElem? (i := 2) rfl) ?_
    refine zs_iload d_X_lack_65 (List.mem_of_getElem? (i := 4) rfl) ?_
    refine zs_callS (kc := 0) (ks := 0) (kc1 := 0) (ks1 := 0) (st := [.int x3]) [.int x2, .int x4] d_X_lack_67 lk_X_98 ⟨by decide, by decide⟩ rfl (Nat.le_of_ble_eq_true rfl) (ex_X_has g X M x2 x4) (fun v4 sh4 M4 hR => ?_)
    obtain ⟨rfl, rfl, rfl⟩ := hR
    refine zs_if_eq 83 d_X_lack_70 (by decide) (fun c5 => ?_) (fun c5 => ?_)
    · replace h := h.1 (bI_0 c5)
      refine zs_iconst 0 d_X_lack_83 (by decide) ?_
      refine zs_iadd d_X_lack_84 ?_
      refine zs_istore_n2 3 [1, 2, 3, 0, 4] [(0, .ref 35), (1, .int x1), (2, .int x2), (3, .int (x3 + 0)), (4, .int x4)] d_X_lack_85 rfl (by decide) rfl ?_
      refine zs_iinc2 4 (x4 + 1) [1, 2, 3, 4, 0] [(0, .ref 35), (1, .int x1), (2, .int x2), (3, .int (x3 + 0)), (4, .int (x4 + 1))] d_X_lack_86 rfl rfl (by decide) rfl ?_
      refine zs_goto 54 d_X_lack_89 (by decide) ?_
      exact h
    · replace h := h.2 (bI_1 c5)
      refine zs_aload_n 0 d_X_lack_73 rfl (List.mem_of_getElem? (i := 0) rfl) ?_
      refine zs_get d_X_lack_74 gf_X_26 (sh_35 g X) rfl ?_
      refine zs_iload d_X_lack_77 (List.mem_of_getElem? (i := 4) rfl) ?_
      obtain ⟨b6, h⟩ := h
      refine zs_iald d_X_lack_79 (sh_39 g X) b6 ?_
      refine zs_goto 84 d_X_lack_80 (by decide) ?_
      refine zs_iadd d_X_lack_84 ?_
      refine zs_istore_n2 3 [1, 2, 3, 0, 4] [(0, .ref 35), (1, .int x1), (2, .int x2), (3, .int (x3 + (M 39 (Int32.toNatClampNeg x4)))), (4, .int x4)] d_X_lack_85 rfl (by decide) rfl ?_
      refine zs_iinc2 4 (x4 + 1) [1, 2, 3, 4, 0] [(0, .ref 35), (1, .int x1), (2, .int x2), (3, .int (x3 + (M 39 (Int32.toNatClampNeg x4)))), (4, .int (x4 + 1))] d_X_lack_86 rfl rfl (by decide) rfl ?_
      refine zs_goto 54 d_X_lack_89 (by decide) ?_
      exact h
theorem ex2_X_lack (F : zTS) (Mc : zMem) (hcm : cM F Mc M) (hh : mK M) : zEx m_X_lack 0 0 [.ref 35] (SHP g X) M (qR g X (fun r M2 => mAg M M2 ∧ r = kv_lack Mc)) := by
  obtain ⟨hc, h10⟩ := mCnt_e hh.1
  have en := kMF_tn hcm.2.2
  refine zEx_of _ (by decide) (by simp [Value.category]) (Nat.le_of_ble_eq_true rfl) rfl (vS_X_lack_0 g X M _ ⟨hh, fun M1 ⟨ha, hv0⟩ => ?_⟩)
  have hv := hv0 F Mc hcm
  have L3 : ∀ s, s < 64 → ∀ (K : bc (nI s) ≤ kLf (kLay Mc) (nI s) → zRT m_X_lack 0 0 6 [(0, .ref 35), (1, .int (nI s + 1))] [] (SHP g X) M1 (qR g X (fun r M2 => mAg M M2 ∧ r = kv_lack Mc))) (K2 : ¬ bc (nI s) ≤ kLf (kLay Mc) (nI s) → nI s = kv_lack Mc), ∀ d k a, k + d = mTN M → a = kSm (fun k => if hb (kThs (kLay Mc) (nI s)) (nI k) = true then fL F k else 0) k → zRT m_X_lack 0 0 54 [(0, .ref 35), (1, .int (nI s)), (2, .int (kThs (kLay Mc) (nI s))), (3, .int a), (4, .int (nI k))] [] (SHP g X) M1 (qR g X (fun r M2 => mAg M M2 ∧ r = kv_lack Mc)) := by
    intro s hs K K2 d
    induction d with
    | zero =>
      intro k a hk hav
      have e : a = kLf (kLay Mc) (nI s) := by rw [hav, kLf_n hcm.1 hcm.2.1, ← en, show k = mTN M by omega]
      refine vS_X_lack_54 g X _ _ _ _ _ _ ⟨fun _ => ⟨fun h => K (by rw [← bt6_bc s hs, ← e]; exact h), fun h => qR_i ⟨ha, K2 (by rw [← bt6_bc s hs, ← e]; exact h)⟩⟩, fun h => absurd (by rw [ha.e35, hc]; exact nI_le (by omega) (by omega)) h⟩
    | succ d ih =>
      intro k a hk hav
      refine vS_X_lack_54 g X _ _ _ _ _ _ ⟨fun h => absurd h (by rw [ha.e35, hc]; exact nI_ge (by omega) (by omega)), fun _ => ?_⟩
      rw [nI_1, nI_clamp (by omega)]
      refine ⟨fun h => ih (k + 1) _ (by omega) ?_, fun h => ⟨vp_in_nI (by omega) (by decide), ih (k + 1) _ (by omega) ?_⟩⟩
      · show _ = kSm _ k + _
        rw [← hav]
        exact congrArg (fun z => a + z) (if_neg (by rw [h]; decide)).symm
      · show _ = kSm _ k + _
        rw [← hav, ha.e39, hcm.2.2.2.1 k (by omega)]
        exact congrArg (fun z => a + z) (if_pos h).symm
  have L2 : ∀ s, s < 64 → ∀ (K : bc (nI s) ≤ kLf (kLay Mc) (nI s) → zRT m_X_lack 0 0 6 [(0, .ref 35), (1, .int (nI s + 1))] [] (SHP g X) M1 (qR g X (fun r M2 => mAg M M2 ∧ r = kv_lack Mc))) (K2 : ¬ bc (nI s) ≤ kLf (kLay Mc) (nI s) → nI s = kv_lack Mc), ∀ d k w, k + d = 6 → w = kOr (fun k => if hb (nI s) (nI k) = true then (kLay Mc) 28 k else 0) k → zRT m_X_lack 0 0 16 [(0, .ref 35), (1, .int (nI s)), (2, .int w), (3, .int (nI k))] [] (SHP g X) M1 (qR g X (fun r M2 => mAg M M2 ∧ r = kv_lack Mc)) := by
    intro s hs K K2 d
    induction d with
    | zero =>
      intro k w hk hwv
      have e : w = kThs (kLay Mc) (nI s) := by rw [hwv, show k = 6 by omega]; rfl
      rw [e]
      exact vS_X_lack_16 g X _ _ _ _ _ ⟨fun _ => L3 s hs K K2 (mTN M) 0 _ (by omega) rfl, fun h => absurd (nI_le (a := 6) (by omega) (by omega)) h⟩
    | succ d ih =>
      intro k w hk hwv
      refine vS_X_lack_16 g X _ _ _ _ _ ⟨fun h => absurd h (nI_ge (b := 6) (by omega) (by omega)), fun _ => ?_⟩
      rw [nI_1, nI_clamp (by omega)]
      refine ⟨fun h => ih (k + 1) _ (by omega) ?_, fun h => ⟨vp_in_nI (by omega) (by decide), ih (k + 1) _ (by omega) ?_⟩⟩
      · show _ = kOr _ k ||| _
        rw [← hwv]
        exact congrArg (fun z => w ||| z) (if_neg (by rw [h]; decide)).symm
      · show _ = kOr _ k ||| _
        rw [← hwv, hv k (by omega), ← kLay_28 (by omega)]
        exact congrArg (fun z => w ||| z) (if_pos h).symm
  have L1 : ∀ d k, k + d = 64 → kv_lack Mc = kLsn (kLay Mc) k d → zRT m_X_lack 0 0 6 [(0, .ref 35), (1, .int (nI k))] [] (SHP g X) M1 (qR g X (fun r M2 => mAg M M2 ∧ r = kv_lack Mc)) := by
    intro d
    induction d with
    | zero =>
      intro k hk hl
      exact vS_X_lack_6 g X _ _ _ ⟨fun _ => qR_i ⟨ha, hl.symm⟩, fun h => absurd (nI_le (a := 64) (by omega) (by omega)) h⟩
    | succ d ih =>
      intro k hk hl
      have hl2 : kv_lack Mc = if bc (nI k) ≤ kLf (kLay Mc) (nI k) then kLsn (kLay Mc) (k + 1) d else nI k := hl
      refine vS_X_lack_6 g X _ _ _ ⟨fun h => absurd h (nI_ge (b := 64) (by omega) (by omega)), fun _ => ?_⟩
      refine L2 k (by omega) (fun h => ?_) (fun h => ?_) 6 0 _ rfl rfl
      · rw [nI_1]
        exact ih (k + 1) (by omega) (by rw [hl2, if_pos h])
      · rw [hl2, if_neg h]
  exact L1 63 1 rfl rfl
end zS2
/-! days by draws -/
section zS3
variable {F : zTS} {Mc M : zMem}
/-- the class's sheets and the reference's, day by day -/
def dJ (F : zTS) (Mc Mk M1 : zMem) : Prop := (∀ j, j < 6 → Mk 28 j = kLwf Mc (nI j)) ∧ (∀ j, j < 6 → M1 44 j = kLwf Mc (nI j)) ∧ ∀ k, k < tN F → Mk 29 k = M1 47 k
/-- the least thing that he may have and that is left, from k on -/
def dF (Mk : zMem) (m : Nat) : Nat → Nat → Int32
  | _, 0 => -6
  | k, n + 1 => if hb (Mk 28 m) (nI k) = true ∧ ¬ Mk 29 k ≤ 0 then nI k else dF Mk m (k + 1) n
theorem kEatn_dF (Mk : zMem) {m : Nat} (hm : m < 6) : ∀ n k, k + n ≤ 10 → kEatn Mk (nI m) k n = if dF Mk m k n = -6 then (false, Mk) else (true, zms Mk 29 (Int32.toNatClampNeg (dF Mk m k n)) (Mk 29 (Int32.toNatClampNeg (dF Mk m k n)) - 1)) := by
  intro n
  induction n with
  | zero => intro k _; exact (if_pos rfl).symm
  | succ n ih =>
    intro k hk
    unfold kEatn dF
    rw [nI_clamp (by omega)]
    by_cases c : hb (Mk 28 m) (nI k) = true ∧ ¬ Mk 29 k ≤ 0
    · rw [if_pos c, if_pos c, if_neg (nI_ne6 (by omega)), nI_clamp (by omega)]
    · rw [if_neg c, if_neg c]
      exact ih (k + 1) (by omega)
/-- the things behind the book's last are nobody's -/
theorem dF_up (hw : kWF F) (ht : kTR Mc 10 F) {Mk M1 : zMem} (hj : dJ F Mc Mk M1) {m : Nat} (hm : m < 6) : ∀ d k n, k + n = tN F → dF Mk m k (n + d) = dF Mk m k n ∨ 10 < tN F + d := by
  intro d k n
  induction n generalizing k with
  | zero =>
    intro hk
    by_cases h10 : 10 < tN F + d
    · exact Or.inr h10
    · refine Or.inl ?_
      show dF Mk m k (0 + d) = -6
      rw [Nat.zero_add]
      have : ∀ d k, tN F ≤ k → k + d ≤ 10 → dF Mk m k d = -6 := by
        intro d
        induction d with
        | zero => intro k _ _; rfl
        | succ d ih =>
          intro k h1 h2
          unfold dF
          rw [if_neg (fun q => ?_)]
          · exact ih (k + 1) (by omega) (by omega)
          · rw [hj.1 m hm, hb_bt (by omega)] at q
            have := kLwf_bt hw ht q.1
            omega
      exact this d k (by omega) (by omega)
  | succ n ih =>
    intro hk
    rcases ih (k + 1) (by omega) with h | h
    · refine Or.inl ?_
      rw [show n + 1 + d = (n + d) + 1 by omega]
      show (if hb (Mk 28 m) (nI k) = true ∧ ¬ Mk 29 k ≤ 0 then nI k else dF Mk m (k + 1) (n + d)) = if hb (Mk 28 m) (nI k) = true ∧ ¬ Mk 29 k ≤ 0 then nI k else dF Mk m (k + 1) n
      rw [h]
    · exact Or.inr h
theorem dF_in {Mk : zMem} {m : Nat} : ∀ n k, dF Mk m k n = -6 ∨ ∃ j, k ≤ j ∧ j < k + n ∧ dF Mk m k n = nI j
  | 0, k => Or.inl rfl
  | n + 1, k => by
    unfold dF
    by_cases c : hb (Mk 28 m) (nI k) = true ∧ ¬ Mk 29 k ≤ 0
    · rw [if_pos c]; exact Or.inr ⟨k, by omega, by omega, rfl⟩
    · rw [if_neg c]
      rcases dF_in n (k + 1) with h | ⟨j, h1, h2, h3⟩
      · exact Or.inl h
      · exact Or.inr ⟨j, by omega, by omega, h3⟩
end zS3
section zS4
variable (g : Nat → Option Nat) (X : List zShp) (M : zMem)
theorem vS_X_days_0 (g : Nat → Option Nat) (X : List zShp) (M : zMem) (x1 x2 x3 : Int32) (R : zEnd) (h : ((x3 = (-1)) → ((((inI x1 0 9999) = false) → (R (some (.int (-2))) (SHP g X) M)) ∧ (((inI x1 0 9999) = true) → ((((inI x2 1 99) = true) → ((mK M) ∧ (∀ (M6 : zMem), (mAg M M6 ∧ (∀ F Mc, cM F Mc M → ∀ j, j < 6 → M6 44 j = kLwf Mc (nI j))) → (zRT m_X_days 0 0 46 [(0, .ref 35), (1, .int x1), (2, .int x2), (3, .int x3), (4, .int 0)] [] (SHP g X) M6 R)))) ∧ (((inI x2 1 99) = false) → (R (some (.int (-2))) (SHP g X) M)))))) ∧ ((¬ x3 = (-1)) → ((((inI x3 0 (M 35 6 - 1)) = true) → ((((inI x1 0 9999) = false) → (R (some (.int (-2))) (SHP g X) M)) ∧ (((inI x1 0 9999) = true) → ((((inI x2 1 99) = true) → ((mK M) ∧ (∀ (M13 : zMem), (mAg M M13 ∧ (∀ F Mc, cM F Mc M → ∀ j, j < 6 → M13 44 j = kLwf Mc (nI j))) → (zRT m_X_days 0 0 46 [(0, .ref 35), (1, .int x1), (2, .int x2), (3, .int x3), (4, .int 0)] [] (SHP g X) M13 R)))) ∧ (((inI x2 1 99) = false) → (R (some (.int (-2))) (SHP g X) M)))))) ∧ (((inI x3 0 (M 35 6 - 1)) = false) → (R (some (.int (-1))) (SHP g X) M))))) : zRT m_X_days 0 0 0 [(0, .ref 35), (1, .int x1), (2, .int x2), (3, .int x3)] [] (SHP g X) M R := by
  refine zs_iload_n 3 d_X_days_0 rfl (List.mem_of_getElem? (i := 3) rfl) ?_
  refine zs_iconst (-1) d_X_days_1 (by decide) ?_
  refine zs_icmp_eq 15 d_X_days_2 (by decide) (fun c1 => ?_) (fun c1 => ?_)
  · replace h := h.1 c1
    refine zs_iload_n 1 d_X_days_15 rfl (List.mem_of_getElem? (i := 1) rfl) ?_
    refine zs_iconst 0 d_X_days_16 (by decide) ?_
    refine zs_sipush 9999 d_X_days_17 (by decide) ?_
    refine zs_callS (kc := 0) (ks := 0) (kc1 := 0) (ks1 := 0) (st := []) [.int x1, .int 0, .int 9999] d_X_days_20 lk_X_66 ⟨by decide, by decide⟩ rfl (Nat.le_of_ble_eq_true rfl) (ex_X_in g X M x1 0 9999) (fun v2 sh2 M2 hR => ?_)
    obtain ⟨rfl, rfl, rfl⟩ := hR
    refine zs_if_eq 36 d_X_days_23 (by decide) (fun c3 => ?_) (fun c3 => ?_)
    · replace h := h.1 (bI_0 c3)
      refine zs_bipush (-2) d_X_days_36 (by decide) ?_
      exact zs_iret d_X_days_38 rfl h
    · replace h := h.2 (bI_1 c3)
      refine zs_iload_n 2 d_X_days_26 rfl (List.mem_of_getElem? (i := 2) rfl) ?_
      refine zs_iconst 1 d_X_days_27 (by decide) ?_
      refine zs_bipush 99 d_X_days_28 (by decide) ?_
      refine zs_callS (kc := 0) (ks := 0) (kc1 := 0) (ks1 := 0) (st := []) [.int x2, .int 1, .int 99] d_X_days_30 lk_X_66 ⟨by decide, by decide⟩ rfl (Nat.le_of_ble_eq_true rfl) (ex_X_in g X M x2 1 99) (fun v4 sh4 M4 hR => ?_)
      obtain ⟨rfl, rfl, rfl⟩ := hR
      refine zs_if_ne 39 d_X_days_33 (by decide) (fun c5 => ?_) (fun c5 => ?_)
      · replace h := h.1 (bI_1 c5)
        refine zs_aload_n 0 d_X_days_39 rfl (List.mem_of_getElem? (i := 0) rfl) ?_
        obtain ⟨p6, h⟩ := h
        refine zs_callV (kc := 0) (ks := 0) (kc1 := 0) (ks1 := 0) (st := []) [] d_X_days_40 lk_X_147 ⟨by decide, by decide⟩ rfl (sh_35 g X) rfl (Nat.le_of_ble_eq_true rfl) (ex2_X_layMays g X M p6) (fun v6 sh6 M6 hR => ?_)
        obtain ⟨rfl, rfl, hq6⟩ := hR
        replace h := h M6 hq6
        refine zs_iconst 0 d_X_days_43 (by decide) ?_
        refine zs_istore2 [1, 2, 3, 4, 0] [(0, .ref 35), (1, .int x1), (2, .int x2), (3, .int x3), (4, .int 0)] d_X_days_44 (by decide) rfl ?_
        exact h
      · replace h := h.2 (bI_0 c5)
        refine zs_bipush (-2) d_X_days_36 (by decide) ?_
        exact zs_iret d_X_days_38 rfl h
  · replace h := h.2 c1
    refine zs_aload_n 0 d_X_days_5 rfl (List.mem_of_getElem? (i := 0) rfl) ?_
    refine zs_iload_n 3 d_X_days_6 rfl (List.mem_of_getElem? (i := 3) rfl) ?_
    refine zs_callV (kc := 0) (ks := 0) (kc1 := 0) (ks1 := 0) (st := []) [.int x3] d_X_days_7 lk_X_83 ⟨by decide, by decide⟩ rfl (sh_35 g X) rfl (Nat.le_of_ble_eq_true rfl) (ex_X_isThing g X M x3) (fun v7 sh7 M7 hR => ?_)
    obtain ⟨rfl, rfl, rfl⟩ := hR
    refine zs_if_ne 15 d_X_days_10 (by decide) (fun c8 => ?_) (fun c8 => ?_)
    · replace h := h.1 (bI_1 c8)
      refine zs_iload_n 1 d_X_days_15 rfl (List.mem_of_getElem? (i := 1) rfl) ?_
      refine zs_iconst 0 d_X_days_16 (by decide) ?_
      refine zs_sipush 9999 d_X_days_17 (by decide) ?_
      refine zs_callS (kc := 0) (ks := 0) (kc1 := 0) (ks1 := 0) (st := []) [.int x1, .int 0, .int 9999] d_X_days_20 lk_X_66 ⟨by decide, by decide⟩ rfl (Nat.le_of_ble_eq_true rfl) (ex_X_in g X M x1 0 9999) (fun v9 sh9 M9 hR => ?_)
      obtain ⟨rfl, rfl, rfl⟩ := hR
      refine zs_if_eq 36 d_X_days_23 (by decide) (fun c10 => ?_) (fun c10 => ?_)
      · replace h := h.1 (bI_0 c10)
        refine zs_bipush (-2) d_X_days_36 (by decide) ?_
        exact zs_iret d_X_days_38 rfl h
      · replace h := h.2 (bI_1 c10)
        refine zs_iload_n 2 d_X_days_26 rfl (List.mem_of_getElem? (i := 2) rfl) ?_
        refine zs_iconst 1 d_X_days_27 (by decide) ?_
        refine zs_bipush 99 d_X_days_28 (by decide) ?_
        refine zs_callS (kc := 0) (ks := 0) (kc1 := 0) (ks1 := 0) (st := []) [.int x2, .int 1, .int 99] d_X_days_30 lk_X_66 ⟨by decide, by decide⟩ rfl (Nat.le_of_ble_eq_true rfl) (ex_X_in g X M x2 1 99) (fun v11 sh11 M11 hR => ?_)
        obtain ⟨rfl, rfl, rfl⟩ := hR
        refine zs_if_ne 39 d_X_days_33 (by decide) (fun c12 => ?_) (fun c12 => ?_)
        · replace h := h.1 (bI_1 c12)
          refine zs_aload_n 0 d_X_days_39 rfl (List.mem_of_getElem? (i := 0) rfl) ?_
          obtain ⟨p13, h⟩ := h
          refine zs_callV (kc := 0) (ks := 0) (kc1 := 0) (ks1 := 0) (st := []) [] d_X_days_40 lk_X_147 ⟨by decide, by decide⟩ rfl (sh_35 g X) rfl (Nat.le_of_ble_eq_true rfl) (ex2_X_layMays g X M p13) (fun v13 sh13 M13 hR => ?_)
          obtain ⟨rfl, rfl, hq13⟩ := hR
          replace h := h M13 hq13
          refine zs_iconst 0 d_X_days_43 (by decide) ?_
          refine zs_istore2 [1, 2, 3, 4, 0] [(0, .ref 35), (1, .int x1), (2, .int x2), (3, .int x3), (4, .int 0)] d_X_days_44 (by decide) rfl ?_
          exact h
        · replace h := h.2 (bI_0 c12)
          refine zs_bipush (-2) d_X_days_36 (by decide) ?_
          exact zs_iret d_X_days_38 rfl h
    · replace h := h.2 (bI_0 c8)
      refine zs_iconst (-1) d_X_days_13 (by decide) ?_
      exact zs_iret d_X_days_14 rfl h
theorem vS_X_days_46 (g : Nat → Option Nat) (X : List zShp) (M : zMem) (x1 x2 x3 x4 : Int32) (R : zEnd) (h : (((M 35 6) ≤ x4) → (zRT m_X_days 0 0 84 [(0, .ref 35), (2, .int x2), (3, .int x3), (4, .int x1), (5, .int 0), (6, .int 0)] [] (SHP g X) M R)) ∧ ((¬ (M 35 6) ≤ x4) → ((vp_in x4 10) ∧ (zRT m_X_days 0 0 46 [(0, .ref 35), (1, .int x1), (2, .int x2), (3, .int x3), (4, .int (x4 + 1))] [] (SHP g X) (zms M 47 (Int32.toNatClampNeg x4) (M 39 (Int32.toNatClampNeg x4))) R)))) : zRT m_X_days 0 0 46 [(0, .ref 35), (1, .int x1), (2, .int x2), (3, .int x3), (4, .int x4)] [] (SHP g X) M R := by
  refine zs_iload d_X_days_46 (List.mem_of_getElem? (i := 4) rfl) ?_
  refine zs_aload_n 0 d_X_days_48 rfl (List.mem_of_getElem? (i := 0) rfl) ?_
  refine zs_get d_X_days_49 gf_X_70 (sh_35 g X) rfl ?_
  refine zs_icmp_ge 75 d_X_days_52 (by decide) (fun c1 => ?_) (fun c1 => ?_)
  · replace h := h.1 c1
    refine zs_iload_n 1 d_X_days_75 rfl (List.mem_of_getElem? (i := 1) rfl) ?_
    refine zs_istore2 [1, 2, 3, 4, 0] [(0, .ref 35), (1, .int x1), (2, .int x2), (3, .int x3), (4, .int x1)] d_X_days_76 (by decide) rfl ?_
    refine zs_iconst 0 d_X_days_78 (by decide) ?_
    refine zs_istore2 [1, 2, 3, 4, 5, 0] [(0, .ref 35), (1, .int x1), (2, .int x2), (3, .int x3), (4, .int x1), (5, .int 0)] d_X_days_79 (by decide) rfl ?_
    refine zs_iconst 0 d_X_days_81 (by decide) ?_
    refine zs_istore2 [1, 2, 3, 4, 5, 6, 0] [(0, .ref 35), (1, .int x1), (2, .int x2), (3, .int x3), (4, .int x1), (5, .int 0), (6, .int 0)] d_X_days_82 (by decide) rfl ?_
    exact zRT_sub [0, 2, 3, 4, 5, 6] rfl h
  · replace h := h.2 c1
    refine zs_aload_n 0 d_X_days_55 rfl (List.mem_of_getElem? (i := 0) rfl) ?_
    refine zs_get d_X_days_56 gf_X_50 (sh_35 g X) rfl ?_
    refine zs_iload d_X_days_59 (List.mem_of_getElem? (i := 4) rfl) ?_
    refine zs_aload_n 0 d_X_days_61 rfl (List.mem_of_getElem? (i := 0) rfl) ?_
    refine zs_get d_X_days_62 gf_X_26 (sh_35 g X) rfl ?_
    refine zs_iload d_X_days_65 (List.mem_of_getElem? (i := 4) rfl) ?_
    obtain ⟨b2, h⟩ := h
    refine zs_iald d_X_days_67 (sh_39 g X) b2 ?_
    refine zs_iast d_X_days_68 (sh_47 g X) b2 ?_
    refine zs_iinc2 4 (x4 + 1) [1, 2, 3, 4, 0] [(0, .ref 35), (1, .int x1), (2, .int x2), (3, .int x3), (4, .int (x4 + 1))] d_X_days_69 rfl rfl (by decide) rfl ?_
    refine zs_goto 46 d_X_days_72 (by decide) ?_
    exact h
theorem vS_X_days_84 (g : Nat → Option Nat) (X : List zShp) (M : zMem) (x2 x3 x4 x5 x6 : Int32) (R : zEnd) (h : ((x2 ≤ x6) → (((¬ x3 = (-1)) → ((vp_in x3 10) ∧ (R (some (.int (M 47 (Int32.toNatClampNeg x3)))) (SHP g X) M))) ∧ ((x3 = (-1)) → (R (some (.int x5)) (SHP g X) M)))) ∧ ((¬ x2 ≤ x6) → (zRT m_X_days 0 0 122 [(0, .ref 35), (2, .int x2), (3, .int x3), (4, .int ((((75 : Int32) * x4) + 74) - (((75 : Int32) * x4) + 74) / 65537 * 65537)), (5, .int x5), (6, .int x6), (7, .int (((((75 : Int32) * x4) + 74) - (((75 : Int32) * x4) + 74) / 65537 * 65537) - ((((75 : Int32) * x4) + 74) - (((75 : Int32) * x4) + 74) / 65537 * 65537) / 6 * 6)), (8, .int (-6)), (9, .int ((M 35 6) - 1))] [] (SHP g X) M R))) : zRT m_X_days 0 0 84 [(0, .ref 35), (2, .int x2), (3, .int x3), (4, .int x4), (5, .int x5), (6, .int x6)] [] (SHP g X) M R := by
  refine zs_iload d_X_days_84 (List.mem_of_getElem? (i := 5) rfl) ?_
  refine zs_iload_n 2 d_X_days_86 rfl (List.mem_of_getElem? (i := 1) rfl) ?_
  refine zs_icmp_ge 192 d_X_days_87 (by decide) (fun c1 => ?_) (fun c1 => ?_)
  · replace h := h.1 c1
    refine zs_iload_n 3 d_X_days_192 rfl (List.mem_of_getElem? (i := 2) rfl) ?_
    refine zs_iconst (-1) d_X_days_193 (by decide) ?_
    refine zs_icmp_ne 202 d_X_days_194 (by decide) (fun c2 => ?_) (fun c2 => ?_)
    · replace h := h.1 c2
      refine zs_aload_n 0 d_X_days_202 rfl (List.mem_of_getElem? (i := 0) rfl) ?_
      refine zs_get d_X_days_203 gf_X_50 (sh_35 g X) rfl ?_
      refine zs_iload_n 3 d_X_days_206 rfl (List.mem_of_getElem? (i := 2) rfl) ?_
      obtain ⟨b3, h⟩ := h
      refine zs_iald d_X_days_207 (sh_47 g X) b3 ?_
      exact zs_iret d_X_days_208 rfl h
    · replace h := h.2 c2
      refine zs_iload d_X_days_197 (List.mem_of_getElem? (i := 4) rfl) ?_
      refine zs_goto 208 d_X_days_199 (by decide) ?_
      exact zs_iret d_X_days_208 rfl h
  · replace h := h.2 c1
    refine zs_bipush 75 d_X_days_90 (by decide) ?_
    refine zs_iload d_X_days_92 (List.mem_of_getElem? (i := 3) rfl) ?_
    refine zs_imul d_X_days_94 ?_
    refine zs_bipush 74 d_X_days_95 (by decide) ?_
    refine zs_iadd d_X_days_97 ?_
    refine zs_ldc (v := 65537) d_X_days_98 (by decide +kernel) ?_
    refine zs_irem d_X_days_100 (by decide) ?_
    refine zs_istore2 [1, 2, 3, 0, 4, 5] [(0, .ref 35), (2, .int x2), (3, .int x3), (4, .int ((((75 : Int32) * x4) + 74) - (((75 : Int32) * x4) + 74) / 65537 * 65537)), (5, .int x5), (6, .int x6)] d_X_days_101 (by decide) rfl ?_
    refine zs_iload d_X_days_103 (List.mem_of_getElem? (i := 3) rfl) ?_
    refine zs_bipush 6 d_X_days_105 (by decide) ?_
    refine zs_irem d_X_days_107 (by decide) ?_
    refine zs_istore2 [1, 2, 3, 4, 5, 6, 0] [(0, .ref 35), (2, .int x2), (3, .int x3), (4, .int ((((75 : Int32) * x4) + 74) - (((75 : Int32) * x4) + 74) / 65537 * 65537)), (5, .int x5), (6, .int x6), (7, .int (((((75 : Int32) * x4) + 74) - (((75 : Int32) * x4) + 74) / 65537 * 65537) - ((((75 : Int32) * x4) + 74) - (((75 : Int32) * x4) + 74) / 65537 * 65537) / 6 * 6))] d_X_days_108 (by decide) rfl ?_
    refine zs_bipush (-6) d_X_days_110 (by decide) ?_
    refine zs_istore2 [1, 2, 3, 4, 5, 6, 7, 0] [(0, .ref 35), (2, .int x2), (3, .int x3), (4, .int ((((75 : Int32) * x4) + 74) - (((75 : Int32) * x4) + 74) / 65537 * 65537)), (5, .int x5), (6, .int x6), (7, .int (((((75 : Int32) * x4) + 74) - (((75 : Int32) * x4) + 74) / 65537 * 65537) - ((((75 : Int32) * x4) + 74) - (((75 : Int32) * x4) + 74) / 65537 * 65537) / 6 * 6)), (8, .int (-6))] d_X_days_112 (by decide) rfl ?_
    refine zs_aload_n 0 d_X_days_114 rfl (List.mem_of_getElem? (i := 0) rfl) ?_
    refine zs_get d_X_days_115 gf_X_70 (sh_35 g X) rfl ?_
    refine zs_iconst 1 d_X_days_118 (by decide) ?_
    refine zs_isub d_X_days_119 ?_
    refine zs_istore2 [1, 2, 3, 4, 5, 6, 7, 8, 0] [(0, .ref 35), (2, .int x2), (3, .int x3), (4, .int ((((75 : Int32) * x4) + 74) - (((75 : Int32) * x4) + 74) / 65537 * 65537)), (5, .int x5), (6, .int x6), (7, .int (((((75 : Int32) * x4) + 74) - (((75 : Int32) * x4) + 74) / 65537 * 65537) - ((((75 : Int32) * x4) + 74) - (((75 : Int32) * x4) + 74) / 65537 * 65537) / 6 * 6)), (8, .int (-6)), (9, .int ((M 35 6) - 1))] d_X_days_120 (by decide) rfl ?_
    exact h
theorem vS_X_days_122 (g : Nat → Option Nat) (X : List zShp) (M : zMem) (x2 x3 x4 x5 x6 x7 x8 x9 : Int32) (R : zEnd) (h : ((x9 < 0) → (((x8 < 0) → (zRT m_X_days 0 0 84 [(0, .ref 35), (2, .int x2), (3, .int x3), (4, .int x4), (5, .int x5), (6, .int (x6 + 1))] [] (SHP g X) M R)) ∧ ((¬ x8 < 0) → ((vp_in x8 10) ∧ (zRT m_X_days 0 0 84 [(0, .ref 35), (2, .int x2), (3, .int x3), (4, .int x4), (5, .int (x5 + 1)), (6, .int (x6 + 1))] [] (SHP g X) (zms M 47 (Int32.toNatClampNeg x8) ((M 47 (Int32.toNatClampNeg x8)) - 1)) R))))) ∧ ((¬ x9 < 0) → ((vp_in x7 6) ∧ ((((hb (M 44 (Int32.toNatClampNeg x7)) x9) = false) → (zRT m_X_days 0 0 122 [(0, .ref 35), (2, .int x2), (3, .int x3), (4, .int x4), (5, .int x5), (6, .int x6), (7, .int x7), (8, .int x8), (9, .int (x9 + (-1)))] [] (SHP g X) M R)) ∧ (((hb (M 44 (Int32.toNatClampNeg x7)) x9) = true) → ((vp_in x9 10) ∧ ((((M 47 (Int32.toNatClampNeg x9)) ≤ 0) → (zRT m_X_days 0 0 122 [(0, .ref 35), (2, .int x2), (3, .int x3), (4, .int x4), (5, .int x5), (6, .int x6), (7, .int x7), (8, .int x8), (9, .int (x9 + (-1)))] [] (SHP g X) M R)) ∧ ((¬ (M 47 (Int32.toNatClampNeg x9)) ≤ 0) → (zRT m_X_days 0 0 122 [(0, .ref 35), (2, .int x2), (3, .int x3), (4, .int x4), (5, .int x5), (6, .int x6), (7, .int x7), (8, .int x9), (9, .int (x9 + (-1)))] [] (SHP g X) M R))))))))) : zRT m_X_days 0 0 122 [(0, .ref 35), (2, .int x2), (3, .int x3), (4, .int x4), (5, .int x5), (6, .int x6), (7, .int x7), (8, .int x8), (9, .int x9)] [] (SHP g X) M R := by
  refine zs_iload d_X_days_122 (List.mem_of_getElem? (i := 8) rfl) ?_
  refine zs_if_lt 167 d_X_days_124 (by decide) (fun c1 => ?_) (fun c1 => ?_)
  · replace h := h.1 c1
    refine zs_iload d_X_days_167 (List.mem_of_getElem? (i := 7) rfl) ?_
    refine zs_if_lt 186 d_X_days_169 (by decide) (fun c2 => ?_) (fun c2 => ?_)
    · replace h := h.1 c2
      refine zs_iinc2 5 (x6 + 1) [1, 2, 3, 4, 5, 0, 6, 7, 8] [(0, .ref 35), (2, .int x2), (3, .int x3), (4, .int x4), (5, .int x5), (6, .int (x6 + 1)), (7, .int x7), (8, .int x8), (9, .int x9)] d_X_days_186 rfl rfl (by decide) rfl ?_
      refine zs_goto 84 d_X_days_189 (by decide) ?_
      exact zRT_sub [0, 1, 2, 3, 4, 5] rfl h
    · replace h := h.2 c2
      refine zs_aload_n 0 d_X_days_172 rfl (List.mem_of_getElem? (i := 0) rfl) ?_
      refine zs_get d_X_days_173 gf_X_50 (sh_35 g X) rfl ?_
      refine zs_iload d_X_days_176 (List.mem_of_getElem? (i := 7) rfl) ?_
      refine zs_dup2 d_X_days_178 rfl rfl ?_
      obtain ⟨b3, h⟩ := h
      refine zs_iald d_X_days_179 (sh_47 g X) b3 ?_
      refine zs_iconst 1 d_X_days_180 (by decide) ?_
      refine zs_isub d_X_days_181 ?_
      refine zs_iast d_X_days_182 (sh_47 g X) b3 ?_
      refine zs_iinc2 4 (x5 + 1) [1, 2, 3, 4, 0, 5, 6, 7, 8] [(0, .ref 35), (2, .int x2), (3, .int x3), (4, .int x4), (5, .int (x5 + 1)), (6, .int x6), (7, .int x7), (8, .int x8), (9, .int x9)] d_X_days_183 rfl rfl (by decide) rfl ?_
      refine zs_iinc2 5 (x6 + 1) [1, 2, 3, 4, 5, 0, 6, 7, 8] [(0, .ref 35), (2, .int x2), (3, .int x3), (4, .int x4), (5, .int (x5 + 1)), (6, .int (x6 + 1)), (7, .int x7), (8, .int x8), (9, .int x9)] d_X_days_186 rfl rfl (by decide) rfl ?_
      refine zs_goto 84 d_X_days_189 (by decide) ?_
      exact zRT_sub [0, 1, 2, 3, 4, 5] rfl h
  · replace h := h.2 c1
    refine zs_aload_n 0 d_X_days_127 rfl (List.mem_of_getElem? (i := 0) rfl) ?_
    refine zs_get d_X_days_128 gf_X_41 (sh_35 g X) rfl ?_
    refine zs_iload d_X_days_131 (List.mem_of_getElem? (i := 6) rfl) ?_
    obtain ⟨b4, h⟩ := h
    refine zs_iald d_X_days_133 (sh_44 g X) b4 ?_
    refine zs_iload d_X_days_134 (List.mem_of_getElem? (i := 8) rfl) ?_
    refine zs_callS (kc := 0) (ks := 0) (kc1 := 0) (ks1 := 0) (st := []) [.int (M 44 (Int32.toNatClampNeg x7)), .int x9] d_X_days_136 lk_X_98 ⟨by decide, by decide⟩ rfl (Nat.le_of_ble_eq_true rfl) (ex_X_has g X M (M 44 (Int32.toNatClampNeg x7)) x9) (fun v5 sh5 M5 hR => ?_)
    obtain ⟨rfl, rfl, rfl⟩ := hR
    refine zs_if_eq 157 d_X_days_139 (by decide) (fun c6 => ?_) (fun c6 => ?_)
    · replace h := h.1 (bI_0 c6)
      refine zs_iload d_X_days_157 (List.mem_of_getElem? (i := 7) rfl) ?_
      refine zs_istore2 [1, 2, 3, 4, 5, 6, 7, 0, 8] [(0, .ref 35), (2, .int x2), (3, .int x3), (4, .int x4), (5, .int x5), (6, .int x6), (7, .int x7), (8, .int x8), (9, .int x9)] d_X_days_159 (by decide) rfl ?_
      refine zs_iinc2 8 (x9 + (-1)) [1, 2, 3, 4, 5, 6, 7, 8, 0] [(0, .ref 35), (2, .int x2), (3, .int x3), (4, .int x4), (5, .int x5), (6, .int x6), (7, .int x7), (8, .int x8), (9, .int (x9 + (-1)))] d_X_days_161 rfl rfl (by decide) rfl ?_
      refine zs_goto 122 d_X_days_164 (by decide) ?_
      exact h
    · replace h := h.2 (bI_1 c6)
      refine zs_aload_n 0 d_X_days_142 rfl (List.mem_of_getElem? (i := 0) rfl) ?_
      refine zs_get d_X_days_143 gf_X_50 (sh_35 g X) rfl ?_
      refine zs_iload d_X_days_146 (List.mem_of_getElem? (i := 8) rfl) ?_
      obtain ⟨b7, h⟩ := h
      refine zs_iald d_X_days_148 (sh_47 g X) b7 ?_
      refine zs_if_le 157 d_X_days_149 (by decide) (fun c8 => ?_) (fun c8 => ?_)
      · replace h := h.1 c8
        refine zs_iload d_X_days_157 (List.mem_of_getElem? (i := 7) rfl) ?_
        refine zs_istore2 [1, 2, 3, 4, 5, 6, 7, 0, 8] [(0, .ref 35), (2, .int x2), (3, .int x3), (4, .int x4), (5, .int x5), (6, .int x6), (7, .int x7), (8, .int x8), (9, .int x9)] d_X_days_159 (by decide) rfl ?_
        refine zs_iinc2 8 (x9 + (-1)) [1, 2, 3, 4, 5, 6, 7, 8, 0] [(0, .ref 35), (2, .int x2), (3, .int x3), (4, .int x4), (5, .int x5), (6, .int x6), (7, .int x7), (8, .int x8), (9, .int (x9 + (-1)))] d_X_days_161 rfl rfl (by decide) rfl ?_
        refine zs_goto 122 d_X_days_164 (by decide) ?_
        exact h
      · replace h := h.2 c8
        refine zs_iload d_X_days_152 (List.mem_of_getElem? (i := 8) rfl) ?_
        refine zs_goto 159 d_X_days_154 (by decide) ?_
        refine zs_istore2 [1, 2, 3, 4, 5, 6, 7, 0, 8] [(0, .ref 35), (2, .int x2), (3, .int x3), (4, .int x4), (5, .int x5), (6, .int x6), (7, .int x7), (8, .int x9), (9, .int x9)] d_X_days_159 (by decide) rfl ?_
        refine zs_iinc2 8 (x9 + (-1)) [1, 2, 3, 4, 5, 6, 7, 8, 0] [(0, .ref 35), (2, .int x2), (3, .int x3), (4, .int x4), (5, .int x5), (6, .int x6), (7, .int x7), (8, .int x9), (9, .int (x9 + (-1)))] d_X_days_161 rfl rfl (by decide) rfl ?_
        refine zs_goto 122 d_X_days_164 (by decide) ?_
        exact h
set_option maxHeartbeats 4000000 in
theorem ex2_X_days (F : zTS) (Mc : zMem) (hcm : cM F Mc M) (hh : mK M) (s n t : Int32) : zEx m_X_days 0 0 [.ref 35, .int s, .int n, .int t] (SHP g X) M (qR g X (fun r M2 => mAg M M2 ∧ r = kv_days Mc s n t)) := by
  obtain ⟨hc, h10⟩ := mCnt_e hh.1
  have en := kMF_tn hcm.2.2
  have hT : ∀ t, inI t 0 (M 35 6 - 1) = kIsT (Mc 11 5) t := fun t => by
    rw [hcm.2.2.2.2.2.2.1, kIsT_F hcm.1, show Mc 11 5 = fT F from hcm.2.1.1]
  have go : inI s 0 9999 = true → inI n 1 99 = true → (t = -1 ∨ kIsT (Mc 11 5) t = true) → ∀ M6, (mAg M M6 ∧ (∀ F Mc, cM F Mc M → ∀ j, j < 6 → M6 44 j = kLwf Mc (nI j))) → zRT m_X_days 0 0 46 [(0, .ref 35), (1, .int s), (2, .int n), (3, .int t), (4, .int 0)] [] (SHP g X) M6 (qR g X (fun r M2 => mAg M M2 ∧ r = kv_days Mc s n t)) := by
    intro hs hn ht M6 h6
    obtain ⟨ss, hs9, rfl⟩ := inI_nI (b := 9999) (by decide) hs
    have hn0 : inI n 0 99 = true := by
      obtain ⟨a1, a2⟩ := inI_t hn
      exact inI_i (fun q => a1 (by rw [Int32.lt_iff_toInt_lt] at q ⊢; have e0 : (0 : Int32).toInt = 0 := rfl; have e1 : (1 : Int32).toInt = 1 := rfl; omega)) a2
    obtain ⟨nn, hn9, rfl⟩ := inI_nI (b := 99) (by decide) hn0
    have hv := h6.2 F Mc hcm
    have eV : kv_days Mc (nI ss) (nI nn) t = if t = -1 then (kLive (kLay Mc) (nI ss) (nI nn)).1 else (kLive (kLay Mc) (nI ss) (nI nn)).2 29 (Int32.toNatClampNeg t) := by
      have e2 : kv_days2 Mc (nI ss) (nI nn) t = if t = -1 then (kLive (kLay Mc) (nI ss) (nI nn)).1 else (kLive (kLay Mc) (nI ss) (nI nn)).2 29 (Int32.toNatClampNeg t) := by
        obtain ⟨a1, a2⟩ := inI_t hs
        obtain ⟨b1, b2⟩ := inI_t hn
        unfold kv_days2
        rw [if_neg a1, if_neg a2, if_neg b1, if_pos (by rw [show (99 : Int32) = nI 99 from rfl]; exact nI_le hn9 (by decide))]
      unfold kv_days
      by_cases c : t = -1
      · rw [if_pos c]; exact e2
      · rw [if_neg c, if_pos (ht.resolve_left c)]; exact e2
    have eL : kLive (kLay Mc) (nI ss) (nI nn) = kLvn nn ss 0 (kLay Mc) := by
      unfold kLive
      rw [nI_clamp (by omega), nI_clamp (by omega)]
    have L3 : ∀ (x6 : Int32) (Mk M2 : zMem) (m : Nat) (a : Int32) (b : Nat), m < 6 → dJ F Mc Mk M2 → mAg M M2 →
        (K : ∀ M3 a2, mAg M M3 → dJ F Mc (kEat Mk (nI m)).2 M3 → a2 = (if (kEat Mk (nI m)).1 = true then a + 1 else a) → zRT m_X_days 0 0 84 [(0, .ref 35), (2, .int (nI nn)), (3, .int t), (4, .int (nI b)), (5, .int a2), (6, .int (x6 + 1))] [] (SHP g X) M3 (qR g X (fun r M2 => mAg M M2 ∧ r = kv_days Mc (nI ss) (nI nn) t))) →
        ∀ d x8, d ≤ tN F → x8 = dF Mk m d (tN F - d) → zRT m_X_days 0 0 122 [(0, .ref 35), (2, .int (nI nn)), (3, .int t), (4, .int (nI b)), (5, .int a), (6, .int x6), (7, .int (nI m)), (8, .int x8), (9, .int (nI d - 1))] [] (SHP g X) M2 (qR g X (fun r M2 => mAg M M2 ∧ r = kv_days Mc (nI ss) (nI nn) t)) := by
      intro x6 Mk M2 m a b hm hj ha K d
      induction d with
      | zero =>
        intro x8 hd hx
        have hE : kEat Mk (nI m) = if x8 = -6 then (false, Mk) else (true, zms Mk 29 (Int32.toNatClampNeg x8) (Mk 29 (Int32.toNatClampNeg x8) - 1)) := by
          unfold kEat
          rw [kEatn_dF Mk hm 10 0 (by decide)]
          have := dF_up hcm.1 hcm.2.1 hj hm (10 - tN F) 0 (tN F) (by omega)
          rw [show tN F + (10 - tN F) = 10 by omega] at this
          rw [hx, Nat.sub_zero, this.resolve_right (by omega)]
        refine vS_X_days_122 g X _ _ _ _ _ _ _ _ _ _ ⟨fun _ => ⟨fun h => ?_, fun h => ?_⟩, fun h => absurd (by decide) h⟩
        · have e : x8 = -6 := by
            rcases dF_in (Mk := Mk) (m := m) (tN F - 0) 0 with q | ⟨j, j1, j2, j3⟩
            · rw [hx]; exact q
            · rw [hx, j3, show (0 : Int32) = nI 0 from rfl, nI_ltI (by omega) (by decide)] at h
              omega
          refine K M2 a ha ?_ ?_
          · rw [hE, if_pos e]; exact hj
          · rw [hE, if_pos e]; rfl
        · have ⟨j, j1, j2, j3⟩ : ∃ j, 0 ≤ j ∧ j < 0 + (tN F - 0) ∧ x8 = nI j := by
            rcases dF_in (Mk := Mk) (m := m) (tN F - 0) 0 with q | ⟨j, j1, j2, j3⟩
            · rw [hx, q] at h
              exact absurd (by decide) h
            · exact ⟨j, j1, j2, by rw [hx]; exact j3⟩
          have e : ¬ x8 = -6 := by rw [j3]; exact nI_ne6 (by omega)
          have ec : Int32.toNatClampNeg x8 = j := by rw [j3]; exact nI_clamp (by omega)
          refine ⟨by rw [j3]; exact vp_in_nI (by omega) (by decide), K _ _ (ha.st (by decide)) ?_ ?_⟩
          · rw [hE, if_neg e, ec]
            refine ⟨?_, ?_, fun k hk => ?_⟩
            · show ∀ i, i < 6 → zms Mk 29 j (Mk 29 j - 1) 28 i = _
              rw [zms_ne _ _ _ _ 28 (by decide)]; exact hj.1
            · rw [zms_ne _ _ _ _ 44 (by decide)]; exact hj.2.1
            · show zms Mk 29 j (Mk 29 j - 1) 29 k = zms M2 47 j (M2 47 j - 1) 47 k
              rw [zms_at, zms_at, hj.2.2 k hk, hj.2.2 j (by omega)]
          · rw [hE, if_neg e]; rfl
      | succ d ih =>
        intro x8 hd hx
        have e9 : nI (d + 1) - 1 = nI d := by
          rw [show (1 : Int32) = nI 1 from rfl, pk_sub (by omega)]
          rfl
        have e91 : nI d + (-1) = nI d - 1 := by
          rw [Int32.sub_eq_add_neg]
        rw [e9]
        refine vS_X_days_122 g X _ _ _ _ _ _ _ _ _ _ ⟨fun h => absurd h (by rw [show (0 : Int32) = nI 0 from rfl, nI_ltI (by omega) (by decide)]; omega), fun _ => ⟨vp_in_nI hm (by decide), ?_⟩⟩
        rw [nI_clamp (by omega), nI_clamp (by omega), e91, hj.2.1 m hm, ← hj.1 m hm]
        have st : dF Mk m d (tN F - d) = if hb (Mk 28 m) (nI d) = true ∧ ¬ Mk 29 d ≤ 0 then nI d else x8 := by
          rw [hx, show tN F - d = (tN F - (d + 1)) + 1 by omega]
          rfl
        refine ⟨fun h => ih x8 (by omega) ?_, fun h => ⟨vp_in_nI (by omega) (by decide), fun h2 => ih x8 (by omega) ?_, fun h2 => ih (nI d) (by omega) ?_⟩⟩
        · rw [st, if_neg (fun q => absurd q.1 (by rw [h]; decide))]
        · rw [st, if_neg (fun q => q.2 (by rw [hj.2.2 d (by omega)]; exact h2))]
        · rw [st, if_pos ⟨h, by rw [hj.2.2 d (by omega)]; exact h2⟩]
    have L2 : ∀ d k (Mk M2 : zMem) a b, k + d = nn → b < 65537 → mAg M M2 → dJ F Mc Mk M2 → kLvn nn ss 0 (kLay Mc) = kLvn d b a Mk → zRT m_X_days 0 0 84 [(0, .ref 35), (2, .int (nI nn)), (3, .int t), (4, .int (nI b)), (5, .int a), (6, .int (nI k))] [] (SHP g X) M2 (qR g X (fun r M2 => mAg M M2 ∧ r = kv_days Mc (nI ss) (nI nn) t)) := by
      intro d
      induction d with
      | zero =>
        intro k Mk M2 a b hk hb ha hj he
        refine vS_X_days_84 g X _ _ _ _ _ _ _ ⟨fun _ => ⟨fun h => ⟨?_, qR_i ⟨ha, ?_⟩⟩, fun h => qR_i ⟨ha, ?_⟩⟩, fun h => absurd (nI_le (by omega) (by omega)) h⟩
        · have h2 := ht.resolve_left h
          rw [show Mc 11 5 = fT F from hcm.2.1.1] at h2
          obtain ⟨t1, t2⟩ := kIsT_n hcm.1 h2
          rw [t2]
          exact vp_in_nI (by omega) (by decide)
        · have h2 := ht.resolve_left h
          rw [show Mc 11 5 = fT F from hcm.2.1.1] at h2
          obtain ⟨t1, t2⟩ := kIsT_n hcm.1 h2
          rw [eV, if_neg h, eL, he]
          exact (hj.2.2 _ t1).symm
        · rw [eV, if_pos h, eL, he]
          rfl
      | succ d ih =>
        intro k Mk M2 a b hk hb ha hj he
        refine vS_X_days_84 g X _ _ _ _ _ _ _ ⟨fun h => absurd h (nI_ge (by omega) (by omega)), fun _ => ?_⟩
        have e75 : ((75 : Int32) * nI b) + 74 = nI (75 * b + 74) := by
          rw [show (75 : Int32) = nI 75 from rfl, pk_mul, show (74 : Int32) = nI 74 from rfl, nI_add]
        rw [e75, show (65537 : Int32) = nI 65537 from rfl, pk_rem (by omega) (by decide) (by decide), show (6 : Int32) = nI 6 from rfl, pk_rem (by omega) (by decide) (by decide)]
        have m6 : (75 * b + 74) % 65537 % 6 < 6 := Nat.mod_lt _ (by decide)
        have b6 : (75 * b + 74) % 65537 < 65537 := Nat.mod_lt _ (by decide)
        have e35 : M2 35 6 = nI (tN F) := by rw [ha.e35, hc, en]
        rw [e35]
        refine L3 (nI k) Mk M2 _ a _ m6 hj ha (fun M3 a2 h3 hj3 ha2 => ?_) (tN F) (-6) (Nat.le_refl _) (by rw [Nat.sub_self]; rfl)
        rw [nI_1]
        refine ih (k + 1) (kEat Mk (nI ((75 * b + 74) % 65537 % 6))).2 M3 a2 _ (by omega) b6 h3 hj3 ?_
        rw [he, ha2]
        rfl
    have L1 : ∀ d k M2, k + d = mTN M → mAg M M2 → (∀ j, j < 6 → M2 44 j = kLwf Mc (nI j)) → (∀ j, j < k → M2 47 j = fL F j) → zRT m_X_days 0 0 46 [(0, .ref 35), (1, .int (nI ss)), (2, .int (nI nn)), (3, .int t), (4, .int (nI k))] [] (SHP g X) M2 (qR g X (fun r M2 => mAg M M2 ∧ r = kv_days Mc (nI ss) (nI nn) t)) := by
      intro d
      induction d with
      | zero =>
        intro k M2 hk ha h44 h47
        refine vS_X_days_46 g X _ _ _ _ _ _ ⟨fun _ => L2 nn 0 (kLay Mc) M2 0 ss (by omega) (by omega) ha ⟨fun j hj => kLay_28 hj, h44, fun j hj => ?_⟩ rfl, fun h => absurd (by rw [ha.e35, hc]; exact nI_le (by omega) (by omega)) h⟩
        rw [kLay_29 hcm.2.1 (by omega), h47 j (by omega)]
      | succ d ih =>
        intro k M2 hk ha h44 h47
        refine vS_X_days_46 g X _ _ _ _ _ _ ⟨fun h => absurd h (by rw [ha.e35, hc]; exact nI_ge (by omega) (by omega)), fun _ => ⟨vp_in_nI (by omega) (by decide), ?_⟩⟩
        rw [nI_1, nI_clamp (by omega)]
        refine ih (k + 1) _ (by omega) (ha.st (by decide)) ?_ (kUp h47 ?_)
        · rw [zms_ne _ _ _ _ 44 (by decide)]; exact h44
        · rw [ha.e39]; exact hcm.2.2.2.1 k (by omega)
    exact L1 (mTN M) 0 M6 (by omega) h6.1 hv (fun j h => absurd h (Nat.not_lt_zero j))
  have bad1 : inI s 0 9999 = false → (t = -1 ∨ kIsT (Mc 11 5) t = true) → (-2 : Int32) = kv_days Mc s n t := by
    intro h ht
    have e2 : kv_days2 Mc s n t = -2 := by
      unfold kv_days2
      rcases inI_f (v := s) (lo := 0) (hi := 9999) (by rw [h]; decide) with q | q
      · rw [if_pos q]
      · by_cases c : s < 0
        · rw [if_pos c]
        · rw [if_neg c, if_pos q]
    unfold kv_days
    by_cases c : t = -1
    · rw [if_pos c, e2]
    · rw [if_neg c, if_pos (ht.resolve_left c), e2]
  have bad2 : inI s 0 9999 = true → inI n 1 99 = false → (t = -1 ∨ kIsT (Mc 11 5) t = true) → (-2 : Int32) = kv_days Mc s n t := by
    intro h0 h ht
    obtain ⟨a1, a2⟩ := inI_t h0
    have e2 : kv_days2 Mc s n t = -2 := by
      unfold kv_days2
      rw [if_neg a1, if_neg a2]
      rcases inI_f (v := n) (lo := 1) (hi := 99) (by rw [h]; decide) with q | q
      · rw [if_pos q]
      · by_cases c : n < 1
        · rw [if_pos c]
        · rw [if_neg c, if_neg (fun z => i32_le z q)]
    unfold kv_days
    by_cases c : t = -1
    · rw [if_pos c, e2]
    · rw [if_neg c, if_pos (ht.resolve_left c), e2]
  refine zEx_of _ (by decide) (by simp [Value.category]) (Nat.le_of_ble_eq_true rfl) rfl (vS_X_days_0 g X M s n t _ ⟨fun ht => ⟨fun h => qR_i ⟨mAg.rf, bad1 h (Or.inl ht)⟩, fun h => ⟨fun h2 => ⟨hh, fun M6 h6 => go h h2 (Or.inl ht) M6 h6⟩, fun h2 => qR_i ⟨mAg.rf, bad2 h h2 (Or.inl ht)⟩⟩⟩, fun ht => ⟨fun hi => ⟨fun h => qR_i ⟨mAg.rf, bad1 h (Or.inr (by rw [← hT]; exact hi))⟩, fun h => ⟨fun h2 => ⟨hh, fun M6 h6 => go h h2 (Or.inr (by rw [← hT]; exact hi)) M6 h6⟩, fun h2 => qR_i ⟨mAg.rf, bad2 h h2 (Or.inr (by rw [← hT]; exact hi))⟩⟩⟩, fun hi => qR_i ⟨mAg.rf, ?_⟩⟩⟩)
  unfold kv_days
  rw [if_neg ht, if_neg (by rw [← hT, hi]; decide)]
end zS4
section zS5
variable {n : Nat} {P : Nat → Int32} {F : zTS} {I : Nat → Option zTS} {M : zMem} {g : Nat → Option Nat} {X : List zShp}
theorem pr_lack (hok : kOk n P F I M g X) : kPr kEi 1 m_O_lack m_X_lack [] M g X := kPr_e hok (ex_O_lack g X M ⟨kCJ_cnt hok.2.2.1 hok.2.2.2.1, kCJ_dpt hok.2.2.1 hok.2.2.2.1⟩) (fun M1 h hc => ex2_X_lack g X M1 F M hc (kMF_mK hok.2.2.1 h.2.2.1))
theorem pr_days (hok : kOk n P F I M g X) (s d t : Int32) : kPr kEi 1 m_O_days m_X_days [.int s, .int d, .int t] M g X := kPr_e hok (ex_O_days g X M s d t ⟨kCJ_cnt hok.2.2.1 hok.2.2.2.1, kCJ_dpt hok.2.2.1 hok.2.2.2.1⟩) (fun M1 h hc => ex2_X_days g X M1 F M hc (kMF_mK hok.2.2.1 h.2.2.1) s d t)
end zS5
