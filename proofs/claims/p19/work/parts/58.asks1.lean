/-! may, near, washed: the reference answers as the class does -/
section zQ0
variable {n : Nat} {P : Nat → Int32} {F : zTS} {I : Nat → Option zTS} {M : zMem} {g : Nat → Option Nat} {X : List zShp}
/-- a call that only asks, answered alike -/
theorem kPr_e {ν μ : zMI} {as : List Value} {V : Int32} (hok : kOk n P F I M g X)
  (h1 : zEx ν 0 0 (.ref 0 :: as) (SHP g X) M (qR g X (fun r M1 => r = V ∧ kAg kCS M M1)))
  (h2 : ∀ M1, kMJ n P F I M1 → cM F M M1 → zEx μ 0 0 (.ref 35 :: as) (SHP g X) M1 (qR g X (fun r M2 => mAg M1 M2 ∧ r = V))) : kPr kEi 1 ν μ as M g X := by
  obtain ⟨hn, hP, hw, hc, hm⟩ := hok
  refine ⟨0, 0, by decide, zEx_mono h1 ?_⟩
  rintro v sh1 M1 ⟨x, rfl, rfl, e1, ag⟩
  have hm1 := kMJ_MS (kMS_CS ag) hm
  refine ⟨g, X, .int x, rfl, rfl, rfl, kIm_len hc.2.2.2, zEx_mono (h2 M1 hm1 ⟨hw, hc.2.2.1, hm1.2.2.1⟩) ?_⟩
  rintro v2 sh2 M2 ⟨y, rfl, rfl, a2, e2⟩
  exact ⟨.int y, rfl, rfl, ⟨n, P, F, I, hn, hP, hw, kCJ_OS (kOS_mAg a2) (kCJ_CS ag hc), kMJ_mAg a2 hm1⟩, x, rfl, by rw [e1, e2]⟩
end zQ0
theorem kMF_e {F : zTS} {M M1 : zMem} (h35 : M1 35 = M 35) (h36 : M1 36 = M 36) (h38 : M1 38 = M 38) (h39 : M1 39 = M 39) (h40 : M1 40 = M 40) (h : kMF M F) : kMF M1 F := by
  unfold kMF at h ⊢
  rw [h35, h36, h38, h39, h40]
  exact h
theorem cM_ag {F : zTS} {Mc M M1 : zMem} (ha : mAg M M1) (h : cM F Mc M) : cM F Mc M1 := ⟨h.1, h.2.1, kMF_e ha.e35 ha.e36 ha.e38 ha.e39 ha.e40 h.2.2⟩
theorem mAg_42 {M M1 : zMem} (h : kAg [42] M M1) : mAg M M1 := h.mo (by decide)
theorem m41_to {F : zTS} {Mc M : zMem} (h : cM F Mc M) : m41 F (mTo M) := fun t ht => by
  have h10 := h.1.1.2
  unfold mTo
  rw [zmr_row]
  show (if t < mTN M then M 38 (5 * t) else M 41 t) = _
  rw [kMF_tn h.2.2, if_pos ht]
  exact h.2.2.1 _ (by omega)
section zQ1
variable (g : Nat → Option Nat) (X : List zShp) (M : zMem)
theorem ex2_X_mayHave (m : Int32) (hh : mK M ∧ vp_in m 6) : zEx m_X_mayHave 0 0 [.ref 35, .int m] (SHP g X) M (qR g X (fun r M2 => kAg [42] M M2 ∧ ∀ F Mc, cM F Mc M → m41 F M → r = kLwf Mc m)) := by
  refine zEx_of _ (by decide) (by simp [Value.category]) (Nat.le_of_ble_eq_true rfl) rfl (v_X_mayHave_0 g X M m _ ?_)
  obtain ⟨hk, hm⟩ := hh
  obtain ⟨m', hm6, rfl⟩ := vp_in_of hm (by decide)
  obtain ⟨hc, h10⟩ := mCnt_e hk.1
  have L : ∀ d k a M1, k + d = mTN M → kAg [42] M M1 → (∀ F Mc, cM F Mc M → m41 F M → a = kOr (fun j => if kTch Mc (nI j) &&& kCpl Mc (nI m') = 0 then (1 : Int32) <<< (nI j &&& 31) else 0) k) → zRT m_X_mayHave 0 0 4 [(0, .ref 35), (1, .int (nI m')), (2, .int a), (3, .int (nI k))] [] (SHP g X) M1 (qR g X (fun r M2 => kAg [42] M M2 ∧ ∀ F Mc, cM F Mc M → m41 F M → r = kLwf Mc (nI m'))) := by
    intro d
    induction d with
    | zero =>
      intro k a M1 hkd ha hv
      have e35 : M1 35 = M 35 := ha 35 (by decide)
      refine v_X_mayHave_4 g X _ _ _ _ _ ⟨fun _ => qR_i ⟨ha, fun F Mc h1 h2 => ?_⟩, fun h => absurd (by rw [e35, hc]; exact nI_le (by omega) (by omega)) h⟩
      rw [hv F Mc h1 h2]
      unfold kLwf
      rw [kTR_cn h1.2.1, ← kMF_tn h1.2.2, show k = mTN M by omega]
    | succ d ih =>
      intro k a M1 hkd ha hv
      have e35 : M1 35 = M 35 := ha 35 (by decide)
      have hag := mAg_42 ha
      refine v_X_mayHave_4 g X _ _ _ _ _ ⟨fun h => absurd h (by rw [e35, hc]; exact nI_ge (by omega) (by omega)), fun _ => ⟨(hag.mk hk).rw (hag.th ⟨k, by omega, rfl⟩), ?_⟩⟩
      rw [nI_1, nI_clamp (by omega)]
      have fact : ∀ F Mc, cM F Mc M → m41 F M → (hb (mWP M1 (mTc M1 (nI k))) (nI m') = false ↔ kTch Mc (nI k) &&& kCpl Mc (nI m') = 0) := fun F Mc h1 h2 => by
        have hk2 : k < tN F := by rw [← kMF_tn h1.2.2]; omega
        have h1' := cM_ag hag h1
        have h2' : m41 F M1 := fun t ht => by rw [ha 41 (by decide)]; exact h2 t ht
        rw [tc_eq h1' h2' hk2, hb_bt (by omega), kCpl_and h1.1 h1.2.1 hm6, ← mWP_bt h1.1 h1'.2.2 _ (by omega)]
        simp
      refine ⟨fun h => ih (k + 1) _ _ (by omega) (kAg.sr ha (by decide)) (fun F Mc h1 h2 => ?_), fun h => ih (k + 1) _ _ (by omega) (kAg.sr ha (by decide)) (fun F Mc h1 h2 => ?_)⟩
      · show _ = kOr _ k ||| _
        rw [← hv F Mc h1 h2]
        exact congrArg (fun z => a ||| z) (if_pos ((fact F Mc h1 h2).mp h)).symm
      · show _ = kOr _ k ||| _
        rw [← hv F Mc h1 h2]
        exact congrArg (fun z => a ||| z) (if_neg (fun q => absurd ((fact F Mc h1 h2).mpr q) (by rw [h]; decide))).symm
  exact L (mTN M) 0 0 M (by omega) kAg.rf (fun _ _ _ _ => rfl)
theorem vS_X_may_0 (g : Nat → Option Nat) (X : List zShp) (M : zMem) (x1 x2 : Int32) (R : zEnd) (h : (((isM x1) = true) → ((((inI x2 0 1) = true) → ((mCnt M) ∧ (zRT m_X_may 0 0 30 [(0, .ref 35), (1, .int x1), (2, .int x2), (3, .int 0), (4, .int 0)] [] (SHP g X) (mTo M) R))) ∧ (((inI x2 0 1) = false) → (R (some (.int (-2))) (SHP g X) M)))) ∧ (((isM x1) = false) → (R (some (.int (-1))) (SHP g X) M))) : zRT m_X_may 0 0 0 [(0, .ref 35), (1, .int x1), (2, .int x2)] [] (SHP g X) M R := by
  refine zs_iload_n 1 d_X_may_0 rfl (List.mem_of_getElem? (i := 1) rfl) ?_
  refine zs_callS (kc := 0) (ks := 0) (kc1 := 0) (ks1 := 0) (st := []) [.int x1] d_X_may_1 lk_X_87 ⟨by decide, by decide⟩ rfl (Nat.le_of_ble_eq_true rfl) (ex_X_isMan g X M x1) (fun v1 sh1 M1 hR => ?_)
  obtain ⟨rfl, rfl, rfl⟩ := hR
  refine zs_if_ne 9 d_X_may_4 (by decide) (fun c2 => ?_) (fun c2 => ?_)
  · replace h := h.1 (bI_1 c2)
    refine zs_iload_n 2 d_X_may_9 rfl (List.mem_of_getElem? (i := 2) rfl) ?_
    refine zs_iconst 0 d_X_may_10 (by decide) ?_
    refine zs_iconst 1 d_X_may_11 (by decide) ?_
    refine zs_callS (kc := 0) (ks := 0) (kc1 := 0) (ks1 := 0) (st := []) [.int x2, .int 0, .int 1] d_X_may_12 lk_X_66 ⟨by decide, by decide⟩ rfl (Nat.le_of_ble_eq_true rfl) (ex_X_in g X M x2 0 1) (fun v3 sh3 M3 hR => ?_)
    obtain ⟨rfl, rfl, rfl⟩ := hR
    refine zs_if_ne 21 d_X_may_15 (by decide) (fun c4 => ?_) (fun c4 => ?_)
    · replace h := h.1 (bI_1 c4)
      refine zs_aload_n 0 d_X_may_21 rfl (List.mem_of_getElem? (i := 0) rfl) ?_
      obtain ⟨p5, h⟩ := h
      refine zs_callV (kc := 0) (ks := 0) (kc1 := 0) (ks1 := 0) (st := []) [] d_X_may_22 lk_X_116 ⟨by decide, by decide⟩ rfl (sh_35 g X) rfl (Nat.le_of_ble_eq_true rfl) (ex_X_asTold g X M p5) (fun v5 sh5 M5 hR => ?_)
      obtain ⟨rfl, rfl, rfl⟩ := hR
      refine zs_iconst 0 d_X_may_25 (by decide) ?_
      refine zs_istore_n2 3 [1, 2, 3, 0] [(0, .ref 35), (1, .int x1), (2, .int x2), (3, .int 0)] d_X_may_26 rfl (by decide) rfl ?_
      refine zs_iconst 0 d_X_may_27 (by decide) ?_
      refine zs_istore2 [1, 2, 3, 4, 0] [(0, .ref 35), (1, .int x1), (2, .int x2), (3, .int 0), (4, .int 0)] d_X_may_28 (by decide) rfl ?_
      exact h
    · replace h := h.2 (bI_0 c4)
      refine zs_bipush (-2) d_X_may_18 (by decide) ?_
      exact zs_iret d_X_may_20 rfl h
  · replace h := h.2 (bI_0 c2)
    refine zs_iconst (-1) d_X_may_7 (by decide) ?_
    exact zs_iret d_X_may_8 rfl h
theorem vS_X_may_30 (g : Nat → Option Nat) (X : List zShp) (M : zMem) (x1 x2 x3 x4 : Int32) (R : zEnd) (h : (((M 35 6) ≤ x4) → (((¬ x2 = 0) → (R (some (.int x3)) (SHP g X) M)) ∧ ((x2 = 0) → ((mK M ∧ vp_in x1 6) ∧ (∀ (r3 : Int32) (M3 : zMem), (kAg [42] M M3 ∧ (∀ F Mc, cM F Mc M → m41 F M → r3 = kLwf Mc x1)) → (R (some (.int r3)) (SHP g X) M3)))))) ∧ ((¬ (M 35 6) ≤ x4) → ((mRw M x4) ∧ ((((hb (mTc M x4) x1) = false) → (zRT m_X_may 0 0 30 [(0, .ref 35), (1, .int x1), (2, .int x2), (3, .int (x3 ||| 0)), (4, .int (x4 + 1))] [] (SHP g X) (mWk M (Int32.toNatClampNeg x4)) R)) ∧ (((hb (mTc M x4) x1) = true) → (zRT m_X_may 0 0 30 [(0, .ref 35), (1, .int x1), (2, .int x2), (3, .int (x3 ||| ((1 : Int32) <<< (x4 &&& 31)))), (4, .int (x4 + 1))] [] (SHP g X) (mWk M (Int32.toNatClampNeg x4)) R)))))) : zRT m_X_may 0 0 30 [(0, .ref 35), (1, .int x1), (2, .int x2), (3, .int x3), (4, .int x4)] [] (SHP g X) M R := by
  refine zs_iload d_X_may_30 (List.mem_of_getElem? (i := 4) rfl) ?_
  refine zs_aload_n 0 d_X_may_32 rfl (List.mem_of_getElem? (i := 0) rfl) ?_
  refine zs_get d_X_may_33 gf_X_70 (sh_35 g X) rfl ?_
  refine zs_icmp_ge 69 d_X_may_36 (by decide) (fun c1 => ?_) (fun c1 => ?_)
  · replace h := h.1 c1
    refine zs_iload_n 2 d_X_may_69 rfl (List.mem_of_getElem? (i := 2) rfl) ?_
    refine zs_if_ne 81 d_X_may_70 (by decide) (fun c2 => ?_) (fun c2 => ?_)
    · replace h := h.1 c2
      refine zs_iload_n 3 d_X_may_81 rfl (List.mem_of_getElem? (i := 3) rfl) ?_
      exact zs_iret d_X_may_82 rfl h
    · replace h := h.2 c2
      refine zs_aload_n 0 d_X_may_73 rfl (List.mem_of_getElem? (i := 0) rfl) ?_
      refine zs_iload_n 1 d_X_may_74 rfl (List.mem_of_getElem? (i := 1) rfl) ?_
      obtain ⟨p3, h⟩ := h
      refine zs_callV (kc := 0) (ks := 0) (kc1 := 0) (ks1 := 0) (st := []) [.int x1] d_X_may_75 lk_X_125 ⟨by decide, by decide⟩ rfl (sh_35 g X) rfl (Nat.le_of_ble_eq_true rfl) (ex2_X_mayHave g X M x1 p3) (fun v3 sh3 M3 hR => ?_)
      obtain ⟨r3, rfl, rfl, hq3⟩ := hR
      replace h := h r3 M3 hq3
      refine zs_goto 82 d_X_may_78 (by decide) ?_
      exact zs_iret d_X_may_82 rfl h
  · replace h := h.2 c1
    refine zs_iload_n 3 d_X_may_39 rfl (List.mem_of_getElem? (i := 3) rfl) ?_
    refine zs_aload_n 0 d_X_may_40 rfl (List.mem_of_getElem? (i := 0) rfl) ?_
    refine zs_iload d_X_may_41 (List.mem_of_getElem? (i := 4) rfl) ?_
    obtain ⟨p4, h⟩ := h
    refine zs_callV (kc := 0) (ks := 0) (kc1 := 0) (ks1 := 0) (st := [.int x3]) [.int x4] d_X_may_43 lk_X_102 ⟨by decide, by decide⟩ rfl (sh_35 g X) rfl (Nat.le_of_ble_eq_true rfl) (ex_X_touchers g X M x4 p4) (fun v4 sh4 M4 hR => ?_)
    obtain ⟨rfl, rfl, rfl⟩ := hR
    refine zs_iload_n 1 d_X_may_46 rfl (List.mem_of_getElem? (i := 1) rfl) ?_
    refine zs_callS (kc := 0) (ks := 0) (kc1 := 0) (ks1 := 0) (st := [.int x3]) [.int (mTc M x4), .int x1] d_X_may_47 lk_X_98 ⟨by decide, by decide⟩ rfl (Nat.le_of_ble_eq_true rfl) (ex_X_has g X (mWk M (Int32.toNatClampNeg x4)) (mTc M x4) x1) (fun v5 sh5 M5 hR => ?_)
    obtain ⟨rfl, rfl, rfl⟩ := hR
    refine zs_if_eq 60 d_X_may_50 (by decide) (fun c6 => ?_) (fun c6 => ?_)
    · replace h := h.1 (bI_0 c6)
      refine zs_iconst 0 d_X_may_60 (by decide) ?_
      refine zs_ior d_X_may_61 ?_
      refine zs_istore_n2 3 [1, 2, 3, 0, 4] [(0, .ref 35), (1, .int x1), (2, .int x2), (3, .int (x3 ||| 0)), (4, .int x4)] d_X_may_62 rfl (by decide) rfl ?_
      refine zs_iinc2 4 (x4 + 1) [1, 2, 3, 4, 0] [(0, .ref 35), (1, .int x1), (2, .int x2), (3, .int (x3 ||| 0)), (4, .int (x4 + 1))] d_X_may_63 rfl rfl (by decide) rfl ?_
      refine zs_goto 30 d_X_may_66 (by decide) ?_
      exact h
    · replace h := h.2 (bI_1 c6)
      refine zs_iconst 1 d_X_may_53 (by decide) ?_
      refine zs_iload d_X_may_54 (List.mem_of_getElem? (i := 4) rfl) ?_
      refine zs_ishl d_X_may_56 ?_
      refine zs_goto 61 d_X_may_57 (by decide) ?_
      refine zs_ior d_X_may_61 ?_
      refine zs_istore_n2 3 [1, 2, 3, 0, 4] [(0, .ref 35), (1, .int x1), (2, .int x2), (3, .int (x3 ||| ((1 : Int32) <<< (x4 &&& 31)))), (4, .int x4)] d_X_may_62 rfl (by decide) rfl ?_
      refine zs_iinc2 4 (x4 + 1) [1, 2, 3, 4, 0] [(0, .ref 35), (1, .int x1), (2, .int x2), (3, .int (x3 ||| ((1 : Int32) <<< (x4 &&& 31)))), (4, .int (x4 + 1))] d_X_may_63 rfl rfl (by decide) rfl ?_
      refine zs_goto 30 d_X_may_66 (by decide) ?_
      exact h
theorem ex2_X_may (m w : Int32) (hh : mK M) : zEx m_X_may 0 0 [.ref 35, .int m, .int w] (SHP g X) M (qR g X (fun r M2 => mAg M M2 ∧ ∀ F Mc, cM F Mc M → r = kv_may Mc m w)) := by
  refine zEx_of _ (by decide) (by simp [Value.category]) (Nat.le_of_ble_eq_true rfl) rfl (vS_X_may_0 g X M m w _ ⟨fun hM => ⟨fun hW => ⟨hh.1, ?_⟩, fun hW => qR_i ⟨mAg.rf, fun F Mc h => ?_⟩⟩, fun hM => qR_i ⟨mAg.rf, fun F Mc h => ?_⟩⟩)
  · obtain ⟨hc, h10⟩ := mCnt_e hh.1
    have hm6 := isM_in hM
    obtain ⟨m', hm', rfl⟩ := vp_in_of hm6 (by decide)
    obtain ⟨w', hw', rfl⟩ := inI_nI (b := 1) (by decide) hW
    have L : ∀ d k a M1, k + d = mTN M → kAg [42] (mTo M) M1 → (∀ F Mc, cM F Mc M → a = kOr (fun j => if hb (kTch Mc (nI j)) (nI m') = true then (1 : Int32) <<< (nI j &&& 31) else 0) k) → zRT m_X_may 0 0 30 [(0, .ref 35), (1, .int (nI m')), (2, .int (nI w')), (3, .int a), (4, .int (nI k))] [] (SHP g X) M1 (qR g X (fun r M2 => mAg M M2 ∧ ∀ F Mc, cM F Mc M → r = kv_may Mc (nI m') (nI w'))) := by
      intro d
      induction d with
      | zero =>
        intro k a M1 hkd ha hv
        have hag : mAg M M1 := mAg.rf.mt.tr (mAg_42 ha)
        have hk1 := hag.mk hh
        refine vS_X_may_30 g X _ _ _ _ _ _ ⟨fun _ => ⟨fun h0 => qR_i ⟨hag, fun F Mc h => ?_⟩, fun h0 => ⟨⟨hk1, hm6⟩, fun r M3 hr => qR_i ⟨hag.tr (mAg_42 hr.1), fun F Mc h => ?_⟩⟩⟩, fun h => absurd (by rw [hag.e35, hc]; exact nI_le (by omega) (by omega)) h⟩
        · have e1 : w' = 1 := by
            have : ¬ w' = 0 := fun q => h0 (by rw [q]; rfl)
            omega
          subst e1
          unfold kv_may kTnt
          rw [if_pos hM, if_neg (by decide), if_pos (show nI 1 = 1 from rfl), hv F Mc h, kTR_cn h.2.1, ← kMF_tn h.2.2, show k = mTN M by omega]
        · have e0 : w' = 0 := (nI_eq (b := 0) (by omega) (by omega)).mp h0
          subst e0
          unfold kv_may
          rw [if_pos hM, if_pos (show nI 0 = 0 from rfl)]
          exact hr.2 F Mc (cM_ag hag h) (fun t ht => by rw [ha 41 (by decide)]; exact m41_to h t ht)
      | succ d ih =>
        intro k a M1 hkd ha hv
        have hag : mAg M M1 := mAg.rf.mt.tr (mAg_42 ha)
        refine vS_X_may_30 g X _ _ _ _ _ _ ⟨fun h => absurd h (by rw [hag.e35, hc]; exact nI_ge (by omega) (by omega)), fun _ => ⟨(hag.mk hh).rw (hag.th ⟨k, by omega, rfl⟩), ?_⟩⟩
        rw [nI_1, nI_clamp (by omega)]
        have fact : ∀ F Mc, cM F Mc M → mTc M1 (nI k) = kTch Mc (nI k) := fun F Mc h => tc_eq (cM_ag hag h) (fun t ht => by rw [ha 41 (by decide)]; exact m41_to h t ht) (by rw [← kMF_tn h.2.2]; omega)
        refine ⟨fun h => ih (k + 1) _ _ (by omega) (kAg.sr ha (by decide)) (fun F Mc h1 => ?_), fun h => ih (k + 1) _ _ (by omega) (kAg.sr ha (by decide)) (fun F Mc h1 => ?_)⟩
        · show _ = kOr _ k ||| _
          rw [fact F Mc h1] at h
          rw [← hv F Mc h1]
          exact congrArg (fun z => a ||| z) (if_neg (by rw [h]; decide)).symm
        · show _ = kOr _ k ||| _
          rw [fact F Mc h1] at h
          rw [← hv F Mc h1]
          exact congrArg (fun z => a ||| z) (if_pos h).symm
    exact L (mTN M) 0 0 (mTo M) (by omega) kAg.rf (fun _ _ _ => rfl)
  · unfold kv_may
    rw [if_pos hM]
    by_cases c0 : w = 0
    · rw [c0] at hW; exact absurd hW (by decide)
    · by_cases c1 : w = 1
      · rw [c1] at hW; exact absurd hW (by decide)
      · rw [if_neg c0, if_neg c1]
  · unfold kv_may
    rw [if_neg (by rw [hM]; decide)]
end zQ1
/-! how near the nearest touch is -/
def gN (F : zTS) (x : Nat) (S : Nat → Prop) (e : Nat) : Prop := ∃ j i, gW (fR F) (fO F = 1) x e j ∧ bt (fR F (5 * j)) i = true ∧ S i
def gNr (F : zTS) (x : Nat) (S : Nat → Prop) (v : Nat) : Prop := (v = 1000000 ∧ ∀ e, ¬ gN F x S e) ∨ (v ≤ 9 ∧ gN F x S v ∧ ∀ e, e < v → ¬ gN F x S e)
theorem gNr_uq {F : zTS} {x : Nat} {S : Nat → Prop} {a b : Nat} (ha : gNr F x S a) (hb : gNr F x S b) : a = b := by
  rcases ha with ⟨a1, a2⟩ | ⟨a1, a2, a3⟩ <;> rcases hb with ⟨b1, b2⟩ | ⟨b1, b2, b3⟩
  · omega
  · exact absurd b2 (a2 b)
  · exact absurd a2 (b2 a)
  · rcases Nat.lt_trichotomy a b with h | h | h
    · exact absurd a2 (b3 a h)
    · exact h
    · exact absurd b2 (a3 b h)
theorem gNr_min {F : zTS} {x : Nat} {S T U : Nat → Prop} {a b : Nat} (hU : ∀ i, U i ↔ S i ∨ T i) (ha : gNr F x S a) (hb : gNr F x T b) : gNr F x U (if b ≤ a then b else a) := by
  have h0 : ∀ e, gN F x U e ↔ gN F x S e ∨ gN F x T e := fun e => by
    constructor
    · rintro ⟨j, i, h1, h2, h3⟩
      rcases (hU i).mp h3 with h | h
      · exact Or.inl ⟨j, i, h1, h2, h⟩
      · exact Or.inr ⟨j, i, h1, h2, h⟩
    · rintro (⟨j, i, h1, h2, h3⟩ | ⟨j, i, h1, h2, h3⟩)
      · exact ⟨j, i, h1, h2, (hU i).mpr (Or.inl h3)⟩
      · exact ⟨j, i, h1, h2, (hU i).mpr (Or.inr h3)⟩
  by_cases c : b ≤ a
  · rw [if_pos c]
    rcases ha with ⟨a1, a2⟩ | ⟨a1, a2, a3⟩ <;> rcases hb with ⟨b1, b2⟩ | ⟨b1, b2, b3⟩
    · exact Or.inl ⟨b1, fun e h => ((h0 e).mp h).elim (a2 e) (b2 e)⟩
    · exact Or.inr ⟨b1, (h0 b).mpr (Or.inr b2), fun e he h => ((h0 e).mp h).elim (a2 e) (b3 e he)⟩
    · omega
    · exact Or.inr ⟨b1, (h0 b).mpr (Or.inr b2), fun e he h => ((h0 e).mp h).elim (a3 e (by omega)) (b3 e he)⟩
  · rw [if_neg c]
    rcases ha with ⟨a1, a2⟩ | ⟨a1, a2, a3⟩ <;> rcases hb with ⟨b1, b2⟩ | ⟨b1, b2, b3⟩
    · omega
    · omega
    · exact Or.inr ⟨a1, (h0 a).mpr (Or.inl a2), fun e he h => ((h0 e).mp h).elim (a3 e he) (b2 e)⟩
    · exact Or.inr ⟨a1, (h0 a).mpr (Or.inl a2), fun e he h => ((h0 e).mp h).elim (a3 e he) (b3 e (by omega))⟩
section zQ2
variable {F : zTS} {Mc M : zMem} {x : Nat}
theorem mNr_sp (hw : kWF F) (hm : kMF M F) (hx : x < tN F) {m : Nat} (hm6 : m < 6) : ∃ v, mNr M (nI x) (nI m) = nI v ∧ gNr F x (fun i => i = m) v := by
  have h10 := hw.1.2
  obtain ⟨σ, s1, s2, s3⟩ := gI_walk (kMF_gM hw hm hx)
  have eO : M 35 1 = fO F := hm.2.2.2.2.2.2.2.1
  rw [eO] at s2 s3
  unfold mNr
  rw [nI_clamp (by omega)]
  have L : ∀ t, t ≤ x + 1 → ∃ v, mNrn M ((mWk M x) 42) (nI m) t = nI v ∧ v ≤ 1000000 ∧ (v = 1000000 ∨ ∃ j, j < t ∧ bt (fR F (5 * j)) m = true ∧ σ j = v) ∧ ∀ j, j < t → bt (fR F (5 * j)) m = true → v ≤ σ j := by
    intro t
    induction t with
    | zero => exact fun _ => ⟨1000000, rfl, Nat.le_refl _, Or.inl rfl, fun j h => absurd h (Nat.not_lt_zero j)⟩
    | succ t ih =>
      intro ht
      obtain ⟨v, v1, v2, v3, v4⟩ := ih (by omega)
      have hs : σ t ≤ 1000000 := by rcases s2 t (by omega) with q | q <;> omega
      unfold mNrn
      rw [hb_bt (by omega), hm.1 _ (by omega), v1, s1 t (by omega)]
      by_cases c : bt (fR F (5 * t)) m = true
      · rw [if_pos c]
        by_cases c2 : v ≤ σ t
        · rw [if_pos (nI_le c2 (by omega))]
          refine ⟨v, rfl, v2, ?_, fun j hj hb => ?_⟩
          · rcases v3 with q | ⟨j, j1, j2⟩
            · exact Or.inl q
            · exact Or.inr ⟨j, by omega, j2⟩
          · by_cases e : j = t
            · subst e; exact c2
            · exact v4 j (by omega) hb
        · rw [if_neg (nI_ge (by omega) (by omega))]
          refine ⟨σ t, rfl, hs, Or.inr ⟨t, by omega, c, rfl⟩, fun j hj hb => ?_⟩
          by_cases e : j = t
          · subst e; exact Nat.le_refl _
          · exact Nat.le_trans (by omega) (v4 j (by omega) hb)
      · rw [if_neg c]
        refine ⟨v, rfl, v2, ?_, fun j hj hb => ?_⟩
        · rcases v3 with q | ⟨j, j1, j2⟩
          · exact Or.inl q
          · exact Or.inr ⟨j, by omega, j2⟩
        · by_cases e : j = t
          · subst e; exact absurd hb c
          · exact v4 j (by omega) hb
  obtain ⟨v, v1, v2, v3, v4⟩ := L (x + 1) (Nat.le_refl _)
  refine ⟨v, v1, ?_⟩
  have all : ∀ e, gN F x (fun i => i = m) e → v ≤ e := by
    rintro e ⟨j, i, h1, h2, rfl⟩
    have := gW_le h1
    exact Nat.le_trans (v4 j (by omega) h2) (s3 e j h1)
  have le9 : ∀ e, gN F x (fun i => i = m) e → e ≤ 9 := by
    rintro e ⟨j, i, h1, -, -⟩
    have := gW_le h1
    omega
  by_cases c : v = 1000000
  · refine Or.inl ⟨c, fun e he => ?_⟩
    have := all e he
    have := le9 e he
    omega
  · obtain ⟨j, j1, j2, j3⟩ := v3.resolve_left c
    have hj := (s2 j (by omega)).resolve_left (by omega)
    refine Or.inr ⟨by omega, ⟨j, m, by rw [← j3]; exact hj.2, j2, rfl⟩, fun e he hg => ?_⟩
    have := all e hg
    omega
theorem kFst_sp (hw : kWF F) (ht : kTR Mc 10 F) (hx : x < tN F) (men : Int32) : ∃ v, gNr F x (fun i => bt men i = true) v ∧ kFst Mc (nI x) men = if v = 1000000 then -6 else nI v := by
  have h10 := hw.1.2
  have le9 : ∀ e, gN F x (fun i => bt men i = true) e → e ≤ 9 := by
    rintro e ⟨j, i, h1, -, -⟩
    have := gW_le h1
    omega
  have hit : ∀ d, (kHO Mc (cL Mc x d) &&& men = 0) ↔ ¬ gN F x (fun i => bt men i = true) d := by
    intro d
    constructor
    · rintro h ⟨j, i, h1, h2, h3⟩
      have hz : bt (kHO Mc (cL Mc x d) &&& men) i = false := by rw [h, b_0]
      have := gW_le h1
      have hb : bt (kHO Mc (cL Mc x d)) i = true := (cHO hw ht _ i).mpr ⟨j, by omega, (cL_bt hw ht hx d j (by omega)).mpr h1, h2⟩
      have h3' : bt men i = true := h3
      rw [b_and, hb, h3'] at hz
      cases hz
    · intro h
      refine b_ext (fun i hi => ?_)
      rw [b_and, b_0]
      by_cases c : bt (kHO Mc (cL Mc x d)) i = true
      · by_cases c2 : bt men i = true
        · exfalso
          obtain ⟨k, hk, k1, k2⟩ := (cHO hw ht _ i).mp c
          exact h ⟨k, i, (cL_bt hw ht hx d k (by omega)).mp k1, k2, c2⟩
        · simp [c2]
      · simp [c]
  have L : ∀ n d, d + n = 10 → (∀ e, e < d → ¬ gN F x (fun i => bt men i = true) e) → ∃ v, gNr F x (fun i => bt men i = true) v ∧ kFsn Mc men n d (cL Mc x d) = if v = 1000000 then -6 else nI v := by
    intro n
    induction n with
    | zero =>
      intro d hd hb
      refine ⟨1000000, Or.inl ⟨rfl, fun e he => ?_⟩, rfl⟩
      have := le9 e he
      exact hb e (by omega) he
    | succ n ih =>
      intro d hd hb
      show ∃ v, _ ∧ (if cL Mc x d = 0 then -6 else if kHO Mc (cL Mc x d) &&& men = 0 then kFsn Mc men n (d + 1) (cL Mc x (d + 1)) else nI d) = _
      by_cases c : cL Mc x d = 0
      · rw [if_pos c]
        refine ⟨1000000, Or.inl ⟨rfl, fun e he => ?_⟩, rfl⟩
        by_cases c2 : e < d
        · exact hb e c2 he
        · obtain ⟨j, i, h1, -, -⟩ := he
          exact cL_0 hw ht hx c e j (by omega) h1
      · rw [if_neg c]
        by_cases c2 : kHO Mc (cL Mc x d) &&& men = 0
        · rw [if_pos c2]
          refine ih (d + 1) (by omega) (fun e he => ?_)
          by_cases e0 : e = d
          · subst e0; exact (hit e).mp c2
          · exact hb e (by omega)
        · rw [if_neg c2]
          have hg : gN F x (fun i => bt men i = true) d := by
            by_cases q : gN F x (fun i => bt men i = true) d
            · exact q
            · exact absurd ((hit d).mpr q) c2
          exact ⟨d, Or.inr ⟨by omega, hg, hb⟩, (if_neg (by omega)).symm⟩
  exact L 10 0 rfl (fun e h => absurd h (Nat.not_lt_zero e))
theorem b_one_m {m : Nat} (hm : m < 6) (i : Nat) : bt ((1 : Int32) <<< (nI m &&& 31)) i = true ↔ i = m := by
  by_cases hi : i < 32
  · rw [b_1shl (by omega) hi, decide_eq_true_iff]
  · rw [b_big (by omega)]
    constructor
    · intro h; cases h
    · intro h; omega
theorem gNr_cg {S T : Nat → Prop} {v : Nat} (h : ∀ i, S i ↔ T i) (hv : gNr F x S v) : gNr F x T v := by
  have e : S = T := funext fun i => propext (h i)
  rw [← e]; exact hv
end zQ2
section zQ3
variable (g : Nat → Option Nat) (X : List zShp) (M : zMem)
theorem ex2_X_near (x m : Int32) (hh : mK M) : zEx m_X_near 0 0 [.ref 35, .int x, .int m] (SHP g X) M (qR g X (fun r M2 => mAg M M2 ∧ ∀ F Mc, cM F Mc M → r = kv_near Mc x m)) := by
  refine zEx_of _ (by decide) (by simp [Value.category]) (Nat.le_of_ble_eq_true rfl) rfl (v_X_near_0 g X M x m _ ⟨fun h => qR_i ⟨mAg.rf, fun F Mc hc => ?_⟩, fun h => ⟨fun hm => ⟨hh.rw (hh.th h), fun hn => qR_i ⟨mAg.rf.wk, fun F Mc hc => ?_⟩, fun hn => qR_i ⟨mAg.rf.wk, fun F Mc hc => ?_⟩⟩, fun hm => qR_i ⟨mAg.rf, fun F Mc hc => ?_⟩⟩⟩)
  · unfold kv_near
    rw [hc.2.2.2.2.2.2.1, kIsT_F hc.1] at h
    rw [show Mc 11 5 = fT F from hc.2.1.1, if_neg (by rw [h]; decide)]
  · unfold kv_near
    rw [hc.2.2.2.2.2.2.1, kIsT_F hc.1] at h
    rw [show Mc 11 5 = fT F from hc.2.1.1, if_pos h, if_pos hm]
    obtain ⟨x1, x2⟩ := kIsT_n hc.1 h
    obtain ⟨m1, m2⟩ := isM_n hm
    obtain ⟨v, v1, v2⟩ := mNr_sp hc.1 hc.2.2 x1 m1
    obtain ⟨u, u1, u2⟩ := kFst_sp hc.1 hc.2.1 x1 ((1 : Int32) <<< (m &&& 31))
    rw [← x2, ← m2] at v1
    rw [← x2] at u2
    have e : v = u := gNr_uq v2 (gNr_cg (fun i => by show bt ((1 : Int32) <<< (m &&& 31)) i = true ↔ i = _; rw [m2, nI_clamp (by omega)]; exact b_one_m m1 i) u1)
    rw [u2, v1, e]
    by_cases c : u = 1000000
    · exact absurd (by rw [v1, e, c]; rfl) hn
    · rw [if_neg c]
  · unfold kv_near
    rw [hc.2.2.2.2.2.2.1, kIsT_F hc.1] at h
    rw [show Mc 11 5 = fT F from hc.2.1.1, if_pos h, if_pos hm]
    obtain ⟨x1, x2⟩ := kIsT_n hc.1 h
    obtain ⟨m1, m2⟩ := isM_n hm
    obtain ⟨v, v1, v2⟩ := mNr_sp hc.1 hc.2.2 x1 m1
    obtain ⟨u, u1, u2⟩ := kFst_sp hc.1 hc.2.1 x1 ((1 : Int32) <<< (m &&& 31))
    rw [← x2, ← m2] at v1
    rw [← x2] at u2
    have e : v = u := gNr_uq v2 (gNr_cg (fun i => by show bt ((1 : Int32) <<< (m &&& 31)) i = true ↔ i = _; rw [m2, nI_clamp (by omega)]; exact b_one_m m1 i) u1)
    have v9 : v ≤ 1000000 := by rcases v2 with q | q <;> omega
    rw [v1] at hn
    have := (nI_eq (b := 1000000) (by omega) (by decide)).mp hn
    rw [u2, if_pos (by omega)]
  · unfold kv_near
    rw [hc.2.2.2.2.2.2.1, kIsT_F hc.1] at h
    rw [show Mc 11 5 = fT F from hc.2.1.1, if_pos h, if_neg (by rw [hm]; decide)]
end zQ3
theorem wash_v {v d : Nat} (hv : v = 1000000 ∨ v ≤ 9) (hd : d ≤ 9) : (if (if v = 1000000 then (-6 : Int32) else nI v) = -6 then (0 : Int32) else mx 0 ((nI d + 1) - (if v = 1000000 then (-6 : Int32) else nI v))) = if v ≤ d then nI (d - v + 1) else 0 := by
  rcases hv with h | h
  · subst h
    rw [if_pos rfl, if_pos rfl, if_neg (by omega)]
  · rw [if_neg (show ¬ v = 1000000 by omega), if_neg (nI_ne6 (by omega))]
    have key : ∀ v, v ≤ 9 → ∀ d, d ≤ 9 → mx 0 ((nI d + 1) - nI v) = if v ≤ d then nI (d - v + 1) else 0 := by
      have k2 : ∀ v, v < 10 → ∀ d, d < 10 → mx 0 ((nI d + 1) - nI v) = if v ≤ d then nI (d - v + 1) else 0 := by decide
      exact fun v hv d hd => k2 v (by omega) d (by omega)
    exact key v h d hd
section zQ5
variable (g : Nat → Option Nat) (X : List zShp) (M : zMem)
theorem ex2_X_washed (x m : Int32) (hh : mK M) : zEx m_X_washed 0 0 [.ref 35, .int x, .int m] (SHP g X) M (qR g X (fun r M2 => mAg M M2 ∧ ∀ F Mc, cM F Mc M → r = kv_washed Mc x m)) := by
  have W0 : ∀ F Mc, cM F Mc M → inI x 0 (M 35 6 - 1) = true → isM m = true → ∀ a, mNr M x m = nI a → gNr F (Int32.toNatClampNeg x) (fun i => i = Int32.toNatClampNeg m) a → ∀ v, ((M 36 (Int32.toNatClampNeg m) < 0 → v = a) ∧ (¬ M 36 (Int32.toNatClampNeg m) < 0 → ∀ b, mNr (mWk M (Int32.toNatClampNeg x)) x (M 36 (Int32.toNatClampNeg m)) = nI b → b ≤ 1000000 → v = if b ≤ a then b else a)) → kv_washed Mc x m = if v ≤ dN F then nI (dN F - v + 1) else 0 := by
    intro F Mc hc h hm a ea ha v hv
    rw [hc.2.2.2.2.2.2.1, kIsT_F hc.1] at h
    obtain ⟨x1, x2⟩ := kIsT_n hc.1 h
    obtain ⟨m1, m2⟩ := isM_n hm
    obtain ⟨eD, hD⟩ := kMF_dep hc.1 hc.2.2
    have eDc : Mc 10 6 = nI (dN F) := by
      rw [← eD, hc.2.2.2.2.2.2.2.2.1]
      exact hc.2.1.2.2.1
    obtain ⟨u, u1, u2⟩ := kFst_sp hc.1 hc.2.1 x1 (kCpl Mc m)
    rw [← x2] at u2
    have hp := hc.1.2.2.2.2.2.1 _ m1
    have e36 := kMF_p hc.1 hc.2.2 m1
    have big : ∀ i, bt (kCpl Mc m) i = true ↔ (i = Int32.toNatClampNeg m ∨ fP F (Int32.toNatClampNeg m) = nI i) ∧ i < 32 := fun i => by
      by_cases hi : i < 32
      · have := kCpl_bt hc.1 hc.2.1 m1 hi
        rw [← m2] at this
        rw [this]
        simp [hi]
      · rw [b_big (by omega)]
        simp [hi]
    have hu : u = v := by
      rcases hp with h6 | ⟨k, k6, kj, k1, k2⟩
      · have e1 := hv.1 (by rw [e36, h6]; decide)
        rw [e1]
        refine gNr_uq (gNr_cg (fun i => ?_) u1) ha
        show bt (kCpl Mc m) i = true ↔ _
        rw [big, h6]
        constructor
        · rintro ⟨q | q, q2⟩
          · exact q
          · exact absurd q.symm (nI_ne6 (by omega))
        · intro q
          exact ⟨Or.inl q, by omega⟩
      · have hn : ¬ M 36 (Int32.toNatClampNeg m) < 0 := by
          rw [e36, k1, show (0 : Int32) = nI 0 from rfl, nI_ltI (by omega) (by decide)]
          omega
        have hc' := cM_ag (mAg.rf.wk (n := Int32.toNatClampNeg x)) hc
        obtain ⟨b, b1, b2⟩ := mNr_sp hc.1 hc'.2.2 x1 k6
        rw [← x2] at b1
        have eb := hv.2 hn b (by rw [e36, k1]; exact b1) (by rcases b2 with q | q <;> omega)
        rw [eb]
        refine gNr_uq (gNr_cg (fun i => ?_) u1) (gNr_min (U := fun i => i = Int32.toNatClampNeg m ∨ i = k) (fun i => Iff.rfl) ha b2)
        show bt (kCpl Mc m) i = true ↔ _
        rw [big, k1]
        constructor
        · rintro ⟨q | q, q2⟩
          · exact Or.inl q
          · exact Or.inr ((nI_eq (by omega) (by omega)).mp q).symm
        · rintro (q | q)
          · exact ⟨Or.inl q, by omega⟩
          · exact ⟨Or.inr (by rw [q]), by omega⟩
    unfold kv_washed
    rw [show Mc 11 5 = fT F from hc.2.1.1, if_pos h, if_pos hm, u2, eDc, wash_v (by rcases u1 with q | q <;> omega) hD, hu]
  have fin : ∀ F Mc, cM F Mc M → ∀ (r : Int32) (v : Nat), kv_washed Mc x m = (if v ≤ dN F then nI (dN F - v + 1) else 0) → ((nI v ≤ M 35 0 → v < 2 ^ 31 → r = (M 35 0 - nI v) + 1) ∧ (¬ nI v ≤ M 35 0 → r = 0)) → v < 2 ^ 31 → r = kv_washed Mc x m := by
    intro F Mc hc r v hk hr hv
    obtain ⟨eD, hD⟩ := kMF_dep hc.1 hc.2.2
    rw [hk]
    by_cases c : v ≤ dN F
    · rw [if_pos c, hr.1 (by rw [eD]; exact nI_le c (by omega)) hv, eD, pk_sub c, nI_1]
    · rw [if_neg c]
      exact hr.2 (by rw [eD]; exact nI_ge (by omega) (by omega))
  have e35 : ∀ k, (mWk M k) 35 = M 35 := fun k => zmr_ne _ _ _ 35 (by decide)
  have e36 : ∀ k, (mWk M k) 36 = M 36 := fun k => zmr_ne _ _ _ 36 (by decide)
  refine zEx_of _ (by decide) (by simp [Value.category]) (Nat.le_of_ble_eq_true rfl) rfl (v_X_washed_0 g X M x m _ ⟨fun h => qR_i ⟨mAg.rf, fun F Mc hc => ?_⟩, fun h => ⟨fun hm => ⟨hh.rw (hh.th h), isM_in hm, ?_⟩, fun hm => qR_i ⟨mAg.rf, fun F Mc hc => ?_⟩⟩⟩)
  · unfold kv_washed
    rw [hc.2.2.2.2.2.2.1, kIsT_F hc.1] at h
    rw [show Mc 11 5 = fT F from hc.2.1.1, if_neg (by rw [h]; decide)]
  · rw [e36, e35]
    have own : ∀ F Mc, cM F Mc M → ∃ a, mNr M x m = nI a ∧ gNr F (Int32.toNatClampNeg x) (fun i => i = Int32.toNatClampNeg m) a ∧ a ≤ 1000000 := by
      intro F Mc hc
      rw [hc.2.2.2.2.2.2.1, kIsT_F hc.1] at h
      obtain ⟨x1, x2⟩ := kIsT_n hc.1 h
      obtain ⟨m1, m2⟩ := isM_n hm
      obtain ⟨a, a1, a2⟩ := mNr_sp hc.1 hc.2.2 x1 m1
      rw [← x2, ← m2] at a1
      exact ⟨a, a1, a2, by rcases a2 with q | q <;> omega⟩
    refine ⟨fun hp => ⟨fun h1 => ⟨fun h2 => qR_i ⟨mAg.rf.wk, fun F Mc hc => ?_⟩, fun h2 => qR_i ⟨mAg.rf.wk, fun F Mc hc => ?_⟩⟩, fun h1 => ⟨fun h2 => qR_i ⟨mAg.rf.wk, fun F Mc hc => ?_⟩, fun h2 => qR_i ⟨mAg.rf.wk, fun F Mc hc => ?_⟩⟩⟩, fun hp => ⟨(mAg.rf.wk.mk hh).rw (mAg.rf.wk.th (hh.th h)), ?_⟩⟩
    · obtain ⟨eD, hD⟩ := kMF_dep hc.1 hc.2.2
      rw [eD, show (1000000 : Int32) = nI 1000000 from rfl, nI_leI (by decide) (by omega)] at h2
      omega
    · obtain ⟨a, a1, a2, a3⟩ := own F Mc hc
      obtain ⟨eD, hD⟩ := kMF_dep hc.1 hc.2.2
      rw [a1, show (1000000 : Int32) = nI 1000000 from rfl, nI_leI (by decide) (by omega)] at h1
      refine fin F Mc hc 0 a (W0 F Mc hc h hm a a1 a2 a ⟨fun _ => rfl, fun q => absurd hp q⟩) ⟨fun q _ => ?_, fun _ => rfl⟩ (by omega)
      rw [eD, nI_leI (by omega) (by omega)] at q
      omega
    · obtain ⟨a, a1, a2, a3⟩ := own F Mc hc
      rw [a1] at h2 ⊢
      exact fin F Mc hc _ a (W0 F Mc hc h hm a a1 a2 a ⟨fun _ => rfl, fun q => absurd hp q⟩) ⟨fun _ _ => rfl, fun q => absurd h2 q⟩ (by omega)
    · obtain ⟨a, a1, a2, a3⟩ := own F Mc hc
      rw [a1] at h2
      exact fin F Mc hc _ a (W0 F Mc hc h hm a a1 a2 a ⟨fun _ => rfl, fun q => absurd hp q⟩) ⟨fun q _ => absurd q h2, fun _ => rfl⟩ (by omega)
    · rw [show (mWk (mWk M (Int32.toNatClampNeg x)) (Int32.toNatClampNeg x)) 35 = M 35 from (zmr_ne _ _ _ 35 (by decide)).trans (e35 _)]
      have oth : ∀ F Mc, cM F Mc M → ∃ b, mNr (mWk M (Int32.toNatClampNeg x)) x (M 36 (Int32.toNatClampNeg m)) = nI b ∧ b ≤ 1000000 := by
        intro F Mc hc
        have h' := h
        rw [hc.2.2.2.2.2.2.1, kIsT_F hc.1] at h'
        obtain ⟨x1, x2⟩ := kIsT_n hc.1 h'
        obtain ⟨m1, m2⟩ := isM_n hm
        have e36 := kMF_p hc.1 hc.2.2 m1
        rcases hc.1.2.2.2.2.2.1 _ m1 with h6 | ⟨k, k6, kj, k1, k2⟩
        · exact absurd (by rw [e36, h6]; decide) hp
        · have hc' := cM_ag (mAg.rf.wk (n := Int32.toNatClampNeg x)) hc
          obtain ⟨b, b1, b2⟩ := mNr_sp hc.1 hc'.2.2 x1 k6
          rw [← x2] at b1
          exact ⟨b, by rw [e36, k1]; exact b1, by rcases b2 with q | q <;> omega⟩
      have ww : mAg M (mWk (mWk M (Int32.toNatClampNeg x)) (Int32.toNatClampNeg x)) := mAg.rf.wk.wk
      refine ⟨fun h1 => ⟨fun h2 => qR_i ⟨ww, fun F Mc hc => ?_⟩, fun h2 => qR_i ⟨ww, fun F Mc hc => ?_⟩⟩, fun h1 => ⟨fun h2 => qR_i ⟨ww, fun F Mc hc => ?_⟩, fun h2 => qR_i ⟨ww, fun F Mc hc => ?_⟩⟩⟩
      all_goals
        obtain ⟨a, a1, a2, a3⟩ := own F Mc hc
        obtain ⟨b, b1, b3⟩ := oth F Mc hc
        rw [a1, b1, nI_leI (by omega) (by omega)] at h1
        have W1 := fun v q => W0 F Mc hc h hm a a1 a2 v ⟨fun q => absurd q hp, q⟩
      · rw [b1] at h2 ⊢
        exact fin F Mc hc _ b (W1 b (fun _ c c1 c2 => by have := (nI_eq (by omega) (by omega)).mp (b1.symm.trans c1); subst this; rw [if_pos h1])) ⟨fun _ _ => rfl, fun q => absurd h2 q⟩ (by omega)
      · rw [b1] at h2
        exact fin F Mc hc _ b (W1 b (fun _ c c1 c2 => by have := (nI_eq (by omega) (by omega)).mp (b1.symm.trans c1); subst this; rw [if_pos h1])) ⟨fun q _ => absurd q h2, fun _ => rfl⟩ (by omega)
      · rw [a1] at h2 ⊢
        exact fin F Mc hc _ a (W1 a (fun _ c c1 c2 => by have := (nI_eq (by omega) (by omega)).mp (b1.symm.trans c1); subst this; rw [if_neg h1])) ⟨fun _ _ => rfl, fun q => absurd h2 q⟩ (by omega)
      · rw [a1] at h2
        exact fin F Mc hc _ a (W1 a (fun _ c c1 c2 => by have := (nI_eq (by omega) (by omega)).mp (b1.symm.trans c1); subst this; rw [if_neg h1])) ⟨fun q _ => absurd q h2, fun _ => rfl⟩ (by omega)
  · unfold kv_washed
    rw [hc.2.2.2.2.2.2.1, kIsT_F hc.1] at h
    rw [show Mc 11 5 = fT F from hc.2.1.1, if_pos h, if_neg (by rw [hm]; decide)]
end zQ5
section zQ4
variable {n : Nat} {P : Nat → Int32} {F : zTS} {I : Nat → Option zTS} {M : zMem} {g : Nat → Option Nat} {X : List zShp}
theorem pr_may (hok : kOk n P F I M g X) (m w : Int32) : kPr kEi 1 m_O_may m_X_may [.int m, .int w] M g X := kPr_e hok (ex_O_may g X M m w ⟨kCJ_cnt hok.2.2.1 hok.2.2.2.1, kCJ_dpt hok.2.2.1 hok.2.2.2.1⟩) (fun M1 h hc => zEx_mono (ex2_X_may g X M1 m w (kMF_mK hok.2.2.1 h.2.2.1)) (qR_w (fun _ _ q => ⟨q.1, q.2 F M hc⟩)))
theorem pr_near (hok : kOk n P F I M g X) (t m : Int32) : kPr kEi 1 m_O_near m_X_near [.int t, .int m] M g X := kPr_e hok (ex_O_near g X M t m (kCJ_cnt hok.2.2.1 hok.2.2.2.1)) (fun M1 h hc => zEx_mono (ex2_X_near g X M1 t m (kMF_mK hok.2.2.1 h.2.2.1)) (qR_w (fun _ _ q => ⟨q.1, q.2 F M hc⟩)))
theorem pr_washed (hok : kOk n P F I M g X) (t m : Int32) : kPr kEi 1 m_O_washed m_X_washed [.int t, .int m] M g X := kPr_e hok (ex_O_washed g X M t m (kCJ_cnt hok.2.2.1 hok.2.2.2.1)) (fun M1 h hc => zEx_mono (ex2_X_washed g X M1 t m (kMF_mK hok.2.2.1 h.2.2.1)) (qR_w (fun _ _ q => ⟨q.1, q.2 F M hc⟩)))
end zQ4
