/-! the reference's asking methods: they return, and only their own sheets change -/
def mAg (M M1 : zMem) : Prop := kAg [41, 42, 43, 44, 45, 46, 47, 48, 49] M M1
theorem mAg.rf {M : zMem} : mAg M M := fun _ _ => rfl
theorem mAg.tr {M M1 M2 : zMem} (h1 : mAg M M1) (h2 : mAg M1 M2) : mAg M M2 := fun p hp => (h2 p hp).trans (h1 p hp)
theorem mAg.st {M M1 : zMem} {p i : Nat} {v : Int32} (h : mAg M M1) (hp : p ∈ [41, 42, 43, 44, 45, 46, 47, 48, 49]) : mAg M (zms M1 p i v) := kAg.st h hp
theorem mAg.wk {M M1 : zMem} {n : Nat} (h : mAg M M1) : mAg M (mWk M1 n) := kAg.sr h (by decide)
theorem mAg.mt {M M1 : zMem} (h : mAg M M1) : mAg M (mTo M1) := kAg.sr h (by decide)
theorem mAg.e35 {M M1 : zMem} (h : mAg M M1) : M1 35 = M 35 := h 35 (by decide)
theorem mAg.e36 {M M1 : zMem} (h : mAg M M1) : M1 36 = M 36 := h 36 (by decide)
theorem mAg.e38 {M M1 : zMem} (h : mAg M M1) : M1 38 = M 38 := h 38 (by decide)
theorem mAg.e39 {M M1 : zMem} (h : mAg M M1) : M1 39 = M 39 := h 39 (by decide)
theorem mAg.e40 {M M1 : zMem} (h : mAg M M1) : M1 40 = M 40 := h 40 (by decide)
def mK (M : zMem) : Prop := mCnt M ∧ ∀ t, t < mTN M → ∀ k, 1 ≤ k → k ≤ 3 → M 38 (5 * t + k) < 0 ∨ ∃ a : Nat, a < t ∧ M 38 (5 * t + k) = nI a
def mTh (M : zMem) (x : Int32) : Prop := ∃ f : Nat, f < mTN M ∧ x = nI f
theorem mTN_e {M M1 : zMem} (h : M1 35 = M 35) : mTN M1 = mTN M := by unfold mTN; rw [h]
theorem mK_e {M M1 : zMem} (h : M1 35 = M 35) (h8 : M1 38 = M 38) (hk : mK M) : mK M1 := by
  refine ⟨?_, ?_⟩
  · unfold mCnt; rw [h]; exact hk.1
  · rw [mTN_e h, h8]; exact hk.2
theorem mAg.mk {M M1 : zMem} (h : mAg M M1) (hk : mK M) : mK M1 := mK_e h.e35 h.e38 hk
theorem mTh_e {M M1 : zMem} {x : Int32} (h : M1 35 = M 35) (hk : mTh M x) : mTh M1 x := by unfold mTh; rw [mTN_e h]; exact hk
theorem mAg.th {M M1 : zMem} {x : Int32} (h : mAg M M1) (hk : mTh M x) : mTh M1 x := mTh_e h.e35 hk
theorem mK.rw {M : zMem} {x : Int32} (hk : mK M) (hx : mTh M x) : mRw M x := by
  obtain ⟨f, hf, e⟩ := hx
  have h10 := (mCnt_e hk.1).2
  subst e
  refine ⟨vp_in_nI (by omega) (by decide), ?_⟩
  rw [nI_clamp (by omega)]
  intro t ht k h1 h3
  rcases hk.2 t (by omega) k h1 h3 with h | ⟨a, ha, e⟩
  · exact Or.inl h
  · rw [e]; exact Or.inr (vp_in_nI (by omega) (by decide))
theorem mK.th {M : zMem} {x : Int32} (hk : mK M) (h : inI x 0 (M 35 6 - 1) = true) : mTh M x := by
  obtain ⟨h1, h2⟩ := mCnt_e hk.1
  rw [h1, kIsT_inI h2] at h
  simp only [kIsT, Bool.and_eq_true, Bool.not_eq_true', decide_eq_false_iff_not] at h
  obtain ⟨j, hj, e2⟩ := nI_of h.1
  subst e2
  have h3 := h.2
  rw [nI_leI (by omega) hj] at h3
  exact ⟨j, by omega, rfl⟩
theorem bt6n_ex (x : Int32) (k : Nat) : ∃ c : Nat, c ≤ k ∧ bt6n x k = nI c ∧ ∀ i, i < k → hb x (nI i) = true → 0 < c := by
  induction k with
  | zero => exact ⟨0, by omega, rfl, fun i hi => absurd hi (by omega)⟩
  | succ k ih =>
    obtain ⟨c, hc, e, h⟩ := ih
    obtain ⟨j, hj, ej⟩ := pk_andE (x >>> (nI k &&& 31)) (m := 1) 1 rfl
    have hj2 : j = 0 ∨ j = 1 := by omega
    refine ⟨c + j, by omega, ?_, fun i hi hb1 => ?_⟩
    · simp only [bt6n, e, ej, nI_add]
    · rcases Nat.lt_or_ge i k with q | q
      · have := h i q hb1; omega
      · have ei : i = k := by omega
        subst ei
        rcases hj2 with r | r
        · subst r
          simp only [hb, ej] at hb1
          exact absurd hb1 (by decide)
        · omega
theorem bt6_ex (x : Int32) : ∃ c : Nat, c ≤ 6 ∧ bt6 x = nI c ∧ ∀ m, vp_in m 6 → hb x m = true → 0 < c := by
  obtain ⟨c, hc, e, h⟩ := bt6n_ex x 6
  refine ⟨c, hc, e, fun m hm h1 => ?_⟩
  obtain ⟨f, hf, ef⟩ := vp_in_of hm (by decide)
  subst ef
  exact h f hf h1
section zX4
variable (g : Nat → Option Nat) (X : List zShp) (M : zMem)
theorem v_X_shareOf_0 (g : Nat → Option Nat) (X : List zShp) (M : zMem) (x1 x2 : Int32) (R : zEnd) (h : zRT m_X_shareOf 0 0 2 [(0, .ref 35), (1, .int x1), (2, .int x2), (3, .int 0)] [] (SHP g X) M R) : zRT m_X_shareOf 0 0 0 [(0, .ref 35), (1, .int x1), (2, .int x2)] [] (SHP g X) M R := by
  refine zs_iconst 0 d_X_shareOf_0 (by decide) ?_
  refine zs_istore_n2 3 [1, 2, 3, 0] [(0, .ref 35), (1, .int x1), (2, .int x2), (3, .int 0)] d_X_shareOf_1 rfl (by decide) rfl ?_
  exact h
theorem v_X_shareOf_2 (g : Nat → Option Nat) (X : List zShp) (M : zMem) (x1 x2 x3 : Int32) (R : zEnd) (h : ((x1 < x3) → ((vp_in x1 10) ∧ (R (some (.int (M 43 (Int32.toNatClampNeg x1)))) (SHP g X) M))) ∧ ((¬ x1 < x3) → ((vp_in (((5 : Int32) * x3) + 1) 50) ∧ ((vp_in (((5 : Int32) * x3) + 2) 50) ∧ ((vp_in ((5 : Int32) * x3) 50) ∧ ((((hb (M 38 (Int32.toNatClampNeg ((5 : Int32) * x3))) x2) = false) → (((0 ≤ (M 38 (Int32.toNatClampNeg (((5 : Int32) * x3) + 1)))) → (((0 ≤ (M 38 (Int32.toNatClampNeg (((5 : Int32) * x3) + 2)))) → ((vp_in (M 38 (Int32.toNatClampNeg (((5 : Int32) * x3) + 1))) 10) ∧ ((vp_in (M 38 (Int32.toNatClampNeg (((5 : Int32) * x3) + 2))) 10) ∧ ((vp_in x3 10) ∧ (zRT m_X_shareOf 0 0 2 [(0, .ref 35), (1, .int x1), (2, .int x2), (3, .int (x3 + 1))] [] (SHP g X) (zms M 43 (Int32.toNatClampNeg x3) (((M 43 (Int32.toNatClampNeg (M 38 (Int32.toNatClampNeg (((5 : Int32) * x3) + 1))))) + (M 43 (Int32.toNatClampNeg (M 38 (Int32.toNatClampNeg (((5 : Int32) * x3) + 2)))))) / 2)) R))))) ∧ ((¬ 0 ≤ (M 38 (Int32.toNatClampNeg (((5 : Int32) * x3) + 2)))) → ((vp_in (M 38 (Int32.toNatClampNeg (((5 : Int32) * x3) + 1))) 10) ∧ ((vp_in x3 10) ∧ (zRT m_X_shareOf 0 0 2 [(0, .ref 35), (1, .int x1), (2, .int x2), (3, .int (x3 + 1))] [] (SHP g X) (zms M 43 (Int32.toNatClampNeg x3) (M 43 (Int32.toNatClampNeg (M 38 (Int32.toNatClampNeg (((5 : Int32) * x3) + 1)))))) R)))))) ∧ ((¬ 0 ≤ (M 38 (Int32.toNatClampNeg (((5 : Int32) * x3) + 1)))) → ((vp_in x3 10) ∧ (zRT m_X_shareOf 0 0 2 [(0, .ref 35), (1, .int x1), (2, .int x2), (3, .int (x3 + 1))] [] (SHP g X) (zms M 43 (Int32.toNatClampNeg x3) 0) R))))) ∧ (((hb (M 38 (Int32.toNatClampNeg ((5 : Int32) * x3))) x2) = true) → ((¬ (bt6 (M 38 (Int32.toNatClampNeg ((5 : Int32) * x3)))) = 0) ∧ (((0 ≤ (M 38 (Int32.toNatClampNeg (((5 : Int32) * x3) + 1)))) → (((0 ≤ (M 38 (Int32.toNatClampNeg (((5 : Int32) * x3) + 2)))) → ((vp_in (M 38 (Int32.toNatClampNeg (((5 : Int32) * x3) + 1))) 10) ∧ ((vp_in (M 38 (Int32.toNatClampNeg (((5 : Int32) * x3) + 2))) 10) ∧ ((vp_in x3 10) ∧ (zRT m_X_shareOf 0 0 2 [(0, .ref 35), (1, .int x1), (2, .int x2), (3, .int (x3 + 1))] [] (SHP g X) (zms M 43 (Int32.toNatClampNeg x3) (((M 43 (Int32.toNatClampNeg (M 38 (Int32.toNatClampNeg (((5 : Int32) * x3) + 1))))) + (M 43 (Int32.toNatClampNeg (M 38 (Int32.toNatClampNeg (((5 : Int32) * x3) + 2)))))) / 2)) R))))) ∧ ((¬ 0 ≤ (M 38 (Int32.toNatClampNeg (((5 : Int32) * x3) + 2)))) → ((vp_in (M 38 (Int32.toNatClampNeg (((5 : Int32) * x3) + 1))) 10) ∧ ((vp_in x3 10) ∧ (zRT m_X_shareOf 0 0 2 [(0, .ref 35), (1, .int x1), (2, .int x2), (3, .int (x3 + 1))] [] (SHP g X) (zms M 43 (Int32.toNatClampNeg x3) (M 43 (Int32.toNatClampNeg (M 38 (Int32.toNatClampNeg (((5 : Int32) * x3) + 1)))))) R)))))) ∧ ((¬ 0 ≤ (M 38 (Int32.toNatClampNeg (((5 : Int32) * x3) + 1)))) → ((vp_in x3 10) ∧ (zRT m_X_shareOf 0 0 2 [(0, .ref 35), (1, .int x1), (2, .int x2), (3, .int (x3 + 1))] [] (SHP g X) (zms M 43 (Int32.toNatClampNeg x3) ((3072 : Int32) / (bt6 (M 38 (Int32.toNatClampNeg ((5 : Int32) * x3)))))) R)))))))))))) : zRT m_X_shareOf 0 0 2 [(0, .ref 35), (1, .int x1), (2, .int x2), (3, .int x3)] [] (SHP g X) M R := by
  refine zs_iload_n 3 d_X_shareOf_2 rfl (List.mem_of_getElem? (i := 3) rfl) ?_
  refine zs_iload_n 1 d_X_shareOf_3 rfl (List.mem_of_getElem? (i := 1) rfl) ?_
  refine zs_icmp_gt 121 d_X_shareOf_4 (by decide) (fun c1 => ?_) (fun c1 => ?_)
  · replace h := h.1 c1
    refine zs_aload_n 0 d_X_shareOf_121 rfl (List.mem_of_getElem? (i := 0) rfl) ?_
    refine zs_get d_X_shareOf_122 gf_X_38 (sh_35 g X) rfl ?_
    refine zs_iload_n 1 d_X_shareOf_125 rfl (List.mem_of_getElem? (i := 1) rfl) ?_
    obtain ⟨b2, h⟩ := h
    refine zs_iald d_X_shareOf_126 (sh_43 g X) b2 ?_
    exact zs_iret d_X_shareOf_127 rfl h
  · replace h := h.2 c1
    refine zs_aload_n 0 d_X_shareOf_7 rfl (List.mem_of_getElem? (i := 0) rfl) ?_
    refine zs_get d_X_shareOf_8 gf_X_23 (sh_35 g X) rfl ?_
    refine zs_iconst 5 d_X_shareOf_11 (by decide) ?_
    refine zs_iload_n 3 d_X_shareOf_12 rfl (List.mem_of_getElem? (i := 3) rfl) ?_
    refine zs_imul d_X_shareOf_13 ?_
    refine zs_iconst 1 d_X_shareOf_14 (by decide) ?_
    refine zs_iadd d_X_shareOf_15 ?_
    obtain ⟨b3, h⟩ := h
    refine zs_iald d_X_shareOf_16 (sh_38 g X) b3 ?_
    refine zs_istore2 [1, 2, 3, 4, 0] [(0, .ref 35), (1, .int x1), (2, .int x2), (3, .int x3), (4, .int (M 38 (Int32.toNatClampNeg (((5 : Int32) * x3) + 1))))] d_X_shareOf_17 (by decide) rfl ?_
    refine zs_aload_n 0 d_X_shareOf_19 rfl (List.mem_of_getElem? (i := 0) rfl) ?_
    refine zs_get d_X_shareOf_20 gf_X_23 (sh_35 g X) rfl ?_
    refine zs_iconst 5 d_X_shareOf_23 (by decide) ?_
    refine zs_iload_n 3 d_X_shareOf_24 rfl (List.mem_of_getElem? (i := 3) rfl) ?_
    refine zs_imul d_X_shareOf_25 ?_
    refine zs_iconst 2 d_X_shareOf_26 (by decide) ?_
    refine zs_iadd d_X_shareOf_27 ?_
    obtain ⟨b4, h⟩ := h
    refine zs_iald d_X_shareOf_28 (sh_38 g X) b4 ?_
    refine zs_istore2 [1, 2, 3, 4, 5, 0] [(0, .ref 35), (1, .int x1), (2, .int x2), (3, .int x3), (4, .int (M 38 (Int32.toNatClampNeg (((5 : Int32) * x3) + 1)))), (5, .int (M 38 (Int32.toNatClampNeg (((5 : Int32) * x3) + 2))))] d_X_shareOf_29 (by decide) rfl ?_
    refine zs_aload_n 0 d_X_shareOf_31 rfl (List.mem_of_getElem? (i := 0) rfl) ?_
    refine zs_get d_X_shareOf_32 gf_X_23 (sh_35 g X) rfl ?_
    refine zs_iconst 5 d_X_shareOf_35 (by decide) ?_
    refine zs_iload_n 3 d_X_shareOf_36 rfl (List.mem_of_getElem? (i := 3) rfl) ?_
    refine zs_imul d_X_shareOf_37 ?_
    obtain ⟨b5, h⟩ := h
    refine zs_iald d_X_shareOf_38 (sh_38 g X) b5 ?_
    refine zs_iload_n 2 d_X_shareOf_39 rfl (List.mem_of_getElem? (i := 2) rfl) ?_
    refine zs_callS (kc := 0) (ks := 0) (kc1 := 0) (ks1 := 0) (st := []) [.int (M 38 (Int32.toNatClampNeg ((5 : Int32) * x3))), .int x2] d_X_shareOf_40 lk_X_98 ⟨by decide, by decide⟩ rfl (Nat.le_of_ble_eq_true rfl) (ex_X_has g X M (M 38 (Int32.toNatClampNeg ((5 : Int32) * x3))) x2) (fun v6 sh6 M6 hR => ?_)
    obtain ⟨rfl, rfl, rfl⟩ := hR
    refine zs_if_eq 64 d_X_shareOf_43 (by decide) (fun c7 => ?_) (fun c7 => ?_)
    · replace h := h.1 (bI_0 c7)
      refine zs_iconst 0 d_X_shareOf_64 (by decide) ?_
      refine zs_istore2 [1, 2, 3, 4, 5, 6, 0] [(0, .ref 35), (1, .int x1), (2, .int x2), (3, .int x3), (4, .int (M 38 (Int32.toNatClampNeg (((5 : Int32) * x3) + 1)))), (5, .int (M 38 (Int32.toNatClampNeg (((5 : Int32) * x3) + 2)))), (6, .int 0)] d_X_shareOf_65 (by decide) rfl ?_
      refine zs_aload_n 0 d_X_shareOf_67 rfl (List.mem_of_getElem? (i := 0) rfl) ?_
      refine zs_get d_X_shareOf_68 gf_X_38 (sh_35 g X) rfl ?_
      refine zs_iload_n 3 d_X_shareOf_71 rfl (List.mem_of_getElem? (i := 3) rfl) ?_
      refine zs_iload d_X_shareOf_72 (List.mem_of_getElem? (i := 4) rfl) ?_
      refine zs_if_ge 82 d_X_shareOf_74 (by decide) (fun c8 => ?_) (fun c8 => ?_)
      · replace h := h.1 c8
        refine zs_iload d_X_shareOf_82 (List.mem_of_getElem? (i := 5) rfl) ?_
        refine zs_if_ge 97 d_X_shareOf_84 (by decide) (fun c9 => ?_) (fun c9 => ?_)
        · replace h := h.1 c9
          refine zs_aload_n 0 d_X_shareOf_97 rfl (List.mem_of_getElem? (i := 0) rfl) ?_
          refine zs_get d_X_shareOf_98 gf_X_38 (sh_35 g X) rfl ?_
          refine zs_iload d_X_shareOf_101 (List.mem_of_getElem? (i := 4) rfl) ?_
          obtain ⟨b10, h⟩ := h
          refine zs_iald d_X_shareOf_103 (sh_43 g X) b10 ?_
          refine zs_aload_n 0 d_X_shareOf_104 rfl (List.mem_of_getElem? (i := 0) rfl) ?_
          refine zs_get d_X_shareOf_105 gf_X_38 (sh_35 g X) rfl ?_
          refine zs_iload d_X_shareOf_108 (List.mem_of_getElem? (i := 5) rfl) ?_
          obtain ⟨b11, h⟩ := h
          refine zs_iald d_X_shareOf_110 (sh_43 g X) b11 ?_
          refine zs_iadd d_X_shareOf_111 ?_
          refine zs_iconst 2 d_X_shareOf_112 (by decide) ?_
          refine zs_idiv d_X_shareOf_113 (by decide) ?_
          obtain ⟨b12, h⟩ := h
          refine zs_iast d_X_shareOf_114 (sh_43 g X) b12 ?_
          refine zs_iinc2 3 (x3 + 1) [1, 2, 3, 0, 4, 5, 6] [(0, .ref 35), (1, .int x1), (2, .int x2), (3, .int (x3 + 1)), (4, .int (M 38 (Int32.toNatClampNeg (((5 : Int32) * x3) + 1)))), (5, .int (M 38 (Int32.toNatClampNeg (((5 : Int32) * x3) + 2)))), (6, .int 0)] d_X_shareOf_115 rfl rfl (by decide) rfl ?_
          refine zs_goto 2 d_X_shareOf_118 (by decide) ?_
          exact zRT_sub [0, 1, 2, 3] rfl h
        · replace h := h.2 c9
          refine zs_aload_n 0 d_X_shareOf_87 rfl (List.mem_of_getElem? (i := 0) rfl) ?_
          refine zs_get d_X_shareOf_88 gf_X_38 (sh_35 g X) rfl ?_
          refine zs_iload d_X_shareOf_91 (List.mem_of_getElem? (i := 4) rfl) ?_
          obtain ⟨b13, h⟩ := h
          refine zs_iald d_X_shareOf_93 (sh_43 g X) b13 ?_
          refine zs_goto 114 d_X_shareOf_94 (by decide) ?_
          obtain ⟨b14, h⟩ := h
          refine zs_iast d_X_shareOf_114 (sh_43 g X) b14 ?_
          refine zs_iinc2 3 (x3 + 1) [1, 2, 3, 0, 4, 5, 6] [(0, .ref 35), (1, .int x1), (2, .int x2), (3, .int (x3 + 1)), (4, .int (M 38 (Int32.toNatClampNeg (((5 : Int32) * x3) + 1)))), (5, .int (M 38 (Int32.toNatClampNeg (((5 : Int32) * x3) + 2)))), (6, .int 0)] d_X_shareOf_115 rfl rfl (by decide) rfl ?_
          refine zs_goto 2 d_X_shareOf_118 (by decide) ?_
          exact zRT_sub [0, 1, 2, 3] rfl h
      · replace h := h.2 c8
        refine zs_iload d_X_shareOf_77 (List.mem_of_getElem? (i := 6) rfl) ?_
        refine zs_goto 114 d_X_shareOf_79 (by decide) ?_
        obtain ⟨b15, h⟩ := h
        refine zs_iast d_X_shareOf_114 (sh_43 g X) b15 ?_
        refine zs_iinc2 3 (x3 + 1) [1, 2, 3, 0, 4, 5, 6] [(0, .ref 35), (1, .int x1), (2, .int x2), (3, .int (x3 + 1)), (4, .int (M 38 (Int32.toNatClampNeg (((5 : Int32) * x3) + 1)))), (5, .int (M 38 (Int32.toNatClampNeg (((5 : Int32) * x3) + 2)))), (6, .int 0)] d_X_shareOf_115 rfl rfl (by decide) rfl ?_
        refine zs_goto 2 d_X_shareOf_118 (by decide) ?_
        exact zRT_sub [0, 1, 2, 3] rfl h
    · replace h := h.2 (bI_1 c7)
      refine zs_sipush 3072 d_X_shareOf_46 (by decide) ?_
      refine zs_aload_n 0 d_X_shareOf_49 rfl (List.mem_of_getElem? (i := 0) rfl) ?_
      refine zs_get d_X_shareOf_50 gf_X_23 (sh_35 g X) rfl ?_
      refine zs_iconst 5 d_X_shareOf_53 (by decide) ?_
      refine zs_iload_n 3 d_X_shareOf_54 rfl (List.mem_of_getElem? (i := 3) rfl) ?_
      refine zs_imul d_X_shareOf_55 ?_
      refine zs_iald d_X_shareOf_56 (sh_38 g X) b5 ?_
      refine zs_callS (kc := 0) (ks := 0) (kc1 := 0) (ks1 := 0) (st := [.int 3072]) [.int (M 38 (Int32.toNatClampNeg ((5 : Int32) * x3)))] d_X_shareOf_57 lk_X_109 ⟨by decide, by decide⟩ rfl (Nat.le_of_ble_eq_true rfl) (ex_X_bits g X M (M 38 (Int32.toNatClampNeg ((5 : Int32) * x3)))) (fun v16 sh16 M16 hR => ?_)
      obtain ⟨rfl, rfl, rfl⟩ := hR
      obtain ⟨h0, h⟩ := h
      refine zs_idiv d_X_shareOf_60 h0 ?_
      refine zs_goto 65 d_X_shareOf_61 (by decide) ?_
      refine zs_istore2 [1, 2, 3, 4, 5, 6, 0] [(0, .ref 35), (1, .int x1), (2, .int x2), (3, .int x3), (4, .int (M 38 (Int32.toNatClampNeg (((5 : Int32) * x3) + 1)))), (5, .int (M 38 (Int32.toNatClampNeg (((5 : Int32) * x3) + 2)))), (6, .int ((3072 : Int32) / (bt6 (M 38 (Int32.toNatClampNeg ((5 : Int32) * x3))))))] d_X_shareOf_65 (by decide) rfl ?_
      refine zs_aload_n 0 d_X_shareOf_67 rfl (List.mem_of_getElem? (i := 0) rfl) ?_
      refine zs_get d_X_shareOf_68 gf_X_38 (sh_35 g X) rfl ?_
      refine zs_iload_n 3 d_X_shareOf_71 rfl (List.mem_of_getElem? (i := 3) rfl) ?_
      refine zs_iload d_X_shareOf_72 (List.mem_of_getElem? (i := 4) rfl) ?_
      refine zs_if_ge 82 d_X_shareOf_74 (by decide) (fun c17 => ?_) (fun c17 => ?_)
      · replace h := h.1 c17
        refine zs_iload d_X_shareOf_82 (List.mem_of_getElem? (i := 5) rfl) ?_
        refine zs_if_ge 97 d_X_shareOf_84 (by decide) (fun c18 => ?_) (fun c18 => ?_)
        · replace h := h.1 c18
          refine zs_aload_n 0 d_X_shareOf_97 rfl (List.mem_of_getElem? (i := 0) rfl) ?_
          refine zs_get d_X_shareOf_98 gf_X_38 (sh_35 g X) rfl ?_
          refine zs_iload d_X_shareOf_101 (List.mem_of_getElem? (i := 4) rfl) ?_
          obtain ⟨b19, h⟩ := h
          refine zs_iald d_X_shareOf_103 (sh_43 g X) b19 ?_
          refine zs_aload_n 0 d_X_shareOf_104 rfl (List.mem_of_getElem? (i := 0) rfl) ?_
          refine zs_get d_X_shareOf_105 gf_X_38 (sh_35 g X) rfl ?_
          refine zs_iload d_X_shareOf_108 (List.mem_of_getElem? (i := 5) rfl) ?_
          obtain ⟨b20, h⟩ := h
          refine zs_iald d_X_shareOf_110 (sh_43 g X) b20 ?_
          refine zs_iadd d_X_shareOf_111 ?_
          refine zs_iconst 2 d_X_shareOf_112 (by decide) ?_
          refine zs_idiv d_X_shareOf_113 (by decide) ?_
          obtain ⟨b21, h⟩ := h
          refine zs_iast d_X_shareOf_114 (sh_43 g X) b21 ?_
          refine zs_iinc2 3 (x3 + 1) [1, 2, 3, 0, 4, 5, 6] [(0, .ref 35), (1, .int x1), (2, .int x2), (3, .int (x3 + 1)), (4, .int (M 38 (Int32.toNatClampNeg (((5 : Int32) * x3) + 1)))), (5, .int (M 38 (Int32.toNatClampNeg (((5 : Int32) * x3) + 2)))), (6, .int ((3072 : Int32) / (bt6 (M 38 (Int32.toNatClampNeg ((5 : Int32) * x3))))))] d_X_shareOf_115 rfl rfl (by decide) rfl ?_
          refine zs_goto 2 d_X_shareOf_118 (by decide) ?_
          exact zRT_sub [0, 1, 2, 3] rfl h
        · replace h := h.2 c18
          refine zs_aload_n 0 d_X_shareOf_87 rfl (List.mem_of_getElem? (i := 0) rfl) ?_
          refine zs_get d_X_shareOf_88 gf_X_38 (sh_35 g X) rfl ?_
          refine zs_iload d_X_shareOf_91 (List.mem_of_getElem? (i := 4) rfl) ?_
          obtain ⟨b22, h⟩ := h
          refine zs_iald d_X_shareOf_93 (sh_43 g X) b22 ?_
          refine zs_goto 114 d_X_shareOf_94 (by decide) ?_
          obtain ⟨b23, h⟩ := h
          refine zs_iast d_X_shareOf_114 (sh_43 g X) b23 ?_
          refine zs_iinc2 3 (x3 + 1) [1, 2, 3, 0, 4, 5, 6] [(0, .ref 35), (1, .int x1), (2, .int x2), (3, .int (x3 + 1)), (4, .int (M 38 (Int32.toNatClampNeg (((5 : Int32) * x3) + 1)))), (5, .int (M 38 (Int32.toNatClampNeg (((5 : Int32) * x3) + 2)))), (6, .int ((3072 : Int32) / (bt6 (M 38 (Int32.toNatClampNeg ((5 : Int32) * x3))))))] d_X_shareOf_115 rfl rfl (by decide) rfl ?_
          refine zs_goto 2 d_X_shareOf_118 (by decide) ?_
          exact zRT_sub [0, 1, 2, 3] rfl h
      · replace h := h.2 c17
        refine zs_iload d_X_shareOf_77 (List.mem_of_getElem? (i := 6) rfl) ?_
        refine zs_goto 114 d_X_shareOf_79 (by decide) ?_
        obtain ⟨b24, h⟩ := h
        refine zs_iast d_X_shareOf_114 (sh_43 g X) b24 ?_
        refine zs_iinc2 3 (x3 + 1) [1, 2, 3, 0, 4, 5, 6] [(0, .ref 35), (1, .int x1), (2, .int x2), (3, .int (x3 + 1)), (4, .int (M 38 (Int32.toNatClampNeg (((5 : Int32) * x3) + 1)))), (5, .int (M 38 (Int32.toNatClampNeg (((5 : Int32) * x3) + 2)))), (6, .int ((3072 : Int32) / (bt6 (M 38 (Int32.toNatClampNeg ((5 : Int32) * x3))))))] d_X_shareOf_115 rfl rfl (by decide) rfl ?_
        refine zs_goto 2 d_X_shareOf_118 (by decide) ?_
        exact zRT_sub [0, 1, 2, 3] rfl h
theorem ex_X_shareOf (x m : Int32) (hh : mK M ∧ mTh M x ∧ vp_in m 6) : zEx m_X_shareOf 0 0 [.ref 35, .int x, .int m] (SHP g X) M (qR g X (fun r M2 => mAg M M2 ∧ ∃ n : Nat, n ≤ 3072 ∧ r = nI n)) := by
  refine zEx_of _ (by decide) (by simp [Value.category]) (Nat.le_of_ble_eq_true rfl) rfl (v_X_shareOf_0 g X M x m _ ?_)
  obtain ⟨hk, ⟨f, hf, ex⟩, hm⟩ := hh
  have h10 := (mCnt_e hk.1).2
  have L : ∀ d k M1, k + d = f + 1 → mAg M M1 → (∀ j, j < k → ∃ n : Nat, n ≤ 3072 ∧ M1 43 j = nI n) → zRT m_X_shareOf 0 0 2 [(0, .ref 35), (1, .int x), (2, .int m), (3, .int (nI k))] [] (SHP g X) M1 (qR g X (fun r M2 => mAg M M2 ∧ ∃ n : Nat, n ≤ 3072 ∧ r = nI n)) := by
    intro d
    induction d with
    | zero =>
      intro k M1 hkd ha hs
      have e : k = f + 1 := by omega
      subst e
      refine v_X_shareOf_2 g X _ _ _ _ _ ⟨fun _ => ⟨by rw [ex]; exact vp_in_nI (by omega) (by decide), qR_i ⟨ha, ?_⟩⟩, fun h => absurd (by rw [ex]; exact nI_lt (by omega) (by omega)) h⟩
      rw [ex, nI_clamp (by omega)]
      exact hs f (by omega)
    | succ d ih =>
      intro k M1 hkd ha hs
      have nx : ∀ n : Nat, n ≤ 3072 → zRT m_X_shareOf 0 0 2 [(0, .ref 35), (1, .int x), (2, .int m), (3, .int (nI (k + 1)))] [] (SHP g X) (zms M1 43 k (nI n)) (qR g X (fun r M2 => mAg M M2 ∧ ∃ n : Nat, n ≤ 3072 ∧ r = nI n)) := by
        intro n hn
        refine ih (k + 1) _ (by omega) (ha.st (by decide)) (fun j hj => ?_)
        by_cases q : j = k
        · exact ⟨n, hn, by rw [q, zms_row]; exact pk_us⟩
        · obtain ⟨n2, h2, e2⟩ := hs j (by omega)
          exact ⟨n2, h2, by rw [zms_row, pk_un q]; exact e2⟩
      refine v_X_shareOf_2 g X _ _ _ _ _ ⟨fun h => absurd h (by rw [ex]; exact nI_nlt (by omega) (by omega)), fun _ => ?_⟩
      rw [nI_1, nI_51, nI_52, nI_50, nI_clamp (by omega), nI_clamp (by omega), nI_clamp (by omega), nI_clamp (by omega), ha.e38]
      obtain ⟨c, hc6, ec, hc⟩ := bt6_ex (M 38 (5 * k))
      have r1 : 0 ≤ M 38 (5 * k + 1) → ∃ a n : Nat, a < k ∧ M 38 (5 * k + 1) = nI a ∧ n ≤ 3072 ∧ M1 43 a = nI n := by
        intro h
        rcases hk.2 k (by omega) 1 (by omega) (by omega) with q | ⟨a, ha2, e⟩
        · exact absurd q (Int32.not_lt.mpr h)
        · obtain ⟨n, hn, en⟩ := hs a ha2
          exact ⟨a, n, ha2, e, hn, en⟩
      have r2 : 0 ≤ M 38 (5 * k + 2) → ∃ a n : Nat, a < k ∧ M 38 (5 * k + 2) = nI a ∧ n ≤ 3072 ∧ M1 43 a = nI n := by
        intro h
        rcases hk.2 k (by omega) 2 (by omega) (by omega) with q | ⟨a, ha2, e⟩
        · exact absurd q (Int32.not_lt.mpr h)
        · obtain ⟨n, hn, en⟩ := hs a ha2
          exact ⟨a, n, ha2, e, hn, en⟩
      have k10 : vp_in (nI k) 10 := vp_in_nI (by omega) (by decide)
      have two : 0 ≤ M 38 (5 * k + 1) → 0 ≤ M 38 (5 * k + 2) → vp_in (M 38 (5 * k + 1)) 10 ∧ vp_in (M 38 (5 * k + 2)) 10 ∧ vp_in (nI k) 10 ∧ zRT m_X_shareOf 0 0 2 [(0, .ref 35), (1, .int x), (2, .int m), (3, .int (nI (k + 1)))] [] (SHP g X) (zms M1 43 k ((M1 43 (Int32.toNatClampNeg (M 38 (5 * k + 1))) + M1 43 (Int32.toNatClampNeg (M 38 (5 * k + 2)))) / 2)) (qR g X (fun r M2 => mAg M M2 ∧ ∃ n : Nat, n ≤ 3072 ∧ r = nI n)) := by
        intro h1 h2
        obtain ⟨a, n, ha2, ea, hn, en⟩ := r1 h1
        obtain ⟨a', n', ha2', ea', hn', en'⟩ := r2 h2
        rw [ea, ea', nI_clamp (by omega), nI_clamp (by omega), en, en', nI_add, show (2 : Int32) = nI 2 from rfl, pk_div (by omega) (by omega) (by omega)]
        exact ⟨vp_in_nI (by omega) (by decide), vp_in_nI (by omega) (by decide), k10, nx _ (by omega)⟩
      have one : 0 ≤ M 38 (5 * k + 1) → vp_in (M 38 (5 * k + 1)) 10 ∧ vp_in (nI k) 10 ∧ zRT m_X_shareOf 0 0 2 [(0, .ref 35), (1, .int x), (2, .int m), (3, .int (nI (k + 1)))] [] (SHP g X) (zms M1 43 k (M1 43 (Int32.toNatClampNeg (M 38 (5 * k + 1))))) (qR g X (fun r M2 => mAg M M2 ∧ ∃ n : Nat, n ≤ 3072 ∧ r = nI n)) := by
        intro h1
        obtain ⟨a, n, ha2, ea, hn, en⟩ := r1 h1
        rw [ea, nI_clamp (by omega), en]
        exact ⟨vp_in_nI (by omega) (by decide), k10, nx _ hn⟩
      refine ⟨vp_in_nI (by omega) (by decide), vp_in_nI (by omega) (by decide), vp_in_nI (by omega) (by decide), fun hb1 => ⟨fun h1 => ⟨fun h2 => two h1 h2, fun _ => one h1⟩, fun _ => ⟨k10, nx 0 (by omega)⟩⟩, fun hb1 => ?_⟩
      have c0 := hc m hm hb1
      refine ⟨by rw [ec]; exact nI_ne0 c0 (by omega), fun h1 => ⟨fun h2 => two h1 h2, fun _ => one h1⟩, fun _ => ⟨k10, ?_⟩⟩
      rw [ec, show (3072 : Int32) = nI 3072 from rfl, pk_div (by omega) c0 (by omega)]
      exact nx _ (Nat.div_le_self _ _)
  exact L (f + 1) 0 M (by omega) mAg.rf (fun j hj => absurd hj (by omega))
theorem v_X_byTenths_0 (g : Nat → Option Nat) (X : List zShp) (M : zMem) (x1 : Int32) (R : zEnd) (h : zRT m_X_byTenths 0 0 4 [(0, .ref 35), (1, .int x1), (2, .int 0), (3, .int 0)] [] (SHP g X) M R) : zRT m_X_byTenths 0 0 0 [(0, .ref 35), (1, .int x1)] [] (SHP g X) M R := by
  refine zs_iconst 0 d_X_byTenths_0 (by decide) ?_
  refine zs_istore_n2 2 [1, 2, 0] [(0, .ref 35), (1, .int x1), (2, .int 0)] d_X_byTenths_1 rfl (by decide) rfl ?_
  refine zs_iconst 0 d_X_byTenths_2 (by decide) ?_
  refine zs_istore_n2 3 [1, 2, 3, 0] [(0, .ref 35), (1, .int x1), (2, .int 0), (3, .int 0)] d_X_byTenths_3 rfl (by decide) rfl ?_
  exact h
theorem v_X_byTenths_4 (g : Nat → Option Nat) (X : List zShp) (M : zMem) (x1 x2 x3 : Int32) (R : zEnd) (h : ((6 ≤ x3) → (R (some (.int (mWP M x2))) (SHP g X) M)) ∧ ((¬ 6 ≤ x3) → ((mK M ∧ mTh M x1 ∧ vp_in x3 6) ∧ (∀ (r3 : Int32) (M3 : zMem), (mAg M M3 ∧ ∃ n : Nat, n ≤ 3072 ∧ r3 = nI n) → (((r3 ≤ 0) → (zRT m_X_byTenths 0 0 4 [(0, .ref 35), (1, .int x1), (2, .int (x2 ||| 0)), (3, .int (x3 + 1))] [] (SHP g X) M3 R)) ∧ ((¬ r3 ≤ 0) → (((((10 : Int32) * r3) < ((M3 35 2) * 3072)) → (zRT m_X_byTenths 0 0 4 [(0, .ref 35), (1, .int x1), (2, .int (x2 ||| 0)), (3, .int (x3 + 1))] [] (SHP g X) M3 R)) ∧ ((¬ ((10 : Int32) * r3) < ((M3 35 2) * 3072)) → (zRT m_X_byTenths 0 0 4 [(0, .ref 35), (1, .int x1), (2, .int (x2 ||| ((1 : Int32) <<< (x3 &&& 31)))), (3, .int (x3 + 1))] [] (SHP g X) M3 R))))))))) : zRT m_X_byTenths 0 0 4 [(0, .ref 35), (1, .int x1), (2, .int x2), (3, .int x3)] [] (SHP g X) M R := by
  refine zs_iload_n 3 d_X_byTenths_4 rfl (List.mem_of_getElem? (i := 3) rfl) ?_
  refine zs_bipush 6 d_X_byTenths_5 (by decide) ?_
  refine zs_icmp_ge 55 d_X_byTenths_7 (by decide) (fun c1 => ?_) (fun c1 => ?_)
  · replace h := h.1 c1
    refine zs_aload_n 0 d_X_byTenths_55 rfl (List.mem_of_getElem? (i := 0) rfl) ?_
    refine zs_iload_n 2 d_X_byTenths_56 rfl (List.mem_of_getElem? (i := 2) rfl) ?_
    refine zs_callV (kc := 0) (ks := 0) (kc1 := 0) (ks1 := 0) (st := []) [.int x2] d_X_byTenths_57 lk_X_106 ⟨by decide, by decide⟩ rfl (sh_35 g X) rfl (Nat.le_of_ble_eq_true rfl) (ex_X_withPartners g X M x2) (fun v2 sh2 M2 hR => ?_)
    obtain ⟨rfl, rfl, rfl⟩ := hR
    exact zs_iret d_X_byTenths_60 rfl h
  · replace h := h.2 c1
    refine zs_aload_n 0 d_X_byTenths_10 rfl (List.mem_of_getElem? (i := 0) rfl) ?_
    refine zs_iload_n 1 d_X_byTenths_11 rfl (List.mem_of_getElem? (i := 1) rfl) ?_
    refine zs_iload_n 3 d_X_byTenths_12 rfl (List.mem_of_getElem? (i := 3) rfl) ?_
    obtain ⟨p3, h⟩ := h
    refine zs_callV (kc := 0) (ks := 0) (kc1 := 0) (ks1 := 0) (st := []) [.int x1, .int x3] d_X_byTenths_13 lk_X_112 ⟨by decide, by decide⟩ rfl (sh_35 g X) rfl (Nat.le_of_ble_eq_true rfl) (ex_X_shareOf g X M x1 x3 p3) (fun v3 sh3 M3 hR => ?_)
    obtain ⟨r3, rfl, rfl, hq3⟩ := hR
    replace h := h r3 M3 hq3
    refine zs_istore2 [1, 2, 3, 4, 0] [(0, .ref 35), (1, .int x1), (2, .int x2), (3, .int x3), (4, .int r3)] d_X_byTenths_16 (by decide) rfl ?_
    refine zs_iload_n 2 d_X_byTenths_18 rfl (List.mem_of_getElem? (i := 2) rfl) ?_
    refine zs_iload d_X_byTenths_19 (List.mem_of_getElem? (i := 4) rfl) ?_
    refine zs_if_le 46 d_X_byTenths_21 (by decide) (fun c4 => ?_) (fun c4 => ?_)
    · replace h := h.1 c4
      refine zs_iconst 0 d_X_byTenths_46 (by decide) ?_
      refine zs_ior d_X_byTenths_47 ?_
      refine zs_istore_n2 2 [1, 2, 0, 3, 4] [(0, .ref 35), (1, .int x1), (2, .int (x2 ||| 0)), (3, .int x3), (4, .int r3)] d_X_byTenths_48 rfl (by decide) rfl ?_
      refine zs_iinc2 3 (x3 + 1) [1, 2, 3, 0, 4] [(0, .ref 35), (1, .int x1), (2, .int (x2 ||| 0)), (3, .int (x3 + 1)), (4, .int r3)] d_X_byTenths_49 rfl rfl (by decide) rfl ?_
      refine zs_goto 4 d_X_byTenths_52 (by decide) ?_
      exact zRT_sub [0, 1, 2, 3] rfl h
    · replace h := h.2 c4
      refine zs_bipush 10 d_X_byTenths_24 (by decide) ?_
      refine zs_iload d_X_byTenths_26 (List.mem_of_getElem? (i := 4) rfl) ?_
      refine zs_imul d_X_byTenths_28 ?_
      refine zs_aload_n 0 d_X_byTenths_29 rfl (List.mem_of_getElem? (i := 0) rfl) ?_
      refine zs_get d_X_byTenths_30 gf_X_13 (sh_35 g X) rfl ?_
      refine zs_sipush 3072 d_X_byTenths_33 (by decide) ?_
      refine zs_imul d_X_byTenths_36 ?_
      refine zs_icmp_lt 46 d_X_byTenths_37 (by decide) (fun c5 => ?_) (fun c5 => ?_)
      · replace h := h.1 c5
        refine zs_iconst 0 d_X_byTenths_46 (by decide) ?_
        refine zs_ior d_X_byTenths_47 ?_
        refine zs_istore_n2 2 [1, 2, 0, 3, 4] [(0, .ref 35), (1, .int x1), (2, .int (x2 ||| 0)), (3, .int x3), (4, .int r3)] d_X_byTenths_48 rfl (by decide) rfl ?_
        refine zs_iinc2 3 (x3 + 1) [1, 2, 3, 0, 4] [(0, .ref 35), (1, .int x1), (2, .int (x2 ||| 0)), (3, .int (x3 + 1)), (4, .int r3)] d_X_byTenths_49 rfl rfl (by decide) rfl ?_
        refine zs_goto 4 d_X_byTenths_52 (by decide) ?_
        exact zRT_sub [0, 1, 2, 3] rfl h
      · replace h := h.2 c5
        refine zs_iconst 1 d_X_byTenths_40 (by decide) ?_
        refine zs_iload_n 3 d_X_byTenths_41 rfl (List.mem_of_getElem? (i := 3) rfl) ?_
        refine zs_ishl d_X_byTenths_42 ?_
        refine zs_goto 47 d_X_byTenths_43 (by decide) ?_
        refine zs_ior d_X_byTenths_47 ?_
        refine zs_istore_n2 2 [1, 2, 0, 3, 4] [(0, .ref 35), (1, .int x1), (2, .int (x2 ||| ((1 : Int32) <<< (x3 &&& 31)))), (3, .int x3), (4, .int r3)] d_X_byTenths_48 rfl (by decide) rfl ?_
        refine zs_iinc2 3 (x3 + 1) [1, 2, 3, 0, 4] [(0, .ref 35), (1, .int x1), (2, .int (x2 ||| ((1 : Int32) <<< (x3 &&& 31)))), (3, .int (x3 + 1)), (4, .int r3)] d_X_byTenths_49 rfl rfl (by decide) rfl ?_
        refine zs_goto 4 d_X_byTenths_52 (by decide) ?_
        exact zRT_sub [0, 1, 2, 3] rfl h
theorem ex_X_byTenths (x : Int32) (hh : mK M ∧ mTh M x) : zEx m_X_byTenths 0 0 [.ref 35, .int x] (SHP g X) M (qR g X (fun _ M2 => mAg M M2)) := by
  refine zEx_of _ (by decide) (by simp [Value.category]) (Nat.le_of_ble_eq_true rfl) rfl (v_X_byTenths_0 g X M x _ ?_)
  have L : ∀ d k a M1, k + d = 6 → mAg M M1 → zRT m_X_byTenths 0 0 4 [(0, .ref 35), (1, .int x), (2, .int a), (3, .int (nI k))] [] (SHP g X) M1 (qR g X (fun _ M2 => mAg M M2)) := by
    intro d
    induction d with
    | zero =>
      intro k a M1 hk ha
      exact v_X_byTenths_4 g X _ _ _ _ _ ⟨fun _ => qR_i ha, fun h => absurd (nI_le (a := 6) (by omega) (by omega)) h⟩
    | succ d ih =>
      intro k a M1 hk ha
      refine v_X_byTenths_4 g X _ _ _ _ _ ⟨fun h => absurd h (nI_ge (b := 6) (by omega) (by omega)), fun _ => ⟨⟨ha.mk hh.1, ha.th hh.2, vp_in_nI (by omega) (by decide)⟩, fun r M3 h3 => ?_⟩⟩
      rw [nI_1]
      have i1 := fun a => ih (k + 1) a M3 (by omega) (ha.tr h3.1)
      exact ⟨fun _ => i1 _, fun _ => ⟨fun _ => i1 _, fun _ => i1 _⟩⟩
  exact L 6 0 0 M rfl mAg.rf
theorem v_X_mayHave_0 (g : Nat → Option Nat) (X : List zShp) (M : zMem) (x1 : Int32) (R : zEnd) (h : zRT m_X_mayHave 0 0 4 [(0, .ref 35), (1, .int x1), (2, .int 0), (3, .int 0)] [] (SHP g X) M R) : zRT m_X_mayHave 0 0 0 [(0, .ref 35), (1, .int x1)] [] (SHP g X) M R := by
  refine zs_iconst 0 d_X_mayHave_0 (by decide) ?_
  refine zs_istore_n2 2 [1, 2, 0] [(0, .ref 35), (1, .int x1), (2, .int 0)] d_X_mayHave_1 rfl (by decide) rfl ?_
  refine zs_iconst 0 d_X_mayHave_2 (by decide) ?_
  refine zs_istore_n2 3 [1, 2, 3, 0] [(0, .ref 35), (1, .int x1), (2, .int 0), (3, .int 0)] d_X_mayHave_3 rfl (by decide) rfl ?_
  exact h
theorem v_X_mayHave_4 (g : Nat → Option Nat) (X : List zShp) (M : zMem) (x1 x2 x3 : Int32) (R : zEnd) (h : (((M 35 6) ≤ x3) → (R (some (.int x2)) (SHP g X) M)) ∧ ((¬ (M 35 6) ≤ x3) → ((mRw M x3) ∧ ((((hb (mWP M (mTc M x3)) x1) = false) → (zRT m_X_mayHave 0 0 4 [(0, .ref 35), (1, .int x1), (2, .int (x2 ||| ((1 : Int32) <<< (x3 &&& 31)))), (3, .int (x3 + 1))] [] (SHP g X) (mWk M (Int32.toNatClampNeg x3)) R)) ∧ (((hb (mWP M (mTc M x3)) x1) = true) → (zRT m_X_mayHave 0 0 4 [(0, .ref 35), (1, .int x1), (2, .int (x2 ||| 0)), (3, .int (x3 + 1))] [] (SHP g X) (mWk M (Int32.toNatClampNeg x3)) R)))))) : zRT m_X_mayHave 0 0 4 [(0, .ref 35), (1, .int x1), (2, .int x2), (3, .int x3)] [] (SHP g X) M R := by
  refine zs_iload_n 3 d_X_mayHave_4 rfl (List.mem_of_getElem? (i := 3) rfl) ?_
  refine zs_aload_n 0 d_X_mayHave_5 rfl (List.mem_of_getElem? (i := 0) rfl) ?_
  refine zs_get d_X_mayHave_6 gf_X_70 (sh_35 g X) rfl ?_
  refine zs_icmp_ge 40 d_X_mayHave_9 (by decide) (fun c1 => ?_) (fun c1 => ?_)
  · replace h := h.1 c1
    refine zs_iload_n 2 d_X_mayHave_40 rfl (List.mem_of_getElem? (i := 2) rfl) ?_
    exact zs_iret d_X_mayHave_41 rfl h
  · replace h := h.2 c1
    refine zs_iload_n 2 d_X_mayHave_12 rfl (List.mem_of_getElem? (i := 2) rfl) ?_
    refine zs_aload_n 0 d_X_mayHave_13 rfl (List.mem_of_getElem? (i := 0) rfl) ?_
    refine zs_iload_n 3 d_X_mayHave_14 rfl (List.mem_of_getElem? (i := 3) rfl) ?_
    obtain ⟨p2, h⟩ := h
    refine zs_callV (kc := 0) (ks := 0) (kc1 := 0) (ks1 := 0) (st := [.int x2]) [.int x3] d_X_mayHave_15 lk_X_119 ⟨by decide, by decide⟩ rfl (sh_35 g X) rfl (Nat.le_of_ble_eq_true rfl) (ex_X_barredFrom g X M x3 p2) (fun v2 sh2 M2 hR => ?_)
    obtain ⟨rfl, rfl, rfl⟩ := hR
    refine zs_iload_n 1 d_X_mayHave_18 rfl (List.mem_of_getElem? (i := 1) rfl) ?_
    refine zs_callS (kc := 0) (ks := 0) (kc1 := 0) (ks1 := 0) (st := [.int x2]) [.int (mWP M (mTc M x3)), .int x1] d_X_mayHave_19 lk_X_98 ⟨by decide, by decide⟩ rfl (Nat.le_of_ble_eq_true rfl) (ex_X_has g X (mWk M (Int32.toNatClampNeg x3)) (mWP M (mTc M x3)) x1) (fun v3 sh3 M3 hR => ?_)
    obtain ⟨rfl, rfl, rfl⟩ := hR
    refine zs_if_eq 29 d_X_mayHave_22 (by decide) (fun c4 => ?_) (fun c4 => ?_)
    · replace h := h.1 (bI_0 c4)
      refine zs_iconst 1 d_X_mayHave_29 (by decide) ?_
      refine zs_iload_n 3 d_X_mayHave_30 rfl (List.mem_of_getElem? (i := 3) rfl) ?_
      refine zs_ishl d_X_mayHave_31 ?_
      refine zs_ior d_X_mayHave_32 ?_
      refine zs_istore_n2 2 [1, 2, 0, 3] [(0, .ref 35), (1, .int x1), (2, .int (x2 ||| ((1 : Int32) <<< (x3 &&& 31)))), (3, .int x3)] d_X_mayHave_33 rfl (by decide) rfl ?_
      refine zs_iinc2 3 (x3 + 1) [1, 2, 3, 0] [(0, .ref 35), (1, .int x1), (2, .int (x2 ||| ((1 : Int32) <<< (x3 &&& 31)))), (3, .int (x3 + 1))] d_X_mayHave_34 rfl rfl (by decide) rfl ?_
      refine zs_goto 4 d_X_mayHave_37 (by decide) ?_
      exact h
    · replace h := h.2 (bI_1 c4)
      refine zs_iconst 0 d_X_mayHave_25 (by decide) ?_
      refine zs_goto 32 d_X_mayHave_26 (by decide) ?_
      refine zs_ior d_X_mayHave_32 ?_
      refine zs_istore_n2 2 [1, 2, 0, 3] [(0, .ref 35), (1, .int x1), (2, .int (x2 ||| 0)), (3, .int x3)] d_X_mayHave_33 rfl (by decide) rfl ?_
      refine zs_iinc2 3 (x3 + 1) [1, 2, 3, 0] [(0, .ref 35), (1, .int x1), (2, .int (x2 ||| 0)), (3, .int (x3 + 1))] d_X_mayHave_34 rfl rfl (by decide) rfl ?_
      refine zs_goto 4 d_X_mayHave_37 (by decide) ?_
      exact h
theorem ex_X_mayHave (m : Int32) (hh : mK M) : zEx m_X_mayHave 0 0 [.ref 35, .int m] (SHP g X) M (qR g X (fun _ M2 => mAg M M2)) := by
  refine zEx_of _ (by decide) (by simp [Value.category]) (Nat.le_of_ble_eq_true rfl) rfl (v_X_mayHave_0 g X M m _ ?_)
  obtain ⟨hc, h10⟩ := mCnt_e hh.1
  have L : ∀ d k a M1, k + d = mTN M → mAg M M1 → zRT m_X_mayHave 0 0 4 [(0, .ref 35), (1, .int m), (2, .int a), (3, .int (nI k))] [] (SHP g X) M1 (qR g X (fun _ M2 => mAg M M2)) := by
    intro d
    induction d with
    | zero =>
      intro k a M1 hk ha
      exact v_X_mayHave_4 g X _ _ _ _ _ ⟨fun _ => qR_i ha, fun h => absurd (by rw [ha.e35, hc]; exact nI_le (by omega) (by omega)) h⟩
    | succ d ih =>
      intro k a M1 hk ha
      refine v_X_mayHave_4 g X _ _ _ _ _ ⟨fun h => absurd h (by rw [ha.e35, hc]; exact nI_ge (by omega) (by omega)), fun _ => ⟨(ha.mk hh).rw (ha.th ⟨k, by omega, rfl⟩), ?_⟩⟩
      rw [nI_1]
      have i1 := fun a n => ih (k + 1) a (mWk M1 n) (by omega) ha.wk
      exact ⟨fun _ => i1 _ _, fun _ => i1 _ _⟩
  exact L (mTN M) 0 0 M (by omega) mAg.rf
theorem v_X_touched_0 (g : Nat → Option Nat) (X : List zShp) (M : zMem) (x1 x2 : Int32) (R : zEnd) (h : (((inI x1 0 (M 35 6 - 1)) = true) → ((mCnt M) ∧ (((¬ x2 = 0) → (((¬ x2 = 1) → (((¬ x2 = 2) → (R (some (.int (-2))) (SHP g X) (mTo M))) ∧ ((x2 = 2) → ((mK (mTo M) ∧ mTh (mTo M) x1) ∧ (∀ (r7 : Int32) (M7 : zMem), (mAg (mTo M) M7) → (R (some (.int r7)) (SHP g X) M7)))))) ∧ ((x2 = 1) → ((mRw (mTo M) x1) ∧ (R (some (.int (mWP (mTo M) (mTc (mTo M) x1)))) (SHP g X) (mWk (mTo M) (Int32.toNatClampNeg x1))))))) ∧ ((x2 = 0) → ((mRw (mTo M) x1) ∧ (R (some (.int (mTc (mTo M) x1))) (SHP g X) (mWk (mTo M) (Int32.toNatClampNeg x1)))))))) ∧ (((inI x1 0 (M 35 6 - 1)) = false) → (R (some (.int (-1))) (SHP g X) M))) : zRT m_X_touched 0 0 0 [(0, .ref 35), (1, .int x1), (2, .int x2)] [] (SHP g X) M R := by
  refine zs_aload_n 0 d_X_touched_0 rfl (List.mem_of_getElem? (i := 0) rfl) ?_
  refine zs_iload_n 1 d_X_touched_1 rfl (List.mem_of_getElem? (i := 1) rfl) ?_
  refine zs_callV (kc := 0) (ks := 0) (kc1 := 0) (ks1 := 0) (st := []) [.int x1] d_X_touched_2 lk_X_83 ⟨by decide, by decide⟩ rfl (sh_35 g X) rfl (Nat.le_of_ble_eq_true rfl) (ex_X_isThing g X M x1) (fun v1 sh1 M1 hR => ?_)
  obtain ⟨rfl, rfl, rfl⟩ := hR
  refine zs_if_ne 10 d_X_touched_5 (by decide) (fun c2 => ?_) (fun c2 => ?_)
  · replace h := h.1 (bI_1 c2)
    refine zs_aload_n 0 d_X_touched_10 rfl (List.mem_of_getElem? (i := 0) rfl) ?_
    obtain ⟨p3, h⟩ := h
    refine zs_callV (kc := 0) (ks := 0) (kc1 := 0) (ks1 := 0) (st := []) [] d_X_touched_11 lk_X_116 ⟨by decide, by decide⟩ rfl (sh_35 g X) rfl (Nat.le_of_ble_eq_true rfl) (ex_X_asTold g X M p3) (fun v3 sh3 M3 hR => ?_)
    obtain ⟨rfl, rfl, rfl⟩ := hR
    refine zs_iload_n 2 d_X_touched_14 rfl (List.mem_of_getElem? (i := 2) rfl) ?_
    refine zs_if_ne 26 d_X_touched_15 (by decide) (fun c4 => ?_) (fun c4 => ?_)
    · replace h := h.1 c4
      refine zs_iload_n 2 d_X_touched_26 rfl (List.mem_of_getElem? (i := 2) rfl) ?_
      refine zs_iconst 1 d_X_touched_27 (by decide) ?_
      refine zs_icmp_ne 39 d_X_touched_28 (by decide) (fun c5 => ?_) (fun c5 => ?_)
      · replace h := h.1 c5
        refine zs_iload_n 2 d_X_touched_39 rfl (List.mem_of_getElem? (i := 2) rfl) ?_
        refine zs_iconst 2 d_X_touched_40 (by decide) ?_
        refine zs_icmp_ne 52 d_X_touched_41 (by decide) (fun c6 => ?_) (fun c6 => ?_)
        · replace h := h.1 c6
          refine zs_bipush (-2) d_X_touched_52 (by decide) ?_
          exact zs_iret d_X_touched_54 rfl h
        · replace h := h.2 c6
          refine zs_aload_n 0 d_X_touched_44 rfl (List.mem_of_getElem? (i := 0) rfl) ?_
          refine zs_iload_n 1 d_X_touched_45 rfl (List.mem_of_getElem? (i := 1) rfl) ?_
          obtain ⟨p7, h⟩ := h
          refine zs_callV (kc := 0) (ks := 0) (kc1 := 0) (ks1 := 0) (st := []) [.int x1] d_X_touched_46 lk_X_122 ⟨by decide, by decide⟩ rfl (sh_35 g X) rfl (Nat.le_of_ble_eq_true rfl) (ex_X_byTenths g X (mTo M) x1 p7) (fun v7 sh7 M7 hR => ?_)
          obtain ⟨r7, rfl, rfl, hq7⟩ := hR
          replace h := h r7 M7 hq7
          refine zs_goto 54 d_X_touched_49 (by decide) ?_
          exact zs_iret d_X_touched_54 rfl h
      · replace h := h.2 c5
        refine zs_aload_n 0 d_X_touched_31 rfl (List.mem_of_getElem? (i := 0) rfl) ?_
        refine zs_iload_n 1 d_X_touched_32 rfl (List.mem_of_getElem? (i := 1) rfl) ?_
        obtain ⟨p8, h⟩ := h
        refine zs_callV (kc := 0) (ks := 0) (kc1 := 0) (ks1 := 0) (st := []) [.int x1] d_X_touched_33 lk_X_119 ⟨by decide, by decide⟩ rfl (sh_35 g X) rfl (Nat.le_of_ble_eq_true rfl) (ex_X_barredFrom g X (mTo M) x1 p8) (fun v8 sh8 M8 hR => ?_)
        obtain ⟨rfl, rfl, rfl⟩ := hR
        refine zs_goto 54 d_X_touched_36 (by decide) ?_
        exact zs_iret d_X_touched_54 rfl h
    · replace h := h.2 c4
      refine zs_aload_n 0 d_X_touched_18 rfl (List.mem_of_getElem? (i := 0) rfl) ?_
      refine zs_iload_n 1 d_X_touched_19 rfl (List.mem_of_getElem? (i := 1) rfl) ?_
      obtain ⟨p9, h⟩ := h
      refine zs_callV (kc := 0) (ks := 0) (kc1 := 0) (ks1 := 0) (st := []) [.int x1] d_X_touched_20 lk_X_102 ⟨by decide, by decide⟩ rfl (sh_35 g X) rfl (Nat.le_of_ble_eq_true rfl) (ex_X_touchers g X (mTo M) x1 p9) (fun v9 sh9 M9 hR => ?_)
      obtain ⟨rfl, rfl, rfl⟩ := hR
      refine zs_goto 54 d_X_touched_23 (by decide) ?_
      exact zs_iret d_X_touched_54 rfl h
  · replace h := h.2 (bI_0 c2)
    refine zs_iconst (-1) d_X_touched_8 (by decide) ?_
    exact zs_iret d_X_touched_9 rfl h
theorem ex_X_touched (x y : Int32) (hh : mK M) : zEx m_X_touched 0 0 [.ref 35, .int x, .int y] (SHP g X) M (qR g X (fun _ M2 => mAg M M2)) := by
  have h0 : mAg M (mTo M) := mAg.rf.mt
  refine zEx_of _ (by decide) (by simp [Value.category]) (Nat.le_of_ble_eq_true rfl) rfl (v_X_touched_0 g X M x y _ ⟨fun h => ⟨hh.1, fun _ => ⟨fun _ => ⟨fun _ => qR_i h0, fun _ => ⟨⟨h0.mk hh, h0.th (hh.th h)⟩, fun r M7 h7 => qR_i (h0.tr h7)⟩⟩, fun _ => ⟨(h0.mk hh).rw (h0.th (hh.th h)), qR_i h0.wk⟩⟩, fun _ => ⟨(h0.mk hh).rw (h0.th (hh.th h)), qR_i h0.wk⟩⟩, fun _ => qR_i mAg.rf⟩)
theorem v_X_may_0 (g : Nat → Option Nat) (X : List zShp) (M : zMem) (x1 x2 : Int32) (R : zEnd) (h : (((isM x1) = true) → ((((inI x2 0 1) = true) → ((mCnt M) ∧ (zRT m_X_may 0 0 30 [(0, .ref 35), (1, .int x1), (2, .int x2), (3, .int 0), (4, .int 0)] [] (SHP g X) (mTo M) R))) ∧ (((inI x2 0 1) = false) → (R (some (.int (-2))) (SHP g X) M)))) ∧ (((isM x1) = false) → (R (some (.int (-1))) (SHP g X) M))) : zRT m_X_may 0 0 0 [(0, .ref 35), (1, .int x1), (2, .int x2)] [] (SHP g X) M R := by
  refine zs_iload_n 1 d_X_may_0 rfl (List.mem_of_getElem? (i := 1) rfl) ?_
  refine zs_callS (kc := 0) (ks := 0) (kc1 := 0) (ks1 := 0) (st := []) [.int x1] d_X_may_1 lk_X_87 ⟨by decide, by decide⟩ rfl (Nat.le_of_ble_eq_true rfl) (ex_X_isMan g X M x1) (fun v1 sh1 M1 hR => ?_)
  obtain ⟨rfl, rfl, rfl⟩ := hR
  refine zs_if_ne 9 d_X_may_4 (by decide) (fun c2 => ?_) (fun c2 => ?_)
  · replace h := h.1 (bI_1 c2)
    refine zs_iload_n 2 d_X_may_9 rfl (List.mem_of_getElem? (i := 2) rfl) ?_
    refine zs_iconst 0 d_X_may_10 (by decide) ?_
    refine zs_iconst 1 d_X_may_11 (by decide) ?_
    refine zs_callS (kc := 0) (ks := 0) (kc1 := 0) (ks1 := 0) (st := []) [.int x2, .int 0, .int 1] d_X_may_12 lk_X_66 ⟨by decide, by decide⟩ rfl (Nat.le_of_ble_eq_true rfl) (ex_X_in g X M x2 0 1) (fun v3 sh3 M3 hR => ?_)
    obtain ⟨rfl, rfl, rfl⟩ := hR
    refine zs_if_ne 21 d_X_may_15 (by decide) (fun c4 => ?_) (fun c4 => ?_)
    · replace h := h.1 (bI_1 c4)
      refine zs_aload_n 0 d_X_may_21 rfl (List.mem_of_getElem? (i := 0) rfl) ?_
      obtain ⟨p5, h⟩ := h
      refine zs_callV (kc := 0) (ks := 0) (kc1 := 0) (ks1 := 0) (st := []) [] d_X_may_22 lk_X_116 ⟨by decide, by decide⟩ rfl (sh_35 g X) rfl (Nat.le_of_ble_eq_true rfl) (ex_X_asTold g X M p5) (fun v5 sh5 M5 hR => ?_)
      obtain ⟨rfl, rfl, rfl⟩ := hR
      refine zs_iconst 0 d_X_may_25 (by decide) ?_
      refine zs_istore_n2 3 [1, 2, 3, 0] [(0, .ref 35), (1, .int x1), (2, .int x2), (3, .int 0)] d_X_may_26 rfl (by decide) rfl ?_
      refine zs_iconst 0 d_X_may_27 (by decide) ?_
      refine zs_istore2 [1, 2, 3, 4, 0] [(0, .ref 35), (1, .int x1), (2, .int x2), (3, .int 0), (4, .int 0)] d_X_may_28 (by decide) rfl ?_
      exact h
    · replace h := h.2 (bI_0 c4)
      refine zs_bipush (-2) d_X_may_18 (by decide) ?_
      exact zs_iret d_X_may_20 rfl h
  · replace h := h.2 (bI_0 c2)
    refine zs_iconst (-1) d_X_may_7 (by decide) ?_
    exact zs_iret d_X_may_8 rfl h
theorem v_X_may_30 (g : Nat → Option Nat) (X : List zShp) (M : zMem) (x1 x2 x3 x4 : Int32) (R : zEnd) (h : (((M 35 6) ≤ x4) → (((¬ x2 = 0) → (R (some (.int x3)) (SHP g X) M)) ∧ ((x2 = 0) → ((mK M) ∧ (∀ (r3 : Int32) (M3 : zMem), (mAg M M3) → (R (some (.int r3)) (SHP g X) M3)))))) ∧ ((¬ (M 35 6) ≤ x4) → ((mRw M x4) ∧ ((((hb (mTc M x4) x1) = false) → (zRT m_X_may 0 0 30 [(0, .ref 35), (1, .int x1), (2, .int x2), (3, .int (x3 ||| 0)), (4, .int (x4 + 1))] [] (SHP g X) (mWk M (Int32.toNatClampNeg x4)) R)) ∧ (((hb (mTc M x4) x1) = true) → (zRT m_X_may 0 0 30 [(0, .ref 35), (1, .int x1), (2, .int x2), (3, .int (x3 ||| ((1 : Int32) <<< (x4 &&& 31)))), (4, .int (x4 + 1))] [] (SHP g X) (mWk M (Int32.toNatClampNeg x4)) R)))))) : zRT m_X_may 0 0 30 [(0, .ref 35), (1, .int x1), (2, .int x2), (3, .int x3), (4, .int x4)] [] (SHP g X) M R := by
  refine zs_iload d_X_may_30 (List.mem_of_getElem? (i := 4) rfl) ?_
  refine zs_aload_n 0 d_X_may_32 rfl (List.mem_of_getElem? (i := 0) rfl) ?_
  refine zs_get d_X_may_33 gf_X_70 (sh_35 g X) rfl ?_
  refine zs_icmp_ge 69 d_X_may_36 (by decide) (fun c1 => ?_) (fun c1 => ?_)
  · replace h := h.1 c1
    refine zs_iload_n 2 d_X_may_69 rfl (List.mem_of_getElem? (i := 2) rfl) ?_
    refine zs_if_ne 81 d_X_may_70 (by decide) (fun c2 => ?_) (fun c2 => ?_)
    · replace h := h.1 c2
      refine zs_iload_n 3 d_X_may_81 rfl (List.mem_of_getElem? (i := 3) rfl) ?_
      exact zs_iret d_X_may_82 rfl h
    · replace h := h.2 c2
      refine zs_aload_n 0 d_X_may_73 rfl (List.mem_of_getElem? (i := 0) rfl) ?_
      refine zs_iload_n 1 d_X_may_74 rfl (List.mem_of_getElem? (i := 1) rfl) ?_
      obtain ⟨p3, h⟩ := h
      refine zs_callV (kc := 0) (ks := 0) (kc1 := 0) (ks1 := 0) (st := []) [.int x1] d_X_may_75 lk_X_125 ⟨by decide, by decide⟩ rfl (sh_35 g X) rfl (Nat.le_of_ble_eq_true rfl) (ex_X_mayHave g X M x1 p3) (fun v3 sh3 M3 hR => ?_)
      obtain ⟨r3, rfl, rfl, hq3⟩ := hR
      replace h := h r3 M3 hq3
      refine zs_goto 82 d_X_may_78 (by decide) ?_
      exact zs_iret d_X_may_82 rfl h
  · replace h := h.2 c1
    refine zs_iload_n 3 d_X_may_39 rfl (List.mem_of_getElem? (i := 3) rfl) ?_
    refine zs_aload_n 0 d_X_may_40 rfl (List.mem_of_getElem? (i := 0) rfl) ?_
    refine zs_iload d_X_may_41 (List.mem_of_getElem? (i := 4) rfl) ?_
    obtain ⟨p4, h⟩ := h
    refine zs_callV (kc := 0) (ks := 0) (kc1 := 0) (ks1 := 0) (st := [.int x3]) [.int x4] d_X_may_43 lk_X_102 ⟨by decide, by decide⟩ rfl (sh_35 g X) rfl (Nat.le_of_ble_eq_true rfl) (ex_X_touchers g X M x4 p4) (fun v4 sh4 M4 hR => ?_)
    obtain ⟨rfl, rfl, rfl⟩ := hR
    refine zs_iload_n 1 d_X_may_46 rfl (List.mem_of_getElem? (i := 1) rfl) ?_
    refine zs_callS (kc := 0) (ks := 0) (kc1 := 0) (ks1 := 0) (st := [.int x3]) [.int (mTc M x4), .int x1] d_X_may_47 lk_X_98 ⟨by decide, by decide⟩ rfl (Nat.le_of_ble_eq_true rfl) (ex_X_has g X (mWk M (Int32.toNatClampNeg x4)) (mTc M x4) x1) (fun v5 sh5 M5 hR => ?_)
    obtain ⟨rfl, rfl, rfl⟩ := hR
    refine zs_if_eq 60 d_X_may_50 (by decide) (fun c6 => ?_) (fun c6 => ?_)
    · replace h := h.1 (bI_0 c6)
      refine zs_iconst 0 d_X_may_60 (by decide) ?_
      refine zs_ior d_X_may_61 ?_
      refine zs_istore_n2 3 [1, 2, 3, 0, 4] [(0, .ref 35), (1, .int x1), (2, .int x2), (3, .int (x3 ||| 0)), (4, .int x4)] d_X_may_62 rfl (by decide) rfl ?_
      refine zs_iinc2 4 (x4 + 1) [1, 2, 3, 4, 0] [(0, .ref 35), (1, .int x1), (2, .int x2), (3, .int (x3 ||| 0)), (4, .int (x4 + 1))] d_X_may_63 rfl rfl (by decide) rfl ?_
      refine zs_goto 30 d_X_may_66 (by decide) ?_
      exact h
    · replace h := h.2 (bI_1 c6)
      refine zs_iconst 1 d_X_may_53 (by decide) ?_
      refine zs_iload d_X_may_54 (List.mem_of_getElem? (i := 4) rfl) ?_
      refine zs_ishl d_X_may_56 ?_
      refine zs_goto 61 d_X_may_57 (by decide) ?_
      refine zs_ior d_X_may_61 ?_
      refine zs_istore_n2 3 [1, 2, 3, 0, 4] [(0, .ref 35), (1, .int x1), (2, .int x2), (3, .int (x3 ||| ((1 : Int32) <<< (x4 &&& 31)))), (4, .int x4)] d_X_may_62 rfl (by decide) rfl ?_
      refine zs_iinc2 4 (x4 + 1) [1, 2, 3, 4, 0] [(0, .ref 35), (1, .int x1), (2, .int x2), (3, .int (x3 ||| ((1 : Int32) <<< (x4 &&& 31)))), (4, .int (x4 + 1))] d_X_may_63 rfl rfl (by decide) rfl ?_
      refine zs_goto 30 d_X_may_66 (by decide) ?_
      exact h
theorem ex_X_may (m y : Int32) (hh : mK M) : zEx m_X_may 0 0 [.ref 35, .int m, .int y] (SHP g X) M (qR g X (fun _ M2 => mAg M M2)) := by
  obtain ⟨hc, h10⟩ := mCnt_e hh.1
  have L : ∀ d k a M1, k + d = mTN M → mAg M M1 → zRT m_X_may 0 0 30 [(0, .ref 35), (1, .int m), (2, .int y), (3, .int a), (4, .int (nI k))] [] (SHP g X) M1 (qR g X (fun _ M2 => mAg M M2)) := by
    intro d
    induction d with
    | zero =>
      intro k a M1 hk ha
      exact v_X_may_30 g X _ _ _ _ _ _ ⟨fun _ => ⟨fun _ => qR_i ha, fun _ => ⟨ha.mk hh, fun r M3 h3 => qR_i (ha.tr h3)⟩⟩, fun h => absurd (by rw [ha.e35, hc]; exact nI_le (by omega) (by omega)) h⟩
    | succ d ih =>
      intro k a M1 hk ha
      refine v_X_may_30 g X _ _ _ _ _ _ ⟨fun h => absurd h (by rw [ha.e35, hc]; exact nI_ge (by omega) (by omega)), fun _ => ⟨(ha.mk hh).rw (ha.th ⟨k, by omega, rfl⟩), ?_⟩⟩
      rw [nI_1]
      have i1 := fun a n => ih (k + 1) a (mWk M1 n) (by omega) ha.wk
      exact ⟨fun _ => i1 _ _, fun _ => i1 _ _⟩
  refine zEx_of _ (by decide) (by simp [Value.category]) (Nat.le_of_ble_eq_true rfl) rfl (v_X_may_0 g X M m y _ ⟨fun _ => ⟨fun _ => ⟨hh.1, ?_⟩, fun _ => qR_i mAg.rf⟩, fun _ => qR_i mAg.rf⟩)
  exact L (mTN M) 0 0 (mTo M) (by omega) mAg.rf.mt
theorem v_X_near_0 (g : Nat → Option Nat) (X : List zShp) (M : zMem) (x1 x2 : Int32) (R : zEnd) (h : (((inI x1 0 (M 35 6 - 1)) = false) → (R (some (.int (-1))) (SHP g X) M)) ∧ (((inI x1 0 (M 35 6 - 1)) = true) → ((((isM x2) = true) → ((mRw M x1) ∧ (((¬ (mNr M x1 x2) = 1000000) → (R (some (.int (mNr M x1 x2))) (SHP g X) (mWk M (Int32.toNatClampNeg x1)))) ∧ (((mNr M x1 x2) = 1000000) → (R (some (.int (-6))) (SHP g X) (mWk M (Int32.toNatClampNeg x1))))))) ∧ (((isM x2) = false) → (R (some (.int (-1))) (SHP g X) M))))) : zRT m_X_near 0 0 0 [(0, .ref 35), (1, .int x1), (2, .int x2)] [] (SHP g X) M R := by
  refine zs_aload_n 0 d_X_near_0 rfl (List.mem_of_getElem? (i := 0) rfl) ?_
  refine zs_iload_n 1 d_X_near_1 rfl (List.mem_of_getElem? (i := 1) rfl) ?_
  refine zs_callV (kc := 0) (ks := 0) (kc1 := 0) (ks1 := 0) (st := []) [.int x1] d_X_near_2 lk_X_83 ⟨by decide, by decide⟩ rfl (sh_35 g X) rfl (Nat.le_of_ble_eq_true rfl) (ex_X_isThing g X M x1) (fun v1 sh1 M1 hR => ?_)
  obtain ⟨rfl, rfl, rfl⟩ := hR
  refine zs_if_eq 15 d_X_near_5 (by decide) (fun c2 => ?_) (fun c2 => ?_)
  · replace h := h.1 (bI_0 c2)
    refine zs_iconst (-1) d_X_near_15 (by decide) ?_
    exact zs_iret d_X_near_16 rfl h
  · replace h := h.2 (bI_1 c2)
    refine zs_iload_n 2 d_X_near_8 rfl (List.mem_of_getElem? (i := 2) rfl) ?_
    refine zs_callS (kc := 0) (ks := 0) (kc1 := 0) (ks1 := 0) (st := []) [.int x2] d_X_near_9 lk_X_87 ⟨by decide, by decide⟩ rfl (Nat.le_of_ble_eq_true rfl) (ex_X_isMan g X M x2) (fun v3 sh3 M3 hR => ?_)
    obtain ⟨rfl, rfl, rfl⟩ := hR
    refine zs_if_ne 17 d_X_near_12 (by decide) (fun c4 => ?_) (fun c4 => ?_)
    · replace h := h.1 (bI_1 c4)
      refine zs_aload_n 0 d_X_near_17 rfl (List.mem_of_getElem? (i := 0) rfl) ?_
      refine zs_iload_n 1 d_X_near_18 rfl (List.mem_of_getElem? (i := 1) rfl) ?_
      refine zs_iload_n 2 d_X_near_19 rfl (List.mem_of_getElem? (i := 2) rfl) ?_
      obtain ⟨p5, h⟩ := h
      refine zs_callV (kc := 0) (ks := 0) (kc1 := 0) (ks1 := 0) (st := []) [.int x1, .int x2] d_X_near_20 lk_X_128 ⟨by decide, by decide⟩ rfl (sh_35 g X) rfl (Nat.le_of_ble_eq_true rfl) (ex_X_nearTo g X M x1 x2 p5) (fun v5 sh5 M5 hR => ?_)
      obtain ⟨rfl, rfl, rfl⟩ := hR
      refine zs_istore_n2 3 [1, 2, 3, 0] [(0, .ref 35), (1, .int x1), (2, .int x2), (3, .int (mNr M x1 x2))] d_X_near_23 rfl (by decide) rfl ?_
      refine zs_iload_n 3 d_X_near_24 rfl (List.mem_of_getElem? (i := 3) rfl) ?_
      refine zs_ldc (v := 1000000) d_X_near_25 (by decide +kernel) ?_
      refine zs_icmp_ne 35 d_X_near_27 (by decide) (fun c6 => ?_) (fun c6 => ?_)
      · replace h := h.1 c6
        refine zs_iload_n 3 d_X_near_35 rfl (List.mem_of_getElem? (i := 3) rfl) ?_
        exact zs_iret d_X_near_36 rfl h
      · replace h := h.2 c6
        refine zs_bipush (-6) d_X_near_30 (by decide) ?_
        refine zs_goto 36 d_X_near_32 (by decide) ?_
        exact zs_iret d_X_near_36 rfl h
    · replace h := h.2 (bI_0 c4)
      refine zs_iconst (-1) d_X_near_15 (by decide) ?_
      exact zs_iret d_X_near_16 rfl h
theorem ex_X_near (x m : Int32) (hh : mK M) : zEx m_X_near 0 0 [.ref 35, .int x, .int m] (SHP g X) M (qR g X (fun _ M2 => mAg M M2)) := by
  refine zEx_of _ (by decide) (by simp [Value.category]) (Nat.le_of_ble_eq_true rfl) rfl (v_X_near_0 g X M x m _ ⟨fun _ => qR_i mAg.rf, fun h => ⟨fun _ => ⟨hh.rw (hh.th h), fun _ => qR_i mAg.rf.wk, fun _ => qR_i mAg.rf.wk⟩, fun _ => qR_i mAg.rf⟩⟩)
def qRL (g : Nat → Option Nat) (X : List zShp) (Q : Int64 → zMem → Prop) : zEnd := fun v sh1 M1 => ∃ r : Int64, some (.long r) = v ∧ SHP g X = sh1 ∧ Q r M1
theorem v_X_share_0 (g : Nat → Option Nat) (X : List zShp) (M : zMem) (x1 x2 x3 : Int32) (R : zEnd) (h : (((inI x1 0 (M 35 6 - 1)) = false) → (R (some (.long (-1000000000000000001))) (SHP g X) M)) ∧ (((inI x1 0 (M 35 6 - 1)) = true) → ((((isM x2) = true) → ((((inI x3 0 1) = true) → ((mK M ∧ mTh M x1 ∧ vp_in x2 6) ∧ (∀ (r7 : Int32) (M7 : zMem), (mAg M M7 ∧ ∃ n : Nat, n ≤ 3072 ∧ r7 = nI n) → (zRT m_X_share 0 0 49 [(3, .int x3), (4, .int r7), (5, .int r7), (6, .int 3072)] [] (SHP g X) M7 R)))) ∧ (((inI x3 0 1) = false) → (R (some (.long (-1000000000000000002))) (SHP g X) M)))) ∧ (((isM x2) = false) → (R (some (.long (-1000000000000000001))) (SHP g X) M))))) : zRT m_X_share 0 0 0 [(0, .ref 35), (1, .int x1), (2, .int x2), (3, .int x3)] [] (SHP g X) M R := by
  refine zs_aload_n 0 d_X_share_0 rfl (List.mem_of_getElem? (i := 0) rfl) ?_
  refine zs_iload_n 1 d_X_share_1 rfl (List.mem_of_getElem? (i := 1) rfl) ?_
  refine zs_callV (kc := 0) (ks := 0) (kc1 := 0) (ks1 := 0) (st := []) [.int x1] d_X_share_2 lk_X_83 ⟨by decide, by decide⟩ rfl (sh_35 g X) rfl (Nat.le_of_ble_eq_true rfl) (ex_X_isThing g X M x1) (fun v1 sh1 M1 hR => ?_)
  obtain ⟨rfl, rfl, rfl⟩ := hR
  refine zs_if_eq 15 d_X_share_5 (by decide) (fun c2 => ?_) (fun c2 => ?_)
  · replace h := h.1 (bI_0 c2)
    refine zs_ldc2 (v := (-1000000000000000001)) d_X_share_15 (by decide +kernel) ?_
    exact zs_lret d_X_share_18 rfl h
  · replace h := h.2 (bI_1 c2)
    refine zs_iload_n 2 d_X_share_8 rfl (List.mem_of_getElem? (i := 2) rfl) ?_
    refine zs_callS (kc := 0) (ks := 0) (kc1 := 0) (ks1 := 0) (st := []) [.int x2] d_X_share_9 lk_X_87 ⟨by decide, by decide⟩ rfl (Nat.le_of_ble_eq_true rfl) (ex_X_isMan g X M x2) (fun v3 sh3 M3 hR => ?_)
    obtain ⟨rfl, rfl, rfl⟩ := hR
    refine zs_if_ne 19 d_X_share_12 (by decide) (fun c4 => ?_) (fun c4 => ?_)
    · replace h := h.1 (bI_1 c4)
      refine zs_iload_n 3 d_X_share_19 rfl (List.mem_of_getElem? (i := 3) rfl) ?_
      refine zs_iconst 0 d_X_share_20 (by decide) ?_
      refine zs_iconst 1 d_X_share_21 (by decide) ?_
      refine zs_callS (kc := 0) (ks := 0) (kc1 := 0) (ks1 := 0) (st := []) [.int x3, .int 0, .int 1] d_X_share_22 lk_X_66 ⟨by decide, by decide⟩ rfl (Nat.le_of_ble_eq_true rfl) (ex_X_in g X M x3 0 1) (fun v5 sh5 M5 hR => ?_)
      obtain ⟨rfl, rfl, rfl⟩ := hR
      refine zs_if_ne 32 d_X_share_25 (by decide) (fun c6 => ?_) (fun c6 => ?_)
      · replace h := h.1 (bI_1 c6)
        refine zs_aload_n 0 d_X_share_32 rfl (List.mem_of_getElem? (i := 0) rfl) ?_
        refine zs_iload_n 1 d_X_share_33 rfl (List.mem_of_getElem? (i := 1) rfl) ?_
        refine zs_iload_n 2 d_X_share_34 rfl (List.mem_of_getElem? (i := 2) rfl) ?_
        obtain ⟨p7, h⟩ := h
        refine zs_callV (kc := 0) (ks := 0) (kc1 := 0) (ks1 := 0) (st := []) [.int x1, .int x2] d_X_share_35 lk_X_112 ⟨by decide, by decide⟩ rfl (sh_35 g X) rfl (Nat.le_of_ble_eq_true rfl) (ex_X_shareOf g X M x1 x2 p7) (fun v7 sh7 M7 hR => ?_)
        obtain ⟨r7, rfl, rfl, hq7⟩ := hR
        replace h := h r7 M7 hq7
        refine zs_istore2 [1, 2, 3, 4, 0] [(0, .ref 35), (1, .int x1), (2, .int x2), (3, .int x3), (4, .int r7)] d_X_share_38 (by decide) rfl ?_
        refine zs_iload d_X_share_40 (List.mem_of_getElem? (i := 4) rfl) ?_
        refine zs_istore2 [1, 2, 3, 4, 5, 0] [(0, .ref 35), (1, .int x1), (2, .int x2), (3, .int x3), (4, .int r7), (5, .int r7)] d_X_share_42 (by decide) rfl ?_
        refine zs_sipush 3072 d_X_share_44 (by decide) ?_
        refine zs_istore2 [1, 2, 3, 4, 5, 6, 0] [(0, .ref 35), (1, .int x1), (2, .int x2), (3, .int x3), (4, .int r7), (5, .int r7), (6, .int 3072)] d_X_share_47 (by decide) rfl ?_
        exact zRT_sub [3, 4, 5, 6] rfl h
      · replace h := h.2 (bI_0 c6)
        refine zs_ldc2 (v := (-1000000000000000002)) d_X_share_28 (by decide +kernel) ?_
        exact zs_lret d_X_share_31 rfl h
    · replace h := h.2 (bI_0 c4)
      refine zs_ldc2 (v := (-1000000000000000001)) d_X_share_15 (by decide +kernel) ?_
      exact zs_lret d_X_share_18 rfl h
theorem v_X_share_49 (g : Nat → Option Nat) (X : List zShp) (M : zMem) (x3 x4 x5 x6 : Int32) (R : zEnd) (h : ((x6 = 0) → (((¬ x3 = 0) → ((¬ x5 = 0) ∧ (R (some (.long (Int32.toInt64 ((3072 : Int32) / x5)))) (SHP g X) M))) ∧ ((x3 = 0) → ((¬ x5 = 0) ∧ (R (some (.long (Int32.toInt64 (x4 / x5)))) (SHP g X) M))))) ∧ ((¬ x6 = 0) → ((¬ x6 = 0) ∧ (zRT m_X_share 0 0 49 [(3, .int x3), (4, .int x4), (5, .int x6), (6, .int (x5 - x5 / x6 * x6))] [] (SHP g X) M R)))) : zRT m_X_share 0 0 49 [(3, .int x3), (4, .int x4), (5, .int x5), (6, .int x6)] [] (SHP g X) M R := by
  refine zs_iload d_X_share_49 (List.mem_of_getElem? (i := 3) rfl) ?_
  refine zs_if_eq 72 d_X_share_51 (by decide) (fun c1 => ?_) (fun c1 => ?_)
  · replace h := h.1 c1
    refine zs_iload_n 3 d_X_share_72 rfl (List.mem_of_getElem? (i := 0) rfl) ?_
    refine zs_if_ne 85 d_X_share_73 (by decide) (fun c2 => ?_) (fun c2 => ?_)
    · replace h := h.1 c2
      refine zs_sipush 3072 d_X_share_85 (by decide) ?_
      refine zs_iload d_X_share_88 (List.mem_of_getElem? (i := 2) rfl) ?_
      obtain ⟨h0, h⟩ := h
      refine zs_idiv d_X_share_90 h0 ?_
      refine zs_i2l d_X_share_91 ?_
      exact zs_lret d_X_share_92 rfl h
    · replace h := h.2 c2
      refine zs_iload d_X_share_76 (List.mem_of_getElem? (i := 1) rfl) ?_
      refine zs_iload d_X_share_78 (List.mem_of_getElem? (i := 2) rfl) ?_
      obtain ⟨h0, h⟩ := h
      refine zs_idiv d_X_share_80 h0 ?_
      refine zs_i2l d_X_share_81 ?_
      refine zs_goto 92 d_X_share_82 (by decide) ?_
      exact zs_lret d_X_share_92 rfl h
  · replace h := h.2 c1
    refine zs_iload d_X_share_54 (List.mem_of_getElem? (i := 2) rfl) ?_
    refine zs_iload d_X_share_56 (List.mem_of_getElem? (i := 3) rfl) ?_
    obtain ⟨h0, h⟩ := h
    refine zs_irem d_X_share_58 h0 ?_
    refine zs_istore2 [1, 2, 3, 4, 0] [(3, .int x3), (4, .int x4), (5, .int x5), (6, .int x6), (7, .int (x5 - x5 / x6 * x6))] d_X_share_59 (by decide) rfl ?_
    refine zs_iload d_X_share_61 (List.mem_of_getElem? (i := 3) rfl) ?_
    refine zs_istore2 [1, 2, 0, 3, 4] [(3, .int x3), (4, .int x4), (5, .int x6), (6, .int x6), (7, .int (x5 - x5 / x6 * x6))] d_X_share_63 (by decide) rfl ?_
    refine zs_iload d_X_share_65 (List.mem_of_getElem? (i := 4) rfl) ?_
    refine zs_istore2 [1, 2, 3, 0, 4] [(3, .int x3), (4, .int x4), (5, .int x6), (6, .int (x5 - x5 / x6 * x6)), (7, .int (x5 - x5 / x6 * x6))] d_X_share_67 (by decide) rfl ?_
    refine zs_goto 49 d_X_share_69 (by decide) ?_
    exact zRT_sub [0, 1, 2, 3] rfl h
theorem ex_X_share (x m y : Int32) (hh : mK M) : zEx m_X_share 0 0 [.ref 35, .int x, .int m, .int y] (SHP g X) M (qRL g X (fun _ M2 => mAg M M2)) := by
  have L : ∀ N b a M1 (u : Int32), b < N → a ≤ 3072 → b ≤ 3072 → 0 < a + b → mAg M M1 → zRT m_X_share 0 0 49 [(3, .int y), (4, .int u), (5, .int (nI a)), (6, .int (nI b))] [] (SHP g X) M1 (qRL g X (fun _ M2 => mAg M M2)) := by
    intro N
    induction N with
    | zero => intro b a M1 u h; exact absurd h (by omega)
    | succ N ih =>
      intro b a M1 u hb h1 h2 h3 ha
      refine v_X_share_49 g X _ _ _ _ _ _ ⟨fun h => ?_, fun h => ⟨h, ?_⟩⟩
      · have b0 : b = 0 := by
          rcases Nat.eq_zero_or_pos b with q | q
          · exact q
          · exact absurd h (nI_ne0 q (by omega))
        have a0 : ¬ nI a = 0 := nI_ne0 (by omega) (by omega)
        exact ⟨fun _ => ⟨a0, _, rfl, rfl, ha⟩, fun _ => ⟨a0, _, rfl, rfl, ha⟩⟩
      · have b0 : 0 < b := by
          rcases Nat.eq_zero_or_pos b with q | q
          · exact absurd (by rw [q]; rfl) h
          · exact q
        rw [pk_rem (by omega) b0 (by omega)]
        have := Nat.mod_lt a b0
        exact ih (a % b) b M1 u (by omega) (by omega) (by omega) (by omega) ha
  refine zEx_of _ (by decide) (by simp [Value.category]) (Nat.le_of_ble_eq_true rfl) rfl (v_X_share_0 g X M x m y _ ⟨fun _ => ⟨_, rfl, rfl, mAg.rf⟩, fun h => ⟨fun h2 => ⟨fun _ => ⟨⟨hh, hh.th h, isM_in h2⟩, fun r M7 h7 => ?_⟩, fun _ => ⟨_, rfl, rfl, mAg.rf⟩⟩, fun _ => ⟨_, rfl, rfl, mAg.rf⟩⟩⟩)
  obtain ⟨h8, n, hn, e⟩ := h7
  subst e
  exact L 3073 3072 n M7 _ (by omega) hn (by omega) (by omega) h8
end zX4
