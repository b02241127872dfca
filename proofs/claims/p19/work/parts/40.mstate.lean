/-! the reference's methods that hold the state -/
theorem kOS_rf {M : zMem} : kOS M M := fun _ _ => rfl
theorem kOS_st {M M1 : zMem} {q i : Nat} {v : Int32} (h : kOS M M1) (hq : 35 ≤ q ∧ q < 52) : kOS M (zms M1 q i v) := fun p h1 => (zms_ne M1 q i v p (by omega)).trans (h p h1)
theorem kOS_ag {l : List Nat} {M M1 : zMem} (h : kAg l M M1) (hl : ∀ p ∈ l, 35 ≤ p ∧ p < 52) : kOS M M1 := fun p h1 => h p (fun q => by have := hl p q; omega)
theorem kIsT_inI {k : Nat} (hk : k ≤ 10) (t : Int32) : inI t 0 (nI k - 1) = kIsT (nI k) t := by
  have e : (nI k - 1 < t) ↔ (nI k ≤ t) := by
    rw [Int32.lt_iff_toInt_lt, Int32.le_iff_toInt_le, show (1 : Int32) = nI 1 from rfl, pk_sub_toInt (by omega) (by omega), nI_toInt (by omega)]
    omega
  simp only [inI, kIsT, e]
theorem kIsT_F {F : zTS} (hw : kWF F) (t : Int32) : inI t 0 (fT F - 1) = kIsT (fT F) t := by
  rw [hw.1.1]
  exact kIsT_inI hw.1.2 t
theorem kNeg6 {F : zTS} (hw : kWF F) {j : Nat} (hj : j < 6) : (fP F j < 0 ↔ fP F j = -6) ∧ (0 ≤ fP F j ↔ ¬ fP F j = -6) := by
  rcases hw.2.2.2.2.2.1 j hj with h | ⟨i, hi, -, h, -⟩
  · rw [h]; decide
  · rw [h]
    have : ∀ i, i < 6 → (nI i < 0 ↔ nI i = -6) ∧ (0 ≤ nI i ↔ ¬ nI i = -6) := by decide
    exact this i hi
theorem kPisM {F : zTS} (hw : kWF F) {j : Nat} (hj : j < 6) : isM (fP F j) = true ↔ ¬ fP F j = -6 := by
  rcases hw.2.2.2.2.2.1 j hj with h | ⟨i, hi, -, h, -⟩
  · rw [h]; decide
  · rw [h]
    have : ∀ i, i < 6 → (isM (nI i) = true ↔ ¬ nI i = -6) := by decide
    exact this i hi
section zX1
variable {n : Nat} {P : Nat → Int32} {F : zTS} {I : Nat → Option zTS} {M : zMem} {g : Nat → Option Nat} {X : List zShp}
theorem v_X_say_0 (g : Nat → Option Nat) (X : List zShp) (M : zMem) (x1 : Int32) (R : zEnd) (h : (((inI x1 33 126) = true) → (((¬ (M 35 4) = 60) → ((vp_in (M 35 4) 60) ∧ (R (some (.int ((zms (zms M 37 (Int32.toNatClampNeg (M 35 4)) x1) 35 4 ((M 35 4) + 1)) 35 4))) (SHP g X) (zms (zms M 37 (Int32.toNatClampNeg (M 35 4)) x1) 35 4 ((M 35 4) + 1))))) ∧ (((M 35 4) = 60) → (R (some (.int (-4))) (SHP g X) M)))) ∧ (((inI x1 33 126) = false) → (R (some (.int (-2))) (SHP g X) M))) : zRT m_X_say 0 0 0 [(0, .ref 35), (1, .int x1)] [] (SHP g X) M R := by
  refine zs_iload_n 1 d_X_say_0 rfl (List.mem_of_getElem? (i := 1) rfl) ?_
  refine zs_bipush 33 d_X_say_1 (by decide) ?_
  refine zs_bipush 126 d_X_say_3 (by decide) ?_
  refine zs_callS (kc := 0) (ks := 0) (kc1 := 0) (ks1 := 0) (st := []) [.int x1, .int 33, .int 126] d_X_say_5 lk_X_66 ⟨by decide, by decide⟩ rfl (Nat.le_of_ble_eq_true rfl) (ex_X_in g X M x1 33 126) (fun v1 sh1 M1 hR => ?_)
  obtain ⟨rfl, rfl, rfl⟩ := hR
  refine zs_if_ne 14 d_X_say_8 (by decide) (fun c2 => ?_) (fun c2 => ?_)
  · replace h := h.1 (bI_1 c2)
    refine zs_aload_n 0 d_X_say_14 rfl (List.mem_of_getElem? (i := 0) rfl) ?_
    refine zs_get d_X_say_15 gf_X_73 (sh_35 g X) rfl ?_
    refine zs_bipush 60 d_X_say_18 (by decide) ?_
    refine zs_icmp_ne 26 d_X_say_20 (by decide) (fun c3 => ?_) (fun c3 => ?_)
    · replace h := h.1 c3
      refine zs_aload_n 0 d_X_say_26 rfl (List.mem_of_getElem? (i := 0) rfl) ?_
      refine zs_get d_X_say_27 gf_X_20 (sh_35 g X) rfl ?_
      refine zs_aload_n 0 d_X_say_30 rfl (List.mem_of_getElem? (i := 0) rfl) ?_
      refine zs_get d_X_say_31 gf_X_73 (sh_35 g X) rfl ?_
      refine zs_iload_n 1 d_X_say_34 rfl (List.mem_of_getElem? (i := 1) rfl) ?_
      obtain ⟨b4, h⟩ := h
      refine zs_iast d_X_say_35 (sh_37 g X) b4 ?_
      refine zs_aload_n 0 d_X_say_36 rfl (List.mem_of_getElem? (i := 0) rfl) ?_
      refine zs_dup d_X_say_37 rfl ?_
      refine zs_get d_X_say_38 gf_X_73 (sh_35 g X) rfl ?_
      refine zs_iconst 1 d_X_say_41 (by decide) ?_
      refine zs_iadd d_X_say_42 ?_
      refine zs_put d_X_say_43 pf_X_73 (sh_35 g X) rfl rfl rfl ?_
      refine zs_aload_n 0 d_X_say_46 rfl (List.mem_of_getElem? (i := 0) rfl) ?_
      refine zs_get d_X_say_47 gf_X_73 (sh_35 g X) rfl ?_
      exact zs_iret d_X_say_50 rfl h
    · replace h := h.2 c3
      refine zs_bipush (-4) d_X_say_23 (by decide) ?_
      exact zs_iret d_X_say_25 rfl h
  · replace h := h.2 (bI_0 c2)
    refine zs_bipush (-2) d_X_say_11 (by decide) ?_
    exact zs_iret d_X_say_13 rfl h
theorem ml_say (hn : n ≤ 60) (hj : kMJ n P F I M) (s : Int32) : zEx m_X_say 0 0 [.ref 35, .int s] (SHP g X) M (qR g X (fun r M1 => r = (aSay n P s).1 ∧ kMJ (aSay n P s).2.1 (aSay n P s).2.2 F I M1 ∧ kOS M M1)) := by
  obtain ⟨h1, h2, h3, h4⟩ := id hj
  refine zEx_of _ (by decide) (by simp [Value.category]) (Nat.le_of_ble_eq_true rfl) rfl (v_X_say_0 g X M s _ ⟨fun h => ?_, fun h => ?_⟩)
  · obtain ⟨q1, q2⟩ := inI_t h
    have q3 : s ≤ 126 := by
      rw [i32_lt] at q2
      exact Classical.not_not.mp q2
    unfold aSay
    rw [if_neg q1, if_pos q3, h1]
    refine ⟨fun h5 => ?_, fun h5 => ?_⟩
    · have hl : n < 60 := by
        rcases Nat.lt_or_ge n 60 with q | q
        · exact q
        · exact absurd (by rw [show n = 60 by omega]; rfl) h5
      rw [if_pos hl]
      refine ⟨vp_in_nI hl (by decide), qR_i ?_⟩
      rw [nI_1, nI_clamp (by omega)]
      refine ⟨by simp [zms], ⟨rfl, fun j hj2 => ?_, h3, h4⟩, kOS_st (kOS_st kOS_rf (by decide)) (by decide)⟩
      have hj2 : j < n + 1 := hj2
      show (if j = n then s else M 37 j) = if j = n then s else P j
      by_cases e : j = n
      · rw [if_pos e, if_pos e]
      · rw [if_neg e, if_neg e]; exact h2 j (by omega)
    · have hl : ¬ n < 60 := fun q => by
        rw [show (60 : Int32) = nI 60 from rfl, nI_eq (by omega) (by decide)] at h5
        omega
      rw [if_neg hl]
      exact qR_i ⟨rfl, hj, kOS_rf⟩
  · have e : (aSay n P s) = (-2, n, P) := by
      unfold aSay
      have h' : ¬ inI s 33 126 = true := by rw [h]; decide
      rcases inI_f h' with q | q
      · rw [if_pos q]
      · by_cases q2 : s < 33
        · rw [if_pos q2]
        · rw [if_neg q2, if_neg (i32_lt.mp q)]
    rw [e]
    exact qR_i ⟨rfl, hj, kOS_rf⟩
theorem v_X_wipe_0 (g : Nat → Option Nat) (X : List zShp) (M : zMem) (R : zEnd) (h : R (some (.int (M 35 4))) (SHP g X) (zms M 35 4 0)) : zRT m_X_wipe 0 0 0 [(0, .ref 35)] [] (SHP g X) M R := by
  refine zs_aload_n 0 d_X_wipe_0 rfl (List.mem_of_getElem? (i := 0) rfl) ?_
  refine zs_get d_X_wipe_1 gf_X_73 (sh_35 g X) rfl ?_
  refine zs_istore_n2 1 [1, 0] [(0, .ref 35), (1, .int (M 35 4))] d_X_wipe_4 rfl (by decide) rfl ?_
  refine zs_aload_n 0 d_X_wipe_5 rfl (List.mem_of_getElem? (i := 0) rfl) ?_
  refine zs_iconst 0 d_X_wipe_6 (by decide) ?_
  refine zs_put d_X_wipe_7 pf_X_73 (sh_35 g X) rfl rfl rfl ?_
  refine zs_iload_n 1 d_X_wipe_10 rfl (List.mem_of_getElem? (i := 1) rfl) ?_
  exact zs_iret d_X_wipe_11 rfl h
theorem ml_wipe (hj : kMJ n P F I M) : zEx m_X_wipe 0 0 [.ref 35] (SHP g X) M (qR g X (fun r M1 => r = nI n ∧ kMJ 0 P F I M1 ∧ kOS M M1)) := by
  obtain ⟨h1, h2, h3, h4⟩ := id hj
  exact zEx_of _ (by decide) (by simp [Value.category]) (Nat.le_of_ble_eq_true rfl) rfl (v_X_wipe_0 g X M _ (qR_i ⟨h1, ⟨rfl, fun j hj2 => absurd hj2 (Nat.not_lt_zero j), h3, h4⟩, kOS_st kOS_rf (by decide)⟩))
theorem v_X_thing_0 (g : Nat → Option Nat) (X : List zShp) (M : zMem) (x1 x2 : Int32) (R : zEnd) (h : (((inI x1 0 (M 35 6 - 1)) = true) → ((((inI x2 0 4) = false) → (R (some (.int (-2))) (SHP g X) M)) ∧ (((inI x2 0 4) = true) → ((vp_in (((5 : Int32) * x1) + x2) 50) ∧ (R (some (.int (M 38 (Int32.toNatClampNeg (((5 : Int32) * x1) + x2))))) (SHP g X) M))))) ∧ (((inI x1 0 (M 35 6 - 1)) = false) → (R (some (.int (-1))) (SHP g X) M))) : zRT m_X_thing 0 0 0 [(0, .ref 35), (1, .int x1), (2, .int x2)] [] (SHP g X) M R := by
  refine zs_aload_n 0 d_X_thing_0 rfl (List.mem_of_getElem? (i := 0) rfl) ?_
  refine zs_iload_n 1 d_X_thing_1 rfl (List.mem_of_getElem? (i := 1) rfl) ?_
  refine zs_callV (kc := 0) (ks := 0) (kc1 := 0) (ks1 := 0) (st := []) [.int x1] d_X_thing_2 lk_X_83 ⟨by decide, by decide⟩ rfl (sh_35 g X) rfl (Nat.le_of_ble_eq_true rfl) (ex_X_isThing g X M x1) (fun v1 sh1 M1 hR => ?_)
  obtain ⟨rfl, rfl, rfl⟩ := hR
  refine zs_if_ne 10 d_X_thing_5 (by decide) (fun c2 => ?_) (fun c2 => ?_)
  · replace h := h.1 (bI_1 c2)
    refine zs_iload_n 2 d_X_thing_10 rfl (List.mem_of_getElem? (i := 2) rfl) ?_
    refine zs_iconst 0 d_X_thing_11 (by decide) ?_
    refine zs_iconst 4 d_X_thing_12 (by decide) ?_
    refine zs_callS (kc := 0) (ks := 0) (kc1 := 0) (ks1 := 0) (st := []) [.int x2, .int 0, .int 4] d_X_thing_13 lk_X_66 ⟨by decide, by decide⟩ rfl (Nat.le_of_ble_eq_true rfl) (ex_X_in g X M x2 0 4) (fun v3 sh3 M3 hR => ?_)
    obtain ⟨rfl, rfl, rfl⟩ := hR
    refine zs_if_eq 32 d_X_thing_16 (by decide) (fun c4 => ?_) (fun c4 => ?_)
    · replace h := h.1 (bI_0 c4)
      refine zs_bipush (-2) d_X_thing_32 (by decide) ?_
      exact zs_iret d_X_thing_34 rfl h
    · replace h := h.2 (bI_1 c4)
      refine zs_aload_n 0 d_X_thing_19 rfl (List.mem_of_getElem? (i := 0) rfl) ?_
      refine zs_get d_X_thing_20 gf_X_23 (sh_35 g X) rfl ?_
      refine zs_iconst 5 d_X_thing_23 (by decide) ?_
      refine zs_iload_n 1 d_X_thing_24 rfl (List.mem_of_getElem? (i := 1) rfl) ?_
      refine zs_imul d_X_thing_25 ?_
      refine zs_iload_n 2 d_X_thing_26 rfl (List.mem_of_getElem? (i := 2) rfl) ?_
      refine zs_iadd d_X_thing_27 ?_
      obtain ⟨b5, h⟩ := h
      refine zs_iald d_X_thing_28 (sh_38 g X) b5 ?_
      refine zs_goto 34 d_X_thing_29 (by decide) ?_
      exact zs_iret d_X_thing_34 rfl h
  · replace h := h.2 (bI_0 c2)
    refine zs_iconst (-1) d_X_thing_8 (by decide) ?_
    exact zs_iret d_X_thing_9 rfl h
theorem ml_thing (hw : kWF F) (hj : kMJ n P F I M) (t w : Int32) : zEx m_X_thing 0 0 [.ref 35, .int t, .int w] (SHP g X) M (qF g X (aThing F t w) M) := by
  obtain ⟨r1, -, -, -, eT, -⟩ := hj.2.2.1
  have key : kIsT (fT F) t = true → inI w 0 4 = true → vp_in ((5 : Int32) * t + w) 50 ∧ Int32.toNatClampNeg ((5 : Int32) * t + w) = 5 * Int32.toNatClampNeg t + Int32.toNatClampNeg w ∧ 5 * Int32.toNatClampNeg t + Int32.toNatClampNeg w < 50 := by
    intro h h2
    obtain ⟨a1, a2⟩ := kIsT_n hw h
    obtain ⟨q1, q2⟩ := inI_t h2
    obtain ⟨j, hj2, e⟩ := nI_of q1
    rw [e, show (4 : Int32) = nI 4 from rfl, nI_ltI (by decide) hj2] at q2
    have hb := hw.1.2
    rw [e, nI_clamp hj2]
    generalize Int32.toNatClampNeg t = a at a1 a2 ⊢
    subst a2
    rw [show (5 : Int32) = nI 5 from rfl, pk_mul, nI_add, nI_clamp (by omega)]
    exact ⟨vp_in_nI (by omega) (by decide), rfl, by omega⟩
  refine zEx_of _ (by decide) (by simp [Value.category]) (Nat.le_of_ble_eq_true rfl) rfl (v_X_thing_0 g X M t w _ ?_)
  rw [eT, kIsT_F hw]
  refine ⟨fun h => ⟨fun h2 => qF_i ?_ rfl, fun h2 => ⟨(key h h2).1, qF_i ?_ rfl⟩⟩, fun h => qF_i ?_ rfl⟩
  · unfold aThing; rw [if_pos h, h2]; rfl
  · unfold aThing; rw [if_pos h, if_pos h2, (key h h2).2.1, r1 _ (key h h2).2.2]
  · unfold aThing; rw [h]; rfl
theorem v_X_join_0 (g : Nat → Option Nat) (X : List zShp) (M : zMem) (x1 x2 : Int32) (R : zEnd) (h : (((isM x1) = false) → (R (some (.int (-1))) (SHP g X) M)) ∧ (((isM x1) = true) → ((((isM x2) = false) → (R (some (.int (-1))) (SHP g X) M)) ∧ (((isM x2) = true) → (((¬ x1 = x2) → ((vp_in x1 6) ∧ (((0 ≤ (M 36 (Int32.toNatClampNeg x1))) → (R (some (.int (-3))) (SHP g X) M)) ∧ ((¬ 0 ≤ (M 36 (Int32.toNatClampNeg x1))) → ((vp_in x2 6) ∧ ((((M 36 (Int32.toNatClampNeg x2)) < 0) → (R (some (.int 1)) (SHP g X) (zms (zms M 36 (Int32.toNatClampNeg x1) x2) 36 (Int32.toNatClampNeg x2) x1))) ∧ ((¬ (M 36 (Int32.toNatClampNeg x2)) < 0) → (R (some (.int (-3))) (SHP g X) M)))))))) ∧ ((x1 = x2) → (R (some (.int (-1))) (SHP g X) M))))))) : zRT m_X_join 0 0 0 [(0, .ref 35), (1, .int x1), (2, .int x2)] [] (SHP g X) M R := by
  refine zs_iload_n 1 d_X_join_0 rfl (List.mem_of_getElem? (i := 1) rfl) ?_
  refine zs_callS (kc := 0) (ks := 0) (kc1 := 0) (ks1 := 0) (st := []) [.int x1] d_X_join_1 lk_X_87 ⟨by decide, by decide⟩ rfl (Nat.le_of_ble_eq_true rfl) (ex_X_isMan g X M x1) (fun v1 sh1 M1 hR => ?_)
  obtain ⟨rfl, rfl, rfl⟩ := hR
  refine zs_if_eq 19 d_X_join_4 (by decide) (fun c2 => ?_) (fun c2 => ?_)
  · replace h := h.1 (bI_0 c2)
    refine zs_iconst (-1) d_X_join_19 (by decide) ?_
    exact zs_iret d_X_join_20 rfl h
  · replace h := h.2 (bI_1 c2)
    refine zs_iload_n 2 d_X_join_7 rfl (List.mem_of_getElem? (i := 2) rfl) ?_
    refine zs_callS (kc := 0) (ks := 0) (kc1 := 0) (ks1 := 0) (st := []) [.int x2] d_X_join_8 lk_X_87 ⟨by decide, by decide⟩ rfl (Nat.le_of_ble_eq_true rfl) (ex_X_isMan g X M x2) (fun v3 sh3 M3 hR => ?_)
    obtain ⟨rfl, rfl, rfl⟩ := hR
    refine zs_if_eq 19 d_X_join_11 (by decide) (fun c4 => ?_) (fun c4 => ?_)
    · replace h := h.1 (bI_0 c4)
      refine zs_iconst (-1) d_X_join_19 (by decide) ?_
      exact zs_iret d_X_join_20 rfl h
    · replace h := h.2 (bI_1 c4)
      refine zs_iload_n 1 d_X_join_14 rfl (List.mem_of_getElem? (i := 1) rfl) ?_
      refine zs_iload_n 2 d_X_join_15 rfl (List.mem_of_getElem? (i := 2) rfl) ?_
      refine zs_icmp_ne 21 d_X_join_16 (by decide) (fun c5 => ?_) (fun c5 => ?_)
      · replace h := h.1 c5
        refine zs_aload_n 0 d_X_join_21 rfl (List.mem_of_getElem? (i := 0) rfl) ?_
        refine zs_get d_X_join_22 gf_X_16 (sh_35 g X) rfl ?_
        refine zs_iload_n 1 d_X_join_25 rfl (List.mem_of_getElem? (i := 1) rfl) ?_
        obtain ⟨b6, h⟩ := h
        refine zs_iald d_X_join_26 (sh_36 g X) b6 ?_
        refine zs_if_ge 39 d_X_join_27 (by decide) (fun c7 => ?_) (fun c7 => ?_)
        · replace h := h.1 c7
          refine zs_bipush (-3) d_X_join_39 (by decide) ?_
          exact zs_iret d_X_join_41 rfl h
        · replace h := h.2 c7
          refine zs_aload_n 0 d_X_join_30 rfl (List.mem_of_getElem? (i := 0) rfl) ?_
          refine zs_get d_X_join_31 gf_X_16 (sh_35 g X) rfl ?_
          refine zs_iload_n 2 d_X_join_34 rfl (List.mem_of_getElem? (i := 2) rfl) ?_
          obtain ⟨b8, h⟩ := h
          refine zs_iald d_X_join_35 (sh_36 g X) b8 ?_
          refine zs_if_lt 42 d_X_join_36 (by decide) (fun c9 => ?_) (fun c9 => ?_)
          · replace h := h.1 c9
            refine zs_aload_n 0 d_X_join_42 rfl (List.mem_of_getElem? (i := 0) rfl) ?_
            refine zs_get d_X_join_43 gf_X_16 (sh_35 g X) rfl ?_
            refine zs_iload_n 1 d_X_join_46 rfl (List.mem_of_getElem? (i := 1) rfl) ?_
            refine zs_iload_n 2 d_X_join_47 rfl (List.mem_of_getElem? (i := 2) rfl) ?_
            refine zs_iast d_X_join_48 (sh_36 g X) b6 ?_
            refine zs_aload_n 0 d_X_join_49 rfl (List.mem_of_getElem? (i := 0) rfl) ?_
            refine zs_get d_X_join_50 gf_X_16 (sh_35 g X) rfl ?_
            refine zs_iload_n 2 d_X_join_53 rfl (List.mem_of_getElem? (i := 2) rfl) ?_
            refine zs_iload_n 1 d_X_join_54 rfl (List.mem_of_getElem? (i := 1) rfl) ?_
            refine zs_iast d_X_join_55 (sh_36 g X) b8 ?_
            refine zs_iconst 1 d_X_join_56 (by decide) ?_
            exact zs_iret d_X_join_57 rfl h
          · replace h := h.2 c9
            refine zs_bipush (-3) d_X_join_39 (by decide) ?_
            exact zs_iret d_X_join_41 rfl h
      · replace h := h.2 c5
        refine zs_iconst (-1) d_X_join_19 (by decide) ?_
        exact zs_iret d_X_join_20 rfl h
theorem ml_join (hw : kWF F) (hj : kMJ n P F I M) (m o : Int32) : zEx m_X_join 0 0 [.ref 35, .int m, .int o] (SHP g X) M (qR g X (fun r M1 => r = (aJoin F m o).1 ∧ kMJ n P (aJoin F m o).2 I M1 ∧ kOS M M1)) := by
  obtain ⟨h1, h2, h3, h4⟩ := id hj
  obtain ⟨t1, t2, t3, t4, t5, t6, t7, t8, t9⟩ := id h3
  have hP : ∀ x, isM x = true → M 36 (Int32.toNatClampNeg x) = fP F (Int32.toNatClampNeg x) := fun x hx => t4 _ (isM_n hx).1
  refine zEx_of _ (by decide) (by simp [Value.category]) (Nat.le_of_ble_eq_true rfl) rfl (v_X_join_0 g X M m o _ ⟨fun a1 => ?_, fun a1 => ⟨fun a2 => ?_, fun a2 => ⟨fun a3 => ⟨isM_in a1, fun a4 => ?_, fun a4 => ⟨isM_in a2, fun a5 => ?_, fun a5 => ?_⟩⟩, fun a3 => ?_⟩⟩⟩)
  · unfold aJoin; rw [if_neg (fun q => by rw [a1] at q; exact absurd q.1 (by decide))]; exact qR_i ⟨rfl, hj, kOS_rf⟩
  · unfold aJoin; rw [if_neg (fun q => by rw [a2] at q; exact absurd q.2.1 (by decide))]; exact qR_i ⟨rfl, hj, kOS_rf⟩
  · rw [hP m a1, (kNeg6 hw (isM_n a1).1).2] at a4
    unfold aJoin; rw [if_pos ⟨a1, a2, a3⟩, if_neg (fun q => a4 q.1)]; exact qR_i ⟨rfl, hj, kOS_rf⟩
  · rw [hP m a1, (kNeg6 hw (isM_n a1).1).2] at a4
    rw [hP o a2, (kNeg6 hw (isM_n a2).1).1] at a5
    unfold aJoin
    rw [if_pos ⟨a1, a2, a3⟩, if_pos ⟨Classical.not_not.mp a4, a5⟩]
    refine qR_i ⟨rfl, ⟨h1, h2, ⟨t1, t2, t3, fun j hj2 => ?_, t5, t6, t7, t8, t9⟩, h4⟩, kOS_st (kOS_st kOS_rf (by decide)) (by decide)⟩
    show (if j = Int32.toNatClampNeg o then m else if j = Int32.toNatClampNeg m then o else M 36 j) = if j = Int32.toNatClampNeg o then m else if j = Int32.toNatClampNeg m then o else fP F j
    rw [t4 j hj2]
  · rw [hP o a2, (kNeg6 hw (isM_n a2).1).1] at a5
    unfold aJoin; rw [if_pos ⟨a1, a2, a3⟩, if_neg (fun q => a5 q.2)]; exact qR_i ⟨rfl, hj, kOS_rf⟩
  · unfold aJoin; rw [if_neg (fun q => q.2.2 a3)]; exact qR_i ⟨rfl, hj, kOS_rf⟩
theorem v_X_part_0 (g : Nat → Option Nat) (X : List zShp) (M : zMem) (x1 : Int32) (R : zEnd) (h : (((isM x1) = true) → ((vp_in x1 6) ∧ ((((M 36 (Int32.toNatClampNeg x1)) < 0) → (R (some (.int (M 36 (Int32.toNatClampNeg x1)))) (SHP g X) M)) ∧ ((¬ (M 36 (Int32.toNatClampNeg x1)) < 0) → ((vp_in (M 36 (Int32.toNatClampNeg x1)) 6) ∧ (R (some (.int (M 36 (Int32.toNatClampNeg x1)))) (SHP g X) (zms (zms M 36 (Int32.toNatClampNeg (M 36 (Int32.toNatClampNeg x1))) (-6)) 36 (Int32.toNatClampNeg x1) (-6)))))))) ∧ (((isM x1) = false) → (R (some (.int (-1))) (SHP g X) M))) : zRT m_X_part 0 0 0 [(0, .ref 35), (1, .int x1)] [] (SHP g X) M R := by
  refine zs_iload_n 1 d_X_part_0 rfl (List.mem_of_getElem? (i := 1) rfl) ?_
  refine zs_callS (kc := 0) (ks := 0) (kc1 := 0) (ks1 := 0) (st := []) [.int x1] d_X_part_1 lk_X_87 ⟨by decide, by decide⟩ rfl (Nat.le_of_ble_eq_true rfl) (ex_X_isMan g X M x1) (fun v1 sh1 M1 hR => ?_)
  obtain ⟨rfl, rfl, rfl⟩ := hR
  refine zs_if_ne 9 d_X_part_4 (by decide) (fun c2 => ?_) (fun c2 => ?_)
  · replace h := h.1 (bI_1 c2)
    refine zs_aload_n 0 d_X_part_9 rfl (List.mem_of_getElem? (i := 0) rfl) ?_
    refine zs_get d_X_part_10 gf_X_16 (sh_35 g X) rfl ?_
    refine zs_iload_n 1 d_X_part_13 rfl (List.mem_of_getElem? (i := 1) rfl) ?_
    obtain ⟨b3, h⟩ := h
    refine zs_iald d_X_part_14 (sh_36 g X) b3 ?_
    refine zs_istore_n2 2 [1, 2, 0] [(0, .ref 35), (1, .int x1), (2, .int (M 36 (Int32.toNatClampNeg x1)))] d_X_part_15 rfl (by decide) rfl ?_
    refine zs_iload_n 2 d_X_part_16 rfl (List.mem_of_getElem? (i := 2) rfl) ?_
    refine zs_if_lt 36 d_X_part_17 (by decide) (fun c4 => ?_) (fun c4 => ?_)
    · replace h := h.1 c4
      refine zs_iload_n 2 d_X_part_36 rfl (List.mem_of_getElem? (i := 2) rfl) ?_
      exact zs_iret d_X_part_37 rfl h
    · replace h := h.2 c4
      refine zs_aload_n 0 d_X_part_20 rfl (List.mem_of_getElem? (i := 0) rfl) ?_
      refine zs_get d_X_part_21 gf_X_16 (sh_35 g X) rfl ?_
      refine zs_iload_n 2 d_X_part_24 rfl (List.mem_of_getElem? (i := 2) rfl) ?_
      refine zs_bipush (-6) d_X_part_25 (by decide) ?_
      obtain ⟨b5, h⟩ := h
      refine zs_iast d_X_part_27 (sh_36 g X) b5 ?_
      refine zs_aload_n 0 d_X_part_28 rfl (List.mem_of_getElem? (i := 0) rfl) ?_
      refine zs_get d_X_part_29 gf_X_16 (sh_35 g X) rfl ?_
      refine zs_iload_n 1 d_X_part_32 rfl (List.mem_of_getElem? (i := 1) rfl) ?_
      refine zs_bipush (-6) d_X_part_33 (by decide) ?_
      refine zs_iast d_X_part_35 (sh_36 g X) b3 ?_
      refine zs_iload_n 2 d_X_part_36 rfl (List.mem_of_getElem? (i := 2) rfl) ?_
      exact zs_iret d_X_part_37 rfl h
  · replace h := h.2 (bI_0 c2)
    refine zs_iconst (-1) d_X_part_7 (by decide) ?_
    exact zs_iret d_X_part_8 rfl h
theorem ml_part (hw : kWF F) (hj : kMJ n P F I M) (m : Int32) : zEx m_X_part 0 0 [.ref 35, .int m] (SHP g X) M (qR g X (fun r M1 => r = (aPart F m).1 ∧ kMJ n P (aPart F m).2 I M1 ∧ kOS M M1)) := by
  obtain ⟨h1, h2, h3, h4⟩ := id hj
  obtain ⟨t1, t2, t3, t4, t5, t6, t7, t8, t9⟩ := id h3
  refine zEx_of _ (by decide) (by simp [Value.category]) (Nat.le_of_ble_eq_true rfl) rfl (v_X_part_0 g X M m _ ⟨fun a1 => ⟨isM_in a1, ?_⟩, fun a1 => ?_⟩)
  · have hm := (isM_n a1).1
    rw [t4 _ hm]
    unfold aPart
    rw [if_pos a1]
    refine ⟨fun a2 => ?_, fun a2 => ?_⟩
    · rw [(kNeg6 hw hm).1] at a2
      rw [if_neg (fun q => (kPisM hw hm).mp q a2)]
      exact qR_i ⟨rfl, hj, kOS_rf⟩
    · rw [(kNeg6 hw hm).1] at a2
      have a3 := (kPisM hw hm).mpr a2
      rw [if_pos a3]
      refine ⟨isM_in a3, qR_i ⟨rfl, ⟨h1, h2, ⟨t1, t2, t3, fun j hj2 => ?_, t5, t6, t7, t8, t9⟩, h4⟩, kOS_st (kOS_st kOS_rf (by decide)) (by decide)⟩⟩
      show (if j = Int32.toNatClampNeg m then -6 else if j = Int32.toNatClampNeg (fP F (Int32.toNatClampNeg m)) then -6 else M 36 j) = if j = Int32.toNatClampNeg (fP F (Int32.toNatClampNeg m)) then -6 else if j = Int32.toNatClampNeg m then -6 else fP F j
      rw [t4 j hj2]
      by_cases e1 : j = Int32.toNatClampNeg m
      · rw [if_pos e1, if_pos e1]
        by_cases e2 : j = Int32.toNatClampNeg (fP F (Int32.toNatClampNeg m))
        · rw [if_pos e2]
        · rw [if_neg e2]
      · rw [if_neg e1, if_neg e1]
  · unfold aPart; rw [a1]; exact qR_i ⟨rfl, hj, kOS_rf⟩
theorem v_X_set_0 (g : Nat → Option Nat) (X : List zShp) (M : zMem) (x1 x2 : Int32) (R : zEnd) (h : (((inI x1 0 2) = false) → (R (some (.int (-2))) (SHP g X) M)) ∧ (((inI x1 0 2) = true) → (((¬ x1 = 0) → (((¬ x1 = 1) → ((((inI x2 0 10) = true) → (((¬ x1 = 2) → (R (some (.int (M 35 2))) (SHP g X) (zms (zms (zms M 35 0 (M 35 0)) 35 1 ((zms M 35 0 (M 35 0)) 35 1)) 35 2 ((zms (zms M 35 0 (M 35 0)) 35 1 ((zms M 35 0 (M 35 0)) 35 1)) 35 2)))) ∧ ((x1 = 2) → (R (some (.int (M 35 2))) (SHP g X) (zms (zms (zms M 35 0 (M 35 0)) 35 1 ((zms M 35 0 (M 35 0)) 35 1)) 35 2 x2))))) ∧ (((inI x2 0 10) = false) → (R (some (.int (-2))) (SHP g X) M)))) ∧ ((x1 = 1) → ((((inI x2 0 1) = true) → (((¬ x1 = 2) → (R (some (.int (M 35 1))) (SHP g X) (zms (zms (zms M 35 0 (M 35 0)) 35 1 x2) 35 2 ((zms (zms M 35 0 (M 35 0)) 35 1 x2) 35 2)))) ∧ ((x1 = 2) → (R (some (.int (M 35 1))) (SHP g X) (zms (zms (zms M 35 0 (M 35 0)) 35 1 x2) 35 2 x2))))) ∧ (((inI x2 0 1) = false) → (R (some (.int (-2))) (SHP g X) M)))))) ∧ ((x1 = 0) → ((((inI x2 0 9) = true) → (((¬ x1 = 1) → (((¬ x1 = 2) → (R (some (.int (M 35 0))) (SHP g X) (zms (zms (zms M 35 0 x2) 35 1 ((zms M 35 0 x2) 35 1)) 35 2 ((zms (zms M 35 0 x2) 35 1 ((zms M 35 0 x2) 35 1)) 35 2)))) ∧ ((x1 = 2) → (R (some (.int (M 35 0))) (SHP g X) (zms (zms (zms M 35 0 x2) 35 1 ((zms M 35 0 x2) 35 1)) 35 2 x2))))) ∧ ((x1 = 1) → (((¬ x1 = 2) → (R (some (.int (M 35 0))) (SHP g X) (zms (zms (zms M 35 0 x2) 35 1 x2) 35 2 ((zms (zms M 35 0 x2) 35 1 x2) 35 2)))) ∧ ((x1 = 2) → (R (some (.int (M 35 0))) (SHP g X) (zms (zms (zms M 35 0 x2) 35 1 x2) 35 2 x2))))))) ∧ (((inI x2 0 9) = false) → (R (some (.int (-2))) (SHP g X) M))))))) : zRT m_X_set 0 0 0 [(0, .ref 35), (1, .int x1), (2, .int x2)] [] (SHP g X) M R := by
  refine zs_iload_n 1 d_X_set_0 rfl (List.mem_of_getElem? (i := 1) rfl) ?_
  refine zs_iconst 0 d_X_set_1 (by decide) ?_
  refine zs_iconst 2 d_X_set_2 (by decide) ?_
  refine zs_callS (kc := 0) (ks := 0) (kc1 := 0) (ks1 := 0) (st := []) [.int x1, .int 0, .int 2] d_X_set_3 lk_X_66 ⟨by decide, by decide⟩ rfl (Nat.le_of_ble_eq_true rfl) (ex_X_in g X M x1 0 2) (fun v1 sh1 M1 hR => ?_)
  obtain ⟨rfl, rfl, rfl⟩ := hR
  refine zs_if_eq 37 d_X_set_6 (by decide) (fun c2 => ?_) (fun c2 => ?_)
  · replace h := h.1 (bI_0 c2)
    refine zs_bipush (-2) d_X_set_37 (by decide) ?_
    exact zs_iret d_X_set_39 rfl h
  · replace h := h.2 (bI_1 c2)
    refine zs_iload_n 2 d_X_set_9 rfl (List.mem_of_getElem? (i := 2) rfl) ?_
    refine zs_iconst 0 d_X_set_10 (by decide) ?_
    refine zs_iload_n 1 d_X_set_11 rfl (List.mem_of_getElem? (i := 1) rfl) ?_
    refine zs_if_ne 20 d_X_set_12 (by decide) (fun c3 => ?_) (fun c3 => ?_)
    · replace h := h.1 c3
      refine zs_iload_n 1 d_X_set_20 rfl (List.mem_of_getElem? (i := 1) rfl) ?_
      refine zs_iconst 1 d_X_set_21 (by decide) ?_
      refine zs_icmp_ne 29 d_X_set_22 (by decide) (fun c4 => ?_) (fun c4 => ?_)
      · replace h := h.1 c4
        refine zs_bipush 10 d_X_set_29 (by decide) ?_
        refine zs_callS (kc := 0) (ks := 0) (kc1 := 0) (ks1 := 0) (st := []) [.int x2, .int 0, .int 10] d_X_set_31 lk_X_66 ⟨by decide, by decide⟩ rfl (Nat.le_of_ble_eq_true rfl) (ex_X_in g X M x2 0 10) (fun v5 sh5 M5 hR => ?_)
        obtain ⟨rfl, rfl, rfl⟩ := hR
        refine zs_if_ne 40 d_X_set_34 (by decide) (fun c6 => ?_) (fun c6 => ?_)
        · replace h := h.1 (bI_1 c6)
          refine zs_iload_n 1 d_X_set_40 rfl (List.mem_of_getElem? (i := 1) rfl) ?_
          refine zs_if_ne 51 d_X_set_41 (by decide) (fun _ => ?_) (fun c => absurd c c3)
          refine zs_iload_n 1 d_X_set_51 rfl (List.mem_of_getElem? (i := 1) rfl) ?_
          refine zs_iconst 1 d_X_set_52 (by decide) ?_
          refine zs_icmp_ne 63 d_X_set_53 (by decide) (fun _ => ?_) (fun c => absurd c c4)
          refine zs_aload_n 0 d_X_set_63 rfl (List.mem_of_getElem? (i := 0) rfl) ?_
          refine zs_get d_X_set_64 gf_X_13 (sh_35 g X) rfl ?_
          refine zs_istore_n2 3 [1, 2, 3, 0] [(0, .ref 35), (1, .int x1), (2, .int x2), (3, .int (M 35 2))] d_X_set_67 rfl (by decide) rfl ?_
          refine zs_aload_n 0 d_X_set_68 rfl (List.mem_of_getElem? (i := 0) rfl) ?_
          refine zs_iload_n 1 d_X_set_69 rfl (List.mem_of_getElem? (i := 1) rfl) ?_
          refine zs_if_ne 77 d_X_set_70 (by decide) (fun _ => ?_) (fun c => absurd c c3)
          refine zs_aload_n 0 d_X_set_77 rfl (List.mem_of_getElem? (i := 0) rfl) ?_
          refine zs_get d_X_set_78 gf_X_7 (sh_35 g X) rfl ?_
          refine zs_put d_X_set_81 pf_X_7 (sh_35 g X) rfl rfl rfl ?_
          refine zs_aload_n 0 d_X_set_84 rfl (List.mem_of_getElem? (i := 0) rfl) ?_
          refine zs_iload_n 1 d_X_set_85 rfl (List.mem_of_getElem? (i := 1) rfl) ?_
          refine zs_iconst 1 d_X_set_86 (by decide) ?_
          refine zs_icmp_ne 94 d_X_set_87 (by decide) (fun _ => ?_) (fun c => absurd c c4)
          refine zs_aload_n 0 d_X_set_94 rfl (List.mem_of_getElem? (i := 0) rfl) ?_
          refine zs_get d_X_set_95 gf_X_90 (sh_35 g X) rfl ?_
          refine zs_put d_X_set_98 pf_X_90 (sh_35 g X) rfl rfl rfl ?_
          refine zs_aload_n 0 d_X_set_101 rfl (List.mem_of_getElem? (i := 0) rfl) ?_
          refine zs_iload_n 1 d_X_set_102 rfl (List.mem_of_getElem? (i := 1) rfl) ?_
          refine zs_iconst 2 d_X_set_103 (by decide) ?_
          refine zs_icmp_ne 111 d_X_set_104 (by decide) (fun c7 => ?_) (fun c7 => ?_)
          · replace h := h.1 c7
            refine zs_aload_n 0 d_X_set_111 rfl (List.mem_of_getElem? (i := 0) rfl) ?_
            refine zs_get d_X_set_112 gf_X_13 (sh_35 g X) rfl ?_
            refine zs_put d_X_set_115 pf_X_13 (sh_35 g X) rfl rfl rfl ?_
            refine zs_iload_n 3 d_X_set_118 rfl (List.mem_of_getElem? (i := 3) rfl) ?_
            exact zs_iret d_X_set_119 rfl h
          · replace h := h.2 c7
            refine zs_iload_n 2 d_X_set_107 rfl (List.mem_of_getElem? (i := 2) rfl) ?_
            refine zs_goto 115 d_X_set_108 (by decide) ?_
            refine zs_put d_X_set_115 pf_X_13 (sh_35 g X) rfl rfl rfl ?_
            refine zs_iload_n 3 d_X_set_118 rfl (List.mem_of_getElem? (i := 3) rfl) ?_
            exact zs_iret d_X_set_119 rfl h
        · replace h := h.2 (bI_0 c6)
          refine zs_bipush (-2) d_X_set_37 (by decide) ?_
          exact zs_iret d_X_set_39 rfl h
      · replace h := h.2 c4
        refine zs_iconst 1 d_X_set_25 (by decide) ?_
        refine zs_goto 31 d_X_set_26 (by decide) ?_
        refine zs_callS (kc := 0) (ks := 0) (kc1 := 0) (ks1 := 0) (st := []) [.int x2, .int 0, .int 1] d_X_set_31 lk_X_66 ⟨by decide, by decide⟩ rfl (Nat.le_of_ble_eq_true rfl) (ex_X_in g X M x2 0 1) (fun v8 sh8 M8 hR => ?_)
        obtain ⟨rfl, rfl, rfl⟩ := hR
        refine zs_if_ne 40 d_X_set_34 (by decide) (fun c9 => ?_) (fun c9 => ?_)
        · replace h := h.1 (bI_1 c9)
          refine zs_iload_n 1 d_X_set_40 rfl (List.mem_of_getElem? (i := 1) rfl) ?_
          refine zs_if_ne 51 d_X_set_41 (by decide) (fun _ => ?_) (fun c => absurd c c3)
          refine zs_iload_n 1 d_X_set_51 rfl (List.mem_of_getElem? (i := 1) rfl) ?_
          refine zs_iconst 1 d_X_set_52 (by decide) ?_
          refine zs_icmp_ne 63 d_X_set_53 (by decide) (fun c => absurd c4 c) (fun _ => ?_)
          refine zs_aload_n 0 d_X_set_56 rfl (List.mem_of_getElem? (i := 0) rfl) ?_
          refine zs_get d_X_set_57 gf_X_90 (sh_35 g X) rfl ?_
          refine zs_goto 67 d_X_set_60 (by decide) ?_
          refine zs_istore_n2 3 [1, 2, 3, 0] [(0, .ref 35), (1, .int x1), (2, .int x2), (3, .int (M 35 1))] d_X_set_67 rfl (by decide) rfl ?_
          refine zs_aload_n 0 d_X_set_68 rfl (List.mem_of_getElem? (i := 0) rfl) ?_
          refine zs_iload_n 1 d_X_set_69 rfl (List.mem_of_getElem? (i := 1) rfl) ?_
          refine zs_if_ne 77 d_X_set_70 (by decide) (fun _ => ?_) (fun c => absurd c c3)
          refine zs_aload_n 0 d_X_set_77 rfl (List.mem_of_getElem? (i := 0) rfl) ?_
          refine zs_get d_X_set_78 gf_X_7 (sh_35 g X) rfl ?_
          refine zs_put d_X_set_81 pf_X_7 (sh_35 g X) rfl rfl rfl ?_
          refine zs_aload_n 0 d_X_set_84 rfl (List.mem_of_getElem? (i := 0) rfl) ?_
          refine zs_iload_n 1 d_X_set_85 rfl (List.mem_of_getElem? (i := 1) rfl) ?_
          refine zs_iconst 1 d_X_set_86 (by decide) ?_
          refine zs_icmp_ne 94 d_X_set_87 (by decide) (fun c => absurd c4 c) (fun _ => ?_)
          refine zs_iload_n 2 d_X_set_90 rfl (List.mem_of_getElem? (i := 2) rfl) ?_
          refine zs_goto 98 d_X_set_91 (by decide) ?_
          refine zs_put d_X_set_98 pf_X_90 (sh_35 g X) rfl rfl rfl ?_
          refine zs_aload_n 0 d_X_set_101 rfl (List.mem_of_getElem? (i := 0) rfl) ?_
          refine zs_iload_n 1 d_X_set_102 rfl (List.mem_of_getElem? (i := 1) rfl) ?_
          refine zs_iconst 2 d_X_set_103 (by decide) ?_
          refine zs_icmp_ne 111 d_X_set_104 (by decide) (fun c10 => ?_) (fun c10 => ?_)
          · replace h := h.1 c10
            refine zs_aload_n 0 d_X_set_111 rfl (List.mem_of_getElem? (i := 0) rfl) ?_
            refine zs_get d_X_set_112 gf_X_13 (sh_35 g X) rfl ?_
            refine zs_put d_X_set_115 pf_X_13 (sh_35 g X) rfl rfl rfl ?_
            refine zs_iload_n 3 d_X_set_118 rfl (List.mem_of_getElem? (i := 3) rfl) ?_
            exact zs_iret d_X_set_119 rfl h
          · replace h := h.2 c10
            refine zs_iload_n 2 d_X_set_107 rfl (List.mem_of_getElem? (i := 2) rfl) ?_
            refine zs_goto 115 d_X_set_108 (by decide) ?_
            refine zs_put d_X_set_115 pf_X_13 (sh_35 g X) rfl rfl rfl ?_
            refine zs_iload_n 3 d_X_set_118 rfl (List.mem_of_getElem? (i := 3) rfl) ?_
            exact zs_iret d_X_set_119 rfl h
        · replace h := h.2 (bI_0 c9)
          refine zs_bipush (-2) d_X_set_37 (by decide) ?_
          exact zs_iret d_X_set_39 rfl h
    · replace h := h.2 c3
      refine zs_bipush 9 d_X_set_15 (by decide) ?_
      refine zs_goto 31 d_X_set_17 (by decide) ?_
      refine zs_callS (kc := 0) (ks := 0) (kc1 := 0) (ks1 := 0) (st := []) [.int x2, .int 0, .int 9] d_X_set_31 lk_X_66 ⟨by decide, by decide⟩ rfl (Nat.le_of_ble_eq_true rfl) (ex_X_in g X M x2 0 9) (fun v11 sh11 M11 hR => ?_)
      obtain ⟨rfl, rfl, rfl⟩ := hR
      refine zs_if_ne 40 d_X_set_34 (by decide) (fun c12 => ?_) (fun c12 => ?_)
      · replace h := h.1 (bI_1 c12)
        refine zs_iload_n 1 d_X_set_40 rfl (List.mem_of_getElem? (i := 1) rfl) ?_
        refine zs_if_ne 51 d_X_set_41 (by decide) (fun c => absurd c3 c) (fun _ => ?_)
        refine zs_aload_n 0 d_X_set_44 rfl (List.mem_of_getElem? (i := 0) rfl) ?_
        refine zs_get d_X_set_45 gf_X_7 (sh_35 g X) rfl ?_
        refine zs_goto 67 d_X_set_48 (by decide) ?_
        refine zs_istore_n2 3 [1, 2, 3, 0] [(0, .ref 35), (1, .int x1), (2, .int x2), (3, .int (M 35 0))] d_X_set_67 rfl (by decide) rfl ?_
        refine zs_aload_n 0 d_X_set_68 rfl (List.mem_of_getElem? (i := 0) rfl) ?_
        refine zs_iload_n 1 d_X_set_69 rfl (List.mem_of_getElem? (i := 1) rfl) ?_
        refine zs_if_ne 77 d_X_set_70 (by decide) (fun c => absurd c3 c) (fun _ => ?_)
        refine zs_iload_n 2 d_X_set_73 rfl (List.mem_of_getElem? (i := 2) rfl) ?_
        refine zs_goto 81 d_X_set_74 (by decide) ?_
        refine zs_put d_X_set_81 pf_X_7 (sh_35 g X) rfl rfl rfl ?_
        refine zs_aload_n 0 d_X_set_84 rfl (List.mem_of_getElem? (i := 0) rfl) ?_
        refine zs_iload_n 1 d_X_set_85 rfl (List.mem_of_getElem? (i := 1) rfl) ?_
        refine zs_iconst 1 d_X_set_86 (by decide) ?_
        refine zs_icmp_ne 94 d_X_set_87 (by decide) (fun c13 => ?_) (fun c13 => ?_)
        · replace h := h.1 c13
          refine zs_aload_n 0 d_X_set_94 rfl (List.mem_of_getElem? (i := 0) rfl) ?_
          refine zs_get d_X_set_95 gf_X_90 (sh_35 g X) rfl ?_
          refine zs_put d_X_set_98 pf_X_90 (sh_35 g X) rfl rfl rfl ?_
          refine zs_aload_n 0 d_X_set_101 rfl (List.mem_of_getElem? (i := 0) rfl) ?_
          refine zs_iload_n 1 d_X_set_102 rfl (List.mem_of_getElem? (i := 1) rfl) ?_
          refine zs_iconst 2 d_X_set_103 (by decide) ?_
          refine zs_icmp_ne 111 d_X_set_104 (by decide) (fun c14 => ?_) (fun c14 => ?_)
          · replace h := h.1 c14
            refine zs_aload_n 0 d_X_set_111 rfl (List.mem_of_getElem? (i := 0) rfl) ?_
            refine zs_get d_X_set_112 gf_X_13 (sh_35 g X) rfl ?_
            refine zs_put d_X_set_115 pf_X_13 (sh_35 g X) rfl rfl rfl ?_
            refine zs_iload_n 3 d_X_set_118 rfl (List.mem_of_getElem? (i := 3) rfl) ?_
            exact zs_iret d_X_set_119 rfl h
          · replace h := h.2 c14
            refine zs_iload_n 2 d_X_set_107 rfl (List.mem_of_getElem? (i := 2) rfl) ?_
            refine zs_goto 115 d_X_set_108 (by decide) ?_
            refine zs_put d_X_set_115 pf_X_13 (sh_35 g X) rfl rfl rfl ?_
            refine zs_iload_n 3 d_X_set_118 rfl (List.mem_of_getElem? (i := 3) rfl) ?_
            exact zs_iret d_X_set_119 rfl h
        · replace h := h.2 c13
          refine zs_iload_n 2 d_X_set_90 rfl (List.mem_of_getElem? (i := 2) rfl) ?_
          refine zs_goto 98 d_X_set_91 (by decide) ?_
          refine zs_put d_X_set_98 pf_X_90 (sh_35 g X) rfl rfl rfl ?_
          refine zs_aload_n 0 d_X_set_101 rfl (List.mem_of_getElem? (i := 0) rfl) ?_
          refine zs_iload_n 1 d_X_set_102 rfl (List.mem_of_getElem? (i := 1) rfl) ?_
          refine zs_iconst 2 d_X_set_103 (by decide) ?_
          refine zs_icmp_ne 111 d_X_set_104 (by decide) (fun c15 => ?_) (fun c15 => ?_)
          · replace h := h.1 c15
            refine zs_aload_n 0 d_X_set_111 rfl (List.mem_of_getElem? (i := 0) rfl) ?_
            refine zs_get d_X_set_112 gf_X_13 (sh_35 g X) rfl ?_
            refine zs_put d_X_set_115 pf_X_13 (sh_35 g X) rfl rfl rfl ?_
            refine zs_iload_n 3 d_X_set_118 rfl (List.mem_of_getElem? (i := 3) rfl) ?_
            exact zs_iret d_X_set_119 rfl h
          · replace h := h.2 c15
            refine zs_iload_n 2 d_X_set_107 rfl (List.mem_of_getElem? (i := 2) rfl) ?_
            refine zs_goto 115 d_X_set_108 (by decide) ?_
            refine zs_put d_X_set_115 pf_X_13 (sh_35 g X) rfl rfl rfl ?_
            refine zs_iload_n 3 d_X_set_118 rfl (List.mem_of_getElem? (i := 3) rfl) ?_
            exact zs_iret d_X_set_119 rfl h
      · replace h := h.2 (bI_0 c12)
        refine zs_bipush (-2) d_X_set_37 (by decide) ?_
        exact zs_iret d_X_set_39 rfl h
theorem zms_id (M : zMem) (p i : Nat) : zms M p i (M p i) = M := by
  funext a b
  by_cases ha : a = p
  · by_cases hb : b = i
    · simp [zms, ha, hb]
    · simp [zms, ha, hb]
  · simp [zms, ha]
theorem ml_set (hj : kMJ n P F I M) (w v : Int32) : zEx m_X_set 0 0 [.ref 35, .int w, .int v] (SHP g X) M (qR g X (fun r M1 => r = (aSet F w v).1 ∧ kMJ n P (aSet F w v).2 I M1 ∧ kOS M M1)) := by
  obtain ⟨h1, h2, h3, h4⟩ := id hj
  obtain ⟨t1, t2, t3, t4, t5, t6, t7, t8, t9⟩ := id h3
  have bad : ¬ (inI w 0 2 = true ∧ inI v 0 (mO w) = true) → qR g X (fun r M1 => r = (aSet F w v).1 ∧ kMJ n P (aSet F w v).2 I M1 ∧ kOS M M1) (some (.int (-2))) (SHP g X) M := by
    intro h
    unfold aSet
    rw [if_neg h]
    exact qR_i ⟨rfl, hj, kOS_rf⟩
  have wh : inI w 0 2 = true → ¬ w = 0 → ¬ w = 1 → w = 2 := by
    intro h a b
    obtain ⟨q1, q2⟩ := inI_t h
    obtain ⟨j, hj2, e⟩ := nI_of q1
    subst e
    rw [show (2 : Int32) = nI 2 from rfl, nI_ltI (by decide) hj2] at q2
    have hj5 : j = 0 ∨ j = 1 ∨ j = 2 := by omega
    rcases hj5 with rfl | rfl | rfl
    · exact absurd rfl a
    · exact absurd rfl b
    · rfl
  refine zEx_of _ (by decide) (by simp [Value.category]) (Nat.le_of_ble_eq_true rfl) rfl (v_X_set_0 g X M w v _ ⟨fun a => bad (fun q => by rw [a] at q; exact absurd q.1 (by decide)), fun a => ⟨fun b => ⟨fun c => ⟨fun d => ⟨fun e => absurd (wh a b c) e, fun e => ?_⟩, fun d => bad (fun q => ?_)⟩, fun c => ⟨fun d => ⟨fun e => ?_, fun e => absurd (c.symm.trans e) (by decide)⟩, fun d => bad (fun q => ?_)⟩⟩, fun b => ⟨fun c => ⟨fun d => ⟨fun e => ?_, fun e => absurd (b.symm.trans e) (by decide)⟩, fun d => absurd (b.symm.trans d) (by decide)⟩, fun c => bad (fun q => ?_)⟩⟩⟩)
  · unfold aSet
    rw [if_pos ⟨a, by rw [show mO w = 10 from by unfold mO; rw [if_neg b, if_neg c]]; exact d⟩, if_neg b, if_neg c, zms_id, zms_id]
    exact qR_i ⟨t9, ⟨h1, h2, ⟨t1, t2, t3, t4, t5, t6, t7, t8, rfl⟩, h4⟩, kOS_st kOS_rf (by decide)⟩
  · rw [show mO w = 10 from by unfold mO; rw [if_neg b, if_neg c], d] at q
    exact absurd q.2 (by decide)
  · unfold aSet
    rw [if_pos ⟨a, by rw [show mO w = 1 from by unfold mO; rw [if_neg b, if_pos c]]; exact d⟩, if_neg b, if_pos c, zms_id, zms_id]
    exact qR_i ⟨t8, ⟨h1, h2, ⟨t1, t2, t3, t4, t5, t6, t7, rfl, t9⟩, h4⟩, kOS_st kOS_rf (by decide)⟩
  · rw [show mO w = 1 from by unfold mO; rw [if_neg b, if_pos c], d] at q
    exact absurd q.2 (by decide)
  · unfold aSet
    rw [if_pos ⟨a, by rw [show mO w = 9 from by unfold mO; rw [if_pos b]]; exact c⟩, if_pos b, zms_id, zms_id]
    exact qR_i ⟨t7, ⟨h1, h2, ⟨t1, t2, t3, t4, t5, t6, rfl, t8, t9⟩, h4⟩, kOS_st kOS_rf (by decide)⟩
  · rw [show mO w = 9 from by unfold mO; rw [if_pos b], c] at q
    exact absurd q.2 (by decide)
theorem v_X_loaves_0 (g : Nat → Option Nat) (X : List zShp) (M : zMem) (x1 x2 : Int32) (R : zEnd) (h : (((inI x1 0 (M 35 6 - 1)) = true) → ((((inI x2 0 9) = true) → ((vp_in x1 10) ∧ (R (some (.int (M 39 (Int32.toNatClampNeg x1)))) (SHP g X) (zms M 39 (Int32.toNatClampNeg x1) x2)))) ∧ (((inI x2 0 9) = false) → (R (some (.int (-2))) (SHP g X) M)))) ∧ (((inI x1 0 (M 35 6 - 1)) = false) → (R (some (.int (-1))) (SHP g X) M))) : zRT m_X_loaves 0 0 0 [(0, .ref 35), (1, .int x1), (2, .int x2)] [] (SHP g X) M R := by
  refine zs_aload_n 0 d_X_loaves_0 rfl (List.mem_of_getElem? (i := 0) rfl) ?_
  refine zs_iload_n 1 d_X_loaves_1 rfl (List.mem_of_getElem? (i := 1) rfl) ?_
  refine zs_callV (kc := 0) (ks := 0) (kc1 := 0) (ks1 := 0) (st := []) [.int x1] d_X_loaves_2 lk_X_83 ⟨by decide, by decide⟩ rfl (sh_35 g X) rfl (Nat.le_of_ble_eq_true rfl) (ex_X_isThing g X M x1) (fun v1 sh1 M1 hR => ?_)
  obtain ⟨rfl, rfl, rfl⟩ := hR
  refine zs_if_ne 10 d_X_loaves_5 (by decide) (fun c2 => ?_) (fun c2 => ?_)
  · replace h := h.1 (bI_1 c2)
    refine zs_iload_n 2 d_X_loaves_10 rfl (List.mem_of_getElem? (i := 2) rfl) ?_
    refine zs_iconst 0 d_X_loaves_11 (by decide) ?_
    refine zs_bipush 9 d_X_loaves_12 (by decide) ?_
    refine zs_callS (kc := 0) (ks := 0) (kc1 := 0) (ks1 := 0) (st := []) [.int x2, .int 0, .int 9] d_X_loaves_14 lk_X_66 ⟨by decide, by decide⟩ rfl (Nat.le_of_ble_eq_true rfl) (ex_X_in g X M x2 0 9) (fun v3 sh3 M3 hR => ?_)
    obtain ⟨rfl, rfl, rfl⟩ := hR
    refine zs_if_ne 23 d_X_loaves_17 (by decide) (fun c4 => ?_) (fun c4 => ?_)
    · replace h := h.1 (bI_1 c4)
      refine zs_aload_n 0 d_X_loaves_23 rfl (List.mem_of_getElem? (i := 0) rfl) ?_
      refine zs_get d_X_loaves_24 gf_X_26 (sh_35 g X) rfl ?_
      refine zs_iload_n 1 d_X_loaves_27 rfl (List.mem_of_getElem? (i := 1) rfl) ?_
      obtain ⟨b5, h⟩ := h
      refine zs_iald d_X_loaves_28 (sh_39 g X) b5 ?_
      refine zs_istore_n2 3 [1, 2, 3, 0] [(0, .ref 35), (1, .int x1), (2, .int x2), (3, .int (M 39 (Int32.toNatClampNeg x1)))] d_X_loaves_29 rfl (by decide) rfl ?_
      refine zs_aload_n 0 d_X_loaves_30 rfl (List.mem_of_getElem? (i := 0) rfl) ?_
      refine zs_get d_X_loaves_31 gf_X_26 (sh_35 g X) rfl ?_
      refine zs_iload_n 1 d_X_loaves_34 rfl (List.mem_of_getElem? (i := 1) rfl) ?_
      refine zs_iload_n 2 d_X_loaves_35 rfl (List.mem_of_getElem? (i := 2) rfl) ?_
      refine zs_iast d_X_loaves_36 (sh_39 g X) b5 ?_
      refine zs_iload_n 3 d_X_loaves_37 rfl (List.mem_of_getElem? (i := 3) rfl) ?_
      exact zs_iret d_X_loaves_38 rfl h
    · replace h := h.2 (bI_0 c4)
      refine zs_bipush (-2) d_X_loaves_20 (by decide) ?_
      exact zs_iret d_X_loaves_22 rfl h
  · replace h := h.2 (bI_0 c2)
    refine zs_iconst (-1) d_X_loaves_8 (by decide) ?_
    exact zs_iret d_X_loaves_9 rfl h
theorem ml_loaves (hw : kWF F) (hj : kMJ n P F I M) (t v : Int32) : zEx m_X_loaves 0 0 [.ref 35, .int t, .int v] (SHP g X) M (qR g X (fun r M1 => r = (aLoaves F t v).1 ∧ kMJ n P (aLoaves F t v).2 I M1 ∧ kOS M M1)) := by
  obtain ⟨h1, h2, h3, h4⟩ := id hj
  obtain ⟨t1, t2, t3, t4, t5, t6, t7, t8, t9⟩ := id h3
  refine zEx_of _ (by decide) (by simp [Value.category]) (Nat.le_of_ble_eq_true rfl) rfl (v_X_loaves_0 g X M t v _ ?_)
  rw [t5, kIsT_F hw]
  have hb := hw.1.2
  refine ⟨fun a => ⟨fun b => ⟨?_, ?_⟩, fun b => ?_⟩, fun a => ?_⟩
  · obtain ⟨a1, a2⟩ := kIsT_n hw a
    rw [a2]
    exact vp_in_nI (by omega) (by decide)
  · obtain ⟨a1, a2⟩ := kIsT_n hw a
    unfold aLoaves; rw [if_pos a, if_pos b]
    refine qR_i ⟨t2 _ (by omega), ⟨h1, h2, ⟨t1, fun j hj2 => ?_, t3, t4, t5, t6, t7, t8, t9⟩, h4⟩, kOS_st kOS_rf (by decide)⟩
    show (if j = Int32.toNatClampNeg t then v else M 39 j) = if j = Int32.toNatClampNeg t then v else fL F j
    rw [t2 j hj2]
  · unfold aLoaves; rw [if_pos a, b]; exact qR_i ⟨rfl, hj, kOS_rf⟩
  · unfold aLoaves; rw [a]; exact qR_i ⟨rfl, hj, kOS_rf⟩
theorem v_X_seen_0 (g : Nat → Option Nat) (X : List zShp) (M : zMem) (x1 x2 : Int32) (R : zEnd) (h : (((isM x1) = false) → (R (some (.int (-1))) (SHP g X) M)) ∧ (((isM x1) = true) → ((((inI x2 0 (M 35 6 - 1)) = true) → (((¬ (M 35 9) = 6) → ((vp_in ((2 : Int32) * (M 35 9)) 12) ∧ ((vp_in (((2 : Int32) * (M 35 9)) + 1) 12) ∧ (R (some (.int ((zms (zms (zms M 40 (Int32.toNatClampNeg ((2 : Int32) * (M 35 9))) x1) 40 (Int32.toNatClampNeg (((2 : Int32) * (M 35 9)) + 1)) x2) 35 9 ((M 35 9) + 1)) 35 9))) (SHP g X) (zms (zms (zms M 40 (Int32.toNatClampNeg ((2 : Int32) * (M 35 9))) x1) 40 (Int32.toNatClampNeg (((2 : Int32) * (M 35 9)) + 1)) x2) 35 9 ((M 35 9) + 1)))))) ∧ (((M 35 9) = 6) → (R (some (.int (-4))) (SHP g X) M)))) ∧ (((inI x2 0 (M 35 6 - 1)) = false) → (R (some (.int (-1))) (SHP g X) M))))) : zRT m_X_seen 0 0 0 [(0, .ref 35), (1, .int x1), (2, .int x2)] [] (SHP g X) M R := by
  refine zs_iload_n 1 d_X_seen_0 rfl (List.mem_of_getElem? (i := 1) rfl) ?_
  refine zs_callS (kc := 0) (ks := 0) (kc1 := 0) (ks1 := 0) (st := []) [.int x1] d_X_seen_1 lk_X_87 ⟨by decide, by decide⟩ rfl (Nat.le_of_ble_eq_true rfl) (ex_X_isMan g X M x1) (fun v1 sh1 M1 hR => ?_)
  obtain ⟨rfl, rfl, rfl⟩ := hR
  refine zs_if_eq 15 d_X_seen_4 (by decide) (fun c2 => ?_) (fun c2 => ?_)
  · replace h := h.1 (bI_0 c2)
    refine zs_iconst (-1) d_X_seen_15 (by decide) ?_
    exact zs_iret d_X_seen_16 rfl h
  · replace h := h.2 (bI_1 c2)
    refine zs_aload_n 0 d_X_seen_7 rfl (List.mem_of_getElem? (i := 0) rfl) ?_
    refine zs_iload_n 2 d_X_seen_8 rfl (List.mem_of_getElem? (i := 2) rfl) ?_
    refine zs_callV (kc := 0) (ks := 0) (kc1 := 0) (ks1 := 0) (st := []) [.int x2] d_X_seen_9 lk_X_83 ⟨by decide, by decide⟩ rfl (sh_35 g X) rfl (Nat.le_of_ble_eq_true rfl) (ex_X_isThing g X M x2) (fun v3 sh3 M3 hR => ?_)
    obtain ⟨rfl, rfl, rfl⟩ := hR
    refine zs_if_ne 17 d_X_seen_12 (by decide) (fun c4 => ?_) (fun c4 => ?_)
    · replace h := h.1 (bI_1 c4)
      refine zs_aload_n 0 d_X_seen_17 rfl (List.mem_of_getElem? (i := 0) rfl) ?_
      refine zs_get d_X_seen_18 gf_X_80 (sh_35 g X) rfl ?_
      refine zs_bipush 6 d_X_seen_21 (by decide) ?_
      refine zs_icmp_ne 29 d_X_seen_23 (by decide) (fun c5 => ?_) (fun c5 => ?_)
      · replace h := h.1 c5
        refine zs_aload_n 0 d_X_seen_29 rfl (List.mem_of_getElem? (i := 0) rfl) ?_
        refine zs_get d_X_seen_30 gf_X_29 (sh_35 g X) rfl ?_
        refine zs_iconst 2 d_X_seen_33 (by decide) ?_
        refine zs_aload_n 0 d_X_seen_34 rfl (List.mem_of_getElem? (i := 0) rfl) ?_
        refine zs_get d_X_seen_35 gf_X_80 (sh_35 g X) rfl ?_
        refine zs_imul d_X_seen_38 ?_
        refine zs_iload_n 1 d_X_seen_39 rfl (List.mem_of_getElem? (i := 1) rfl) ?_
        obtain ⟨b6, h⟩ := h
        refine zs_iast d_X_seen_40 (sh_40 g X) b6 ?_
        refine zs_aload_n 0 d_X_seen_41 rfl (List.mem_of_getElem? (i := 0) rfl) ?_
        refine zs_get d_X_seen_42 gf_X_29 (sh_35 g X) rfl ?_
        refine zs_iconst 2 d_X_seen_45 (by decide) ?_
        refine zs_aload_n 0 d_X_seen_46 rfl (List.mem_of_getElem? (i := 0) rfl) ?_
        refine zs_get d_X_seen_47 gf_X_80 (sh_35 g X) rfl ?_
        refine zs_imul d_X_seen_50 ?_
        refine zs_iconst 1 d_X_seen_51 (by decide) ?_
        refine zs_iadd d_X_seen_52 ?_
        refine zs_iload_n 2 d_X_seen_53 rfl (List.mem_of_getElem? (i := 2) rfl) ?_
        obtain ⟨b7, h⟩ := h
        refine zs_iast d_X_seen_54 (sh_40 g X) b7 ?_
        refine zs_aload_n 0 d_X_seen_55 rfl (List.mem_of_getElem? (i := 0) rfl) ?_
        refine zs_dup d_X_seen_56 rfl ?_
        refine zs_get d_X_seen_57 gf_X_80 (sh_35 g X) rfl ?_
        refine zs_iconst 1 d_X_seen_60 (by decide) ?_
        refine zs_iadd d_X_seen_61 ?_
        refine zs_put d_X_seen_62 pf_X_80 (sh_35 g X) rfl rfl rfl ?_
        refine zs_aload_n 0 d_X_seen_65 rfl (List.mem_of_getElem? (i := 0) rfl) ?_
        refine zs_get d_X_seen_66 gf_X_80 (sh_35 g X) rfl ?_
        exact zs_iret d_X_seen_69 rfl h
      · replace h := h.2 c5
        refine zs_bipush (-4) d_X_seen_26 (by decide) ?_
        exact zs_iret d_X_seen_28 rfl h
    · replace h := h.2 (bI_0 c4)
      refine zs_iconst (-1) d_X_seen_15 (by decide) ?_
      exact zs_iret d_X_seen_16 rfl h
theorem ml_seen (hw : kWF F) (hj : kMJ n P F I M) (m t : Int32) : zEx m_X_seen 0 0 [.ref 35, .int m, .int t] (SHP g X) M (qR g X (fun r M1 => r = (aSeen F m t).1 ∧ kMJ n P (aSeen F m t).2 I M1 ∧ kOS M M1)) := by
  obtain ⟨h1, h2, h3, h4⟩ := id hj
  obtain ⟨t1, t2, t3, t4, t5, t6, t7, t8, t9⟩ := id h3
  refine zEx_of _ (by decide) (by simp [Value.category]) (Nat.le_of_ble_eq_true rfl) rfl (v_X_seen_0 g X M m t _ ?_)
  rw [t5, kIsT_F hw, t6]
  obtain ⟨-, ⟨eN, hs⟩, -⟩ := hw
  have e2 : (2 : Int32) * fN F = nI (2 * sN F) := by rw [eN, show (2 : Int32) = nI 2 from rfl, pk_mul]
  have e3 : (2 : Int32) * fN F + 1 = nI (2 * sN F + 1) := by rw [e2, nI_1]
  refine ⟨fun a => ?_, fun a => ⟨fun b => ⟨fun c => ?_, fun c => ?_⟩, fun b => ?_⟩⟩
  · unfold aSeen; rw [if_neg (fun q => by rw [a] at q; exact absurd q.1 (by decide))]; exact qR_i ⟨rfl, hj, kOS_rf⟩
  · have hl : sN F < 6 := by
      rcases Nat.lt_or_ge (sN F) 6 with q | q
      · exact q
      · exact absurd (by rw [eN, show sN F = 6 by omega]; rfl) c
    have hl2 : fN F < 6 := by rw [eN]; exact nI_lt (b := 6) hl (by decide)
    rw [e3, e2]
    refine ⟨vp_in_nI (by omega) (by decide), vp_in_nI (by omega) (by decide), ?_⟩
    rw [nI_clamp (by omega), nI_clamp (by omega)]
    unfold aSeen
    rw [if_pos ⟨a, b⟩, if_pos hl2]
    refine qR_i ⟨by simp [zms], ⟨h1, h2, ⟨t1, t2, fun j hj2 => ?_, t4, t5, rfl, t7, t8, t9⟩, h4⟩, kOS_st (kOS_st (kOS_st kOS_rf (by decide)) (by decide)) (by decide)⟩
    show (if j = 2 * sN F + 1 then t else if j = 2 * sN F then m else M 40 j) = if j = 2 * sN F + 1 then t else if j = 2 * sN F then m else fS F j
    rw [t3 j hj2]
  · have hl2 : ¬ fN F < 6 := by rw [c]; decide
    unfold aSeen
    rw [if_pos ⟨a, b⟩, if_neg hl2]
    exact qR_i ⟨rfl, hj, kOS_rf⟩
  · unfold aSeen; rw [if_neg (fun q => by rw [b] at q; exact absurd q.2 (by decide))]; exact qR_i ⟨rfl, hj, kOS_rf⟩
theorem v_X_forget_0 (g : Nat → Option Nat) (X : List zShp) (M : zMem) (R : zEnd) (h : R (some (.int (M 35 9))) (SHP g X) (zms M 35 9 0)) : zRT m_X_forget 0 0 0 [(0, .ref 35)] [] (SHP g X) M R := by
  refine zs_aload_n 0 d_X_forget_0 rfl (List.mem_of_getElem? (i := 0) rfl) ?_
  refine zs_get d_X_forget_1 gf_X_80 (sh_35 g X) rfl ?_
  refine zs_istore_n2 1 [1, 0] [(0, .ref 35), (1, .int (M 35 9))] d_X_forget_4 rfl (by decide) rfl ?_
  refine zs_aload_n 0 d_X_forget_5 rfl (List.mem_of_getElem? (i := 0) rfl) ?_
  refine zs_iconst 0 d_X_forget_6 (by decide) ?_
  refine zs_put d_X_forget_7 pf_X_80 (sh_35 g X) rfl rfl rfl ?_
  refine zs_iload_n 1 d_X_forget_10 rfl (List.mem_of_getElem? (i := 1) rfl) ?_
  exact zs_iret d_X_forget_11 rfl h
theorem ml_forget (hj : kMJ n P F I M) : zEx m_X_forget 0 0 [.ref 35] (SHP g X) M (qR g X (fun r M1 => r = (aForget F).1 ∧ kMJ n P (aForget F).2 I M1 ∧ kOS M M1)) := by
  obtain ⟨h1, h2, h3, h4⟩ := id hj
  obtain ⟨t1, t2, t3, t4, t5, t6, t7, t8, t9⟩ := id h3
  exact zEx_of _ (by decide) (by simp [Value.category]) (Nat.le_of_ble_eq_true rfl) rfl (v_X_forget_0 g X M _ (qR_i ⟨t6, ⟨h1, h2, ⟨t1, t2, t3, t4, t5, rfl, t7, t8, t9⟩, h4⟩, kOS_st kOS_rf (by decide)⟩))
theorem v_X_told_0 (g : Nat → Option Nat) (X : List zShp) (M : zMem) (x1 : Int32) (R : zEnd) (h : (((inI x1 10 15) = false) → (zRT m_X_told 0 0 21 [(0, .ref 35), (1, .int x1)] [] (SHP g X) M R)) ∧ (((inI x1 10 15) = true) → ((vp_in (x1 - 10) 6) ∧ (R (some (.int (M 36 (Int32.toNatClampNeg (x1 - 10))))) (SHP g X) M)))) : zRT m_X_told 0 0 0 [(0, .ref 35), (1, .int x1)] [] (SHP g X) M R := by
  refine zs_iload_n 1 d_X_told_0 rfl (List.mem_of_getElem? (i := 1) rfl) ?_
  refine zs_bipush 10 d_X_told_1 (by decide) ?_
  refine zs_bipush 15 d_X_told_3 (by decide) ?_
  refine zs_callS (kc := 0) (ks := 0) (kc1 := 0) (ks1 := 0) (st := []) [.int x1, .int 10, .int 15] d_X_told_5 lk_X_66 ⟨by decide, by decide⟩ rfl (Nat.le_of_ble_eq_true rfl) (ex_X_in g X M x1 10 15) (fun v1 sh1 M1 hR => ?_)
  obtain ⟨rfl, rfl, rfl⟩ := hR
  refine zs_if_eq 21 d_X_told_8 (by decide) (fun c2 => ?_) (fun c2 => ?_)
  · replace h := h.1 (bI_0 c2)
    exact h
  · replace h := h.2 (bI_1 c2)
    refine zs_aload_n 0 d_X_told_11 rfl (List.mem_of_getElem? (i := 0) rfl) ?_
    refine zs_get d_X_told_12 gf_X_16 (sh_35 g X) rfl ?_
    refine zs_iload_n 1 d_X_told_15 rfl (List.mem_of_getElem? (i := 1) rfl) ?_
    refine zs_bipush 10 d_X_told_16 (by decide) ?_
    refine zs_isub d_X_told_18 ?_
    obtain ⟨b3, h⟩ := h
    refine zs_iald d_X_told_19 (sh_36 g X) b3 ?_
    exact zs_iret d_X_told_20 rfl h
theorem v_X_told_21 (g : Nat → Option Nat) (X : List zShp) (M : zMem) (x1 : Int32) (R : zEnd) (h : ((x1 < 20) → (zRT m_X_told 0 0 48 [(0, .ref 35), (1, .int x1)] [] (SHP g X) M R)) ∧ ((¬ x1 < 20) → ((((inI (x1 - 20) 0 (M 35 6 - 1)) = false) → (zRT m_X_told 0 0 48 [(0, .ref 35), (1, .int x1)] [] (SHP g X) M R)) ∧ (((inI (x1 - 20) 0 (M 35 6 - 1)) = true) → ((vp_in (x1 - 20) 10) ∧ (R (some (.int (M 39 (Int32.toNatClampNeg (x1 - 20))))) (SHP g X) M)))))) : zRT m_X_told 0 0 21 [(0, .ref 35), (1, .int x1)] [] (SHP g X) M R := by
  refine zs_iload_n 1 d_X_told_21 rfl (List.mem_of_getElem? (i := 1) rfl) ?_
  refine zs_bipush 20 d_X_told_22 (by decide) ?_
  refine zs_icmp_lt 48 d_X_told_24 (by decide) (fun c1 => ?_) (fun c1 => ?_)
  · replace h := h.1 c1
    exact h
  · replace h := h.2 c1
    refine zs_aload_n 0 d_X_told_27 rfl (List.mem_of_getElem? (i := 0) rfl) ?_
    refine zs_iload_n 1 d_X_told_28 rfl (List.mem_of_getElem? (i := 1) rfl) ?_
    refine zs_bipush 20 d_X_told_29 (by decide) ?_
    refine zs_isub d_X_told_31 ?_
    refine zs_callV (kc := 0) (ks := 0) (kc1 := 0) (ks1 := 0) (st := []) [.int (x1 - 20)] d_X_told_32 lk_X_83 ⟨by decide, by decide⟩ rfl (sh_35 g X) rfl (Nat.le_of_ble_eq_true rfl) (ex_X_isThing g X M (x1 - 20)) (fun v2 sh2 M2 hR => ?_)
    obtain ⟨rfl, rfl, rfl⟩ := hR
    refine zs_if_eq 48 d_X_told_35 (by decide) (fun c3 => ?_) (fun c3 => ?_)
    · replace h := h.1 (bI_0 c3)
      exact h
    · replace h := h.2 (bI_1 c3)
      refine zs_aload_n 0 d_X_told_38 rfl (List.mem_of_getElem? (i := 0) rfl) ?_
      refine zs_get d_X_told_39 gf_X_26 (sh_35 g X) rfl ?_
      refine zs_iload_n 1 d_X_told_42 rfl (List.mem_of_getElem? (i := 1) rfl) ?_
      refine zs_bipush 20 d_X_told_43 (by decide) ?_
      refine zs_isub d_X_told_45 ?_
      obtain ⟨b4, h⟩ := h
      refine zs_iald d_X_told_46 (sh_39 g X) b4 ?_
      exact zs_iret d_X_told_47 rfl h
theorem v_X_told_48 (g : Nat → Option Nat) (X : List zShp) (M : zMem) (x1 : Int32) (R : zEnd) (h : ((x1 = 0) → (R (some (.int (M 35 4))) (SHP g X) M)) ∧ ((¬ x1 = 0) → (((x1 = 1) → (R (some (.int (M 35 6))) (SHP g X) M)) ∧ ((¬ x1 = 1) → (((x1 = 2) → (R (some (.int (M 35 0))) (SHP g X) M)) ∧ ((¬ x1 = 2) → (((x1 = 3) → (R (some (.int (M 35 1))) (SHP g X) M)) ∧ ((¬ x1 = 3) → (((x1 = 4) → (R (some (.int (M 35 2))) (SHP g X) M)) ∧ ((¬ x1 = 4) → (((¬ x1 = 5) → (R (some (.int (-2))) (SHP g X) M)) ∧ ((x1 = 5) → (R (some (.int (M 35 9))) (SHP g X) M))))))))))))) : zRT m_X_told 0 0 48 [(0, .ref 35), (1, .int x1)] [] (SHP g X) M R := by
  refine zs_iload_n 1 d_X_told_48 rfl (List.mem_of_getElem? (i := 1) rfl) ?_
  by_cases c1_0 : x1 = 0
  · replace h := h.1 c1_0
    refine zs_tableIn 84 d_X_told_49 (by rw [c1_0]; decide) (by rw [c1_0]; decide) (by rw [c1_0]; try rfl) (by decide) ?_
    refine zs_aload_n 0 d_X_told_84 rfl (List.mem_of_getElem? (i := 0) rfl) ?_
    refine zs_get d_X_told_85 gf_X_73 (sh_35 g X) rfl ?_
    exact zs_iret d_X_told_88 rfl h
  replace h := h.2 c1_0
  by_cases c1_1 : x1 = 1
  · replace h := h.1 c1_1
    refine zs_tableIn 89 d_X_told_49 (by rw [c1_1]; decide) (by rw [c1_1]; decide) (by rw [c1_1]; try rfl) (by decide) ?_
    refine zs_aload_n 0 d_X_told_89 rfl (List.mem_of_getElem? (i := 0) rfl) ?_
    refine zs_get d_X_told_90 gf_X_70 (sh_35 g X) rfl ?_
    exact zs_iret d_X_told_93 rfl h
  replace h := h.2 c1_1
  by_cases c1_2 : x1 = 2
  · replace h := h.1 c1_2
    refine zs_tableIn 94 d_X_told_49 (by rw [c1_2]; decide) (by rw [c1_2]; decide) (by rw [c1_2]; try rfl) (by decide) ?_
    refine zs_aload_n 0 d_X_told_94 rfl (List.mem_of_getElem? (i := 0) rfl) ?_
    refine zs_get d_X_told_95 gf_X_7 (sh_35 g X) rfl ?_
    exact zs_iret d_X_told_98 rfl h
  replace h := h.2 c1_2
  by_cases c1_3 : x1 = 3
  · replace h := h.1 c1_3
    refine zs_tableIn 99 d_X_told_49 (by rw [c1_3]; decide) (by rw [c1_3]; decide) (by rw [c1_3]; try rfl) (by decide) ?_
    refine zs_aload_n 0 d_X_told_99 rfl (List.mem_of_getElem? (i := 0) rfl) ?_
    refine zs_get d_X_told_100 gf_X_90 (sh_35 g X) rfl ?_
    exact zs_iret d_X_told_103 rfl h
  replace h := h.2 c1_3
  by_cases c1_4 : x1 = 4
  · replace h := h.1 c1_4
    refine zs_tableIn 104 d_X_told_49 (by rw [c1_4]; decide) (by rw [c1_4]; decide) (by rw [c1_4]; try rfl) (by decide) ?_
    refine zs_aload_n 0 d_X_told_104 rfl (List.mem_of_getElem? (i := 0) rfl) ?_
    refine zs_get d_X_told_105 gf_X_13 (sh_35 g X) rfl ?_
    exact zs_iret d_X_told_108 rfl h
  replace h := h.2 c1_4
  have q1_0 := zI_ne (z := 0) c1_0 (by decide)
  have q1_1 := zI_ne (z := 1) c1_1 (by decide)
  have q1_2 := zI_ne (z := 2) c1_2 (by decide)
  have q1_3 := zI_ne (z := 3) c1_3 (by decide)
  have q1_4 := zI_ne (z := 4) c1_4 (by decide)
  refine zs_tableOut 109 d_X_told_49 (by omega) (by decide) ?_
  refine zs_iload_n 1 d_X_told_109 rfl (List.mem_of_getElem? (i := 1) rfl) ?_
  refine zs_iconst 5 d_X_told_110 (by decide) ?_
  refine zs_icmp_ne 121 d_X_told_111 (by decide) (fun c2 => ?_) (fun c2 => ?_)
  · replace h := h.1 c2
    refine zs_bipush (-2) d_X_told_121 (by decide) ?_
    exact zs_iret d_X_told_123 rfl h
  · replace h := h.2 c2
    refine zs_aload_n 0 d_X_told_114 rfl (List.mem_of_getElem? (i := 0) rfl) ?_
    refine zs_get d_X_told_115 gf_X_80 (sh_35 g X) rfl ?_
    refine zs_goto 123 d_X_told_118 (by decide) ?_
    exact zs_iret d_X_told_123 rfl h
theorem ml_told (hw : kWF F) (hj : kMJ n P F I M) (w : Int32) : zEx m_X_told 0 0 [.ref 35, .int w] (SHP g X) M (qF g X (aTold n F w) M) := by
  obtain ⟨h1, h2, h3, h4⟩ := id hj
  obtain ⟨t1, t2, t3, t4, t5, t6, t7, t8, t9⟩ := id h3
  have C2 : ¬ inI w 10 15 = true → ¬ (20 ≤ w ∧ kIsT (fT F) (w - 20) = true) → zRT m_X_told 0 0 48 [(0, .ref 35), (1, .int w)] [] (SHP g X) M (qF g X (aTold n F w) M) := by
    intro c1 c2
    refine v_X_told_48 g X M w _ ⟨fun a => ?_, fun a => ⟨fun b => ?_, fun b => ⟨fun c => ?_, fun c => ⟨fun d => ?_, fun d => ⟨fun e => ?_, fun e => ⟨fun f => ?_, fun f => ?_⟩⟩⟩⟩⟩⟩
    · unfold aTold; rw [if_neg c1, if_neg c2, if_pos a]; exact qF_i h1.symm rfl
    · unfold aTold; rw [if_neg c1, if_neg c2, if_neg a, if_pos b]; exact qF_i t5.symm rfl
    · unfold aTold; rw [if_neg c1, if_neg c2, if_neg a, if_neg b, if_pos c]; exact qF_i t7.symm rfl
    · unfold aTold; rw [if_neg c1, if_neg c2, if_neg a, if_neg b, if_neg c, if_pos d]; exact qF_i t8.symm rfl
    · unfold aTold; rw [if_neg c1, if_neg c2, if_neg a, if_neg b, if_neg c, if_neg d, if_pos e]; exact qF_i t9.symm rfl
    · unfold aTold; rw [if_neg c1, if_neg c2, if_neg a, if_neg b, if_neg c, if_neg d, if_neg e, if_neg f]; exact qF_i rfl rfl
    · unfold aTold; rw [if_neg c1, if_neg c2, if_neg a, if_neg b, if_neg c, if_neg d, if_neg e, if_pos f]; exact qF_i t6.symm rfl
  have C1 : ¬ inI w 10 15 = true → zRT m_X_told 0 0 21 [(0, .ref 35), (1, .int w)] [] (SHP g X) M (qF g X (aTold n F w) M) := by
    intro c1
    refine v_X_told_21 g X M w _ ?_
    rw [t5, kIsT_F hw]
    refine ⟨fun a => C2 c1 (fun q => i32_lt.mp a q.1), fun a => ⟨fun b => C2 c1 (fun q => by rw [b] at q; exact absurd q.2 (by decide)), fun b => ?_⟩⟩
    obtain ⟨a1, a2⟩ := kIsT_n hw b
    have hb := hw.1.2
    have h20 : 20 ≤ w := by
      rw [i32_lt] at a
      exact Classical.not_not.mp a
    refine ⟨by rw [a2]; exact vp_in_nI (by omega) (by decide), ?_⟩
    unfold aTold
    rw [if_neg c1, if_pos ⟨h20, b⟩]
    exact qF_i (t2 _ (by omega)).symm rfl
  refine zEx_of _ (by decide) (by simp [Value.category]) (Nat.le_of_ble_eq_true rfl) rfl (v_X_told_0 g X M w _ ⟨fun a => C1 (by rw [a]; decide), fun a => ?_⟩)
  obtain ⟨q1, q2⟩ := inI_t a
  have hv : vp_in (w - 10) 6 := i32_10 q1 (fun q => q2 (by
    rw [Int32.le_iff_toInt_le] at q
    rw [Int32.lt_iff_toInt_lt]
    exact q))
  refine ⟨hv, ?_⟩
  unfold aTold
  rw [if_pos a]
  exact qF_i (t4 _ (vp_cl hv (by decide))).symm rfl
end zX1
