/-! Filling (what it leaves is said only as far as it can go on) -/
def kAsk (M : zMem) : Prop := ∃ n : Nat, n ≤ 4 ∧ M 24 2 = nI n
def kFA (M M1 : zMem) : Prop := kAg [24, 25, 26] M M1 ∧ kAsk M1
def kWn (M : zMem) (w : Int32) : Nat → Int32
  | 0 => w
  | n + 1 => kWn M w n * bc (M 26 n)
def kWays (M : zMem) : Int32 := kWn M (if M 24 3 = 0 then 0 else 1) (Int32.toNatClampNeg (M 24 2))
def kSts (M : zMem) : Prop := ∃ n : Nat, n ≤ 6 ∧ M 10 5 = nI n ∧ ∀ i, i < n → vp_in (M 19 i) 6
theorem kSts_ag {M M1 : zMem} (h : M1 10 = M 10) (h2 : M1 19 = M 19) (hc : kSts M) : kSts M1 := by
  obtain ⟨n, h3, h4, h5⟩ := hc
  exact ⟨n, h3, by rw [h]; exact h4, fun i hi => by rw [h2]; exact h5 i hi⟩
section zC3
variable (g : Nat → Option Nat) (X : List zShp) (M : zMem)
theorem v_Filling_findAsks_0 (g : Nat → Option Nat) (X : List zShp) (M : zMem) (R : zEnd) (h : zRT m_Filling_findAsks 0 0 7 [(0, .ref 24), (1, .ref 11), (2, .int 0)] [] (SHP g X) (zms M 24 2 0) R) : zRT m_Filling_findAsks 0 0 0 [(0, .ref 24), (1, .ref 11)] [] (SHP g X) M R := by
  refine zs_aload_n 0 d_Filling_findAsks_0 rfl (List.mem_of_getElem? (i := 0) rfl) ?_
  refine zs_iconst 0 d_Filling_findAsks_1 (by decide) ?_
  refine zs_put d_Filling_findAsks_2 pf_Filling_53 (sh_24 g X) rfl rfl rfl ?_
  refine zs_iconst 0 d_Filling_findAsks_5 (by decide) ?_
  refine zs_istore_n2 2 [1, 2, 0] [(0, .ref 24), (1, .ref 11), (2, .int 0)] d_Filling_findAsks_6 rfl (by decide) rfl ?_
  exact h
theorem v_Filling_findAsks_7 (g : Nat → Option Nat) (X : List zShp) (M : zMem) (x2 : Int32) (R : zEnd) (h : (((M 11 5) ≤ x2) → (R none (SHP g X) M)) ∧ ((¬ (M 11 5) ≤ x2) → ((vp_in x2 10) ∧ (((¬ (M 16 (Int32.toNatClampNeg x2)) = 1) → (zRT m_Filling_findAsks 0 0 7 [(0, .ref 24), (1, .ref 11), (2, .int (x2 + 1))] [] (SHP g X) M R)) ∧ (((M 16 (Int32.toNatClampNeg x2)) = 1) → (((4 ≤ (M 24 2)) → (zRT m_Filling_findAsks 0 0 7 [(0, .ref 24), (1, .ref 11), (2, .int (x2 + 1))] [] (SHP g X) M R)) ∧ ((¬ 4 ≤ (M 24 2)) → ((vp_in (M 24 2) 4) ∧ (zRT m_Filling_findAsks 0 0 7 [(0, .ref 24), (1, .ref 11), (2, .int (x2 + 1))] [] (SHP g X) (zms (zms (zms M 25 (Int32.toNatClampNeg (M 24 2)) x2) 26 (Int32.toNatClampNeg (M 24 2)) ((63 : Int32) &&& ((M 12 (Int32.toNatClampNeg x2)) ^^^ (-1)))) 24 2 ((M 24 2) + 1)) R))))))))) : zRT m_Filling_findAsks 0 0 7 [(0, .ref 24), (1, .ref 11), (2, .int x2)] [] (SHP g X) M R := by
  refine zs_iload_n 2 d_Filling_findAsks_7 rfl (List.mem_of_getElem? (i := 2) rfl) ?_
  refine zs_aload_n 1 d_Filling_findAsks_8 rfl (List.mem_of_getElem? (i := 1) rfl) ?_
  refine zs_get d_Filling_findAsks_9 gf_Filling_56 (sh_11 g X) rfl ?_
  refine zs_icmp_ge 79 d_Filling_findAsks_12 (by decide) (fun c1 => ?_) (fun c1 => ?_)
  · replace h := h.1 c1
    exact zs_vret d_Filling_findAsks_79 rfl h
  · replace h := h.2 c1
    refine zs_aload_n 1 d_Filling_findAsks_15 rfl (List.mem_of_getElem? (i := 1) rfl) ?_
    refine zs_get d_Filling_findAsks_16 gf_Filling_61 (sh_11 g X) rfl ?_
    refine zs_iload_n 2 d_Filling_findAsks_19 rfl (List.mem_of_getElem? (i := 2) rfl) ?_
    obtain ⟨b2, h⟩ := h
    refine zs_iald d_Filling_findAsks_20 (sh_16 g X) b2 ?_
    refine zs_iconst 1 d_Filling_findAsks_21 (by decide) ?_
    refine zs_icmp_ne 73 d_Filling_findAsks_22 (by decide) (fun c3 => ?_) (fun c3 => ?_)
    · replace h := h.1 c3
      refine zs_iinc2 2 (x2 + 1) [1, 2, 0] [(0, .ref 24), (1, .ref 11), (2, .int (x2 + 1))] d_Filling_findAsks_73 rfl rfl (by decide) rfl ?_
      refine zs_goto 7 d_Filling_findAsks_76 (by decide) ?_
      exact h
    · replace h := h.2 c3
      refine zs_aload_n 0 d_Filling_findAsks_25 rfl (List.mem_of_getElem? (i := 0) rfl) ?_
      refine zs_get d_Filling_findAsks_26 gf_Filling_53 (sh_24 g X) rfl ?_
      refine zs_iconst 4 d_Filling_findAsks_29 (by decide) ?_
      refine zs_icmp_ge 73 d_Filling_findAsks_30 (by decide) (fun c4 => ?_) (fun c4 => ?_)
      · replace h := h.1 c4
        refine zs_iinc2 2 (x2 + 1) [1, 2, 0] [(0, .ref 24), (1, .ref 11), (2, .int (x2 + 1))] d_Filling_findAsks_73 rfl rfl (by decide) rfl ?_
        refine zs_goto 7 d_Filling_findAsks_76 (by decide) ?_
        exact h
      · replace h := h.2 c4
        refine zs_aload_n 0 d_Filling_findAsks_33 rfl (List.mem_of_getElem? (i := 0) rfl) ?_
        refine zs_get d_Filling_findAsks_34 gf_Filling_9 (sh_24 g X) rfl ?_
        refine zs_aload_n 0 d_Filling_findAsks_37 rfl (List.mem_of_getElem? (i := 0) rfl) ?_
        refine zs_get d_Filling_findAsks_38 gf_Filling_53 (sh_24 g X) rfl ?_
        refine zs_iload_n 2 d_Filling_findAsks_41 rfl (List.mem_of_getElem? (i := 2) rfl) ?_
        obtain ⟨b5, h⟩ := h
        refine zs_iast d_Filling_findAsks_42 (sh_25 g X) b5 ?_
        refine zs_aload_n 0 d_Filling_findAsks_43 rfl (List.mem_of_getElem? (i := 0) rfl) ?_
        refine zs_get d_Filling_findAsks_44 gf_Filling_15 (sh_24 g X) rfl ?_
        refine zs_aload_n 0 d_Filling_findAsks_47 rfl (List.mem_of_getElem? (i := 0) rfl) ?_
        refine zs_get d_Filling_findAsks_48 gf_Filling_53 (sh_24 g X) rfl ?_
        refine zs_bipush 63 d_Filling_findAsks_51 (by decide) ?_
        refine zs_aload_n 1 d_Filling_findAsks_53 rfl (List.mem_of_getElem? (i := 1) rfl) ?_
        refine zs_get d_Filling_findAsks_54 gf_Filling_64 (sh_11 g X) rfl ?_
        refine zs_iload_n 2 d_Filling_findAsks_57 rfl (List.mem_of_getElem? (i := 2) rfl) ?_
        refine zs_iald d_Filling_findAsks_58 (sh_12 g X) b2 ?_
        refine zs_iconst (-1) d_Filling_findAsks_59 (by decide) ?_
        refine zs_ixor d_Filling_findAsks_60 ?_
        refine zs_iand d_Filling_findAsks_61 ?_
        refine zs_iast d_Filling_findAsks_62 (sh_26 g X) b5 ?_
        refine zs_aload_n 0 d_Filling_findAsks_63 rfl (List.mem_of_getElem? (i := 0) rfl) ?_
        refine zs_dup d_Filling_findAsks_64 rfl ?_
        refine zs_get d_Filling_findAsks_65 gf_Filling_53 (sh_24 g X) rfl ?_
        refine zs_iconst 1 d_Filling_findAsks_68 (by decide) ?_
        refine zs_iadd d_Filling_findAsks_69 ?_
        refine zs_put d_Filling_findAsks_70 pf_Filling_53 (sh_24 g X) rfl rfl rfl ?_
        refine zs_iinc2 2 (x2 + 1) [1, 2, 0] [(0, .ref 24), (1, .ref 11), (2, .int (x2 + 1))] d_Filling_findAsks_73 rfl rfl (by decide) rfl ?_
        refine zs_goto 7 d_Filling_findAsks_76 (by decide) ?_
        exact h
theorem ex_Filling_findAsks (hc : kCnt M) : zEx m_Filling_findAsks 0 0 [.ref 24, .ref 11] (SHP g X) M (qW g X (kFA M)) := by
  refine zEx_of _ (by decide) (by simp [Value.category]) (Nat.le_of_ble_eq_true rfl) rfl (v_Filling_findAsks_0 g X M _ ?_)
  obtain ⟨hc1, hc2⟩ := kCnt_e hc
  have L : ∀ n k M1, k + n = kCN M → kFA M M1 → zRT m_Filling_findAsks 0 0 7 [(0, .ref 24), (1, .ref 11), (2, .int (nI k))] [] (SHP g X) M1 (qW g X (kFA M)) := by
    intro n
    induction n with
    | zero =>
      intro k M1 hk hf
      have e11 : M1 11 = M 11 := hf.1 11 (by decide)
      exact v_Filling_findAsks_7 g X _ _ _ ⟨fun _ => ⟨rfl, rfl, hf⟩, fun h => absurd (by rw [e11, hc1]; exact nI_le (by omega) (by omega)) h⟩
    | succ n ih =>
      intro k M1 hk hf
      have e11 : M1 11 = M 11 := hf.1 11 (by decide)
      obtain ⟨a, ha, ea⟩ := hf.2
      refine v_Filling_findAsks_7 g X _ _ _ ⟨fun h => absurd h (by rw [e11, hc1]; exact nI_ge (by omega) (by omega)), fun _ => ⟨vp_in_nI (by omega) (by decide), ?_⟩⟩
      rw [nI_1]
      have i0 := ih (k + 1) M1 (by omega) hf
      refine ⟨fun _ => i0, fun _ => ⟨fun _ => i0, fun h => ?_⟩⟩
      rw [ea] at h ⊢
      have ha4 : a < 4 := by
        rcases Nat.lt_or_ge a 4 with q | q
        · exact q
        · exact absurd (nI_le (a := 4) q (by omega)) h
      refine ⟨vp_in_nI ha4 (by decide), ih (k + 1) _ (by omega) ⟨((hf.1.st (by decide)).st (by decide)).st (by decide), a + 1, by omega, ?_⟩⟩
      rw [← nI_1]
      rfl
  exact L (kCN M) 0 _ (by omega) ⟨kAg.rf.st (by decide), 0, by omega, rfl⟩
theorem v_Filling_applySight_0 (g : Nat → Option Nat) (X : List zShp) (M : zMem) (x1 x2 : Int32) (R : zEnd) (h : (kCnt M) ∧ (((((kHO M x1) &&& x2) = 0) → (zRT m_Filling_applySight 0 0 18 [(0, .ref 24), (1, .int x1), (2, .int x2), (4, .int 0)] [] (SHP g X) M R)) ∧ ((¬ ((kHO M x1) &&& x2) = 0) → (zRT m_Filling_applySight 0 0 18 [(0, .ref 24), (1, .int x1), (2, .int x2), (4, .int 0)] [] (SHP g X) (zms M 24 3 0) R)))) : zRT m_Filling_applySight 0 0 0 [(0, .ref 24), (1, .int x1), (2, .int x2), (3, .ref 11)] [] (SHP g X) M R := by
  refine zs_aload_n 3 d_Filling_applySight_0 rfl (List.mem_of_getElem? (i := 3) rfl) ?_
  refine zs_iload_n 1 d_Filling_applySight_1 rfl (List.mem_of_getElem? (i := 1) rfl) ?_
  obtain ⟨p1, h⟩ := h
  refine zs_callV (kc := 0) (ks := 0) (kc1 := 0) (ks1 := 0) (st := []) [.int x1] d_Filling_applySight_2 lk_Filling_67 ⟨by decide, by decide⟩ rfl (sh_11 g X) rfl (Nat.le_of_ble_eq_true rfl) (ex_Pages_handsOf g X M x1 p1) (fun v1 sh1 M1 hR => ?_)
  obtain ⟨rfl, rfl, rfl⟩ := hR
  refine zs_iload_n 2 d_Filling_applySight_5 rfl (List.mem_of_getElem? (i := 2) rfl) ?_
  refine zs_iand d_Filling_applySight_6 ?_
  refine zs_if_eq 15 d_Filling_applySight_7 (by decide) (fun c2 => ?_) (fun c2 => ?_)
  · replace h := h.1 c2
    refine zs_iconst 0 d_Filling_applySight_15 (by decide) ?_
    refine zs_istore2 [1, 2, 3, 4, 0] [(0, .ref 24), (1, .int x1), (2, .int x2), (3, .ref 11), (4, .int 0)] d_Filling_applySight_16 (by decide) rfl ?_
    exact zRT_sub [0, 1, 2, 4] rfl h
  · replace h := h.2 c2
    refine zs_aload_n 0 d_Filling_applySight_10 rfl (List.mem_of_getElem? (i := 0) rfl) ?_
    refine zs_iconst 0 d_Filling_applySight_11 (by decide) ?_
    refine zs_put d_Filling_applySight_12 pf_Filling_28 (sh_24 g X) rfl rfl rfl ?_
    refine zs_iconst 0 d_Filling_applySight_15 (by decide) ?_
    refine zs_istore2 [1, 2, 3, 4, 0] [(0, .ref 24), (1, .int x1), (2, .int x2), (3, .ref 11), (4, .int 0)] d_Filling_applySight_16 (by decide) rfl ?_
    exact zRT_sub [0, 1, 2, 4] rfl h
theorem v_Filling_applySight_18 (g : Nat → Option Nat) (X : List zShp) (M : zMem) (x1 x2 x4 : Int32) (R : zEnd) (h : (((M 24 2) ≤ x4) → (R none (SHP g X) M)) ∧ ((¬ (M 24 2) ≤ x4) → ((vp_in x4 4) ∧ ((((hb x1 (M 25 (Int32.toNatClampNeg x4))) = false) → (zRT m_Filling_applySight 0 0 18 [(0, .ref 24), (1, .int x1), (2, .int x2), (4, .int (x4 + 1))] [] (SHP g X) M R)) ∧ (((hb x1 (M 25 (Int32.toNatClampNeg x4))) = true) → (zRT m_Filling_applySight 0 0 18 [(0, .ref 24), (1, .int x1), (2, .int x2), (4, .int (x4 + 1))] [] (SHP g X) (zms M 26 (Int32.toNatClampNeg x4) ((M 26 (Int32.toNatClampNeg x4)) &&& (x2 ^^^ (-1)))) R)))))) : zRT m_Filling_applySight 0 0 18 [(0, .ref 24), (1, .int x1), (2, .int x2), (4, .int x4)] [] (SHP g X) M R := by
  refine zs_iload d_Filling_applySight_18 (List.mem_of_getElem? (i := 3) rfl) ?_
  refine zs_aload_n 0 d_Filling_applySight_20 rfl (List.mem_of_getElem? (i := 0) rfl) ?_
  refine zs_get d_Filling_applySight_21 gf_Filling_53 (sh_24 g X) rfl ?_
  refine zs_icmp_ge 60 d_Filling_applySight_24 (by decide) (fun c1 => ?_) (fun c1 => ?_)
  · replace h := h.1 c1
    exact zs_vret d_Filling_applySight_60 rfl h
  · replace h := h.2 c1
    refine zs_iload_n 1 d_Filling_applySight_27 rfl (List.mem_of_getElem? (i := 1) rfl) ?_
    refine zs_aload_n 0 d_Filling_applySight_28 rfl (List.mem_of_getElem? (i := 0) rfl) ?_
    refine zs_get d_Filling_applySight_29 gf_Filling_9 (sh_24 g X) rfl ?_
    refine zs_iload d_Filling_applySight_32 (List.mem_of_getElem? (i := 3) rfl) ?_
    obtain ⟨b2, h⟩ := h
    refine zs_iald d_Filling_applySight_34 (sh_25 g X) b2 ?_
    refine zs_callSN (kc := 0) (ks := 0) (kc1 := 0) (ks1 := 0) (st := []) [.int x1, .int (M 25 (Int32.toNatClampNeg x4))] d_Filling_applySight_35 lk_Filling_70 ⟨by decide, by decide⟩ rfl (Nat.le_of_ble_eq_true rfl) (ex_O_has g X M x1 (M 25 (Int32.toNatClampNeg x4))) (fun v3 sh3 M3 hR => ?_)
    obtain ⟨rfl, rfl, rfl⟩ := hR
    refine zs_if_eq 54 d_Filling_applySight_38 (by decide) (fun c4 => ?_) (fun c4 => ?_)
    · replace h := h.1 (bI_0 c4)
      refine zs_iinc2 3 (x4 + 1) [1, 2, 3, 0] [(0, .ref 24), (1, .int x1), (2, .int x2), (4, .int (x4 + 1))] d_Filling_applySight_54 rfl rfl (by decide) rfl ?_
      refine zs_goto 18 d_Filling_applySight_57 (by decide) ?_
      exact h
    · replace h := h.2 (bI_1 c4)
      refine zs_aload_n 0 d_Filling_applySight_41 rfl (List.mem_of_getElem? (i := 0) rfl) ?_
      refine zs_get d_Filling_applySight_42 gf_Filling_15 (sh_24 g X) rfl ?_
      refine zs_iload d_Filling_applySight_45 (List.mem_of_getElem? (i := 3) rfl) ?_
      refine zs_dup2 d_Filling_applySight_47 rfl rfl ?_
      refine zs_iald d_Filling_applySight_48 (sh_26 g X) b2 ?_
      refine zs_iload_n 2 d_Filling_applySight_49 rfl (List.mem_of_getElem? (i := 2) rfl) ?_
      refine zs_iconst (-1) d_Filling_applySight_50 (by decide) ?_
      refine zs_ixor d_Filling_applySight_51 ?_
      refine zs_iand d_Filling_applySight_52 ?_
      refine zs_iast d_Filling_applySight_53 (sh_26 g X) b2 ?_
      refine zs_iinc2 3 (x4 + 1) [1, 2, 3, 0] [(0, .ref 24), (1, .int x1), (2, .int x2), (4, .int (x4 + 1))] d_Filling_applySight_54 rfl rfl (by decide) rfl ?_
      refine zs_goto 18 d_Filling_applySight_57 (by decide) ?_
      exact h
theorem ex_Filling_applySight (r cp : Int32) (hh : kCnt M ∧ kAsk M) : zEx m_Filling_applySight 0 0 [.ref 24, .int r, .int cp, .ref 11] (SHP g X) M (qW g X (kFA M)) := by
  refine zEx_of _ (by decide) (by simp [Value.category]) (Nat.le_of_ble_eq_true rfl) rfl (v_Filling_applySight_0 g X M r cp _ ⟨hh.1, ?_⟩)
  obtain ⟨a, ha, ea⟩ := hh.2
  have L : ∀ n k M1, k + n = a → kAg [24, 25, 26] M M1 → M1 24 2 = nI a → zRT m_Filling_applySight 0 0 18 [(0, .ref 24), (1, .int r), (2, .int cp), (4, .int (nI k))] [] (SHP g X) M1 (qW g X (kFA M)) := by
    intro n
    induction n with
    | zero =>
      intro k M1 hk hf he
      exact v_Filling_applySight_18 g X _ _ _ _ _ ⟨fun _ => ⟨rfl, rfl, hf, a, ha, he⟩, fun h => absurd (by rw [he]; exact nI_le (by omega) (by omega)) h⟩
    | succ n ih =>
      intro k M1 hk hf he
      refine v_Filling_applySight_18 g X _ _ _ _ _ ⟨fun h => absurd h (by rw [he]; exact nI_ge (by omega) (by omega)), fun _ => ⟨vp_in_nI (by omega) (by decide), ?_⟩⟩
      rw [nI_1]
      exact ⟨fun _ => ih (k + 1) _ (by omega) hf he, fun _ => ih (k + 1) _ (by omega) (hf.st (by decide)) he⟩
  exact ⟨fun _ => L a 0 _ (by omega) kAg.rf ea, fun _ => L a 0 _ (by omega) (kAg.rf.st (by decide)) ea⟩
theorem v_Filling_ways_0 (g : Nat → Option Nat) (X : List zShp) (M : zMem) (R : zEnd) (h : (((M 24 3) = 0) → (zRT m_Filling_ways 0 0 15 [(0, .ref 24), (1, .int 0), (2, .int 0)] [] (SHP g X) M R)) ∧ ((¬ (M 24 3) = 0) → (zRT m_Filling_ways 0 0 15 [(0, .ref 24), (1, .int 1), (2, .int 0)] [] (SHP g X) M R))) : zRT m_Filling_ways 0 0 0 [(0, .ref 24)] [] (SHP g X) M R := by
  refine zs_aload_n 0 d_Filling_ways_0 rfl (List.mem_of_getElem? (i := 0) rfl) ?_
  refine zs_get d_Filling_ways_1 gf_Filling_28 (sh_24 g X) rfl ?_
  refine zs_if_eq 11 d_Filling_ways_4 (by decide) (fun c1 => ?_) (fun c1 => ?_)
  · replace h := h.1 c1
    refine zs_iconst 0 d_Filling_ways_11 (by decide) ?_
    refine zs_istore_n2 1 [1, 0] [(0, .ref 24), (1, .int 0)] d_Filling_ways_12 rfl (by decide) rfl ?_
    refine zs_iconst 0 d_Filling_ways_13 (by decide) ?_
    refine zs_istore_n2 2 [1, 2, 0] [(0, .ref 24), (1, .int 0), (2, .int 0)] d_Filling_ways_14 rfl (by decide) rfl ?_
    exact h
  · replace h := h.2 c1
    refine zs_iconst 1 d_Filling_ways_7 (by decide) ?_
    refine zs_goto 12 d_Filling_ways_8 (by decide) ?_
    refine zs_istore_n2 1 [1, 0] [(0, .ref 24), (1, .int 1)] d_Filling_ways_12 rfl (by decide) rfl ?_
    refine zs_iconst 0 d_Filling_ways_13 (by decide) ?_
    refine zs_istore_n2 2 [1, 2, 0] [(0, .ref 24), (1, .int 1), (2, .int 0)] d_Filling_ways_14 rfl (by decide) rfl ?_
    exact h
theorem v_Filling_ways_15 (g : Nat → Option Nat) (X : List zShp) (M : zMem) (x1 x2 : Int32) (R : zEnd) (h : (((M 24 2) ≤ x2) → (R (some (.int x1)) (SHP g X) M)) ∧ ((¬ (M 24 2) ≤ x2) → ((vp_in x2 4) ∧ (zRT m_Filling_ways 0 0 15 [(0, .ref 24), (1, .int (x1 * (bc (M 26 (Int32.toNatClampNeg x2))))), (2, .int (x2 + 1))] [] (SHP g X) M R)))) : zRT m_Filling_ways 0 0 15 [(0, .ref 24), (1, .int x1), (2, .int x2)] [] (SHP g X) M R := by
  refine zs_iload_n 2 d_Filling_ways_15 rfl (List.mem_of_getElem? (i := 2) rfl) ?_
  refine zs_aload_n 0 d_Filling_ways_16 rfl (List.mem_of_getElem? (i := 0) rfl) ?_
  refine zs_get d_Filling_ways_17 gf_Filling_53 (sh_24 g X) rfl ?_
  refine zs_icmp_ge 41 d_Filling_ways_20 (by decide) (fun c1 => ?_) (fun c1 => ?_)
  · replace h := h.1 c1
    refine zs_iload_n 1 d_Filling_ways_41 rfl (List.mem_of_getElem? (i := 1) rfl) ?_
    exact zs_iret d_Filling_ways_42 rfl h
  · replace h := h.2 c1
    refine zs_iload_n 1 d_Filling_ways_23 rfl (List.mem_of_getElem? (i := 1) rfl) ?_
    refine zs_aload_n 0 d_Filling_ways_24 rfl (List.mem_of_getElem? (i := 0) rfl) ?_
    refine zs_get d_Filling_ways_25 gf_Filling_15 (sh_24 g X) rfl ?_
    refine zs_iload_n 2 d_Filling_ways_28 rfl (List.mem_of_getElem? (i := 2) rfl) ?_
    obtain ⟨b2, h⟩ := h
    refine zs_iald d_Filling_ways_29 (sh_26 g X) b2 ?_
    refine zs_callS (kc := 0) (ks := 0) (kc1 := 0) (ks1 := 0) (st := [.int x1]) [.int (M 26 (Int32.toNatClampNeg x2))] d_Filling_ways_30 lk_Filling_74 ⟨by decide, by decide⟩ rfl (Nat.le_of_ble_eq_true rfl) (ex_JI_bitCount g X M (M 26 (Int32.toNatClampNeg x2))) (fun v3 sh3 M3 hR => ?_)
    obtain ⟨rfl, rfl, rfl⟩ := hR
    refine zs_imul d_Filling_ways_33 ?_
    refine zs_istore_n2 1 [1, 0, 2] [(0, .ref 24), (1, .int (x1 * (bc (M 26 (Int32.toNatClampNeg x2))))), (2, .int x2)] d_Filling_ways_34 rfl (by decide) rfl ?_
    refine zs_iinc2 2 (x2 + 1) [1, 2, 0] [(0, .ref 24), (1, .int (x1 * (bc (M 26 (Int32.toNatClampNeg x2))))), (2, .int (x2 + 1))] d_Filling_ways_35 rfl rfl (by decide) rfl ?_
    refine zs_goto 15 d_Filling_ways_38 (by decide) ?_
    exact h
theorem ex_Filling_ways (hh : kAsk M) : zEx m_Filling_ways 0 0 [.ref 24] (SHP g X) M (qF g X (kWays M) M) := by
  refine zEx_of _ (by decide) (by simp [Value.category]) (Nat.le_of_ble_eq_true rfl) rfl (v_Filling_ways_0 g X M _ ?_)
  obtain ⟨a, ha, ea⟩ := hh
  have L : ∀ w n k, k + n = a → zRT m_Filling_ways 0 0 15 [(0, .ref 24), (1, .int (kWn M w k)), (2, .int (nI k))] [] (SHP g X) M (qF g X (kWn M w a) M) := by
    intro w n
    induction n with
    | zero =>
      intro k hk
      have e : k = a := by omega
      subst e
      exact v_Filling_ways_15 g X _ _ _ _ ⟨fun _ => qF_i rfl rfl, fun h => absurd (by rw [ea]; exact nI_le (by omega) (by omega)) h⟩
    | succ n ih =>
      intro k hk
      refine v_Filling_ways_15 g X _ _ _ _ ⟨fun h => absurd h (by rw [ea]; exact nI_ge (by omega) (by omega)), fun _ => ⟨vp_in_nI (by omega) (by decide), ?_⟩⟩
      rw [nI_1, nI_clamp (by omega)]
      exact ih (k + 1) (by omega)
  have ew : kWays M = kWn M (if M 24 3 = 0 then 0 else 1) a := by unfold kWays; rw [ea, nI_clamp (by omega)]
  rw [ew]
  exact ⟨fun h => by rw [if_pos h]; exact L 0 a 0 (by omega), fun h => by rw [if_neg h]; exact L 1 a 0 (by omega)⟩
theorem v_Filling_weigh_0 (g : Nat → Option Nat) (X : List zShp) (M : zMem) (R : zEnd) (h : (kCnt M) ∧ (∀ (M1 : zMem), (kFA M M1) → (zRT m_Filling_weigh 0 0 15 [(0, .ref 24), (1, .ref 10), (2, .int 0)] [] (SHP g X) (zms M1 24 3 1) R))) : zRT m_Filling_weigh 0 0 0 [(0, .ref 24), (1, .ref 10)] [] (SHP g X) M R := by
  refine zs_aload_n 0 d_Filling_weigh_0 rfl (List.mem_of_getElem? (i := 0) rfl) ?_
  refine zs_aload_n 1 d_Filling_weigh_1 rfl (List.mem_of_getElem? (i := 1) rfl) ?_
  refine zs_get d_Filling_weigh_2 gf_Filling_18 (sh_10 g X) rfl ?_
  obtain ⟨p1, h⟩ := h
  refine zs_callV (kc := 0) (ks := 0) (kc1 := 0) (ks1 := 0) (st := []) [.ref 11] d_Filling_weigh_5 lk_Filling_24 ⟨by decide, by decide⟩ rfl (sh_24 g X) rfl (Nat.le_of_ble_eq_true rfl) (ex_Filling_findAsks g X M p1) (fun v1 sh1 M1 hR => ?_)
  obtain ⟨rfl, rfl, hq1⟩ := hR
  replace h := h M1 hq1
  refine zs_aload_n 0 d_Filling_weigh_8 rfl (List.mem_of_getElem? (i := 0) rfl) ?_
  refine zs_iconst 1 d_Filling_weigh_9 (by decide) ?_
  refine zs_put d_Filling_weigh_10 pf_Filling_28 (sh_24 g X) rfl rfl rfl ?_
  refine zs_iconst 0 d_Filling_weigh_13 (by decide) ?_
  refine zs_istore_n2 2 [1, 2, 0] [(0, .ref 24), (1, .ref 10), (2, .int 0)] d_Filling_weigh_14 rfl (by decide) rfl ?_
  exact h
theorem v_Filling_weigh_15 (g : Nat → Option Nat) (X : List zShp) (M : zMem) (x2 : Int32) (R : zEnd) (h : (((M 10 5) ≤ x2) → (R none (SHP g X) M)) ∧ ((¬ (M 10 5) ≤ x2) → ((vp_in x2 6) ∧ ((kCnt M ∧ kDpt M) ∧ ((vp_in (M 19 (Int32.toNatClampNeg x2)) 6) ∧ ((kCnt M ∧ kAsk M) ∧ (∀ (M5 : zMem), (kFA M M5) → (zRT m_Filling_weigh 0 0 15 [(0, .ref 24), (1, .ref 10), (2, .int (x2 + 1))] [] (SHP g X) M5 R)))))))) : zRT m_Filling_weigh 0 0 15 [(0, .ref 24), (1, .ref 10), (2, .int x2)] [] (SHP g X) M R := by
  refine zs_iload_n 2 d_Filling_weigh_15 rfl (List.mem_of_getElem? (i := 2) rfl) ?_
  refine zs_aload_n 1 d_Filling_weigh_16 rfl (List.mem_of_getElem? (i := 1) rfl) ?_
  refine zs_get d_Filling_weigh_17 gf_Filling_32 (sh_10 g X) rfl ?_
  refine zs_icmp_ge 57 d_Filling_weigh_20 (by decide) (fun c1 => ?_) (fun c1 => ?_)
  · replace h := h.1 c1
    exact zs_vret d_Filling_weigh_57 rfl h
  · replace h := h.2 c1
    refine zs_aload_n 0 d_Filling_weigh_23 rfl (List.mem_of_getElem? (i := 0) rfl) ?_
    refine zs_aload_n 1 d_Filling_weigh_24 rfl (List.mem_of_getElem? (i := 1) rfl) ?_
    refine zs_aload_n 1 d_Filling_weigh_25 rfl (List.mem_of_getElem? (i := 1) rfl) ?_
    refine zs_get d_Filling_weigh_26 gf_Filling_36 (sh_10 g X) rfl ?_
    refine zs_iload_n 2 d_Filling_weigh_29 rfl (List.mem_of_getElem? (i := 2) rfl) ?_
    obtain ⟨b2, h⟩ := h
    refine zs_iald d_Filling_weigh_30 (sh_20 g X) b2 ?_
    obtain ⟨p3, h⟩ := h
    refine zs_callV (kc := 0) (ks := 0) (kc1 := 0) (ks1 := 0) (st := [.ref 24]) [.int (M 20 (Int32.toNatClampNeg x2))] d_Filling_weigh_31 lk_Filling_39 ⟨by decide, by decide⟩ rfl (sh_10 g X) rfl (Nat.le_of_ble_eq_true rfl) (ex_Town_reach g X M (M 20 (Int32.toNatClampNeg x2)) p3) (fun v3 sh3 M3 hR => ?_)
    obtain ⟨rfl, rfl, rfl⟩ := hR
    refine zs_aload_n 1 d_Filling_weigh_34 rfl (List.mem_of_getElem? (i := 1) rfl) ?_
    refine zs_aload_n 1 d_Filling_weigh_35 rfl (List.mem_of_getElem? (i := 1) rfl) ?_
    refine zs_get d_Filling_weigh_36 gf_Filling_43 (sh_10 g X) rfl ?_
    refine zs_iload_n 2 d_Filling_weigh_39 rfl (List.mem_of_getElem? (i := 2) rfl) ?_
    refine zs_iald d_Filling_weigh_40 (sh_19 g X) b2 ?_
    obtain ⟨p4, h⟩ := h
    refine zs_callV (kc := 0) (ks := 0) (kc1 := 0) (ks1 := 0) (st := [.int (kRch M (M 20 (Int32.toNatClampNeg x2))), .ref 24]) [.int (M 19 (Int32.toNatClampNeg x2))] d_Filling_weigh_41 lk_Filling_46 ⟨by decide, by decide⟩ rfl (sh_10 g X) rfl (Nat.le_of_ble_eq_true rfl) (ex_Town_couple g X M (M 19 (Int32.toNatClampNeg x2)) p4) (fun v4 sh4 M4 hR => ?_)
    obtain ⟨rfl, rfl, rfl⟩ := hR
    refine zs_aload_n 1 d_Filling_weigh_44 rfl (List.mem_of_getElem? (i := 1) rfl) ?_
    refine zs_get d_Filling_weigh_45 gf_Filling_18 (sh_10 g X) rfl ?_
    obtain ⟨p5, h⟩ := h
    refine zs_callV (kc := 0) (ks := 0) (kc1 := 0) (ks1 := 0) (st := []) [.int (kRch M (M 20 (Int32.toNatClampNeg x2))), .int (kCpl M (M 19 (Int32.toNatClampNeg x2))), .ref 11] d_Filling_weigh_48 lk_Filling_49 ⟨by decide, by decide⟩ rfl (sh_24 g X) rfl (Nat.le_of_ble_eq_true rfl) (ex_Filling_applySight g X M (kRch M (M 20 (Int32.toNatClampNeg x2))) (kCpl M (M 19 (Int32.toNatClampNeg x2))) p5) (fun v5 sh5 M5 hR => ?_)
    obtain ⟨rfl, rfl, hq5⟩ := hR
    replace h := h M5 hq5
    refine zs_iinc2 2 (x2 + 1) [1, 2, 0] [(0, .ref 24), (1, .ref 10), (2, .int (x2 + 1))] d_Filling_weigh_51 rfl rfl (by decide) rfl ?_
    refine zs_goto 15 d_Filling_weigh_54 (by decide) ?_
    exact h
theorem ex_Filling_weigh (hh : kCnt M ∧ kDpt M ∧ kSts M) : zEx m_Filling_weigh 0 0 [.ref 24, .ref 10] (SHP g X) M (qW g X (kFA M)) := by
  refine zEx_of _ (by decide) (by simp [Value.category]) (Nat.le_of_ble_eq_true rfl) rfl (v_Filling_weigh_0 g X M _ ⟨hh.1, fun M0 h0 => ?_⟩)
  obtain ⟨s, hs, es, hi⟩ := hh.2.2
  have L : ∀ n k M1, k + n = s → kFA M M1 → zRT m_Filling_weigh 0 0 15 [(0, .ref 24), (1, .ref 10), (2, .int (nI k))] [] (SHP g X) M1 (qW g X (kFA M)) := by
    intro n
    induction n with
    | zero =>
      intro k M1 hk hf
      have e10 : M1 10 = M 10 := hf.1 10 (by decide)
      exact v_Filling_weigh_15 g X _ _ _ ⟨fun _ => ⟨rfl, rfl, hf⟩, fun h => absurd (by rw [e10, es]; exact nI_le (by omega) (by omega)) h⟩
    | succ n ih =>
      intro k M1 hk hf
      have e10 : M1 10 = M 10 := hf.1 10 (by decide)
      have e11 : M1 11 = M 11 := hf.1 11 (by decide)
      have e19 : M1 19 = M 19 := hf.1 19 (by decide)
      refine v_Filling_weigh_15 g X _ _ _ ⟨fun h => absurd h (by rw [e10, es]; exact nI_ge (by omega) (by omega)), fun _ => ⟨vp_in_nI (by omega) (by decide), ⟨kCnt_ag e11 hh.1, kDpt_ag e10 hh.2.1⟩, ?_, ⟨kCnt_ag e11 hh.1, hf.2⟩, fun M5 h5 => ?_⟩⟩
      · rw [e19, nI_clamp (by omega)]
        exact hi k (by omega)
      · rw [nI_1]
        exact ih (k + 1) M5 (by omega) ⟨hf.1.tr h5.1, h5.2⟩
  refine L s 0 _ (by omega) ⟨h0.1.st (by decide), ?_⟩
  obtain ⟨a, ha, ea⟩ := h0.2
  exact ⟨a, ha, ea⟩
end zC3
