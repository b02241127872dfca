/-! the class's own small methods: what they answer, as functions of the numbers -/
def kOr (f : Nat → Int32) : Nat → Int32
  | 0 => 0
  | n + 1 => kOr f n ||| f n
def kCN (M : zMem) : Nat := (M 11 5).toNatClampNeg
def kDN (M : zMem) : Nat := (M 10 6).toNatClampNeg
def kCnt (M : zMem) : Prop := ∃ n : Nat, n ≤ 10 ∧ M 11 5 = nI n
def kDpt (M : zMem) : Prop := ∃ n : Nat, n ≤ 9 ∧ M 10 6 = nI n
theorem kCnt_e {M : zMem} (h : kCnt M) : M 11 5 = nI (kCN M) ∧ kCN M ≤ 10 := by
  obtain ⟨n, h1, h2⟩ := h
  unfold kCN
  rw [h2, nI_clamp (by omega)]
  exact ⟨rfl, h1⟩
theorem kDpt_e {M : zMem} (h : kDpt M) : M 10 6 = nI (kDN M) ∧ kDN M ≤ 9 := by
  obtain ⟨n, h1, h2⟩ := h
  unfold kDN
  rw [h2, nI_clamp (by omega)]
  exact ⟨rfl, h1⟩
def kLOf (b : Int32) : Nat → Nat → Int32
  | _, 0 => -6
  | k, n + 1 => if hb b (nI k) = true then nI k else kLOf b (k + 1) n
def kLO (b : Int32) : Int32 := kLOf b 0 10
def kIsT (c t : Int32) : Bool := !decide (t < 0) && !decide (c ≤ t)
def kHO (M : zMem) (b : Int32) : Int32 := kOr (fun k => if hb b (nI k) = true then M 12 k else 0) (kCN M)
def kBh (M : zMem) (b w : Int32) : Int32 := kOr (fun k => if hb b (nI k) = true then (bO (M 13 k) ||| bO (M 14 k)) ||| (if w = 0 then 0 else bO (M 15 k)) else 0) (kCN M)
def kCpl (M : zMem) (m : Int32) : Int32 := (1 <<< (m &&& 31)) ||| (if M 17 (Int32.toNatClampNeg m) = -6 then (0 : Int32) else 1 <<< (M 17 (Int32.toNatClampNeg m) &&& 31))
def kWP (M : zMem) (b : Int32) : Int32 := kOr (fun k => if hb b (nI k) = true then kCpl M (nI k) else 0) 6
def kTl (M : zMem) : Int32 := if M 10 7 = 1 then 1 else 0
def kRcn (M : zMem) : Nat → Int32 → Int32 → Int32
  | 0, all, _ => all
  | n + 1, all, layer => if layer = 0 then all else kRcn M n (all ||| layer) (kBh M layer (kTl M))
def kRch (M : zMem) (t : Int32) : Int32 := kRcn M (kDN M + 1) 0 (1 <<< (t &&& 31))
def kTch (M : zMem) (t : Int32) : Int32 := kHO M (kRch M t)
def kLwf (M : zMem) (m : Int32) : Int32 := kOr (fun k => if kTch M (nI k) &&& kCpl M m = 0 then 1 <<< (nI k &&& 31) else 0) (kCN M)
def kTnt (M : zMem) (m : Int32) : Int32 := kOr (fun k => if hb (kTch M (nI k)) m = true then 1 <<< (nI k &&& 31) else 0) (kCN M)
def kFsn (M : zMem) (men : Int32) : Nat → Nat → Int32 → Int32
  | 0, _, _ => -6
  | n + 1, s, layer => if layer = 0 then -6 else if kHO M layer &&& men = 0 then kFsn M men n (s + 1) (kBh M layer (kTl M)) else nI s
def kFst (M : zMem) (t men : Int32) : Int32 := kFsn M men 10 0 (1 <<< (t &&& 31))
section zC1
variable (g : Nat → Option Nat) (X : List zShp) (M : zMem)
theorem v_O_leastOf_0 (g : Nat → Option Nat) (X : List zShp) (M : zMem) (x0 : Int32) (R : zEnd) (h : zRT m_O_leastOf 0 0 2 [(0, .int x0), (1, .int 0)] [] (SHP g X) M R) : zRT m_O_leastOf 0 0 0 [(0, .int x0)] [] (SHP g X) M R := by
  refine zs_iconst 0 d_O_leastOf_0 (by decide) ?_
  refine zs_istore_n2 1 [1, 0] [(0, .int x0), (1, .int 0)] d_O_leastOf_1 rfl (by decide) rfl ?_
  exact h
theorem v_O_leastOf_2 (g : Nat → Option Nat) (X : List zShp) (M : zMem) (x0 x1 : Int32) (R : zEnd) (h : ((10 ≤ x1) → (R (some (.int (-6))) (SHP g X) M)) ∧ ((¬ 10 ≤ x1) → ((((hb x0 x1) = false) → (zRT m_O_leastOf 0 0 2 [(0, .int x0), (1, .int (x1 + 1))] [] (SHP g X) M R)) ∧ (((hb x0 x1) = true) → (R (some (.int x1)) (SHP g X) M))))) : zRT m_O_leastOf 0 0 2 [(0, .int x0), (1, .int x1)] [] (SHP g X) M R := by
  refine zs_iload_n 1 d_O_leastOf_2 rfl (List.mem_of_getElem? (i := 1) rfl) ?_
  refine zs_bipush 10 d_O_leastOf_3 (by decide) ?_
  refine zs_icmp_ge 24 d_O_leastOf_5 (by decide) (fun c1 => ?_) (fun c1 => ?_)
  · replace h := h.1 c1
    refine zs_bipush (-6) d_O_leastOf_24 (by decide) ?_
    exact zs_iret d_O_leastOf_26 rfl h
  · replace h := h.2 c1
    refine zs_iload_n 0 d_O_leastOf_8 rfl (List.mem_of_getElem? (i := 0) rfl) ?_
    refine zs_iload_n 1 d_O_leastOf_9 rfl (List.mem_of_getElem? (i := 1) rfl) ?_
    refine zs_callS (kc := 0) (ks := 0) (kc1 := 0) (ks1 := 0) (st := []) [.int x0, .int x1] d_O_leastOf_10 lk_O_242 ⟨by decide, by decide⟩ rfl (Nat.le_of_ble_eq_true rfl) (ex_O_has g X M x0 x1) (fun v2 sh2 M2 hR => ?_)
    obtain ⟨rfl, rfl, rfl⟩ := hR
    refine zs_if_eq 18 d_O_leastOf_13 (by decide) (fun c3 => ?_) (fun c3 => ?_)
    · replace h := h.1 (bI_0 c3)
      refine zs_iinc2 1 (x1 + 1) [1, 0] [(0, .int x0), (1, .int (x1 + 1))] d_O_leastOf_18 rfl rfl (by decide) rfl ?_
      refine zs_goto 2 d_O_leastOf_21 (by decide) ?_
      exact h
    · replace h := h.2 (bI_1 c3)
      refine zs_iload_n 1 d_O_leastOf_16 rfl (List.mem_of_getElem? (i := 1) rfl) ?_
      exact zs_iret d_O_leastOf_17 rfl h
theorem ex_O_leastOf (b : Int32) : zEx m_O_leastOf 0 0 [.int b] (SHP g X) M (qF g X (kLO b) M) := by
  refine zEx_of _ (by decide) (by simp [Value.category]) (Nat.le_of_ble_eq_true rfl) rfl (v_O_leastOf_0 g X M b _ ?_)
  have L : ∀ n k, k + n = 10 → zRT m_O_leastOf 0 0 2 [(0, .int b), (1, .int (nI k))] [] (SHP g X) M (qF g X (kLOf b k n) M) := by
    intro n
    induction n with
    | zero =>
      intro k hk
      refine v_O_leastOf_2 g X M b _ _ ⟨fun _ => qF_i rfl rfl, fun h => absurd (nI_le (a := 10) (by omega) (by omega)) h⟩
    | succ n ih =>
      intro k hk
      refine v_O_leastOf_2 g X M b _ _ ⟨fun h => absurd h (nI_ge (b := 10) (by omega) (by decide)), fun _ => ⟨fun h => ?_, fun h => qF_i (by simp [kLOf, h]) rfl⟩⟩
      rw [nI_1]
      have := ih (k + 1) (by omega)
      simp only [kLOf, h]
      exact this
  exact L 10 0 rfl
theorem v_O_isThing_0 (g : Nat → Option Nat) (X : List zShp) (M : zMem) (x1 : Int32) (R : zEnd) (h : ((x1 < 0) → (R (some (.int 0)) (SHP g X) M)) ∧ ((¬ x1 < 0) → ((((M 11 5) ≤ x1) → (R (some (.int 0)) (SHP g X) M)) ∧ ((¬ (M 11 5) ≤ x1) → (R (some (.int 1)) (SHP g X) M))))) : zRT m_O_isThing 0 0 0 [(0, .ref 0), (1, .int x1)] [] (SHP g X) M R := by
  refine zs_iload_n 1 d_O_isThing_0 rfl (List.mem_of_getElem? (i := 1) rfl) ?_
  refine zs_if_lt 22 d_O_isThing_1 (by decide) (fun c1 => ?_) (fun c1 => ?_)
  · replace h := h.1 c1
    refine zs_iconst 0 d_O_isThing_22 (by decide) ?_
    exact zs_zret (by decide) d_O_isThing_23 rfl h
  · replace h := h.2 c1
    refine zs_iload_n 1 d_O_isThing_4 rfl (List.mem_of_getElem? (i := 1) rfl) ?_
    refine zs_aload_n 0 d_O_isThing_5 rfl (List.mem_of_getElem? (i := 0) rfl) ?_
    refine zs_get d_O_isThing_6 gf_O_26 (sh_0 g X) rfl ?_
    refine zs_get d_O_isThing_9 gf_O_82 (sh_10 g X) rfl ?_
    refine zs_get d_O_isThing_12 gf_O_85 (sh_11 g X) rfl ?_
    refine zs_icmp_ge 22 d_O_isThing_15 (by decide) (fun c2 => ?_) (fun c2 => ?_)
    · replace h := h.1 c2
      refine zs_iconst 0 d_O_isThing_22 (by decide) ?_
      exact zs_zret (by decide) d_O_isThing_23 rfl h
    · replace h := h.2 c2
      refine zs_iconst 1 d_O_isThing_18 (by decide) ?_
      refine zs_goto 23 d_O_isThing_19 (by decide) ?_
      exact zs_zret (by decide) d_O_isThing_23 rfl h
theorem ex_O_isThing (t : Int32) : zEx m_O_isThing 0 0 [.ref 0, .int t] (SHP g X) M (qF g X (bI (kIsT (M 11 5) t)) M) := by
  refine zEx_of _ (by decide) (by simp [Value.category]) (Nat.le_of_ble_eq_true rfl) rfl (v_O_isThing_0 g X M t _ ⟨fun h => qF_i ?_ rfl, fun h => ⟨fun h2 => qF_i ?_ rfl, fun h2 => qF_i ?_ rfl⟩⟩) <;> simp [kIsT, *, bI]
theorem v_X_isMan_0 (g : Nat → Option Nat) (X : List zShp) (M : zMem) (x0 : Int32) (R : zEnd) (h : R (some (.int (bI (inI x0 0 5)))) (SHP g X) M) : zRT m_X_isMan 0 0 0 [(0, .int x0)] [] (SHP g X) M R := by
  refine zs_iload_n 0 d_X_isMan_0 rfl (List.mem_of_getElem? (i := 0) rfl) ?_
  refine zs_iconst 0 d_X_isMan_1 (by decide) ?_
  refine zs_iconst 5 d_X_isMan_2 (by decide) ?_
  refine zs_callS (kc := 0) (ks := 0) (kc1 := 0) (ks1 := 0) (st := []) [.int x0, .int 0, .int 5] d_X_isMan_3 lk_X_66 ⟨by decide, by decide⟩ rfl (Nat.le_of_ble_eq_true rfl) (ex_X_in g X M x0 0 5) (fun v1 sh1 M1 hR => ?_)
  obtain ⟨rfl, rfl, rfl⟩ := hR
  exact zs_zret (bI_nar _) d_X_isMan_6 rfl h
theorem ex_X_isMan (m : Int32) : zEx m_X_isMan 0 0 [.int m] (SHP g X) M (qF g X (bI (isM m)) M) := by
  refine zEx_of _ (by decide) (by simp [Value.category]) (Nat.le_of_ble_eq_true rfl) rfl (v_X_isMan_0 g X M m _ (qF_i ?_ rfl))
  have e : (6 ≤ m) ↔ (5 < m) := by rw [Int32.le_iff_toInt_le, Int32.lt_iff_toInt_lt]; exact Iff.rfl
  simp only [isM, inI, e]
theorem v_X_isThing_0 (g : Nat → Option Nat) (X : List zShp) (M : zMem) (x1 : Int32) (R : zEnd) (h : R (some (.int (bI (inI x1 0 ((M 35 6) - 1))))) (SHP g X) M) : zRT m_X_isThing 0 0 0 [(0, .ref 35), (1, .int x1)] [] (SHP g X) M R := by
  refine zs_iload_n 1 d_X_isThing_0 rfl (List.mem_of_getElem? (i := 1) rfl) ?_
  refine zs_iconst 0 d_X_isThing_1 (by decide) ?_
  refine zs_aload_n 0 d_X_isThing_2 rfl (List.mem_of_getElem? (i := 0) rfl) ?_
  refine zs_get d_X_isThing_3 gf_X_70 (sh_35 g X) rfl ?_
  refine zs_iconst 1 d_X_isThing_6 (by decide) ?_
  refine zs_isub d_X_isThing_7 ?_
  refine zs_callS (kc := 0) (ks := 0) (kc1 := 0) (ks1 := 0) (st := []) [.int x1, .int 0, .int ((M 35 6) - 1)] d_X_isThing_8 lk_X_66 ⟨by decide, by decide⟩ rfl (Nat.le_of_ble_eq_true rfl) (ex_X_in g X M x1 0 ((M 35 6) - 1)) (fun v1 sh1 M1 hR => ?_)
  obtain ⟨rfl, rfl, rfl⟩ := hR
  exact zs_zret (bI_nar _) d_X_isThing_11 rfl h
theorem ex_X_isThing (t : Int32) : zEx m_X_isThing 0 0 [.ref 35, .int t] (SHP g X) M (qF g X (bI (inI t 0 (M 35 6 - 1))) M) :=
  zEx_of _ (by decide) (by simp [Value.category]) (Nat.le_of_ble_eq_true rfl) rfl (v_X_isThing_0 g X M t _ (qF_i rfl rfl))
theorem v_Pages_handsOf_0 (g : Nat → Option Nat) (X : List zShp) (M : zMem) (x1 : Int32) (R : zEnd) (h : zRT m_Pages_handsOf 0 0 4 [(0, .ref 11), (1, .int x1), (2, .int 0), (3, .int 0)] [] (SHP g X) M R) : zRT m_Pages_handsOf 0 0 0 [(0, .ref 11), (1, .int x1)] [] (SHP g X) M R := by
  refine zs_iconst 0 d_Pages_handsOf_0 (by decide) ?_
  refine zs_istore_n2 2 [1, 2, 0] [(0, .ref 11), (1, .int x1), (2, .int 0)] d_Pages_handsOf_1 rfl (by decide) rfl ?_
  refine zs_iconst 0 d_Pages_handsOf_2 (by decide) ?_
  refine zs_istore_n2 3 [1, 2, 3, 0] [(0, .ref 11), (1, .int x1), (2, .int 0), (3, .int 0)] d_Pages_handsOf_3 rfl (by decide) rfl ?_
  exact h
theorem v_Pages_handsOf_4 (g : Nat → Option Nat) (X : List zShp) (M : zMem) (x1 x2 x3 : Int32) (R : zEnd) (h : (((M 11 5) ≤ x3) → (R (some (.int x2)) (SHP g X) M)) ∧ ((¬ (M 11 5) ≤ x3) → ((((hb x1 x3) = false) → (zRT m_Pages_handsOf 0 0 4 [(0, .ref 11), (1, .int x1), (2, .int x2), (3, .int (x3 + 1))] [] (SHP g X) M R)) ∧ (((hb x1 x3) = true) → ((vp_in x3 10) ∧ (zRT m_Pages_handsOf 0 0 4 [(0, .ref 11), (1, .int x1), (2, .int (x2 ||| (M 12 (Int32.toNatClampNeg x3)))), (3, .int (x3 + 1))] [] (SHP g X) M R)))))) : zRT m_Pages_handsOf 0 0 4 [(0, .ref 11), (1, .int x1), (2, .int x2), (3, .int x3)] [] (SHP g X) M R := by
  refine zs_iload_n 3 d_Pages_handsOf_4 rfl (List.mem_of_getElem? (i := 3) rfl) ?_
  refine zs_aload_n 0 d_Pages_handsOf_5 rfl (List.mem_of_getElem? (i := 0) rfl) ?_
  refine zs_get d_Pages_handsOf_6 gf_Pages_33 (sh_11 g X) rfl ?_
  refine zs_icmp_ge 35 d_Pages_handsOf_9 (by decide) (fun c1 => ?_) (fun c1 => ?_)
  · replace h := h.1 c1
    refine zs_iload_n 2 d_Pages_handsOf_35 rfl (List.mem_of_getElem? (i := 2) rfl) ?_
    exact zs_iret d_Pages_handsOf_36 rfl h
  · replace h := h.2 c1
    refine zs_iload_n 1 d_Pages_handsOf_12 rfl (List.mem_of_getElem? (i := 1) rfl) ?_
    refine zs_iload_n 3 d_Pages_handsOf_13 rfl (List.mem_of_getElem? (i := 3) rfl) ?_
    refine zs_callSN (kc := 0) (ks := 0) (kc1 := 0) (ks1 := 0) (st := []) [.int x1, .int x3] d_Pages_handsOf_14 lk_Pages_37 ⟨by decide, by decide⟩ rfl (Nat.le_of_ble_eq_true rfl) (ex_O_has g X M x1 x3) (fun v2 sh2 M2 hR => ?_)
    obtain ⟨rfl, rfl, rfl⟩ := hR
    refine zs_if_eq 29 d_Pages_handsOf_17 (by decide) (fun c3 => ?_) (fun c3 => ?_)
    · replace h := h.1 (bI_0 c3)
      refine zs_iinc2 3 (x3 + 1) [1, 2, 3, 0] [(0, .ref 11), (1, .int x1), (2, .int x2), (3, .int (x3 + 1))] d_Pages_handsOf_29 rfl rfl (by decide) rfl ?_
      refine zs_goto 4 d_Pages_handsOf_32 (by decide) ?_
      exact h
    · replace h := h.2 (bI_1 c3)
      refine zs_iload_n 2 d_Pages_handsOf_20 rfl (List.mem_of_getElem? (i := 2) rfl) ?_
      refine zs_aload_n 0 d_Pages_handsOf_21 rfl (List.mem_of_getElem? (i := 0) rfl) ?_
      refine zs_get d_Pages_handsOf_22 gf_Pages_9 (sh_11 g X) rfl ?_
      refine zs_iload_n 3 d_Pages_handsOf_25 rfl (List.mem_of_getElem? (i := 3) rfl) ?_
      obtain ⟨b4, h⟩ := h
      refine zs_iald d_Pages_handsOf_26 (sh_12 g X) b4 ?_
      refine zs_ior d_Pages_handsOf_27 ?_
      refine zs_istore_n2 2 [1, 2, 0, 3] [(0, .ref 11), (1, .int x1), (2, .int (x2 ||| (M 12 (Int32.toNatClampNeg x3)))), (3, .int x3)] d_Pages_handsOf_28 rfl (by decide) rfl ?_
      refine zs_iinc2 3 (x3 + 1) [1, 2, 3, 0] [(0, .ref 11), (1, .int x1), (2, .int (x2 ||| (M 12 (Int32.toNatClampNeg x3)))), (3, .int (x3 + 1))] d_Pages_handsOf_29 rfl rfl (by decide) rfl ?_
      refine zs_goto 4 d_Pages_handsOf_32 (by decide) ?_
      exact h
theorem ex_Pages_handsOf (b : Int32) (hc : kCnt M) : zEx m_Pages_handsOf 0 0 [.ref 11, .int b] (SHP g X) M (qF g X (kHO M b) M) := by
  refine zEx_of _ (by decide) (by simp [Value.category]) (Nat.le_of_ble_eq_true rfl) rfl (v_Pages_handsOf_0 g X M b _ ?_)
  obtain ⟨hc1, hc2⟩ := kCnt_e hc
  have L : ∀ n k, k + n = kCN M → zRT m_Pages_handsOf 0 0 4 [(0, .ref 11), (1, .int b), (2, .int (kOr (fun k => if hb b (nI k) = true then M 12 k else 0) k)), (3, .int (nI k))] [] (SHP g X) M (qF g X (kHO M b) M) := by
    intro n
    induction n with
    | zero =>
      intro k hk
      have e : k = kCN M := by omega
      subst e
      refine v_Pages_handsOf_4 g X M b _ _ _ ⟨fun _ => qF_i rfl rfl, fun h => absurd (by rw [hc1]; exact nI_le (Nat.le_refl _) (by omega)) h⟩
    | succ n ih =>
      intro k hk
      have ih := ih (k + 1) (by omega)
      refine v_Pages_handsOf_4 g X M b _ _ _ ⟨fun h => absurd h (by rw [hc1]; exact nI_ge (by omega) (by omega)), fun _ => ⟨fun h => ?_, fun h => ⟨vp_in_nI (by omega) (by decide), ?_⟩⟩⟩
      · simp only [kOr, h] at ih
        rw [nI_1]
        simpa using ih
      · simp only [kOr, h] at ih
        rw [nI_1, nI_clamp (by omega)]
        simpa using ih
  exact L (kCN M) 0 (by omega)
theorem v_Pages_behind_0 (g : Nat → Option Nat) (X : List zShp) (M : zMem) (x1 x2 : Int32) (R : zEnd) (h : zRT m_Pages_behind 0 0 5 [(0, .ref 11), (1, .int x1), (2, .int x2), (3, .int 0), (4, .int 0)] [] (SHP g X) M R) : zRT m_Pages_behind 0 0 0 [(0, .ref 11), (1, .int x1), (2, .int x2)] [] (SHP g X) M R := by
  refine zs_iconst 0 d_Pages_behind_0 (by decide) ?_
  refine zs_istore_n2 3 [1, 2, 3, 0] [(0, .ref 11), (1, .int x1), (2, .int x2), (3, .int 0)] d_Pages_behind_1 rfl (by decide) rfl ?_
  refine zs_iconst 0 d_Pages_behind_2 (by decide) ?_
  refine zs_istore2 [1, 2, 3, 4, 0] [(0, .ref 11), (1, .int x1), (2, .int x2), (3, .int 0), (4, .int 0)] d_Pages_behind_3 (by decide) rfl ?_
  exact h
theorem v_Pages_behind_5 (g : Nat → Option Nat) (X : List zShp) (M : zMem) (x1 x2 x3 x4 : Int32) (R : zEnd) (h : (((M 11 5) ≤ x4) → (R (some (.int x3)) (SHP g X) M)) ∧ ((¬ (M 11 5) ≤ x4) → ((((hb x1 x4) = false) → (zRT m_Pages_behind 0 0 5 [(0, .ref 11), (1, .int x1), (2, .int x2), (3, .int x3), (4, .int (x4 + 1))] [] (SHP g X) M R)) ∧ (((hb x1 x4) = true) → ((vp_in x4 10) ∧ (((x2 = 0) → (zRT m_Pages_behind 0 0 5 [(0, .ref 11), (1, .int x1), (2, .int x2), (3, .int ((x3 ||| ((bO (M 13 (Int32.toNatClampNeg x4))) ||| (bO (M 14 (Int32.toNatClampNeg x4))))) ||| 0)), (4, .int (x4 + 1))] [] (SHP g X) M R)) ∧ ((¬ x2 = 0) → (zRT m_Pages_behind 0 0 5 [(0, .ref 11), (1, .int x1), (2, .int x2), (3, .int ((x3 ||| ((bO (M 13 (Int32.toNatClampNeg x4))) ||| (bO (M 14 (Int32.toNatClampNeg x4))))) ||| (bO (M 15 (Int32.toNatClampNeg x4))))), (4, .int (x4 + 1))] [] (SHP g X) M R)))))))) : zRT m_Pages_behind 0 0 5 [(0, .ref 11), (1, .int x1), (2, .int x2), (3, .int x3), (4, .int x4)] [] (SHP g X) M R := by
  refine zs_iload d_Pages_behind_5 (List.mem_of_getElem? (i := 4) rfl) ?_
  refine zs_aload_n 0 d_Pages_behind_7 rfl (List.mem_of_getElem? (i := 0) rfl) ?_
  refine zs_get d_Pages_behind_8 gf_Pages_33 (sh_11 g X) rfl ?_
  refine zs_icmp_ge 74 d_Pages_behind_11 (by decide) (fun c1 => ?_) (fun c1 => ?_)
  · replace h := h.1 c1
    refine zs_iload_n 3 d_Pages_behind_74 rfl (List.mem_of_getElem? (i := 3) rfl) ?_
    exact zs_iret d_Pages_behind_75 rfl h
  · replace h := h.2 c1
    refine zs_iload_n 1 d_Pages_behind_14 rfl (List.mem_of_getElem? (i := 1) rfl) ?_
    refine zs_iload d_Pages_behind_15 (List.mem_of_getElem? (i := 4) rfl) ?_
    refine zs_callSN (kc := 0) (ks := 0) (kc1 := 0) (ks1 := 0) (st := []) [.int x1, .int x4] d_Pages_behind_17 lk_Pages_37 ⟨by decide, by decide⟩ rfl (Nat.le_of_ble_eq_true rfl) (ex_O_has g X M x1 x4) (fun v2 sh2 M2 hR => ?_)
    obtain ⟨rfl, rfl, rfl⟩ := hR
    refine zs_if_eq 68 d_Pages_behind_20 (by decide) (fun c3 => ?_) (fun c3 => ?_)
    · replace h := h.1 (bI_0 c3)
      refine zs_iinc2 4 (x4 + 1) [1, 2, 3, 4, 0] [(0, .ref 11), (1, .int x1), (2, .int x2), (3, .int x3), (4, .int (x4 + 1))] d_Pages_behind_68 rfl rfl (by decide) rfl ?_
      refine zs_goto 5 d_Pages_behind_71 (by decide) ?_
      exact h
    · replace h := h.2 (bI_1 c3)
      refine zs_iload_n 3 d_Pages_behind_23 rfl (List.mem_of_getElem? (i := 3) rfl) ?_
      refine zs_aload_n 0 d_Pages_behind_24 rfl (List.mem_of_getElem? (i := 0) rfl) ?_
      refine zs_get d_Pages_behind_25 gf_Pages_15 (sh_11 g X) rfl ?_
      refine zs_iload d_Pages_behind_28 (List.mem_of_getElem? (i := 4) rfl) ?_
      obtain ⟨b4, h⟩ := h
      refine zs_iald d_Pages_behind_30 (sh_13 g X) b4 ?_
      refine zs_callS (kc := 0) (ks := 0) (kc1 := 0) (ks1 := 0) (st := [.int x3]) [.int (M 13 (Int32.toNatClampNeg x4))] d_Pages_behind_31 lk_Pages_41 ⟨by decide, by decide⟩ rfl (Nat.le_of_ble_eq_true rfl) (ex_Pages_bitOf g X M (M 13 (Int32.toNatClampNeg x4))) (fun v5 sh5 M5 hR => ?_)
      obtain ⟨rfl, rfl, rfl⟩ := hR
      refine zs_aload_n 0 d_Pages_behind_34 rfl (List.mem_of_getElem? (i := 0) rfl) ?_
      refine zs_get d_Pages_behind_35 gf_Pages_18 (sh_11 g X) rfl ?_
      refine zs_iload d_Pages_behind_38 (List.mem_of_getElem? (i := 4) rfl) ?_
      refine zs_iald d_Pages_behind_40 (sh_14 g X) b4 ?_
      refine zs_callS (kc := 0) (ks := 0) (kc1 := 0) (ks1 := 0) (st := [.int (bO (M 13 (Int32.toNatClampNeg x4))), .int x3]) [.int (M 14 (Int32.toNatClampNeg x4))] d_Pages_behind_41 lk_Pages_41 ⟨by decide, by decide⟩ rfl (Nat.le_of_ble_eq_true rfl) (ex_Pages_bitOf g X M (M 14 (Int32.toNatClampNeg x4))) (fun v6 sh6 M6 hR => ?_)
      obtain ⟨rfl, rfl, rfl⟩ := hR
      refine zs_ior d_Pages_behind_44 ?_
      refine zs_ior d_Pages_behind_45 ?_
      refine zs_istore_n2 3 [1, 2, 3, 0, 4] [(0, .ref 11), (1, .int x1), (2, .int x2), (3, .int (x3 ||| ((bO (M 13 (Int32.toNatClampNeg x4))) ||| (bO (M 14 (Int32.toNatClampNeg x4)))))), (4, .int x4)] d_Pages_behind_46 rfl (by decide) rfl ?_
      refine zs_iload_n 3 d_Pages_behind_47 rfl (List.mem_of_getElem? (i := 3) rfl) ?_
      refine zs_iload_n 2 d_Pages_behind_48 rfl (List.mem_of_getElem? (i := 2) rfl) ?_
      refine zs_if_eq 65 d_Pages_behind_49 (by decide) (fun c7 => ?_) (fun c7 => ?_)
      · replace h := h.1 c7
        refine zs_iconst 0 d_Pages_behind_65 (by decide) ?_
        refine zs_ior d_Pages_behind_66 ?_
        refine zs_istore_n2 3 [1, 2, 3, 0, 4] [(0, .ref 11), (1, .int x1), (2, .int x2), (3, .int ((x3 ||| ((bO (M 13 (Int32.toNatClampNeg x4))) ||| (bO (M 14 (Int32.toNatClampNeg x4))))) ||| 0)), (4, .int x4)] d_Pages_behind_67 rfl (by decide) rfl ?_
        refine zs_iinc2 4 (x4 + 1) [1, 2, 3, 4, 0] [(0, .ref 11), (1, .int x1), (2, .int x2), (3, .int ((x3 ||| ((bO (M 13 (Int32.toNatClampNeg x4))) ||| (bO (M 14 (Int32.toNatClampNeg x4))))) ||| 0)), (4, .int (x4 + 1))] d_Pages_behind_68 rfl rfl (by decide) rfl ?_
        refine zs_goto 5 d_Pages_behind_71 (by decide) ?_
        exact h
      · replace h := h.2 c7
        refine zs_aload_n 0 d_Pages_behind_52 rfl (List.mem_of_getElem? (i := 0) rfl) ?_
        refine zs_get d_Pages_behind_53 gf_Pages_21 (sh_11 g X) rfl ?_
        refine zs_iload d_Pages_behind_56 (List.mem_of_getElem? (i := 4) rfl) ?_
        refine zs_iald d_Pages_behind_58 (sh_15 g X) b4 ?_
        refine zs_callS (kc := 0) (ks := 0) (kc1 := 0) (ks1 := 0) (st := [.int (x3 ||| ((bO (M 13 (Int32.toNatClampNeg x4))) ||| (bO (M 14 (Int32.toNatClampNeg x4)))))]) [.int (M 15 (Int32.toNatClampNeg x4))] d_Pages_behind_59 lk_Pages_41 ⟨by decide, by decide⟩ rfl (Nat.le_of_ble_eq_true rfl) (ex_Pages_bitOf g X M (M 15 (Int32.toNatClampNeg x4))) (fun v8 sh8 M8 hR => ?_)
        obtain ⟨rfl, rfl, rfl⟩ := hR
        refine zs_goto 66 d_Pages_behind_62 (by decide) ?_
        refine zs_ior d_Pages_behind_66 ?_
        refine zs_istore_n2 3 [1, 2, 3, 0, 4] [(0, .ref 11), (1, .int x1), (2, .int x2), (3, .int ((x3 ||| ((bO (M 13 (Int32.toNatClampNeg x4))) ||| (bO (M 14 (Int32.toNatClampNeg x4))))) ||| (bO (M 15 (Int32.toNatClampNeg x4))))), (4, .int x4)] d_Pages_behind_67 rfl (by decide) rfl ?_
        refine zs_iinc2 4 (x4 + 1) [1, 2, 3, 4, 0] [(0, .ref 11), (1, .int x1), (2, .int x2), (3, .int ((x3 ||| ((bO (M 13 (Int32.toNatClampNeg x4))) ||| (bO (M 14 (Int32.toNatClampNeg x4))))) ||| (bO (M 15 (Int32.toNatClampNeg x4))))), (4, .int (x4 + 1))] d_Pages_behind_68 rfl rfl (by decide) rfl ?_
        refine zs_goto 5 d_Pages_behind_71 (by decide) ?_
        exact h
theorem ex_Pages_behind (b w : Int32) (hc : kCnt M) : zEx m_Pages_behind 0 0 [.ref 11, .int b, .int w] (SHP g X) M (qF g X (kBh M b w) M) := by
  refine zEx_of _ (by decide) (by simp [Value.category]) (Nat.le_of_ble_eq_true rfl) rfl (v_Pages_behind_0 g X M b w _ ?_)
  obtain ⟨hc1, hc2⟩ := kCnt_e hc
  have L : ∀ n k, k + n = kCN M → zRT m_Pages_behind 0 0 5 [(0, .ref 11), (1, .int b), (2, .int w), (3, .int (kOr (fun k => if hb b (nI k) = true then (bO (M 13 k) ||| bO (M 14 k)) ||| (if w = 0 then 0 else bO (M 15 k)) else 0) k)), (4, .int (nI k))] [] (SHP g X) M (qF g X (kBh M b w) M) := by
    intro n
    induction n with
    | zero =>
      intro k hk
      have e : k = kCN M := by omega
      subst e
      refine v_Pages_behind_5 g X M b w _ _ _ ⟨fun _ => qF_i rfl rfl, fun h => absurd (by rw [hc1]; exact nI_le (Nat.le_refl _) (by omega)) h⟩
    | succ n ih =>
      intro k hk
      have ih := ih (k + 1) (by omega)
      refine v_Pages_behind_5 g X M b w _ _ _ ⟨fun h => absurd h (by rw [hc1]; exact nI_ge (by omega) (by omega)), fun _ => ⟨fun h => ?_, fun h => ⟨vp_in_nI (by omega) (by decide), fun h2 => ?_, fun h2 => ?_⟩⟩⟩
      · simp only [kOr, h] at ih
        rw [nI_1]
        simpa using ih
      · simp only [kOr, h, h2] at ih ⊢
        rw [nI_1, nI_clamp (by omega), Int32.or_assoc]
        simpa using ih
      · simp only [kOr, h, if_neg h2] at ih ⊢
        rw [nI_1, nI_clamp (by omega), Int32.or_assoc]
        simpa using ih
  exact L (kCN M) 0 (by omega)
theorem v_Town_couple_0 (g : Nat → Option Nat) (X : List zShp) (M : zMem) (x1 : Int32) (R : zEnd) (h : (vp_in x1 6) ∧ (((¬ (M 17 (Int32.toNatClampNeg x1)) = (-6)) → (R (some (.int (((1 : Int32) <<< (x1 &&& 31)) ||| ((1 : Int32) <<< ((M 17 (Int32.toNatClampNeg x1)) &&& 31))))) (SHP g X) M)) ∧ (((M 17 (Int32.toNatClampNeg x1)) = (-6)) → (R (some (.int (((1 : Int32) <<< (x1 &&& 31)) ||| 0))) (SHP g X) M)))) : zRT m_Town_couple 0 0 0 [(0, .ref 10), (1, .int x1)] [] (SHP g X) M R := by
  refine zs_aload_n 0 d_Town_couple_0 rfl (List.mem_of_getElem? (i := 0) rfl) ?_
  refine zs_get d_Town_couple_1 gf_Town_18 (sh_10 g X) rfl ?_
  refine zs_iload_n 1 d_Town_couple_4 rfl (List.mem_of_getElem? (i := 1) rfl) ?_
  obtain ⟨b1, h⟩ := h
  refine zs_iald d_Town_couple_5 (sh_17 g X) b1 ?_
  refine zs_istore_n2 2 [1, 2, 0] [(0, .ref 10), (1, .int x1), (2, .int (M 17 (Int32.toNatClampNeg x1)))] d_Town_couple_6 rfl (by decide) rfl ?_
  refine zs_iconst 1 d_Town_couple_7 (by decide) ?_
  refine zs_iload_n 1 d_Town_couple_8 rfl (List.mem_of_getElem? (i := 1) rfl) ?_
  refine zs_ishl d_Town_couple_9 ?_
  refine zs_iload_n 2 d_Town_couple_10 rfl (List.mem_of_getElem? (i := 2) rfl) ?_
  refine zs_bipush (-6) d_Town_couple_11 (by decide) ?_
  refine zs_icmp_ne 20 d_Town_couple_13 (by decide) (fun c2 => ?_) (fun c2 => ?_)
  · replace h := h.1 c2
    refine zs_iconst 1 d_Town_couple_20 (by decide) ?_
    refine zs_iload_n 2 d_Town_couple_21 rfl (List.mem_of_getElem? (i := 2) rfl) ?_
    refine zs_ishl d_Town_couple_22 ?_
    refine zs_ior d_Town_couple_23 ?_
    exact zs_iret d_Town_couple_24 rfl h
  · replace h := h.2 c2
    refine zs_iconst 0 d_Town_couple_16 (by decide) ?_
    refine zs_goto 23 d_Town_couple_17 (by decide) ?_
    refine zs_ior d_Town_couple_23 ?_
    exact zs_iret d_Town_couple_24 rfl h
theorem ex_Town_couple (m : Int32) (h : vp_in m 6) : zEx m_Town_couple 0 0 [.ref 10, .int m] (SHP g X) M (qF g X (kCpl M m) M) := by
  refine zEx_of _ (by decide) (by simp [Value.category]) (Nat.le_of_ble_eq_true rfl) rfl (v_Town_couple_0 g X M m _ ⟨h, fun h => qF_i ?_ rfl, fun h => qF_i ?_ rfl⟩) <;> simp [kCpl, h]
theorem v_Town_withPartners_0 (g : Nat → Option Nat) (X : List zShp) (M : zMem) (x1 : Int32) (R : zEnd) (h : zRT m_Town_withPartners 0 0 4 [(0, .ref 10), (1, .int x1), (2, .int 0), (3, .int 0)] [] (SHP g X) M R) : zRT m_Town_withPartners 0 0 0 [(0, .ref 10), (1, .int x1)] [] (SHP g X) M R := by
  refine zs_iconst 0 d_Town_withPartners_0 (by decide) ?_
  refine zs_istore_n2 2 [1, 2, 0] [(0, .ref 10), (1, .int x1), (2, .int 0)] d_Town_withPartners_1 rfl (by decide) rfl ?_
  refine zs_iconst 0 d_Town_withPartners_2 (by decide) ?_
  refine zs_istore_n2 3 [1, 2, 3, 0] [(0, .ref 10), (1, .int x1), (2, .int 0), (3, .int 0)] d_Town_withPartners_3 rfl (by decide) rfl ?_
  exact h
theorem v_Town_withPartners_4 (g : Nat → Option Nat) (X : List zShp) (M : zMem) (x1 x2 x3 : Int32) (R : zEnd) (h : ((6 ≤ x3) → (R (some (.int x2)) (SHP g X) M)) ∧ ((¬ 6 ≤ x3) → ((((hb x1 x3) = false) → (zRT m_Town_withPartners 0 0 4 [(0, .ref 10), (1, .int x1), (2, .int x2), (3, .int (x3 + 1))] [] (SHP g X) M R)) ∧ (((hb x1 x3) = true) → ((vp_in x3 6) ∧ (zRT m_Town_withPartners 0 0 4 [(0, .ref 10), (1, .int x1), (2, .int (x2 ||| (kCpl M x3))), (3, .int (x3 + 1))] [] (SHP g X) M R)))))) : zRT m_Town_withPartners 0 0 4 [(0, .ref 10), (1, .int x1), (2, .int x2), (3, .int x3)] [] (SHP g X) M R := by
  refine zs_iload_n 3 d_Town_withPartners_4 rfl (List.mem_of_getElem? (i := 3) rfl) ?_
  refine zs_bipush 6 d_Town_withPartners_5 (by decide) ?_
  refine zs_icmp_ge 32 d_Town_withPartners_7 (by decide) (fun c1 => ?_) (fun c1 => ?_)
  · replace h := h.1 c1
    refine zs_iload_n 2 d_Town_withPartners_32 rfl (List.mem_of_getElem? (i := 2) rfl) ?_
    exact zs_iret d_Town_withPartners_33 rfl h
  · replace h := h.2 c1
    refine zs_iload_n 1 d_Town_withPartners_10 rfl (List.mem_of_getElem? (i := 1) rfl) ?_
    refine zs_iload_n 3 d_Town_withPartners_11 rfl (List.mem_of_getElem? (i := 3) rfl) ?_
    refine zs_callSN (kc := 0) (ks := 0) (kc1 := 0) (ks1 := 0) (st := []) [.int x1, .int x3] d_Town_withPartners_12 lk_Town_54 ⟨by decide, by decide⟩ rfl (Nat.le_of_ble_eq_true rfl) (ex_O_has g X M x1 x3) (fun v2 sh2 M2 hR => ?_)
    obtain ⟨rfl, rfl, rfl⟩ := hR
    refine zs_if_eq 26 d_Town_withPartners_15 (by decide) (fun c3 => ?_) (fun c3 => ?_)
    · replace h := h.1 (bI_0 c3)
      refine zs_iinc2 3 (x3 + 1) [1, 2, 3, 0] [(0, .ref 10), (1, .int x1), (2, .int x2), (3, .int (x3 + 1))] d_Town_withPartners_26 rfl rfl (by decide) rfl ?_
      refine zs_goto 4 d_Town_withPartners_29 (by decide) ?_
      exact h
    · replace h := h.2 (bI_1 c3)
      refine zs_iload_n 2 d_Town_withPartners_18 rfl (List.mem_of_getElem? (i := 2) rfl) ?_
      refine zs_aload_n 0 d_Town_withPartners_19 rfl (List.mem_of_getElem? (i := 0) rfl) ?_
      refine zs_iload_n 3 d_Town_withPartners_20 rfl (List.mem_of_getElem? (i := 3) rfl) ?_
      obtain ⟨p4, h⟩ := h
      refine zs_callV (kc := 0) (ks := 0) (kc1 := 0) (ks1 := 0) (st := [.int x2]) [.int x3] d_Town_withPartners_21 lk_Town_58 ⟨by decide, by decide⟩ rfl (sh_10 g X) rfl (Nat.le_of_ble_eq_true rfl) (ex_Town_couple g X M x3 p4) (fun v4 sh4 M4 hR => ?_)
      obtain ⟨rfl, rfl, rfl⟩ := hR
      refine zs_ior d_Town_withPartners_24 ?_
      refine zs_istore_n2 2 [1, 2, 0, 3] [(0, .ref 10), (1, .int x1), (2, .int (x2 ||| (kCpl M x3))), (3, .int x3)] d_Town_withPartners_25 rfl (by decide) rfl ?_
      refine zs_iinc2 3 (x3 + 1) [1, 2, 3, 0] [(0, .ref 10), (1, .int x1), (2, .int (x2 ||| (kCpl M x3))), (3, .int (x3 + 1))] d_Town_withPartners_26 rfl rfl (by decide) rfl ?_
      refine zs_goto 4 d_Town_withPartners_29 (by decide) ?_
      exact h
theorem ex_Town_withPartners (b : Int32) : zEx m_Town_withPartners 0 0 [.ref 10, .int b] (SHP g X) M (qF g X (kWP M b) M) := by
  refine zEx_of _ (by decide) (by simp [Value.category]) (Nat.le_of_ble_eq_true rfl) rfl (v_Town_withPartners_0 g X M b _ ?_)
  have L : ∀ n k, k + n = 6 → zRT m_Town_withPartners 0 0 4 [(0, .ref 10), (1, .int b), (2, .int (kOr (fun k => if hb b (nI k) = true then kCpl M (nI k) else 0) k)), (3, .int (nI k))] [] (SHP g X) M (qF g X (kWP M b) M) := by
    intro n
    induction n with
    | zero =>
      intro k hk
      have e : k = 6 := by omega
      subst e
      refine v_Town_withPartners_4 g X M b _ _ _ ⟨fun _ => qF_i rfl rfl, fun h => absurd (nI_le (a := 6) (Nat.le_refl _) (by omega)) h⟩
    | succ n ih =>
      intro k hk
      have ih := ih (k + 1) (by omega)
      refine v_Town_withPartners_4 g X M b _ _ _ ⟨fun h => absurd h (nI_ge (b := 6) (by omega) (by omega)), fun _ => ⟨fun h => ?_, fun h => ⟨vp_in_nI (by omega) (by decide), ?_⟩⟩⟩
      · simp only [kOr, h] at ih
        rw [nI_1]
        simpa using ih
      · simp only [kOr, h] at ih
        rw [nI_1]
        simpa using ih
  exact L 6 0 rfl
theorem v_Town_reach_0 (g : Nat → Option Nat) (X : List zShp) (M : zMem) (x1 : Int32) (R : zEnd) (h : zRT m_Town_reach 0 0 9 [(0, .ref 10), (2, .int 0), (3, .int ((1 : Int32) <<< (x1 &&& 31))), (4, .int 0)] [] (SHP g X) M R) : zRT m_Town_reach 0 0 0 [(0, .ref 10), (1, .int x1)] [] (SHP g X) M R := by
  refine zs_iconst 0 d_Town_reach_0 (by decide) ?_
  refine zs_istore_n2 2 [1, 2, 0] [(0, .ref 10), (1, .int x1), (2, .int 0)] d_Town_reach_1 rfl (by decide) rfl ?_
  refine zs_iconst 1 d_Town_reach_2 (by decide) ?_
  refine zs_iload_n 1 d_Town_reach_3 rfl (List.mem_of_getElem? (i := 1) rfl) ?_
  refine zs_ishl d_Town_reach_4 ?_
  refine zs_istore_n2 3 [1, 2, 3, 0] [(0, .ref 10), (1, .int x1), (2, .int 0), (3, .int ((1 : Int32) <<< (x1 &&& 31)))] d_Town_reach_5 rfl (by decide) rfl ?_
  refine zs_iconst 0 d_Town_reach_6 (by decide) ?_
  refine zs_istore2 [1, 2, 3, 4, 0] [(0, .ref 10), (1, .int x1), (2, .int 0), (3, .int ((1 : Int32) <<< (x1 &&& 31))), (4, .int 0)] d_Town_reach_7 (by decide) rfl ?_
  exact zRT_sub [0, 2, 3, 4] rfl h
theorem v_Town_reach_9 (g : Nat → Option Nat) (X : List zShp) (M : zMem) (x2 x3 x4 : Int32) (R : zEnd) (h : (((M 10 6) < x4) → (R (some (.int x2)) (SHP g X) M)) ∧ ((¬ (M 10 6) < x4) → (((x3 = 0) → (R (some (.int x2)) (SHP g X) M)) ∧ ((¬ x3 = 0) → (((¬ (M 10 7) = 1) → ((kCnt M) ∧ (zRT m_Town_reach 0 0 9 [(0, .ref 10), (2, .int (x2 ||| x3)), (3, .int (kBh M x3 0)), (4, .int (x4 + 1))] [] (SHP g X) M R))) ∧ (((M 10 7) = 1) → ((kCnt M) ∧ (zRT m_Town_reach 0 0 9 [(0, .ref 10), (2, .int (x2 ||| x3)), (3, .int (kBh M x3 1)), (4, .int (x4 + 1))] [] (SHP g X) M R)))))))) : zRT m_Town_reach 0 0 9 [(0, .ref 10), (2, .int x2), (3, .int x3), (4, .int x4)] [] (SHP g X) M R := by
  refine zs_iload d_Town_reach_9 (List.mem_of_getElem? (i := 3) rfl) ?_
  refine zs_aload_n 0 d_Town_reach_11 rfl (List.mem_of_getElem? (i := 0) rfl) ?_
  refine zs_get d_Town_reach_12 gf_Town_31 (sh_10 g X) rfl ?_
  refine zs_icmp_gt 54 d_Town_reach_15 (by decide) (fun c1 => ?_) (fun c1 => ?_)
  · replace h := h.1 c1
    refine zs_iload_n 2 d_Town_reach_54 rfl (List.mem_of_getElem? (i := 1) rfl) ?_
    exact zs_iret d_Town_reach_55 rfl h
  · replace h := h.2 c1
    refine zs_iload_n 3 d_Town_reach_18 rfl (List.mem_of_getElem? (i := 2) rfl) ?_
    refine zs_if_eq 54 d_Town_reach_19 (by decide) (fun c2 => ?_) (fun c2 => ?_)
    · replace h := h.1 c2
      refine zs_iload_n 2 d_Town_reach_54 rfl (List.mem_of_getElem? (i := 1) rfl) ?_
      exact zs_iret d_Town_reach_55 rfl h
    · replace h := h.2 c2
      refine zs_iload_n 2 d_Town_reach_22 rfl (List.mem_of_getElem? (i := 1) rfl) ?_
      refine zs_iload_n 3 d_Town_reach_23 rfl (List.mem_of_getElem? (i := 2) rfl) ?_
      refine zs_ior d_Town_reach_24 ?_
      refine zs_istore_n2 2 [1, 0, 2, 3] [(0, .ref 10), (2, .int (x2 ||| x3)), (3, .int x3), (4, .int x4)] d_Town_reach_25 rfl (by decide) rfl ?_
      refine zs_aload_n 0 d_Town_reach_26 rfl (List.mem_of_getElem? (i := 0) rfl) ?_
      refine zs_get d_Town_reach_27 gf_Town_12 (sh_10 g X) rfl ?_
      refine zs_iload_n 3 d_Town_reach_30 rfl (List.mem_of_getElem? (i := 2) rfl) ?_
      refine zs_aload_n 0 d_Town_reach_31 rfl (List.mem_of_getElem? (i := 0) rfl) ?_
      refine zs_get d_Town_reach_32 gf_Town_51 (sh_10 g X) rfl ?_
      refine zs_iconst 1 d_Town_reach_35 (by decide) ?_
      refine zs_icmp_ne 43 d_Town_reach_36 (by decide) (fun c3 => ?_) (fun c3 => ?_)
      · replace h := h.1 c3
        refine zs_iconst 0 d_Town_reach_43 (by decide) ?_
        obtain ⟨p4, h⟩ := h
        refine zs_callV (kc := 0) (ks := 0) (kc1 := 0) (ks1 := 0) (st := []) [.int x3, .int 0] d_Town_reach_44 lk_Town_62 ⟨by decide, by decide⟩ rfl (sh_11 g X) rfl (Nat.le_of_ble_eq_true rfl) (ex_Pages_behind g X M x3 0 p4) (fun v4 sh4 M4 hR => ?_)
        obtain ⟨rfl, rfl, rfl⟩ := hR
        refine zs_istore_n2 3 [1, 2, 0, 3] [(0, .ref 10), (2, .int (x2 ||| x3)), (3, .int (kBh M x3 0)), (4, .int x4)] d_Town_reach_47 rfl (by decide) rfl ?_
        refine zs_iinc2 3 (x4 + 1) [1, 2, 3, 0] [(0, .ref 10), (2, .int (x2 ||| x3)), (3, .int (kBh M x3 0)), (4, .int (x4 + 1))] d_Town_reach_48 rfl rfl (by decide) rfl ?_
        refine zs_goto 9 d_Town_reach_51 (by decide) ?_
        exact h
      · replace h := h.2 c3
        refine zs_iconst 1 d_Town_reach_39 (by decide) ?_
        refine zs_goto 44 d_Town_reach_40 (by decide) ?_
        obtain ⟨p5, h⟩ := h
        refine zs_callV (kc := 0) (ks := 0) (kc1 := 0) (ks1 := 0) (st := []) [.int x3, .int 1] d_Town_reach_44 lk_Town_62 ⟨by decide, by decide⟩ rfl (sh_11 g X) rfl (Nat.le_of_ble_eq_true rfl) (ex_Pages_behind g X M x3 1 p5) (fun v5 sh5 M5 hR => ?_)
        obtain ⟨rfl, rfl, rfl⟩ := hR
        refine zs_istore_n2 3 [1, 2, 0, 3] [(0, .ref 10), (2, .int (x2 ||| x3)), (3, .int (kBh M x3 1)), (4, .int x4)] d_Town_reach_47 rfl (by decide) rfl ?_
        refine zs_iinc2 3 (x4 + 1) [1, 2, 3, 0] [(0, .ref 10), (2, .int (x2 ||| x3)), (3, .int (kBh M x3 1)), (4, .int (x4 + 1))] d_Town_reach_48 rfl rfl (by decide) rfl ?_
        refine zs_goto 9 d_Town_reach_51 (by decide) ?_
        exact h
theorem ex_Town_reach (t : Int32) (hh : kCnt M ∧ kDpt M) : zEx m_Town_reach 0 0 [.ref 10, .int t] (SHP g X) M (qF g X (kRch M t) M) := by
  refine zEx_of _ (by decide) (by simp [Value.category]) (Nat.le_of_ble_eq_true rfl) rfl (v_Town_reach_0 g X M t _ ?_)
  obtain ⟨hd1, hd2⟩ := kDpt_e hh.2
  have L : ∀ n k all layer, k + n = kDN M + 1 → zRT m_Town_reach 0 0 9 [(0, .ref 10), (2, .int all), (3, .int layer), (4, .int (nI k))] [] (SHP g X) M (qF g X (kRcn M n all layer) M) := by
    intro n
    induction n with
    | zero =>
      intro k all layer hk
      refine v_Town_reach_9 g X M all layer _ _ ⟨fun _ => qF_i rfl rfl, fun h => absurd (by rw [hd1]; exact nI_lt (by omega) (by omega)) h⟩
    | succ n ih =>
      intro k all layer hk
      refine v_Town_reach_9 g X M all layer _ _ ⟨fun h => absurd h (by rw [hd1]; exact nI_nlt (by omega) (by omega)), fun _ => ⟨fun h => qF_i (by simp [kRcn, h]) rfl, fun h => ⟨fun h2 => ⟨hh.1, ?_⟩, fun h2 => ⟨hh.1, ?_⟩⟩⟩⟩
      · rw [nI_1]
        have := ih (k + 1) (all ||| layer) (kBh M layer 0) (by omega)
        simpa only [kRcn, if_neg h, kTl, if_neg h2] using this
      · rw [nI_1]
        have := ih (k + 1) (all ||| layer) (kBh M layer 1) (by omega)
        simpa only [kRcn, if_neg h, kTl, if_pos h2] using this
  exact L _ 0 _ _ (by omega)
theorem v_Town_touchers_0 (g : Nat → Option Nat) (X : List zShp) (M : zMem) (x1 : Int32) (R : zEnd) (h : (kCnt M ∧ kDpt M) ∧ ((kCnt M) ∧ (R (some (.int (kHO M (kRch M x1)))) (SHP g X) M))) : zRT m_Town_touchers 0 0 0 [(0, .ref 10), (1, .int x1)] [] (SHP g X) M R := by
  refine zs_aload_n 0 d_Town_touchers_0 rfl (List.mem_of_getElem? (i := 0) rfl) ?_
  refine zs_get d_Town_touchers_1 gf_Town_12 (sh_10 g X) rfl ?_
  refine zs_aload_n 0 d_Town_touchers_4 rfl (List.mem_of_getElem? (i := 0) rfl) ?_
  refine zs_iload_n 1 d_Town_touchers_5 rfl (List.mem_of_getElem? (i := 1) rfl) ?_
  obtain ⟨p1, h⟩ := h
  refine zs_callV (kc := 0) (ks := 0) (kc1 := 0) (ks1 := 0) (st := [.ref 11]) [.int x1] d_Town_touchers_6 lk_Town_66 ⟨by decide, by decide⟩ rfl (sh_10 g X) rfl (Nat.le_of_ble_eq_true rfl) (ex_Town_reach g X M x1 p1) (fun v1 sh1 M1 hR => ?_)
  obtain ⟨rfl, rfl, rfl⟩ := hR
  obtain ⟨p2, h⟩ := h
  refine zs_callV (kc := 0) (ks := 0) (kc1 := 0) (ks1 := 0) (st := []) [.int (kRch M x1)] d_Town_touchers_9 lk_Town_69 ⟨by decide, by decide⟩ rfl (sh_11 g X) rfl (Nat.le_of_ble_eq_true rfl) (ex_Pages_handsOf g X M (kRch M x1) p2) (fun v2 sh2 M2 hR => ?_)
  obtain ⟨rfl, rfl, rfl⟩ := hR
  exact zs_iret d_Town_touchers_12 rfl h
theorem ex_Town_touchers (t : Int32) (hh : kCnt M ∧ kDpt M) : zEx m_Town_touchers 0 0 [.ref 10, .int t] (SHP g X) M (qF g X (kTch M t) M) :=
  zEx_of _ (by decide) (by simp [Value.category]) (Nat.le_of_ble_eq_true rfl) rfl (v_Town_touchers_0 g X M t _ ⟨hh, hh.1, qF_i rfl rfl⟩)
theorem v_Town_barredMen_0 (g : Nat → Option Nat) (X : List zShp) (M : zMem) (x1 : Int32) (R : zEnd) (h : (kCnt M ∧ kDpt M) ∧ (R (some (.int (kWP M (kTch M x1)))) (SHP g X) M)) : zRT m_Town_barredMen 0 0 0 [(0, .ref 10), (1, .int x1)] [] (SHP g X) M R := by
  refine zs_aload_n 0 d_Town_barredMen_0 rfl (List.mem_of_getElem? (i := 0) rfl) ?_
  refine zs_aload_n 0 d_Town_barredMen_1 rfl (List.mem_of_getElem? (i := 0) rfl) ?_
  refine zs_iload_n 1 d_Town_barredMen_2 rfl (List.mem_of_getElem? (i := 1) rfl) ?_
  obtain ⟨p1, h⟩ := h
  refine zs_callV (kc := 0) (ks := 0) (kc1 := 0) (ks1 := 0) (st := [.ref 10]) [.int x1] d_Town_barredMen_3 lk_Town_72 ⟨by decide, by decide⟩ rfl (sh_10 g X) rfl (Nat.le_of_ble_eq_true rfl) (ex_Town_touchers g X M x1 p1) (fun v1 sh1 M1 hR => ?_)
  obtain ⟨rfl, rfl, rfl⟩ := hR
  refine zs_callV (kc := 0) (ks := 0) (kc1 := 0) (ks1 := 0) (st := []) [.int (kTch M x1)] d_Town_barredMen_6 lk_Town_75 ⟨by decide, by decide⟩ rfl (sh_10 g X) rfl (Nat.le_of_ble_eq_true rfl) (ex_Town_withPartners g X M (kTch M x1)) (fun v2 sh2 M2 hR => ?_)
  obtain ⟨rfl, rfl, rfl⟩ := hR
  exact zs_iret d_Town_barredMen_9 rfl h
theorem ex_Town_barredMen (t : Int32) (hh : kCnt M ∧ kDpt M) : zEx m_Town_barredMen 0 0 [.ref 10, .int t] (SHP g X) M (qF g X (kWP M (kTch M t)) M) :=
  zEx_of _ (by decide) (by simp [Value.category]) (Nat.le_of_ble_eq_true rfl) rfl (v_Town_barredMen_0 g X M t _ ⟨hh, qF_i rfl rfl⟩)
theorem v_Town_lawfulThings_0 (g : Nat → Option Nat) (X : List zShp) (M : zMem) (x1 : Int32) (R : zEnd) (h : zRT m_Town_lawfulThings 0 0 4 [(0, .ref 10), (1, .int x1), (2, .int 0), (3, .int 0)] [] (SHP g X) M R) : zRT m_Town_lawfulThings 0 0 0 [(0, .ref 10), (1, .int x1)] [] (SHP g X) M R := by
  refine zs_iconst 0 d_Town_lawfulThings_0 (by decide) ?_
  refine zs_istore_n2 2 [1, 2, 0] [(0, .ref 10), (1, .int x1), (2, .int 0)] d_Town_lawfulThings_1 rfl (by decide) rfl ?_
  refine zs_iconst 0 d_Town_lawfulThings_2 (by decide) ?_
  refine zs_istore_n2 3 [1, 2, 3, 0] [(0, .ref 10), (1, .int x1), (2, .int 0), (3, .int 0)] d_Town_lawfulThings_3 rfl (by decide) rfl ?_
  exact h
theorem v_Town_lawfulThings_4 (g : Nat → Option Nat) (X : List zShp) (M : zMem) (x1 x2 x3 : Int32) (R : zEnd) (h : (((M 11 5) ≤ x3) → (R (some (.int x2)) (SHP g X) M)) ∧ ((¬ (M 11 5) ≤ x3) → ((kCnt M ∧ kDpt M) ∧ ((vp_in x1 6) ∧ (((¬ ((kTch M x3) &&& (kCpl M x1)) = 0) → (zRT m_Town_lawfulThings 0 0 4 [(0, .ref 10), (1, .int x1), (2, .int x2), (3, .int (x3 + 1))] [] (SHP g X) M R)) ∧ ((((kTch M x3) &&& (kCpl M x1)) = 0) → (zRT m_Town_lawfulThings 0 0 4 [(0, .ref 10), (1, .int x1), (2, .int (x2 ||| ((1 : Int32) <<< (x3 &&& 31)))), (3, .int (x3 + 1))] [] (SHP g X) M R))))))) : zRT m_Town_lawfulThings 0 0 4 [(0, .ref 10), (1, .int x1), (2, .int x2), (3, .int x3)] [] (SHP g X) M R := by
  refine zs_iload_n 3 d_Town_lawfulThings_4 rfl (List.mem_of_getElem? (i := 3) rfl) ?_
  refine zs_aload_n 0 d_Town_lawfulThings_5 rfl (List.mem_of_getElem? (i := 0) rfl) ?_
  refine zs_get d_Town_lawfulThings_6 gf_Town_12 (sh_10 g X) rfl ?_
  refine zs_get d_Town_lawfulThings_9 gf_Town_78 (sh_11 g X) rfl ?_
  refine zs_icmp_ge 41 d_Town_lawfulThings_12 (by decide) (fun c1 => ?_) (fun c1 => ?_)
  · replace h := h.1 c1
    refine zs_iload_n 2 d_Town_lawfulThings_41 rfl (List.mem_of_getElem? (i := 2) rfl) ?_
    exact zs_iret d_Town_lawfulThings_42 rfl h
  · replace h := h.2 c1
    refine zs_aload_n 0 d_Town_lawfulThings_15 rfl (List.mem_of_getElem? (i := 0) rfl) ?_
    refine zs_iload_n 3 d_Town_lawfulThings_16 rfl (List.mem_of_getElem? (i := 3) rfl) ?_
    obtain ⟨p2, h⟩ := h
    refine zs_callV (kc := 0) (ks := 0) (kc1 := 0) (ks1 := 0) (st := []) [.int x3] d_Town_lawfulThings_17 lk_Town_72 ⟨by decide, by decide⟩ rfl (sh_10 g X) rfl (Nat.le_of_ble_eq_true rfl) (ex_Town_touchers g X M x3 p2) (fun v2 sh2 M2 hR => ?_)
    obtain ⟨rfl, rfl, rfl⟩ := hR
    refine zs_aload_n 0 d_Town_lawfulThings_20 rfl (List.mem_of_getElem? (i := 0) rfl) ?_
    refine zs_iload_n 1 d_Town_lawfulThings_21 rfl (List.mem_of_getElem? (i := 1) rfl) ?_
    obtain ⟨p3, h⟩ := h
    refine zs_callV (kc := 0) (ks := 0) (kc1 := 0) (ks1 := 0) (st := [.int (kTch M x3)]) [.int x1] d_Town_lawfulThings_22 lk_Town_58 ⟨by decide, by decide⟩ rfl (sh_10 g X) rfl (Nat.le_of_ble_eq_true rfl) (ex_Town_couple g X M x1 p3) (fun v3 sh3 M3 hR => ?_)
    obtain ⟨rfl, rfl, rfl⟩ := hR
    refine zs_iand d_Town_lawfulThings_25 ?_
    refine zs_if_ne 35 d_Town_lawfulThings_26 (by decide) (fun c4 => ?_) (fun c4 => ?_)
    · replace h := h.1 c4
      refine zs_iinc2 3 (x3 + 1) [1, 2, 3, 0] [(0, .ref 10), (1, .int x1), (2, .int x2), (3, .int (x3 + 1))] d_Town_lawfulThings_35 rfl rfl (by decide) rfl ?_
      refine zs_goto 4 d_Town_lawfulThings_38 (by decide) ?_
      exact h
    · replace h := h.2 c4
      refine zs_iload_n 2 d_Town_lawfulThings_29 rfl (List.mem_of_getElem? (i := 2) rfl) ?_
      refine zs_iconst 1 d_Town_lawfulThings_30 (by decide) ?_
      refine zs_iload_n 3 d_Town_lawfulThings_31 rfl (List.mem_of_getElem? (i := 3) rfl) ?_
      refine zs_ishl d_Town_lawfulThings_32 ?_
      refine zs_ior d_Town_lawfulThings_33 ?_
      refine zs_istore_n2 2 [1, 2, 0, 3] [(0, .ref 10), (1, .int x1), (2, .int (x2 ||| ((1 : Int32) <<< (x3 &&& 31)))), (3, .int x3)] d_Town_lawfulThings_34 rfl (by decide) rfl ?_
      refine zs_iinc2 3 (x3 + 1) [1, 2, 3, 0] [(0, .ref 10), (1, .int x1), (2, .int (x2 ||| ((1 : Int32) <<< (x3 &&& 31)))), (3, .int (x3 + 1))] d_Town_lawfulThings_35 rfl rfl (by decide) rfl ?_
      refine zs_goto 4 d_Town_lawfulThings_38 (by decide) ?_
      exact h
theorem ex_Town_lawfulThings (m : Int32) (hh : kCnt M ∧ kDpt M ∧ vp_in m 6) : zEx m_Town_lawfulThings 0 0 [.ref 10, .int m] (SHP g X) M (qF g X (kLwf M m) M) := by
  refine zEx_of _ (by decide) (by simp [Value.category]) (Nat.le_of_ble_eq_true rfl) rfl (v_Town_lawfulThings_0 g X M m _ ?_)
  obtain ⟨hc1, hc2⟩ := kCnt_e hh.1
  have L : ∀ n k, k + n = kCN M → zRT m_Town_lawfulThings 0 0 4 [(0, .ref 10), (1, .int m), (2, .int (kOr (fun k => if kTch M (nI k) &&& kCpl M m = 0 then 1 <<< (nI k &&& 31) else 0) k)), (3, .int (nI k))] [] (SHP g X) M (qF g X (kLwf M m) M) := by
    intro n
    induction n with
    | zero =>
      intro k hk
      have e : k = kCN M := by omega
      subst e
      refine v_Town_lawfulThings_4 g X M m _ _ _ ⟨fun _ => qF_i rfl rfl, fun h => absurd (by rw [hc1]; exact nI_le (Nat.le_refl _) (by omega)) h⟩
    | succ n ih =>
      intro k hk
      have ih := ih (k + 1) (by omega)
      refine v_Town_lawfulThings_4 g X M m _ _ _ ⟨fun h => absurd h (by rw [hc1]; exact nI_ge (by omega) (by omega)), fun _ => ⟨⟨hh.1, hh.2.1⟩, hh.2.2, fun h => ?_, fun h => ?_⟩⟩
      · simp only [kOr, if_neg h] at ih
        rw [nI_1]
        simpa using ih
      · simp only [kOr, if_pos h] at ih
        rw [nI_1]
        simpa using ih
  exact L (kCN M) 0 (by omega)
theorem v_Town_taintOf_0 (g : Nat → Option Nat) (X : List zShp) (M : zMem) (x1 : Int32) (R : zEnd) (h : zRT m_Town_taintOf 0 0 4 [(0, .ref 10), (1, .int x1), (2, .int 0), (3, .int 0)] [] (SHP g X) M R) : zRT m_Town_taintOf 0 0 0 [(0, .ref 10), (1, .int x1)] [] (SHP g X) M R := by
  refine zs_iconst 0 d_Town_taintOf_0 (by decide) ?_
  refine zs_istore_n2 2 [1, 2, 0] [(0, .ref 10), (1, .int x1), (2, .int 0)] d_Town_taintOf_1 rfl (by decide) rfl ?_
  refine zs_iconst 0 d_Town_taintOf_2 (by decide) ?_
  refine zs_istore_n2 3 [1, 2, 3, 0] [(0, .ref 10), (1, .int x1), (2, .int 0), (3, .int 0)] d_Town_taintOf_3 rfl (by decide) rfl ?_
  exact h
theorem v_Town_taintOf_4 (g : Nat → Option Nat) (X : List zShp) (M : zMem) (x1 x2 x3 : Int32) (R : zEnd) (h : (((M 11 5) ≤ x3) → (R (some (.int x2)) (SHP g X) M)) ∧ ((¬ (M 11 5) ≤ x3) → ((kCnt M ∧ kDpt M) ∧ ((((hb (kTch M x3) x1) = false) → (zRT m_Town_taintOf 0 0 4 [(0, .ref 10), (1, .int x1), (2, .int x2), (3, .int (x3 + 1))] [] (SHP g X) M R)) ∧ (((hb (kTch M x3) x1) = true) → (zRT m_Town_taintOf 0 0 4 [(0, .ref 10), (1, .int x1), (2, .int (x2 ||| ((1 : Int32) <<< (x3 &&& 31)))), (3, .int (x3 + 1))] [] (SHP g X) M R)))))) : zRT m_Town_taintOf 0 0 4 [(0, .ref 10), (1, .int x1), (2, .int x2), (3, .int x3)] [] (SHP g X) M R := by
  refine zs_iload_n 3 d_Town_taintOf_4 rfl (List.mem_of_getElem? (i := 3) rfl) ?_
  refine zs_aload_n 0 d_Town_taintOf_5 rfl (List.mem_of_getElem? (i := 0) rfl) ?_
  refine zs_get d_Town_taintOf_6 gf_Town_12 (sh_10 g X) rfl ?_
  refine zs_get d_Town_taintOf_9 gf_Town_78 (sh_11 g X) rfl ?_
  refine zs_icmp_ge 39 d_Town_taintOf_12 (by decide) (fun c1 => ?_) (fun c1 => ?_)
  · replace h := h.1 c1
    refine zs_iload_n 2 d_Town_taintOf_39 rfl (List.mem_of_getElem? (i := 2) rfl) ?_
    exact zs_iret d_Town_taintOf_40 rfl h
  · replace h := h.2 c1
    refine zs_aload_n 0 d_Town_taintOf_15 rfl (List.mem_of_getElem? (i := 0) rfl) ?_
    refine zs_iload_n 3 d_Town_taintOf_16 rfl (List.mem_of_getElem? (i := 3) rfl) ?_
    obtain ⟨p2, h⟩ := h
    refine zs_callV (kc := 0) (ks := 0) (kc1 := 0) (ks1 := 0) (st := []) [.int x3] d_Town_taintOf_17 lk_Town_72 ⟨by decide, by decide⟩ rfl (sh_10 g X) rfl (Nat.le_of_ble_eq_true rfl) (ex_Town_touchers g X M x3 p2) (fun v2 sh2 M2 hR => ?_)
    obtain ⟨rfl, rfl, rfl⟩ := hR
    refine zs_iload_n 1 d_Town_taintOf_20 rfl (List.mem_of_getElem? (i := 1) rfl) ?_
    refine zs_callSN (kc := 0) (ks := 0) (kc1 := 0) (ks1 := 0) (st := []) [.int (kTch M x3), .int x1] d_Town_taintOf_21 lk_Town_54 ⟨by decide, by decide⟩ rfl (Nat.le_of_ble_eq_true rfl) (ex_O_has g X M (kTch M x3) x1) (fun v3 sh3 M3 hR => ?_)
    obtain ⟨rfl, rfl, rfl⟩ := hR
    refine zs_if_eq 33 d_Town_taintOf_24 (by decide) (fun c4 => ?_) (fun c4 => ?_)
    · replace h := h.1 (bI_0 c4)
      refine zs_iinc2 3 (x3 + 1) [1, 2, 3, 0] [(0, .ref 10), (1, .int x1), (2, .int x2), (3, .int (x3 + 1))] d_Town_taintOf_33 rfl rfl (by decide) rfl ?_
      refine zs_goto 4 d_Town_taintOf_36 (by decide) ?_
      exact h
    · replace h := h.2 (bI_1 c4)
      refine zs_iload_n 2 d_Town_taintOf_27 rfl (List.mem_of_getElem? (i := 2) rfl) ?_
      refine zs_iconst 1 d_Town_taintOf_28 (by decide) ?_
      refine zs_iload_n 3 d_Town_taintOf_29 rfl (List.mem_of_getElem? (i := 3) rfl) ?_
      refine zs_ishl d_Town_taintOf_30 ?_
      refine zs_ior d_Town_taintOf_31 ?_
      refine zs_istore_n2 2 [1, 2, 0, 3] [(0, .ref 10), (1, .int x1), (2, .int (x2 ||| ((1 : Int32) <<< (x3 &&& 31)))), (3, .int x3)] d_Town_taintOf_32 rfl (by decide) rfl ?_
      refine zs_iinc2 3 (x3 + 1) [1, 2, 3, 0] [(0, .ref 10), (1, .int x1), (2, .int (x2 ||| ((1 : Int32) <<< (x3 &&& 31)))), (3, .int (x3 + 1))] d_Town_taintOf_33 rfl rfl (by decide) rfl ?_
      refine zs_goto 4 d_Town_taintOf_36 (by decide) ?_
      exact h
theorem ex_Town_taintOf (m : Int32) (hh : kCnt M ∧ kDpt M) : zEx m_Town_taintOf 0 0 [.ref 10, .int m] (SHP g X) M (qF g X (kTnt M m) M) := by
  refine zEx_of _ (by decide) (by simp [Value.category]) (Nat.le_of_ble_eq_true rfl) rfl (v_Town_taintOf_0 g X M m _ ?_)
  obtain ⟨hc1, hc2⟩ := kCnt_e hh.1
  have L : ∀ n k, k + n = kCN M → zRT m_Town_taintOf 0 0 4 [(0, .ref 10), (1, .int m), (2, .int (kOr (fun k => if hb (kTch M (nI k)) m = true then 1 <<< (nI k &&& 31) else 0) k)), (3, .int (nI k))] [] (SHP g X) M (qF g X (kTnt M m) M) := by
    intro n
    induction n with
    | zero =>
      intro k hk
      have e : k = kCN M := by omega
      subst e
      refine v_Town_taintOf_4 g X M m _ _ _ ⟨fun _ => qF_i rfl rfl, fun h => absurd (by rw [hc1]; exact nI_le (Nat.le_refl _) (by omega)) h⟩
    | succ n ih =>
      intro k hk
      have ih := ih (k + 1) (by omega)
      refine v_Town_taintOf_4 g X M m _ _ _ ⟨fun h => absurd h (by rw [hc1]; exact nI_ge (by omega) (by omega)), fun _ => ⟨hh, fun h => ?_, fun h => ?_⟩⟩
      · simp only [kOr, h] at ih
        rw [nI_1]
        simpa using ih
      · simp only [kOr, h] at ih
        rw [nI_1]
        simpa using ih
  exact L (kCN M) 0 (by omega)
theorem v_Town_fewestSteps_0 (g : Nat → Option Nat) (X : List zShp) (M : zMem) (x1 x2 : Int32) (R : zEnd) (h : zRT m_Town_fewestSteps 0 0 7 [(0, .ref 10), (2, .int x2), (3, .int ((1 : Int32) <<< (x1 &&& 31))), (4, .int 0)] [] (SHP g X) M R) : zRT m_Town_fewestSteps 0 0 0 [(0, .ref 10), (1, .int x1), (2, .int x2)] [] (SHP g X) M R := by
  refine zs_iconst 1 d_Town_fewestSteps_0 (by decide) ?_
  refine zs_iload_n 1 d_Town_fewestSteps_1 rfl (List.mem_of_getElem? (i := 1) rfl) ?_
  refine zs_ishl d_Town_fewestSteps_2 ?_
  refine zs_istore_n2 3 [1, 2, 3, 0] [(0, .ref 10), (1, .int x1), (2, .int x2), (3, .int ((1 : Int32) <<< (x1 &&& 31)))] d_Town_fewestSteps_3 rfl (by decide) rfl ?_
  refine zs_iconst 0 d_Town_fewestSteps_4 (by decide) ?_
  refine zs_istore2 [1, 2, 3, 4, 0] [(0, .ref 10), (1, .int x1), (2, .int x2), (3, .int ((1 : Int32) <<< (x1 &&& 31))), (4, .int 0)] d_Town_fewestSteps_5 (by decide) rfl ?_
  exact zRT_sub [0, 2, 3, 4] rfl h
theorem v_Town_fewestSteps_7 (g : Nat → Option Nat) (X : List zShp) (M : zMem) (x2 x3 x4 : Int32) (R : zEnd) (h : ((10 ≤ x4) → (R (some (.int (-6))) (SHP g X) M)) ∧ ((¬ 10 ≤ x4) → (((x3 = 0) → (R (some (.int (-6))) (SHP g X) M)) ∧ ((¬ x3 = 0) → ((kCnt M) ∧ (((((kHO M x3) &&& x2) = 0) → (((¬ (M 10 7) = 1) → ((kCnt M) ∧ (zRT m_Town_fewestSteps 0 0 7 [(0, .ref 10), (2, .int x2), (3, .int (kBh M x3 0)), (4, .int (x4 + 1))] [] (SHP g X) M R))) ∧ (((M 10 7) = 1) → ((kCnt M) ∧ (zRT m_Town_fewestSteps 0 0 7 [(0, .ref 10), (2, .int x2), (3, .int (kBh M x3 1)), (4, .int (x4 + 1))] [] (SHP g X) M R))))) ∧ ((¬ ((kHO M x3) &&& x2) = 0) → (R (some (.int x4)) (SHP g X) M)))))))) : zRT m_Town_fewestSteps 0 0 7 [(0, .ref 10), (2, .int x2), (3, .int x3), (4, .int x4)] [] (SHP g X) M R := by
  refine zs_iload d_Town_fewestSteps_7 (List.mem_of_getElem? (i := 3) rfl) ?_
  refine zs_bipush 10 d_Town_fewestSteps_9 (by decide) ?_
  refine zs_icmp_ge 62 d_Town_fewestSteps_11 (by decide) (fun c1 => ?_) (fun c1 => ?_)
  · replace h := h.1 c1
    refine zs_bipush (-6) d_Town_fewestSteps_62 (by decide) ?_
    exact zs_iret d_Town_fewestSteps_64 rfl h
  · replace h := h.2 c1
    refine zs_iload_n 3 d_Town_fewestSteps_14 rfl (List.mem_of_getElem? (i := 2) rfl) ?_
    refine zs_if_eq 62 d_Town_fewestSteps_15 (by decide) (fun c2 => ?_) (fun c2 => ?_)
    · replace h := h.1 c2
      refine zs_bipush (-6) d_Town_fewestSteps_62 (by decide) ?_
      exact zs_iret d_Town_fewestSteps_64 rfl h
    · replace h := h.2 c2
      refine zs_aload_n 0 d_Town_fewestSteps_18 rfl (List.mem_of_getElem? (i := 0) rfl) ?_
      refine zs_get d_Town_fewestSteps_19 gf_Town_12 (sh_10 g X) rfl ?_
      refine zs_iload_n 3 d_Town_fewestSteps_22 rfl (List.mem_of_getElem? (i := 2) rfl) ?_
      obtain ⟨p3, h⟩ := h
      refine zs_callV (kc := 0) (ks := 0) (kc1 := 0) (ks1 := 0) (st := []) [.int x3] d_Town_fewestSteps_23 lk_Town_69 ⟨by decide, by decide⟩ rfl (sh_11 g X) rfl (Nat.le_of_ble_eq_true rfl) (ex_Pages_handsOf g X M x3 p3) (fun v3 sh3 M3 hR => ?_)
      obtain ⟨rfl, rfl, rfl⟩ := hR
      refine zs_iload_n 2 d_Town_fewestSteps_26 rfl (List.mem_of_getElem? (i := 1) rfl) ?_
      refine zs_iand d_Town_fewestSteps_27 ?_
      refine zs_if_eq 34 d_Town_fewestSteps_28 (by decide) (fun c4 => ?_) (fun c4 => ?_)
      · replace h := h.1 c4
        refine zs_aload_n 0 d_Town_fewestSteps_34 rfl (List.mem_of_getElem? (i := 0) rfl) ?_
        refine zs_get d_Town_fewestSteps_35 gf_Town_12 (sh_10 g X) rfl ?_
        refine zs_iload_n 3 d_Town_fewestSteps_38 rfl (List.mem_of_getElem? (i := 2) rfl) ?_
        refine zs_aload_n 0 d_Town_fewestSteps_39 rfl (List.mem_of_getElem? (i := 0) rfl) ?_
        refine zs_get d_Town_fewestSteps_40 gf_Town_51 (sh_10 g X) rfl ?_
        refine zs_iconst 1 d_Town_fewestSteps_43 (by decide) ?_
        refine zs_icmp_ne 51 d_Town_fewestSteps_44 (by decide) (fun c5 => ?_) (fun c5 => ?_)
        · replace h := h.1 c5
          refine zs_iconst 0 d_Town_fewestSteps_51 (by decide) ?_
          obtain ⟨p6, h⟩ := h
          refine zs_callV (kc := 0) (ks := 0) (kc1 := 0) (ks1 := 0) (st := []) [.int x3, .int 0] d_Town_fewestSteps_52 lk_Town_62 ⟨by decide, by decide⟩ rfl (sh_11 g X) rfl (Nat.le_of_ble_eq_true rfl) (ex_Pages_behind g X M x3 0 p6) (fun v6 sh6 M6 hR => ?_)
          obtain ⟨rfl, rfl, rfl⟩ := hR
          refine zs_istore_n2 3 [1, 2, 0, 3] [(0, .ref 10), (2, .int x2), (3, .int (kBh M x3 0)), (4, .int x4)] d_Town_fewestSteps_55 rfl (by decide) rfl ?_
          refine zs_iinc2 3 (x4 + 1) [1, 2, 3, 0] [(0, .ref 10), (2, .int x2), (3, .int (kBh M x3 0)), (4, .int (x4 + 1))] d_Town_fewestSteps_56 rfl rfl (by decide) rfl ?_
          refine zs_goto 7 d_Town_fewestSteps_59 (by decide) ?_
          exact h
        · replace h := h.2 c5
          refine zs_iconst 1 d_Town_fewestSteps_47 (by decide) ?_
          refine zs_goto 52 d_Town_fewestSteps_48 (by decide) ?_
          obtain ⟨p7, h⟩ := h
          refine zs_callV (kc := 0) (ks := 0) (kc1 := 0) (ks1 := 0) (st := []) [.int x3, .int 1] d_Town_fewestSteps_52 lk_Town_62 ⟨by decide, by decide⟩ rfl (sh_11 g X) rfl (Nat.le_of_ble_eq_true rfl) (ex_Pages_behind g X M x3 1 p7) (fun v7 sh7 M7 hR => ?_)
          obtain ⟨rfl, rfl, rfl⟩ := hR
          refine zs_istore_n2 3 [1, 2, 0, 3] [(0, .ref 10), (2, .int x2), (3, .int (kBh M x3 1)), (4, .int x4)] d_Town_fewestSteps_55 rfl (by decide) rfl ?_
          refine zs_iinc2 3 (x4 + 1) [1, 2, 3, 0] [(0, .ref 10), (2, .int x2), (3, .int (kBh M x3 1)), (4, .int (x4 + 1))] d_Town_fewestSteps_56 rfl rfl (by decide) rfl ?_
          refine zs_goto 7 d_Town_fewestSteps_59 (by decide) ?_
          exact h
      · replace h := h.2 c4
        refine zs_iload d_Town_fewestSteps_31 (List.mem_of_getElem? (i := 3) rfl) ?_
        exact zs_iret d_Town_fewestSteps_33 rfl h
theorem ex_Town_fewestSteps (t men : Int32) (hh : kCnt M) : zEx m_Town_fewestSteps 0 0 [.ref 10, .int t, .int men] (SHP g X) M (qF g X (kFst M t men) M) := by
  refine zEx_of _ (by decide) (by simp [Value.category]) (Nat.le_of_ble_eq_true rfl) rfl (v_Town_fewestSteps_0 g X M t men _ ?_)
  have L : ∀ n k layer, k + n = 10 → zRT m_Town_fewestSteps 0 0 7 [(0, .ref 10), (2, .int men), (3, .int layer), (4, .int (nI k))] [] (SHP g X) M (qF g X (kFsn M men n k layer) M) := by
    intro n
    induction n with
    | zero =>
      intro k layer hk
      refine v_Town_fewestSteps_7 g X M men layer _ _ ⟨fun _ => qF_i rfl rfl, fun h => absurd (nI_le (a := 10) (by omega) (by omega)) h⟩
    | succ n ih =>
      intro k layer hk
      refine v_Town_fewestSteps_7 g X M men layer _ _ ⟨fun h => absurd h (nI_ge (b := 10) (by omega) (by decide)), fun _ => ⟨fun h => qF_i (by simp [kFsn, h]) rfl, fun h => ⟨hh, fun h3 => ⟨fun h2 => ⟨hh, ?_⟩, fun h2 => ⟨hh, ?_⟩⟩, fun h3 => qF_i (by simp [kFsn, h, h3]) rfl⟩⟩⟩
      · rw [nI_1]
        have := ih (k + 1) (kBh M layer 0) (by omega)
        simpa only [kFsn, if_neg h, if_pos h3, kTl, if_neg h2] using this
      · rw [nI_1]
        have := ih (k + 1) (kBh M layer 1) (by omega)
        simpa only [kFsn, if_neg h, if_pos h3, kTl, if_pos h2] using this
  exact L 10 0 _ rfl
end zC1
