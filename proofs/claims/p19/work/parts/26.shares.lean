/-! what stays, and Shares -/
def kAg (l : List Nat) (M M1 : zMem) : Prop := ∀ p, p ∉ l → M1 p = M p
theorem kAg.rf {l : List Nat} {M : zMem} : kAg l M M := fun _ _ => rfl
theorem kAg.tr {l : List Nat} {M M1 M2 : zMem} (h1 : kAg l M M1) (h2 : kAg l M1 M2) : kAg l M M2 := fun p hp => (h2 p hp).trans (h1 p hp)
theorem kAg.st {l : List Nat} {M M1 : zMem} {p i : Nat} {v : Int32} (h : kAg l M M1) (hp : p ∈ l) : kAg l M (zms M1 p i v) := fun q hq => (zms_ne M1 p i v q (fun e => hq (e ▸ hp))).trans (h q hq)
theorem kAg.sr {l : List Nat} {M M1 : zMem} {p : Nat} {f : Nat → Int32} (h : kAg l M M1) (hp : p ∈ l) : kAg l M (zmr M1 p f) := fun q hq => (zmr_ne M1 p f q (fun e => hq (e ▸ hp))).trans (h q hq)
theorem kAg.mo {l l2 : List Nat} {M M1 : zMem} (h : kAg l M M1) (hl : ∀ p ∈ l, p ∈ l2) : kAg l2 M M1 := fun p hp => h p (fun q => hp (hl p q))
theorem kCnt_ag {M M1 : zMem} (h : M1 11 = M 11) (hc : kCnt M) : kCnt M1 := by
  obtain ⟨n, h1, h2⟩ := hc
  exact ⟨n, h1, by rw [h]; exact h2⟩
theorem kDpt_ag {M M1 : zMem} (h : M1 10 = M 10) (hc : kDpt M) : kDpt M1 := by
  obtain ⟨n, h1, h2⟩ := hc
  exact ⟨n, h1, by rw [h]; exact h2⟩
theorem zms_zmr (M : zMem) (p i : Nat) (f : Nat → Int32) (v : Int32) : zms (zmr M p f) p i v = zmr M p (upd f i v) := by
  funext a b
  by_cases ha : a = p <;> simp [zms, zmr, upd, ha]
theorem zmr_zmr (M : zMem) (p : Nat) (f f2 : Nat → Int32) : zmr (zmr M p f) p f2 = zmr M p f2 := by
  funext a b
  by_cases ha : a = p <;> simp [zmr, ha]
theorem zmr_self (M : zMem) (p : Nat) : zmr M p (M p) = M := by
  funext a b
  by_cases ha : a = p <;> simp [zmr, ha]
def kPh (h m : Int32) : Int32 := if bc h = 0 then 0 else if hb h m = true then 6144 / bc h else 0
def kEu : Nat → Int32 → Int32 → Int32
  | 0, d, _ => d
  | n + 1, d, r => if r = 0 then d else kEu n r (d - d / r * r)
def kLow (u l p : Int32) : Int32 := if kEu 64 l u = 0 then 0 else (if p = 0 then u else l) / kEu 64 l u
def kPt (M : zMem) (m : Int32) : Nat → Nat → Int32
  | 0 => M 23
  | n + 1 => upd (kPt M m n) n (if ahd (M 13 n) (nI n) = true then (if ahd (M 14 n) (nI n) = true then (kPt M m n (Int32.toNatClampNeg (M 13 n)) + kPt M m n (Int32.toNatClampNeg (M 14 n))) / 2 else kPt M m n (Int32.toNatClampNeg (M 13 n))) else kPh (M 12 n) m)
def kSv (M : zMem) (t m : Int32) : Int32 := kPt M m (Int32.toNatClampNeg t + 1) (Int32.toNatClampNeg t)
def kHv (M : zMem) (t ten : Int32) : Int32 := kOr (fun k => if kSv M t (nI k) ≤ 0 then 0 else if kSv M t (nI k) * 10 < ten * 6144 then 0 else 1 <<< (nI k &&& 31)) 6
def kHolds (M : zMem) (t ten : Int32) (r : Int32) (M2 : zMem) : Prop := r = kHv M t ten ∧ ∃ f, M2 = zmr M 23 f
theorem ahd_in {x : Int32} {k : Nat} (hk : k ≤ 10) (h : ahd x (nI k) = true) : ∃ j, j < k ∧ x = nI j := by
  simp only [ahd, Bool.and_eq_true, Bool.not_eq_true', decide_eq_false_iff_not] at h
  obtain ⟨j, hj, e⟩ := nI_of h.1
  subst e
  rw [nI_leI (by omega) hj] at h
  exact ⟨j, by omega, rfl⟩
/-- the parts of the things ahead don't come from the row as it was -/
theorem kPt_free (M : zMem) (f : Nat → Int32) (m : Int32) : ∀ n, n ≤ 10 → ∀ j, j < n → kPt (zmr M 23 f) m n j = kPt M m n j := by
  intro n
  induction n with
  | zero => intro _ j hj; omega
  | succ n ih =>
    intro hn j hj
    have ih := ih (by omega)
    have e1 : (zmr M 23 f) 13 = M 13 := zmr_ne M 23 f 13 (by decide)
    have e2 : (zmr M 23 f) 14 = M 14 := zmr_ne M 23 f 14 (by decide)
    have e3 : (zmr M 23 f) 12 = M 12 := zmr_ne M 23 f 12 (by decide)
    rcases Nat.lt_or_ge j n with h | h
    · simp only [kPt, upd, if_neg (Nat.ne_of_lt h)]
      exact ih j h
    · have : j = n := by omega
      subst this
      simp only [kPt, upd, if_true, e1, e2, e3]
      by_cases h1 : ahd (M 13 j) (nI j) = true
      · obtain ⟨a, ha, ea⟩ := ahd_in (by omega) h1
        by_cases h2 : ahd (M 14 j) (nI j) = true
        · obtain ⟨b, hb, eb⟩ := ahd_in (by omega) h2
          simp only [h1, h2, if_true]
          rw [ea, eb, nI_clamp (by omega), nI_clamp (by omega), ih a ha, ih b hb]
        · simp only [h1, h2, if_true]
          rw [ea, nI_clamp (by omega), ih a ha]
          simp
      · simp [h1]
section zC2
variable (g : Nat → Option Nat) (X : List zShp) (M : zMem)
theorem v_Shares_partsOfHands_0 (g : Nat → Option Nat) (X : List zShp) (M : zMem) (x0 x1 : Int32) (R : zEnd) (h : (((bc x0) = 0) → (R (some (.int 0)) (SHP g X) M)) ∧ ((¬ (bc x0) = 0) → ((((hb x0 x1) = true) → ((¬ (bc x0) = 0) ∧ (R (some (.int ((6144 : Int32) / (bc x0)))) (SHP g X) M))) ∧ (((hb x0 x1) = false) → (R (some (.int 0)) (SHP g X) M))))) : zRT m_Shares_partsOfHands 0 0 0 [(0, .int x0), (1, .int x1)] [] (SHP g X) M R := by
  refine zs_iload_n 0 d_Shares_partsOfHands_0 rfl (List.mem_of_getElem? (i := 0) rfl) ?_
  refine zs_callS (kc := 0) (ks := 0) (kc1 := 0) (ks1 := 0) (st := []) [.int x0] d_Shares_partsOfHands_1 lk_Shares_34 ⟨by decide, by decide⟩ rfl (Nat.le_of_ble_eq_true rfl) (ex_JI_bitCount g X M x0) (fun v1 sh1 M1 hR => ?_)
  obtain ⟨rfl, rfl, rfl⟩ := hR
  refine zs_istore_n2 2 [1, 2, 0] [(0, .int x0), (1, .int x1), (2, .int (bc x0))] d_Shares_partsOfHands_4 rfl (by decide) rfl ?_
  refine zs_iload_n 2 d_Shares_partsOfHands_5 rfl (List.mem_of_getElem? (i := 2) rfl) ?_
  refine zs_if_eq 17 d_Shares_partsOfHands_6 (by decide) (fun c2 => ?_) (fun c2 => ?_)
  · replace h := h.1 c2
    refine zs_iconst 0 d_Shares_partsOfHands_17 (by decide) ?_
    refine zs_goto 26 d_Shares_partsOfHands_18 (by decide) ?_
    exact zs_iret d_Shares_partsOfHands_26 rfl h
  · replace h := h.2 c2
    refine zs_iload_n 0 d_Shares_partsOfHands_9 rfl (List.mem_of_getElem? (i := 0) rfl) ?_
    refine zs_iload_n 1 d_Shares_partsOfHands_10 rfl (List.mem_of_getElem? (i := 1) rfl) ?_
    refine zs_callSN (kc := 0) (ks := 0) (kc1 := 0) (ks1 := 0) (st := []) [.int x0, .int x1] d_Shares_partsOfHands_11 lk_Shares_40 ⟨by decide, by decide⟩ rfl (Nat.le_of_ble_eq_true rfl) (ex_O_has g X M x0 x1) (fun v3 sh3 M3 hR => ?_)
    obtain ⟨rfl, rfl, rfl⟩ := hR
    refine zs_if_ne 21 d_Shares_partsOfHands_14 (by decide) (fun c4 => ?_) (fun c4 => ?_)
    · replace h := h.1 (bI_1 c4)
      refine zs_sipush 6144 d_Shares_partsOfHands_21 (by decide) ?_
      refine zs_iload_n 2 d_Shares_partsOfHands_24 rfl (List.mem_of_getElem? (i := 2) rfl) ?_
      obtain ⟨h0, h⟩ := h
      refine zs_idiv d_Shares_partsOfHands_25 h0 ?_
      exact zs_iret d_Shares_partsOfHands_26 rfl h
    · replace h := h.2 (bI_0 c4)
      refine zs_iconst 0 d_Shares_partsOfHands_17 (by decide) ?_
      refine zs_goto 26 d_Shares_partsOfHands_18 (by decide) ?_
      exact zs_iret d_Shares_partsOfHands_26 rfl h
theorem ex_Shares_partsOfHands (h m : Int32) : zEx m_Shares_partsOfHands 0 0 [.int h, .int m] (SHP g X) M (qF g X (kPh h m) M) := by
  refine zEx_of _ (by decide) (by simp [Value.category]) (Nat.le_of_ble_eq_true rfl) rfl (v_Shares_partsOfHands_0 g X M h m _ ⟨fun h1 => qF_i ?_ rfl, fun h1 => ⟨fun h2 => ⟨h1, qF_i ?_ rfl⟩, fun h2 => qF_i ?_ rfl⟩⟩) <;> simp [kPh, *]
theorem v_Shares_lowest_0 (g : Nat → Option Nat) (X : List zShp) (M : zMem) (x0 x1 x2 : Int32) (R : zEnd) (h : zRT m_Shares_lowest 0 0 8 [(0, .int x0), (1, .int x1), (2, .int x2), (3, .int x1), (4, .int x0), (5, .int 0)] [] (SHP g X) M R) : zRT m_Shares_lowest 0 0 0 [(0, .int x0), (1, .int x1), (2, .int x2)] [] (SHP g X) M R := by
  refine zs_iload_n 1 d_Shares_lowest_0 rfl (List.mem_of_getElem? (i := 1) rfl) ?_
  refine zs_istore_n2 3 [1, 2, 3, 0] [(0, .int x0), (1, .int x1), (2, .int x2), (3, .int x1)] d_Shares_lowest_1 rfl (by decide) rfl ?_
  refine zs_iload_n 0 d_Shares_lowest_2 rfl (List.mem_of_getElem? (i := 0) rfl) ?_
  refine zs_istore2 [1, 2, 3, 4, 0] [(0, .int x0), (1, .int x1), (2, .int x2), (3, .int x1), (4, .int x0)] d_Shares_lowest_3 (by decide) rfl ?_
  refine zs_iconst 0 d_Shares_lowest_5 (by decide) ?_
  refine zs_istore2 [1, 2, 3, 4, 5, 0] [(0, .int x0), (1, .int x1), (2, .int x2), (3, .int x1), (4, .int x0), (5, .int 0)] d_Shares_lowest_6 (by decide) rfl ?_
  exact h
theorem v_Shares_lowest_8 (g : Nat → Option Nat) (X : List zShp) (M : zMem) (x0 x1 x2 x3 x4 x5 : Int32) (R : zEnd) (h : ((64 ≤ x5) → (((¬ x3 = 0) → (((¬ x2 = 0) → ((¬ x3 = 0) ∧ (R (some (.int (x1 / x3))) (SHP g X) M))) ∧ ((x2 = 0) → ((¬ x3 = 0) ∧ (R (some (.int (x0 / x3))) (SHP g X) M))))) ∧ ((x3 = 0) → (R (some (.int 0)) (SHP g X) M)))) ∧ ((¬ 64 ≤ x5) → (((x4 = 0) → (((¬ x3 = 0) → (((¬ x2 = 0) → ((¬ x3 = 0) ∧ (R (some (.int (x1 / x3))) (SHP g X) M))) ∧ ((x2 = 0) → ((¬ x3 = 0) ∧ (R (some (.int (x0 / x3))) (SHP g X) M))))) ∧ ((x3 = 0) → (R (some (.int 0)) (SHP g X) M)))) ∧ ((¬ x4 = 0) → ((¬ x4 = 0) ∧ (zRT m_Shares_lowest 0 0 8 [(0, .int x0), (1, .int x1), (2, .int x2), (3, .int x4), (4, .int (x3 - x3 / x4 * x4)), (5, .int (x5 + 1))] [] (SHP g X) M R)))))) : zRT m_Shares_lowest 0 0 8 [(0, .int x0), (1, .int x1), (2, .int x2), (3, .int x3), (4, .int x4), (5, .int x5)] [] (SHP g X) M R := by
  refine zs_iload d_Shares_lowest_8 (List.mem_of_getElem? (i := 5) rfl) ?_
  refine zs_bipush 64 d_Shares_lowest_10 (by decide) ?_
  refine zs_icmp_ge 39 d_Shares_lowest_12 (by decide) (fun c1 => ?_) (fun c1 => ?_)
  · replace h := h.1 c1
    refine zs_iload_n 3 d_Shares_lowest_39 rfl (List.mem_of_getElem? (i := 3) rfl) ?_
    refine zs_if_ne 45 d_Shares_lowest_40 (by decide) (fun c2 => ?_) (fun c2 => ?_)
    · replace h := h.1 c2
      refine zs_iload_n 2 d_Shares_lowest_45 rfl (List.mem_of_getElem? (i := 2) rfl) ?_
      refine zs_if_ne 53 d_Shares_lowest_46 (by decide) (fun c3 => ?_) (fun c3 => ?_)
      · replace h := h.1 c3
        refine zs_iload_n 1 d_Shares_lowest_53 rfl (List.mem_of_getElem? (i := 1) rfl) ?_
        refine zs_iload_n 3 d_Shares_lowest_54 rfl (List.mem_of_getElem? (i := 3) rfl) ?_
        obtain ⟨h0, h⟩ := h
        refine zs_idiv d_Shares_lowest_55 h0 ?_
        exact zs_iret d_Shares_lowest_56 rfl h
      · replace h := h.2 c3
        refine zs_iload_n 0 d_Shares_lowest_49 rfl (List.mem_of_getElem? (i := 0) rfl) ?_
        refine zs_goto 54 d_Shares_lowest_50 (by decide) ?_
        refine zs_iload_n 3 d_Shares_lowest_54 rfl (List.mem_of_getElem? (i := 3) rfl) ?_
        obtain ⟨h0, h⟩ := h
        refine zs_idiv d_Shares_lowest_55 h0 ?_
        exact zs_iret d_Shares_lowest_56 rfl h
    · replace h := h.2 c2
      refine zs_iconst 0 d_Shares_lowest_43 (by decide) ?_
      exact zs_iret d_Shares_lowest_44 rfl h
  · replace h := h.2 c1
    refine zs_iload d_Shares_lowest_15 (List.mem_of_getElem? (i := 4) rfl) ?_
    refine zs_if_eq 39 d_Shares_lowest_17 (by decide) (fun c4 => ?_) (fun c4 => ?_)
    · replace h := h.1 c4
      refine zs_iload_n 3 d_Shares_lowest_39 rfl (List.mem_of_getElem? (i := 3) rfl) ?_
      refine zs_if_ne 45 d_Shares_lowest_40 (by decide) (fun c5 => ?_) (fun c5 => ?_)
      · replace h := h.1 c5
        refine zs_iload_n 2 d_Shares_lowest_45 rfl (List.mem_of_getElem? (i := 2) rfl) ?_
        refine zs_if_ne 53 d_Shares_lowest_46 (by decide) (fun c6 => ?_) (fun c6 => ?_)
        · replace h := h.1 c6
          refine zs_iload_n 1 d_Shares_lowest_53 rfl (List.mem_of_getElem? (i := 1) rfl) ?_
          refine zs_iload_n 3 d_Shares_lowest_54 rfl (List.mem_of_getElem? (i := 3) rfl) ?_
          obtain ⟨h0, h⟩ := h
          refine zs_idiv d_Shares_lowest_55 h0 ?_
          exact zs_iret d_Shares_lowest_56 rfl h
        · replace h := h.2 c6
          refine zs_iload_n 0 d_Shares_lowest_49 rfl (List.mem_of_getElem? (i := 0) rfl) ?_
          refine zs_goto 54 d_Shares_lowest_50 (by decide) ?_
          refine zs_iload_n 3 d_Shares_lowest_54 rfl (List.mem_of_getElem? (i := 3) rfl) ?_
          obtain ⟨h0, h⟩ := h
          refine zs_idiv d_Shares_lowest_55 h0 ?_
          exact zs_iret d_Shares_lowest_56 rfl h
      · replace h := h.2 c5
        refine zs_iconst 0 d_Shares_lowest_43 (by decide) ?_
        exact zs_iret d_Shares_lowest_44 rfl h
    · replace h := h.2 c4
      refine zs_iload_n 3 d_Shares_lowest_20 rfl (List.mem_of_getElem? (i := 3) rfl) ?_
      refine zs_iload d_Shares_lowest_21 (List.mem_of_getElem? (i := 4) rfl) ?_
      obtain ⟨h0, h⟩ := h
      refine zs_irem d_Shares_lowest_23 h0 ?_
      refine zs_istore2 [1, 2, 3, 4, 5, 6, 0] [(0, .int x0), (1, .int x1), (2, .int x2), (3, .int x3), (4, .int x4), (5, .int x5), (6, .int (x3 - x3 / x4 * x4))] d_Shares_lowest_24 (by decide) rfl ?_
      refine zs_iload d_Shares_lowest_26 (List.mem_of_getElem? (i := 4) rfl) ?_
      refine zs_istore_n2 3 [1, 2, 3, 0, 4, 5, 6] [(0, .int x0), (1, .int x1), (2, .int x2), (3, .int x4), (4, .int x4), (5, .int x5), (6, .int (x3 - x3 / x4 * x4))] d_Shares_lowest_28 rfl (by decide) rfl ?_
      refine zs_iload d_Shares_lowest_29 (List.mem_of_getElem? (i := 6) rfl) ?_
      refine zs_istore2 [1, 2, 3, 4, 0, 5, 6] [(0, .int x0), (1, .int x1), (2, .int x2), (3, .int x4), (4, .int (x3 - x3 / x4 * x4)), (5, .int x5), (6, .int (x3 - x3 / x4 * x4))] d_Shares_lowest_31 (by decide) rfl ?_
      refine zs_iinc2 5 (x5 + 1) [1, 2, 3, 4, 5, 0, 6] [(0, .int x0), (1, .int x1), (2, .int x2), (3, .int x4), (4, .int (x3 - x3 / x4 * x4)), (5, .int (x5 + 1)), (6, .int (x3 - x3 / x4 * x4))] d_Shares_lowest_33 rfl rfl (by decide) rfl ?_
      refine zs_goto 8 d_Shares_lowest_36 (by decide) ?_
      exact zRT_sub [0, 1, 2, 3, 4, 5] rfl h
theorem ex_Shares_lowest (u l p : Int32) : zEx m_Shares_lowest 0 0 [.int u, .int l, .int p] (SHP g X) M (qF g X (kLow u l p) M) := by
  refine zEx_of _ (by decide) (by simp [Value.category]) (Nat.le_of_ble_eq_true rfl) rfl (v_Shares_lowest_0 g X M u l p _ ?_)
  obtain ⟨D, hD⟩ : ∃ D, kEu 64 l u = D := ⟨_, rfl⟩
  have L : ∀ n k d r, k + n = 64 → kEu n d r = D → zRT m_Shares_lowest 0 0 8 [(0, .int u), (1, .int l), (2, .int p), (3, .int d), (4, .int r), (5, .int (nI k))] [] (SHP g X) M (qF g X (kLow u l p) M) := by
    intro n
    induction n with
    | zero =>
      intro k d r hk he
      simp only [kEu] at he
      refine v_Shares_lowest_8 g X M u l p d r _ _ ⟨fun _ => ?_, fun h => absurd (nI_le (a := 64) (by omega) (by omega)) h⟩
      exact ⟨fun h => ⟨fun h2 => ⟨h, qF_i (by unfold kLow; rw [hD, ← he, if_neg h, if_neg h2]) rfl⟩, fun h2 => ⟨h, qF_i (by unfold kLow; rw [hD, ← he, if_neg h, if_pos h2]) rfl⟩⟩, fun h => qF_i (by unfold kLow; rw [hD, ← he, if_pos h]) rfl⟩
    | succ n ih =>
      intro k d r hk he
      refine v_Shares_lowest_8 g X M u l p d r _ _ ⟨fun h => absurd h (nI_ge (b := 64) (by omega) (by decide)), fun _ => ⟨fun hr => ?_, fun hr => ⟨hr, ?_⟩⟩⟩
      · simp only [kEu, if_pos hr] at he
        exact ⟨fun h => ⟨fun h2 => ⟨h, qF_i (by unfold kLow; rw [hD, ← he, if_neg h, if_neg h2]) rfl⟩, fun h2 => ⟨h, qF_i (by unfold kLow; rw [hD, ← he, if_neg h, if_pos h2]) rfl⟩⟩, fun h => qF_i (by unfold kLow; rw [hD, ← he, if_pos h]) rfl⟩
      · simp only [kEu, if_neg hr] at he
        rw [nI_1]
        exact ih (k + 1) _ _ (by omega) he
  exact L 64 0 l u rfl hD
theorem v_Shares_partsOf_0 (g : Nat → Option Nat) (X : List zShp) (M : zMem) (x2 x3 : Int32) (R : zEnd) (h : zRT m_Shares_partsOf 0 0 3 [(0, .ref 22), (1, .ref 11), (2, .int x2), (3, .int x3), (4, .int 0)] [] (SHP g X) M R) : zRT m_Shares_partsOf 0 0 0 [(0, .ref 22), (1, .ref 11), (2, .int x2), (3, .int x3)] [] (SHP g X) M R := by
  refine zs_iconst 0 d_Shares_partsOf_0 (by decide) ?_
  refine zs_istore2 [1, 2, 3, 4, 0] [(0, .ref 22), (1, .ref 11), (2, .int x2), (3, .int x3), (4, .int 0)] d_Shares_partsOf_1 (by decide) rfl ?_
  exact h
theorem v_Shares_partsOf_3 (g : Nat → Option Nat) (X : List zShp) (M : zMem) (x2 x3 x4 : Int32) (R : zEnd) (h : ((x2 < x4) → ((vp_in x2 10) ∧ (R (some (.int (M 23 (Int32.toNatClampNeg x2)))) (SHP g X) M))) ∧ ((¬ x2 < x4) → (((10 ≤ x4) → ((vp_in x2 10) ∧ (R (some (.int (M 23 (Int32.toNatClampNeg x2)))) (SHP g X) M))) ∧ ((¬ 10 ≤ x4) → ((vp_in x4 10) ∧ ((((ahd (M 13 (Int32.toNatClampNeg x4)) x4) = true) → ((((ahd (M 14 (Int32.toNatClampNeg x4)) x4) = true) → ((vp_in (M 13 (Int32.toNatClampNeg x4)) 10) ∧ ((vp_in (M 14 (Int32.toNatClampNeg x4)) 10) ∧ (zRT m_Shares_partsOf 0 0 3 [(0, .ref 22), (1, .ref 11), (2, .int x2), (3, .int x3), (4, .int (x4 + 1))] [] (SHP g X) (zms M 23 (Int32.toNatClampNeg x4) (((M 23 (Int32.toNatClampNeg (M 13 (Int32.toNatClampNeg x4)))) + (M 23 (Int32.toNatClampNeg (M 14 (Int32.toNatClampNeg x4))))) / 2)) R)))) ∧ (((ahd (M 14 (Int32.toNatClampNeg x4)) x4) = false) → ((vp_in (M 13 (Int32.toNatClampNeg x4)) 10) ∧ (zRT m_Shares_partsOf 0 0 3 [(0, .ref 22), (1, .ref 11), (2, .int x2), (3, .int x3), (4, .int (x4 + 1))] [] (SHP g X) (zms M 23 (Int32.toNatClampNeg x4) (M 23 (Int32.toNatClampNeg (M 13 (Int32.toNatClampNeg x4))))) R))))) ∧ (((ahd (M 13 (Int32.toNatClampNeg x4)) x4) = false) → (zRT m_Shares_partsOf 0 0 3 [(0, .ref 22), (1, .ref 11), (2, .int x2), (3, .int x3), (4, .int (x4 + 1))] [] (SHP g X) (zms M 23 (Int32.toNatClampNeg x4) (kPh (M 12 (Int32.toNatClampNeg x4)) x3)) R)))))))) : zRT m_Shares_partsOf 0 0 3 [(0, .ref 22), (1, .ref 11), (2, .int x2), (3, .int x3), (4, .int x4)] [] (SHP g X) M R := by
  refine zs_iload d_Shares_partsOf_3 (List.mem_of_getElem? (i := 4) rfl) ?_
  refine zs_iload_n 2 d_Shares_partsOf_5 rfl (List.mem_of_getElem? (i := 2) rfl) ?_
  refine zs_icmp_gt 122 d_Shares_partsOf_6 (by decide) (fun c1 => ?_) (fun c1 => ?_)
  · replace h := h.1 c1
    refine zs_aload_n 0 d_Shares_partsOf_122 rfl (List.mem_of_getElem? (i := 0) rfl) ?_
    refine zs_get d_Shares_partsOf_123 gf_Shares_9 (sh_22 g X) rfl ?_
    refine zs_iload_n 2 d_Shares_partsOf_126 rfl (List.mem_of_getElem? (i := 2) rfl) ?_
    obtain ⟨b2, h⟩ := h
    refine zs_iald d_Shares_partsOf_127 (sh_23 g X) b2 ?_
    exact zs_iret d_Shares_partsOf_128 rfl h
  · replace h := h.2 c1
    refine zs_iload d_Shares_partsOf_9 (List.mem_of_getElem? (i := 4) rfl) ?_
    refine zs_bipush 10 d_Shares_partsOf_11 (by decide) ?_
    refine zs_icmp_ge 122 d_Shares_partsOf_13 (by decide) (fun c3 => ?_) (fun c3 => ?_)
    · replace h := h.1 c3
      refine zs_aload_n 0 d_Shares_partsOf_122 rfl (List.mem_of_getElem? (i := 0) rfl) ?_
      refine zs_get d_Shares_partsOf_123 gf_Shares_9 (sh_22 g X) rfl ?_
      refine zs_iload_n 2 d_Shares_partsOf_126 rfl (List.mem_of_getElem? (i := 2) rfl) ?_
      obtain ⟨b4, h⟩ := h
      refine zs_iald d_Shares_partsOf_127 (sh_23 g X) b4 ?_
      exact zs_iret d_Shares_partsOf_128 rfl h
    · replace h := h.2 c3
      refine zs_aload_n 1 d_Shares_partsOf_16 rfl (List.mem_of_getElem? (i := 1) rfl) ?_
      refine zs_get d_Shares_partsOf_17 gf_Shares_15 (sh_11 g X) rfl ?_
      refine zs_iload d_Shares_partsOf_20 (List.mem_of_getElem? (i := 4) rfl) ?_
      obtain ⟨b5, h⟩ := h
      refine zs_iald d_Shares_partsOf_22 (sh_13 g X) b5 ?_
      refine zs_istore2 [1, 2, 3, 4, 5, 0] [(0, .ref 22), (1, .ref 11), (2, .int x2), (3, .int x3), (4, .int x4), (5, .int (M 13 (Int32.toNatClampNeg x4)))] d_Shares_partsOf_23 (by decide) rfl ?_
      refine zs_aload_n 1 d_Shares_partsOf_25 rfl (List.mem_of_getElem? (i := 1) rfl) ?_
      refine zs_get d_Shares_partsOf_26 gf_Shares_20 (sh_11 g X) rfl ?_
      refine zs_iload d_Shares_partsOf_29 (List.mem_of_getElem? (i := 4) rfl) ?_
      refine zs_iald d_Shares_partsOf_31 (sh_14 g X) b5 ?_
      refine zs_istore2 [1, 2, 3, 4, 5, 6, 0] [(0, .ref 22), (1, .ref 11), (2, .int x2), (3, .int x3), (4, .int x4), (5, .int (M 13 (Int32.toNatClampNeg x4))), (6, .int (M 14 (Int32.toNatClampNeg x4)))] d_Shares_partsOf_32 (by decide) rfl ?_
      refine zs_iload d_Shares_partsOf_34 (List.mem_of_getElem? (i := 5) rfl) ?_
      refine zs_iload d_Shares_partsOf_36 (List.mem_of_getElem? (i := 4) rfl) ?_
      refine zs_callS (kc := 0) (ks := 0) (kc1 := 0) (ks1 := 0) (st := []) [.int (M 13 (Int32.toNatClampNeg x4)), .int x4] d_Shares_partsOf_38 lk_Shares_23 ⟨by decide, by decide⟩ rfl (Nat.le_of_ble_eq_true rfl) (ex_Shares_isAhead g X M (M 13 (Int32.toNatClampNeg x4)) x4) (fun v6 sh6 M6 hR => ?_)
      obtain ⟨rfl, rfl, rfl⟩ := hR
      refine zs_if_ne 65 d_Shares_partsOf_41 (by decide) (fun c7 => ?_) (fun c7 => ?_)
      · replace h := h.1 (bI_1 c7)
        refine zs_iload d_Shares_partsOf_65 (List.mem_of_getElem? (i := 6) rfl) ?_
        refine zs_iload d_Shares_partsOf_67 (List.mem_of_getElem? (i := 4) rfl) ?_
        refine zs_callS (kc := 0) (ks := 0) (kc1 := 0) (ks1 := 0) (st := []) [.int (M 14 (Int32.toNatClampNeg x4)), .int x4] d_Shares_partsOf_69 lk_Shares_23 ⟨by decide, by decide⟩ rfl (Nat.le_of_ble_eq_true rfl) (ex_Shares_isAhead g X M (M 14 (Int32.toNatClampNeg x4)) x4) (fun v8 sh8 M8 hR => ?_)
        obtain ⟨rfl, rfl, rfl⟩ := hR
        refine zs_if_ne 92 d_Shares_partsOf_72 (by decide) (fun c9 => ?_) (fun c9 => ?_)
        · replace h := h.1 (bI_1 c9)
          refine zs_aload_n 0 d_Shares_partsOf_92 rfl (List.mem_of_getElem? (i := 0) rfl) ?_
          refine zs_get d_Shares_partsOf_93 gf_Shares_9 (sh_22 g X) rfl ?_
          refine zs_iload d_Shares_partsOf_96 (List.mem_of_getElem? (i := 4) rfl) ?_
          refine zs_aload_n 0 d_Shares_partsOf_98 rfl (List.mem_of_getElem? (i := 0) rfl) ?_
          refine zs_get d_Shares_partsOf_99 gf_Shares_9 (sh_22 g X) rfl ?_
          refine zs_iload d_Shares_partsOf_102 (List.mem_of_getElem? (i := 5) rfl) ?_
          obtain ⟨b10, h⟩ := h
          refine zs_iald d_Shares_partsOf_104 (sh_23 g X) b10 ?_
          refine zs_aload_n 0 d_Shares_partsOf_105 rfl (List.mem_of_getElem? (i := 0) rfl) ?_
          refine zs_get d_Shares_partsOf_106 gf_Shares_9 (sh_22 g X) rfl ?_
          refine zs_iload d_Shares_partsOf_109 (List.mem_of_getElem? (i := 6) rfl) ?_
          obtain ⟨b11, h⟩ := h
          refine zs_iald d_Shares_partsOf_111 (sh_23 g X) b11 ?_
          refine zs_iadd d_Shares_partsOf_112 ?_
          refine zs_iconst 2 d_Shares_partsOf_113 (by decide) ?_
          refine zs_idiv d_Shares_partsOf_114 (by decide) ?_
          refine zs_iast d_Shares_partsOf_115 (sh_23 g X) b5 ?_
          refine zs_iinc2 4 (x4 + 1) [1, 2, 3, 4, 0, 5, 6] [(0, .ref 22), (1, .ref 11), (2, .int x2), (3, .int x3), (4, .int (x4 + 1)), (5, .int (M 13 (Int32.toNatClampNeg x4))), (6, .int (M 14 (Int32.toNatClampNeg x4)))] d_Shares_partsOf_116 rfl rfl (by decide) rfl ?_
          refine zs_goto 3 d_Shares_partsOf_119 (by decide) ?_
          exact zRT_sub [0, 1, 2, 3, 4] rfl h
        · replace h := h.2 (bI_0 c9)
          refine zs_aload_n 0 d_Shares_partsOf_75 rfl (List.mem_of_getElem? (i := 0) rfl) ?_
          refine zs_get d_Shares_partsOf_76 gf_Shares_9 (sh_22 g X) rfl ?_
          refine zs_iload d_Shares_partsOf_79 (List.mem_of_getElem? (i := 4) rfl) ?_
          refine zs_aload_n 0 d_Shares_partsOf_81 rfl (List.mem_of_getElem? (i := 0) rfl) ?_
          refine zs_get d_Shares_partsOf_82 gf_Shares_9 (sh_22 g X) rfl ?_
          refine zs_iload d_Shares_partsOf_85 (List.mem_of_getElem? (i := 5) rfl) ?_
          obtain ⟨b12, h⟩ := h
          refine zs_iald d_Shares_partsOf_87 (sh_23 g X) b12 ?_
          refine zs_iast d_Shares_partsOf_88 (sh_23 g X) b5 ?_
          refine zs_goto 116 d_Shares_partsOf_89 (by decide) ?_
          refine zs_iinc2 4 (x4 + 1) [1, 2, 3, 4, 0, 5, 6] [(0, .ref 22), (1, .ref 11), (2, .int x2), (3, .int x3), (4, .int (x4 + 1)), (5, .int (M 13 (Int32.toNatClampNeg x4))), (6, .int (M 14 (Int32.toNatClampNeg x4)))] d_Shares_partsOf_116 rfl rfl (by decide) rfl ?_
          refine zs_goto 3 d_Shares_partsOf_119 (by decide) ?_
          exact zRT_sub [0, 1, 2, 3, 4] rfl h
      · replace h := h.2 (bI_0 c7)
        refine zs_aload_n 0 d_Shares_partsOf_44 rfl (List.mem_of_getElem? (i := 0) rfl) ?_
        refine zs_get d_Shares_partsOf_45 gf_Shares_9 (sh_22 g X) rfl ?_
        refine zs_iload d_Shares_partsOf_48 (List.mem_of_getElem? (i := 4) rfl) ?_
        refine zs_aload_n 1 d_Shares_partsOf_50 rfl (List.mem_of_getElem? (i := 1) rfl) ?_
        refine zs_get d_Shares_partsOf_51 gf_Shares_27 (sh_11 g X) rfl ?_
        refine zs_iload d_Shares_partsOf_54 (List.mem_of_getElem? (i := 4) rfl) ?_
        refine zs_iald d_Shares_partsOf_56 (sh_12 g X) b5 ?_
        refine zs_iload_n 3 d_Shares_partsOf_57 rfl (List.mem_of_getElem? (i := 3) rfl) ?_
        refine zs_callS (kc := 0) (ks := 0) (kc1 := 0) (ks1 := 0) (st := [.int x4, .ref 23]) [.int (M 12 (Int32.toNatClampNeg x4)), .int x3] d_Shares_partsOf_58 lk_Shares_30 ⟨by decide, by decide⟩ rfl (Nat.le_of_ble_eq_true rfl) (ex_Shares_partsOfHands g X M (M 12 (Int32.toNatClampNeg x4)) x3) (fun v13 sh13 M13 hR => ?_)
        obtain ⟨rfl, rfl, rfl⟩ := hR
        refine zs_iast d_Shares_partsOf_61 (sh_23 g X) b5 ?_
        refine zs_goto 116 d_Shares_partsOf_62 (by decide) ?_
        refine zs_iinc2 4 (x4 + 1) [1, 2, 3, 4, 0, 5, 6] [(0, .ref 22), (1, .ref 11), (2, .int x2), (3, .int x3), (4, .int (x4 + 1)), (5, .int (M 13 (Int32.toNatClampNeg x4))), (6, .int (M 14 (Int32.toNatClampNeg x4)))] d_Shares_partsOf_116 rfl rfl (by decide) rfl ?_
        refine zs_goto 3 d_Shares_partsOf_119 (by decide) ?_
        exact zRT_sub [0, 1, 2, 3, 4] rfl h
theorem ex_Shares_partsOf (t m : Int32) (h : vp_in t 10) : zEx m_Shares_partsOf 0 0 [.ref 22, .ref 11, .int t, .int m] (SHP g X) M (qF g X (kPt M m (Int32.toNatClampNeg t + 1) (Int32.toNatClampNeg t)) (zmr M 23 (kPt M m (Int32.toNatClampNeg t + 1)))) := by
  refine zEx_of _ (by decide) (by simp [Value.category]) (Nat.le_of_ble_eq_true rfl) rfl (v_Shares_partsOf_0 g X M t m _ ?_)
  obtain ⟨j, hj, e⟩ := vp_in_of h (by decide)
  subst e
  rw [nI_clamp (by omega)]
  have L : ∀ n k, k + n = j + 1 → zRT m_Shares_partsOf 0 0 3 [(0, .ref 22), (1, .ref 11), (2, .int (nI j)), (3, .int m), (4, .int (nI k))] [] (SHP g X) (zmr M 23 (kPt M m k)) (qF g X (kPt M m (j + 1) j) (zmr M 23 (kPt M m (j + 1)))) := by
    intro n
    induction n with
    | zero =>
      intro k hk
      have e : k = j + 1 := by omega
      subst e
      refine v_Shares_partsOf_3 g X _ (nI j) m _ _ ⟨fun _ => ⟨vp_in_nI hj (by decide), qF_i ?_ rfl⟩, fun h => absurd (nI_lt (by omega) (by omega)) h⟩
      rw [nI_clamp (by omega), zmr_row]
    | succ n ih =>
      intro k hk
      have ih := ih (k + 1) (by omega)
      have e1 : (zmr M 23 (kPt M m k)) 13 = M 13 := zmr_ne M 23 _ 13 (by decide)
      have e2 : (zmr M 23 (kPt M m k)) 14 = M 14 := zmr_ne M 23 _ 14 (by decide)
      have e3 : (zmr M 23 (kPt M m k)) 12 = M 12 := zmr_ne M 23 _ 12 (by decide)
      have e4 : (zmr M 23 (kPt M m k)) 23 = kPt M m k := zmr_row M 23 _
      refine v_Shares_partsOf_3 g X _ (nI j) m _ _ ⟨fun h => absurd h (nI_nlt (by omega) (by omega)), fun _ => ⟨fun h => absurd h (nI_ge (b := 10) (by omega) (by decide)), fun _ => ⟨vp_in_nI (by omega) (by decide), ?_⟩⟩⟩
      rw [nI_1, nI_clamp (by omega), e1, e2, e3, e4]
      simp only [zms_zmr]
      refine ⟨fun h1 => ⟨fun h2 => ?_, fun h2 => ?_⟩, fun h1 => ?_⟩
      · obtain ⟨a, ha, ea⟩ := ahd_in (by omega) h1
        obtain ⟨b, hb, eb⟩ := ahd_in (by omega) h2
        refine ⟨by rw [ea]; exact vp_in_nI (by omega) (by decide), by rw [eb]; exact vp_in_nI (by omega) (by decide), ?_⟩
        simpa only [kPt, h1, h2, if_true] using ih
      · obtain ⟨a, ha, ea⟩ := ahd_in (by omega) h1
        refine ⟨by rw [ea]; exact vp_in_nI (by omega) (by decide), ?_⟩
        simpa [kPt, h1, h2] using ih
      · simpa [kPt, h1] using ih
  have h0 := L (j + 1) 0 (by omega)
  have e0 : zmr M 23 (kPt M m 0) = M := zmr_self M 23
  rw [e0] at h0
  exact h0
theorem v_Shares_holders_0 (g : Nat → Option Nat) (X : List zShp) (M : zMem) (x2 x3 : Int32) (R : zEnd) (h : zRT m_Shares_holders 0 0 6 [(0, .ref 22), (1, .ref 11), (2, .int x2), (3, .int x3), (4, .int 0), (5, .int 0)] [] (SHP g X) M R) : zRT m_Shares_holders 0 0 0 [(0, .ref 22), (1, .ref 11), (2, .int x2), (3, .int x3)] [] (SHP g X) M R := by
  refine zs_iconst 0 d_Shares_holders_0 (by decide) ?_
  refine zs_istore2 [1, 2, 3, 4, 0] [(0, .ref 22), (1, .ref 11), (2, .int x2), (3, .int x3), (4, .int 0)] d_Shares_holders_1 (by decide) rfl ?_
  refine zs_iconst 0 d_Shares_holders_3 (by decide) ?_
  refine zs_istore2 [1, 2, 3, 4, 5, 0] [(0, .ref 22), (1, .ref 11), (2, .int x2), (3, .int x3), (4, .int 0), (5, .int 0)] d_Shares_holders_4 (by decide) rfl ?_
  exact h
theorem v_Shares_holders_6 (g : Nat → Option Nat) (X : List zShp) (M : zMem) (x2 x3 x4 x5 : Int32) (R : zEnd) (h : ((6 ≤ x5) → (R (some (.int x4)) (SHP g X) M)) ∧ ((¬ 6 ≤ x5) → ((vp_in x2 10) ∧ ((((kPt M x5 (Int32.toNatClampNeg x2 + 1) (Int32.toNatClampNeg x2)) ≤ 0) → (zRT m_Shares_holders 0 0 6 [(0, .ref 22), (1, .ref 11), (2, .int x2), (3, .int x3), (4, .int x4), (5, .int (x5 + 1))] [] (SHP g X) (zmr M 23 (kPt M x5 (Int32.toNatClampNeg x2 + 1))) R)) ∧ ((¬ (kPt M x5 (Int32.toNatClampNeg x2 + 1) (Int32.toNatClampNeg x2)) ≤ 0) → (((((kPt M x5 (Int32.toNatClampNeg x2 + 1) (Int32.toNatClampNeg x2)) * 10) < (x3 * 6144)) → (zRT m_Shares_holders 0 0 6 [(0, .ref 22), (1, .ref 11), (2, .int x2), (3, .int x3), (4, .int x4), (5, .int (x5 + 1))] [] (SHP g X) (zmr M 23 (kPt M x5 (Int32.toNatClampNeg x2 + 1))) R)) ∧ ((¬ ((kPt M x5 (Int32.toNatClampNeg x2 + 1) (Int32.toNatClampNeg x2)) * 10) < (x3 * 6144)) → (zRT m_Shares_holders 0 0 6 [(0, .ref 22), (1, .ref 11), (2, .int x2), (3, .int x3), (4, .int (x4 ||| ((1 : Int32) <<< (x5 &&& 31)))), (5, .int (x5 + 1))] [] (SHP g X) (zmr M 23 (kPt M x5 (Int32.toNatClampNeg x2 + 1))) R)))))))) : zRT m_Shares_holders 0 0 6 [(0, .ref 22), (1, .ref 11), (2, .int x2), (3, .int x3), (4, .int x4), (5, .int x5)] [] (SHP g X) M R := by
  refine zs_iload d_Shares_holders_6 (List.mem_of_getElem? (i := 5) rfl) ?_
  refine zs_bipush 6 d_Shares_holders_8 (by decide) ?_
  refine zs_icmp_ge 56 d_Shares_holders_10 (by decide) (fun c1 => ?_) (fun c1 => ?_)
  · replace h := h.1 c1
    refine zs_iload d_Shares_holders_56 (List.mem_of_getElem? (i := 4) rfl) ?_
    exact zs_iret d_Shares_holders_58 rfl h
  · replace h := h.2 c1
    refine zs_aload_n 0 d_Shares_holders_13 rfl (List.mem_of_getElem? (i := 0) rfl) ?_
    refine zs_aload_n 1 d_Shares_holders_14 rfl (List.mem_of_getElem? (i := 1) rfl) ?_
    refine zs_iload_n 2 d_Shares_holders_15 rfl (List.mem_of_getElem? (i := 2) rfl) ?_
    refine zs_iload d_Shares_holders_16 (List.mem_of_getElem? (i := 5) rfl) ?_
    obtain ⟨p2, h⟩ := h
    refine zs_callV (kc := 0) (ks := 0) (kc1 := 0) (ks1 := 0) (st := []) [.ref 11, .int x2, .int x5] d_Shares_holders_18 lk_Shares_43 ⟨by decide, by decide⟩ rfl (sh_22 g X) rfl (Nat.le_of_ble_eq_true rfl) (ex_Shares_partsOf g X M x2 x5 p2) (fun v2 sh2 M2 hR => ?_)
    obtain ⟨rfl, rfl, rfl⟩ := hR
    refine zs_istore2 [1, 2, 3, 4, 5, 6, 0] [(0, .ref 22), (1, .ref 11), (2, .int x2), (3, .int x3), (4, .int x4), (5, .int x5), (6, .int (kPt M x5 (Int32.toNatClampNeg x2 + 1) (Int32.toNatClampNeg x2)))] d_Shares_holders_21 (by decide) rfl ?_
    refine zs_iload d_Shares_holders_23 (List.mem_of_getElem? (i := 6) rfl) ?_
    refine zs_if_le 50 d_Shares_holders_25 (by decide) (fun c3 => ?_) (fun c3 => ?_)
    · replace h := h.1 c3
      refine zs_iinc2 5 (x5 + 1) [1, 2, 3, 4, 5, 0, 6] [(0, .ref 22), (1, .ref 11), (2, .int x2), (3, .int x3), (4, .int x4), (5, .int (x5 + 1)), (6, .int (kPt M x5 (Int32.toNatClampNeg x2 + 1) (Int32.toNatClampNeg x2)))] d_Shares_holders_50 rfl rfl (by decide) rfl ?_
      refine zs_goto 6 d_Shares_holders_53 (by decide) ?_
      exact zRT_sub [0, 1, 2, 3, 4, 5] rfl h
    · replace h := h.2 c3
      refine zs_iload d_Shares_holders_28 (List.mem_of_getElem? (i := 6) rfl) ?_
      refine zs_bipush 10 d_Shares_holders_30 (by decide) ?_
      refine zs_imul d_Shares_holders_32 ?_
      refine zs_iload_n 3 d_Shares_holders_33 rfl (List.mem_of_getElem? (i := 3) rfl) ?_
      refine zs_sipush 6144 d_Shares_holders_34 (by decide) ?_
      refine zs_imul d_Shares_holders_37 ?_
      refine zs_icmp_lt 50 d_Shares_holders_38 (by decide) (fun c4 => ?_) (fun c4 => ?_)
      · replace h := h.1 c4
        refine zs_iinc2 5 (x5 + 1) [1, 2, 3, 4, 5, 0, 6] [(0, .ref 22), (1, .ref 11), (2, .int x2), (3, .int x3), (4, .int x4), (5, .int (x5 + 1)), (6, .int (kPt M x5 (Int32.toNatClampNeg x2 + 1) (Int32.toNatClampNeg x2)))] d_Shares_holders_50 rfl rfl (by decide) rfl ?_
        refine zs_goto 6 d_Shares_holders_53 (by decide) ?_
        exact zRT_sub [0, 1, 2, 3, 4, 5] rfl h
      · replace h := h.2 c4
        refine zs_iload d_Shares_holders_41 (List.mem_of_getElem? (i := 4) rfl) ?_
        refine zs_iconst 1 d_Shares_holders_43 (by decide) ?_
        refine zs_iload d_Shares_holders_44 (List.mem_of_getElem? (i := 5) rfl) ?_
        refine zs_ishl d_Shares_holders_46 ?_
        refine zs_ior d_Shares_holders_47 ?_
        refine zs_istore2 [1, 2, 3, 4, 0, 5, 6] [(0, .ref 22), (1, .ref 11), (2, .int x2), (3, .int x3), (4, .int (x4 ||| ((1 : Int32) <<< (x5 &&& 31)))), (5, .int x5), (6, .int (kPt M x5 (Int32.toNatClampNeg x2 + 1) (Int32.toNatClampNeg x2)))] d_Shares_holders_48 (by decide) rfl ?_
        refine zs_iinc2 5 (x5 + 1) [1, 2, 3, 4, 5, 0, 6] [(0, .ref 22), (1, .ref 11), (2, .int x2), (3, .int x3), (4, .int (x4 ||| ((1 : Int32) <<< (x5 &&& 31)))), (5, .int (x5 + 1)), (6, .int (kPt M x5 (Int32.toNatClampNeg x2 + 1) (Int32.toNatClampNeg x2)))] d_Shares_holders_50 rfl rfl (by decide) rfl ?_
        refine zs_goto 6 d_Shares_holders_53 (by decide) ?_
        exact zRT_sub [0, 1, 2, 3, 4, 5] rfl h
theorem ex_Shares_holders (t ten : Int32) (h : vp_in t 10) : zEx m_Shares_holders 0 0 [.ref 22, .ref 11, .int t, .int ten] (SHP g X) M (qR g X (kHolds M t ten)) := by
  refine zEx_of _ (by decide) (by simp [Value.category]) (Nat.le_of_ble_eq_true rfl) rfl (v_Shares_holders_0 g X M t ten _ ?_)
  obtain ⟨j, hj, e⟩ := vp_in_of h (by decide)
  have hcl : Int32.toNatClampNeg t = j := by rw [e]; exact nI_clamp (by omega)
  have L : ∀ n k f, k + n = 6 → zRT m_Shares_holders 0 0 6 [(0, .ref 22), (1, .ref 11), (2, .int t), (3, .int ten), (4, .int (kOr (fun k => if kSv M t (nI k) ≤ 0 then 0 else if kSv M t (nI k) * 10 < ten * 6144 then 0 else 1 <<< (nI k &&& 31)) k)), (5, .int (nI k))] [] (SHP g X) (zmr M 23 f) (qR g X (kHolds M t ten)) := by
    intro n
    induction n with
    | zero =>
      intro k f hk
      have e : k = 6 := by omega
      subst e
      exact v_Shares_holders_6 g X _ t ten _ _ _ ⟨fun _ => qR_i ⟨rfl, f, rfl⟩, fun h => absurd (nI_le (a := 6) (Nat.le_refl _) (by omega)) h⟩
    | succ n ih =>
      intro k f hk
      have e1 : kPt (zmr M 23 f) (nI k) (Int32.toNatClampNeg t + 1) (Int32.toNatClampNeg t) = kSv M t (nI k) := by
        unfold kSv
        rw [hcl]
        exact kPt_free M f (nI k) (j + 1) (by omega) j (by omega)
      refine v_Shares_holders_6 g X _ t ten _ _ _ ⟨fun h => absurd h (nI_ge (b := 6) (by omega) (by decide)), fun _ => ⟨h, ?_⟩⟩
      rw [e1, nI_1, zmr_zmr]
      have ih := ih (k + 1) (kPt (zmr M 23 f) (nI k) (Int32.toNatClampNeg t + 1)) (by omega)
      refine ⟨fun h1 => ?_, fun h1 => ⟨fun h2 => ?_, fun h2 => ?_⟩⟩
      · simpa [kOr, h1] using ih
      · simpa [kOr, h1, h2] using ih
      · simpa [kOr, h1, h2] using ih
  have h0 := L 6 0 (M 23) rfl
  rw [zmr_self] at h0
  exact h0
end zC2
