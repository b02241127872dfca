/-! a book that is told: what the machine's rows keep -/
def bA0 : bS := (0, 0, 0, 0, 0, fun k => if k % 5 = 0 ∨ k % 5 = 4 then (0 : Int32) else -6)
theorem upS (R : Nat → Int32) (k : Nat) (v : Int32) : upd R k v k = v := by simp [upd]
theorem upN (R : Nat → Int32) (k i : Nat) (v : Int32) (h : i ≠ k) : upd R k v i = R i := by simp [upd, h]
def bFr (R : Nat → Int32) (k : Nat) : Prop := R (5 * k) = 0 ∧ R (5 * k + 1) = -6 ∧ R (5 * k + 2) = -6 ∧ R (5 * k + 3) = -6 ∧ R (5 * k + 4) = 0
def bFm (R : Nat → Int32) (n : Nat) : Prop := (R (5 * n + 1) = -6 ∧ R (5 * n + 2) = -6) ∨ (∃ a, a < n ∧ R (5 * n + 1) = nI a ∧ R (5 * n + 2) = -6) ∨ ∃ a b, a < b ∧ b < n ∧ R (5 * n + 1) = nI a ∧ R (5 * n + 2) = nI b
def bTl (R : Nat → Int32) (n : Nat) : Prop := R (5 * n + 3) = -6 ∨ ∃ a, a < n ∧ R (5 * n + 3) = nI a
def bHd (R : Nat → Int32) (n L c : Nat) : Prop := ∃ h, h < 64 ∧ R (5 * n) = nI h ∧ pc6 h = c ∧ (0 < c → 65 ≤ L ∧ L ≤ 70 ∧ h / 2 ^ (L - 65) = 1)
def bCu (q n L c : Nat) (R : Nat → Int32) : Prop := bHd R n L c ∧ (q = 0 → R (5 * n + 1) = -6 ∧ R (5 * n + 2) = -6) ∧ (q = 1 → L < n ∧ R (5 * n + 1) = nI L ∧ R (5 * n + 2) = -6) ∧ (q = 2 → ∃ a b, a < b ∧ b < n ∧ R (5 * n + 1) = nI a ∧ R (5 * n + 2) = nI b) ∧ bFm R n ∧ (q < 4 → R (5 * n + 3) = -6) ∧ bTl R n ∧ (q < 5 → c = 0) ∧ (q = 5 → 0 < c) ∧ (q = 6 → R (5 * n + 4) = 1) ∧ (q ≠ 6 → R (5 * n + 4) = 0)
def bInv (A : bS) : Prop := bSz A ∧ (∀ k, k < A.2.1 → kRow A.2.2.2.2.2 k) ∧ kAsN A.2.2.2.2.2 A.2.1 + (if A.1 = 6 then 1 else 0) = A.2.2.2.2.1 ∧ (A.2.1 < 10 → bCu A.1 A.2.1 A.2.2.1 A.2.2.2.1 A.2.2.2.2.2) ∧ ∀ k, A.2.1 < k → k < 10 → bFr A.2.2.2.2.2 k
theorem kRow_cg {R R1 : Nat → Int32} {k : Nat} (h : ∀ j, j < 5 → R1 (5 * k + j) = R (5 * k + j)) (hk : kRow R k) : kRow R1 k := by
  have h0 := h 0 (by decide)
  rw [Nat.add_zero] at h0
  unfold kRow at hk ⊢
  rw [h0, h 1 (by decide), h 2 (by decide), h 3 (by decide), h 4 (by decide)]
  exact hk
theorem kAsN_cg {R R1 : Nat → Int32} : ∀ n, (∀ j, j < 5 * n → R1 j = R j) → kAsN R1 n = kAsN R n
  | 0, _ => rfl
  | n + 1, h => by
    show kAsN R1 n + _ = kAsN R n + _
    rw [kAsN_cg n (fun j hj => h j (by omega)), h (5 * n + 4) (by omega)]
theorem bFr_cg {R R1 : Nat → Int32} {k : Nat} (h : ∀ j, j < 5 → R1 (5 * k + j) = R (5 * k + j)) (hk : bFr R k) : bFr R1 k := by
  have h0 := h 0 (by decide)
  rw [Nat.add_zero] at h0
  unfold bFr at hk ⊢
  rw [h0, h 1 (by decide), h 2 (by decide), h 3 (by decide), h 4 (by decide)]
  exact hk
theorem bInv_up {q n L c o q2 L2 c2 o2 : Nat} {R R2 : Nat → Int32} (h : bInv (q, n, L, c, o, R)) (hz : bSz (q2, n, L2, c2, o2, R2)) (ho : o2 + (if q = 6 then 1 else 0) = o + (if q2 = 6 then 1 else 0)) (hr : ∀ i, i < 5 * n ∨ 5 * n + 5 ≤ i → R2 i = R i) (hc : bCu q2 n L2 c2 R2) : bInv (q2, n, L2, c2, o2, R2) := by
  obtain ⟨_, h2, h3, _, h5⟩ := h
  simp only at h2 h3 h5
  refine ⟨hz, fun k hk => kRow_cg (fun j hj => hr _ (Or.inl ?_)) (h2 k hk), ?_, fun _ => hc, fun k hk hk2 => bFr_cg (fun j hj => hr _ (Or.inr ?_)) (h5 k hk hk2)⟩
  · simp only at hk; omega
  · show kAsN R2 n + _ = o2
    rw [kAsN_cg n (fun j hj => hr j (Or.inl hj))]
    simp only
    omega
  · simp only at hk; omega
set_option maxRecDepth 100000 in
theorem bPc0 : ∀ h, h < 64 → pc6 h = 0 → h = 0 := by decide
set_option maxRecDepth 100000 in
set_option maxHeartbeats 4000000 in
theorem bBit : ∀ m, m < 6 → ∀ h, h < 64 → h < 2 ^ m → (nI h ||| ((1 : Int32) <<< (nI m &&& 31)) = nI (h + 2 ^ m)) ∧ pc6 (h + 2 ^ m) = pc6 h + 1 ∧ (h + 2 ^ m) / 2 ^ m = 1 ∧ h + 2 ^ m < 64 := by decide
set_option maxRecDepth 100000 in
theorem bShr : ∀ m, m < 6 → ∀ h, h < 64 → ((nI h >>> (nI m &&& 31) = 0) ↔ h < 2 ^ m) := by decide
set_option maxRecDepth 100000 in
theorem bBc : ∀ h, h < 64 → bc (nI h) = nI (pc6 h) := by decide
theorem bTop {h L m : Nat} (e : h / 2 ^ L = 1) : L < m ↔ h < 2 ^ m := by
  have p : 0 < 2 ^ L := Nat.two_pow_pos L
  have e1 : h < 2 ^ (L + 1) := by
    have := (Nat.div_lt_iff_lt_mul p).mp (show h / 2 ^ L < 2 by omega)
    rw [Nat.pow_succ]
    omega
  have e2 : 2 ^ L ≤ h := by
    have := (Nat.le_div_iff_mul_le p).mp (show 1 ≤ h / 2 ^ L by omega)
    omega
  constructor
  · intro hl
    exact Nat.lt_of_lt_of_le e1 (Nat.pow_le_pow_right (by decide) hl)
  · intro hl
    exact (Nat.pow_lt_pow_iff_right (by decide)).mp (Nat.lt_of_le_of_lt e2 hl)
theorem bInv_0 : bInv bA0 := by
  refine ⟨⟨by decide, by decide, by decide, by decide, by decide⟩, fun k hk => absurd hk (Nat.not_lt_zero k), rfl, fun _ => ?_, fun k _ _ => ?_⟩
  · refine ⟨⟨0, by decide, rfl, rfl, fun h => absurd h (by decide)⟩, fun _ => ⟨rfl, rfl⟩, fun h => absurd h (by decide), fun h => absurd h (by decide), Or.inl ⟨rfl, rfl⟩, fun _ => rfl, Or.inl rfl, fun _ => rfl, fun h => absurd h (by decide), fun h => absurd h (by decide), fun _ => rfl⟩
  · refine ⟨?_, ?_, ?_, ?_, ?_⟩
    · exact if_pos (by omega)
    · exact if_neg (by omega)
    · exact if_neg (by omega)
    · exact if_neg (by omega)
    · exact if_pos (by omega)
set_option maxHeartbeats 4000000 in
theorem bInv_step {A B : bS} {s : Nat} (hs : s ≤ 126) (h : bInv A) (e : bStep A s = some B) : bInv B := by
  have hz := bStep_sz hs h.1 e
  obtain ⟨q, n, L, c, o, R⟩ := A
  have h0 := h
  obtain ⟨z, h2, h3, h4, h5⟩ := h
  simp only at h2 h3 h4 h5
  have zq : q ≤ 6 := z.1
  have zn : n ≤ 10 := z.2.1
  have zc : c ≤ 3 := z.2.2.1
  simp only [bStep] at e
  by_cases e10 : n = 10
  · rw [if_pos e10] at e; cases e
  rw [if_neg e10] at e
  obtain ⟨u1, u2, u3, u4, u5, u6, u7, u8, u9, u10, u11⟩ := h4 (by omega)
  by_cases ea : 97 ≤ s ∧ s < 97 + n
  · rw [if_pos ea] at e
    by_cases q0 : q = 0
    · rw [if_pos q0] at e
      cases e
      have f : ∀ i, i ≠ 5 * n + 1 → upd R (5 * n + 1) (nI (s - 97)) i = R i := fun i hi => upN _ _ _ _ hi
      refine bInv_up h0 hz (by simp [q0]) (fun i hi => f i (by omega)) ⟨?_, fun q => absurd q (by decide), fun _ => ⟨by omega, upS _ _ _, ?_⟩, fun q => absurd q (by decide), Or.inr (Or.inl ⟨s - 97, by omega, upS _ _ _, ?_⟩), fun _ => ?_, ?_, fun _ => u8 (by omega), fun q => absurd q (by decide), fun q => absurd q (by decide), fun _ => ?_⟩
      · have hc := u8 (by omega)
        obtain ⟨h, k1, k2, k3, k4⟩ := u1
        exact ⟨h, k1, by rw [f _ (by omega)]; exact k2, k3, fun h => absurd h (by omega)⟩
      · rw [f _ (by omega)]; exact (u2 q0).2
      · rw [f _ (by omega)]; exact (u2 q0).2
      · rw [f _ (by omega)]; exact u6 (by omega)
      · unfold bTl; rw [f _ (by omega)]; exact u7
      · rw [f _ (by omega)]; exact u11 (by omega)
    rw [if_neg q0] at e
    by_cases q1 : q = 1
    · rw [if_pos q1] at e
      by_cases hl : L < s - 97
      · rw [if_pos hl] at e
        cases e
        obtain ⟨v1, v2, v3⟩ := u3 q1
        have f : ∀ i, i ≠ 5 * n + 2 → upd R (5 * n + 2) (nI (s - 97)) i = R i := fun i hi => upN _ _ _ _ hi
        have w : ∃ a b, a < b ∧ b < n ∧ upd R (5 * n + 2) (nI (s - 97)) (5 * n + 1) = nI a ∧ upd R (5 * n + 2) (nI (s - 97)) (5 * n + 2) = nI b := ⟨L, s - 97, by omega, by omega, by rw [f _ (by omega)]; exact v2, upS _ _ _⟩
        refine bInv_up h0 hz (by simp [q1]) (fun i hi => f i (by omega)) ⟨?_, fun q => absurd q (by decide), fun q => absurd q (by decide), fun _ => w, Or.inr (Or.inr w), fun _ => ?_, ?_, fun _ => u8 (by omega), fun q => absurd q (by decide), fun q => absurd q (by decide), fun _ => ?_⟩
        · have hc := u8 (by omega)
          obtain ⟨h, k1, k2, k3, k4⟩ := u1
          exact ⟨h, k1, by rw [f _ (by omega)]; exact k2, k3, fun h => absurd h (by omega)⟩
        · rw [f _ (by omega)]; exact u6 (by omega)
        · unfold bTl; rw [f _ (by omega)]; exact u7
        · rw [f _ (by omega)]; exact u11 (by omega)
      · rw [if_neg hl] at e; cases e
    rw [if_neg q1] at e
    by_cases q3 : q = 3
    · rw [if_pos q3] at e
      cases e
      have f : ∀ i, i ≠ 5 * n + 3 → upd R (5 * n + 3) (nI (s - 97)) i = R i := fun i hi => upN _ _ _ _ hi
      refine bInv_up h0 hz (by simp [q3]) (fun i hi => f i (by omega)) ⟨?_, fun q => absurd q (by decide), fun q => absurd q (by decide), fun q => absurd q (by decide), ?_, fun q => absurd q (by decide), Or.inr ⟨s - 97, by omega, upS _ _ _⟩, fun _ => u8 (by omega), fun q => absurd q (by decide), fun q => absurd q (by decide), fun _ => ?_⟩
      · have hc := u8 (by omega)
        obtain ⟨h, k1, k2, k3, k4⟩ := u1
        exact ⟨h, k1, by rw [f _ (by omega)]; exact k2, k3, fun h => absurd h (by omega)⟩
      · unfold bFm; rw [f _ (by omega), f _ (by omega)]; exact u5
      · rw [f _ (by omega)]; exact u11 (by omega)
    rw [if_neg q3] at e
    cases e
  rw [if_neg ea] at e
  by_cases ep : s = 43
  · rw [if_pos ep] at e
    by_cases q3 : q < 3
    · rw [if_pos q3] at e
      cases e
      exact bInv_up h0 hz (by rw [if_neg (by omega), if_neg (by decide)]) (fun i hi => rfl) ⟨u1, fun q => absurd q (by decide), fun q => absurd q (by decide), fun q => absurd q (by decide), u5, fun _ => u6 (by omega), u7, fun _ => u8 (by omega), fun q => absurd q (by decide), fun q => absurd q (by decide), fun _ => u11 (by omega)⟩
    · rw [if_neg q3] at e; cases e
  rw [if_neg ep] at e
  by_cases em : 65 ≤ s ∧ s ≤ 70
  · rw [if_pos em] at e
    by_cases hc : q ≠ 3 ∧ q ≠ 6 ∧ c < 3 ∧ (c = 0 ∨ L < s)
    · rw [if_pos hc] at e
      cases e
      have f : ∀ i, i ≠ 5 * n → upd R (5 * n) (R (5 * n) ||| ((1 : Int32) <<< (nI (s - 65) &&& 31))) i = R i := fun i hi => upN _ _ _ _ hi
      refine bInv_up h0 hz (by rw [if_neg hc.2.1, if_neg (by decide)]) (fun i hi => f i (by omega)) ⟨?_, fun q => absurd q (by decide), fun q => absurd q (by decide), fun q => absurd q (by decide), ?_, fun q => absurd q (by decide), ?_, fun q => absurd q (by decide), fun _ => by omega, fun q => absurd q (by decide), fun _ => ?_⟩
      · obtain ⟨h, k1, k2, k3, k4⟩ := u1
        have hm : h < 2 ^ (s - 65) := by
          by_cases c0 : c = 0
          · rw [bPc0 h k1 (by omega)]; exact Nat.two_pow_pos _
          · obtain ⟨y1, y2, y3⟩ := k4 (by omega)
            exact (bTop y3).mp (by omega)
        obtain ⟨w1, w2, w3, w4⟩ := bBit (s - 65) (by omega) h k1 hm
        refine ⟨h + 2 ^ (s - 65), w4, ?_, by omega, fun _ => ⟨by omega, by omega, w3⟩⟩
        rw [upS, k2]
        exact w1
      · unfold bFm; rw [f _ (by omega), f _ (by omega)]; exact u5
      · unfold bTl; rw [f _ (by omega)]; exact u7
      · rw [f _ (by omega)]; exact u11 (by omega)
    · rw [if_neg hc] at e; cases e
  rw [if_neg em] at e
  by_cases ek : s = 63
  · rw [if_pos ek] at e
    by_cases hc : q ≠ 3 ∧ q ≠ 6 ∧ c < 3 ∧ o < 4
    · rw [if_pos hc] at e
      cases e
      have f : ∀ i, i ≠ 5 * n + 4 → upd R (5 * n + 4) 1 i = R i := fun i hi => upN _ _ _ _ hi
      refine bInv_up h0 hz (by rw [if_neg hc.2.1, if_pos rfl]) (fun i hi => f i (by omega)) ⟨?_, fun q => absurd q (by decide), fun q => absurd q (by decide), fun q => absurd q (by decide), ?_, fun q => absurd q (by decide), ?_, fun q => absurd q (by decide), fun q => absurd q (by decide), fun _ => upS _ _ _, fun q => absurd rfl q⟩
      · unfold bHd; rw [f _ (by omega)]; exact u1
      · unfold bFm; rw [f _ (by omega), f _ (by omega)]; exact u5
      · unfold bTl; rw [f _ (by omega)]; exact u7
    · rw [if_neg hc] at e; cases e
  rw [if_neg ek] at e
  by_cases ee : s = 59 ∧ 4 < q
  · rw [if_pos ee] at e
    cases e
    have hrow : kRow R n := by
      obtain ⟨h, k1, k2, k3, k4⟩ := u1
      refine ⟨⟨h, k1, k2, by omega, fun z => ?_⟩, ?_, ?_, u7, ?_⟩
      · by_cases q6 : q = 6
        · exact u10 q6
        · have := u9 (by omega)
          subst z
          have : pc6 0 = 0 := rfl
          omega
      · rcases u5 with x | ⟨a, x1, x2, x3⟩ | ⟨a, b, x1, x2, x3, x4⟩
        · exact Or.inl x.1
        · exact Or.inr ⟨a, x1, x2⟩
        · exact Or.inr ⟨a, by omega, x3⟩
      · rcases u5 with x | ⟨a, x1, x2, x3⟩ | ⟨a, b, x1, x2, x3, x4⟩
        · exact Or.inl x.2
        · exact Or.inl x3
        · exact Or.inr ⟨a, b, x1, x2, x3, x4⟩
      · by_cases q6 : q = 6
        · exact Or.inr (u10 q6)
        · exact Or.inl (u11 q6)
    refine ⟨hz, fun k hk => ?_, ?_, fun h10 => ?_, fun k hk hk2 => h5 k (by simp only at hk; omega) hk2⟩
    · simp only at hk ⊢
      by_cases hkn : k = n
      · rw [hkn]; exact hrow
      · exact h2 k (by omega)
    · show kAsN R n + (if R (5 * n + 4) = 1 then 1 else 0) + (if (0 : Nat) = 6 then 1 else 0) = o
      by_cases q6 : q = 6
      · rw [u10 q6, if_pos rfl, if_neg (by decide)]
        rw [if_pos q6] at h3
        omega
      · rw [u11 q6, if_neg (by decide), if_neg (by decide)]
        rw [if_neg q6] at h3
        omega
    · obtain ⟨x0, x1, x2, x3, x4⟩ := h5 (n + 1) (by omega) h10
      show bCu 0 (n + 1) 0 0 R
      exact ⟨⟨0, by decide, x0, rfl, fun h => absurd h (by decide)⟩, fun _ => ⟨x1, x2⟩, fun q => absurd q (by decide), fun q => absurd q (by decide), Or.inl ⟨x1, x2⟩, fun _ => x3, Or.inl x3, fun _ => rfl, fun q => absurd q (by decide), fun q => absurd q (by decide), fun _ => x4⟩
  · rw [if_neg ee] at e; cases e
theorem bInv_run {P : Nat → Int32} {n : Nat} (hP : bSg n P) : ∀ d k (A B : bS), k + d = n → bInv A → bRun P k d A = some B → bInv B := by
  intro d
  induction d with
  | zero => intro k A B _ h e; cases e; exact h
  | succ d ih =>
    intro k A B hk h e
    obtain ⟨s, s1, s2, es⟩ := hP k (by omega)
    cases hb : bStep A (Int32.toNatClampNeg (P k)) with
    | none => simp only [bRun, hb] at e; cases e
    | some C =>
      simp only [bRun, hb] at e
      rw [es, nI_clamp (by omega)] at hb
      exact ih (k + 1) C B (by omega) (bInv_step s2 h hb) e
