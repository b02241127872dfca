/-! a fresh town: the class -/
theorem hb_0 {k : Nat} (hk : k < 32) : hb 0 (nI k) = false := by
  rw [hb_bt hk, b_0]
theorem kOr_0 {f : Nat → Int32} : ∀ n, (∀ k, k < n → f k = 0) → kOr f n = 0
  | 0, _ => rfl
  | n + 1, h => by
    show kOr f n ||| f n = 0
    rw [kOr_0 n (fun k hk => h k (by omega)), h n (by omega)]
    rfl
theorem kSm_0 {f : Nat → Int32} : ∀ n, (∀ k, k < n → f k = 0) → kSm f n = 0
  | 0, _ => rfl
  | n + 1, h => by
    show kSm f n + f n = 0
    rw [kSm_0 n (fun k hk => h k (by omega)), h n (by omega)]
    rfl
/-- nobody may have anything -/
def cZ (K : zMem) : Prop := ∀ j, j < 6 → K 28 j = 0
theorem cZ_lf {K : zMem} (h : cZ K) (men : Int32) : kLf K men = 0 := by
  have e : kThs K men = 0 := kOr_0 6 (fun k hk => by
    by_cases c : hb men (nI k) = true
    · rw [if_pos c]; exact h k hk
    · rw [if_neg c])
  unfold kLf
  rw [e]
  exact kSm_0 10 (fun k hk => if_neg (by rw [hb_0 (by omega)]; decide))
def cfm0 (men : Int32) : Nat → Int32
  | 0 => 0
  | n + 1 => if nI (n + 1) &&& (men ^^^ (-1)) = 0 then mx (cfm0 men n) (bc (nI (n + 1)) - 0) else cfm0 men n
theorem cZ_mfn {K : zMem} (h : cZ K) (men : Int32) : ∀ n, kMfn K men n = cfm0 men n
  | 0 => rfl
  | n + 1 => by
    show (if nI (n + 1) &&& (men ^^^ (-1)) = 0 then mx (kMfn K men n) (bc (nI (n + 1)) - kLf K (nI (n + 1))) else kMfn K men n) = cfm0 men (n + 1)
    rw [cZ_mfn h men n, cZ_lf h]
    rfl
theorem cZ_mf {K : zMem} (h : cZ K) : kMf K 63 = 0 := by
  unfold kMf
  rw [cZ_mfn h]
  decide +kernel
theorem cZ_tmn {K : zMem} (h : cZ K) {m : Nat} (hm : m < 6) (x2 x3 : Int32) : ∀ n k, k + n ≤ 32 → kTmn K (nI m) x2 x3 k n = (-6, K)
  | 0, _, _ => rfl
  | n + 1, k, hk => by
    unfold kTmn
    rw [nI_clamp (by omega), h m hm, if_neg (by rw [hb_0 (by omega)]; decide)]
    exact cZ_tmn h hm x2 x3 n (k + 1) (by omega)
theorem cZ_serve : ∀ n k (still : Int32) (K : zMem), k + n = 6 → cZ K → ∀ j, (j < k → K 30 j = -6) → j < 6 → (kServen k n still K) 30 j = -6 := by
  intro n
  induction n with
  | zero =>
    intro k still K hk h j hj h6
    exact hj (by omega)
  | succ n ih =>
    intro k still K hk h j hj h6
    unfold kServen
    have e : kTm K (nI k) still = (-6, K) := cZ_tmn h (by omega) _ _ 10 0 (by decide)
    rw [e]
    refine ih (k + 1) _ _ (by omega) ?_ j ?_ h6
    · intro i hi
      show zms K 30 k (-6) 28 i = 0
      rw [zms_ne _ _ _ _ 28 (by decide)]; exact h i hi
    · intro hj2
      show zms K 30 k (-6) 30 j = -6
      rw [zms_at]
      by_cases q : j = k
      · rw [if_pos q]
      · rw [if_neg q]; exact hj (by omega)
section zI1
variable {F : zTS} {M : zMem}
theorem kLay_0 (ht : kTR M 10 F) (h0 : tN F = 0) : cZ (kLay M) := fun j hj => by
  rw [kLay_28 hj]
  unfold kLwf
  rw [kTR_cn ht, h0]
  rfl
theorem kv_fed_0 (ht : kTR M 10 F) (h0 : tN F = 0) (i : Int32) : kv_fed M i = if i = -1 then 0 else -6 := by
  have z := kLay_0 ht h0
  unfold kv_fed
  by_cases c : i = -1
  · rw [if_pos c, if_pos c]; exact cZ_mf z
  · rw [if_neg c, if_neg c]
    by_cases c2 : isM i = true
    · rw [if_pos c2]
      exact cZ_serve 6 0 _ _ rfl z _ (fun h => absurd h (Nat.not_lt_zero _)) (isM_n c2).1
    · rw [if_neg c2]
end zI1
/-! the matchmaker, where all sums are 0 -/
def ev (k : Nat) : Bool := decide (bc (nI k) - bc (nI k) / 2 * 2 = 0)
def ix2 (k a b : Nat) : Nat := Int32.toNatClampNeg ((nI k &&& (((1 : Int32) <<< (nI a &&& 31)) ^^^ (-1))) &&& (((1 : Int32) <<< (nI b &&& 31)) ^^^ (-1)))
theorem ix2_ev : ∀ k, k < 64 → ∀ a, a < 6 → ∀ b, b < 6 → (!ev k || (!bt (nI k) a || (!bt (nI k) b || (decide (a = b) || (ev (ix2 k a b) && decide (ix2 k a b < k)))))) = true := by decide +kernel
def cS (K : zMem) (n : Nat) : Prop := (∀ j, j < 6 → K 32 j = 0) ∧ ∀ j, j < n → ev j = true → K 33 j = 0
theorem kSW_0 {K : zMem} {n k a b : Nat} (h : cS K n) (hk : k < 64) (hn : k ≤ n) (he : ev k = true) (ha : a < 6) (hb : b < 6) (h1 : bt (nI k) a = true) (h2 : bt (nI k) b = true) (hab : a ≠ b) : kSW K (nI k) (nI a) (nI b) = 0 := by
  have q := ix2_ev k hk a ha b hb
  rw [he, h1, h2, show decide (a = b) = false by simp [hab]] at q
  simp only [Bool.not_true, Bool.false_or, Bool.and_eq_true, decide_eq_true_iff] at q
  unfold kSW
  rw [nI_clamp (n := a) (by omega), nI_clamp (n := b) (by omega), h.1 a ha, h.1 b hb]
  show bc (0 ^^^ 0) + K 33 (ix2 k a b) = 0
  rw [h.2 _ (by omega) q.1]
  rfl
theorem kBOn_in (K : zMem) (x a : Int32) (lo : Nat) : ∀ n k (b : Int32), k + n ≤ 6 → lo < k → (b = -6 ∨ ∃ j, lo < j ∧ j < k ∧ hb x (nI j) = true ∧ b = nI j) → (kBOn K x a k n b = -6 ∨ ∃ j, lo < j ∧ j < k + n ∧ hb x (nI j) = true ∧ kBOn K x a k n b = nI j)
  | 0, k, b, _, _, h => h
  | n + 1, k, b, hk, hl, h => by
    have up : b = -6 ∨ ∃ j, lo < j ∧ j < k + 1 ∧ hb x (nI j) = true ∧ b = nI j := by
      rcases h with h | ⟨j, h0, h1, h2⟩
      · exact Or.inl h
      · exact Or.inr ⟨j, h0, by omega, h2⟩
    have e : k + (n + 1) = k + 1 + n := by omega
    rw [e]
    unfold kBOn
    by_cases c : hb x (nI k) = true
    · rw [if_pos c]
      have nw : nI k = -6 ∨ ∃ j, lo < j ∧ j < k + 1 ∧ hb x (nI j) = true ∧ nI k = nI j := Or.inr ⟨k, hl, by omega, c, rfl⟩
      by_cases c2 : b = -6
      · rw [if_pos c2]; exact kBOn_in K x a lo n (k + 1) _ (by omega) (by omega) nw
      · rw [if_neg c2]
        by_cases c3 : kSW K x a b ≤ kSW K x a (nI k)
        · rw [if_pos c3]; exact kBOn_in K x a lo n (k + 1) _ (by omega) (by omega) up
        · rw [if_neg c3]; exact kBOn_in K x a lo n (k + 1) _ (by omega) (by omega) nw
    · rw [if_neg c]; exact kBOn_in K x a lo n (k + 1) _ (by omega) (by omega) up
theorem kBO_in {K : zMem} {x : Int32} {a : Nat} (ha : a < 6) : kBO K x (nI a) = -6 ∨ ∃ j, a < j ∧ j < 6 ∧ hb x (nI j) = true ∧ kBO K x (nI a) = nI j := by
  unfold kBO
  rw [nI_clamp (by omega)]
  rcases kBOn_in K x (nI a) a (5 - a) (a + 1) (-6) (by omega) (by omega) (Or.inl rfl) with q | ⟨j, j0, j1, j2⟩
  · exact Or.inl q
  · exact Or.inr ⟨j, j0, by omega, j2⟩
theorem kLSm_0 {K : zMem} {k : Nat} (h : cS K k) (hk : k < 64) (he : ev k = true) : kLSm K (nI k) = 0 := by
  unfold kLSm
  by_cases c : isM (kLO (nI k)) = true
  · rw [if_pos c]
    by_cases c2 : isM (kBO K (nI k) (kLO (nI k))) = true
    · rw [if_pos c2]
      obtain ⟨a6, ea⟩ := isM_n c
      have ha : bt (nI k) (Int32.toNatClampNeg (kLO (nI k))) = true := by
        by_cases z : k = 0
        · subst z; exact absurd c (by decide)
        · have q := kLO_sp0 k hk
          rw [show (k == 0) = false by simp [z], Bool.false_or] at q
          simp only [Bool.and_eq_true] at q
          exact q.2.2.1
      rw [ea] at c2 ⊢
      rcases kBO_in (K := K) (x := nI k) a6 with q | ⟨j, j0, j1, j2, j3⟩
      · rw [q] at c2; exact absurd c2 (by decide)
      · rw [j3]
        rw [hb_bt (by omega)] at j2
        exact kSW_0 h hk (Nat.le_refl _) he a6 j1 ha j2 (by omega)
    · rw [if_neg c2]
  · rw [if_neg c]
theorem kSUn_0 : ∀ n k (K : zMem), k + n = 64 → cS K k → cS (kSUn 63 k n K) 64 ∧ ∀ p, p ≠ 33 → (kSUn 63 k n K) p = K p := by
  intro n
  induction n with
  | zero =>
    intro k K hk h
    have e : k = 64 := by omega
    subst e
    exact ⟨h, fun _ _ => rfl⟩
  | succ n ih =>
    intro k K hk h
    unfold kSUn
    have go : ∀ K2 : zMem, cS K2 (k + 1) → (∀ p, p ≠ 33 → K2 p = K p) → cS (kSUn 63 (k + 1) n K2) 64 ∧ ∀ p, p ≠ 33 → (kSUn 63 (k + 1) n K2) p = K p := fun K2 h2 h3 => by
      obtain ⟨i1, i2⟩ := ih (k + 1) K2 (by omega) h2
      exact ⟨i1, fun p hp => (i2 p hp).trans (h3 p hp)⟩
    have sub : ∀ k, k < 64 → nI k &&& ((63 : Int32) ^^^ (-1)) = 0 := by decide +kernel
    rw [if_pos (sub k (by omega))]
    by_cases c : bc (nI k) - bc (nI k) / 2 * 2 = 0
    · rw [if_pos c]
      have he : ev k = true := by unfold ev; simp [c]
      rw [kLSm_0 h (by omega) he]
      refine go _ ⟨?_, fun j hj hej => ?_⟩ (fun p hp => zms_ne _ _ _ _ p hp)
      · rw [zms_ne _ _ _ _ 32 (by decide)]; exact h.1
      · rw [zms_at]
        by_cases q : j = k
        · rw [if_pos q]
        · rw [if_neg q]; exact h.2 j (by omega) hej
    · rw [if_neg c]
      refine go K ⟨h.1, fun j hj hej => ?_⟩ (fun _ _ => rfl)
      by_cases q : j = k
      · subst q
        unfold ev at hej
        exact absurd (by simpa using hej) c
      · exact h.2 j (by omega) hej
/-- the first other, where all sums are 0 -/
theorem kBOn_k {K : zMem} {s a : Nat} (h : cS K 64) (hs : s < 64) (he : ev s = true) (ha : a < 6) (h1 : bt (nI s) a = true) {b : Nat} (hb6 : b < 6) (hab : a ≠ b) (h2 : bt (nI s) b = true) : ∀ n k, k + n ≤ 6 → a < k → kBOn K (nI s) (nI a) k n (nI b) = nI b
  | 0, _, _, _ => rfl
  | n + 1, k, hk, hl => by
    unfold kBOn
    by_cases c : hb (nI s) (nI k) = true
    · rw [if_pos c, if_neg (nI_ne6 (by omega))]
      rw [hb_bt (by omega)] at c
      rw [kSW_0 h hs (by omega) he ha hb6 h1 h2 hab, kSW_0 h hs (by omega) he ha (by omega) h1 c (by omega), if_pos (by decide)]
      exact kBOn_k h hs he ha h1 hb6 hab h2 n (k + 1) (by omega) (by omega)
    · rw [if_neg c]
      exact kBOn_k h hs he ha h1 hb6 hab h2 n (k + 1) (by omega) (by omega)
theorem kBO_1 {K : zMem} {s a : Nat} (h : cS K 64) (hs : s < 64) (he : ev s = true) (ha : a < 5) (h1 : bt (nI s) a = true) (h2 : bt (nI s) (a + 1) = true) : kBO K (nI s) (nI a) = nI (a + 1) := by
  unfold kBO
  rw [nI_clamp (by omega), show 5 - a = (4 - a) + 1 by omega]
  show (if hb (nI s) (nI (a + 1)) = true then (if (-6 : Int32) = -6 then kBOn K (nI s) (nI a) (a + 1 + 1) (4 - a) (nI (a + 1)) else _) else _) = _
  rw [hb_bt (by omega), if_pos h2, if_pos rfl]
  exact kBOn_k h hs he (by omega) h1 (by omega) (by omega) h2 _ _ (by omega) (by omega)
theorem cS_34 {K : zMem} {i : Nat} {v : Int32} (h : cS K 64) : cS (zms K 34 i v) 64 := by
  refine ⟨?_, ?_⟩
  · rw [zms_ne _ _ _ _ 32 (by decide)]; exact h.1
  · rw [zms_ne _ _ _ _ 33 (by decide)]; exact h.2
theorem kCh_0 {K : zMem} (h : cS K 64) : (∀ j, j < 6 → (kCh K 63) 34 j = pB j) ∧ (kCh K 63) 33 = K 33 := by
  have b01 : kBO K (nI 63) (nI 0) = nI 1 := kBO_1 h (by decide) (by decide) (by decide) (by decide) (by decide)
  have e : kCh K 63 = zms (zms (zms (zms (zms (zms K 34 0 1) 34 1 0) 34 2 3) 34 3 2) 34 4 5) 34 5 4 := by
    unfold kCh
    show kChn 0 6 (nI 63) K = _
    unfold kChn
    rw [if_pos (by decide), b01, if_pos (by decide)]
    have hK1 : cS (zms (zms K 34 0 (nI 1)) 34 (Int32.toNatClampNeg (nI 1)) (nI 0)) 64 := cS_34 (cS_34 h)
    generalize hK1e : zms (zms K 34 0 (nI 1)) 34 (Int32.toNatClampNeg (nI 1)) (nI 0) = K1 at hK1
    have x1 : nI 63 &&& ((((1 : Int32) <<< (nI 0 &&& 31)) ^^^ (-1)) &&& (((1 : Int32) <<< ((nI 1) &&& 31)) ^^^ (-1))) = nI 60 := by decide
    rw [x1]
    unfold kChn
    rw [if_neg (by decide)]
    have b23 : kBO K1 (nI 60) (nI 2) = nI 3 := kBO_1 hK1 (by decide) (by decide) (by decide) (by decide) (by decide)
    unfold kChn
    rw [if_pos (by decide), b23, if_pos (by decide)]
    have hK2 : cS (zms (zms K1 34 2 (nI 3)) 34 (Int32.toNatClampNeg (nI 3)) (nI 2)) 64 := cS_34 (cS_34 hK1)
    generalize hK2e : zms (zms K1 34 2 (nI 3)) 34 (Int32.toNatClampNeg (nI 3)) (nI 2) = K2 at hK2
    have x2 : nI 60 &&& ((((1 : Int32) <<< (nI 2 &&& 31)) ^^^ (-1)) &&& (((1 : Int32) <<< ((nI 3) &&& 31)) ^^^ (-1))) = nI 48 := by decide
    rw [x2]
    unfold kChn
    rw [if_neg (by decide)]
    have b45 : kBO K2 (nI 48) (nI 4) = nI 5 := kBO_1 hK2 (by decide) (by decide) (by decide) (by decide) (by decide)
    unfold kChn
    rw [if_pos (by decide), b45, if_pos (by decide)]
    have x3 : nI 48 &&& ((((1 : Int32) <<< (nI 4 &&& 31)) ^^^ (-1)) &&& (((1 : Int32) <<< ((nI 5) &&& 31)) ^^^ (-1))) = nI 0 := by decide
    rw [x3]
    unfold kChn
    rw [if_neg (by decide)]
    unfold kChn
    rw [← hK2e, ← hK1e]
    rfl
  rw [e]
  refine ⟨fun j hj => ?_, ?_⟩
  · have : j = 0 ∨ j = 1 ∨ j = 2 ∨ j = 3 ∨ j = 4 ∨ j = 5 := by omega
    rcases this with rfl | rfl | rfl | rfl | rfl | rfl <;> rfl
  · rw [zms_ne _ _ _ _ 33 (by decide), zms_ne _ _ _ _ 33 (by decide), zms_ne _ _ _ _ 33 (by decide), zms_ne _ _ _ _ 33 (by decide), zms_ne _ _ _ _ 33 (by decide), zms_ne _ _ _ _ 33 (by decide)]
theorem kArn_z (k : Nat) (x : Int32) (K : zMem) : kArn k 0 x K = ((kCh (kSU K x) x) 33 (Int32.toNatClampNeg x), kCh (kSU K x) x) := rfl
theorem kSU_e (K : zMem) : kSU K 63 = kSUn 63 1 63 K := rfl
section zI2
variable {F : zTS} {M : zMem}
theorem kArr_0 (h11 : M 11 5 = 0) (h17 : ∀ j, j < 6 → M 17 j = -6) (h33 : M 33 0 = 0) : (kArr M).1 = 0 ∧ ∀ j, j < 6 → (kArr M).2 34 j = pB j := by
  have L : ∀ n k (x : Int32) (K : zMem), k + n = 6 → K 11 5 = 0 → (∀ j, j < 6 → K 17 j = -6) → K 33 0 = 0 → (∀ j, j < k → K 32 j = 0) → x = kOr (fun j => (1 : Int32) <<< (nI j &&& 31)) k → (kArn k n x K).1 = 0 ∧ ∀ j, j < 6 → (kArn k n x K).2 34 j = pB j := by
    intro n
    induction n with
    | zero =>
      intro k x K hk a1 a2 a3 a4 ax
      have e : k = 6 := by omega
      subst e
      have ex : x = 63 := by rw [ax]; decide
      subst ex
      have c1 : cS K 1 := ⟨a4, fun j hj _ => by
        have : j = 0 := by omega
        rw [this]; exact a3⟩
      obtain ⟨s1, s2⟩ := kSUn_0 63 1 K rfl c1
      have es := kSU_e K
      obtain ⟨r1, r2⟩ := kCh_0 (K := kSU K 63) (by rw [es]; exact s1)
      rw [kArn_z]
      generalize kSU K 63 = K2 at *
      generalize kCh K2 63 = K3 at *
      refine ⟨?_, r1⟩
      show K3 33 (Int32.toNatClampNeg 63) = 0
      rw [r2, es, show Int32.toNatClampNeg (63 : Int32) = 63 from rfl]
      have q := s1.2 63 (by decide) (by decide)
      exact q
    | succ n ih =>
      intro k x K hk a1 a2 a3 a4 ax
      unfold kArn
      have et : kTnt K (nI k) = 0 := by
        unfold kTnt kCN
        rw [a1]
        rfl
      rw [et, if_pos (a2 k (by omega))]
      refine ih (k + 1) _ _ (by omega) ?_ ?_ ?_ ?_ ?_
      · rw [zms_ne _ _ _ _ 11 (by decide), zms_ne _ _ _ _ 11 (by decide)]; exact a1
      · rw [zms_ne _ _ _ _ 17 (by decide), zms_ne _ _ _ _ 17 (by decide)]; exact a2
      · rw [zms_ne _ _ _ _ 33 (by decide), zms_ne _ _ _ _ 33 (by decide)]; exact a3
      · intro j hj
        rw [zms_ne _ _ _ _ 32 (by decide), zms_at]
        by_cases q : j = k
        · rw [if_pos q]
        · rw [if_neg q]; exact a4 j (by omega)
      · rw [ax]; rfl
  exact L 6 0 0 M rfl h11 h17 h33 (fun j hj => absurd hj (Nat.not_lt_zero j)) rfl
end zI2
section zI3
variable {P : Nat → Int32} {F : zTS} {I : Nat → Option zTS} {M : zMem} {g : Nat → Option Nat} {X : List zShp}
/-- the fresh state, as far as p1 needs more of it -/
def kFr (F : zTS) (M : zMem) : Prop := tN F = 0 ∧ (∀ j, j < 6 → fP F j = -6) ∧ M 33 0 = 0
def kSf (M : zMem) (g : Nat → Option Nat) (X : List zShp) : Prop := ∃ P F I, kOk 0 P F I M g X ∧ kFr F M
theorem pf_fault (hok : kOk 0 P F I M g X) : kPr kEi 1 m_O_fault m_X_fault [] M g X := by
  have e : (kRd M).1 = -6 := by
    unfold kRd
    rw [hok.2.2.2.1.1]
    rfl
  refine kPr_e (V := -6) hok (zEx_mono (ex_O_fault g X M (kCJ_pad hok.1 hok.2.2.2.1)) (qR_w (fun r M1 h => ⟨by rw [h.1, e], h.2⟩))) (fun M1 h hc => ex2_X_fault g X M1 ⟨0, kMJ_pd hok.1 hok.2.1 h⟩ ?_)
  exact h.1
theorem pf_fed {n : Nat} (hok : kOk n P F I M g X) (hf : kFr F M) (i : Int32) : kPr kEi 1 m_O_fed m_X_fed [.int i] M g X := by
  refine kPr_e (V := if i = -1 then 0 else -6) hok (zEx_mono (ex_O_fed g X M i ⟨kCJ_cnt hok.2.2.1 hok.2.2.2.1, kCJ_dpt hok.2.2.1 hok.2.2.2.1⟩) (qR_w (fun r M1 h => ⟨by rw [h.1]; exact kv_fed_0 hok.2.2.2.1.2.2.1 hf.1 i, h.2⟩))) (fun M1 h hc => ex2_X_fed g X M1 i (kMF_mK hok.2.2.1 h.2.2.1) ?_)
  rw [h.2.2.1.2.2.2.2.1, hok.2.2.1.1.1, hf.1]
  rfl
theorem pf_married {n : Nat} (hok : kOk n P F I M g X) (hf : kFr F M) (i : Int32) : kPr kEi 1 m_O_married m_X_married [.int i] M g X := by
  have h11 : M 11 5 = 0 := by
    rw [show M 11 5 = fT F from hok.2.2.2.1.2.2.1.1, hok.2.2.1.1.1, hf.1]
    rfl
  have h17 : ∀ j, j < 6 → M 17 j = -6 := fun j hj => by
    rw [show M 17 j = fP F j from hok.2.2.2.1.2.2.1.2.2.2.2.2.1 j hj]
    exact hf.2.1 j hj
  obtain ⟨a1, a2⟩ := kArr_0 h11 h17 hf.2.2
  have ev : kv_married M i = if i = -1 then 0 else if isM i = true then pB (Int32.toNatClampNeg i) else -6 := by
    unfold kv_married
    by_cases c : i = -1
    · rw [if_pos c, if_pos c]; exact a1
    · rw [if_neg c, if_neg c]
      by_cases c2 : isM i = true
      · rw [if_pos c2, if_pos c2]; exact a2 _ (isM_n c2).1
      · rw [if_neg c2, if_neg c2]
  refine kPr_e (V := if i = -1 then 0 else if isM i = true then pB (Int32.toNatClampNeg i) else -6) hok (zEx_mono (ex_O_married g X M i ⟨kCJ_cnt hok.2.2.1 hok.2.2.2.1, kCJ_dpt hok.2.2.1 hok.2.2.2.1⟩) (qR_w (fun r M1 h => ⟨by rw [h.1]; exact ev, h.2⟩))) (fun M1 h hc => ex2_X_married g X M1 i (kMF_mK hok.2.2.1 h.2.2.1) ?_ (fun j hj => ?_))
  · rw [h.2.2.1.2.2.2.2.1, hok.2.2.1.1.1, hf.1]
    rfl
  · rw [h.2.2.1.2.2.2.1 j hj]; exact hf.2.1 j hj
end zI3
