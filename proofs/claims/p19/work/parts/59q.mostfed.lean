/-! the class counts by shortages: as many as can be fed -/
/-- the men's things and the loaves left, in the class's rows -/
def hR (M : zMem) (y : Nat → Nat → Bool) (L : Nat → Nat) : Prop := (∀ k, k < 10 → M 29 k = nI (L k) ∧ L k ≤ 9) ∧ ∀ j, j < 6 → ∀ k, k < 10 → bt (M 28 j) k = y j k
def hSg (s : Nat) : Nat → Bool := fun j => bt (nI s) j
theorem kSm_n {f : Nat → Int32} {h : Nat → Nat} : ∀ n, (∀ k, k < n → f k = nI (h k)) → kSm f n = nI (hsum h n)
  | 0, _ => rfl
  | n + 1, e => by
    show kSm f n + f n = nI (hsum h n + h n)
    rw [kSm_n n (fun k hk => e k (by omega)), e n (by omega), nI_add]
theorem hSg_k : ∀ s, s < 64 → bc (nI s) = nI (hK (fun j => bt (nI s) j)) := by decide +kernel
theorem hSg_t0 : ∀ c, c < 7 → ∀ s, s < 64 → ((nI s &&& (nI (64 - 2 ^ (6 - c)) ^^^ (-1)) = 0) ↔ ∀ j, j < 6 → bt (nI s) j = true → 6 - c ≤ j) := by decide +kernel
theorem hSg_t {c s : Nat} (hc : c ≤ 6) (hs : s < 64) : (nI s &&& (nI (64 - 2 ^ (6 - c)) ^^^ (-1)) = 0) ↔ hT c (hSg s) := by
  rw [hSg_t0 c (by omega) s hs]
  constructor
  · intro h j hj
    exact ⟨h j (b_seti hs hj) hj, b_seti hs hj⟩
  · intro h j _ hj
    exact (h j hj).1
theorem hSg_ex {c : Nat} {S : Nat → Bool} (h : hT c S) : ∃ s, s < 64 ∧ S = hSg s := by
  have hb : ∀ i, bt (kOr (fun j => if S j = true then (1 : Int32) <<< (nI j &&& 31) else 0) 6) i = true ↔ S i = true := by
    intro i
    rw [kOr_bt]
    constructor
    · rintro ⟨k, hk, h2⟩
      by_cases q : S k = true
      · rw [if_pos q] at h2
        have := (b_one_m hk i).mp h2
        rw [this]; exact q
      · rw [if_neg q, b_0] at h2; cases h2
    · intro q
      exact ⟨i, (h i q).2, by rw [if_pos q]; exact (b_one_m (h i q).2 i).mpr rfl⟩
  obtain ⟨s, hs, e⟩ := b_set (y := kOr (fun j => if S j = true then (1 : Int32) <<< (nI j &&& 31) else 0) 6) (fun i hi => (h i ((hb i).mp hi)).2)
  refine ⟨s, hs, funext fun j => ?_⟩
  unfold hSg
  rw [← e]
  exact (Bool.eq_iff_iff.mpr (hb j)).symm
theorem mx_sub : ∀ d, d < 7 → ∀ a, a < 7 → ∀ b, b < 91 → mx (nI d) (nI a - nI b) = nI (if d + b < a then a - b else d) := by decide +kernel
theorem tm_bc : ∀ c, c < 7 → bc (nI (64 - 2 ^ (6 - c))) = nI c := by decide +kernel
theorem tm_be : ∀ k, k < 6 → ((63 : Int32) &&& (-((2 : Int32) <<< (nI k &&& 31)))) = nI (64 - 2 ^ (6 - (5 - k))) := by decide +kernel
section zH1
variable {M : zMem} {y : Nat → Nat → Bool} {L : Nat → Nat}
theorem kThs_n (h : hR M y L) {s t : Nat} (ht : t < 10) : hb (kThs M (nI s)) (nI t) = hN y (hSg s) t := by
  rw [hb_bt (by omega)]
  refine Bool.eq_iff_iff.mpr ?_
  unfold kThs
  rw [kOr_bt, hN_iff]
  constructor
  · rintro ⟨j, hj, h2⟩
    by_cases q : hb (nI s) (nI j) = true
    · rw [if_pos q, h.2 j hj t ht] at h2
      rw [hb_bt (by omega)] at q
      exact ⟨j, hj, q, h2⟩
    · rw [if_neg q, b_0] at h2; cases h2
  · rintro ⟨j, hj, h1, h2⟩
    refine ⟨j, hj, ?_⟩
    rw [if_pos (by rw [hb_bt (by omega)]; exact h1), h.2 j hj t ht]
    exact h2
theorem kLf_hC (h : hR M y L) (s : Nat) : kLf M (nI s) = nI (hC y L (hSg s)) := by
  unfold kLf hC
  refine kSm_n 10 (fun k hk => ?_)
  rw [kThs_n h hk]
  by_cases q : hN y (hSg s) k = true
  · rw [if_pos q, if_pos q]; exact (h.1 k hk).1
  · rw [if_neg q, if_neg q]; rfl
theorem hC_90 (h : hR M y L) (S : Nat → Bool) : hC y L S ≤ 90 := by
  have : hC y L S ≤ 9 * 10 := hsum_b 10 (fun k hk => by
    by_cases q : hN y S k = true
    · rw [if_pos q]; exact (h.1 k hk).2
    · rw [if_neg q]; exact Nat.zero_le _)
  omega
theorem hK_6 (S : Nat → Bool) : hK S ≤ 6 := by
  have : hK S ≤ 1 * 6 := hsum_b 6 (fun k hk => by
    by_cases q : S k = true
    · rw [if_pos q]; exact Nat.le_refl _
    · rw [if_neg q]; exact Nat.zero_le _)
  omega
theorem kMfn_n (h : hR M y L) {c : Nat} (hc : c ≤ 6) : ∀ n, n ≤ 63 → ∃ d, d ≤ 6 ∧ kMfn M (nI (64 - 2 ^ (6 - c))) n = nI d ∧ (∀ s, 1 ≤ s → s ≤ n → hT c (hSg s) → hK (hSg s) ≤ d + hC y L (hSg s)) ∧ (d = 0 ∨ ∃ s, s ≤ n ∧ hT c (hSg s) ∧ d + hC y L (hSg s) = hK (hSg s)) := by
  intro n
  induction n with
  | zero => intro _; exact ⟨0, by omega, rfl, fun s h1 h2 => absurd h1 (by omega), Or.inl rfl⟩
  | succ n ih =>
    intro hn
    obtain ⟨d, d6, e, b1, b2⟩ := ih (by omega)
    unfold kMfn
    by_cases q : nI (n + 1) &&& (nI (64 - 2 ^ (6 - c)) ^^^ (-1)) = 0
    · have ht := (hSg_t hc (by omega)).mp q
      have k6 := hK_6 (hSg (n + 1))
      have c90 := hC_90 h (hSg (n + 1))
      rw [if_pos q, e, kLf_hC h, hSg_k (n + 1) (by omega)]
      show ∃ d, d ≤ 6 ∧ mx _ (nI (hK (hSg (n + 1))) - _) = _ ∧ _
      rw [mx_sub d (by omega) _ (by omega) _ (by omega)]
      by_cases q2 : d + hC y L (hSg (n + 1)) < hK (hSg (n + 1))
      · rw [if_pos q2]
        refine ⟨_, by omega, rfl, fun s h1 h2 h3 => ?_, Or.inr ⟨n + 1, by omega, ht, by omega⟩⟩
        by_cases e1 : s = n + 1
        · subst e1; omega
        · have := b1 s h1 (by omega) h3
          omega
      · rw [if_neg q2]
        refine ⟨d, d6, rfl, fun s h1 h2 h3 => ?_, ?_⟩
        · by_cases e1 : s = n + 1
          · subst e1; omega
          · exact b1 s h1 (by omega) h3
        · rcases b2 with b2 | ⟨s, s1, s2⟩
          · exact Or.inl b2
          · exact Or.inr ⟨s, by omega, s2⟩
    · rw [if_neg q]
      refine ⟨d, d6, e, fun s h1 h2 h3 => ?_, ?_⟩
      · by_cases e1 : s = n + 1
        · subst e1; exact absurd ((hSg_t hc (by omega)).mpr h3) q
        · exact b1 s h1 (by omega) h3
      · rcases b2 with b2 | ⟨s, s1, s2⟩
        · exact Or.inl b2
        · exact Or.inr ⟨s, by omega, s2⟩
theorem kMf_o (h : hR M y L) {c : Nat} (hc : c ≤ 6) : kMf M (nI (64 - 2 ^ (6 - c))) = nI (hO y c L) := by
  obtain ⟨d, d6, e, b1, b2⟩ := kMfn_n h hc 63 (Nat.le_refl _)
  unfold kMf
  have oc := hO_c y c L
  have le : hO y c L + d ≤ c := by
    rcases b2 with b2 | ⟨s, s1, s2, s3⟩
    · omega
    · have := hall_le c hc L (hSg s) s2 (y := y)
      omega
  have ge : c ≤ hO y c L + d := by
    obtain ⟨S, s1, s2⟩ := hall_ex c hc L (y := y)
    obtain ⟨s, hs, es⟩ := hSg_ex s1
    subst es
    by_cases q : s = 0
    · subst q
      have : hK (hSg 0) = 0 := by decide +kernel
      omega
    · have := b1 s (by omega) (by omega) s1
      omega
  rw [e, tm_bc c (by omega), pk_sub (by omega)]
  exact congrArg nI (by omega)
theorem hR_st (h : hR M y L) {p i : Nat} {v : Int32} (h1 : p ≠ 28) (h2 : p ≠ 29) : hR (zms M p i v) y L := by
  unfold hR
  rw [zms_ne M p i v 28 (Ne.symm h1), zms_ne M p i v 29 (Ne.symm h2)]
  exact h
theorem hR_dec (h : hR M y L) {t : Nat} (ht : t < 10) (h0 : 0 < L t) : hR (zms M 29 t (M 29 t - 1)) y (hDec L t) := by
  refine ⟨fun k hk => ?_, ?_⟩
  · rw [zms_row]
    unfold hDec
    by_cases q : k = t
    · subst q
      obtain ⟨a, b⟩ := h.1 k hk
      rw [pk_us, if_pos rfl, a]
      refine ⟨?_, by omega⟩
      rw [show (1 : Int32) = nI 1 from rfl, pk_sub (by omega)]
    · rw [pk_un q, if_neg q]; exact h.1 k hk
  · rw [zms_ne M 29 t _ 28 (by decide)]; exact h.2
end zH1
/-- the first of some numbers; their end: none -/
def hPk (q : Nat → Bool) : Nat → Nat → Nat
  | k, 0 => k
  | k, n + 1 => if q k = true then k else hPk q (k + 1) n
def hQ (y : Nat → Nat → Bool) (c : Nat) (L : Nat → Nat) (t : Nat) : Bool := y (5 - c) t && decide (0 < L t) && decide (1 + hO y c (hDec L t) = hO y (c + 1) L)
def hPick (y : Nat → Nat → Bool) (c : Nat) (L : Nat → Nat) : Nat := hPk (hQ y c L) 0 10
def hNx (L : Nat → Nat) (p : Nat) : Nat → Nat := if p < 10 then hDec L p else L
/-- the first plan by men that feeds the most: what man j has; 10 is none -/
def hP (y : Nat → Nat → Bool) : Nat → (Nat → Nat) → Nat → Nat
  | 0, _, _ => 10
  | c + 1, L, j => if j = 5 - c then hPick y c L else hP y c (hNx L (hPick y c L)) j
def hE (p : Nat) : Int32 := if p < 10 then nI p else -6
theorem hPk_ge {q : Nat → Bool} : ∀ n k, k ≤ hPk q k n ∧ hPk q k n ≤ k + n
  | 0, k => ⟨Nat.le_refl _, Nat.le_refl _⟩
  | n + 1, k => by
    unfold hPk
    by_cases c : q k = true
    · rw [if_pos c]; omega
    · rw [if_neg c]
      have := hPk_ge (q := q) n (k + 1)
      omega
theorem hPk_no {q : Nat → Bool} : ∀ n k j, k ≤ j → j < hPk q k n → q j = false
  | 0, k, j, h1, h2 => by
    have : j < k := h2
    omega
  | n + 1, k, j, h1, h2 => by
    unfold hPk at h2
    by_cases c : q k = true
    · rw [if_pos c] at h2; omega
    · rw [if_neg c] at h2
      by_cases e : j = k
      · subst e; exact Bool.eq_false_iff.mpr c
      · exact hPk_no n (k + 1) j (by omega) h2
theorem hPk_yes {q : Nat → Bool} : ∀ n k, hPk q k n < k + n → q (hPk q k n) = true
  | 0, k, h => absurd h (Nat.lt_irrefl k)
  | n + 1, k, h => by
    unfold hPk at h ⊢
    by_cases c : q k = true
    · rw [if_pos c]; exact c
    · rw [if_neg c] at h ⊢
      exact hPk_yes n (k + 1) (by omega)
theorem hPk_eq {q : Nat → Bool} {t : Nat} : ∀ n k, k ≤ t → t ≤ k + n → (∀ j, k ≤ j → j < t → q j = false) → (t < k + n → q t = true) → hPk q k n = t
  | 0, k, h1, h2, _, _ => by
    show k = t
    omega
  | n + 1, k, h1, h2, h3, h4 => by
    unfold hPk
    by_cases c : k = t
    · subst c; rw [if_pos (h4 (by omega))]
    · rw [if_neg (by rw [h3 k (Nat.le_refl _) (by omega)]; exact Bool.false_ne_true)]
      exact hPk_eq n (k + 1) (by omega) (by omega) (fun j a b => h3 j (by omega) b) (fun h => h4 (by omega))
theorem hQ_iff {y : Nat → Nat → Bool} {c t : Nat} {L : Nat → Nat} : hQ y c L t = true ↔ y (5 - c) t = true ∧ 0 < L t ∧ 1 + hO y c (hDec L t) = hO y (c + 1) L := by
  unfold hQ
  rw [Bool.and_eq_true, Bool.and_eq_true, decide_eq_true_iff, decide_eq_true_iff, and_assoc]
theorem hPick_10 (y : Nat → Nat → Bool) (c : Nat) (L : Nat → Nat) : hPick y c L ≤ 10 := by
  have := (hPk_ge (q := hQ y c L) 10 0).2
  exact this
/-- none is taken only where as many are fed without him -/
theorem hPick_none {y : Nat → Nat → Bool} {c : Nat} {L : Nat → Nat} (h : ¬ hPick y c L < 10) : hO y (c + 1) L = hO y c L := by
  have h1 := hO_none y c L
  refine Nat.le_antisymm (Classical.byContradiction fun q => ?_) h1
  refine q ?_
  have key : hO y (c + 1) L ≤ max (hO y c L) (hO y (c + 1) L - 1) := by
    refine hO_ub (Nat.le_max_left _ _) (fun t ht => ?_)
    have h2 : hV (hO y c) (y (5 - c)) L t ≤ hO y (c + 1) L := hO_t ht
    have h3 : hQ y c L t = false := hPk_no 10 0 t (Nat.zero_le _) (Nat.lt_of_lt_of_le ht (Nat.le_of_not_lt h))
    have h4 : hV (hO y c) (y (5 - c)) L t ≠ hO y (c + 1) L := fun e => by
      unfold hV at e
      by_cases z : y (5 - c) t = true ∧ 0 < L t
      · rw [if_pos z] at e
        rw [hQ_iff.mpr ⟨z.1, z.2, e⟩] at h3; cases h3
      · rw [if_neg z] at e
        omega
    exact Nat.le_trans (by omega) (Nat.le_max_right _ _)
  rcases Nat.le_total (hO y c L) (hO y (c + 1) L - 1) with z | z
  · rw [Nat.max_eq_right z] at key; omega
  · rw [Nat.max_eq_left z] at key; exact key
section zH2
variable {y : Nat → Nat → Bool}
theorem kTmn_n {M : zMem} {L : Nat → Nat} (h : hR M y L) {c : Nat} (hc : c < 6) : ∀ n k, k + n = 10 → kTmn M (nI (5 - c)) (nI (hO y (c + 1) L)) (nI (64 - 2 ^ (6 - c))) k n = (hE (hPk (hQ y c L) k n), if hPk (hQ y c L) k n < 10 then zms M 29 (hPk (hQ y c L) k n) (M 29 (hPk (hQ y c L) k n) - 1) else M) := by
  intro n
  induction n with
  | zero =>
    intro k hk
    have e : k = 10 := by omega
    subst e
    rfl
  | succ n ih =>
    intro k hk
    have oc := hO_c y (c + 1) L
    unfold kTmn hPk
    rw [nI_clamp (by omega), hb_bt (by omega), h.2 (5 - c) (by omega) k (by omega), (h.1 k (by omega)).1]
    have l9 := (h.1 k (by omega)).2
    by_cases a : y (5 - c) k = true
    · rw [if_pos a]
      by_cases b : 0 < L k
      · rw [if_neg (nI_nle b (by omega))]
        have hd := hR_dec h (t := k) (by omega) b
        rw [(h.1 k (by omega)).1] at hd
        rw [kMf_o hd (by omega)]
        have oc2 := hO_c y c (hDec L k)
        by_cases d : 1 + hO y c (hDec L k) = hO y (c + 1) L
        · rw [if_pos (by rw [show (1 : Int32) = nI 1 from rfl, nI_add, d]), if_pos (hQ_iff.mpr ⟨a, b, d⟩), if_pos (by omega), (h.1 k (by omega)).1]
          unfold hE
          rw [if_pos (by omega)]
        · rw [if_neg (fun e => d (by rw [show (1 : Int32) = nI 1 from rfl, nI_add, nI_eq (by omega) (by omega)] at e; exact e)), if_neg (fun e => d (hQ_iff.mp e).2.2)]
          exact ih (k + 1) (by omega)
      · rw [if_pos (by rw [show L k = 0 by omega]; decide), if_neg (fun e => b (hQ_iff.mp e).2.1)]
        exact ih (k + 1) (by omega)
    · rw [if_neg a, if_neg (fun e => a (hQ_iff.mp e).1)]
      exact ih (k + 1) (by omega)
theorem kServen_n : ∀ n k (M : zMem) (L : Nat → Nat), k + n = 6 → hR M y L → (∀ j, j < k → (kServen k n (nI (hO y n L)) M) 30 j = M 30 j) ∧ ∀ j, k ≤ j → j < 6 → (kServen k n (nI (hO y n L)) M) 30 j = hE (hP y n L j) := by
  intro n
  induction n with
  | zero => intro k M L hk h; exact ⟨fun _ _ => rfl, fun j h1 h2 => absurd h1 (by omega)⟩
  | succ n ih =>
    intro k M L hk h
    have ek : k = 5 - n := by omega
    have et : kTm M (nI k) (nI (hO y (n + 1) L)) = (hE (hPick y n L), if hPick y n L < 10 then zms M 29 (hPick y n L) (M 29 (hPick y n L) - 1) else M) := by
      unfold kTm
      rw [tm_be k (by omega), ek, show 5 - (5 - n) = n by omega]
      exact kTmn_n h (by omega) 10 0 rfl
    have oc := hO_c y (n + 1) L
    have e30 : ∀ v, (zms (kTm M (nI k) (nI (hO y (n + 1) L))).2 30 k v) 30 = upd (M 30) k v := fun v => by
      rw [zms_row, et]
      by_cases q : hPick y n L < 10
      · rw [if_pos q]
        show upd ((zms M 29 (hPick y n L) (M 29 (hPick y n L) - 1)) 30) k v = _
        rw [zms_ne _ _ _ _ 30 (by decide)]
      · rw [if_neg q]
    have main : ∀ (still : Int32) (L2 : Nat → Nat), still = nI (hO y n L2) → L2 = hNx L (hPick y n L) → hR (zms (kTm M (nI k) (nI (hO y (n + 1) L))).2 30 k (hE (hPick y n L))) y L2 → (∀ j, j < k → (kServen (k + 1) n still (zms (kTm M (nI k) (nI (hO y (n + 1) L))).2 30 k (hE (hPick y n L)))) 30 j = M 30 j) ∧ ∀ j, k ≤ j → j < 6 → (kServen (k + 1) n still (zms (kTm M (nI k) (nI (hO y (n + 1) L))).2 30 k (hE (hPick y n L)))) 30 j = hE (hP y (n + 1) L j) := by
      intro still L2 e1 e2 h2
      rw [e1]
      obtain ⟨i1, i2⟩ := ih (k + 1) _ L2 (by omega) h2
      refine ⟨fun j hj => ?_, fun j h3 h4 => ?_⟩
      · rw [i1 j (by omega), e30, pk_un (by omega)]
      · unfold hP
        by_cases q : j = k
        · rw [if_pos (by omega), i1 j (by omega), e30, q, pk_us]
        · rw [if_neg (by omega), i2 j (by omega) h4, e2]
    show (∀ j, j < k → (kServen (k + 1) n (if (kTm M (nI k) (nI (hO y (n + 1) L))).1 = -6 then nI (hO y (n + 1) L) else nI (hO y (n + 1) L) + (-1)) (zms (kTm M (nI k) (nI (hO y (n + 1) L))).2 30 k (kTm M (nI k) (nI (hO y (n + 1) L))).1)) 30 j = M 30 j) ∧ ∀ j, k ≤ j → j < 6 → (kServen (k + 1) n (if (kTm M (nI k) (nI (hO y (n + 1) L))).1 = -6 then nI (hO y (n + 1) L) else nI (hO y (n + 1) L) + (-1)) (zms (kTm M (nI k) (nI (hO y (n + 1) L))).2 30 k (kTm M (nI k) (nI (hO y (n + 1) L))).1)) 30 j = hE (hP y (n + 1) L j)
    rw [show (kTm M (nI k) (nI (hO y (n + 1) L))).1 = hE (hPick y n L) by rw [et]]
    by_cases q : hPick y n L < 10
    · have h3 := hQ_iff.mp (hPk_yes 10 0 (show hPick y n L < 0 + 10 by omega))
      refine main _ (hDec L (hPick y n L)) ?_ (by unfold hNx; rw [if_pos q]) ?_
      · have e6 : ¬ hE (hPick y n L) = -6 := by
          unfold hE
          rw [if_pos q]
          exact nI_ne6 (by omega)
        rw [if_neg e6]
        have h4 : hO y (n + 1) L = hO y n (hDec L (hPick y n L)) + 1 := by
          have := h3.2.2
          show hO y (n + 1) L = hO y n (hDec L (hPk (hQ y n L) 0 10)) + 1
          omega
        rw [h4, pk_m1]
      · refine hR_st ?_ (by decide) (by decide)
        rw [et, if_pos q]
        exact hR_dec h q h3.2.1
    · refine main _ L ?_ (by unfold hNx; rw [if_neg q]) ?_
      · rw [if_pos (by unfold hE; rw [if_neg q]), hPick_none q]
      · refine hR_st ?_ (by decide) (by decide)
        rw [et, if_neg q]
        exact h
end zH2
section zH3
variable {F : zTS} {Mc : zMem}
def hY (Mc : zMem) : Nat → Nat → Bool := fun j t => bt (kLwf Mc (nI j)) t
def hLF (F : zTS) : Nat → Nat := fun t => Int32.toNatClampNeg (fL F t)
theorem hLF_n (hw : kWF F) {t : Nat} (ht : t < 10) : fL F t = nI (hLF F t) ∧ hLF F t ≤ 9 := by
  obtain ⟨v, hv, e⟩ := hw.2.2.2.2.2.2.1 t ht
  unfold hLF
  rw [e, nI_clamp (by omega)]
  exact ⟨rfl, hv⟩
theorem hR_lay (hw : kWF F) (ht : kTR Mc 10 F) : hR (kLay Mc) (hY Mc) (hLF F) := by
  refine ⟨fun k hk => ?_, fun j hj k hk => ?_⟩
  · rw [kLay_29 ht hk]; exact hLF_n hw hk
  · rw [kLay_28 hj]; rfl
def hFed (F : zTS) (Mc : zMem) (i : Int32) : Int32 := if i = -1 then nI (hO (hY Mc) 6 (hLF F)) else if isM i = true then hE (hP (hY Mc) 6 (hLF F) (Int32.toNatClampNeg i)) else -6
theorem kv_fed_n (hw : kWF F) (ht : kTR Mc 10 F) (i : Int32) : kv_fed Mc i = hFed F Mc i := by
  have h := hR_lay hw ht
  have e63 : kMf (kLay Mc) 63 = nI (hO (hY Mc) 6 (hLF F)) := kMf_o h (c := 6) (by omega)
  unfold kv_fed hFed
  by_cases c : i = -1
  · rw [if_pos c, if_pos c]; exact e63
  · rw [if_neg c, if_neg c]
    by_cases c2 : isM i = true
    · rw [if_pos c2, if_pos c2]
      unfold kServe
      rw [e63]
      exact (kServen_n 6 0 _ _ rfl h).2 _ (Nat.zero_le _) (isM_n c2).1
    · rw [if_neg c2, if_neg c2]
end zH3
