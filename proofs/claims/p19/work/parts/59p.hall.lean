/-! how many can be fed: by the shortage of sets (Hall, with numbers) -/
def hsum (f : Nat → Nat) : Nat → Nat
  | 0 => 0
  | n + 1 => hsum f n + f n
theorem hsum_cg {f g : Nat → Nat} : ∀ n, (∀ j, j < n → f j = g j) → hsum f n = hsum g n
  | 0, _ => rfl
  | n + 1, h => by
    show hsum f n + f n = hsum g n + g n
    rw [hsum_cg n (fun j hj => h j (by omega)), h n (by omega)]
theorem hsum_le {f g : Nat → Nat} : ∀ n, (∀ j, j < n → f j ≤ g j) → hsum f n ≤ hsum g n
  | 0, _ => Nat.le_refl _
  | n + 1, h => by
    show hsum f n + f n ≤ hsum g n + g n
    exact Nat.add_le_add (hsum_le n (fun j hj => h j (by omega))) (h n (by omega))
theorem hsum_add {f g : Nat → Nat} : ∀ n, hsum (fun j => f j + g j) n = hsum f n + hsum g n
  | 0 => rfl
  | n + 1 => by
    show hsum (fun j => f j + g j) n + (f n + g n) = hsum f n + f n + (hsum g n + g n)
    rw [hsum_add n]
    omega
theorem hsum_b {f : Nat → Nat} {b : Nat} : ∀ n, (∀ j, j < n → f j ≤ b) → hsum f n ≤ b * n
  | 0, _ => Nat.zero_le _
  | n + 1, h => by
    show hsum f n + f n ≤ b * (n + 1)
    have := hsum_b n (fun j hj => h j (by omega))
    have := h n (by omega)
    rw [Nat.mul_succ]
    omega
theorem hsum_one {a : Nat} : ∀ n, a < n → hsum (fun j => if j = a then 1 else 0) n = 1
  | 0, h => absurd h (Nat.not_lt_zero a)
  | n + 1, h => by
    show hsum (fun j => if j = a then 1 else 0) n + (if n = a then 1 else 0) = 1
    by_cases q : n = a
    · rw [if_pos q]
      have : ∀ m, m ≤ a → hsum (fun j => if j = a then 1 else 0) m = 0 := by
        intro m
        induction m with
        | zero => intro _; rfl
        | succ m ih =>
          intro hm
          show hsum (fun j => if j = a then 1 else 0) m + (if m = a then 1 else 0) = 0
          rw [ih (by omega), if_neg (by omega)]
      rw [this n (by omega)]
    · rw [if_neg q, hsum_one n (by omega)]
def hMx (f : Nat → Nat) : Nat → Nat
  | 0 => 0
  | n + 1 => max (hMx f n) (f n)
theorem hMx_le {f : Nat → Nat} {k : Nat} : ∀ n, k < n → f k ≤ hMx f n
  | 0, h => absurd h (Nat.not_lt_zero k)
  | n + 1, h => by
    show f k ≤ max (hMx f n) (f n)
    by_cases q : k = n
    · subst q; exact Nat.le_max_right _ _
    · exact Nat.le_trans (hMx_le n (by omega)) (Nat.le_max_left _ _)
theorem hMx_ub {f : Nat → Nat} {b : Nat} : ∀ n, (∀ k, k < n → f k ≤ b) → hMx f n ≤ b
  | 0, _ => Nat.zero_le _
  | n + 1, h => Nat.max_le.mpr ⟨hMx_ub n (fun k hk => h k (by omega)), h n (by omega)⟩
def hAny (f : Nat → Bool) : Nat → Bool
  | 0 => false
  | n + 1 => hAny f n || f n
theorem hAny_iff {f : Nat → Bool} : ∀ n, hAny f n = true ↔ ∃ j, j < n ∧ f j = true
  | 0 => ⟨fun h => absurd (show false = true from h) Bool.false_ne_true, fun ⟨j, h, _⟩ => absurd h (Nat.not_lt_zero j)⟩
  | n + 1 => by
    show (hAny f n || f n) = true ↔ _
    rw [Bool.or_eq_true, hAny_iff n]
    constructor
    · rintro (⟨j, h1, h2⟩ | h)
      · exact ⟨j, by omega, h2⟩
      · exact ⟨n, by omega, h⟩
    · rintro ⟨j, h1, h2⟩
      by_cases q : j = n
      · subst q; exact Or.inr h2
      · exact Or.inl ⟨j, by omega, h2⟩
def hDec (L : Nat → Nat) (t : Nat) : Nat → Nat := fun k => if k = t then L k - 1 else L k
def hV (o : (Nat → Nat) → Nat) (r : Nat → Bool) (L : Nat → Nat) (t : Nat) : Nat := if r t = true ∧ 0 < L t then 1 + o (hDec L t) else 0
/-- the most that can be fed of the last c men -/
def hO (y : Nat → Nat → Bool) : Nat → (Nat → Nat) → Nat
  | 0, _ => 0
  | c + 1, L => max (hO y c L) (hMx (hV (hO y c) (y (5 - c)) L) 10)
def hN (y : Nat → Nat → Bool) (S : Nat → Bool) (t : Nat) : Bool := hAny (fun j => S j && y j t) 6
def hK (S : Nat → Bool) : Nat := hsum (fun j => if S j = true then 1 else 0) 6
def hC (y : Nat → Nat → Bool) (L : Nat → Nat) (S : Nat → Bool) : Nat := hsum (fun t => if hN y S t = true then L t else 0) 10
def hT (c : Nat) (S : Nat → Bool) : Prop := ∀ j, S j = true → 6 - c ≤ j ∧ j < 6
theorem hO_none (y : Nat → Nat → Bool) (c : Nat) (L : Nat → Nat) : hO y c L ≤ hO y (c + 1) L := Nat.le_max_left _ _
theorem hO_t {y : Nat → Nat → Bool} {c t : Nat} {L : Nat → Nat} (ht : t < 10) : hV (hO y c) (y (5 - c)) L t ≤ hO y (c + 1) L := Nat.le_trans (hMx_le 10 ht) (Nat.le_max_right _ _)
theorem hO_ub {y : Nat → Nat → Bool} {c b : Nat} {L : Nat → Nat} (h0 : hO y c L ≤ b) (h : ∀ t, t < 10 → hV (hO y c) (y (5 - c)) L t ≤ b) : hO y (c + 1) L ≤ b := Nat.max_le.mpr ⟨h0, hMx_ub 10 h⟩
theorem hO_c (y : Nat → Nat → Bool) : ∀ c L, hO y c L ≤ c
  | 0, L => Nat.le_refl _
  | c + 1, L => hO_ub (Nat.le_succ_of_le (hO_c y c L)) (fun t _ => by
    unfold hV
    by_cases q : y (5 - c) t = true ∧ 0 < L t
    · rw [if_pos q]; have := hO_c y c (hDec L t); omega
    · rw [if_neg q]; omega)
theorem hN_iff {y : Nat → Nat → Bool} {S : Nat → Bool} {t : Nat} : hN y S t = true ↔ ∃ j, j < 6 ∧ S j = true ∧ y j t = true := by
  unfold hN
  rw [hAny_iff]
  constructor
  · rintro ⟨j, h, e⟩
    rw [Bool.and_eq_true] at e
    exact ⟨j, h, e.1, e.2⟩
  · rintro ⟨j, h, e1, e2⟩
    exact ⟨j, h, by rw [e1, e2]; rfl⟩
theorem hC_mono {y : Nat → Nat → Bool} {L : Nat → Nat} {S T : Nat → Bool} (h : ∀ j, j < 6 → S j = true → T j = true) : hC y L S ≤ hC y L T := by
  refine hsum_le 10 (fun t _ => ?_)
  by_cases q : hN y S t = true
  · obtain ⟨j, h1, h2, h3⟩ := hN_iff.mp q
    rw [if_pos q, if_pos (hN_iff.mpr ⟨j, h1, h j h1 h2, h3⟩)]
    exact Nat.le_refl _
  · rw [if_neg q]; exact Nat.zero_le _
theorem hsum_dec {p : Nat → Bool} {L : Nat → Nat} {t : Nat} : ∀ n, hsum (fun k => if p k = true then hDec L t k else 0) n + (if t < n ∧ p t = true ∧ 0 < L t then 1 else 0) = hsum (fun k => if p k = true then L k else 0) n
  | 0 => by rw [if_neg (fun h => absurd h.1 (Nat.not_lt_zero t))]; rfl
  | n + 1 => by
    show hsum (fun k => if p k = true then hDec L t k else 0) n + (if p n = true then hDec L t n else 0) + _ = hsum (fun k => if p k = true then L k else 0) n + (if p n = true then L n else 0)
    rw [← hsum_dec (p := p) (L := L) (t := t) n]
    unfold hDec
    by_cases q : n = t
    · subst q
      rw [if_neg (c := n < n ∧ _) (fun h => Nat.lt_irrefl n h.1)]
      by_cases c1 : p n = true
      · rw [if_pos c1, if_pos c1, if_pos rfl]
        by_cases c2 : 0 < L n
        · rw [if_pos ⟨by omega, c1, c2⟩]; omega
        · rw [if_neg (fun h => c2 h.2.2)]; omega
      · rw [if_neg c1, if_neg c1, if_neg (fun h => c1 h.2.1)]
    · rw [if_neg q]
      by_cases c1 : t < n ∧ p t = true ∧ 0 < L t
      · rw [if_pos c1, if_pos (c := t < n + 1 ∧ _) ⟨by omega, c1.2⟩]; omega
      · rw [if_neg c1, if_neg (c := t < n + 1 ∧ _) (fun h => c1 ⟨by omega, h.2⟩)]; omega
theorem hC_dec {y : Nat → Nat → Bool} {L : Nat → Nat} {S : Nat → Bool} {t : Nat} (ht : t < 10) : hC y (hDec L t) S + (if hN y S t = true ∧ 0 < L t then 1 else 0) = hC y L S := by
  have := hsum_dec (p := hN y S) (L := L) (t := t) 10
  unfold hC
  by_cases q : hN y S t = true ∧ 0 < L t
  · rw [if_pos q]; rw [if_pos ⟨ht, q⟩] at this; exact this
  · rw [if_neg q]; rw [if_neg (fun h => q h.2)] at this; exact this
/-- S without a man -/
def hW (S : Nat → Bool) (m : Nat) : Nat → Bool := fun j => S j && !decide (j = m)
theorem hW_t {S : Nat → Bool} {m j : Nat} : hW S m j = true ↔ S j = true ∧ j ≠ m := by
  unfold hW
  rw [Bool.and_eq_true, Bool.not_eq_true', decide_eq_false_iff_not]
theorem hK_W {S : Nat → Bool} {m : Nat} (hm : m < 6) : hK S = hK (hW S m) + (if S m = true then 1 else 0) := by
  by_cases q : S m = true
  · rw [if_pos q]
    unfold hK
    have e1 := hsum_one (a := m) 6 hm
    refine Eq.trans ?_ (congrArg (fun z => hsum (fun j => if hW S m j = true then 1 else 0) 6 + z) e1)
    show _ = _ + _
    rw [← hsum_add]
    refine hsum_cg 6 (fun j _ => ?_)
    by_cases e : j = m
    · subst e
      rw [if_pos q, if_pos rfl, if_neg (fun h => (hW_t.mp h).2 rfl)]
    · rw [if_neg e]
      by_cases s : S j = true
      · rw [if_pos s, if_pos (hW_t.mpr ⟨s, e⟩)]
      · rw [if_neg s, if_neg (fun h => s (hW_t.mp h).1)]
  · rw [if_neg q]
    unfold hK
    refine hsum_cg 6 (fun j _ => ?_)
    by_cases s : S j = true
    · rw [if_pos s, if_pos (hW_t.mpr ⟨s, fun e => q (by rw [← e]; exact s)⟩)]
    · rw [if_neg s, if_neg (fun h => s (hW_t.mp h).1)]
theorem hT_W {c : Nat} {S : Nat → Bool} (hc : c + 1 ≤ 6) (h : hT (c + 1) S) : hT c (hW S (5 - c)) := fun j hj => by
  have h1 := hW_t.mp hj
  have h2 := h j h1.1
  have h3 := h1.2
  omega
theorem hall_le {y : Nat → Nat → Bool} : ∀ c, c ≤ 6 → ∀ L S, hT c S → hO y c L + hK S ≤ c + hC y L S := by
  intro c
  induction c with
  | zero =>
    intro _ L S hS
    have : hK S ≤ 0 * 6 := hsum_b 6 (fun j hj => by
      rw [if_neg (fun h => by have := hS j h; omega)]; exact Nat.le_refl _)
    show 0 + hK S ≤ _
    omega
  | succ c ih =>
    intro hc L S hS
    have hk := hK_W (S := S) (m := 5 - c) (by omega)
    have hmo : ∀ L, hC y L (hW S (5 - c)) ≤ hC y L S := fun L => hC_mono (fun j _ h => (hW_t.mp h).1)
    have b1 : (if S (5 - c) = true then 1 else 0) ≤ 1 := by
      by_cases q : S (5 - c) = true
      · rw [if_pos q]; exact Nat.le_refl _
      · rw [if_neg q]; exact Nat.zero_le _
    have key : hO y (c + 1) L ≤ c + 1 + hC y L S - hK S := by
      refine hO_ub ?_ (fun t ht => ?_)
      · have h1 := ih (by omega) L _ (hT_W hc hS)
        have h2 := hmo L
        omega
      · unfold hV
        by_cases q : y (5 - c) t = true ∧ 0 < L t
        · rw [if_pos q]
          have h1 := ih (by omega) (hDec L t) _ (hT_W hc hS)
          have h2 := hmo (hDec L t)
          have h3 := hC_dec (y := y) (L := L) (S := S) ht
          by_cases s : S (5 - c) = true
          · rw [if_pos s] at hk
            rw [if_pos ⟨hN_iff.mpr ⟨5 - c, by omega, s, q.1⟩, q.2⟩] at h3
            omega
          · rw [if_neg s] at hk
            omega
        · rw [if_neg q]; omega
    have h1 := ih (by omega) L _ (hT_W hc hS)
    have h2 := hmo L
    omega
def hU (S T : Nat → Bool) : Nat → Bool := fun j => S j || T j
def hI (S T : Nat → Bool) : Nat → Bool := fun j => S j && T j
theorem hK_UI (S T : Nat → Bool) : hK (hU S T) + hK (hI S T) = hK S + hK T := by
  unfold hK
  rw [← hsum_add, ← hsum_add]
  refine hsum_cg 6 (fun j _ => ?_)
  unfold hU hI
  cases S j <;> cases T j <;> rfl
theorem hC_UI (y : Nat → Nat → Bool) (L : Nat → Nat) (S T : Nat → Bool) : hC y L (hU S T) + hC y L (hI S T) ≤ hC y L S + hC y L T := by
  unfold hC
  rw [← hsum_add, ← hsum_add]
  refine hsum_le 10 (fun t _ => ?_)
  have h1 : hN y (hU S T) t = true → hN y S t = true ∨ hN y T t = true := fun h => by
    obtain ⟨j, a, b, c⟩ := hN_iff.mp h
    unfold hU at b
    rw [Bool.or_eq_true] at b
    rcases b with b | b
    · exact Or.inl (hN_iff.mpr ⟨j, a, b, c⟩)
    · exact Or.inr (hN_iff.mpr ⟨j, a, b, c⟩)
  have h2 : hN y (hI S T) t = true → hN y S t = true ∧ hN y T t = true := fun h => by
    obtain ⟨j, a, b, c⟩ := hN_iff.mp h
    unfold hI at b
    rw [Bool.and_eq_true] at b
    exact ⟨hN_iff.mpr ⟨j, a, b.1, c⟩, hN_iff.mpr ⟨j, a, b.2, c⟩⟩
  by_cases p : hN y (hI S T) t = true
  · have := h2 p
    rw [if_pos p, if_pos this.1, if_pos this.2]
    by_cases q : hN y (hU S T) t = true
    · rw [if_pos q]; exact Nat.le_refl _
    · rw [if_neg q]; omega
  · rw [if_neg p]
    by_cases q : hN y (hU S T) t = true
    · rw [if_pos q]
      rcases h1 q with h | h
      · rw [if_pos h]; omega
      · rw [if_pos h]; omega
    · rw [if_neg q]; omega
theorem hall_ex {y : Nat → Nat → Bool} : ∀ c, c ≤ 6 → ∀ L, ∃ S, hT c S ∧ c + hC y L S ≤ hO y c L + hK S := by
  intro c
  induction c with
  | zero =>
    intro _ L
    refine ⟨fun _ => false, fun j h => (by cases h), ?_⟩
    have : hC y L (fun _ => false) ≤ 0 * 10 := hsum_b 10 (fun t _ => by
      rw [if_neg (fun h => by obtain ⟨j, _, b, _⟩ := hN_iff.mp h; cases b)]; exact Nat.le_refl _)
    omega
  | succ c ih =>
    intro hc L
    refine Classical.byContradiction fun hno => ?_
    have hb : ∀ S, hT (c + 1) S → hO y (c + 1) L + hK S ≤ c + hC y L S := fun S hS => by
      refine Classical.byContradiction fun q => hno ⟨S, hS, ?_⟩
      omega
    have up : ∀ S, hT c S → hT (c + 1) S := fun S h j hj => by have := h j hj; omega
    obtain ⟨S0, t0, e0⟩ := ih (by omega) L
    have n0 := hO_none y c L
    have tg : ∀ t, t < 10 → y (5 - c) t = true → 0 < L t → ∃ S, hT c S ∧ hO y (c + 1) L + hK S = c + hC y L S ∧ hN y S t = true := by
      intro t ht h1 h2
      obtain ⟨S, s1, s2⟩ := ih (by omega) (hDec L t)
      have h3 := hO_t (y := y) (c := c) (L := L) ht
      unfold hV at h3
      rw [if_pos ⟨h1, h2⟩] at h3
      have h4 := hC_dec (y := y) (L := L) (S := S) ht
      have h5 := hb S (up S s1)
      by_cases q : hN y S t = true
      · rw [if_pos ⟨q, h2⟩] at h4
        exact ⟨S, s1, by omega, q⟩
      · rw [if_neg (fun h => q h.1)] at h4
        omega
    have un : ∀ S T, hT c S → hT c T → hO y (c + 1) L + hK S = c + hC y L S → hO y (c + 1) L + hK T = c + hC y L T → hT c (hU S T) ∧ hO y (c + 1) L + hK (hU S T) = c + hC y L (hU S T) := by
      intro S T hS hT1 eS eT
      have tu : hT c (hU S T) := fun j hj => by
        unfold hU at hj
        rw [Bool.or_eq_true] at hj
        rcases hj with h | h
        · exact hS j h
        · exact hT1 j h
      have ti : hT c (hI S T) := fun j hj => by
        unfold hI at hj
        rw [Bool.and_eq_true] at hj
        exact hS j hj.1
      have a1 := hb _ (up _ tu)
      have a2 := hb _ (up _ ti)
      have a3 := hK_UI S T
      have a4 := hC_UI y L S T
      exact ⟨tu, by omega⟩
    have all : ∀ k, k ≤ 10 → ∃ U, hT c U ∧ hO y (c + 1) L + hK U = c + hC y L U ∧ ∀ t, t < k → y (5 - c) t = true → 0 < L t → hN y U t = true := by
      intro k
      induction k with
      | zero =>
        intro _
        have := hb S0 (up _ t0)
        exact ⟨S0, t0, by omega, fun t h => absurd h (Nat.not_lt_zero t)⟩
      | succ k ihk =>
        intro hk
        obtain ⟨U, u1, u2, u3⟩ := ihk (by omega)
        by_cases q : y (5 - c) k = true ∧ 0 < L k
        · obtain ⟨S, s1, s2, s3⟩ := tg k (by omega) q.1 q.2
          obtain ⟨v1, v2⟩ := un U S u1 s1 u2 s2
          refine ⟨hU U S, v1, v2, fun t ht h1 h2 => ?_⟩
          by_cases e : t = k
          · subst e
            obtain ⟨j, a, b, d⟩ := hN_iff.mp s3
            exact hN_iff.mpr ⟨j, a, by unfold hU; rw [b, Bool.or_true], d⟩
          · obtain ⟨j, a, b, d⟩ := hN_iff.mp (u3 t (by omega) h1 h2)
            exact hN_iff.mpr ⟨j, a, by unfold hU; rw [b, Bool.true_or], d⟩
        · refine ⟨U, u1, u2, fun t ht h1 h2 => ?_⟩
          by_cases e : t = k
          · subst e; exact absurd ⟨h1, h2⟩ q
          · exact u3 t (by omega) h1 h2
    obtain ⟨U, u1, u2, u3⟩ := all 10 (Nat.le_refl _)
    have tv : hT (c + 1) (hU U (fun j => decide (j = 5 - c))) := fun j hj => by
      unfold hU at hj
      rw [Bool.or_eq_true] at hj
      rcases hj with h | h
      · exact up _ u1 j h
      · have := of_decide_eq_true h
        omega
    have cv := hb _ tv
    have kv : hK (hU U (fun j => decide (j = 5 - c))) = hK U + 1 := by
      rw [hK_W (m := 5 - c) (by omega), if_pos (by show (U (5 - c) || decide (5 - c = 5 - c)) = true; rw [decide_eq_true rfl, Bool.or_true])]
      congr 1
      refine hsum_cg 6 (fun j _ => ?_)
      by_cases s : U j = true
      · rw [if_pos s, if_pos (hW_t.mpr ⟨by unfold hU; rw [s]; rfl, fun e => by have := u1 j s; omega⟩)]
      · rw [if_neg s, if_neg (fun h => ?_)]
        have h1 := hW_t.mp h
        have h2 := h1.1
        unfold hU at h2
        rw [Bool.or_eq_true] at h2
        rcases h2 with h2 | h2
        · exact s h2
        · exact h1.2 (of_decide_eq_true h2)
    have cl : hC y L (hU U (fun j => decide (j = 5 - c))) ≤ hC y L U := by
      refine hsum_le 10 (fun t ht => ?_)
      by_cases q : hN y (hU U (fun j => decide (j = 5 - c))) t = true
      · rw [if_pos q]
        by_cases q2 : hN y U t = true
        · rw [if_pos q2]; exact Nat.le_refl _
        · rw [if_neg q2]
          obtain ⟨j, a, b, d⟩ := hN_iff.mp q
          unfold hU at b
          rw [Bool.or_eq_true] at b
          rcases b with b | b
          · exact absurd (hN_iff.mpr ⟨j, a, b, d⟩) q2
          · have e := of_decide_eq_true b
            subst e
            refine Classical.byContradiction fun z => q2 (u3 t ht d (by omega))
      · rw [if_neg q]; exact Nat.zero_le _
    omega
