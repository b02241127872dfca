/-! bits; ways back -/
theorem b_one : ∀ i, i < 32 → bt 1 i = decide (i = 0) := by decide +kernel
theorem b_and1 (y : Int32) : (y &&& 1 = 0) ↔ bt y 0 = false := by
  constructor
  · intro h
    have h2 := b_and y 1 0
    rw [h, b_0, b_one 0 (by decide)] at h2
    simpa using h2.symm
  · intro h
    refine b_ext (fun i hi => ?_)
    rw [b_and, b_0, b_one i hi]
    by_cases e : i = 0
    · subst e; rw [h]; rfl
    · simp [e]
theorem hb_bt {a : Int32} {k : Nat} (hk : k < 32) : hb a (nI k) = bt a k := by
  unfold hb
  have h := b_sshr k hk a (i := 0) (by decide)
  rw [if_pos (by omega), Nat.add_zero] at h
  have h1 := b_and1 (a >>> (nI k &&& 31))
  rw [h] at h1
  cases e : bt a k with
  | false => rw [e] at h1; simp [h1]
  | true =>
    rw [e] at h1
    have : ¬ (a >>> (nI k &&& 31)) &&& 1 = 0 := fun q => absurd (h1.mp q) (by decide)
    simp [this]
theorem b_1shl {k i : Nat} (hk : k < 32) (hi : i < 32) : bt ((1 : Int32) <<< (nI k &&& 31)) i = decide (i = k) := by
  rw [b_shl k hk 1 hi]
  by_cases h : k ≤ i
  · rw [b_one (i - k) (by omega)]
    have : (i - k = 0) ↔ (i = k) := by omega
    simp [h, this]
  · have : ¬ i = k := by omega
    simp [h, this]
theorem kOr_bt {f : Nat → Int32} {i : Nat} : ∀ n, bt (kOr f n) i = true ↔ ∃ k, k < n ∧ bt (f k) i = true
  | 0 => by
    show bt 0 i = true ↔ _
    rw [b_0]
    constructor
    · intro h; cases h
    · rintro ⟨k, h, _⟩; exact absurd h (Nat.not_lt_zero k)
  | n + 1 => by
    show bt (kOr f n ||| f n) i = true ↔ _
    rw [b_or, Bool.or_eq_true, kOr_bt n]
    constructor
    · rintro (⟨k, h1, h2⟩ | h)
      · exact ⟨k, by omega, h2⟩
      · exact ⟨n, by omega, h⟩
    · rintro ⟨k, h1, h2⟩
      by_cases e : k = n
      · subst e; exact Or.inr h2
      · exact Or.inl ⟨k, by omega, h2⟩
theorem kOr_cg {f g : Nat → Int32} : ∀ n, (∀ k, k < n → f k = g k) → kOr f n = kOr g n
  | 0, _ => rfl
  | n + 1, h => by
    show kOr f n ||| f n = kOr g n ||| g n
    rw [kOr_cg n (fun k hk => h k (by omega)), h n (by omega)]
theorem kOr_up {f : Nat → Int32} {n : Nat} : ∀ d, (∀ k, n ≤ k → k < n + d → f k = 0) → kOr f (n + d) = kOr f n
  | 0, _ => rfl
  | d + 1, h => by
    show kOr f (n + d) ||| f (n + d) = kOr f n
    rw [kOr_up d (fun k h1 h2 => h k h1 (by omega)), h (n + d) (by omega) (by omega)]
    exact Int32.or_zero
/-- from t one step back to b, by its k-th cell -/
def gEk (R : Nat → Int32) (tl : Prop) (k t b : Nat) : Prop := b < t ∧ (k < 3 ∨ tl) ∧ R (5 * t + k) = nI b
def gE (R : Nat → Int32) (tl : Prop) (t b : Nat) : Prop := ∃ k, 1 ≤ k ∧ k ≤ 3 ∧ gEk R tl k t b
def gW (R : Nat → Int32) (tl : Prop) (x : Nat) : Nat → Nat → Prop
  | 0, t => t = x
  | d + 1, b => ∃ t, gW R tl x d t ∧ gE R tl t b
theorem gW_le {R : Nat → Int32} {tl : Prop} {x : Nat} : ∀ {d t : Nat}, gW R tl x d t → t + d ≤ x
  | 0, t, h => by
    have : t = x := h
    omega
  | d + 1, b, ⟨t, h1, k, _, _, h2, _⟩ => by
    have := gW_le h1
    omega
def gCell (R : Nat → Int32) (t : Nat) : Prop := ∀ k, 1 ≤ k → k ≤ 3 → R (5 * t + k) = -6 ∨ ∃ a, a < t ∧ R (5 * t + k) = nI a
theorem kRow_cell {R : Nat → Int32} {t : Nat} (h : kRow R t) : gCell R t := by
  obtain ⟨-, r1, r2, r3, -⟩ := h
  intro k h1 h3
  have hk : k = 1 ∨ k = 2 ∨ k = 3 := by omega
  rcases hk with rfl | rfl | rfl
  · exact r1
  · rcases r2 with r | ⟨a, b, ha, hb, -, r⟩
    · exact Or.inl r
    · exact Or.inr ⟨b, hb, r⟩
  · exact r3
/-! the reference's walk -/
def gI (R : Nat → Int32) (tl : Prop) (x t0 : Nat) (s : Nat → Int32) (σ : Nat → Nat) : Prop := (∀ j, j < 10 → s j = nI (σ j)) ∧ (∀ j, j < 10 → σ j = 1000000 ∨ (σ j ≤ 9 ∧ gW R tl x (σ j) j)) ∧ σ x = 0 ∧ ∀ t, t0 ≤ t → ∀ d, gW R tl x d t → ∀ b, gE R tl t b → σ b ≤ d + 1
section zG1
variable {R : Nat → Int32} {x : Nat} {M : zMem}
/-- what is known of the made row -/
def gM (R : Nat → Int32) (x : Nat) (M : zMem) : Prop := x < 10 ∧ (∀ k, k < 50 → M 38 k = R k) ∧ ∀ t, t ≤ x → gCell R t
theorem gI_least {tl : Prop} {s : Nat → Int32} {σ : Nat → Nat} {t : Nat} (h : gI R tl x (t + 1) s σ) {d : Nat} (hw : gW R tl x d t) : σ t ≤ d := by
  cases d with
  | zero =>
    have e : t = x := hw
    rw [e, h.2.2.1]; exact Nat.zero_le _
  | succ d =>
    obtain ⟨u, h1, h2⟩ := hw
    obtain ⟨k, k1, k3, hb, he⟩ := h2
    exact h.2.2.2 u (by omega) d h1 t ⟨k, k1, k3, hb, he⟩
theorem gI_s1 (hM : gM R x M) {s : Nat → Int32} {σ : Nat → Nat} {t k : Nat} (ht : t ≤ x) (h1 : 1 ≤ k) (h3 : k ≤ 3) (h : gI R (M 35 1 = 1) x (t + 1) s σ) (hd : ∀ k2, 1 ≤ k2 → k2 < k → ∀ d, gW R (M 35 1 = 1) x d t → ∀ b, gEk R (M 35 1 = 1) k2 t b → σ b ≤ d + 1) (hf : σ t ≠ 1000000) : ∃ σ2, gI R (M 35 1 = 1) x (t + 1) (mW1 M t k s) σ2 ∧ (∀ k2, 1 ≤ k2 → k2 < k + 1 → ∀ d, gW R (M 35 1 = 1) x d t → ∀ b, gEk R (M 35 1 = 1) k2 t b → σ2 b ≤ d + 1) ∧ σ2 t = σ t := by
  obtain ⟨x10, hR, hC⟩ := hM
  obtain ⟨i1, i2, i3, i4⟩ := h
  have hr := hR (5 * t + k) (by omega)
  have tw : σ t ≤ 9 ∧ gW R (M 35 1 = 1) x (σ t) t := (i2 t (by omega)).resolve_left hf
  have keep : (∀ b, ¬ gEk R (M 35 1 = 1) k t b) → ∃ σ2, gI R (M 35 1 = 1) x (t + 1) s σ2 ∧ (∀ k2, 1 ≤ k2 → k2 < k + 1 → ∀ d, gW R (M 35 1 = 1) x d t → ∀ b, gEk R (M 35 1 = 1) k2 t b → σ2 b ≤ d + 1) ∧ σ2 t = σ t := fun hn => ⟨σ, ⟨i1, i2, i3, i4⟩, fun k2 a1 a2 d hw b hb => by
    by_cases e : k2 = k
    · subst e; exact absurd hb (hn b)
    · exact hd k2 a1 (by omega) d hw b hb, rfl⟩
  unfold mW1
  rcases hC t ht k h1 h3 with h6 | ⟨a, ha, hra⟩
  · rw [if_neg (fun c => c.2.1 (by rw [hr, h6]; decide))]
    exact keep (fun b hb => nI_ne6 (k := b) (by have := hb.1; omega) (hb.2.2.symm.trans h6))
  · have ec : Int32.toNatClampNeg (M 38 (5 * t + k)) = a := by rw [hr, hra]; exact nI_clamp (by omega)
    have eb : ∀ b, gEk R (M 35 1 = 1) k t b → b = a := fun b hb => (nI_eq (by have := hb.1; omega) (by omega)).mp (hb.2.2.symm.trans hra)
    by_cases c1 : k < 3 ∨ M 35 1 = 1
    · by_cases c2 : s a ≤ s t + 1
      · rw [if_neg (fun c => c.2.2 (by rw [ec]; exact c2))]
        rw [i1 a (by omega), i1 t (by omega), nI_1, nI_leI (by rcases i2 a (by omega) with q | q <;> omega) (by omega)] at c2
        refine ⟨σ, ⟨i1, i2, i3, i4⟩, fun k2 a1 a2 d hw b hb => ?_, rfl⟩
        by_cases e : k2 = k
        · subst e
          rw [eb b hb]
          have := gI_least (h := ⟨i1, i2, i3, i4⟩) hw
          omega
        · exact hd k2 a1 (by omega) d hw b hb
      · rw [if_pos ⟨c1, by rw [hr, hra]; exact fun q => absurd q (by rw [show (0 : Int32) = nI 0 from rfl, nI_ltI (by omega) (by decide)]; omega), by rw [ec]; exact c2⟩, ec]
        have ea : σ t + 1 < σ a := by
          rw [i1 a (by omega), i1 t (by omega), nI_1, nI_leI (by rcases i2 a (by omega) with q | q <;> omega) (by omega)] at c2
          omega
        have hwa : gW R (M 35 1 = 1) x (σ t + 1) a := ⟨t, tw.2, k, h1, h3, ha, c1, hra⟩
        have h9 := gW_le hwa
        have le : ∀ j, (if j = a then σ t + 1 else σ j) ≤ σ j := fun j => by
          by_cases e : j = a
          · rw [if_pos e, e]; omega
          · rw [if_neg e]; exact Nat.le_refl _
        refine ⟨fun j => if j = a then σ t + 1 else σ j, ⟨fun j hj => ?_, fun j hj => ?_, ?_, fun u hu d hw b hb => Nat.le_trans (le b) (i4 u hu d hw b hb)⟩, fun k2 a1 a2 d hw b hb => ?_, ?_⟩
        · by_cases e : j = a
          · rw [e, upS]
            show s t + 1 = nI (if a = a then σ t + 1 else σ a)
            rw [if_pos rfl, i1 t (by omega), nI_1]
          · rw [upN _ _ _ _ e]
            show s j = nI (if j = a then σ t + 1 else σ j)
            rw [if_neg e]; exact i1 j hj
        · by_cases e : j = a
          · refine Or.inr ?_
            subst e
            show (if j = j then σ t + 1 else σ j) ≤ 9 ∧ gW R (M 35 1 = 1) x (if j = j then σ t + 1 else σ j) j
            rw [if_pos rfl]
            exact ⟨by omega, hwa⟩
          · show (if j = a then σ t + 1 else σ j) = 1000000 ∨ (if j = a then σ t + 1 else σ j) ≤ 9 ∧ gW R (M 35 1 = 1) x (if j = a then σ t + 1 else σ j) j
            rw [if_neg e]; exact i2 j hj
        · show (if x = a then σ t + 1 else σ x) = 0
          rw [if_neg (by omega)]; exact i3
        · by_cases e : k2 = k
          · subst e
            show (if b = a then σ t + 1 else σ b) ≤ d + 1
            rw [if_pos (eb b hb)]
            have := gI_least (h := ⟨i1, i2, i3, i4⟩) hw
            omega
          · exact Nat.le_trans (le b) (hd k2 a1 (by omega) d hw b hb)
        · show (if t = a then σ t + 1 else σ t) = σ t
          rw [if_neg (by omega)]
    · rw [if_neg (fun c => c1 c.1)]
      exact keep (fun b hb => c1 hb.2.1)
theorem gI_s3 (hM : gM R x M) {t : Nat} (ht : t ≤ x) : ∀ m k (s : Nat → Int32) (σ : Nat → Nat), k + m = 4 → 1 ≤ k → gI R (M 35 1 = 1) x (t + 1) s σ → (∀ k2, 1 ≤ k2 → k2 < k → ∀ d, gW R (M 35 1 = 1) x d t → ∀ b, gEk R (M 35 1 = 1) k2 t b → σ b ≤ d + 1) → ∃ σ2, gI R (M 35 1 = 1) x t (mW3 M t k m s) σ2 := by
  intro m
  induction m with
  | zero =>
    intro k s σ hk h1 h hd
    refine ⟨σ, h.1, h.2.1, h.2.2.1, fun u hu d hw b hb => ?_⟩
    by_cases e : u = t
    · subst e
      obtain ⟨k2, a1, a2, a3⟩ := hb
      exact hd k2 a1 (by omega) d hw b a3
    · exact h.2.2.2 u (by omega) d hw b hb
  | succ m ih =>
    intro k s σ hk h1 h hd
    have x10 := hM.1
    unfold mW3
    by_cases c : 1000000 ≤ s t
    · rw [if_pos c]
      refine ⟨σ, h.1, h.2.1, h.2.2.1, fun u hu d hw b hb => ?_⟩
      by_cases e : u = t
      · subst e
        exfalso
        have l1 := gI_least h hw
        have l2 := gW_le hw
        rw [h.1 u (by omega), show (1000000 : Int32) = nI 1000000 from rfl, nI_leI (by decide) (by omega)] at c
        omega
      · exact h.2.2.2 u (by omega) d hw b hb
    · rw [if_neg c]
      have hf : σ t ≠ 1000000 := fun e => c (by rw [h.1 t (by omega), e]; exact nI_le (Nat.le_refl _) (by decide))
      obtain ⟨σ2, g1, g2, g3⟩ := gI_s1 hM ht h1 (by omega) h hd hf
      exact ih (k + 1) _ σ2 (by omega) (by omega) g1 g2
theorem gI_T (hM : gM R x M) : ∀ t (s : Nat → Int32) (σ : Nat → Nat), t ≤ x + 1 → gI R (M 35 1 = 1) x t s σ → ∃ σ2, gI R (M 35 1 = 1) x 0 (mWT M t s) σ2
  | 0, s, σ, _, h => ⟨σ, h⟩
  | t + 1, s, σ, ht, h => by
    obtain ⟨σ2, h2⟩ := gI_s3 hM (t := t) (by omega) 3 1 s σ rfl (by decide) h (fun k2 a1 a2 => absurd a2 (by omega))
    exact gI_T hM t _ σ2 (by omega) h2
/-- what the reference's steps say -/
theorem gI_walk (hM : gM R x M) : ∃ σ : Nat → Nat, (∀ j, j < 10 → (mWk M x) 42 j = nI (σ j)) ∧ (∀ j, j < 10 → σ j = 1000000 ∨ (σ j ≤ 9 ∧ gW R (M 35 1 = 1) x (σ j) j)) ∧ ∀ d j, gW R (M 35 1 = 1) x d j → σ j ≤ d := by
  have x10 := hM.1
  have h0 : gI R (M 35 1 = 1) x (x + 1) (mWi M x) (fun j => if j = x then 0 else 1000000) := by
    refine ⟨fun j hj => ?_, fun j hj => ?_, if_pos rfl, fun t ht d hw b hb => ?_⟩
    · unfold mWi
      show _ = nI (if j = x then 0 else 1000000)
      by_cases e : j = x
      · rw [e, upS, if_pos rfl]; rfl
      · rw [upN _ _ _ _ e, if_pos hj, if_neg e]; rfl
    · show (if j = x then 0 else 1000000) = 1000000 ∨ (if j = x then 0 else 1000000) ≤ 9 ∧ gW R (M 35 1 = 1) x (if j = x then 0 else 1000000) j
      by_cases e : j = x
      · rw [if_pos e]; exact Or.inr ⟨by decide, e⟩
      · rw [if_neg e]; exact Or.inl rfl
    · have := gW_le hw
      omega
  obtain ⟨σ, i1, i2, i3, i4⟩ := gI_T hM (x + 1) _ _ (Nat.le_refl _) h0
  refine ⟨σ, fun j hj => ?_, i2, fun d j hw => ?_⟩
  · unfold mWk
    rw [zmr_row]
    exact i1 j hj
  · cases d with
    | zero =>
      have e : j = x := hw
      rw [e, i3]; exact Nat.zero_le _
    | succ d =>
      obtain ⟨t, h1, h2⟩ := hw
      exact i4 t (Nat.zero_le _) d h1 j h2
end zG1
