/-! the class's reach, by ways back -/
def dN (F : zTS) : Nat := (fD F).toNatClampNeg
def gT (F : zTS) (x i : Nat) : Prop := ∃ j e, e ≤ dN F ∧ gW (fR F) (fO F = 1) x e j ∧ bt (fR F (5 * j)) i = true
theorem bO_bt {v : Int32} {i : Nat} (hi : i < 32) (hv : v = -6 ∨ ∃ a, a < 32 ∧ v = nI a) : bt (bO v) i = true ↔ v = nI i := by
  rcases hv with h | ⟨a, ha, h⟩
  · subst h
    unfold bO
    rw [if_pos rfl, b_0]
    constructor
    · intro h; cases h
    · intro h; exact absurd h.symm (nI_ne6 (by omega))
  · subst h
    unfold bO
    rw [if_neg (nI_ne6 (by omega)), b_1shl ha hi, decide_eq_true_iff, nI_eq (by omega) (by omega)]
    omega
section zR1
variable {F : zTS} {M : zMem} {x : Nat}
theorem kTR_cn (ht : kTR M 10 F) : kCN M = tN F := by
  unfold kCN tN
  rw [← ht.1]
theorem cBh (hw : kWF F) (ht : kTR M 10 F) (b : Int32) {i : Nat} (hi : i < 32) : bt (kBh M b (kTl M)) i = true ↔ ∃ k, k < tN F ∧ bt b k = true ∧ gE (fR F) (fO F = 1) k i := by
  unfold kBh
  rw [kTR_cn ht, kOr_bt]
  have h10 := hw.1.2
  have hT : (kTl M = 0) ↔ ¬ fO F = 1 := by
    unfold kTl
    rw [ht.2.2.2.1]
    by_cases c : fO F = 1
    · rw [if_pos c]; simp [c]
    · rw [if_neg c]; simp [c]
  have key : ∀ k, k < tN F → (bt (if hb b (nI k) = true then (bO (M 13 k) ||| bO (M 14 k)) ||| (if kTl M = 0 then 0 else bO (M 15 k)) else 0) i = true ↔ bt b k = true ∧ gE (fR F) (fO F = 1) k i) := by
    intro k hk
    rw [hb_bt (by omega)]
    by_cases c : bt b k = true
    · rw [if_pos c]
      obtain ⟨r0, r1, r2, r3, r4⟩ := ht.2.2.2.2.2.2.2.2 k hk
      have hc := kRow_cell (hw.2.2.2.2.2.2.2.2.1 k hk)
      have hv : ∀ c, 1 ≤ c → c ≤ 3 → (fR F (5 * k + c) = -6 ∨ ∃ a, a < 32 ∧ fR F (5 * k + c) = nI a) := fun c h1 h3 => by
        rcases hc c h1 h3 with h | ⟨a, ha, h⟩
        · exact Or.inl h
        · exact Or.inr ⟨a, by omega, h⟩
      have lt : ∀ c, 1 ≤ c → c ≤ 3 → fR F (5 * k + c) = nI i → i < k := fun c h1 h3 h => by
        rcases hc c h1 h3 with h6 | ⟨a, ha, h7⟩
        · exact absurd (h.symm.trans h6) (nI_ne6 (by omega))
        · have := (nI_eq (by omega) (by omega)).mp (h.symm.trans h7)
          omega
      have b3 : bt (if kTl M = 0 then 0 else bO (M 15 k)) i = true ↔ (fO F = 1 ∧ fR F (5 * k + 3) = nI i) := by
        by_cases c2 : fO F = 1
        · rw [if_neg (fun q => (hT.mp q) c2), show M 15 k = fR F (5 * k + 3) from r3, bO_bt hi (hv 3 (by decide) (by decide))]
          simp [c2]
        · rw [if_pos (hT.mpr c2), b_0]
          simp [c2]
      rw [b_or, b_or, Bool.or_eq_true, Bool.or_eq_true, b3, show M 13 k = fR F (5 * k + 1) from r1, show M 14 k = fR F (5 * k + 2) from r2, bO_bt hi (hv 1 (by decide) (by decide)), bO_bt hi (hv 2 (by decide) (by decide))]
      constructor
      · rintro ((h | h) | ⟨h0, h⟩)
        · exact ⟨c, 1, by decide, by decide, lt 1 (by decide) (by decide) h, Or.inl (by decide), h⟩
        · exact ⟨c, 2, by decide, by decide, lt 2 (by decide) (by decide) h, Or.inl (by decide), h⟩
        · exact ⟨c, 3, by decide, by decide, lt 3 (by decide) (by decide) h, Or.inr h0, h⟩
      · rintro ⟨-, c, h1, h3, -, ht, h⟩
        have hk : c = 1 ∨ c = 2 ∨ c = 3 := by omega
        rcases hk with rfl | rfl | rfl
        · exact Or.inl (Or.inl h)
        · exact Or.inl (Or.inr h)
        · exact Or.inr ⟨ht.resolve_left (by decide), h⟩
    · rw [if_neg c, b_0]
      simp [c]
  constructor
  · rintro ⟨k, hk, h⟩; exact ⟨k, hk, (key k hk).mp h⟩
  · rintro ⟨k, hk, h⟩; exact ⟨k, hk, (key k hk).mpr h⟩
def cL (M : zMem) (x : Nat) : Nat → Int32
  | 0 => (1 : Int32) <<< (nI x &&& 31)
  | d + 1 => kBh M (cL M x d) (kTl M)
theorem cL_bt (hw : kWF F) (ht : kTR M 10 F) (hx : x < tN F) : ∀ d i, i < 32 → (bt (cL M x d) i = true ↔ gW (fR F) (fO F = 1) x d i)
  | 0, i, hi => by
    have h10 := hw.1.2
    show bt ((1 : Int32) <<< (nI x &&& 31)) i = true ↔ i = x
    rw [b_1shl (by omega) hi, decide_eq_true_iff]
  | d + 1, i, hi => by
    have h10 := hw.1.2
    show bt (kBh M (cL M x d) (kTl M)) i = true ↔ ∃ t, gW (fR F) (fO F = 1) x d t ∧ gE (fR F) (fO F = 1) t i
    rw [cBh hw ht _ hi]
    constructor
    · rintro ⟨k, hk, h1, h2⟩
      exact ⟨k, (cL_bt hw ht hx d k (by omega)).mp h1, h2⟩
    · rintro ⟨t, h1, h2⟩
      have := gW_le h1
      exact ⟨t, by omega, (cL_bt hw ht hx d t (by omega)).mpr h1, h2⟩
theorem cL_0 (hw : kWF F) (ht : kTR M 10 F) (hx : x < tN F) {d : Nat} (h : cL M x d = 0) : ∀ e j, d ≤ e → ¬ gW (fR F) (fO F = 1) x e j := by
  have h10 := hw.1.2
  intro e
  induction e with
  | zero =>
    intro j hd hg
    have e0 : d = 0 := by omega
    subst e0
    have := gW_le hg
    have h2 := (cL_bt hw ht hx 0 j (by omega)).mpr hg
    rw [h, b_0] at h2
    cases h2
  | succ e ih =>
    intro j hd hg
    by_cases e0 : d = e + 1
    · subst e0
      have := gW_le hg
      have h2 := (cL_bt hw ht hx (e + 1) j (by omega)).mpr hg
      rw [h, b_0] at h2
      cases h2
    · obtain ⟨t, h1, _⟩ := hg
      exact ih t (by omega) h1
theorem cRcn (hw : kWF F) (ht : kTR M 10 F) (hx : x < tN F) : ∀ m d (all : Int32) i, i < 32 → (bt (kRcn M m all (cL M x d)) i = true ↔ (bt all i = true ∨ ∃ e, d ≤ e ∧ e < d + m ∧ gW (fR F) (fO F = 1) x e i))
  | 0, d, all, i, hi => by
    show bt all i = true ↔ _
    constructor
    · exact Or.inl
    · rintro (h | ⟨e, h1, h2, _⟩)
      · exact h
      · omega
  | m + 1, d, all, i, hi => by
    show bt (if cL M x d = 0 then all else kRcn M m (all ||| cL M x d) (cL M x (d + 1))) i = true ↔ _
    by_cases c : cL M x d = 0
    · rw [if_pos c]
      constructor
      · exact Or.inl
      · rintro (h | ⟨e, h1, h2, h3⟩)
        · exact h
        · exact absurd h3 (cL_0 hw ht hx c e i h1)
    · rw [if_neg c, cRcn hw ht hx m (d + 1) _ i hi, b_or, Bool.or_eq_true, cL_bt hw ht hx d i hi]
      constructor
      · rintro ((h | h) | ⟨e, h1, h2, h3⟩)
        · exact Or.inl h
        · exact Or.inr ⟨d, by omega, by omega, h⟩
        · exact Or.inr ⟨e, by omega, by omega, h3⟩
      · rintro (h | ⟨e, h1, h2, h3⟩)
        · exact Or.inl (Or.inl h)
        · by_cases e0 : e = d
          · subst e0; exact Or.inl (Or.inr h3)
          · exact Or.inr ⟨e, by omega, by omega, h3⟩
theorem cHO (hw : kWF F) (ht : kTR M 10 F) (b : Int32) (i : Nat) : bt (kHO M b) i = true ↔ ∃ k, k < tN F ∧ bt b k = true ∧ bt (fR F (5 * k)) i = true := by
  unfold kHO
  rw [kTR_cn ht, kOr_bt]
  have h10 := hw.1.2
  have key : ∀ k, k < tN F → (bt (if hb b (nI k) = true then M 12 k else 0) i = true ↔ bt b k = true ∧ bt (fR F (5 * k)) i = true) := by
    intro k hk
    rw [hb_bt (by omega)]
    by_cases c : bt b k = true
    · rw [if_pos c, show M 12 k = fR F (5 * k) from (ht.2.2.2.2.2.2.2.2 k hk).1]
      simp [c]
    · rw [if_neg c, b_0]
      simp [c]
  constructor
  · rintro ⟨k, hk, h⟩; exact ⟨k, hk, (key k hk).mp h⟩
  · rintro ⟨k, hk, h⟩; exact ⟨k, hk, (key k hk).mpr h⟩
theorem cTch (hw : kWF F) (ht : kTR M 10 F) (hx : x < tN F) (i : Nat) : bt (kTch M (nI x)) i = true ↔ gT F x i := by
  have h10 := hw.1.2
  unfold kTch kRch
  rw [cHO hw ht]
  have hD : kDN M = dN F := by
    unfold kDN dN
    rw [← ht.2.2.1]
  have e := fun k (hk : k < tN F) => cRcn hw ht hx (kDN M + 1) 0 0 k (by omega)
  constructor
  · rintro ⟨k, hk, h1, h2⟩
    rcases (e k hk).mp h1 with h | ⟨d, _, d2, d3⟩
    · rw [b_0] at h; cases h
    · exact ⟨k, d, by omega, d3, h2⟩
  · rintro ⟨j, d, d1, d2, h2⟩
    have := gW_le d2
    exact ⟨j, by omega, (e j (by omega)).mpr (Or.inr ⟨d, by omega, by omega, d2⟩), h2⟩
end zR1
/-! the reference's touchers -/
def cM (F : zTS) (Mc M : zMem) : Prop := kWF F ∧ kTR Mc 10 F ∧ kMF M F
def m41 (F : zTS) (M : zMem) : Prop := ∀ t, t < tN F → M 41 t = fR F (5 * t)
section zR2
variable {F : zTS} {Mc M : zMem} {x : Nat}
theorem kMF_gM (hw : kWF F) (hm : kMF M F) (hx : x < tN F) : gM (fR F) x M := by
  have h10 := hw.1.2
  exact ⟨by omega, hm.1, fun t ht => kRow_cell (hw.2.2.2.2.2.2.2.2.1 t (by omega))⟩
theorem kMF_dep (hw : kWF F) (hm : kMF M F) : M 35 0 = nI (dN F) ∧ dN F ≤ 9 := by
  obtain ⟨d, hd, e⟩ := hw.2.2.1
  have : dN F = d := by unfold dN; rw [e]; exact nI_clamp (by omega)
  rw [this]
  exact ⟨by rw [← e]; exact hm.2.2.2.2.2.2.1, hd⟩
theorem mTch (hw : kWF F) (hm : kMF M F) (h41 : m41 F M) (hx : x < tN F) (i : Nat) : bt (mTc M (nI x)) i = true ↔ gT F x i := by
  have h10 := hw.1.2
  obtain ⟨σ, s1, s2, s3⟩ := gI_walk (kMF_gM hw hm hx)
  have eO : M 35 1 = fO F := hm.2.2.2.2.2.2.2.1
  rw [eO] at s2 s3
  obtain ⟨eD, hD⟩ := kMF_dep hw hm
  unfold mTc
  rw [nI_clamp (by omega), kOr_bt]
  have key : ∀ t, t < x + 1 → (bt (if M 35 0 < (mWk M x) 42 t then 0 else M 41 t) i = true ↔ σ t ≤ dN F ∧ bt (fR F (5 * t)) i = true) := by
    intro t ht
    have hs : σ t < 2 ^ 31 := by rcases s2 t (by omega) with q | q <;> omega
    rw [s1 t (by omega), eD, h41 t (by omega)]
    by_cases c : σ t ≤ dN F
    · rw [if_neg (by rw [nI_ltI (by omega) hs]; omega)]
      simp [c]
    · rw [if_pos (by rw [nI_ltI (by omega) hs]; omega), b_0]
      simp [c]
  constructor
  · rintro ⟨t, ht, h⟩
    obtain ⟨h1, h2⟩ := (key t ht).mp h
    have hw2 := (s2 t (by omega)).resolve_left (by omega)
    exact ⟨t, σ t, h1, hw2.2, h2⟩
  · rintro ⟨j, e, h1, h2, h3⟩
    have := gW_le h2
    exact ⟨j, by omega, (key j (by omega)).mpr ⟨Nat.le_trans (s3 e j h2) h1, h3⟩⟩
theorem tc_eq (h : cM F Mc M) (h41 : m41 F M) (hx : x < tN F) : mTc M (nI x) = kTch Mc (nI x) := by
  refine b_ext (fun i _ => ?_)
  rw [Bool.eq_iff_iff, mTch h.1 h.2.2 h41 hx, cTch h.1 h.2.1 hx]
/-- hands lie below 6 -/
theorem gT_6 (hw : kWF F) (hx : x < tN F) {i : Nat} (h : gT F x i) : i < 6 := by
  obtain ⟨j, e, -, h2, h3⟩ := h
  have := gW_le h2
  obtain ⟨⟨a, ha, ea, -⟩, -⟩ := hw.2.2.2.2.2.2.2.2.1 j (by omega)
  rw [ea] at h3
  unfold bt at h3
  have e2 : (nI a).toBitVec = BitVec.ofNat 32 a := rfl
  rw [e2, BitVec.getLsbD_ofNat, Bool.and_eq_true] at h3
  have h4 := Nat.testBit_lt_two_pow (x := a) (i := i)
  by_cases c : i < 6
  · exact c
  · have hlt : a < 2 ^ i := Nat.lt_of_lt_of_le ha (Nat.pow_le_pow_right (n := 2) (i := 6) (by decide) (by omega))
    rw [Nat.testBit_lt_two_pow hlt] at h3
    exact absurd h3.2 (by decide)
theorem kMF_p (hw : kWF F) (hm : kMF M F) {k : Nat} (hk : k < 6) : M 36 k = fP F k := hm.2.2.2.1 k hk
theorem mWPn_bt (M : zMem) (b : Int32) (i : Nat) : ∀ n, (bt (mWPn M b n) i = true ↔ (bt b i = true ∨ ∃ k, k < n ∧ hb b (nI k) = true ∧ ¬ M 36 k < 0 ∧ bt ((1 : Int32) <<< (M 36 k &&& 31)) i = true))
  | 0 => by
    show bt b i = true ↔ _
    constructor
    · exact Or.inl
    · rintro (h | ⟨k, h, _⟩)
      · exact h
      · exact absurd h (Nat.not_lt_zero k)
  | n + 1 => by
    show bt (mWPn M b n ||| (if hb b (nI n) = true then (if M 36 n < 0 then 0 else (1 : Int32) <<< (M 36 n &&& 31)) else 0)) i = true ↔ _
    rw [b_or, Bool.or_eq_true, mWPn_bt M b i n]
    have key : bt (if hb b (nI n) = true then (if M 36 n < 0 then 0 else (1 : Int32) <<< (M 36 n &&& 31)) else 0) i = true ↔ (hb b (nI n) = true ∧ ¬ M 36 n < 0 ∧ bt ((1 : Int32) <<< (M 36 n &&& 31)) i = true) := by
      by_cases c : hb b (nI n) = true
      · rw [if_pos c]
        by_cases c2 : M 36 n < 0
        · rw [if_pos c2, b_0]; simp [c2]
        · rw [if_neg c2]; simp [c, c2]
      · rw [if_neg c, b_0]; simp [c]
    rw [key]
    constructor
    · rintro ((h | ⟨k, h1, h2⟩) | h)
      · exact Or.inl h
      · exact Or.inr ⟨k, by omega, h2⟩
      · exact Or.inr ⟨n, by omega, h⟩
    · rintro (h | ⟨k, h1, h2⟩)
      · exact Or.inl (Or.inl h)
      · by_cases e : k = n
        · subst e; exact Or.inr h2
        · exact Or.inl (Or.inr ⟨k, by omega, h2⟩)
/-- with partners: i is in b, or his partner is -/
def gP (F : zTS) (b : Int32) (i : Nat) : Prop := bt b i = true ∨ ∃ k, k < 6 ∧ bt b k = true ∧ fP F k = nI i
theorem mWP_bt (hw : kWF F) (hm : kMF M F) (b : Int32) {i : Nat} (hi : i < 32) : bt (mWP M b) i = true ↔ gP F b i := by
  unfold mWP
  rw [mWPn_bt]
  unfold gP
  have key : ∀ k, k < 6 → ((hb b (nI k) = true ∧ ¬ M 36 k < 0 ∧ bt ((1 : Int32) <<< (M 36 k &&& 31)) i = true) ↔ bt b k = true ∧ fP F k = nI i) := by
    intro k hk
    rw [hb_bt (by omega), kMF_p hw hm hk]
    rcases hw.2.2.2.2.2.1 k hk with h | ⟨a, a6, -, h, -⟩
    · rw [h]
      constructor
      · rintro ⟨-, h2, -⟩; exact absurd (by decide) h2
      · rintro ⟨-, h2⟩; exact absurd h2.symm (nI_ne6 (by omega))
    · rw [h, b_1shl (by omega) hi, decide_eq_true_iff, nI_eq (by omega) (by omega), show (0 : Int32) = nI 0 from rfl, nI_ltI (by omega) (by decide)]
      constructor
      · rintro ⟨h1, -, h3⟩; exact ⟨h1, h3.symm⟩
      · rintro ⟨h1, h3⟩; exact ⟨h1, by omega, h3.symm⟩
  constructor
  · rintro (h | ⟨k, h1, h2⟩)
    · exact Or.inl h
    · exact Or.inr ⟨k, h1, (key k h1).mp h2⟩
  · rintro (h | ⟨k, h1, h2⟩)
    · exact Or.inl h
    · exact Or.inr ⟨k, h1, (key k h1).mpr h2⟩
theorem kCpl_bt (hw : kWF F) (ht : kTR M 10 F) {m i : Nat} (hm : m < 6) (hi : i < 32) : bt (kCpl M (nI m)) i = true ↔ (i = m ∨ fP F m = nI i) := by
  unfold kCpl
  rw [nI_clamp (by omega), show M 17 m = fP F m from ht.2.2.2.2.2.1 m hm, b_or, Bool.or_eq_true, b_1shl (by omega) hi, decide_eq_true_iff]
  rcases hw.2.2.2.2.2.1 m hm with h | ⟨a, a6, -, h, -⟩
  · rw [h, if_pos rfl, b_0]
    constructor
    · rintro (h | h)
      · exact Or.inl h
      · cases h
    · rintro (h | h)
      · exact Or.inl h
      · exact absurd h.symm (nI_ne6 (by omega))
  · rw [h, if_neg (nI_ne6 (by omega)), b_1shl (by omega) hi, decide_eq_true_iff, nI_eq (by omega) (by omega)]
    omega
theorem kWP_bt (hw : kWF F) (ht : kTR M 10 F) {b : Int32} (h6 : ∀ i, bt b i = true → i < 6) {i : Nat} (hi : i < 32) : bt (kWP M b) i = true ↔ gP F b i := by
  unfold kWP gP
  rw [kOr_bt]
  constructor
  · rintro ⟨k, hk, h⟩
    rw [hb_bt (by omega)] at h
    by_cases c : bt b k = true
    · rw [if_pos c, kCpl_bt hw ht hk hi] at h
      rcases h with h | h
      · subst h; exact Or.inl c
      · exact Or.inr ⟨k, hk, c, h⟩
    · rw [if_neg c, b_0] at h; cases h
  · rintro (h | ⟨k, hk, c, h⟩)
    · have := h6 i h
      refine ⟨i, this, ?_⟩
      rw [hb_bt (by omega), if_pos h, kCpl_bt hw ht this hi]
      exact Or.inl rfl
    · refine ⟨k, hk, ?_⟩
      rw [hb_bt (by omega), if_pos c, kCpl_bt hw ht hk hi]
      exact Or.inr h
/-- a man is barred: by his own hands or his partner's -/
theorem gP_sym (hw : kWF F) {b : Int32} {m : Nat} (hm : m < 6) : gP F b m ↔ (bt b m = true ∨ ∃ k, k < 6 ∧ fP F m = nI k ∧ bt b k = true) := by
  unfold gP
  constructor
  · rintro (h | ⟨k, hk, h1, h2⟩)
    · exact Or.inl h
    · rcases hw.2.2.2.2.2.1 k hk with h | ⟨a, a6, -, h3, h4⟩
      · exact absurd (h2.symm.trans h) (nI_ne6 (by omega))
      · have e : m = a := (nI_eq (by omega) (by omega)).mp (h2.symm.trans h3)
        subst e
        exact Or.inr ⟨k, hk, h4, h1⟩
  · rintro (h | ⟨k, hk, h1, h2⟩)
    · exact Or.inl h
    · rcases hw.2.2.2.2.2.1 m hm with h | ⟨a, a6, -, h3, h4⟩
      · exact absurd (h1.symm.trans h) (nI_ne6 (by omega))
      · have e : k = a := (nI_eq (by omega) (by omega)).mp (h1.symm.trans h3)
        subst e
        exact Or.inr ⟨k, hk, h2, h4⟩
theorem kCpl_and (hw : kWF F) (ht : kTR M 10 F) {b : Int32} {m : Nat} (hm : m < 6) : (b &&& kCpl M (nI m) = 0) ↔ ¬ gP F b m := by
  rw [gP_sym hw hm]
  constructor
  · intro h q
    have hz : ∀ i, bt (b &&& kCpl M (nI m)) i = false := fun i => by rw [h, b_0]
    rcases q with q | ⟨k, hk, h1, h2⟩
    · have := hz m
      rw [b_and, q, (kCpl_bt hw ht hm (by omega)).mpr (Or.inl rfl)] at this
      exact absurd this (by decide)
    · have := hz k
      rw [b_and, h2, (kCpl_bt hw ht hm (by omega)).mpr (Or.inr h1)] at this
      exact absurd this (by decide)
  · intro h
    refine b_ext (fun i hi => ?_)
    rw [b_and, b_0]
    by_cases c : bt b i = true
    · by_cases c2 : bt (kCpl M (nI m)) i = true
      · exfalso
        rcases (kCpl_bt hw ht hm hi).mp c2 with e | e
        · subst e; exact h (Or.inl c)
        · rcases hw.2.2.2.2.2.1 m hm with h6 | ⟨a, a6, -, h3, h4⟩
          · exact nI_ne6 (by omega) (e.symm.trans h6)
          · have e2 : i = a := (nI_eq (by omega) (by omega)).mp (e.symm.trans h3)
            subst e2
            exact h (Or.inr ⟨i, a6, h3, c⟩)
      · simp [c2]
    · simp [c]
end zR2
