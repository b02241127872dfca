/-! the state told once, for the class and for the reference -/
/-- rows of makings (50), loaves (10), sights (12), partners (6), things, sights, depth, tools, tenths -/
abbrev zTS : Type := (Nat → Int32) × (Nat → Int32) × (Nat → Int32) × (Nat → Int32) × Int32 × Int32 × Int32 × Int32 × Int32
abbrev fR (F : zTS) : Nat → Int32 := F.1
abbrev fL (F : zTS) : Nat → Int32 := F.2.1
abbrev fS (F : zTS) : Nat → Int32 := F.2.2.1
abbrev fP (F : zTS) : Nat → Int32 := F.2.2.2.1
abbrev fT (F : zTS) : Int32 := F.2.2.2.2.1
abbrev fN (F : zTS) : Int32 := F.2.2.2.2.2.1
abbrev fD (F : zTS) : Int32 := F.2.2.2.2.2.2.1
abbrev fO (F : zTS) : Int32 := F.2.2.2.2.2.2.2.1
abbrev fE (F : zTS) : Int32 := F.2.2.2.2.2.2.2.2
def tN (F : zTS) : Nat := (fT F).toNatClampNeg
def sN (F : zTS) : Nat := (fN F).toNatClampNeg
def pc6 (h : Nat) : Nat := h % 2 + h / 2 % 2 + h / 4 % 2 + h / 8 % 2 + h / 16 % 2 + h / 32 % 2
def kRow (R : Nat → Int32) (k : Nat) : Prop := (∃ h, h < 64 ∧ R (5 * k) = nI h ∧ pc6 h ≤ 3 ∧ (h = 0 → R (5 * k + 4) = 1)) ∧ (R (5 * k + 1) = -6 ∨ ∃ a, a < k ∧ R (5 * k + 1) = nI a) ∧ (R (5 * k + 2) = -6 ∨ ∃ a b, a < b ∧ b < k ∧ R (5 * k + 1) = nI a ∧ R (5 * k + 2) = nI b) ∧ (R (5 * k + 3) = -6 ∨ ∃ a, a < k ∧ R (5 * k + 3) = nI a) ∧ (R (5 * k + 4) = 0 ∨ R (5 * k + 4) = 1)
def kAsN (R : Nat → Int32) : Nat → Nat
  | 0 => 0
  | n + 1 => kAsN R n + (if R (5 * n + 4) = 1 then 1 else 0)
def kWF (F : zTS) : Prop := (fT F = nI (tN F) ∧ tN F ≤ 10) ∧ (fN F = nI (sN F) ∧ sN F ≤ 6) ∧ (∃ d, d ≤ 9 ∧ fD F = nI d) ∧ (fO F = 0 ∨ fO F = 1) ∧ (∃ e, e ≤ 10 ∧ fE F = nI e) ∧ (∀ j, j < 6 → fP F j = -6 ∨ ∃ i, i < 6 ∧ i ≠ j ∧ fP F j = nI i ∧ fP F i = nI j) ∧ (∀ j, j < 10 → ∃ v, v ≤ 9 ∧ fL F j = nI v) ∧ (∀ i, i < sN F → (∃ m, m < 6 ∧ fS F (2 * i) = nI m) ∧ ∃ t, t < tN F ∧ fS F (2 * i + 1) = nI t) ∧ (∀ k, k < tN F → kRow (fR F) k) ∧ kAsN (fR F) (tN F) ≤ 4
def kTR (M : zMem) (p : Nat) (F : zTS) : Prop := M (p + 1) 5 = fT F ∧ M p 5 = fN F ∧ M p 6 = fD F ∧ M p 7 = fO F ∧ M p 8 = fE F ∧ (∀ j, j < 6 → M (p + 7) j = fP F j) ∧ (∀ j, j < 10 → M (p + 8) j = fL F j) ∧ (∀ i, i < 6 → M (p + 9) i = fS F (2 * i) ∧ M (p + 10) i = fS F (2 * i + 1)) ∧ (∀ k, k < tN F → M (p + 2) k = fR F (5 * k) ∧ M (p + 3) k = fR F (5 * k + 1) ∧ M (p + 4) k = fR F (5 * k + 2) ∧ M (p + 5) k = fR F (5 * k + 3) ∧ M (p + 6) k = fR F (5 * k + 4))
def kTw (p : Nat) : List zShp := [.inr (.inl (7, [some (some (p + 1)), some (some (p + 7)), some (some (p + 8)), some (some (p + 9)), some (some (p + 10)), none, none, none, none])), .inr (.inl (4, [some (some (p + 2)), some (some (p + 3)), some (some (p + 4)), some (some (p + 5)), some (some (p + 6)), none])), .inl (0, 10), .inl (0, 10), .inl (0, 10), .inl (0, 10), .inl (0, 10), .inl (0, 6), .inl (0, 10), .inl (0, 6), .inl (0, 6)]
/-- the class's images: none, one at 52, or two at 52 and 63 -/
def kIm (I : Nat → Option zTS) (M : zMem) (g : Nat → Option Nat) (X : List zShp) : Prop :=
  (X = [] ∧ g 0 = none ∧ g 1 = none ∧ I 0 = none ∧ I 1 = none) ∨
  (X = kTw 52 ∧ ∃ i j, (i = 0 ∧ j = 1 ∨ i = 1 ∧ j = 0) ∧ g i = some 52 ∧ g j = none ∧ I j = none ∧ ∃ G, I i = some G ∧ kWF G ∧ kTR M 52 G) ∨
  (X = kTw 52 ++ kTw 63 ∧ ∃ i j, (i = 0 ∧ j = 1 ∨ i = 1 ∧ j = 0) ∧ g i = some 52 ∧ g j = some 63 ∧ ∃ G G2, I i = some G ∧ I j = some G2 ∧ kWF G ∧ kWF G2 ∧ kTR M 52 G ∧ kTR M 63 G2)
def kCJ (n : Nat) (P : Nat → Int32) (F : zTS) (I : Nat → Option zTS) (M : zMem) (g : Nat → Option Nat) (X : List zShp) : Prop := M 1 1 = nI n ∧ (∀ j, j < n → M 2 j = P j) ∧ kTR M 10 F ∧ kIm I M g X
def kMF (M : zMem) (F : zTS) : Prop := (∀ k, k < 50 → M 38 k = fR F k) ∧ (∀ j, j < 10 → M 39 j = fL F j) ∧ (∀ j, j < 12 → M 40 j = fS F j) ∧ (∀ j, j < 6 → M 36 j = fP F j) ∧ M 35 6 = fT F ∧ M 35 9 = fN F ∧ M 35 0 = fD F ∧ M 35 1 = fO F ∧ M 35 2 = fE F
def kMI (M : zMem) (b : Nat) (G : zTS) : Prop := (∀ k, k < 50 → M 50 (b + k) = fR G k) ∧ (∀ j, j < 10 → M 50 (b + 50 + j) = fL G j) ∧ (∀ j, j < 12 → M 50 (b + 60 + j) = fS G j) ∧ (∀ j, j < 6 → M 50 (b + 72 + j) = fP G j) ∧ M 50 (b + 78) = fT G ∧ M 50 (b + 79) = fN G ∧ M 50 (b + 80) = fD G ∧ M 50 (b + 81) = fO G ∧ M 50 (b + 82) = fE G
def kMJ (n : Nat) (P : Nat → Int32) (F : zTS) (I : Nat → Option zTS) (M : zMem) : Prop := M 35 4 = nI n ∧ (∀ j, j < n → M 37 j = P j) ∧ kMF M F ∧ ∀ i, i < 2 → (I i = none ∧ M 51 i = 0) ∨ ∃ G, I i = some G ∧ M 51 i = 1 ∧ kMI M (84 * i) G
/-- what the class leaves of the reference's cells, and the other way round -/
def kMS (M M1 : zMem) : Prop := ∀ p, 35 ≤ p → p < 52 → M1 p = M p
def kOS (M M1 : zMem) : Prop := ∀ p, p < 35 ∨ 52 ≤ p → M1 p = M p
theorem kTR_ag {M M1 : zMem} {p : Nat} {F : zTS} (h : ∀ q, p ≤ q → q ≤ p + 10 → M1 q = M q) (ht : kTR M p F) : kTR M1 p F := by
  unfold kTR at ht ⊢
  rw [h (p + 1) (by omega) (by omega), h p (by omega) (by omega), h (p + 7) (by omega) (by omega), h (p + 8) (by omega) (by omega), h (p + 9) (by omega) (by omega), h (p + 10) (by omega) (by omega), h (p + 2) (by omega) (by omega), h (p + 3) (by omega) (by omega), h (p + 4) (by omega) (by omega), h (p + 5) (by omega) (by omega), h (p + 6) (by omega) (by omega)]
  exact ht
theorem kIm_ag {I : Nat → Option zTS} {M M1 : zMem} {g : Nat → Option Nat} {X : List zShp} (h : ∀ q, 52 ≤ q → M1 q = M q) (hi : kIm I M g X) : kIm I M1 g X := by
  rcases hi with h1 | ⟨h1, i, j, h2, h3, h4, h5, G, h6, h7, h8⟩ | ⟨h1, i, j, h2, h3, h4, G, G2, h5, h6, h7, h8, h9, h10⟩
  · exact Or.inl h1
  · exact Or.inr (Or.inl ⟨h1, i, j, h2, h3, h4, h5, G, h6, h7, kTR_ag (fun q a _ => h q a) h8⟩)
  · exact Or.inr (Or.inr ⟨h1, i, j, h2, h3, h4, G, G2, h5, h6, h7, h8, kTR_ag (fun q a _ => h q a) h9, kTR_ag (fun q a _ => h q (by omega)) h10⟩)
theorem kCJ_ag {n : Nat} {P : Nat → Int32} {F : zTS} {I : Nat → Option zTS} {M M1 : zMem} {g : Nat → Option Nat} {X : List zShp} (h1 : M1 1 = M 1) (h2 : M1 2 = M 2) (h3 : ∀ q, 10 ≤ q → q ≤ 20 → M1 q = M q) (h4 : ∀ q, 52 ≤ q → M1 q = M q) (h : kCJ n P F I M g X) : kCJ n P F I M1 g X := by
  obtain ⟨a, b, c, e⟩ := h
  exact ⟨by rw [h1]; exact a, by rw [h2]; exact b, kTR_ag h3 c, kIm_ag h4 e⟩
theorem kCJ_CS {n : Nat} {P : Nat → Int32} {F : zTS} {I : Nat → Option zTS} {M M1 : zMem} {g : Nat → Option Nat} {X : List zShp} (ha : kAg kCS M M1) (h : kCJ n P F I M g X) : kCJ n P F I M1 g X := by
  have hb : ∀ q, 35 ≤ q → q ∉ kCS := fun q hq hm => by
    have h0 : ∀ p ∈ kCS, p < 35 := by decide
    have := h0 q hm
    omega
  have hm : ∀ q, 10 ≤ q → q ≤ 20 → q ∉ kCS := fun q h1 h2 hm => by
    have h0 : ∀ p ∈ kCS, p < 10 ∨ 20 < p := by decide
    have := h0 q hm
    omega
  exact kCJ_ag (ha 1 (by decide)) (ha 2 (by decide)) (fun q h1 h2 => ha q (hm q h1 h2)) (fun q h1 => ha q (hb q (by omega))) h
theorem kMS_CS {M M1 : zMem} (ha : kAg kCS M M1) : kMS M M1 := fun q h1 _ => ha q (fun hm => by
  have h0 : ∀ p ∈ kCS, p < 35 := by decide
  have := h0 q hm
  omega)
theorem kMJ_MS {n : Nat} {P : Nat → Int32} {F : zTS} {I : Nat → Option zTS} {M M1 : zMem} (ha : kMS M M1) (h : kMJ n P F I M) : kMJ n P F I M1 := by
  have e35 := ha 35 (by decide) (by decide)
  have e36 := ha 36 (by decide) (by decide)
  have e37 := ha 37 (by decide) (by decide)
  have e38 := ha 38 (by decide) (by decide)
  have e39 := ha 39 (by decide) (by decide)
  have e40 := ha 40 (by decide) (by decide)
  have e50 := ha 50 (by decide) (by decide)
  have e51 := ha 51 (by decide) (by decide)
  unfold kMJ kMF kMI at h ⊢
  rw [e35, e36, e37, e38, e39, e40, e50, e51]
  exact h
theorem kCJ_OS {n : Nat} {P : Nat → Int32} {F : zTS} {I : Nat → Option zTS} {M M1 : zMem} {g : Nat → Option Nat} {X : List zShp} (ha : kOS M M1) (h : kCJ n P F I M g X) : kCJ n P F I M1 g X :=
  kCJ_ag (ha 1 (by omega)) (ha 2 (by omega)) (fun q _ h2 => ha q (by omega)) (fun q h1 => ha q (by omega)) h
section zPre
variable {n : Nat} {P : Nat → Int32} {F : zTS} {I : Nat → Option zTS} {M : zMem} {g : Nat → Option Nat} {X : List zShp}
theorem kCJ_cnt (hw : kWF F) (h : kCJ n P F I M g X) : kCnt M := ⟨tN F, hw.1.2, by rw [← hw.1.1]; exact h.2.2.1.1⟩
theorem kCJ_dpt (hw : kWF F) (h : kCJ n P F I M g X) : kDpt M := by
  obtain ⟨d, hd, e⟩ := hw.2.2.1
  exact ⟨d, hd, by rw [← e]; exact h.2.2.1.2.2.1⟩
theorem kCJ_sts (hw : kWF F) (h : kCJ n P F I M g X) : kSts M := by
  obtain ⟨-, hN, -, -, -, -, -, hS, -⟩ := h.2.2.1
  obtain ⟨-, ⟨e, hs⟩, -, -, -, -, -, w8, -⟩ := hw
  refine ⟨sN F, hs, by rw [← e]; exact hN, fun i hi => ?_⟩
  obtain ⟨⟨m, hm, em⟩, -⟩ := w8 i hi
  rw [show (19 : Nat) = 10 + 9 from rfl, (hS i (by omega)).1, em]
  exact vp_in_nI hm (by decide)
theorem kCJ_pad (hn : n ≤ 60) (h : kCJ n P F I M g X) : kPad M := ⟨n, hn, h.1⟩
end zPre
