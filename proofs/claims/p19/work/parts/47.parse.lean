/-! telling a book: one machine for both -/
abbrev bS : Type := Nat × Nat × Nat × Nat × Nat × (Nat → Int32)
def bStep (A : bS) (s : Nat) : Option bS :=
  if A.2.1 = 10 then none
  else if 97 ≤ s ∧ s < 97 + A.2.1 then
    (if A.1 = 0 then some ⟨1, A.2.1, s - 97, A.2.2.2.1, A.2.2.2.2.1, upd A.2.2.2.2.2 (5 * A.2.1 + 1) (nI (s - 97))⟩
     else if A.1 = 1 then (if A.2.2.1 < s - 97 then some ⟨2, A.2.1, s - 97, A.2.2.2.1, A.2.2.2.2.1, upd A.2.2.2.2.2 (5 * A.2.1 + 2) (nI (s - 97))⟩ else none)
     else if A.1 = 3 then some ⟨4, A.2.1, A.2.2.1, A.2.2.2.1, A.2.2.2.2.1, upd A.2.2.2.2.2 (5 * A.2.1 + 3) (nI (s - 97))⟩
     else none)
  else if s = 43 then (if A.1 < 3 then some ⟨3, A.2.1, A.2.2.1, A.2.2.2.1, A.2.2.2.2.1, A.2.2.2.2.2⟩ else none)
  else if 65 ≤ s ∧ s ≤ 70 then (if A.1 ≠ 3 ∧ A.1 ≠ 6 ∧ A.2.2.2.1 < 3 ∧ (A.2.2.2.1 = 0 ∨ A.2.2.1 < s) then some ⟨5, A.2.1, s, A.2.2.2.1 + 1, A.2.2.2.2.1, upd A.2.2.2.2.2 (5 * A.2.1) (A.2.2.2.2.2 (5 * A.2.1) ||| ((1 : Int32) <<< (nI (s - 65) &&& 31)))⟩ else none)
  else if s = 63 then (if A.1 ≠ 3 ∧ A.1 ≠ 6 ∧ A.2.2.2.1 < 3 ∧ A.2.2.2.2.1 < 4 then some ⟨6, A.2.1, A.2.2.1, A.2.2.2.1, A.2.2.2.2.1 + 1, upd A.2.2.2.2.2 (5 * A.2.1 + 4) 1⟩ else none)
  else if s = 59 ∧ 4 < A.1 then some ⟨0, A.2.1 + 1, 0, 0, A.2.2.2.2.1, A.2.2.2.2.2⟩ else none
def bRun (P : Nat → Int32) : Nat → Nat → bS → Option bS
  | _, 0, A => some A
  | k, d + 1, A => match bStep A (Int32.toNatClampNeg (P k)) with
    | none => none
    | some B => bRun P (k + 1) d B
def bSg (n : Nat) (P : Nat → Int32) : Prop := ∀ j, j < n → ∃ s : Nat, 33 ≤ s ∧ s ≤ 126 ∧ P j = nI s
def bLs (A : bS) (x : Int32) : Prop := (A.1 = 0 → x = -6) ∧ (A.1 = 1 → x = nI A.2.2.1) ∧ (0 < A.2.2.2.1 → x = nI A.2.2.1)
def bSz (A : bS) : Prop := A.1 ≤ 6 ∧ A.2.1 ≤ 10 ∧ A.2.2.2.1 ≤ 3 ∧ A.2.2.2.2.1 ≤ 4 ∧ A.2.2.1 ≤ 126
theorem bStep_sz {A B : bS} {s : Nat} (hs : s ≤ 126) (h : bSz A) (e : bStep A s = some B) : bSz B := by
  obtain ⟨q, n, L, c, o, R⟩ := A
  obtain ⟨h1, h2, h3, h4, h5⟩ := h
  simp only [bStep] at e
  simp only at h1 h2 h3 h4 h5
  (repeat' split at e) <;> first | (cases e; done) | (cases e; refine ⟨?_, ?_, ?_, ?_, ?_⟩ <;> simp only <;> omega)
theorem bAhead {s n : Nat} (hs : s ≤ 126) (hn : n ≤ 10) : inI (nI s - 97) 0 (nI n - 1) = true ↔ (97 ≤ s ∧ s < 97 + n) := by
  simp only [inI, Bool.and_eq_true, Bool.not_eq_true', decide_eq_false_iff_not]
  rw [Int32.lt_iff_toInt_lt, Int32.lt_iff_toInt_lt, show (97 : Int32) = nI 97 from rfl, show (1 : Int32) = nI 1 from rfl, pk_sub_toInt (by omega) (by omega), pk_sub_toInt (by omega) (by omega), show (0 : Int32).toInt = 0 from rfl]
  omega
theorem bHand {s : Nat} (hs : s ≤ 126) : inI (nI s) 65 70 = true ↔ (65 ≤ s ∧ s ≤ 70) := by
  simp only [inI, Bool.and_eq_true, Bool.not_eq_true', decide_eq_false_iff_not]
  rw [show (65 : Int32) = nI 65 from rfl, show (70 : Int32) = nI 70 from rfl, nI_ltI (by omega) (by omega), nI_ltI (by omega) (by omega)]
  omega

theorem bGt {s : Nat} {x : Int32} {a : Nat} (hs : s ≤ 126) (h97 : 97 ≤ s) (hx : x = nI a) (ha : a ≤ 126) : (nI s - 97 ≤ x) ↔ s - 97 ≤ a := by
  rw [hx, show (97 : Int32) = nI 97 from rfl, pk_sub h97, nI_leI (by omega) (by omega)]
theorem bGt0 {s : Nat} (hs : s ≤ 126) (h97 : 97 ≤ s) : ¬ (nI s - 97 ≤ (-6 : Int32)) := by
  rw [show (97 : Int32) = nI 97 from rfl, pk_sub h97, Int32.le_iff_toInt_le, nI_toInt (by omega), show (-6 : Int32).toInt = -6 from rfl]
  omega
set_option maxHeartbeats 4000000 in
theorem bTree {N s q c o L : Nat} {W1 W2 Z0 Z1 Z3 Z4 Z5 Z6 ZB : Prop} (hq : q ≤ 6) (e1 : (97 ≤ s ∧ s < 97 + N) → q < 2 → (W1 ↔ (q = 1 ∧ s - 97 ≤ L))) (e2 : ¬ c = 0 → (W2 ↔ s ≤ L)) (t0 : ¬ N = 10 → s = 59 → 4 < q → Z0) (t1 : ¬ N = 10 → (97 ≤ s ∧ s < 97 + N) → q < 2 → (q = 1 → L < s - 97) → Z1) (t3 : ¬ N = 10 → s = 43 → q < 3 → Z3) (t4 : ¬ N = 10 → q = 3 → (97 ≤ s ∧ s < 97 + N) → Z4) (t5 : ¬ N = 10 → ¬ q = 3 → ¬ q = 6 → (65 ≤ s ∧ s ≤ 70) → ¬ 3 ≤ c → (c = 0 ∨ L < s) → Z5) (t6 : ¬ N = 10 → ¬ q = 3 → ¬ q = 6 → s = 63 → ¬ 3 ≤ c → ¬ 4 ≤ o → Z6) (bd : (¬ N = 10 → (97 ≤ s ∧ s < 97 + N) → ¬ q = 0) → (¬ N = 10 → (97 ≤ s ∧ s < 97 + N) → q = 1 → ¬ L < s - 97) → (¬ N = 10 → (97 ≤ s ∧ s < 97 + N) → ¬ q = 3) → (¬ N = 10 → s = 43 → ¬ q < 3) → (¬ N = 10 → (65 ≤ s ∧ s ≤ 70) → ¬ (q ≠ 3 ∧ q ≠ 6 ∧ c < 3 ∧ (c = 0 ∨ L < s))) → (¬ N = 10 → s = 63 → ¬ (q ≠ 3 ∧ q ≠ 6 ∧ c < 3 ∧ o < 4)) → (¬ N = 10 → s = 59 → ¬ 4 < q) → ZB) : (((¬ N = 10) → (((2 ≤ q) → (((¬ q = 3) → (((3 ≤ q) → (((q = 6) → (((¬ s = 59) → (ZB)) ∧ ((s = 59) → (((q ≤ 4) → (ZB)) ∧ ((¬ q ≤ 4) → (Z0)))))) ∧ ((¬ q = 6) → (((¬ (65 ≤ s ∧ s ≤ 70)) → (((¬ s = 63) → (((¬ s = 59) → (ZB)) ∧ ((s = 59) → (((q ≤ 4) → (ZB)) ∧ ((¬ q ≤ 4) → (Z0)))))) ∧ ((s = 63) → (((3 ≤ c) → (ZB)) ∧ ((¬ 3 ≤ c) → (((4 ≤ o) → (ZB)) ∧ ((¬ 4 ≤ o) → (Z6)))))))) ∧ ((65 ≤ s ∧ s ≤ 70) → (((3 ≤ c) → (ZB)) ∧ ((¬ 3 ≤ c) → (((c = 0) → (Z5)) ∧ ((¬ c = 0) → (((W2) → (ZB)) ∧ ((¬ W2) → (Z5)))))))))))) ∧ ((¬ 3 ≤ q) → (((¬ s = 43) → (((q = 6) → (((¬ s = 59) → (ZB)) ∧ ((s = 59) → (((q ≤ 4) → (ZB)) ∧ ((¬ q ≤ 4) → (Z0)))))) ∧ ((¬ q = 6) → (((¬ (65 ≤ s ∧ s ≤ 70)) → (((¬ s = 63) → (((¬ s = 59) → (ZB)) ∧ ((s = 59) → (((q ≤ 4) → (ZB)) ∧ ((¬ q ≤ 4) → (Z0)))))) ∧ ((s = 63) → (((3 ≤ c) → (ZB)) ∧ ((¬ 3 ≤ c) → (((4 ≤ o) → (ZB)) ∧ ((¬ 4 ≤ o) → (Z6)))))))) ∧ ((65 ≤ s ∧ s ≤ 70) → (((3 ≤ c) → (ZB)) ∧ ((¬ 3 ≤ c) → (((c = 0) → (Z5)) ∧ ((¬ c = 0) → (((W2) → (ZB)) ∧ ((¬ W2) → (Z5)))))))))))) ∧ ((s = 43) → (Z3)))))) ∧ ((q = 3) → (((97 ≤ s ∧ s < 97 + N) → (Z4)) ∧ ((¬ (97 ≤ s ∧ s < 97 + N)) → (ZB)))))) ∧ ((¬ 2 ≤ q) → (((¬ (97 ≤ s ∧ s < 97 + N)) → (((¬ q = 3) → (((3 ≤ q) → (((q = 6) → (((¬ s = 59) → (ZB)) ∧ ((s = 59) → (((q ≤ 4) → (ZB)) ∧ ((¬ q ≤ 4) → (Z0)))))) ∧ ((¬ q = 6) → (((¬ (65 ≤ s ∧ s ≤ 70)) → (((¬ s = 63) → (((¬ s = 59) → (ZB)) ∧ ((s = 59) → (((q ≤ 4) → (ZB)) ∧ ((¬ q ≤ 4) → (Z0)))))) ∧ ((s = 63) → (((3 ≤ c) → (ZB)) ∧ ((¬ 3 ≤ c) → (((4 ≤ o) → (ZB)) ∧ ((¬ 4 ≤ o) → (Z6)))))))) ∧ ((65 ≤ s ∧ s ≤ 70) → (((3 ≤ c) → (ZB)) ∧ ((¬ 3 ≤ c) → (((c = 0) → (Z5)) ∧ ((¬ c = 0) → (((W2) → (ZB)) ∧ ((¬ W2) → (Z5)))))))))))) ∧ ((¬ 3 ≤ q) → (((¬ s = 43) → (((q = 6) → (((¬ s = 59) → (ZB)) ∧ ((s = 59) → (((q ≤ 4) → (ZB)) ∧ ((¬ q ≤ 4) → (Z0)))))) ∧ ((¬ q = 6) → (((¬ (65 ≤ s ∧ s ≤ 70)) → (((¬ s = 63) → (((¬ s = 59) → (ZB)) ∧ ((s = 59) → (((q ≤ 4) → (ZB)) ∧ ((¬ q ≤ 4) → (Z0)))))) ∧ ((s = 63) → (((3 ≤ c) → (ZB)) ∧ ((¬ 3 ≤ c) → (((4 ≤ o) → (ZB)) ∧ ((¬ 4 ≤ o) → (Z6)))))))) ∧ ((65 ≤ s ∧ s ≤ 70) → (((3 ≤ c) → (ZB)) ∧ ((¬ 3 ≤ c) → (((c = 0) → (Z5)) ∧ ((¬ c = 0) → (((W2) → (ZB)) ∧ ((¬ W2) → (Z5)))))))))))) ∧ ((s = 43) → (Z3)))))) ∧ ((q = 3) → (((97 ≤ s ∧ s < 97 + N) → (Z4)) ∧ ((¬ (97 ≤ s ∧ s < 97 + N)) → (ZB)))))) ∧ ((97 ≤ s ∧ s < 97 + N) → (((W1) → (ZB)) ∧ ((¬ W1) → (Z1)))))))) ∧ ((N = 10) → (ZB))) := by
  have w1 : W1 → (97 ≤ s ∧ s < 97 + N) → q < 2 → (q = 1 ∧ s - 97 ≤ L) := fun h a b => (e1 a b).mp h
  have w1' : ¬ W1 → (97 ≤ s ∧ s < 97 + N) → q < 2 → ¬ (q = 1 ∧ s - 97 ≤ L) := fun h a b r => h ((e1 a b).mpr r)
  have w2 : W2 → ¬ c = 0 → s ≤ L := fun h a => (e2 a).mp h
  have w2' : ¬ W2 → ¬ c = 0 → ¬ s ≤ L := fun h a r => h ((e2 a).mpr r)
  clear e1 e2
  repeat' first
    | refine And.intro ?_ ?_
    | intro _
  all_goals first
    | exact t3 (by omega) (by omega) (by omega)
    | exact t4 (by omega) (by omega) (by omega)
    | exact t0 (by omega) (by omega) (by omega)
    | exact t6 (by omega) (by omega) (by omega) (by omega) (by omega) (by omega)
    | exact t5 (by omega) (by omega) (by omega) (by omega) (by omega) (Or.inl (by assumption))
    | (have u := w2' (by assumption) (by assumption); exact t5 (by omega) (by omega) (by omega) (by omega) (by omega) (by omega))
    | (have u := w1' (by assumption) (by assumption) (by omega); exact t1 (by omega) (by omega) (by omega) (by intros; omega))
    | (have u := w1 (by assumption) (by assumption) (by omega); exact bd (by intros; omega) (by intros; omega) (by intros; omega) (by intros; omega) (by intros; omega) (by intros; omega) (by intros; omega))
    | (have u := w2 (by assumption) (by assumption); exact bd (by intros; omega) (by intros; omega) (by intros; omega) (by intros; omega) (by intros; omega) (by intros; omega) (by intros; omega))
    | exact bd (by intros; omega) (by intros; omega) (by intros; omega) (by intros; omega) (by intros; omega) (by intros; omega) (by intros; omega)
    | (exfalso; omega)
