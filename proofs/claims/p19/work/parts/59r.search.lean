/-! the reference's search: the first best plan by men -/
def eE (N e : Nat) : Int32 := if e < N then nI e else -6
/-- the most so far, told by one more; 0 where there is none -/
def mo (w : Nat) : Int32 := if w = 0 then -6 else nI (w - 1)
theorem mo_le : ∀ w, w < 8 → ∀ f, f < 7 → ((nI f ≤ mo w) ↔ f < w) := by decide +kernel
theorem mo_lt : ∀ w, w < 8 → ∀ f, f < 7 → ∀ m, m < 6 → f ≤ m → ((mo w < nI f + 6 - nI m) ↔ w ≤ f + 6 - m) := by decide +kernel
def hX (E : Nat → Nat) (m x : Nat) : Nat → Nat := fun k => if k = m then x else E k
def hUp (y : Nat → Nat → Bool) (N m c : Nat) (E L : Nat → Nat) (f w : Nat) (B : Nat → Int32) (w2 : Nat) (B2 : Nat → Int32) : Prop :=
  (f + hO y c L < w ∧ w2 = w ∧ ∀ k, k < 6 → B2 k = B k) ∨ (w ≤ f + hO y c L ∧ w2 = f + hO y c L + 1 ∧ ∀ k, k < 6 → B2 k = if k < m then eE N (E k) else hE (hP y c L k))
def hcd (y : Nat → Nat → Bool) (N c : Nat) (L : Nat → Nat) (t : Nat) : Prop := t < N → y (5 - c) t = true ∧ 0 < L t
def haf (N : Nat) (L : Nat → Nat) (t : Nat) : Nat → Nat := if t < N then hDec L t else L
def hga (N t : Nat) : Nat := if t < N then 1 else 0
def hvv (y : Nat → Nat → Bool) (N c : Nat) (L : Nat → Nat) (t : Nat) : Nat := hga N t + hO y c (haf N L t)
def hJ (y : Nat → Nat → Bool) (N c : Nat) (E L : Nat → Nat) (f w : Nat) (B : Nat → Int32) (x w1 : Nat) (B1 : Nat → Int32) : Prop :=
  (w1 = w ∧ (∀ k, k < 6 → B1 k = B k) ∧ ∀ t, t < x → hcd y N c L t → f + hvv y N c L t < w) ∨
  ∃ t0, t0 < x ∧ t0 ≤ N ∧ hcd y N c L t0 ∧ w ≤ f + hvv y N c L t0 ∧ w1 = f + hvv y N c L t0 + 1 ∧ (∀ k, k < 6 → B1 k = if k < 5 - c then eE N (E k) else if k = 5 - c then eE N t0 else hE (hP y c (haf N L t0) k)) ∧ (∀ t, t < t0 → hcd y N c L t → hvv y N c L t < hvv y N c L t0) ∧ ∀ t, t < x → hcd y N c L t → hvv y N c L t ≤ hvv y N c L t0
section zH4
variable {y : Nat → Nat → Bool} {N c f w : Nat} {E L : Nat → Nat} {B : Nat → Int32}
theorem hJ_0 : hJ y N c E L f w B 0 w B := Or.inl ⟨rfl, fun _ _ => rfl, fun t h => absurd h (Nat.not_lt_zero t)⟩
theorem hJ_skip {x w1 : Nat} {B1 : Nat → Int32} (h : hJ y N c E L f w B x w1 B1) (hn : ¬ hcd y N c L x) : hJ y N c E L f w B (x + 1) w1 B1 := by
  rcases h with ⟨a, b, d⟩ | ⟨t0, a1, a2, a3, a4, a5, a6, a7, a8⟩
  · refine Or.inl ⟨a, b, fun t ht hc => ?_⟩
    by_cases e : t = x
    · subst e; exact absurd hc hn
    · exact d t (by omega) hc
  · refine Or.inr ⟨t0, by omega, a2, a3, a4, a5, a6, a7, fun t ht hc => ?_⟩
    by_cases e : t = x
    · subst e; exact absurd hc hn
    · exact a8 t (by omega) hc
theorem hJ_step {x w1 w2 : Nat} {B1 B2 : Nat → Int32} (hc6 : c < 6) (hx : x ≤ N) (h : hJ y N c E L f w B x w1 B1) (hy : hcd y N c L x) (hu : hUp y N (5 - c + 1) c (hX E (5 - c) x) (haf N L x) (f + hga N x) w1 B1 w2 B2) : hJ y N c E L f w B (x + 1) w2 B2 := by
  have ev : f + hga N x + hO y c (haf N L x) = f + hvv y N c L x := by unfold hvv; omega
  unfold hUp at hu
  rw [ev] at hu
  have eB : ∀ k, (if k < 5 - c + 1 then eE N (hX E (5 - c) x k) else hE (hP y c (haf N L x) k)) = (if k < 5 - c then eE N (E k) else if k = 5 - c then eE N x else hE (hP y c (haf N L x) k)) := by
    intro k
    unfold hX
    by_cases q : k < 5 - c
    · rw [if_pos (by omega), if_neg (by omega), if_pos q]
    · rw [if_neg q]
      by_cases q2 : k = 5 - c
      · rw [if_pos (by omega), if_pos q2, if_pos q2]
      · rw [if_neg (by omega), if_neg q2]
  rcases h with ⟨a, b, d⟩ | ⟨t0, a1, a2, a3, a4, a5, a6, a7, a8⟩
  · subst a
    rcases hu with ⟨u1, u2, u3⟩ | ⟨u1, u2, u3⟩
    · refine Or.inl ⟨u2, fun k hk => (u3 k hk).trans (b k hk), fun t ht hc => ?_⟩
      by_cases e : t = x
      · subst e; exact u1
      · exact d t (by omega) hc
    · refine Or.inr ⟨x, by omega, hx, hy, u1, u2, fun k hk => (u3 k hk).trans (eB k), fun t ht hc => ?_, fun t ht hc => ?_⟩
      · have := d t ht hc; omega
      · by_cases e : t = x
        · subst e; exact Nat.le_refl _
        · have := d t (by omega) hc; omega
  · rcases hu with ⟨u1, u2, u3⟩ | ⟨u1, u2, u3⟩
    · refine Or.inr ⟨t0, by omega, a2, a3, a4, by omega, fun k hk => (u3 k hk).trans (a6 k hk), a7, fun t ht hc => ?_⟩
      by_cases e : t = x
      · subst e; omega
      · exact a8 t (by omega) hc
    · refine Or.inr ⟨x, by omega, hx, hy, by omega, u2, fun k hk => (u3 k hk).trans (eB k), fun t ht hc => ?_, fun t ht hc => ?_⟩
      · have := a8 t ht hc; omega
      · by_cases e : t = x
        · subst e; exact Nat.le_refl _
        · have := a8 t (by omega) hc; omega
theorem hJ_end {x w1 : Nat} {B1 : Nat → Int32} (hc6 : c < 6) (hN : N ≤ 10) (hyN : ∀ t, y (5 - c) t = true → t < N) (h : hJ y N c E L f w B x w1 B1) (hx : x = N + 1 ∨ f + (c + 1) < w1) : hUp y N (5 - c) (c + 1) E L f w B w1 B1 := by
  have oc := hO_c y (c + 1) L
  have vN : hvv y N c L N = hO y c L := by
    unfold hvv hga haf
    rw [if_neg (Nat.lt_irrefl N), if_neg (Nat.lt_irrefl N)]
    omega
  have vt : ∀ t, t < N → hvv y N c L t = 1 + hO y c (hDec L t) := fun t ht => by
    unfold hvv hga haf
    rw [if_pos ht, if_pos ht]
  have ub : ∀ b, (∀ t, t < N + 1 → hcd y N c L t → hvv y N c L t ≤ b) → hO y (c + 1) L ≤ b := fun b hb => by
    refine hO_ub ?_ (fun t _ => ?_)
    · rw [← vN]; exact hb N (by omega) (fun z => absurd z (Nat.lt_irrefl N))
    · unfold hV
      by_cases q : y (5 - c) t = true ∧ 0 < L t
      · rw [if_pos q, ← vt t (hyN t q.1)]
        exact hb t (by have := hyN t q.1; omega) (fun _ => q)
      · rw [if_neg q]; exact Nat.zero_le _
  rcases h with ⟨a, b, d⟩ | ⟨t0, a1, a2, a3, a4, a5, a6, a7, a8⟩
  · refine Or.inl ⟨?_, a, b⟩
    subst a
    rcases hx with hx | hx
    · subst hx
      have hn := d N (by omega) (fun z => absurd z (Nat.lt_irrefl N))
      have := ub (w1 - 1 - f) (fun t ht hc => by have := d t ht hc; omega)
      omega
    · omega
  · have lo : hvv y N c L t0 ≤ hO y (c + 1) L := by
      by_cases q : t0 < N
      · have h1 := hO_t (y := y) (c := c) (L := L) (t := t0) (by omega)
        unfold hV at h1
        rw [if_pos (a3 q)] at h1
        rw [vt t0 q]; exact h1
      · have e : t0 = N := by omega
        rw [e, vN]; exact hO_none y c L
    have ev : hvv y N c L t0 = hO y (c + 1) L := by
      rcases hx with hx | hx
      · subst hx
        exact Nat.le_antisymm lo (ub _ a8)
      · omega
    have pk : hPick y c L = if t0 < N then t0 else 10 := by
      unfold hPick
      by_cases q : t0 < N
      · rw [if_pos q]
        refine hPk_eq 10 0 (Nat.zero_le _) (by omega) (fun j _ hj => Bool.eq_false_iff.mpr fun z => ?_) (fun _ => hQ_iff.mpr ⟨(a3 q).1, (a3 q).2, ?_⟩)
        · have z2 := hQ_iff.mp z
          have z3 := a7 j hj (fun _ => ⟨z2.1, z2.2.1⟩)
          rw [vt j (by omega)] at z3
          omega
        · rw [← vt t0 q]; exact ev
      · rw [if_neg q]
        refine hPk_eq 10 0 (Nat.zero_le _) (Nat.le_refl _) (fun j _ hj => Bool.eq_false_iff.mpr fun z => ?_) (fun h => absurd h (Nat.lt_irrefl _))
        have z2 := hQ_iff.mp z
        have z4 := hyN j z2.1
        have z3 := a7 j (by omega) (fun _ => ⟨z2.1, z2.2.1⟩)
        rw [vt j z4] at z3
        omega
    refine Or.inr ⟨by omega, by omega, fun k hk => ?_⟩
    rw [a6 k hk]
    by_cases q1 : k < 5 - c
    · rw [if_pos q1, if_pos q1]
    · rw [if_neg q1, if_neg q1]
      rw [show hP y (c + 1) L k = (if k = 5 - c then hPick y c L else hP y c (hNx L (hPick y c L)) k) from rfl]
      by_cases q2 : k = 5 - c
      · rw [if_pos q2, if_pos q2, pk]
        unfold eE hE
        by_cases q : t0 < N
        · rw [if_pos q, if_pos q, if_pos (by omega)]
        · rw [if_neg q, if_neg q, if_neg (by omega)]
      · rw [if_neg q2, if_neg q2, pk]
        congr 2
        unfold haf hNx
        by_cases q : t0 < N
        · rw [if_pos q, if_pos q, if_pos (by omega)]
        · rw [if_neg q, if_neg q, if_neg (by omega)]
end zH4
