/-! the class: the reader against the machine -/
def bSt (q : Nat) : Int32 := if q = 0 then 0 else if q < 3 then 1 else if q = 3 then 2 else if q < 6 then 3 else 4
theorem bSt_f : ∀ q, q < 7 → ((bSt q = 2 ↔ q = 3) ∧ (bSt q = 4 ↔ q = 6) ∧ (bSt q ≤ 1 ↔ q < 3) ∧ (1 < bSt q ↔ ¬ q < 3) ∧ (bSt q = 0 ↔ q = 0)) := by decide
def bRel (A : bS) (M : zMem) : Prop := M 3 1 = bSt A.1 ∧ M 3 2 = nI A.2.2.2.2.1 ∧ M 4 5 = nI A.2.1 ∧ ∀ k, k ≤ A.2.1 → k < 10 → M 5 k = A.2.2.2.2.2 (5 * k) ∧ M 6 k = A.2.2.2.2.2 (5 * k + 1) ∧ M 7 k = A.2.2.2.2.2 (5 * k + 2) ∧ M 8 k = A.2.2.2.2.2 (5 * k + 3) ∧ M 9 k = A.2.2.2.2.2 (5 * k + 4)
theorem bWr {M : zMem} {R : Nat → Int32} {N k i j : Nat} {v x : Int32} (hi : i < 5) (hj : j < 5) (h : M (5 + i) k = R (5 * k + i)) : zms (zms M (5 + j) N v) 3 1 x (5 + i) k = upd R (5 * N + j) v (5 * k + i) := by
  rw [zms_ne _ _ _ _ (5 + i) (by omega)]
  by_cases e : i = j
  · subst e
    rw [zms_at]
    by_cases e2 : k = N
    · rw [if_pos e2, e2, upS]
    · rw [if_neg e2, upN _ _ _ _ (by omega)]; exact h
  · rw [zms_ne _ _ _ _ _ (by omega), upN _ _ _ _ (by omega)]; exact h
theorem bRel_w {q N L c o : Nat} {R : Nat → Int32} {M : zMem} (h : bRel (q, N, L, c, o, R) M) {j : Nat} (hj : j < 5) (v : Int32) (q2 L2 c2 : Nat) (x : Int32) (hx : x = bSt q2) : bRel (q2, N, L2, c2, o, upd R (5 * N + j) v) (zms (zms M (5 + j) N v) 3 1 x) := by
  obtain ⟨h1, h2, h3, h4⟩ := h
  refine ⟨?_, ?_, ?_, fun k hk hk2 => ?_⟩
  · rw [zms_at, if_pos rfl]; exact hx
  · rw [zms_at, if_neg (by decide), zms_ne _ _ _ _ 3 (by omega)]; exact h2
  · rw [zms_ne _ _ _ _ 4 (by decide), zms_ne _ _ _ _ 4 (by omega)]; exact h3
  · obtain ⟨a0, a1, a2, a3, a4⟩ := h4 k hk hk2
    exact ⟨bWr (i := 0) (by decide) hj a0, bWr (i := 1) (by decide) hj a1, bWr (i := 2) (by decide) hj a2, bWr (i := 3) (by decide) hj a3, bWr (i := 4) (by decide) hj a4⟩
theorem bRel_s {q N L c o : Nat} {R : Nat → Int32} {M : zMem} (h : bRel (q, N, L, c, o, R) M) (q2 L2 c2 : Nat) (x : Int32) (hx : x = bSt q2) : bRel (q2, N, L2, c2, o, R) (zms M 3 1 x) := by
  obtain ⟨h1, h2, h3, h4⟩ := h
  refine ⟨?_, ?_, ?_, fun k hk hk2 => ?_⟩
  · rw [zms_at, if_pos rfl]; exact hx
  · rw [zms_at, if_neg (by decide)]; exact h2
  · rw [zms_ne _ _ _ _ 4 (by decide)]; exact h3
  · rw [zms_ne _ _ _ _ 5 (by decide), zms_ne _ _ _ _ 6 (by decide), zms_ne _ _ _ _ 7 (by decide), zms_ne _ _ _ _ 8 (by decide), zms_ne _ _ _ _ 9 (by decide)]
    exact h4 k hk hk2
theorem bRel_e {q N L c o : Nat} {R : Nat → Int32} {M : zMem} (h : bRel (q, N, L, c, o, R) M) (hN : N < 10) (hf : N + 1 < 10 → bFr R (N + 1)) : bRel (0, N + 1, 0, 0, o, R) (if 10 ≤ nI (N + 1) then zms (zms M 4 5 (nI (N + 1))) 3 1 0 else zms (kClr (zms M 4 5 (nI (N + 1))) (N + 1)) 3 1 0) := by
  obtain ⟨h1, h2, h3, h4⟩ := h
  have h0 : (10 ≤ nI (N + 1)) ↔ 10 ≤ N + 1 := nI_leI (a := 10) (by omega) (by omega)
  by_cases c : 10 ≤ N + 1
  · rw [if_pos (h0.mpr c)]
    refine ⟨?_, ?_, ?_, fun k hk hk2 => ?_⟩
    · rw [zms_at, if_pos rfl]; rfl
    · rw [zms_at, if_neg (by decide), zms_ne _ _ _ _ 3 (by decide)]; exact h2
    · rw [zms_ne _ _ _ _ 4 (by decide), zms_at, if_pos rfl]
    · simp only at hk
      have e := h4 k (by simp only; omega) hk2
      rw [zms_ne _ _ _ _ 5 (by decide), zms_ne _ _ _ _ 6 (by decide), zms_ne _ _ _ _ 7 (by decide), zms_ne _ _ _ _ 8 (by decide), zms_ne _ _ _ _ 9 (by decide), zms_ne _ _ _ _ 5 (by decide), zms_ne _ _ _ _ 6 (by decide), zms_ne _ _ _ _ 7 (by decide), zms_ne _ _ _ _ 8 (by decide), zms_ne _ _ _ _ 9 (by decide)]
      exact e
  · rw [if_neg (fun h => c (h0.mp h))]
    obtain ⟨f0, f1, f2, f3, f4⟩ := hf (by omega)
    have e3 : kClr (zms M 4 5 (nI (N + 1))) (N + 1) 3 = M 3 := by
      unfold kClr
      rw [zms_ne _ _ _ _ 3 (by decide), zms_ne _ _ _ _ 3 (by decide), zms_ne _ _ _ _ 3 (by decide), zms_ne _ _ _ _ 3 (by decide), zms_ne _ _ _ _ 3 (by decide), zms_ne _ _ _ _ 3 (by decide)]
    have e4 : kClr (zms M 4 5 (nI (N + 1))) (N + 1) 4 = zms M 4 5 (nI (N + 1)) 4 := by
      unfold kClr
      rw [zms_ne _ _ _ _ 4 (by decide), zms_ne _ _ _ _ 4 (by decide), zms_ne _ _ _ _ 4 (by decide), zms_ne _ _ _ _ 4 (by decide), zms_ne _ _ _ _ 4 (by decide)]
    have hk : ∀ k p, 5 ≤ p → p ≤ 9 → kClr (zms M 4 5 (nI (N + 1))) (N + 1) p k = if k = N + 1 then (if p = 5 ∨ p = 9 then 0 else -6) else M p k := by
      intro k p p1 p2
      have hp : p = 5 ∨ p = 6 ∨ p = 7 ∨ p = 8 ∨ p = 9 := by omega
      rcases hp with rfl | rfl | rfl | rfl | rfl <;> by_cases ek : k = N + 1 <;> simp [kClr, zms, ek]
    refine ⟨?_, ?_, ?_, fun k hk1 hk2 => ?_⟩
    · rw [zms_at, if_pos rfl]; rfl
    · rw [zms_at, if_neg (by decide), e3]; exact h2
    · rw [zms_ne _ _ _ _ 4 (by decide), e4, zms_at, if_pos rfl]
    · simp only at hk1 ⊢
      rw [zms_ne _ _ _ _ 5 (by decide), zms_ne _ _ _ _ 6 (by decide), zms_ne _ _ _ _ 7 (by decide), zms_ne _ _ _ _ 8 (by decide), zms_ne _ _ _ _ 9 (by decide), hk k 5 (by decide) (by decide), hk k 6 (by decide) (by decide), hk k 7 (by decide) (by decide), hk k 8 (by decide) (by decide), hk k 9 (by decide) (by decide)]
      by_cases ek : k = N + 1
      · subst ek
        rw [if_pos rfl, if_pos rfl, if_pos rfl, if_pos rfl, if_pos rfl, f0, f1, f2, f3, f4]
        exact ⟨rfl, rfl, rfl, rfl, rfl⟩
      · rw [if_neg ek, if_neg ek, if_neg ek, if_neg ek, if_neg ek]
        exact h4 k (by simp only; omega) hk2
theorem bRel_a {q N L c o : Nat} {R : Nat → Int32} {M : zMem} (h : bRel (q, N, L, c, o, R) M) : bRel (6, N, L, c, o + 1, upd R (5 * N + 4) 1) (zms (zms (zms M 9 N 1) 3 2 (nI (o + 1))) 3 1 4) := by
  obtain ⟨y1, y2, y3, y4⟩ := bRel_w h (j := 4) (by decide) 1 6 L c 4 rfl
  obtain ⟨h1, h2, h3, h4⟩ := h
  refine ⟨?_, ?_, ?_, fun k hk hk2 => ?_⟩
  · rw [zms_at, if_pos rfl]; rfl
  · rw [zms_at, if_neg (by decide), zms_at, if_pos rfl]
  · rw [zms_ne _ _ _ _ 4 (by decide), zms_ne _ _ _ _ 4 (by decide), zms_ne _ _ _ _ 4 (by decide)]; exact h3
  · have y := y4 k hk hk2
    have e : ∀ p, 5 ≤ p → zms (zms (zms M 9 N 1) 3 2 (nI (o + 1))) 3 1 4 p = zms (zms M (5 + 4) N 1) 3 1 4 p := fun p hp => by
      rw [zms_ne _ 3 _ _ p (by omega), zms_ne _ 3 _ _ p (by omega), zms_ne _ 3 _ _ p (by omega)]
    rw [e 5 (by decide), e 6 (by decide), e 7 (by decide), e 8 (by decide), e 9 (by decide)]
    exact y
def bTkP (A : bS) (s : Nat) (x : Bool × zMem) : Prop := (bStep A s = none ∧ x.1 = false) ∨ (∃ B, bStep A s = some B ∧ x.1 = true ∧ bRel B x.2) ∨ ∃ B, bStep A s = some B ∧ B.1 = 3 ∧ B.2.1 = 0 ∧ x.1 = false
set_option maxHeartbeats 4000000 in
theorem bTk {A : bS} {M : zMem} {s : Nat} (s2 : s ≤ 126) (hi : bInv A) (hr : bRel A M) : bTkP A s (kTk M (nI s)) := by
  obtain ⟨q, N, L, c, o, R⟩ := A
  have hr0 := hr
  obtain ⟨r1, r2, r3, r4⟩ := hr
  obtain ⟨z, i2, i3, i4, i5⟩ := hi
  have zN : N ≤ 10 := z.2.1
  have zq : q ≤ 6 := z.1
  have zL : L ≤ 126 := z.2.2.2.2
  have zo : o ≤ 4 := z.2.2.2.1
  have zc : c ≤ 3 := z.2.2.1
  simp only at i4 i5 r1 r2 r3 r4
  have l10 : (nI N < 10) ↔ N < 10 := nI_ltI (b := 10) (by omega) (by omega)
  have l97 : (nI s < 97) ↔ s < 97 := nI_ltI (b := 97) (by omega) (by omega)
  have l97n : ((97 : Int32) + nI N ≤ nI s) ↔ 97 + N ≤ s := by
    rw [show (97 : Int32) = nI 97 from rfl, nI_add]
    exact nI_leI (by omega) (by omega)
  have l65 : (nI s < 65) ↔ s < 65 := nI_ltI (b := 65) (by omega) (by omega)
  have l71 : (71 ≤ nI s) ↔ 71 ≤ s := nI_leI (a := 71) (by omega) (by omega)
  have c1 : nI s = 59 ↔ s = 59 := nI_eq (b := 59) (by omega) (by omega)
  have c2 : nI s = 63 ↔ s = 63 := nI_eq (b := 63) (by omega) (by omega)
  have c3 : nI s = 43 ↔ s = 43 := nI_eq (b := 43) (by omega) (by omega)
  have n0 : nI N = 0 ↔ N = 0 := nI_eq (b := 0) (by omega) (by omega)
  have o4 : nI o < 4 ↔ o < 4 := nI_ltI (b := 4) (by omega) (by omega)
  obtain ⟨q2, q4, q1, q1', q0⟩ := bSt_f q (by omega)
  unfold kTk
  rw [r3]
  by_cases h10 : N = 10
  · rw [if_neg (fun h => absurd (l10.mp h) (by omega))]
    exact Or.inl ⟨by unfold bStep; exact if_pos h10, rfl⟩
  have h9 : N < 10 := by omega
  rw [if_pos (l10.mpr h9)]
  obtain ⟨u1, u2, u3, u4, u5, u6, u7, u8, u9, u10, u11⟩ := i4 h9
  obtain ⟨a0, a1, a2, a3, a4⟩ := r4 N (Nat.le_refl N) h9
  have cN : Int32.toNatClampNeg (nI N) = N := nI_clamp (by omega)
  have T2 : ¬ (97 ≤ s ∧ s < 97 + N) → bTkP (q, N, L, c, o, R) s (kTk2 M (nI s)) := by
    intro lo
    unfold kTk2
    have room : kRoom M (nI N) = true ↔ (q ≠ 3 ∧ q ≠ 6 ∧ c < 3) := by
      obtain ⟨h, k1, k2, k3, k4⟩ := u1
      have e3 : (3 ≤ bc (nI h)) ↔ 3 ≤ c := by
        rw [bBc h k1, k3]
        exact nI_leI (a := 3) (by omega) (by omega)
      unfold kRoom
      rw [r1, cN, a0, k2]
      simp only [Bool.and_eq_true, Bool.not_eq_true', decide_eq_false_iff_not, q2, q4, e3]
      omega
    have T3 : ¬ (65 ≤ s ∧ s ≤ 70) → bTkP (q, N, L, c, o, R) s (kTk3 M (nI s)) := by
      intro hm
      unfold kTk3
      rw [r3]
      by_cases ep : s = 43
      · rw [if_pos (c3.mpr ep)]
        unfold kTPlus
        rw [r1]
        by_cases h3 : q < 3
        · have eb : bStep (q, N, L, c, o, R) s = some (3, N, L, c, o, R) := by
            unfold bStep
            simp only
            rw [if_neg h10, if_neg lo, if_pos ep, if_pos h3]
          rw [if_neg (fun h => (q1'.mp h) h3)]
          by_cases hN : N = 0
          · rw [if_pos (n0.mpr hN)]
            exact Or.inr (Or.inr ⟨_, eb, rfl, hN, rfl⟩)
          · rw [if_neg (fun h => hN (n0.mp h))]
            exact Or.inr (Or.inl ⟨_, eb, rfl, bRel_s hr0 3 L c 2 rfl⟩)
        · rw [if_pos (q1'.mpr h3)]
          refine Or.inl ⟨?_, rfl⟩
          unfold bStep
          simp only
          rw [if_neg h10, if_neg lo, if_pos ep, if_neg h3]
      rw [if_neg (fun h => ep (c3.mp h))]
      by_cases ee : s = 59
      · rw [if_pos (c1.mpr ee)]
        unfold kTEnd
        rw [cN, a0, a4, nI_1, nI_clamp (by omega)]
        by_cases h4 : 4 < q
        · have eb : bStep (q, N, L, c, o, R) s = some (0, N + 1, 0, 0, o, R) := by
            unfold bStep
            simp only
            rw [if_neg h10, if_neg lo, if_neg ep, if_neg hm, if_neg (by omega), if_pos ⟨ee, h4⟩]
          rw [if_neg ?_]
          · exact Or.inr (Or.inl ⟨_, eb, rfl, bRel_e hr0 h9 (fun h => i5 (N + 1) (by omega) h)⟩)
          · rintro ⟨x1, x2⟩
            by_cases q6 : q = 6
            · rw [u10 q6] at x2
              exact absurd x2 (by decide)
            · obtain ⟨h, k1, k2, k3, k4⟩ := u1
              have := u9 (by omega)
              rw [k2] at x1
              have h0 : h = 0 := (nI_eq (b := 0) (by omega) (by omega)).mp x1
              subst h0
              have : pc6 0 = 0 := rfl
              omega
        · rw [if_pos ?_]
          · refine Or.inl ⟨?_, rfl⟩
            unfold bStep
            simp only
            rw [if_neg h10, if_neg lo, if_neg ep, if_neg hm, if_neg (by omega), if_neg (fun h => h4 h.2)]
          · refine ⟨?_, u11 (by omega)⟩
            have c0 := u8 (by omega)
            obtain ⟨h, k1, k2, k3, k4⟩ := u1
            rw [k2, bPc0 h k1 (by omega)]
            rfl
      rw [if_neg (fun h => ee (c1.mp h))]
      by_cases ek : s = 63
      · rw [if_pos (c2.mpr ek)]
        unfold kTAsk
        rw [cN, r2]
        by_cases hc : q ≠ 3 ∧ q ≠ 6 ∧ c < 3
        · rw [if_pos (room.mpr hc)]
          by_cases ho : o < 4
          · rw [if_pos (o4.mpr ho), nI_1]
            have eb : bStep (q, N, L, c, o, R) s = some (6, N, L, c, o + 1, upd R (5 * N + 4) 1) := by
              unfold bStep
              simp only
              rw [if_neg h10, if_neg lo, if_neg ep, if_neg hm, if_pos ek, if_pos ⟨hc.1, hc.2.1, hc.2.2, ho⟩]
            refine Or.inr (Or.inl ⟨_, eb, rfl, ?_⟩)
            exact bRel_a hr0
          · rw [if_neg (fun h => ho (o4.mp h))]
            refine Or.inl ⟨?_, rfl⟩
            unfold bStep
            simp only
            rw [if_neg h10, if_neg lo, if_neg ep, if_neg hm, if_pos ek, if_neg (fun h => ho h.2.2.2)]
        · rw [if_neg (fun h => hc (room.mp h))]
          refine Or.inl ⟨?_, rfl⟩
          unfold bStep
          simp only
          rw [if_neg h10, if_neg lo, if_neg ep, if_neg hm, if_pos ek, if_neg (fun h => hc ⟨h.1, h.2.1, h.2.2.1⟩)]
      rw [if_neg (fun h => ek (c2.mp h))]
      refine Or.inl ⟨?_, rfl⟩
      unfold bStep
      simp only
      rw [if_neg h10, if_neg lo, if_neg ep, if_neg hm, if_neg ek, if_neg (fun h => ee h.1)]
    by_cases h65 : s < 65
    · rw [if_pos (l65.mpr h65)]
      exact T3 (by omega)
    rw [if_neg (fun h => h65 (l65.mp h))]
    by_cases h71 : 71 ≤ s
    · rw [if_pos (l71.mpr h71)]
      exact T3 (by omega)
    rw [if_neg (fun h => h71 (l71.mp h))]
    have em : 65 ≤ s ∧ s ≤ 70 := by omega
    rw [r3, show nI s - 65 = nI (s - 65) from pk_sub (b := 65) em.1]
    unfold kTMan
    rw [cN, a0]
    by_cases hc : q ≠ 3 ∧ q ≠ 6 ∧ c < 3
    · rw [if_pos (room.mpr hc)]
      obtain ⟨h, k1, k2, k3, k4⟩ := u1
      have hsh : (R (5 * N) >>> (nI (s - 65) &&& 31) = 0) ↔ (c = 0 ∨ L < s) := by
        rw [k2, bShr (s - 65) (by omega) h k1]
        by_cases c0 : c = 0
        · rw [bPc0 h k1 (by omega)]
          exact ⟨fun _ => Or.inl c0, fun _ => Nat.two_pow_pos _⟩
        · obtain ⟨y1, y2, y3⟩ := k4 (by omega)
          rw [← bTop y3]
          omega
      by_cases hl : c = 0 ∨ L < s
      · rw [if_pos (hsh.mpr hl)]
        have eb : bStep (q, N, L, c, o, R) s = some (5, N, s, c + 1, o, upd R (5 * N) (R (5 * N) ||| ((1 : Int32) <<< (nI (s - 65) &&& 31)))) := by
          unfold bStep
          simp only
          rw [if_neg h10, if_neg lo, if_neg (by omega), if_pos em, if_pos ⟨hc.1, hc.2.1, hc.2.2, hl⟩]
        exact Or.inr (Or.inl ⟨_, eb, rfl, bRel_w hr0 (j := 0) (by decide) _ 5 s (c + 1) 3 rfl⟩)
      · rw [if_neg (fun h => hl (hsh.mp h))]
        refine Or.inl ⟨?_, rfl⟩
        unfold bStep
        simp only
        rw [if_neg h10, if_neg lo, if_neg (by omega), if_pos em, if_neg (fun h => hl h.2.2.2)]
    · rw [if_neg (fun h => hc (room.mp h))]
      refine Or.inl ⟨?_, rfl⟩
      unfold bStep
      simp only
      rw [if_neg h10, if_neg lo, if_neg (by omega), if_pos em, if_neg (fun h => hc ⟨h.1, h.2.1, h.2.2.1⟩)]
  by_cases h97 : s < 97
  · rw [if_pos (l97.mpr h97)]
    exact T2 (by omega)
  rw [if_neg (fun h => h97 (l97.mp h))]
  by_cases h97n : 97 + N ≤ s
  · rw [if_pos (l97n.mpr h97n)]
    exact T2 (by omega)
  rw [if_neg (fun h => h97n (l97n.mp h)), r1, show nI s - 97 = nI (s - 97) from pk_sub (b := 97) (by omega)]
  have lo : 97 ≤ s ∧ s < 97 + N := by omega
  by_cases h3 : q = 3
  · rw [if_pos (q2.mpr h3)]
    unfold kTTool
    rw [cN]
    have eb : bStep (q, N, L, c, o, R) s = some (4, N, L, c, o, upd R (5 * N + 3) (nI (s - 97))) := by
      unfold bStep
      simp only
      rw [if_neg h10, if_pos lo, if_neg (by omega), if_neg (by omega), if_pos h3]
    exact Or.inr (Or.inl ⟨_, eb, rfl, bRel_w hr0 (j := 3) (by decide) _ 4 L c 3 rfl⟩)
  rw [if_neg (fun h => h3 (q2.mp h))]
  unfold kTFrom
  rw [cN, r1, a1, a2]
  have ne6 : ∀ a, a < 10 → ¬ nI a = (-6 : Int32) := fun a ha h => by
    have := congrArg Int32.toInt h
    rw [nI_toInt (by omega), show (-6 : Int32).toInt = -6 from rfl] at this
    omega
  by_cases hq3 : q < 3
  · rw [if_pos (q1.mpr hq3)]
    by_cases hq0 : q = 0
    · rw [if_pos (u2 hq0).1]
      have eb : bStep (q, N, L, c, o, R) s = some (1, N, s - 97, c, o, upd R (5 * N + 1) (nI (s - 97))) := by
        unfold bStep
        simp only
        rw [if_neg h10, if_pos lo, if_pos hq0]
      exact Or.inr (Or.inl ⟨_, eb, rfl, bRel_w hr0 (j := 1) (by decide) _ 1 (s - 97) c 1 rfl⟩)
    · by_cases hq1 : q = 1
      · obtain ⟨v1, v2, v3⟩ := u3 hq1
        rw [v2, v3, if_neg (ne6 L (by omega)), if_pos rfl]
        have le : (nI (s - 97) ≤ nI L) ↔ s - 97 ≤ L := nI_leI (by omega) (by omega)
        by_cases hl : L < s - 97
        · rw [if_neg (fun h => absurd (le.mp h) (by omega))]
          have eb : bStep (q, N, L, c, o, R) s = some (2, N, s - 97, c, o, upd R (5 * N + 2) (nI (s - 97))) := by
            unfold bStep
            simp only
            rw [if_neg h10, if_pos lo, if_neg hq0, if_pos hq1, if_pos hl]
          exact Or.inr (Or.inl ⟨_, eb, rfl, bRel_w hr0 (j := 2) (by decide) _ 2 (s - 97) c 1 rfl⟩)
        · rw [if_pos (le.mpr (by omega))]
          refine Or.inl ⟨?_, rfl⟩
          unfold bStep
          simp only
          rw [if_neg h10, if_pos lo, if_neg hq0, if_pos hq1, if_neg hl]
      · obtain ⟨a, b, v1, v2, v3, v4⟩ := u4 (by omega)
        rw [v3, v4, if_neg (ne6 a (by omega)), if_neg (ne6 b (by omega))]
        refine Or.inl ⟨?_, rfl⟩
        unfold bStep
        simp only
        rw [if_neg h10, if_pos lo, if_neg hq0, if_neg hq1, if_neg h3]
  · rw [if_neg (fun h => hq3 (q1.mp h))]
    refine Or.inl ⟨?_, rfl⟩
    unfold bStep
    simp only
    rw [if_neg h10, if_pos lo, if_neg (by omega), if_neg (by omega), if_neg h3]
theorem bDead {B : bS} {s : Nat} (h3 : B.1 = 3) (h0 : B.2.1 = 0) : bStep B s = none := by
  unfold bStep
  rw [h0, h3, if_neg (by decide), if_neg (by omega)]
  by_cases c1 : s = 43
  · rw [if_pos c1, if_neg (by decide)]
  rw [if_neg c1]
  by_cases c2 : 65 ≤ s ∧ s ≤ 70
  · rw [if_pos c2, if_neg (fun h => h.1 rfl)]
  rw [if_neg c2]
  by_cases c3 : s = 63
  · rw [if_pos c3, if_neg (fun h => h.1 rfl)]
  rw [if_neg c3, if_neg (fun h => absurd h.2 (by decide))]
theorem bDeadRun {P : Nat → Int32} {B C : bS} (h3 : B.1 = 3) (h0 : B.2.1 = 0) : ∀ d k, bRun P k d B = some C → ¬ C.1 = 0
  | 0, _, e => by
    cases e
    rw [h3]
    decide
  | d + 1, k, e => by
    unfold bRun at e
    rw [bDead h3 h0] at e
    cases e
theorem nI_ne6 {k : Nat} (h : k < 2 ^ 31) : ¬ nI k = (-6 : Int32) := fun e => by
  have := congrArg Int32.toInt e
  rw [nI_toInt h, show (-6 : Int32).toInt = -6 from rfl] at this
  omega
theorem bRd {P : Nat → Int32} {n : Nat} (hn : n ≤ 60) (hP : bSg n P) : ∀ d k (A : bS) (M : zMem), k + d = n → bInv A → bRel A M → M 1 1 = nI n → (∀ j, j < n → M 2 j = P j) → (∃ B, bRun P k d A = some B ∧ B.1 = 0 ∧ (kRdn k d M).1 = -6 ∧ bRel B (kRdn k d M).2) ∨ ((∀ B, bRun P k d A = some B → ¬ B.1 = 0) ∧ ¬ (kRdn k d M).1 = -6) := by
  intro d
  induction d with
  | zero =>
    intro k A M hk hi hr e1 e2
    have hq : A.1 < 7 := by have := hi.1.1; omega
    have h0 := (bSt_f A.1 hq).2.2.2.2
    unfold bRun kRdn
    rw [hr.1, e1]
    by_cases c : A.1 = 0
    · exact Or.inl ⟨A, rfl, c, if_pos (h0.mpr c), hr⟩
    · refine Or.inr ⟨fun B e => ?_, ?_⟩
      · cases e; exact c
      · rw [if_neg (fun h => c (h0.mp h))]
        exact nI_ne6 (by omega)
  | succ d ih =>
    intro k A M hk hi hr e1 e2
    obtain ⟨s, s1, s2, es⟩ := hP k (by omega)
    have eM := e2 k (by omega)
    have ag := kTk_ag M (M 2 k)
    have n1 : (kTk M (M 2 k)).2 1 = M 1 := ag 1 (by decide)
    have n2 : (kTk M (M 2 k)).2 2 = M 2 := ag 2 (by decide)
    have st := bTk (A := A) (M := M) s2 hi hr
    rw [← es, ← eM] at st
    unfold bRun kRdn
    rw [es, nI_clamp (by omega)]
    rcases st with ⟨b1, b2⟩ | ⟨B, b1, b2, b3⟩ | ⟨B, b1, b2, b3, b4⟩
    · rw [b1, b2]
      exact Or.inr ⟨fun B e => (nomatch e), nI_ne6 (by omega)⟩
    · rw [b1, if_pos b2]
      exact ih (k + 1) B _ (by omega) (bInv_step s2 hi b1) b3 (by rw [n1]; exact e1) (by rw [n2]; exact e2)
    · rw [b1, b4]
      exact Or.inr ⟨fun C e => bDeadRun b2 b3 d (k + 1) e, nI_ne6 (by omega)⟩
section zC9
variable {n : Nat} {P : Nat → Int32} {F : zTS} {I : Nat → Option zTS} {M : zMem} {g : Nat → Option Nat} {X : List zShp}
theorem bRel_0 (M : zMem) : bRel bA0 (kRd0 M) := by
  refine ⟨rfl, rfl, rfl, fun k hk hk2 => ?_⟩
  have e : k = 0 := by
    have : k ≤ 0 := hk
    omega
  subst e
  exact ⟨rfl, rfl, rfl, rfl, rfl⟩
theorem kRd_b (hn : n ≤ 60) (hP : bSg n P) (hj : kCJ n P F I M g X) : (∃ B, bRun P 0 n bA0 = some B ∧ B.1 = 0 ∧ (kRd M).1 = -6 ∧ bRel B (kRd M).2) ∨ ((∀ B, bRun P 0 n bA0 = some B → ¬ B.1 = 0) ∧ ¬ (kRd M).1 = -6) := by
  have h := bRd hn hP n 0 bA0 (kRd0 M) (by omega) bInv_0 (bRel_0 M) (by rw [kRd0_ag M 1 (by decide)]; exact hj.1) (by rw [kRd0_ag M 2 (by decide)]; exact hj.2.1)
  unfold kRd
  rw [hj.1, nI_clamp (by omega)]
  exact h
def kPL (a : Nat) : List Nat := [a, a + 1, a + 2, a + 3, a + 4, a + 5]
theorem kOp_ag (M : zMem) : kAg [10, 11, 12, 13, 14, 15, 16, 18] M (kOp M) := by
  unfold kOp kPB kPB0
  exact ((((kCp_ag (kCp_ag (kCp_ag (kCp_ag (kCp_ag kAg.rf (by simp)) (by simp)) (by simp)) (by simp)) (by simp)).st (by simp)).sr (by simp)).st (by simp))
theorem v_O_book_0 (g : Nat → Option Nat) (X : List zShp) (M : zMem) (R : zEnd) (h : (kPad M) ∧ (((((kRd M).1) = (-6)) → (R (some (.int ((kOp (zms ((kRd M).2) 1 1 0)) 11 5))) (SHP g X) (kOp (zms ((kRd M).2) 1 1 0)))) ∧ ((¬ ((kRd M).1) = (-6)) → (R (some (.int (-5))) (SHP g X) ((kRd M).2))))) : zRT m_O_book 0 0 0 [(0, .ref 0)] [] (SHP g X) M R := by
  refine zs_aload_n 0 d_O_book_0 rfl (List.mem_of_getElem? (i := 0) rfl) ?_
  refine zs_get d_O_book_1 gf_O_19 (sh_0 g X) rfl ?_
  refine zs_aload_n 0 d_O_book_4 rfl (List.mem_of_getElem? (i := 0) rfl) ?_
  refine zs_get d_O_book_5 gf_O_12 (sh_0 g X) rfl ?_
  obtain ⟨p1, h⟩ := h
  refine zs_callV (kc := 0) (ks := 0) (kc1 := 0) (ks1 := 0) (st := []) [.ref 1] d_O_book_8 lk_O_70 ⟨by decide, by decide⟩ rfl (sh_3 g X) rfl (Nat.le_of_ble_eq_true rfl) (ex_Reader_read g X M p1) (fun v1 sh1 M1 hR => ?_)
  obtain ⟨rfl, rfl, rfl⟩ := hR
  refine zs_bipush (-6) d_O_book_11 (by decide) ?_
  refine zs_icmp_eq 19 d_O_book_13 (by decide) (fun c2 => ?_) (fun c2 => ?_)
  · replace h := h.1 c2
    refine zs_aload_n 0 d_O_book_19 rfl (List.mem_of_getElem? (i := 0) rfl) ?_
    refine zs_get d_O_book_20 gf_O_12 (sh_0 g X) rfl ?_
    refine zs_callV (kc := 0) (ks := 0) (kc1 := 0) (ks1 := 0) (st := []) [] d_O_book_23 lk_O_66 ⟨by decide, by decide⟩ rfl (sh_1 g X) rfl (Nat.le_of_ble_eq_true rfl) (ex_Pad_clear g X ((kRd M).2)) (fun v3 sh3 M3 hR => ?_)
    obtain ⟨rfl, rfl, rfl⟩ := hR
    refine zs_pop d_O_book_26 rfl ?_
    refine zs_aload_n 0 d_O_book_27 rfl (List.mem_of_getElem? (i := 0) rfl) ?_
    refine zs_get d_O_book_28 gf_O_26 (sh_0 g X) rfl ?_
    refine zs_aload_n 0 d_O_book_31 rfl (List.mem_of_getElem? (i := 0) rfl) ?_
    refine zs_get d_O_book_32 gf_O_19 (sh_0 g X) rfl ?_
    refine zs_get d_O_book_35 gf_O_74 (sh_3 g X) rfl ?_
    refine zs_callV (kc := 0) (ks := 0) (kc1 := 0) (ks1 := 0) (st := []) [.ref 4] d_O_book_38 lk_O_78 ⟨by decide, by decide⟩ rfl (sh_10 g X) rfl (Nat.le_of_ble_eq_true rfl) (ex_Town_open g X (zms ((kRd M).2) 1 1 0)) (fun v4 sh4 M4 hR => ?_)
    obtain ⟨rfl, rfl, rfl⟩ := hR
    refine zs_aload_n 0 d_O_book_41 rfl (List.mem_of_getElem? (i := 0) rfl) ?_
    refine zs_get d_O_book_42 gf_O_26 (sh_0 g X) rfl ?_
    refine zs_get d_O_book_45 gf_O_82 (sh_10 g X) rfl ?_
    refine zs_get d_O_book_48 gf_O_85 (sh_11 g X) rfl ?_
    exact zs_iret d_O_book_51 rfl h
  · replace h := h.2 c2
    refine zs_bipush (-5) d_O_book_16 (by decide) ?_
    exact zs_iret d_O_book_18 rfl h
theorem cl_book (hn : n ≤ 60) (hP : bSg n P) (hj : kCJ n P F I M g X) : zEx m_O_book 0 0 [.ref 0] (SHP g X) M (qR g X (fun r M1 => r = (aBook n P F).1 ∧ kCJ (aBook n P F).2.1 P (aBook n P F).2.2 I M1 g X ∧ kMS M M1)) := by
  refine zEx_of _ (by decide) (by simp [Value.category]) (Nat.le_of_ble_eq_true rfl) rfl (v_O_book_0 g X M _ ⟨kCJ_pad hn hj, fun h => qR_i ?_, fun h => qR_i ?_⟩)
  · rcases kRd_b hn hP hj with ⟨B, e, hB, h1, hr⟩ | h2
    · have ea : aBook n P F = (nI B.2.1, 0, setB F B) := by unfold aBook aBk; rw [e]; exact if_pos hB
      rw [ea]
      simp only
      have hi := bInv_run hP n 0 bA0 B (by omega) bInv_0 e
      have hN : B.2.1 ≤ 10 := hi.1.2.1
      obtain ⟨r1, r2, r3, r4⟩ := hr
      generalize hM : (kRd M).2 = M2 at *
      have ag : kAg kRS M M2 := by rw [← hM]; exact kRd_ag M
      have ek : tN (setB F B) = B.2.1 := nI_clamp (by omega)
      have oa := kOp_ag (zms M2 1 1 0)
      have o : ∀ p, p ∉ [10, 11, 12, 13, 14, 15, 16, 18] → p ≠ 1 → kOp (zms M2 1 1 0) p = M2 p := fun p h1 h2 => (oa p h1).trans (zms_ne _ _ _ _ p h2)
      obtain ⟨t1, t2, t3, t4, t5, t6, t7, t8, t9⟩ := hj.2.2.1
      refine ⟨r3, ⟨?_, fun j h => absurd h (Nat.not_lt_zero j), ⟨r3, rfl, ?_, ?_, ?_, ?_, ?_, ?_, ?_⟩, ?_⟩, ?_⟩
      · rw [oa 1 (by decide)]; rfl
      · exact (congrFun (ag 10 (by decide)) 6).trans t3
      · exact (congrFun (ag 10 (by decide)) 7).trans t4
      · exact (congrFun (ag 10 (by decide)) 8).trans t5
      · rw [o 17 (by decide) (by decide), ag 17 (by decide)]; exact t6
      · intro j hj
        exact if_pos hj
      · intro i hi
        rw [o 19 (by decide) (by decide), ag 19 (by decide), o 20 (by decide) (by decide), ag 20 (by decide)]; exact t8 i hi
      · intro k hk
        rw [ek] at hk
        have hk10 : k < 10 := by omega
        obtain ⟨a0, a1, a2, a3, a4⟩ := r4 k (by omega) hk10
        exact ⟨(sb_cpy0 hk10).trans a0, (sb_cpy0 hk10).trans a1, (sb_cpy0 hk10).trans a2, (sb_cpy0 hk10).trans a3, (sb_cpy0 hk10).trans a4⟩
      · refine kIm_ag (M := M) (fun q hq => ?_) hj.2.2.2
        rw [o q (fun h => ?_) (by omega)]
        · exact ag q (fun h => absurd ((by decide : ∀ p ∈ kRS, p < 35) q h) (by omega))
        · exact absurd ((by decide : ∀ p ∈ [10, 11, 12, 13, 14, 15, 16, 18], p < 35) q h) (by omega)
      · intro q hq _
        rw [o q (fun h => ?_) (by omega)]
        · exact ag q (fun h => absurd ((by decide : ∀ p ∈ kRS, p < 35) q h) (by omega))
        · exact absurd ((by decide : ∀ p ∈ [10, 11, 12, 13, 14, 15, 16, 18], p < 35) q h) (by omega)
    · exact absurd h h2.2
  · rcases kRd_b hn hP hj with ⟨B, e, hB, h1, hr⟩ | h2
    · exact absurd h1 h
    · have ea : aBook n P F = (-5, n, F) := by
        unfold aBook aBk
        cases e : bRun P 0 n bA0 with
        | none => rfl
        | some B => exact if_neg (h2.1 B e)
      rw [ea]
      have ag := kRd_ag M
      have hs : ∀ p ∈ kRS, 3 ≤ p ∧ p < 10 := by decide
      refine ⟨rfl, kCJ_ag (ag 1 (by decide)) (ag 2 (by decide)) (fun q h1 h2 => ag q (fun h => ?_)) (fun q h1 => ag q (fun h => ?_)) hj, fun q h1 _ => ag q (fun h => ?_)⟩
      · have := hs q h; omega
      · have := hs q h; omega
      · have := hs q h; omega
theorem cl_fault (hn : n ≤ 60) (hj : kCJ n P F I M g X) : zEx m_O_fault 0 0 [.ref 0] (SHP g X) M (qR g X (fun _ M1 => kCJ n P F I M1 g X ∧ kMS M M1)) := by
  refine zEx_of _ (by decide) (by simp [Value.category]) (Nat.le_of_ble_eq_true rfl) rfl (v_O_fault_0 g X M _ ⟨kCJ_pad hn hj, qR_i ?_⟩)
  have ag := kRd_ag M
  have hs : ∀ p ∈ kRS, 3 ≤ p ∧ p < 10 := by decide
  refine ⟨kCJ_ag (ag 1 (by decide)) (ag 2 (by decide)) (fun q h1 h2 => ag q (fun h => ?_)) (fun q h1 => ag q (fun h => ?_)) hj, fun q h1 _ => ag q (fun h => ?_)⟩
  · have := hs q h; omega
  · have := hs q h; omega
  · have := hs q h; omega
end zC9
