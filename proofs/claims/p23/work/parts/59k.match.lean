/-! marriages: sums over pairs -/
def nsum (f : Nat → Nat) : Nat → Nat
  | 0 => 0
  | n + 1 => nsum f n + f n
theorem nsum_cg {f g : Nat → Nat} : ∀ n, (∀ j, j < n → f j = g j) → nsum f n = nsum g n
  | 0, _ => rfl
  | n + 1, h => by
    show nsum f n + f n = nsum g n + g n
    rw [nsum_cg n (fun j hj => h j (by omega)), h n (by omega)]
theorem nsum_add {f g : Nat → Nat} : ∀ n, nsum (fun j => f j + g j) n = nsum f n + nsum g n
  | 0 => rfl
  | n + 1 => by
    show nsum (fun j => f j + g j) n + (f n + g n) = nsum f n + f n + (nsum g n + g n)
    rw [nsum_add n]
    omega
theorem nsum_z : ∀ n, nsum (fun _ => 0) n = 0
  | 0 => rfl
  | n + 1 => by
    show nsum (fun _ => 0) n + 0 = 0
    rw [nsum_z n]
theorem nsum_one {a c : Nat} : ∀ n, nsum (fun j => if j = a then c else 0) n = if a < n then c else 0
  | 0 => (if_neg (Nat.not_lt_zero a)).symm
  | n + 1 => by
    show nsum (fun j => if j = a then c else 0) n + (if n = a then c else 0) = _
    rw [nsum_one n]
    by_cases h : n = a
    · subst h
      rw [if_neg (Nat.lt_irrefl n), if_pos rfl, if_pos (by omega)]
      omega
    · rw [if_neg h]
      by_cases h2 : a < n
      · rw [if_pos h2, if_pos (by omega)]; rfl
      · rw [if_neg h2, if_neg (by omega)]
theorem nsum_sw {F : Nat → Nat → Nat} (m : Nat) : ∀ n, nsum (fun i => nsum (fun j => F i j) m) n = nsum (fun j => nsum (fun i => F i j) n) m
  | 0 => by
    show 0 = nsum (fun j => 0) m
    rw [nsum_z]
  | n + 1 => by
    show nsum (fun i => nsum (fun j => F i j) m) n + nsum (fun j => F n j) m = nsum (fun j => nsum (fun i => F i j) n + F n j) m
    rw [nsum_add, nsum_sw m n]
/-- p pairs men: nobody with himself, and each with him who has him -/
def isP (p : Nat → Nat) : Prop := ∀ j, j < 6 → p j < 6 → p j ≠ j ∧ p (p j) = j
theorem nsum_p {p : Nat → Nat} (hp : isP p) (h : Nat → Nat) : nsum (fun j => if p j < 6 ∧ p j < j then h j else 0) 6 = nsum (fun j => if p j < 6 ∧ j < p j then h (p j) else 0) 6 := by
  have e1 : nsum (fun j => if p j < 6 ∧ p j < j then h j else 0) 6 = nsum (fun i => nsum (fun j => if j = p i then (if j < i then h i else 0) else 0) 6) 6 := by
    refine nsum_cg 6 (fun i _ => ?_)
    rw [nsum_cg (f := fun j => if j = p i then (if j < i then h i else 0) else 0) (g := fun j => if j = p i then (if p i < i then h i else 0) else 0) 6 (fun j _ => by
      by_cases q : j = p i
      · rw [if_pos q, if_pos q, q]
      · rw [if_neg q, if_neg q]), nsum_one]
    by_cases c : p i < 6
    · rw [if_pos c]
      by_cases c2 : p i < i
      · rw [if_pos ⟨c, c2⟩, if_pos c2]
      · rw [if_neg (fun z => c2 z.2), if_neg c2]
    · rw [if_neg c, if_neg (fun z => c z.1)]
  rw [e1, nsum_sw]
  refine nsum_cg 6 (fun j hj => ?_)
  rw [nsum_cg (f := fun i => if j = p i then (if j < i then h i else 0) else 0) (g := fun i => if i = p j then (if j < p j then h (p j) else 0) else 0) 6 (fun i hi => by
    by_cases q : j = p i
    · have := (hp i hi (by omega)).2
      rw [← q] at this
      rw [if_pos q, if_pos this.symm, this]
    · by_cases q2 : i = p j
      · have := (hp j hj (by omega)).2
        rw [← q2] at this
        exact absurd this.symm q
      · rw [if_neg q, if_neg q2]), nsum_one]
  by_cases c : p j < 6
  · rw [if_pos c]
    by_cases c2 : j < p j
    · rw [if_pos c2, if_pos ⟨c, c2⟩]
    · rw [if_neg c2, if_neg (fun z => c2 z.2)]
  · rw [if_neg c, if_neg (fun z => c z.1)]
/-- with partners: one more for each pair of which just one is in T -/
theorem cnt_p {p : Nat → Nat} (hp : isP p) (T : Nat → Bool) : nsum (fun i => if T i = true ∨ (p i < 6 ∧ T (p i) = true) then 1 else 0) 6 = nsum (fun i => if T i = true then 1 else 0) 6 + nsum (fun j => if p j < 6 ∧ j < p j then (if T j = T (p j) then 0 else 1) else 0) 6 := by
  have e0 : nsum (fun i => if T i = true ∨ (p i < 6 ∧ T (p i) = true) then 1 else 0) 6 = nsum (fun i => (if T i = true then 1 else 0) + ((if p i < 6 ∧ i < p i then (if T i = false ∧ T (p i) = true then 1 else 0) else 0) + (if p i < 6 ∧ p i < i then (if T i = false ∧ T (p i) = true then 1 else 0) else 0))) 6 := by
    refine nsum_cg 6 (fun i hi => ?_)
    by_cases c : p i < 6
    · have ne := (hp i hi c).1
      rcases Nat.lt_or_gt_of_ne ne with q | q
      · have nq : ¬ i < p i := by omega
        cases t1 : T i <;> cases t2 : T (p i) <;> simp [c, q, nq]
      · have nq : ¬ p i < i := by omega
        have q' : i < p i := q
        cases t1 : T i <;> cases t2 : T (p i) <;> simp [c, q', nq]
    · cases t1 : T i <;> simp [c]
  rw [e0, nsum_add, nsum_add]
  have e1 := nsum_p hp (fun i => if T i = false ∧ T (p i) = true then 1 else 0)
  rw [e1, ← nsum_add]
  congr 1
  refine nsum_cg 6 (fun j hj => ?_)
  by_cases c : p j < 6 ∧ j < p j
  · rw [if_pos c, if_pos c, if_pos c, (hp j hj c.1).2]
    cases T j <;> cases T (p j) <;> simp
  · rw [if_neg c, if_neg c, if_neg c]
/-- all men but an even number are in pairs -/
theorem even_p {p : Nat → Nat} (hp : isP p) : ∃ q, nsum (fun i => if p i < 6 then 1 else 0) 6 = 2 * q := by
  refine ⟨nsum (fun j => if p j < 6 ∧ j < p j then 1 else 0) 6, ?_⟩
  have e := nsum_p hp (fun _ => 1)
  have e0 : nsum (fun i => if p i < 6 then 1 else 0) 6 = nsum (fun i => (if p i < 6 ∧ i < p i then 1 else 0) + (if p i < 6 ∧ p i < i then 1 else 0)) 6 := by
    refine nsum_cg 6 (fun i hi => ?_)
    by_cases c : p i < 6
    · have ne := (hp i hi c).1
      rcases Nat.lt_or_ge i (p i) with q | q
      · rw [if_pos c, if_pos ⟨c, q⟩, if_neg (fun z => by omega)]
      · rw [if_pos c, if_neg (fun z => by omega), if_pos ⟨c, by omega⟩]
    · rw [if_neg c, if_neg (fun z => c z.1), if_neg (fun z => c z.1)]
  rw [e0, nsum_add, e]
  omega
/-! sets of men as numbers below 64 -/
def me (s j : Nat) : Bool := bt (nI s) j
theorem ix2_me : ∀ s, s < 64 → ∀ a, a < 6 → ∀ b, b < 6 → ∀ j, j < 6 → (decide (ix2 s a b < 64) && (me (ix2 s a b) j == (me s j && (!decide (j = a) && !decide (j = b))))) = true := by decide +kernel
theorem ix2_j {s a b j : Nat} (hs : s < 64) (ha : a < 6) (hb : b < 6) (hj : j < 6) : me (ix2 s a b) j = true ↔ (me s j = true ∧ j ≠ a ∧ j ≠ b) := by
  have h := ix2_me s hs a ha b hb j hj
  rw [Bool.and_eq_true] at h
  have h2 : me (ix2 s a b) j = (me s j && (!decide (j = a) && !decide (j = b))) := by simpa using h.2
  rw [h2]
  simp
theorem ix2_lt {s a b : Nat} (hs : s < 64) (ha : a < 6) (hb : b < 6) (hab : a ≠ b) (he : ev s = true) (h1 : me s a = true) (h2 : me s b = true) : ev (ix2 s a b) = true ∧ ix2 s a b < s := by
  have q := ix2_ev s hs a ha b hb
  have h1' : bt (nI s) a = true := h1
  have h2' : bt (nI s) b = true := h2
  rw [he, h1', h2', show decide (a = b) = false by simp [hab]] at q
  simp only [Bool.not_true, Bool.false_or, Bool.and_eq_true, decide_eq_true_iff] at q
  exact q
/-- sums over pairs within s -/
def ps (w : Nat → Nat → Nat) (p : Nat → Nat) (s : Nat) : Nat := nsum (fun j => if me s j = true ∧ j < p j then w j (p j) else 0) 6
def mt (p : Nat → Nat) (s : Nat) : Prop := ∀ j, j < 6 → me s j = true → p j < 6 ∧ me s (p j) = true ∧ p j ≠ j ∧ p (p j) = j
/-- f is the least sum: of a set's least man with the least other by which the sum is least -/
def bo (w : Nat → Nat → Nat) (f : Nat → Nat) (s a o : Nat) : Prop := a < o ∧ o < 6 ∧ me s o = true ∧ (∀ i, a < i → i < 6 → me s i = true → w a o + f (ix2 s a o) ≤ w a i + f (ix2 s a i)) ∧ ∀ i, a < i → i < o → me s i = true → w a o + f (ix2 s a o) < w a i + f (ix2 s a i)
def lM (s a : Nat) : Prop := a < 6 ∧ me s a = true ∧ ∀ j, j < a → me s j = false
def dp (w : Nat → Nat → Nat) (f : Nat → Nat) (S : Nat) : Prop := f 0 = 0 ∧ ∀ s, s < 64 → (∀ j, j < 6 → me s j = true → me S j = true) → ev s = true → ∀ a, lM s a → ∃ o, bo w f s a o ∧ f s = w a o + f (ix2 s a o)
theorem me_0 : ∀ s, s < 64 → ((∀ j, j < 6 → me s j = false) → s = 0) := by decide +kernel
theorem lM_lo {s : Nat} (hs : s < 64) (h0 : s ≠ 0) : lM s (Int32.toNatClampNeg (kLO (nI s))) ∧ kLO (nI s) = nI (Int32.toNatClampNeg (kLO (nI s))) := by
  have q := kLO_sp0 s hs
  rw [show (s == 0) = false by simp [h0], Bool.false_or] at q
  simp only [Bool.and_eq_true, decide_eq_true_iff] at q
  exact ⟨⟨q.1, q.2.2.1, q.2.2.2⟩, q.2.1⟩
theorem lM_ex {s : Nat} (hs : s < 64) (h0 : s ≠ 0) : ∃ a, lM s a := ⟨_, (lM_lo hs h0).1⟩
theorem lM_uq {s a b : Nat} (ha : lM s a) (hb : lM s b) : a = b := by
  rcases Nat.lt_trichotomy a b with q | q | q
  · have := hb.2.2 a q
    rw [ha.2.1] at this; cases this
  · exact q
  · have := ha.2.2 b q
    rw [hb.2.1] at this; cases this
theorem ps_split {w : Nat → Nat → Nat} {p : Nat → Nat} {s a : Nat} (hs : s < 64) (hm : mt p s) (ha : lM s a) : ps w p s = w a (p a) + ps w p (ix2 s a (p a)) ∧ mt p (ix2 s a (p a)) ∧ a < p a := by
  obtain ⟨a6, a1, a2⟩ := ha
  obtain ⟨b6, b1, b2, b3⟩ := hm a a6 a1
  have ab : a < p a := by
    rcases Nat.lt_trichotomy a (p a) with q | q | q
    · exact q
    · exact absurd q.symm b2
    · rw [a2 _ q] at b1; cases b1
  refine ⟨?_, fun j hj hmj => ?_, ab⟩
  · have e : ps w p s = nsum (fun j => (if me (ix2 s a (p a)) j = true ∧ j < p j then w j (p j) else 0) + (if j = a then w a (p a) else 0)) 6 := by
      refine nsum_cg 6 (fun j hj => ?_)
      by_cases q : j = a
      · subst q
        rw [if_pos ⟨a1, ab⟩, if_neg (fun z => ((ix2_j hs a6 b6 hj).mp z.1).2.1 rfl), if_pos rfl, Nat.zero_add]
      · rw [if_neg q, Nat.add_zero]
        by_cases q2 : j = p a
        · subst q2
          rw [if_neg (fun z => by rw [b3] at z; omega), if_neg (fun z => ((ix2_j hs a6 b6 hj).mp z.1).2.2 rfl)]
        · by_cases c : me s j = true ∧ j < p j
          · rw [if_pos c, if_pos ⟨(ix2_j hs a6 b6 hj).mpr ⟨c.1, q, q2⟩, c.2⟩]
          · rw [if_neg c, if_neg (fun z => c ⟨((ix2_j hs a6 b6 hj).mp z.1).1, z.2⟩)]
    rw [e, nsum_add, nsum_one, if_pos a6, Nat.add_comm]
    rfl
  · obtain ⟨m1, m2, m3⟩ := (ix2_j hs a6 b6 hj).mp hmj
    obtain ⟨q6, q1, q2, q3⟩ := hm j hj m1
    refine ⟨q6, (ix2_j hs a6 b6 q6).mpr ⟨q1, fun z => ?_, fun z => ?_⟩, q2, q3⟩
    · rw [z] at q3
      exact m3 q3.symm
    · rw [z, b3] at q3
      exact m2 q3.symm
/-- no pairing is below the least sum -/
theorem dp_le {w : Nat → Nat → Nat} {f : Nat → Nat} {S : Nat} (hd : dp w f S) (p : Nat → Nat) : ∀ n s, s ≤ n → s < 64 → (∀ j, j < 6 → me s j = true → me S j = true) → ev s = true → mt p s → f s ≤ ps w p s := by
  intro n
  induction n with
  | zero =>
    intro s hn hs _ _ _
    have e : s = 0 := by omega
    rw [e, hd.1]
    exact Nat.zero_le _
  | succ n ih =>
    intro s hn hs hS he hm
    by_cases h0 : s = 0
    · rw [h0, hd.1]; exact Nat.zero_le _
    · obtain ⟨a, ha⟩ := lM_ex hs h0
      obtain ⟨e1, e2, e3⟩ := ps_split (w := w) hs hm ha
      obtain ⟨b6, b1, b2, b3⟩ := hm a ha.1 ha.2.1
      obtain ⟨l1, l2⟩ := ix2_lt hs ha.1 b6 (Ne.symm b2) he ha.2.1 b1
      obtain ⟨o, ⟨o1, o2, o3, o4, o5⟩, o6⟩ := hd.2 s hs hS he a ha
      have i1 := ih (ix2 s a (p a)) (by omega) (by omega) (fun j hj hmj => hS j hj ((ix2_j hs ha.1 b6 hj).mp hmj).1) l1 e2
      have i2 := o4 (p a) e3 b6 b1
      rw [e1, o6]
      omega
/-! the class's choice -/
/-- the class's sheets: taints and least sums -/
def kS2 (K : zMem) (w : Nat → Nat → Nat) (f : Nat → Nat) (S n : Nat) : Prop := (∀ a, a < 6 → ∀ b, b < 6 → bc (K 32 a ^^^ K 32 b) = nI (w a b) ∧ w a b ≤ 32) ∧ ∀ s, s < n → s < 64 → ev s = true → (∀ j, j < 6 → me s j = true → me S j = true) → K 33 s = nI (f s) ∧ f s ≤ 1000
theorem kSW_v {K : zMem} {w : Nat → Nat → Nat} {f : Nat → Nat} {S n s a b : Nat} (h : kS2 K w f S n) (hs : s < 64) (hn : s ≤ n) (he : ev s = true) (hS : ∀ j, j < 6 → me s j = true → me S j = true) (ha : a < 6) (hb : b < 6) (h1 : me s a = true) (h2 : me s b = true) (hab : a ≠ b) : kSW K (nI s) (nI a) (nI b) = nI (w a b + f (ix2 s a b)) ∧ w a b + f (ix2 s a b) ≤ 1032 := by
  obtain ⟨l1, l2⟩ := ix2_lt hs ha hb hab he h1 h2
  obtain ⟨w1, w2⟩ := h.1 a ha b hb
  obtain ⟨f1, f2⟩ := h.2 (ix2 s a b) (by omega) (by omega) l1 (fun j hj hm => hS j hj ((ix2_j hs ha hb hj).mp hm).1)
  refine ⟨?_, by omega⟩
  unfold kSW
  rw [nI_clamp (n := a) (by omega), nI_clamp (n := b) (by omega), w1]
  show nI (w a b) + K 33 (ix2 s a b) = _
  rw [f1, nI_add]
theorem kBOn_b {K : zMem} {w : Nat → Nat → Nat} {f : Nat → Nat} {S n s a : Nat} (h : kS2 K w f S n) (hs : s < 64) (hn : s ≤ n) (he : ev s = true) (hS : ∀ j, j < 6 → me s j = true → me S j = true) (ha : a < 6) (h1 : me s a = true) : ∀ m k (b : Nat), k + m = 6 → a < k → a < b → b < k → me s b = true → (∀ i, a < i → i < k → me s i = true → w a b + f (ix2 s a b) ≤ w a i + f (ix2 s a i)) → (∀ i, a < i → i < b → me s i = true → w a b + f (ix2 s a b) < w a i + f (ix2 s a i)) → ∃ o, bo w f s a o ∧ kBOn K (nI s) (nI a) k m (nI b) = nI o := by
  intro m
  induction m with
  | zero =>
    intro k b hk hak hab hbk hmb p1 p2
    have e : k = 6 := by omega
    subst e
    exact ⟨b, ⟨hab, hbk, hmb, p1, p2⟩, rfl⟩
  | succ m ih =>
    intro k b hk hak hab hbk hmb p1 p2
    unfold kBOn
    by_cases c : hb (nI s) (nI k) = true
    · rw [if_pos c, if_neg (nI_ne6 (by omega))]
      have ck : me s k = true := by
        rw [hb_bt (by omega)] at c; exact c
      obtain ⟨s1, t1⟩ := kSW_v h hs hn he hS ha (show b < 6 by omega) h1 hmb (by omega)
      obtain ⟨s2, t2⟩ := kSW_v h hs hn he hS ha (show k < 6 by omega) h1 ck (by omega)
      rw [s1, s2]
      have le : (nI (w a b + f (ix2 s a b)) ≤ nI (w a k + f (ix2 s a k))) ↔ w a b + f (ix2 s a b) ≤ w a k + f (ix2 s a k) := nI_leI (by omega) (by omega)
      by_cases c3 : w a b + f (ix2 s a b) ≤ w a k + f (ix2 s a k)
      · rw [if_pos (le.mpr c3)]
        refine ih (k + 1) b (by omega) (by omega) hab (by omega) hmb (fun i i1 i2 i3 => ?_) p2
        by_cases e : i = k
        · subst e; exact c3
        · exact p1 i i1 (by omega) i3
      · rw [if_neg (fun z => c3 (le.mp z))]
        refine ih (k + 1) k (by omega) (by omega) hak (by omega) ck (fun i i1 i2 i3 => ?_) (fun i i1 i2 i3 => ?_)
        · by_cases e : i = k
          · subst e; exact Nat.le_refl _
          · have := p1 i i1 (by omega) i3
            omega
        · have := p1 i i1 i2 i3
          omega
    · rw [if_neg c]
      have ck : ¬ me s k = true := fun z => c (by rw [hb_bt (by omega)]; exact z)
      refine ih (k + 1) b (by omega) (by omega) hab (by omega) hmb (fun i i1 i2 i3 => ?_) p2
      by_cases e : i = k
      · subst e; exact absurd i3 ck
      · exact p1 i i1 (by omega) i3
theorem kBOn_n {K : zMem} {w : Nat → Nat → Nat} {f : Nat → Nat} {S n s a : Nat} (h : kS2 K w f S n) (hs : s < 64) (hn : s ≤ n) (he : ev s = true) (hS : ∀ j, j < 6 → me s j = true → me S j = true) (ha : a < 6) (h1 : me s a = true) : ∀ m k, k + m = 6 → a < k → (∀ i, a < i → i < k → me s i = false) → ((∃ i, a < i ∧ i < 6 ∧ me s i = true) → ∃ o, bo w f s a o ∧ kBOn K (nI s) (nI a) k m (-6) = nI o) := by
  intro m
  induction m with
  | zero =>
    rintro k hk hak hz ⟨i, i1, i2, i3⟩
    rw [hz i i1 (by omega)] at i3; cases i3
  | succ m ih =>
    intro k hk hak hz hex
    unfold kBOn
    by_cases c : hb (nI s) (nI k) = true
    · rw [if_pos c, if_pos rfl]
      have ck : me s k = true := by
        rw [hb_bt (by omega)] at c; exact c
      refine kBOn_b h hs hn he hS ha h1 m (k + 1) k (by omega) (by omega) hak (by omega) ck (fun i i1 i2 i3 => ?_) (fun i i1 i2 i3 => ?_)
      · by_cases e : i = k
        · subst e; exact Nat.le_refl _
        · rw [hz i i1 (by omega)] at i3; cases i3
      · rw [hz i i1 i2] at i3; cases i3
    · rw [if_neg c]
      refine ih (k + 1) (by omega) (by omega) (fun i i1 i2 => ?_) hex
      by_cases e : i = k
      · subst e
        rw [hb_bt (by omega)] at c
        cases z : me s i with
        | false => rfl
        | true => exact absurd z c
      · exact hz i i1 (by omega)
def ot (s a : Nat) : Bool := (decide (a < 1) && me s 1) || ((decide (a < 2) && me s 2) || ((decide (a < 3) && me s 3) || ((decide (a < 4) && me s 4) || (decide (a < 5) && me s 5))))
theorem ev_two : ∀ s, s < 64 → ∀ a, a < 6 → (!ev s || (!me s a || (!decide (∀ j, j < a → me s j = false) || ot s a))) = true := by decide +kernel
theorem ev_oth {s a : Nat} (hs : s < 64) (he : ev s = true) (ha : lM s a) : ∃ i, a < i ∧ i < 6 ∧ me s i = true := by
  have q := ev_two s hs a ha.1
  rw [he, ha.2.1, show decide (∀ j, j < a → me s j = false) = true by simpa using ha.2.2] at q
  simp only [Bool.not_true, Bool.false_or, ot, Bool.or_eq_true, Bool.and_eq_true, decide_eq_true_iff] at q
  rcases q with q | q | q | q | q
  · exact ⟨1, q.1, by decide, q.2⟩
  · exact ⟨2, q.1, by decide, q.2⟩
  · exact ⟨3, q.1, by decide, q.2⟩
  · exact ⟨4, q.1, by decide, q.2⟩
  · exact ⟨5, q.1, by decide, q.2⟩
theorem kBO_v {K : zMem} {w : Nat → Nat → Nat} {f : Nat → Nat} {S n s a : Nat} (h : kS2 K w f S n) (hs : s < 64) (hn : s ≤ n) (he : ev s = true) (hS : ∀ j, j < 6 → me s j = true → me S j = true) (ha : lM s a) : ∃ o, bo w f s a o ∧ kBO K (nI s) (nI a) = nI o := by
  unfold kBO
  have a6 := ha.1
  rw [nI_clamp (by omega)]
  exact kBOn_n h hs hn he hS ha.1 ha.2.1 (5 - a) (a + 1) (by omega) (by omega) (fun i i1 i2 => by omega) (ev_oth hs he ha)
theorem isM_nI {a : Nat} (h : a < 6) : isM (nI a) = true := by
  have : ∀ a, a < 6 → isM (nI a) = true := by decide
  exact this a h
/-- the least sums are laid out, smaller sets first -/
def fK (K : zMem) (s : Nat) : Nat := (K 33 s).toNatClampNeg
theorem ev_0 : ev 0 = true := by decide
theorem ix2_not {s a b j : Nat} (hs : s < 64) (ha : a < 6) (hb : b < 6) (hj : j < 6) (h : me (ix2 s a b) j = true) : me s j = true := ((ix2_j hs ha hb hj).mp h).1
/-- after kSU: the row 33 tells the least sums of all even sets of singles below n -/
def kD (K : zMem) (w : Nat → Nat → Nat) (S n : Nat) : Prop := (∀ a, a < 6 → ∀ b, b < 6 → bc (K 32 a ^^^ K 32 b) = nI (w a b) ∧ w a b ≤ 10) ∧ K 33 0 = 0 ∧ ∀ s, s < n → s < 64 → ev s = true → (∀ j, j < 6 → me s j = true → me S j = true) → K 33 s = nI (fK K s) ∧ fK K s ≤ 11 * s ∧ ∀ a, lM s a → ∃ o, bo w (fK K) s a o ∧ fK K s = w a o + fK K (ix2 s a o)
theorem kD_2 {K : zMem} {w : Nat → Nat → Nat} {S n : Nat} (h : kD K w S n) (hn : n ≤ 64) : kS2 K w (fK K) S n := by
  refine ⟨fun a ha b hb => ⟨(h.1 a ha b hb).1, by have := (h.1 a ha b hb).2; omega⟩, fun s hs h64 he hS => ?_⟩
  obtain ⟨h1, h2, -⟩ := h.2.2 s hs h64 he hS
  exact ⟨h1, by omega⟩
theorem bo_cg {w : Nat → Nat → Nat} {f g : Nat → Nat} {s a o : Nat} (hs : s < 64) (he : ev s = true) (ha : lM s a) (h : ∀ i, i < s → g i = f i) (hb : bo w f s a o) : bo w g s a o := by
  obtain ⟨b1, b2, b3, b4, b5⟩ := hb
  have e : ∀ i, a < i → i < 6 → me s i = true → g (ix2 s a i) = f (ix2 s a i) := fun i i1 i2 i3 => h _ (ix2_lt hs ha.1 i2 (by omega) he ha.2.1 i3).2
  refine ⟨b1, b2, b3, fun i i1 i2 i3 => ?_, fun i i1 i2 i3 => ?_⟩
  · rw [e o b1 b2 b3, e i i1 i2 i3]; exact b4 i i1 i2 i3
  · rw [e o b1 b2 b3, e i i1 (by omega) i3]; exact b5 i i1 i2 i3
theorem kD_put {K : zMem} {w : Nat → Nat → Nat} {S k : Nat} (h : kD K w S k) (h1 : 1 ≤ k) (hk : k < 64) (he : ev k = true) (hS : ∀ j, j < 6 → me k j = true → me S j = true) : kD (zms K 33 k (kLSm K (nI k))) w S (k + 1) := by
  obtain ⟨la, ea⟩ := lM_lo hk (show k ≠ 0 by omega)
  generalize hae : Int32.toNatClampNeg (kLO (nI k)) = a at la ea
  obtain ⟨o, bo1, eo⟩ := kBO_v (kD_2 h (by omega)) hk (Nat.le_refl k) he hS la
  have a6 := la.1
  have o6 := bo1.2.1
  have hao := bo1.1
  obtain ⟨l1, l2⟩ := ix2_lt hk a6 o6 (by omega) he la.2.1 bo1.2.2.1
  obtain ⟨sv, sb⟩ := kSW_v (kD_2 h (by omega)) hk (Nat.le_refl k) he hS a6 o6 la.2.1 bo1.2.2.1 (by omega)
  have ev1 : kLSm K (nI k) = nI (w a o + fK K (ix2 k a o)) := by
    unfold kLSm
    rw [ea, if_pos (by rw [isM_nI a6]), eo, if_pos (by rw [isM_nI o6])]
    exact sv
  have fk : ∀ s, s ≠ k → fK (zms K 33 k (kLSm K (nI k))) s = fK K s := fun s hs => by
    unfold fK
    rw [zms_at, if_neg hs]
  have fkk : fK (zms K 33 k (kLSm K (nI k))) k = w a o + fK K (ix2 k a o) := by
    unfold fK
    rw [zms_at, if_pos rfl, ev1]
    exact nI_clamp (by omega)
  refine ⟨?_, ?_, fun s hs h64 hes hSs => ?_⟩
  · rw [zms_ne _ _ _ _ 32 (by decide)]; exact h.1
  · rw [zms_at, if_neg (by omega)]; exact h.2.1
  · by_cases q : s = k
    · subst q
      refine ⟨by rw [zms_at, if_pos rfl, fkk]; exact ev1, ?_, fun a2 ha2 => ⟨o, ?_, ?_⟩⟩
      · rw [fkk]
        have w10 := (h.1 a a6 o o6).2
        have f11 := (h.2.2 (ix2 s a o) l2 (by omega) l1 (fun j hj hm => hS j hj (ix2_not hk a6 o6 hj hm))).2.1
        omega
      · have e2 := lM_uq ha2 la
        subst e2
        exact bo_cg hk he la (fun i hi => fk i (by omega)) bo1
      · have e2 := lM_uq ha2 la
        subst e2
        rw [fkk, fk _ (by omega)]
    · obtain ⟨g1, g2, g3⟩ := h.2.2 s (by omega) h64 hes hSs
      refine ⟨by rw [zms_at, if_neg q, fk s q]; exact g1, by rw [fk s q]; exact g2, fun a2 ha2 => ?_⟩
      obtain ⟨o2, b2, e2⟩ := g3 a2 ha2
      refine ⟨o2, bo_cg h64 hes ha2 (fun i hi => fk i (by omega)) b2, ?_⟩
      rw [fk s q, e2, fk _ (by have := (ix2_lt h64 ha2.1 b2.2.1 (by have := b2.1; omega) hes ha2.2.1 b2.2.2.1).2; omega)]
theorem kD_up {K : zMem} {w : Nat → Nat → Nat} {S k : Nat} (h : kD K w S k) (hn : ¬ (ev k = true ∧ ∀ j, j < 6 → me k j = true → me S j = true)) : kD K w S (k + 1) := by
  refine ⟨h.1, h.2.1, fun s hs h64 he hS => ?_⟩
  by_cases q : s = k
  · subst q; exact absurd ⟨he, hS⟩ hn
  · exact h.2.2 s (by omega) h64 he hS
def sbs (k S : Nat) : Bool := (!me k 0 || me S 0) && ((!me k 1 || me S 1) && ((!me k 2 || me S 2) && ((!me k 3 || me S 3) && ((!me k 4 || me S 4) && (!me k 5 || me S 5)))))
theorem sbs_i {k S : Nat} : sbs k S = true ↔ ∀ j, j < 6 → me k j = true → me S j = true := by
  unfold sbs
  simp only [Bool.and_eq_true, Bool.or_eq_true, Bool.not_eq_true']
  constructor
  · rintro ⟨h0, h1, h2, h3, h4, h5⟩ j hj hm
    have : j = 0 ∨ j = 1 ∨ j = 2 ∨ j = 3 ∨ j = 4 ∨ j = 5 := by omega
    rcases this with rfl | rfl | rfl | rfl | rfl | rfl
    · exact h0.resolve_left (by rw [hm]; decide)
    · exact h1.resolve_left (by rw [hm]; decide)
    · exact h2.resolve_left (by rw [hm]; decide)
    · exact h3.resolve_left (by rw [hm]; decide)
    · exact h4.resolve_left (by rw [hm]; decide)
    · exact h5.resolve_left (by rw [hm]; decide)
  · intro h
    have one : ∀ j, j < 6 → (me k j = false ∨ me S j = true) := fun j hj => by
      cases z : me k j with
      | false => exact Or.inl rfl
      | true => exact Or.inr (h j hj z)
    exact ⟨one 0 (by decide), one 1 (by decide), one 2 (by decide), one 3 (by decide), one 4 (by decide), one 5 (by decide)⟩
theorem sub_b : ∀ k, k < 64 → ∀ S, S < 64 → (decide (nI k &&& (nI S ^^^ (-1)) = 0) == sbs k S) = true := by decide +kernel
theorem sub_i {k S : Nat} (hk : k < 64) (hS : S < 64) : nI k &&& (nI S ^^^ (-1)) = 0 ↔ ∀ j, j < 6 → me k j = true → me S j = true := by
  have q := sub_b k hk S hS
  rw [beq_iff_eq] at q
  rw [← sbs_i, ← q, decide_eq_true_iff]
theorem kD_run {w : Nat → Nat → Nat} {S : Nat} (hS : S < 64) : ∀ n k (K : zMem), 1 ≤ k → k + n ≤ 64 → kD K w S k → kD (kSUn (nI S) k n K) w S (k + n) ∧ ∀ p, p ≠ 33 → (kSUn (nI S) k n K) p = K p := by
  intro n
  induction n with
  | zero => intro k K _ _ h; exact ⟨h, fun _ _ => rfl⟩
  | succ n ih =>
    intro k K h1 hk h
    unfold kSUn
    rw [show k + (n + 1) = k + 1 + n by omega]
    by_cases c : nI k &&& (nI S ^^^ (-1)) = 0
    · rw [if_pos c]
      by_cases c2 : bc (nI k) - bc (nI k) / 2 * 2 = 0
      · rw [if_pos c2]
        obtain ⟨i1, i2⟩ := ih (k + 1) _ (by omega) (by omega) (kD_put h h1 (by omega) (by unfold ev; simp [c2]) ((sub_i (by omega) hS).mp c))
        exact ⟨i1, fun p hp => (i2 p hp).trans (zms_ne _ _ _ _ p hp)⟩
      · rw [if_neg c2]
        exact ih (k + 1) K (by omega) (by omega) (kD_up h (fun z => c2 (by have := z.1; unfold ev at this; simpa using this)))
    · rw [if_neg c]
      exact ih (k + 1) K (by omega) (by omega) (kD_up h (fun z => c ((sub_i (by omega) hS).mpr z.2)))
theorem sub_le : ∀ s, s < 64 → ∀ S, S < 64 → (!sbs s S || decide (s ≤ S)) = true := by decide +kernel
/-- the least sums stand -/
theorem kD_dp {K : zMem} {w : Nat → Nat → Nat} {S : Nat} (hS : S < 64) (h : kD K w S (S + 1)) : dp w (fK K) S := by
  refine ⟨by unfold fK; rw [h.2.1]; rfl, fun s hs hsub he a ha => ?_⟩
  have q := sub_le s hs S hS
  rw [sbs_i.mpr hsub] at q
  simp only [Bool.not_true, Bool.false_or, decide_eq_true_iff] at q
  exact (h.2.2 s (by omega) hs he hsub).2.2 a ha
/-! the class's plan -/
def lx (p q : Nat → Nat) (s : Nat) : Prop := (∀ j, j < 6 → me s j = true → p j = q j) ∨ ∃ m, m < 6 ∧ me s m = true ∧ q m < p m ∧ ∀ j, j < m → me s j = true → p j = q j
theorem kCh_v {w : Nat → Nat → Nat} {f : Nat → Nat} {S : Nat} (hd : dp w f S) : ∀ n k x (K : zMem), k + n = 6 → x < 64 → ev x = true → (∀ j, j < 6 → me x j = true → me S j = true) → (∀ j, j < k → me x j = false) → kS2 K w f S 64 → ∃ q : Nat → Nat, mt q x ∧ (∀ j, j < 6 → (kChn k n (nI x) K) 34 j = if me x j = true then nI (q j) else K 34 j) ∧ (∀ p, p ≠ 34 → (kChn k n (nI x) K) p = K p) ∧ ps w q x = f x ∧ ∀ p, mt p x → ps w p x ≤ f x → lx p q x := by
  intro n
  induction n with
  | zero =>
    intro k x K hk hx he hS hz h2
    have e6 : k = 6 := by omega
    subst e6
    have no : ∀ j, j < 6 → me x j = false := fun j hj => hz j hj
    have x0 := me_0 x hx no
    refine ⟨fun _ => 0, fun j hj hm => ?_, fun j hj => ?_, fun _ _ => rfl, ?_, fun p _ _ => Or.inl (fun j hj hm => ?_)⟩
    · rw [no j hj] at hm; cases hm
    · rw [if_neg (by rw [no j hj]; decide)]; rfl
    · subst x0
      rw [hd.1]
      unfold ps
      rw [nsum_cg (g := fun _ => 0) 6 (fun j hj => if_neg (fun z => by rw [no j hj] at z; exact absurd z.1 (by decide))), nsum_z]
    · rw [no j hj] at hm; cases hm
  | succ n ih =>
    intro k x K hk hx he hS hz h2
    have k6 : k < 6 := by omega
    unfold kChn
    by_cases c : hb (nI x) (nI k) = true
    · rw [if_pos c]
      have mk : me x k = true := by
        rw [hb_bt (by omega)] at c; exact c
      have la : lM x k := ⟨k6, mk, hz⟩
      obtain ⟨o, b1, eo⟩ := kBO_v h2 hx (by omega) he hS la
      obtain ⟨o2, b2, ef⟩ := hd.2 x hx hS he k la
      have eo2 : o = o2 := by
        rcases Nat.lt_trichotomy o o2 with z | z | z
        · have := b2.2.2.2.2 o b1.1 z b1.2.2.1
          have := b1.2.2.2.1 o2 b2.1 b2.2.1 b2.2.2.1
          omega
        · exact z
        · have := b1.2.2.2.2 o2 b2.1 z b2.2.2.1
          have := b2.2.2.2.1 o b1.1 b1.2.1 b1.2.2.1
          omega
      subst eo2
      have o6 := b1.2.1
      have hko := b1.1
      rw [eo, if_pos (isM_nI o6)]
      obtain ⟨l1, l2⟩ := ix2_lt hx k6 o6 (by omega) he mk b1.2.2.1
      have ex : nI x &&& ((((1 : Int32) <<< (nI k &&& 31)) ^^^ (-1)) &&& (((1 : Int32) <<< (nI o &&& 31)) ^^^ (-1))) = nI (ix2 x k o) := by
        have : ∀ x, x < 64 → ∀ k, k < 6 → ∀ o, o < 6 → nI x &&& ((((1 : Int32) <<< (nI k &&& 31)) ^^^ (-1)) &&& (((1 : Int32) <<< (nI o &&& 31)) ^^^ (-1))) = nI (ix2 x k o) := by decide +kernel
        exact this x hx k k6 o o6
      rw [ex, nI_clamp (n := o) (by omega)]
      have hK : kS2 (zms (zms K 34 k (nI o)) 34 o (nI k)) w f S 64 := by
        refine ⟨?_, ?_⟩
        · rw [zms_ne _ _ _ _ 32 (by decide), zms_ne _ _ _ _ 32 (by decide)]; exact h2.1
        · rw [zms_ne _ _ _ _ 33 (by decide), zms_ne _ _ _ _ 33 (by decide)]; exact h2.2
      obtain ⟨q, q1, q2, q3, q4, q5⟩ := ih (k + 1) (ix2 x k o) _ (by omega) (by omega) l1 (fun j hj hm => hS j hj (ix2_not hx k6 o6 hj hm)) (fun j hj => by
        cases z : me (ix2 x k o) j with
        | false => rfl
        | true =>
          obtain ⟨z1, z2, z3⟩ := (ix2_j hx k6 o6 (by omega)).mp z
          rw [hz j (by omega)] at z1; cases z1) hK
      let q' : Nat → Nat := fun j => if j = k then o else if j = o then k else q j
      have qk : q' k = o := if_pos rfl
      have qo : q' o = k := by
        show (if o = k then o else if o = o then k else q o) = k
        rw [if_neg (by omega), if_pos rfl]
      have qj : ∀ j, j ≠ k → j ≠ o → q' j = q j := fun j j1 j2 => by
        show (if j = k then o else if j = o then k else q j) = q j
        rw [if_neg j1, if_neg j2]
      have mtq : mt q' x := by
        intro j hj hm
        by_cases e1 : j = k
        · subst e1
          rw [qk, qo]
          exact ⟨o6, b1.2.2.1, by omega, rfl⟩
        · by_cases e2 : j = o
          · subst e2
            rw [qo, qk]
            exact ⟨k6, mk, by omega, rfl⟩
          · rw [qj j e1 e2]
            obtain ⟨r1, r2, r3, r4⟩ := q1 j hj ((ix2_j hx k6 o6 hj).mpr ⟨hm, e1, e2⟩)
            obtain ⟨s1, s2, s3⟩ := (ix2_j hx k6 o6 r1).mp r2
            rw [qj _ s2 s3]
            exact ⟨r1, s1, r3, r4⟩
      have psq : ps w q' x = f x := by
        obtain ⟨e1, -, -⟩ := ps_split (w := w) hx mtq la
        rw [e1, qk, ef, ← q4]
        congr 1
        refine nsum_cg 6 (fun j hj => ?_)
        by_cases cm : me (ix2 x k o) j = true
        · obtain ⟨z1, z2, z3⟩ := (ix2_j hx k6 o6 hj).mp cm
          rw [qj j z2 z3]
        · rw [if_neg (fun z => cm z.1), if_neg (fun z => cm z.1)]
      refine ⟨q', mtq, fun j hj => ?_, fun p hp => ?_, psq, fun p hp hle => ?_⟩
      · rw [q2 j hj]
        by_cases e1 : j = k
        · subst e1
          rw [if_neg (fun z => ((ix2_j hx k6 o6 hj).mp z).2.1 rfl), zms_at, if_neg (by omega), zms_at, if_pos rfl, if_pos mk, qk]
        · by_cases e2 : j = o
          · subst e2
            rw [if_neg (fun z => ((ix2_j hx k6 o6 hj).mp z).2.2 rfl), zms_at, if_pos rfl, if_pos b1.2.2.1, qo]
          · by_cases cm : me x j = true
            · rw [if_pos ((ix2_j hx k6 o6 hj).mpr ⟨cm, e1, e2⟩), if_pos cm, qj j e1 e2]
            · rw [if_neg (fun z => cm ((ix2_j hx k6 o6 hj).mp z).1), if_neg cm, zms_at, if_neg e2, zms_at, if_neg e1]
      · rw [q3 p hp, zms_ne _ _ _ _ p hp, zms_ne _ _ _ _ p hp]
      · obtain ⟨e1, e2, e3⟩ := ps_split (w := w) hx hp la
        obtain ⟨r1, r2, r3, r4⟩ := hp k k6 mk
        obtain ⟨m1, m2⟩ := ix2_lt hx k6 r1 (Ne.symm r3) he mk r2
        have lo := dp_le hd p _ (ix2 x k (p k)) (Nat.le_refl _) (by omega) (fun j hj hm => hS j hj (ix2_not hx k6 r1 hj hm)) m1 e2
        have b4 := b1.2.2.2.1 (p k) e3 r1 r2
        rcases Nat.lt_trichotomy o (p k) with z | z | z
        · refine Or.inr ⟨k, k6, mk, by rw [qk]; exact z, fun j hj hm => ?_⟩
          rw [hz j hj] at hm; cases hm
        · rw [← z] at e1 e2 lo
          have hl : ps w p (ix2 x k o) ≤ f (ix2 x k o) := by omega
          rcases q5 p e2 hl with s1 | ⟨m, s1, s2, s3, s4⟩
          · refine Or.inl (fun j hj hm => ?_)
            by_cases j1 : j = k
            · subst j1; rw [qk]; exact z.symm
            · by_cases j2 : j = o
              · subst j2
                rw [qo]
                rw [← z] at r4; exact r4
              · rw [qj j j1 j2]
                exact s1 j hj ((ix2_j hx k6 o6 hj).mpr ⟨hm, j1, j2⟩)
          · obtain ⟨t1, t2, t3⟩ := (ix2_j hx k6 o6 s1).mp s2
            refine Or.inr ⟨m, s1, t1, by rw [qj m t2 t3]; exact s3, fun j hj hm => ?_⟩
            by_cases j1 : j = k
            · subst j1; rw [qk]; exact z.symm
            · by_cases j2 : j = o
              · subst j2
                rw [qo]
                rw [← z] at r4; exact r4
              · rw [qj j j1 j2]
                exact s4 j hj ((ix2_j hx k6 o6 (by omega)).mpr ⟨hm, j1, j2⟩)
        · have := b1.2.2.2.2 (p k) e3 z r2
          omega
    · rw [if_neg c]
      have mk : me x k = false := by
        rw [hb_bt (by omega)] at c
        cases z : me x k with
        | false => rfl
        | true => exact absurd z c
      exact ih (k + 1) x K (by omega) hx he hS (fun j hj => by
        by_cases e : j = k
        · subst e; exact mk
        · exact hz j (by omega)) h2
