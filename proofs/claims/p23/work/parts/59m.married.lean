/-! marriages: the reference's search -/
theorem d7_lex {c c2 m : Nat} (hc : c < 117649) (hc2 : c2 < 117649) (hm : m < 6) (h : ∀ j, j < m → d7 c j = d7 c2 j) (hl : d7 c m < d7 c2 m) : c < c2 := by
  have e0 : ∀ c, d7 c 0 = c / 16807 % 7 := fun _ => rfl
  have e1 : ∀ c, d7 c 1 = c / 2401 % 7 := fun _ => rfl
  have e2 : ∀ c, d7 c 2 = c / 343 % 7 := fun _ => rfl
  have e3 : ∀ c, d7 c 3 = c / 49 % 7 := fun _ => rfl
  have e4 : ∀ c, d7 c 4 = c / 7 % 7 := fun _ => rfl
  have e5 : ∀ c, d7 c 5 = c / 1 % 7 := fun _ => rfl
  have hk : m = 0 ∨ m = 1 ∨ m = 2 ∨ m = 3 ∨ m = 4 ∨ m = 5 := by omega
  rcases hk with rfl | rfl | rfl | rfl | rfl | rfl
  · rw [e0, e0] at hl; omega
  · have h0 := h 0 (by decide)
    rw [e0, e0] at h0; rw [e1, e1] at hl; omega
  · have h0 := h 0 (by decide)
    have h1 := h 1 (by decide)
    rw [e0, e0] at h0; rw [e1, e1] at h1; rw [e2, e2] at hl; omega
  · have h0 := h 0 (by decide)
    have h1 := h 1 (by decide)
    have h2 := h 2 (by decide)
    rw [e0, e0] at h0; rw [e1, e1] at h1; rw [e2, e2] at h2; rw [e3, e3] at hl; omega
  · have h0 := h 0 (by decide)
    have h1 := h 1 (by decide)
    have h2 := h 2 (by decide)
    have h3 := h 3 (by decide)
    rw [e0, e0] at h0; rw [e1, e1] at h1; rw [e2, e2] at h2; rw [e3, e3] at h3; rw [e4, e4] at hl; omega
  · have h0 := h 0 (by decide)
    have h1 := h 1 (by decide)
    have h2 := h 2 (by decide)
    have h3 := h 3 (by decide)
    have h4 := h 4 (by decide)
    rw [e0, e0] at h0; rw [e1, e1] at h1; rw [e2, e2] at h2; rw [e3, e3] at h3; rw [e4, e4] at h4; rw [e5, e5] at hl; omega
theorem d7_eq {c c2 : Nat} (hc : c < 117649) (hc2 : c2 < 117649) (h : ∀ j, j < 6 → d7 c j = d7 c2 j) : c = c2 := by
  have h0 : c / 16807 % 7 = c2 / 16807 % 7 := h 0 (by decide)
  have h1 : c / 2401 % 7 = c2 / 2401 % 7 := h 1 (by decide)
  have h2 : c / 343 % 7 = c2 / 343 % 7 := h 2 (by decide)
  have h3 : c / 49 % 7 = c2 / 49 % 7 := h 3 (by decide)
  have h4 : c / 7 % 7 = c2 / 7 % 7 := h 4 (by decide)
  have h5 : c / 1 % 7 = c2 / 1 % 7 := h 5 (by decide)
  omega
def cdQ (q : Nat → Nat) : Nat := q 0 * 16807 + q 1 * 2401 + q 2 * 343 + q 3 * 49 + q 4 * 7 + q 5
theorem cdQ_d {q : Nat → Nat} (h : ∀ j, j < 6 → q j < 7) : cdQ q < 117649 ∧ ∀ j, j < 6 → d7 (cdQ q) j = q j := by
  have h0 := h 0 (by decide)
  have h1 := h 1 (by decide)
  have h2 := h 2 (by decide)
  have h3 := h 3 (by decide)
  have h4 := h 4 (by decide)
  have h5 := h 5 (by decide)
  unfold cdQ
  refine ⟨by omega, fun j hj => ?_⟩
  have hk : j = 0 ∨ j = 1 ∨ j = 2 ∨ j = 3 ∨ j = 4 ∨ j = 5 := by omega
  rcases hk with rfl | rfl | rfl | rfl | rfl | rfl
  · show (q 0 * 16807 + q 1 * 2401 + q 2 * 343 + q 3 * 49 + q 4 * 7 + q 5) / 16807 % 7 = q 0
    omega
  · show (q 0 * 16807 + q 1 * 2401 + q 2 * 343 + q 3 * 49 + q 4 * 7 + q 5) / 2401 % 7 = q 1
    omega
  · show (q 0 * 16807 + q 1 * 2401 + q 2 * 343 + q 3 * 49 + q 4 * 7 + q 5) / 343 % 7 = q 2
    omega
  · show (q 0 * 16807 + q 1 * 2401 + q 2 * 343 + q 3 * 49 + q 4 * 7 + q 5) / 49 % 7 = q 3
    omega
  · show (q 0 * 16807 + q 1 * 2401 + q 2 * 343 + q 3 * 49 + q 4 * 7 + q 5) / 7 % 7 = q 4
    omega
  · show (q 0 * 16807 + q 1 * 2401 + q 2 * 343 + q 3 * 49 + q 4 * 7 + q 5) / 1 % 7 = q 5
    omega
/-- singles, and who has whom -/
def p0 (F : zTS) (j : Nat) : Nat := if fP F j = -6 then 6 else (fP F j).toNatClampNeg
theorem p0_f {F : zTS} (hw : kWF F) {j : Nat} (hj : j < 6) : (fP F j = -6 ∧ p0 F j = 6) ∨ (p0 F j < 6 ∧ fP F j = nI (p0 F j) ∧ p0 F j ≠ j ∧ fP F (p0 F j) = nI j ∧ p0 F (p0 F j) = j) := by
  rcases hw.2.2.2.2.2.1 j hj with h | ⟨i, i6, ij, h1, h2⟩
  · exact Or.inl ⟨h, if_pos h⟩
  · have n1 : ¬ fP F j = -6 := by rw [h1]; exact nI_ne6 (by omega)
    have n2 : ¬ fP F i = -6 := by rw [h2]; exact nI_ne6 (by omega)
    have e : p0 F j = i := by
      unfold p0
      rw [if_neg n1, h1]
      exact nI_clamp (by omega)
    have e2 : p0 F i = j := by
      unfold p0
      rw [if_neg n2, h2]
      exact nI_clamp (by omega)
    rw [e]
    exact Or.inr ⟨i6, h1, ij, h2, e2⟩
theorem p0_P {F : zTS} (hw : kWF F) : isP (p0 F) := fun j hj h => by
  rcases p0_f hw hj with ⟨_, q⟩ | ⟨_, _, q1, _, q2⟩
  · omega
  · exact ⟨q1, q2⟩
/-- the set of the singles -/
def sgl (F : zTS) (S : Nat) : Prop := S < 64 ∧ ∀ j, j < 6 → (me S j = true ↔ fP F j = -6)
theorem ev_cnt : ∀ S, S < 64 → (ev S == decide (nsum (fun j => if me S j = true then 1 else 0) 6 % 2 = 0)) = true := by decide +kernel
theorem sgl_ev {F : zTS} (hw : kWF F) {S : Nat} (h : sgl F S) : ev S = true := by
  obtain ⟨q, hq⟩ := even_p (p0_P hw)
  have e : nsum (fun j => if me S j = true then 1 else 0) 6 + nsum (fun i => if p0 F i < 6 then 1 else 0) 6 = 6 := by
    rw [← nsum_add, nsum_cg (g := fun _ => 1) 6 (fun j hj => ?_)]
    · rfl
    · rcases p0_f hw hj with ⟨h1, h2⟩ | ⟨h1, h2, _⟩
      · rw [if_pos ((h.2 j hj).mpr h1), if_neg (by omega)]
      · rw [if_neg (fun z => by rw [(h.2 j hj).mp z] at h2; exact nI_ne6 (by omega) h2.symm), if_pos h1]
  have c := ev_cnt S h.1
  rw [beq_iff_eq] at c
  rw [c, decide_eq_true_iff]
  omega
/-- a whole plan that keeps what is kept -/
def full (F : zTS) (p : Nat → Nat) : Prop := ∀ j, j < 6 → p j < 6 ∧ p j ≠ j ∧ p (p j) = j ∧ (fP F j = -6 ∨ p j = p0 F j)
theorem full_mt {F : zTS} (hw : kWF F) {S : Nat} (h : sgl F S) {p : Nat → Nat} (hp : full F p) : mt p S := by
  intro j hj hm
  obtain ⟨a1, a2, a3, a4⟩ := hp j hj
  refine ⟨a1, ?_, a2, a3⟩
  refine (h.2 _ a1).mpr ?_
  rcases p0_f hw a1 with ⟨q, _⟩ | ⟨q1, q2, q3, q4, q5⟩
  · exact q
  · exfalso
    have b4 := (hp (p j) a1).2.2.2
    have b5 : p (p j) = p0 F (p j) := by
      rcases b4 with z | z
      · rw [z] at q2; exact absurd q2.symm (nI_ne6 (by omega))
      · exact z
    rw [a3] at b5
    rw [← b5] at q4
    have := (h.2 j hj).mp hm
    rw [this] at q4
    exact nI_ne6 (by omega) q4.symm
theorem full_P {F : zTS} {p : Nat → Nat} (hp : full F p) : isP p := fun j hj _ => ⟨(hp j hj).2.1, (hp j hj).2.2.1⟩
theorem full_B {F : zTS} (hw : kWF F) {S : Nat} (h : sgl F S) (Mc : zMem) {p : Nat → Nat} (hp : full F p) : allB Mc (tN F) p = allB Mc (tN F) (p0 F) + ps (wT Mc (tN F)) p S := by
  unfold allB ps
  rw [Nat.add_assoc, ← nsum_add]
  congr 1
  refine nsum_cg 6 (fun j hj => ?_)
  obtain ⟨a1, a2, a3, a4⟩ := hp j hj
  by_cases c : fP F j = -6
  · have m : me S j = true := (h.2 j hj).mpr c
    have e6 : p0 F j = 6 := if_pos c
    rw [if_neg (show ¬ (p0 F j < 6 ∧ j < p0 F j) by omega), Nat.zero_add]
    by_cases c2 : j < p j
    · rw [if_pos ⟨a1, c2⟩, if_pos ⟨m, c2⟩]
    · rw [if_neg (fun z => c2 z.2), if_neg (fun z => c2 z.2)]
  · have m : ¬ me S j = true := fun z => c ((h.2 j hj).mp z)
    have e := a4.resolve_left c
    rw [if_neg (show ¬ (me S j = true ∧ j < p j) from fun z => m z.1), Nat.add_zero, e]
theorem pAl_c (c : Nat) : ∀ k, pAl c k + nsum (fun i => if d7 c i < 6 then 1 else 0) k = k
  | 0 => rfl
  | k + 1 => by
    show pAl c k + (if d7 c k = 6 then 1 else 0) + (nsum _ k + (if d7 c k < 6 then 1 else 0)) = k + 1
    have := pAl_c c k
    have h7 := d7_7 c k
    by_cases h : d7 c k = 6
    · rw [if_pos h, if_neg (by omega)]; omega
    · rw [if_neg h, if_pos (by omega)]; omega
/-- a code is good just if it tells a whole plan -/
theorem pOk_full {F : zTS} (hw : kWF F) {M1 : zMem} (h48 : ∀ j, j < 6 → M1 48 j = fP F j) {c : Nat} : pOk M1 c ↔ full F (d7 c) := by
  have kn : ∀ j, j < 6 → ((M1 48 j < 0 ∨ nI (d7 c j) = M1 48 j) ↔ (fP F j = -6 ∨ d7 c j = p0 F j)) := fun j hj => by
    rw [h48 j hj]
    have h7 := d7_7 c j
    rcases p0_f hw hj with ⟨h1, h2⟩ | ⟨h1, h2, _⟩
    · rw [h1]; exact ⟨fun _ => Or.inl rfl, fun _ => Or.inl (by decide)⟩
    · rw [h2]
      constructor
      · rintro (q | q)
        · rw [show (0 : Int32) = nI 0 from rfl, nI_ltI (by omega) (by decide)] at q; omega
        · exact Or.inr ((nI_eq (by omega) (by omega)).mp q)
      · rintro (q | q)
        · exact absurd q (nI_ne6 (by omega))
        · exact Or.inr (by rw [q])
  constructor
  · rintro ⟨h1, h2⟩
    have hP : isP (d7 c) := fun j hj h6 => by
      obtain ⟨a1, a2, _⟩ := h1 j hj
      exact ⟨a1, a2.resolve_left (by omega)⟩
    obtain ⟨q, hq⟩ := even_p hP
    have al := pAl_c c 6
    have al0 : pAl c 6 = 0 := by omega
    have all6 : ∀ k, k ≤ 6 → pAl c k = 0 → ∀ j, j < k → d7 c j < 6 := by
      intro k
      induction k with
      | zero => intro _ _ j hj; exact absurd hj (Nat.not_lt_zero j)
      | succ k ih =>
        intro hk h0 j hj
        have h0' : pAl c k + (if d7 c k = 6 then 1 else 0) = 0 := h0
        by_cases e : j = k
        · subst e
          have := d7_7 c j
          by_cases z : d7 c j = 6
          · rw [if_pos z] at h0'; omega
          · omega
        · exact ih (by omega) (by omega) j (by omega)
    intro j hj
    obtain ⟨a1, a2, a3⟩ := h1 j hj
    have a6 := all6 6 (Nat.le_refl _) al0 j hj
    exact ⟨a6, a1, a2.resolve_left (by omega), (kn j hj).mp a3⟩
  · intro h
    refine ⟨fun j hj => ?_, ?_⟩
    · obtain ⟨a1, a2, a3, a4⟩ := h j hj
      exact ⟨a2, Or.inr a3, (kn j hj).mpr a4⟩
    · have al := pAl_c c 6
      rw [nsum_cg (g := fun _ => 1) 6 (fun j hj => if_pos (h j hj).1)] at al
      have : nsum (fun _ => 1) 6 = 6 := rfl
      omega
/-- what is known of the first best plan -/
def best1 (F : zTS) (Mc : zMem) (S f : Nat) (Q : Nat → Nat) : Prop := sgl F S ∧ full F Q ∧ ps (wT Mc (tN F)) Q S = f ∧ (∀ p, mt p S → f ≤ ps (wT Mc (tN F)) p S) ∧ ∀ p, mt p S → ps (wT Mc (tN F)) p S ≤ f → lx p Q S
theorem best_c {F : zTS} {Mc : zMem} {S f : Nat} {Q : Nat → Nat} (hw : kWF F) (hb : best1 F Mc S f Q) {c : Nat} (hc : c < 117649) (hg : full F (d7 c)) : allB Mc (tN F) Q ≤ allB Mc (tN F) (d7 c) ∧ (c < cdQ Q → allB Mc (tN F) Q < allB Mc (tN F) (d7 c)) := by
  obtain ⟨h1, h2, h3, h4, h5⟩ := hb
  have mtc := full_mt hw h1 hg
  have e1 := full_B hw h1 Mc hg
  have e2 := full_B hw h1 Mc h2
  have lo := h4 _ mtc
  obtain ⟨q1, q2⟩ := cdQ_d (q := Q) (fun j hj => by have := (h2 j hj).1; omega)
  refine ⟨by omega, fun hlt => ?_⟩
  rcases Nat.lt_or_ge f (ps (wT Mc (tN F)) (d7 c) S) with z | z
  · omega
  · exfalso
    have off : ∀ j, j < 6 → ¬ me S j = true → d7 c j = Q j := fun j hj hm => by
      have nf : ¬ fP F j = -6 := fun q => hm ((h1.2 j hj).mpr q)
      rw [(hg j hj).2.2.2.resolve_left nf, (h2 j hj).2.2.2.resolve_left nf]
    rcases h5 _ mtc z with s1 | ⟨m, s1, s2, s3, s4⟩
    · have : c = cdQ Q := d7_eq hc q1 (fun j hj => by
        rw [q2 j hj]
        by_cases cm : me S j = true
        · exact s1 j hj cm
        · exact off j hj cm)
      omega
    · have := d7_lex q1 hc s1 (fun j hj => by
        rw [q2 j (by omega)]
        by_cases cm : me S j = true
        · exact (s4 j hj cm).symm
        · exact (off j (by omega) cm).symm) (by rw [q2 m s1]; exact s3)
      omega
theorem allB_le {F : zTS} (hw : kWF F) {Mc : zMem} (htr : kTR Mc 10 F) (p : Nat → Nat) : allB Mc (tN F) p ≤ 120 := by
  have h10 := hw.1.2
  have a1 := nsum_le (f := fun t => nsum (fun i => if TT Mc t i = true then 1 else 0) 6) 6 (tN F) (fun t _ => by
    have := nsum_le (f := fun i => if TT Mc t i = true then 1 else 0) 1 6 (fun i _ => by
      by_cases c : TT Mc t i = true
      · rw [if_pos c]; omega
      · rw [if_neg c]; omega)
    omega)
  have a2 := nsum_le (f := fun j => if p j < 6 ∧ j < p j then wT Mc (tN F) j (p j) else 0) 10 6 (fun j hj => by
    by_cases c : p j < 6 ∧ j < p j
    · rw [if_pos c]; exact (wT_bc hw htr hj c.1).2
    · rw [if_neg c]; omega)
  unfold allB
  omega
section zK1
variable (g : Nat → Option Nat) (X : List zShp) (M : zMem)
theorem vT_X_married_0 (g : Nat → Option Nat) (X : List zShp) (M : zMem) (x1 : Int32) (R : zEnd) (h : (mCnt M) ∧ ((mK (mTo M)) ∧ (∀ (r2 : Int32) (M2 : zMem), (kAg [42] (mTo M) M2 ∧ (∀ F Mc p, abH F Mc (mTo M) p → r2 = nI (allB Mc (tN F) p))) → (zRT m_X_married 0 0 15 [(0, .ref 35), (1, .int x1), (2, .int r2), (3, .int 1000000), (4, .int 0)] [] (SHP g X) M2 R)))) : zRT m_X_married 0 0 0 [(0, .ref 35), (1, .int x1)] [] (SHP g X) M R := by
  refine zs_aload_n 0 d_X_married_0 rfl (List.mem_of_getElem? (i := 0) rfl) ?_
  obtain ⟨p1, h⟩ := h
  refine zs_callV (kc := 0) (ks := 0) (kc1 := 0) (ks1 := 0) (st := []) [] d_X_married_1 lk_X_116 ⟨by decide, by decide⟩ rfl (sh_35 g X) rfl (Nat.le_of_ble_eq_true rfl) (ex_X_asTold g X M p1) (fun v1 sh1 M1 hR => ?_)
  obtain ⟨rfl, rfl, rfl⟩ := hR
  refine zs_aload_n 0 d_X_married_4 rfl (List.mem_of_getElem? (i := 0) rfl) ?_
  obtain ⟨p2, h⟩ := h
  refine zs_callV (kc := 0) (ks := 0) (kc1 := 0) (ks1 := 0) (st := []) [] d_X_married_5 lk_X_153 ⟨by decide, by decide⟩ rfl (sh_35 g X) rfl (Nat.le_of_ble_eq_true rfl) (ex3_X_allBarred g X (mTo M) p2) (fun v2 sh2 M2 hR => ?_)
  obtain ⟨r2, rfl, rfl, hq2⟩ := hR
  replace h := h r2 M2 hq2
  refine zs_istore_n2 2 [1, 2, 0] [(0, .ref 35), (1, .int x1), (2, .int r2)] d_X_married_8 rfl (by decide) rfl ?_
  refine zs_ldc (v := 1000000) d_X_married_9 (by decide +kernel) ?_
  refine zs_istore_n2 3 [1, 2, 3, 0] [(0, .ref 35), (1, .int x1), (2, .int r2), (3, .int 1000000)] d_X_married_11 rfl (by decide) rfl ?_
  refine zs_iconst 0 d_X_married_12 (by decide) ?_
  refine zs_istore2 [1, 2, 3, 4, 0] [(0, .ref 35), (1, .int x1), (2, .int r2), (3, .int 1000000), (4, .int 0)] d_X_married_13 (by decide) rfl ?_
  exact h
theorem vT_X_married_15 (g : Nat → Option Nat) (X : List zShp) (M : zMem) (x1 x2 x3 x4 : Int32) (R : zEnd) (h : ((6 ≤ x4) → (zRT m_X_married 0 0 45 [(0, .ref 35), (1, .int x1), (2, .int x2), (3, .int x3), (4, .int 0)] [] (SHP g X) M R)) ∧ ((¬ 6 ≤ x4) → ((vp_in x4 6) ∧ (zRT m_X_married 0 0 15 [(0, .ref 35), (1, .int x1), (2, .int x2), (3, .int x3), (4, .int (x4 + 1))] [] (SHP g X) (zms M 48 (Int32.toNatClampNeg x4) (M 36 (Int32.toNatClampNeg x4))) R)))) : zRT m_X_married 0 0 15 [(0, .ref 35), (1, .int x1), (2, .int x2), (3, .int x3), (4, .int x4)] [] (SHP g X) M R := by
  refine zs_iload d_X_married_15 (List.mem_of_getElem? (i := 4) rfl) ?_
  refine zs_bipush 6 d_X_married_17 (by decide) ?_
  refine zs_icmp_ge 42 d_X_married_19 (by decide) (fun c1 => ?_) (fun c1 => ?_)
  · replace h := h.1 c1
    refine zs_iconst 0 d_X_married_42 (by decide) ?_
    refine zs_istore2 [1, 2, 3, 4, 0] [(0, .ref 35), (1, .int x1), (2, .int x2), (3, .int x3), (4, .int 0)] d_X_married_43 (by decide) rfl ?_
    exact h
  · replace h := h.2 c1
    refine zs_aload_n 0 d_X_married_22 rfl (List.mem_of_getElem? (i := 0) rfl) ?_
    refine zs_get d_X_married_23 gf_X_53 (sh_35 g X) rfl ?_
    refine zs_iload d_X_married_26 (List.mem_of_getElem? (i := 4) rfl) ?_
    refine zs_aload_n 0 d_X_married_28 rfl (List.mem_of_getElem? (i := 0) rfl) ?_
    refine zs_get d_X_married_29 gf_X_16 (sh_35 g X) rfl ?_
    refine zs_iload d_X_married_32 (List.mem_of_getElem? (i := 4) rfl) ?_
    obtain ⟨b2, h⟩ := h
    refine zs_iald d_X_married_34 (sh_36 g X) b2 ?_
    refine zs_iast d_X_married_35 (sh_48 g X) b2 ?_
    refine zs_iinc2 4 (x4 + 1) [1, 2, 3, 4, 0] [(0, .ref 35), (1, .int x1), (2, .int x2), (3, .int x3), (4, .int (x4 + 1))] d_X_married_36 rfl rfl (by decide) rfl ?_
    refine zs_goto 15 d_X_married_39 (by decide) ?_
    exact h
theorem vT_X_married_45 (g : Nat → Option Nat) (X : List zShp) (M : zMem) (x1 x2 x3 x4 : Int32) (R : zEnd) (h : ((117649 ≤ x4) → (zRT m_X_married 0 0 172 [(0, .ref 35), (1, .int x1), (2, .int x2), (3, .int x3), (4, .int 0)] [] (SHP g X) M R)) ∧ ((¬ 117649 ≤ x4) → ((∃ c : Nat, c < 2 ^ 31 ∧ x4 = nI c) ∧ (∀ (r2 : Int32) (M2 : zMem), (kAg [49] M M2 ∧ (r2 = 0 ∨ r2 = 1) ∧ (∀ c : Nat, c < 117649 → x4 = nI c → (∀ j, j < 6 → M2 49 j = nI (d7 c j)) ∧ (¬ r2 = 0 ↔ pOk M c))) → (((r2 = 0) → (zRT m_X_married 0 0 45 [(0, .ref 35), (1, .int x1), (2, .int x2), (3, .int x3), (4, .int (x4 + 1))] [] (SHP g X) M2 R)) ∧ ((¬ r2 = 0) → (zRT m_X_married 0 0 64 [(0, .ref 35), (1, .int x1), (2, .int x2), (3, .int x3), (4, .int x4), (5, .int 0)] [] (SHP g X) M2 R))))))) : zRT m_X_married 0 0 45 [(0, .ref 35), (1, .int x1), (2, .int x2), (3, .int x3), (4, .int x4)] [] (SHP g X) M R := by
  refine zs_iload d_X_married_45 (List.mem_of_getElem? (i := 4) rfl) ?_
  refine zs_ldc (v := 117649) d_X_married_47 (by decide +kernel) ?_
  refine zs_icmp_ge 169 d_X_married_49 (by decide) (fun c1 => ?_) (fun c1 => ?_)
  · replace h := h.1 c1
    refine zs_iconst 0 d_X_married_169 (by decide) ?_
    refine zs_istore2 [1, 2, 3, 4, 0] [(0, .ref 35), (1, .int x1), (2, .int x2), (3, .int x3), (4, .int 0)] d_X_married_170 (by decide) rfl ?_
    exact h
  · replace h := h.2 c1
    refine zs_aload_n 0 d_X_married_52 rfl (List.mem_of_getElem? (i := 0) rfl) ?_
    refine zs_iload d_X_married_53 (List.mem_of_getElem? (i := 4) rfl) ?_
    obtain ⟨p2, h⟩ := h
    refine zs_callV (kc := 0) (ks := 0) (kc1 := 0) (ks1 := 0) (st := []) [.int x4] d_X_married_55 lk_X_157 ⟨by decide, by decide⟩ rfl (sh_35 g X) rfl (Nat.le_of_ble_eq_true rfl) (ex2_X_layPlan g X M x4 p2) (fun v2 sh2 M2 hR => ?_)
    obtain ⟨r2, rfl, rfl, hq2⟩ := hR
    replace h := h r2 M2 hq2
    refine zs_if_eq 163 d_X_married_58 (by decide) (fun c3 => ?_) (fun c3 => ?_)
    · replace h := h.1 c3
      refine zs_iinc2 4 (x4 + 1) [1, 2, 3, 4, 0] [(0, .ref 35), (1, .int x1), (2, .int x2), (3, .int x3), (4, .int (x4 + 1))] d_X_married_163 rfl rfl (by decide) rfl ?_
      refine zs_goto 45 d_X_married_166 (by decide) ?_
      exact h
    · replace h := h.2 c3
      refine zs_iconst 0 d_X_married_61 (by decide) ?_
      refine zs_istore2 [1, 2, 3, 4, 5, 0] [(0, .ref 35), (1, .int x1), (2, .int x2), (3, .int x3), (4, .int x4), (5, .int 0)] d_X_married_62 (by decide) rfl ?_
      exact h
theorem vT_X_married_64 (g : Nat → Option Nat) (X : List zShp) (M : zMem) (x1 x2 x3 x4 x5 : Int32) (R : zEnd) (h : ((6 ≤ x5) → ((mK M) ∧ (∀ (r2 : Int32) (M2 : zMem), (kAg [42] M M2 ∧ (∀ F Mc p, abH F Mc M p → r2 = nI (allB Mc (tN F) p))) → (zRT m_X_married 0 0 117 [(0, .ref 35), (1, .int x1), (2, .int x2), (3, .int x3), (4, .int x4), (5, .int r2), (6, .int 0)] [] (SHP g X) M2 R)))) ∧ ((¬ 6 ≤ x5) → ((vp_in x5 6) ∧ (((¬ (M 49 (Int32.toNatClampNeg x5)) = 6) → (zRT m_X_married 0 0 64 [(0, .ref 35), (1, .int x1), (2, .int x2), (3, .int x3), (4, .int x4), (5, .int (x5 + 1))] [] (SHP g X) (zms M 36 (Int32.toNatClampNeg x5) (M 49 (Int32.toNatClampNeg x5))) R)) ∧ (((M 49 (Int32.toNatClampNeg x5)) = 6) → (zRT m_X_married 0 0 64 [(0, .ref 35), (1, .int x1), (2, .int x2), (3, .int x3), (4, .int x4), (5, .int (x5 + 1))] [] (SHP g X) (zms M 36 (Int32.toNatClampNeg x5) (-6)) R)))))) : zRT m_X_married 0 0 64 [(0, .ref 35), (1, .int x1), (2, .int x2), (3, .int x3), (4, .int x4), (5, .int x5)] [] (SHP g X) M R := by
  refine zs_iload d_X_married_64 (List.mem_of_getElem? (i := 5) rfl) ?_
  refine zs_bipush 6 d_X_married_66 (by decide) ?_
  refine zs_icmp_ge 108 d_X_married_68 (by decide) (fun c1 => ?_) (fun c1 => ?_)
  · replace h := h.1 c1
    refine zs_aload_n 0 d_X_married_108 rfl (List.mem_of_getElem? (i := 0) rfl) ?_
    obtain ⟨p2, h⟩ := h
    refine zs_callV (kc := 0) (ks := 0) (kc1 := 0) (ks1 := 0) (st := []) [] d_X_married_109 lk_X_153 ⟨by decide, by decide⟩ rfl (sh_35 g X) rfl (Nat.le_of_ble_eq_true rfl) (ex3_X_allBarred g X M p2) (fun v2 sh2 M2 hR => ?_)
    obtain ⟨r2, rfl, rfl, hq2⟩ := hR
    replace h := h r2 M2 hq2
    refine zs_istore2 [1, 2, 3, 4, 5, 0] [(0, .ref 35), (1, .int x1), (2, .int x2), (3, .int x3), (4, .int x4), (5, .int r2)] d_X_married_112 (by decide) rfl ?_
    refine zs_iconst 0 d_X_married_114 (by decide) ?_
    refine zs_istore2 [1, 2, 3, 4, 5, 6, 0] [(0, .ref 35), (1, .int x1), (2, .int x2), (3, .int x3), (4, .int x4), (5, .int r2), (6, .int 0)] d_X_married_115 (by decide) rfl ?_
    exact h
  · replace h := h.2 c1
    refine zs_aload_n 0 d_X_married_71 rfl (List.mem_of_getElem? (i := 0) rfl) ?_
    refine zs_get d_X_married_72 gf_X_16 (sh_35 g X) rfl ?_
    refine zs_iload d_X_married_75 (List.mem_of_getElem? (i := 5) rfl) ?_
    refine zs_aload_n 0 d_X_married_77 rfl (List.mem_of_getElem? (i := 0) rfl) ?_
    refine zs_get d_X_married_78 gf_X_56 (sh_35 g X) rfl ?_
    refine zs_iload d_X_married_81 (List.mem_of_getElem? (i := 5) rfl) ?_
    obtain ⟨b3, h⟩ := h
    refine zs_iald d_X_married_83 (sh_49 g X) b3 ?_
    refine zs_bipush 6 d_X_married_84 (by decide) ?_
    refine zs_icmp_ne 94 d_X_married_86 (by decide) (fun c4 => ?_) (fun c4 => ?_)
    · replace h := h.1 c4
      refine zs_aload_n 0 d_X_married_94 rfl (List.mem_of_getElem? (i := 0) rfl) ?_
      refine zs_get d_X_married_95 gf_X_56 (sh_35 g X) rfl ?_
      refine zs_iload d_X_married_98 (List.mem_of_getElem? (i := 5) rfl) ?_
      refine zs_iald d_X_married_100 (sh_49 g X) b3 ?_
      refine zs_iast d_X_married_101 (sh_36 g X) b3 ?_
      refine zs_iinc2 5 (x5 + 1) [1, 2, 3, 4, 5, 0] [(0, .ref 35), (1, .int x1), (2, .int x2), (3, .int x3), (4, .int x4), (5, .int (x5 + 1))] d_X_married_102 rfl rfl (by decide) rfl ?_
      refine zs_goto 64 d_X_married_105 (by decide) ?_
      exact h
    · replace h := h.2 c4
      refine zs_bipush (-6) d_X_married_89 (by decide) ?_
      refine zs_goto 101 d_X_married_91 (by decide) ?_
      refine zs_iast d_X_married_101 (sh_36 g X) b3 ?_
      refine zs_iinc2 5 (x5 + 1) [1, 2, 3, 4, 5, 0] [(0, .ref 35), (1, .int x1), (2, .int x2), (3, .int x3), (4, .int x4), (5, .int (x5 + 1))] d_X_married_102 rfl rfl (by decide) rfl ?_
      refine zs_goto 64 d_X_married_105 (by decide) ?_
      exact h
theorem vT_X_married_117 (g : Nat → Option Nat) (X : List zShp) (M : zMem) (x1 x2 x3 x4 x5 x6 : Int32) (R : zEnd) (h : ((6 ≤ x6) → (((x3 ≤ x5) → (zRT m_X_married 0 0 45 [(0, .ref 35), (1, .int x1), (2, .int x2), (3, .int x3), (4, .int (x4 + 1))] [] (SHP g X) M R)) ∧ ((¬ x3 ≤ x5) → (zRT m_X_married 0 0 45 [(0, .ref 35), (1, .int x1), (2, .int x2), (3, .int x5), (4, .int (x4 + 1))] [] (SHP g X) M R)))) ∧ ((¬ 6 ≤ x6) → (((x3 ≤ x5) → (((x3 ≤ x5) → (zRT m_X_married 0 0 45 [(0, .ref 35), (1, .int x1), (2, .int x2), (3, .int x3), (4, .int (x4 + 1))] [] (SHP g X) M R)) ∧ ((¬ x3 ≤ x5) → (zRT m_X_married 0 0 45 [(0, .ref 35), (1, .int x1), (2, .int x2), (3, .int x5), (4, .int (x4 + 1))] [] (SHP g X) M R)))) ∧ ((¬ x3 ≤ x5) → ((vp_in x6 6) ∧ (zRT m_X_married 0 0 117 [(0, .ref 35), (1, .int x1), (2, .int x2), (3, .int x3), (4, .int x4), (5, .int x5), (6, .int (x6 + 1))] [] (SHP g X) (zms M 46 (Int32.toNatClampNeg x6) (M 36 (Int32.toNatClampNeg x6))) R)))))) : zRT m_X_married 0 0 117 [(0, .ref 35), (1, .int x1), (2, .int x2), (3, .int x3), (4, .int x4), (5, .int x5), (6, .int x6)] [] (SHP g X) M R := by
  refine zs_iload d_X_married_117 (List.mem_of_getElem? (i := 6) rfl) ?_
  refine zs_bipush 6 d_X_married_119 (by decide) ?_
  refine zs_icmp_ge 150 d_X_married_121 (by decide) (fun c1 => ?_) (fun c1 => ?_)
  · replace h := h.1 c1
    refine zs_iload d_X_married_150 (List.mem_of_getElem? (i := 5) rfl) ?_
    refine zs_iload_n 3 d_X_married_152 rfl (List.mem_of_getElem? (i := 3) rfl) ?_
    refine zs_icmp_ge 161 d_X_married_153 (by decide) (fun c2 => ?_) (fun c2 => ?_)
    · replace h := h.1 c2
      refine zs_iload_n 3 d_X_married_161 rfl (List.mem_of_getElem? (i := 3) rfl) ?_
      refine zs_istore_n2 3 [1, 2, 3, 0, 4, 5, 6] [(0, .ref 35), (1, .int x1), (2, .int x2), (3, .int x3), (4, .int x4), (5, .int x5), (6, .int x6)] d_X_married_162 rfl (by decide) rfl ?_
      refine zs_iinc2 4 (x4 + 1) [1, 2, 3, 4, 0, 5, 6] [(0, .ref 35), (1, .int x1), (2, .int x2), (3, .int x3), (4, .int (x4 + 1)), (5, .int x5), (6, .int x6)] d_X_married_163 rfl rfl (by decide) rfl ?_
      refine zs_goto 45 d_X_married_166 (by decide) ?_
      exact zRT_sub [0, 1, 2, 3, 4] rfl h
    · replace h := h.2 c2
      refine zs_iload d_X_married_156 (List.mem_of_getElem? (i := 5) rfl) ?_
      refine zs_goto 162 d_X_married_158 (by decide) ?_
      refine zs_istore_n2 3 [1, 2, 3, 0, 4, 5, 6] [(0, .ref 35), (1, .int x1), (2, .int x2), (3, .int x5), (4, .int x4), (5, .int x5), (6, .int x6)] d_X_married_162 rfl (by decide) rfl ?_
      refine zs_iinc2 4 (x4 + 1) [1, 2, 3, 4, 0, 5, 6] [(0, .ref 35), (1, .int x1), (2, .int x2), (3, .int x5), (4, .int (x4 + 1)), (5, .int x5), (6, .int x6)] d_X_married_163 rfl rfl (by decide) rfl ?_
      refine zs_goto 45 d_X_married_166 (by decide) ?_
      exact zRT_sub [0, 1, 2, 3, 4] rfl h
  · replace h := h.2 c1
    refine zs_iload d_X_married_124 (List.mem_of_getElem? (i := 5) rfl) ?_
    refine zs_iload_n 3 d_X_married_126 rfl (List.mem_of_getElem? (i := 3) rfl) ?_
    refine zs_icmp_ge 150 d_X_married_127 (by decide) (fun c3 => ?_) (fun c3 => ?_)
    · replace h := h.1 c3
      refine zs_iload d_X_married_150 (List.mem_of_getElem? (i := 5) rfl) ?_
      refine zs_iload_n 3 d_X_married_152 rfl (List.mem_of_getElem? (i := 3) rfl) ?_
      refine zs_icmp_ge 161 d_X_married_153 (by decide) (fun c4 => ?_) (fun c4 => ?_)
      · replace h := h.1 c4
        refine zs_iload_n 3 d_X_married_161 rfl (List.mem_of_getElem? (i := 3) rfl) ?_
        refine zs_istore_n2 3 [1, 2, 3, 0, 4, 5, 6] [(0, .ref 35), (1, .int x1), (2, .int x2), (3, .int x3), (4, .int x4), (5, .int x5), (6, .int x6)] d_X_married_162 rfl (by decide) rfl ?_
        refine zs_iinc2 4 (x4 + 1) [1, 2, 3, 4, 0, 5, 6] [(0, .ref 35), (1, .int x1), (2, .int x2), (3, .int x3), (4, .int (x4 + 1)), (5, .int x5), (6, .int x6)] d_X_married_163 rfl rfl (by decide) rfl ?_
        refine zs_goto 45 d_X_married_166 (by decide) ?_
        exact zRT_sub [0, 1, 2, 3, 4] rfl h
      · replace h := h.2 c4
        refine zs_iload d_X_married_156 (List.mem_of_getElem? (i := 5) rfl) ?_
        refine zs_goto 162 d_X_married_158 (by decide) ?_
        refine zs_istore_n2 3 [1, 2, 3, 0, 4, 5, 6] [(0, .ref 35), (1, .int x1), (2, .int x2), (3, .int x5), (4, .int x4), (5, .int x5), (6, .int x6)] d_X_married_162 rfl (by decide) rfl ?_
        refine zs_iinc2 4 (x4 + 1) [1, 2, 3, 4, 0, 5, 6] [(0, .ref 35), (1, .int x1), (2, .int x2), (3, .int x5), (4, .int (x4 + 1)), (5, .int x5), (6, .int x6)] d_X_married_163 rfl rfl (by decide) rfl ?_
        refine zs_goto 45 d_X_married_166 (by decide) ?_
        exact zRT_sub [0, 1, 2, 3, 4] rfl h
    · replace h := h.2 c3
      refine zs_aload_n 0 d_X_married_130 rfl (List.mem_of_getElem? (i := 0) rfl) ?_
      refine zs_get d_X_married_131 gf_X_47 (sh_35 g X) rfl ?_
      refine zs_iload d_X_married_134 (List.mem_of_getElem? (i := 6) rfl) ?_
      refine zs_aload_n 0 d_X_married_136 rfl (List.mem_of_getElem? (i := 0) rfl) ?_
      refine zs_get d_X_married_137 gf_X_16 (sh_35 g X) rfl ?_
      refine zs_iload d_X_married_140 (List.mem_of_getElem? (i := 6) rfl) ?_
      obtain ⟨b5, h⟩ := h
      refine zs_iald d_X_married_142 (sh_36 g X) b5 ?_
      refine zs_iast d_X_married_143 (sh_46 g X) b5 ?_
      refine zs_iinc2 6 (x6 + 1) [1, 2, 3, 4, 5, 6, 0] [(0, .ref 35), (1, .int x1), (2, .int x2), (3, .int x3), (4, .int x4), (5, .int x5), (6, .int (x6 + 1))] d_X_married_144 rfl rfl (by decide) rfl ?_
      refine zs_goto 117 d_X_married_147 (by decide) ?_
      exact h
theorem vT_X_married_172 (g : Nat → Option Nat) (X : List zShp) (M : zMem) (x1 x2 x3 x4 : Int32) (R : zEnd) (h : ((6 ≤ x4) → (((¬ x1 = (-1)) → ((((isM x1) = false) → (R (some (.int (-6))) (SHP g X) M)) ∧ (((isM x1) = true) → ((vp_in x1 6) ∧ (R (some (.int (M 46 (Int32.toNatClampNeg x1)))) (SHP g X) M))))) ∧ ((x1 = (-1)) → (R (some (.int (x3 - x2))) (SHP g X) M)))) ∧ ((¬ 6 ≤ x4) → ((vp_in x4 6) ∧ (zRT m_X_married 0 0 172 [(0, .ref 35), (1, .int x1), (2, .int x2), (3, .int x3), (4, .int (x4 + 1))] [] (SHP g X) (zms M 36 (Int32.toNatClampNeg x4) (M 48 (Int32.toNatClampNeg x4))) R)))) : zRT m_X_married 0 0 172 [(0, .ref 35), (1, .int x1), (2, .int x2), (3, .int x3), (4, .int x4)] [] (SHP g X) M R := by
  refine zs_iload d_X_married_172 (List.mem_of_getElem? (i := 4) rfl) ?_
  refine zs_bipush 6 d_X_married_174 (by decide) ?_
  refine zs_icmp_ge 199 d_X_married_176 (by decide) (fun c1 => ?_) (fun c1 => ?_)
  · replace h := h.1 c1
    refine zs_iload_n 1 d_X_married_199 rfl (List.mem_of_getElem? (i := 1) rfl) ?_
    refine zs_iconst (-1) d_X_married_200 (by decide) ?_
    refine zs_icmp_ne 210 d_X_married_201 (by decide) (fun c2 => ?_) (fun c2 => ?_)
    · replace h := h.1 c2
      refine zs_iload_n 1 d_X_married_210 rfl (List.mem_of_getElem? (i := 1) rfl) ?_
      refine zs_callS (kc := 0) (ks := 0) (kc1 := 0) (ks1 := 0) (st := []) [.int x1] d_X_married_211 lk_X_87 ⟨by decide, by decide⟩ rfl (Nat.le_of_ble_eq_true rfl) (ex_X_isMan g X M x1) (fun v3 sh3 M3 hR => ?_)
      obtain ⟨rfl, rfl, rfl⟩ := hR
      refine zs_if_eq 226 d_X_married_214 (by decide) (fun c4 => ?_) (fun c4 => ?_)
      · replace h := h.1 (bI_0 c4)
        refine zs_bipush (-6) d_X_married_226 (by decide) ?_
        exact zs_iret d_X_married_228 rfl h
      · replace h := h.2 (bI_1 c4)
        refine zs_aload_n 0 d_X_married_217 rfl (List.mem_of_getElem? (i := 0) rfl) ?_
        refine zs_get d_X_married_218 gf_X_47 (sh_35 g X) rfl ?_
        refine zs_iload_n 1 d_X_married_221 rfl (List.mem_of_getElem? (i := 1) rfl) ?_
        obtain ⟨b5, h⟩ := h
        refine zs_iald d_X_married_222 (sh_46 g X) b5 ?_
        refine zs_goto 228 d_X_married_223 (by decide) ?_
        exact zs_iret d_X_married_228 rfl h
    · replace h := h.2 c2
      refine zs_iload_n 3 d_X_married_204 rfl (List.mem_of_getElem? (i := 3) rfl) ?_
      refine zs_iload_n 2 d_X_married_205 rfl (List.mem_of_getElem? (i := 2) rfl) ?_
      refine zs_isub d_X_married_206 ?_
      refine zs_goto 228 d_X_married_207 (by decide) ?_
      exact zs_iret d_X_married_228 rfl h
  · replace h := h.2 c1
    refine zs_aload_n 0 d_X_married_179 rfl (List.mem_of_getElem? (i := 0) rfl) ?_
    refine zs_get d_X_married_180 gf_X_16 (sh_35 g X) rfl ?_
    refine zs_iload d_X_married_183 (List.mem_of_getElem? (i := 4) rfl) ?_
    refine zs_aload_n 0 d_X_married_185 rfl (List.mem_of_getElem? (i := 0) rfl) ?_
    refine zs_get d_X_married_186 gf_X_53 (sh_35 g X) rfl ?_
    refine zs_iload d_X_married_189 (List.mem_of_getElem? (i := 4) rfl) ?_
    obtain ⟨b6, h⟩ := h
    refine zs_iald d_X_married_191 (sh_48 g X) b6 ?_
    refine zs_iast d_X_married_192 (sh_36 g X) b6 ?_
    refine zs_iinc2 4 (x4 + 1) [1, 2, 3, 4, 0] [(0, .ref 35), (1, .int x1), (2, .int x2), (3, .int x3), (4, .int (x4 + 1))] d_X_married_193 rfl rfl (by decide) rfl ?_
    refine zs_goto 172 d_X_married_196 (by decide) ?_
    exact h
set_option maxHeartbeats 4000000 in
theorem ex3_X_married (F : zTS) (Mc : zMem) (hcm : cM F Mc M) (hh : mK M) (S f : Nat) (Q : Nat → Nat) (hb : best1 F Mc S f Q) (i : Int32) : zEx m_X_married 0 0 [.ref 35, .int i] (SHP g X) M (qR g X (fun r M2 => mAg M M2 ∧ r = if i = -1 then nI f else if isM i = true then nI (Q (Int32.toNatClampNeg i)) else -6)) := by
  have hw := hcm.1
  have htr := hcm.2.1
  have hQ := hb.2.1
  have eB := full_B hw hb.1 Mc hQ
  rw [hb.2.2.1] at eB
  obtain ⟨cQ, dQ⟩ := cdQ_d (q := Q) (fun j hj => by have := (hQ j hj).1; omega)
  have l0 := allB_le hw htr (p0 F)
  have lQ := allB_le hw htr Q
  have kk : ∀ M1, mIw M M1 → mK M1 := fun M1 h => mK_e (h.1 35 (by decide)) (h.1 38 (by decide)) hh
  have k48 : ∀ M1, mIw M M1 → ∀ j, j < 6 → M1 48 j = fP F j := fun M1 h j hj => by rw [h.2.2 j hj]; exact hcm.2.2.2.2.2.1 j hj
  have ab : ∀ M1 p, mIw M M1 → M1 41 = (mTo M) 41 → rowP M1 p → isP p → abH F Mc M1 p := fun M1 p h h41 hr hp => by
    have e35 : M1 35 = M 35 := h.1 35 (by decide)
    have e38 : M1 38 = M 38 := h.1 38 (by decide)
    obtain ⟨m1, m2, m3, m4, m5, m6, m7, m8, m9⟩ := hcm.2.2
    exact ⟨hw, htr, ⟨by rw [e35]; exact m5, by rw [e35]; exact m7, by rw [e35]; exact m8⟩, by rw [e38]; exact m1, fun t ht => by rw [h41]; exact m41_to hcm t ht, hr, hp⟩
  have L5 : ∀ d k M1, k + d = 6 → mIw M M1 → (∀ j, j < 6 → M1 46 j = nI (Q j)) → (∀ j, j < k → M1 36 j = M 36 j) → zRT m_X_married 0 0 172 [(0, .ref 35), (1, .int i), (2, .int (nI (allB Mc (tN F) (p0 F)))), (3, .int (nI (allB Mc (tN F) Q))), (4, .int (nI k))] [] (SHP g X) M1 (qR g X (fun r M2 => mAg M M2 ∧ r = if i = -1 then nI f else if isM i = true then nI (Q (Int32.toNatClampNeg i)) else -6)) := by
    intro d
    induction d with
    | zero =>
      intro k M1 hk hv hbb hq
      have ha : mAg M M1 := by
        intro p hp2
        by_cases q : p = 36
        · rw [q]
          funext j
          rcases Nat.lt_or_ge j 6 with r | r
          · exact hq j (by omega)
          · exact hv.2.1 j r
        · refine hv.1 p ?_
          simp only [List.mem_cons, List.not_mem_nil, or_false] at hp2 ⊢
          omega
      refine vT_X_married_172 g X _ _ _ _ _ _ ⟨fun _ => ⟨fun h => ⟨fun h2 => qR_i ⟨ha, ?_⟩, fun h2 => ⟨isM_in h2, qR_i ⟨ha, ?_⟩⟩⟩, fun h => qR_i ⟨ha, ?_⟩⟩, fun h => absurd (nI_le (a := 6) (by omega) (by omega)) h⟩
      · rw [if_neg h, if_neg (by rw [h2]; decide)]
      · rw [if_neg h, if_pos h2]
        exact hbb _ (isM_n h2).1
      · rw [if_pos h, pk_sub (by omega)]
        congr 1
        omega
    | succ d ih =>
      intro k M1 hk hv hbb hq
      refine vT_X_married_172 g X _ _ _ _ _ _ ⟨fun h => absurd h (nI_ge (b := 6) (by omega) (by omega)), fun _ => ⟨vp_in_nI (by omega) (by decide), ?_⟩⟩
      rw [nI_1, nI_clamp (n := k) (by omega), hv.2.2 k (by omega)]
      refine ih (k + 1) _ (by omega) (hv.s6 (by omega)) ?_ (fun j hj => ?_)
      · rw [zms_ne _ _ _ _ 46 (by decide)]; exact hbb
      · rw [zms_at]
        by_cases q : j = k
        · rw [if_pos q, q]
        · rw [if_neg q]; exact hq j (by omega)
  -- what is held at the head of the codes
  have L2 : ∀ d k M1 (x3 : Int32), k + d = 117649 → mIw M M1 → M1 41 = (mTo M) 41 → ((k ≤ cdQ Q ∧ ∃ v : Nat, allB Mc (tN F) Q < v ∧ v ≤ 1000000 ∧ x3 = nI v) ∨ (cdQ Q < k ∧ x3 = nI (allB Mc (tN F) Q) ∧ ∀ j, j < 6 → M1 46 j = nI (Q j))) → zRT m_X_married 0 0 45 [(0, .ref 35), (1, .int i), (2, .int (nI (allB Mc (tN F) (p0 F)))), (3, .int x3), (4, .int (nI k))] [] (SHP g X) M1 (qR g X (fun r M2 => mAg M M2 ∧ r = if i = -1 then nI f else if isM i = true then nI (Q (Int32.toNatClampNeg i)) else -6)) := by
    intro d
    induction d with
    | zero =>
      intro k M1 x3 hk hv h41 hq
      rcases hq with ⟨q1, q2⟩ | ⟨q1, q2, q3⟩
      · omega
      · subst q2
        exact vT_X_married_45 g X _ _ _ _ _ _ ⟨fun _ => L5 6 0 M1 rfl hv q3 (fun j hj => absurd hj (by omega)), fun h => absurd (nI_le (a := 117649) (by omega) (by omega)) h⟩
    | succ d ih =>
      intro k M1 x3 hk hv h41 hq
      refine vT_X_married_45 g X _ _ _ _ _ _ ⟨fun h => absurd h (nI_ge (b := 117649) (by omega) (by omega)), fun _ => ⟨⟨k, by omega, rfl⟩, fun r M2 h2 => ?_⟩⟩
      obtain ⟨a2, -, h2⟩ := h2
      obtain ⟨d1, d2⟩ := h2 k (by omega) rfl
      rw [pOk_full hw (k48 M1 hv)] at d2
      have hv2 := hv.ag a2 (fun p hp => Or.inr (List.mem_singleton.mp hp))
      have e46 : M2 46 = M1 46 := a2 46 (by decide)
      have e41 : M2 41 = (mTo M) 41 := (a2 41 (by decide)).trans h41
      refine ⟨fun r0 => ?_, fun r0 => ?_⟩
      · rw [nI_1]
        refine ih (k + 1) M2 x3 (by omega) hv2 e41 ?_
        rcases hq with ⟨q1, q2⟩ | ⟨q1, q2, q3⟩
        · refine Or.inl ⟨?_, q2⟩
          by_cases e : k = cdQ Q
          · exfalso
            refine (d2.mpr ?_) r0
            intro j hj
            obtain ⟨a1, a2, a3, a4⟩ := hQ j hj
            rw [e, dQ j hj, dQ _ a1]
            exact ⟨a1, a2, a3, a4⟩
          · omega
        · exact Or.inr ⟨by omega, q2, by rw [e46]; exact q3⟩
      · have ok := d2.mp r0
        obtain ⟨b1, b2⟩ := best_c hw hb (by omega) ok
        have lk := allB_le hw htr (d7 k)
        have kP := full_P ok
        -- the best is written down
        have L4 : ∀ d l M3, l + d = 6 → mIw M M3 → M3 41 = (mTo M) 41 → (∀ j, j < 6 → M3 36 j = nI (d7 k j)) → (x3 ≤ nI (allB Mc (tN F) (d7 k)) → ∀ j, j < 6 → M3 46 j = M1 46 j) → (¬ x3 ≤ nI (allB Mc (tN F) (d7 k)) → ∀ j, j < l → M3 46 j = M3 36 j) → zRT m_X_married 0 0 117 [(0, .ref 35), (1, .int i), (2, .int (nI (allB Mc (tN F) (p0 F)))), (3, .int x3), (4, .int (nI k)), (5, .int (nI (allB Mc (tN F) (d7 k)))), (6, .int (nI l))] [] (SHP g X) M3 (qR g X (fun r M2 => mAg M M2 ∧ r = if i = -1 then nI f else if isM i = true then nI (Q (Int32.toNatClampNeg i)) else -6)) := by
          intro d
          have keepk : ∀ M3, mIw M M3 → M3 41 = (mTo M) 41 → x3 ≤ nI (allB Mc (tN F) (d7 k)) → (∀ j, j < 6 → M3 46 j = M1 46 j) → zRT m_X_married 0 0 45 [(0, .ref 35), (1, .int i), (2, .int (nI (allB Mc (tN F) (p0 F)))), (3, .int x3), (4, .int (nI k + 1))] [] (SHP g X) M3 (qR g X (fun r M2 => mAg M M2 ∧ r = if i = -1 then nI f else if isM i = true then nI (Q (Int32.toNatClampNeg i)) else -6)) := by
            intro M3 hv3 e3 hle h46
            rw [nI_1]
            refine ih (k + 1) M3 x3 (by omega) hv3 e3 ?_
            rcases hq with ⟨q1, v, v1, v2, v3⟩ | ⟨q1, q2, q3⟩
            · refine Or.inl ⟨?_, v, v1, v2, v3⟩
              by_cases e : k = cdQ Q
              · exfalso
                rw [v3, nI_leI (by omega) (by omega)] at hle
                have : allB Mc (tN F) (d7 k) = allB Mc (tN F) Q := by
                  rw [e]
                  unfold allB
                  congr 1
                  exact nsum_cg 6 (fun j hj => by rw [dQ j hj])
                omega
              · omega
            · exact Or.inr ⟨by omega, q2, fun j hj => by rw [h46 j hj]; exact q3 j hj⟩
          induction d with
          | zero =>
            intro l M3 hl hv3 e3 h36 hb0 hb1
            have e6 : l = 6 := by omega
            subst e6
            refine vT_X_married_117 g X _ _ _ _ _ _ _ _ ⟨fun _ => ⟨fun h => keepk M3 hv3 e3 h (hb0 h), fun h => ?_⟩, fun h => absurd (nI_le (a := 6) (by omega) (by omega)) h⟩
            rw [nI_1]
            refine ih (k + 1) M3 _ (by omega) hv3 e3 ?_
            rcases hq with ⟨q1, v, v1, v2, v3⟩ | ⟨q1, q2, q3⟩
            · by_cases e : k = cdQ Q
              · refine Or.inr ⟨by omega, ?_, fun j hj => ?_⟩
                · congr 1
                  rw [e]
                  unfold allB
                  congr 1
                  exact nsum_cg 6 (fun j hj => by rw [dQ j hj])
                · rw [hb1 h j hj, h36 j hj, e, dQ j hj]
              · exact Or.inl ⟨by omega, _, b2 (by omega), by omega, rfl⟩
            · exfalso
              rw [q2] at h
              exact h (nI_le b1 (by omega))
          | succ d ihl =>
            intro l M3 hl hv3 e3 h36 hb0 hb1
            refine vT_X_married_117 g X _ _ _ _ _ _ _ _ ⟨fun h => absurd h (nI_ge (b := 6) (by omega) (by omega)), fun _ => ?_⟩
            rw [nI_1 l, nI_clamp (n := l) (by omega)]
            refine ⟨fun h => ⟨fun _ => keepk M3 hv3 e3 h (hb0 h), fun h2 => absurd h h2⟩, fun h => ⟨vp_in_nI (by omega) (by decide), ihl (l + 1) _ (by omega) (hv3.st (by decide)) ?_ ?_ (fun z => absurd z h) (fun _ j hj => ?_)⟩⟩
            · rw [zms_ne _ _ _ _ 41 (by decide)]; exact e3
            · rw [zms_ne _ _ _ _ 36 (by decide)]; exact h36
            · rw [zms_at, zms_ne _ _ _ _ 36 (by decide)]
              by_cases q : j = l
              · rw [if_pos q, q]
              · rw [if_neg q]; exact hb1 h j (by omega)
        have L3 : ∀ d l M3, l + d = 6 → mIw M M3 → M3 41 = (mTo M) 41 → (∀ j, j < 6 → M3 49 j = nI (d7 k j)) → M3 46 = M1 46 → (∀ j, j < l → M3 36 j = nI (d7 k j)) → zRT m_X_married 0 0 64 [(0, .ref 35), (1, .int i), (2, .int (nI (allB Mc (tN F) (p0 F)))), (3, .int x3), (4, .int (nI k)), (5, .int (nI l))] [] (SHP g X) M3 (qR g X (fun r M2 => mAg M M2 ∧ r = if i = -1 then nI f else if isM i = true then nI (Q (Int32.toNatClampNeg i)) else -6)) := by
          intro d
          induction d with
          | zero =>
            intro l M3 hl hv3 e3 h49 h46 h36
            have e6 : l = 6 := by omega
            subst e6
            refine vT_X_married_64 g X _ _ _ _ _ _ _ ⟨fun _ => ⟨kk M3 hv3, fun r M4 h4 => ?_⟩, fun h => absurd (nI_le (a := 6) (by omega) (by omega)) h⟩
            have er := h4.2 F Mc (d7 k) (ab M3 (d7 k) hv3 e3 (fun j hj => Or.inl ⟨(ok j hj).1, h36 j hj⟩) kP)
            subst er
            have hv4 := hv3.ag h4.1 (fun p hp => Or.inl (List.mem_singleton.mp hp))
            refine L4 6 0 M4 rfl hv4 ((h4.1 41 (by decide)).trans e3) ?_ (fun _ j hj => ?_) (fun _ j hj => absurd hj (Nat.not_lt_zero j))
            · rw [h4.1 36 (by decide)]; exact h36
            · rw [h4.1 46 (by decide), h46]
          | succ d ihl =>
            intro l M3 hl hv3 e3 h49 h46 h36
            have l6 : l < 6 := by omega
            refine vT_X_married_64 g X _ _ _ _ _ _ _ ⟨fun h => absurd h (nI_ge (b := 6) (by omega) (by omega)), fun _ => ⟨vp_in_nI (by omega) (by decide), ?_⟩⟩
            rw [nI_1 l, nI_clamp (n := l) (by omega), h49 l l6]
            have o6 := (ok l l6).1
            refine ⟨fun h => ihl (l + 1) _ (by omega) (hv3.s6 l6) ?_ ?_ ?_ (fun j hj => ?_), fun h => absurd ((nI_eq (b := 6) (by omega) (by decide)).mp h) (by omega)⟩
            · rw [zms_ne _ _ _ _ 41 (by decide)]; exact e3
            · rw [zms_ne _ _ _ _ 49 (by decide)]; exact h49
            · rw [zms_ne _ _ _ _ 46 (by decide)]; exact h46
            · rw [zms_at]
              by_cases q : j = l
              · rw [if_pos q, q]
              · rw [if_neg q]; exact h36 j (by omega)
        exact L3 6 0 M2 rfl hv2 e41 d1 e46 (fun j hj => absurd hj (Nat.not_lt_zero j))
  have L1 : ∀ d k M1, k + d = 6 → mAg M M1 → M1 41 = (mTo M) 41 → (∀ j, j < k → M1 48 j = M 36 j) → zRT m_X_married 0 0 15 [(0, .ref 35), (1, .int i), (2, .int (nI (allB Mc (tN F) (p0 F)))), (3, .int 1000000), (4, .int (nI k))] [] (SHP g X) M1 (qR g X (fun r M2 => mAg M M2 ∧ r = if i = -1 then nI f else if isM i = true then nI (Q (Int32.toNatClampNeg i)) else -6)) := by
    intro d
    induction d with
    | zero =>
      intro k M1 hk ha h41 hq
      refine vT_X_married_15 g X _ _ _ _ _ _ ⟨fun _ => L2 117649 0 M1 1000000 (by omega) ⟨fun p hp2 => ha p ?_, fun j _ => by rw [ha.e36], fun j hj => hq j (by omega)⟩ h41 (Or.inl ⟨Nat.zero_le _, 1000000, by omega, Nat.le_refl _, rfl⟩), fun h => absurd (nI_le (a := 6) (by omega) (by omega)) h⟩
      simp only [List.mem_cons, List.not_mem_nil, or_false] at hp2 ⊢
      omega
    | succ d ih =>
      intro k M1 hk ha h41 hq
      refine vT_X_married_15 g X _ _ _ _ _ _ ⟨fun h => absurd h (nI_ge (b := 6) (by omega) (by omega)), fun _ => ⟨vp_in_nI (by omega) (by decide), ?_⟩⟩
      rw [nI_1, nI_clamp (n := k) (by omega), ha.e36]
      refine ih (k + 1) _ (by omega) (ha.st (by decide)) ?_ (fun j hj => ?_)
      · rw [zms_ne _ _ _ _ 41 (by decide)]; exact h41
      · rw [zms_at]
        by_cases q : j = k
        · rw [if_pos q, q]
        · rw [if_neg q]; exact hq j (by omega)
  have h1 : mAg M (mTo M) := mAg.rf.mt
  have rp : rowP (mTo M) (p0 F) := fun j hj => by
    rw [h1.e36, hcm.2.2.2.2.2.1 j hj]
    rcases p0_f hw hj with ⟨q1, q2⟩ | ⟨q1, q2, _⟩
    · exact Or.inr ⟨by omega, q1⟩
    · exact Or.inl ⟨q1, q2⟩
  have ab0 : abH F Mc (mTo M) (p0 F) := by
    obtain ⟨m1, m2, m3, m4, m5, m6, m7, m8, m9⟩ := hcm.2.2
    exact ⟨hw, htr, ⟨by rw [h1.e35]; exact m5, by rw [h1.e35]; exact m7, by rw [h1.e35]; exact m8⟩, by rw [h1.e38]; exact m1, m41_to hcm, rp, p0_P hw⟩
  refine zEx_of _ (by decide) (by simp [Value.category]) (Nat.le_of_ble_eq_true rfl) rfl (vT_X_married_0 g X M i _ ⟨hh.1, h1.mk hh, fun r M2 h2 => ?_⟩)
  have er := h2.2 F Mc (p0 F) ab0
  subst er
  refine L1 6 0 M2 rfl (h1.tr (mAg_42 h2.1)) (h2.1 41 (by decide)) (fun j hj => absurd hj (by omega))
end zK1
