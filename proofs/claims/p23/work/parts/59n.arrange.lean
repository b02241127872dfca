/-! marriages: the class -/
theorem me_z : ∀ j, j < 6 → me 0 j = false := by decide
theorem kArr_v {F : zTS} {M : zMem} (hw : kWF F) (ht : kTR M 10 F) (h33 : M 33 0 = 0) : ∃ S f Q, best1 F M S f Q ∧ (kArr M).1 = nI f ∧ ∀ j, j < 6 → (kArr M).2 34 j = nI (Q j) := by
  have L : ∀ n k (x : Int32) (K : zMem), k + n = 6 → (∀ p, p ≠ 32 → p ≠ 34 → K p = M p) → (∀ j, j < k → K 32 j = kTnt M (nI j) ∧ K 34 j = M 17 j) → x = kOr (fun j => if M 17 j = -6 then (1 : Int32) <<< (nI j &&& 31) else 0) k → ∃ K2 : zMem, (∀ p, p ≠ 32 → p ≠ 34 → K2 p = M p) ∧ (∀ j, j < 6 → K2 32 j = kTnt M (nI j) ∧ K2 34 j = M 17 j) ∧ kArn k n x K = kArn 6 0 (kOr (fun j => if M 17 j = -6 then (1 : Int32) <<< (nI j &&& 31) else 0) 6) K2 := by
    intro n
    induction n with
    | zero =>
      intro k x K hk a1 a2 ax
      have e : k = 6 := by omega
      subst e
      exact ⟨K, a1, a2, by rw [ax]⟩
    | succ n ih =>
      intro k x K hk a1 a2 ax
      unfold kArn
      have et : kTnt K = kTnt M := kTnt_congr (fun p h1 h2 => a1 p (by omega) (by omega))
      have e17 : K 17 = M 17 := a1 17 (by decide) (by decide)
      rw [et, e17]
      refine ih (k + 1) _ _ (by omega) (fun p h1 h2 => ?_) (fun j hj => ?_) ?_
      · rw [zms_ne _ _ _ _ p h2, zms_ne _ _ _ _ p h1]; exact a1 p h1 h2
      · rw [zms_ne _ _ _ _ 32 (by decide), zms_at, zms_at, zms_ne _ _ _ _ 34 (by decide)]
        by_cases q : j = k
        · rw [if_pos q, if_pos q, q]; exact ⟨rfl, rfl⟩
        · rw [if_neg q, if_neg q]; exact a2 j (by omega)
      · rw [ax]
        generalize hy : kOr (fun j => if M 17 j = -6 then (1 : Int32) <<< (nI j &&& 31) else 0) k = y
        have e1 : kOr (fun j => if M 17 j = -6 then (1 : Int32) <<< (nI j &&& 31) else 0) (k + 1) = y ||| (if M 17 k = -6 then (1 : Int32) <<< (nI k &&& 31) else 0) := by
          rw [← hy]; rfl
        rw [e1]
        by_cases c : M 17 k = -6
        · rw [if_pos c, if_pos c]
        · rw [if_neg c, if_neg c]
          exact (Int32.or_zero).symm
  obtain ⟨K, k1, k2, k3⟩ := L 6 0 0 M rfl (fun _ _ _ => rfl) (fun j hj => absurd hj (Nat.not_lt_zero j)) rfl
  have e17 : ∀ j, j < 6 → M 17 j = fP F j := fun j hj => ht.2.2.2.2.2.1 j hj
  have sb : ∀ i, bt (kOr (fun j => if M 17 j = -6 then (1 : Int32) <<< (nI j &&& 31) else 0) 6) i = true ↔ (i < 6 ∧ M 17 i = -6) := by
    intro i
    rw [kOr_bt]
    constructor
    · rintro ⟨k, hk, h⟩
      by_cases c : M 17 k = -6
      · rw [if_pos c, b_one_m hk] at h
        subst h; exact ⟨hk, c⟩
      · rw [if_neg c, b_0] at h; cases h
    · rintro ⟨hi, c⟩
      exact ⟨i, hi, by rw [if_pos c, b_one_m hi]⟩
  obtain ⟨S, hS, eS⟩ := b_set (fun i hi => ((sb i).mp hi).1)
  have sg : sgl F S := by
    refine ⟨hS, fun j hj => ?_⟩
    show bt (nI S) j = true ↔ _
    rw [← eS, sb j, e17 j hj]
    exact ⟨fun z => z.2, fun z => ⟨hj, z⟩⟩
  have evS := sgl_ev hw sg
  have e0 : kArr M = kArn 0 6 0 M := rfl
  rw [eS] at k3
  -- the sums
  have hD1 : kD K (wT M (tN F)) S 1 := by
    refine ⟨fun a ha b hb => ?_, ?_, fun s hs h64 he hsub => ?_⟩
    · rw [(k2 a ha).1, (k2 b hb).1]; exact wT_bc hw ht ha hb
    · rw [k1 33 (by decide) (by decide)]; exact h33
    · have s0 : s = 0 := by omega
      subst s0
      have z : K 33 0 = 0 := by rw [k1 33 (by decide) (by decide)]; exact h33
      have zf : fK K 0 = 0 := by unfold fK; rw [z]; rfl
      refine ⟨by rw [z, zf]; rfl, by omega, fun a ha => ?_⟩
      have := ha.2.1
      rw [me_z a ha.1] at this; cases this
  obtain ⟨d1, d2⟩ := kD_run hS S 1 K (by omega) (by omega) hD1
  have eSU : kSU K (nI S) = kSUn (nI S) 1 S K := by
    unfold kSU
    rw [nI_clamp (by omega)]
  generalize hKS : kSUn (nI S) 1 S K = KS at d1 d2 eSU
  rw [show 1 + S = S + 1 by omega] at d1
  have dpS := kD_dp hS d1
  have s2 : kS2 KS (wT M (tN F)) (fK KS) S 64 := by
    refine ⟨fun a ha b hb => ⟨(d1.1 a ha b hb).1, by have := (d1.1 a ha b hb).2; omega⟩, fun s _ h64 he hsub => ?_⟩
    have q := sub_le s h64 S hS
    rw [sbs_i.mpr hsub] at q
    simp only [Bool.not_true, Bool.false_or, decide_eq_true_iff] at q
    obtain ⟨r1, r2, -⟩ := d1.2.2 s (by omega) h64 he hsub
    exact ⟨r1, by omega⟩
  obtain ⟨q, q1, q2, q3, q4, q5⟩ := kCh_v dpS 6 0 S KS rfl hS evS (fun _ _ h => h) (fun j hj => absurd hj (Nat.not_lt_zero j)) s2
  have eCh : kCh KS (nI S) = kChn 0 6 (nI S) KS := rfl
  generalize hKC : kChn 0 6 (nI S) KS = KC at q2 q3 eCh
  have r1 : (kArr M).1 = nI (fK KS S) ∧ (kArr M).2 = KC := by
    rw [e0, k3, kArn_z, eSU, eCh]
    refine ⟨?_, rfl⟩
    show KC 33 (Int32.toNatClampNeg (nI S)) = _
    rw [nI_clamp (by omega), q3 33 (by decide)]
    exact (s2.2 S hS hS evS (fun _ _ h => h)).1
  let Q : Nat → Nat := fun j => if me S j = true then q j else p0 F j
  have Qs : ∀ j, me S j = true → Q j = q j := fun j h => if_pos h
  have Qn : ∀ j, ¬ me S j = true → Q j = p0 F j := fun j h => if_neg h
  have fQ : full F Q := by
    intro j hj
    by_cases c : me S j = true
    · obtain ⟨a1, a2, a3, a4⟩ := q1 j hj c
      rw [Qs j c, Qs _ a2]
      exact ⟨a1, a3, a4, Or.inl ((sg.2 j hj).mp c)⟩
    · rcases p0_f hw hj with ⟨z, _⟩ | ⟨z1, z2, z3, z4, z5⟩
      · exact absurd ((sg.2 j hj).mpr z) c
      · have c2 : ¬ me S (p0 F j) = true := fun z => by
          have := (sg.2 _ z1).mp z
          rw [this] at z4
          exact nI_ne6 (by omega) z4.symm
        rw [Qn j c, Qn _ c2]
        exact ⟨z1, z3, z5, Or.inr rfl⟩
  refine ⟨S, fK KS S, Q, ⟨sg, fQ, ?_, fun p hp => dp_le dpS p _ S (Nat.le_refl _) hS (fun _ _ h => h) evS hp, fun p hp hle => ?_⟩, r1.1, fun j hj => ?_⟩
  · rw [← q4]
    refine nsum_cg 6 (fun j hj => ?_)
    by_cases c : me S j = true
    · rw [Qs j c]
    · rw [if_neg (fun z => c z.1), if_neg (fun z => c z.1)]
  · rcases q5 p hp hle with z | ⟨m, z1, z2, z3, z4⟩
    · exact Or.inl (fun j hj hm => by rw [Qs j hm]; exact z j hj hm)
    · exact Or.inr ⟨m, z1, z2, by rw [Qs m z2]; exact z3, fun j hj hm => by rw [Qs j hm]; exact z4 j hj hm⟩
  · rw [r1.2, q2 j hj]
    by_cases c : me S j = true
    · rw [if_pos c, Qs j c]
    · rw [if_neg c, Qn j c, d2 34 (by decide), (k2 j hj).2, e17 j hj]
      rcases p0_f hw hj with ⟨z, _⟩ | ⟨z1, z2, _⟩
      · exact absurd ((sg.2 j hj).mpr z) c
      · exact z2
section zM1
variable {n : Nat} {P : Nat → Int32} {F : zTS} {I : Nat → Option zTS} {M : zMem} {g : Nat → Option Nat} {X : List zShp}
theorem pr_married (hok : kOk n P F I M g X) (i : Int32) : kPr kEi 1 m_O_married m_X_married [.int i] M g X := by
  obtain ⟨S, f, Q, hb, a1, a2⟩ := kArr_v hok.1.2.2.1 hok.1.2.2.2.1.2.2.1 hok.2
  have ev : kv_married M i = if i = -1 then nI f else if isM i = true then nI (Q (Int32.toNatClampNeg i)) else -6 := by
    unfold kv_married
    by_cases c : i = -1
    · rw [if_pos c, if_pos c]; exact a1
    · rw [if_neg c, if_neg c]
      by_cases c2 : isM i = true
      · rw [if_pos c2, if_pos c2]; exact a2 _ (isM_n c2).1
      · rw [if_neg c2, if_neg c2]
  exact kPr_ea (V := if i = -1 then nI f else if isM i = true then nI (Q (Int32.toNatClampNeg i)) else -6) hok (zEx_mono (ex_O_married g X M i ⟨kCJ_cnt hok.1.2.2.1 hok.1.2.2.2.1, kCJ_dpt hok.1.2.2.1 hok.1.2.2.2.1⟩) (qR_w (fun r M1 h => ⟨by rw [h.1]; exact ev, h.2⟩))) (fun M1 h hc => ex3_X_married g X M1 F M hc (kMF_mK hok.1.2.2.1 h.2.2.1) S f Q hb i)
end zM1
