/-! makers: the reference answers as the class does -/
theorem b_63 : ∀ i, i < 32 → bt 63 i = decide (i < 6) := by decide +kernel
theorem b_not (x : Int32) {i : Nat} (hi : i < 32) : bt (x ^^^ (-1)) i = !bt x i := by
  rw [b_xor, b_m1 i hi]
  cases bt x i <;> rfl
theorem b_set {y : Int32} (h : ∀ i, bt y i = true → i < 6) : ∃ s, s < 64 ∧ y = nI s := by
  obtain ⟨j, hj, e⟩ := pk_andE y (m := 63) 6 rfl
  refine ⟨j, hj, ?_⟩
  rw [← e]
  refine b_ext (fun i hi => ?_)
  rw [b_and, b_63 i hi]
  cases c : bt y i with
  | false => rfl
  | true => simp [h i c]
theorem b_setb : ∀ s, s < 64 → ∀ i, i < 32 → (bt (nI s) i = true → i < 6) := by decide +kernel
theorem b_seti {s i : Nat} (hs : s < 64) (h : bt (nI s) i = true) : i < 6 := by
  by_cases hi : i < 32
  · exact b_setb s hs i hi h
  · rw [b_big (by omega)] at h; cases h
theorem bc_sm : ∀ s, s < 64 → bc (nI s) = kSm (fun m => if bt (nI s) m = true then (1 : Int32) else 0) 6 := by decide +kernel
theorem kSm_mul (c : Int32) (f : Nat → Bool) : ∀ n, c * kSm (fun m => if f m = true then (1 : Int32) else 0) n = kSm (fun m => if f m = true then c else 0) n
  | 0 => Int32.mul_zero
  | n + 1 => by
    show c * (kSm _ n + (if f n = true then (1 : Int32) else 0)) = kSm _ n + (if f n = true then c else 0)
    rw [Int32.mul_add, kSm_mul c f n]
    by_cases h : f n = true
    · rw [if_pos h, if_pos h, Int32.mul_one]
    · rw [if_neg h, if_neg h, Int32.mul_zero]
section zT1
variable {F : zTS} {Mc M : zMem}
theorem kCpl_sym (hw : kWF F) (ht : kTR Mc 10 F) {m k : Nat} (hm : m < 6) (hk : k < 6) : bt (kCpl Mc (nI m)) k = true ↔ bt (kCpl Mc (nI k)) m = true := by
  rw [kCpl_bt hw ht hm (by omega), kCpl_bt hw ht hk (by omega)]
  have one : ∀ m k, m < 6 → k < 6 → fP F m = nI k → fP F k = nI m := by
    intro m k hm hk h
    rcases hw.2.2.2.2.2.1 m hm with h6 | ⟨a, a6, -, h3, h4⟩
    · exact absurd (h.symm.trans h6) (nI_ne6 (by omega))
    · have e : k = a := (nI_eq (by omega) (by omega)).mp (h.symm.trans h3)
      subst e; exact h4
  constructor
  · rintro (h | h)
    · exact Or.inl h.symm
    · exact Or.inr (one m k hm hk h)
  · rintro (h | h)
    · exact Or.inl h.symm
    · exact Or.inr (one k m hk hm h)
theorem kBfn_bt (e : Int32) {i : Nat} (hi : i < 32) : ∀ n, bt (kBfn Mc e n) i = true ↔ (i < 6 ∧ ∀ k, k < n → hb e (nI k) = true → bt (kCpl Mc (nI k)) i = true)
  | 0 => by
    show bt 63 i = true ↔ _
    rw [b_63 i hi, decide_eq_true_iff]
    exact ⟨fun h => ⟨h, fun k h2 => absurd h2 (Nat.not_lt_zero k)⟩, fun h => h.1⟩
  | n + 1 => by
    show bt (if hb e (nI n) = true then kBfn Mc e n &&& kCpl Mc (nI n) else kBfn Mc e n) i = true ↔ _
    by_cases c : hb e (nI n) = true
    · rw [if_pos c, b_and, Bool.and_eq_true, kBfn_bt e hi n]
      constructor
      · rintro ⟨⟨h1, h2⟩, h3⟩
        refine ⟨h1, fun k hk hb => ?_⟩
        by_cases ek : k = n
        · subst ek; exact h3
        · exact h2 k (by omega) hb
      · rintro ⟨h1, h2⟩
        exact ⟨⟨h1, fun k hk => h2 k (by omega)⟩, h2 n (by omega) c⟩
    · rw [if_neg c, kBfn_bt e hi n]
      constructor
      · rintro ⟨h1, h2⟩
        refine ⟨h1, fun k hk hb => ?_⟩
        by_cases ek : k = n
        · subst ek; exact absurd hb c
        · exact h2 k (by omega) hb
      · rintro ⟨h1, h2⟩
        exact ⟨h1, fun k hk => h2 k (by omega)⟩
/-- some eater of s is neither m nor his partner -/
theorem kBfe_m (hw : kWF F) (ht : kTR Mc 10 F) {s m : Nat} (hm : m < 6) : bt (kBfe Mc (nI s)) m = true ↔ ∀ k, k < 6 → bt (nI s) k = true → bt (kCpl Mc (nI m)) k = true := by
  unfold kBfe
  rw [kBfn_bt _ (by omega)]
  constructor
  · rintro ⟨-, h⟩ k hk hb
    exact (kCpl_sym hw ht hm hk).mpr (h k hk (by rw [hb_bt (by omega)]; exact hb))
  · intro h
    exact ⟨hm, fun k hk hb => (kCpl_sym hw ht hm hk).mp (h k hk (by rw [hb_bt (by omega)] at hb; exact hb))⟩
theorem oth_0 (hw : kWF F) (ht : kTR Mc 10 F) {s m : Nat} (hs : s < 64) (hm : m < 6) {q : Int32} (hq : ∀ i, i < 32 → (bt q i = true ↔ fP F m = nI i)) : ((nI s &&& (((1 : Int32) <<< (nI m &&& 31)) ^^^ (-1))) &&& (q ^^^ (-1)) = 0) ↔ bt (kBfe Mc (nI s)) m = true := by
  rw [kBfe_m hw ht hm]
  have key : ∀ i, i < 32 → (bt ((nI s &&& (((1 : Int32) <<< (nI m &&& 31)) ^^^ (-1))) &&& (q ^^^ (-1))) i = true ↔ bt (nI s) i = true ∧ ¬ bt (kCpl Mc (nI m)) i = true) := by
    intro i hi
    rw [b_and, b_and, b_not _ hi, b_not _ hi, b_1shl (by omega) hi, kCpl_bt hw ht hm hi, ← hq i hi]
    cases bt (nI s) i <;> cases bt q i <;> by_cases e : i = m <;> simp [e]
  constructor
  · intro h k hk hb
    by_cases c : bt (kCpl Mc (nI m)) k = true
    · exact c
    · have := (key k (by omega)).mpr ⟨hb, c⟩
      rw [h, b_0] at this
      cases this
  · intro h
    refine b_ext (fun i hi => ?_)
    rw [b_0]
    cases c : bt ((nI s &&& (((1 : Int32) <<< (nI m &&& 31)) ^^^ (-1))) &&& (q ^^^ (-1))) i with
    | false => rfl
    | true =>
      obtain ⟨c1, c2⟩ := (key i hi).mp c
      exact absurd (h i (b_seti hs c1) c1) c2
/-- the loaves of the makers that may feed the set s -/
theorem feed_sum (c : Int32) {a s : Nat} (ha : a < 64) : c * bc (nI a &&& (kBfe Mc (nI s) ^^^ (-1))) = kSm (fun m => if (bt (nI a) m && !bt (kBfe Mc (nI s)) m) = true then c else 0) 6 := by
  obtain ⟨h, hh, e⟩ := b_set (y := nI a &&& (kBfe Mc (nI s) ^^^ (-1))) (fun i hi => by
    rw [b_and, Bool.and_eq_true] at hi
    exact b_seti ha hi.1)
  rw [e, bc_sm h hh, kSm_mul, ← e]
  refine kSm_cg 6 (fun m hm => ?_)
  rw [b_and, b_not _ (by omega)]
theorem kFeAn_iff (b c : Int32) : ∀ n, kFeAn Mc b c n = true ↔ ∀ s, 1 ≤ s → s ≤ n → bc (nI s) ≤ c * bc (b &&& (kBfe Mc (nI s) ^^^ (-1)))
  | 0 => ⟨fun _ s h1 h2 => absurd h2 (by omega), fun _ => rfl⟩
  | n + 1 => by
    show (if bc (nI (n + 1)) ≤ c * bc (b &&& (kBfe Mc (nI (n + 1)) ^^^ (-1))) then kFeAn Mc b c n else false) = true ↔ _
    by_cases h : bc (nI (n + 1)) ≤ c * bc (b &&& (kBfe Mc (nI (n + 1)) ^^^ (-1)))
    · rw [if_pos h, kFeAn_iff b c n]
      constructor
      · intro q s h1 h2
        by_cases e : s = n + 1
        · subst e; exact h
        · exact q s h1 (by omega)
      · intro q s h1 h2
        exact q s h1 (by omega)
    · rw [if_neg h]
      constructor
      · intro q; cases q
      · intro q; exact absurd (q (n + 1) (by omega) (Nat.le_refl _)) h
theorem kFewn_in (c : Int32) : ∀ n, kFewn Mc c n = -6 ∨ ∃ s, s ≤ n ∧ kFewn Mc c n = nI s
  | 0 => Or.inl rfl
  | n + 1 => by
    have up : kFewn Mc c n = -6 ∨ ∃ s, s ≤ n + 1 ∧ kFewn Mc c n = nI s := by
      rcases kFewn_in c n with h | ⟨s, h1, h2⟩
      · exact Or.inl h
      · exact Or.inr ⟨s, by omega, h2⟩
    unfold kFewn
    exact kP_ite (P := fun x => x = -6 ∨ ∃ s, s ≤ n + 1 ∧ x = nI s) (fun _ => kP_ite (P := fun x => x = -6 ∨ ∃ s, s ≤ n + 1 ∧ x = nI s) (fun _ => Or.inr ⟨n + 1, Nat.le_refl _, rfl⟩) (fun _ => up)) (fun _ => kP_ite (P := fun x => x = -6 ∨ ∃ s, s ≤ n + 1 ∧ x = nI s) (fun _ => up) (fun _ => kP_ite (P := fun x => x = -6 ∨ ∃ s, s ≤ n + 1 ∧ x = nI s) (fun _ => Or.inr ⟨n + 1, Nat.le_refl _, rfl⟩) (fun _ => up)))
end zT1
section zT2
variable (g : Nat → Option Nat) (X : List zShp) (M : zMem)
theorem ex2_X_feeds (a c : Int32) (hh : kSet a) : zEx m_X_feeds 0 0 [.ref 35, .int a, .int c] (SHP g X) M (qR g X (fun r M2 => M2 = M ∧ (∀ F Mc, cM F Mc M → r = bI (kFeA Mc a c)))) := by
  obtain ⟨a', ha6, rfl⟩ := hh
  refine zEx_of _ (by decide) (by simp [Value.category]) (Nat.le_of_ble_eq_true rfl) rfl (v_X_feeds_0 g X M (nI a') c _ ?_)
  have L2 : ∀ s, 1 ≤ s → s < 64 → (∀ F Mc, cM F Mc M → ∀ s2, 1 ≤ s2 → s2 < s → bc (nI s2) ≤ c * bc (nI a' &&& (kBfe Mc (nI s2) ^^^ (-1)))) → ∀ (K : (∀ F Mc, cM F Mc M → bc (nI s) ≤ c * bc (nI a' &&& (kBfe Mc (nI s) ^^^ (-1)))) → zRT m_X_feeds 0 0 2 [(0, .ref 35), (1, .int (nI a')), (2, .int c), (3, .int (nI s + 1))] [] (SHP g X) M (qR g X (fun r M2 => M2 = M ∧ (∀ F Mc, cM F Mc M → r = bI (kFeA Mc (nI a') c))))), ∀ d k w, k + d = 6 → (∀ F Mc, cM F Mc M → w = kSm (fun m => if (bt (nI a') m && !bt (kBfe Mc (nI s)) m) = true then c else 0) k) → zRT m_X_feeds 0 0 14 [(0, .ref 35), (1, .int (nI a')), (2, .int c), (3, .int (nI s)), (4, .int w), (5, .int (nI k))] [] (SHP g X) M (qR g X (fun r M2 => M2 = M ∧ (∀ F Mc, cM F Mc M → r = bI (kFeA Mc (nI a') c)))) := by
    intro s hs1 hs hpre K d
    induction d with
    | zero =>
      intro k w hk hv
      have e : ∀ F Mc, cM F Mc M → w = c * bc (nI a' &&& (kBfe Mc (nI s) ^^^ (-1))) := fun F Mc h => by
        rw [hv F Mc h, feed_sum c ha6, show k = 6 by omega]
      refine v_X_feeds_14 g X _ _ _ _ _ _ _ ⟨fun _ => ⟨fun h => K (fun F Mc hc => by rw [← e F Mc hc, ← bt6_bc s hs]; exact h), fun h => qR_i ⟨rfl, fun F Mc hc => ?_⟩⟩, fun h => absurd (nI_le (a := 6) (by omega) (by omega)) h⟩
      have hf : kFeA Mc (nI a') c = false := by
        cases q : kFeA Mc (nI a') c with
        | false => rfl
        | true =>
          have := (kFeAn_iff (Mc := Mc) (nI a') c 63).mp q s hs1 (by omega)
          rw [← e F Mc hc, ← bt6_bc s hs] at this
          exact absurd this h
      rw [hf]; rfl
    | succ d ih =>
      intro k w hk hv
      have k6 : k < 6 := by omega
      refine v_X_feeds_14 g X _ _ _ _ _ _ _ ⟨fun h => absurd h (nI_ge (b := 6) (by omega) (by omega)), fun _ => ?_⟩
      rw [nI_1, nI_clamp (by omega)]
      have no : (∀ F Mc, cM F Mc M → (bt (nI a') k && !bt (kBfe Mc (nI s)) k) = false) → zRT m_X_feeds 0 0 14 [(0, .ref 35), (1, .int (nI a')), (2, .int c), (3, .int (nI s)), (4, .int (w + 0)), (5, .int (nI (k + 1)))] [] (SHP g X) M (qR g X (fun r M2 => M2 = M ∧ (∀ F Mc, cM F Mc M → r = bI (kFeA Mc (nI a') c)))) := fun h => ih (k + 1) _ (by omega) (fun F Mc hc => by
        show _ = kSm _ k + _
        rw [← hv F Mc hc]
        exact congrArg (fun z => w + z) (if_neg (by rw [h F Mc hc]; decide)).symm)
      have yes : (∀ F Mc, cM F Mc M → (bt (nI a') k && !bt (kBfe Mc (nI s)) k) = true) → zRT m_X_feeds 0 0 14 [(0, .ref 35), (1, .int (nI a')), (2, .int c), (3, .int (nI s)), (4, .int (w + c)), (5, .int (nI (k + 1)))] [] (SHP g X) M (qR g X (fun r M2 => M2 = M ∧ (∀ F Mc, cM F Mc M → r = bI (kFeA Mc (nI a') c)))) := fun h => ih (k + 1) _ (by omega) (fun F Mc hc => by
        show _ = kSm _ k + _
        rw [← hv F Mc hc]
        exact congrArg (fun z => w + z) (if_pos (h F Mc hc)).symm)
      have q0 : M 36 k < 0 → ∀ F Mc, cM F Mc M → ∀ i, i < 32 → (bt (0 : Int32) i = true ↔ fP F k = nI i) := fun hp F Mc hc i hi => by
        rw [kMF_p hc.1 hc.2.2 k6] at hp
        rw [b_0]
        constructor
        · intro h; cases h
        · intro h
          rw [h, show (0 : Int32) = nI 0 from rfl, nI_ltI (by omega) (by decide)] at hp
          omega
      have q1 : ¬ M 36 k < 0 → ∀ F Mc, cM F Mc M → ∀ i, i < 32 → (bt ((1 : Int32) <<< ((M 36 k) &&& 31)) i = true ↔ fP F k = nI i) := fun hp F Mc hc i hi => by
        rw [kMF_p hc.1 hc.2.2 k6] at hp ⊢
        rcases hc.1.2.2.2.2.2.1 k k6 with h6 | ⟨p, p6, -, h3, h4⟩
        · rw [h6] at hp; exact absurd (by decide) hp
        · rw [h3, b_1shl (by omega) hi, decide_eq_true_iff, nI_eq (by omega) (by omega)]
          omega
      rw [hb_bt (by omega)]
      refine ⟨vp_in_nI (by omega) (by decide), fun hp => ⟨fun h => no (fun F Mc hc => by rw [h]; rfl), fun h => ⟨fun h2 => no (fun F Mc hc => ?_), fun h2 => yes (fun F Mc hc => ?_)⟩⟩, fun hp => ⟨fun h => no (fun F Mc hc => by rw [h]; rfl), fun h => ⟨fun h2 => no (fun F Mc hc => ?_), fun h2 => yes (fun F Mc hc => ?_)⟩⟩⟩
      · rw [(oth_0 hc.1 hc.2.1 hs k6 (q0 hp F Mc hc)).mp h2, h]; rfl
      · rw [h]
        cases q : bt (kBfe Mc (nI s)) k with
        | false => rfl
        | true => exact absurd ((oth_0 hc.1 hc.2.1 hs k6 (q0 hp F Mc hc)).mpr q) h2
      · rw [(oth_0 hc.1 hc.2.1 hs k6 (q1 hp F Mc hc)).mp h2, h]; rfl
      · rw [h]
        cases q : bt (kBfe Mc (nI s)) k with
        | false => rfl
        | true => exact absurd ((oth_0 hc.1 hc.2.1 hs k6 (q1 hp F Mc hc)).mpr q) h2
  have L1 : ∀ d k, k + d = 64 → 1 ≤ k → (∀ F Mc, cM F Mc M → ∀ s2, 1 ≤ s2 → s2 < k → bc (nI s2) ≤ c * bc (nI a' &&& (kBfe Mc (nI s2) ^^^ (-1)))) → zRT m_X_feeds 0 0 2 [(0, .ref 35), (1, .int (nI a')), (2, .int c), (3, .int (nI k))] [] (SHP g X) M (qR g X (fun r M2 => M2 = M ∧ (∀ F Mc, cM F Mc M → r = bI (kFeA Mc (nI a') c)))) := by
    intro d
    induction d with
    | zero =>
      intro k hk h1 hpre
      refine v_X_feeds_2 g X _ _ _ _ _ ⟨fun _ => qR_i ⟨rfl, fun F Mc hc => ?_⟩, fun h => absurd (nI_le (a := 64) (by omega) (by omega)) h⟩
      rw [show kFeA Mc (nI a') c = true from (kFeAn_iff (Mc := Mc) (nI a') c 63).mpr (fun s h1 h2 => hpre F Mc hc s h1 (by omega))]
      rfl
    | succ d ih =>
      intro k hk h1 hpre
      refine v_X_feeds_2 g X _ _ _ _ _ ⟨fun h => absurd h (nI_ge (b := 64) (by omega) (by omega)), fun _ => ?_⟩
      refine L2 k h1 (by omega) hpre (fun hK => ?_) 6 0 _ rfl (fun _ _ _ => rfl)
      rw [nI_1]
      refine ih (k + 1) (by omega) (by omega) (fun F Mc hc s2 a1 a2 => ?_)
      by_cases e : s2 = k
      · subst e; exact hK F Mc hc
      · exact hpre F Mc hc s2 a1 (by omega)
  exact L1 63 1 rfl (by decide) (fun F Mc hc s2 a1 a2 => absurd a2 (by omega))
theorem vS_X_makers_0 (g : Nat → Option Nat) (X : List zShp) (M : zMem) (x1 x2 : Int32) (R : zEnd) (h : (((inI x1 1 6) = false) → (R (some (.int (-2))) (SHP g X) M)) ∧ (((inI x1 1 6) = true) → ((((inI x2 0 1) = true) → (zRT m_X_makers 0 0 28 [(0, .ref 35), (1, .int x1), (2, .int x2), (3, .int (-6)), (4, .int 0)] [] (SHP g X) M R)) ∧ (((inI x2 0 1) = false) → (R (some (.int (-2))) (SHP g X) M))))) : zRT m_X_makers 0 0 0 [(0, .ref 35), (1, .int x1), (2, .int x2)] [] (SHP g X) M R := by
  refine zs_iload_n 1 d_X_makers_0 rfl (List.mem_of_getElem? (i := 1) rfl) ?_
  refine zs_iconst 1 d_X_makers_1 (by decide) ?_
  refine zs_bipush 6 d_X_makers_2 (by decide) ?_
  refine zs_callS (kc := 0) (ks := 0) (kc1 := 0) (ks1 := 0) (st := []) [.int x1, .int 1, .int 6] d_X_makers_4 lk_X_66 ⟨by decide, by decide⟩ rfl (Nat.le_of_ble_eq_true rfl) (ex_X_in g X M x1 1 6) (fun v1 sh1 M1 hR => ?_)
  obtain ⟨rfl, rfl, rfl⟩ := hR
  refine zs_if_eq 19 d_X_makers_7 (by decide) (fun c2 => ?_) (fun c2 => ?_)
  · replace h := h.1 (bI_0 c2)
    refine zs_bipush (-2) d_X_makers_19 (by decide) ?_
    exact zs_iret d_X_makers_21 rfl h
  · replace h := h.2 (bI_1 c2)
    refine zs_iload_n 2 d_X_makers_10 rfl (List.mem_of_getElem? (i := 2) rfl) ?_
    refine zs_iconst 0 d_X_makers_11 (by decide) ?_
    refine zs_iconst 1 d_X_makers_12 (by decide) ?_
    refine zs_callS (kc := 0) (ks := 0) (kc1 := 0) (ks1 := 0) (st := []) [.int x2, .int 0, .int 1] d_X_makers_13 lk_X_66 ⟨by decide, by decide⟩ rfl (Nat.le_of_ble_eq_true rfl) (ex_X_in g X M x2 0 1) (fun v3 sh3 M3 hR => ?_)
    obtain ⟨rfl, rfl, rfl⟩ := hR
    refine zs_if_ne 22 d_X_makers_16 (by decide) (fun c4 => ?_) (fun c4 => ?_)
    · replace h := h.1 (bI_1 c4)
      refine zs_bipush (-6) d_X_makers_22 (by decide) ?_
      refine zs_istore_n2 3 [1, 2, 3, 0] [(0, .ref 35), (1, .int x1), (2, .int x2), (3, .int (-6))] d_X_makers_24 rfl (by decide) rfl ?_
      refine zs_iconst 0 d_X_makers_25 (by decide) ?_
      refine zs_istore2 [1, 2, 3, 4, 0] [(0, .ref 35), (1, .int x1), (2, .int x2), (3, .int (-6)), (4, .int 0)] d_X_makers_26 (by decide) rfl ?_
      exact h
    · replace h := h.2 (bI_0 c4)
      refine zs_bipush (-2) d_X_makers_19 (by decide) ?_
      exact zs_iret d_X_makers_21 rfl h
theorem vS_X_makers_28 (g : Nat → Option Nat) (X : List zShp) (M : zMem) (x1 x2 x3 x4 : Int32) (R : zEnd) (h : ((64 ≤ x4) → (((x3 < 0) → (R (some (.int x3)) (SHP g X) M)) ∧ ((¬ x3 < 0) → (((¬ x2 = 1) → (R (some (.int (bt6 x3))) (SHP g X) M)) ∧ ((x2 = 1) → (R (some (.int x3)) (SHP g X) M)))))) ∧ ((¬ 64 ≤ x4) → (((x3 < 0) → ((kSet x4) ∧ (∀ (r6 : Int32) (M6 : zMem), (M6 = M ∧ (∀ F Mc, cM F Mc M → r6 = bI (kFeA Mc x4 x1))) → (((r6 = 0) → (zRT m_X_makers 0 0 28 [(0, .ref 35), (1, .int x1), (2, .int x2), (3, .int x3), (4, .int (x4 + 1))] [] (SHP g X) M6 R)) ∧ ((¬ r6 = 0) → (zRT m_X_makers 0 0 28 [(0, .ref 35), (1, .int x1), (2, .int x2), (3, .int x4), (4, .int (x4 + 1))] [] (SHP g X) M6 R)))))) ∧ ((¬ x3 < 0) → ((((bt6 x3) ≤ (bt6 x4)) → (zRT m_X_makers 0 0 28 [(0, .ref 35), (1, .int x1), (2, .int x2), (3, .int x3), (4, .int (x4 + 1))] [] (SHP g X) M R)) ∧ ((¬ (bt6 x3) ≤ (bt6 x4)) → ((kSet x4) ∧ (∀ (r11 : Int32) (M11 : zMem), (M11 = M ∧ (∀ F Mc, cM F Mc M → r11 = bI (kFeA Mc x4 x1))) → (((r11 = 0) → (zRT m_X_makers 0 0 28 [(0, .ref 35), (1, .int x1), (2, .int x2), (3, .int x3), (4, .int (x4 + 1))] [] (SHP g X) M11 R)) ∧ ((¬ r11 = 0) → (zRT m_X_makers 0 0 28 [(0, .ref 35), (1, .int x1), (2, .int x2), (3, .int x4), (4, .int (x4 + 1))] [] (SHP g X) M11 R))))))))))) : zRT m_X_makers 0 0 28 [(0, .ref 35), (1, .int x1), (2, .int x2), (3, .int x3), (4, .int x4)] [] (SHP g X) M R := by
  refine zs_iload d_X_makers_28 (List.mem_of_getElem? (i := 4) rfl) ?_
  refine zs_bipush 64 d_X_makers_30 (by decide) ?_
  refine zs_icmp_ge 86 d_X_makers_32 (by decide) (fun c1 => ?_) (fun c1 => ?_)
  · replace h := h.1 c1
    refine zs_iload_n 3 d_X_makers_86 rfl (List.mem_of_getElem? (i := 3) rfl) ?_
    refine zs_if_lt 95 d_X_makers_87 (by decide) (fun c2 => ?_) (fun c2 => ?_)
    · replace h := h.1 c2
      refine zs_iload_n 3 d_X_makers_95 rfl (List.mem_of_getElem? (i := 3) rfl) ?_
      refine zs_goto 103 d_X_makers_96 (by decide) ?_
      exact zs_iret d_X_makers_103 rfl h
    · replace h := h.2 c2
      refine zs_iload_n 2 d_X_makers_90 rfl (List.mem_of_getElem? (i := 2) rfl) ?_
      refine zs_iconst 1 d_X_makers_91 (by decide) ?_
      refine zs_icmp_ne 99 d_X_makers_92 (by decide) (fun c3 => ?_) (fun c3 => ?_)
      · replace h := h.1 c3
        refine zs_iload_n 3 d_X_makers_99 rfl (List.mem_of_getElem? (i := 3) rfl) ?_
        refine zs_callS (kc := 0) (ks := 0) (kc1 := 0) (ks1 := 0) (st := []) [.int x3] d_X_makers_100 lk_X_109 ⟨by decide, by decide⟩ rfl (Nat.le_of_ble_eq_true rfl) (ex_X_bits g X M x3) (fun v4 sh4 M4 hR => ?_)
        obtain ⟨rfl, rfl, rfl⟩ := hR
        exact zs_iret d_X_makers_103 rfl h
      · replace h := h.2 c3
        refine zs_iload_n 3 d_X_makers_95 rfl (List.mem_of_getElem? (i := 3) rfl) ?_
        refine zs_goto 103 d_X_makers_96 (by decide) ?_
        exact zs_iret d_X_makers_103 rfl h
  · replace h := h.2 c1
    refine zs_iload_n 3 d_X_makers_35 rfl (List.mem_of_getElem? (i := 3) rfl) ?_
    refine zs_if_lt 51 d_X_makers_36 (by decide) (fun c5 => ?_) (fun c5 => ?_)
    · replace h := h.1 c5
      refine zs_iconst 1 d_X_makers_51 (by decide) ?_
      refine zs_goto 56 d_X_makers_52 (by decide) ?_
      refine zs_istore2 [1, 2, 3, 4, 5, 0] [(0, .ref 35), (1, .int x1), (2, .int x2), (3, .int x3), (4, .int x4), (5, .int 1)] d_X_makers_56 (by decide) rfl ?_
      refine zs_iload d_X_makers_58 (List.mem_of_getElem? (i := 5) rfl) ?_
      refine zs_if_eq 78 d_X_makers_60 (by decide) (fun c => absurd c (by decide)) (fun _ => ?_)
      refine zs_aload_n 0 d_X_makers_63 rfl (List.mem_of_getElem? (i := 0) rfl) ?_
      refine zs_iload d_X_makers_64 (List.mem_of_getElem? (i := 4) rfl) ?_
      refine zs_iload_n 1 d_X_makers_66 rfl (List.mem_of_getElem? (i := 1) rfl) ?_
      obtain ⟨p6, h⟩ := h
      refine zs_callV (kc := 0) (ks := 0) (kc1 := 0) (ks1 := 0) (st := []) [.int x4, .int x1] d_X_makers_67 lk_X_150 ⟨by decide, by decide⟩ rfl (sh_35 g X) rfl (Nat.le_of_ble_eq_true rfl) (ex2_X_feeds g X M x4 x1 p6) (fun v6 sh6 M6 hR => ?_)
      obtain ⟨r6, rfl, rfl, hq6⟩ := hR
      replace h := h r6 M6 hq6
      refine zs_if_eq 78 d_X_makers_70 (by decide) (fun c7 => ?_) (fun c7 => ?_)
      · replace h := h.1 c7
        refine zs_iload_n 3 d_X_makers_78 rfl (List.mem_of_getElem? (i := 3) rfl) ?_
        refine zs_istore_n2 3 [1, 2, 3, 0, 4, 5] [(0, .ref 35), (1, .int x1), (2, .int x2), (3, .int x3), (4, .int x4), (5, .int 1)] d_X_makers_79 rfl (by decide) rfl ?_
        refine zs_iinc2 4 (x4 + 1) [1, 2, 3, 4, 0, 5] [(0, .ref 35), (1, .int x1), (2, .int x2), (3, .int x3), (4, .int (x4 + 1)), (5, .int 1)] d_X_makers_80 rfl rfl (by decide) rfl ?_
        refine zs_goto 28 d_X_makers_83 (by decide) ?_
        exact zRT_sub [0, 1, 2, 3, 4] rfl h
      · replace h := h.2 c7
        refine zs_iload d_X_makers_73 (List.mem_of_getElem? (i := 4) rfl) ?_
        refine zs_goto 79 d_X_makers_75 (by decide) ?_
        refine zs_istore_n2 3 [1, 2, 3, 0, 4, 5] [(0, .ref 35), (1, .int x1), (2, .int x2), (3, .int x4), (4, .int x4), (5, .int 1)] d_X_makers_79 rfl (by decide) rfl ?_
        refine zs_iinc2 4 (x4 + 1) [1, 2, 3, 4, 0, 5] [(0, .ref 35), (1, .int x1), (2, .int x2), (3, .int x4), (4, .int (x4 + 1)), (5, .int 1)] d_X_makers_80 rfl rfl (by decide) rfl ?_
        refine zs_goto 28 d_X_makers_83 (by decide) ?_
        exact zRT_sub [0, 1, 2, 3, 4] rfl h
    · replace h := h.2 c5
      refine zs_iload d_X_makers_39 (List.mem_of_getElem? (i := 4) rfl) ?_
      refine zs_callS (kc := 0) (ks := 0) (kc1 := 0) (ks1 := 0) (st := []) [.int x4] d_X_makers_41 lk_X_109 ⟨by decide, by decide⟩ rfl (Nat.le_of_ble_eq_true rfl) (ex_X_bits g X M x4) (fun v8 sh8 M8 hR => ?_)
      obtain ⟨rfl, rfl, rfl⟩ := hR
      refine zs_iload_n 3 d_X_makers_44 rfl (List.mem_of_getElem? (i := 3) rfl) ?_
      refine zs_callS (kc := 0) (ks := 0) (kc1 := 0) (ks1 := 0) (st := [.int (bt6 x4)]) [.int x3] d_X_makers_45 lk_X_109 ⟨by decide, by decide⟩ rfl (Nat.le_of_ble_eq_true rfl) (ex_X_bits g X M x3) (fun v9 sh9 M9 hR => ?_)
      obtain ⟨rfl, rfl, rfl⟩ := hR
      refine zs_icmp_ge 55 d_X_makers_48 (by decide) (fun c10 => ?_) (fun c10 => ?_)
      · replace h := h.1 c10
        refine zs_iconst 0 d_X_makers_55 (by decide) ?_
        refine zs_istore2 [1, 2, 3, 4, 5, 0] [(0, .ref 35), (1, .int x1), (2, .int x2), (3, .int x3), (4, .int x4), (5, .int 0)] d_X_makers_56 (by decide) rfl ?_
        refine zs_iload d_X_makers_58 (List.mem_of_getElem? (i := 5) rfl) ?_
        refine zs_if_eq 78 d_X_makers_60 (by decide) (fun _ => ?_) (fun c => absurd c (by decide))
        refine zs_iload_n 3 d_X_makers_78 rfl (List.mem_of_getElem? (i := 3) rfl) ?_
        refine zs_istore_n2 3 [1, 2, 3, 0, 4, 5] [(0, .ref 35), (1, .int x1), (2, .int x2), (3, .int x3), (4, .int x4), (5, .int 0)] d_X_makers_79 rfl (by decide) rfl ?_
        refine zs_iinc2 4 (x4 + 1) [1, 2, 3, 4, 0, 5] [(0, .ref 35), (1, .int x1), (2, .int x2), (3, .int x3), (4, .int (x4 + 1)), (5, .int 0)] d_X_makers_80 rfl rfl (by decide) rfl ?_
        refine zs_goto 28 d_X_makers_83 (by decide) ?_
        exact zRT_sub [0, 1, 2, 3, 4] rfl h
      · replace h := h.2 c10
        refine zs_iconst 1 d_X_makers_51 (by decide) ?_
        refine zs_goto 56 d_X_makers_52 (by decide) ?_
        refine zs_istore2 [1, 2, 3, 4, 5, 0] [(0, .ref 35), (1, .int x1), (2, .int x2), (3, .int x3), (4, .int x4), (5, .int 1)] d_X_makers_56 (by decide) rfl ?_
        refine zs_iload d_X_makers_58 (List.mem_of_getElem? (i := 5) rfl) ?_
        refine zs_if_eq 78 d_X_makers_60 (by decide) (fun c => absurd c (by decide)) (fun _ => ?_)
        refine zs_aload_n 0 d_X_makers_63 rfl (List.mem_of_getElem? (i := 0) rfl) ?_
        refine zs_iload d_X_makers_64 (List.mem_of_getElem? (i := 4) rfl) ?_
        refine zs_iload_n 1 d_X_makers_66 rfl (List.mem_of_getElem? (i := 1) rfl) ?_
        obtain ⟨p11, h⟩ := h
        refine zs_callV (kc := 0) (ks := 0) (kc1 := 0) (ks1 := 0) (st := []) [.int x4, .int x1] d_X_makers_67 lk_X_150 ⟨by decide, by decide⟩ rfl (sh_35 g X) rfl (Nat.le_of_ble_eq_true rfl) (ex2_X_feeds g X M x4 x1 p11) (fun v11 sh11 M11 hR => ?_)
        obtain ⟨r11, rfl, rfl, hq11⟩ := hR
        replace h := h r11 M11 hq11
        refine zs_if_eq 78 d_X_makers_70 (by decide) (fun c12 => ?_) (fun c12 => ?_)
        · replace h := h.1 c12
          refine zs_iload_n 3 d_X_makers_78 rfl (List.mem_of_getElem? (i := 3) rfl) ?_
          refine zs_istore_n2 3 [1, 2, 3, 0, 4, 5] [(0, .ref 35), (1, .int x1), (2, .int x2), (3, .int x3), (4, .int x4), (5, .int 1)] d_X_makers_79 rfl (by decide) rfl ?_
          refine zs_iinc2 4 (x4 + 1) [1, 2, 3, 4, 0, 5] [(0, .ref 35), (1, .int x1), (2, .int x2), (3, .int x3), (4, .int (x4 + 1)), (5, .int 1)] d_X_makers_80 rfl rfl (by decide) rfl ?_
          refine zs_goto 28 d_X_makers_83 (by decide) ?_
          exact zRT_sub [0, 1, 2, 3, 4] rfl h
        · replace h := h.2 c12
          refine zs_iload d_X_makers_73 (List.mem_of_getElem? (i := 4) rfl) ?_
          refine zs_goto 79 d_X_makers_75 (by decide) ?_
          refine zs_istore_n2 3 [1, 2, 3, 0, 4, 5] [(0, .ref 35), (1, .int x1), (2, .int x2), (3, .int x4), (4, .int x4), (5, .int 1)] d_X_makers_79 rfl (by decide) rfl ?_
          refine zs_iinc2 4 (x4 + 1) [1, 2, 3, 4, 0, 5] [(0, .ref 35), (1, .int x1), (2, .int x2), (3, .int x4), (4, .int (x4 + 1)), (5, .int 1)] d_X_makers_80 rfl rfl (by decide) rfl ?_
          refine zs_goto 28 d_X_makers_83 (by decide) ?_
          exact zRT_sub [0, 1, 2, 3, 4] rfl h
theorem ex2_X_makers (F : zTS) (Mc : zMem) (hcm : cM F Mc M) (c y : Int32) : zEx m_X_makers 0 0 [.ref 35, .int c, .int y] (SHP g X) M (qR g X (fun r M2 => mAg M M2 ∧ r = kv_makers Mc c y)) := by
  refine zEx_of _ (by decide) (by simp [Value.category]) (Nat.le_of_ble_eq_true rfl) rfl (vS_X_makers_0 g X M c y _ ⟨fun h => qR_i ⟨mAg.rf, ?_⟩, fun h => ⟨fun h2 => ?_, fun h2 => qR_i ⟨mAg.rf, ?_⟩⟩⟩)
  · unfold kv_makers
    rcases inI_f (v := c) (lo := 1) (hi := 6) (by rw [h]; decide) with q | q
    · rw [if_pos q]
    · by_cases c1 : c < 1
      · rw [if_pos c1]
      · rw [if_neg c1, if_pos q]
  · obtain ⟨a1, a2⟩ := inI_t h
    obtain ⟨y', hy', rfl⟩ := inI_nI (b := 1) (by decide) h2
    have eV : kv_makers Mc c (nI y') = if nI y' = 1 then kFew Mc c else if kFew Mc c = -6 then -6 else bc (kFew Mc c) := by
      unfold kv_makers
      rw [if_neg a1, if_neg a2, if_neg (by rw [show (0 : Int32) = nI 0 from rfl, nI_ltI (by omega) (by decide)]; omega), if_pos (show nI y' ≤ 1 from nI_le (b := 1) hy' (by decide))]
    have neg : ∀ n, n ≤ 63 → (kFewn Mc c n < 0 ↔ kFewn Mc c n = -6) := fun n hn => by
      rcases kFewn_in (Mc := Mc) c n with q | ⟨s, s1, s2⟩
      · rw [q]; decide
      · rw [s2, show (0 : Int32) = nI 0 from rfl, nI_ltI (by omega) (by decide)]
        constructor
        · intro z; omega
        · intro z; exact absurd z (nI_ne6 (by omega))
    have bb : ∀ n, n ≤ 63 → ¬ kFewn Mc c n < 0 → bt6 (kFewn Mc c n) = bc (kFewn Mc c n) := fun n hn hq => by
      rcases kFewn_in (Mc := Mc) c n with q | ⟨s, s1, s2⟩
      · exact absurd ((neg n hn).mpr q) hq
      · rw [s2]; exact bt6_bc s (by omega)
    have L : ∀ d k, k + d = 63 → zRT m_X_makers 0 0 28 [(0, .ref 35), (1, .int c), (2, .int (nI y')), (3, .int (kFewn Mc c k)), (4, .int (nI (k + 1)))] [] (SHP g X) M (qR g X (fun r M2 => mAg M M2 ∧ r = kv_makers Mc c (nI y'))) := by
      intro d
      induction d with
      | zero =>
        intro k hk
        have e : k = 63 := by omega
        subst e
        refine vS_X_makers_28 g X _ _ _ _ _ _ ⟨fun _ => ⟨fun q => qR_i ⟨mAg.rf, ?_⟩, fun q => ⟨fun q2 => qR_i ⟨mAg.rf, ?_⟩, fun q2 => qR_i ⟨mAg.rf, ?_⟩⟩⟩, fun h => absurd (nI_le (a := 64) (by omega) (by omega)) h⟩
        · have e6 := (neg 63 (by decide)).mp q
          rw [eV]
          unfold kFew
          rw [e6, if_pos rfl]
          by_cases c1 : nI y' = 1
          · rw [if_pos c1]
          · rw [if_neg c1]
        · rw [eV, if_neg q2]
          unfold kFew
          rw [if_neg (fun z => q ((neg 63 (by decide)).mpr z))]
          exact bb 63 (by decide) q
        · rw [eV, if_pos q2]
          rfl
      | succ d ih =>
        intro k hk
        have hset : kSet (nI (k + 1)) := ⟨k + 1, by omega, rfl⟩
        have st : kFewn Mc c (k + 1) = if kFewn Mc c k = -6 then (if kFeA Mc (nI (k + 1)) c = true then nI (k + 1) else kFewn Mc c k) else if bc (kFewn Mc c k) ≤ bc (nI (k + 1)) then kFewn Mc c k else if kFeA Mc (nI (k + 1)) c = true then nI (k + 1) else kFewn Mc c k := rfl
        have nx := ih (k + 1) (by omega)
        refine vS_X_makers_28 g X _ _ _ _ _ _ ⟨fun h => absurd h (nI_ge (b := 64) (by omega) (by omega)), fun _ => ?_⟩
        rw [nI_1]
        refine ⟨fun q => ⟨hset, fun r M6 h6 => ?_⟩, fun q => ⟨fun q2 => ?_, fun q2 => ⟨hset, fun r M6 h6 => ?_⟩⟩⟩
        · obtain ⟨rfl, hr⟩ := h6
          have hr := hr F Mc hcm
          rw [if_pos ((neg k (by omega)).mp q)] at st
          refine ⟨fun r0 => ?_, fun r0 => ?_⟩
          · rw [if_neg (fun z => by rw [hr, z] at r0; exact absurd r0 (by decide))] at st
            rw [← st]; exact nx
          · rw [if_pos (by cases z : kFeA Mc (nI (k + 1)) c with
              | true => rfl
              | false => rw [hr, z] at r0; exact absurd rfl r0)] at st
            rw [← st]; exact nx
        · rw [bb k (by omega) q, bt6_bc _ (by omega)] at q2
          rw [if_neg (fun z => q ((neg k (by omega)).mpr z)), if_pos q2] at st
          rw [← st]; exact nx
        · obtain ⟨rfl, hr⟩ := h6
          have hr := hr F Mc hcm
          rw [bb k (by omega) q, bt6_bc _ (by omega)] at q2
          rw [if_neg (fun z => q ((neg k (by omega)).mpr z)), if_neg q2] at st
          refine ⟨fun r0 => ?_, fun r0 => ?_⟩
          · rw [if_neg (fun z => by rw [hr, z] at r0; exact absurd r0 (by decide))] at st
            rw [← st]; exact nx
          · rw [if_pos (by cases z : kFeA Mc (nI (k + 1)) c with
              | true => rfl
              | false => rw [hr, z] at r0; exact absurd rfl r0)] at st
            rw [← st]; exact nx
    refine vS_X_makers_28 g X _ _ _ _ _ _ ⟨fun h => absurd h (by decide), fun _ => ⟨fun _ => ⟨⟨0, by decide, rfl⟩, fun r M6 h6 => ?_⟩, fun q => absurd (by decide) q⟩⟩
    obtain ⟨rfl, hr⟩ := h6
    have hr := hr F Mc hcm
    have f0 : kFeA Mc 0 c = false := by
      cases q : kFeA Mc 0 c with
      | false => rfl
      | true =>
        have h1 := (kFeAn_iff (Mc := Mc) 0 c 63).mp q 1 (by decide) (by decide)
        have e0 : (0 : Int32) &&& (kBfe Mc (nI 1) ^^^ (-1)) = 0 := b_ext (fun i _ => by rw [b_and, b_0]; rfl)
        rw [e0, show bc 0 = 0 from rfl, Int32.mul_zero] at h1
        exact absurd h1 (by decide)
    rw [f0] at hr
    exact ⟨fun _ => L 63 0 rfl, fun r0 => absurd hr r0⟩
  · obtain ⟨a1, a2⟩ := inI_t h
    unfold kv_makers
    rw [if_neg a1, if_neg a2]
    rcases inI_f (v := y) (lo := 0) (hi := 1) (by rw [h2]; decide) with q | q
    · rw [if_pos q]
    · by_cases c1 : y < 0
      · rw [if_pos c1]
      · rw [if_neg c1, if_neg (fun z => i32_le z q)]
end zT2
section zT3
variable {n : Nat} {P : Nat → Int32} {F : zTS} {I : Nat → Option zTS} {M : zMem} {g : Nat → Option Nat} {X : List zShp}
theorem pr_makers (hok : kOk n P F I M g X) (c w : Int32) : kPr kEi 1 m_O_makers m_X_makers [.int c, .int w] M g X := kPr_e hok (ex_O_makers g X M c w) (fun M1 h hc => ex2_X_makers g X M1 F M hc c w)
end zT3
