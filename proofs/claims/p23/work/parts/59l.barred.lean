/-! marriages: how many are barred -/
def TT (Mc : zMem) (t j : Nat) : Bool := bt (kTch Mc (nI t)) j
def wT (Mc : zMem) (n a b : Nat) : Nat := nsum (fun t => if TT Mc t a = TT Mc t b then 0 else 1) n
theorem bc_10 : ∀ y, y < 1024 → bc (nI y) = nI (nsum (fun t => if bt (nI y) t = true then 1 else 0) 10) := by decide +kernel
theorem b_1023 : ∀ i, i < 32 → bt 1023 i = decide (i < 10) := by decide +kernel
theorem b_ten {y : Int32} (h : ∀ i, bt y i = true → i < 10) : ∃ s, s < 1024 ∧ y = nI s := by
  obtain ⟨j, hj, e⟩ := pk_andE y (m := 1023) 10 rfl
  refine ⟨j, hj, ?_⟩
  rw [← e]
  refine b_ext (fun i hi => ?_)
  rw [b_and, b_1023 i hi]
  cases c : bt y i with
  | false => rfl
  | true => simp [h i c]
theorem nsum_up {f : Nat → Nat} {n : Nat} : ∀ d, (∀ k, n ≤ k → k < n + d → f k = 0) → nsum f (n + d) = nsum f n
  | 0, _ => rfl
  | d + 1, h => by
    show nsum f (n + d) + f (n + d) = nsum f n
    rw [nsum_up d (fun k h1 h2 => h k h1 (by omega)), h (n + d) (by omega) (by omega)]
    rfl
theorem nsum_le {f : Nat → Nat} (c : Nat) : ∀ n, (∀ k, k < n → f k ≤ c) → nsum f n ≤ c * n
  | 0, _ => Nat.zero_le _
  | n + 1, h => by
    show nsum f n + f n ≤ c * (n + 1)
    have := nsum_le c n (fun k hk => h k (by omega))
    have := h n (by omega)
    rw [Nat.mul_succ]
    omega
section zJ1
variable {F : zTS} {Mc M : zMem}
theorem kTnt_bt (hw : kWF F) (ht : kTR Mc 10 F) {m t : Nat} (hm : m < 6) : bt (kTnt Mc (nI m)) t = true ↔ (t < tN F ∧ TT Mc t m = true) := by
  have h10 := hw.1.2
  unfold kTnt
  rw [kTR_cn ht, kOr_bt]
  have key : ∀ k, k < tN F → (bt (if hb (kTch Mc (nI k)) (nI m) = true then (1 : Int32) <<< (nI k &&& 31) else 0) t = true ↔ (t = k ∧ TT Mc k m = true)) := by
    intro k hk
    rw [hb_bt (by omega)]
    by_cases c : bt (kTch Mc (nI k)) m = true
    · rw [if_pos c]
      by_cases h32 : t < 32
      · rw [b_1shl (by omega) h32, decide_eq_true_iff]
        exact ⟨fun e => ⟨e, c⟩, fun e => e.1⟩
      · rw [b_big (by omega)]
        exact ⟨fun e => (nomatch e), fun e => by omega⟩
    · rw [if_neg c, b_0]
      exact ⟨fun e => (nomatch e), fun e => absurd e.2 c⟩
  constructor
  · rintro ⟨k, hk, h⟩
    obtain ⟨e, h2⟩ := (key k hk).mp h
    subst e
    exact ⟨hk, h2⟩
  · rintro ⟨hk, h2⟩
    exact ⟨t, hk, (key t hk).mpr ⟨rfl, h2⟩⟩
theorem wT_bc (hw : kWF F) (ht : kTR Mc 10 F) {a b : Nat} (ha : a < 6) (hb : b < 6) : bc (kTnt Mc (nI a) ^^^ kTnt Mc (nI b)) = nI (wT Mc (tN F) a b) ∧ wT Mc (tN F) a b ≤ 10 := by
  have h10 := hw.1.2
  have h6 : ∀ i, bt (kTnt Mc (nI a) ^^^ kTnt Mc (nI b)) i = true → i < 10 := fun i hi => by
    rw [b_xor] at hi
    cases c1 : bt (kTnt Mc (nI a)) i with
    | true => have := ((kTnt_bt hw ht ha).mp c1).1; omega
    | false =>
      cases c2 : bt (kTnt Mc (nI b)) i with
      | true => have := ((kTnt_bt hw ht hb).mp c2).1; omega
      | false => rw [c1, c2] at hi; cases hi
  obtain ⟨s, hs, es⟩ := b_ten h6
  constructor
  · rw [es, bc_10 s hs, ← es]
    congr 1
    unfold wT
    rw [show (10 : Nat) = tN F + (10 - tN F) by omega, nsum_up (10 - tN F) (fun k h1 h2 => ?_)]
    · refine nsum_cg _ (fun t htn => ?_)
      rw [b_xor]
      have e1 : bt (kTnt Mc (nI a)) t = TT Mc t a := by
        rw [Bool.eq_iff_iff, kTnt_bt hw ht ha]
        exact ⟨fun z => z.2, fun z => ⟨htn, z⟩⟩
      have e2 : bt (kTnt Mc (nI b)) t = TT Mc t b := by
        rw [Bool.eq_iff_iff, kTnt_bt hw ht hb]
        exact ⟨fun z => z.2, fun z => ⟨htn, z⟩⟩
      rw [e1, e2]
      cases TT Mc t a <;> cases TT Mc t b <;> rfl
    · refine if_neg (fun z => ?_)
      rw [b_xor] at z
      cases c1 : bt (kTnt Mc (nI a)) k with
      | true => have := ((kTnt_bt hw ht ha).mp c1).1; omega
      | false =>
        cases c2 : bt (kTnt Mc (nI b)) k with
        | true => have := ((kTnt_bt hw ht hb).mp c2).1; omega
        | false => rw [c1, c2] at z; cases z
  · have := nsum_le (f := fun t => if TT Mc t a = TT Mc t b then 0 else 1) 1 (tN F) (fun k _ => by
      by_cases c : TT Mc k a = TT Mc k b
      · rw [if_pos c]; omega
      · rw [if_neg c]; omega)
    unfold wT
    omega
theorem wT_sym (Mc : zMem) (n a b : Nat) : wT Mc n a b = wT Mc n b a := by
  unfold wT
  refine nsum_cg n (fun t _ => ?_)
  cases TT Mc t a <;> cases TT Mc t b <;> rfl
end zJ1
theorem bt6_ns (y : Int32) : ∀ n, n ≤ 6 → bt6n y n = nI (nsum (fun i => if bt y i = true then 1 else 0) n)
  | 0, _ => rfl
  | n + 1, h => by
    show bt6n y n + ((y >>> (nI n &&& 31)) &&& 1) = nI (nsum _ n + _)
    rw [bt6_ns y n (by omega), ← nI_add]
    congr 1
    have hs := b_sshr n (by omega) y (i := 0) (by decide)
    rw [if_pos (by omega), Nat.add_zero] at hs
    show (y >>> (nI n &&& 31)) &&& 1 = nI (if bt y n = true then 1 else 0)
    cases c : bt y n with
    | true =>
      rw [if_pos rfl]
      refine b_ext (fun i hi => ?_)
      rw [b_and, b_one i hi, show nI 1 = 1 from rfl, b_one i hi]
      by_cases e : i = 0
      · subst e; rw [hs, c]; rfl
      · simp [e]
    | false =>
      rw [if_neg (by decide)]
      exact (b_and1 _).mpr (by rw [hs, c])
theorem bt6_n (y : Int32) : bt6 y = nI (nsum (fun i => if bt y i = true then 1 else 0) 6) := bt6_ns y 6 (Nat.le_refl _)
/-- the partners' row says p -/
def rowP (M : zMem) (p : Nat → Nat) : Prop := ∀ j, j < 6 → (p j < 6 ∧ M 36 j = nI (p j)) ∨ (¬ p j < 6 ∧ M 36 j = -6)
theorem mWP_p {M : zMem} {p : Nat → Nat} (hr : rowP M p) (hp : isP p) {b : Int32} {i : Nat} (hi : i < 6) : bt (mWP M b) i = true ↔ (bt b i = true ∨ (p i < 6 ∧ bt b (p i) = true)) := by
  unfold mWP
  rw [mWPn_bt]
  constructor
  · rintro (h | ⟨k, hk, h1, h2, h3⟩)
    · exact Or.inl h
    · rw [hb_bt (by omega)] at h1
      rcases hr k hk with ⟨q1, q2⟩ | ⟨q1, q2⟩
      · rw [q2, b_one_m q1] at h3
        subst h3
        rw [(hp k hk q1).2]
        exact Or.inr ⟨hk, h1⟩
      · rw [q2] at h2; exact absurd (by decide) h2
  · rintro (h | ⟨h1, h2⟩)
    · exact Or.inl h
    · refine Or.inr ⟨p i, h1, by rw [hb_bt (by omega)]; exact h2, ?_⟩
      have e := (hp i hi h1).2
      rcases hr (p i) h1 with ⟨q1, q2⟩ | ⟨q1, q2⟩
      · rw [q2, e]
        exact ⟨by rw [show (0 : Int32) = nI 0 from rfl, nI_ltI (by omega) (by decide)]; omega, (b_one_m hi i).mpr rfl⟩
      · rw [e] at q1; exact absurd hi q1
/-- all that are barred, when partners are as p says -/
def allB (Mc : zMem) (n : Nat) (p : Nat → Nat) : Nat := nsum (fun t => nsum (fun i => if TT Mc t i = true then 1 else 0) 6) n + nsum (fun j => if p j < 6 ∧ j < p j then wT Mc n j (p j) else 0) 6
theorem allB_e (Mc : zMem) (n : Nat) {p : Nat → Nat} (hp : isP p) : nsum (fun t => nsum (fun i => if TT Mc t i = true ∨ (p i < 6 ∧ TT Mc t (p i) = true) then 1 else 0) 6) n = allB Mc n p := by
  unfold allB
  rw [nsum_cg (g := fun t => nsum (fun i => if TT Mc t i = true then 1 else 0) 6 + nsum (fun j => if p j < 6 ∧ j < p j then (if TT Mc t j = TT Mc t (p j) then 0 else 1) else 0) 6) n (fun t _ => cnt_p hp (TT Mc t)), nsum_add, nsum_sw (F := fun t j => if p j < 6 ∧ j < p j then (if TT Mc t j = TT Mc t (p j) then 0 else 1) else 0) 6 n]
  congr 1
  refine nsum_cg 6 (fun j _ => ?_)
  by_cases c : p j < 6 ∧ j < p j
  · rw [if_pos c]
    unfold wT
    refine nsum_cg n (fun t _ => ?_)
    rw [if_pos c]
  · rw [if_neg c, nsum_cg (g := fun _ => 0) n (fun t _ => if_neg c), nsum_z]
/-- the makings are F's, the partners are p's -/
def abH (F : zTS) (Mc M : zMem) (p : Nat → Nat) : Prop := kWF F ∧ kTR Mc 10 F ∧ (M 35 6 = fT F ∧ M 35 0 = fD F ∧ M 35 1 = fO F) ∧ (∀ k, k < 50 → M 38 k = fR F k) ∧ m41 F M ∧ rowP M p ∧ isP p
section zJ2
variable (g : Nat → Option Nat) (X : List zShp) (M : zMem)
theorem ex3_X_allBarred (hh : mK M) : zEx m_X_allBarred 0 0 [.ref 35] (SHP g X) M (qR g X (fun r M2 => kAg [42] M M2 ∧ (∀ F Mc p, abH F Mc M p → r = nI (allB Mc (tN F) p)))) := by
  obtain ⟨hn, h10⟩ := mCnt_e hh.1
  have en : ∀ F Mc p, abH F Mc M p → mTN M = tN F := fun F Mc p h => by
    unfold mTN tN
    rw [h.2.2.1.1]
  refine zEx_of _ (by decide) (by simp [Value.category]) (Nat.le_of_ble_eq_true rfl) rfl (v_X_allBarred_0 g X M _ ?_)
  have L : ∀ d k M1 (a : Int32), k + d = mTN M → kAg [42] M M1 → (∀ F Mc p, abH F Mc M p → a = nI (nsum (fun t => nsum (fun i => if TT Mc t i = true ∨ (p i < 6 ∧ TT Mc t (p i) = true) then 1 else 0) 6) k)) → zRT m_X_allBarred 0 0 4 [(0, .ref 35), (1, .int a), (2, .int (nI k))] [] (SHP g X) M1 (qR g X (fun r M2 => kAg [42] M M2 ∧ (∀ F Mc p, abH F Mc M p → r = nI (allB Mc (tN F) p)))) := by
    intro d
    induction d with
    | zero =>
      intro k M1 a hk ha hv
      have e35 : M1 35 = M 35 := ha 35 (by decide)
      refine v_X_allBarred_4 g X _ _ _ _ ⟨fun _ => qR_i ⟨ha, fun F Mc p hab => ?_⟩, fun h => absurd (by rw [e35, hn]; exact nI_le (by omega) (by omega)) h⟩
      have ek : k = tN F := by rw [← en F Mc p hab]; omega
      rw [hv F Mc p hab, ek, allB_e Mc (tN F) hab.2.2.2.2.2.2]
    | succ d ih =>
      intro k M1 a hk ha hv
      have e35 : M1 35 = M 35 := ha 35 (by decide)
      have e36 : M1 36 = M 36 := ha 36 (by decide)
      have e38 : M1 38 = M 38 := ha 38 (by decide)
      have e41 : M1 41 = M 41 := ha 41 (by decide)
      refine v_X_allBarred_4 g X _ _ _ _ ⟨fun h => absurd h (by rw [e35, hn]; exact nI_ge (by omega) (by omega)), fun _ => ⟨((mAg_42 ha).mk hh).rw ((mAg_42 ha).th ⟨k, by omega, rfl⟩), ?_⟩⟩
      rw [nI_1, nI_clamp (by omega)]
      refine ih (k + 1) _ _ (by omega) (kAg.sr ha (by decide)) (fun F Mc p hab => ?_)
      obtain ⟨hw, htr, h35, h38, h41, hr, hp⟩ := hab
      have kn : k < tN F := by rw [← en F Mc p ⟨hw, htr, h35, h38, h41, hr, hp⟩]; omega
      have n10 := hw.1.2
      have tb : ∀ i, bt (mTc M1 (nI k)) i = true ↔ TT Mc k i = true := by
        intro i
        have gm : gM (fR F) k M1 := ⟨by omega, fun j hj => by rw [e38]; exact h38 j hj, fun t ht => kRow_cell (hw.2.2.2.2.2.2.2.2.1 t (by omega))⟩
        obtain ⟨σ, s1, s2, s3⟩ := gI_walk gm
        have eO : M1 35 1 = fO F := by rw [e35]; exact h35.2.2
        rw [eO] at s2 s3
        obtain ⟨dd, hd9, ed⟩ := hw.2.2.1
        have edn : dN F = dd := by unfold dN; rw [ed]; exact nI_clamp (by omega)
        have eD : M1 35 0 = nI (dN F) := by rw [e35, h35.2.1, ed, edn]
        have tcc : TT Mc k i = true ↔ gT F k i := cTch hw htr kn i
        rw [tcc]
        unfold mTc
        rw [nI_clamp (by omega), kOr_bt]
        have key : ∀ t, t < k + 1 → (bt (if M1 35 0 < (mWk M1 k) 42 t then 0 else M1 41 t) i = true ↔ σ t ≤ dN F ∧ bt (fR F (5 * t)) i = true) := by
          intro t ht
          have hs : σ t < 2 ^ 31 := by rcases s2 t (by omega) with q | q <;> omega
          rw [s1 t (by omega), eD, e41, h41 t (by omega)]
          by_cases c : σ t ≤ dN F
          · rw [if_neg (by rw [nI_ltI (by omega) hs]; omega)]
            simp [c]
          · rw [if_pos (by rw [nI_ltI (by omega) hs]; omega), b_0]
            simp [c]
        constructor
        · rintro ⟨t, ht, h⟩
          obtain ⟨h1, h2⟩ := (key t ht).mp h
          have hw2 := (s2 t (by omega)).resolve_left (by omega)
          exact ⟨t, σ t, h1, hw2.2, h2⟩
        · rintro ⟨j, e, h1, h2, h3⟩
          have := gW_le h2
          exact ⟨j, by omega, (key j (by omega)).mpr ⟨Nat.le_trans (s3 e j h2) h1, h3⟩⟩
      have eb : bt6 (mWP M1 (mTc M1 (nI k))) = nI (nsum (fun i => if TT Mc k i = true ∨ (p i < 6 ∧ TT Mc k (p i) = true) then 1 else 0) 6) := by
        rw [bt6_n]
        congr 1
        refine nsum_cg 6 (fun i hi => ?_)
        have hr1 : rowP M1 p := fun j hj => by rw [e36]; exact hr j hj
        have q := mWP_p hr1 hp (b := mTc M1 (nI k)) hi
        rw [tb i, tb (p i)] at q
        by_cases c : TT Mc k i = true ∨ (p i < 6 ∧ TT Mc k (p i) = true)
        · rw [if_pos c, if_pos (q.mpr c)]
        · rw [if_neg c, if_neg (fun z => c (q.mp z))]
      rw [hv F Mc p ⟨hw, htr, h35, h38, h41, hr, hp⟩, eb, nI_add]
      rfl
  exact L (mTN M) 0 M 0 (by omega) kAg.rf (fun _ _ _ _ => rfl)
end zJ2
