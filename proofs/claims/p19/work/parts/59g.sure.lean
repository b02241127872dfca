/-! sure -/
def cdc (d : Nat → Nat) : Nat → Nat
  | 0 => 0
  | A + 1 => 6 * cdc d A + d A
theorem cdc_lt {d : Nat → Nat} : ∀ A, (∀ a, a < A → d a < 6) → cdc d A < 6 ^ A
  | 0, _ => Nat.zero_lt_one
  | A + 1, h => by
    have := cdc_lt A (fun a ha => h a (by omega))
    have h2 := h A (by omega)
    show 6 * cdc d A + d A < 6 ^ (A + 1)
    rw [Nat.pow_succ]
    omega
theorem cdc_dg {d : Nat → Nat} : ∀ A, (∀ a, a < A → d a < 6) → ∀ a, a < A → dg A a (cdc d A) = d a
  | 0, _, a, h => absurd h (Nat.not_lt_zero a)
  | A + 1, hd, a, ha => by
    have h2 := hd A (by omega)
    show dg (A + 1) a (6 * cdc d A + d A) = d a
    by_cases e : a = A
    · subst e; rw [dg_l]; omega
    · rw [dg_s (by omega), show (6 * cdc d A + d A) / 6 = cdc d A by omega]
      exact cdc_dg A (fun a ha => hd a (by omega)) a (by omega)
section zZ1
variable {F : zTS}
/-- what is sure of w: in all fillings, in some -/
def fAll (F : zTS) (x w : Nat) : Prop := fHit F x w ∨ ∃ t, t < tN F ∧ fR F (5 * t + 4) = 1 ∧ fReach F x t ∧ ∀ i, fAllow F (sN F) t i → fCp F w i
def fSome (F : zTS) (x w : Nat) : Prop := fHit F x w ∨ ∃ t i, t < tN F ∧ fR F (5 * t + 4) = 1 ∧ fReach F x t ∧ fAllow F (sN F) t i ∧ fCp F w i
theorem fGood_d {c0 : Nat} (h0 : fGood F c0) (d : Nat → Nat) (hd : ∀ t, t < tN F → fR F (5 * t + 4) = 1 → fAllow F (sN F) t (d (kAsN (fR F) t))) : ∃ c, c < 6 ^ kAsN (fR F) (tN F) ∧ fGood F c ∧ ∀ a, a < kAsN (fR F) (tN F) → dg (kAsN (fR F) (tN F)) a c = d a := by
  have d6 : ∀ a, a < kAsN (fR F) (tN F) → d a < 6 := fun a ha => by
    obtain ⟨t, t1, t2, t3⟩ := kAsN_inv (R := fR F) (tN F) a ha
    subst t3
    exact (hd t t1 t2).1
  refine ⟨cdc d _, cdc_lt _ d6, ⟨h0.1, fun t t1 t2 => ?_⟩, cdc_dg _ d6⟩
  rw [cdc_dg _ d6 _ (kAsN_lt t1 t2)]
  exact hd t t1 t2
theorem fAll_iff {c0 : Nat} (h0 : fGood F c0) (x w : Nat) : (∀ c, c < 6 ^ kAsN (fR F) (tN F) → fGood F c → fBar F c x w) ↔ fAll F x w := by
  constructor
  · intro h
    by_cases q : fAll F x w
    · exact q
    · exfalso
      have ch : ∀ a, ∃ i, ∀ t, t < tN F → fR F (5 * t + 4) = 1 → kAsN (fR F) t = a → (fAllow F (sN F) t i ∧ (fReach F x t → ¬ fCp F w i)) := by
        intro a
        by_cases z : ∃ t, t < tN F ∧ fR F (5 * t + 4) = 1 ∧ kAsN (fR F) t = a
        · obtain ⟨t, t1, t2, t3⟩ := z
          have ⟨i, i1, i2⟩ : ∃ i, fAllow F (sN F) t i ∧ (fReach F x t → ¬ fCp F w i) := by
            by_cases r : fReach F x t
            · by_cases z2 : ∃ i, fAllow F (sN F) t i ∧ ¬ fCp F w i
              · obtain ⟨i, i1, i2⟩ := z2
                exact ⟨i, i1, fun _ => i2⟩
              · exfalso
                refine q (Or.inr ⟨t, t1, t2, r, fun i hi => ?_⟩)
                by_cases z3 : fCp F w i
                · exact z3
                · exact absurd ⟨i, hi, z3⟩ z2
            · exact ⟨_, h0.2 t t1 t2, fun z => absurd z r⟩
          refine ⟨i, fun u u1 u2 u3 => ?_⟩
          have e := kAsN_uq u2 t2 (u3.trans t3.symm)
          subst e
          exact ⟨i1, i2⟩
        · exact ⟨0, fun t t1 t2 t3 => absurd ⟨t, t1, t2, t3⟩ z⟩
      obtain ⟨d, hd⟩ := Classical.axiomOfChoice ch
      obtain ⟨c, c1, c2, c3⟩ := fGood_d h0 d (fun t t1 t2 => (hd _ t t1 t2 rfl).1)
      rcases h c c1 c2 with z | ⟨t, t1, t2, t3, t4⟩
      · exact q (Or.inl z)
      · rw [c3 _ (kAsN_lt t1 t2)] at t4
        exact (hd _ t t1 t2 rfl).2 t3 t4
  · rintro (h | ⟨t, t1, t2, t3, t4⟩) c _ hc
    · exact Or.inl h
    · exact Or.inr ⟨t, t1, t2, t3, t4 _ (hc.2 t t1 t2)⟩
theorem fSome_iff {c0 : Nat} (h0 : fGood F c0) (hc0 : c0 < 6 ^ kAsN (fR F) (tN F)) (x w : Nat) : (∃ c, c < 6 ^ kAsN (fR F) (tN F) ∧ fGood F c ∧ fBar F c x w) ↔ fSome F x w := by
  constructor
  · rintro ⟨c, _, c2, h | ⟨t, t1, t2, t3, t4⟩⟩
    · exact Or.inl h
    · exact Or.inr ⟨t, _, t1, t2, t3, c2.2 t t1 t2, t4⟩
  · rintro (h | ⟨t, i, t1, t2, t3, t4, t5⟩)
    · exact ⟨c0, hc0, h0, Or.inl h⟩
    · obtain ⟨c, c1, c2, c3⟩ := fGood_d h0 (fun a => if a = kAsN (fR F) t then i else dg (kAsN (fR F) (tN F)) a c0) (fun u u1 u2 => by
        show fAllow F (sN F) u (if kAsN (fR F) u = kAsN (fR F) t then i else dg (kAsN (fR F) (tN F)) (kAsN (fR F) u) c0)
        by_cases e : kAsN (fR F) u = kAsN (fR F) t
        · have e2 := kAsN_uq u2 t2 e
          subst e2
          rw [if_pos rfl]; exact t4
        · rw [if_neg e]; exact h0.2 u u1 u2)
      refine ⟨c, c1, c2, Or.inr ⟨t, t1, t2, t3, ?_⟩⟩
      rw [c3 _ (kAsN_lt t1 t2), if_pos rfl]
      exact t5
end zZ1
section zZ2
variable {F : zTS} {Mw : zMem}
theorem kFon_iff (r c : Int32) : ∀ n k, kFon Mw r c k n = true ↔ ∃ a, k ≤ a ∧ a < k + n ∧ hb r (Mw 25 a) = true ∧ Mw 26 a &&& (c ^^^ (-1)) = 0
  | 0, k => by
    constructor
    · intro h; cases h
    · rintro ⟨a, h1, h2, _⟩; omega
  | n + 1, k => by
    show (if hb r (Mw 25 k) = true ∧ Mw 26 k &&& (c ^^^ (-1)) = 0 then true else kFon Mw r c (k + 1) n) = true ↔ _
    by_cases q : hb r (Mw 25 k) = true ∧ Mw 26 k &&& (c ^^^ (-1)) = 0
    · rw [if_pos q]
      exact ⟨fun _ => ⟨k, Nat.le_refl _, by omega, q⟩, fun _ => rfl⟩
    · rw [if_neg q, kFon_iff r c n (k + 1)]
      constructor
      · rintro ⟨a, h1, h2, h3⟩; exact ⟨a, by omega, by omega, h3⟩
      · rintro ⟨a, h1, h2, h3⟩
        by_cases e : a = k
        · subst e; exact absurd h3 q
        · exact ⟨a, by omega, by omega, h3⟩
theorem kBA_bt (hw : kWF F) (ht : kTR Mw 10 F) (h : fW F (sN F) Mw) {x w : Nat} (hx : x < tN F) (h32 : w < 32) : bt (kBA Mw (nI x)) w = true ↔ (w < 6 ∧ fAll F x w) := by
  have h10 := hw.1.2
  have hA := hw.2.2.2.2.2.2.2.2.2
  unfold kBA
  rw [kOr_bt]
  have key : ∀ k, k < 6 → (bt (if kHO Mw (kRch Mw (nI x)) &&& kCpl Mw (nI k) = 0 then (if kFo Mw (kRch Mw (nI x)) (kCpl Mw (nI k)) = true then (1 : Int32) <<< (nI k &&& 31) else 0) else (1 : Int32) <<< (nI k &&& 31)) w = true ↔ w = k ∧ fAll F x k) := by
    intro k hk
    have hz := fHit_0 hw ht hx hk
    have hfo : kFo Mw (kRch Mw (nI x)) (kCpl Mw (nI k)) = true ↔ ∃ t, t < tN F ∧ fR F (5 * t + 4) = 1 ∧ fReach F x t ∧ ∀ i, fAllow F (sN F) t i → fCp F k i := by
      unfold kFo
      rw [kFon_iff, h.1, nI_clamp (by omega)]
      constructor
      · rintro ⟨a, _, a2, a3, a4⟩
        obtain ⟨t, t1, t2, t3⟩ := kAsN_inv (R := fR F) (tN F) a (by omega)
        subst t3
        obtain ⟨v1, v2⟩ := h.2.2 t t1 t2
        rw [v1, hb_bt (by omega), cRch hw ht hx (by omega)] at a3
        refine ⟨t, t1, t2, a3, fun i hi => ?_⟩
        have i6 := hi.1
        have hb := (v2 i).mpr hi
        refine (kCpl_bt hw ht hk (show i < 32 by omega)).mp ?_
        cases z : bt (kCpl Mw (nI k)) i with
        | true => rfl
        | false =>
          have e : bt (Mw 26 (kAsN (fR F) t) &&& (kCpl Mw (nI k) ^^^ (-1))) i = false := by rw [a4, b_0]
          rw [b_and, hb, b_not _ (by omega), z] at e
          cases e
      · rintro ⟨t, t1, t2, t3, t4⟩
        obtain ⟨v1, v2⟩ := h.2.2 t t1 t2
        refine ⟨kAsN (fR F) t, Nat.zero_le _, by have := kAsN_lt t1 t2; omega, ?_, ?_⟩
        · rw [v1, hb_bt (by omega), cRch hw ht hx (by omega)]; exact t3
        · refine b_ext (fun i hi => ?_)
          rw [b_and, b_0]
          cases z : bt (Mw 26 (kAsN (fR F) t)) i with
          | false => rfl
          | true =>
            rw [b_not _ hi, (kCpl_bt hw ht hk hi).mpr (t4 i ((v2 i).mp z))]
            rfl
    unfold fAll
    rw [← hfo]
    by_cases c : kHO Mw (kRch Mw (nI x)) &&& kCpl Mw (nI k) = 0
    · rw [if_pos c]
      have nh := hz.mp c
      by_cases c2 : kFo Mw (kRch Mw (nI x)) (kCpl Mw (nI k)) = true
      · rw [if_pos c2, b_one_m hk]
        exact ⟨fun e => ⟨e, Or.inr c2⟩, fun e => e.1⟩
      · rw [if_neg c2, b_0]
        exact ⟨fun e => (nomatch e), fun e => e.2.elim (fun z => absurd z nh) (fun z => absurd z c2)⟩
    · rw [if_neg c, b_one_m hk]
      have nh : fHit F x k := by
        by_cases q : fHit F x k
        · exact q
        · exact absurd (hz.mpr q) c
      exact ⟨fun e => ⟨e, Or.inl nh⟩, fun e => e.1⟩
  constructor
  · rintro ⟨k, hk, h⟩
    obtain ⟨e, h2⟩ := (key k hk).mp h
    subst e
    exact ⟨hk, h2⟩
  · rintro ⟨hk, h2⟩
    exact ⟨w, hk, (key w hk).mpr ⟨rfl, h2⟩⟩
theorem kBSn_bt (r w : Int32) (i : Nat) : ∀ n, bt (kBSn Mw r w n) i = true ↔ (bt w i = true ∨ ∃ a, a < n ∧ hb r (Mw 25 a) = true ∧ bt (Mw 26 a) i = true)
  | 0 => by
    show bt w i = true ↔ _
    constructor
    · exact Or.inl
    · rintro (h | ⟨a, h, _⟩)
      · exact h
      · exact absurd h (Nat.not_lt_zero a)
  | n + 1 => by
    show bt (kBSn Mw r w n ||| (if hb r (Mw 25 n) = true then Mw 26 n else 0)) i = true ↔ _
    rw [b_or, Bool.or_eq_true, kBSn_bt r w i n]
    have key : bt (if hb r (Mw 25 n) = true then Mw 26 n else 0) i = true ↔ (hb r (Mw 25 n) = true ∧ bt (Mw 26 n) i = true) := by
      by_cases c : hb r (Mw 25 n) = true
      · rw [if_pos c]; simp [c]
      · rw [if_neg c, b_0]; simp [c]
    rw [key]
    constructor
    · rintro ((h | ⟨a, h1, h2⟩) | h)
      · exact Or.inl h
      · exact Or.inr ⟨a, by omega, h2⟩
      · exact Or.inr ⟨n, by omega, h⟩
    · rintro (h | ⟨a, h1, h2⟩)
      · exact Or.inl (Or.inl h)
      · by_cases e : a = n
        · subst e; exact Or.inr h2
        · exact Or.inl (Or.inr ⟨a, by omega, h2⟩)
theorem gP_6 (hw : kWF F) {b : Int32} (h6 : ∀ i, bt b i = true → i < 6) {w : Nat} (h32 : w < 32) (h : gP F b w) : w < 6 := by
  rcases h with h | ⟨k, hk, _, h2⟩
  · exact h6 w h
  · rcases hw.2.2.2.2.2.1 k hk with h | ⟨a, a6, -, h3, -⟩
    · exact absurd (h2.symm.trans h) (nI_ne6 (by omega))
    · have := (nI_eq (by omega) (by omega)).mp (h2.symm.trans h3)
      omega
theorem kBS_bt (hw : kWF F) (ht : kTR Mw 10 F) (h : fW F (sN F) Mw) {x w : Nat} (hx : x < tN F) (h32 : w < 32) : bt (kBS Mw (nI x)) w = true ↔ (w < 6 ∧ fSome F x w) := by
  have h10 := hw.1.2
  have hA := hw.2.2.2.2.2.2.2.2.2
  have mb : ∀ i, bt (kBSn Mw (kRch Mw (nI x)) (kHO Mw (kRch Mw (nI x))) (Int32.toNatClampNeg (Mw 24 2))) i = true ↔ ((∃ t, fReach F x t ∧ bt (fR F (5 * t)) i = true) ∨ ∃ t, t < tN F ∧ fR F (5 * t + 4) = 1 ∧ fReach F x t ∧ fAllow F (sN F) t i) := by
    intro i
    rw [kBSn_bt, h.1, nI_clamp (by omega), cHO hw ht]
    constructor
    · rintro (⟨k, hk, k1, k2⟩ | ⟨a, a1, a2, a3⟩)
      · exact Or.inl ⟨k, (cRch hw ht hx (by omega)).mp k1, k2⟩
      · obtain ⟨t, t1, t2, t3⟩ := kAsN_inv (R := fR F) (tN F) a a1
        subst t3
        obtain ⟨v1, v2⟩ := h.2.2 t t1 t2
        rw [v1, hb_bt (by omega), cRch hw ht hx (by omega)] at a2
        exact Or.inr ⟨t, t1, t2, a2, (v2 i).mp a3⟩
    · rintro (⟨t, t1, t2⟩ | ⟨t, t1, t2, t3, t4⟩)
      · have := fReach_le t1
        exact Or.inl ⟨t, by omega, (cRch hw ht hx (by omega)).mpr t1, t2⟩
      · obtain ⟨v1, v2⟩ := h.2.2 t t1 t2
        refine Or.inr ⟨kAsN (fR F) t, kAsN_lt t1 t2, ?_, (v2 i).mpr t4⟩
        rw [v1, hb_bt (by omega), cRch hw ht hx (by omega)]; exact t3
  have m6 : ∀ i, bt (kBSn Mw (kRch Mw (nI x)) (kHO Mw (kRch Mw (nI x))) (Int32.toNatClampNeg (Mw 24 2))) i = true → i < 6 := fun i hi => by
    rcases (mb i).mp hi with ⟨t, t1, t2⟩ | ⟨t, _, _, _, t4⟩
    · have := fReach_le t1
      exact hand6 hw (by omega) t2
    · exact t4.1
  unfold kBS
  rw [kWP_bt hw ht m6 h32]
  have cp : w < 6 → (gP F (kBSn Mw (kRch Mw (nI x)) (kHO Mw (kRch Mw (nI x))) (Int32.toNatClampNeg (Mw 24 2))) w ↔ fSome F x w) := by
    intro w6
    rw [gP_cp hw w6]
    unfold fSome fHit
    constructor
    · rintro ⟨i, h1, h2⟩
      rcases (mb i).mp h2 with ⟨t, t1, t2⟩ | ⟨t, t1, t2, t3, t4⟩
      · exact Or.inl ⟨t, i, t1, t2, h1⟩
      · exact Or.inr ⟨t, i, t1, t2, t3, t4, h1⟩
    · rintro (⟨t, i, t1, t2, h1⟩ | ⟨t, i, t1, t2, t3, t4, h1⟩)
      · exact ⟨i, h1, (mb i).mpr (Or.inl ⟨t, t1, t2⟩)⟩
      · exact ⟨i, h1, (mb i).mpr (Or.inr ⟨t, t1, t2, t3, t4⟩)⟩
  constructor
  · intro hg
    have w6 := gP_6 hw m6 h32 hg
    exact ⟨w6, (cp w6).mp hg⟩
  · rintro ⟨w6, h2⟩
    exact (cp w6).mpr h2
end zZ2
def kv_sure (F : zTS) (Mw : zMem) (t w : Int32) : Int32 := if kIsT (fT F) t = true then (if w < 0 then -2 else if w ≤ 1 then (if kWays Mw = 0 then -3 else if w = 0 then kBA Mw t else kBS Mw t) else -2) else -1
def kQs (F : zTS) (t w r : Int32) : Prop := (∃ Mw, fW F (sN F) Mw ∧ kTR Mw 10 F ∧ r = kv_sure F Mw t w) ∨ ((∀ Mw, r = kv_sure F Mw t w) ∧ (¬ kIsT (fT F) t = true ∨ w < 0 ∨ ¬ w ≤ 1))
section zZ3
variable (g : Nat → Option Nat) (X : List zShp) (M : zMem)
theorem vS_O_sure_0 (g : Nat → Option Nat) (X : List zShp) (M : zMem) (x1 x2 : Int32) (R : zEnd) (h : (((kIsT (M 11 5) x1) = true) → (((x2 < 0) → (R (some (.int (-2))) (SHP g X) M)) ∧ ((¬ x2 < 0) → (((x2 ≤ 1) → ((kCnt M ∧ kDpt M ∧ kSts M) ∧ (∀ (M5 : zMem), (kFA M M5 ∧ (∀ F, kWF F → kTR M 10 F → fW F (sN F) M5)) → ((kAsk M5) ∧ (((¬ (kWays M5) = 0) → (((¬ x2 = 0) → ((kCnt M5 ∧ kDpt M5 ∧ kAsk M5) ∧ (R (some (.int (kBS M5 x1))) (SHP g X) M5))) ∧ ((x2 = 0) → ((kCnt M5 ∧ kDpt M5 ∧ kAsk M5) ∧ (R (some (.int (kBA M5 x1))) (SHP g X) M5))))) ∧ (((kWays M5) = 0) → (R (some (.int (-3))) (SHP g X) M5))))))) ∧ ((¬ x2 ≤ 1) → (R (some (.int (-2))) (SHP g X) M)))))) ∧ (((kIsT (M 11 5) x1) = false) → (R (some (.int (-1))) (SHP g X) M))) : zRT m_O_sure 0 0 0 [(0, .ref 0), (1, .int x1), (2, .int x2)] [] (SHP g X) M R := by
  refine zs_aload_n 0 d_O_sure_0 rfl (List.mem_of_getElem? (i := 0) rfl) ?_
  refine zs_iload_n 1 d_O_sure_1 rfl (List.mem_of_getElem? (i := 1) rfl) ?_
  refine zs_callV (kc := 0) (ks := 0) (kc1 := 0) (ks1 := 0) (st := []) [.int x1] d_O_sure_2 lk_O_91 ⟨by decide, by decide⟩ rfl (sh_0 g X) rfl (Nat.le_of_ble_eq_true rfl) (ex_O_isThing g X M x1) (fun v1 sh1 M1 hR => ?_)
  obtain ⟨rfl, rfl, rfl⟩ := hR
  refine zs_if_ne 10 d_O_sure_5 (by decide) (fun c2 => ?_) (fun c2 => ?_)
  · replace h := h.1 (bI_1 c2)
    refine zs_iload_n 2 d_O_sure_10 rfl (List.mem_of_getElem? (i := 2) rfl) ?_
    refine zs_if_lt 19 d_O_sure_11 (by decide) (fun c3 => ?_) (fun c3 => ?_)
    · replace h := h.1 c3
      refine zs_bipush (-2) d_O_sure_19 (by decide) ?_
      exact zs_iret d_O_sure_21 rfl h
    · replace h := h.2 c3
      refine zs_iload_n 2 d_O_sure_14 rfl (List.mem_of_getElem? (i := 2) rfl) ?_
      refine zs_iconst 1 d_O_sure_15 (by decide) ?_
      refine zs_icmp_le 22 d_O_sure_16 (by decide) (fun c4 => ?_) (fun c4 => ?_)
      · replace h := h.1 c4
        refine zs_aload_n 0 d_O_sure_22 rfl (List.mem_of_getElem? (i := 0) rfl) ?_
        refine zs_get d_O_sure_23 gf_O_44 (sh_0 g X) rfl ?_
        refine zs_aload_n 0 d_O_sure_26 rfl (List.mem_of_getElem? (i := 0) rfl) ?_
        refine zs_get d_O_sure_27 gf_O_26 (sh_0 g X) rfl ?_
        obtain ⟨p5, h⟩ := h
        refine zs_callV (kc := 0) (ks := 0) (kc1 := 0) (ks1 := 0) (st := []) [.ref 10] d_O_sure_30 lk_O_169 ⟨by decide, by decide⟩ rfl (sh_24 g X) rfl (Nat.le_of_ble_eq_true rfl) (ex2_Filling_weigh g X M p5) (fun v5 sh5 M5 hR => ?_)
        obtain ⟨rfl, rfl, hq5⟩ := hR
        replace h := h M5 hq5
        refine zs_aload_n 0 d_O_sure_33 rfl (List.mem_of_getElem? (i := 0) rfl) ?_
        refine zs_get d_O_sure_34 gf_O_44 (sh_0 g X) rfl ?_
        obtain ⟨p6, h⟩ := h
        refine zs_callV (kc := 0) (ks := 0) (kc1 := 0) (ks1 := 0) (st := []) [] d_O_sure_37 lk_O_173 ⟨by decide, by decide⟩ rfl (sh_24 g X) rfl (Nat.le_of_ble_eq_true rfl) (ex_Filling_ways g X M5 p6) (fun v6 sh6 M6 hR => ?_)
        obtain ⟨rfl, rfl, rfl⟩ := hR
        refine zs_if_ne 46 d_O_sure_40 (by decide) (fun c7 => ?_) (fun c7 => ?_)
        · replace h := h.1 c7
          refine zs_iload_n 2 d_O_sure_46 rfl (List.mem_of_getElem? (i := 2) rfl) ?_
          refine zs_if_ne 65 d_O_sure_47 (by decide) (fun c8 => ?_) (fun c8 => ?_)
          · replace h := h.1 c8
            refine zs_aload_n 0 d_O_sure_65 rfl (List.mem_of_getElem? (i := 0) rfl) ?_
            refine zs_get d_O_sure_66 gf_O_44 (sh_0 g X) rfl ?_
            refine zs_aload_n 0 d_O_sure_69 rfl (List.mem_of_getElem? (i := 0) rfl) ?_
            refine zs_get d_O_sure_70 gf_O_26 (sh_0 g X) rfl ?_
            refine zs_iload_n 1 d_O_sure_73 rfl (List.mem_of_getElem? (i := 1) rfl) ?_
            obtain ⟨p9, h⟩ := h
            refine zs_callV (kc := 0) (ks := 0) (kc1 := 0) (ks1 := 0) (st := []) [.ref 10, .int x1] d_O_sure_74 lk_O_183 ⟨by decide, by decide⟩ rfl (sh_24 g X) rfl (Nat.le_of_ble_eq_true rfl) (ex_Filling_barredInSome g X M5 x1 p9) (fun v9 sh9 M9 hR => ?_)
            obtain ⟨rfl, rfl, rfl⟩ := hR
            exact zs_iret d_O_sure_77 rfl h
          · replace h := h.2 c8
            refine zs_aload_n 0 d_O_sure_50 rfl (List.mem_of_getElem? (i := 0) rfl) ?_
            refine zs_get d_O_sure_51 gf_O_44 (sh_0 g X) rfl ?_
            refine zs_aload_n 0 d_O_sure_54 rfl (List.mem_of_getElem? (i := 0) rfl) ?_
            refine zs_get d_O_sure_55 gf_O_26 (sh_0 g X) rfl ?_
            refine zs_iload_n 1 d_O_sure_58 rfl (List.mem_of_getElem? (i := 1) rfl) ?_
            obtain ⟨p10, h⟩ := h
            refine zs_callV (kc := 0) (ks := 0) (kc1 := 0) (ks1 := 0) (st := []) [.ref 10, .int x1] d_O_sure_59 lk_O_179 ⟨by decide, by decide⟩ rfl (sh_24 g X) rfl (Nat.le_of_ble_eq_true rfl) (ex_Filling_barredInAll g X M5 x1 p10) (fun v10 sh10 M10 hR => ?_)
            obtain ⟨rfl, rfl, rfl⟩ := hR
            refine zs_goto 77 d_O_sure_62 (by decide) ?_
            exact zs_iret d_O_sure_77 rfl h
        · replace h := h.2 c7
          refine zs_bipush (-3) d_O_sure_43 (by decide) ?_
          exact zs_iret d_O_sure_45 rfl h
      · replace h := h.2 c4
        refine zs_bipush (-2) d_O_sure_19 (by decide) ?_
        exact zs_iret d_O_sure_21 rfl h
  · replace h := h.2 (bI_0 c2)
    refine zs_iconst (-1) d_O_sure_8 (by decide) ?_
    exact zs_iret d_O_sure_9 rfl h
theorem ex2_O_sure (F : zTS) (hw : kWF F) (ht : kTR M 10 F) (t w : Int32) (hh : kCnt M ∧ kDpt M ∧ kSts M) : zEx m_O_sure 0 0 [.ref 0, .int t, .int w] (SHP g X) M (qR g X (fun r M1 => kQs F t w r ∧ kAg kCS M M1)) := by
  have e11 : M 11 5 = fT F := ht.1
  have go : ∀ (r : Int32) (M5 : zMem), (kFA M M5 ∧ (∀ F, kWF F → kTR M 10 F → fW F (sN F) M5)) → r = kv_sure F M5 t w → (kQs F t w r ∧ kAg kCS M M5) := by
    intro r M5 h5 hr
    have h5t : kTR M5 10 F := kTR_ag (fun p a b => h5.1.1 p (by simp; omega)) ht
    exact ⟨Or.inl ⟨M5, h5.2 F hw ht, h5t, hr⟩, h5.1.1.mo (by decide)⟩
  have cn : ∀ M5, kFA M M5 → kCnt M5 ∧ kDpt M5 := fun M5 h5 => by
    obtain ⟨⟨a, a1, a2⟩, ⟨b, b1, b2⟩, -⟩ := hh
    exact ⟨⟨a, a1, by rw [h5.1 11 (by decide)]; exact a2⟩, ⟨b, b1, by rw [h5.1 10 (by decide)]; exact b2⟩⟩
  refine zEx_of _ (by decide) (by simp [Value.category]) (Nat.le_of_ble_eq_true rfl) rfl (vS_O_sure_0 g X M t w _ ⟨fun h => ⟨fun h2 => qR_i ⟨Or.inr ⟨fun Mw => ?_, Or.inr (Or.inl h2)⟩, kAg.rf⟩, fun h2 => ⟨fun h3 => ⟨hh, fun M5 h5 => ⟨h5.1.2, fun hz => ⟨fun h0 => ⟨⟨(cn M5 h5.1).1, (cn M5 h5.1).2, h5.1.2⟩, qR_i (go _ M5 h5 ?_)⟩, fun h0 => ⟨⟨(cn M5 h5.1).1, (cn M5 h5.1).2, h5.1.2⟩, qR_i (go _ M5 h5 ?_)⟩⟩, fun hz => qR_i (go _ M5 h5 ?_)⟩⟩, fun h3 => qR_i ⟨Or.inr ⟨fun Mw => ?_, Or.inr (Or.inr h3)⟩, kAg.rf⟩⟩⟩, fun h => qR_i ⟨Or.inr ⟨fun Mw => ?_, Or.inl (by rw [← e11, h]; decide)⟩, kAg.rf⟩⟩)
  all_goals unfold kv_sure
  · rw [← e11, if_pos h, if_pos h2]
  · rw [← e11, if_pos h, if_neg h2, if_pos h3, if_neg hz, if_neg h0]
  · rw [← e11, if_pos h, if_neg h2, if_pos h3, if_neg hz, if_pos h0]
  · rw [← e11, if_pos h, if_neg h2, if_pos h3, if_pos hz]
  · rw [← e11, if_pos h, if_neg h2, if_neg h3]
  · rw [← e11, if_neg (by rw [h]; decide)]
theorem vS_X_sure_0 (g : Nat → Option Nat) (X : List zShp) (M : zMem) (x1 x2 : Int32) (R : zEnd) (h : (((inI x1 0 (M 35 6 - 1)) = true) → ((((inI x2 0 1) = true) → (zRT m_X_sure 0 0 34 [(0, .ref 35), (1, .int x1), (2, .int x2), (3, .int 63), (4, .int 0), (5, .int 0), (6, .int 0)] [] (SHP g X) M R)) ∧ (((inI x2 0 1) = false) → (R (some (.int (-2))) (SHP g X) M)))) ∧ (((inI x1 0 (M 35 6 - 1)) = false) → (R (some (.int (-1))) (SHP g X) M))) : zRT m_X_sure 0 0 0 [(0, .ref 35), (1, .int x1), (2, .int x2)] [] (SHP g X) M R := by
  refine zs_aload_n 0 d_X_sure_0 rfl (List.mem_of_getElem? (i := 0) rfl) ?_
  refine zs_iload_n 1 d_X_sure_1 rfl (List.mem_of_getElem? (i := 1) rfl) ?_
  refine zs_callV (kc := 0) (ks := 0) (kc1 := 0) (ks1 := 0) (st := []) [.int x1] d_X_sure_2 lk_X_83 ⟨by decide, by decide⟩ rfl (sh_35 g X) rfl (Nat.le_of_ble_eq_true rfl) (ex_X_isThing g X M x1) (fun v1 sh1 M1 hR => ?_)
  obtain ⟨rfl, rfl, rfl⟩ := hR
  refine zs_if_ne 10 d_X_sure_5 (by decide) (fun c2 => ?_) (fun c2 => ?_)
  · replace h := h.1 (bI_1 c2)
    refine zs_iload_n 2 d_X_sure_10 rfl (List.mem_of_getElem? (i := 2) rfl) ?_
    refine zs_iconst 0 d_X_sure_11 (by decide) ?_
    refine zs_iconst 1 d_X_sure_12 (by decide) ?_
    refine zs_callS (kc := 0) (ks := 0) (kc1 := 0) (ks1 := 0) (st := []) [.int x2, .int 0, .int 1] d_X_sure_13 lk_X_66 ⟨by decide, by decide⟩ rfl (Nat.le_of_ble_eq_true rfl) (ex_X_in g X M x2 0 1) (fun v3 sh3 M3 hR => ?_)
    obtain ⟨rfl, rfl, rfl⟩ := hR
    refine zs_if_ne 22 d_X_sure_16 (by decide) (fun c4 => ?_) (fun c4 => ?_)
    · replace h := h.1 (bI_1 c4)
      refine zs_bipush 63 d_X_sure_22 (by decide) ?_
      refine zs_istore_n2 3 [1, 2, 3, 0] [(0, .ref 35), (1, .int x1), (2, .int x2), (3, .int 63)] d_X_sure_24 rfl (by decide) rfl ?_
      refine zs_iconst 0 d_X_sure_25 (by decide) ?_
      refine zs_istore2 [1, 2, 3, 4, 0] [(0, .ref 35), (1, .int x1), (2, .int x2), (3, .int 63), (4, .int 0)] d_X_sure_26 (by decide) rfl ?_
      refine zs_iconst 0 d_X_sure_28 (by decide) ?_
      refine zs_istore2 [1, 2, 3, 4, 5, 0] [(0, .ref 35), (1, .int x1), (2, .int x2), (3, .int 63), (4, .int 0), (5, .int 0)] d_X_sure_29 (by decide) rfl ?_
      refine zs_iconst 0 d_X_sure_31 (by decide) ?_
      refine zs_istore2 [1, 2, 3, 4, 5, 6, 0] [(0, .ref 35), (1, .int x1), (2, .int x2), (3, .int 63), (4, .int 0), (5, .int 0), (6, .int 0)] d_X_sure_32 (by decide) rfl ?_
      exact h
    · replace h := h.2 (bI_0 c4)
      refine zs_bipush (-2) d_X_sure_19 (by decide) ?_
      exact zs_iret d_X_sure_21 rfl h
  · replace h := h.2 (bI_0 c2)
    refine zs_iconst (-1) d_X_sure_8 (by decide) ?_
    exact zs_iret d_X_sure_9 rfl h
theorem vS_X_sure_34 (g : Nat → Option Nat) (X : List zShp) (M : zMem) (x1 x2 x3 x4 x5 x6 : Int32) (R : zEnd) (h : (mKo M) ∧ ((((nI (6 ^ mOp M)) ≤ x6) → (((¬ x5 = 0) → (((¬ x2 = 0) → (R (some (.int x4)) (SHP g X) M)) ∧ ((x2 = 0) → (R (some (.int x3)) (SHP g X) M)))) ∧ ((x5 = 0) → (R (some (.int (-3))) (SHP g X) M)))) ∧ ((¬ (nI (6 ^ mOp M)) ≤ x6) → ((mK M ∧ mKo M ∧ mKs M) ∧ (∀ (r5 : Int32) (M5 : zMem), (mAg M M5 ∧ (r5 = 0 ∨ r5 = 1) ∧ (∀ F Mc code, cM F Mc M → x6 = nI code → code < 1297 → (¬ r5 = 0 ↔ fGood F code) ∧ ∀ t, t < tN F → M5 41 t = fHand F code t)) → (((r5 = 0) → (zRT m_X_sure 0 0 34 [(0, .ref 35), (1, .int x1), (2, .int x2), (3, .int x3), (4, .int x4), (5, .int x5), (6, .int (x6 + 1))] [] (SHP g X) M5 R)) ∧ ((¬ r5 = 0) → ((mRw M5 x1) ∧ (zRT m_X_sure 0 0 34 [(0, .ref 35), (1, .int x1), (2, .int x2), (3, .int (x3 &&& (mWP M5 (mTc M5 x1)))), (4, .int (x4 ||| (mWP M5 (mTc M5 x1)))), (5, .int 1), (6, .int (x6 + 1))] [] (SHP g X) (mWk M5 (Int32.toNatClampNeg x1)) R))))))))) : zRT m_X_sure 0 0 34 [(0, .ref 35), (1, .int x1), (2, .int x2), (3, .int x3), (4, .int x4), (5, .int x5), (6, .int x6)] [] (SHP g X) M R := by
  refine zs_iload d_X_sure_34 (List.mem_of_getElem? (i := 6) rfl) ?_
  refine zs_aload_n 0 d_X_sure_36 rfl (List.mem_of_getElem? (i := 0) rfl) ?_
  obtain ⟨p1, h⟩ := h
  refine zs_callV (kc := 0) (ks := 0) (kc1 := 0) (ks1 := 0) (st := [.int x6]) [] d_X_sure_37 lk_X_141 ⟨by decide, by decide⟩ rfl (sh_35 g X) rfl (Nat.le_of_ble_eq_true rfl) (ex_X_codes g X M p1) (fun v1 sh1 M1 hR => ?_)
  obtain ⟨rfl, rfl, rfl⟩ := hR
  refine zs_icmp_ge 80 d_X_sure_40 (by decide) (fun c2 => ?_) (fun c2 => ?_)
  · replace h := h.1 c2
    refine zs_iload d_X_sure_80 (List.mem_of_getElem? (i := 5) rfl) ?_
    refine zs_if_ne 90 d_X_sure_82 (by decide) (fun c3 => ?_) (fun c3 => ?_)
    · replace h := h.1 c3
      refine zs_iload_n 2 d_X_sure_90 rfl (List.mem_of_getElem? (i := 2) rfl) ?_
      refine zs_if_ne 98 d_X_sure_91 (by decide) (fun c4 => ?_) (fun c4 => ?_)
      · replace h := h.1 c4
        refine zs_iload d_X_sure_98 (List.mem_of_getElem? (i := 4) rfl) ?_
        exact zs_iret d_X_sure_100 rfl h
      · replace h := h.2 c4
        refine zs_iload_n 3 d_X_sure_94 rfl (List.mem_of_getElem? (i := 3) rfl) ?_
        refine zs_goto 100 d_X_sure_95 (by decide) ?_
        exact zs_iret d_X_sure_100 rfl h
    · replace h := h.2 c3
      refine zs_bipush (-3) d_X_sure_85 (by decide) ?_
      refine zs_goto 100 d_X_sure_87 (by decide) ?_
      exact zs_iret d_X_sure_100 rfl h
  · replace h := h.2 c2
    refine zs_aload_n 0 d_X_sure_43 rfl (List.mem_of_getElem? (i := 0) rfl) ?_
    refine zs_iload d_X_sure_44 (List.mem_of_getElem? (i := 6) rfl) ?_
    obtain ⟨p5, h⟩ := h
    refine zs_callV (kc := 0) (ks := 0) (kc1 := 0) (ks1 := 0) (st := []) [.int x6] d_X_sure_46 lk_X_144 ⟨by decide, by decide⟩ rfl (sh_35 g X) rfl (Nat.le_of_ble_eq_true rfl) (ex2_X_fill g X M x6 p5) (fun v5 sh5 M5 hR => ?_)
    obtain ⟨r5, rfl, rfl, hq5⟩ := hR
    replace h := h r5 M5 hq5
    refine zs_if_eq 74 d_X_sure_49 (by decide) (fun c6 => ?_) (fun c6 => ?_)
    · replace h := h.1 c6
      refine zs_iinc2 6 (x6 + 1) [1, 2, 3, 4, 5, 6, 0] [(0, .ref 35), (1, .int x1), (2, .int x2), (3, .int x3), (4, .int x4), (5, .int x5), (6, .int (x6 + 1))] d_X_sure_74 rfl rfl (by decide) rfl ?_
      refine zs_goto 34 d_X_sure_77 (by decide) ?_
      exact h
    · replace h := h.2 c6
      refine zs_aload_n 0 d_X_sure_52 rfl (List.mem_of_getElem? (i := 0) rfl) ?_
      refine zs_iload_n 1 d_X_sure_53 rfl (List.mem_of_getElem? (i := 1) rfl) ?_
      obtain ⟨p7, h⟩ := h
      refine zs_callV (kc := 0) (ks := 0) (kc1 := 0) (ks1 := 0) (st := []) [.int x1] d_X_sure_54 lk_X_119 ⟨by decide, by decide⟩ rfl (sh_35 g X) rfl (Nat.le_of_ble_eq_true rfl) (ex_X_barredFrom g X M5 x1 p7) (fun v7 sh7 M7 hR => ?_)
      obtain ⟨rfl, rfl, rfl⟩ := hR
      refine zs_istore2 [1, 2, 3, 4, 5, 6, 7, 0] [(0, .ref 35), (1, .int x1), (2, .int x2), (3, .int x3), (4, .int x4), (5, .int x5), (6, .int x6), (7, .int (mWP M5 (mTc M5 x1)))] d_X_sure_57 (by decide) rfl ?_
      refine zs_iload_n 3 d_X_sure_59 rfl (List.mem_of_getElem? (i := 3) rfl) ?_
      refine zs_iload d_X_sure_60 (List.mem_of_getElem? (i := 7) rfl) ?_
      refine zs_iand d_X_sure_62 ?_
      refine zs_istore_n2 3 [1, 2, 3, 0, 4, 5, 6, 7] [(0, .ref 35), (1, .int x1), (2, .int x2), (3, .int (x3 &&& (mWP M5 (mTc M5 x1)))), (4, .int x4), (5, .int x5), (6, .int x6), (7, .int (mWP M5 (mTc M5 x1)))] d_X_sure_63 rfl (by decide) rfl ?_
      refine zs_iload d_X_sure_64 (List.mem_of_getElem? (i := 4) rfl) ?_
      refine zs_iload d_X_sure_66 (List.mem_of_getElem? (i := 7) rfl) ?_
      refine zs_ior d_X_sure_68 ?_
      refine zs_istore2 [1, 2, 3, 4, 0, 5, 6, 7] [(0, .ref 35), (1, .int x1), (2, .int x2), (3, .int (x3 &&& (mWP M5 (mTc M5 x1)))), (4, .int (x4 ||| (mWP M5 (mTc M5 x1)))), (5, .int x5), (6, .int x6), (7, .int (mWP M5 (mTc M5 x1)))] d_X_sure_69 (by decide) rfl ?_
      refine zs_iconst 1 d_X_sure_71 (by decide) ?_
      refine zs_istore2 [1, 2, 3, 4, 5, 0, 6, 7] [(0, .ref 35), (1, .int x1), (2, .int x2), (3, .int (x3 &&& (mWP M5 (mTc M5 x1)))), (4, .int (x4 ||| (mWP M5 (mTc M5 x1)))), (5, .int 1), (6, .int x6), (7, .int (mWP M5 (mTc M5 x1)))] d_X_sure_72 (by decide) rfl ?_
      refine zs_iinc2 6 (x6 + 1) [1, 2, 3, 4, 5, 6, 0, 7] [(0, .ref 35), (1, .int x1), (2, .int x2), (3, .int (x3 &&& (mWP M5 (mTc M5 x1)))), (4, .int (x4 ||| (mWP M5 (mTc M5 x1)))), (5, .int 1), (6, .int (x6 + 1)), (7, .int (mWP M5 (mTc M5 x1)))] d_X_sure_74 rfl rfl (by decide) rfl ?_
      refine zs_goto 34 d_X_sure_77 (by decide) ?_
      exact zRT_sub [0, 1, 2, 3, 4, 5, 6] rfl h
set_option maxHeartbeats 4000000 in
theorem ex2_X_sure (F : zTS) (Mc : zMem) (hcm : cM F Mc M) (hh : mK M ∧ mKo M ∧ mKs M) (t w r0 : Int32) (hQ : kQs F t w r0) : zEx m_X_sure 0 0 [.ref 35, .int t, .int w] (SHP g X) M (qR g X (fun r M2 => mAg M M2 ∧ r = r0)) := by
  have hw := hcm.1
  have hT : inI t 0 (M 35 6 - 1) = kIsT (fT F) t := by
    rw [hcm.2.2.2.2.2.2.1, kIsT_F hcm.1]
  refine zEx_of _ (by decide) (by simp [Value.category]) (Nat.le_of_ble_eq_true rfl) rfl (vS_X_sure_0 g X M t w _ ⟨fun h => ⟨fun h2 => ?_, fun h2 => qR_i ⟨mAg.rf, ?_⟩⟩, fun h => qR_i ⟨mAg.rf, ?_⟩⟩)
  · rw [hT] at h
    obtain ⟨w', hw', rfl⟩ := inI_nI (b := 1) (by decide) h2
    have wn : ¬ nI w' < 0 := by rw [show (0 : Int32) = nI 0 from rfl, nI_ltI (by omega) (by decide)]; omega
    have wl : nI w' ≤ 1 := nI_le (b := 1) hw' (by decide)
    rcases hQ with ⟨Mw, hW, htw, hr⟩ | ⟨-, q | q | q⟩
    · unfold kv_sure at hr
      rw [if_pos h, if_neg wn, if_pos wl] at hr
      obtain ⟨x1, x2⟩ := kIsT_n hw h
      have hA := hw.2.2.2.2.2.2.2.2.2
      have eA := mOp_F hcm
      have e6 := pow6 hA
      have ew := kWays_v hw hW
      have own6 : ∀ M1, kMF M1 F → ∀ code, (∀ t, t < tN F → M1 41 t = fHand F code t) → ∀ v, v < 32 → (bt (mWP M1 (mTc M1 t)) v = true ↔ (v < 6 ∧ fBar F code (Int32.toNatClampNeg t) v)) := by
        intro M1 hm1 code h41 v hv
        rw [x2]
        have b6 : ∀ i, bt (mTc M1 (nI (Int32.toNatClampNeg t))) i = true → i < 6 := fun i hi => by
          obtain ⟨u, u1, u2⟩ := (mTcH hw hm1 x1 i).mp hi
          have := fReach_le u1
          rw [h41 u (by omega), fHand_bt] at u2
          rcases u2 with q | ⟨_, q⟩
          · exact hand6 hw (by omega) q
          · rw [q]; exact dg_6 _ _ _
        constructor
        · intro hb
          have v6 := gP_6 hw b6 hv ((mWP_bt hw hm1 _ hv).mp hb)
          refine ⟨v6, ?_⟩
          rw [nI_clamp (by have := hw.1.2; omega)]
          exact (mBarH hw hm1 h41 x1 v6).mp hb
        · rintro ⟨v6, hb⟩
          rw [nI_clamp (by have := hw.1.2; omega)] at hb
          exact (mBarH hw hm1 h41 x1 v6).mpr hb
      generalize hAd : kAsN (fR F) (tN F) = A at *
      have L : ∀ d k M1 (x3 x4 x5 : Int32), k + d = 6 ^ A → mAg M M1 → (∀ v, v < 32 → (bt x3 v = true ↔ (v < 6 ∧ ∀ c, c < k → fGood F c → fBar F c (Int32.toNatClampNeg t) v))) → (∀ v, v < 32 → (bt x4 v = true ↔ (v < 6 ∧ ∃ c, c < k ∧ fGood F c ∧ fBar F c (Int32.toNatClampNeg t) v))) → (¬ x5 = 0 ↔ ∃ c, c < k ∧ fGood F c) → zRT m_X_sure 0 0 34 [(0, .ref 35), (1, .int t), (2, .int (nI w')), (3, .int x3), (4, .int x4), (5, .int x5), (6, .int (nI k))] [] (SHP g X) M1 (qR g X (fun r M2 => mAg M M2 ∧ r = r0)) := by
        intro d
        induction d with
        | zero =>
          intro k M1 x3 x4 x5 hk ha h3 h4 h5
          have ek : k = 6 ^ A := by omega
          subst ek
          have eA1 : mOp M1 = A := by rw [ha.op, eA]
          have cz : (kWays Mw = 0) ↔ ¬ ∃ c, c < 6 ^ A ∧ fGood F c := by
            rw [ew]
            have cl := cnt_le (fF Mw A) (6 ^ A)
            constructor
            · rintro z ⟨c, c1, c2⟩
              have z0 : cnt (fF Mw A) (6 ^ A) = 0 := (nI_eq (b := 0) (by omega) (by decide)).mp z
              have := (cnt_0 _).mp z0 c c1
              rw [fGood_f hW c, hAd, this] at c2
              cases c2
            · intro z
              rw [(cnt_0 _).mpr (fun c hc => ?_)]
              · rfl
              · cases q : fF Mw A c with
                | false => rfl
                | true => exact absurd ⟨c, hc, (fGood_f hW c).mpr (by rw [hAd]; exact q)⟩ z
          refine vS_X_sure_34 g X _ _ _ _ _ _ _ _ ⟨ha.ko hh.2.1, fun _ => ⟨fun h50 => ⟨fun h20 => qR_i ⟨ha, ?_⟩, fun h20 => qR_i ⟨ha, ?_⟩⟩, fun h50 => qR_i ⟨ha, ?_⟩⟩, fun h => absurd (by rw [eA1]; exact nI_le (Nat.le_refl _) (by omega)) h⟩
          · obtain ⟨c0, hc0, g0⟩ := h5.mp h50
            rw [hr, if_neg (fun z => (cz.mp z) ⟨c0, hc0, g0⟩), if_neg h20]
            refine b_ext (fun v hv => ?_)
            have kb := kBS_bt hw htw hW x1 hv
            rw [← x2] at kb
            rw [Bool.eq_iff_iff, h4 v hv, kb]
            have := fSome_iff g0 (by rw [hAd]; exact hc0) (Int32.toNatClampNeg t) v
            rw [hAd] at this
            rw [this]
          · obtain ⟨c0, hc0, g0⟩ := h5.mp h50
            rw [hr, if_neg (fun z => (cz.mp z) ⟨c0, hc0, g0⟩), if_pos h20]
            refine b_ext (fun v hv => ?_)
            have kb := kBA_bt hw htw hW x1 hv
            rw [← x2] at kb
            rw [Bool.eq_iff_iff, h3 v hv, kb]
            have := fAll_iff g0 (Int32.toNatClampNeg t) v
            rw [hAd] at this
            rw [this]
          · rw [hr, if_pos (cz.mpr (fun z => (h5.mpr z) h50))]
        | succ d ih =>
          intro k M1 x3 x4 x5 hk ha h3 h4 h5
          have eA1 : mOp M1 = A := by rw [ha.op, eA]
          refine vS_X_sure_34 g X _ _ _ _ _ _ _ _ ⟨ha.ko hh.2.1, fun h => absurd h (by rw [eA1]; exact nI_ge (by omega) (by omega)), fun _ => ⟨⟨ha.mk hh.1, ha.ko hh.2.1, ha.ks hh.2.2⟩, fun r5 M5 h9 => ?_⟩⟩
          obtain ⟨a9, -, h9⟩ := h9
          obtain ⟨hg, h41⟩ := h9 F Mc k (cM_ag ha hcm) rfl (by omega)
          rw [nI_1 k]
          have a5 := ha.tr a9
          refine ⟨fun r0 => ih (k + 1) M5 x3 x4 x5 (by omega) a5 (fun v hv => ?_) (fun v hv => ?_) ?_, fun r0 => ⟨(a5.mk hh.1).rw (a5.th (hh.1.th (by rw [hT]; exact h))), ih (k + 1) _ _ _ 1 (by omega) a5.wk (fun v hv => ?_) (fun v hv => ?_) ?_⟩⟩
          · rw [h3 v hv]
            have ng : ¬ fGood F k := fun z => (hg.mpr z) r0
            constructor
            · rintro ⟨v6, z⟩
              refine ⟨v6, fun c hc gc => ?_⟩
              by_cases e : c = k
              · subst e; exact absurd gc ng
              · exact z c (by omega) gc
            · rintro ⟨v6, z⟩
              exact ⟨v6, fun c hc => z c (by omega)⟩
          · rw [h4 v hv]
            have ng : ¬ fGood F k := fun z => (hg.mpr z) r0
            constructor
            · rintro ⟨v6, c, c1, c2⟩
              exact ⟨v6, c, by omega, c2⟩
            · rintro ⟨v6, c, c1, c2, c3⟩
              by_cases e : c = k
              · subst e; exact absurd c2 ng
              · exact ⟨v6, c, by omega, c2, c3⟩
          · rw [h5]
            have ng : ¬ fGood F k := fun z => (hg.mpr z) r0
            constructor
            · rintro ⟨c, c1, c2⟩
              exact ⟨c, by omega, c2⟩
            · rintro ⟨c, c1, c2⟩
              by_cases e : c = k
              · subst e; exact absurd c2 ng
              · exact ⟨c, by omega, c2⟩
          · rw [b_and, Bool.and_eq_true, h3 v hv, own6 M5 (cM_ag a5 hcm).2.2 k h41 v hv]
            have gk := hg.mp r0
            constructor
            · rintro ⟨⟨v6, z⟩, -, z2⟩
              refine ⟨v6, fun c hc gc => ?_⟩
              by_cases e : c = k
              · subst e; exact z2
              · exact z c (by omega) gc
            · rintro ⟨v6, z⟩
              exact ⟨⟨v6, fun c hc => z c (by omega)⟩, v6, z k (by omega) gk⟩
          · rw [b_or, Bool.or_eq_true, h4 v hv, own6 M5 (cM_ag a5 hcm).2.2 k h41 v hv]
            have gk := hg.mp r0
            constructor
            · rintro (⟨v6, c, c1, c2⟩ | ⟨v6, z⟩)
              · exact ⟨v6, c, by omega, c2⟩
              · exact ⟨v6, k, by omega, gk, z⟩
            · rintro ⟨v6, c, c1, c2, c3⟩
              by_cases e : c = k
              · subst e; exact Or.inr ⟨v6, c3⟩
              · exact Or.inl ⟨v6, c, by omega, c2, c3⟩
          · have gk := hg.mp r0
            exact ⟨fun _ => ⟨k, by omega, gk⟩, fun _ => by decide⟩
      refine L (6 ^ A) 0 M 63 0 0 (by omega) mAg.rf (fun v hv => ?_) (fun v hv => ?_) ?_
      · rw [b_63 v hv, decide_eq_true_iff]
        exact ⟨fun z => ⟨z, fun c hc => absurd hc (Nat.not_lt_zero c)⟩, fun z => z.1⟩
      · rw [b_0]
        exact ⟨fun z => (nomatch z), fun ⟨_, c, hc, _⟩ => absurd hc (Nat.not_lt_zero c)⟩
      · exact ⟨fun z => absurd rfl z, fun ⟨c, hc, _⟩ => absurd hc (Nat.not_lt_zero c)⟩
    · exact absurd h q
    · exact absurd q wn
    · exact absurd wl q
  · have e : ∀ Mw, kv_sure F Mw t w = -2 := fun Mw => by
      unfold kv_sure
      rw [← hT, if_pos h]
      rcases inI_f (v := w) (lo := 0) (hi := 1) (by rw [h2]; decide) with q | q
      · rw [if_pos q]
      · by_cases c1 : w < 0
        · rw [if_pos c1]
        · rw [if_neg c1, if_neg (fun z => i32_le z q)]
    rcases hQ with ⟨Mw, -, -, hr⟩ | ⟨hr, -⟩
    · rw [hr, e]
    · rw [hr Mc, e]
  · have e : ∀ Mw, kv_sure F Mw t w = -1 := fun Mw => by
      unfold kv_sure
      rw [← hT, if_neg (by rw [h]; decide)]
    rcases hQ with ⟨Mw, -, -, hr⟩ | ⟨hr, -⟩
    · rw [hr, e]
    · rw [hr Mc, e]
end zZ3
section zZ4
variable {n : Nat} {P : Nat → Int32} {F : zTS} {I : Nat → Option zTS} {M : zMem} {g : Nat → Option Nat} {X : List zShp}
theorem kPr_r {ν μ : zMI} {as : List Value} {Q : Int32 → Prop} (hok : kOk n P F I M g X)
  (h1 : zEx ν 0 0 (.ref 0 :: as) (SHP g X) M (qR g X (fun r M1 => Q r ∧ kAg kCS M M1)))
  (h2 : ∀ r M1, Q r → kMJ n P F I M1 → cM F M M1 → zEx μ 0 0 (.ref 35 :: as) (SHP g X) M1 (qR g X (fun r2 M2 => mAg M1 M2 ∧ r2 = r))) : kPr kEi 1 ν μ as M g X := by
  obtain ⟨hn, hP, hw, hc, hm⟩ := hok
  refine ⟨0, 0, by decide, zEx_mono h1 ?_⟩
  rintro v sh1 M1 ⟨x, rfl, rfl, e1, ag⟩
  have hm1 := kMJ_MS (kMS_CS ag) hm
  refine ⟨g, X, .int x, rfl, rfl, rfl, kIm_len hc.2.2.2, zEx_mono (h2 x M1 e1 hm1 ⟨hw, hc.2.2.1, hm1.2.2.1⟩) ?_⟩
  rintro v2 sh2 M2 ⟨y, rfl, rfl, a2, e2⟩
  exact ⟨.int y, rfl, rfl, ⟨n, P, F, I, hn, hP, hw, kCJ_OS (kOS_mAg a2) (kCJ_CS ag hc), kMJ_mAg a2 hm1⟩, x, rfl, by rw [e2]⟩
theorem pr_filled (hok : kOk n P F I M g X) (i : Int32) : kPr kEi 1 m_O_filled m_X_filled [.int i] M g X := kPr_r hok (ex2_O_filled g X M F hok.2.2.1 hok.2.2.2.1.2.2.1 i ⟨kCJ_cnt hok.2.2.1 hok.2.2.2.1, kCJ_dpt hok.2.2.1 hok.2.2.2.1, kCJ_sts hok.2.2.1 hok.2.2.2.1⟩) (fun r M1 ⟨Mw, hW, hr⟩ h hc => by
  rw [hr]
  exact ex2_X_filled g X M1 F M hc ⟨kMF_mK hok.2.2.1 h.2.2.1, kMF_mKo hok.2.2.1 h.2.2.1, kMF_mKs hok.2.2.1 h.2.2.1⟩ Mw hW i)
theorem pr_sure (hok : kOk n P F I M g X) (t w : Int32) : kPr kEi 1 m_O_sure m_X_sure [.int t, .int w] M g X := kPr_r hok (ex2_O_sure g X M F hok.2.2.1 hok.2.2.2.1.2.2.1 t w ⟨kCJ_cnt hok.2.2.1 hok.2.2.2.1, kCJ_dpt hok.2.2.1 hok.2.2.2.1, kCJ_sts hok.2.2.1 hok.2.2.2.1⟩) (fun r M1 hQ h hc => ex2_X_sure g X M1 F M hc ⟨kMF_mK hok.2.2.1 h.2.2.1, kMF_mKo hok.2.2.1 h.2.2.1, kMF_mKs hok.2.2.1 h.2.2.1⟩ t w r hQ)
end zZ4
