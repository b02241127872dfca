/-! filled, sure: the reference answers as the class does -/
def gd (S : Nat → Int32) : Nat → Nat → Bool
  | 0, _ => true
  | A + 1, c => gd S A (c / 6) && bt (S A) (c % 6)
theorem gd_iff (S : Nat → Int32) : ∀ A c, gd S A c = true ↔ ∀ a, a < A → bt (S a) (dg A a c) = true
  | 0, c => ⟨fun _ a h => absurd h (Nat.not_lt_zero a), fun _ => rfl⟩
  | A + 1, c => by
    show (gd S A (c / 6) && bt (S A) (c % 6)) = true ↔ _
    rw [Bool.and_eq_true, gd_iff S A (c / 6)]
    constructor
    · rintro ⟨h1, h2⟩ a ha
      by_cases e : a = A
      · subst e; rw [dg_l]; exact h2
      · rw [dg_s (by omega)]; exact h1 a (by omega)
    · intro h
      refine ⟨fun a ha => ?_, ?_⟩
      · rw [← dg_s ha]; exact h a (by omega)
      · rw [← dg_l A]; exact h A (by omega)
def cnt (f : Nat → Bool) : Nat → Nat
  | 0 => 0
  | n + 1 => cnt f n + (if f n = true then 1 else 0)
theorem cnt_le (f : Nat → Bool) : ∀ n, cnt f n ≤ n
  | 0 => Nat.le_refl _
  | n + 1 => by
    show cnt f n + _ ≤ n + 1
    have := cnt_le f n
    by_cases h : f n = true
    · rw [if_pos h]; omega
    · rw [if_neg h]; omega
theorem cnt_0 {f : Nat → Bool} : ∀ n, (cnt f n = 0 ↔ ∀ c, c < n → f c = false)
  | 0 => ⟨fun _ c h => absurd h (Nat.not_lt_zero c), fun _ => rfl⟩
  | n + 1 => by
    show cnt f n + (if f n = true then 1 else 0) = 0 ↔ _
    have ih := cnt_0 (f := f) n
    constructor
    · intro h c hc
      by_cases e : f n = true
      · rw [if_pos e] at h; omega
      · rw [if_neg e] at h
        by_cases e2 : c = n
        · subst e2; simpa using e
        · exact ih.mp (by omega) c (by omega)
    · intro h
      rw [if_neg (by rw [h n (by omega)]; decide), ih.mpr (fun c hc => h c (by omega))]
theorem cnt_mul (p q : Nat → Bool) : ∀ Q, cnt (fun c => p (c / 6) && q (c % 6)) (6 * Q) = cnt p Q * cnt q 6
  | 0 => by
    show 0 = cnt p 0 * _
    rw [show cnt p 0 = 0 from rfl, Nat.zero_mul]
  | Q + 1 => by
    rw [show 6 * (Q + 1) = 6 * Q + 1 + 1 + 1 + 1 + 1 + 1 by omega]
    have e : ∀ r, r < 6 → ((fun c => p (c / 6) && q (c % 6)) (6 * Q + r)) = (p Q && q r) := fun r hr => by
      show (p ((6 * Q + r) / 6) && q ((6 * Q + r) % 6)) = _
      rw [show (6 * Q + r) / 6 = Q by omega, show (6 * Q + r) % 6 = r by omega]
    have e0 := e 0 (by decide)
    have e1 := e 1 (by decide)
    have e2 := e 2 (by decide)
    have e3 := e 3 (by decide)
    have e4 := e 4 (by decide)
    have e5 := e 5 (by decide)
    show cnt (fun c => p (c / 6) && q (c % 6)) (6 * Q) + _ + _ + _ + _ + _ + _ = (cnt p Q + (if p Q = true then 1 else 0)) * cnt q 6
    rw [cnt_mul p q Q, Nat.add_mul]
    have c6 : cnt q 6 = (((((0 + (if q 0 = true then 1 else 0)) + (if q 1 = true then 1 else 0)) + (if q 2 = true then 1 else 0)) + (if q 3 = true then 1 else 0)) + (if q 4 = true then 1 else 0)) + (if q 5 = true then 1 else 0) := rfl
    rw [show 6 * Q + 1 + 1 + 1 + 1 + 1 = 6 * Q + 5 by omega, show 6 * Q + 1 + 1 + 1 + 1 = 6 * Q + 4 by omega, show 6 * Q + 1 + 1 + 1 = 6 * Q + 3 by omega, show 6 * Q + 1 + 1 = 6 * Q + 2 by omega]
    rw [Nat.add_zero] at e0
    rw [e0, e1, e2, e3, e4, e5]
    by_cases h : p Q = true
    · rw [if_pos h, h, Nat.one_mul, c6]
      simp only [Bool.true_and]
      omega
    · have h' : p Q = false := by simpa using h
      rw [if_neg h, h']
      simp only [Bool.false_and]
      simp
theorem bc_cnt : ∀ s, s < 64 → bc (nI s) = nI (cnt (bt (nI s)) 6) := by decide +kernel
def fs (f : Nat → Bool) : Nat → Int32
  | 0 => -6
  | n + 1 => if fs f n = -6 then (if f n = true then nI n else -6) else fs f n
theorem fs_no {f : Nat → Bool} : ∀ n, (∀ c, c < n → f c = false) → fs f n = -6
  | 0, _ => rfl
  | n + 1, h => by
    show (if fs f n = -6 then (if f n = true then nI n else -6) else fs f n) = -6
    rw [fs_no n (fun c hc => h c (by omega)), if_pos rfl, if_neg (by rw [h n (by omega)]; decide)]
theorem fs_at {f : Nat → Bool} {c : Nat} (h1 : f c = true) (h2 : ∀ d, d < c → f d = false) (hc : c < 2 ^ 31) : ∀ d, fs f (c + 1 + d) = nI c
  | 0 => by
    show (if fs f c = -6 then (if f c = true then nI c else -6) else fs f c) = nI c
    rw [fs_no c h2, if_pos rfl, if_pos h1]
  | d + 1 => by
    show (if fs f (c + 1 + d) = -6 then (if f (c + 1 + d) = true then nI (c + 1 + d) else -6) else fs f (c + 1 + d)) = nI c
    rw [fs_at h1 h2 hc d, if_neg (nI_ne6 hc)]
set_option maxRecDepth 100000 in
theorem kLO_sp0 : ∀ s, s < 64 → ((s == 0) || (decide (Int32.toNatClampNeg (kLO (nI s)) < 6) && (decide (kLO (nI s) = nI (Int32.toNatClampNeg (kLO (nI s)))) && (bt (nI s) (Int32.toNatClampNeg (kLO (nI s))) && decide (∀ j, j < Int32.toNatClampNeg (kLO (nI s)) → bt (nI s) j = false))))) = true := by decide +kernel
theorem kLO_sp {y : Int32} (h6 : ∀ i, bt y i = true → i < 6) (hc : cnt (bt y) 6 ≠ 0) : ∃ l, l < 6 ∧ kLO y = nI l ∧ bt y l = true ∧ ∀ j, j < l → bt y j = false := by
  obtain ⟨s, hs, rfl⟩ := b_set h6
  have h := kLO_sp0 s hs
  have h0 : (s == 0) = false := by
    cases q : s == 0 with
    | false => rfl
    | true =>
      have : s = 0 := by simpa using q
      subst this
      exact absurd ((cnt_0 6).mpr (fun c _ => b_0 c)) hc
  rw [h0, Bool.false_or] at h
  simp only [Bool.and_eq_true, decide_eq_true_iff] at h
  exact ⟨_, h.1, h.2.1, h.2.2.1, h.2.2.2⟩
theorem gd_first (S : Nat → Int32) : ∀ A, (∀ a, a < A → ∀ i, bt (S a) i = true → i < 6) → cnt (gd S A) (6 ^ A) ≠ 0 → ∃ c, c < 6 ^ A ∧ gd S A c = true ∧ (∀ d, d < c → gd S A d = false) ∧ ∀ a, a < A → kLO (S a) = nI (dg A a c)
  | 0, _, _ => ⟨0, by decide, rfl, fun d h => absurd h (Nat.not_lt_zero d), fun a h => absurd h (Nat.not_lt_zero a)⟩
  | A + 1, h6, hc => by
    have e : cnt (gd S (A + 1)) (6 ^ (A + 1)) = cnt (gd S A) (6 ^ A) * cnt (bt (S A)) 6 := by
      rw [Nat.pow_succ, Nat.mul_comm]
      exact cnt_mul (gd S A) (bt (S A)) (6 ^ A)
    rw [e] at hc
    have c1 : cnt (gd S A) (6 ^ A) ≠ 0 := fun q => hc (by rw [q, Nat.zero_mul])
    have c2 : cnt (bt (S A)) 6 ≠ 0 := fun q => hc (by rw [q, Nat.mul_zero])
    obtain ⟨c, h1, h2, h3, h4⟩ := gd_first S A (fun a ha => h6 a (by omega)) c1
    obtain ⟨l, l1, l2, l3, l4⟩ := kLO_sp (h6 A (by omega)) c2
    have p6 : 6 ^ (A + 1) = 6 ^ A * 6 := Nat.pow_succ ..
    refine ⟨6 * c + l, by omega, ?_, fun d hd => ?_, fun a ha => ?_⟩
    · show (gd S A ((6 * c + l) / 6) && bt (S A) ((6 * c + l) % 6)) = true
      rw [show (6 * c + l) / 6 = c by omega, show (6 * c + l) % 6 = l by omega, h2, l3]
      rfl
    · show (gd S A (d / 6) && bt (S A) (d % 6)) = false
      by_cases q : d / 6 < c
      · rw [h3 _ q]; rfl
      · rw [l4 (d % 6) (by omega), Bool.and_false]
    · by_cases q : a = A
      · subst q
        rw [dg_l, show (6 * c + l) % 6 = l by omega]; exact l2
      · rw [dg_s (by omega), show (6 * c + l) / 6 = c by omega]; exact h4 a (by omega)
theorem pow6 {A : Nat} (h : A ≤ 4) : 6 ^ A ≤ 1296 := Nat.le_trans (Nat.pow_le_pow_right (by decide) h) (by decide)
/-- the class's number of ways -/
theorem kWn_cnt (Mw : zMem) : ∀ A, (∀ a, a < A → ∀ i, bt (Mw 26 a) i = true → i < 6) → kWn Mw 1 A = nI (cnt (gd (Mw 26) A) (6 ^ A))
  | 0, _ => rfl
  | A + 1, h => by
    show kWn Mw 1 A * bc (Mw 26 A) = _
    have e : cnt (gd (Mw 26) (A + 1)) (6 ^ (A + 1)) = cnt (gd (Mw 26) A) (6 ^ A) * cnt (bt (Mw 26 A)) 6 := by
      rw [Nat.pow_succ, Nat.mul_comm]
      exact cnt_mul (gd (Mw 26) A) (bt (Mw 26 A)) (6 ^ A)
    obtain ⟨s, hs, es⟩ := b_set (h A (by omega))
    rw [kWn_cnt Mw A (fun a ha => h a (by omega)), e, ← pk_mul, es, bc_cnt s hs]
theorem kWn_z (Mw : zMem) : ∀ A, kWn Mw 0 A = 0
  | 0 => rfl
  | A + 1 => by
    show kWn Mw 0 A * _ = 0
    rw [kWn_z Mw A, Int32.zero_mul]
def fF (Mw : zMem) (A c : Nat) : Bool := !decide (Mw 24 3 = 0) && gd (Mw 26) A c
theorem kWays_v {F : zTS} {Mw : zMem} (hw : kWF F) (h : fW F (sN F) Mw) : kWays Mw = nI (cnt (fF Mw (kAsN (fR F) (tN F))) (6 ^ kAsN (fR F) (tN F))) := by
  have hA := hw.2.2.2.2.2.2.2.2.2
  have h6 : ∀ a, a < kAsN (fR F) (tN F) → ∀ i, bt (Mw 26 a) i = true → i < 6 := fun a ha i hi => by
    obtain ⟨t, t1, t2, t3⟩ := kAsN_inv (R := fR F) (tN F) a ha
    subst t3
    exact (((h.2.2 t t1 t2).2 i).mp hi).1
  unfold kWays
  rw [h.1, nI_clamp (by omega)]
  by_cases c : Mw 24 3 = 0
  · rw [if_pos c, kWn_z]
    rw [(cnt_0 _).mpr (fun d _ => by unfold fF; rw [show decide (Mw 24 3 = 0) = true by simp [c]]; rfl)]
    rfl
  · rw [if_neg c, kWn_cnt Mw _ h6]
    have e : fF Mw (kAsN (fR F) (tN F)) = gd (Mw 26) (kAsN (fR F) (tN F)) := by
      funext d
      unfold fF
      rw [show decide (Mw 24 3 = 0) = false by simp [c]]
      rfl
    rw [e]
theorem fGood_f {F : zTS} {Mw : zMem} (h : fW F (sN F) Mw) (code : Nat) : fGood F code ↔ fF Mw (kAsN (fR F) (tN F)) code = true := by
  unfold fGood fF
  rw [Bool.and_eq_true, gd_iff, ← h.2.1]
  constructor
  · rintro ⟨h1, h2⟩
    refine ⟨by simp [h1], fun a ha => ?_⟩
    obtain ⟨t, t1, t2, t3⟩ := kAsN_inv (R := fR F) (tN F) a ha
    subst t3
    exact ((h.2.2 t t1 t2).2 _).mpr (h2 t t1 t2)
  · rintro ⟨h1, h2⟩
    exact ⟨by simpa using h1, fun t t1 t2 => ((h.2.2 t t1 t2).2 _).mp (h2 _ (kAsN_lt t1 t2))⟩
section zY1
variable (g : Nat → Option Nat) (X : List zShp) (M : zMem)
theorem vS_O_filled_0 (g : Nat → Option Nat) (X : List zShp) (M : zMem) (x1 : Int32) (R : zEnd) (h : (kCnt M ∧ kDpt M ∧ kSts M) ∧ (∀ (M1 : zMem), (kFA M M1 ∧ (∀ F, kWF F → kTR M 10 F → fW F (sN F) M1)) → (((¬ x1 = (-1)) → ((kAsk M1) ∧ (R (some (.int (kFM M1 x1))) (SHP g X) M1))) ∧ ((x1 = (-1)) → ((kAsk M1) ∧ (R (some (.int (kWays M1))) (SHP g X) M1)))))) : zRT m_O_filled 0 0 0 [(0, .ref 0), (1, .int x1)] [] (SHP g X) M R := by
  refine zs_aload_n 0 d_O_filled_0 rfl (List.mem_of_getElem? (i := 0) rfl) ?_
  refine zs_get d_O_filled_1 gf_O_44 (sh_0 g X) rfl ?_
  refine zs_aload_n 0 d_O_filled_4 rfl (List.mem_of_getElem? (i := 0) rfl) ?_
  refine zs_get d_O_filled_5 gf_O_26 (sh_0 g X) rfl ?_
  obtain ⟨p1, h⟩ := h
  refine zs_callV (kc := 0) (ks := 0) (kc1 := 0) (ks1 := 0) (st := []) [.ref 10] d_O_filled_8 lk_O_169 ⟨by decide, by decide⟩ rfl (sh_24 g X) rfl (Nat.le_of_ble_eq_true rfl) (ex2_Filling_weigh g X M p1) (fun v1 sh1 M1 hR => ?_)
  obtain ⟨rfl, rfl, hq1⟩ := hR
  replace h := h M1 hq1
  refine zs_iload_n 1 d_O_filled_11 rfl (List.mem_of_getElem? (i := 1) rfl) ?_
  refine zs_iconst (-1) d_O_filled_12 (by decide) ?_
  refine zs_icmp_ne 24 d_O_filled_13 (by decide) (fun c2 => ?_) (fun c2 => ?_)
  · replace h := h.1 c2
    refine zs_aload_n 0 d_O_filled_24 rfl (List.mem_of_getElem? (i := 0) rfl) ?_
    refine zs_get d_O_filled_25 gf_O_44 (sh_0 g X) rfl ?_
    refine zs_iload_n 1 d_O_filled_28 rfl (List.mem_of_getElem? (i := 1) rfl) ?_
    obtain ⟨p3, h⟩ := h
    refine zs_callV (kc := 0) (ks := 0) (kc1 := 0) (ks1 := 0) (st := []) [.int x1] d_O_filled_29 lk_O_176 ⟨by decide, by decide⟩ rfl (sh_24 g X) rfl (Nat.le_of_ble_eq_true rfl) (ex_Filling_firstMan g X M1 x1 p3) (fun v3 sh3 M3 hR => ?_)
    obtain ⟨rfl, rfl, rfl⟩ := hR
    exact zs_iret d_O_filled_32 rfl h
  · replace h := h.2 c2
    refine zs_aload_n 0 d_O_filled_16 rfl (List.mem_of_getElem? (i := 0) rfl) ?_
    refine zs_get d_O_filled_17 gf_O_44 (sh_0 g X) rfl ?_
    obtain ⟨p4, h⟩ := h
    refine zs_callV (kc := 0) (ks := 0) (kc1 := 0) (ks1 := 0) (st := []) [] d_O_filled_20 lk_O_173 ⟨by decide, by decide⟩ rfl (sh_24 g X) rfl (Nat.le_of_ble_eq_true rfl) (ex_Filling_ways g X M1 p4) (fun v4 sh4 M4 hR => ?_)
    obtain ⟨rfl, rfl, rfl⟩ := hR
    exact zs_iret d_O_filled_23 rfl h
theorem ex2_O_filled (F : zTS) (hw : kWF F) (ht : kTR M 10 F) (i : Int32) (hh : kCnt M ∧ kDpt M ∧ kSts M) : zEx m_O_filled 0 0 [.ref 0, .int i] (SHP g X) M (qR g X (fun r M1 => (∃ Mw, fW F (sN F) Mw ∧ r = if i = -1 then kWays Mw else kFM Mw i) ∧ kAg kCS M M1)) := by
  refine zEx_of _ (by decide) (by simp [Value.category]) (Nat.le_of_ble_eq_true rfl) rfl (vS_O_filled_0 g X M i _ ⟨hh, fun M1 h1 => ⟨fun c => ⟨h1.1.2, qR_i ⟨⟨M1, h1.2 F hw ht, (if_neg c).symm⟩, h1.1.1.mo (by decide)⟩⟩, fun c => ⟨h1.1.2, qR_i ⟨⟨M1, h1.2 F hw ht, (if_pos c).symm⟩, h1.1.1.mo (by decide)⟩⟩⟩⟩)
theorem vS_X_filled_0 (g : Nat → Option Nat) (X : List zShp) (M : zMem) (x1 : Int32) (R : zEnd) (h : zRT m_X_filled 0 0 8 [(0, .ref 35), (1, .int x1), (2, .int 0), (3, .int (-6)), (4, .int 0)] [] (SHP g X) M R) : zRT m_X_filled 0 0 0 [(0, .ref 35), (1, .int x1)] [] (SHP g X) M R := by
  refine zs_iconst 0 d_X_filled_0 (by decide) ?_
  refine zs_istore_n2 2 [1, 2, 0] [(0, .ref 35), (1, .int x1), (2, .int 0)] d_X_filled_1 rfl (by decide) rfl ?_
  refine zs_bipush (-6) d_X_filled_2 (by decide) ?_
  refine zs_istore_n2 3 [1, 2, 3, 0] [(0, .ref 35), (1, .int x1), (2, .int 0), (3, .int (-6))] d_X_filled_4 rfl (by decide) rfl ?_
  refine zs_iconst 0 d_X_filled_5 (by decide) ?_
  refine zs_istore2 [1, 2, 3, 4, 0] [(0, .ref 35), (1, .int x1), (2, .int 0), (3, .int (-6)), (4, .int 0)] d_X_filled_6 (by decide) rfl ?_
  exact h
theorem vS_X_filled_8 (g : Nat → Option Nat) (X : List zShp) (M : zMem) (x1 x2 x3 x4 : Int32) (R : zEnd) (h : (mKo M) ∧ ((((nI (6 ^ mOp M)) ≤ x4) → (((¬ x1 = (-1)) → (((x3 < 0) → (R (some (.int (-6))) (SHP g X) M)) ∧ ((¬ x3 < 0) → ((mKo M) ∧ ((((inI x1 0 ((nI (mOp M)) - 1)) = false) → (R (some (.int (-6))) (SHP g X) M)) ∧ (((inI x1 0 ((nI (mOp M)) - 1)) = true) → ((mKo M ∧ ¬ x1 < 0) ∧ (∀ (r8 : Int32) (M8 : zMem), (M8 = M ∧ (∀ code kk : Nat, x3 = nI code → code < 1297 → x1 = nI kk → kk < mOp M → r8 = nI (dg (mOp M) kk code))) → (R (some (.int r8)) (SHP g X) M8))))))))) ∧ ((x1 = (-1)) → (R (some (.int x2)) (SHP g X) M)))) ∧ ((¬ (nI (6 ^ mOp M)) ≤ x4) → ((mK M ∧ mKo M ∧ mKs M) ∧ (∀ (r9 : Int32) (M9 : zMem), (mAg M M9 ∧ (r9 = 0 ∨ r9 = 1) ∧ (∀ F Mc code, cM F Mc M → x4 = nI code → code < 1297 → (¬ r9 = 0 ↔ fGood F code) ∧ ∀ t, t < tN F → M9 41 t = fHand F code t)) → (((r9 = 0) → (zRT m_X_filled 0 0 8 [(0, .ref 35), (1, .int x1), (2, .int x2), (3, .int x3), (4, .int (x4 + 1))] [] (SHP g X) M9 R)) ∧ ((¬ r9 = 0) → (((0 ≤ x3) → (zRT m_X_filled 0 0 8 [(0, .ref 35), (1, .int x1), (2, .int (x2 + 1)), (3, .int x3), (4, .int (x4 + 1))] [] (SHP g X) M9 R)) ∧ ((¬ 0 ≤ x3) → (zRT m_X_filled 0 0 8 [(0, .ref 35), (1, .int x1), (2, .int (x2 + 1)), (3, .int x4), (4, .int (x4 + 1))] [] (SHP g X) M9 R)))))))))) : zRT m_X_filled 0 0 8 [(0, .ref 35), (1, .int x1), (2, .int x2), (3, .int x3), (4, .int x4)] [] (SHP g X) M R := by
  refine zs_iload d_X_filled_8 (List.mem_of_getElem? (i := 4) rfl) ?_
  refine zs_aload_n 0 d_X_filled_10 rfl (List.mem_of_getElem? (i := 0) rfl) ?_
  obtain ⟨p1, h⟩ := h
  refine zs_callV (kc := 0) (ks := 0) (kc1 := 0) (ks1 := 0) (st := [.int x4]) [] d_X_filled_11 lk_X_141 ⟨by decide, by decide⟩ rfl (sh_35 g X) rfl (Nat.le_of_ble_eq_true rfl) (ex_X_codes g X M p1) (fun v1 sh1 M1 hR => ?_)
  obtain ⟨rfl, rfl, rfl⟩ := hR
  refine zs_icmp_ge 46 d_X_filled_14 (by decide) (fun c2 => ?_) (fun c2 => ?_)
  · replace h := h.1 c2
    refine zs_iload_n 1 d_X_filled_46 rfl (List.mem_of_getElem? (i := 1) rfl) ?_
    refine zs_iconst (-1) d_X_filled_47 (by decide) ?_
    refine zs_icmp_ne 53 d_X_filled_48 (by decide) (fun c3 => ?_) (fun c3 => ?_)
    · replace h := h.1 c3
      refine zs_iload_n 3 d_X_filled_53 rfl (List.mem_of_getElem? (i := 3) rfl) ?_
      refine zs_if_lt 80 d_X_filled_54 (by decide) (fun c4 => ?_) (fun c4 => ?_)
      · replace h := h.1 c4
        refine zs_bipush (-6) d_X_filled_80 (by decide) ?_
        exact zs_iret d_X_filled_82 rfl h
      · replace h := h.2 c4
        refine zs_iload_n 1 d_X_filled_57 rfl (List.mem_of_getElem? (i := 1) rfl) ?_
        refine zs_iconst 0 d_X_filled_58 (by decide) ?_
        refine zs_aload_n 0 d_X_filled_59 rfl (List.mem_of_getElem? (i := 0) rfl) ?_
        obtain ⟨p5, h⟩ := h
        refine zs_callV (kc := 0) (ks := 0) (kc1 := 0) (ks1 := 0) (st := [.int 0, .int x1]) [] d_X_filled_60 lk_X_135 ⟨by decide, by decide⟩ rfl (sh_35 g X) rfl (Nat.le_of_ble_eq_true rfl) (ex_X_opens g X M p5) (fun v5 sh5 M5 hR => ?_)
        obtain ⟨rfl, rfl, rfl⟩ := hR
        refine zs_iconst 1 d_X_filled_63 (by decide) ?_
        refine zs_isub d_X_filled_64 ?_
        refine zs_callS (kc := 0) (ks := 0) (kc1 := 0) (ks1 := 0) (st := []) [.int x1, .int 0, .int ((nI (mOp M)) - 1)] d_X_filled_65 lk_X_66 ⟨by decide, by decide⟩ rfl (Nat.le_of_ble_eq_true rfl) (ex_X_in g X M x1 0 ((nI (mOp M)) - 1)) (fun v6 sh6 M6 hR => ?_)
        obtain ⟨rfl, rfl, rfl⟩ := hR
        refine zs_if_eq 80 d_X_filled_68 (by decide) (fun c7 => ?_) (fun c7 => ?_)
        · replace h := h.1 (bI_0 c7)
          refine zs_bipush (-6) d_X_filled_80 (by decide) ?_
          exact zs_iret d_X_filled_82 rfl h
        · replace h := h.2 (bI_1 c7)
          refine zs_aload_n 0 d_X_filled_71 rfl (List.mem_of_getElem? (i := 0) rfl) ?_
          refine zs_iload_n 3 d_X_filled_72 rfl (List.mem_of_getElem? (i := 3) rfl) ?_
          refine zs_iload_n 1 d_X_filled_73 rfl (List.mem_of_getElem? (i := 1) rfl) ?_
          obtain ⟨p8, h⟩ := h
          refine zs_callV (kc := 0) (ks := 0) (kc1 := 0) (ks1 := 0) (st := []) [.int x3, .int x1] d_X_filled_74 lk_X_138 ⟨by decide, by decide⟩ rfl (sh_35 g X) rfl (Nat.le_of_ble_eq_true rfl) (ex2_X_manAt g X M x3 x1 p8) (fun v8 sh8 M8 hR => ?_)
          obtain ⟨r8, rfl, rfl, hq8⟩ := hR
          replace h := h r8 M8 hq8
          refine zs_goto 82 d_X_filled_77 (by decide) ?_
          exact zs_iret d_X_filled_82 rfl h
    · replace h := h.2 c3
      refine zs_iload_n 2 d_X_filled_51 rfl (List.mem_of_getElem? (i := 2) rfl) ?_
      exact zs_iret d_X_filled_52 rfl h
  · replace h := h.2 c2
    refine zs_aload_n 0 d_X_filled_17 rfl (List.mem_of_getElem? (i := 0) rfl) ?_
    refine zs_iload d_X_filled_18 (List.mem_of_getElem? (i := 4) rfl) ?_
    obtain ⟨p9, h⟩ := h
    refine zs_callV (kc := 0) (ks := 0) (kc1 := 0) (ks1 := 0) (st := []) [.int x4] d_X_filled_20 lk_X_144 ⟨by decide, by decide⟩ rfl (sh_35 g X) rfl (Nat.le_of_ble_eq_true rfl) (ex2_X_fill g X M x4 p9) (fun v9 sh9 M9 hR => ?_)
    obtain ⟨r9, rfl, rfl, hq9⟩ := hR
    replace h := h r9 M9 hq9
    refine zs_if_eq 40 d_X_filled_23 (by decide) (fun c10 => ?_) (fun c10 => ?_)
    · replace h := h.1 c10
      refine zs_iinc2 4 (x4 + 1) [1, 2, 3, 4, 0] [(0, .ref 35), (1, .int x1), (2, .int x2), (3, .int x3), (4, .int (x4 + 1))] d_X_filled_40 rfl rfl (by decide) rfl ?_
      refine zs_goto 8 d_X_filled_43 (by decide) ?_
      exact h
    · replace h := h.2 c10
      refine zs_iload_n 3 d_X_filled_26 rfl (List.mem_of_getElem? (i := 3) rfl) ?_
      refine zs_if_ge 35 d_X_filled_27 (by decide) (fun c11 => ?_) (fun c11 => ?_)
      · replace h := h.1 c11
        refine zs_iload_n 3 d_X_filled_35 rfl (List.mem_of_getElem? (i := 3) rfl) ?_
        refine zs_istore_n2 3 [1, 2, 3, 0, 4] [(0, .ref 35), (1, .int x1), (2, .int x2), (3, .int x3), (4, .int x4)] d_X_filled_36 rfl (by decide) rfl ?_
        refine zs_iinc2 2 (x2 + 1) [1, 2, 0, 3, 4] [(0, .ref 35), (1, .int x1), (2, .int (x2 + 1)), (3, .int x3), (4, .int x4)] d_X_filled_37 rfl rfl (by decide) rfl ?_
        refine zs_iinc2 4 (x4 + 1) [1, 2, 3, 4, 0] [(0, .ref 35), (1, .int x1), (2, .int (x2 + 1)), (3, .int x3), (4, .int (x4 + 1))] d_X_filled_40 rfl rfl (by decide) rfl ?_
        refine zs_goto 8 d_X_filled_43 (by decide) ?_
        exact h
      · replace h := h.2 c11
        refine zs_iload d_X_filled_30 (List.mem_of_getElem? (i := 4) rfl) ?_
        refine zs_goto 36 d_X_filled_32 (by decide) ?_
        refine zs_istore_n2 3 [1, 2, 3, 0, 4] [(0, .ref 35), (1, .int x1), (2, .int x2), (3, .int x4), (4, .int x4)] d_X_filled_36 rfl (by decide) rfl ?_
        refine zs_iinc2 2 (x2 + 1) [1, 2, 0, 3, 4] [(0, .ref 35), (1, .int x1), (2, .int (x2 + 1)), (3, .int x4), (4, .int x4)] d_X_filled_37 rfl rfl (by decide) rfl ?_
        refine zs_iinc2 4 (x4 + 1) [1, 2, 3, 4, 0] [(0, .ref 35), (1, .int x1), (2, .int (x2 + 1)), (3, .int x4), (4, .int (x4 + 1))] d_X_filled_40 rfl rfl (by decide) rfl ?_
        refine zs_goto 8 d_X_filled_43 (by decide) ?_
        exact h
theorem ex2_X_filled (F : zTS) (Mc : zMem) (hcm : cM F Mc M) (hh : mK M ∧ mKo M ∧ mKs M) (Mw : zMem) (hW : fW F (sN F) Mw) (i : Int32) : zEx m_X_filled 0 0 [.ref 35, .int i] (SHP g X) M (qR g X (fun r M2 => mAg M M2 ∧ r = if i = -1 then kWays Mw else kFM Mw i)) := by
  have hA := hcm.1.2.2.2.2.2.2.2.2.2
  have hw := hcm.1
  have eA := mOp_F hcm
  have e6 := pow6 hA
  have ew := kWays_v hw hW
  generalize hAd : kAsN (fR F) (tN F) = A at *
  have fb : ∀ c, fF Mw A c = true → Mw 24 3 ≠ 0 := fun c h => by
    unfold fF at h
    rw [Bool.and_eq_true] at h
    simpa using h.1
  have h6 : ∀ a, a < A → ∀ i, bt (Mw 26 a) i = true → i < 6 := fun a ha i hi => by
    obtain ⟨t, t1, t2, t3⟩ := kAsN_inv (R := fR F) (tN F) a (by rw [hAd]; exact ha)
    subst t3
    exact (((hW.2.2 t t1 t2).2 i).mp hi).1
  have L : ∀ d k M1, k + d = 6 ^ A → mAg M M1 → zRT m_X_filled 0 0 8 [(0, .ref 35), (1, .int i), (2, .int (nI (cnt (fF Mw A) k))), (3, .int (fs (fF Mw A) k)), (4, .int (nI k))] [] (SHP g X) M1 (qR g X (fun r M2 => mAg M M2 ∧ r = if i = -1 then kWays Mw else kFM Mw i)) := by
    intro d
    induction d with
    | zero =>
      intro k M1 hk ha
      have ek : k = 6 ^ A := by omega
      subst ek
      have eA1 : mOp M1 = A := by rw [ha.op, eA]
      refine vS_X_filled_8 g X _ _ _ _ _ _ ⟨ha.ko hh.2.1, fun _ => ⟨fun hi => ⟨fun h3 => qR_i ⟨ha, ?_⟩, fun h3 => ⟨ha.ko hh.2.1, fun h4 => qR_i ⟨ha, ?_⟩, fun h4 => ⟨⟨ha.ko hh.2.1, (inI_t h4).1⟩, fun r8 M8 h8 => ?_⟩⟩⟩, fun hi => qR_i ⟨ha, ?_⟩⟩, fun h => absurd (by rw [eA1]; exact nI_le (Nat.le_refl _) (by omega)) h⟩
      · rw [if_neg hi]
        have c0 : cnt (fF Mw A) (6 ^ A) = 0 := by
          refine (cnt_0 _).mpr (fun c hc => ?_)
          cases q : fF Mw A c with
          | false => rfl
          | true =>
            exfalso
            have c1 : cnt (gd (Mw 26) A) (6 ^ A) ≠ 0 := fun z => by
              have := (cnt_0 _).mp z c hc
              unfold fF at q
              rw [this, Bool.and_false] at q
              cases q
            obtain ⟨c2, g1, g2, g3, g4⟩ := gd_first (Mw 26) A h6 c1
            have hn := fb c q
            have f1 : fF Mw A c2 = true := by unfold fF; rw [g2]; simp [hn]
            have f2 : ∀ d, d < c2 → fF Mw A d = false := fun d hd => by unfold fF; rw [g3 d hd, Bool.and_false]
            have := fs_at f1 f2 (by omega) (6 ^ A - (c2 + 1))
            rw [show c2 + 1 + (6 ^ A - (c2 + 1)) = 6 ^ A by omega] at this
            rw [this, show (0 : Int32) = nI 0 from rfl, nI_ltI (by omega) (by decide)] at h3
            omega
        rw [c0] at ew
        unfold kFM
        by_cases q1 : i < 0
        · rw [if_pos q1]
        · rw [if_neg q1]
          by_cases q2 : Mw 24 2 ≤ i
          · rw [if_pos q2]
          · rw [if_neg q2, ew, if_pos (show nI 0 = 0 from rfl)]
      · rw [if_neg hi]
        unfold kFM
        by_cases q1 : i < 0
        · rw [if_pos q1]
        · rw [if_neg q1]
          by_cases q2 : Mw 24 2 ≤ i
          · rw [if_pos q2]
          · exfalso
            obtain ⟨j, hj, rfl⟩ := nI_of q1
            rw [hW.1, hAd, nI_leI (by omega) hj] at q2
            rw [eA1, show (1 : Int32) = nI 1 from rfl, pk_sub (by omega)] at h4
            have : inI (nI j) 0 (nI (A - 1)) = true := inI_i q1 (by rw [nI_ltI (by omega) hj]; omega)
            rw [this] at h4; cases h4
      · obtain ⟨rfl, h8⟩ := h8
        refine qR_i ⟨ha, ?_⟩
        rw [if_neg hi]
        have A0 : 0 < A := by
          by_cases z : A = 0
          · exfalso
            rw [eA1, z] at h4
            obtain ⟨z1, z2⟩ := inI_t h4
            apply z2
            rw [Int32.lt_iff_toInt_lt]
            rw [Int32.lt_iff_toInt_lt] at z1
            have e0 : (0 : Int32).toInt = 0 := rfl
            have e1 : (nI 0 - 1).toInt = -1 := by decide
            omega
          · omega
        rw [eA1, show (1 : Int32) = nI 1 from rfl, pk_sub (by omega)] at h4
        obtain ⟨j, hj, rfl⟩ := inI_nI (by omega) h4
        have cn : cnt (fF Mw A) (6 ^ A) ≠ 0 := fun z => by
          have := fs_no (f := fF Mw A) (6 ^ A) ((cnt_0 _).mp z)
          rw [this] at h3
          exact h3 (by decide)
        have ⟨c, hc, hfc⟩ : ∃ c, c < 6 ^ A ∧ fF Mw A c = true := by
          by_cases z : ∃ c, c < 6 ^ A ∧ fF Mw A c = true
          · exact z
          · exfalso
            refine cn ((cnt_0 _).mpr (fun c hc => ?_))
            cases q : fF Mw A c with
            | false => rfl
            | true => exact absurd ⟨c, hc, q⟩ z
        have hn := fb c hfc
        have c1 : cnt (gd (Mw 26) A) (6 ^ A) ≠ 0 := fun z => by
          have := (cnt_0 _).mp z c hc
          unfold fF at hfc
          rw [this, Bool.and_false] at hfc
          cases hfc
        obtain ⟨c2, g1, g2, g3, g4⟩ := gd_first (Mw 26) A h6 c1
        have f1 : fF Mw A c2 = true := by unfold fF; rw [g2]; simp [hn]
        have f2 : ∀ d, d < c2 → fF Mw A d = false := fun d hd => by unfold fF; rw [g3 d hd, Bool.and_false]
        have ef := fs_at f1 f2 (by omega) (6 ^ A - (c2 + 1))
        rw [show c2 + 1 + (6 ^ A - (c2 + 1)) = 6 ^ A by omega] at ef
        rw [h8 c2 j ef (by omega) rfl (by rw [eA1]; omega), eA1]
        unfold kFM
        rw [if_neg (by rw [show (0 : Int32) = nI 0 from rfl, nI_ltI (by omega) (by decide)]; omega), hW.1, hAd, if_neg (nI_ge (by omega) (by omega)), ew, if_neg (nI_ne0 (by omega) (by have := cnt_le (fF Mw A) (6 ^ A); omega)), nI_clamp (by omega), g4 j (by omega)]
      · rw [if_pos hi, ew]
    | succ d ih =>
      intro k M1 hk ha
      have eA1 : mOp M1 = A := by rw [ha.op, eA]
      refine vS_X_filled_8 g X _ _ _ _ _ _ ⟨ha.ko hh.2.1, fun h => absurd h (by rw [eA1]; exact nI_ge (by omega) (by omega)), fun _ => ⟨⟨ha.mk hh.1, ha.ko hh.2.1, ha.ks hh.2.2⟩, fun r9 M9 h9 => ?_⟩⟩
      obtain ⟨a9, -, h9⟩ := h9
      have hg := (h9 F Mc k (cM_ag ha hcm) rfl (by omega)).1
      rw [fGood_f hW k, hAd] at hg
      rw [nI_1 k]
      have nx := ih (k + 1) M9 (by omega) (ha.tr a9)
      have sc : cnt (fF Mw A) (k + 1) = cnt (fF Mw A) k + (if fF Mw A k = true then 1 else 0) := rfl
      have sf : fs (fF Mw A) (k + 1) = if fs (fF Mw A) k = -6 then (if fF Mw A k = true then nI k else -6) else fs (fF Mw A) k := rfl
      have neg : (0 ≤ fs (fF Mw A) k) ↔ ¬ fs (fF Mw A) k = -6 := by
        by_cases z : ∃ c, c < k ∧ fF Mw A c = true
        · have lst : ∀ k, k ≤ 1296 → (∃ c, c < k ∧ fF Mw A c = true) → ∃ c, c < k ∧ fs (fF Mw A) k = nI c := by
            intro k
            induction k with
            | zero => rintro _ ⟨c, h, _⟩; exact absurd h (Nat.not_lt_zero c)
            | succ k ihk =>
              rintro hk6 ⟨c, h1, h2⟩
              show ∃ c, c < k + 1 ∧ (if fs (fF Mw A) k = -6 then (if fF Mw A k = true then nI k else -6) else fs (fF Mw A) k) = nI c
              by_cases z2 : ∃ c, c < k ∧ fF Mw A c = true
              · obtain ⟨c3, h3, h4⟩ := ihk (by omega) z2
                by_cases z3 : fs (fF Mw A) k = -6
                · rw [if_pos z3]
                  by_cases z4 : fF Mw A k = true
                  · rw [if_pos z4]; exact ⟨k, by omega, rfl⟩
                  · exfalso
                    exact nI_ne6 (k := c3) (by omega) (h4.symm.trans z3)
                · rw [if_neg z3]; exact ⟨c3, by omega, h4⟩
              · have e1 : c = k := by
                  by_cases e1 : c = k
                  · exact e1
                  · exact absurd ⟨c, by omega, h2⟩ z2
                subst e1
                rw [fs_no c (fun d hd => by
                  cases q : fF Mw A d with
                  | false => rfl
                  | true => exact absurd ⟨d, hd, q⟩ z2), if_pos rfl, if_pos h2]
                exact ⟨c, by omega, rfl⟩
          obtain ⟨c, h1, h2⟩ := lst k (by omega) z
          rw [h2]
          exact ⟨fun _ => nI_ne6 (by omega), fun _ => nI_le (a := 0) (by omega) (by omega)⟩
        · rw [fs_no k (fun d hd => by
            cases q : fF Mw A d with
            | false => rfl
            | true => exact absurd ⟨d, hd, q⟩ z)]
          decide
      refine ⟨fun r0 => ?_, fun r0 => ?_⟩
      · have hf : ¬ fF Mw A k = true := fun z => (hg.mpr z) r0
        rw [sc, if_neg hf, Nat.add_zero, sf] at nx
        by_cases z : fs (fF Mw A) k = -6
        · rw [if_pos z, if_neg hf] at nx
          rw [z]; exact nx
        · rw [if_neg z] at nx
          exact nx
      · have hf := hg.mp r0
        rw [sc, if_pos hf, sf] at nx
        rw [nI_1]
        refine ⟨fun z => ?_, fun z => ?_⟩
        · rw [if_neg (neg.mp z)] at nx
          exact nx
        · have z6 : fs (fF Mw A) k = -6 := by
            by_cases q : fs (fF Mw A) k = -6
            · exact q
            · exact absurd (neg.mpr q) z
          rw [if_pos z6, if_pos hf] at nx
          exact nx
  refine zEx_of _ (by decide) (by simp [Value.category]) (Nat.le_of_ble_eq_true rfl) rfl (vS_X_filled_0 g X M i _ ?_)
  exact L (6 ^ A) 0 M (by omega) mAg.rf
end zY1
