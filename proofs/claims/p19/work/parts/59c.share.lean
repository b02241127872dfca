/-! share, touched: the reference answers as the class does -/
def dv (j : Nat) : Nat := 2 ^ (9 - (j - 1))
theorem dv_le {i j : Nat} (h : i ≤ j) : dv j ∣ dv i := Nat.pow_dvd_pow 2 (by omega)
theorem dv_2 {k : Nat} (h1 : 2 ≤ k) (h2 : k ≤ 9) : dv (k - 1) = 2 * dv k := by
  unfold dv
  rw [show 9 - (k - 1 - 1) = (9 - (k - 1)) + 1 by omega, Nat.pow_succ]
  omega
theorem dv_512 (k : Nat) : dv k ∣ 512 := Nat.pow_dvd_pow 2 (n := 9) (by omega)
theorem half_2 {a b k : Nat} (h1 : 2 ≤ k) (h2 : k ≤ 9) (ha : dv (k - 1) ∣ a) (hb : dv (k - 1) ∣ b) : dv k ∣ (a + b) / 2 ∧ 2 * ((a + b) / 2) = a + b := by
  rw [dv_2 h1 h2] at ha hb
  obtain ⟨x, rfl⟩ := ha
  obtain ⟨y, rfl⟩ := hb
  have e : 2 * dv k * x + 2 * dv k * y = 2 * (dv k * x + dv k * y) := by
    rw [Nat.mul_add, Nat.mul_assoc, Nat.mul_assoc]
  rw [e, Nat.mul_div_cancel_left _ (by decide)]
  exact ⟨Nat.dvd_add (Nat.dvd_mul_right _ _) (Nat.dvd_mul_right _ _), rfl⟩
set_option maxRecDepth 100000 in
theorem own_1 : ∀ h, h < 64 → pc6 h ≤ 3 → ∀ m, m < 6 → hb (nI h) (nI m) = true → ∃ c, c < 4 ∧ 0 < c ∧ bt6 (nI h) = nI c ∧ kPh (nI h) (nI m) = nI (2 * (3072 / c)) ∧ 512 ∣ 3072 / c := by
  have e : ∀ h, h < 64 → ∀ m, m < 6 → (!decide (pc6 h ≤ 3) || (!hb (nI h) (nI m) || (decide (0 < pc6 h) && (decide (bt6 (nI h) = nI (pc6 h)) && (decide (kPh (nI h) (nI m) = nI (2 * (3072 / pc6 h))) && decide ((3072 / pc6 h) % 512 = 0)))))) = true := by decide +kernel
  intro h h1 h2 m h3 h4
  have q := e h h1 m h3
  simp only [h2, h4, decide_true, Bool.not_true, Bool.false_or, Bool.and_eq_true, decide_eq_true_iff] at q
  obtain ⟨a1, a2, a3, a4⟩ := q
  exact ⟨pc6 h, by omega, a1, a2, a3, Nat.dvd_of_mod_eq_zero a4⟩
theorem own_0 {h m : Int32} (hf : hb h m = false) : kPh h m = 0 := by
  unfold kPh
  rw [if_neg (by rw [hf]; decide : ¬ hb h m = true)]
  by_cases c : bc h = 0
  · rw [if_pos c]
  · rw [if_neg c]
theorem ahd_nI {a k : Nat} (ha : a < k) (hk : k ≤ 10) : ahd (nI a) (nI k) = true := by
  unfold ahd
  have h1 : ¬ nI a < 0 := by rw [show (0 : Int32) = nI 0 from rfl, nI_ltI (by omega) (by decide)]; omega
  have h2 : ¬ nI k ≤ nI a := nI_ge ha (by omega)
  simp [h1, h2]
theorem ahd_6 (k : Int32) : ahd (-6) k = false := by
  unfold ahd
  rw [show decide ((-6 : Int32) < 0) = true from rfl]
  rfl
/-- a share at k, by the shares before it -/
theorem kPt_k {F : zTS} {Mc : zMem} (hw : kWF F) (ht : kTR Mc 10 F) {k : Nat} (hk : k < tN F) (m : Int32) : kPt Mc m (k + 1) k = if fR F (5 * k + 1) = -6 then kPh (fR F (5 * k)) m else if fR F (5 * k + 2) = -6 then kPt Mc m k (Int32.toNatClampNeg (fR F (5 * k + 1))) else (kPt Mc m k (Int32.toNatClampNeg (fR F (5 * k + 1))) + kPt Mc m k (Int32.toNatClampNeg (fR F (5 * k + 2)))) / 2 := by
  have h10 := hw.1.2
  obtain ⟨r0, r1, r2, r3, r4⟩ := ht.2.2.2.2.2.2.2.2 k hk
  have hc := kRow_cell (hw.2.2.2.2.2.2.2.2.1 k hk)
  show upd (kPt Mc m k) k _ k = _
  rw [upS, show Mc 13 k = fR F (5 * k + 1) from r1, show Mc 14 k = fR F (5 * k + 2) from r2, show Mc 12 k = fR F (5 * k) from r0]
  rcases hc 1 (by decide) (by decide) with h1 | ⟨a, ha, h1⟩
  · rw [h1, ahd_6, if_pos rfl]; rfl
  · rw [h1, ahd_nI ha (by omega), if_pos rfl, if_neg (nI_ne6 (by omega))]
    rcases hc 2 (by decide) (by decide) with h2 | ⟨b, hb, h2⟩
    · rw [h2, ahd_6, if_pos rfl]; rfl
    · rw [h2, ahd_nI hb (by omega), if_pos rfl, if_neg (nI_ne6 (by omega))]
theorem kPt_j (Mc : zMem) (m : Int32) {k j : Nat} (h : j ≠ k) : kPt Mc m (k + 1) j = kPt Mc m k j := by
  show upd (kPt Mc m k) k _ j = _
  rw [upN _ _ _ _ h]
section zU1
variable (g : Nat → Option Nat) (X : List zShp) (M : zMem)
set_option maxHeartbeats 4000000 in
theorem ex2_X_shareOf (x m : Int32) (hh : mK M ∧ mTh M x ∧ vp_in m 6) : zEx m_X_shareOf 0 0 [.ref 35, .int x, .int m] (SHP g X) M (qR g X (fun r M2 => mAg M M2 ∧ ∃ n : Nat, n ≤ 3072 ∧ r = nI n ∧ (∀ F Mc, cM F Mc M → kSv Mc x m = nI (2 * n)))) := by
  refine zEx_of _ (by decide) (by simp [Value.category]) (Nat.le_of_ble_eq_true rfl) rfl (v_X_shareOf_0 g X M x m _ ?_)
  obtain ⟨hk, ⟨f, hf, ex⟩, hm⟩ := hh
  obtain ⟨m', hm6, em⟩ := vp_in_of hm (by decide)
  have h10 := (mCnt_e hk.1).2
  have L : ∀ d k M1 (σ : Nat → Nat), k + d = f + 1 → mAg M M1 → (∀ j, j < k → σ j ≤ 3072 ∧ M1 43 j = nI (σ j)) → (∀ F Mc, cM F Mc M → ∀ j, j < k → dv j ∣ σ j ∧ kPt Mc m k j = nI (2 * σ j)) → zRT m_X_shareOf 0 0 2 [(0, .ref 35), (1, .int x), (2, .int m), (3, .int (nI k))] [] (SHP g X) M1 (qR g X (fun r M2 => mAg M M2 ∧ ∃ n : Nat, n ≤ 3072 ∧ r = nI n ∧ (∀ F Mc, cM F Mc M → kSv Mc x m = nI (2 * n)))) := by
    intro d
    induction d with
    | zero =>
      intro k M1 σ hkd ha hs hv
      have e : k = f + 1 := by omega
      subst e
      refine v_X_shareOf_2 g X _ _ _ _ _ ⟨fun _ => ⟨by rw [ex]; exact vp_in_nI (by omega) (by decide), qR_i ⟨ha, σ f, (hs f (by omega)).1, ?_, fun F Mc hc => ?_⟩⟩, fun h => absurd (by rw [ex]; exact nI_lt (by omega) (by omega)) h⟩
      · rw [ex, nI_clamp (by omega)]
        exact (hs f (by omega)).2
      · unfold kSv
        rw [ex, nI_clamp (by omega)]
        exact (hv F Mc hc f (by omega)).2
    | succ d ih =>
      intro k M1 σ hkd ha hs hv
      have nx : ∀ n : Nat, n ≤ 3072 → (∀ F Mc, cM F Mc M → dv k ∣ n ∧ kPt Mc m (k + 1) k = nI (2 * n)) → zRT m_X_shareOf 0 0 2 [(0, .ref 35), (1, .int x), (2, .int m), (3, .int (nI (k + 1)))] [] (SHP g X) (zms M1 43 k (nI n)) (qR g X (fun r M2 => mAg M M2 ∧ ∃ n : Nat, n ≤ 3072 ∧ r = nI n ∧ (∀ F Mc, cM F Mc M → kSv Mc x m = nI (2 * n)))) := by
        intro n hn hF
        refine ih (k + 1) _ (fun j => if j = k then n else σ j) (by omega) (ha.st (by decide)) (fun j hj => ?_) (fun F Mc hc j hj => ?_)
        · show (if j = k then n else σ j) ≤ 3072 ∧ zms M1 43 k (nI n) 43 j = nI (if j = k then n else σ j)
          rw [zms_at]
          by_cases q : j = k
          · rw [if_pos q, if_pos q]; exact ⟨hn, rfl⟩
          · rw [if_neg q, if_neg q]; exact hs j (by omega)
        · show dv j ∣ (if j = k then n else σ j) ∧ kPt Mc m (k + 1) j = nI (2 * (if j = k then n else σ j))
          by_cases q : j = k
          · rw [if_pos q, q]; exact hF F Mc hc
          · rw [if_neg q, kPt_j _ _ q]; exact hv F Mc hc j (by omega)
      refine v_X_shareOf_2 g X _ _ _ _ _ ⟨fun h => absurd h (by rw [ex]; exact nI_nlt (by omega) (by omega)), fun _ => ?_⟩
      rw [nI_1, nI_51, nI_52, nI_50, nI_clamp (by omega), nI_clamp (by omega), nI_clamp (by omega), nI_clamp (by omega), ha.e38]
      obtain ⟨c, hc6, ec, hc⟩ := bt6_ex (M 38 (5 * k))
      have fr : ∀ F Mc, cM F Mc M → k < tN F ∧ ∀ j, j < 5 → M 38 (5 * k + j) = fR F (5 * k + j) := fun F Mc h => by
        have := kMF_tn h.2.2
        exact ⟨by omega, fun j hj => h.2.2.1 _ (by omega)⟩
      have r1 : 0 ≤ M 38 (5 * k + 1) → ∃ a : Nat, a < k ∧ M 38 (5 * k + 1) = nI a := by
        intro h
        rcases hk.2 k (by omega) 1 (by omega) (by omega) with q | ⟨a, ha2, e⟩
        · exact absurd q (Int32.not_lt.mpr h)
        · exact ⟨a, ha2, e⟩
      have r2 : 0 ≤ M 38 (5 * k + 2) → ∃ a : Nat, a < k ∧ M 38 (5 * k + 2) = nI a := by
        intro h
        rcases hk.2 k (by omega) 2 (by omega) (by omega) with q | ⟨a, ha2, e⟩
        · exact absurd q (Int32.not_lt.mpr h)
        · exact ⟨a, ha2, e⟩
      have n6 : ∀ F Mc, cM F Mc M → ∀ j, 1 ≤ j → j ≤ 3 → ¬ 0 ≤ M 38 (5 * k + j) → fR F (5 * k + j) = -6 := by
        intro F Mc h j j1 j3 hn
        obtain ⟨f1, f2⟩ := fr F Mc h
        rcases kRow_cell (h.1.2.2.2.2.2.2.2.2.1 k f1) j j1 j3 with q | ⟨a, ha2, e⟩
        · exact q
        · rw [f2 j (by omega), e] at hn
          exact absurd (nI_le (a := 0) (by omega) (by omega)) hn
      have k10 : vp_in (nI k) 10 := vp_in_nI (by omega) (by decide)
      have two : 0 ≤ M 38 (5 * k + 1) → 0 ≤ M 38 (5 * k + 2) → vp_in (M 38 (5 * k + 1)) 10 ∧ vp_in (M 38 (5 * k + 2)) 10 ∧ vp_in (nI k) 10 ∧ zRT m_X_shareOf 0 0 2 [(0, .ref 35), (1, .int x), (2, .int m), (3, .int (nI (k + 1)))] [] (SHP g X) (zms M1 43 k ((M1 43 (Int32.toNatClampNeg (M 38 (5 * k + 1))) + M1 43 (Int32.toNatClampNeg (M 38 (5 * k + 2)))) / 2)) (qR g X (fun r M2 => mAg M M2 ∧ ∃ n : Nat, n ≤ 3072 ∧ r = nI n ∧ (∀ F Mc, cM F Mc M → kSv Mc x m = nI (2 * n)))) := by
        intro h1 h2
        obtain ⟨a, ha2, ea⟩ := r1 h1
        obtain ⟨b, hb2, eb⟩ := r2 h2
        obtain ⟨sa1, sa2⟩ := hs a ha2
        obtain ⟨sb1, sb2⟩ := hs b hb2
        rw [ea, eb, nI_clamp (by omega), nI_clamp (by omega), sa2, sb2, nI_add, show (2 : Int32) = nI 2 from rfl, pk_div (by omega) (by omega) (by omega)]
        refine ⟨vp_in_nI (by omega) (by decide), vp_in_nI (by omega) (by decide), k10, nx _ (by omega) (fun F Mc h => ?_)⟩
        obtain ⟨f1, f2⟩ := fr F Mc h
        have g1 : fR F (5 * k + 1) = nI a := by rw [← f2 1 (by decide)]; exact ea
        have g2 : fR F (5 * k + 2) = nI b := by rw [← f2 2 (by decide)]; exact eb
        have hab : a < b := by
          rcases (h.1.2.2.2.2.2.2.2.2.1 k f1).2.2.1 with q | ⟨a2, b2, q1, q2, q3, q4⟩
          · exact absurd (g2.symm.trans q) (nI_ne6 (by omega))
          · have e1 := (nI_eq (by omega) (by omega)).mp (g1.symm.trans q3)
            have e2 := (nI_eq (by omega) (by omega)).mp (g2.symm.trans q4)
            omega
        obtain ⟨va1, va2⟩ := hv F Mc h a ha2
        obtain ⟨vb1, vb2⟩ := hv F Mc h b hb2
        obtain ⟨w1, w2⟩ := half_2 (k := k) (by omega) (by omega) (Nat.dvd_trans (dv_le (show a ≤ k - 1 by omega)) va1) (Nat.dvd_trans (dv_le (show b ≤ k - 1 by omega)) vb1)
        refine ⟨w1, ?_⟩
        rw [kPt_k h.1 h.2.1 f1, g1, g2, if_neg (nI_ne6 (by omega)), if_neg (nI_ne6 (by omega)), nI_clamp (by omega), nI_clamp (by omega), va2, vb2, nI_add, show (2 : Int32) = nI 2 from rfl, pk_div (by omega) (by decide) (by decide), w2]
        congr 1
        omega
      have one : 0 ≤ M 38 (5 * k + 1) → ¬ 0 ≤ M 38 (5 * k + 2) → vp_in (M 38 (5 * k + 1)) 10 ∧ vp_in (nI k) 10 ∧ zRT m_X_shareOf 0 0 2 [(0, .ref 35), (1, .int x), (2, .int m), (3, .int (nI (k + 1)))] [] (SHP g X) (zms M1 43 k (M1 43 (Int32.toNatClampNeg (M 38 (5 * k + 1))))) (qR g X (fun r M2 => mAg M M2 ∧ ∃ n : Nat, n ≤ 3072 ∧ r = nI n ∧ (∀ F Mc, cM F Mc M → kSv Mc x m = nI (2 * n)))) := by
        intro h1 h2
        obtain ⟨a, ha2, ea⟩ := r1 h1
        obtain ⟨sa1, sa2⟩ := hs a ha2
        rw [ea, nI_clamp (by omega), sa2]
        refine ⟨vp_in_nI (by omega) (by decide), k10, nx _ sa1 (fun F Mc h => ?_)⟩
        obtain ⟨f1, f2⟩ := fr F Mc h
        have g1 : fR F (5 * k + 1) = nI a := by rw [← f2 1 (by decide)]; exact ea
        have g2 := n6 F Mc h 2 (by decide) (by decide) h2
        obtain ⟨va1, va2⟩ := hv F Mc h a ha2
        refine ⟨Nat.dvd_trans (dv_le (show a ≤ k by omega)) va1, ?_⟩
        rw [kPt_k h.1 h.2.1 f1, g1, g2, if_neg (nI_ne6 (by omega)), if_pos rfl, nI_clamp (by omega), va2]
      refine ⟨vp_in_nI (by omega) (by decide), vp_in_nI (by omega) (by decide), vp_in_nI (by omega) (by decide), fun hb1 => ⟨fun h1 => ⟨fun h2 => two h1 h2, fun h2 => one h1 h2⟩, fun h1 => ⟨k10, nx 0 (by omega) (fun F Mc h => ⟨Nat.dvd_zero _, ?_⟩)⟩⟩, fun hb1 => ?_⟩
      · obtain ⟨f1, f2⟩ := fr F Mc h
        rw [kPt_k h.1 h.2.1 f1, n6 F Mc h 1 (by decide) (by decide) h1, if_pos rfl, ← Nat.add_zero (5 * k), ← f2 0 (by decide), Nat.add_zero, own_0 hb1]
        rfl
      have c0 := hc m hm hb1
      refine ⟨by rw [ec]; exact nI_ne0 c0 (by omega), fun h1 => ⟨fun h2 => two h1 h2, fun h2 => one h1 h2⟩, fun h1 => ⟨k10, ?_⟩⟩
      rw [ec, show (3072 : Int32) = nI 3072 from rfl, pk_div (by omega) c0 (by omega)]
      refine nx _ (Nat.div_le_self _ _) (fun F Mc h => ?_)
      obtain ⟨f1, f2⟩ := fr F Mc h
      obtain ⟨⟨hh, hh1, hh2, hh3, -⟩, -⟩ := h.1.2.2.2.2.2.2.2.2.1 k f1
      have e0 : M 38 (5 * k) = nI hh := by
        have := f2 0 (by decide)
        rw [Nat.add_zero] at this
        rw [this, hh2]
      rw [e0, em] at hb1
      obtain ⟨c2, d1, d2, d3, d4, d5⟩ := own_1 hh hh1 hh3 m' hm6 hb1
      have ecc : c = c2 := by
        rw [e0, d3] at ec
        exact ((nI_eq (by omega) (by omega)).mp ec).symm
      rw [kPt_k h.1 h.2.1 f1, n6 F Mc h 1 (by decide) (by decide) h1, if_pos rfl, hh2, em, d4, ecc]
      exact ⟨Nat.dvd_trans (dv_512 k) d5, rfl⟩
  exact L (f + 1) 0 M (fun _ => 0) (by omega) mAg.rf (fun j hj => absurd hj (by omega)) (fun _ _ _ j hj => absurd hj (by omega))
end zU1
theorem kEu_gcd : ∀ k n d r, 2 * k ≤ n → d < 2 ^ k → r < d → k ≤ 20 → kEu n (nI d) (nI r) = nI (Nat.gcd d r) := by
  intro k
  induction k with
  | zero => intro n d r _ h1 h2; omega
  | succ k ih =>
    intro n d r hn h1 h2 hk
    have p20 : 2 ^ (k + 1) ≤ 2 ^ 20 := Nat.pow_le_pow_right (by decide) hk
    have e20 : 2 ^ 20 = 1048576 := rfl
    obtain ⟨n2, rfl⟩ : ∃ n2, n = n2 + 2 := ⟨n - 2, by omega⟩
    show (if nI r = 0 then nI d else kEu (n2 + 1) (nI r) (nI d - nI d / nI r * nI r)) = _
    by_cases c : r = 0
    · subst c
      rw [if_pos (show nI 0 = 0 from rfl), Nat.gcd_zero_right]
    · rw [if_neg (nI_ne0 (by omega) (by omega)), pk_rem (by omega) (by omega) (by omega)]
      show (if nI (d % r) = 0 then nI r else kEu n2 (nI (d % r)) (nI r - nI r / nI (d % r) * nI (d % r))) = _
      have g1 : Nat.gcd d r = Nat.gcd r (d % r) := by rw [Nat.gcd_comm, Nat.gcd_rec, Nat.gcd_comm]
      have ml := Nat.mod_lt d (show r > 0 by omega)
      by_cases c2 : d % r = 0
      · rw [c2, if_pos (show nI 0 = 0 from rfl), g1, c2, Nat.gcd_zero_right]
      · rw [if_neg (nI_ne0 (by omega) (by omega)), pk_rem (by omega) (by omega) (by omega)]
        have hd : d % r + r ≤ d := by
          have h3 := Nat.div_add_mod d r
          have h4 : 1 ≤ d / r := (Nat.le_div_iff_mul_le (by omega)).mpr (by omega)
          have h5 : r * 1 ≤ r * (d / r) := Nat.mul_le_mul_left r h4
          omega
        have hs : 2 ^ (k + 1) = 2 * 2 ^ k := by rw [Nat.pow_succ]; omega
        rw [ih n2 (d % r) (r % (d % r)) (by omega) (by omega) (Nat.mod_lt _ (by omega)) (by omega), g1]
        congr 1
        rw [Nat.gcd_comm r, Nat.gcd_rec (d % r) r, Nat.gcd_comm]
/-- the class's lowest terms -/
theorem kLow_v {n : Nat} (hn : n ≤ 3072) (p : Int32) : kLow (nI (2 * n)) 6144 p = if p = 0 then nI (n / Nat.gcd n 3072) else nI (3072 / Nat.gcd n 3072) := by
  have g0 : 0 < Nat.gcd n 3072 := Nat.gcd_pos_of_pos_right _ (by decide)
  have gl : Nat.gcd n 3072 ≤ 3072 := Nat.gcd_le_right _ (by decide)
  have eg : kEu 64 6144 (nI (2 * n)) = nI (2 * Nat.gcd n 3072) := by
    rw [show (6144 : Int32) = nI 6144 from rfl]
    by_cases c : n = 3072
    · subst c; rfl
    · rw [kEu_gcd 13 64 6144 (2 * n) (by decide) (by decide) (by omega) (by decide), show 6144 = 2 * 3072 from rfl, Nat.gcd_mul_left, Nat.gcd_comm]
  unfold kLow
  rw [eg, if_neg (nI_ne0 (by omega) (by omega))]
  by_cases c : p = 0
  · rw [if_pos c, if_pos c, pk_div (by omega) (by omega) (by omega), Nat.mul_div_mul_left _ _ (by decide)]
  · rw [if_neg c, if_neg c, show (6144 : Int32) = nI (2 * 3072) from rfl, pk_div (by omega) (by omega) (by omega), Nat.mul_div_mul_left _ _ (by decide)]
section zU2
variable (g : Nat → Option Nat) (X : List zShp) (M : zMem)
theorem vS_X_share_0 (g : Nat → Option Nat) (X : List zShp) (M : zMem) (x1 x2 x3 : Int32) (R : zEnd) (h : (((inI x1 0 (M 35 6 - 1)) = false) → (R (some (.long (-1000000000000000001))) (SHP g X) M)) ∧ (((inI x1 0 (M 35 6 - 1)) = true) → ((((isM x2) = true) → ((((inI x3 0 1) = true) → ((mK M ∧ mTh M x1 ∧ vp_in x2 6) ∧ (∀ (r7 : Int32) (M7 : zMem), (mAg M M7 ∧ ∃ n : Nat, n ≤ 3072 ∧ r7 = nI n ∧ (∀ F Mc, cM F Mc M → kSv Mc x1 x2 = nI (2 * n))) → (zRT m_X_share 0 0 49 [(3, .int x3), (4, .int r7), (5, .int r7), (6, .int 3072)] [] (SHP g X) M7 R)))) ∧ (((inI x3 0 1) = false) → (R (some (.long (-1000000000000000002))) (SHP g X) M)))) ∧ (((isM x2) = false) → (R (some (.long (-1000000000000000001))) (SHP g X) M))))) : zRT m_X_share 0 0 0 [(0, .ref 35), (1, .int x1), (2, .int x2), (3, .int x3)] [] (SHP g X) M R := by
  refine zs_aload_n 0 d_X_share_0 rfl (List.mem_of_getElem? (i := 0) rfl) ?_
  refine zs_iload_n 1 d_X_share_1 rfl (List.mem_of_getElem? (i := 1) rfl) ?_
  refine zs_callV (kc := 0) (ks := 0) (kc1 := 0) (ks1 := 0) (st := []) [.int x1] d_X_share_2 lk_X_83 ⟨by decide, by decide⟩ rfl (sh_35 g X) rfl (Nat.le_of_ble_eq_true rfl) (ex_X_isThing g X M x1) (fun v1 sh1 M1 hR => ?_)
  obtain ⟨rfl, rfl, rfl⟩ := hR
  refine zs_if_eq 15 d_X_share_5 (by decide) (fun c2 => ?_) (fun c2 => ?_)
  · replace h := h.1 (bI_0 c2)
    refine zs_ldc2 (v := (-1000000000000000001)) d_X_share_15 (by decide +kernel) ?_
    exact zs_lret d_X_share_18 rfl h
  · replace h := h.2 (bI_1 c2)
    refine zs_iload_n 2 d_X_share_8 rfl (List.mem_of_getElem? (i := 2) rfl) ?_
    refine zs_callS (kc := 0) (ks := 0) (kc1 := 0) (ks1 := 0) (st := []) [.int x2] d_X_share_9 lk_X_87 ⟨by decide, by decide⟩ rfl (Nat.le_of_ble_eq_true rfl) (ex_X_isMan g X M x2) (fun v3 sh3 M3 hR => ?_)
    obtain ⟨rfl, rfl, rfl⟩ := hR
    refine zs_if_ne 19 d_X_share_12 (by decide) (fun c4 => ?_) (fun c4 => ?_)
    · replace h := h.1 (bI_1 c4)
      refine zs_iload_n 3 d_X_share_19 rfl (List.mem_of_getElem? (i := 3) rfl) ?_
      refine zs_iconst 0 d_X_share_20 (by decide) ?_
      refine zs_iconst 1 d_X_share_21 (by decide) ?_
      refine zs_callS (kc := 0) (ks := 0) (kc1 := 0) (ks1 := 0) (st := []) [.int x3, .int 0, .int 1] d_X_share_22 lk_X_66 ⟨by decide, by decide⟩ rfl (Nat.le_of_ble_eq_true rfl) (ex_X_in g X M x3 0 1) (fun v5 sh5 M5 hR => ?_)
      obtain ⟨rfl, rfl, rfl⟩ := hR
      refine zs_if_ne 32 d_X_share_25 (by decide) (fun c6 => ?_) (fun c6 => ?_)
      · replace h := h.1 (bI_1 c6)
        refine zs_aload_n 0 d_X_share_32 rfl (List.mem_of_getElem? (i := 0) rfl) ?_
        refine zs_iload_n 1 d_X_share_33 rfl (List.mem_of_getElem? (i := 1) rfl) ?_
        refine zs_iload_n 2 d_X_share_34 rfl (List.mem_of_getElem? (i := 2) rfl) ?_
        obtain ⟨p7, h⟩ := h
        refine zs_callV (kc := 0) (ks := 0) (kc1 := 0) (ks1 := 0) (st := []) [.int x1, .int x2] d_X_share_35 lk_X_112 ⟨by decide, by decide⟩ rfl (sh_35 g X) rfl (Nat.le_of_ble_eq_true rfl) (ex2_X_shareOf g X M x1 x2 p7) (fun v7 sh7 M7 hR => ?_)
        obtain ⟨r7, rfl, rfl, hq7⟩ := hR
        replace h := h r7 M7 hq7
        refine zs_istore2 [1, 2, 3, 4, 0] [(0, .ref 35), (1, .int x1), (2, .int x2), (3, .int x3), (4, .int r7)] d_X_share_38 (by decide) rfl ?_
        refine zs_iload d_X_share_40 (List.mem_of_getElem? (i := 4) rfl) ?_
        refine zs_istore2 [1, 2, 3, 4, 5, 0] [(0, .ref 35), (1, .int x1), (2, .int x2), (3, .int x3), (4, .int r7), (5, .int r7)] d_X_share_42 (by decide) rfl ?_
        refine zs_sipush 3072 d_X_share_44 (by decide) ?_
        refine zs_istore2 [1, 2, 3, 4, 5, 6, 0] [(0, .ref 35), (1, .int x1), (2, .int x2), (3, .int x3), (4, .int r7), (5, .int r7), (6, .int 3072)] d_X_share_47 (by decide) rfl ?_
        exact zRT_sub [3, 4, 5, 6] rfl h
      · replace h := h.2 (bI_0 c6)
        refine zs_ldc2 (v := (-1000000000000000002)) d_X_share_28 (by decide +kernel) ?_
        exact zs_lret d_X_share_31 rfl h
    · replace h := h.2 (bI_0 c4)
      refine zs_ldc2 (v := (-1000000000000000001)) d_X_share_15 (by decide +kernel) ?_
      exact zs_lret d_X_share_18 rfl h
theorem vS_X_share_49 (g : Nat → Option Nat) (X : List zShp) (M : zMem) (x3 x4 x5 x6 : Int32) (R : zEnd) (h : ((x6 = 0) → (((¬ x3 = 0) → ((¬ x5 = 0) ∧ (R (some (.long (Int32.toInt64 ((3072 : Int32) / x5)))) (SHP g X) M))) ∧ ((x3 = 0) → ((¬ x5 = 0) ∧ (R (some (.long (Int32.toInt64 (x4 / x5)))) (SHP g X) M))))) ∧ ((¬ x6 = 0) → ((¬ x6 = 0) ∧ (zRT m_X_share 0 0 49 [(3, .int x3), (4, .int x4), (5, .int x6), (6, .int (x5 - x5 / x6 * x6))] [] (SHP g X) M R)))) : zRT m_X_share 0 0 49 [(3, .int x3), (4, .int x4), (5, .int x5), (6, .int x6)] [] (SHP g X) M R := by
  refine zs_iload d_X_share_49 (List.mem_of_getElem? (i := 3) rfl) ?_
  refine zs_if_eq 72 d_X_share_51 (by decide) (fun c1 => ?_) (fun c1 => ?_)
  · replace h := h.1 c1
    refine zs_iload_n 3 d_X_share_72 rfl (List.mem_of_getElem? (i := 0) rfl) ?_
    refine zs_if_ne 85 d_X_share_73 (by decide) (fun c2 => ?_) (fun c2 => ?_)
    · replace h := h.1 c2
      refine zs_sipush 3072 d_X_share_85 (by decide) ?_
      refine zs_iload d_X_share_88 (List.mem_of_getElem? (i := 2) rfl) ?_
      obtain ⟨h0, h⟩ := h
      refine zs_idiv d_X_share_90 h0 ?_
      refine zs_i2l d_X_share_91 ?_
      exact zs_lret d_X_share_92 rfl h
    · replace h := h.2 c2
      refine zs_iload d_X_share_76 (List.mem_of_getElem? (i := 1) rfl) ?_
      refine zs_iload d_X_share_78 (List.mem_of_getElem? (i := 2) rfl) ?_
      obtain ⟨h0, h⟩ := h
      refine zs_idiv d_X_share_80 h0 ?_
      refine zs_i2l d_X_share_81 ?_
      refine zs_goto 92 d_X_share_82 (by decide) ?_
      exact zs_lret d_X_share_92 rfl h
  · replace h := h.2 c1
    refine zs_iload d_X_share_54 (List.mem_of_getElem? (i := 2) rfl) ?_
    refine zs_iload d_X_share_56 (List.mem_of_getElem? (i := 3) rfl) ?_
    obtain ⟨h0, h⟩ := h
    refine zs_irem d_X_share_58 h0 ?_
    refine zs_istore2 [1, 2, 3, 4, 0] [(3, .int x3), (4, .int x4), (5, .int x5), (6, .int x6), (7, .int (x5 - x5 / x6 * x6))] d_X_share_59 (by decide) rfl ?_
    refine zs_iload d_X_share_61 (List.mem_of_getElem? (i := 3) rfl) ?_
    refine zs_istore2 [1, 2, 0, 3, 4] [(3, .int x3), (4, .int x4), (5, .int x6), (6, .int x6), (7, .int (x5 - x5 / x6 * x6))] d_X_share_63 (by decide) rfl ?_
    refine zs_iload d_X_share_65 (List.mem_of_getElem? (i := 4) rfl) ?_
    refine zs_istore2 [1, 2, 3, 0, 4] [(3, .int x3), (4, .int x4), (5, .int x6), (6, .int (x5 - x5 / x6 * x6)), (7, .int (x5 - x5 / x6 * x6))] d_X_share_67 (by decide) rfl ?_
    refine zs_goto 49 d_X_share_69 (by decide) ?_
    exact zRT_sub [0, 1, 2, 3] rfl h
theorem ex2_X_share (F : zTS) (Mc : zMem) (hcm : cM F Mc M) (hh : mK M) (x m y : Int32) : zEx m_X_share 0 0 [.ref 35, .int x, .int m, .int y] (SHP g X) M (qRL g X (fun r M2 => mAg M M2 ∧ r = kv_share Mc x m y)) := by
  have hT : inI x 0 (M 35 6 - 1) = kIsT (Mc 11 5) x := by
    rw [hcm.2.2.2.2.2.2.1, kIsT_F hcm.1, show Mc 11 5 = fT F from hcm.2.1.1]
  have L : ∀ N b a M1 (u : Nat), b < N → a ≤ 3072 → b ≤ 3072 → 0 < a + b → u ≤ 3072 → mAg M M1 → Nat.gcd a b = Nat.gcd u 3072 → (Int32.toInt64 (if y = 0 then nI (u / Nat.gcd u 3072) else nI (3072 / Nat.gcd u 3072)) = kv_share Mc x m y) → zRT m_X_share 0 0 49 [(3, .int y), (4, .int (nI u)), (5, .int (nI a)), (6, .int (nI b))] [] (SHP g X) M1 (qRL g X (fun r M2 => mAg M M2 ∧ r = kv_share Mc x m y)) := by
    intro N
    induction N with
    | zero => intro b a M1 u h; exact absurd h (Nat.not_lt_zero b)
    | succ N ih =>
      intro b a M1 u hb h1 h2 h3 hu ha hg hV
      refine vS_X_share_49 g X _ _ _ _ _ _ ⟨fun h => ?_, fun h => ⟨h, ?_⟩⟩
      · have b0 : b = 0 := by
          rcases Nat.eq_zero_or_pos b with q | q
          · exact q
          · exact absurd h (nI_ne0 q (by omega))
        subst b0
        have a0 : ¬ nI a = 0 := nI_ne0 (by omega) (by omega)
        rw [Nat.gcd_zero_right] at hg
        refine ⟨fun hy => ⟨a0, _, rfl, rfl, ha, ?_⟩, fun hy => ⟨a0, _, rfl, rfl, ha, ?_⟩⟩
        · rw [← hV, if_neg hy, ← hg, show (3072 : Int32) = nI 3072 from rfl, pk_div (by omega) (by omega) (by omega)]
        · rw [← hV, if_pos hy, ← hg, pk_div (by omega) (by omega) (by omega)]
      · have b0 : 0 < b := by
          rcases Nat.eq_zero_or_pos b with q | q
          · exact absurd (by rw [q]; rfl) h
          · exact q
        rw [pk_rem (by omega) b0 (by omega)]
        have := Nat.mod_lt a b0
        exact ih (a % b) b M1 u (by omega) (by omega) (by omega) (by omega) hu ha (by rw [← hg, Nat.gcd_comm b, ← Nat.gcd_rec, Nat.gcd_comm]) hV
  refine zEx_of _ (by decide) (by simp [Value.category]) (Nat.le_of_ble_eq_true rfl) rfl (vS_X_share_0 g X M x m y _ ⟨fun h => ⟨_, rfl, rfl, mAg.rf, ?_⟩, fun h => ⟨fun h2 => ⟨fun h3 => ⟨⟨hh, hh.th h, isM_in h2⟩, fun r M7 h7 => ?_⟩, fun h3 => ⟨_, rfl, rfl, mAg.rf, ?_⟩⟩, fun h2 => ⟨_, rfl, rfl, mAg.rf, ?_⟩⟩⟩)
  · unfold kv_share
    rw [← hT, if_neg (by rw [h]; decide)]
  · obtain ⟨h8, n, hn, e, hs⟩ := h7
    subst e
    refine L 3073 3072 n M7 n (by omega) hn (by omega) (by omega) hn h8 rfl ?_
    obtain ⟨y', hy', rfl⟩ := inI_nI (b := 1) (by decide) h3
    unfold kv_share
    rw [← hT, if_pos h, if_pos h2, if_neg (show ¬ nI y' < 0 from by rw [show (0 : Int32) = nI 0 from rfl, nI_ltI (by omega) (by decide)]; omega), if_pos (show nI y' ≤ 1 from nI_le (b := 1) hy' (by decide)), hs F Mc hcm, kLow_v hn]
  · unfold kv_share
    rw [← hT, if_pos h, if_pos h2]
    rcases inI_f (v := y) (lo := 0) (hi := 1) (by rw [h3]; decide) with q | q
    · rw [if_pos q]
    · by_cases c1 : y < 0
      · rw [if_pos c1]
      · rw [if_neg c1, if_neg (fun z => i32_le z q)]
  · unfold kv_share
    rw [← hT, if_pos h, if_neg (by rw [h2]; decide)]
theorem vS_X_byTenths_0 (g : Nat → Option Nat) (X : List zShp) (M : zMem) (x1 : Int32) (R : zEnd) (h : zRT m_X_byTenths 0 0 4 [(0, .ref 35), (1, .int x1), (2, .int 0), (3, .int 0)] [] (SHP g X) M R) : zRT m_X_byTenths 0 0 0 [(0, .ref 35), (1, .int x1)] [] (SHP g X) M R := by
  refine zs_iconst 0 d_X_byTenths_0 (by decide) ?_
  refine zs_istore_n2 2 [1, 2, 0] [(0, .ref 35), (1, .int x1), (2, .int 0)] d_X_byTenths_1 rfl (by decide) rfl ?_
  refine zs_iconst 0 d_X_byTenths_2 (by decide) ?_
  refine zs_istore_n2 3 [1, 2, 3, 0] [(0, .ref 35), (1, .int x1), (2, .int 0), (3, .int 0)] d_X_byTenths_3 rfl (by decide) rfl ?_
  exact h
theorem vS_X_byTenths_4 (g : Nat → Option Nat) (X : List zShp) (M : zMem) (x1 x2 x3 : Int32) (R : zEnd) (h : ((6 ≤ x3) → (R (some (.int (mWP M x2))) (SHP g X) M)) ∧ ((¬ 6 ≤ x3) → ((mK M ∧ mTh M x1 ∧ vp_in x3 6) ∧ (∀ (r3 : Int32) (M3 : zMem), (mAg M M3 ∧ ∃ n : Nat, n ≤ 3072 ∧ r3 = nI n ∧ (∀ F Mc, cM F Mc M → kSv Mc x1 x3 = nI (2 * n))) → (((r3 ≤ 0) → (zRT m_X_byTenths 0 0 4 [(0, .ref 35), (1, .int x1), (2, .int (x2 ||| 0)), (3, .int (x3 + 1))] [] (SHP g X) M3 R)) ∧ ((¬ r3 ≤ 0) → (((((10 : Int32) * r3) < ((M3 35 2) * 3072)) → (zRT m_X_byTenths 0 0 4 [(0, .ref 35), (1, .int x1), (2, .int (x2 ||| 0)), (3, .int (x3 + 1))] [] (SHP g X) M3 R)) ∧ ((¬ ((10 : Int32) * r3) < ((M3 35 2) * 3072)) → (zRT m_X_byTenths 0 0 4 [(0, .ref 35), (1, .int x1), (2, .int (x2 ||| ((1 : Int32) <<< (x3 &&& 31)))), (3, .int (x3 + 1))] [] (SHP g X) M3 R))))))))) : zRT m_X_byTenths 0 0 4 [(0, .ref 35), (1, .int x1), (2, .int x2), (3, .int x3)] [] (SHP g X) M R := by
  refine zs_iload_n 3 d_X_byTenths_4 rfl (List.mem_of_getElem? (i := 3) rfl) ?_
  refine zs_bipush 6 d_X_byTenths_5 (by decide) ?_
  refine zs_icmp_ge 55 d_X_byTenths_7 (by decide) (fun c1 => ?_) (fun c1 => ?_)
  · replace h := h.1 c1
    refine zs_aload_n 0 d_X_byTenths_55 rfl (List.mem_of_getElem? (i := 0) rfl) ?_
    refine zs_iload_n 2 d_X_byTenths_56 rfl (List.mem_of_getElem? (i := 2) rfl) ?_
    refine zs_callV (kc := 0) (ks := 0) (kc1 := 0) (ks1 := 0) (st := []) [.int x2] d_X_byTenths_57 lk_X_106 ⟨by decide, by decide⟩ rfl (sh_35 g X) rfl (Nat.le_of_ble_eq_true rfl) (ex_X_withPartners g X M x2) (fun v2 sh2 M2 hR => ?_)
    obtain ⟨rfl, rfl, rfl⟩ := hR
    exact zs_iret d_X_byTenths_60 rfl h
  · replace h := h.2 c1
    refine zs_aload_n 0 d_X_byTenths_10 rfl (List.mem_of_getElem? (i := 0) rfl) ?_
    refine zs_iload_n 1 d_X_byTenths_11 rfl (List.mem_of_getElem? (i := 1) rfl) ?_
    refine zs_iload_n 3 d_X_byTenths_12 rfl (List.mem_of_getElem? (i := 3) rfl) ?_
    obtain ⟨p3, h⟩ := h
    refine zs_callV (kc := 0) (ks := 0) (kc1 := 0) (ks1 := 0) (st := []) [.int x1, .int x3] d_X_byTenths_13 lk_X_112 ⟨by decide, by decide⟩ rfl (sh_35 g X) rfl (Nat.le_of_ble_eq_true rfl) (ex2_X_shareOf g X M x1 x3 p3) (fun v3 sh3 M3 hR => ?_)
    obtain ⟨r3, rfl, rfl, hq3⟩ := hR
    replace h := h r3 M3 hq3
    refine zs_istore2 [1, 2, 3, 4, 0] [(0, .ref 35), (1, .int x1), (2, .int x2), (3, .int x3), (4, .int r3)] d_X_byTenths_16 (by decide) rfl ?_
    refine zs_iload_n 2 d_X_byTenths_18 rfl (List.mem_of_getElem? (i := 2) rfl) ?_
    refine zs_iload d_X_byTenths_19 (List.mem_of_getElem? (i := 4) rfl) ?_
    refine zs_if_le 46 d_X_byTenths_21 (by decide) (fun c4 => ?_) (fun c4 => ?_)
    · replace h := h.1 c4
      refine zs_iconst 0 d_X_byTenths_46 (by decide) ?_
      refine zs_ior d_X_byTenths_47 ?_
      refine zs_istore_n2 2 [1, 2, 0, 3, 4] [(0, .ref 35), (1, .int x1), (2, .int (x2 ||| 0)), (3, .int x3), (4, .int r3)] d_X_byTenths_48 rfl (by decide) rfl ?_
      refine zs_iinc2 3 (x3 + 1) [1, 2, 3, 0, 4] [(0, .ref 35), (1, .int x1), (2, .int (x2 ||| 0)), (3, .int (x3 + 1)), (4, .int r3)] d_X_byTenths_49 rfl rfl (by decide) rfl ?_
      refine zs_goto 4 d_X_byTenths_52 (by decide) ?_
      exact zRT_sub [0, 1, 2, 3] rfl h
    · replace h := h.2 c4
      refine zs_bipush 10 d_X_byTenths_24 (by decide) ?_
      refine zs_iload d_X_byTenths_26 (List.mem_of_getElem? (i := 4) rfl) ?_
      refine zs_imul d_X_byTenths_28 ?_
      refine zs_aload_n 0 d_X_byTenths_29 rfl (List.mem_of_getElem? (i := 0) rfl) ?_
      refine zs_get d_X_byTenths_30 gf_X_13 (sh_35 g X) rfl ?_
      refine zs_sipush 3072 d_X_byTenths_33 (by decide) ?_
      refine zs_imul d_X_byTenths_36 ?_
      refine zs_icmp_lt 46 d_X_byTenths_37 (by decide) (fun c5 => ?_) (fun c5 => ?_)
      · replace h := h.1 c5
        refine zs_iconst 0 d_X_byTenths_46 (by decide) ?_
        refine zs_ior d_X_byTenths_47 ?_
        refine zs_istore_n2 2 [1, 2, 0, 3, 4] [(0, .ref 35), (1, .int x1), (2, .int (x2 ||| 0)), (3, .int x3), (4, .int r3)] d_X_byTenths_48 rfl (by decide) rfl ?_
        refine zs_iinc2 3 (x3 + 1) [1, 2, 3, 0, 4] [(0, .ref 35), (1, .int x1), (2, .int (x2 ||| 0)), (3, .int (x3 + 1)), (4, .int r3)] d_X_byTenths_49 rfl rfl (by decide) rfl ?_
        refine zs_goto 4 d_X_byTenths_52 (by decide) ?_
        exact zRT_sub [0, 1, 2, 3] rfl h
      · replace h := h.2 c5
        refine zs_iconst 1 d_X_byTenths_40 (by decide) ?_
        refine zs_iload_n 3 d_X_byTenths_41 rfl (List.mem_of_getElem? (i := 3) rfl) ?_
        refine zs_ishl d_X_byTenths_42 ?_
        refine zs_goto 47 d_X_byTenths_43 (by decide) ?_
        refine zs_ior d_X_byTenths_47 ?_
        refine zs_istore_n2 2 [1, 2, 0, 3, 4] [(0, .ref 35), (1, .int x1), (2, .int (x2 ||| ((1 : Int32) <<< (x3 &&& 31)))), (3, .int x3), (4, .int r3)] d_X_byTenths_48 rfl (by decide) rfl ?_
        refine zs_iinc2 3 (x3 + 1) [1, 2, 3, 0, 4] [(0, .ref 35), (1, .int x1), (2, .int (x2 ||| ((1 : Int32) <<< (x3 &&& 31)))), (3, .int (x3 + 1)), (4, .int r3)] d_X_byTenths_49 rfl rfl (by decide) rfl ?_
        refine zs_goto 4 d_X_byTenths_52 (by decide) ?_
        exact zRT_sub [0, 1, 2, 3] rfl h
theorem ex2_X_byTenths (x : Int32) (hh : mK M ∧ mTh M x) : zEx m_X_byTenths 0 0 [.ref 35, .int x] (SHP g X) M (qR g X (fun r M2 => mAg M M2 ∧ (∀ F Mc, cM F Mc M → r = kWP Mc (kHv Mc x (Mc 10 8))))) := by
  refine zEx_of _ (by decide) (by simp [Value.category]) (Nat.le_of_ble_eq_true rfl) rfl (vS_X_byTenths_0 g X M x _ ?_)
  have L : ∀ d k a M1, k + d = 6 → mAg M M1 → (∀ F Mc, cM F Mc M → a = kOr (fun k => if kSv Mc x (nI k) ≤ 0 then 0 else if kSv Mc x (nI k) * 10 < (Mc 10 8) * 6144 then 0 else (1 : Int32) <<< (nI k &&& 31)) k) → zRT m_X_byTenths 0 0 4 [(0, .ref 35), (1, .int x), (2, .int a), (3, .int (nI k))] [] (SHP g X) M1 (qR g X (fun r M2 => mAg M M2 ∧ (∀ F Mc, cM F Mc M → r = kWP Mc (kHv Mc x (Mc 10 8))))) := by
    intro d
    induction d with
    | zero =>
      intro k a M1 hk ha hv
      have e6 : k = 6 := by omega
      subst e6
      refine vS_X_byTenths_4 g X _ _ _ _ _ ⟨fun _ => qR_i ⟨ha, fun F Mc hc => ?_⟩, fun h => absurd (nI_le (a := 6) (by omega) (by omega)) h⟩
      have e : a = kHv Mc x (Mc 10 8) := hv F Mc hc
      rw [e]
      have h6 : ∀ i, bt (kHv Mc x (Mc 10 8)) i = true → i < 6 := by
        intro i hi
        unfold kHv at hi
        rw [kOr_bt] at hi
        obtain ⟨k, hk, h2⟩ := hi
        by_cases c1 : kSv Mc x (nI k) ≤ 0
        · rw [if_pos c1, b_0] at h2; cases h2
        · rw [if_neg c1] at h2
          by_cases c2 : kSv Mc x (nI k) * 10 < Mc 10 8 * 6144
          · rw [if_pos c2, b_0] at h2; cases h2
          · rw [if_neg c2] at h2
            have := (b_one_m hk i).mp h2
            omega
      refine b_ext (fun i hi => ?_)
      rw [Bool.eq_iff_iff, mWP_bt hc.1 (cM_ag ha hc).2.2 _ hi, kWP_bt hc.1 hc.2.1 h6 hi]
    | succ d ih =>
      intro k a M1 hk ha hv
      refine vS_X_byTenths_4 g X _ _ _ _ _ ⟨fun h => absurd h (nI_ge (b := 6) (by omega) (by omega)), fun _ => ⟨⟨ha.mk hh.1, ha.th hh.2, vp_in_nI (by omega) (by decide)⟩, fun r M3 h3 => ?_⟩⟩
      rw [nI_1]
      obtain ⟨h31, n, hn, e, hs⟩ := h3
      have a3 := ha.tr h31
      have z0 : ∀ F Mc, cM F Mc M → (r ≤ 0 ↔ kSv Mc x (nI k) ≤ 0) := fun F Mc hc => by
        rw [hs F Mc (cM_ag ha hc), e, show (0 : Int32) = nI 0 from rfl, nI_leI (by omega) (by decide), nI_leI (by omega) (by decide)]
        omega
      have z1 : ∀ F Mc, cM F Mc M → ((10 : Int32) * r < (M3 35 2) * 3072 ↔ kSv Mc x (nI k) * 10 < (Mc 10 8) * 6144) := fun F Mc hc => by
        obtain ⟨t, ht, et⟩ := hc.1.2.2.2.2.1
        have e2 : M3 35 2 = nI t := by rw [a3.e35, hc.2.2.2.2.2.2.2.2.2.2]; exact et
        have e8 : Mc 10 8 = nI t := by rw [← et]; exact hc.2.1.2.2.2.2.1
        rw [hs F Mc (cM_ag ha hc), e, e2, e8, show (10 : Int32) = nI 10 from rfl, show (3072 : Int32) = nI 3072 from rfl, show (6144 : Int32) = nI 6144 from rfl, pk_mul, pk_mul, pk_mul, pk_mul, nI_ltI (by omega) (by omega), nI_ltI (by omega) (by omega)]
        omega
      have i1 := fun a h => ih (k + 1) a M3 (by omega) a3 h
      refine ⟨fun h => i1 _ (fun F Mc hc => ?_), fun h => ⟨fun h2 => i1 _ (fun F Mc hc => ?_), fun h2 => i1 _ (fun F Mc hc => ?_)⟩⟩
      · show _ = kOr _ k ||| _
        rw [← hv F Mc hc]
        exact congrArg (fun z => a ||| z) (if_pos ((z0 F Mc hc).mp h)).symm
      · show _ = kOr _ k ||| _
        rw [← hv F Mc hc]
        exact congrArg (fun z => a ||| z) ((if_neg (fun q => h ((z0 F Mc hc).mpr q))).trans (if_pos ((z1 F Mc hc).mp h2))).symm
      · show _ = kOr _ k ||| _
        rw [← hv F Mc hc]
        exact congrArg (fun z => a ||| z) ((if_neg (fun q => h ((z0 F Mc hc).mpr q))).trans (if_neg (fun q => h2 ((z1 F Mc hc).mpr q)))).symm
  exact L 6 0 0 M rfl mAg.rf (fun _ _ _ => rfl)
theorem vS_X_touched_0 (g : Nat → Option Nat) (X : List zShp) (M : zMem) (x1 x2 : Int32) (R : zEnd) (h : (((inI x1 0 (M 35 6 - 1)) = true) → ((mCnt M) ∧ (((¬ x2 = 0) → (((¬ x2 = 1) → (((¬ x2 = 2) → (R (some (.int (-2))) (SHP g X) (mTo M))) ∧ ((x2 = 2) → ((mK (mTo M) ∧ mTh (mTo M) x1) ∧ (∀ (r7 : Int32) (M7 : zMem), (mAg (mTo M) M7 ∧ (∀ F Mc, cM F Mc (mTo M) → r7 = kWP Mc (kHv Mc x1 (Mc 10 8)))) → (R (some (.int r7)) (SHP g X) M7)))))) ∧ ((x2 = 1) → ((mRw (mTo M) x1) ∧ (R (some (.int (mWP (mTo M) (mTc (mTo M) x1)))) (SHP g X) (mWk (mTo M) (Int32.toNatClampNeg x1))))))) ∧ ((x2 = 0) → ((mRw (mTo M) x1) ∧ (R (some (.int (mTc (mTo M) x1))) (SHP g X) (mWk (mTo M) (Int32.toNatClampNeg x1)))))))) ∧ (((inI x1 0 (M 35 6 - 1)) = false) → (R (some (.int (-1))) (SHP g X) M))) : zRT m_X_touched 0 0 0 [(0, .ref 35), (1, .int x1), (2, .int x2)] [] (SHP g X) M R := by
  refine zs_aload_n 0 d_X_touched_0 rfl (List.mem_of_getElem? (i := 0) rfl) ?_
  refine zs_iload_n 1 d_X_touched_1 rfl (List.mem_of_getElem? (i := 1) rfl) ?_
  refine zs_callV (kc := 0) (ks := 0) (kc1 := 0) (ks1 := 0) (st := []) [.int x1] d_X_touched_2 lk_X_83 ⟨by decide, by decide⟩ rfl (sh_35 g X) rfl (Nat.le_of_ble_eq_true rfl) (ex_X_isThing g X M x1) (fun v1 sh1 M1 hR => ?_)
  obtain ⟨rfl, rfl, rfl⟩ := hR
  refine zs_if_ne 10 d_X_touched_5 (by decide) (fun c2 => ?_) (fun c2 => ?_)
  · replace h := h.1 (bI_1 c2)
    refine zs_aload_n 0 d_X_touched_10 rfl (List.mem_of_getElem? (i := 0) rfl) ?_
    obtain ⟨p3, h⟩ := h
    refine zs_callV (kc := 0) (ks := 0) (kc1 := 0) (ks1 := 0) (st := []) [] d_X_touched_11 lk_X_116 ⟨by decide, by decide⟩ rfl (sh_35 g X) rfl (Nat.le_of_ble_eq_true rfl) (ex_X_asTold g X M p3) (fun v3 sh3 M3 hR => ?_)
    obtain ⟨rfl, rfl, rfl⟩ := hR
    refine zs_iload_n 2 d_X_touched_14 rfl (List.mem_of_getElem? (i := 2) rfl) ?_
    refine zs_if_ne 26 d_X_touched_15 (by decide) (fun c4 => ?_) (fun c4 => ?_)
    · replace h := h.1 c4
      refine zs_iload_n 2 d_X_touched_26 rfl (List.mem_of_getElem? (i := 2) rfl) ?_
      refine zs_iconst 1 d_X_touched_27 (by decide) ?_
      refine zs_icmp_ne 39 d_X_touched_28 (by decide) (fun c5 => ?_) (fun c5 => ?_)
      · replace h := h.1 c5
        refine zs_iload_n 2 d_X_touched_39 rfl (List.mem_of_getElem? (i := 2) rfl) ?_
        refine zs_iconst 2 d_X_touched_40 (by decide) ?_
        refine zs_icmp_ne 52 d_X_touched_41 (by decide) (fun c6 => ?_) (fun c6 => ?_)
        · replace h := h.1 c6
          refine zs_bipush (-2) d_X_touched_52 (by decide) ?_
          exact zs_iret d_X_touched_54 rfl h
        · replace h := h.2 c6
          refine zs_aload_n 0 d_X_touched_44 rfl (List.mem_of_getElem? (i := 0) rfl) ?_
          refine zs_iload_n 1 d_X_touched_45 rfl (List.mem_of_getElem? (i := 1) rfl) ?_
          obtain ⟨p7, h⟩ := h
          refine zs_callV (kc := 0) (ks := 0) (kc1 := 0) (ks1 := 0) (st := []) [.int x1] d_X_touched_46 lk_X_122 ⟨by decide, by decide⟩ rfl (sh_35 g X) rfl (Nat.le_of_ble_eq_true rfl) (ex2_X_byTenths g X (mTo M) x1 p7) (fun v7 sh7 M7 hR => ?_)
          obtain ⟨r7, rfl, rfl, hq7⟩ := hR
          replace h := h r7 M7 hq7
          refine zs_goto 54 d_X_touched_49 (by decide) ?_
          exact zs_iret d_X_touched_54 rfl h
      · replace h := h.2 c5
        refine zs_aload_n 0 d_X_touched_31 rfl (List.mem_of_getElem? (i := 0) rfl) ?_
        refine zs_iload_n 1 d_X_touched_32 rfl (List.mem_of_getElem? (i := 1) rfl) ?_
        obtain ⟨p8, h⟩ := h
        refine zs_callV (kc := 0) (ks := 0) (kc1 := 0) (ks1 := 0) (st := []) [.int x1] d_X_touched_33 lk_X_119 ⟨by decide, by decide⟩ rfl (sh_35 g X) rfl (Nat.le_of_ble_eq_true rfl) (ex_X_barredFrom g X (mTo M) x1 p8) (fun v8 sh8 M8 hR => ?_)
        obtain ⟨rfl, rfl, rfl⟩ := hR
        refine zs_goto 54 d_X_touched_36 (by decide) ?_
        exact zs_iret d_X_touched_54 rfl h
    · replace h := h.2 c4
      refine zs_aload_n 0 d_X_touched_18 rfl (List.mem_of_getElem? (i := 0) rfl) ?_
      refine zs_iload_n 1 d_X_touched_19 rfl (List.mem_of_getElem? (i := 1) rfl) ?_
      obtain ⟨p9, h⟩ := h
      refine zs_callV (kc := 0) (ks := 0) (kc1 := 0) (ks1 := 0) (st := []) [.int x1] d_X_touched_20 lk_X_102 ⟨by decide, by decide⟩ rfl (sh_35 g X) rfl (Nat.le_of_ble_eq_true rfl) (ex_X_touchers g X (mTo M) x1 p9) (fun v9 sh9 M9 hR => ?_)
      obtain ⟨rfl, rfl, rfl⟩ := hR
      refine zs_goto 54 d_X_touched_23 (by decide) ?_
      exact zs_iret d_X_touched_54 rfl h
  · replace h := h.2 (bI_0 c2)
    refine zs_iconst (-1) d_X_touched_8 (by decide) ?_
    exact zs_iret d_X_touched_9 rfl h
theorem ex2_X_touched (F : zTS) (Mc : zMem) (hcm : cM F Mc M) (hh : mK M) (x y : Int32) : zEx m_X_touched 0 0 [.ref 35, .int x, .int y] (SHP g X) M (qR g X (fun r M2 => mAg M M2 ∧ r = kv_touched Mc x y)) := by
  have hT : inI x 0 (M 35 6 - 1) = kIsT (Mc 11 5) x := by
    rw [hcm.2.2.2.2.2.2.1, kIsT_F hcm.1, show Mc 11 5 = fT F from hcm.2.1.1]
  have am : mAg M (mTo M) := mAg.rf.mt
  refine zEx_of _ (by decide) (by simp [Value.category]) (Nat.le_of_ble_eq_true rfl) rfl (vS_X_touched_0 g X M x y _ ⟨fun h => ⟨hh.1, ?_⟩, fun h => qR_i ⟨mAg.rf, ?_⟩⟩)
  · have hk := am.mk hh
    have hth := am.th (hh.th h)
    have hr := hk.rw hth
    have h' := h
    rw [hT, show Mc 11 5 = fT F from hcm.2.1.1] at h'
    obtain ⟨x1, x2⟩ := kIsT_n hcm.1 h'
    have etc : mTc (mTo M) x = kTch Mc x := by
      rw [x2]
      exact tc_eq (cM_ag am hcm) (m41_to hcm) x1
    have h6 : ∀ i, bt (kTch Mc x) i = true → i < 6 := fun i hi => by
      rw [x2, cTch hcm.1 hcm.2.1 x1] at hi
      exact gT_6 hcm.1 x1 hi
    refine ⟨fun h0 => ⟨fun h1 => ⟨fun h2 => qR_i ⟨am, ?_⟩, fun h2 => ⟨⟨hk, hth⟩, fun r M7 h7 => qR_i ⟨am.tr h7.1, ?_⟩⟩⟩, fun h1 => ⟨hr, qR_i ⟨am.wk, ?_⟩⟩⟩, fun h0 => ⟨hr, qR_i ⟨am.wk, ?_⟩⟩⟩
    · unfold kv_touched
      rw [← hT, if_pos h, if_neg h0, if_neg h1, if_neg h2]
    · unfold kv_touched
      rw [← hT, if_pos h, if_neg h0, if_neg h1, if_pos h2]
      exact h7.2 F Mc (cM_ag am hcm)
    · unfold kv_touched
      rw [← hT, if_pos h, if_neg h0, if_pos h1, etc]
      refine b_ext (fun i hi => ?_)
      rw [Bool.eq_iff_iff, mWP_bt hcm.1 (cM_ag am hcm).2.2 _ hi, kWP_bt hcm.1 hcm.2.1 h6 hi]
    · unfold kv_touched
      rw [← hT, if_pos h, if_pos h0, etc]
  · unfold kv_touched
    rw [← hT, if_neg (by rw [h]; decide)]
end zU2
section zU3
variable {n : Nat} {P : Nat → Int32} {F : zTS} {I : Nat → Option zTS} {M : zMem} {g : Nat → Option Nat} {X : List zShp}
theorem pr_touched (hok : kOk n P F I M g X) (t w : Int32) : kPr kEi 1 m_O_touched m_X_touched [.int t, .int w] M g X := kPr_e hok (ex_O_touched g X M t w ⟨kCJ_cnt hok.2.2.1 hok.2.2.2.1, kCJ_dpt hok.2.2.1 hok.2.2.2.1⟩) (fun M1 h hc => ex2_X_touched g X M1 F M hc (kMF_mK hok.2.2.1 h.2.2.1) t w)
theorem pr_share (hok : kOk n P F I M g X) (t m w : Int32) : kPr kEl 2 m_O_share m_X_share [.int t, .int m, .int w] M g X := by
  obtain ⟨hn, hP, hw, hc, hm⟩ := hok
  refine ⟨0, 0, by decide, zEx_mono (ex_O_share g X M t m w (kCJ_cnt hw hc)) ?_⟩
  rintro v sh1 M1 ⟨e1, e2, ag⟩
  have hm1 := kMJ_MS (kMS_CS ag) hm
  refine ⟨g, X, _, e1, rfl, e2, kIm_len hc.2.2.2, zEx_mono (ex2_X_share g X M1 F M ⟨hw, hc.2.2.1, hm1.2.2.1⟩ (kMF_mK hw hm1.2.2.1) t m w) ?_⟩
  rintro v2 sh2 M2 ⟨y, rfl, rfl, a2, ey⟩
  exact ⟨.long y, rfl, rfl, ⟨n, P, F, I, hn, hP, hw, kCJ_OS (kOS_mAg a2) (kCJ_CS ag hc), kMJ_mAg a2 hm1⟩, _, rfl, by rw [ey]⟩
end zU3
