/-! Filling, exactly -/
def fReach (F : zTS) (x t : Nat) : Prop := ∃ e, e ≤ dN F ∧ gW (fR F) (fO F = 1) x e t
def fCp (F : zTS) (w i : Nat) : Prop := i = w ∨ fP F w = nI i
def fHd (F : zTS) (s : Nat) : Nat := (fS F (2 * s + 1)).toNatClampNeg
def fSr (F : zTS) (s : Nat) : Nat := (fS F (2 * s)).toNatClampNeg
def fAllow (F : zTS) (k t i : Nat) : Prop := i < 6 ∧ ¬ bt (fR F (5 * t)) i = true ∧ ∀ s, s < k → fReach F (fHd F s) t → ¬ fCp F (fSr F s) i
def fHit (F : zTS) (x w : Nat) : Prop := ∃ t i, fReach F x t ∧ bt (fR F (5 * t)) i = true ∧ fCp F w i
def fTold (F : zTS) (k : Nat) : Prop := ∀ s, s < k → ¬ fHit F (fHd F s) (fSr F s)
def fAsk (F : zTS) (M1 : zMem) : Prop := M1 24 2 = nI (kAsN (fR F) (tN F)) ∧ ∀ t, t < tN F → fR F (5 * t + 4) = 1 → M1 25 (kAsN (fR F) t) = nI t ∧ M1 26 (kAsN (fR F) t) = (63 : Int32) &&& (fR F (5 * t) ^^^ (-1))
def fW (F : zTS) (k : Nat) (M1 : zMem) : Prop := M1 24 2 = nI (kAsN (fR F) (tN F)) ∧ (¬ M1 24 3 = 0 ↔ fTold F k) ∧ ∀ t, t < tN F → fR F (5 * t + 4) = 1 → M1 25 (kAsN (fR F) t) = nI t ∧ ∀ i, bt (M1 26 (kAsN (fR F) t)) i = true ↔ fAllow F k t i
theorem kAsN_mo {R : Nat → Int32} {t : Nat} : ∀ d, kAsN R t ≤ kAsN R (t + d)
  | 0 => Nat.le_refl _
  | d + 1 => Nat.le_trans (kAsN_mo d) (Nat.le_add_right _ _)
theorem kAsN_le {R : Nat → Int32} {t k : Nat} (h : t ≤ k) : kAsN R t ≤ kAsN R k := by
  obtain ⟨d, rfl⟩ := Nat.le.dest h
  exact kAsN_mo d
theorem kAsN_s {R : Nat → Int32} {t : Nat} (h : R (5 * t + 4) = 1) : kAsN R (t + 1) = kAsN R t + 1 := by
  show kAsN R t + (if R (5 * t + 4) = 1 then 1 else 0) = _
  rw [if_pos h]
theorem kAsN_n {R : Nat → Int32} {t : Nat} (h : ¬ R (5 * t + 4) = 1) : kAsN R (t + 1) = kAsN R t := by
  show kAsN R t + (if R (5 * t + 4) = 1 then 1 else 0) = _
  rw [if_neg h]; rfl
theorem kAsN_lt {R : Nat → Int32} {t k : Nat} (h : t < k) (ho : R (5 * t + 4) = 1) : kAsN R t < kAsN R k := by
  have := kAsN_le (R := R) (show t + 1 ≤ k from h)
  rw [kAsN_s ho] at this
  omega
theorem kAsN_inv {R : Nat → Int32} : ∀ k a, a < kAsN R k → ∃ t, t < k ∧ R (5 * t + 4) = 1 ∧ kAsN R t = a
  | 0, a, h => absurd h (Nat.not_lt_zero a)
  | k + 1, a, h => by
    by_cases c : R (5 * k + 4) = 1
    · rw [kAsN_s c] at h
      by_cases e : a = kAsN R k
      · exact ⟨k, by omega, c, e.symm⟩
      · obtain ⟨t, h1, h2, h3⟩ := kAsN_inv (R := R) k a (by omega)
        exact ⟨t, by omega, h2, h3⟩
    · rw [kAsN_n c] at h
      obtain ⟨t, h1, h2, h3⟩ := kAsN_inv (R := R) k a h
      exact ⟨t, by omega, h2, h3⟩
theorem kAsN_uq {R : Nat → Int32} {t u : Nat} (ht : R (5 * t + 4) = 1) (hu : R (5 * u + 4) = 1) (h : kAsN R t = kAsN R u) : t = u := by
  rcases Nat.lt_trichotomy t u with q | q | q
  · have := kAsN_lt q ht; omega
  · exact q
  · have := kAsN_lt q hu; omega
section zV1
variable {F : zTS} {M : zMem}
theorem cRch (hw : kWF F) (ht : kTR M 10 F) {x t : Nat} (hx : x < tN F) (h32 : t < 32) : bt (kRch M (nI x)) t = true ↔ fReach F x t := by
  unfold kRch
  have hD : kDN M = dN F := by
    unfold kDN dN
    rw [← ht.2.2.1]
  have e := cRcn hw ht hx (kDN M + 1) 0 0 t h32
  rw [show cL M x 0 = (1 : Int32) <<< (nI x &&& 31) from rfl] at e
  rw [e]
  constructor
  · rintro (h | ⟨d, _, d2, d3⟩)
    · rw [b_0] at h; cases h
    · exact ⟨d, by omega, d3⟩
  · rintro ⟨d, d1, d2⟩
    exact Or.inr ⟨d, by omega, by omega, d2⟩
theorem fReach_le {x t : Nat} (h : fReach F x t) : t ≤ x := by
  obtain ⟨e, _, h⟩ := h
  have := gW_le h
  omega
theorem hand6 (hw : kWF F) {t i : Nat} (ht : t < tN F) (h : bt (fR F (5 * t)) i = true) : i < 6 := by
  obtain ⟨⟨a, ha, ea, -⟩, -⟩ := hw.2.2.2.2.2.2.2.2.1 t ht
  rw [ea] at h
  exact b_seti ha h
theorem fHit_0 (hw : kWF F) (ht : kTR M 10 F) {x w : Nat} (hx : x < tN F) (hw6 : w < 6) : (kHO M (kRch M (nI x)) &&& kCpl M (nI w) = 0) ↔ ¬ fHit F x w := by
  have h10 := hw.1.2
  constructor
  · rintro h ⟨t, i, h1, h2, h3⟩
    have htx := fReach_le h1
    have i6 := hand6 hw (by omega) h2
    have hz : bt (kHO M (kRch M (nI x)) &&& kCpl M (nI w)) i = false := by rw [h, b_0]
    have hb1 : bt (kHO M (kRch M (nI x))) i = true := (cHO hw ht _ i).mpr ⟨t, by omega, (cRch hw ht hx (by omega)).mpr h1, h2⟩
    have hb2 : bt (kCpl M (nI w)) i = true := (kCpl_bt hw ht hw6 (by omega)).mpr h3
    rw [b_and, hb1, hb2] at hz
    cases hz
  · intro h
    refine b_ext (fun i hi => ?_)
    rw [b_and, b_0]
    by_cases c : bt (kHO M (kRch M (nI x))) i = true
    · by_cases c2 : bt (kCpl M (nI w)) i = true
      · exfalso
        obtain ⟨k, hk, k1, k2⟩ := (cHO hw ht _ i).mp c
        exact h ⟨k, i, (cRch hw ht hx (by omega)).mp k1, k2, (kCpl_bt hw ht hw6 hi).mp c2⟩
      · simp [c2]
    · simp [c]
end zV1
section zV2
variable (g : Nat → Option Nat) (X : List zShp) (M : zMem)
theorem ex2_Filling_findAsks (hc : kCnt M) : zEx m_Filling_findAsks 0 0 [.ref 24, .ref 11] (SHP g X) M (qW g X (fun M2 => kFA M M2 ∧ (∀ F, kWF F → kTR M 10 F → fAsk F M2))) := by
  refine zEx_of _ (by decide) (by simp [Value.category]) (Nat.le_of_ble_eq_true rfl) rfl (v_Filling_findAsks_0 g X M _ ?_)
  obtain ⟨hc1, hc2⟩ := kCnt_e hc
  have L : ∀ n k M1, k + n = kCN M → kFA M M1 → (∀ F, kWF F → kTR M 10 F → M1 24 2 = nI (kAsN (fR F) k) ∧ ∀ t, t < k → fR F (5 * t + 4) = 1 → M1 25 (kAsN (fR F) t) = nI t ∧ M1 26 (kAsN (fR F) t) = (63 : Int32) &&& (fR F (5 * t) ^^^ (-1))) → zRT m_Filling_findAsks 0 0 7 [(0, .ref 24), (1, .ref 11), (2, .int (nI k))] [] (SHP g X) M1 (qW g X (fun M2 => kFA M M2 ∧ (∀ F, kWF F → kTR M 10 F → fAsk F M2))) := by
    intro n
    induction n with
    | zero =>
      intro k M1 hk hf hv
      have e11 : M1 11 = M 11 := hf.1 11 (by decide)
      refine v_Filling_findAsks_7 g X _ _ _ ⟨fun _ => ⟨rfl, rfl, hf, fun F h1 h2 => ?_⟩, fun h => absurd (by rw [e11, hc1]; exact nI_le (by omega) (by omega)) h⟩
      have e := hv F h1 h2
      rw [show k = tN F by rw [← kTR_cn h2]; omega] at e
      exact e
    | succ n ih =>
      intro k M1 hk hf hv
      have e11 : M1 11 = M 11 := hf.1 11 (by decide)
      have e12 : M1 12 = M 12 := hf.1 12 (by decide)
      have e16 : M1 16 = M 16 := hf.1 16 (by decide)
      obtain ⟨a, ha, ea⟩ := hf.2
      refine v_Filling_findAsks_7 g X _ _ _ ⟨fun h => absurd h (by rw [e11, hc1]; exact nI_ge (by omega) (by omega)), fun _ => ⟨vp_in_nI (by omega) (by decide), ?_⟩⟩
      rw [nI_1, nI_clamp (by omega), e16, e12]
      have fr : ∀ F, kTR M 10 F → k < tN F ∧ M 16 k = fR F (5 * k + 4) ∧ M 12 k = fR F (5 * k) := fun F h => by
        have hk2 : k < tN F := by rw [← kTR_cn h]; omega
        exact ⟨hk2, (h.2.2.2.2.2.2.2.2 k hk2).2.2.2.2, (h.2.2.2.2.2.2.2.2 k hk2).1⟩
      refine ⟨fun h => ih (k + 1) M1 (by omega) hf (fun F h1 h2 => ?_), fun h => ⟨fun h4 => ih (k + 1) M1 (by omega) hf (fun F h1 h2 => ?_), fun h4 => ?_⟩⟩
      · obtain ⟨f1, f2, f3⟩ := fr F h2
        obtain ⟨v1, v2⟩ := hv F h1 h2
        rw [f2] at h
        refine ⟨by rw [kAsN_n h]; exact v1, fun t ht ho => ?_⟩
        by_cases e : t = k
        · subst e; exact absurd ho h
        · exact v2 t (by omega) ho
      · exfalso
        obtain ⟨f1, f2, f3⟩ := fr F h2
        obtain ⟨v1, v2⟩ := hv F h1 h2
        rw [f2] at h
        have l4 := kAsN_lt f1 h
        have l5 := h1.2.2.2.2.2.2.2.2.2
        rw [v1, show (4 : Int32) = nI 4 from rfl, nI_leI (by decide) (by omega)] at h4
        omega
      · rw [ea] at h4 ⊢
        have ha4 : a < 4 := by
          rcases Nat.lt_or_ge a 4 with q | q
          · exact q
          · exact absurd (nI_le (a := 4) q (by omega)) h4
        rw [nI_1, nI_clamp (by omega)]
        refine ⟨vp_in_nI ha4 (by decide), ih (k + 1) _ (by omega) ⟨((hf.1.st (by decide)).st (by decide)).st (by decide), a + 1, by omega, ?_⟩ (fun F h1 h2 => ?_)⟩
        · rw [zms_at, if_pos rfl]
        · obtain ⟨f1, f2, f3⟩ := fr F h2
          obtain ⟨v1, v2⟩ := hv F h1 h2
          rw [f2] at h
          have l5 := h1.2.2.2.2.2.2.2.2.2
          have l6 := kAsN_le (R := fR F) (show k ≤ tN F by omega)
          have ek : kAsN (fR F) k = a := (nI_eq (by omega) (by omega)).mp (v1.symm.trans ea)
          refine ⟨?_, fun t ht ho => ?_⟩
          · rw [zms_at, if_pos rfl, kAsN_s h, ek]
          · rw [zms_ne _ _ _ _ 25 (by decide), zms_ne _ _ _ _ 25 (by decide), zms_at, zms_ne _ _ _ _ 26 (by decide), zms_at]
            by_cases e : t = k
            · subst e
              rw [ek, if_pos rfl, if_pos rfl, f3]
              exact ⟨rfl, rfl⟩
            · have := kAsN_lt (show t < k by omega) ho
              rw [if_neg (by omega), if_neg (by omega), zms_ne _ _ _ _ 26 (by decide)]
              exact v2 t (by omega) ho
  refine L (kCN M) 0 _ (by omega) ⟨kAg.rf.st (by decide), 0, by omega, ?_⟩ (fun F _ _ => ⟨?_, fun t ht => absurd ht (Nat.not_lt_zero t)⟩)
  · rw [zms_at, if_pos rfl]; rfl
  · rw [zms_at, if_pos rfl]; rfl
theorem ex2_Filling_applySight (r cp : Int32) (hh : kCnt M ∧ kAsk M) : zEx m_Filling_applySight 0 0 [.ref 24, .int r, .int cp, .ref 11] (SHP g X) M (qW g X (fun M2 => kFA M M2 ∧ M2 25 = M 25 ∧ M2 24 2 = M 24 2 ∧ M2 24 3 = (if kHO M r &&& cp = 0 then M 24 3 else 0) ∧ (∀ a, a < Int32.toNatClampNeg (M 24 2) → M2 26 a = if hb r (M 25 a) = true then M 26 a &&& (cp ^^^ (-1)) else M 26 a))) := by
  refine zEx_of _ (by decide) (by simp [Value.category]) (Nat.le_of_ble_eq_true rfl) rfl (v_Filling_applySight_0 g X M r cp _ ⟨hh.1, ?_⟩)
  obtain ⟨a, ha, ea⟩ := hh.2
  have L : ∀ n k M1, k + n = a → kAg [24, 26] M M1 → M1 24 2 = nI a → M1 24 3 = (if kHO M r &&& cp = 0 then M 24 3 else 0) → (∀ j, j < k → M1 26 j = if hb r (M 25 j) = true then M 26 j &&& (cp ^^^ (-1)) else M 26 j) → (∀ j, k ≤ j → M1 26 j = M 26 j) → zRT m_Filling_applySight 0 0 18 [(0, .ref 24), (1, .int r), (2, .int cp), (4, .int (nI k))] [] (SHP g X) M1 (qW g X (fun M2 => kFA M M2 ∧ M2 25 = M 25 ∧ M2 24 2 = M 24 2 ∧ M2 24 3 = (if kHO M r &&& cp = 0 then M 24 3 else 0) ∧ (∀ a, a < Int32.toNatClampNeg (M 24 2) → M2 26 a = if hb r (M 25 a) = true then M 26 a &&& (cp ^^^ (-1)) else M 26 a))) := by
    intro n
    induction n with
    | zero =>
      intro k M1 hk hf he h3 hv hr
      refine v_Filling_applySight_18 g X _ _ _ _ _ ⟨fun _ => ⟨rfl, rfl, ⟨hf.mo (by decide), a, ha, he⟩, hf 25 (by decide), by rw [he, ea], h3, fun j hj => hv j ?_⟩, fun h => absurd (by rw [he]; exact nI_le (by omega) (by omega)) h⟩
      rw [ea, nI_clamp (by omega)] at hj
      omega
    | succ n ih =>
      intro k M1 hk hf he h3 hv hr
      refine v_Filling_applySight_18 g X _ _ _ _ _ ⟨fun h => absurd h (by rw [he]; exact nI_ge (by omega) (by omega)), fun _ => ⟨vp_in_nI (by omega) (by decide), ?_⟩⟩
      rw [nI_1, nI_clamp (by omega), hf 25 (by decide), hr k (Nat.le_refl k)]
      refine ⟨fun h => ih (k + 1) M1 (by omega) hf he h3 (fun j hj => ?_) (fun j hj => hr j (by omega)), fun h => ih (k + 1) _ (by omega) (hf.st (by decide)) ?_ ?_ (fun j hj => ?_) (fun j hj => ?_)⟩
      · by_cases e : j = k
        · subst e
          rw [if_neg (by rw [h]; decide)]
          exact hr j (Nat.le_refl j)
        · exact hv j (by omega)
      · rw [zms_ne _ _ _ _ 24 (by decide)]; exact he
      · rw [zms_ne _ _ _ _ 24 (by decide)]; exact h3
      · rw [zms_at]
        by_cases e : j = k
        · subst e
          rw [if_pos rfl, if_pos h]
        · rw [if_neg e]; exact hv j (by omega)
      · rw [zms_at, if_neg (by omega)]; exact hr j (by omega)
  refine ⟨fun h => L a 0 _ (by omega) kAg.rf ea ?_ (fun j hj => absurd hj (Nat.not_lt_zero j)) (fun _ _ => rfl), fun h => L a 0 _ (by omega) (kAg.rf.st (by decide)) ?_ ?_ (fun j hj => absurd hj (Nat.not_lt_zero j)) (fun j _ => ?_)⟩
  · rw [if_pos h]
  · rw [zms_at, if_neg (by decide)]; exact ea
  · rw [zms_at, if_pos rfl, if_neg h]
  · rw [zms_ne _ _ _ _ 26 (by decide)]
theorem vS_Filling_weigh_0 (g : Nat → Option Nat) (X : List zShp) (M : zMem) (R : zEnd) (h : (kCnt M) ∧ (∀ (M1 : zMem), (kFA M M1 ∧ (∀ F, kWF F → kTR M 10 F → fAsk F M1)) → (zRT m_Filling_weigh 0 0 15 [(0, .ref 24), (1, .ref 10), (2, .int 0)] [] (SHP g X) (zms M1 24 3 1) R))) : zRT m_Filling_weigh 0 0 0 [(0, .ref 24), (1, .ref 10)] [] (SHP g X) M R := by
  refine zs_aload_n 0 d_Filling_weigh_0 rfl (List.mem_of_getElem? (i := 0) rfl) ?_
  refine zs_aload_n 1 d_Filling_weigh_1 rfl (List.mem_of_getElem? (i := 1) rfl) ?_
  refine zs_get d_Filling_weigh_2 gf_Filling_18 (sh_10 g X) rfl ?_
  obtain ⟨p1, h⟩ := h
  refine zs_callV (kc := 0) (ks := 0) (kc1 := 0) (ks1 := 0) (st := []) [.ref 11] d_Filling_weigh_5 lk_Filling_24 ⟨by decide, by decide⟩ rfl (sh_24 g X) rfl (Nat.le_of_ble_eq_true rfl) (ex2_Filling_findAsks g X M p1) (fun v1 sh1 M1 hR => ?_)
  obtain ⟨rfl, rfl, hq1⟩ := hR
  replace h := h M1 hq1
  refine zs_aload_n 0 d_Filling_weigh_8 rfl (List.mem_of_getElem? (i := 0) rfl) ?_
  refine zs_iconst 1 d_Filling_weigh_9 (by decide) ?_
  refine zs_put d_Filling_weigh_10 pf_Filling_28 (sh_24 g X) rfl rfl rfl ?_
  refine zs_iconst 0 d_Filling_weigh_13 (by decide) ?_
  refine zs_istore_n2 2 [1, 2, 0] [(0, .ref 24), (1, .ref 10), (2, .int 0)] d_Filling_weigh_14 rfl (by decide) rfl ?_
  exact h
theorem vS_Filling_weigh_15 (g : Nat → Option Nat) (X : List zShp) (M : zMem) (x2 : Int32) (R : zEnd) (h : (((M 10 5) ≤ x2) → (R none (SHP g X) M)) ∧ ((¬ (M 10 5) ≤ x2) → ((vp_in x2 6) ∧ ((kCnt M ∧ kDpt M) ∧ ((vp_in (M 19 (Int32.toNatClampNeg x2)) 6) ∧ ((kCnt M ∧ kAsk M) ∧ (∀ (M5 : zMem), (kFA M M5 ∧ M5 25 = M 25 ∧ M5 24 2 = M 24 2 ∧ M5 24 3 = (if kHO M (kRch M (M 20 (Int32.toNatClampNeg x2))) &&& (kCpl M (M 19 (Int32.toNatClampNeg x2))) = 0 then M 24 3 else 0) ∧ (∀ a, a < Int32.toNatClampNeg (M 24 2) → M5 26 a = if hb (kRch M (M 20 (Int32.toNatClampNeg x2))) (M 25 a) = true then M 26 a &&& ((kCpl M (M 19 (Int32.toNatClampNeg x2))) ^^^ (-1)) else M 26 a)) → (zRT m_Filling_weigh 0 0 15 [(0, .ref 24), (1, .ref 10), (2, .int (x2 + 1))] [] (SHP g X) M5 R)))))))) : zRT m_Filling_weigh 0 0 15 [(0, .ref 24), (1, .ref 10), (2, .int x2)] [] (SHP g X) M R := by
  refine zs_iload_n 2 d_Filling_weigh_15 rfl (List.mem_of_getElem? (i := 2) rfl) ?_
  refine zs_aload_n 1 d_Filling_weigh_16 rfl (List.mem_of_getElem? (i := 1) rfl) ?_
  refine zs_get d_Filling_weigh_17 gf_Filling_32 (sh_10 g X) rfl ?_
  refine zs_icmp_ge 57 d_Filling_weigh_20 (by decide) (fun c1 => ?_) (fun c1 => ?_)
  · replace h := h.1 c1
    exact zs_vret d_Filling_weigh_57 rfl h
  · replace h := h.2 c1
    refine zs_aload_n 0 d_Filling_weigh_23 rfl (List.mem_of_getElem? (i := 0) rfl) ?_
    refine zs_aload_n 1 d_Filling_weigh_24 rfl (List.mem_of_getElem? (i := 1) rfl) ?_
    refine zs_aload_n 1 d_Filling_weigh_25 rfl (List.mem_of_getElem? (i := 1) rfl) ?_
    refine zs_get d_Filling_weigh_26 gf_Filling_36 (sh_10 g X) rfl ?_
    refine zs_iload_n 2 d_Filling_weigh_29 rfl (List.mem_of_getElem? (i := 2) rfl) ?_
    obtain ⟨b2, h⟩ := h
    refine zs_iald d_Filling_weigh_30 (sh_20 g X) b2 ?_
    obtain ⟨p3, h⟩ := h
    refine zs_callV (kc := 0) (ks := 0) (kc1 := 0) (ks1 := 0) (st := [.ref 24]) [.int (M 20 (Int32.toNatClampNeg x2))] d_Filling_weigh_31 lk_Filling_39 ⟨by decide, by decide⟩ rfl (sh_10 g X) rfl (Nat.le_of_ble_eq_true rfl) (ex_Town_reach g X M (M 20 (Int32.toNatClampNeg x2)) p3) (fun v3 sh3 M3 hR => ?_)
    obtain ⟨rfl, rfl, rfl⟩ := hR
    refine zs_aload_n 1 d_Filling_weigh_34 rfl (List.mem_of_getElem? (i := 1) rfl) ?_
    refine zs_aload_n 1 d_Filling_weigh_35 rfl (List.mem_of_getElem? (i := 1) rfl) ?_
    refine zs_get d_Filling_weigh_36 gf_Filling_43 (sh_10 g X) rfl ?_
    refine zs_iload_n 2 d_Filling_weigh_39 rfl (List.mem_of_getElem? (i := 2) rfl) ?_
    refine zs_iald d_Filling_weigh_40 (sh_19 g X) b2 ?_
    obtain ⟨p4, h⟩ := h
    refine zs_callV (kc := 0) (ks := 0) (kc1 := 0) (ks1 := 0) (st := [.int (kRch M (M 20 (Int32.toNatClampNeg x2))), .ref 24]) [.int (M 19 (Int32.toNatClampNeg x2))] d_Filling_weigh_41 lk_Filling_46 ⟨by decide, by decide⟩ rfl (sh_10 g X) rfl (Nat.le_of_ble_eq_true rfl) (ex_Town_couple g X M (M 19 (Int32.toNatClampNeg x2)) p4) (fun v4 sh4 M4 hR => ?_)
    obtain ⟨rfl, rfl, rfl⟩ := hR
    refine zs_aload_n 1 d_Filling_weigh_44 rfl (List.mem_of_getElem? (i := 1) rfl) ?_
    refine zs_get d_Filling_weigh_45 gf_Filling_18 (sh_10 g X) rfl ?_
    obtain ⟨p5, h⟩ := h
    refine zs_callV (kc := 0) (ks := 0) (kc1 := 0) (ks1 := 0) (st := []) [.int (kRch M (M 20 (Int32.toNatClampNeg x2))), .int (kCpl M (M 19 (Int32.toNatClampNeg x2))), .ref 11] d_Filling_weigh_48 lk_Filling_49 ⟨by decide, by decide⟩ rfl (sh_24 g X) rfl (Nat.le_of_ble_eq_true rfl) (ex2_Filling_applySight g X M (kRch M (M 20 (Int32.toNatClampNeg x2))) (kCpl M (M 19 (Int32.toNatClampNeg x2))) p5) (fun v5 sh5 M5 hR => ?_)
    obtain ⟨rfl, rfl, hq5⟩ := hR
    replace h := h M5 hq5
    refine zs_iinc2 2 (x2 + 1) [1, 2, 0] [(0, .ref 24), (1, .ref 10), (2, .int (x2 + 1))] d_Filling_weigh_51 rfl rfl (by decide) rfl ?_
    refine zs_goto 15 d_Filling_weigh_54 (by decide) ?_
    exact h
theorem ex2_Filling_weigh (hh : kCnt M ∧ kDpt M ∧ kSts M) : zEx m_Filling_weigh 0 0 [.ref 24, .ref 10] (SHP g X) M (qW g X (fun M2 => kFA M M2 ∧ (∀ F, kWF F → kTR M 10 F → fW F (sN F) M2))) := by
  obtain ⟨hc, hd, hs⟩ := hh
  refine zEx_of _ (by decide) (by simp [Value.category]) (Nat.le_of_ble_eq_true rfl) rfl (vS_Filling_weigh_0 g X M _ ⟨hc, fun M1 ⟨hf, hv0⟩ => ?_⟩)
  obtain ⟨sn, hsn, es, hs19⟩ := hs
  have L : ∀ n k M1, k + n = sn → kFA M M1 → (∀ F, kWF F → kTR M 10 F → fW F k M1) → zRT m_Filling_weigh 0 0 15 [(0, .ref 24), (1, .ref 10), (2, .int (nI k))] [] (SHP g X) M1 (qW g X (fun M2 => kFA M M2 ∧ (∀ F, kWF F → kTR M 10 F → fW F (sN F) M2))) := by
    intro n
    induction n with
    | zero =>
      intro k M1 hk hf hv
      have e10 : M1 10 = M 10 := hf.1 10 (by decide)
      refine vS_Filling_weigh_15 g X _ _ _ ⟨fun _ => ⟨rfl, rfl, hf, fun F h1 h2 => ?_⟩, fun h => absurd (by rw [e10, es]; exact nI_le (by omega) (by omega)) h⟩
      have : sN F = k := by
        unfold sN
        rw [← h2.2.1, es, nI_clamp (by omega)]
        omega
      rw [this]
      exact hv F h1 h2
    | succ n ih =>
      intro k M1 hk hf hv
      have e : ∀ p, 10 ≤ p → p ≤ 20 → M1 p = M p := fun p h1 h2 => hf.1 p (by simp; omega)
      have hc1 : kCnt M1 := by
        obtain ⟨a, h1, h2⟩ := hc
        exact ⟨a, h1, by rw [e 11 (by decide) (by decide)]; exact h2⟩
      have hd1 : kDpt M1 := by
        obtain ⟨a, h1, h2⟩ := hd
        exact ⟨a, h1, by rw [e 10 (by decide) (by decide)]; exact h2⟩
      refine vS_Filling_weigh_15 g X _ _ _ ⟨fun h => absurd h (by rw [e 10 (by decide) (by decide), es]; exact nI_ge (by omega) (by omega)), fun _ => ⟨vp_in_nI (by omega) (by decide), ⟨hc1, hd1⟩, ?_, ⟨hc1, hf.2⟩, fun M5 h5 => ?_⟩⟩
      · rw [nI_clamp (by omega), e 19 (by decide) (by decide)]
        exact hs19 k (by omega)
      · rw [nI_1]
        obtain ⟨q1, q2, q3, q4, q5⟩ := h5
        rw [nI_clamp (by omega)] at q4 q5
        refine ih (k + 1) M5 (by omega) ⟨hf.1.tr q1.1, q1.2⟩ (fun F h1 h2 => ?_)
        obtain ⟨w1, w2, w3⟩ := hv F h1 h2
        have ht1 : kTR M1 10 F := kTR_ag (fun p a b => e p a b) h2
        have sk : k < sN F := by
          have : sN F = sn := by
            unfold sN
            rw [← h2.2.1, es, nI_clamp (by omega)]
          omega
        have s6 := h1.2.1.2
        have h10 := h1.1.2
        have hA := h1.2.2.2.2.2.2.2.2.2
        obtain ⟨⟨w, hw6, ew⟩, ⟨x, hx, ex⟩⟩ := h1.2.2.2.2.2.2.2.1 k sk
        have ew' : fSr F k = w := by unfold fSr; rw [ew]; exact nI_clamp (by omega)
        have ex' : fHd F k = x := by unfold fHd; rw [ex]; exact nI_clamp (by omega)
        have m19 : M1 19 k = nI w := by rw [← ew]; exact (ht1.2.2.2.2.2.2.2.1 k (by omega)).1
        have m20 : M1 20 k = nI x := by rw [← ex]; exact (ht1.2.2.2.2.2.2.2.1 k (by omega)).2
        rw [m19, m20] at q4 q5
        have hz := fHit_0 h1 ht1 hx hw6
        refine ⟨by rw [q3]; exact w1, ?_, fun t ht ho => ?_⟩
        · rw [q4]
          constructor
          · intro q s hs
            by_cases c : kHO M1 (kRch M1 (nI x)) &&& kCpl M1 (nI w) = 0
            · rw [if_pos c] at q
              by_cases e2 : s = k
              · subst e2; rw [ex', ew']; exact hz.mp c
              · exact w2.mp q s (by omega)
            · rw [if_neg c] at q; exact absurd rfl q
          · intro q
            have := q k (by omega)
            rw [ex', ew'] at this
            rw [if_pos (hz.mpr this)]
            exact w2.mpr (fun s hs => q s (by omega))
        · obtain ⟨v1, v2⟩ := w3 t ht ho
          have ia := kAsN_lt ht ho
          have hcl : kAsN (fR F) t < Int32.toNatClampNeg (M1 24 2) := by rw [w1, nI_clamp (by omega)]; exact ia
          rw [q2, q5 _ hcl, v1, hb_bt (by omega)]
          refine ⟨rfl, fun i => ?_⟩
          have key : fAllow F (k + 1) t i ↔ fAllow F k t i ∧ (fReach F x t → ¬ fCp F w i) := by
            constructor
            · rintro ⟨a1, a2, a3⟩
              exact ⟨⟨a1, a2, fun s hs => a3 s (by omega)⟩, by have := a3 k (by omega); rw [ex', ew'] at this; exact this⟩
            · rintro ⟨⟨a1, a2, a3⟩, a4⟩
              refine ⟨a1, a2, fun s hs => ?_⟩
              by_cases e2 : s = k
              · subst e2; rw [ex', ew']; exact a4
              · exact a3 s (by omega)
          rw [key]
          by_cases c : bt (kRch M1 (nI x)) t = true
          · rw [if_pos c, b_and, Bool.and_eq_true, v2 i]
            have cr := (cRch h1 ht1 hx (by omega)).mp c
            constructor
            · rintro ⟨a1, a2⟩
              refine ⟨a1, fun _ q => ?_⟩
              have i6 := a1.1
              rw [b_not _ (by omega), (kCpl_bt h1 ht1 hw6 (by omega)).mpr q] at a2
              cases a2
            · rintro ⟨a1, a2⟩
              refine ⟨a1, ?_⟩
              have i6 := a1.1
              rw [b_not _ (by omega)]
              cases z : bt (kCpl M1 (nI w)) i with
              | false => rfl
              | true => exact absurd ((kCpl_bt h1 ht1 hw6 (by omega)).mp z) (a2 cr)
          · rw [if_neg c, v2 i]
            constructor
            · intro a1
              exact ⟨a1, fun q => absurd ((cRch h1 ht1 hx (by omega)).mpr q) c⟩
            · exact fun a1 => a1.1
  refine L sn 0 _ (by omega) ⟨hf.1.st (by decide), ?_⟩ (fun F h1 h2 => ?_)
  · obtain ⟨a, h1, h2⟩ := hf.2
    exact ⟨a, h1, by rw [zms_at, if_neg (by decide)]; exact h2⟩
  · obtain ⟨v1, v2⟩ := hv0 F h1 h2
    refine ⟨by rw [zms_at, if_neg (by decide)]; exact v1, ?_, fun t ht ho => ?_⟩
    · rw [zms_at, if_pos rfl]
      exact ⟨fun _ s hs => absurd hs (Nat.not_lt_zero s), fun _ => by decide⟩
    · rw [zms_ne _ _ _ _ 25 (by decide), zms_ne _ _ _ _ 26 (by decide)]
      obtain ⟨u1, u2⟩ := v2 t ht ho
      refine ⟨u1, fun i => ?_⟩
      rw [u2, b_and, Bool.and_eq_true]
      constructor
      · rintro ⟨a1, a2⟩
        have hi : i < 32 := by
          by_cases q : i < 32
          · exact q
          · rw [b_big (by omega)] at a1; cases a1
        rw [b_63 i hi, decide_eq_true_iff] at a1
        rw [b_not _ hi] at a2
        refine ⟨a1, fun q => ?_, fun s hs => absurd hs (Nat.not_lt_zero s)⟩
        rw [q] at a2
        cases a2
      · rintro ⟨a1, a2, -⟩
        rw [b_63 i (by omega), b_not _ (by omega)]
        refine ⟨by simp [a1], ?_⟩
        cases z : bt (fR F (5 * t)) i with
        | false => rfl
        | true => exact absurd z a2
end zV2
