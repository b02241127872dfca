/-! fed: the reference answers as the class does -/
def hSt (M Mc : zMem) (N m b : Nat) (E L : Nat → Nat) (M2 : zMem) : Prop := mAg M M2 ∧ (∀ j, j < 6 → M2 44 j = kLwf Mc (nI j)) ∧ (∀ k, k < m → M2 45 k = nI (E k)) ∧ (∀ j, b ≤ j → j < 6 → M2 45 j = -1) ∧ ∀ t, t < N → M2 47 t = nI (L t)
section zH5
variable {M Mc M2 : zMem} {N m : Nat} {E L : Nat → Nat}
theorem hSt_dn (h : hSt M Mc N m (m + 1) E L M2) : hSt M Mc N m m E L (zms M2 45 m (-1)) := by
  refine ⟨h.1.st (by decide), fun j hj => ?_, fun k hk => ?_, fun j h1 h2 => ?_, fun t ht => ?_⟩
  · rw [zms_ne _ _ _ _ 44 (by decide)]; exact h.2.1 j hj
  · rw [m45_n (by omega)]; exact h.2.2.1 k hk
  · by_cases q : j = m
    · subst q; exact m45_s
    · rw [m45_n q]; exact h.2.2.2.1 j (by omega) h2
  · rw [zms_ne _ _ _ _ 47 (by decide)]; exact h.2.2.2.2 t ht
theorem hSt_up (h : hSt M Mc N m (m + 1) E L M2) (x : Nat) : hSt M Mc N (m + 1) (m + 1) (hX E m x) L (zms M2 45 m (nI x)) := by
  refine ⟨h.1.st (by decide), fun j hj => ?_, fun k hk => ?_, fun j h1 h2 => ?_, fun t ht => ?_⟩
  · rw [zms_ne _ _ _ _ 44 (by decide)]; exact h.2.1 j hj
  · unfold hX
    by_cases q : k = m
    · subst q; rw [m45_s, if_pos rfl]
    · rw [m45_n q, if_neg q]; exact h.2.2.1 k (by omega)
  · rw [m45_n (by omega)]; exact h.2.2.2.1 j h1 h2
  · rw [zms_ne _ _ _ _ 47 (by decide)]; exact h.2.2.2.2 t ht
theorem hSt_47 {b : Nat} {L2 : Nat → Nat} {x : Nat} {v : Int32} (h : hSt M Mc N m b E L M2) (hv : v = nI (L2 x)) (hL : ∀ t, t ≠ x → L2 t = L t) : hSt M Mc N m b E L2 (zms M2 47 x v) := by
  refine ⟨h.1.st (by decide), fun j hj => ?_, fun k hk => ?_, fun j h1 h2 => ?_, fun t ht => ?_⟩
  · rw [zms_ne _ _ _ _ 44 (by decide)]; exact h.2.1 j hj
  · rw [m45_o (by decide)]; exact h.2.2.1 k hk
  · rw [m45_o (by decide)]; exact h.2.2.2.1 j h1 h2
  · rw [zms_row]
    by_cases q : t = x
    · subst q; rw [pk_us]; exact hv
    · rw [pk_un q, hL t q]; exact h.2.2.2.2 t ht
theorem hSt_46 {b k : Nat} {v : Int32} (h : hSt M Mc N m b E L M2) : hSt M Mc N m b E L (zms M2 46 k v) := by
  refine ⟨h.1.st (by decide), fun j hj => ?_, fun k hk => ?_, fun j h1 h2 => ?_, fun t ht => ?_⟩
  · rw [zms_ne _ _ _ _ 44 (by decide)]; exact h.2.1 j hj
  · rw [m45_o (by decide)]; exact h.2.2.1 k hk
  · rw [m45_o (by decide)]; exact h.2.2.2.1 j h1 h2
  · rw [zms_ne _ _ _ _ 47 (by decide)]; exact h.2.2.2.2 t ht
theorem hSt_up2 (h : hSt M Mc N m (m + 1) E L M2) {x : Nat} (hx : x < N) (h0 : 0 < L x) : hSt M Mc N (m + 1) (m + 1) (hX E m x) (hDec L x) (zms (zms M2 45 m (nI x)) 47 x (M2 47 x - 1)) := by
  refine hSt_47 (hSt_up h x) ?_ (fun t ht => if_neg ht)
  rw [h.2.2.2.2 x hx]
  unfold hDec
  rw [if_pos rfl, show (1 : Int32) = nI 1 from rfl, pk_sub (by omega)]
theorem hSt_rt {x : Nat} (h : hSt M Mc N (m + 1) (m + 1) (hX E m x) L M2) : hSt M Mc N m (m + 1) E L M2 := by
  refine ⟨h.1, h.2.1, fun k hk => ?_, h.2.2.2.1, h.2.2.2.2⟩
  have := h.2.2.1 k (by omega)
  unfold hX at this
  rw [if_neg (by omega)] at this
  exact this
theorem hSt_rt2 {x : Nat} (h : hSt M Mc N (m + 1) (m + 1) (hX E m x) (hDec L x) M2) (hx : x < N) (h0 : 0 < L x) : hSt M Mc N m (m + 1) E L (zms M2 47 x (M2 47 x + 1)) := by
  refine hSt_47 (hSt_rt h) ?_ (fun t ht => (show hDec L x t = L t from if_neg ht).symm)
  rw [h.2.2.2.2 x hx, nI_1]
  unfold hDec
  rw [if_pos rfl]
  exact congrArg nI (by omega)
end zH5
theorem mo_s (f : Nat) : mo (f + 1) = nI f := if_neg (by omega)
section zH6
variable (g : Nat → Option Nat) (X : List zShp) (M : zMem)
theorem ex3_X_fed (F : zTS) (Mc : zMem) (hcM : cM F Mc M) (hh : mK M) (i : Int32) : zEx m_X_fed 0 0 [.ref 35, .int i] (SHP g X) M (qR g X (fun r M2 => mAg M M2 ∧ r = hFed F Mc i)) := by
  have hw := hcM.1
  have h10 : tN F ≤ 10 := hw.1.2
  have e35 : ∀ M2, mAg M M2 → M2 35 6 = nI (tN F) := fun M2 h => by rw [h.e35, hcM.2.2.2.2.2.2.1, hw.1.1]
  have hyN : ∀ j t, hY Mc j t = true → t < tN F := fun j t h => kLwf_bt hw hcM.2.1 h
  have P : ∀ c m, m + c = 6 → ∀ M1 w E L f, f ≤ m → w ≤ 7 → (∀ k, k < m → E k ≤ tN F) → (∀ t, t < tN F → L t ≤ 9) → hSt M Mc (tN F) m m E L M1 → (∀ M2 w2, hSt M Mc (tN F) m m E L M2 → w2 ≤ 7 → hUp (hY Mc) (tN F) m c E L f w (M1 46) w2 (M2 46) → zRT m_X_fed 0 0 61 [(0, .ref 35), (1, .int i), (2, .int (mo w2)), (3, .int (nI m + (-1))), (4, .int (nI f))] [] (SHP g X) M2 (qR g X (fun r M2 => mAg M M2 ∧ r = hFed F Mc i))) → zRT m_X_fed 0 0 61 [(0, .ref 35), (1, .int i), (2, .int (mo w)), (3, .int (nI m)), (4, .int (nI f))] [] (SHP g X) M1 (qR g X (fun r M2 => mAg M M2 ∧ r = hFed F Mc i)) := by
    intro c
    induction c with
    | zero =>
      intro m hm M1 w E L f hf hw7 hE9 hL9 hs K
      have em : m = 6 := by omega
      subst em
      have B : ∀ d k M2, w ≤ f → k + d = 6 → hSt M Mc (tN F) 6 6 E L M2 → (∀ j, j < k → M2 46 j = eE (tN F) (E j)) → zRT m_X_fed 0 0 83 [(0, .ref 35), (1, .int i), (2, .int (nI f)), (3, .int (nI 6)), (4, .int (nI f)), (5, .int (nI k))] [] (SHP g X) M2 (qR g X (fun r M2 => mAg M M2 ∧ r = hFed F Mc i)) := by
        intro d
        induction d with
        | zero =>
          intro k M2 hwf hk hs2 hb
          have K1 := K M2 (f + 1) hs2 (by omega) (Or.inr ⟨hwf, rfl, fun j hj => by rw [if_pos hj]; exact hb j (by omega)⟩)
          rw [mo_s] at K1
          exact vS_X_fed_83 g X _ _ _ _ _ _ _ ⟨fun _ => K1, fun h => absurd (nI_le (a := 6) (by omega) (by omega)) h⟩
        | succ d ih =>
          intro k M2 hwf hk hs2 hb
          refine vS_X_fed_83 g X _ _ _ _ _ _ _ ⟨fun h => absurd h (nI_ge (b := 6) (by omega) (by omega)), fun _ => ⟨vp_in_nI (by omega) (by decide), ?_⟩⟩
          rw [nI_1, nI_clamp (by omega), hs2.2.2.1 k (by omega), e35 M2 hs2.1]
          have hk9 := hE9 k (by omega)
          refine ⟨fun h => ?_, fun h => ?_⟩
          · refine ih (k + 1) _ hwf (by omega) (hSt_46 hs2) (kUp (f := fun j => eE (tN F) (E j)) hb ?_)
            have : E k ≠ tN F := fun e => h (by rw [e])
            unfold eE
            rw [if_pos (by omega)]
          · refine ih (k + 1) _ hwf (by omega) (hSt_46 hs2) (kUp (f := fun j => eE (tN F) (E j)) hb ?_)
            have := (nI_eq (by omega) (by omega)).mp h
            unfold eE
            rw [if_neg (by omega)]
      refine vS_X_fed_61 g X _ _ _ _ _ _ ⟨fun h => absurd h (by decide), fun _ => ⟨fun h => absurd rfl h, fun _ => ⟨fun h => ?_, fun h => ?_⟩⟩⟩
      · exact K M1 w hs hw7 (Or.inl ⟨(mo_le w (by omega) f (by omega)).mp h, rfl, fun _ _ => rfl⟩)
      · refine B 6 0 M1 ?_ rfl hs (fun j hj => absurd hj (Nat.not_lt_zero j))
        have : ¬ f < w := fun q => h ((mo_le w (by omega) f (by omega)).mpr q)
        omega
    | succ c ihc =>
      intro m hm M1 w E L f hf hw7 hE9 hL9 hs K
      have em : 5 - c = m := by omega
      have hm6 : vp_in (nI m) 6 := vp_in_nI (by omega) (by decide)
      have ne6 : ¬ nI m = 6 := fun q => by
        have := (nI_eq (b := 6) (by omega) (by omega)).mp q
        omega
      have dn : ∀ x M2 w2, w2 ≤ 7 → hSt M Mc (tN F) m (m + 1) E L M2 → hJ (hY Mc) (tN F) c E L f w (M1 46) x w2 (M2 46) → (x = tN F + 1 ∨ f + (c + 1) < w2) → zRT m_X_fed 0 0 61 [(0, .ref 35), (1, .int i), (2, .int (mo w2)), (3, .int (nI m + (-1))), (4, .int (nI f))] [] (SHP g X) (zms M2 45 m (-1)) (qR g X (fun r M2 => mAg M M2 ∧ r = hFed F Mc i)) := by
        intro x M2 w2 h7 hs2 hj hx
        refine K _ w2 (hSt_dn hs2) h7 ?_
        rw [zms_ne _ _ _ _ 46 (by decide)]
        have := hJ_end (by omega) h10 (fun t => hyN _ t) hj hx
        rw [em] at this
        exact this
      have I : ∀ d x M2 w2, x + d = tN F + 1 → w2 ≤ 7 → hSt M Mc (tN F) m (m + 1) E L M2 → hJ (hY Mc) (tN F) c E L f w (M1 46) x w2 (M2 46) → zRT m_X_fed 0 0 185 [(0, .ref 35), (1, .int i), (2, .int (mo w2)), (3, .int (nI m)), (4, .int (nI f)), (5, .int (nI x))] [] (SHP g X) M2 (qR g X (fun r M2 => mAg M M2 ∧ r = hFed F Mc i)) := by
        intro d
        induction d with
        | zero =>
          intro x M2 w2 hx h7 hs2 hj
          have D := dn x M2 w2 h7 hs2 hj (Or.inl (by omega))
          refine vS_X_fed_185 g X _ _ _ _ _ _ _ ⟨fun _ => ?_, fun h => absurd (by rw [e35 M2 hs2.1]; exact nI_le (by omega) (by omega)) h⟩
          rw [nI_clamp (n := m) (by omega), e35 M2 hs2.1]
          exact ⟨fun _ => ⟨hm6, D⟩, fun h => absurd (nI_lt (by omega) (by omega)) h⟩
        | succ d ih =>
          intro x M2 w2 hx h7 hs2 hj
          have hE9x : ∀ k, k < m + 1 → hX E m x k ≤ tN F := fun k hk => by
            unfold hX
            by_cases q : k = m
            · rw [if_pos q]; omega
            · rw [if_neg q]; exact hE9 k (by omega)
          -- the next man's turn, and back
          have go : ∀ M3, hcd (hY Mc) (tN F) c L x → M3 46 = M2 46 → hSt M Mc (tN F) (m + 1) (m + 1) (hX E m x) (haf (tN F) L x) M3 → zRT m_X_fed 0 0 61 [(0, .ref 35), (1, .int i), (2, .int (mo w2)), (3, .int (nI (m + 1))), (4, .int (nI (f + hga (tN F) x)))] [] (SHP g X) M3 (qR g X (fun r M2 => mAg M M2 ∧ r = hFed F Mc i)) := by
            intro M3 hcx e46 hs3
            have g1 : hga (tN F) x ≤ 1 := by
              unfold hga
              by_cases q : x < tN F
              · rw [if_pos q]; exact Nat.le_refl _
              · rw [if_neg q]; exact Nat.zero_le _
            refine ihc (m + 1) (by omega) M3 w2 (hX E m x) (haf (tN F) L x) (f + hga (tN F) x) (by omega) h7 hE9x (fun t ht => ?_) hs3 (fun M4 w4 hs4 h74 hu => ?_)
            · unfold haf
              by_cases q : x < tN F
              · rw [if_pos q]
                unfold hDec
                have := hL9 t ht
                by_cases q2 : t = x
                · rw [if_pos q2]; omega
                · rw [if_neg q2]; exact this
              · rw [if_neg q]; exact hL9 t ht
            · rw [e46] at hu
              have hj2 : hJ (hY Mc) (tN F) c E L f w (M1 46) (x + 1) w4 (M4 46) := hJ_step (by omega) (by omega) hj hcx (by rw [em]; exact hu)
              have e45 : M4 45 m = nI x := by
                have := hs4.2.2.1 m (by omega)
                unfold hX at this
                rw [if_pos rfl] at this
                exact this
              rw [pk_m1]
              refine vS_X_fed_61 g X _ _ _ _ _ _ ⟨fun h => absurd h (nI_pos (by omega)), fun _ => ⟨fun _ => ?_, fun h => absurd h ne6⟩⟩
              rw [nI_clamp (n := m) (by omega), e45, nI_1, e35 M4 hs4.1, nI_clamp (n := x) (by omega)]
              refine ⟨hm6, fun h => absurd h (nI_pos (by omega)), fun _ => ⟨fun h => ?_, fun h => ?_⟩⟩
              · have h1 : ¬ x < tN F := fun q => absurd h (nI_ge q (by omega))
                rw [show hga (tN F) x = 0 from if_neg h1, Nat.add_zero]
                rw [show haf (tN F) L x = L from if_neg h1] at hs4
                exact ih (x + 1) M4 w4 (by omega) h74 (hSt_rt hs4) hj2
              · have h1 : x < tN F := by
                  refine Classical.byContradiction fun q => h (nI_le (by omega) (by omega))
                refine ⟨vp_in_nI (by omega) (by decide), ?_⟩
                rw [show hga (tN F) x = 1 from if_pos h1, pk_m1]
                rw [show haf (tN F) L x = hDec L x from if_pos h1] at hs4
                exact ih (x + 1) _ w4 (by omega) h74 (hSt_rt2 hs4 h1 (hcx h1).2) (by rw [zms_ne _ _ _ _ 46 (by decide)]; exact hj2)
          have pr : ¬ mo w2 < nI f + 6 - nI m → f + (c + 1) < w2 := fun h => by
            have : ¬ w2 ≤ f + 6 - m := fun q => h ((mo_lt w2 (by omega) f (by omega) m (by omega) hf).mpr q)
            omega
          refine vS_X_fed_185 g X _ _ _ _ _ _ _ ?_
          rw [nI_clamp (n := m) (by omega), nI_clamp (n := x) (by omega), nI_1, nI_1, nI_1, e35 M2 hs2.1, hs2.2.1 m (by omega)]
          refine ⟨fun h => ?_, fun h => ⟨hm6, ?_⟩⟩
          · have h1 : ¬ x < tN F := fun q => absurd h (nI_ge q (by omega))
            refine ⟨fun q => absurd q (nI_nlt (by omega) (by omega)), fun _ => ⟨fun _ => ⟨hm6, fun _ => ?_, fun q => absurd h q⟩, fun q => ⟨hm6, dn x M2 w2 h7 hs2 hj (Or.inr (pr q))⟩⟩⟩
            have G := go (zms M2 45 m (nI x)) (fun q => absurd q h1) (zms_ne _ _ _ _ 46 (by decide)) (by rw [show haf (tN F) L x = L from if_neg h1]; exact hSt_up hs2 x)
            rw [show hga (tN F) x = 0 from if_neg h1, Nat.add_zero] at G
            exact G
          · have h1 : x < tN F := by
              refine Classical.byContradiction fun q => h (nI_le (by omega) (by omega))
            have nx : ¬ hcd (hY Mc) (tN F) c L x → zRT m_X_fed 0 0 185 [(0, .ref 35), (1, .int i), (2, .int (mo w2)), (3, .int (nI m)), (4, .int (nI f)), (5, .int (nI (x + 1)))] [] (SHP g X) M2 (qR g X (fun r M2 => mAg M M2 ∧ r = hFed F Mc i)) := fun q => ih (x + 1) M2 w2 (by omega) h7 hs2 (hJ_skip hj q)
            rw [hb_bt (by omega), hs2.2.2.2.2 x h1]
            refine ⟨fun q => nx (fun z => ?_), fun q => ⟨vp_in_nI (by omega) (by decide), fun q2 => ⟨fun z => absurd z (nI_nlt (by omega) (by omega)), fun _ => ⟨fun _ => ⟨fun z => absurd z h, fun _ => ?_⟩, fun z => dn x M2 w2 h7 hs2 hj (Or.inr (pr z))⟩⟩, fun q2 => nx (fun z => ?_)⟩⟩
            · have z1 := (z h1).1
              unfold hY at z1
              rw [em, q] at z1
              cases z1
            · have h0 : 0 < L x := Nat.pos_of_ne_zero (fun z => q2 (by rw [z]; rfl))
              have G := go (zms (zms M2 45 m (nI x)) 47 x (M2 47 x - 1)) (fun _ => ⟨by rw [em]; exact q, h0⟩) (by rw [zms_ne _ _ _ _ 46 (by decide), zms_ne _ _ _ _ 46 (by decide)]) (by rw [show haf (tN F) L x = hDec L x from if_pos h1]; exact hSt_up2 hs2 h1 h0)
              rw [show hga (tN F) x = 1 from if_pos h1, hs2.2.2.2.2 x h1] at G
              exact G
            · have z1 := (z h1).2
              have := hL9 x h1
              exact absurd q2 (nI_ne0 z1 (by omega))
      refine vS_X_fed_61 g X _ _ _ _ _ _ ⟨fun h => absurd h (nI_pos (by omega)), fun _ => ⟨fun _ => ?_, fun h => absurd h ne6⟩⟩
      rw [nI_clamp (n := m) (by omega), hs.2.2.2.1 m (Nat.le_refl _) (by omega)]
      refine ⟨hm6, fun _ => ?_, fun h => absurd (by decide) h⟩
      exact I (tN F + 1) 0 M1 w (by omega) hw7 ⟨hs.1, hs.2.1, hs.2.2.1, fun j a b => hs.2.2.2.1 j (by omega) b, hs.2.2.2.2⟩ hJ_0
  have L2 : ∀ d k M1, k + d = 6 → mAg M M1 → (∀ j, j < 6 → M1 44 j = kLwf Mc (nI j)) → (∀ t, t < tN F → M1 47 t = nI (hLF F t)) → (∀ j, j < k → M1 45 j = -1) → zRT m_X_fed 0 0 37 [(0, .ref 35), (1, .int i), (2, .int (-6)), (3, .int (nI k))] [] (SHP g X) M1 (qR g X (fun r M2 => mAg M M2 ∧ r = hFed F Mc i)) := by
    intro d
    induction d with
    | zero =>
      intro k M1 hk ha h44 h47 h45
      refine vS_X_fed_37 g X _ _ _ _ _ ⟨fun _ => ?_, fun h => absurd (nI_le (a := 6) (by omega) (by omega)) h⟩
      refine P 6 0 rfl M1 0 (fun _ => 0) (hLF F) 0 (Nat.le_refl _) (by omega) (fun _ h => absurd h (Nat.not_lt_zero _)) (fun t ht => (hLF_n hw (by omega)).2) ⟨ha, h44, fun _ h => absurd h (Nat.not_lt_zero _), fun j _ hj => h45 j (by omega), h47⟩ (fun M2 w2 hs2 _ hu => ?_)
      rcases hu with ⟨u1, _⟩ | ⟨_, u2, u3⟩
      · exact absurd u1 (Nat.not_lt_zero _)
      · rw [u2, mo_s, Nat.zero_add]
        refine vS_X_fed_61 g X _ _ _ _ _ _ ⟨fun _ => ⟨fun h => ⟨fun h2 => qR_i ⟨hs2.1, ?_⟩, fun h2 => ⟨isM_in h2, qR_i ⟨hs2.1, ?_⟩⟩⟩, fun h => qR_i ⟨hs2.1, ?_⟩⟩, fun h => absurd (by decide) h⟩
        · unfold hFed
          rw [if_neg h, if_neg (by rw [h2]; exact Bool.false_ne_true)]
        · unfold hFed
          rw [if_neg h, if_pos h2, u3 _ (isM_n h2).1, if_neg (Nat.not_lt_zero _)]
        · unfold hFed
          rw [if_pos h]
    | succ d ih =>
      intro k M1 hk ha h44 h47 h45
      refine vS_X_fed_37 g X _ _ _ _ _ ⟨fun h => absurd h (nI_ge (b := 6) (by omega) (by omega)), fun _ => ⟨vp_in_nI (by omega) (by decide), ?_⟩⟩
      rw [nI_1, nI_clamp (by omega)]
      refine ih (k + 1) _ (by omega) (ha.st (by decide)) ?_ ?_ (kUp (f := fun _ => -1) h45 rfl)
      · rw [zms_ne _ _ _ _ 44 (by decide)]; exact h44
      · rw [zms_ne _ _ _ _ 47 (by decide)]; exact h47
  have L1 : ∀ d k M1, k + d = tN F → mAg M M1 → (∀ j, j < 6 → M1 44 j = kLwf Mc (nI j)) → (∀ t, t < k → M1 47 t = nI (hLF F t)) → zRT m_X_fed 0 0 9 [(0, .ref 35), (1, .int i), (2, .int (-6)), (3, .int (nI k))] [] (SHP g X) M1 (qR g X (fun r M2 => mAg M M2 ∧ r = hFed F Mc i)) := by
    intro d
    induction d with
    | zero =>
      intro k M1 hk ha h44 h47
      exact vS_X_fed_9 g X _ _ _ _ _ ⟨fun _ => L2 6 0 M1 rfl ha h44 (fun t ht => h47 t (by omega)) (fun j h => absurd h (Nat.not_lt_zero j)), fun h => absurd (by rw [e35 M1 ha]; exact nI_le (by omega) (by omega)) h⟩
    | succ d ih =>
      intro k M1 hk ha h44 h47
      refine vS_X_fed_9 g X _ _ _ _ _ ⟨fun h => absurd h (by rw [e35 M1 ha]; exact nI_ge (by omega) (by omega)), fun _ => ⟨vp_in_nI (by omega) (by decide), ?_⟩⟩
      rw [nI_1, nI_clamp (by omega)]
      refine ih (k + 1) _ (by omega) (ha.st (by decide)) ?_ (kUp (f := fun t => nI (hLF F t)) h47 ?_)
      · rw [zms_ne _ _ _ _ 44 (by decide)]; exact h44
      · rw [ha.e39, hcM.2.2.2.1 k (by omega)]
        exact (hLF_n hw (by omega)).1
  refine zEx_of _ (by decide) (by simp [Value.category]) (Nat.le_of_ble_eq_true rfl) rfl (vS_X_fed_0 g X M i _ ⟨hh, fun M1 h1 => ?_⟩)
  exact L1 (tN F) 0 M1 (by omega) h1.1 (h1.2 F Mc hcM) (fun t h => absurd h (Nat.not_lt_zero t))
end zH6
section zH7
variable {n : Nat} {P : Nat → Int32} {F : zTS} {I : Nat → Option zTS} {M : zMem} {g : Nat → Option Nat} {X : List zShp}
theorem pr_fed (hok : kOk n P F I M g X) (i : Int32) : kPr kEi 1 m_O_fed m_X_fed [.int i] M g X := kPr_e (V := hFed F M i) hok (zEx_mono (ex_O_fed g X M i ⟨kCJ_cnt hok.2.2.1 hok.2.2.2.1, kCJ_dpt hok.2.2.1 hok.2.2.2.1⟩) (qR_w (fun r M1 h => ⟨by rw [h.1]; exact kv_fed_n hok.2.2.1 hok.2.2.2.1.2.2.1 i, h.2⟩))) (fun M1 h hc => ex3_X_fed g X M1 F M hc (kMF_mK hok.2.2.1 h.2.2.1) i)
end zH7
