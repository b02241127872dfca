/-! both, call by call -/
section zP1
variable {n : Nat} {P : Nat → Int32} {F : zTS} {I : Nat → Option zTS} {M : zMem} {g : Nat → Option Nat} {X : List zShp}
theorem kMF_tn (h : kMF M F) : mTN M = tN F := by
  unfold mTN tN
  rw [h.2.2.2.2.1]
theorem kMF_mK (hw : kWF F) (h : kMF M F) : mK M := by
  have e := kMF_tn h
  refine ⟨⟨tN F, hw.1.2, by rw [← hw.1.1]; exact h.2.2.2.2.1⟩, fun t ht k h1 h3 => ?_⟩
  rw [e] at ht
  have h10 := hw.1.2
  obtain ⟨-, r1, r2, r3, -⟩ := hw.2.2.2.2.2.2.2.2.1 t ht
  have hk : k = 1 ∨ k = 2 ∨ k = 3 := by omega
  rw [h.1 _ (by omega)]
  rcases hk with rfl | rfl | rfl
  · rcases r1 with r | ⟨a, ha, r⟩
    · rw [r]; exact Or.inl (by decide)
    · exact Or.inr ⟨a, ha, r⟩
  · rcases r2 with r | ⟨a, b, ha, hb, -, r⟩
    · rw [r]; exact Or.inl (by decide)
    · exact Or.inr ⟨b, hb, r⟩
  · rcases r3 with r | ⟨a, ha, r⟩
    · rw [r]; exact Or.inl (by decide)
    · exact Or.inr ⟨a, ha, r⟩
theorem kMF_mKo (hw : kWF F) (h : kMF M F) : mKo M := by
  have e := kMF_tn h
  have h10 := hw.1.2
  refine ⟨(kMF_mK hw h).1, fun t ht => ?_, ?_⟩
  · rw [e] at ht
    rw [h.1 _ (by omega)]
    exact (hw.2.2.2.2.2.2.2.2.1 t ht).2.2.2.2
  · unfold mOp
    rw [e, kAsN_cg (R := fR F) _ (fun j hj => h.1 j (by omega))]
    exact hw.2.2.2.2.2.2.2.2.2
theorem kMF_mKs (hw : kWF F) (h : kMF M F) : mKs M := by
  have e := kMF_tn h
  have h6 := hw.2.1.2
  refine ⟨sN F, hw.2.1.2, by rw [← hw.2.1.1]; exact h.2.2.2.2.2.1, fun i hi => ?_⟩
  obtain ⟨t, ht, r⟩ := (hw.2.2.2.2.2.2.2.1 i hi).2
  exact ⟨t, by rw [e]; exact ht, by rw [h.2.2.1 _ (by omega)]; exact r⟩
theorem kMJ_mAg {M1 : zMem} (ha : mAg M M1) (h : kMJ n P F I M) : kMJ n P F I M1 := by
  have e50 : M1 50 = M 50 := ha 50 (by decide)
  have e51 : M1 51 = M 51 := ha 51 (by decide)
  have e37 : M1 37 = M 37 := ha 37 (by decide)
  unfold kMJ kMF kMI at h ⊢
  rw [ha.e35, ha.e36, e37, ha.e38, ha.e39, ha.e40, e50, e51]
  exact h
theorem kOS_mAg {M1 : zMem} (ha : mAg M M1) : kOS M M1 := kOS_ag ha (by decide)
end zP1
def kEi (w w2 : Value) : Prop := ∃ r : Int32, w = .int r ∧ w2 = .int r
def kWi (w w2 : Value) : Prop := ∃ r r2 : Int32, w = .int r ∧ w2 = .int r2
def kEl (w w2 : Value) : Prop := ∃ r : Int64, w = .long r ∧ w2 = .long r
def kWl (w w2 : Value) : Prop := ∃ r r2 : Int64, w = .long r ∧ w2 = .long r2
theorem kEi_w {w w2 : Value} (h : kEi w w2) : kWi w w2 := by
  obtain ⟨r, h1, h2⟩ := h
  exact ⟨r, r, h1, h2⟩
theorem kEl_w {w w2 : Value} (h : kEl w w2) : kWl w w2 := by
  obtain ⟨r, h1, h2⟩ := h
  exact ⟨r, r, h1, h2⟩
/-- first the class, then the reference -/
def kPr (E : Value → Value → Prop) (cat : Nat) (ν μ : zMI) (as : List Value) (M : zMem) (g : Nat → Option Nat) (X : List zShp) : Prop := ∃ kc ks, (kc ≤ 11 ∧ ks ≤ 9 * kc) ∧ zEx ν kc ks (.ref 0 :: as) (SHP g X) M (fun v sh1 M1 => ∃ g2 X2 w, some w = v ∧ w.category = cat ∧ SHP g2 X2 = sh1 ∧ X2.length ≤ 22 ∧ zEx μ 0 0 (.ref 35 :: as) (SHP g2 X2) M1 (fun v2 sh2 M2 => ∃ w2, some w2 = v2 ∧ SHP g2 X2 = sh2 ∧ kSt M2 g2 X2 ∧ E w w2))
theorem kPr_w {E E2 : Value → Value → Prop} {cat : Nat} (hE : ∀ w w2, E w w2 → E2 w w2) {ν μ : zMI} {as : List Value} {M : zMem} {g : Nat → Option Nat} {X : List zShp} (h : kPr E cat ν μ as M g X) : kPr E2 cat ν μ as M g X := by
  obtain ⟨kc, ks, h1, h2⟩ := h
  refine ⟨kc, ks, h1, zEx_mono h2 (fun v sh1 M1 ⟨g2, X2, w, a1, a0, a2, a3, a4⟩ => ⟨g2, X2, w, a1, a0, a2, a3, zEx_mono a4 (fun v2 sh2 M2 ⟨w2, b1, b2, b3, b4⟩ => ⟨w2, b1, b2, b3, hE _ _ b4⟩)⟩)⟩
theorem kIm_len {I : Nat → Option zTS} {M : zMem} {g : Nat → Option Nat} {X : List zShp} (h : kIm I M g X) : X.length ≤ 22 := by
  rcases h with ⟨h, -⟩ | ⟨h, -⟩ | ⟨h, -⟩ <;> rw [h]
  · exact Nat.zero_le _
  · exact Nat.le_of_ble_eq_true rfl
  · exact Nat.le_of_ble_eq_true rfl
section zP2
variable {n : Nat} {P : Nat → Int32} {F : zTS} {I : Nat → Option zTS} {M : zMem} {g : Nat → Option Nat} {X : List zShp}
/-- a call that may change what is held, told by the same words on both sides -/
theorem kPr_s {ν μ : zMI} {as : List Value} {n2 : Nat} {P2 : Nat → Int32} {F2 : zTS} {I2 : Nat → Option zTS} {r : Int32} (hok : kOk n P F I M g X) (hn : n2 ≤ 60) (hP : bSg n2 P2) (hw : kWF F2)
  (h1 : zEx ν 0 0 (.ref 0 :: as) (SHP g X) M (qR g X (fun x M1 => x = r ∧ kCJ n2 P2 F2 I2 M1 g X ∧ kMS M M1)))
  (h2 : ∀ M1, kMJ n P F I M1 → zEx μ 0 0 (.ref 35 :: as) (SHP g X) M1 (qR g X (fun x M2 => x = r ∧ kMJ n2 P2 F2 I2 M2 ∧ kOS M1 M2))) : kPr kEi 1 ν μ as M g X := by
  refine ⟨0, 0, by decide, zEx_mono h1 ?_⟩
  rintro v sh1 M1 ⟨x, rfl, rfl, e1, c1, s1⟩
  refine ⟨g, X, .int x, rfl, rfl, rfl, kIm_len hok.2.2.2.1.2.2.2, zEx_mono (h2 M1 (kMJ_MS s1 hok.2.2.2.2)) ?_⟩
  rintro v2 sh2 M2 ⟨y, rfl, rfl, e2, c2, s2⟩
  exact ⟨.int y, rfl, rfl, ⟨n2, P2, F2, I2, hn, hP, hw, kCJ_OS s2 c1, c2⟩, x, rfl, by rw [e1, e2]⟩
/-- a call that only asks -/
theorem kPr_q {ν μ : zMI} {as : List Value} (hok : kOk n P F I M g X)
  (h1 : zEx ν 0 0 (.ref 0 :: as) (SHP g X) M (qR g X (fun _ M1 => kAg kCS M M1)))
  (h2 : ∀ M1, kMJ n P F I M1 → zEx μ 0 0 (.ref 35 :: as) (SHP g X) M1 (qR g X (fun _ M2 => mAg M1 M2))) : kPr kWi 1 ν μ as M g X := by
  obtain ⟨hn, hP, hw, hc, hm⟩ := hok
  refine ⟨0, 0, by decide, zEx_mono h1 ?_⟩
  rintro v sh1 M1 ⟨x, rfl, rfl, ag⟩
  have hm1 := kMJ_MS (kMS_CS ag) hm
  refine ⟨g, X, .int x, rfl, rfl, rfl, kIm_len hc.2.2.2, zEx_mono (h2 M1 hm1) ?_⟩
  rintro v2 sh2 M2 ⟨y, rfl, rfl, a2⟩
  exact ⟨.int y, rfl, rfl, ⟨n, P, F, I, hn, hP, hw, kCJ_OS (kOS_mAg a2) (kCJ_CS ag hc), kMJ_mAg a2 hm1⟩, x, y, rfl, rfl⟩
theorem qR_w {Q Q2 : Int32 → zMem → Prop} (h : ∀ r M1, Q r M1 → Q2 r M1) : ∀ v sh1 M1, qR g X Q v sh1 M1 → qR g X Q2 v sh1 M1 := by
  rintro v sh1 M1 ⟨r, h1, h2, h3⟩
  exact ⟨r, h1, h2, h _ _ h3⟩
theorem pr_say (hok : kOk n P F I M g X) (s : Int32) : kPr kEi 1 m_O_say m_X_say [.int s] M g X := by
  have ha := aSay_ok hok.1 hok.2.1 s
  exact kPr_s hok ha.1 ha.2 hok.2.2.1 (cl_say hok.1 hok.2.2.2.1 s) (fun M1 h => ml_say hok.1 h s)
theorem pr_wipe (hok : kOk n P F I M g X) : kPr kEi 1 m_O_wipe m_X_wipe [] M g X := kPr_s hok (Nat.zero_le _) (fun j h => absurd h (Nat.not_lt_zero j)) hok.2.2.1 (cl_wipe hok.2.2.2.1) (fun M1 h => ml_wipe h)
theorem pr_book (hok : kOk n P F I M g X) : kPr kEi 1 m_O_book m_X_book [] M g X := kPr_s hok (Nat.le_trans (aBook_n P F) hok.1) (bSg_le hok.2.1 (aBook_n P F)) (kWF_book hok.2.1 hok.2.2.1) (cl_book hok.1 hok.2.1 hok.2.2.2.1) (fun M1 h => ml_book hok.1 hok.2.1 h)
theorem pr_join (hok : kOk n P F I M g X) (m o : Int32) : kPr kEi 1 m_O_join m_X_join [.int m, .int o] M g X := kPr_s hok hok.1 hok.2.1 (kWF_join hok.2.2.1 m o) (cl_join hok.2.2.2.1 m o) (fun M1 h => ml_join hok.2.2.1 h m o)
theorem pr_part (hok : kOk n P F I M g X) (m : Int32) : kPr kEi 1 m_O_part m_X_part [.int m] M g X := kPr_s hok hok.1 hok.2.1 (kWF_part hok.2.2.1 m) (cl_part hok.2.2.1 hok.2.2.2.1 m) (fun M1 h => ml_part hok.2.2.1 h m)
theorem pr_set (hok : kOk n P F I M g X) (w v : Int32) : kPr kEi 1 m_O_set m_X_set [.int w, .int v] M g X := kPr_s hok hok.1 hok.2.1 (kWF_set hok.2.2.1 w v) (cl_set hok.2.2.2.1 w v) (fun M1 h => ml_set h w v)
theorem pr_loaves (hok : kOk n P F I M g X) (t v : Int32) : kPr kEi 1 m_O_loaves m_X_loaves [.int t, .int v] M g X := kPr_s hok hok.1 hok.2.1 (kWF_loaves hok.2.2.1 t v) (cl_loaves hok.2.2.1 hok.2.2.2.1 t v) (fun M1 h => ml_loaves hok.2.2.1 h t v)
theorem pr_seen (hok : kOk n P F I M g X) (m t : Int32) : kPr kEi 1 m_O_seen m_X_seen [.int m, .int t] M g X := kPr_s hok hok.1 hok.2.1 (kWF_seen hok.2.2.1 m t) (cl_seen hok.2.2.1 hok.2.2.2.1 m t) (fun M1 h => ml_seen hok.2.2.1 h m t)
theorem pr_forget (hok : kOk n P F I M g X) : kPr kEi 1 m_O_forget m_X_forget [] M g X := kPr_s hok hok.1 hok.2.1 (kWF_forget hok.2.2.1) (cl_forget hok.2.2.2.1) (fun M1 h => ml_forget h)
theorem pr_restore (hok : kOk n P F I M g X) (i : Int32) : kPr kEi 1 m_O_restore m_X_restore [.int i] M g X := kPr_s hok hok.1 hok.2.1 (kWF_res hok.2.2.1 hok.2.2.2.1.2.2.2 i) (cl_restore hok.2.2.2.1 i) (fun M1 h => ml_restore h i)
theorem pr_thing (hok : kOk n P F I M g X) (t w : Int32) : kPr kEi 1 m_O_thing m_X_thing [.int t, .int w] M g X :=
  kPr_s hok hok.1 hok.2.1 hok.2.2.1 (zEx_mono (cl_thing hok.2.2.1 hok.2.2.2.1 t w) (qR_w (fun r M1 h => ⟨h.1, kCJ_CS h.2 hok.2.2.2.1, kMS_CS h.2⟩))) (fun M1 h => zEx_mono (ml_thing hok.2.2.1 h t w) (by
    rintro v sh1 M2 ⟨h1, h2, h3⟩
    subst h3
    exact ⟨_, h1, h2, rfl, h, kOS_rf⟩))
theorem pr_told (hok : kOk n P F I M g X) (w : Int32) : kPr kEi 1 m_O_told m_X_told [.int w] M g X :=
  kPr_s hok hok.1 hok.2.1 hok.2.2.1 (zEx_mono (cl_told hok.2.2.1 hok.2.2.2.1 w) (qR_w (fun r M1 h => ⟨h.1, kCJ_CS h.2 hok.2.2.2.1, kMS_CS h.2⟩))) (fun M1 h => zEx_mono (ml_told hok.2.2.1 h w) (by
    rintro v sh1 M2 ⟨h1, h2, h3⟩
    subst h3
    exact ⟨_, h1, h2, rfl, h, kOS_rf⟩))
theorem pr_image (hok : kOk n P F I M g X) (i : Int32) : kPr kEi 1 m_O_image m_X_image [.int i] M g X := by
  obtain ⟨hn, hP, hw, hc, hm⟩ := hok
  obtain ⟨kc, ks, h1, h2⟩ := cl_image hw hc i
  refine ⟨kc, ks, h1, zEx_mono h2 ?_⟩
  rintro v sh1 M1 ⟨g2, X2, e1, e2, c1, s1⟩
  refine ⟨g2, X2, _, e1, rfl, e2, kIm_len c1.2.2.2, zEx_mono (ml_image (kMJ_MS s1 hm) i) ?_⟩
  rintro v2 sh2 M2 ⟨y, rfl, rfl, e3, c2, s2⟩
  exact ⟨.int y, rfl, rfl, ⟨n, P, F, _, hn, hP, hw, kCJ_OS s2 c1, c2⟩, _, rfl, by rw [e3]⟩
theorem pw_fault (hok : kOk n P F I M g X) : kPr kWi 1 m_O_fault m_X_fault [] M g X := kPr_q hok (zEx_mono (ex_O_fault g X M (kCJ_pad hok.1 hok.2.2.2.1)) (qR_w (fun _ _ h => h.2))) (fun M1 h => zEx_mono (ml_fault hok.1 hok.2.1 h) (qR_w (fun _ _ h => by rw [h]; exact mAg.rf)))
theorem pw_touched (hok : kOk n P F I M g X) (t w : Int32) : kPr kWi 1 m_O_touched m_X_touched [.int t, .int w] M g X := kPr_q hok (zEx_mono (ex_O_touched g X M t w ⟨kCJ_cnt hok.2.2.1 hok.2.2.2.1, kCJ_dpt hok.2.2.1 hok.2.2.2.1⟩) (qR_w (fun _ _ h => h.2))) (fun M1 h => ex_X_touched g X M1 t w (kMF_mK hok.2.2.1 h.2.2.1))
theorem pw_may (hok : kOk n P F I M g X) (m w : Int32) : kPr kWi 1 m_O_may m_X_may [.int m, .int w] M g X := kPr_q hok (zEx_mono (ex_O_may g X M m w ⟨kCJ_cnt hok.2.2.1 hok.2.2.2.1, kCJ_dpt hok.2.2.1 hok.2.2.2.1⟩) (qR_w (fun _ _ h => h.2))) (fun M1 h => ex_X_may g X M1 m w (kMF_mK hok.2.2.1 h.2.2.1))
theorem pw_near (hok : kOk n P F I M g X) (t m : Int32) : kPr kWi 1 m_O_near m_X_near [.int t, .int m] M g X := kPr_q hok (zEx_mono (ex_O_near g X M t m (kCJ_cnt hok.2.2.1 hok.2.2.2.1)) (qR_w (fun _ _ h => h.2))) (fun M1 h => ex_X_near g X M1 t m (kMF_mK hok.2.2.1 h.2.2.1))
theorem pw_filled (hok : kOk n P F I M g X) (i : Int32) : kPr kWi 1 m_O_filled m_X_filled [.int i] M g X := kPr_q hok (ex_O_filled g X M i ⟨kCJ_cnt hok.2.2.1 hok.2.2.2.1, kCJ_dpt hok.2.2.1 hok.2.2.2.1, kCJ_sts hok.2.2.1 hok.2.2.2.1⟩) (fun M1 h => ex_X_filled g X M1 i ⟨kMF_mK hok.2.2.1 h.2.2.1, kMF_mKo hok.2.2.1 h.2.2.1, kMF_mKs hok.2.2.1 h.2.2.1⟩)
theorem pw_sure (hok : kOk n P F I M g X) (t w : Int32) : kPr kWi 1 m_O_sure m_X_sure [.int t, .int w] M g X := kPr_q hok (ex_O_sure g X M t w ⟨kCJ_cnt hok.2.2.1 hok.2.2.2.1, kCJ_dpt hok.2.2.1 hok.2.2.2.1, kCJ_sts hok.2.2.1 hok.2.2.2.1⟩) (fun M1 h => ex_X_sure g X M1 t w ⟨kMF_mK hok.2.2.1 h.2.2.1, kMF_mKo hok.2.2.1 h.2.2.1, kMF_mKs hok.2.2.1 h.2.2.1⟩)
theorem pw_fed (hok : kOk n P F I M g X) (i : Int32) : kPr kWi 1 m_O_fed m_X_fed [.int i] M g X := kPr_q hok (zEx_mono (ex_O_fed g X M i ⟨kCJ_cnt hok.2.2.1 hok.2.2.2.1, kCJ_dpt hok.2.2.1 hok.2.2.2.1⟩) (qR_w (fun _ _ h => h.2))) (fun M1 h => ex_X_fed g X M1 i (kMF_mK hok.2.2.1 h.2.2.1))
theorem pw_lack (hok : kOk n P F I M g X) : kPr kWi 1 m_O_lack m_X_lack [] M g X := kPr_q hok (zEx_mono (ex_O_lack g X M ⟨kCJ_cnt hok.2.2.1 hok.2.2.2.1, kCJ_dpt hok.2.2.1 hok.2.2.2.1⟩) (qR_w (fun _ _ h => h.2))) (fun M1 h => ex_X_lack g X M1 (kMF_mK hok.2.2.1 h.2.2.1))
theorem pw_makers (hok : kOk n P F I M g X) (c w : Int32) : kPr kWi 1 m_O_makers m_X_makers [.int c, .int w] M g X := kPr_q hok (zEx_mono (ex_O_makers g X M c w) (qR_w (fun _ _ h => h.2))) (fun M1 h => ex_X_makers g X M1 c w)
theorem pw_washed (hok : kOk n P F I M g X) (t m : Int32) : kPr kWi 1 m_O_washed m_X_washed [.int t, .int m] M g X := kPr_q hok (zEx_mono (ex_O_washed g X M t m (kCJ_cnt hok.2.2.1 hok.2.2.2.1)) (qR_w (fun _ _ h => h.2))) (fun M1 h => ex_X_washed g X M1 t m (kMF_mK hok.2.2.1 h.2.2.1))
theorem pw_married (hok : kOk n P F I M g X) (i : Int32) : kPr kWi 1 m_O_married m_X_married [.int i] M g X := kPr_q hok (zEx_mono (ex_O_married g X M i ⟨kCJ_cnt hok.2.2.1 hok.2.2.2.1, kCJ_dpt hok.2.2.1 hok.2.2.2.1⟩) (qR_w (fun _ _ h => h.2))) (fun M1 h => ex_X_married g X M1 i (kMF_mK hok.2.2.1 h.2.2.1))
theorem pw_days (hok : kOk n P F I M g X) (s d t : Int32) : kPr kWi 1 m_O_days m_X_days [.int s, .int d, .int t] M g X := kPr_q hok (zEx_mono (ex_O_days g X M s d t ⟨kCJ_cnt hok.2.2.1 hok.2.2.2.1, kCJ_dpt hok.2.2.1 hok.2.2.2.1⟩) (qR_w (fun _ _ h => h.2))) (fun M1 h => ex_X_days g X M1 s d t (kMF_mK hok.2.2.1 h.2.2.1))
theorem pw_share (hok : kOk n P F I M g X) (t m w : Int32) : kPr kWl 2 m_O_share m_X_share [.int t, .int m, .int w] M g X := by
  obtain ⟨hn, hP, hw, hc, hm⟩ := hok
  refine ⟨0, 0, by decide, zEx_mono (ex_O_share g X M t m w (kCJ_cnt hw hc)) ?_⟩
  rintro v sh1 M1 ⟨e1, e2, ag⟩
  have hm1 := kMJ_MS (kMS_CS ag) hm
  refine ⟨g, X, _, e1, rfl, e2, kIm_len hc.2.2.2, zEx_mono (ex_X_share g X M1 t m w (kMF_mK hw hm1.2.2.1)) ?_⟩
  rintro v2 sh2 M2 ⟨y, rfl, rfl, a2⟩
  exact ⟨.long y, rfl, rfl, ⟨n, P, F, I, hn, hP, hw, kCJ_OS (kOS_mAg a2) (kCJ_CS ag hc), kMJ_mAg a2 hm1⟩, _, y, rfl, rfl⟩
end zP2
