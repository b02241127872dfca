theorem zNo_ag {l : List Nat} {M M1 : zMem} {p k : Nat} (h : kAg l M M1) (hp : p ∈ l) : kAg l M (zNo M1 p k) := fun q hq => by
  rw [← h q hq]
  funext b
  simp only [zNo]
  exact if_neg (fun e : q = p ∧ b < k => hq (e.1 ▸ hp))
theorem kTI_ag (M : zMem) (q : Nat) : kAg (kL11 q) M (kTI q (q + 1) (zZ M q)) := by
  unfold kTI zZ
  refine zNo_ag (kAg.st (kAg.st (kAg.sr (kAg.sr (kAg.sr (kAg.sr (kAg.sr (kAg.sr (kAg.sr (kAg.sr (kAg.sr (kAg.sr (kAg.sr kAg.rf ?_) ?_) ?_) ?_) ?_) ?_) ?_) ?_) ?_) ?_) ?_) ?_) ?_) ?_ <;> simp
theorem kL11_out {p r : Nat} (h : r < p ∨ p + 10 < r) : r ∉ kL11 p := by
  simp only [kL11, List.mem_cons, List.not_mem_nil, or_false]
  omega
theorem kTwn_52a {g : Nat → Option Nat} : kTwn (SHP g (kTw 52)) 52 := ⟨rfl, rfl, rfl, rfl, rfl, rfl, rfl, rfl, rfl, rfl, rfl⟩
theorem kTwn_52b {g : Nat → Option Nat} : kTwn (SHP g (kTw 52 ++ kTw 63)) 52 := ⟨rfl, rfl, rfl, rfl, rfl, rfl, rfl, rfl, rfl, rfl, rfl⟩
theorem kTwn_63b {g : Nat → Option Nat} : kTwn (SHP g (kTw 52 ++ kTw 63)) 63 := ⟨rfl, rfl, rfl, rfl, rfl, rfl, rfl, rfl, rfl, rfl, rfl⟩
def aRes2 (x : Option zTS) (F : zTS) : Int32 × zTS := match x with
  | none => (-3, F)
  | some G => (1, G)
def aRes (I : Nat → Option zTS) (F : zTS) (i : Int32) : Int32 × zTS := if inI i 0 1 = true then aRes2 (I (Int32.toNatClampNeg i)) F else (-2, F)
def aImI (I : Nat → Option zTS) (F : zTS) (k : Nat) : Nat → Option zTS := fun j => if j = k then some F else I j
def aImg (I : Nat → Option zTS) (F : zTS) (i : Int32) : Int32 × (Nat → Option zTS) := if inI i 0 1 = true then (1, aImI I F (Int32.toNatClampNeg i)) else (-2, I)
theorem inI_vp {i : Int32} : inI i 0 1 = true ↔ vp_in i 2 := by
  constructor
  · intro h
    obtain ⟨h1, h2⟩ := inI_t h
    obtain ⟨j, hj, rfl⟩ := nI_of h1
    rw [show (1 : Int32) = nI 1 from rfl, nI_ltI (by decide) hj] at h2
    exact vp_in_nI (by omega) (by decide)
  · intro h
    obtain ⟨j, hj, rfl⟩ := vp_in_of h (by decide)
    exact inI_i (nI_pos (by omega)) (nI_nlt (a := 1) (by omega) (by decide))
section zC9
variable {n : Nat} {P : Nat → Int32} {F : zTS} {I : Nat → Option zTS} {M : zMem} {g : Nat → Option Nat} {X : List zShp}
theorem kMS_TB {M1 : zMem} {p q : Nat} (h : kMS M M1) (hp : p + 10 < 35 ∨ 52 ≤ p) : kMS M (kTB M1 p q) := fun r h1 h2 => (kTB_ag M1 p q r (kL11_out (by omega))).trans (h r h1 h2)
theorem kCJ_pd {M1 : zMem} {n : Nat} {P : Nat → Int32} {p q : Nat} (h1 : M1 1 1 = nI n) (h2 : ∀ j, j < n → M1 2 j = P j) (hp : 10 ≤ p) : kTB M1 p q 1 1 = nI n ∧ ∀ j, j < n → kTB M1 p q 2 j = P j := by
  rw [kTB_ag M1 p q 1 (kL11_out (by omega)), kTB_ag M1 p q 2 (kL11_out (by omega))]
  exact ⟨h1, h2⟩
/-- a town elsewhere stays -/
theorem kTR_TB {M1 : zMem} {G : zTS} {p q r : Nat} (h : kTR M1 r G) (hd : r + 10 < p ∨ p + 10 < r) : kTR (kTB M1 p q) r G := kTR_ag (fun x h1 h2 => kTB_ag M1 p q x (kL11_out (by omega))) h
theorem cl_restore (hj : kCJ n P F I M g X) (i : Int32) : zEx m_O_restore 0 0 [.ref 0, .int i] (SHP g X) M (qR g X (fun r M1 => r = (aRes I F i).1 ∧ kCJ n P (aRes I F i).2 I M1 g X ∧ kMS M M1)) := by
  by_cases hi : vp_in i 2
  · unfold aRes
    rw [if_pos (inI_vp.mpr hi)]
    obtain ⟨h1, h2, h3, h4⟩ := id hj
    have hN : ∀ k, Int32.toNatClampNeg i = k → g k = none → I k = none → zEx m_O_restore 0 0 [.ref 0, .int i] (SHP g X) M (qR g X (fun r M1 => r = (aRes2 (I (Int32.toNatClampNeg i)) F).1 ∧ kCJ n P (aRes2 (I (Int32.toNatClampNeg i)) F).2 I M1 g X ∧ kMS M M1)) := by
      intro k hk hg hI
      refine zEx_mono (ex_O_restore_N g X M i hi (by rw [hk]; exact hg)) ?_
      rintro v sh1 M1 ⟨rfl, rfl, rfl⟩
      rw [hk, hI]
      exact qR_i ⟨rfl, hj, kMS_rf⟩
    have hSm : ∀ k p G, Int32.toNatClampNeg i = k → g k = some p → I k = some G → kTwn (SHP g X) p → (∀ M', kTR M' p G → kTR (kTB M' 10 p) 10 G) → kTR M p G → zEx m_O_restore 0 0 [.ref 0, .int i] (SHP g X) M (qR g X (fun r M1 => r = (aRes2 (I (Int32.toNatClampNeg i)) F).1 ∧ kCJ n P (aRes2 (I (Int32.toNatClampNeg i)) F).2 I M1 g X ∧ kMS M M1)) := by
      intro k p G hk hg hI hp hT hG
      refine zEx_mono (ex_O_restore_S g X M i p hi (by rw [hk]; exact hg) hp) ?_
      rintro v sh1 M1 ⟨rfl, rfl, rfl⟩
      rw [hk, hI]
      obtain ⟨p1, p2⟩ := kCJ_pd (p := 10) (q := p) h1 h2 (by omega)
      exact qR_i ⟨rfl, ⟨p1, p2, hT M hG, kIm_ag (fun x hx => kTB_ag M 10 p x (kL11_out (by omega))) h4⟩, kMS_TB kMS_rf (by omega)⟩
    obtain ⟨k, hk, ek⟩ := vp_in_of hi (by decide)
    have hcl : Int32.toNatClampNeg i = k := by rw [ek]; exact nI_clamp (by omega)
    rcases h4 with ⟨a1, a2, a3, a4, a5⟩ | ⟨a1, x, y, hxy, a2, a3, a4, G, a5, a6, a7⟩ | ⟨a1, x, y, hxy, a2, a3, G, G2, a4, a5, a6, a7, a8, a9⟩
    · have hk2 : k = 0 ∨ k = 1 := by omega
      rcases hk2 with rfl | rfl
      · exact hN 0 hcl a2 a4
      · exact hN 1 hcl a3 a5
    · subst a1
      have hk2 : k = x ∨ k = y := by omega
      rcases hk2 with rfl | rfl
      · exact hSm k 52 G hcl a2 a5 kTwn_52a (fun M' h => kTB_10_52 a6.1.2 h) a7
      · exact hN k hcl a3 a4
    · subst a1
      have hk2 : k = x ∨ k = y := by omega
      rcases hk2 with rfl | rfl
      · exact hSm k 52 G hcl a2 a4 kTwn_52b (fun M' h => kTB_10_52 a6.1.2 h) a8
      · exact hSm k 63 G2 hcl a3 a5 kTwn_63b (fun M' h => kTB_10_63 a7.1.2 h) a9
  · unfold aRes
    rw [if_neg (fun q => hi (inI_vp.mp q))]
    refine zEx_mono (ex_O_restore_X g X M i hi) ?_
    rintro v sh1 M1 ⟨rfl, rfl, rfl⟩
    exact qR_i ⟨rfl, hj, kMS_rf⟩
theorem cl_image (hw : kWF F) (hj : kCJ n P F I M g X) (i : Int32) : ∃ kc ks, (kc ≤ 11 ∧ ks ≤ 9 * kc) ∧ zEx m_O_image kc ks [.ref 0, .int i] (SHP g X) M (fun v sh1 M1 => ∃ g2 X2, some (.int (aImg I F i).1) = v ∧ SHP g2 X2 = sh1 ∧ kCJ n P F (aImg I F i).2 M1 g2 X2 ∧ kMS M M1) := by
  by_cases hi : vp_in i 2
  · unfold aImg
    rw [if_pos (inI_vp.mpr hi)]
    obtain ⟨h1, h2, h3, h4⟩ := id hj
    obtain ⟨k, hk, ek⟩ := vp_in_of hi (by decide)
    have hcl : Int32.toNatClampNeg i = k := by rw [ek]; exact nI_clamp (by omega)
    rw [hcl]
    have hmk : aImI I F k k = some F := if_pos rfl
    have hmo : ∀ y, y ≠ k → aImI I F k y = I y := fun y hy => if_neg hy
    -- the town stays, in a heap with a new image
    have hMx : ∀ q, 52 ≤ q → kTR (kTI q (q + 1) (zZ M q)) 10 F := fun q hq => kTR_ag (fun x _ h => kTI_ag M q x (kL11_out (by omega))) h3
    have hM1 : ∀ q, 52 ≤ q → (kTI q (q + 1) (zZ M q)) 1 1 = nI n ∧ ∀ j, j < n → (kTI q (q + 1) (zZ M q)) 2 j = P j := fun q hq => by
      rw [kTI_ag M q 1 (kL11_out (by omega)), kTI_ag M q 2 (kL11_out (by omega))]
      exact ⟨h1, h2⟩
    have hMS : ∀ q, 52 ≤ q → kMS M (kTI q (q + 1) (zZ M q)) := fun q hq r a b => kTI_ag M q r (kL11_out (by omega))
    rcases h4 with ⟨a1, a2, a3, a4, a5⟩ | ⟨a1, x, y, hxy, a2, a3, a4, G, a5, a6, a7⟩ | ⟨a1, x, y, hxy, a2, a3, G, G2, a4, a5, a6, a7, a8, a9⟩
    · subst a1
      have hgk : g k = none := by
        have hk2 : k = 0 ∨ k = 1 := by omega
        rcases hk2 with rfl | rfl
        · exact a2
        · exact a3
      refine ⟨11, 93, by decide, zEx_mono (ex_O_image_N g [] M i 52 (kTw 52) hi (by rw [hcl]; exact hgk) rfl rfl rfl rfl ⟨_, rfl⟩ kTwn_52a) ?_⟩
      rintro v sh1 M1 ⟨rfl, rfl, rfl⟩
      rw [hcl]
      obtain ⟨p1, p2⟩ := kCJ_pd (p := 52) (q := 10) (hM1 52 (by decide)).1 (hM1 52 (by decide)).2 (by omega)
      refine ⟨_, _, rfl, rfl, ⟨p1, p2, kTR_TB (hMx 52 (by decide)) (by omega), Or.inr (Or.inl ⟨rfl, k, 1 - k, by omega, ?_, ?_, ?_, F, hmk, hw, kTB_52_10 hw.1.2 (hMx 52 (by decide))⟩)⟩, kMS_TB (hMS 52 (by decide)) (by omega)⟩
      · exact va_up_self _ _ _
      · rw [va_up_ne _ _ (by omega)]
        have hk2 : k = 0 ∨ k = 1 := by omega
        rcases hk2 with rfl | rfl
        · exact a3
        · exact a2
      · refine (hmo (1 - k) (by omega)).trans ?_
        have hk2 : k = 0 ∨ k = 1 := by omega
        rcases hk2 with rfl | rfl
        · exact a5
        · exact a4
    · subst a1
      have hk2 : k = x ∨ k = y := by omega
      rcases hk2 with rfl | rfl
      · refine ⟨0, 0, by decide, zEx_mono (ex_O_image_S g (kTw 52) M i 52 hi (by rw [hcl]; exact a2) kTwn_52a) ?_⟩
        rintro v sh1 M1 ⟨rfl, rfl, rfl⟩
        obtain ⟨p1, p2⟩ := kCJ_pd (p := 52) (q := 10) h1 h2 (by omega)
        exact ⟨_, _, rfl, rfl, ⟨p1, p2, kTR_TB h3 (by omega), Or.inr (Or.inl ⟨rfl, k, y, hxy, a2, a3, (hmo _ (by omega)).trans a4, F, hmk, hw, kTB_52_10 hw.1.2 h3⟩)⟩, kMS_TB kMS_rf (by omega)⟩
      · refine ⟨11, 93, by decide, zEx_mono (ex_O_image_N g (kTw 52) M i 63 (kTw 52 ++ kTw 63) hi (by rw [hcl]; exact a3) rfl rfl rfl rfl ⟨_, rfl⟩ kTwn_63b) ?_⟩
        rintro v sh1 M1 ⟨rfl, rfl, rfl⟩
        rw [hcl]
        obtain ⟨p1, p2⟩ := kCJ_pd (p := 63) (q := 10) (hM1 63 (by decide)).1 (hM1 63 (by decide)).2 (by omega)
        refine ⟨_, _, rfl, rfl, ⟨p1, p2, kTR_TB (hMx 63 (by decide)) (by omega), Or.inr (Or.inr ⟨rfl, x, k, hxy, ?_, ?_, G, F, ?_, hmk, a6, hw, ?_, kTB_63_10 hw.1.2 (hMx 63 (by decide))⟩)⟩, kMS_TB (hMS 63 (by decide)) (by omega)⟩
        · rw [va_up_ne _ _ (by omega)]; exact a2
        · exact va_up_self _ _ _
        · exact (hmo _ (by omega)).trans a5
        · exact kTR_TB (kTR_ag (fun x h1 h2 => kTI_ag M 63 x (kL11_out (by omega))) a7) (by omega)
    · subst a1
      have hk2 : k = x ∨ k = y := by omega
      rcases hk2 with rfl | rfl
      · refine ⟨0, 0, by decide, zEx_mono (ex_O_image_S g (kTw 52 ++ kTw 63) M i 52 hi (by rw [hcl]; exact a2) kTwn_52b) ?_⟩
        rintro v sh1 M1 ⟨rfl, rfl, rfl⟩
        obtain ⟨p1, p2⟩ := kCJ_pd (p := 52) (q := 10) h1 h2 (by omega)
        exact ⟨_, _, rfl, rfl, ⟨p1, p2, kTR_TB h3 (by omega), Or.inr (Or.inr ⟨rfl, k, y, hxy, a2, a3, F, G2, hmk, (hmo _ (by omega)).trans a5, hw, a7, kTB_52_10 hw.1.2 h3, kTR_TB a9 (by omega)⟩)⟩, kMS_TB kMS_rf (by omega)⟩
      · refine ⟨0, 0, by decide, zEx_mono (ex_O_image_S g (kTw 52 ++ kTw 63) M i 63 hi (by rw [hcl]; exact a3) kTwn_63b) ?_⟩
        rintro v sh1 M1 ⟨rfl, rfl, rfl⟩
        obtain ⟨p1, p2⟩ := kCJ_pd (p := 63) (q := 10) h1 h2 (by omega)
        exact ⟨_, _, rfl, rfl, ⟨p1, p2, kTR_TB h3 (by omega), Or.inr (Or.inr ⟨rfl, x, k, hxy, a2, a3, G, F, (hmo _ (by omega)).trans a4, hmk, a6, hw, kTR_TB a8 (by omega), kTB_63_10 hw.1.2 h3⟩)⟩, kMS_TB kMS_rf (by omega)⟩
  · unfold aImg
    rw [if_neg (fun q => hi (inI_vp.mp q))]
    refine ⟨0, 0, by decide, zEx_mono (ex_O_image_X g X M i hi) ?_⟩
    rintro v sh1 M1 ⟨rfl, rfl, rfl⟩
    exact ⟨_, _, rfl, rfl, hj, kMS_rf⟩
end zC9
