/-! the state stays well formed -/
theorem inI_nI {v : Int32} {b : Nat} (hb : b < 2 ^ 31) (h : inI v 0 (nI b) = true) : ∃ j, j ≤ b ∧ v = nI j := by
  obtain ⟨h1, h2⟩ := inI_t h
  obtain ⟨j, hj, rfl⟩ := nI_of h1
  rw [nI_ltI hb hj] at h2
  exact ⟨j, by omega, rfl⟩
section zK1
variable {F : zTS}
theorem kWF_join (hw : kWF F) (m o : Int32) : kWF (aJoin F m o).2 := by
  unfold aJoin
  by_cases c : isM m = true ∧ isM o = true ∧ ¬ m = o
  · rw [if_pos c]
    by_cases c2 : fP F (Int32.toNatClampNeg m) = -6 ∧ fP F (Int32.toNatClampNeg o) = -6
    · rw [if_pos c2]
      obtain ⟨m6, em⟩ := isM_n c.1
      obtain ⟨o6, eo⟩ := isM_n c.2.1
      generalize Int32.toNatClampNeg m = a at *
      generalize Int32.toNatClampNeg o = b at *
      have ab : a ≠ b := fun h => c.2.2 (by rw [em, eo, h])
      obtain ⟨w1, w2, w3, w4, w5, w6, w7⟩ := hw
      refine ⟨w1, w2, w3, w4, w5, fun j hj => ?_, w7⟩
      show upd (upd (fP F) a o) b m j = -6 ∨ ∃ i, i < 6 ∧ i ≠ j ∧ upd (upd (fP F) a o) b m j = nI i ∧ upd (upd (fP F) a o) b m i = nI j
      by_cases jb : j = b
      · subst jb
        exact Or.inr ⟨a, m6, ab, by rw [upS]; exact em, by rw [upN _ _ _ _ ab, upS]; exact eo⟩
      · rw [upN _ _ _ _ jb]
        by_cases ja : j = a
        · subst ja
          exact Or.inr ⟨b, o6, Ne.symm jb, by rw [upS]; exact eo, by rw [upS]; exact em⟩
        · rw [upN _ _ _ _ ja]
          rcases w6 j hj with h | ⟨i, i6, ij, h1, h2⟩
          · exact Or.inl h
          · refine Or.inr ⟨i, i6, ij, h1, ?_⟩
            have ib : i ≠ b := fun h => by
              rw [h, c2.2] at h2
              exact nI_ne6 (by omega) h2.symm
            have ia : i ≠ a := fun h => by
              rw [h, c2.1] at h2
              exact nI_ne6 (by omega) h2.symm
            rw [upN _ _ _ _ ib, upN _ _ _ _ ia]
            exact h2
    · rw [if_neg c2]; exact hw
  · rw [if_neg c]; exact hw
theorem kWF_part (hw : kWF F) (m : Int32) : kWF (aPart F m).2 := by
  unfold aPart
  by_cases c : isM m = true
  · rw [if_pos c]
    simp only
    by_cases c2 : isM (fP F (Int32.toNatClampNeg m)) = true
    · rw [if_pos c2]
      obtain ⟨m6, em⟩ := isM_n c
      obtain ⟨b6, eb⟩ := isM_n c2
      generalize Int32.toNatClampNeg m = a at *
      generalize Int32.toNatClampNeg (fP F a) = b at *
      obtain ⟨w1, w2, w3, w4, w5, w6, w7⟩ := hw
      have pb : fP F b = nI a := by
        rcases w6 a m6 with h | ⟨i, i6, ij, h1, h2⟩
        · rw [h] at eb
          exact absurd eb.symm (nI_ne6 (by omega))
        · rw [h1] at eb
          have e := (nI_eq (by omega) (by omega)).mp eb
          rw [← e]; exact h2
      refine ⟨w1, w2, w3, w4, w5, fun j hj => ?_, w7⟩
      show upd (upd (fP F) a (-6)) b (-6) j = -6 ∨ ∃ i, i < 6 ∧ i ≠ j ∧ upd (upd (fP F) a (-6)) b (-6) j = nI i ∧ upd (upd (fP F) a (-6)) b (-6) i = nI j
      by_cases jb : j = b
      · subst jb; exact Or.inl (upS _ _ _)
      · rw [upN _ _ _ _ jb]
        by_cases ja : j = a
        · subst ja; exact Or.inl (upS _ _ _)
        · rw [upN _ _ _ _ ja]
          rcases w6 j hj with h | ⟨i, i6, ij, h1, h2⟩
          · exact Or.inl h
          · refine Or.inr ⟨i, i6, ij, h1, ?_⟩
            have ib : i ≠ b := fun h => by
              rw [h, pb] at h2
              exact ja ((nI_eq (by omega) (by omega)).mp h2).symm
            have ia : i ≠ a := fun h => by
              rw [h, eb] at h2
              exact jb ((nI_eq (by omega) (by omega)).mp h2).symm
            rw [upN _ _ _ _ ib, upN _ _ _ _ ia]
            exact h2
    · rw [if_neg c2]; exact hw
  · rw [if_neg c]; exact hw
theorem kWF_set (hw : kWF F) (w v : Int32) : kWF (aSet F w v).2 := by
  unfold aSet
  by_cases c : inI w 0 2 = true ∧ inI v 0 (mO w) = true
  · rw [if_pos c]
    obtain ⟨w1, w2, w3, w4, w5, w6⟩ := hw
    by_cases c0 : w = 0
    · rw [if_pos c0]
      rw [c0] at c
      exact ⟨w1, w2, inI_nI (b := 9) (by decide) c.2, w4, w5, w6⟩
    rw [if_neg c0]
    by_cases c1 : w = 1
    · rw [if_pos c1]
      rw [c1] at c
      obtain ⟨j, hj, e⟩ := inI_nI (b := 1) (by decide) c.2
      refine ⟨w1, w2, w3, ?_, w5, w6⟩
      show v = 0 ∨ v = 1
      have : j = 0 ∨ j = 1 := by omega
      rcases this with rfl | rfl
      · exact Or.inl e
      · exact Or.inr e
    · rw [if_neg c1]
      have c2 : w = 2 := by
        obtain ⟨j, hj, e⟩ := inI_nI (b := 2) (by decide) c.1
        have : j = 0 ∨ j = 1 ∨ j = 2 := by omega
        rcases this with rfl | rfl | rfl
        · exact absurd e c0
        · exact absurd e c1
        · exact e
      rw [c2] at c
      exact ⟨w1, w2, w3, w4, inI_nI (b := 10) (by decide) c.2, w6⟩
  · rw [if_neg c]; exact hw
theorem kWF_loaves (hw : kWF F) (t v : Int32) : kWF (aLoaves F t v).2 := by
  unfold aLoaves
  by_cases c : kIsT (fT F) t = true
  · rw [if_pos c]
    by_cases c2 : inI v 0 9 = true
    · rw [if_pos c2]
      obtain ⟨w1, w2, w3, w4, w5, w6, w7, w8⟩ := hw
      refine ⟨w1, w2, w3, w4, w5, w6, fun j hj => ?_, w8⟩
      show ∃ x, x ≤ 9 ∧ upd (fL F) (Int32.toNatClampNeg t) v j = nI x
      by_cases e : j = Int32.toNatClampNeg t
      · rw [e, upS]; exact inI_nI (b := 9) (by decide) c2
      · rw [upN _ _ _ _ e]; exact w7 j hj
    · rw [if_neg c2]; exact hw
  · rw [if_neg c]; exact hw
theorem kWF_forget (hw : kWF F) : kWF (aForget F).2 := by
  obtain ⟨w1, w2, w3, w4, w5, w6, w7, w8, w9⟩ := hw
  exact ⟨w1, ⟨rfl, Nat.zero_le _⟩, w3, w4, w5, w6, w7, fun i hi => absurd hi (Nat.not_lt_zero i), w9⟩
theorem kWF_seen (hw : kWF F) (m t : Int32) : kWF (aSeen F m t).2 := by
  unfold aSeen
  by_cases c : isM m = true ∧ kIsT (fT F) t = true
  · rw [if_pos c]
    by_cases c2 : fN F < 6
    · rw [if_pos c2]
      obtain ⟨t1, t2⟩ := kIsT_n hw c.2
      obtain ⟨m6, em⟩ := isM_n c.1
      obtain ⟨w1, w2, w3, w4, w5, w6, w7, w8, w9⟩ := hw
      have s6 : sN F < 6 := by
        rw [w2.1] at c2
        exact (nI_ltI (b := 6) (by omega) (by omega)).mp c2
      have es : fN F + 1 = nI (sN F + 1) := by
        rw [← nI_1, ← w2.1]
      have eS : sN (setS F (upd (upd (fS F) (2 * sN F) m) (2 * sN F + 1) t) (fN F + 1)) = sN F + 1 := by
        show Int32.toNatClampNeg (fN F + 1) = _
        rw [es, nI_clamp (by omega)]
      refine ⟨w1, ⟨by rw [eS]; exact es, by rw [eS]; omega⟩, w3, w4, w5, w6, w7, fun i hi => ?_, w9⟩
      rw [eS] at hi
      show (∃ a, a < 6 ∧ upd (upd (fS F) (2 * sN F) m) (2 * sN F + 1) t (2 * i) = nI a) ∧ ∃ a, a < tN F ∧ upd (upd (fS F) (2 * sN F) m) (2 * sN F + 1) t (2 * i + 1) = nI a
      rw [upN _ (2 * sN F + 1) (2 * i) _ (by omega)]
      by_cases e : i = sN F
      · rw [e, upS, upS]
        exact ⟨⟨_, m6, em⟩, ⟨_, t1, t2⟩⟩
      · rw [upN _ _ _ _ (by omega), upN _ _ _ _ (by omega), upN _ _ _ _ (by omega)]
        exact w8 i (by omega)
    · rw [if_neg c2]; exact hw
  · rw [if_neg c]; exact hw
theorem kWF_book {n : Nat} {P : Nat → Int32} (hP : bSg n P) (hw : kWF F) : kWF (aBook n P F).2.2 := by
  unfold aBook aBk
  cases e : bRun P 0 n bA0 with
  | none => exact hw
  | some B =>
    simp only
    by_cases c : B.1 = 0
    · rw [if_pos c]
      obtain ⟨z, i2, i3, -, -⟩ := bInv_run hP n 0 bA0 B (by omega) bInv_0 e
      have hN : B.2.1 ≤ 10 := z.2.1
      have ho : B.2.2.2.2.1 ≤ 4 := z.2.2.2.1
      have ek : tN (setB F B) = B.2.1 := nI_clamp (by omega)
      obtain ⟨w1, w2, w3, w4, w5, w6, w7, w8, w9⟩ := hw
      refine ⟨⟨by rw [ek]; rfl, by rw [ek]; exact hN⟩, ⟨rfl, Nat.zero_le _⟩, w3, w4, w5, w6, fun j hj => ⟨0, by decide, rfl⟩, fun i hi => absurd hi (Nat.not_lt_zero i), fun k hk => i2 k (by rw [ek] at hk; exact hk), ?_⟩
      rw [ek]
      rw [if_neg (by omega)] at i3
      show kAsN B.2.2.2.2.2 B.2.1 ≤ 4
      omega
    · rw [if_neg c]; exact hw
end zK1
theorem aBook_n {n : Nat} (P : Nat → Int32) (F : zTS) : (aBook n P F).2.1 ≤ n := by
  unfold aBook aBk
  cases bRun P 0 n bA0 with
  | none => exact Nat.le_refl n
  | some B =>
    simp only
    by_cases c : B.1 = 0
    · rw [if_pos c]; exact Nat.zero_le n
    · rw [if_neg c]; exact Nat.le_refl n
theorem bSg_le {n m : Nat} {P : Nat → Int32} (h : bSg n P) (hm : m ≤ n) : bSg m P := fun j hj => h j (by omega)
theorem aSay_ok {n : Nat} {P : Nat → Int32} (hn : n ≤ 60) (hP : bSg n P) (s : Int32) : (aSay n P s).2.1 ≤ 60 ∧ bSg (aSay n P s).2.1 (aSay n P s).2.2 := by
  unfold aSay
  by_cases c1 : s < 33
  · rw [if_pos c1]; exact ⟨hn, hP⟩
  rw [if_neg c1]
  by_cases c2 : s ≤ 126
  · rw [if_pos c2]
    by_cases c3 : n < 60
    · rw [if_pos c3]
      refine ⟨c3, fun j hj => ?_⟩
      have h0 : ¬ s < 0 := fun h => c1 (by rw [Int32.lt_iff_toInt_lt] at h ⊢; have : (33 : Int32).toInt = 33 := rfl; have : (0 : Int32).toInt = 0 := rfl; omega)
      obtain ⟨a, ha, rfl⟩ := nI_of h0
      rw [show (33 : Int32) = nI 33 from rfl, nI_ltI ha (by decide)] at c1
      rw [show (126 : Int32) = nI 126 from rfl, nI_leI ha (by decide)] at c2
      show ∃ x : Nat, 33 ≤ x ∧ x ≤ 126 ∧ upd P n (nI a) j = nI x
      by_cases e : j = n
      · rw [e, upS]; exact ⟨a, by omega, c2, rfl⟩
      · rw [upN _ _ _ _ e]
        have hj2 : j < n + 1 := hj
        exact hP j (by omega)
    · rw [if_neg c3]; exact ⟨hn, hP⟩
  · rw [if_neg c2]; exact ⟨hn, hP⟩
/-- all of it: what both hold, call after call -/
def kOk (n : Nat) (P : Nat → Int32) (F : zTS) (I : Nat → Option zTS) (M : zMem) (g : Nat → Option Nat) (X : List zShp) : Prop := n ≤ 60 ∧ bSg n P ∧ kWF F ∧ kCJ n P F I M g X ∧ kMJ n P F I M
def kSt (M : zMem) (g : Nat → Option Nat) (X : List zShp) : Prop := ∃ n P F I, kOk n P F I M g X
theorem kIm_wf {I : Nat → Option zTS} {M : zMem} {g : Nat → Option Nat} {X : List zShp} (h : kIm I M g X) {i : Nat} (hi : i < 2) {G : zTS} (e : I i = some G) : kWF G := by
  rcases h with ⟨-, -, -, h4, h5⟩ | ⟨-, a, b, hab, -, -, hb, G1, h6, h7, -⟩ | ⟨-, a, b, hab, -, -, G1, G2, h5, h6, h7, h8, -⟩
  · have : i = 0 ∨ i = 1 := by omega
    rcases this with rfl | rfl
    · rw [h4] at e; cases e
    · rw [h5] at e; cases e
  · by_cases ia : i = a
    · rw [ia, h6] at e; cases e; exact h7
    · have ib : i = b := by omega
      rw [ib, hb] at e; cases e
  · by_cases ia : i = a
    · rw [ia, h5] at e; cases e; exact h7
    · have ib : i = b := by omega
      rw [ib, h6] at e; cases e; exact h8
theorem kWF_res {F : zTS} {I : Nat → Option zTS} {M : zMem} {g : Nat → Option Nat} {X : List zShp} (hw : kWF F) (h : kIm I M g X) (i : Int32) : kWF (aRes I F i).2 := by
  unfold aRes
  by_cases c : inI i 0 1 = true
  · rw [if_pos c]
    have h2 := vp_cl (inI_vp.mp c) (by decide)
    cases e : I (Int32.toNatClampNeg i) with
    | none => exact hw
    | some G => exact kIm_wf h h2 e
  · rw [if_neg c]; exact hw
