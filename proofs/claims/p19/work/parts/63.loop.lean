theorem lw_loop {b L : Nat} {xs : Nat → Int32} (hL : L ≤ 2048) : ∀ d i (M : zMem) (g : Nat → Option Nat) (X : List zShp), i ≤ L → L < i + 4 * d + 4 → kSt M g X → zLT b L xs 18 i [] (SHP g X) M := by
  intro d
  induction d with
  | zero =>
    intro i M g X hi hd hs
    obtain ⟨n, P, F, I, hok⟩ := hs
    have hX := kIm_len hok.2.2.2.1.2.2.2
    refine zl_head hL hi dl_18 dl_19 dl_20 dl_21 dl_22 dl_23 (by decide) dl_26 dl_27 dl_28 dl_29 dl_31 (fun _ => zl_end dl_856 dl_857 (by rw [lw_len]; omega)) (fun h => by omega)
  | succ d ih =>
    intro i M g X hi hd hs
    have hX : X.length ≤ 22 := by
      obtain ⟨n, P, F, I, hok⟩ := hs
      exact kIm_len hok.2.2.2.1.2.2.2
    refine zl_head hL hi dl_18 dl_19 dl_20 dl_21 dl_22 dl_23 (by decide) dl_26 dl_27 dl_28 dl_29 dl_31 (fun _ => zl_end dl_856 dl_857 (by rw [lw_len]; omega)) (fun h => ?_)
    have nx : ∀ M2 g2 X2, kSt M2 g2 X2 → zLT b L xs 850 i [] (SHP g2 X2) M2 := fun M2 g2 X2 hs2 => zl_next dl_850 dl_853 (by decide) (ih (i + 4) M2 g2 X2 (by omega) (by omega) hs2)
    obtain ⟨k, hk, ek⟩ := lw_31 (xs i)
    rw [ek]
    have hk2 : k = 0 ∨ k = 1 ∨ k = 2 ∨ k = 3 ∨ k = 4 ∨ k = 5 ∨ k = 6 ∨ k = 7 ∨ k = 8 ∨ k = 9 ∨ k = 10 ∨ k = 11 ∨ k = 12 ∨ k = 13 ∨ k = 14 ∨ k = 15 ∨ k = 16 ∨ k = 17 ∨ k = 18 ∨ k = 19 ∨ k = 20 ∨ k = 21 ∨ k = 22 ∨ k = 23 ∨ k = 24 ∨ k = 25 ∨ 26 ≤ k := by omega
    rcases hk2 with rfl | rfl | rfl | rfl | rfl | rfl | rfl | rfl | rfl | rfl | rfl | rfl | rfl | rfl | rfl | rfl | rfl | rfl | rfl | rfl | rfl | rfl | rfl | rfl | rfl | rfl | hk3
    · exact zl_in dl_32 (by decide) (by decide) rfl (by decide) (lw_case_0 hL h hs nx)
    · exact zl_in dl_32 (by decide) (by decide) rfl (by decide) (lw_case_1 hL h hs nx)
    · exact zl_in dl_32 (by decide) (by decide) rfl (by decide) (lw_case_2 hL h hs nx)
    · exact zl_in dl_32 (by decide) (by decide) rfl (by decide) (lw_case_3 hL h hs nx)
    · exact zl_in dl_32 (by decide) (by decide) rfl (by decide) (lw_case_4 hL h hs nx)
    · exact zl_in dl_32 (by decide) (by decide) rfl (by decide) (lw_case_5 hL h hs nx)
    · exact zl_in dl_32 (by decide) (by decide) rfl (by decide) (lw_case_6 hL h hs nx)
    · exact zl_in dl_32 (by decide) (by decide) rfl (by decide) (lw_case_7 hL h hs nx)
    · exact zl_in dl_32 (by decide) (by decide) rfl (by decide) (lw_case_8 hL h hs nx)
    · exact zl_in dl_32 (by decide) (by decide) rfl (by decide) (lw_case_9 hL h hs nx)
    · exact zl_in dl_32 (by decide) (by decide) rfl (by decide) (lw_case_10 hL h hs nx)
    · exact zl_in dl_32 (by decide) (by decide) rfl (by decide) (lw_case_11 hL h hs nx)
    · exact zl_in dl_32 (by decide) (by decide) rfl (by decide) (lw_case_12 hL h hs nx)
    · exact zl_in dl_32 (by decide) (by decide) rfl (by decide) (lw_case_13 hL h hs nx)
    · exact zl_in dl_32 (by decide) (by decide) rfl (by decide) (lw_case_14 hL h hs nx)
    · exact zl_in dl_32 (by decide) (by decide) rfl (by decide) (lw_case_15 hL h hs nx)
    · exact zl_in dl_32 (by decide) (by decide) rfl (by decide) (lw_case_16 hL h hs nx)
    · exact zl_in dl_32 (by decide) (by decide) rfl (by decide) (lw_case_17 hL h hs nx)
    · exact zl_in dl_32 (by decide) (by decide) rfl (by decide) (lw_case_18 hL h hs nx)
    · exact zl_in dl_32 (by decide) (by decide) rfl (by decide) (lw_case_19 hL h hs nx)
    · exact zl_in dl_32 (by decide) (by decide) rfl (by decide) (lw_case_20 hL h hs nx)
    · exact zl_in dl_32 (by decide) (by decide) rfl (by decide) (lw_case_21 hL h hs nx)
    · exact zl_in dl_32 (by decide) (by decide) rfl (by decide) (lw_case_22 hL h hs nx)
    · exact zl_in dl_32 (by decide) (by decide) rfl (by decide) (lw_case_23 hL h hs nx)
    · exact zl_in dl_32 (by decide) (by decide) rfl (by decide) (lw_case_24 hL h hs nx)
    · exact zl_in dl_32 (by decide) (by decide) rfl (by decide) (lw_case_25 hL h hs nx)
    · refine zl_out dl_32 (Or.inr ?_) (by decide) (nx M g X hs)
      rw [nI_toInt (by omega)]
      omega
