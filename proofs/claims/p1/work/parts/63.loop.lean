theorem lw_loop {b L : Nat} {xs : Nat → Int32} (hL : L ≤ 4) (M : zMem) (g : Nat → Option Nat) (X : List zShp) (hs : kSf M g X) : zLT b L xs 18 0 [] (SHP g X) M := by
  have hX : X.length ≤ 22 := by
    obtain ⟨P, F, I, hok, hf⟩ := hs
    exact kIm_len hok.2.2.2.1.2.2.2
  refine zl_head (by omega) (Nat.zero_le _) dl_18 dl_19 dl_20 dl_21 dl_22 dl_23 (by decide) dl_26 dl_27 dl_28 dl_29 dl_31 (fun _ => zl_end dl_857 dl_858 (by rw [lw_len]; omega)) (fun h => ?_)
  have nx : ∀ M2 g2 X2, kSt M2 g2 X2 → zLT b L xs 851 0 [] (SHP g2 X2) M2 := fun M2 g2 X2 hs2 => by
    obtain ⟨n, P, F, I, hok⟩ := hs2
    have hX2 := kIm_len hok.2.2.2.1.2.2.2
    exact zl_next dl_851 dl_854 (by decide) (zl_head (by omega) (by omega) dl_18 dl_19 dl_20 dl_21 dl_22 dl_23 (by decide) dl_26 dl_27 dl_28 dl_29 dl_31 (fun _ => zl_end dl_857 dl_858 (by rw [lw_len]; omega)) (fun h => by omega))
  have hs0 : kSt M g X := by
    obtain ⟨P, F, I, hok, hf⟩ := hs
    exact ⟨0, P, F, I, hok⟩
  obtain ⟨k, hk, ek⟩ := lw_31 (xs 0)
  rw [ek]
  have hk2 : k = 0 ∨ k = 1 ∨ k = 2 ∨ k = 3 ∨ k = 4 ∨ k = 5 ∨ k = 6 ∨ k = 7 ∨ k = 8 ∨ k = 9 ∨ k = 10 ∨ k = 11 ∨ k = 12 ∨ k = 13 ∨ k = 14 ∨ k = 15 ∨ k = 16 ∨ k = 17 ∨ k = 18 ∨ k = 19 ∨ k = 20 ∨ k = 21 ∨ k = 22 ∨ k = 23 ∨ k = 24 ∨ k = 25 ∨ 26 ≤ k := by omega
  rcases hk2 with rfl | rfl | rfl | rfl | rfl | rfl | rfl | rfl | rfl | rfl | rfl | rfl | rfl | rfl | rfl | rfl | rfl | rfl | rfl | rfl | rfl | rfl | rfl | rfl | rfl | rfl | hk3
  · exact zl_in dl_32 (by decide) (by decide) rfl (by decide) (lw_case_0 (by omega) h hs nx)
  · exact zl_in dl_32 (by decide) (by decide) rfl (by decide) (lw_case_1 (by omega) h hs nx)
  · exact zl_in dl_32 (by decide) (by decide) rfl (by decide) (lw_case_2 (by omega) h hs nx)
  · exact zl_in dl_32 (by decide) (by decide) rfl (by decide) (lw_case_3 (by omega) h hs nx)
  · exact zl_in dl_32 (by decide) (by decide) rfl (by decide) (lw_case_4 (by omega) h hs nx)
  · exact zl_in dl_32 (by decide) (by decide) rfl (by decide) (lw_case_5 (by omega) h hs nx)
  · exact zl_in dl_32 (by decide) (by decide) rfl (by decide) (lw_case_6 (by omega) h hs nx)
  · exact zl_in dl_32 (by decide) (by decide) rfl (by decide) (lw_case_7 (by omega) h hs nx)
  · exact zl_in dl_32 (by decide) (by decide) rfl (by decide) (lw_case_8 (by omega) h hs nx)
  · exact zl_in dl_32 (by decide) (by decide) rfl (by decide) (lw_case_9 (by omega) h hs nx)
  · exact zl_in dl_32 (by decide) (by decide) rfl (by decide) (lw_case_10 (by omega) h hs nx)
  · exact zl_in dl_32 (by decide) (by decide) rfl (by decide) (lw_case_11 (by omega) h hs nx)
  · exact zl_in dl_32 (by decide) (by decide) rfl (by decide) (lw_case_12 (by omega) h hs nx)
  · exact zl_in dl_32 (by decide) (by decide) rfl (by decide) (lw_case_13 (by omega) h hs nx)
  · exact zl_in dl_32 (by decide) (by decide) rfl (by decide) (lw_case_14 (by omega) h hs nx)
  · exact zl_in dl_32 (by decide) (by decide) rfl (by decide) (lw_case_15 (by omega) h hs nx)
  · exact zl_in dl_32 (by decide) (by decide) rfl (by decide) (lw_case_16 (by omega) h hs nx)
  · exact zl_in dl_32 (by decide) (by decide) rfl (by decide) (lw_case_17 (by omega) h hs nx)
  · exact zl_in dl_32 (by decide) (by decide) rfl (by decide) (lw_case_18 (by omega) h hs nx)
  · exact zl_in dl_32 (by decide) (by decide) rfl (by decide) (lw_case_19 (by omega) h hs nx)
  · exact zl_in dl_32 (by decide) (by decide) rfl (by decide) (lw_case_20 (by omega) h hs nx)
  · exact zl_in dl_32 (by decide) (by decide) rfl (by decide) (lw_case_21 (by omega) h hs nx)
  · exact zl_in dl_32 (by decide) (by decide) rfl (by decide) (lw_case_22 (by omega) h hs nx)
  · exact zl_in dl_32 (by decide) (by decide) rfl (by decide) (lw_case_23 (by omega) h hs nx)
  · exact zl_in dl_32 (by decide) (by decide) rfl (by decide) (lw_case_24 (by omega) h hs nx)
  · exact zl_in dl_32 (by decide) (by decide) rfl (by decide) (lw_case_25 (by omega) h hs nx)
  · refine zl_out dl_32 (Or.inr ?_) (by decide) (nx M g X hs0)
    rw [nI_toInt (by omega)]
    omega
