section zLeaf
variable (g : Nat → Option Nat) (X : List zShp) (M : zMem)
theorem ex_O_has (a k : Int32) : zEx m_O_has 0 0 [.int a, .int k] (SHP g X) M (qF g X (bI (hb a k)) M) := by
  refine zEx_of _ (by decide) (by simp [Value.category]) (Nat.le_of_ble_eq_true rfl) rfl (v_O_has_0 g X M a k _ ⟨fun h => qF_i ?_ rfl, fun h => qF_i ?_ rfl⟩) <;> simp [hb, h, bI]
theorem ex_X_has (a k : Int32) : zEx m_X_has 0 0 [.int a, .int k] (SHP g X) M (qF g X (bI (hb a k)) M) := by
  have e : ∀ z : Int32, z &&& 1 = 0 ∨ z &&& 1 = 1 := by
    intro z
    obtain ⟨j, hj, e⟩ := pk_andE z (m := 1) 1 rfl
    have hj2 : j = 0 ∨ j = 1 := by omega
    rw [e]
    rcases hj2 with rfl | rfl
    · exact Or.inl rfl
    · exact Or.inr rfl
  refine zEx_of _ (by decide) (by simp [Value.category]) (Nat.le_of_ble_eq_true rfl) rfl (v_X_has_0 g X M a k _ ⟨fun h => qF_i ?_ rfl, fun h => qF_i ?_ rfl⟩)
  · have h0 := (e (a >>> (k &&& 31))).resolve_right h
    simp [hb, h0, bI]
  · simp [hb, h, bI]
theorem ex_O_isMan (m : Int32) : zEx m_O_isMan 0 0 [.int m] (SHP g X) M (qF g X (bI (isM m)) M) := by
  refine zEx_of _ (by decide) (by simp [Value.category]) (Nat.le_of_ble_eq_true rfl) rfl (v_O_isMan_0 g X M m _ ⟨fun h => qF_i ?_ rfl, fun h => ⟨fun h2 => qF_i ?_ rfl, fun h2 => qF_i ?_ rfl⟩⟩) <;> simp [isM, *, bI]
theorem ex_X_in (v lo hi : Int32) : zEx m_X_in 0 0 [.int v, .int lo, .int hi] (SHP g X) M (qF g X (bI (inI v lo hi)) M) := by
  refine zEx_of _ (by decide) (by simp [Value.category]) (Nat.le_of_ble_eq_true rfl) rfl (v_X_in_0 g X M v lo hi _ ⟨fun h => qF_i ?_ rfl, fun h => ⟨fun h2 => qF_i ?_ rfl, fun h2 => qF_i ?_ rfl⟩⟩) <;> simp [inI, *, bI]
theorem ex_Pages_bitOf (x : Int32) : zEx m_Pages_bitOf 0 0 [.int x] (SHP g X) M (qF g X (bO x) M) := by
  refine zEx_of _ (by decide) (by simp [Value.category]) (Nat.le_of_ble_eq_true rfl) rfl (v_Pages_bitOf_0 g X M x _ ⟨fun h => qF_i ?_ rfl, fun h => qF_i ?_ rfl⟩) <;> simp [bO, h]
theorem ex_Shares_isAhead (x k : Int32) : zEx m_Shares_isAhead 0 0 [.int x, .int k] (SHP g X) M (qF g X (bI (ahd x k)) M) := by
  refine zEx_of _ (by decide) (by simp [Value.category]) (Nat.le_of_ble_eq_true rfl) rfl (v_Shares_isAhead_0 g X M x k _ ⟨fun h => qF_i ?_ rfl, fun h => ⟨fun h2 => qF_i ?_ rfl, fun h2 => qF_i ?_ rfl⟩⟩) <;> simp [ahd, *, bI]
theorem ex_Town_mostOf (w : Int32) : zEx m_Town_mostOf 0 0 [.int w] (SHP g X) M (qF g X (mO w) M) := by
  refine zEx_of _ (by decide) (by simp [Value.category]) (Nat.le_of_ble_eq_true rfl) rfl (v_Town_mostOf_0 g X M w _ ⟨fun h => qF_i ?_ rfl, fun h => ⟨fun h2 => qF_i ?_ rfl, fun h2 => qF_i ?_ rfl⟩⟩) <;> simp [mO, *]
theorem ex_JI_bitCount (x : Int32) : zEx m_JI_bitCount 0 0 [.int x] (SHP g X) M (qF g X (bc x) M) := by
  refine zEx_of _ (by decide) (by simp [Value.category]) (Nat.le_of_ble_eq_true rfl) rfl (v_JI_bitCount_0 g X M x _ ?_)
  refine v_JI_bitCount_10 g X M (bc1 x) _ ?_
  refine v_JI_bitCount_24 g X M (bc2 (bc1 x)) _ ?_
  refine v_JI_bitCount_34 g X M (bc3 (bc2 (bc1 x))) _ ?_
  refine v_JI_bitCount_41 g X M (bc4 (bc3 (bc2 (bc1 x)))) _ ?_
  refine v_JI_bitCount_48 g X M (bc5 (bc4 (bc3 (bc2 (bc1 x))))) _ ?_
  exact qF_i rfl rfl
theorem ex_X_bits (x : Int32) : zEx m_X_bits 0 0 [.int x] (SHP g X) M (qF g X (bt6 x) M) := by
  refine zEx_of _ (by decide) (by simp [Value.category]) (Nat.le_of_ble_eq_true rfl) rfl (v_X_bits_0 g X M x _ ?_)
  have L : ∀ n k, k + n = 6 → zRT m_X_bits 0 0 4 [(0, .int x), (1, .int (bt6n x k)), (2, .int (nI k))] [] (SHP g X) M (qF g X (bt6 x) M) := by
    intro n
    induction n with
    | zero =>
      intro k hk
      have : k = 6 := by omega
      subst this
      exact v_X_bits_4 g X M x _ _ _ ⟨fun _ => qF_i rfl rfl, fun h => absurd (by decide) h⟩
    | succ n ih =>
      intro k hk
      refine v_X_bits_4 g X M x _ _ _ ⟨fun h => absurd h (nI_ge (b := 6) (by omega) (by decide)), fun _ => ?_⟩
      rw [nI_1]
      exact ih (k + 1) (by omega)
  exact L 6 0 rfl
end zLeaf
