/-! the reference: what the asking methods stand on -/
def mCnt (M : zMem) : Prop := ∃ n : Nat, n ≤ 10 ∧ M 35 6 = nI n
def mTN (M : zMem) : Nat := (M 35 6).toNatClampNeg
theorem mCnt_e {M : zMem} (h : mCnt M) : M 35 6 = nI (mTN M) ∧ mTN M ≤ 10 := by
  obtain ⟨n, h1, h2⟩ := h
  unfold mTN
  rw [h2, nI_clamp (by omega)]
  exact ⟨rfl, h1⟩
def mRw (M : zMem) (x : Int32) : Prop := vp_in x 10 ∧ ∀ t, t ≤ Int32.toNatClampNeg x → ∀ k, 1 ≤ k → k ≤ 3 → M 38 (5 * t + k) < 0 ∨ vp_in (M 38 (5 * t + k)) 10
theorem mRw_ag {M M1 : zMem} {x : Int32} (h : M1 38 = M 38) (hr : mRw M x) : mRw M1 x := ⟨hr.1, by rw [h]; exact hr.2⟩
def mTo (M : zMem) : zMem := zmr M 41 (fun j => if j < mTN M then M 38 (5 * j) else M 41 j)
def mWi (M : zMem) (f : Nat) : Nat → Int32 := upd (fun j => if j < 10 then 1000000 else M 42 j) f 0
def mW1 (M : zMem) (t k : Nat) (s : Nat → Int32) : Nat → Int32 :=
  if (k < 3 ∨ M 35 1 = 1) ∧ ¬ M 38 (5 * t + k) < 0 ∧ ¬ s (Int32.toNatClampNeg (M 38 (5 * t + k))) ≤ s t + 1 then upd s (Int32.toNatClampNeg (M 38 (5 * t + k))) (s t + 1) else s
def mW3 (M : zMem) (t : Nat) : Nat → Nat → (Nat → Int32) → Nat → Int32
  | _, 0, s => s
  | k, n + 1, s => if 1000000 ≤ s t then s else mW3 M t (k + 1) n (mW1 M t k s)
def mWT (M : zMem) : Nat → (Nat → Int32) → Nat → Int32
  | 0, s => s
  | t + 1, s => mWT M t (mW3 M t 1 3 s)
def mWk (M : zMem) (f : Nat) : zMem := zmr M 42 (mWT M (f + 1) (mWi M f))
def mTc (M : zMem) (x : Int32) : Int32 := kOr (fun t => if M 35 0 < (mWk M (Int32.toNatClampNeg x)) 42 t then 0 else M 41 t) (Int32.toNatClampNeg x + 1)
def mWPn (M : zMem) (b : Int32) : Nat → Int32
  | 0 => b
  | n + 1 => mWPn M b n ||| (if hb b (nI n) = true then (if M 36 n < 0 then 0 else (1 : Int32) <<< (M 36 n &&& 31)) else 0)
def mWP (M : zMem) (b : Int32) : Int32 := mWPn M b 6
def mNrn (M : zMem) (s : Nat → Int32) (m : Int32) : Nat → Int32
  | 0 => 1000000
  | t + 1 => if hb (M 38 (5 * t)) m = true then (if mNrn M s m t ≤ s t then mNrn M s m t else s t) else mNrn M s m t
def mNr (M : zMem) (x m : Int32) : Int32 := mNrn M ((mWk M (Int32.toNatClampNeg x)) 42) m (Int32.toNatClampNeg x + 1)
theorem nI_5 (a k : Nat) : (5 : Int32) * nI a + nI k = nI (5 * a + k) := by rw [show (5 : Int32) = nI 5 from rfl, pk_mul, nI_add]
theorem nI_50 (a : Nat) : (5 : Int32) * nI a = nI (5 * a) := by rw [show (5 : Int32) = nI 5 from rfl, pk_mul]
theorem nI_51 (a : Nat) : (5 : Int32) * nI a + 1 = nI (5 * a + 1) := nI_5 a 1
theorem nI_52 (a : Nat) : (5 : Int32) * nI a + 2 = nI (5 * a + 2) := nI_5 a 2
theorem nI_54 (a : Nat) : (5 : Int32) * nI a + 4 = nI (5 * a + 4) := nI_5 a 4
section zX3
variable (g : Nat → Option Nat) (X : List zShp) (M : zMem)
theorem v_X_asTold_0 (g : Nat → Option Nat) (X : List zShp) (M : zMem) (R : zEnd) (h : zRT m_X_asTold 0 0 2 [(0, .ref 35), (1, .int 0)] [] (SHP g X) M R) : zRT m_X_asTold 0 0 0 [(0, .ref 35)] [] (SHP g X) M R := by
  refine zs_iconst 0 d_X_asTold_0 (by decide) ?_
  refine zs_istore_n2 1 [1, 0] [(0, .ref 35), (1, .int 0)] d_X_asTold_1 rfl (by decide) rfl ?_
  exact h
theorem v_X_asTold_2 (g : Nat → Option Nat) (X : List zShp) (M : zMem) (x1 : Int32) (R : zEnd) (h : (((M 35 6) ≤ x1) → (R none (SHP g X) M)) ∧ ((¬ (M 35 6) ≤ x1) → ((vp_in ((5 : Int32) * x1) 50) ∧ ((vp_in x1 10) ∧ (zRT m_X_asTold 0 0 2 [(0, .ref 35), (1, .int (x1 + 1))] [] (SHP g X) (zms M 41 (Int32.toNatClampNeg x1) (M 38 (Int32.toNatClampNeg ((5 : Int32) * x1)))) R))))) : zRT m_X_asTold 0 0 2 [(0, .ref 35), (1, .int x1)] [] (SHP g X) M R := by
  refine zs_iload_n 1 d_X_asTold_2 rfl (List.mem_of_getElem? (i := 1) rfl) ?_
  refine zs_aload_n 0 d_X_asTold_3 rfl (List.mem_of_getElem? (i := 0) rfl) ?_
  refine zs_get d_X_asTold_4 gf_X_70 (sh_35 g X) rfl ?_
  refine zs_icmp_ge 30 d_X_asTold_7 (by decide) (fun c1 => ?_) (fun c1 => ?_)
  · replace h := h.1 c1
    exact zs_vret d_X_asTold_30 rfl h
  · replace h := h.2 c1
    refine zs_aload_n 0 d_X_asTold_10 rfl (List.mem_of_getElem? (i := 0) rfl) ?_
    refine zs_get d_X_asTold_11 gf_X_32 (sh_35 g X) rfl ?_
    refine zs_iload_n 1 d_X_asTold_14 rfl (List.mem_of_getElem? (i := 1) rfl) ?_
    refine zs_aload_n 0 d_X_asTold_15 rfl (List.mem_of_getElem? (i := 0) rfl) ?_
    refine zs_get d_X_asTold_16 gf_X_23 (sh_35 g X) rfl ?_
    refine zs_iconst 5 d_X_asTold_19 (by decide) ?_
    refine zs_iload_n 1 d_X_asTold_20 rfl (List.mem_of_getElem? (i := 1) rfl) ?_
    refine zs_imul d_X_asTold_21 ?_
    obtain ⟨b2, h⟩ := h
    refine zs_iald d_X_asTold_22 (sh_38 g X) b2 ?_
    obtain ⟨b3, h⟩ := h
    refine zs_iast d_X_asTold_23 (sh_41 g X) b3 ?_
    refine zs_iinc2 1 (x1 + 1) [1, 0] [(0, .ref 35), (1, .int (x1 + 1))] d_X_asTold_24 rfl rfl (by decide) rfl ?_
    refine zs_goto 2 d_X_asTold_27 (by decide) ?_
    exact h
theorem ex_X_asTold (hc : mCnt M) : zEx m_X_asTold 0 0 [.ref 35] (SHP g X) M (qV g X (mTo M)) := by
  refine zEx_of _ (by decide) (by simp [Value.category]) (Nat.le_of_ble_eq_true rfl) rfl (v_X_asTold_0 g X M _ ?_)
  obtain ⟨hc1, hc2⟩ := mCnt_e hc
  have L : ∀ d k, k + d = mTN M → zRT m_X_asTold 0 0 2 [(0, .ref 35), (1, .int (nI k))] [] (SHP g X) (zmr M 41 (fun j => if j < k then M 38 (5 * j) else M 41 j)) (qV g X (mTo M)) := by
    intro d
    induction d with
    | zero =>
      intro k hk
      have e : k = mTN M := by omega
      subst e
      exact v_X_asTold_2 g X _ _ _ ⟨fun _ => ⟨rfl, rfl, rfl⟩, fun h => absurd (by show M 35 6 ≤ _; rw [hc1]; exact nI_le (Nat.le_refl _) (by omega)) h⟩
    | succ d ih =>
      intro k hk
      refine v_X_asTold_2 g X _ _ _ ⟨fun h => absurd h (by show ¬ M 35 6 ≤ _; rw [hc1]; exact nI_ge (by omega) (by omega)), fun _ => ?_⟩
      rw [nI_1, nI_50, nI_clamp (by omega), nI_clamp (by omega), zms_zmr]
      refine ⟨vp_in_nI (by omega) (by decide), vp_in_nI (by omega) (by decide), ?_⟩
      have e : upd (fun j => if j < k then M 38 (5 * j) else M 41 j) k (zmr M 41 (fun j => if j < k then M 38 (5 * j) else M 41 j) 38 (5 * k)) = (fun j => if j < k + 1 then M 38 (5 * j) else M 41 j) := by
        funext j
        show (if j = k then M 38 (5 * k) else if j < k then M 38 (5 * j) else M 41 j) = if j < k + 1 then M 38 (5 * j) else M 41 j
        by_cases h1 : j = k
        · rw [if_pos h1, if_pos (by omega), h1]
        · by_cases h2 : j < k
          · rw [if_neg h1, if_pos h2, if_pos (by omega)]
          · rw [if_neg h1, if_neg h2, if_neg (by omega)]
      rw [e]
      exact ih (k + 1) (by omega)
  have e0 : zmr M 41 (fun j => if j < 0 then M 38 (5 * j) else M 41 j) = M := by
    have : (fun j => if j < 0 then M 38 (5 * j) else M 41 j) = M 41 := by funext j; simp
    rw [this, zmr_self]
  have h0 := L (mTN M) 0 (by omega)
  rw [e0] at h0
  exact h0
theorem v_X_walk_0 (g : Nat → Option Nat) (X : List zShp) (M : zMem) (x1 : Int32) (R : zEnd) (h : zRT m_X_walk 0 0 2 [(0, .ref 35), (1, .int x1), (2, .int 0)] [] (SHP g X) M R) : zRT m_X_walk 0 0 0 [(0, .ref 35), (1, .int x1)] [] (SHP g X) M R := by
  refine zs_iconst 0 d_X_walk_0 (by decide) ?_
  refine zs_istore_n2 2 [1, 2, 0] [(0, .ref 35), (1, .int x1), (2, .int 0)] d_X_walk_1 rfl (by decide) rfl ?_
  exact h
theorem v_X_walk_2 (g : Nat → Option Nat) (X : List zShp) (M : zMem) (x1 x2 : Int32) (R : zEnd) (h : ((10 ≤ x2) → ((vp_in x1 10) ∧ (zRT m_X_walk 0 0 31 [(0, .ref 35), (2, .int x1)] [] (SHP g X) (zms M 42 (Int32.toNatClampNeg x1) 0) R))) ∧ ((¬ 10 ≤ x2) → ((vp_in x2 10) ∧ (zRT m_X_walk 0 0 2 [(0, .ref 35), (1, .int x1), (2, .int (x2 + 1))] [] (SHP g X) (zms M 42 (Int32.toNatClampNeg x2) 1000000) R)))) : zRT m_X_walk 0 0 2 [(0, .ref 35), (1, .int x1), (2, .int x2)] [] (SHP g X) M R := by
  refine zs_iload_n 2 d_X_walk_2 rfl (List.mem_of_getElem? (i := 2) rfl) ?_
  refine zs_bipush 10 d_X_walk_3 (by decide) ?_
  refine zs_icmp_ge 22 d_X_walk_5 (by decide) (fun c1 => ?_) (fun c1 => ?_)
  · replace h := h.1 c1
    refine zs_aload_n 0 d_X_walk_22 rfl (List.mem_of_getElem? (i := 0) rfl) ?_
    refine zs_get d_X_walk_23 gf_X_35 (sh_35 g X) rfl ?_
    refine zs_iload_n 1 d_X_walk_26 rfl (List.mem_of_getElem? (i := 1) rfl) ?_
    refine zs_iconst 0 d_X_walk_27 (by decide) ?_
    obtain ⟨b2, h⟩ := h
    refine zs_iast d_X_walk_28 (sh_42 g X) b2 ?_
    refine zs_iload_n 1 d_X_walk_29 rfl (List.mem_of_getElem? (i := 1) rfl) ?_
    refine zs_istore_n2 2 [1, 2, 0] [(0, .ref 35), (1, .int x1), (2, .int x1)] d_X_walk_30 rfl (by decide) rfl ?_
    exact zRT_sub [0, 2] rfl h
  · replace h := h.2 c1
    refine zs_aload_n 0 d_X_walk_8 rfl (List.mem_of_getElem? (i := 0) rfl) ?_
    refine zs_get d_X_walk_9 gf_X_35 (sh_35 g X) rfl ?_
    refine zs_iload_n 2 d_X_walk_12 rfl (List.mem_of_getElem? (i := 2) rfl) ?_
    refine zs_ldc (v := 1000000) d_X_walk_13 (by decide +kernel) ?_
    obtain ⟨b3, h⟩ := h
    refine zs_iast d_X_walk_15 (sh_42 g X) b3 ?_
    refine zs_iinc2 2 (x2 + 1) [1, 2, 0] [(0, .ref 35), (1, .int x1), (2, .int (x2 + 1))] d_X_walk_16 rfl rfl (by decide) rfl ?_
    refine zs_goto 2 d_X_walk_19 (by decide) ?_
    exact h
theorem v_X_walk_31 (g : Nat → Option Nat) (X : List zShp) (M : zMem) (x2 : Int32) (R : zEnd) (h : ((x2 < 0) → (R none (SHP g X) M)) ∧ ((¬ x2 < 0) → (zRT m_X_walk 0 0 37 [(0, .ref 35), (2, .int x2), (3, .int 1)] [] (SHP g X) M R))) : zRT m_X_walk 0 0 31 [(0, .ref 35), (2, .int x2)] [] (SHP g X) M R := by
  refine zs_iload_n 2 d_X_walk_31 rfl (List.mem_of_getElem? (i := 1) rfl) ?_
  refine zs_if_lt 133 d_X_walk_32 (by decide) (fun c1 => ?_) (fun c1 => ?_)
  · replace h := h.1 c1
    exact zs_vret d_X_walk_133 rfl h
  · replace h := h.2 c1
    refine zs_iconst 1 d_X_walk_35 (by decide) ?_
    refine zs_istore_n2 3 [1, 2, 0] [(0, .ref 35), (2, .int x2), (3, .int 1)] d_X_walk_36 rfl (by decide) rfl ?_
    exact h
theorem v_X_walk_37 (g : Nat → Option Nat) (X : List zShp) (M : zMem) (x2 x3 : Int32) (R : zEnd) (h : ((4 ≤ x3) → (zRT m_X_walk 0 0 31 [(0, .ref 35), (2, .int (x2 + (-1)))] [] (SHP g X) M R)) ∧ ((¬ 4 ≤ x3) → ((vp_in x2 10) ∧ (((1000000 ≤ (M 42 (Int32.toNatClampNeg x2))) → (zRT m_X_walk 0 0 31 [(0, .ref 35), (2, .int (x2 + (-1)))] [] (SHP g X) M R)) ∧ ((¬ 1000000 ≤ (M 42 (Int32.toNatClampNeg x2))) → (((x3 < 3) → ((vp_in (((5 : Int32) * x2) + x3) 50) ∧ ((((M 38 (Int32.toNatClampNeg (((5 : Int32) * x2) + x3))) < 0) → (zRT m_X_walk 0 0 37 [(0, .ref 35), (2, .int x2), (3, .int (x3 + 1))] [] (SHP g X) M R)) ∧ ((¬ (M 38 (Int32.toNatClampNeg (((5 : Int32) * x2) + x3))) < 0) → ((vp_in (M 38 (Int32.toNatClampNeg (((5 : Int32) * x2) + x3))) 10) ∧ ((((M 42 (Int32.toNatClampNeg (M 38 (Int32.toNatClampNeg (((5 : Int32) * x2) + x3))))) ≤ ((M 42 (Int32.toNatClampNeg x2)) + 1)) → (zRT m_X_walk 0 0 37 [(0, .ref 35), (2, .int x2), (3, .int (x3 + 1))] [] (SHP g X) M R)) ∧ ((¬ (M 42 (Int32.toNatClampNeg (M 38 (Int32.toNatClampNeg (((5 : Int32) * x2) + x3))))) ≤ ((M 42 (Int32.toNatClampNeg x2)) + 1)) → (zRT m_X_walk 0 0 37 [(0, .ref 35), (2, .int x2), (3, .int (x3 + 1))] [] (SHP g X) (zms M 42 (Int32.toNatClampNeg (M 38 (Int32.toNatClampNeg (((5 : Int32) * x2) + x3)))) ((M 42 (Int32.toNatClampNeg x2)) + 1)) R)))))))) ∧ ((¬ x3 < 3) → (((¬ (M 35 1) = 1) → (zRT m_X_walk 0 0 37 [(0, .ref 35), (2, .int x2), (3, .int (x3 + 1))] [] (SHP g X) M R)) ∧ (((M 35 1) = 1) → ((vp_in (((5 : Int32) * x2) + x3) 50) ∧ ((((M 38 (Int32.toNatClampNeg (((5 : Int32) * x2) + x3))) < 0) → (zRT m_X_walk 0 0 37 [(0, .ref 35), (2, .int x2), (3, .int (x3 + 1))] [] (SHP g X) M R)) ∧ ((¬ (M 38 (Int32.toNatClampNeg (((5 : Int32) * x2) + x3))) < 0) → ((vp_in (M 38 (Int32.toNatClampNeg (((5 : Int32) * x2) + x3))) 10) ∧ ((((M 42 (Int32.toNatClampNeg (M 38 (Int32.toNatClampNeg (((5 : Int32) * x2) + x3))))) ≤ ((M 42 (Int32.toNatClampNeg x2)) + 1)) → (zRT m_X_walk 0 0 37 [(0, .ref 35), (2, .int x2), (3, .int (x3 + 1))] [] (SHP g X) M R)) ∧ ((¬ (M 42 (Int32.toNatClampNeg (M 38 (Int32.toNatClampNeg (((5 : Int32) * x2) + x3))))) ≤ ((M 42 (Int32.toNatClampNeg x2)) + 1)) → (zRT m_X_walk 0 0 37 [(0, .ref 35), (2, .int x2), (3, .int (x3 + 1))] [] (SHP g X) (zms M 42 (Int32.toNatClampNeg (M 38 (Int32.toNatClampNeg (((5 : Int32) * x2) + x3)))) ((M 42 (Int32.toNatClampNeg x2)) + 1)) R)))))))))))))))) : zRT m_X_walk 0 0 37 [(0, .ref 35), (2, .int x2), (3, .int x3)] [] (SHP g X) M R := by
  refine zs_iload_n 3 d_X_walk_37 rfl (List.mem_of_getElem? (i := 2) rfl) ?_
  refine zs_iconst 4 d_X_walk_38 (by decide) ?_
  refine zs_icmp_ge 127 d_X_walk_39 (by decide) (fun c1 => ?_) (fun c1 => ?_)
  · replace h := h.1 c1
    refine zs_iinc2 1 (x2 + (-1)) [1, 0, 2] [(0, .ref 35), (2, .int (x2 + (-1))), (3, .int x3)] d_X_walk_127 rfl rfl (by decide) rfl ?_
    refine zs_goto 31 d_X_walk_130 (by decide) ?_
    exact zRT_sub [0, 1] rfl h
  · replace h := h.2 c1
    refine zs_aload_n 0 d_X_walk_42 rfl (List.mem_of_getElem? (i := 0) rfl) ?_
    refine zs_get d_X_walk_43 gf_X_35 (sh_35 g X) rfl ?_
    refine zs_iload_n 2 d_X_walk_46 rfl (List.mem_of_getElem? (i := 1) rfl) ?_
    obtain ⟨b2, h⟩ := h
    refine zs_iald d_X_walk_47 (sh_42 g X) b2 ?_
    refine zs_ldc (v := 1000000) d_X_walk_48 (by decide +kernel) ?_
    refine zs_icmp_ge 127 d_X_walk_50 (by decide) (fun c3 => ?_) (fun c3 => ?_)
    · replace h := h.1 c3
      refine zs_iinc2 1 (x2 + (-1)) [1, 0, 2] [(0, .ref 35), (2, .int (x2 + (-1))), (3, .int x3)] d_X_walk_127 rfl rfl (by decide) rfl ?_
      refine zs_goto 31 d_X_walk_130 (by decide) ?_
      exact zRT_sub [0, 1] rfl h
    · replace h := h.2 c3
      refine zs_iload_n 3 d_X_walk_53 rfl (List.mem_of_getElem? (i := 2) rfl) ?_
      refine zs_iconst 3 d_X_walk_54 (by decide) ?_
      refine zs_icmp_lt 66 d_X_walk_55 (by decide) (fun c4 => ?_) (fun c4 => ?_)
      · replace h := h.1 c4
        refine zs_aload_n 0 d_X_walk_66 rfl (List.mem_of_getElem? (i := 0) rfl) ?_
        refine zs_get d_X_walk_67 gf_X_23 (sh_35 g X) rfl ?_
        refine zs_iconst 5 d_X_walk_70 (by decide) ?_
        refine zs_iload_n 2 d_X_walk_71 rfl (List.mem_of_getElem? (i := 1) rfl) ?_
        refine zs_imul d_X_walk_72 ?_
        refine zs_iload_n 3 d_X_walk_73 rfl (List.mem_of_getElem? (i := 2) rfl) ?_
        refine zs_iadd d_X_walk_74 ?_
        obtain ⟨b5, h⟩ := h
        refine zs_iald d_X_walk_75 (sh_38 g X) b5 ?_
        refine zs_goto 81 d_X_walk_76 (by decide) ?_
        refine zs_istore2 [1, 2, 3, 0] [(0, .ref 35), (2, .int x2), (3, .int x3), (4, .int (M 38 (Int32.toNatClampNeg (((5 : Int32) * x2) + x3))))] d_X_walk_81 (by decide) rfl ?_
        refine zs_iload d_X_walk_83 (List.mem_of_getElem? (i := 3) rfl) ?_
        refine zs_if_lt 121 d_X_walk_85 (by decide) (fun c6 => ?_) (fun c6 => ?_)
        · replace h := h.1 c6
          refine zs_iinc2 2 (x3 + 1) [1, 2, 0, 3] [(0, .ref 35), (2, .int x2), (3, .int (x3 + 1)), (4, .int (M 38 (Int32.toNatClampNeg (((5 : Int32) * x2) + x3))))] d_X_walk_121 rfl rfl (by decide) rfl ?_
          refine zs_goto 37 d_X_walk_124 (by decide) ?_
          exact zRT_sub [0, 1, 2] rfl h
        · replace h := h.2 c6
          refine zs_aload_n 0 d_X_walk_88 rfl (List.mem_of_getElem? (i := 0) rfl) ?_
          refine zs_get d_X_walk_89 gf_X_35 (sh_35 g X) rfl ?_
          refine zs_iload_n 2 d_X_walk_92 rfl (List.mem_of_getElem? (i := 1) rfl) ?_
          refine zs_iald d_X_walk_93 (sh_42 g X) b2 ?_
          refine zs_iconst 1 d_X_walk_94 (by decide) ?_
          refine zs_iadd d_X_walk_95 ?_
          refine zs_aload_n 0 d_X_walk_96 rfl (List.mem_of_getElem? (i := 0) rfl) ?_
          refine zs_get d_X_walk_97 gf_X_35 (sh_35 g X) rfl ?_
          refine zs_iload d_X_walk_100 (List.mem_of_getElem? (i := 3) rfl) ?_
          obtain ⟨b7, h⟩ := h
          refine zs_iald d_X_walk_102 (sh_42 g X) b7 ?_
          refine zs_icmp_ge 121 d_X_walk_103 (by decide) (fun c8 => ?_) (fun c8 => ?_)
          · replace h := h.1 c8
            refine zs_iinc2 2 (x3 + 1) [1, 2, 0, 3] [(0, .ref 35), (2, .int x2), (3, .int (x3 + 1)), (4, .int (M 38 (Int32.toNatClampNeg (((5 : Int32) * x2) + x3))))] d_X_walk_121 rfl rfl (by decide) rfl ?_
            refine zs_goto 37 d_X_walk_124 (by decide) ?_
            exact zRT_sub [0, 1, 2] rfl h
          · replace h := h.2 c8
            refine zs_aload_n 0 d_X_walk_106 rfl (List.mem_of_getElem? (i := 0) rfl) ?_
            refine zs_get d_X_walk_107 gf_X_35 (sh_35 g X) rfl ?_
            refine zs_iload d_X_walk_110 (List.mem_of_getElem? (i := 3) rfl) ?_
            refine zs_aload_n 0 d_X_walk_112 rfl (List.mem_of_getElem? (i := 0) rfl) ?_
            refine zs_get d_X_walk_113 gf_X_35 (sh_35 g X) rfl ?_
            refine zs_iload_n 2 d_X_walk_116 rfl (List.mem_of_getElem? (i := 1) rfl) ?_
            refine zs_iald d_X_walk_117 (sh_42 g X) b2 ?_
            refine zs_iconst 1 d_X_walk_118 (by decide) ?_
            refine zs_iadd d_X_walk_119 ?_
            refine zs_iast d_X_walk_120 (sh_42 g X) b7 ?_
            refine zs_iinc2 2 (x3 + 1) [1, 2, 0, 3] [(0, .ref 35), (2, .int x2), (3, .int (x3 + 1)), (4, .int (M 38 (Int32.toNatClampNeg (((5 : Int32) * x2) + x3))))] d_X_walk_121 rfl rfl (by decide) rfl ?_
            refine zs_goto 37 d_X_walk_124 (by decide) ?_
            exact zRT_sub [0, 1, 2] rfl h
      · replace h := h.2 c4
        refine zs_aload_n 0 d_X_walk_58 rfl (List.mem_of_getElem? (i := 0) rfl) ?_
        refine zs_get d_X_walk_59 gf_X_90 (sh_35 g X) rfl ?_
        refine zs_iconst 1 d_X_walk_62 (by decide) ?_
        refine zs_icmp_ne 79 d_X_walk_63 (by decide) (fun c9 => ?_) (fun c9 => ?_)
        · replace h := h.1 c9
          refine zs_bipush (-6) d_X_walk_79 (by decide) ?_
          refine zs_istore2 [1, 2, 3, 0] [(0, .ref 35), (2, .int x2), (3, .int x3), (4, .int (-6))] d_X_walk_81 (by decide) rfl ?_
          refine zs_iload d_X_walk_83 (List.mem_of_getElem? (i := 3) rfl) ?_
          refine zs_if_lt 121 d_X_walk_85 (by decide) (fun _ => ?_) (fun c => absurd c (by decide))
          refine zs_iinc2 2 (x3 + 1) [1, 2, 0, 3] [(0, .ref 35), (2, .int x2), (3, .int (x3 + 1)), (4, .int (-6))] d_X_walk_121 rfl rfl (by decide) rfl ?_
          refine zs_goto 37 d_X_walk_124 (by decide) ?_
          exact zRT_sub [0, 1, 2] rfl h
        · replace h := h.2 c9
          refine zs_aload_n 0 d_X_walk_66 rfl (List.mem_of_getElem? (i := 0) rfl) ?_
          refine zs_get d_X_walk_67 gf_X_23 (sh_35 g X) rfl ?_
          refine zs_iconst 5 d_X_walk_70 (by decide) ?_
          refine zs_iload_n 2 d_X_walk_71 rfl (List.mem_of_getElem? (i := 1) rfl) ?_
          refine zs_imul d_X_walk_72 ?_
          refine zs_iload_n 3 d_X_walk_73 rfl (List.mem_of_getElem? (i := 2) rfl) ?_
          refine zs_iadd d_X_walk_74 ?_
          obtain ⟨b10, h⟩ := h
          refine zs_iald d_X_walk_75 (sh_38 g X) b10 ?_
          refine zs_goto 81 d_X_walk_76 (by decide) ?_
          refine zs_istore2 [1, 2, 3, 0] [(0, .ref 35), (2, .int x2), (3, .int x3), (4, .int (M 38 (Int32.toNatClampNeg (((5 : Int32) * x2) + x3))))] d_X_walk_81 (by decide) rfl ?_
          refine zs_iload d_X_walk_83 (List.mem_of_getElem? (i := 3) rfl) ?_
          refine zs_if_lt 121 d_X_walk_85 (by decide) (fun c11 => ?_) (fun c11 => ?_)
          · replace h := h.1 c11
            refine zs_iinc2 2 (x3 + 1) [1, 2, 0, 3] [(0, .ref 35), (2, .int x2), (3, .int (x3 + 1)), (4, .int (M 38 (Int32.toNatClampNeg (((5 : Int32) * x2) + x3))))] d_X_walk_121 rfl rfl (by decide) rfl ?_
            refine zs_goto 37 d_X_walk_124 (by decide) ?_
            exact zRT_sub [0, 1, 2] rfl h
          · replace h := h.2 c11
            refine zs_aload_n 0 d_X_walk_88 rfl (List.mem_of_getElem? (i := 0) rfl) ?_
            refine zs_get d_X_walk_89 gf_X_35 (sh_35 g X) rfl ?_
            refine zs_iload_n 2 d_X_walk_92 rfl (List.mem_of_getElem? (i := 1) rfl) ?_
            refine zs_iald d_X_walk_93 (sh_42 g X) b2 ?_
            refine zs_iconst 1 d_X_walk_94 (by decide) ?_
            refine zs_iadd d_X_walk_95 ?_
            refine zs_aload_n 0 d_X_walk_96 rfl (List.mem_of_getElem? (i := 0) rfl) ?_
            refine zs_get d_X_walk_97 gf_X_35 (sh_35 g X) rfl ?_
            refine zs_iload d_X_walk_100 (List.mem_of_getElem? (i := 3) rfl) ?_
            obtain ⟨b12, h⟩ := h
            refine zs_iald d_X_walk_102 (sh_42 g X) b12 ?_
            refine zs_icmp_ge 121 d_X_walk_103 (by decide) (fun c13 => ?_) (fun c13 => ?_)
            · replace h := h.1 c13
              refine zs_iinc2 2 (x3 + 1) [1, 2, 0, 3] [(0, .ref 35), (2, .int x2), (3, .int (x3 + 1)), (4, .int (M 38 (Int32.toNatClampNeg (((5 : Int32) * x2) + x3))))] d_X_walk_121 rfl rfl (by decide) rfl ?_
              refine zs_goto 37 d_X_walk_124 (by decide) ?_
              exact zRT_sub [0, 1, 2] rfl h
            · replace h := h.2 c13
              refine zs_aload_n 0 d_X_walk_106 rfl (List.mem_of_getElem? (i := 0) rfl) ?_
              refine zs_get d_X_walk_107 gf_X_35 (sh_35 g X) rfl ?_
              refine zs_iload d_X_walk_110 (List.mem_of_getElem? (i := 3) rfl) ?_
              refine zs_aload_n 0 d_X_walk_112 rfl (List.mem_of_getElem? (i := 0) rfl) ?_
              refine zs_get d_X_walk_113 gf_X_35 (sh_35 g X) rfl ?_
              refine zs_iload_n 2 d_X_walk_116 rfl (List.mem_of_getElem? (i := 1) rfl) ?_
              refine zs_iald d_X_walk_117 (sh_42 g X) b2 ?_
              refine zs_iconst 1 d_X_walk_118 (by decide) ?_
              refine zs_iadd d_X_walk_119 ?_
              refine zs_iast d_X_walk_120 (sh_42 g X) b12 ?_
              refine zs_iinc2 2 (x3 + 1) [1, 2, 0, 3] [(0, .ref 35), (2, .int x2), (3, .int (x3 + 1)), (4, .int (M 38 (Int32.toNatClampNeg (((5 : Int32) * x2) + x3))))] d_X_walk_121 rfl rfl (by decide) rfl ?_
              refine zs_goto 37 d_X_walk_124 (by decide) ?_
              exact zRT_sub [0, 1, 2] rfl h
theorem ex_X_walk (x : Int32) (hh : mRw M x) : zEx m_X_walk 0 0 [.ref 35, .int x] (SHP g X) M (qV g X (mWk M (Int32.toNatClampNeg x))) := by
  refine zEx_of _ (by decide) (by simp [Value.category]) (Nat.le_of_ble_eq_true rfl) rfl (v_X_walk_0 g X M x _ ?_)
  obtain ⟨hx, hr⟩ := hh
  obtain ⟨f, hf, ex⟩ := vp_in_of hx (by decide)
  have hcl : Int32.toNatClampNeg x = f := by rw [ex]; exact nI_clamp (by omega)
  rw [hcl] at hr ⊢
  -- the loop over k
  have L3 : ∀ t, t ≤ f → ∀ (K : ∀ s, zRT m_X_walk 0 0 31 [(0, .ref 35), (2, .int (nI t + (-1)))] [] (SHP g X) (zmr M 42 s) (qV g X (zmr M 42 (mWT M t s)))) d k s, 1 ≤ k → k + d = 4 → zRT m_X_walk 0 0 37 [(0, .ref 35), (2, .int (nI t)), (3, .int (nI k))] [] (SHP g X) (zmr M 42 s) (qV g X (zmr M 42 (mWT M t (mW3 M t k d s)))) := by
    intro t ht K d
    induction d with
    | zero =>
      intro k s hk1 hk
      exact v_X_walk_37 g X _ _ _ _ ⟨fun _ => K s, fun h => absurd (nI_le (a := 4) (by omega) (by omega)) h⟩
    | succ d ih =>
      intro k s hk1 hk
      refine v_X_walk_37 g X _ _ _ _ ⟨fun h => absurd h (nI_ge (b := 4) (by omega) (by omega)), fun _ => ⟨vp_in_nI (by omega) (by decide), ?_⟩⟩
      have e42 : (zmr M 42 s) 42 = s := zmr_row M 42 s
      rw [nI_1, nI_5, nI_clamp (by omega), nI_clamp (by omega), e42]
      have e38 : (zmr M 42 s) 38 = M 38 := zmr_ne M 42 s 38 (by decide)
      have e35 : (zmr M 42 s) 35 = M 35 := zmr_ne M 42 s 35 (by decide)
      rw [e38, e35]
      refine ⟨fun h => ?_, fun h => ?_⟩
      · have := K s
        simp only [mW3, if_pos h]
        exact this
      · simp only [mW3, if_neg h]
        have go : ∀ s2, mW1 M t k s = s2 → zRT m_X_walk 0 0 37 [(0, .ref 35), (2, .int (nI t)), (3, .int (nI (k + 1)))] [] (SHP g X) (zmr M 42 s2) (qV g X (zmr M 42 (mWT M t (mW3 M t (k + 1) d (mW1 M t k s))))) := by
          intro s2 h2
          rw [h2]
          exact ih (k + 1) s2 (by omega) (by omega)
        have inner : (k < 3 ∨ M 35 1 = 1) → ((M 38 (5 * t + k) < 0 → zRT m_X_walk 0 0 37 [(0, .ref 35), (2, .int (nI t)), (3, .int (nI (k + 1)))] [] (SHP g X) (zmr M 42 s) (qV g X (zmr M 42 (mWT M t (mW3 M t (k + 1) d (mW1 M t k s)))))) ∧ (¬ M 38 (5 * t + k) < 0 → vp_in (M 38 (5 * t + k)) 10 ∧ ((s (Int32.toNatClampNeg (M 38 (5 * t + k))) ≤ s t + 1 → zRT m_X_walk 0 0 37 [(0, .ref 35), (2, .int (nI t)), (3, .int (nI (k + 1)))] [] (SHP g X) (zmr M 42 s) (qV g X (zmr M 42 (mWT M t (mW3 M t (k + 1) d (mW1 M t k s)))))) ∧ (¬ s (Int32.toNatClampNeg (M 38 (5 * t + k))) ≤ s t + 1 → zRT m_X_walk 0 0 37 [(0, .ref 35), (2, .int (nI t)), (3, .int (nI (k + 1)))] [] (SHP g X) (zms (zmr M 42 s) 42 (Int32.toNatClampNeg (M 38 (5 * t + k))) (s t + 1)) (qV g X (zmr M 42 (mWT M t (mW3 M t (k + 1) d (mW1 M t k s)))))))) ) := by
          intro hT
          refine ⟨fun h2 => go s (by unfold mW1; rw [if_neg (fun q => q.2.1 h2)]), fun h2 => ⟨(hr t ht k hk1 (by omega)).resolve_left h2, fun h3 => go s (by unfold mW1; rw [if_neg (fun q => q.2.2 h3)]), fun h3 => ?_⟩⟩
          rw [zms_zmr]
          exact go _ (by unfold mW1; rw [if_pos ⟨hT, h2, h3⟩])
        refine ⟨fun h3 => ⟨vp_in_nI (by omega) (by decide), ?_⟩, fun h3 => ⟨fun h4 => ?_, fun h4 => ⟨vp_in_nI (by omega) (by decide), ?_⟩⟩⟩
        · have h3' : k < 3 := (nI_ltI (b := 3) (by omega) (by decide)).mp h3
          exact inner (Or.inl h3')
        · have h3' : ¬ k < 3 := fun q => h3 ((nI_ltI (b := 3) (by omega) (by decide)).mpr q)
          exact go s (by unfold mW1; rw [if_neg (fun q => q.1.elim h3' h4)])
        · exact inner (Or.inr h4)
  have LT : ∀ t, t ≤ f + 1 → ∀ s, zRT m_X_walk 0 0 31 [(0, .ref 35), (2, .int (nI t + (-1)))] [] (SHP g X) (zmr M 42 s) (qV g X (zmr M 42 (mWT M t s))) := by
    intro t
    induction t with
    | zero =>
      intro _ s
      exact v_X_walk_31 g X _ _ _ ⟨fun _ => ⟨rfl, rfl, rfl⟩, fun h => absurd (by decide) h⟩
    | succ t ih =>
      intro ht s
      rw [pk_m1]
      refine v_X_walk_31 g X _ _ _ ⟨fun h => absurd h (nI_pos (by omega)), fun _ => ?_⟩
      exact L3 t (by omega) (fun s => ih (by omega) s) 3 1 s (by omega) rfl
  have L1 : ∀ d k, k + d = 10 → zRT m_X_walk 0 0 2 [(0, .ref 35), (1, .int x), (2, .int (nI k))] [] (SHP g X) (zmr M 42 (fun j => if j < k then 1000000 else M 42 j)) (qV g X (mWk M f)) := by
    intro d
    induction d with
    | zero =>
      intro k hk
      have e : k = 10 := by omega
      subst e
      refine v_X_walk_2 g X _ _ _ _ ⟨fun _ => ⟨hx, ?_⟩, fun h => absurd (nI_le (a := 10) (by omega) (by omega)) h⟩
      rw [hcl, zms_zmr]
      have h1 := LT (f + 1) (by omega) (mWi M f)
      rw [pk_m1, ← ex] at h1
      exact h1
    | succ d ih =>
      intro k hk
      refine v_X_walk_2 g X _ _ _ _ ⟨fun h => absurd h (nI_ge (b := 10) (by omega) (by omega)), fun _ => ⟨vp_in_nI (by omega) (by decide), ?_⟩⟩
      rw [nI_1, nI_clamp (by omega), zms_zmr]
      have e : upd (fun j => if j < k then (1000000 : Int32) else M 42 j) k 1000000 = (fun j => if j < k + 1 then 1000000 else M 42 j) := by
        funext j
        show (if j = k then (1000000 : Int32) else if j < k then 1000000 else M 42 j) = if j < k + 1 then 1000000 else M 42 j
        by_cases h1 : j = k
        · rw [if_pos h1, if_pos (by omega)]
        · by_cases h2 : j < k
          · rw [if_neg h1, if_pos h2, if_pos (by omega)]
          · rw [if_neg h1, if_neg h2, if_neg (by omega)]
      rw [e]
      exact ih (k + 1) (by omega)
  have e0 : zmr M 42 (fun j => if j < 0 then 1000000 else M 42 j) = M := by
    have : (fun j => if j < 0 then (1000000 : Int32) else M 42 j) = M 42 := by funext j; simp
    rw [this, zmr_self]
  have h0 := L1 10 0 rfl
  rw [e0] at h0
  exact h0
theorem v_X_touchers_0 (g : Nat → Option Nat) (X : List zShp) (M : zMem) (x1 : Int32) (R : zEnd) (h : (mRw M x1) ∧ (zRT m_X_touchers 0 0 9 [(0, .ref 35), (1, .int x1), (2, .int 0), (3, .int 0)] [] (SHP g X) (mWk M (Int32.toNatClampNeg x1)) R)) : zRT m_X_touchers 0 0 0 [(0, .ref 35), (1, .int x1)] [] (SHP g X) M R := by
  refine zs_aload_n 0 d_X_touchers_0 rfl (List.mem_of_getElem? (i := 0) rfl) ?_
  refine zs_iload_n 1 d_X_touchers_1 rfl (List.mem_of_getElem? (i := 1) rfl) ?_
  obtain ⟨p1, h⟩ := h
  refine zs_callV (kc := 0) (ks := 0) (kc1 := 0) (ks1 := 0) (st := []) [.int x1] d_X_touchers_2 lk_X_94 ⟨by decide, by decide⟩ rfl (sh_35 g X) rfl (Nat.le_of_ble_eq_true rfl) (ex_X_walk g X M x1 p1) (fun v1 sh1 M1 hR => ?_)
  obtain ⟨rfl, rfl, rfl⟩ := hR
  refine zs_iconst 0 d_X_touchers_5 (by decide) ?_
  refine zs_istore_n2 2 [1, 2, 0] [(0, .ref 35), (1, .int x1), (2, .int 0)] d_X_touchers_6 rfl (by decide) rfl ?_
  refine zs_iconst 0 d_X_touchers_7 (by decide) ?_
  refine zs_istore_n2 3 [1, 2, 3, 0] [(0, .ref 35), (1, .int x1), (2, .int 0), (3, .int 0)] d_X_touchers_8 rfl (by decide) rfl ?_
  exact h
theorem v_X_touchers_9 (g : Nat → Option Nat) (X : List zShp) (M : zMem) (x1 x2 x3 : Int32) (R : zEnd) (h : ((x1 < x3) → (R (some (.int x2)) (SHP g X) M)) ∧ ((¬ x1 < x3) → ((vp_in x3 10) ∧ ((((M 35 0) < (M 42 (Int32.toNatClampNeg x3))) → (zRT m_X_touchers 0 0 9 [(0, .ref 35), (1, .int x1), (2, .int (x2 ||| 0)), (3, .int (x3 + 1))] [] (SHP g X) M R)) ∧ ((¬ (M 35 0) < (M 42 (Int32.toNatClampNeg x3))) → (zRT m_X_touchers 0 0 9 [(0, .ref 35), (1, .int x1), (2, .int (x2 ||| (M 41 (Int32.toNatClampNeg x3)))), (3, .int (x3 + 1))] [] (SHP g X) M R)))))) : zRT m_X_touchers 0 0 9 [(0, .ref 35), (1, .int x1), (2, .int x2), (3, .int x3)] [] (SHP g X) M R := by
  refine zs_iload_n 3 d_X_touchers_9 rfl (List.mem_of_getElem? (i := 3) rfl) ?_
  refine zs_iload_n 1 d_X_touchers_10 rfl (List.mem_of_getElem? (i := 1) rfl) ?_
  refine zs_icmp_gt 46 d_X_touchers_11 (by decide) (fun c1 => ?_) (fun c1 => ?_)
  · replace h := h.1 c1
    refine zs_iload_n 2 d_X_touchers_46 rfl (List.mem_of_getElem? (i := 2) rfl) ?_
    exact zs_iret d_X_touchers_47 rfl h
  · replace h := h.2 c1
    refine zs_iload_n 2 d_X_touchers_14 rfl (List.mem_of_getElem? (i := 2) rfl) ?_
    refine zs_aload_n 0 d_X_touchers_15 rfl (List.mem_of_getElem? (i := 0) rfl) ?_
    refine zs_get d_X_touchers_16 gf_X_35 (sh_35 g X) rfl ?_
    refine zs_iload_n 3 d_X_touchers_19 rfl (List.mem_of_getElem? (i := 3) rfl) ?_
    obtain ⟨b2, h⟩ := h
    refine zs_iald d_X_touchers_20 (sh_42 g X) b2 ?_
    refine zs_aload_n 0 d_X_touchers_21 rfl (List.mem_of_getElem? (i := 0) rfl) ?_
    refine zs_get d_X_touchers_22 gf_X_7 (sh_35 g X) rfl ?_
    refine zs_icmp_gt 37 d_X_touchers_25 (by decide) (fun c3 => ?_) (fun c3 => ?_)
    · replace h := h.1 c3
      refine zs_iconst 0 d_X_touchers_37 (by decide) ?_
      refine zs_ior d_X_touchers_38 ?_
      refine zs_istore_n2 2 [1, 2, 0, 3] [(0, .ref 35), (1, .int x1), (2, .int (x2 ||| 0)), (3, .int x3)] d_X_touchers_39 rfl (by decide) rfl ?_
      refine zs_iinc2 3 (x3 + 1) [1, 2, 3, 0] [(0, .ref 35), (1, .int x1), (2, .int (x2 ||| 0)), (3, .int (x3 + 1))] d_X_touchers_40 rfl rfl (by decide) rfl ?_
      refine zs_goto 9 d_X_touchers_43 (by decide) ?_
      exact h
    · replace h := h.2 c3
      refine zs_aload_n 0 d_X_touchers_28 rfl (List.mem_of_getElem? (i := 0) rfl) ?_
      refine zs_get d_X_touchers_29 gf_X_32 (sh_35 g X) rfl ?_
      refine zs_iload_n 3 d_X_touchers_32 rfl (List.mem_of_getElem? (i := 3) rfl) ?_
      refine zs_iald d_X_touchers_33 (sh_41 g X) b2 ?_
      refine zs_goto 38 d_X_touchers_34 (by decide) ?_
      refine zs_ior d_X_touchers_38 ?_
      refine zs_istore_n2 2 [1, 2, 0, 3] [(0, .ref 35), (1, .int x1), (2, .int (x2 ||| (M 41 (Int32.toNatClampNeg x3)))), (3, .int x3)] d_X_touchers_39 rfl (by decide) rfl ?_
      refine zs_iinc2 3 (x3 + 1) [1, 2, 3, 0] [(0, .ref 35), (1, .int x1), (2, .int (x2 ||| (M 41 (Int32.toNatClampNeg x3)))), (3, .int (x3 + 1))] d_X_touchers_40 rfl rfl (by decide) rfl ?_
      refine zs_goto 9 d_X_touchers_43 (by decide) ?_
      exact h
theorem ex_X_touchers (x : Int32) (hh : mRw M x) : zEx m_X_touchers 0 0 [.ref 35, .int x] (SHP g X) M (qF g X (mTc M x) (mWk M (Int32.toNatClampNeg x))) := by
  refine zEx_of _ (by decide) (by simp [Value.category]) (Nat.le_of_ble_eq_true rfl) rfl (v_X_touchers_0 g X M x _ ⟨hh, ?_⟩)
  obtain ⟨f, hf, ex⟩ := vp_in_of hh.1 (by decide)
  have hcl : Int32.toNatClampNeg x = f := by rw [ex]; exact nI_clamp (by omega)
  have L : ∀ d k, k + d = f + 1 → zRT m_X_touchers 0 0 9 [(0, .ref 35), (1, .int x), (2, .int (kOr (fun t => if M 35 0 < (mWk M (Int32.toNatClampNeg x)) 42 t then 0 else M 41 t) k)), (3, .int (nI k))] [] (SHP g X) (mWk M (Int32.toNatClampNeg x)) (qF g X (mTc M x) (mWk M (Int32.toNatClampNeg x))) := by
    intro d
    induction d with
    | zero =>
      intro k hk
      have e : k = f + 1 := by omega
      subst e
      refine v_X_touchers_9 g X _ _ _ _ _ ⟨fun _ => qF_i (by unfold mTc; rw [hcl]) rfl, fun h => absurd (by rw [ex]; exact nI_lt (by omega) (by omega)) h⟩
    | succ d ih =>
      intro k hk
      have ih := ih (k + 1) (by omega)
      refine v_X_touchers_9 g X _ _ _ _ _ ⟨fun h => absurd h (by rw [ex]; exact nI_nlt (by omega) (by omega)), fun _ => ⟨vp_in_nI (by omega) (by decide), ?_⟩⟩
      rw [nI_1, nI_clamp (by omega)]
      have e35 : (mWk M (Int32.toNatClampNeg x)) 35 = M 35 := zmr_ne M 42 _ 35 (by decide)
      have e41 : (mWk M (Int32.toNatClampNeg x)) 41 = M 41 := zmr_ne M 42 _ 41 (by decide)
      rw [e35, e41]
      refine ⟨fun h => ?_, fun h => ?_⟩
      · simpa only [kOr, if_pos h] using ih
      · simpa only [kOr, if_neg h] using ih
  exact L (f + 1) 0 (by omega)
theorem v_X_withPartners_0 (g : Nat → Option Nat) (X : List zShp) (M : zMem) (x1 : Int32) (R : zEnd) (h : zRT m_X_withPartners 0 0 4 [(0, .ref 35), (1, .int x1), (2, .int x1), (3, .int 0)] [] (SHP g X) M R) : zRT m_X_withPartners 0 0 0 [(0, .ref 35), (1, .int x1)] [] (SHP g X) M R := by
  refine zs_iload_n 1 d_X_withPartners_0 rfl (List.mem_of_getElem? (i := 1) rfl) ?_
  refine zs_istore_n2 2 [1, 2, 0] [(0, .ref 35), (1, .int x1), (2, .int x1)] d_X_withPartners_1 rfl (by decide) rfl ?_
  refine zs_iconst 0 d_X_withPartners_2 (by decide) ?_
  refine zs_istore_n2 3 [1, 2, 3, 0] [(0, .ref 35), (1, .int x1), (2, .int x1), (3, .int 0)] d_X_withPartners_3 rfl (by decide) rfl ?_
  exact h
theorem v_X_withPartners_4 (g : Nat → Option Nat) (X : List zShp) (M : zMem) (x1 x2 x3 : Int32) (R : zEnd) (h : ((6 ≤ x3) → (R (some (.int x2)) (SHP g X) M)) ∧ ((¬ 6 ≤ x3) → ((((hb x1 x3) = false) → (zRT m_X_withPartners 0 0 4 [(0, .ref 35), (1, .int x1), (2, .int (x2 ||| 0)), (3, .int (x3 + 1))] [] (SHP g X) M R)) ∧ (((hb x1 x3) = true) → ((vp_in x3 6) ∧ ((((M 36 (Int32.toNatClampNeg x3)) < 0) → (zRT m_X_withPartners 0 0 4 [(0, .ref 35), (1, .int x1), (2, .int (x2 ||| 0)), (3, .int (x3 + 1))] [] (SHP g X) M R)) ∧ ((¬ (M 36 (Int32.toNatClampNeg x3)) < 0) → (zRT m_X_withPartners 0 0 4 [(0, .ref 35), (1, .int x1), (2, .int (x2 ||| ((1 : Int32) <<< ((M 36 (Int32.toNatClampNeg x3)) &&& 31)))), (3, .int (x3 + 1))] [] (SHP g X) M R)))))))) : zRT m_X_withPartners 0 0 4 [(0, .ref 35), (1, .int x1), (2, .int x2), (3, .int x3)] [] (SHP g X) M R := by
  refine zs_iload_n 3 d_X_withPartners_4 rfl (List.mem_of_getElem? (i := 3) rfl) ?_
  refine zs_bipush 6 d_X_withPartners_5 (by decide) ?_
  refine zs_icmp_ge 48 d_X_withPartners_7 (by decide) (fun c1 => ?_) (fun c1 => ?_)
  · replace h := h.1 c1
    refine zs_iload_n 2 d_X_withPartners_48 rfl (List.mem_of_getElem? (i := 2) rfl) ?_
    exact zs_iret d_X_withPartners_49 rfl h
  · replace h := h.2 c1
    refine zs_iload_n 2 d_X_withPartners_10 rfl (List.mem_of_getElem? (i := 2) rfl) ?_
    refine zs_iload_n 1 d_X_withPartners_11 rfl (List.mem_of_getElem? (i := 1) rfl) ?_
    refine zs_iload_n 3 d_X_withPartners_12 rfl (List.mem_of_getElem? (i := 3) rfl) ?_
    refine zs_callS (kc := 0) (ks := 0) (kc1 := 0) (ks1 := 0) (st := [.int x2]) [.int x1, .int x3] d_X_withPartners_13 lk_X_98 ⟨by decide, by decide⟩ rfl (Nat.le_of_ble_eq_true rfl) (ex_X_has g X M x1 x3) (fun v2 sh2 M2 hR => ?_)
    obtain ⟨rfl, rfl, rfl⟩ := hR
    refine zs_if_eq 39 d_X_withPartners_16 (by decide) (fun c3 => ?_) (fun c3 => ?_)
    · replace h := h.1 (bI_0 c3)
      refine zs_iconst 0 d_X_withPartners_39 (by decide) ?_
      refine zs_ior d_X_withPartners_40 ?_
      refine zs_istore_n2 2 [1, 2, 0, 3] [(0, .ref 35), (1, .int x1), (2, .int (x2 ||| 0)), (3, .int x3)] d_X_withPartners_41 rfl (by decide) rfl ?_
      refine zs_iinc2 3 (x3 + 1) [1, 2, 3, 0] [(0, .ref 35), (1, .int x1), (2, .int (x2 ||| 0)), (3, .int (x3 + 1))] d_X_withPartners_42 rfl rfl (by decide) rfl ?_
      refine zs_goto 4 d_X_withPartners_45 (by decide) ?_
      exact h
    · replace h := h.2 (bI_1 c3)
      refine zs_aload_n 0 d_X_withPartners_19 rfl (List.mem_of_getElem? (i := 0) rfl) ?_
      refine zs_get d_X_withPartners_20 gf_X_16 (sh_35 g X) rfl ?_
      refine zs_iload_n 3 d_X_withPartners_23 rfl (List.mem_of_getElem? (i := 3) rfl) ?_
      obtain ⟨b4, h⟩ := h
      refine zs_iald d_X_withPartners_24 (sh_36 g X) b4 ?_
      refine zs_if_lt 39 d_X_withPartners_25 (by decide) (fun c5 => ?_) (fun c5 => ?_)
      · replace h := h.1 c5
        refine zs_iconst 0 d_X_withPartners_39 (by decide) ?_
        refine zs_ior d_X_withPartners_40 ?_
        refine zs_istore_n2 2 [1, 2, 0, 3] [(0, .ref 35), (1, .int x1), (2, .int (x2 ||| 0)), (3, .int x3)] d_X_withPartners_41 rfl (by decide) rfl ?_
        refine zs_iinc2 3 (x3 + 1) [1, 2, 3, 0] [(0, .ref 35), (1, .int x1), (2, .int (x2 ||| 0)), (3, .int (x3 + 1))] d_X_withPartners_42 rfl rfl (by decide) rfl ?_
        refine zs_goto 4 d_X_withPartners_45 (by decide) ?_
        exact h
      · replace h := h.2 c5
        refine zs_iconst 1 d_X_withPartners_28 (by decide) ?_
        refine zs_aload_n 0 d_X_withPartners_29 rfl (List.mem_of_getElem? (i := 0) rfl) ?_
        refine zs_get d_X_withPartners_30 gf_X_16 (sh_35 g X) rfl ?_
        refine zs_iload_n 3 d_X_withPartners_33 rfl (List.mem_of_getElem? (i := 3) rfl) ?_
        refine zs_iald d_X_withPartners_34 (sh_36 g X) b4 ?_
        refine zs_ishl d_X_withPartners_35 ?_
        refine zs_goto 40 d_X_withPartners_36 (by decide) ?_
        refine zs_ior d_X_withPartners_40 ?_
        refine zs_istore_n2 2 [1, 2, 0, 3] [(0, .ref 35), (1, .int x1), (2, .int (x2 ||| ((1 : Int32) <<< ((M 36 (Int32.toNatClampNeg x3)) &&& 31)))), (3, .int x3)] d_X_withPartners_41 rfl (by decide) rfl ?_
        refine zs_iinc2 3 (x3 + 1) [1, 2, 3, 0] [(0, .ref 35), (1, .int x1), (2, .int (x2 ||| ((1 : Int32) <<< ((M 36 (Int32.toNatClampNeg x3)) &&& 31)))), (3, .int (x3 + 1))] d_X_withPartners_42 rfl rfl (by decide) rfl ?_
        refine zs_goto 4 d_X_withPartners_45 (by decide) ?_
        exact h
theorem ex_X_withPartners (b : Int32) : zEx m_X_withPartners 0 0 [.ref 35, .int b] (SHP g X) M (qF g X (mWP M b) M) := by
  refine zEx_of _ (by decide) (by simp [Value.category]) (Nat.le_of_ble_eq_true rfl) rfl (v_X_withPartners_0 g X M b _ ?_)
  have L : ∀ d k, k + d = 6 → zRT m_X_withPartners 0 0 4 [(0, .ref 35), (1, .int b), (2, .int (mWPn M b k)), (3, .int (nI k))] [] (SHP g X) M (qF g X (mWP M b) M) := by
    intro d
    induction d with
    | zero =>
      intro k hk
      have e : k = 6 := by omega
      subst e
      exact v_X_withPartners_4 g X _ _ _ _ _ ⟨fun _ => qF_i rfl rfl, fun h => absurd (nI_le (a := 6) (by omega) (by omega)) h⟩
    | succ d ih =>
      intro k hk
      have ih := ih (k + 1) (by omega)
      refine v_X_withPartners_4 g X _ _ _ _ _ ⟨fun h => absurd h (nI_ge (b := 6) (by omega) (by omega)), fun _ => ?_⟩
      rw [nI_1, nI_clamp (by omega)]
      refine ⟨fun h => ?_, fun h => ⟨vp_in_nI (by omega) (by decide), fun h2 => ?_, fun h2 => ?_⟩⟩
      · simpa only [mWPn, h, Bool.false_eq_true, if_false] using ih
      · simpa only [mWPn, h, if_true, if_pos h2] using ih
      · simpa only [mWPn, h, if_true, if_neg h2] using ih
  exact L 6 0 rfl
theorem v_X_barredFrom_0 (g : Nat → Option Nat) (X : List zShp) (M : zMem) (x1 : Int32) (R : zEnd) (h : (mRw M x1) ∧ (R (some (.int (mWP (mWk M (Int32.toNatClampNeg x1)) (mTc M x1)))) (SHP g X) (mWk M (Int32.toNatClampNeg x1)))) : zRT m_X_barredFrom 0 0 0 [(0, .ref 35), (1, .int x1)] [] (SHP g X) M R := by
  refine zs_aload_n 0 d_X_barredFrom_0 rfl (List.mem_of_getElem? (i := 0) rfl) ?_
  refine zs_aload_n 0 d_X_barredFrom_1 rfl (List.mem_of_getElem? (i := 0) rfl) ?_
  refine zs_iload_n 1 d_X_barredFrom_2 rfl (List.mem_of_getElem? (i := 1) rfl) ?_
  obtain ⟨p1, h⟩ := h
  refine zs_callV (kc := 0) (ks := 0) (kc1 := 0) (ks1 := 0) (st := [.ref 35]) [.int x1] d_X_barredFrom_3 lk_X_102 ⟨by decide, by decide⟩ rfl (sh_35 g X) rfl (Nat.le_of_ble_eq_true rfl) (ex_X_touchers g X M x1 p1) (fun v1 sh1 M1 hR => ?_)
  obtain ⟨rfl, rfl, rfl⟩ := hR
  refine zs_callV (kc := 0) (ks := 0) (kc1 := 0) (ks1 := 0) (st := []) [.int (mTc M x1)] d_X_barredFrom_6 lk_X_106 ⟨by decide, by decide⟩ rfl (sh_35 g X) rfl (Nat.le_of_ble_eq_true rfl) (ex_X_withPartners g X (mWk M (Int32.toNatClampNeg x1)) (mTc M x1)) (fun v2 sh2 M2 hR => ?_)
  obtain ⟨rfl, rfl, rfl⟩ := hR
  exact zs_iret d_X_barredFrom_9 rfl h
theorem ex_X_barredFrom (x : Int32) (hh : mRw M x) : zEx m_X_barredFrom 0 0 [.ref 35, .int x] (SHP g X) M (qF g X (mWP M (mTc M x)) (mWk M (Int32.toNatClampNeg x))) := by
  refine zEx_of _ (by decide) (by simp [Value.category]) (Nat.le_of_ble_eq_true rfl) rfl (v_X_barredFrom_0 g X M x _ ⟨hh, qF_i ?_ rfl⟩)
  have e : ∀ b n, mWPn (mWk M (Int32.toNatClampNeg x)) b n = mWPn M b n := by
    intro b n
    induction n with
    | zero => rfl
    | succ n ih => simp only [mWPn, ih]; rfl
  exact (e _ 6).symm
theorem v_X_nearTo_0 (g : Nat → Option Nat) (X : List zShp) (M : zMem) (x1 x2 : Int32) (R : zEnd) (h : (mRw M x1) ∧ (zRT m_X_nearTo 0 0 11 [(0, .ref 35), (1, .int x1), (2, .int x2), (3, .int 1000000), (4, .int 0)] [] (SHP g X) (mWk M (Int32.toNatClampNeg x1)) R)) : zRT m_X_nearTo 0 0 0 [(0, .ref 35), (1, .int x1), (2, .int x2)] [] (SHP g X) M R := by
  refine zs_aload_n 0 d_X_nearTo_0 rfl (List.mem_of_getElem? (i := 0) rfl) ?_
  refine zs_iload_n 1 d_X_nearTo_1 rfl (List.mem_of_getElem? (i := 1) rfl) ?_
  obtain ⟨p1, h⟩ := h
  refine zs_callV (kc := 0) (ks := 0) (kc1 := 0) (ks1 := 0) (st := []) [.int x1] d_X_nearTo_2 lk_X_94 ⟨by decide, by decide⟩ rfl (sh_35 g X) rfl (Nat.le_of_ble_eq_true rfl) (ex_X_walk g X M x1 p1) (fun v1 sh1 M1 hR => ?_)
  obtain ⟨rfl, rfl, rfl⟩ := hR
  refine zs_ldc (v := 1000000) d_X_nearTo_5 (by decide +kernel) ?_
  refine zs_istore_n2 3 [1, 2, 3, 0] [(0, .ref 35), (1, .int x1), (2, .int x2), (3, .int 1000000)] d_X_nearTo_7 rfl (by decide) rfl ?_
  refine zs_iconst 0 d_X_nearTo_8 (by decide) ?_
  refine zs_istore2 [1, 2, 3, 4, 0] [(0, .ref 35), (1, .int x1), (2, .int x2), (3, .int 1000000), (4, .int 0)] d_X_nearTo_9 (by decide) rfl ?_
  exact h
theorem v_X_nearTo_11 (g : Nat → Option Nat) (X : List zShp) (M : zMem) (x1 x2 x3 x4 : Int32) (R : zEnd) (h : ((x1 < x4) → (R (some (.int x3)) (SHP g X) M)) ∧ ((¬ x1 < x4) → ((vp_in ((5 : Int32) * x4) 50) ∧ ((((hb (M 38 (Int32.toNatClampNeg ((5 : Int32) * x4))) x2) = false) → (zRT m_X_nearTo 0 0 11 [(0, .ref 35), (1, .int x1), (2, .int x2), (3, .int x3), (4, .int (x4 + 1))] [] (SHP g X) M R)) ∧ (((hb (M 38 (Int32.toNatClampNeg ((5 : Int32) * x4))) x2) = true) → ((vp_in x4 10) ∧ (((x3 ≤ (M 42 (Int32.toNatClampNeg x4))) → (zRT m_X_nearTo 0 0 11 [(0, .ref 35), (1, .int x1), (2, .int x2), (3, .int x3), (4, .int (x4 + 1))] [] (SHP g X) M R)) ∧ ((¬ x3 ≤ (M 42 (Int32.toNatClampNeg x4))) → (zRT m_X_nearTo 0 0 11 [(0, .ref 35), (1, .int x1), (2, .int x2), (3, .int (M 42 (Int32.toNatClampNeg x4))), (4, .int (x4 + 1))] [] (SHP g X) M R))))))))) : zRT m_X_nearTo 0 0 11 [(0, .ref 35), (1, .int x1), (2, .int x2), (3, .int x3), (4, .int x4)] [] (SHP g X) M R := by
  refine zs_iload d_X_nearTo_11 (List.mem_of_getElem? (i := 4) rfl) ?_
  refine zs_iload_n 1 d_X_nearTo_13 rfl (List.mem_of_getElem? (i := 1) rfl) ?_
  refine zs_icmp_gt 62 d_X_nearTo_14 (by decide) (fun c1 => ?_) (fun c1 => ?_)
  · replace h := h.1 c1
    refine zs_iload_n 3 d_X_nearTo_62 rfl (List.mem_of_getElem? (i := 3) rfl) ?_
    exact zs_iret d_X_nearTo_63 rfl h
  · replace h := h.2 c1
    refine zs_aload_n 0 d_X_nearTo_17 rfl (List.mem_of_getElem? (i := 0) rfl) ?_
    refine zs_get d_X_nearTo_18 gf_X_23 (sh_35 g X) rfl ?_
    refine zs_iconst 5 d_X_nearTo_21 (by decide) ?_
    refine zs_iload d_X_nearTo_22 (List.mem_of_getElem? (i := 4) rfl) ?_
    refine zs_imul d_X_nearTo_24 ?_
    obtain ⟨b2, h⟩ := h
    refine zs_iald d_X_nearTo_25 (sh_38 g X) b2 ?_
    refine zs_iload_n 2 d_X_nearTo_26 rfl (List.mem_of_getElem? (i := 2) rfl) ?_
    refine zs_callS (kc := 0) (ks := 0) (kc1 := 0) (ks1 := 0) (st := []) [.int (M 38 (Int32.toNatClampNeg ((5 : Int32) * x4))), .int x2] d_X_nearTo_27 lk_X_98 ⟨by decide, by decide⟩ rfl (Nat.le_of_ble_eq_true rfl) (ex_X_has g X M (M 38 (Int32.toNatClampNeg ((5 : Int32) * x4))) x2) (fun v3 sh3 M3 hR => ?_)
    obtain ⟨rfl, rfl, rfl⟩ := hR
    refine zs_if_eq 54 d_X_nearTo_30 (by decide) (fun c4 => ?_) (fun c4 => ?_)
    · replace h := h.1 (bI_0 c4)
      refine zs_iload_n 3 d_X_nearTo_54 rfl (List.mem_of_getElem? (i := 3) rfl) ?_
      refine zs_istore_n2 3 [1, 2, 3, 0, 4] [(0, .ref 35), (1, .int x1), (2, .int x2), (3, .int x3), (4, .int x4)] d_X_nearTo_55 rfl (by decide) rfl ?_
      refine zs_iinc2 4 (x4 + 1) [1, 2, 3, 4, 0] [(0, .ref 35), (1, .int x1), (2, .int x2), (3, .int x3), (4, .int (x4 + 1))] d_X_nearTo_56 rfl rfl (by decide) rfl ?_
      refine zs_goto 11 d_X_nearTo_59 (by decide) ?_
      exact h
    · replace h := h.2 (bI_1 c4)
      refine zs_aload_n 0 d_X_nearTo_33 rfl (List.mem_of_getElem? (i := 0) rfl) ?_
      refine zs_get d_X_nearTo_34 gf_X_35 (sh_35 g X) rfl ?_
      refine zs_iload d_X_nearTo_37 (List.mem_of_getElem? (i := 4) rfl) ?_
      obtain ⟨b5, h⟩ := h
      refine zs_iald d_X_nearTo_39 (sh_42 g X) b5 ?_
      refine zs_iload_n 3 d_X_nearTo_40 rfl (List.mem_of_getElem? (i := 3) rfl) ?_
      refine zs_icmp_ge 54 d_X_nearTo_41 (by decide) (fun c6 => ?_) (fun c6 => ?_)
      · replace h := h.1 c6
        refine zs_iload_n 3 d_X_nearTo_54 rfl (List.mem_of_getElem? (i := 3) rfl) ?_
        refine zs_istore_n2 3 [1, 2, 3, 0, 4] [(0, .ref 35), (1, .int x1), (2, .int x2), (3, .int x3), (4, .int x4)] d_X_nearTo_55 rfl (by decide) rfl ?_
        refine zs_iinc2 4 (x4 + 1) [1, 2, 3, 4, 0] [(0, .ref 35), (1, .int x1), (2, .int x2), (3, .int x3), (4, .int (x4 + 1))] d_X_nearTo_56 rfl rfl (by decide) rfl ?_
        refine zs_goto 11 d_X_nearTo_59 (by decide) ?_
        exact h
      · replace h := h.2 c6
        refine zs_aload_n 0 d_X_nearTo_44 rfl (List.mem_of_getElem? (i := 0) rfl) ?_
        refine zs_get d_X_nearTo_45 gf_X_35 (sh_35 g X) rfl ?_
        refine zs_iload d_X_nearTo_48 (List.mem_of_getElem? (i := 4) rfl) ?_
        refine zs_iald d_X_nearTo_50 (sh_42 g X) b5 ?_
        refine zs_goto 55 d_X_nearTo_51 (by decide) ?_
        refine zs_istore_n2 3 [1, 2, 3, 0, 4] [(0, .ref 35), (1, .int x1), (2, .int x2), (3, .int (M 42 (Int32.toNatClampNeg x4))), (4, .int x4)] d_X_nearTo_55 rfl (by decide) rfl ?_
        refine zs_iinc2 4 (x4 + 1) [1, 2, 3, 4, 0] [(0, .ref 35), (1, .int x1), (2, .int x2), (3, .int (M 42 (Int32.toNatClampNeg x4))), (4, .int (x4 + 1))] d_X_nearTo_56 rfl rfl (by decide) rfl ?_
        refine zs_goto 11 d_X_nearTo_59 (by decide) ?_
        exact h
theorem ex_X_nearTo (x m : Int32) (hh : mRw M x) : zEx m_X_nearTo 0 0 [.ref 35, .int x, .int m] (SHP g X) M (qF g X (mNr M x m) (mWk M (Int32.toNatClampNeg x))) := by
  refine zEx_of _ (by decide) (by simp [Value.category]) (Nat.le_of_ble_eq_true rfl) rfl (v_X_nearTo_0 g X M x m _ ⟨hh, ?_⟩)
  obtain ⟨f, hf, ex⟩ := vp_in_of hh.1 (by decide)
  have hcl : Int32.toNatClampNeg x = f := by rw [ex]; exact nI_clamp (by omega)
  have L : ∀ d k, k + d = f + 1 → zRT m_X_nearTo 0 0 11 [(0, .ref 35), (1, .int x), (2, .int m), (3, .int (mNrn M ((mWk M (Int32.toNatClampNeg x)) 42) m k)), (4, .int (nI k))] [] (SHP g X) (mWk M (Int32.toNatClampNeg x)) (qF g X (mNr M x m) (mWk M (Int32.toNatClampNeg x))) := by
    intro d
    induction d with
    | zero =>
      intro k hk
      have e : k = f + 1 := by omega
      subst e
      refine v_X_nearTo_11 g X _ _ _ _ _ _ ⟨fun _ => qF_i (by unfold mNr; rw [hcl]) rfl, fun h => absurd (by rw [ex]; exact nI_lt (by omega) (by omega)) h⟩
    | succ d ih =>
      intro k hk
      have ih := ih (k + 1) (by omega)
      refine v_X_nearTo_11 g X _ _ _ _ _ _ ⟨fun h => absurd h (by rw [ex]; exact nI_nlt (by omega) (by omega)), fun _ => ?_⟩
      rw [nI_1, nI_50, nI_clamp (by omega), nI_clamp (by omega)]
      have e38 : (mWk M (Int32.toNatClampNeg x)) 38 = M 38 := zmr_ne M 42 _ 38 (by decide)
      rw [e38]
      refine ⟨vp_in_nI (by omega) (by decide), fun h => ?_, fun h => ⟨vp_in_nI (by omega) (by decide), fun h2 => ?_, fun h2 => ?_⟩⟩
      · simpa only [mNrn, h, Bool.false_eq_true, if_false] using ih
      · simpa only [mNrn, h, if_true, if_pos h2] using ih
      · simpa only [mNrn, h, if_true, if_neg h2] using ih
  exact L (f + 1) 0 (by omega)
end zX3
