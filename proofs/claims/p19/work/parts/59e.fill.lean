/-! all ways to fill: the reference -/
def dg (A a c : Nat) : Nat := c / 6 ^ (A - 1 - a) % 6
theorem dg_6 (A a c : Nat) : dg A a c < 6 := Nat.mod_lt _ (by decide)
theorem dg_s {A a c : Nat} (h : a < A) : dg (A + 1) a c = dg A a (c / 6) := by
  unfold dg
  rw [show A + 1 - 1 - a = (A - 1 - a) + 1 by omega, Nat.pow_succ, Nat.mul_comm, Nat.div_div_eq_div_mul]
theorem dg_l (A c : Nat) : dg (A + 1) A c = c % 6 := by
  unfold dg
  rw [show A + 1 - 1 - A = 0 by omega, Nat.pow_zero, Nat.div_one]
def fGood (F : zTS) (code : Nat) : Prop := fTold F (sN F) ∧ ∀ t, t < tN F → fR F (5 * t + 4) = 1 → fAllow F (sN F) t (dg (kAsN (fR F) (tN F)) (kAsN (fR F) t) code)
def fHand (F : zTS) (code t : Nat) : Int32 := if fR F (5 * t + 4) = 1 then fR F (5 * t) ||| ((1 : Int32) <<< (nI (dg (kAsN (fR F) (tN F)) (kAsN (fR F) t) code) &&& 31)) else fR F (5 * t)
theorem fHand_bt {F : zTS} {code t i : Nat} : bt (fHand F code t) i = true ↔ (bt (fR F (5 * t)) i = true ∨ (fR F (5 * t + 4) = 1 ∧ i = dg (kAsN (fR F) (tN F)) (kAsN (fR F) t) code)) := by
  unfold fHand
  by_cases c : fR F (5 * t + 4) = 1
  · rw [if_pos c, b_or, Bool.or_eq_true, b_one_m (dg_6 _ _ _)]
    simp [c]
  · rw [if_neg c]
    simp [c]
section zW1
variable {F : zTS} {M : zMem}
/-- the hands lie as H has them: who has touched x -/
theorem mTcH (hw : kWF F) (hm : kMF M F) {x : Nat} (hx : x < tN F) (i : Nat) : bt (mTc M (nI x)) i = true ↔ ∃ t, fReach F x t ∧ bt (M 41 t) i = true := by
  have h10 := hw.1.2
  obtain ⟨σ, s1, s2, s3⟩ := gI_walk (kMF_gM hw hm hx)
  have eO : M 35 1 = fO F := hm.2.2.2.2.2.2.2.1
  rw [eO] at s2 s3
  obtain ⟨eD, hD⟩ := kMF_dep hw hm
  unfold mTc
  rw [nI_clamp (by omega), kOr_bt]
  have key : ∀ t, t < x + 1 → (bt (if M 35 0 < (mWk M x) 42 t then 0 else M 41 t) i = true ↔ σ t ≤ dN F ∧ bt (M 41 t) i = true) := by
    intro t ht
    have hs : σ t < 2 ^ 31 := by rcases s2 t (by omega) with q | q <;> omega
    rw [s1 t (by omega), eD]
    by_cases c : σ t ≤ dN F
    · rw [if_neg (by rw [nI_ltI (by omega) hs]; omega)]
      simp [c]
    · rw [if_pos (by rw [nI_ltI (by omega) hs]; omega), b_0]
      simp [c]
  constructor
  · rintro ⟨t, ht, h⟩
    obtain ⟨h1, h2⟩ := (key t ht).mp h
    have hw2 := (s2 t (by omega)).resolve_left (by omega)
    exact ⟨t, ⟨σ t, h1, hw2.2⟩, h2⟩
  · rintro ⟨j, ⟨e, h1, h2⟩, h3⟩
    have := gW_le h2
    exact ⟨j, by omega, (key j (by omega)).mpr ⟨Nat.le_trans (s3 e j h2) h1, h3⟩⟩
theorem gP_cp (hw : kWF F) {b : Int32} {w : Nat} (hw6 : w < 6) : gP F b w ↔ ∃ i, fCp F w i ∧ bt b i = true := by
  rw [gP_sym hw hw6]
  constructor
  · rintro (h | ⟨k, _, h1, h2⟩)
    · exact ⟨w, Or.inl rfl, h⟩
    · exact ⟨k, Or.inr h1, h2⟩
  · rintro ⟨i, h1 | h1, h2⟩
    · subst h1; exact Or.inl h2
    · rcases hw.2.2.2.2.2.1 w hw6 with h | ⟨a, a6, -, h3, -⟩
      · by_cases hi : i < 2 ^ 31
        · exact absurd (h1.symm.trans h) (nI_ne6 hi)
        · rw [b_big (by omega)] at h2; cases h2
      · by_cases hi : i < 2 ^ 31
        · have e : i = a := (nI_eq hi (by omega)).mp (h1.symm.trans h3)
          subst e
          exact Or.inr ⟨i, a6, h1, h2⟩
        · rw [b_big (by omega)] at h2; cases h2
/-- who is barred from x in this filling -/
def fBar (F : zTS) (code x w : Nat) : Prop := fHit F x w ∨ ∃ t, t < tN F ∧ fR F (5 * t + 4) = 1 ∧ fReach F x t ∧ fCp F w (dg (kAsN (fR F) (tN F)) (kAsN (fR F) t) code)
theorem mBarH (hw : kWF F) (hm : kMF M F) {code : Nat} (h41 : ∀ t, t < tN F → M 41 t = fHand F code t) {x w : Nat} (hx : x < tN F) (hw6 : w < 6) : bt (mWP M (mTc M (nI x))) w = true ↔ fBar F code x w := by
  rw [mWP_bt hw hm _ (by omega), gP_cp hw hw6]
  constructor
  · rintro ⟨i, h1, h2⟩
    obtain ⟨t, t1, t2⟩ := (mTcH hw hm hx i).mp h2
    have tl := fReach_le t1
    rw [h41 t (by omega), fHand_bt] at t2
    rcases t2 with q | ⟨q1, q2⟩
    · exact Or.inl ⟨t, i, t1, q, h1⟩
    · subst q2
      exact Or.inr ⟨t, by omega, q1, t1, h1⟩
  · rintro (⟨t, i, h1, h2, h3⟩ | ⟨t, h0, h1, h2, h3⟩)
    · have tl := fReach_le h1
      exact ⟨i, h3, (mTcH hw hm hx i).mpr ⟨t, h1, by rw [h41 t (by omega), fHand_bt]; exact Or.inl h2⟩⟩
    · exact ⟨_, h3, (mTcH hw hm hx _).mpr ⟨t, h2, by rw [h41 t h0, fHand_bt]; exact Or.inr ⟨h1, rfl⟩⟩⟩
theorem fGood_iff {code : Nat} : fGood F code ↔ ((∀ t, t < tN F → fR F (5 * t + 4) = 1 → ¬ bt (fR F (5 * t)) (dg (kAsN (fR F) (tN F)) (kAsN (fR F) t) code) = true) ∧ ∀ s, s < sN F → ¬ fBar F code (fHd F s) (fSr F s)) := by
  constructor
  · rintro ⟨h1, h2⟩
    refine ⟨fun t ht ho => (h2 t ht ho).2.1, fun s hs => ?_⟩
    rintro (q | ⟨t, q1, q2, q3, q4⟩)
    · exact h1 s hs q
    · exact (h2 t q1 q2).2.2 s hs q3 q4
  · rintro ⟨h1, h2⟩
    exact ⟨fun s hs q => h2 s hs (Or.inl q), fun t ht ho => ⟨dg_6 _ _ _, h1 t ht ho, fun s hs q1 q2 => h2 s hs (Or.inr ⟨t, ht, ho, q1, q2⟩)⟩⟩
end zW1
section zW2
variable (g : Nat → Option Nat) (X : List zShp) (M : zMem)
theorem ex2_X_manAt (c k : Int32) (hh : mKo M ∧ ¬ k < 0) : zEx m_X_manAt 0 0 [.ref 35, .int c, .int k] (SHP g X) M (qR g X (fun r M2 => M2 = M ∧ (∀ code kk : Nat, c = nI code → code < 1297 → k = nI kk → kk < mOp M → r = nI (dg (mOp M) kk code)))) := by
  by_cases q : ∃ code kk : Nat, c = nI code ∧ code < 1297 ∧ k = nI kk ∧ kk < mOp M
  · obtain ⟨code, kk, rfl, hcode, rfl, hkk⟩ := q
    have hA := hh.1.2.2
    refine zEx_of _ (by decide) (by simp [Value.category]) (Nat.le_of_ble_eq_true rfl) rfl (v_X_manAt_0 g X M _ _ _ ⟨hh.1, ?_⟩)
    have L : ∀ d (l : Nat), kk + d < 10 → l < 1297 → (nI (l / 6 ^ d % 6) = nI (dg (mOp M) kk code)) → zRT m_X_manAt 0 0 10 [(2, .int (nI kk)), (3, .int (nI l)), (4, .int (nI (kk + d)))] [] (SHP g X) M (qR g X (fun r M2 => M2 = M ∧ (∀ c2 k2 : Nat, nI code = nI c2 → c2 < 1297 → nI kk = nI k2 → k2 < mOp M → r = nI (dg (mOp M) k2 c2)))) := by
      intro d
      induction d with
      | zero =>
        intro l hk10 hl e
        refine v_X_manAt_10 g X M _ _ _ _ ⟨fun _ => qR_i ⟨rfl, fun c2 k2 e1 h1 e2 h2 => ?_⟩, fun h => absurd (nI_le (Nat.le_refl _) (by omega)) h⟩
        have e3 : code = c2 := (nI_eq (by omega) (by omega)).mp e1
        have e4 : kk = k2 := (nI_eq (by omega) (by omega)).mp e2
        subst e3; subst e4
        rw [← e, Nat.pow_zero, Nat.div_one, show (6 : Int32) = nI 6 from rfl, pk_rem (by omega) (by decide) (by decide)]
      | succ d ih =>
        intro l hk10 hl e
        refine v_X_manAt_10 g X M _ _ _ _ ⟨fun h => absurd h (nI_ge (by omega) (by omega)), fun _ => ?_⟩
        have e1 : nI (kk + (d + 1)) + (-1) = nI (kk + d) := by
          rw [show kk + (d + 1) = (kk + d) + 1 by omega, ← nI_1, Int32.add_assoc]
          exact Int32.add_zero _
        rw [e1, show (6 : Int32) = nI 6 from rfl, pk_div (by omega) (by decide) (by decide)]
        refine ih (l / 6) (by omega) (by omega) ?_
        rw [← e, Nat.div_div_eq_div_mul, Nat.mul_comm, ← Nat.pow_succ]
    have e0 : nI (mOp M) - 1 = nI (kk + (mOp M - 1 - kk)) := by
      rw [show (1 : Int32) = nI 1 from rfl, pk_sub (by omega)]
      congr 1
      omega
    rw [e0]
    exact L (mOp M - 1 - kk) code (by omega) hcode rfl
  · refine zEx_mono (ex_X_manAt g X M c k hh) (qR_w (fun r M1 h => ⟨h, fun code kk e1 h1 e2 h2 => absurd ⟨code, kk, e1, h1, e2, h2⟩ q⟩))
theorem mOp_F {F : zTS} {Mc M : zMem} (h : cM F Mc M) : mOp M = kAsN (fR F) (tN F) := by
  have h10 := h.1.1.2
  unfold mOp
  rw [kMF_tn h.2.2]
  exact kAsN_cg _ (fun j hj => h.2.2.1 j (by omega))
theorem vS_X_fill_0 (g : Nat → Option Nat) (X : List zShp) (M : zMem) (x1 : Int32) (R : zEnd) (h : (mCnt M) ∧ (zRT m_X_fill 0 0 11 [(0, .ref 35), (1, .int x1), (2, .int 0), (3, .int 1), (4, .int 0)] [] (SHP g X) (mTo M) R)) : zRT m_X_fill 0 0 0 [(0, .ref 35), (1, .int x1)] [] (SHP g X) M R := by
  refine zs_aload_n 0 d_X_fill_0 rfl (List.mem_of_getElem? (i := 0) rfl) ?_
  obtain ⟨p1, h⟩ := h
  refine zs_callV (kc := 0) (ks := 0) (kc1 := 0) (ks1 := 0) (st := []) [] d_X_fill_1 lk_X_116 ⟨by decide, by decide⟩ rfl (sh_35 g X) rfl (Nat.le_of_ble_eq_true rfl) (ex_X_asTold g X M p1) (fun v1 sh1 M1 hR => ?_)
  obtain ⟨rfl, rfl, rfl⟩ := hR
  refine zs_iconst 0 d_X_fill_4 (by decide) ?_
  refine zs_istore_n2 2 [1, 2, 0] [(0, .ref 35), (1, .int x1), (2, .int 0)] d_X_fill_5 rfl (by decide) rfl ?_
  refine zs_iconst 1 d_X_fill_6 (by decide) ?_
  refine zs_istore_n2 3 [1, 2, 3, 0] [(0, .ref 35), (1, .int x1), (2, .int 0), (3, .int 1)] d_X_fill_7 rfl (by decide) rfl ?_
  refine zs_iconst 0 d_X_fill_8 (by decide) ?_
  refine zs_istore2 [1, 2, 3, 4, 0] [(0, .ref 35), (1, .int x1), (2, .int 0), (3, .int 1), (4, .int 0)] d_X_fill_9 (by decide) rfl ?_
  exact h
theorem vS_X_fill_11 (g : Nat → Option Nat) (X : List zShp) (M : zMem) (x1 x2 x3 x4 : Int32) (R : zEnd) (h : (((M 35 6) ≤ x4) → (zRT m_X_fill 0 0 94 [(0, .ref 35), (3, .int x3), (4, .int 0)] [] (SHP g X) M R)) ∧ ((¬ (M 35 6) ≤ x4) → ((vp_in (((5 : Int32) * x4) + 4) 50) ∧ (((¬ (M 38 (Int32.toNatClampNeg (((5 : Int32) * x4) + 4))) = 1) → (zRT m_X_fill 0 0 11 [(0, .ref 35), (1, .int x1), (2, .int x2), (3, .int x3), (4, .int (x4 + 1))] [] (SHP g X) M R)) ∧ (((M 38 (Int32.toNatClampNeg (((5 : Int32) * x4) + 4))) = 1) → ((mKo M ∧ ¬ x2 < 0) ∧ (∀ (r4 : Int32) (M4 : zMem), (M4 = M ∧ (∀ code kk : Nat, x1 = nI code → code < 1297 → x2 = nI kk → kk < mOp M → r4 = nI (dg (mOp M) kk code))) → (((x3 = 0) → ((vp_in x4 10) ∧ (zRT m_X_fill 0 0 11 [(0, .ref 35), (1, .int x1), (2, .int (x2 + 1)), (3, .int 0), (4, .int (x4 + 1))] [] (SHP g X) (zms M4 41 (Int32.toNatClampNeg x4) ((M4 41 (Int32.toNatClampNeg x4)) ||| ((1 : Int32) <<< (r4 &&& 31)))) R))) ∧ ((¬ x3 = 0) → ((vp_in x4 10) ∧ ((((hb (M4 41 (Int32.toNatClampNeg x4)) r4) = true) → (zRT m_X_fill 0 0 11 [(0, .ref 35), (1, .int x1), (2, .int (x2 + 1)), (3, .int 0), (4, .int (x4 + 1))] [] (SHP g X) (zms M4 41 (Int32.toNatClampNeg x4) ((M4 41 (Int32.toNatClampNeg x4)) ||| ((1 : Int32) <<< (r4 &&& 31)))) R)) ∧ (((hb (M4 41 (Int32.toNatClampNeg x4)) r4) = false) → (zRT m_X_fill 0 0 11 [(0, .ref 35), (1, .int x1), (2, .int (x2 + 1)), (3, .int 1), (4, .int (x4 + 1))] [] (SHP g X) (zms M4 41 (Int32.toNatClampNeg x4) ((M4 41 (Int32.toNatClampNeg x4)) ||| ((1 : Int32) <<< (r4 &&& 31)))) R))))))))))))) : zRT m_X_fill 0 0 11 [(0, .ref 35), (1, .int x1), (2, .int x2), (3, .int x3), (4, .int x4)] [] (SHP g X) M R := by
  refine zs_iload d_X_fill_11 (List.mem_of_getElem? (i := 4) rfl) ?_
  refine zs_aload_n 0 d_X_fill_13 rfl (List.mem_of_getElem? (i := 0) rfl) ?_
  refine zs_get d_X_fill_14 gf_X_70 (sh_35 g X) rfl ?_
  refine zs_icmp_ge 91 d_X_fill_17 (by decide) (fun c1 => ?_) (fun c1 => ?_)
  · replace h := h.1 c1
    refine zs_iconst 0 d_X_fill_91 (by decide) ?_
    refine zs_istore2 [1, 2, 3, 4, 0] [(0, .ref 35), (1, .int x1), (2, .int x2), (3, .int x3), (4, .int 0)] d_X_fill_92 (by decide) rfl ?_
    exact zRT_sub [0, 3, 4] rfl h
  · replace h := h.2 c1
    refine zs_aload_n 0 d_X_fill_20 rfl (List.mem_of_getElem? (i := 0) rfl) ?_
    refine zs_get d_X_fill_21 gf_X_23 (sh_35 g X) rfl ?_
    refine zs_iconst 5 d_X_fill_24 (by decide) ?_
    refine zs_iload d_X_fill_25 (List.mem_of_getElem? (i := 4) rfl) ?_
    refine zs_imul d_X_fill_27 ?_
    refine zs_iconst 4 d_X_fill_28 (by decide) ?_
    refine zs_iadd d_X_fill_29 ?_
    obtain ⟨b2, h⟩ := h
    refine zs_iald d_X_fill_30 (sh_38 g X) b2 ?_
    refine zs_iconst 1 d_X_fill_31 (by decide) ?_
    refine zs_icmp_ne 85 d_X_fill_32 (by decide) (fun c3 => ?_) (fun c3 => ?_)
    · replace h := h.1 c3
      refine zs_iinc2 4 (x4 + 1) [1, 2, 3, 4, 0] [(0, .ref 35), (1, .int x1), (2, .int x2), (3, .int x3), (4, .int (x4 + 1))] d_X_fill_85 rfl rfl (by decide) rfl ?_
      refine zs_goto 11 d_X_fill_88 (by decide) ?_
      exact h
    · replace h := h.2 c3
      refine zs_aload_n 0 d_X_fill_35 rfl (List.mem_of_getElem? (i := 0) rfl) ?_
      refine zs_iload_n 1 d_X_fill_36 rfl (List.mem_of_getElem? (i := 1) rfl) ?_
      refine zs_iload_n 2 d_X_fill_37 rfl (List.mem_of_getElem? (i := 2) rfl) ?_
      obtain ⟨p4, h⟩ := h
      refine zs_callV (kc := 0) (ks := 0) (kc1 := 0) (ks1 := 0) (st := []) [.int x1, .int x2] d_X_fill_38 lk_X_138 ⟨by decide, by decide⟩ rfl (sh_35 g X) rfl (Nat.le_of_ble_eq_true rfl) (ex2_X_manAt g X M x1 x2 p4) (fun v4 sh4 M4 hR => ?_)
      obtain ⟨r4, rfl, rfl, hq4⟩ := hR
      replace h := h r4 M4 hq4
      refine zs_istore2 [1, 2, 3, 4, 5, 0] [(0, .ref 35), (1, .int x1), (2, .int x2), (3, .int x3), (4, .int x4), (5, .int r4)] d_X_fill_41 (by decide) rfl ?_
      refine zs_iload_n 3 d_X_fill_43 rfl (List.mem_of_getElem? (i := 3) rfl) ?_
      refine zs_if_eq 66 d_X_fill_44 (by decide) (fun c5 => ?_) (fun c5 => ?_)
      · replace h := h.1 c5
        refine zs_iconst 0 d_X_fill_66 (by decide) ?_
        refine zs_istore_n2 3 [1, 2, 3, 0, 4, 5] [(0, .ref 35), (1, .int x1), (2, .int x2), (3, .int 0), (4, .int x4), (5, .int r4)] d_X_fill_67 rfl (by decide) rfl ?_
        refine zs_aload_n 0 d_X_fill_68 rfl (List.mem_of_getElem? (i := 0) rfl) ?_
        refine zs_get d_X_fill_69 gf_X_32 (sh_35 g X) rfl ?_
        refine zs_iload d_X_fill_72 (List.mem_of_getElem? (i := 4) rfl) ?_
        refine zs_dup2 d_X_fill_74 rfl rfl ?_
        obtain ⟨b6, h⟩ := h
        refine zs_iald d_X_fill_75 (sh_41 g X) b6 ?_
        refine zs_iconst 1 d_X_fill_76 (by decide) ?_
        refine zs_iload d_X_fill_77 (List.mem_of_getElem? (i := 5) rfl) ?_
        refine zs_ishl d_X_fill_79 ?_
        refine zs_ior d_X_fill_80 ?_
        refine zs_iast d_X_fill_81 (sh_41 g X) b6 ?_
        refine zs_iinc2 2 (x2 + 1) [1, 2, 0, 3, 4, 5] [(0, .ref 35), (1, .int x1), (2, .int (x2 + 1)), (3, .int 0), (4, .int x4), (5, .int r4)] d_X_fill_82 rfl rfl (by decide) rfl ?_
        refine zs_iinc2 4 (x4 + 1) [1, 2, 3, 4, 0, 5] [(0, .ref 35), (1, .int x1), (2, .int (x2 + 1)), (3, .int 0), (4, .int (x4 + 1)), (5, .int r4)] d_X_fill_85 rfl rfl (by decide) rfl ?_
        refine zs_goto 11 d_X_fill_88 (by decide) ?_
        exact zRT_sub [0, 1, 2, 3, 4] rfl h
      · replace h := h.2 c5
        refine zs_aload_n 0 d_X_fill_47 rfl (List.mem_of_getElem? (i := 0) rfl) ?_
        refine zs_get d_X_fill_48 gf_X_32 (sh_35 g X) rfl ?_
        refine zs_iload d_X_fill_51 (List.mem_of_getElem? (i := 4) rfl) ?_
        obtain ⟨b7, h⟩ := h
        refine zs_iald d_X_fill_53 (sh_41 g X) b7 ?_
        refine zs_iload d_X_fill_54 (List.mem_of_getElem? (i := 5) rfl) ?_
        refine zs_callS (kc := 0) (ks := 0) (kc1 := 0) (ks1 := 0) (st := []) [.int (M4 41 (Int32.toNatClampNeg x4)), .int r4] d_X_fill_56 lk_X_98 ⟨by decide, by decide⟩ rfl (Nat.le_of_ble_eq_true rfl) (ex_X_has g X M4 (M4 41 (Int32.toNatClampNeg x4)) r4) (fun v8 sh8 M8 hR => ?_)
        obtain ⟨rfl, rfl, rfl⟩ := hR
        refine zs_if_ne 66 d_X_fill_59 (by decide) (fun c9 => ?_) (fun c9 => ?_)
        · replace h := h.1 (bI_1 c9)
          refine zs_iconst 0 d_X_fill_66 (by decide) ?_
          refine zs_istore_n2 3 [1, 2, 3, 0, 4, 5] [(0, .ref 35), (1, .int x1), (2, .int x2), (3, .int 0), (4, .int x4), (5, .int r4)] d_X_fill_67 rfl (by decide) rfl ?_
          refine zs_aload_n 0 d_X_fill_68 rfl (List.mem_of_getElem? (i := 0) rfl) ?_
          refine zs_get d_X_fill_69 gf_X_32 (sh_35 g X) rfl ?_
          refine zs_iload d_X_fill_72 (List.mem_of_getElem? (i := 4) rfl) ?_
          refine zs_dup2 d_X_fill_74 rfl rfl ?_
          refine zs_iald d_X_fill_75 (sh_41 g X) b7 ?_
          refine zs_iconst 1 d_X_fill_76 (by decide) ?_
          refine zs_iload d_X_fill_77 (List.mem_of_getElem? (i := 5) rfl) ?_
          refine zs_ishl d_X_fill_79 ?_
          refine zs_ior d_X_fill_80 ?_
          refine zs_iast d_X_fill_81 (sh_41 g X) b7 ?_
          refine zs_iinc2 2 (x2 + 1) [1, 2, 0, 3, 4, 5] [(0, .ref 35), (1, .int x1), (2, .int (x2 + 1)), (3, .int 0), (4, .int x4), (5, .int r4)] d_X_fill_82 rfl rfl (by decide) rfl ?_
          refine zs_iinc2 4 (x4 + 1) [1, 2, 3, 4, 0, 5] [(0, .ref 35), (1, .int x1), (2, .int (x2 + 1)), (3, .int 0), (4, .int (x4 + 1)), (5, .int r4)] d_X_fill_85 rfl rfl (by decide) rfl ?_
          refine zs_goto 11 d_X_fill_88 (by decide) ?_
          exact zRT_sub [0, 1, 2, 3, 4] rfl h
        · replace h := h.2 (bI_0 c9)
          refine zs_iconst 1 d_X_fill_62 (by decide) ?_
          refine zs_goto 67 d_X_fill_63 (by decide) ?_
          refine zs_istore_n2 3 [1, 2, 3, 0, 4, 5] [(0, .ref 35), (1, .int x1), (2, .int x2), (3, .int 1), (4, .int x4), (5, .int r4)] d_X_fill_67 rfl (by decide) rfl ?_
          refine zs_aload_n 0 d_X_fill_68 rfl (List.mem_of_getElem? (i := 0) rfl) ?_
          refine zs_get d_X_fill_69 gf_X_32 (sh_35 g X) rfl ?_
          refine zs_iload d_X_fill_72 (List.mem_of_getElem? (i := 4) rfl) ?_
          refine zs_dup2 d_X_fill_74 rfl rfl ?_
          refine zs_iald d_X_fill_75 (sh_41 g X) b7 ?_
          refine zs_iconst 1 d_X_fill_76 (by decide) ?_
          refine zs_iload d_X_fill_77 (List.mem_of_getElem? (i := 5) rfl) ?_
          refine zs_ishl d_X_fill_79 ?_
          refine zs_ior d_X_fill_80 ?_
          refine zs_iast d_X_fill_81 (sh_41 g X) b7 ?_
          refine zs_iinc2 2 (x2 + 1) [1, 2, 0, 3, 4, 5] [(0, .ref 35), (1, .int x1), (2, .int (x2 + 1)), (3, .int 1), (4, .int x4), (5, .int r4)] d_X_fill_82 rfl rfl (by decide) rfl ?_
          refine zs_iinc2 4 (x4 + 1) [1, 2, 3, 4, 0, 5] [(0, .ref 35), (1, .int x1), (2, .int (x2 + 1)), (3, .int 1), (4, .int (x4 + 1)), (5, .int r4)] d_X_fill_85 rfl rfl (by decide) rfl ?_
          refine zs_goto 11 d_X_fill_88 (by decide) ?_
          exact zRT_sub [0, 1, 2, 3, 4] rfl h
theorem vS_X_fill_94 (g : Nat → Option Nat) (X : List zShp) (M : zMem) (x3 x4 : Int32) (R : zEnd) (h : (((M 35 9) ≤ x4) → ((narrow .boolean (.int x3) = .int x3) ∧ (R (some (.int x3)) (SHP g X) M))) ∧ ((¬ (M 35 9) ≤ x4) → (((x3 = 0) → ((narrow .boolean (.int x3) = .int x3) ∧ (R (some (.int x3)) (SHP g X) M))) ∧ ((¬ x3 = 0) → ((vp_in (((2 : Int32) * x4) + 1) 12) ∧ ((mRw M (M 40 (Int32.toNatClampNeg (((2 : Int32) * x4) + 1)))) ∧ ((vp_in ((2 : Int32) * x4) 12) ∧ ((((hb (mWP M (mTc M (M 40 (Int32.toNatClampNeg (((2 : Int32) * x4) + 1))))) ((mWk M (Int32.toNatClampNeg (M 40 (Int32.toNatClampNeg (((2 : Int32) * x4) + 1))))) 40 (Int32.toNatClampNeg ((2 : Int32) * x4)))) = true) → (zRT m_X_fill 0 0 94 [(0, .ref 35), (3, .int 0), (4, .int (x4 + 1))] [] (SHP g X) (mWk M (Int32.toNatClampNeg (M 40 (Int32.toNatClampNeg (((2 : Int32) * x4) + 1))))) R)) ∧ (((hb (mWP M (mTc M (M 40 (Int32.toNatClampNeg (((2 : Int32) * x4) + 1))))) ((mWk M (Int32.toNatClampNeg (M 40 (Int32.toNatClampNeg (((2 : Int32) * x4) + 1))))) 40 (Int32.toNatClampNeg ((2 : Int32) * x4)))) = false) → (zRT m_X_fill 0 0 94 [(0, .ref 35), (3, .int 1), (4, .int (x4 + 1))] [] (SHP g X) (mWk M (Int32.toNatClampNeg (M 40 (Int32.toNatClampNeg (((2 : Int32) * x4) + 1))))) R)))))))))) : zRT m_X_fill 0 0 94 [(0, .ref 35), (3, .int x3), (4, .int x4)] [] (SHP g X) M R := by
  refine zs_iload d_X_fill_94 (List.mem_of_getElem? (i := 2) rfl) ?_
  refine zs_aload_n 0 d_X_fill_96 rfl (List.mem_of_getElem? (i := 0) rfl) ?_
  refine zs_get d_X_fill_97 gf_X_80 (sh_35 g X) rfl ?_
  refine zs_icmp_ge 149 d_X_fill_100 (by decide) (fun c1 => ?_) (fun c1 => ?_)
  · replace h := h.1 c1
    refine zs_iload_n 3 d_X_fill_149 rfl (List.mem_of_getElem? (i := 1) rfl) ?_
    exact zs_zret h.1 d_X_fill_150 rfl h.2
  · replace h := h.2 c1
    refine zs_iload_n 3 d_X_fill_103 rfl (List.mem_of_getElem? (i := 1) rfl) ?_
    refine zs_if_eq 149 d_X_fill_104 (by decide) (fun c2 => ?_) (fun c2 => ?_)
    · replace h := h.1 c2
      refine zs_iload_n 3 d_X_fill_149 rfl (List.mem_of_getElem? (i := 1) rfl) ?_
      exact zs_zret h.1 d_X_fill_150 rfl h.2
    · replace h := h.2 c2
      refine zs_aload_n 0 d_X_fill_107 rfl (List.mem_of_getElem? (i := 0) rfl) ?_
      refine zs_aload_n 0 d_X_fill_108 rfl (List.mem_of_getElem? (i := 0) rfl) ?_
      refine zs_get d_X_fill_109 gf_X_29 (sh_35 g X) rfl ?_
      refine zs_iconst 2 d_X_fill_112 (by decide) ?_
      refine zs_iload d_X_fill_113 (List.mem_of_getElem? (i := 2) rfl) ?_
      refine zs_imul d_X_fill_115 ?_
      refine zs_iconst 1 d_X_fill_116 (by decide) ?_
      refine zs_iadd d_X_fill_117 ?_
      obtain ⟨b3, h⟩ := h
      refine zs_iald d_X_fill_118 (sh_40 g X) b3 ?_
      obtain ⟨p4, h⟩ := h
      refine zs_callV (kc := 0) (ks := 0) (kc1 := 0) (ks1 := 0) (st := []) [.int (M 40 (Int32.toNatClampNeg (((2 : Int32) * x4) + 1)))] d_X_fill_119 lk_X_119 ⟨by decide, by decide⟩ rfl (sh_35 g X) rfl (Nat.le_of_ble_eq_true rfl) (ex_X_barredFrom g X M (M 40 (Int32.toNatClampNeg (((2 : Int32) * x4) + 1))) p4) (fun v4 sh4 M4 hR => ?_)
      obtain ⟨rfl, rfl, rfl⟩ := hR
      refine zs_aload_n 0 d_X_fill_122 rfl (List.mem_of_getElem? (i := 0) rfl) ?_
      refine zs_get d_X_fill_123 gf_X_29 (sh_35 g X) rfl ?_
      refine zs_iconst 2 d_X_fill_126 (by decide) ?_
      refine zs_iload d_X_fill_127 (List.mem_of_getElem? (i := 2) rfl) ?_
      refine zs_imul d_X_fill_129 ?_
      obtain ⟨b5, h⟩ := h
      refine zs_iald d_X_fill_130 (sh_40 g X) b5 ?_
      refine zs_callS (kc := 0) (ks := 0) (kc1 := 0) (ks1 := 0) (st := []) [.int (mWP M (mTc M (M 40 (Int32.toNatClampNeg (((2 : Int32) * x4) + 1))))), .int ((mWk M (Int32.toNatClampNeg (M 40 (Int32.toNatClampNeg (((2 : Int32) * x4) + 1))))) 40 (Int32.toNatClampNeg ((2 : Int32) * x4)))] d_X_fill_131 lk_X_98 ⟨by decide, by decide⟩ rfl (Nat.le_of_ble_eq_true rfl) (ex_X_has g X (mWk M (Int32.toNatClampNeg (M 40 (Int32.toNatClampNeg (((2 : Int32) * x4) + 1))))) (mWP M (mTc M (M 40 (Int32.toNatClampNeg (((2 : Int32) * x4) + 1))))) ((mWk M (Int32.toNatClampNeg (M 40 (Int32.toNatClampNeg (((2 : Int32) * x4) + 1))))) 40 (Int32.toNatClampNeg ((2 : Int32) * x4)))) (fun v6 sh6 M6 hR => ?_)
      obtain ⟨rfl, rfl, rfl⟩ := hR
      refine zs_if_ne 141 d_X_fill_134 (by decide) (fun c7 => ?_) (fun c7 => ?_)
      · replace h := h.1 (bI_1 c7)
        refine zs_iconst 0 d_X_fill_141 (by decide) ?_
        refine zs_istore_n2 3 [1, 0, 2] [(0, .ref 35), (3, .int 0), (4, .int x4)] d_X_fill_142 rfl (by decide) rfl ?_
        refine zs_iinc2 2 (x4 + 1) [1, 2, 0] [(0, .ref 35), (3, .int 0), (4, .int (x4 + 1))] d_X_fill_143 rfl rfl (by decide) rfl ?_
        refine zs_goto 94 d_X_fill_146 (by decide) ?_
        exact h
      · replace h := h.2 (bI_0 c7)
        refine zs_iconst 1 d_X_fill_137 (by decide) ?_
        refine zs_goto 142 d_X_fill_138 (by decide) ?_
        refine zs_istore_n2 3 [1, 0, 2] [(0, .ref 35), (3, .int 1), (4, .int x4)] d_X_fill_142 rfl (by decide) rfl ?_
        refine zs_iinc2 2 (x4 + 1) [1, 2, 0] [(0, .ref 35), (3, .int 1), (4, .int (x4 + 1))] d_X_fill_143 rfl rfl (by decide) rfl ?_
        refine zs_goto 94 d_X_fill_146 (by decide) ?_
        exact h
set_option maxHeartbeats 4000000 in
theorem ex2_X_fill (c : Int32) (hh : mK M ∧ mKo M ∧ mKs M) : zEx m_X_fill 0 0 [.ref 35, .int c] (SHP g X) M (qR g X (fun r M2 => mAg M M2 ∧ (r = 0 ∨ r = 1) ∧ (∀ F Mc code, cM F Mc M → c = nI code → code < 1297 → (¬ r = 0 ↔ fGood F code) ∧ ∀ t, t < tN F → M2 41 t = fHand F code t))) := by
  by_cases q : ∃ code : Nat, c = nI code ∧ code < 1297
  · obtain ⟨code, rfl, hcode⟩ := q
    obtain ⟨hk, hko, hks⟩ := hh
    obtain ⟨hc, h10⟩ := mCnt_e hk.1
    obtain ⟨sn, hsn, es, hs40⟩ := hks
    -- what is wanted at the end
    have L2 : ∀ d k M1 (x3 : Int32), k + d = sn → mAg M M1 → (x3 = 0 ∨ x3 = 1) → (∀ F Mc, cM F Mc M → (∀ t, t < tN F → M1 41 t = fHand F code t) ∧ (¬ x3 = 0 ↔ ((∀ t, t < tN F → fR F (5 * t + 4) = 1 → ¬ bt (fR F (5 * t)) (dg (kAsN (fR F) (tN F)) (kAsN (fR F) t) code) = true) ∧ ∀ s, s < k → ¬ fBar F code (fHd F s) (fSr F s)))) → zRT m_X_fill 0 0 94 [(0, .ref 35), (3, .int x3), (4, .int (nI k))] [] (SHP g X) M1 (qR g X (fun r M2 => mAg M M2 ∧ (r = 0 ∨ r = 1) ∧ (∀ F Mc c2, cM F Mc M → nI code = nI c2 → c2 < 1297 → (¬ r = 0 ↔ fGood F c2) ∧ ∀ t, t < tN F → M2 41 t = fHand F c2 t))) := by
      have nar : ∀ x3 : Int32, (x3 = 0 ∨ x3 = 1) → narrow .boolean (.int x3) = .int x3 := fun x3 h => by
        rcases h with rfl | rfl <;> rfl
      have sF : ∀ F Mc, cM F Mc M → sN F = sn := fun F Mc h => by
        unfold sN
        rw [← h.2.2.2.2.2.2.2.1, es, nI_clamp (by omega)]
      intro d
      induction d with
      | zero =>
        intro k M1 x3 hkd ha hx hv
        refine vS_X_fill_94 g X _ _ _ _ ⟨fun _ => ⟨nar x3 hx, qR_i ⟨ha, hx, fun F Mc c2 h1 e1 h2 => ?_⟩⟩, fun h => absurd (by rw [ha.e35, es]; exact nI_le (by omega) (by omega)) h⟩
        have e3 : code = c2 := (nI_eq (by omega) (by omega)).mp e1
        subst e3
        obtain ⟨v1, v2⟩ := hv F Mc h1
        refine ⟨?_, v1⟩
        rw [v2, fGood_iff, sF F Mc h1, show k = sn by omega]
      | succ d ih =>
        intro k M1 x3 hkd ha hx hv
        refine vS_X_fill_94 g X _ _ _ _ ⟨fun h => absurd h (by rw [ha.e35, es]; exact nI_ge (by omega) (by omega)), fun _ => ⟨fun h0 => ⟨nar x3 hx, qR_i ⟨ha, hx, fun F Mc c2 h1 e1 h2 => ?_⟩⟩, fun h0 => ?_⟩⟩
        · have e3 : code = c2 := (nI_eq (by omega) (by omega)).mp e1
          subst e3
          obtain ⟨v1, v2⟩ := hv F Mc h1
          refine ⟨⟨fun z => absurd h0 z, fun z => ?_⟩, v1⟩
          rw [fGood_iff] at z
          exact v2.mpr ⟨z.1, fun s hs => z.2 s (by rw [sF F Mc h1]; omega)⟩
        · obtain ⟨t, ht, et⟩ := hs40 k (by omega)
          have e2 : ((2 : Int32) * nI k) = nI (2 * k) := pk_mul 2 k
          rw [e2, nI_1 (2 * k), nI_1 k, nI_clamp (by omega), nI_clamp (by omega), ha.e40, et, nI_clamp (by omega)]
          have e40 : (mWk M1 t) 40 = M 40 := (zmr_ne _ _ _ 40 (by decide)).trans ha.e40
          rw [e40]
          have hth : mTh M1 (nI t) := ⟨t, by rw [mTN_e ha.e35]; exact ht, rfl⟩
          have fact : ∀ F Mc, cM F Mc M → (hb (mWP M1 (mTc M1 (nI t))) (M 40 (2 * k)) = true ↔ fBar F code (fHd F k) (fSr F k)) := fun F Mc h1 => by
            obtain ⟨v1, v2⟩ := hv F Mc h1
            have sk : k < sN F := by rw [sF F Mc h1]; omega
            have s6 := h1.1.2.1.2
            obtain ⟨⟨w, hw6, ew⟩, ⟨x, hx, ex⟩⟩ := h1.1.2.2.2.2.2.2.2.1 k sk
            have m40 : M 40 (2 * k) = nI w := by rw [← ew]; exact h1.2.2.2.2.1 _ (by omega)
            have m41 : M 40 (2 * k + 1) = nI x := by rw [← ex]; exact h1.2.2.2.2.1 _ (by omega)
            have etx : t = x := (nI_eq (by omega) (by have := h1.1.1.2; omega)).mp (et.symm.trans m41)
            have hm1 := (cM_ag ha h1).2.2
            have xl := h1.1.1.2
            subst etx
            rw [m40, hb_bt (by omega), mBarH h1.1 hm1 v1 hx hw6]
            have ex' : fHd F k = t := by unfold fHd; rw [ex]; exact nI_clamp (by omega)
            have ew' : fSr F k = w := by unfold fSr; rw [ew]; exact nI_clamp (by omega)
            rw [ex', ew']
          refine ⟨vp_in_nI (by omega) (by decide), (ha.mk hk).rw hth, vp_in_nI (by omega) (by decide), fun h => ih (k + 1) _ 0 (by omega) ha.wk (Or.inl rfl) (fun F Mc h1 => ?_), fun h => ih (k + 1) _ 1 (by omega) ha.wk (Or.inr rfl) (fun F Mc h1 => ?_)⟩
          · obtain ⟨v1, v2⟩ := hv F Mc h1
            refine ⟨fun t ht => ?_, ⟨fun z => absurd rfl z, fun z => absurd ((fact F Mc h1).mp h) (z.2 k (by omega))⟩⟩
            rw [show (mWk M1 _) 41 = M1 41 from zmr_ne _ _ _ 41 (by decide)]
            exact v1 t ht
          · obtain ⟨v1, v2⟩ := hv F Mc h1
            refine ⟨fun t ht => ?_, ⟨fun _ => ?_, fun _ => by decide⟩⟩
            · rw [show (mWk M1 _) 41 = M1 41 from zmr_ne _ _ _ 41 (by decide)]
              exact v1 t ht
            · obtain ⟨z1, z2⟩ := v2.mp h0
              refine ⟨z1, fun s hs => ?_⟩
              by_cases e : s = k
              · subst e
                intro z
                rw [(fact F Mc h1).mpr z] at h
                cases h
              · exact z2 s (by omega)
    have L1 : ∀ d k M1 (κ : Nat) (x3 : Int32), k + d = mTN M → κ ≤ k → mAg M M1 → (x3 = 0 ∨ x3 = 1) → (∀ F Mc, cM F Mc M → κ = kAsN (fR F) k ∧ (∀ t, t < tN F → M1 41 t = if t < k then fHand F code t else fR F (5 * t)) ∧ (¬ x3 = 0 ↔ ∀ t, t < k → fR F (5 * t + 4) = 1 → ¬ bt (fR F (5 * t)) (dg (kAsN (fR F) (tN F)) (kAsN (fR F) t) code) = true)) → zRT m_X_fill 0 0 11 [(0, .ref 35), (1, .int (nI code)), (2, .int (nI κ)), (3, .int x3), (4, .int (nI k))] [] (SHP g X) M1 (qR g X (fun r M2 => mAg M M2 ∧ (r = 0 ∨ r = 1) ∧ (∀ F Mc c2, cM F Mc M → nI code = nI c2 → c2 < 1297 → (¬ r = 0 ↔ fGood F c2) ∧ ∀ t, t < tN F → M2 41 t = fHand F c2 t))) := by
      intro d
      induction d with
      | zero =>
        intro k M1 κ x3 hkd hκ ha hx hv
        refine vS_X_fill_11 g X _ _ _ _ _ _ ⟨fun _ => L2 sn 0 M1 x3 (by omega) ha hx (fun F Mc h1 => ?_), fun h => absurd (by rw [ha.e35, hc]; exact nI_le (by omega) (by omega)) h⟩
        obtain ⟨v0, v1, v2⟩ := hv F Mc h1
        have en := kMF_tn h1.2.2
        refine ⟨fun t ht => by rw [v1 t ht, if_pos (by omega)], ?_⟩
        rw [v2]
        exact ⟨fun z => ⟨fun t ht => z t (by omega), fun s hs => absurd hs (Nat.not_lt_zero s)⟩, fun z t ht => z.1 t (by omega)⟩
      | succ d ih =>
        intro k M1 κ x3 hkd hκ ha hx hv
        have k10 : k < 10 := by omega
        refine vS_X_fill_11 g X _ _ _ _ _ _ ⟨fun h => absurd h (by rw [ha.e35, hc]; exact nI_ge (by omega) (by omega)), fun _ => ?_⟩
        rw [show ((5 : Int32) * nI k) + 4 = nI (5 * k + 4) from nI_5 k 4, nI_1, nI_1, nI_clamp (by omega), nI_clamp (by omega), ha.e38]
        have fr : ∀ F Mc, cM F Mc M → k < tN F ∧ M 38 (5 * k + 4) = fR F (5 * k + 4) := fun F Mc h1 => ⟨by rw [← kMF_tn h1.2.2]; omega, h1.2.2.1 _ (by omega)⟩
        refine ⟨vp_in_nI (by omega) (by decide), fun h => ih (k + 1) M1 κ x3 (by omega) (by omega) ha hx (fun F Mc h1 => ?_), fun h => ⟨⟨ha.ko hko, by rw [show (0 : Int32) = nI 0 from rfl, nI_ltI (by omega) (by decide)]; omega⟩, fun r4 M4 h4 => ?_⟩⟩
        · obtain ⟨v0, v1, v2⟩ := hv F Mc h1
          obtain ⟨f1, f2⟩ := fr F Mc h1
          rw [f2] at h
          refine ⟨by rw [kAsN_n h]; exact v0, fun t ht => ?_, ?_⟩
          · rw [v1 t ht]
            by_cases e : t = k
            · subst e
              rw [if_neg (by omega), if_pos (by omega)]
              unfold fHand
              rw [if_neg h]
            · by_cases e2 : t < k
              · rw [if_pos e2, if_pos (by omega)]
              · rw [if_neg e2, if_neg (by omega)]
          · rw [v2]
            refine ⟨fun z t ht ho => ?_, fun z t ht ho => z t (by omega) ho⟩
            by_cases e : t = k
            · subst e; exact absurd ho h
            · exact z t (by omega) ho
        · obtain ⟨rfl, hr⟩ := h4
          have dig : ∀ F Mc, cM F Mc M → r4 = nI (dg (kAsN (fR F) (tN F)) (kAsN (fR F) k) code) := fun F Mc h1 => by
            obtain ⟨v0, v1, v2⟩ := hv F Mc h1
            obtain ⟨f1, f2⟩ := fr F Mc h1
            rw [f2] at h
            have e1 := mOp_F (cM_ag ha h1)
            have := hr code κ rfl hcode rfl (by rw [e1, v0]; exact kAsN_lt f1 h)
            rw [this, e1, v0]
          have nxt : ∀ y : Int32, (y = 0 ∨ y = 1) → (∀ F Mc, cM F Mc M → (¬ y = 0 ↔ (¬ x3 = 0 ∧ ¬ bt (fR F (5 * k)) (dg (kAsN (fR F) (tN F)) (kAsN (fR F) k) code) = true))) → zRT m_X_fill 0 0 11 [(0, .ref 35), (1, .int (nI code)), (2, .int (nI (κ + 1))), (3, .int y), (4, .int (nI (k + 1)))] [] (SHP g X) (zms M4 41 k ((M4 41 k) ||| ((1 : Int32) <<< (r4 &&& 31)))) (qR g X (fun r M2 => mAg M M2 ∧ (r = 0 ∨ r = 1) ∧ (∀ F Mc c2, cM F Mc M → nI code = nI c2 → c2 < 1297 → (¬ r = 0 ↔ fGood F c2) ∧ ∀ t, t < tN F → M2 41 t = fHand F c2 t))) := by
            intro y hy hyv
            refine ih (k + 1) _ (κ + 1) y (by omega) (by omega) (ha.st (by decide)) hy (fun F Mc h1 => ?_)
            obtain ⟨v0, v1, v2⟩ := hv F Mc h1
            obtain ⟨f1, f2⟩ := fr F Mc h1
            have ed := dig F Mc h1
            rw [f2] at h
            refine ⟨by rw [kAsN_s h, v0], fun t ht => ?_, ?_⟩
            · rw [zms_at]
              by_cases e : t = k
              · subst e
                rw [if_pos rfl, if_pos (by omega), v1 t ht, if_neg (by omega), ed]
                unfold fHand
                rw [if_pos h]
              · rw [if_neg e, v1 t ht]
                by_cases e2 : t < k
                · rw [if_pos e2, if_pos (by omega)]
                · rw [if_neg e2, if_neg (by omega)]
            · rw [hyv F Mc h1, v2]
              constructor
              · rintro ⟨z1, z2⟩ t ht ho
                by_cases e : t = k
                · subst e; exact z2
                · exact z1 t (by omega) ho
              · intro z
                exact ⟨fun t ht ho => z t (by omega) ho, z k (by omega) h⟩
          have hbk : ∀ F Mc, cM F Mc M → hb (M4 41 k) r4 = bt (fR F (5 * k)) (dg (kAsN (fR F) (tN F)) (kAsN (fR F) k) code) := fun F Mc h1 => by
            obtain ⟨v0, v1, v2⟩ := hv F Mc h1
            obtain ⟨f1, f2⟩ := fr F Mc h1
            have d6 := dg_6 (kAsN (fR F) (tN F)) (kAsN (fR F) k) code
            rw [dig F Mc h1, hb_bt (by omega), v1 k f1, if_neg (by omega)]
          have k10v : vp_in (nI k) 10 := vp_in_nI (by omega) (by decide)
          refine ⟨fun h0 => ⟨k10v, nxt 0 (Or.inl rfl) (fun F Mc h1 => ⟨fun z => absurd rfl z, fun z => absurd h0 z.1⟩)⟩, fun h0 => ⟨k10v, fun hb1 => nxt 0 (Or.inl rfl) (fun F Mc h1 => ⟨fun z => absurd rfl z, fun z => ?_⟩), fun hb1 => nxt 1 (Or.inr rfl) (fun F Mc h1 => ⟨fun _ => ⟨h0, ?_⟩, fun _ => by decide⟩)⟩⟩
          · rw [hbk F Mc h1] at hb1
            exact absurd hb1 z.2
          · rw [hbk F Mc h1] at hb1
            rw [hb1]; decide
    refine zEx_of _ (by decide) (by simp [Value.category]) (Nat.le_of_ble_eq_true rfl) rfl (vS_X_fill_0 g X M _ _ ⟨hk.1, ?_⟩)
    refine L1 (mTN M) 0 (mTo M) 0 1 (by omega) (Nat.le_refl _) mAg.rf.mt (Or.inr rfl) (fun F Mc h1 => ⟨rfl, fun t ht => ?_, ⟨fun _ t ht => absurd ht (Nat.not_lt_zero t), fun _ => by decide⟩⟩)
    rw [if_neg (Nat.not_lt_zero t)]
    exact m41_to h1 t ht
  · refine zEx_mono (ex_X_fill g X M c hh) (qR_w (fun r M1 h => ⟨h.1, h.2, fun F Mc code _ e1 h1 => absurd ⟨code, e1, h1⟩ q⟩))
end zW2
