/-! the reference: fault, book -/
def setB (F : zTS) (B : bS) : zTS := (B.2.2.2.2.2, fun _ => (0 : Int32), F.2.2.1, F.2.2.2.1, nI B.2.1, (0 : Int32), F.2.2.2.2.2.2)
def aBk (x : Option bS) (n : Nat) (F : zTS) : Int32 × Nat × zTS := match x with
  | none => (-5, n, F)
  | some B => if B.1 = 0 then (nI B.2.1, 0, setB F B) else (-5, n, F)
def aBook (n : Nat) (P : Nat → Int32) (F : zTS) : Int32 × Nat × zTS := aBk (bRun P 0 n bA0) n F
theorem bRun_cg {P P1 : Nat → Int32} {n : Nat} (h : ∀ j, j < n → P1 j = P j) : ∀ d k (A : bS), k + d = n → bRun P1 k d A = bRun P k d A
  | 0, _, _, _ => rfl
  | d + 1, k, A, hk => by
    unfold bRun
    rw [h k (by omega)]
    cases bStep A (Int32.toNatClampNeg (P k)) with
    | none => rfl
    | some B => exact bRun_cg h d (k + 1) B (by omega)
def bkJ (M M1 : zMem) (n : Nat) : Prop := kAg [35, 38, 39] M M1 ∧ M1 35 4 = nI n ∧ M1 35 0 = M 35 0 ∧ M1 35 1 = M 35 1 ∧ M1 35 2 = M 35 2
theorem bkJ.s38 {M M1 : zMem} {n i : Nat} {v : Int32} (h : bkJ M M1 n) : bkJ M (zms M1 38 i v) n := by
  obtain ⟨a, b⟩ := h
  refine ⟨a.st (by decide), ?_⟩
  rw [zms_ne _ _ _ _ 35 (by decide)]
  exact b
theorem bkJ.s39 {M M1 : zMem} {n i : Nat} {v : Int32} (h : bkJ M M1 n) : bkJ M (zms M1 39 i v) n := by
  obtain ⟨a, b⟩ := h
  refine ⟨a.st (by decide), ?_⟩
  rw [zms_ne _ _ _ _ 35 (by decide)]
  exact b
theorem bkJ.s6 {M M1 : zMem} {n : Nat} {v : Int32} (h : bkJ M M1 n) : bkJ M (zms M1 35 6 v) n := by
  obtain ⟨a, b⟩ := h
  refine ⟨a.st (by decide), ?_⟩
  simp only [zms_at]
  exact b
theorem bkJ.s9 {M M1 : zMem} {n : Nat} {v : Int32} (h : bkJ M M1 n) : bkJ M (zms M1 35 9 v) n := by
  obtain ⟨a, b⟩ := h
  refine ⟨a.st (by decide), ?_⟩
  simp only [zms_at]
  exact b
theorem bkR {M1 : zMem} {R : Nat → Int32} {i : Nat} {v : Int32} (h : ∀ j, j < 50 → M1 38 j = R j) : ∀ j, j < 50 → zms M1 38 i v 38 j = upd R i v j := by
  intro j hj
  by_cases e : j = i
  · subst e; rw [zms_at, if_pos rfl, upS]
  · rw [zms_at, if_neg e, upN _ _ _ _ e]; exact h j hj
theorem bkW (N : Nat) (h : N < 10) : vp_in (nI (5 * N)) 50 ∧ vp_in (nI (5 * N + 1)) 50 ∧ vp_in (nI (5 * N + 2)) 50 ∧ vp_in (nI (5 * N + 3)) 50 ∧ vp_in (nI (5 * N + 4)) 50 ∧ Int32.toNatClampNeg (nI (5 * N)) = 5 * N ∧ Int32.toNatClampNeg (nI (5 * N + 1)) = 5 * N + 1 ∧ Int32.toNatClampNeg (nI (5 * N + 2)) = 5 * N + 2 ∧ Int32.toNatClampNeg (nI (5 * N + 3)) = 5 * N + 3 ∧ Int32.toNatClampNeg (nI (5 * N + 4)) = 5 * N + 4 :=
  ⟨vp_in_nI (by omega) (by decide), vp_in_nI (by omega) (by decide), vp_in_nI (by omega) (by decide), vp_in_nI (by omega) (by decide), vp_in_nI (by omega) (by decide), nI_clamp (by omega), nI_clamp (by omega), nI_clamp (by omega), nI_clamp (by omega), nI_clamp (by omega)⟩
section zX10
variable (g : Nat → Option Nat) (X : List zShp) (M : zMem)
theorem ex_X_faultOf (hh : ∃ n, mPd M n) : zEx m_X_faultOf 0 0 [.ref 35] (SHP g X) M (qR g X (fun r M1 => (∀ n, mPd M n → bFo (M 37) n 0 n bA0 r) ∧ M1 = M)) := by
  obtain ⟨n, hp⟩ := hh
  refine zEx_of _ (by decide) (by simp [Value.category]) (Nat.le_of_ble_eq_true rfl) rfl (v_X_faultOf_0 g X M _ ?_)
  refine bFaultLoop g X M n hp _ n 0 bA0 (-6) (by omega) ⟨by decide, by decide, by decide, by decide, by decide⟩ ⟨fun _ => rfl, fun h => absurd h (by decide), fun h => absurd h (by decide)⟩ (fun r hr => qR_i ⟨fun m hm => ?_, rfl⟩)
  have h1 := hp.1
  have h2 := hm.1
  have e : m = n := (nI_eq (by omega) (by omega)).mp (hm.2.1.symm.trans hp.2.1)
  rw [e]
  exact hr
theorem v_X_fault_0 (g : Nat → Option Nat) (X : List zShp) (M : zMem) (R : zEnd) (h : ((∃ n, mPd M n)) ∧ (∀ (r1 : Int32) (M1 : zMem), ((∀ n, mPd M n → bFo (M 37) n 0 n bA0 r1) ∧ M1 = M) → (R (some (.int r1)) (SHP g X) M1))) : zRT m_X_fault 0 0 0 [(0, .ref 35)] [] (SHP g X) M R := by
  refine zs_aload_n 0 d_X_fault_0 rfl (List.mem_of_getElem? (i := 0) rfl) ?_
  obtain ⟨p1, h⟩ := h
  refine zs_callV (kc := 0) (ks := 0) (kc1 := 0) (ks1 := 0) (st := []) [] d_X_fault_1 lk_X_76 ⟨by decide, by decide⟩ rfl (sh_35 g X) rfl (Nat.le_of_ble_eq_true rfl) (ex_X_faultOf g X M p1) (fun v1 sh1 M1 hR => ?_)
  obtain ⟨r1, rfl, rfl, hq1⟩ := hR
  replace h := h r1 M1 hq1
  exact zs_iret d_X_fault_4 rfl h
theorem ex_X_fault (hh : ∃ n, mPd M n) : zEx m_X_fault 0 0 [.ref 35] (SHP g X) M (qR g X (fun _ M1 => M1 = M)) :=
  zEx_of _ (by decide) (by simp [Value.category]) (Nat.le_of_ble_eq_true rfl) rfl (v_X_fault_0 g X M _ ⟨hh, fun r M1 h => qR_i h.2⟩)
theorem v_X_book_0 (g : Nat → Option Nat) (X : List zShp) (M : zMem) (R : zEnd) (h : ((∃ n, mPd M n)) ∧ (∀ (r1 : Int32) (M1 : zMem), ((∀ n, mPd M n → bFo (M 37) n 0 n bA0 r1) ∧ M1 = M) → (((r1 < 0) → (zRT m_X_book 0 0 17 [(0, .ref 35), (1, .int 0)] [] (SHP g X) (zms M1 35 6 0) R)) ∧ ((¬ r1 < 0) → (R (some (.int (-5))) (SHP g X) M1))))) : zRT m_X_book 0 0 0 [(0, .ref 35)] [] (SHP g X) M R := by
  refine zs_aload_n 0 d_X_book_0 rfl (List.mem_of_getElem? (i := 0) rfl) ?_
  obtain ⟨p1, h⟩ := h
  refine zs_callV (kc := 0) (ks := 0) (kc1 := 0) (ks1 := 0) (st := []) [] d_X_book_1 lk_X_76 ⟨by decide, by decide⟩ rfl (sh_35 g X) rfl (Nat.le_of_ble_eq_true rfl) (ex_X_faultOf g X M p1) (fun v1 sh1 M1 hR => ?_)
  obtain ⟨r1, rfl, rfl, hq1⟩ := hR
  replace h := h r1 M1 hq1
  refine zs_if_lt 10 d_X_book_4 (by decide) (fun c2 => ?_) (fun c2 => ?_)
  · replace h := h.1 c2
    refine zs_aload_n 0 d_X_book_10 rfl (List.mem_of_getElem? (i := 0) rfl) ?_
    refine zs_iconst 0 d_X_book_11 (by decide) ?_
    refine zs_put d_X_book_12 pf_X_70 (sh_35 g X) rfl rfl rfl ?_
    refine zs_iconst 0 d_X_book_15 (by decide) ?_
    refine zs_istore_n2 1 [1, 0] [(0, .ref 35), (1, .int 0)] d_X_book_16 rfl (by decide) rfl ?_
    exact h
  · replace h := h.2 c2
    refine zs_bipush (-5) d_X_book_7 (by decide) ?_
    exact zs_iret d_X_book_9 rfl h
theorem v_X_book_17 (g : Nat → Option Nat) (X : List zShp) (M : zMem) (x1 : Int32) (R : zEnd) (h : ((50 ≤ x1) → (zRT m_X_book 0 0 56 [(0, .ref 35), (1, .int 0)] [] (SHP g X) M R)) ∧ ((¬ 50 ≤ x1) → ((((x1 - x1 / 5 * 5) = 0) → ((vp_in x1 50) ∧ (zRT m_X_book 0 0 17 [(0, .ref 35), (1, .int (x1 + 1))] [] (SHP g X) (zms M 38 (Int32.toNatClampNeg x1) 0) R))) ∧ ((¬ (x1 - x1 / 5 * 5) = 0) → (((¬ (x1 - x1 / 5 * 5) = 4) → ((vp_in x1 50) ∧ (zRT m_X_book 0 0 17 [(0, .ref 35), (1, .int (x1 + 1))] [] (SHP g X) (zms M 38 (Int32.toNatClampNeg x1) (-6)) R))) ∧ (((x1 - x1 / 5 * 5) = 4) → ((vp_in x1 50) ∧ (zRT m_X_book 0 0 17 [(0, .ref 35), (1, .int (x1 + 1))] [] (SHP g X) (zms M 38 (Int32.toNatClampNeg x1) 0) R)))))))) : zRT m_X_book 0 0 17 [(0, .ref 35), (1, .int x1)] [] (SHP g X) M R := by
  refine zs_iload_n 1 d_X_book_17 rfl (List.mem_of_getElem? (i := 1) rfl) ?_
  refine zs_bipush 50 d_X_book_18 (by decide) ?_
  refine zs_icmp_ge 54 d_X_book_20 (by decide) (fun c1 => ?_) (fun c1 => ?_)
  · replace h := h.1 c1
    refine zs_iconst 0 d_X_book_54 (by decide) ?_
    refine zs_istore_n2 1 [1, 0] [(0, .ref 35), (1, .int 0)] d_X_book_55 rfl (by decide) rfl ?_
    exact h
  · replace h := h.2 c1
    refine zs_aload_n 0 d_X_book_23 rfl (List.mem_of_getElem? (i := 0) rfl) ?_
    refine zs_get d_X_book_24 gf_X_23 (sh_35 g X) rfl ?_
    refine zs_iload_n 1 d_X_book_27 rfl (List.mem_of_getElem? (i := 1) rfl) ?_
    refine zs_iload_n 1 d_X_book_28 rfl (List.mem_of_getElem? (i := 1) rfl) ?_
    refine zs_iconst 5 d_X_book_29 (by decide) ?_
    refine zs_irem d_X_book_30 (by decide) ?_
    refine zs_if_eq 41 d_X_book_31 (by decide) (fun c2 => ?_) (fun c2 => ?_)
    · replace h := h.1 c2
      refine zs_iconst 0 d_X_book_41 (by decide) ?_
      refine zs_goto 47 d_X_book_42 (by decide) ?_
      obtain ⟨b3, h⟩ := h
      refine zs_iast d_X_book_47 (sh_38 g X) b3 ?_
      refine zs_iinc2 1 (x1 + 1) [1, 0] [(0, .ref 35), (1, .int (x1 + 1))] d_X_book_48 rfl rfl (by decide) rfl ?_
      refine zs_goto 17 d_X_book_51 (by decide) ?_
      exact h
    · replace h := h.2 c2
      refine zs_iload_n 1 d_X_book_34 rfl (List.mem_of_getElem? (i := 1) rfl) ?_
      refine zs_iconst 5 d_X_book_35 (by decide) ?_
      refine zs_irem d_X_book_36 (by decide) ?_
      refine zs_iconst 4 d_X_book_37 (by decide) ?_
      refine zs_icmp_ne 45 d_X_book_38 (by decide) (fun c4 => ?_) (fun c4 => ?_)
      · replace h := h.1 c4
        refine zs_bipush (-6) d_X_book_45 (by decide) ?_
        obtain ⟨b5, h⟩ := h
        refine zs_iast d_X_book_47 (sh_38 g X) b5 ?_
        refine zs_iinc2 1 (x1 + 1) [1, 0] [(0, .ref 35), (1, .int (x1 + 1))] d_X_book_48 rfl rfl (by decide) rfl ?_
        refine zs_goto 17 d_X_book_51 (by decide) ?_
        exact h
      · replace h := h.2 c4
        refine zs_iconst 0 d_X_book_41 (by decide) ?_
        refine zs_goto 47 d_X_book_42 (by decide) ?_
        obtain ⟨b6, h⟩ := h
        refine zs_iast d_X_book_47 (sh_38 g X) b6 ?_
        refine zs_iinc2 1 (x1 + 1) [1, 0] [(0, .ref 35), (1, .int (x1 + 1))] d_X_book_48 rfl rfl (by decide) rfl ?_
        refine zs_goto 17 d_X_book_51 (by decide) ?_
        exact h
theorem v_X_book_56 (g : Nat → Option Nat) (X : List zShp) (M : zMem) (x1 : Int32) (R : zEnd) (h : ((10 ≤ x1) → (zRT m_X_book 0 0 84 [(0, .ref 35), (1, .int 0), (2, .int 0)] [] (SHP g X) (zms M 35 9 0) R)) ∧ ((¬ 10 ≤ x1) → ((vp_in x1 10) ∧ (zRT m_X_book 0 0 56 [(0, .ref 35), (1, .int (x1 + 1))] [] (SHP g X) (zms M 39 (Int32.toNatClampNeg x1) 0) R)))) : zRT m_X_book 0 0 56 [(0, .ref 35), (1, .int x1)] [] (SHP g X) M R := by
  refine zs_iload_n 1 d_X_book_56 rfl (List.mem_of_getElem? (i := 1) rfl) ?_
  refine zs_bipush 10 d_X_book_57 (by decide) ?_
  refine zs_icmp_ge 75 d_X_book_59 (by decide) (fun c1 => ?_) (fun c1 => ?_)
  · replace h := h.1 c1
    refine zs_aload_n 0 d_X_book_75 rfl (List.mem_of_getElem? (i := 0) rfl) ?_
    refine zs_iconst 0 d_X_book_76 (by decide) ?_
    refine zs_put d_X_book_77 pf_X_80 (sh_35 g X) rfl rfl rfl ?_
    refine zs_iconst 0 d_X_book_80 (by decide) ?_
    refine zs_istore_n2 1 [1, 0] [(0, .ref 35), (1, .int 0)] d_X_book_81 rfl (by decide) rfl ?_
    refine zs_iconst 0 d_X_book_82 (by decide) ?_
    refine zs_istore_n2 2 [1, 2, 0] [(0, .ref 35), (1, .int 0), (2, .int 0)] d_X_book_83 rfl (by decide) rfl ?_
    exact h
  · replace h := h.2 c1
    refine zs_aload_n 0 d_X_book_62 rfl (List.mem_of_getElem? (i := 0) rfl) ?_
    refine zs_get d_X_book_63 gf_X_26 (sh_35 g X) rfl ?_
    refine zs_iload_n 1 d_X_book_66 rfl (List.mem_of_getElem? (i := 1) rfl) ?_
    refine zs_iconst 0 d_X_book_67 (by decide) ?_
    obtain ⟨b2, h⟩ := h
    refine zs_iast d_X_book_68 (sh_39 g X) b2 ?_
    refine zs_iinc2 1 (x1 + 1) [1, 0] [(0, .ref 35), (1, .int (x1 + 1))] d_X_book_69 rfl rfl (by decide) rfl ?_
    refine zs_goto 56 d_X_book_72 (by decide) ?_
    exact h
theorem v_X_book_84 (g : Nat → Option Nat) (X : List zShp) (M : zMem) (x1 x2 : Int32) (R : zEnd) (h : (((M 35 4) ≤ x2) → (R (some (.int ((zms M 35 4 0) 35 6))) (SHP g X) (zms M 35 4 0))) ∧ ((¬ (M 35 4) ≤ x2) → ((vp_in x2 60) ∧ (((¬ (M 37 (Int32.toNatClampNeg x2)) = 59) → (((¬ (M 37 (Int32.toNatClampNeg x2)) = 63) → ((((inI (M 37 (Int32.toNatClampNeg x2)) 65 70) = false) → ((((M 37 (Int32.toNatClampNeg x2)) = 43) → (zRT m_X_book 0 0 84 [(0, .ref 35), (1, .int 1), (2, .int (x2 + 1))] [] (SHP g X) M R)) ∧ ((¬ (M 37 (Int32.toNatClampNeg x2)) = 43) → (((x1 = 0) → ((vp_in (((5 : Int32) * (M 35 6)) + 1) 50) ∧ (((0 ≤ (M 38 (Int32.toNatClampNeg (((5 : Int32) * (M 35 6)) + 1)))) → ((vp_in (((5 : Int32) * (M 35 6)) + 2) 50) ∧ (zRT m_X_book 0 0 84 [(0, .ref 35), (1, .int 0), (2, .int (x2 + 1))] [] (SHP g X) (zms M 38 (Int32.toNatClampNeg (((5 : Int32) * (M 35 6)) + 2)) ((M 37 (Int32.toNatClampNeg x2)) - 97)) R))) ∧ ((¬ 0 ≤ (M 38 (Int32.toNatClampNeg (((5 : Int32) * (M 35 6)) + 1)))) → (zRT m_X_book 0 0 84 [(0, .ref 35), (1, .int 0), (2, .int (x2 + 1))] [] (SHP g X) (zms M 38 (Int32.toNatClampNeg (((5 : Int32) * (M 35 6)) + 1)) ((M 37 (Int32.toNatClampNeg x2)) - 97)) R))))) ∧ ((¬ x1 = 0) → ((vp_in (((5 : Int32) * (M 35 6)) + 3) 50) ∧ (zRT m_X_book 0 0 84 [(0, .ref 35), (1, .int 0), (2, .int (x2 + 1))] [] (SHP g X) (zms M 38 (Int32.toNatClampNeg (((5 : Int32) * (M 35 6)) + 3)) ((M 37 (Int32.toNatClampNeg x2)) - 97)) R))))))) ∧ (((inI (M 37 (Int32.toNatClampNeg x2)) 65 70) = true) → ((vp_in ((5 : Int32) * (M 35 6)) 50) ∧ (((¬ (M 37 (Int32.toNatClampNeg x2)) = 43) → (zRT m_X_book 0 0 84 [(0, .ref 35), (1, .int 0), (2, .int (x2 + 1))] [] (SHP g X) (zms M 38 (Int32.toNatClampNeg ((5 : Int32) * (M 35 6))) ((M 38 (Int32.toNatClampNeg ((5 : Int32) * (M 35 6)))) ||| ((1 : Int32) <<< (((M 37 (Int32.toNatClampNeg x2)) - 65) &&& 31)))) R)) ∧ (((M 37 (Int32.toNatClampNeg x2)) = 43) → (zRT m_X_book 0 0 84 [(0, .ref 35), (1, .int 1), (2, .int (x2 + 1))] [] (SHP g X) (zms M 38 (Int32.toNatClampNeg ((5 : Int32) * (M 35 6))) ((M 38 (Int32.toNatClampNeg ((5 : Int32) * (M 35 6)))) ||| ((1 : Int32) <<< (((M 37 (Int32.toNatClampNeg x2)) - 65) &&& 31)))) R))))))) ∧ (((M 37 (Int32.toNatClampNeg x2)) = 63) → ((vp_in (((5 : Int32) * (M 35 6)) + 4) 50) ∧ (((¬ (M 37 (Int32.toNatClampNeg x2)) = 43) → (zRT m_X_book 0 0 84 [(0, .ref 35), (1, .int 0), (2, .int (x2 + 1))] [] (SHP g X) (zms M 38 (Int32.toNatClampNeg (((5 : Int32) * (M 35 6)) + 4)) 1) R)) ∧ (((M 37 (Int32.toNatClampNeg x2)) = 43) → (zRT m_X_book 0 0 84 [(0, .ref 35), (1, .int 1), (2, .int (x2 + 1))] [] (SHP g X) (zms M 38 (Int32.toNatClampNeg (((5 : Int32) * (M 35 6)) + 4)) 1) R))))))) ∧ (((M 37 (Int32.toNatClampNeg x2)) = 59) → (((¬ (M 37 (Int32.toNatClampNeg x2)) = 43) → (zRT m_X_book 0 0 84 [(0, .ref 35), (1, .int 0), (2, .int (x2 + 1))] [] (SHP g X) (zms M 35 6 ((M 35 6) + 1)) R)) ∧ (((M 37 (Int32.toNatClampNeg x2)) = 43) → (zRT m_X_book 0 0 84 [(0, .ref 35), (1, .int 1), (2, .int (x2 + 1))] [] (SHP g X) (zms M 35 6 ((M 35 6) + 1)) R)))))))) : zRT m_X_book 0 0 84 [(0, .ref 35), (1, .int x1), (2, .int x2)] [] (SHP g X) M R := by
  refine zs_iload_n 2 d_X_book_84 rfl (List.mem_of_getElem? (i := 2) rfl) ?_
  refine zs_aload_n 0 d_X_book_85 rfl (List.mem_of_getElem? (i := 0) rfl) ?_
  refine zs_get d_X_book_86 gf_X_73 (sh_35 g X) rfl ?_
  refine zs_icmp_ge 240 d_X_book_89 (by decide) (fun c1 => ?_) (fun c1 => ?_)
  · replace h := h.1 c1
    refine zs_aload_n 0 d_X_book_240 rfl (List.mem_of_getElem? (i := 0) rfl) ?_
    refine zs_iconst 0 d_X_book_241 (by decide) ?_
    refine zs_put d_X_book_242 pf_X_73 (sh_35 g X) rfl rfl rfl ?_
    refine zs_aload_n 0 d_X_book_245 rfl (List.mem_of_getElem? (i := 0) rfl) ?_
    refine zs_get d_X_book_246 gf_X_70 (sh_35 g X) rfl ?_
    exact zs_iret d_X_book_249 rfl h
  · replace h := h.2 c1
    refine zs_aload_n 0 d_X_book_92 rfl (List.mem_of_getElem? (i := 0) rfl) ?_
    refine zs_get d_X_book_93 gf_X_20 (sh_35 g X) rfl ?_
    refine zs_iload_n 2 d_X_book_96 rfl (List.mem_of_getElem? (i := 2) rfl) ?_
    obtain ⟨b2, h⟩ := h
    refine zs_iald d_X_book_97 (sh_37 g X) b2 ?_
    refine zs_istore_n2 3 [1, 2, 3, 0] [(0, .ref 35), (1, .int x1), (2, .int x2), (3, .int (M 37 (Int32.toNatClampNeg x2)))] d_X_book_98 rfl (by decide) rfl ?_
    refine zs_iconst 5 d_X_book_99 (by decide) ?_
    refine zs_aload_n 0 d_X_book_100 rfl (List.mem_of_getElem? (i := 0) rfl) ?_
    refine zs_get d_X_book_101 gf_X_70 (sh_35 g X) rfl ?_
    refine zs_imul d_X_book_104 ?_
    refine zs_istore2 [1, 2, 3, 4, 0] [(0, .ref 35), (1, .int x1), (2, .int x2), (3, .int (M 37 (Int32.toNatClampNeg x2))), (4, .int ((5 : Int32) * (M 35 6)))] d_X_book_105 (by decide) rfl ?_
    refine zs_iload_n 3 d_X_book_107 rfl (List.mem_of_getElem? (i := 3) rfl) ?_
    refine zs_bipush 59 d_X_book_108 (by decide) ?_
    refine zs_icmp_ne 126 d_X_book_110 (by decide) (fun c3 => ?_) (fun c3 => ?_)
    · replace h := h.1 c3
      refine zs_iload_n 3 d_X_book_126 rfl (List.mem_of_getElem? (i := 3) rfl) ?_
      refine zs_bipush 63 d_X_book_127 (by decide) ?_
      refine zs_icmp_ne 145 d_X_book_129 (by decide) (fun c4 => ?_) (fun c4 => ?_)
      · replace h := h.1 c4
        refine zs_iload_n 3 d_X_book_145 rfl (List.mem_of_getElem? (i := 3) rfl) ?_
        refine zs_bipush 65 d_X_book_146 (by decide) ?_
        refine zs_bipush 70 d_X_book_148 (by decide) ?_
        refine zs_callS (kc := 0) (ks := 0) (kc1 := 0) (ks1 := 0) (st := []) [.int (M 37 (Int32.toNatClampNeg x2)), .int 65, .int 70] d_X_book_150 lk_X_66 ⟨by decide, by decide⟩ rfl (Nat.le_of_ble_eq_true rfl) (ex_X_in g X M (M 37 (Int32.toNatClampNeg x2)) 65 70) (fun v5 sh5 M5 hR => ?_)
        obtain ⟨rfl, rfl, rfl⟩ := hR
        refine zs_if_eq 175 d_X_book_153 (by decide) (fun c6 => ?_) (fun c6 => ?_)
        · replace h := h.1 (bI_0 c6)
          refine zs_iload_n 3 d_X_book_175 rfl (List.mem_of_getElem? (i := 3) rfl) ?_
          refine zs_bipush 43 d_X_book_176 (by decide) ?_
          refine zs_icmp_eq 222 d_X_book_178 (by decide) (fun c7 => ?_) (fun c7 => ?_)
          · replace h := h.1 c7
            refine zs_iload_n 3 d_X_book_222 rfl (List.mem_of_getElem? (i := 3) rfl) ?_
            refine zs_bipush 43 d_X_book_223 (by decide) ?_
            refine zs_icmp_ne 232 d_X_book_225 (by decide) (fun c => absurd c7 c) (fun _ => ?_)
            refine zs_iconst 1 d_X_book_228 (by decide) ?_
            refine zs_goto 233 d_X_book_229 (by decide) ?_
            refine zs_istore_n2 1 [1, 0, 2, 3, 4] [(0, .ref 35), (1, .int 1), (2, .int x2), (3, .int (M 37 (Int32.toNatClampNeg x2))), (4, .int ((5 : Int32) * (M 35 6)))] d_X_book_233 rfl (by decide) rfl ?_
            refine zs_iinc2 2 (x2 + 1) [1, 2, 0, 3, 4] [(0, .ref 35), (1, .int 1), (2, .int (x2 + 1)), (3, .int (M 37 (Int32.toNatClampNeg x2))), (4, .int ((5 : Int32) * (M 35 6)))] d_X_book_234 rfl rfl (by decide) rfl ?_
            refine zs_goto 84 d_X_book_237 (by decide) ?_
            exact zRT_sub [0, 1, 2] rfl h
          · replace h := h.2 c7
            refine zs_iload_n 1 d_X_book_181 rfl (List.mem_of_getElem? (i := 1) rfl) ?_
            refine zs_if_eq 189 d_X_book_182 (by decide) (fun c8 => ?_) (fun c8 => ?_)
            · replace h := h.1 c8
              refine zs_aload_n 0 d_X_book_189 rfl (List.mem_of_getElem? (i := 0) rfl) ?_
              refine zs_get d_X_book_190 gf_X_23 (sh_35 g X) rfl ?_
              refine zs_iload d_X_book_193 (List.mem_of_getElem? (i := 4) rfl) ?_
              refine zs_iconst 1 d_X_book_195 (by decide) ?_
              refine zs_iadd d_X_book_196 ?_
              obtain ⟨b9, h⟩ := h
              refine zs_iald d_X_book_197 (sh_38 g X) b9 ?_
              refine zs_if_ge 205 d_X_book_198 (by decide) (fun c10 => ?_) (fun c10 => ?_)
              · replace h := h.1 c10
                refine zs_iconst 2 d_X_book_205 (by decide) ?_
                refine zs_istore2 [1, 2, 3, 4, 5, 0] [(0, .ref 35), (1, .int x1), (2, .int x2), (3, .int (M 37 (Int32.toNatClampNeg x2))), (4, .int ((5 : Int32) * (M 35 6))), (5, .int 2)] d_X_book_206 (by decide) rfl ?_
                refine zs_aload_n 0 d_X_book_208 rfl (List.mem_of_getElem? (i := 0) rfl) ?_
                refine zs_get d_X_book_209 gf_X_23 (sh_35 g X) rfl ?_
                refine zs_iload d_X_book_212 (List.mem_of_getElem? (i := 4) rfl) ?_
                refine zs_iload d_X_book_214 (List.mem_of_getElem? (i := 5) rfl) ?_
                refine zs_iadd d_X_book_216 ?_
                refine zs_iload_n 3 d_X_book_217 rfl (List.mem_of_getElem? (i := 3) rfl) ?_
                refine zs_bipush 97 d_X_book_218 (by decide) ?_
                refine zs_isub d_X_book_220 ?_
                obtain ⟨b11, h⟩ := h
                refine zs_iast d_X_book_221 (sh_38 g X) b11 ?_
                refine zs_iload_n 3 d_X_book_222 rfl (List.mem_of_getElem? (i := 3) rfl) ?_
                refine zs_bipush 43 d_X_book_223 (by decide) ?_
                refine zs_icmp_ne 232 d_X_book_225 (by decide) (fun _ => ?_) (fun c => absurd c c7)
                refine zs_iconst 0 d_X_book_232 (by decide) ?_
                refine zs_istore_n2 1 [1, 0, 2, 3, 4, 5] [(0, .ref 35), (1, .int 0), (2, .int x2), (3, .int (M 37 (Int32.toNatClampNeg x2))), (4, .int ((5 : Int32) * (M 35 6))), (5, .int 2)] d_X_book_233 rfl (by decide) rfl ?_
                refine zs_iinc2 2 (x2 + 1) [1, 2, 0, 3, 4, 5] [(0, .ref 35), (1, .int 0), (2, .int (x2 + 1)), (3, .int (M 37 (Int32.toNatClampNeg x2))), (4, .int ((5 : Int32) * (M 35 6))), (5, .int 2)] d_X_book_234 rfl rfl (by decide) rfl ?_
                refine zs_goto 84 d_X_book_237 (by decide) ?_
                exact zRT_sub [0, 1, 2] rfl h
              · replace h := h.2 c10
                refine zs_iconst 1 d_X_book_201 (by decide) ?_
                refine zs_goto 206 d_X_book_202 (by decide) ?_
                refine zs_istore2 [1, 2, 3, 4, 5, 0] [(0, .ref 35), (1, .int x1), (2, .int x2), (3, .int (M 37 (Int32.toNatClampNeg x2))), (4, .int ((5 : Int32) * (M 35 6))), (5, .int 1)] d_X_book_206 (by decide) rfl ?_
                refine zs_aload_n 0 d_X_book_208 rfl (List.mem_of_getElem? (i := 0) rfl) ?_
                refine zs_get d_X_book_209 gf_X_23 (sh_35 g X) rfl ?_
                refine zs_iload d_X_book_212 (List.mem_of_getElem? (i := 4) rfl) ?_
                refine zs_iload d_X_book_214 (List.mem_of_getElem? (i := 5) rfl) ?_
                refine zs_iadd d_X_book_216 ?_
                refine zs_iload_n 3 d_X_book_217 rfl (List.mem_of_getElem? (i := 3) rfl) ?_
                refine zs_bipush 97 d_X_book_218 (by decide) ?_
                refine zs_isub d_X_book_220 ?_
                refine zs_iast d_X_book_221 (sh_38 g X) b9 ?_
                refine zs_iload_n 3 d_X_book_222 rfl (List.mem_of_getElem? (i := 3) rfl) ?_
                refine zs_bipush 43 d_X_book_223 (by decide) ?_
                refine zs_icmp_ne 232 d_X_book_225 (by decide) (fun _ => ?_) (fun c => absurd c c7)
                refine zs_iconst 0 d_X_book_232 (by decide) ?_
                refine zs_istore_n2 1 [1, 0, 2, 3, 4, 5] [(0, .ref 35), (1, .int 0), (2, .int x2), (3, .int (M 37 (Int32.toNatClampNeg x2))), (4, .int ((5 : Int32) * (M 35 6))), (5, .int 1)] d_X_book_233 rfl (by decide) rfl ?_
                refine zs_iinc2 2 (x2 + 1) [1, 2, 0, 3, 4, 5] [(0, .ref 35), (1, .int 0), (2, .int (x2 + 1)), (3, .int (M 37 (Int32.toNatClampNeg x2))), (4, .int ((5 : Int32) * (M 35 6))), (5, .int 1)] d_X_book_234 rfl rfl (by decide) rfl ?_
                refine zs_goto 84 d_X_book_237 (by decide) ?_
                exact zRT_sub [0, 1, 2] rfl h
            · replace h := h.2 c8
              refine zs_iconst 3 d_X_book_185 (by decide) ?_
              refine zs_goto 206 d_X_book_186 (by decide) ?_
              refine zs_istore2 [1, 2, 3, 4, 5, 0] [(0, .ref 35), (1, .int x1), (2, .int x2), (3, .int (M 37 (Int32.toNatClampNeg x2))), (4, .int ((5 : Int32) * (M 35 6))), (5, .int 3)] d_X_book_206 (by decide) rfl ?_
              refine zs_aload_n 0 d_X_book_208 rfl (List.mem_of_getElem? (i := 0) rfl) ?_
              refine zs_get d_X_book_209 gf_X_23 (sh_35 g X) rfl ?_
              refine zs_iload d_X_book_212 (List.mem_of_getElem? (i := 4) rfl) ?_
              refine zs_iload d_X_book_214 (List.mem_of_getElem? (i := 5) rfl) ?_
              refine zs_iadd d_X_book_216 ?_
              refine zs_iload_n 3 d_X_book_217 rfl (List.mem_of_getElem? (i := 3) rfl) ?_
              refine zs_bipush 97 d_X_book_218 (by decide) ?_
              refine zs_isub d_X_book_220 ?_
              obtain ⟨b12, h⟩ := h
              refine zs_iast d_X_book_221 (sh_38 g X) b12 ?_
              refine zs_iload_n 3 d_X_book_222 rfl (List.mem_of_getElem? (i := 3) rfl) ?_
              refine zs_bipush 43 d_X_book_223 (by decide) ?_
              refine zs_icmp_ne 232 d_X_book_225 (by decide) (fun _ => ?_) (fun c => absurd c c7)
              refine zs_iconst 0 d_X_book_232 (by decide) ?_
              refine zs_istore_n2 1 [1, 0, 2, 3, 4, 5] [(0, .ref 35), (1, .int 0), (2, .int x2), (3, .int (M 37 (Int32.toNatClampNeg x2))), (4, .int ((5 : Int32) * (M 35 6))), (5, .int 3)] d_X_book_233 rfl (by decide) rfl ?_
              refine zs_iinc2 2 (x2 + 1) [1, 2, 0, 3, 4, 5] [(0, .ref 35), (1, .int 0), (2, .int (x2 + 1)), (3, .int (M 37 (Int32.toNatClampNeg x2))), (4, .int ((5 : Int32) * (M 35 6))), (5, .int 3)] d_X_book_234 rfl rfl (by decide) rfl ?_
              refine zs_goto 84 d_X_book_237 (by decide) ?_
              exact zRT_sub [0, 1, 2] rfl h
        · replace h := h.2 (bI_1 c6)
          refine zs_aload_n 0 d_X_book_156 rfl (List.mem_of_getElem? (i := 0) rfl) ?_
          refine zs_get d_X_book_157 gf_X_23 (sh_35 g X) rfl ?_
          refine zs_iload d_X_book_160 (List.mem_of_getElem? (i := 4) rfl) ?_
          refine zs_dup2 d_X_book_162 rfl rfl ?_
          obtain ⟨b13, h⟩ := h
          refine zs_iald d_X_book_163 (sh_38 g X) b13 ?_
          refine zs_iconst 1 d_X_book_164 (by decide) ?_
          refine zs_iload_n 3 d_X_book_165 rfl (List.mem_of_getElem? (i := 3) rfl) ?_
          refine zs_bipush 65 d_X_book_166 (by decide) ?_
          refine zs_isub d_X_book_168 ?_
          refine zs_ishl d_X_book_169 ?_
          refine zs_ior d_X_book_170 ?_
          refine zs_iast d_X_book_171 (sh_38 g X) b13 ?_
          refine zs_goto 222 d_X_book_172 (by decide) ?_
          refine zs_iload_n 3 d_X_book_222 rfl (List.mem_of_getElem? (i := 3) rfl) ?_
          refine zs_bipush 43 d_X_book_223 (by decide) ?_
          refine zs_icmp_ne 232 d_X_book_225 (by decide) (fun c14 => ?_) (fun c14 => ?_)
          · replace h := h.1 c14
            refine zs_iconst 0 d_X_book_232 (by decide) ?_
            refine zs_istore_n2 1 [1, 0, 2, 3, 4] [(0, .ref 35), (1, .int 0), (2, .int x2), (3, .int (M 37 (Int32.toNatClampNeg x2))), (4, .int ((5 : Int32) * (M 35 6)))] d_X_book_233 rfl (by decide) rfl ?_
            refine zs_iinc2 2 (x2 + 1) [1, 2, 0, 3, 4] [(0, .ref 35), (1, .int 0), (2, .int (x2 + 1)), (3, .int (M 37 (Int32.toNatClampNeg x2))), (4, .int ((5 : Int32) * (M 35 6)))] d_X_book_234 rfl rfl (by decide) rfl ?_
            refine zs_goto 84 d_X_book_237 (by decide) ?_
            exact zRT_sub [0, 1, 2] rfl h
          · replace h := h.2 c14
            refine zs_iconst 1 d_X_book_228 (by decide) ?_
            refine zs_goto 233 d_X_book_229 (by decide) ?_
            refine zs_istore_n2 1 [1, 0, 2, 3, 4] [(0, .ref 35), (1, .int 1), (2, .int x2), (3, .int (M 37 (Int32.toNatClampNeg x2))), (4, .int ((5 : Int32) * (M 35 6)))] d_X_book_233 rfl (by decide) rfl ?_
            refine zs_iinc2 2 (x2 + 1) [1, 2, 0, 3, 4] [(0, .ref 35), (1, .int 1), (2, .int (x2 + 1)), (3, .int (M 37 (Int32.toNatClampNeg x2))), (4, .int ((5 : Int32) * (M 35 6)))] d_X_book_234 rfl rfl (by decide) rfl ?_
            refine zs_goto 84 d_X_book_237 (by decide) ?_
            exact zRT_sub [0, 1, 2] rfl h
      · replace h := h.2 c4
        refine zs_aload_n 0 d_X_book_132 rfl (List.mem_of_getElem? (i := 0) rfl) ?_
        refine zs_get d_X_book_133 gf_X_23 (sh_35 g X) rfl ?_
        refine zs_iload d_X_book_136 (List.mem_of_getElem? (i := 4) rfl) ?_
        refine zs_iconst 4 d_X_book_138 (by decide) ?_
        refine zs_iadd d_X_book_139 ?_
        refine zs_iconst 1 d_X_book_140 (by decide) ?_
        obtain ⟨b15, h⟩ := h
        refine zs_iast d_X_book_141 (sh_38 g X) b15 ?_
        refine zs_goto 222 d_X_book_142 (by decide) ?_
        refine zs_iload_n 3 d_X_book_222 rfl (List.mem_of_getElem? (i := 3) rfl) ?_
        refine zs_bipush 43 d_X_book_223 (by decide) ?_
        refine zs_icmp_ne 232 d_X_book_225 (by decide) (fun c16 => ?_) (fun c16 => ?_)
        · replace h := h.1 c16
          refine zs_iconst 0 d_X_book_232 (by decide) ?_
          refine zs_istore_n2 1 [1, 0, 2, 3, 4] [(0, .ref 35), (1, .int 0), (2, .int x2), (3, .int (M 37 (Int32.toNatClampNeg x2))), (4, .int ((5 : Int32) * (M 35 6)))] d_X_book_233 rfl (by decide) rfl ?_
          refine zs_iinc2 2 (x2 + 1) [1, 2, 0, 3, 4] [(0, .ref 35), (1, .int 0), (2, .int (x2 + 1)), (3, .int (M 37 (Int32.toNatClampNeg x2))), (4, .int ((5 : Int32) * (M 35 6)))] d_X_book_234 rfl rfl (by decide) rfl ?_
          refine zs_goto 84 d_X_book_237 (by decide) ?_
          exact zRT_sub [0, 1, 2] rfl h
        · replace h := h.2 c16
          refine zs_iconst 1 d_X_book_228 (by decide) ?_
          refine zs_goto 233 d_X_book_229 (by decide) ?_
          refine zs_istore_n2 1 [1, 0, 2, 3, 4] [(0, .ref 35), (1, .int 1), (2, .int x2), (3, .int (M 37 (Int32.toNatClampNeg x2))), (4, .int ((5 : Int32) * (M 35 6)))] d_X_book_233 rfl (by decide) rfl ?_
          refine zs_iinc2 2 (x2 + 1) [1, 2, 0, 3, 4] [(0, .ref 35), (1, .int 1), (2, .int (x2 + 1)), (3, .int (M 37 (Int32.toNatClampNeg x2))), (4, .int ((5 : Int32) * (M 35 6)))] d_X_book_234 rfl rfl (by decide) rfl ?_
          refine zs_goto 84 d_X_book_237 (by decide) ?_
          exact zRT_sub [0, 1, 2] rfl h
    · replace h := h.2 c3
      refine zs_aload_n 0 d_X_book_113 rfl (List.mem_of_getElem? (i := 0) rfl) ?_
      refine zs_dup d_X_book_114 rfl ?_
      refine zs_get d_X_book_115 gf_X_70 (sh_35 g X) rfl ?_
      refine zs_iconst 1 d_X_book_118 (by decide) ?_
      refine zs_iadd d_X_book_119 ?_
      refine zs_put d_X_book_120 pf_X_70 (sh_35 g X) rfl rfl rfl ?_
      refine zs_goto 222 d_X_book_123 (by decide) ?_
      refine zs_iload_n 3 d_X_book_222 rfl (List.mem_of_getElem? (i := 3) rfl) ?_
      refine zs_bipush 43 d_X_book_223 (by decide) ?_
      refine zs_icmp_ne 232 d_X_book_225 (by decide) (fun c17 => ?_) (fun c17 => ?_)
      · replace h := h.1 c17
        refine zs_iconst 0 d_X_book_232 (by decide) ?_
        refine zs_istore_n2 1 [1, 0, 2, 3, 4] [(0, .ref 35), (1, .int 0), (2, .int x2), (3, .int (M 37 (Int32.toNatClampNeg x2))), (4, .int ((5 : Int32) * (M 35 6)))] d_X_book_233 rfl (by decide) rfl ?_
        refine zs_iinc2 2 (x2 + 1) [1, 2, 0, 3, 4] [(0, .ref 35), (1, .int 0), (2, .int (x2 + 1)), (3, .int (M 37 (Int32.toNatClampNeg x2))), (4, .int ((5 : Int32) * (M 35 6)))] d_X_book_234 rfl rfl (by decide) rfl ?_
        refine zs_goto 84 d_X_book_237 (by decide) ?_
        exact zRT_sub [0, 1, 2] rfl h
      · replace h := h.2 c17
        refine zs_iconst 1 d_X_book_228 (by decide) ?_
        refine zs_goto 233 d_X_book_229 (by decide) ?_
        refine zs_istore_n2 1 [1, 0, 2, 3, 4] [(0, .ref 35), (1, .int 1), (2, .int x2), (3, .int (M 37 (Int32.toNatClampNeg x2))), (4, .int ((5 : Int32) * (M 35 6)))] d_X_book_233 rfl (by decide) rfl ?_
        refine zs_iinc2 2 (x2 + 1) [1, 2, 0, 3, 4] [(0, .ref 35), (1, .int 1), (2, .int (x2 + 1)), (3, .int (M 37 (Int32.toNatClampNeg x2))), (4, .int ((5 : Int32) * (M 35 6)))] d_X_book_234 rfl rfl (by decide) rfl ?_
        refine zs_goto 84 d_X_book_237 (by decide) ?_
        exact zRT_sub [0, 1, 2] rfl h
set_option maxHeartbeats 4000000 in
theorem bkL84 (n : Nat) (hn : n ≤ 60) (hP : bSg n (M 37)) (Q : zEnd) (B : bS) (hQ : ∀ M1, bkJ M M1 n → M1 35 6 = nI B.2.1 → M1 35 9 = 0 → (∀ j, j < 50 → M1 38 j = B.2.2.2.2.2 j) → (∀ j, j < 10 → M1 39 j = 0) → Q (some (.int ((zms M1 35 4 0) 35 6))) (SHP g X) (zms M1 35 4 0)) : ∀ d k (A : bS) (M1 : zMem), k + d = n → bInv A → bkJ M M1 n → M1 35 6 = nI A.2.1 → M1 35 9 = 0 → (∀ j, j < 50 → M1 38 j = A.2.2.2.2.2 j) → (∀ j, j < 10 → M1 39 j = 0) → bRun (M 37) k d A = some B → zRT m_X_book 0 0 84 [(0, .ref 35), (1, .int (if A.1 = 3 then 1 else 0)), (2, .int (nI k))] [] (SHP g X) M1 Q := by
  intro d
  induction d with
  | zero =>
    intro k A M1 hk hi hj e6 e9 hr hl e
    cases e
    refine v_X_book_84 g X M1 _ _ _ ⟨fun _ => hQ M1 hj e6 e9 hr hl, fun h => absurd ?_ h⟩
    rw [hj.2.1]
    exact nI_le (by omega) (by omega)
  | succ d ih =>
    intro k A M1 hk hi hj e6 e9 hr hl e
    obtain ⟨s, s1, s2, es⟩ := hP k (by omega)
    have e37 : M1 37 = M 37 := hj.1 37 (by decide)
    unfold bRun at e
    cases hb : bStep A (Int32.toNatClampNeg (M 37 k)) with
    | none => rw [hb] at e; cases e
    | some C =>
    rw [hb] at e
    simp only at e
    rw [es, nI_clamp (by omega)] at hb
    have hC := bInv_step s2 hi hb
    have nx : ∀ (M2 : zMem) (x : Int32), (if C.1 = 3 then 1 else 0) = x → bkJ M M2 n → M2 35 6 = nI C.2.1 → M2 35 9 = 0 → (∀ j, j < 50 → M2 38 j = C.2.2.2.2.2 j) → (∀ j, j < 10 → M2 39 j = 0) → zRT m_X_book 0 0 84 [(0, .ref 35), (1, .int x), (2, .int (nI (k + 1)))] [] (SHP g X) M2 Q := fun M2 x hx a1 a2 a3 a4 a5 => by
      rw [← hx]
      exact ih (k + 1) C M2 (by omega) hC a1 a2 a3 a4 a5 e
    clear ih hQ e
    obtain ⟨q, N, L, c, o, R⟩ := A
    obtain ⟨z, i2, i3, i4, i5⟩ := hi
    have zN : N ≤ 10 := z.2.1
    have zq : q ≤ 6 := z.1
    have zL : L ≤ 126 := z.2.2.2.2
    simp only at i4 e6 hr ⊢
    simp only [bStep] at hb
    by_cases h10 : N = 10
    · rw [if_pos h10] at hb; cases hb
    rw [if_neg h10] at hb
    have h9 : N < 10 := by omega
    obtain ⟨u1, u2, u3, u4, u5, u6, u7, u8, u9, u10, u11⟩ := i4 (by omega)
    refine v_X_book_84 g X M1 _ _ _ ⟨fun h => absurd h (by rw [hj.2.1]; exact nI_ge (by omega) (by omega)), fun _ => ⟨vp_in_nI (by omega) (by decide), ?_⟩⟩
    have f5 : (5 : Int32) * nI N = nI (5 * N) := pk_mul 5 N
    obtain ⟨w0, w1, w2, w3, w4, k0, k1, k2, k3, k4⟩ := bkW N h9
    have f2 : nI (5 * N) + 2 = nI (5 * N + 2) := nI_add _ 2
    have f3 : nI (5 * N) + 3 = nI (5 * N + 3) := nI_add _ 3
    have f4 : nI (5 * N) + 4 = nI (5 * N + 4) := nI_add _ 4
    have c1 : nI s = 59 ↔ s = 59 := nI_eq (b := 59) (by omega) (by omega)
    have c2 : nI s = 63 ↔ s = 63 := nI_eq (b := 63) (by omega) (by omega)
    have c3 : nI s = 43 ↔ s = 43 := nI_eq (b := 43) (by omega) (by omega)
    have sH := bHand s2
    have sH' : inI (nI s) 65 70 = false ↔ ¬ (65 ≤ s ∧ s ≤ 70) := by rw [← sH]; simp
    rw [nI_clamp (by omega), e37, es]
    simp only [e6, f5, nI_1, f2, f3, f4, k0, k1, k2, k3, k4, c1, c2, c3, sH, sH', hr (5 * N) (by omega), hr (5 * N + 1) (by omega)]
    have low : ¬ s = 59 → ¬ s = 63 → ¬ (65 ≤ s ∧ s ≤ 70) → ¬ s = 43 → (97 ≤ s ∧ s < 97 + N) := by
      intro a1 a2 a3 a4
      by_cases h : 97 ≤ s ∧ s < 97 + N
      · exact h
      · rw [if_neg h, if_neg a4, if_neg a3, if_neg a2, if_neg (fun h => a1 h.1)] at hb
        cases hb
    have s97 : 97 ≤ s → nI s - 97 = nI (s - 97) := fun h => pk_sub (b := 97) h
    refine ⟨fun a1 => ⟨fun a2 => ⟨fun a3 => ⟨fun a4 => ?_, fun a4 => ⟨fun a5 => ⟨w1, fun a6 => ⟨w2, ?_⟩, fun a6 => ?_⟩, fun a5 => ⟨w3, ?_⟩⟩⟩, fun a3 => ⟨w0, fun a4 => ?_, fun a4 => by omega⟩⟩, fun a2 => ⟨w4, fun a3 => ?_, fun a3 => by omega⟩⟩, fun a1 => ⟨fun a2 => ?_, fun a2 => by omega⟩⟩
    · rw [if_neg (by omega), if_pos a4] at hb
      by_cases q3 : q < 3
      · rw [if_pos q3] at hb
        cases hb
        exact nx M1 _ rfl hj e6 e9 hr hl
      · rw [if_neg q3] at hb; cases hb
    · have lo := low a1 a2 a3 a4
      rw [if_pos lo] at hb
      by_cases q0 : q = 0
      · rw [(u2 q0).1] at a6
        exact absurd a6 (by decide)
      rw [if_neg q0] at hb
      by_cases q1 : q = 1
      · rw [if_pos q1] at hb
        by_cases hl2 : L < s - 97
        · rw [if_pos hl2] at hb
          cases hb
          rw [s97 lo.1]
          refine nx _ _ rfl hj.s38 ?_ ?_ (bkR hr) ?_
          · rw [zms_ne _ _ _ _ 35 (by decide)]; exact e6
          · rw [zms_ne _ _ _ _ 35 (by decide)]; exact e9
          · rw [zms_ne _ _ _ _ 39 (by decide)]; exact hl
        · rw [if_neg hl2] at hb; cases hb
      rw [if_neg q1] at hb
      by_cases q3 : q = 3
      · rw [if_pos q3] at a5
        exact absurd a5 (by decide)
      · rw [if_neg q3] at hb; cases hb
    · have lo := low a1 a2 a3 a4
      rw [if_pos lo] at hb
      by_cases q0 : q = 0
      · rw [if_pos q0] at hb
        cases hb
        rw [s97 lo.1]
        refine nx _ _ rfl hj.s38 ?_ ?_ (bkR hr) ?_
        · rw [zms_ne _ _ _ _ 35 (by decide)]; exact e6
        · rw [zms_ne _ _ _ _ 35 (by decide)]; exact e9
        · rw [zms_ne _ _ _ _ 39 (by decide)]; exact hl
      rw [if_neg q0] at hb
      by_cases q1 : q = 1
      · rw [(u3 q1).2.1] at a6
        exact absurd (nI_le (a := 0) (by omega) (by omega)) a6
      rw [if_neg q1] at hb
      by_cases q3 : q = 3
      · rw [if_pos q3] at a5
        exact absurd a5 (by decide)
      · rw [if_neg q3] at hb; cases hb
    · have lo := low a1 a2 a3 a4
      have q3 : q = 3 := by
        by_cases q3 : q = 3
        · exact q3
        · rw [if_neg q3] at a5
          exact absurd rfl a5
      rw [if_pos lo, if_neg (by omega), if_neg (by omega), if_pos q3] at hb
      cases hb
      rw [s97 lo.1]
      refine nx _ _ rfl hj.s38 ?_ ?_ (bkR hr) ?_
      · rw [zms_ne _ _ _ _ 35 (by decide)]; exact e6
      · rw [zms_ne _ _ _ _ 35 (by decide)]; exact e9
      · rw [zms_ne _ _ _ _ 39 (by decide)]; exact hl
    · rw [if_neg (by omega), if_neg (by omega), if_pos a3] at hb
      by_cases hc : q ≠ 3 ∧ q ≠ 6 ∧ c < 3 ∧ (c = 0 ∨ L < s)
      · rw [if_pos hc] at hb
        cases hb
        rw [show nI s - 65 = nI (s - 65) from pk_sub (b := 65) a3.1]
        refine nx _ _ rfl hj.s38 ?_ ?_ (bkR hr) ?_
        · rw [zms_ne _ _ _ _ 35 (by decide)]; exact e6
        · rw [zms_ne _ _ _ _ 35 (by decide)]; exact e9
        · rw [zms_ne _ _ _ _ 39 (by decide)]; exact hl
      · rw [if_neg hc] at hb; cases hb
    · rw [if_neg (by omega), if_neg (by omega), if_neg (by omega), if_pos a2] at hb
      by_cases hc : q ≠ 3 ∧ q ≠ 6 ∧ c < 3 ∧ o < 4
      · rw [if_pos hc] at hb
        cases hb
        refine nx _ _ rfl hj.s38 ?_ ?_ (bkR hr) ?_
        · rw [zms_ne _ _ _ _ 35 (by decide)]; exact e6
        · rw [zms_ne _ _ _ _ 35 (by decide)]; exact e9
        · rw [zms_ne _ _ _ _ 39 (by decide)]; exact hl
      · rw [if_neg hc] at hb; cases hb
    · rw [if_neg (by omega), if_neg (by omega), if_neg (by omega), if_neg (by omega)] at hb
      by_cases hc : s = 59 ∧ 4 < q
      · rw [if_pos hc] at hb
        cases hb
        refine nx _ _ rfl hj.s6 ?_ ?_ ?_ ?_
        · rw [zms_at, if_pos rfl]
        · rw [zms_at, if_neg (by decide)]; exact e9
        · rw [zms_ne _ _ _ _ 38 (by decide)]; exact hr
        · rw [zms_ne _ _ _ _ 39 (by decide)]; exact hl
      · rw [if_neg hc] at hb; cases hb
end zX10
section zX11
variable {n : Nat} {P : Nat → Int32} {F : zTS} {I : Nat → Option zTS} {M : zMem} {g : Nat → Option Nat} {X : List zShp}
theorem kMJ_pd (hn : n ≤ 60) (hP : bSg n P) (hj : kMJ n P F I M) : mPd M n := ⟨hn, hj.1, fun j hjn => by rw [hj.2.1 j hjn]; exact hP j hjn⟩
set_option maxHeartbeats 4000000 in
theorem ml_book (hn : n ≤ 60) (hP : bSg n P) (hj : kMJ n P F I M) : zEx m_X_book 0 0 [.ref 35] (SHP g X) M (qR g X (fun r M1 => r = (aBook n P F).1 ∧ kMJ (aBook n P F).2.1 P (aBook n P F).2.2 I M1 ∧ kOS M M1)) := by
  have hp := kMJ_pd hn hP hj
  have hc : bRun (M 37) 0 n bA0 = bRun P 0 n bA0 := bRun_cg hj.2.1 n 0 bA0 (by omega)
  refine zEx_of _ (by decide) (by simp [Value.category]) (Nat.le_of_ble_eq_true rfl) rfl (v_X_book_0 g X M _ ⟨⟨n, hp⟩, fun r M1 ⟨h1, h2⟩ => ?_⟩)
  subst h2
  have h3 := h1 n hp
  unfold bFo at h3
  rw [hc] at h3
  refine ⟨fun hr => ?_, fun hr => qR_i ?_⟩
  · rcases h3 with ⟨_, B, e, hB⟩ | h3
    · have ea : aBook n P F = (nI B.2.1, 0, setB F B) := by unfold aBook aBk; rw [e]; exact if_pos hB
      rw [ea]
      simp only
      rw [← hc] at e
      have L84 := bkL84 g X M1 n hn hp.2.2 (qR g X (fun r M2 => r = nI B.2.1 ∧ kMJ 0 P (setB F B) I M2 ∧ kOS M1 M2)) B (fun M2 j1 j2 j3 j4 j5 => qR_i ⟨?_, ⟨?_, fun j h => absurd h (Nat.not_lt_zero j), ⟨?_, ?_, ?_, ?_, ?_, ?_, ?_, ?_, ?_⟩, ?_⟩, ?_⟩)
      · have L56 : ∀ d k M2, k + d = 10 → bkJ M1 M2 n → M2 35 6 = 0 → (∀ j, j < 50 → M2 38 j = bA0.2.2.2.2.2 j) → (∀ j, j < k → M2 39 j = 0) → zRT m_X_book 0 0 56 [(0, .ref 35), (1, .int (nI k))] [] (SHP g X) M2 (qR g X (fun r M2 => r = nI B.2.1 ∧ kMJ 0 P (setB F B) I M2 ∧ kOS M1 M2)) := by
          intro d
          induction d with
          | zero =>
            intro k M2 hk a1 a2 a3 a4
            have ek : k = 10 := by omega
            subst ek
            refine v_X_book_56 g X M2 _ _ ⟨fun _ => L84 n 0 bA0 (zms M2 35 9 0) (by omega) bInv_0 a1.s9 ?_ ?_ ?_ ?_ e, fun h => absurd (nI_le (a := 10) (by omega) (by omega)) h⟩
            · rw [zms_at, if_neg (by decide)]; exact a2
            · rw [zms_at, if_pos rfl]
            · rw [zms_ne _ _ _ _ 38 (by decide)]; exact a3
            · rw [zms_ne _ _ _ _ 39 (by decide)]; exact a4
          | succ d ih =>
            intro k M2 hk a1 a2 a3 a4
            refine v_X_book_56 g X M2 _ _ ⟨fun h => absurd h (nI_ge (b := 10) (by omega) (by omega)), fun _ => ⟨vp_in_nI (by omega) (by decide), ?_⟩⟩
            rw [nI_1, nI_clamp (by omega)]
            refine ih (k + 1) _ (by omega) a1.s39 ?_ ?_ (kUp (f := fun _ => 0) a4 rfl)
            · rw [zms_ne _ _ _ _ 35 (by decide)]; exact a2
            · rw [zms_ne _ _ _ _ 38 (by decide)]; exact a3
        have L17 : ∀ d k M2, k + d = 50 → bkJ M1 M2 n → M2 35 6 = 0 → (∀ j, j < k → M2 38 j = bA0.2.2.2.2.2 j) → zRT m_X_book 0 0 17 [(0, .ref 35), (1, .int (nI k))] [] (SHP g X) M2 (qR g X (fun r M2 => r = nI B.2.1 ∧ kMJ 0 P (setB F B) I M2 ∧ kOS M1 M2)) := by
          intro d
          induction d with
          | zero =>
            intro k M2 hk a1 a2 a3
            have ek : k = 50 := by omega
            subst ek
            exact v_X_book_17 g X M2 _ _ ⟨fun _ => L56 10 0 M2 (by omega) a1 a2 a3 (fun j h => absurd h (Nat.not_lt_zero j)), fun h => absurd (nI_le (a := 50) (by omega) (by omega)) h⟩
          | succ d ih =>
            intro k M2 hk a1 a2 a3
            refine v_X_book_17 g X M2 _ _ ⟨fun h => absurd h (nI_ge (b := 50) (by omega) (by omega)), fun _ => ?_⟩
            rw [show (5 : Int32) = nI 5 from rfl, pk_rem (by omega) (by decide) (by decide), nI_1, nI_clamp (by omega)]
            have r0 : nI (k % 5) = 0 ↔ k % 5 = 0 := nI_eq (b := 0) (by omega) (by omega)
            have r4 : nI (k % 5) = 4 ↔ k % 5 = 4 := nI_eq (b := 4) (by omega) (by omega)
            rw [r0, r4]
            have go : ∀ v, v = bA0.2.2.2.2.2 k → zRT m_X_book 0 0 17 [(0, .ref 35), (1, .int (nI (k + 1)))] [] (SHP g X) (zms M2 38 k v) (qR g X (fun r M2 => r = nI B.2.1 ∧ kMJ 0 P (setB F B) I M2 ∧ kOS M1 M2)) := fun v hv => by
              refine ih (k + 1) _ (by omega) a1.s38 ?_ (kUp a3 hv)
              rw [zms_ne _ _ _ _ 35 (by decide)]; exact a2
            have wv : vp_in (nI k) 50 := vp_in_nI (by omega) (by decide)
            exact ⟨fun h => ⟨wv, go 0 (if_pos (Or.inl h)).symm⟩, fun h => ⟨fun h4 => ⟨wv, go (-6) (if_neg (fun h => h.elim (by assumption) (by assumption))).symm⟩, fun h4 => ⟨wv, go 0 (if_pos (Or.inr h4)).symm⟩⟩⟩
        refine L17 50 0 _ (by omega) (bkJ.s6 ⟨kAg.rf, hj.1, rfl, rfl, rfl⟩) ?_ (fun j h => absurd h (Nat.not_lt_zero j))
        rw [zms_at, if_pos rfl]
      · rw [zms_at, if_neg (by decide)]; exact j2
      · rw [zms_at, if_pos rfl]; rfl
      · rw [zms_ne _ _ _ _ 38 (by decide)]; exact j4
      · rw [zms_ne _ _ _ _ 39 (by decide)]; exact j5
      · rw [zms_ne _ _ _ _ 40 (by decide), j1.1 40 (by decide)]; exact hj.2.2.1.2.2.1
      · rw [zms_ne _ _ _ _ 36 (by decide), j1.1 36 (by decide)]; exact hj.2.2.1.2.2.2.1
      · rw [zms_at, if_neg (by decide)]; exact j2
      · rw [zms_at, if_neg (by decide)]; exact j3
      · rw [zms_at, if_neg (by decide), j1.2.2.1]; exact hj.2.2.1.2.2.2.2.2.2.1
      · rw [zms_at, if_neg (by decide), j1.2.2.2.1]; exact hj.2.2.1.2.2.2.2.2.2.2.1
      · rw [zms_at, if_neg (by decide), j1.2.2.2.2]; exact hj.2.2.1.2.2.2.2.2.2.2.2
      · have e51 : zms M2 35 4 0 51 = M1 51 := (zms_ne _ _ _ _ 51 (by decide)).trans (j1.1 51 (by decide))
        have e50 : zms M2 35 4 0 50 = M1 50 := (zms_ne _ _ _ _ 50 (by decide)).trans (j1.1 50 (by decide))
        unfold kMI
        rw [e51, e50]
        exact hj.2.2.2
      · exact kOS_ag (l := [35, 38, 39]) (j1.1.st (by decide)) (by decide)
    · exact absurd hr h3.1
  · rcases h3 with h3 | ⟨_, h4⟩
    · exact absurd h3.1 hr
    · have ea : aBook n P F = (-5, n, F) := by
        unfold aBook aBk
        cases e : bRun P 0 n bA0 with
        | none => rfl
        | some B => exact if_neg (h4 B e)
      rw [ea]
      exact ⟨rfl, hj, kOS_rf⟩
theorem ml_fault (hn : n ≤ 60) (hP : bSg n P) (hj : kMJ n P F I M) : zEx m_X_fault 0 0 [.ref 35] (SHP g X) M (qR g X (fun _ M1 => M1 = M)) := ex_X_fault g X M ⟨n, kMJ_pd hn hP hj⟩
end zX11
