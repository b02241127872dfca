/-! Pad, Reader -/
def kPad (M : zMem) : Prop := ∃ n : Nat, n ≤ 60 ∧ M 1 1 = nI n
def kDr (M : zMem) : Prop := ∃ n : Nat, n ≤ 10 ∧ M 4 5 = nI n
def kClr (M : zMem) (k : Nat) : zMem := zms (zms (zms (zms (zms M 5 k 0) 6 k (-6)) 7 k (-6)) 8 k (-6)) 9 k 0
def kRoom (M : zMem) (k : Int32) : Bool := !decide (M 3 1 = 2) && (!decide (M 3 1 = 4) && !decide (3 ≤ bc (M 5 (Int32.toNatClampNeg k))))
def kTFrom (M : zMem) (k t : Int32) : Bool × zMem := if M 3 1 ≤ 1 then (if M 6 (Int32.toNatClampNeg k) = -6 then (true, zms (zms M 6 (Int32.toNatClampNeg k) t) 3 1 1) else if M 7 (Int32.toNatClampNeg k) = -6 then (if t ≤ M 6 (Int32.toNatClampNeg k) then (false, M) else (true, zms (zms M 7 (Int32.toNatClampNeg k) t) 3 1 1)) else (false, M)) else (false, M)
def kTPlus (M : zMem) (k : Int32) : Bool × zMem := if 1 < M 3 1 then (false, M) else if k = 0 then (false, M) else (true, zms M 3 1 2)
def kTTool (M : zMem) (k t : Int32) : Bool × zMem := (true, zms (zms M 8 (Int32.toNatClampNeg k) t) 3 1 3)
def kTMan (M : zMem) (k m : Int32) : Bool × zMem := if kRoom M k = true then (if (M 5 (Int32.toNatClampNeg k)) >>> (m &&& 31) = 0 then (true, zms (zms M 5 (Int32.toNatClampNeg k) (M 5 (Int32.toNatClampNeg k) ||| ((1 : Int32) <<< (m &&& 31)))) 3 1 3) else (false, M)) else (false, M)
def kTAsk (M : zMem) (k : Int32) : Bool × zMem := if kRoom M k = true then (if M 3 2 < 4 then (true, zms (zms (zms M 9 (Int32.toNatClampNeg k) 1) 3 2 (M 3 2 + 1)) 3 1 4) else (false, M)) else (false, M)
def kTEnd (M : zMem) (k : Int32) : Bool × zMem := if M 5 (Int32.toNatClampNeg k) = 0 ∧ M 9 (Int32.toNatClampNeg k) = 0 then (false, M) else (true, if 10 ≤ k + 1 then zms (zms M 4 5 (k + 1)) 3 1 0 else zms (kClr (zms M 4 5 (k + 1)) (Int32.toNatClampNeg (k + 1))) 3 1 0)
def kTk3 (M : zMem) (s : Int32) : Bool × zMem := if s = 43 then kTPlus M (M 4 5) else if s = 59 then kTEnd M (M 4 5) else if s = 63 then kTAsk M (M 4 5) else (false, M)
def kTk2 (M : zMem) (s : Int32) : Bool × zMem := if s < 65 then kTk3 M s else if 71 ≤ s then kTk3 M s else kTMan M (M 4 5) (s - 65)
def kTk (M : zMem) (s : Int32) : Bool × zMem := if M 4 5 < 10 then (if s < 97 then kTk2 M s else if (97 : Int32) + M 4 5 ≤ s then kTk2 M s else if M 3 1 = 2 then kTTool M (M 4 5) (s - 97) else kTFrom M (M 4 5) (s - 97)) else (false, M)
def kRdn : Nat → Nat → zMem → Int32 × zMem
  | _, 0, M => (if M 3 1 = 0 then -6 else M 1 1, M)
  | k, n + 1, M => if (kTk M (M 2 k)).1 = true then kRdn (k + 1) n (kTk M (M 2 k)).2 else (nI k, (kTk M (M 2 k)).2)
def kRd0 (M : zMem) : zMem := zms (zms (kClr (zms M 4 5 0) 0) 3 1 0) 3 2 0
def kRd (M : zMem) : Int32 × zMem := kRdn 0 (Int32.toNatClampNeg (M 1 1)) (kRd0 M)
theorem kDr_in {M : zMem} (h : kDr M) (h2 : M 4 5 < 10) : vp_in (M 4 5) 10 := by
  obtain ⟨n, hn, e⟩ := h
  rw [e] at h2 ⊢
  rw [show (10 : Int32) = nI 10 from rfl, nI_ltI (by omega) (by decide)] at h2
  exact vp_in_nI h2 (by decide)
theorem kClr_ag {l : List Nat} {M M1 : zMem} (k : Nat) (h : kAg l M M1) (hl : 5 ∈ l ∧ 6 ∈ l ∧ 7 ∈ l ∧ 8 ∈ l ∧ 9 ∈ l) : kAg l M (kClr M1 k) := ((((h.st hl.1).st hl.2.1).st hl.2.2.1).st hl.2.2.2.1).st hl.2.2.2.2
abbrev kRS : List Nat := [3, 4, 5, 6, 7, 8, 9]
theorem kP_ite {α : Type} {c : Prop} [Decidable c] {P : α → Prop} {a b : α} (ha : c → P a) (hb : ¬ c → P b) : P (if c then a else b) := by
  by_cases h : c
  · rw [if_pos h]; exact ha h
  · rw [if_neg h]; exact hb h
/-- what holds of a sign that is taken, or not, whatever it is -/
theorem kTk_all {P : Bool × zMem → Prop} (M : zMem) (s : Int32) (h0 : P (false, M)) (hF : ∀ p, p = 6 ∨ p = 7 → ∀ t, P (true, zms (zms M p (Int32.toNatClampNeg (M 4 5)) t) 3 1 1)) (hP : P (true, zms M 3 1 2)) (hT : ∀ t, P (true, zms (zms M 8 (Int32.toNatClampNeg (M 4 5)) t) 3 1 3)) (hM : ∀ t, P (true, zms (zms M 5 (Int32.toNatClampNeg (M 4 5)) t) 3 1 3)) (hA : P (true, zms (zms (zms M 9 (Int32.toNatClampNeg (M 4 5)) 1) 3 2 (M 3 2 + 1)) 3 1 4)) (hE : M 4 5 < 10 → P (true, if 10 ≤ M 4 5 + 1 then zms (zms M 4 5 (M 4 5 + 1)) 3 1 0 else zms (kClr (zms M 4 5 (M 4 5 + 1)) (Int32.toNatClampNeg (M 4 5 + 1))) 3 1 0)) : P (kTk M s) := by
  unfold kTk
  refine kP_ite (fun h10 => ?_) (fun _ => h0)
  have h3 : P (kTk3 M s) := by
    unfold kTk3 kTPlus kTEnd kTAsk
    exact kP_ite (fun _ => kP_ite (fun _ => h0) (fun _ => kP_ite (fun _ => h0) (fun _ => hP))) (fun _ => kP_ite (fun _ => kP_ite (fun _ => h0) (fun _ => hE h10)) (fun _ => kP_ite (fun _ => kP_ite (fun _ => kP_ite (fun _ => hA) (fun _ => h0)) (fun _ => h0)) (fun _ => h0)))
  have h2 : P (kTk2 M s) := by
    unfold kTk2 kTMan
    exact kP_ite (fun _ => h3) (fun _ => kP_ite (fun _ => h3) (fun _ => kP_ite (fun _ => kP_ite (fun _ => hM _) (fun _ => h0)) (fun _ => h0)))
  unfold kTTool kTFrom
  exact kP_ite (fun _ => h2) (fun _ => kP_ite (fun _ => h2) (fun _ => kP_ite (fun _ => hT _) (fun _ => kP_ite (fun _ => kP_ite (fun _ => hF 6 (Or.inl rfl) _) (fun _ => kP_ite (fun _ => kP_ite (fun _ => h0) (fun _ => hF 7 (Or.inr rfl) _)) (fun _ => h0))) (fun _ => h0))))
theorem kTk_ag (M : zMem) (s : Int32) : kAg kRS M (kTk M s).2 := by
  refine kTk_all (P := fun x => kAg kRS M x.2) M s kAg.rf (fun p hp t => ?_) (kAg.rf.st (by decide)) (fun t => (kAg.rf.st (by decide)).st (by decide)) (fun t => (kAg.rf.st (by decide)).st (by decide)) (((kAg.rf.st (by decide)).st (by decide)).st (by decide)) (fun _ => kP_ite (fun _ => (kAg.rf.st (by decide)).st (by decide)) (fun _ => ?_))
  · rcases hp with rfl | rfl
    · exact (kAg.rf.st (by decide)).st (by decide)
    · exact (kAg.rf.st (by decide)).st (by decide)
  · exact (kClr_ag (l := kRS) _ (kAg.rf.st (by decide)) (by decide)).st (by decide)
theorem kTk_dr (M : zMem) (s : Int32) (h : kDr M) : kDr (kTk M s).2 := by
  refine kTk_all (P := fun x => kDr x.2) M s h (fun p hp t => ?_) h (fun t => h) (fun t => h) h (fun h10 => ?_)
  · rcases hp with rfl | rfl <;> exact h
  · obtain ⟨n, hn, e⟩ := h
    have hn2 : n < 10 := by
      rw [e, show (10 : Int32) = nI 10 from rfl, nI_ltI (by omega) (by decide)] at h10
      exact h10
    refine kP_ite (P := kDr) (fun _ => ⟨n + 1, by omega, ?_⟩) (fun _ => ⟨n + 1, by omega, ?_⟩)
    · rw [← nI_1, ← e]; rfl
    · rw [← nI_1, ← e]; rfl
section zC6
variable (g : Nat → Option Nat) (X : List zShp) (M : zMem)
theorem v_Pad_put_0 (g : Nat → Option Nat) (X : List zShp) (M : zMem) (x1 : Int32) (R : zEnd) (h : (((M 1 1) < 60) → ((vp_in (M 1 1) 60) ∧ (R (some (.int ((zms (zms M 2 (Int32.toNatClampNeg (M 1 1)) x1) 1 1 ((M 1 1) + 1)) 1 1))) (SHP g X) (zms (zms M 2 (Int32.toNatClampNeg (M 1 1)) x1) 1 1 ((M 1 1) + 1))))) ∧ ((¬ (M 1 1) < 60) → (R (some (.int (-4))) (SHP g X) M))) : zRT m_Pad_put 0 0 0 [(0, .ref 1), (1, .int x1)] [] (SHP g X) M R := by
  refine zs_aload_n 0 d_Pad_put_0 rfl (List.mem_of_getElem? (i := 0) rfl) ?_
  refine zs_get d_Pad_put_1 gf_Pad_15 (sh_1 g X) rfl ?_
  refine zs_bipush 60 d_Pad_put_4 (by decide) ?_
  refine zs_icmp_lt 12 d_Pad_put_6 (by decide) (fun c1 => ?_) (fun c1 => ?_)
  · replace h := h.1 c1
    refine zs_aload_n 0 d_Pad_put_12 rfl (List.mem_of_getElem? (i := 0) rfl) ?_
    refine zs_get d_Pad_put_13 gf_Pad_9 (sh_1 g X) rfl ?_
    refine zs_aload_n 0 d_Pad_put_16 rfl (List.mem_of_getElem? (i := 0) rfl) ?_
    refine zs_get d_Pad_put_17 gf_Pad_15 (sh_1 g X) rfl ?_
    refine zs_iload_n 1 d_Pad_put_20 rfl (List.mem_of_getElem? (i := 1) rfl) ?_
    obtain ⟨b2, h⟩ := h
    refine zs_iast d_Pad_put_21 (sh_2 g X) b2 ?_
    refine zs_aload_n 0 d_Pad_put_22 rfl (List.mem_of_getElem? (i := 0) rfl) ?_
    refine zs_dup d_Pad_put_23 rfl ?_
    refine zs_get d_Pad_put_24 gf_Pad_15 (sh_1 g X) rfl ?_
    refine zs_iconst 1 d_Pad_put_27 (by decide) ?_
    refine zs_iadd d_Pad_put_28 ?_
    refine zs_put d_Pad_put_29 pf_Pad_15 (sh_1 g X) rfl rfl rfl ?_
    refine zs_aload_n 0 d_Pad_put_32 rfl (List.mem_of_getElem? (i := 0) rfl) ?_
    refine zs_get d_Pad_put_33 gf_Pad_15 (sh_1 g X) rfl ?_
    exact zs_iret d_Pad_put_36 rfl h
  · replace h := h.2 c1
    refine zs_bipush (-4) d_Pad_put_9 (by decide) ?_
    exact zs_iret d_Pad_put_11 rfl h
theorem ex_Pad_put (s : Int32) (hh : kPad M) : zEx m_Pad_put 0 0 [.ref 1, .int s] (SHP g X) M (qF g X (if (M 1 1) < 60 then (M 1 1) + 1 else -4) (if (M 1 1) < 60 then zms (zms M 2 (Int32.toNatClampNeg (M 1 1)) s) 1 1 ((M 1 1) + 1) else M)) := by
  refine zEx_of _ (by decide) (by simp [Value.category]) (Nat.le_of_ble_eq_true rfl) rfl (v_Pad_put_0 g X M s _ ⟨fun h => ⟨?_, ?_⟩, fun h => qF_i (by rw [if_neg h]) (by rw [if_neg h])⟩)
  · obtain ⟨n, hn, e⟩ := hh
    rw [e] at h ⊢
    rw [show (60 : Int32) = nI 60 from rfl, nI_ltI (by omega) (by decide)] at h
    exact vp_in_nI h (by decide)
  · exact qF_i (by rw [if_pos h]; rfl) (by rw [if_pos h])
theorem v_Pad_clear_0 (g : Nat → Option Nat) (X : List zShp) (M : zMem) (R : zEnd) (h : R (some (.int (M 1 1))) (SHP g X) (zms M 1 1 0)) : zRT m_Pad_clear 0 0 0 [(0, .ref 1)] [] (SHP g X) M R := by
  refine zs_aload_n 0 d_Pad_clear_0 rfl (List.mem_of_getElem? (i := 0) rfl) ?_
  refine zs_get d_Pad_clear_1 gf_Pad_15 (sh_1 g X) rfl ?_
  refine zs_istore_n2 1 [1, 0] [(0, .ref 1), (1, .int (M 1 1))] d_Pad_clear_4 rfl (by decide) rfl ?_
  refine zs_aload_n 0 d_Pad_clear_5 rfl (List.mem_of_getElem? (i := 0) rfl) ?_
  refine zs_iconst 0 d_Pad_clear_6 (by decide) ?_
  refine zs_put d_Pad_clear_7 pf_Pad_15 (sh_1 g X) rfl rfl rfl ?_
  refine zs_iload_n 1 d_Pad_clear_10 rfl (List.mem_of_getElem? (i := 1) rfl) ?_
  exact zs_iret d_Pad_clear_11 rfl h
theorem ex_Pad_clear : zEx m_Pad_clear 0 0 [.ref 1] (SHP g X) M (qF g X (M 1 1) (zms M 1 1 0)) :=
  zEx_of _ (by decide) (by simp [Value.category]) (Nat.le_of_ble_eq_true rfl) rfl (v_Pad_clear_0 g X M _ (qF_i rfl rfl))
theorem v_Pages_clearMaking_0 (g : Nat → Option Nat) (X : List zShp) (M : zMem) (x1 : Int32) (R : zEnd) (h : (vp_in x1 10) ∧ (R none (SHP g X) (zms (zms (zms (zms (zms M 5 (Int32.toNatClampNeg x1) 0) 6 (Int32.toNatClampNeg x1) (-6)) 7 (Int32.toNatClampNeg x1) (-6)) 8 (Int32.toNatClampNeg x1) (-6)) 9 (Int32.toNatClampNeg x1) 0))) : zRT m_Pages_clearMaking 0 0 0 [(0, .ref 4), (1, .int x1)] [] (SHP g X) M R := by
  refine zs_aload_n 0 d_Pages_clearMaking_0 rfl (List.mem_of_getElem? (i := 0) rfl) ?_
  refine zs_get d_Pages_clearMaking_1 gf_Pages_9 (sh_4 g X) rfl ?_
  refine zs_iload_n 1 d_Pages_clearMaking_4 rfl (List.mem_of_getElem? (i := 1) rfl) ?_
  refine zs_iconst 0 d_Pages_clearMaking_5 (by decide) ?_
  obtain ⟨b1, h⟩ := h
  refine zs_iast d_Pages_clearMaking_6 (sh_5 g X) b1 ?_
  refine zs_aload_n 0 d_Pages_clearMaking_7 rfl (List.mem_of_getElem? (i := 0) rfl) ?_
  refine zs_get d_Pages_clearMaking_8 gf_Pages_15 (sh_4 g X) rfl ?_
  refine zs_iload_n 1 d_Pages_clearMaking_11 rfl (List.mem_of_getElem? (i := 1) rfl) ?_
  refine zs_bipush (-6) d_Pages_clearMaking_12 (by decide) ?_
  refine zs_iast d_Pages_clearMaking_14 (sh_6 g X) b1 ?_
  refine zs_aload_n 0 d_Pages_clearMaking_15 rfl (List.mem_of_getElem? (i := 0) rfl) ?_
  refine zs_get d_Pages_clearMaking_16 gf_Pages_18 (sh_4 g X) rfl ?_
  refine zs_iload_n 1 d_Pages_clearMaking_19 rfl (List.mem_of_getElem? (i := 1) rfl) ?_
  refine zs_bipush (-6) d_Pages_clearMaking_20 (by decide) ?_
  refine zs_iast d_Pages_clearMaking_22 (sh_7 g X) b1 ?_
  refine zs_aload_n 0 d_Pages_clearMaking_23 rfl (List.mem_of_getElem? (i := 0) rfl) ?_
  refine zs_get d_Pages_clearMaking_24 gf_Pages_21 (sh_4 g X) rfl ?_
  refine zs_iload_n 1 d_Pages_clearMaking_27 rfl (List.mem_of_getElem? (i := 1) rfl) ?_
  refine zs_bipush (-6) d_Pages_clearMaking_28 (by decide) ?_
  refine zs_iast d_Pages_clearMaking_30 (sh_8 g X) b1 ?_
  refine zs_aload_n 0 d_Pages_clearMaking_31 rfl (List.mem_of_getElem? (i := 0) rfl) ?_
  refine zs_get d_Pages_clearMaking_32 gf_Pages_24 (sh_4 g X) rfl ?_
  refine zs_iload_n 1 d_Pages_clearMaking_35 rfl (List.mem_of_getElem? (i := 1) rfl) ?_
  refine zs_iconst 0 d_Pages_clearMaking_36 (by decide) ?_
  refine zs_iast d_Pages_clearMaking_37 (sh_9 g X) b1 ?_
  exact zs_vret d_Pages_clearMaking_38 rfl h
theorem ex_Pages_clearMaking (k : Int32) (hh : vp_in k 10) : zEx m_Pages_clearMaking 0 0 [.ref 4, .int k] (SHP g X) M (qV g X (kClr M (Int32.toNatClampNeg k))) :=
  zEx_of _ (by decide) (by simp [Value.category]) (Nat.le_of_ble_eq_true rfl) rfl (v_Pages_clearMaking_0 g X M k _ ⟨hh, rfl, rfl, rfl⟩)
theorem v_Reader_hasRoomForHand_0 (g : Nat → Option Nat) (X : List zShp) (M : zMem) (x1 : Int32) (R : zEnd) (h : (((M 3 1) = 2) → (R (some (.int 0)) (SHP g X) M)) ∧ ((¬ (M 3 1) = 2) → ((((M 3 1) = 4) → (R (some (.int 0)) (SHP g X) M)) ∧ ((¬ (M 3 1) = 4) → ((vp_in x1 10) ∧ (((3 ≤ (bc (M 5 (Int32.toNatClampNeg x1)))) → (R (some (.int 0)) (SHP g X) M)) ∧ ((¬ 3 ≤ (bc (M 5 (Int32.toNatClampNeg x1)))) → (R (some (.int 1)) (SHP g X) M)))))))) : zRT m_Reader_hasRoomForHand 0 0 0 [(0, .ref 3), (1, .int x1)] [] (SHP g X) M R := by
  refine zs_aload_n 0 d_Reader_hasRoomForHand_0 rfl (List.mem_of_getElem? (i := 0) rfl) ?_
  refine zs_get d_Reader_hasRoomForHand_1 gf_Reader_26 (sh_3 g X) rfl ?_
  refine zs_iconst 2 d_Reader_hasRoomForHand_4 (by decide) ?_
  refine zs_icmp_eq 36 d_Reader_hasRoomForHand_5 (by decide) (fun c1 => ?_) (fun c1 => ?_)
  · replace h := h.1 c1
    refine zs_iconst 0 d_Reader_hasRoomForHand_36 (by decide) ?_
    exact zs_zret (by decide) d_Reader_hasRoomForHand_37 rfl h
  · replace h := h.2 c1
    refine zs_aload_n 0 d_Reader_hasRoomForHand_8 rfl (List.mem_of_getElem? (i := 0) rfl) ?_
    refine zs_get d_Reader_hasRoomForHand_9 gf_Reader_26 (sh_3 g X) rfl ?_
    refine zs_iconst 4 d_Reader_hasRoomForHand_12 (by decide) ?_
    refine zs_icmp_eq 36 d_Reader_hasRoomForHand_13 (by decide) (fun c2 => ?_) (fun c2 => ?_)
    · replace h := h.1 c2
      refine zs_iconst 0 d_Reader_hasRoomForHand_36 (by decide) ?_
      exact zs_zret (by decide) d_Reader_hasRoomForHand_37 rfl h
    · replace h := h.2 c2
      refine zs_aload_n 0 d_Reader_hasRoomForHand_16 rfl (List.mem_of_getElem? (i := 0) rfl) ?_
      refine zs_get d_Reader_hasRoomForHand_17 gf_Reader_12 (sh_3 g X) rfl ?_
      refine zs_get d_Reader_hasRoomForHand_20 gf_Reader_71 (sh_4 g X) rfl ?_
      refine zs_iload_n 1 d_Reader_hasRoomForHand_23 rfl (List.mem_of_getElem? (i := 1) rfl) ?_
      obtain ⟨b3, h⟩ := h
      refine zs_iald d_Reader_hasRoomForHand_24 (sh_5 g X) b3 ?_
      refine zs_callS (kc := 0) (ks := 0) (kc1 := 0) (ks1 := 0) (st := []) [.int (M 5 (Int32.toNatClampNeg x1))] d_Reader_hasRoomForHand_25 lk_Reader_74 ⟨by decide, by decide⟩ rfl (Nat.le_of_ble_eq_true rfl) (ex_JI_bitCount g X M (M 5 (Int32.toNatClampNeg x1))) (fun v4 sh4 M4 hR => ?_)
      obtain ⟨rfl, rfl, rfl⟩ := hR
      refine zs_iconst 3 d_Reader_hasRoomForHand_28 (by decide) ?_
      refine zs_icmp_ge 36 d_Reader_hasRoomForHand_29 (by decide) (fun c5 => ?_) (fun c5 => ?_)
      · replace h := h.1 c5
        refine zs_iconst 0 d_Reader_hasRoomForHand_36 (by decide) ?_
        exact zs_zret (by decide) d_Reader_hasRoomForHand_37 rfl h
      · replace h := h.2 c5
        refine zs_iconst 1 d_Reader_hasRoomForHand_32 (by decide) ?_
        refine zs_goto 37 d_Reader_hasRoomForHand_33 (by decide) ?_
        exact zs_zret (by decide) d_Reader_hasRoomForHand_37 rfl h
theorem ex_Reader_hasRoomForHand (k : Int32) (hh : vp_in k 10) : zEx m_Reader_hasRoomForHand 0 0 [.ref 3, .int k] (SHP g X) M (qF g X (bI (kRoom M k)) M) := by
  refine zEx_of _ (by decide) (by simp [Value.category]) (Nat.le_of_ble_eq_true rfl) rfl (v_Reader_hasRoomForHand_0 g X M k _ ⟨fun h => qF_i ?_ rfl, fun h => ⟨fun h2 => qF_i ?_ rfl, fun h2 => ⟨hh, fun h3 => qF_i ?_ rfl, fun h3 => qF_i ?_ rfl⟩⟩⟩) <;> simp [kRoom, *, bI]
theorem v_Reader_takesFrom_0 (g : Nat → Option Nat) (X : List zShp) (M : zMem) (x1 x2 : Int32) (R : zEnd) (h : (((M 3 1) ≤ 1) → ((vp_in x1 10) ∧ (((¬ (M 6 (Int32.toNatClampNeg x1)) = (-6)) → (((¬ (M 7 (Int32.toNatClampNeg x1)) = (-6)) → (R (some (.int 0)) (SHP g X) M)) ∧ (((M 7 (Int32.toNatClampNeg x1)) = (-6)) → (((x2 ≤ (M 6 (Int32.toNatClampNeg x1))) → (R (some (.int 0)) (SHP g X) M)) ∧ ((¬ x2 ≤ (M 6 (Int32.toNatClampNeg x1))) → (R (some (.int 1)) (SHP g X) (zms (zms M 7 (Int32.toNatClampNeg x1) x2) 3 1 1))))))) ∧ (((M 6 (Int32.toNatClampNeg x1)) = (-6)) → (R (some (.int 1)) (SHP g X) (zms (zms M 6 (Int32.toNatClampNeg x1) x2) 3 1 1)))))) ∧ ((¬ (M 3 1) ≤ 1) → (R (some (.int 0)) (SHP g X) M))) : zRT m_Reader_takesFrom 0 0 0 [(0, .ref 3), (1, .int x1), (2, .int x2)] [] (SHP g X) M R := by
  refine zs_aload_n 0 d_Reader_takesFrom_0 rfl (List.mem_of_getElem? (i := 0) rfl) ?_
  refine zs_get d_Reader_takesFrom_1 gf_Reader_26 (sh_3 g X) rfl ?_
  refine zs_iconst 1 d_Reader_takesFrom_4 (by decide) ?_
  refine zs_icmp_le 10 d_Reader_takesFrom_5 (by decide) (fun c1 => ?_) (fun c1 => ?_)
  · replace h := h.1 c1
    refine zs_aload_n 0 d_Reader_takesFrom_10 rfl (List.mem_of_getElem? (i := 0) rfl) ?_
    refine zs_get d_Reader_takesFrom_11 gf_Reader_12 (sh_3 g X) rfl ?_
    refine zs_get d_Reader_takesFrom_14 gf_Reader_62 (sh_4 g X) rfl ?_
    refine zs_iload_n 1 d_Reader_takesFrom_17 rfl (List.mem_of_getElem? (i := 1) rfl) ?_
    obtain ⟨b2, h⟩ := h
    refine zs_iald d_Reader_takesFrom_18 (sh_6 g X) b2 ?_
    refine zs_bipush (-6) d_Reader_takesFrom_19 (by decide) ?_
    refine zs_icmp_ne 37 d_Reader_takesFrom_21 (by decide) (fun c3 => ?_) (fun c3 => ?_)
    · replace h := h.1 c3
      refine zs_aload_n 0 d_Reader_takesFrom_37 rfl (List.mem_of_getElem? (i := 0) rfl) ?_
      refine zs_get d_Reader_takesFrom_38 gf_Reader_12 (sh_3 g X) rfl ?_
      refine zs_get d_Reader_takesFrom_41 gf_Reader_65 (sh_4 g X) rfl ?_
      refine zs_iload_n 1 d_Reader_takesFrom_44 rfl (List.mem_of_getElem? (i := 1) rfl) ?_
      refine zs_iald d_Reader_takesFrom_45 (sh_7 g X) b2 ?_
      refine zs_bipush (-6) d_Reader_takesFrom_46 (by decide) ?_
      refine zs_icmp_ne 77 d_Reader_takesFrom_48 (by decide) (fun c4 => ?_) (fun c4 => ?_)
      · replace h := h.1 c4
        refine zs_iconst 0 d_Reader_takesFrom_77 (by decide) ?_
        exact zs_zret (by decide) d_Reader_takesFrom_78 rfl h
      · replace h := h.2 c4
        refine zs_iload_n 2 d_Reader_takesFrom_51 rfl (List.mem_of_getElem? (i := 2) rfl) ?_
        refine zs_aload_n 0 d_Reader_takesFrom_52 rfl (List.mem_of_getElem? (i := 0) rfl) ?_
        refine zs_get d_Reader_takesFrom_53 gf_Reader_12 (sh_3 g X) rfl ?_
        refine zs_get d_Reader_takesFrom_56 gf_Reader_62 (sh_4 g X) rfl ?_
        refine zs_iload_n 1 d_Reader_takesFrom_59 rfl (List.mem_of_getElem? (i := 1) rfl) ?_
        refine zs_iald d_Reader_takesFrom_60 (sh_6 g X) b2 ?_
        refine zs_icmp_le 77 d_Reader_takesFrom_61 (by decide) (fun c5 => ?_) (fun c5 => ?_)
        · replace h := h.1 c5
          refine zs_iconst 0 d_Reader_takesFrom_77 (by decide) ?_
          exact zs_zret (by decide) d_Reader_takesFrom_78 rfl h
        · replace h := h.2 c5
          refine zs_aload_n 0 d_Reader_takesFrom_64 rfl (List.mem_of_getElem? (i := 0) rfl) ?_
          refine zs_get d_Reader_takesFrom_65 gf_Reader_12 (sh_3 g X) rfl ?_
          refine zs_get d_Reader_takesFrom_68 gf_Reader_65 (sh_4 g X) rfl ?_
          refine zs_iload_n 1 d_Reader_takesFrom_71 rfl (List.mem_of_getElem? (i := 1) rfl) ?_
          refine zs_iload_n 2 d_Reader_takesFrom_72 rfl (List.mem_of_getElem? (i := 2) rfl) ?_
          refine zs_iast d_Reader_takesFrom_73 (sh_7 g X) b2 ?_
          refine zs_goto 79 d_Reader_takesFrom_74 (by decide) ?_
          refine zs_aload_n 0 d_Reader_takesFrom_79 rfl (List.mem_of_getElem? (i := 0) rfl) ?_
          refine zs_iconst 1 d_Reader_takesFrom_80 (by decide) ?_
          refine zs_put d_Reader_takesFrom_81 pf_Reader_26 (sh_3 g X) rfl rfl rfl ?_
          refine zs_iconst 1 d_Reader_takesFrom_84 (by decide) ?_
          exact zs_zret (by decide) d_Reader_takesFrom_85 rfl h
    · replace h := h.2 c3
      refine zs_aload_n 0 d_Reader_takesFrom_24 rfl (List.mem_of_getElem? (i := 0) rfl) ?_
      refine zs_get d_Reader_takesFrom_25 gf_Reader_12 (sh_3 g X) rfl ?_
      refine zs_get d_Reader_takesFrom_28 gf_Reader_62 (sh_4 g X) rfl ?_
      refine zs_iload_n 1 d_Reader_takesFrom_31 rfl (List.mem_of_getElem? (i := 1) rfl) ?_
      refine zs_iload_n 2 d_Reader_takesFrom_32 rfl (List.mem_of_getElem? (i := 2) rfl) ?_
      refine zs_iast d_Reader_takesFrom_33 (sh_6 g X) b2 ?_
      refine zs_goto 79 d_Reader_takesFrom_34 (by decide) ?_
      refine zs_aload_n 0 d_Reader_takesFrom_79 rfl (List.mem_of_getElem? (i := 0) rfl) ?_
      refine zs_iconst 1 d_Reader_takesFrom_80 (by decide) ?_
      refine zs_put d_Reader_takesFrom_81 pf_Reader_26 (sh_3 g X) rfl rfl rfl ?_
      refine zs_iconst 1 d_Reader_takesFrom_84 (by decide) ?_
      exact zs_zret (by decide) d_Reader_takesFrom_85 rfl h
  · replace h := h.2 c1
    refine zs_iconst 0 d_Reader_takesFrom_8 (by decide) ?_
    exact zs_zret (by decide) d_Reader_takesFrom_9 rfl h
theorem ex_Reader_takesFrom (k t : Int32) (hh : vp_in k 10) : zEx m_Reader_takesFrom 0 0 [.ref 3, .int k, .int t] (SHP g X) M (qF g X (bI (kTFrom M k t).1) (kTFrom M k t).2) := by
  refine zEx_of _ (by decide) (by simp [Value.category]) (Nat.le_of_ble_eq_true rfl) rfl (v_Reader_takesFrom_0 g X M k t _ ⟨fun h => ⟨hh, fun h2 => ⟨fun h3 => ?_, fun h3 => ⟨fun h4 => ?_, fun h4 => ?_⟩⟩, fun h2 => ?_⟩, fun h => ?_⟩)
  · unfold kTFrom; rw [if_pos h, if_neg h2, if_neg h3]; exact qF_i rfl rfl
  · unfold kTFrom; rw [if_pos h, if_neg h2, if_pos h3, if_pos h4]; exact qF_i rfl rfl
  · unfold kTFrom; rw [if_pos h, if_neg h2, if_pos h3, if_neg h4]; exact qF_i rfl rfl
  · unfold kTFrom; rw [if_pos h, if_pos h2]; exact qF_i rfl rfl
  · unfold kTFrom; rw [if_neg h]; exact qF_i rfl rfl
theorem v_Reader_takesPlus_0 (g : Nat → Option Nat) (X : List zShp) (M : zMem) (x1 : Int32) (R : zEnd) (h : ((1 < (M 3 1)) → (R (some (.int 0)) (SHP g X) M)) ∧ ((¬ 1 < (M 3 1)) → (((¬ x1 = 0) → (R (some (.int 1)) (SHP g X) (zms M 3 1 2))) ∧ ((x1 = 0) → (R (some (.int 0)) (SHP g X) M))))) : zRT m_Reader_takesPlus 0 0 0 [(0, .ref 3), (1, .int x1)] [] (SHP g X) M R := by
  refine zs_aload_n 0 d_Reader_takesPlus_0 rfl (List.mem_of_getElem? (i := 0) rfl) ?_
  refine zs_get d_Reader_takesPlus_1 gf_Reader_26 (sh_3 g X) rfl ?_
  refine zs_iconst 1 d_Reader_takesPlus_4 (by decide) ?_
  refine zs_icmp_gt 12 d_Reader_takesPlus_5 (by decide) (fun c1 => ?_) (fun c1 => ?_)
  · replace h := h.1 c1
    refine zs_iconst 0 d_Reader_takesPlus_12 (by decide) ?_
    exact zs_zret (by decide) d_Reader_takesPlus_13 rfl h
  · replace h := h.2 c1
    refine zs_iload_n 1 d_Reader_takesPlus_8 rfl (List.mem_of_getElem? (i := 1) rfl) ?_
    refine zs_if_ne 14 d_Reader_takesPlus_9 (by decide) (fun c2 => ?_) (fun c2 => ?_)
    · replace h := h.1 c2
      refine zs_aload_n 0 d_Reader_takesPlus_14 rfl (List.mem_of_getElem? (i := 0) rfl) ?_
      refine zs_iconst 2 d_Reader_takesPlus_15 (by decide) ?_
      refine zs_put d_Reader_takesPlus_16 pf_Reader_26 (sh_3 g X) rfl rfl rfl ?_
      refine zs_iconst 1 d_Reader_takesPlus_19 (by decide) ?_
      exact zs_zret (by decide) d_Reader_takesPlus_20 rfl h
    · replace h := h.2 c2
      refine zs_iconst 0 d_Reader_takesPlus_12 (by decide) ?_
      exact zs_zret (by decide) d_Reader_takesPlus_13 rfl h
theorem ex_Reader_takesPlus (k : Int32) (_ : vp_in k 10) : zEx m_Reader_takesPlus 0 0 [.ref 3, .int k] (SHP g X) M (qF g X (bI (kTPlus M k).1) (kTPlus M k).2) := by
  refine zEx_of _ (by decide) (by simp [Value.category]) (Nat.le_of_ble_eq_true rfl) rfl (v_Reader_takesPlus_0 g X M k _ ⟨fun h => ?_, fun h => ⟨fun h2 => ?_, fun h2 => ?_⟩⟩)
  · unfold kTPlus; rw [if_pos h]; exact qF_i rfl rfl
  · unfold kTPlus; rw [if_neg h, if_neg h2]; exact qF_i rfl rfl
  · unfold kTPlus; rw [if_neg h, if_pos h2]; exact qF_i rfl rfl
theorem v_Reader_takesTool_0 (g : Nat → Option Nat) (X : List zShp) (M : zMem) (x1 x2 : Int32) (R : zEnd) (h : (vp_in x1 10) ∧ (R (some (.int 1)) (SHP g X) (zms (zms M 8 (Int32.toNatClampNeg x1) x2) 3 1 3))) : zRT m_Reader_takesTool 0 0 0 [(0, .ref 3), (1, .int x1), (2, .int x2)] [] (SHP g X) M R := by
  refine zs_aload_n 0 d_Reader_takesTool_0 rfl (List.mem_of_getElem? (i := 0) rfl) ?_
  refine zs_get d_Reader_takesTool_1 gf_Reader_12 (sh_3 g X) rfl ?_
  refine zs_get d_Reader_takesTool_4 gf_Reader_68 (sh_4 g X) rfl ?_
  refine zs_iload_n 1 d_Reader_takesTool_7 rfl (List.mem_of_getElem? (i := 1) rfl) ?_
  refine zs_iload_n 2 d_Reader_takesTool_8 rfl (List.mem_of_getElem? (i := 2) rfl) ?_
  obtain ⟨b1, h⟩ := h
  refine zs_iast d_Reader_takesTool_9 (sh_8 g X) b1 ?_
  refine zs_aload_n 0 d_Reader_takesTool_10 rfl (List.mem_of_getElem? (i := 0) rfl) ?_
  refine zs_iconst 3 d_Reader_takesTool_11 (by decide) ?_
  refine zs_put d_Reader_takesTool_12 pf_Reader_26 (sh_3 g X) rfl rfl rfl ?_
  refine zs_iconst 1 d_Reader_takesTool_15 (by decide) ?_
  exact zs_zret (by decide) d_Reader_takesTool_16 rfl h
theorem ex_Reader_takesTool (k t : Int32) (hh : vp_in k 10) : zEx m_Reader_takesTool 0 0 [.ref 3, .int k, .int t] (SHP g X) M (qF g X (bI (kTTool M k t).1) (kTTool M k t).2) :=
  zEx_of _ (by decide) (by simp [Value.category]) (Nat.le_of_ble_eq_true rfl) rfl (v_Reader_takesTool_0 g X M k t _ ⟨hh, qF_i rfl rfl⟩)
theorem v_Reader_takesMan_0 (g : Nat → Option Nat) (X : List zShp) (M : zMem) (x1 x2 : Int32) (R : zEnd) (h : (vp_in x1 10) ∧ (((¬ ((M 5 (Int32.toNatClampNeg x1)) >>> (x2 &&& 31)) = 0) → ((vp_in x1 10) ∧ ((((kRoom M x1) = false) → (R (some (.int 0)) (SHP g X) M)) ∧ (((kRoom M x1) = true) → (R (some (.int 0)) (SHP g X) M))))) ∧ ((((M 5 (Int32.toNatClampNeg x1)) >>> (x2 &&& 31)) = 0) → ((vp_in x1 10) ∧ ((((kRoom M x1) = false) → (R (some (.int 0)) (SHP g X) M)) ∧ (((kRoom M x1) = true) → (R (some (.int 1)) (SHP g X) (zms (zms M 5 (Int32.toNatClampNeg x1) ((M 5 (Int32.toNatClampNeg x1)) ||| ((1 : Int32) <<< (x2 &&& 31)))) 3 1 3)))))))) : zRT m_Reader_takesMan 0 0 0 [(0, .ref 3), (1, .int x1), (2, .int x2)] [] (SHP g X) M R := by
  refine zs_aload_n 0 d_Reader_takesMan_0 rfl (List.mem_of_getElem? (i := 0) rfl) ?_
  refine zs_get d_Reader_takesMan_1 gf_Reader_12 (sh_3 g X) rfl ?_
  refine zs_get d_Reader_takesMan_4 gf_Reader_71 (sh_4 g X) rfl ?_
  refine zs_iload_n 1 d_Reader_takesMan_7 rfl (List.mem_of_getElem? (i := 1) rfl) ?_
  obtain ⟨b1, h⟩ := h
  refine zs_iald d_Reader_takesMan_8 (sh_5 g X) b1 ?_
  refine zs_iload_n 2 d_Reader_takesMan_9 rfl (List.mem_of_getElem? (i := 2) rfl) ?_
  refine zs_ishr d_Reader_takesMan_10 ?_
  refine zs_if_ne 18 d_Reader_takesMan_11 (by decide) (fun c2 => ?_) (fun c2 => ?_)
  · replace h := h.1 c2
    refine zs_iconst 0 d_Reader_takesMan_18 (by decide) ?_
    refine zs_istore_n2 3 [1, 2, 3, 0] [(0, .ref 3), (1, .int x1), (2, .int x2), (3, .int 0)] d_Reader_takesMan_19 rfl (by decide) rfl ?_
    refine zs_aload_n 0 d_Reader_takesMan_20 rfl (List.mem_of_getElem? (i := 0) rfl) ?_
    refine zs_iload_n 1 d_Reader_takesMan_21 rfl (List.mem_of_getElem? (i := 1) rfl) ?_
    obtain ⟨p3, h⟩ := h
    refine zs_callV (kc := 0) (ks := 0) (kc1 := 0) (ks1 := 0) (st := []) [.int x1] d_Reader_takesMan_22 lk_Reader_80 ⟨by decide, by decide⟩ rfl (sh_3 g X) rfl (Nat.le_of_ble_eq_true rfl) (ex_Reader_hasRoomForHand g X M x1 p3) (fun v3 sh3 M3 hR => ?_)
    obtain ⟨rfl, rfl, rfl⟩ := hR
    refine zs_if_eq 32 d_Reader_takesMan_25 (by decide) (fun c4 => ?_) (fun c4 => ?_)
    · replace h := h.1 (bI_0 c4)
      refine zs_iconst 0 d_Reader_takesMan_32 (by decide) ?_
      exact zs_zret (by decide) d_Reader_takesMan_33 rfl h
    · replace h := h.2 (bI_1 c4)
      refine zs_iload_n 3 d_Reader_takesMan_28 rfl (List.mem_of_getElem? (i := 3) rfl) ?_
      refine zs_if_ne 34 d_Reader_takesMan_29 (by decide) (fun c => absurd c (by decide)) (fun _ => ?_)
      refine zs_iconst 0 d_Reader_takesMan_32 (by decide) ?_
      exact zs_zret (by decide) d_Reader_takesMan_33 rfl h
  · replace h := h.2 c2
    refine zs_iconst 1 d_Reader_takesMan_14 (by decide) ?_
    refine zs_goto 19 d_Reader_takesMan_15 (by decide) ?_
    refine zs_istore_n2 3 [1, 2, 3, 0] [(0, .ref 3), (1, .int x1), (2, .int x2), (3, .int 1)] d_Reader_takesMan_19 rfl (by decide) rfl ?_
    refine zs_aload_n 0 d_Reader_takesMan_20 rfl (List.mem_of_getElem? (i := 0) rfl) ?_
    refine zs_iload_n 1 d_Reader_takesMan_21 rfl (List.mem_of_getElem? (i := 1) rfl) ?_
    obtain ⟨p5, h⟩ := h
    refine zs_callV (kc := 0) (ks := 0) (kc1 := 0) (ks1 := 0) (st := []) [.int x1] d_Reader_takesMan_22 lk_Reader_80 ⟨by decide, by decide⟩ rfl (sh_3 g X) rfl (Nat.le_of_ble_eq_true rfl) (ex_Reader_hasRoomForHand g X M x1 p5) (fun v5 sh5 M5 hR => ?_)
    obtain ⟨rfl, rfl, rfl⟩ := hR
    refine zs_if_eq 32 d_Reader_takesMan_25 (by decide) (fun c6 => ?_) (fun c6 => ?_)
    · replace h := h.1 (bI_0 c6)
      refine zs_iconst 0 d_Reader_takesMan_32 (by decide) ?_
      exact zs_zret (by decide) d_Reader_takesMan_33 rfl h
    · replace h := h.2 (bI_1 c6)
      refine zs_iload_n 3 d_Reader_takesMan_28 rfl (List.mem_of_getElem? (i := 3) rfl) ?_
      refine zs_if_ne 34 d_Reader_takesMan_29 (by decide) (fun _ => ?_) (fun c => absurd c (by decide))
      refine zs_aload_n 0 d_Reader_takesMan_34 rfl (List.mem_of_getElem? (i := 0) rfl) ?_
      refine zs_get d_Reader_takesMan_35 gf_Reader_12 (sh_3 g X) rfl ?_
      refine zs_get d_Reader_takesMan_38 gf_Reader_71 (sh_4 g X) rfl ?_
      refine zs_iload_n 1 d_Reader_takesMan_41 rfl (List.mem_of_getElem? (i := 1) rfl) ?_
      refine zs_dup2 d_Reader_takesMan_42 rfl rfl ?_
      refine zs_iald d_Reader_takesMan_43 (sh_5 g X) b1 ?_
      refine zs_iconst 1 d_Reader_takesMan_44 (by decide) ?_
      refine zs_iload_n 2 d_Reader_takesMan_45 rfl (List.mem_of_getElem? (i := 2) rfl) ?_
      refine zs_ishl d_Reader_takesMan_46 ?_
      refine zs_ior d_Reader_takesMan_47 ?_
      refine zs_iast d_Reader_takesMan_48 (sh_5 g X) b1 ?_
      refine zs_aload_n 0 d_Reader_takesMan_49 rfl (List.mem_of_getElem? (i := 0) rfl) ?_
      refine zs_iconst 3 d_Reader_takesMan_50 (by decide) ?_
      refine zs_put d_Reader_takesMan_51 pf_Reader_26 (sh_3 g X) rfl rfl rfl ?_
      refine zs_iconst 1 d_Reader_takesMan_54 (by decide) ?_
      exact zs_zret (by decide) d_Reader_takesMan_55 rfl h
theorem ex_Reader_takesMan (k m : Int32) (hh : vp_in k 10) : zEx m_Reader_takesMan 0 0 [.ref 3, .int k, .int m] (SHP g X) M (qF g X (bI (kTMan M k m).1) (kTMan M k m).2) := by
  refine zEx_of _ (by decide) (by simp [Value.category]) (Nat.le_of_ble_eq_true rfl) rfl (v_Reader_takesMan_0 g X M k m _ ⟨hh, fun h => ⟨hh, fun h2 => ?_, fun h2 => ?_⟩, fun h => ⟨hh, fun h2 => ?_, fun h2 => ?_⟩⟩)
  · unfold kTMan; rw [h2]; exact qF_i rfl rfl
  · unfold kTMan; rw [if_pos h2, if_neg h]; exact qF_i rfl rfl
  · unfold kTMan; rw [h2]; exact qF_i rfl rfl
  · unfold kTMan; rw [if_pos h2, if_pos h]; exact qF_i rfl rfl
theorem v_Reader_takesAsk_0 (g : Nat → Option Nat) (X : List zShp) (M : zMem) (x1 : Int32) (R : zEnd) (h : (vp_in x1 10) ∧ ((((kRoom M x1) = false) → (R (some (.int 0)) (SHP g X) M)) ∧ (((kRoom M x1) = true) → ((((M 3 2) < 4) → ((vp_in x1 10) ∧ (R (some (.int 1)) (SHP g X) (zms (zms (zms M 9 (Int32.toNatClampNeg x1) 1) 3 2 ((M 3 2) + 1)) 3 1 4)))) ∧ ((¬ (M 3 2) < 4) → (R (some (.int 0)) (SHP g X) M)))))) : zRT m_Reader_takesAsk 0 0 0 [(0, .ref 3), (1, .int x1)] [] (SHP g X) M R := by
  refine zs_aload_n 0 d_Reader_takesAsk_0 rfl (List.mem_of_getElem? (i := 0) rfl) ?_
  refine zs_iload_n 1 d_Reader_takesAsk_1 rfl (List.mem_of_getElem? (i := 1) rfl) ?_
  obtain ⟨p1, h⟩ := h
  refine zs_callV (kc := 0) (ks := 0) (kc1 := 0) (ks1 := 0) (st := []) [.int x1] d_Reader_takesAsk_2 lk_Reader_80 ⟨by decide, by decide⟩ rfl (sh_3 g X) rfl (Nat.le_of_ble_eq_true rfl) (ex_Reader_hasRoomForHand g X M x1 p1) (fun v1 sh1 M1 hR => ?_)
  obtain ⟨rfl, rfl, rfl⟩ := hR
  refine zs_if_eq 16 d_Reader_takesAsk_5 (by decide) (fun c2 => ?_) (fun c2 => ?_)
  · replace h := h.1 (bI_0 c2)
    refine zs_iconst 0 d_Reader_takesAsk_16 (by decide) ?_
    exact zs_zret (by decide) d_Reader_takesAsk_17 rfl h
  · replace h := h.2 (bI_1 c2)
    refine zs_aload_n 0 d_Reader_takesAsk_8 rfl (List.mem_of_getElem? (i := 0) rfl) ?_
    refine zs_get d_Reader_takesAsk_9 gf_Reader_29 (sh_3 g X) rfl ?_
    refine zs_iconst 4 d_Reader_takesAsk_12 (by decide) ?_
    refine zs_icmp_lt 18 d_Reader_takesAsk_13 (by decide) (fun c3 => ?_) (fun c3 => ?_)
    · replace h := h.1 c3
      refine zs_aload_n 0 d_Reader_takesAsk_18 rfl (List.mem_of_getElem? (i := 0) rfl) ?_
      refine zs_get d_Reader_takesAsk_19 gf_Reader_12 (sh_3 g X) rfl ?_
      refine zs_get d_Reader_takesAsk_22 gf_Reader_83 (sh_4 g X) rfl ?_
      refine zs_iload_n 1 d_Reader_takesAsk_25 rfl (List.mem_of_getElem? (i := 1) rfl) ?_
      refine zs_iconst 1 d_Reader_takesAsk_26 (by decide) ?_
      obtain ⟨b4, h⟩ := h
      refine zs_iast d_Reader_takesAsk_27 (sh_9 g X) b4 ?_
      refine zs_aload_n 0 d_Reader_takesAsk_28 rfl (List.mem_of_getElem? (i := 0) rfl) ?_
      refine zs_dup d_Reader_takesAsk_29 rfl ?_
      refine zs_get d_Reader_takesAsk_30 gf_Reader_29 (sh_3 g X) rfl ?_
      refine zs_iconst 1 d_Reader_takesAsk_33 (by decide) ?_
      refine zs_iadd d_Reader_takesAsk_34 ?_
      refine zs_put d_Reader_takesAsk_35 pf_Reader_29 (sh_3 g X) rfl rfl rfl ?_
      refine zs_aload_n 0 d_Reader_takesAsk_38 rfl (List.mem_of_getElem? (i := 0) rfl) ?_
      refine zs_iconst 4 d_Reader_takesAsk_39 (by decide) ?_
      refine zs_put d_Reader_takesAsk_40 pf_Reader_26 (sh_3 g X) rfl rfl rfl ?_
      refine zs_iconst 1 d_Reader_takesAsk_43 (by decide) ?_
      exact zs_zret (by decide) d_Reader_takesAsk_44 rfl h
    · replace h := h.2 c3
      refine zs_iconst 0 d_Reader_takesAsk_16 (by decide) ?_
      exact zs_zret (by decide) d_Reader_takesAsk_17 rfl h
theorem ex_Reader_takesAsk (k : Int32) (hh : vp_in k 10) : zEx m_Reader_takesAsk 0 0 [.ref 3, .int k] (SHP g X) M (qF g X (bI (kTAsk M k).1) (kTAsk M k).2) := by
  refine zEx_of _ (by decide) (by simp [Value.category]) (Nat.le_of_ble_eq_true rfl) rfl (v_Reader_takesAsk_0 g X M k _ ⟨hh, fun h => ?_, fun h => ⟨fun h2 => ⟨hh, ?_⟩, fun h2 => ?_⟩⟩)
  · unfold kTAsk; rw [h]; exact qF_i rfl rfl
  · unfold kTAsk; rw [if_pos h, if_pos h2]; exact qF_i rfl rfl
  · unfold kTAsk; rw [if_pos h, if_neg h2]; exact qF_i rfl rfl
theorem v_Reader_takesEnd_0 (g : Nat → Option Nat) (X : List zShp) (M : zMem) (x1 : Int32) (R : zEnd) (h : (vp_in x1 10) ∧ (((¬ (M 5 (Int32.toNatClampNeg x1)) = 0) → (((10 ≤ (x1 + 1)) → (R (some (.int 1)) (SHP g X) (zms (zms M 4 5 (x1 + 1)) 3 1 0))) ∧ ((¬ 10 ≤ (x1 + 1)) → ((vp_in (x1 + 1) 10) ∧ (R (some (.int 1)) (SHP g X) (zms (kClr (zms M 4 5 (x1 + 1)) (Int32.toNatClampNeg (x1 + 1))) 3 1 0)))))) ∧ (((M 5 (Int32.toNatClampNeg x1)) = 0) → (((¬ (M 9 (Int32.toNatClampNeg x1)) = 0) → (((10 ≤ (x1 + 1)) → (R (some (.int 1)) (SHP g X) (zms (zms M 4 5 (x1 + 1)) 3 1 0))) ∧ ((¬ 10 ≤ (x1 + 1)) → ((vp_in (x1 + 1) 10) ∧ (R (some (.int 1)) (SHP g X) (zms (kClr (zms M 4 5 (x1 + 1)) (Int32.toNatClampNeg (x1 + 1))) 3 1 0)))))) ∧ (((M 9 (Int32.toNatClampNeg x1)) = 0) → (R (some (.int 0)) (SHP g X) M)))))) : zRT m_Reader_takesEnd 0 0 0 [(0, .ref 3), (1, .int x1)] [] (SHP g X) M R := by
  refine zs_aload_n 0 d_Reader_takesEnd_0 rfl (List.mem_of_getElem? (i := 0) rfl) ?_
  refine zs_get d_Reader_takesEnd_1 gf_Reader_12 (sh_3 g X) rfl ?_
  refine zs_get d_Reader_takesEnd_4 gf_Reader_71 (sh_4 g X) rfl ?_
  refine zs_iload_n 1 d_Reader_takesEnd_7 rfl (List.mem_of_getElem? (i := 1) rfl) ?_
  obtain ⟨b1, h⟩ := h
  refine zs_iald d_Reader_takesEnd_8 (sh_5 g X) b1 ?_
  refine zs_if_ne 26 d_Reader_takesEnd_9 (by decide) (fun c2 => ?_) (fun c2 => ?_)
  · replace h := h.1 c2
    refine zs_aload_n 0 d_Reader_takesEnd_26 rfl (List.mem_of_getElem? (i := 0) rfl) ?_
    refine zs_get d_Reader_takesEnd_27 gf_Reader_12 (sh_3 g X) rfl ?_
    refine zs_iload_n 1 d_Reader_takesEnd_30 rfl (List.mem_of_getElem? (i := 1) rfl) ?_
    refine zs_iconst 1 d_Reader_takesEnd_31 (by decide) ?_
    refine zs_iadd d_Reader_takesEnd_32 ?_
    refine zs_putG d_Reader_takesEnd_33 pg_Reader_18 (sh_4 g X) rfl rfl rfl ?_
    refine zs_iload_n 1 d_Reader_takesEnd_36 rfl (List.mem_of_getElem? (i := 1) rfl) ?_
    refine zs_iconst 1 d_Reader_takesEnd_37 (by decide) ?_
    refine zs_iadd d_Reader_takesEnd_38 ?_
    refine zs_bipush 10 d_Reader_takesEnd_39 (by decide) ?_
    refine zs_icmp_ge 54 d_Reader_takesEnd_41 (by decide) (fun c3 => ?_) (fun c3 => ?_)
    · replace h := h.1 c3
      refine zs_aload_n 0 d_Reader_takesEnd_54 rfl (List.mem_of_getElem? (i := 0) rfl) ?_
      refine zs_iconst 0 d_Reader_takesEnd_55 (by decide) ?_
      refine zs_put d_Reader_takesEnd_56 pf_Reader_26 (sh_3 g X) rfl rfl rfl ?_
      refine zs_iconst 1 d_Reader_takesEnd_59 (by decide) ?_
      exact zs_zret (by decide) d_Reader_takesEnd_60 rfl h
    · replace h := h.2 c3
      refine zs_aload_n 0 d_Reader_takesEnd_44 rfl (List.mem_of_getElem? (i := 0) rfl) ?_
      refine zs_get d_Reader_takesEnd_45 gf_Reader_12 (sh_3 g X) rfl ?_
      refine zs_iload_n 1 d_Reader_takesEnd_48 rfl (List.mem_of_getElem? (i := 1) rfl) ?_
      refine zs_iconst 1 d_Reader_takesEnd_49 (by decide) ?_
      refine zs_iadd d_Reader_takesEnd_50 ?_
      obtain ⟨p4, h⟩ := h
      refine zs_callV (kc := 0) (ks := 0) (kc1 := 0) (ks1 := 0) (st := []) [.int (x1 + 1)] d_Reader_takesEnd_51 lk_Reader_22 ⟨by decide, by decide⟩ rfl (sh_4 g X) rfl (Nat.le_of_ble_eq_true rfl) (ex_Pages_clearMaking g X (zms M 4 5 (x1 + 1)) (x1 + 1) p4) (fun v4 sh4 M4 hR => ?_)
      obtain ⟨rfl, rfl, rfl⟩ := hR
      refine zs_aload_n 0 d_Reader_takesEnd_54 rfl (List.mem_of_getElem? (i := 0) rfl) ?_
      refine zs_iconst 0 d_Reader_takesEnd_55 (by decide) ?_
      refine zs_put d_Reader_takesEnd_56 pf_Reader_26 (sh_3 g X) rfl rfl rfl ?_
      refine zs_iconst 1 d_Reader_takesEnd_59 (by decide) ?_
      exact zs_zret (by decide) d_Reader_takesEnd_60 rfl h
  · replace h := h.2 c2
    refine zs_aload_n 0 d_Reader_takesEnd_12 rfl (List.mem_of_getElem? (i := 0) rfl) ?_
    refine zs_get d_Reader_takesEnd_13 gf_Reader_12 (sh_3 g X) rfl ?_
    refine zs_get d_Reader_takesEnd_16 gf_Reader_83 (sh_4 g X) rfl ?_
    refine zs_iload_n 1 d_Reader_takesEnd_19 rfl (List.mem_of_getElem? (i := 1) rfl) ?_
    refine zs_iald d_Reader_takesEnd_20 (sh_9 g X) b1 ?_
    refine zs_if_ne 26 d_Reader_takesEnd_21 (by decide) (fun c5 => ?_) (fun c5 => ?_)
    · replace h := h.1 c5
      refine zs_aload_n 0 d_Reader_takesEnd_26 rfl (List.mem_of_getElem? (i := 0) rfl) ?_
      refine zs_get d_Reader_takesEnd_27 gf_Reader_12 (sh_3 g X) rfl ?_
      refine zs_iload_n 1 d_Reader_takesEnd_30 rfl (List.mem_of_getElem? (i := 1) rfl) ?_
      refine zs_iconst 1 d_Reader_takesEnd_31 (by decide) ?_
      refine zs_iadd d_Reader_takesEnd_32 ?_
      refine zs_putG d_Reader_takesEnd_33 pg_Reader_18 (sh_4 g X) rfl rfl rfl ?_
      refine zs_iload_n 1 d_Reader_takesEnd_36 rfl (List.mem_of_getElem? (i := 1) rfl) ?_
      refine zs_iconst 1 d_Reader_takesEnd_37 (by decide) ?_
      refine zs_iadd d_Reader_takesEnd_38 ?_
      refine zs_bipush 10 d_Reader_takesEnd_39 (by decide) ?_
      refine zs_icmp_ge 54 d_Reader_takesEnd_41 (by decide) (fun c6 => ?_) (fun c6 => ?_)
      · replace h := h.1 c6
        refine zs_aload_n 0 d_Reader_takesEnd_54 rfl (List.mem_of_getElem? (i := 0) rfl) ?_
        refine zs_iconst 0 d_Reader_takesEnd_55 (by decide) ?_
        refine zs_put d_Reader_takesEnd_56 pf_Reader_26 (sh_3 g X) rfl rfl rfl ?_
        refine zs_iconst 1 d_Reader_takesEnd_59 (by decide) ?_
        exact zs_zret (by decide) d_Reader_takesEnd_60 rfl h
      · replace h := h.2 c6
        refine zs_aload_n 0 d_Reader_takesEnd_44 rfl (List.mem_of_getElem? (i := 0) rfl) ?_
        refine zs_get d_Reader_takesEnd_45 gf_Reader_12 (sh_3 g X) rfl ?_
        refine zs_iload_n 1 d_Reader_takesEnd_48 rfl (List.mem_of_getElem? (i := 1) rfl) ?_
        refine zs_iconst 1 d_Reader_takesEnd_49 (by decide) ?_
        refine zs_iadd d_Reader_takesEnd_50 ?_
        obtain ⟨p7, h⟩ := h
        refine zs_callV (kc := 0) (ks := 0) (kc1 := 0) (ks1 := 0) (st := []) [.int (x1 + 1)] d_Reader_takesEnd_51 lk_Reader_22 ⟨by decide, by decide⟩ rfl (sh_4 g X) rfl (Nat.le_of_ble_eq_true rfl) (ex_Pages_clearMaking g X (zms M 4 5 (x1 + 1)) (x1 + 1) p7) (fun v7 sh7 M7 hR => ?_)
        obtain ⟨rfl, rfl, rfl⟩ := hR
        refine zs_aload_n 0 d_Reader_takesEnd_54 rfl (List.mem_of_getElem? (i := 0) rfl) ?_
        refine zs_iconst 0 d_Reader_takesEnd_55 (by decide) ?_
        refine zs_put d_Reader_takesEnd_56 pf_Reader_26 (sh_3 g X) rfl rfl rfl ?_
        refine zs_iconst 1 d_Reader_takesEnd_59 (by decide) ?_
        exact zs_zret (by decide) d_Reader_takesEnd_60 rfl h
    · replace h := h.2 c5
      refine zs_iconst 0 d_Reader_takesEnd_24 (by decide) ?_
      exact zs_zret (by decide) d_Reader_takesEnd_25 rfl h
theorem ex_Reader_takesEnd (k : Int32) (hh : vp_in k 10) : zEx m_Reader_takesEnd 0 0 [.ref 3, .int k] (SHP g X) M (qF g X (bI (kTEnd M k).1) (kTEnd M k).2) := by
  have hk : ¬ 10 ≤ k + 1 → vp_in (k + 1) 10 := by
    intro h
    obtain ⟨a, ha, rfl⟩ := vp_in_of hh (by decide)
    rw [nI_1] at h ⊢
    rw [show (10 : Int32) = nI 10 from rfl, nI_leI (by decide) (by omega)] at h
    exact vp_in_nI (by omega) (by decide)
  refine zEx_of _ (by decide) (by simp [Value.category]) (Nat.le_of_ble_eq_true rfl) rfl (v_Reader_takesEnd_0 g X M k _ ⟨hh, fun h => ⟨fun h2 => ?_, fun h2 => ⟨hk h2, ?_⟩⟩, fun h => ⟨fun h3 => ⟨fun h2 => ?_, fun h2 => ⟨hk h2, ?_⟩⟩, fun h3 => ?_⟩⟩)
  · unfold kTEnd; rw [if_neg (fun q => h q.1), if_pos h2]; exact qF_i rfl rfl
  · unfold kTEnd; rw [if_neg (fun q => h q.1), if_neg h2]; exact qF_i rfl rfl
  · unfold kTEnd; rw [if_neg (fun q => h3 q.2), if_pos h2]; exact qF_i rfl rfl
  · unfold kTEnd; rw [if_neg (fun q => h3 q.2), if_neg h2]; exact qF_i rfl rfl
  · unfold kTEnd; rw [if_pos ⟨h, h3⟩]; exact qF_i rfl rfl
theorem v_Reader_takes_0 (g : Nat → Option Nat) (X : List zShp) (M : zMem) (x1 : Int32) (R : zEnd) (h : (((M 4 5) < 10) → (((x1 < 97) → (zRT m_Reader_takes 0 0 60 [(0, .ref 3), (1, .int x1), (2, .int (M 4 5))] [] (SHP g X) M R)) ∧ ((¬ x1 < 97) → (((((97 : Int32) + (M 4 5)) ≤ x1) → (zRT m_Reader_takes 0 0 60 [(0, .ref 3), (1, .int x1), (2, .int (M 4 5))] [] (SHP g X) M R)) ∧ ((¬ ((97 : Int32) + (M 4 5)) ≤ x1) → (((¬ (M 3 1) = 2) → ((vp_in (M 4 5) 10) ∧ (R (some (.int (bI (kTFrom M (M 4 5) (x1 - 97)).1))) (SHP g X) ((kTFrom M (M 4 5) (x1 - 97)).2)))) ∧ (((M 3 1) = 2) → ((vp_in (M 4 5) 10) ∧ (R (some (.int (bI (kTTool M (M 4 5) (x1 - 97)).1))) (SHP g X) ((kTTool M (M 4 5) (x1 - 97)).2)))))))))) ∧ ((¬ (M 4 5) < 10) → (R (some (.int 0)) (SHP g X) M))) : zRT m_Reader_takes 0 0 0 [(0, .ref 3), (1, .int x1)] [] (SHP g X) M R := by
  refine zs_aload_n 0 d_Reader_takes_0 rfl (List.mem_of_getElem? (i := 0) rfl) ?_
  refine zs_get d_Reader_takes_1 gf_Reader_12 (sh_3 g X) rfl ?_
  refine zs_get d_Reader_takes_4 gf_Reader_18 (sh_4 g X) rfl ?_
  refine zs_istore_n2 2 [1, 2, 0] [(0, .ref 3), (1, .int x1), (2, .int (M 4 5))] d_Reader_takes_7 rfl (by decide) rfl ?_
  refine zs_iload_n 2 d_Reader_takes_8 rfl (List.mem_of_getElem? (i := 2) rfl) ?_
  refine zs_bipush 10 d_Reader_takes_9 (by decide) ?_
  refine zs_icmp_lt 16 d_Reader_takes_11 (by decide) (fun c1 => ?_) (fun c1 => ?_)
  · replace h := h.1 c1
    refine zs_iload_n 1 d_Reader_takes_16 rfl (List.mem_of_getElem? (i := 1) rfl) ?_
    refine zs_bipush 97 d_Reader_takes_17 (by decide) ?_
    refine zs_icmp_lt 60 d_Reader_takes_19 (by decide) (fun c2 => ?_) (fun c2 => ?_)
    · replace h := h.1 c2
      exact h
    · replace h := h.2 c2
      refine zs_iload_n 1 d_Reader_takes_22 rfl (List.mem_of_getElem? (i := 1) rfl) ?_
      refine zs_bipush 97 d_Reader_takes_23 (by decide) ?_
      refine zs_iload_n 2 d_Reader_takes_25 rfl (List.mem_of_getElem? (i := 2) rfl) ?_
      refine zs_iadd d_Reader_takes_26 ?_
      refine zs_icmp_ge 60 d_Reader_takes_27 (by decide) (fun c3 => ?_) (fun c3 => ?_)
      · replace h := h.1 c3
        exact h
      · replace h := h.2 c3
        refine zs_aload_n 0 d_Reader_takes_30 rfl (List.mem_of_getElem? (i := 0) rfl) ?_
        refine zs_get d_Reader_takes_31 gf_Reader_26 (sh_3 g X) rfl ?_
        refine zs_iconst 2 d_Reader_takes_34 (by decide) ?_
        refine zs_icmp_ne 50 d_Reader_takes_35 (by decide) (fun c4 => ?_) (fun c4 => ?_)
        · replace h := h.1 c4
          refine zs_aload_n 0 d_Reader_takes_50 rfl (List.mem_of_getElem? (i := 0) rfl) ?_
          refine zs_iload_n 2 d_Reader_takes_51 rfl (List.mem_of_getElem? (i := 2) rfl) ?_
          refine zs_iload_n 1 d_Reader_takes_52 rfl (List.mem_of_getElem? (i := 1) rfl) ?_
          refine zs_bipush 97 d_Reader_takes_53 (by decide) ?_
          refine zs_isub d_Reader_takes_55 ?_
          obtain ⟨p5, h⟩ := h
          refine zs_callV (kc := 0) (ks := 0) (kc1 := 0) (ks1 := 0) (st := []) [.int (M 4 5), .int (x1 - 97)] d_Reader_takes_56 lk_Reader_47 ⟨by decide, by decide⟩ rfl (sh_3 g X) rfl (Nat.le_of_ble_eq_true rfl) (ex_Reader_takesFrom g X M (M 4 5) (x1 - 97) p5) (fun v5 sh5 M5 hR => ?_)
          obtain ⟨rfl, rfl, rfl⟩ := hR
          exact zs_zret (bI_nar _) d_Reader_takes_59 rfl h
        · replace h := h.2 c4
          refine zs_aload_n 0 d_Reader_takes_38 rfl (List.mem_of_getElem? (i := 0) rfl) ?_
          refine zs_iload_n 2 d_Reader_takes_39 rfl (List.mem_of_getElem? (i := 2) rfl) ?_
          refine zs_iload_n 1 d_Reader_takes_40 rfl (List.mem_of_getElem? (i := 1) rfl) ?_
          refine zs_bipush 97 d_Reader_takes_41 (by decide) ?_
          refine zs_isub d_Reader_takes_43 ?_
          obtain ⟨p6, h⟩ := h
          refine zs_callV (kc := 0) (ks := 0) (kc1 := 0) (ks1 := 0) (st := []) [.int (M 4 5), .int (x1 - 97)] d_Reader_takes_44 lk_Reader_43 ⟨by decide, by decide⟩ rfl (sh_3 g X) rfl (Nat.le_of_ble_eq_true rfl) (ex_Reader_takesTool g X M (M 4 5) (x1 - 97) p6) (fun v6 sh6 M6 hR => ?_)
          obtain ⟨rfl, rfl, rfl⟩ := hR
          refine zs_goto 59 d_Reader_takes_47 (by decide) ?_
          exact zs_zret (bI_nar _) d_Reader_takes_59 rfl h
  · replace h := h.2 c1
    refine zs_iconst 0 d_Reader_takes_14 (by decide) ?_
    exact zs_zret (by decide) d_Reader_takes_15 rfl h
theorem v_Reader_takes_60 (g : Nat → Option Nat) (X : List zShp) (M : zMem) (x1 x2 : Int32) (R : zEnd) (h : ((x1 < 65) → (zRT m_Reader_takes 0 0 82 [(0, .ref 3), (1, .int x1), (2, .int x2)] [] (SHP g X) M R)) ∧ ((¬ x1 < 65) → (((71 ≤ x1) → (zRT m_Reader_takes 0 0 82 [(0, .ref 3), (1, .int x1), (2, .int x2)] [] (SHP g X) M R)) ∧ ((¬ 71 ≤ x1) → ((vp_in x2 10) ∧ (R (some (.int (bI (kTMan M x2 (x1 - 65)).1))) (SHP g X) ((kTMan M x2 (x1 - 65)).2))))))) : zRT m_Reader_takes 0 0 60 [(0, .ref 3), (1, .int x1), (2, .int x2)] [] (SHP g X) M R := by
  refine zs_iload_n 1 d_Reader_takes_60 rfl (List.mem_of_getElem? (i := 1) rfl) ?_
  refine zs_bipush 65 d_Reader_takes_61 (by decide) ?_
  refine zs_icmp_lt 82 d_Reader_takes_63 (by decide) (fun c1 => ?_) (fun c1 => ?_)
  · replace h := h.1 c1
    exact h
  · replace h := h.2 c1
    refine zs_iload_n 1 d_Reader_takes_66 rfl (List.mem_of_getElem? (i := 1) rfl) ?_
    refine zs_bipush 71 d_Reader_takes_67 (by decide) ?_
    refine zs_icmp_ge 82 d_Reader_takes_69 (by decide) (fun c2 => ?_) (fun c2 => ?_)
    · replace h := h.1 c2
      exact h
    · replace h := h.2 c2
      refine zs_aload_n 0 d_Reader_takes_72 rfl (List.mem_of_getElem? (i := 0) rfl) ?_
      refine zs_iload_n 2 d_Reader_takes_73 rfl (List.mem_of_getElem? (i := 2) rfl) ?_
      refine zs_iload_n 1 d_Reader_takes_74 rfl (List.mem_of_getElem? (i := 1) rfl) ?_
      refine zs_bipush 65 d_Reader_takes_75 (by decide) ?_
      refine zs_isub d_Reader_takes_77 ?_
      obtain ⟨p3, h⟩ := h
      refine zs_callV (kc := 0) (ks := 0) (kc1 := 0) (ks1 := 0) (st := []) [.int x2, .int (x1 - 65)] d_Reader_takes_78 lk_Reader_50 ⟨by decide, by decide⟩ rfl (sh_3 g X) rfl (Nat.le_of_ble_eq_true rfl) (ex_Reader_takesMan g X M x2 (x1 - 65) p3) (fun v3 sh3 M3 hR => ?_)
      obtain ⟨rfl, rfl, rfl⟩ := hR
      exact zs_zret (bI_nar _) d_Reader_takes_81 rfl h
theorem v_Reader_takes_82 (g : Nat → Option Nat) (X : List zShp) (M : zMem) (x1 x2 : Int32) (R : zEnd) (h : ((x1 = 43) → ((vp_in x2 10) ∧ (R (some (.int (bI (kTPlus M x2).1))) (SHP g X) ((kTPlus M x2).2)))) ∧ ((¬ x1 = 43) → (((x1 = 59) → ((vp_in x2 10) ∧ (R (some (.int (bI (kTEnd M x2).1))) (SHP g X) ((kTEnd M x2).2)))) ∧ ((¬ x1 = 59) → (((x1 = 63) → ((vp_in x2 10) ∧ (R (some (.int (bI (kTAsk M x2).1))) (SHP g X) ((kTAsk M x2).2)))) ∧ ((¬ x1 = 63) → (R (some (.int 0)) (SHP g X) M))))))) : zRT m_Reader_takes 0 0 82 [(0, .ref 3), (1, .int x1), (2, .int x2)] [] (SHP g X) M R := by
  refine zs_iload_n 1 d_Reader_takes_82 rfl (List.mem_of_getElem? (i := 1) rfl) ?_
  by_cases c1_0 : x1 = 43
  · replace h := h.1 c1_0
    refine zs_lookup 116 d_Reader_takes_83 (by decide) (by rw [c1_0]; try rfl) (by decide) ?_
    refine zs_aload_n 0 d_Reader_takes_116 rfl (List.mem_of_getElem? (i := 0) rfl) ?_
    refine zs_iload_n 2 d_Reader_takes_117 rfl (List.mem_of_getElem? (i := 2) rfl) ?_
    obtain ⟨p2, h⟩ := h
    refine zs_callV (kc := 0) (ks := 0) (kc1 := 0) (ks1 := 0) (st := []) [.int x2] d_Reader_takes_118 lk_Reader_53 ⟨by decide, by decide⟩ rfl (sh_3 g X) rfl (Nat.le_of_ble_eq_true rfl) (ex_Reader_takesPlus g X M x2 p2) (fun v2 sh2 M2 hR => ?_)
    obtain ⟨rfl, rfl, rfl⟩ := hR
    exact zs_zret (bI_nar _) d_Reader_takes_121 rfl h
  replace h := h.2 c1_0
  by_cases c1_1 : x1 = 59
  · replace h := h.1 c1_1
    refine zs_lookup 128 d_Reader_takes_83 (by decide) (by rw [c1_1]; try rfl) (by decide) ?_
    refine zs_aload_n 0 d_Reader_takes_128 rfl (List.mem_of_getElem? (i := 0) rfl) ?_
    refine zs_iload_n 2 d_Reader_takes_129 rfl (List.mem_of_getElem? (i := 2) rfl) ?_
    obtain ⟨p3, h⟩ := h
    refine zs_callV (kc := 0) (ks := 0) (kc1 := 0) (ks1 := 0) (st := []) [.int x2] d_Reader_takes_130 lk_Reader_59 ⟨by decide, by decide⟩ rfl (sh_3 g X) rfl (Nat.le_of_ble_eq_true rfl) (ex_Reader_takesEnd g X M x2 p3) (fun v3 sh3 M3 hR => ?_)
    obtain ⟨rfl, rfl, rfl⟩ := hR
    exact zs_zret (bI_nar _) d_Reader_takes_133 rfl h
  replace h := h.2 c1_1
  by_cases c1_2 : x1 = 63
  · replace h := h.1 c1_2
    refine zs_lookup 122 d_Reader_takes_83 (by decide) (by rw [c1_2]; try rfl) (by decide) ?_
    refine zs_aload_n 0 d_Reader_takes_122 rfl (List.mem_of_getElem? (i := 0) rfl) ?_
    refine zs_iload_n 2 d_Reader_takes_123 rfl (List.mem_of_getElem? (i := 2) rfl) ?_
    obtain ⟨p4, h⟩ := h
    refine zs_callV (kc := 0) (ks := 0) (kc1 := 0) (ks1 := 0) (st := []) [.int x2] d_Reader_takes_124 lk_Reader_56 ⟨by decide, by decide⟩ rfl (sh_3 g X) rfl (Nat.le_of_ble_eq_true rfl) (ex_Reader_takesAsk g X M x2 p4) (fun v4 sh4 M4 hR => ?_)
    obtain ⟨rfl, rfl, rfl⟩ := hR
    exact zs_zret (bI_nar _) d_Reader_takes_127 rfl h
  replace h := h.2 c1_2
  have q1_0 := zI_ne (z := 43) c1_0 (by decide)
  have q1_1 := zI_ne (z := 59) c1_1 (by decide)
  have q1_2 := zI_ne (z := 63) c1_2 (by decide)
  refine zs_lookup 134 d_Reader_takes_83 (by decide) (zsw_lk3 q1_0 q1_1 q1_2) (by decide) ?_
  refine zs_iconst 0 d_Reader_takes_134 (by decide) ?_
  exact zs_zret (by decide) d_Reader_takes_135 rfl h
theorem ex_Reader_takes (s : Int32) (hh : kDr M) : zEx m_Reader_takes 0 0 [.ref 3, .int s] (SHP g X) M (qF g X (bI (kTk M s).1) (kTk M s).2) := by
  have C3 : M 4 5 < 10 → zRT m_Reader_takes 0 0 82 [(0, .ref 3), (1, .int s), (2, .int (M 4 5))] [] (SHP g X) M (qF g X (bI (kTk3 M s).1) (kTk3 M s).2) := fun h10 => by
    have hv := kDr_in hh h10
    refine v_Reader_takes_82 g X M s _ _ ⟨fun h => ⟨hv, ?_⟩, fun h => ⟨fun h2 => ⟨hv, ?_⟩, fun h2 => ⟨fun h3 => ⟨hv, ?_⟩, fun h3 => ?_⟩⟩⟩
    · unfold kTk3; rw [if_pos h]; exact qF_i rfl rfl
    · unfold kTk3; rw [if_neg h, if_pos h2]; exact qF_i rfl rfl
    · unfold kTk3; rw [if_neg h, if_neg h2, if_pos h3]; exact qF_i rfl rfl
    · unfold kTk3; rw [if_neg h, if_neg h2, if_neg h3]; exact qF_i rfl rfl
  have C2 : M 4 5 < 10 → zRT m_Reader_takes 0 0 60 [(0, .ref 3), (1, .int s), (2, .int (M 4 5))] [] (SHP g X) M (qF g X (bI (kTk2 M s).1) (kTk2 M s).2) := fun h10 => by
    refine v_Reader_takes_60 g X M s _ _ ⟨fun h => ?_, fun h => ⟨fun h2 => ?_, fun h2 => ⟨kDr_in hh h10, ?_⟩⟩⟩
    · unfold kTk2; rw [if_pos h]; exact C3 h10
    · unfold kTk2; rw [if_neg h, if_pos h2]; exact C3 h10
    · unfold kTk2; rw [if_neg h, if_neg h2]; exact qF_i rfl rfl
  refine zEx_of _ (by decide) (by simp [Value.category]) (Nat.le_of_ble_eq_true rfl) rfl (v_Reader_takes_0 g X M s _ ⟨fun h10 => ⟨fun h => ?_, fun h => ⟨fun h2 => ?_, fun h2 => ⟨fun h3 => ⟨kDr_in hh h10, ?_⟩, fun h3 => ⟨kDr_in hh h10, ?_⟩⟩⟩⟩, fun h10 => ?_⟩)
  · unfold kTk; rw [if_pos h10, if_pos h]; exact C2 h10
  · unfold kTk; rw [if_pos h10, if_neg h, if_pos h2]; exact C2 h10
  · unfold kTk; rw [if_pos h10, if_neg h, if_neg h2, if_neg h3]; exact qF_i rfl rfl
  · unfold kTk; rw [if_pos h10, if_neg h, if_neg h2, if_pos h3]; exact qF_i rfl rfl
  · unfold kTk; rw [if_neg h10]; exact qF_i rfl rfl
theorem v_Reader_read_0 (g : Nat → Option Nat) (X : List zShp) (M : zMem) (R : zEnd) (h : (vp_in 0 10) ∧ (zRT m_Reader_read 0 0 28 [(0, .ref 3), (1, .ref 1), (2, .int 0)] [] (SHP g X) (zms (zms (kClr (zms M 4 5 0) (Int32.toNatClampNeg 0)) 3 1 0) 3 2 0) R)) : zRT m_Reader_read 0 0 0 [(0, .ref 3), (1, .ref 1)] [] (SHP g X) M R := by
  refine zs_aload_n 0 d_Reader_read_0 rfl (List.mem_of_getElem? (i := 0) rfl) ?_
  refine zs_get d_Reader_read_1 gf_Reader_12 (sh_3 g X) rfl ?_
  refine zs_iconst 0 d_Reader_read_4 (by decide) ?_
  refine zs_putG d_Reader_read_5 pg_Reader_18 (sh_4 g X) rfl rfl rfl ?_
  refine zs_aload_n 0 d_Reader_read_8 rfl (List.mem_of_getElem? (i := 0) rfl) ?_
  refine zs_get d_Reader_read_9 gf_Reader_12 (sh_3 g X) rfl ?_
  refine zs_iconst 0 d_Reader_read_12 (by decide) ?_
  obtain ⟨p1, h⟩ := h
  refine zs_callV (kc := 0) (ks := 0) (kc1 := 0) (ks1 := 0) (st := []) [.int 0] d_Reader_read_13 lk_Reader_22 ⟨by decide, by decide⟩ rfl (sh_4 g X) rfl (Nat.le_of_ble_eq_true rfl) (ex_Pages_clearMaking g X (zms M 4 5 0) 0 p1) (fun v1 sh1 M1 hR => ?_)
  obtain ⟨rfl, rfl, rfl⟩ := hR
  refine zs_aload_n 0 d_Reader_read_16 rfl (List.mem_of_getElem? (i := 0) rfl) ?_
  refine zs_iconst 0 d_Reader_read_17 (by decide) ?_
  refine zs_put d_Reader_read_18 pf_Reader_26 (sh_3 g X) rfl rfl rfl ?_
  refine zs_aload_n 0 d_Reader_read_21 rfl (List.mem_of_getElem? (i := 0) rfl) ?_
  refine zs_iconst 0 d_Reader_read_22 (by decide) ?_
  refine zs_put d_Reader_read_23 pf_Reader_29 (sh_3 g X) rfl rfl rfl ?_
  refine zs_iconst 0 d_Reader_read_26 (by decide) ?_
  refine zs_istore_n2 2 [1, 2, 0] [(0, .ref 3), (1, .ref 1), (2, .int 0)] d_Reader_read_27 rfl (by decide) rfl ?_
  exact h
theorem v_Reader_read_28 (g : Nat → Option Nat) (X : List zShp) (M : zMem) (x2 : Int32) (R : zEnd) (h : (((M 1 1) ≤ x2) → (((¬ (M 3 1) = 0) → (R (some (.int (M 1 1))) (SHP g X) M)) ∧ (((M 3 1) = 0) → (R (some (.int (-6))) (SHP g X) M)))) ∧ ((¬ (M 1 1) ≤ x2) → ((vp_in x2 60) ∧ ((kDr M) ∧ ((((kTk M (M 2 (Int32.toNatClampNeg x2))).1 = true) → (zRT m_Reader_read 0 0 28 [(0, .ref 3), (1, .ref 1), (2, .int (x2 + 1))] [] (SHP g X) ((kTk M (M 2 (Int32.toNatClampNeg x2))).2) R)) ∧ (((kTk M (M 2 (Int32.toNatClampNeg x2))).1 = false) → (R (some (.int x2)) (SHP g X) ((kTk M (M 2 (Int32.toNatClampNeg x2))).2)))))))) : zRT m_Reader_read 0 0 28 [(0, .ref 3), (1, .ref 1), (2, .int x2)] [] (SHP g X) M R := by
  refine zs_iload_n 2 d_Reader_read_28 rfl (List.mem_of_getElem? (i := 2) rfl) ?_
  refine zs_aload_n 1 d_Reader_read_29 rfl (List.mem_of_getElem? (i := 1) rfl) ?_
  refine zs_get d_Reader_read_30 gf_Reader_32 (sh_1 g X) rfl ?_
  refine zs_icmp_ge 57 d_Reader_read_33 (by decide) (fun c1 => ?_) (fun c1 => ?_)
  · replace h := h.1 c1
    refine zs_aload_n 0 d_Reader_read_57 rfl (List.mem_of_getElem? (i := 0) rfl) ?_
    refine zs_get d_Reader_read_58 gf_Reader_26 (sh_3 g X) rfl ?_
    refine zs_if_ne 69 d_Reader_read_61 (by decide) (fun c2 => ?_) (fun c2 => ?_)
    · replace h := h.1 c2
      refine zs_aload_n 1 d_Reader_read_69 rfl (List.mem_of_getElem? (i := 1) rfl) ?_
      refine zs_get d_Reader_read_70 gf_Reader_32 (sh_1 g X) rfl ?_
      exact zs_iret d_Reader_read_73 rfl h
    · replace h := h.2 c2
      refine zs_bipush (-6) d_Reader_read_64 (by decide) ?_
      refine zs_goto 73 d_Reader_read_66 (by decide) ?_
      exact zs_iret d_Reader_read_73 rfl h
  · replace h := h.2 c1
    refine zs_aload_n 0 d_Reader_read_36 rfl (List.mem_of_getElem? (i := 0) rfl) ?_
    refine zs_aload_n 1 d_Reader_read_37 rfl (List.mem_of_getElem? (i := 1) rfl) ?_
    refine zs_get d_Reader_read_38 gf_Reader_35 (sh_1 g X) rfl ?_
    refine zs_iload_n 2 d_Reader_read_41 rfl (List.mem_of_getElem? (i := 2) rfl) ?_
    obtain ⟨b3, h⟩ := h
    refine zs_iald d_Reader_read_42 (sh_2 g X) b3 ?_
    obtain ⟨p4, h⟩ := h
    refine zs_callV (kc := 0) (ks := 0) (kc1 := 0) (ks1 := 0) (st := []) [.int (M 2 (Int32.toNatClampNeg x2))] d_Reader_read_43 lk_Reader_39 ⟨by decide, by decide⟩ rfl (sh_3 g X) rfl (Nat.le_of_ble_eq_true rfl) (ex_Reader_takes g X M (M 2 (Int32.toNatClampNeg x2)) p4) (fun v4 sh4 M4 hR => ?_)
    obtain ⟨rfl, rfl, rfl⟩ := hR
    refine zs_if_ne 51 d_Reader_read_46 (by decide) (fun c5 => ?_) (fun c5 => ?_)
    · replace h := h.1 (bI_1 c5)
      refine zs_iinc2 2 (x2 + 1) [1, 2, 0] [(0, .ref 3), (1, .ref 1), (2, .int (x2 + 1))] d_Reader_read_51 rfl rfl (by decide) rfl ?_
      refine zs_goto 28 d_Reader_read_54 (by decide) ?_
      exact h
    · replace h := h.2 (bI_0 c5)
      refine zs_iload_n 2 d_Reader_read_49 rfl (List.mem_of_getElem? (i := 2) rfl) ?_
      exact zs_iret d_Reader_read_50 rfl h
theorem ex_Reader_read (hh : kPad M) : zEx m_Reader_read 0 0 [.ref 3, .ref 1] (SHP g X) M (qF g X (kRd M).1 (kRd M).2) := by
  refine zEx_of _ (by decide) (by simp [Value.category]) (Nat.le_of_ble_eq_true rfl) rfl (v_Reader_read_0 g X M _ ⟨by unfold vp_in; decide, ?_⟩)
  obtain ⟨a, ha, ea⟩ := hh
  have L : ∀ n k M1, k + n = a → kAg kRS M M1 → kDr M1 → zRT m_Reader_read 0 0 28 [(0, .ref 3), (1, .ref 1), (2, .int (nI k))] [] (SHP g X) M1 (qF g X (kRdn k n M1).1 (kRdn k n M1).2) := by
    intro n
    induction n with
    | zero =>
      intro k M1 hk hag hdr
      have e1 : M1 1 = M 1 := hag 1 (by decide)
      refine v_Reader_read_28 g X _ _ _ ⟨fun _ => ⟨fun h => qF_i ?_ rfl, fun h => qF_i ?_ rfl⟩, fun h => absurd (by rw [e1, ea]; exact nI_le (by omega) (by omega)) h⟩
      · simp [kRdn, h]
      · simp [kRdn, h]
    | succ n ih =>
      intro k M1 hk hag hdr
      have e1 : M1 1 = M 1 := hag 1 (by decide)
      refine v_Reader_read_28 g X _ _ _ ⟨fun h => absurd h (by rw [e1, ea]; exact nI_ge (by omega) (by omega)), fun _ => ⟨vp_in_nI (by omega) (by decide), hdr, ?_⟩⟩
      rw [nI_1, nI_clamp (by omega)]
      refine ⟨fun h => ?_, fun h => qF_i ?_ ?_⟩
      · simpa only [kRdn, h, if_true] using ih (k + 1) (kTk M1 (M1 2 k)).2 (by omega) (hag.tr (kTk_ag M1 _)) (kTk_dr M1 _ hdr)
      · simp only [kRdn, h, Bool.false_eq_true, if_false]
      · simp only [kRdn, h, Bool.false_eq_true, if_false]
  unfold kRd
  rw [ea, nI_clamp (by omega)]
  refine L a 0 (kRd0 M) (by omega) ?_ ⟨0, by omega, rfl⟩
  exact ((kClr_ag _ (kAg.rf.st (by decide)) (by decide)).st (by decide)).st (by decide)
end zC6
