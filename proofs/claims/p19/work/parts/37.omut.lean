/-! the class's other methods, against the state -/
def setP (F : zTS) (p : Nat → Int32) : zTS := (F.1, F.2.1, F.2.2.1, p, F.2.2.2.2)
def setL (F : zTS) (l : Nat → Int32) : zTS := (F.1, l, F.2.2)
def setS (F : zTS) (s : Nat → Int32) (c : Int32) : zTS := (F.1, F.2.1, s, F.2.2.2.1, F.2.2.2.2.1, c, F.2.2.2.2.2.2)
def setD (F : zTS) (v : Int32) : zTS := (F.1, F.2.1, F.2.2.1, F.2.2.2.1, F.2.2.2.2.1, F.2.2.2.2.2.1, v, F.2.2.2.2.2.2.2)
def setO (F : zTS) (v : Int32) : zTS := (F.1, F.2.1, F.2.2.1, F.2.2.2.1, F.2.2.2.2.1, F.2.2.2.2.2.1, F.2.2.2.2.2.2.1, v, F.2.2.2.2.2.2.2.2)
def setE (F : zTS) (v : Int32) : zTS := (F.1, F.2.1, F.2.2.1, F.2.2.2.1, F.2.2.2.2.1, F.2.2.2.2.2.1, F.2.2.2.2.2.2.1, F.2.2.2.2.2.2.2.1, v)
def aSay (n : Nat) (P : Nat → Int32) (s : Int32) : Int32 × Nat × (Nat → Int32) := if s < 33 then (-2, n, P) else if s ≤ 126 then (if n < 60 then (nI (n + 1), n + 1, upd P n s) else (-4, n, P)) else (-2, n, P)
def aThing (F : zTS) (t w : Int32) : Int32 := if kIsT (fT F) t = true then (if inI w 0 4 = true then fR F (5 * Int32.toNatClampNeg t + Int32.toNatClampNeg w) else -2) else -1
def aJoin (F : zTS) (m o : Int32) : Int32 × zTS := if isM m = true ∧ isM o = true ∧ ¬ m = o then (if fP F (Int32.toNatClampNeg m) = -6 ∧ fP F (Int32.toNatClampNeg o) = -6 then (1, setP F (upd (upd (fP F) (Int32.toNatClampNeg m) o) (Int32.toNatClampNeg o) m)) else (-3, F)) else (-1, F)
def aPart (F : zTS) (m : Int32) : Int32 × zTS := if isM m = true then (fP F (Int32.toNatClampNeg m), if isM (fP F (Int32.toNatClampNeg m)) = true then setP F (upd (upd (fP F) (Int32.toNatClampNeg m) (-6)) (Int32.toNatClampNeg (fP F (Int32.toNatClampNeg m))) (-6)) else F) else (-1, F)
def aSet (F : zTS) (w v : Int32) : Int32 × zTS := if inI w 0 2 = true ∧ inI v 0 (mO w) = true then (if w = 0 then (fD F, setD F v) else if w = 1 then (fO F, setO F v) else (fE F, setE F v)) else (-2, F)
def aLoaves (F : zTS) (t v : Int32) : Int32 × zTS := if kIsT (fT F) t = true then (if inI v 0 9 = true then (fL F (Int32.toNatClampNeg t), setL F (upd (fL F) (Int32.toNatClampNeg t) v)) else (-2, F)) else (-1, F)
def aSeen (F : zTS) (m t : Int32) : Int32 × zTS := if isM m = true ∧ kIsT (fT F) t = true then (if fN F < 6 then (fN F + 1, setS F (upd (upd (fS F) (2 * sN F) m) (2 * sN F + 1) t) (fN F + 1)) else (-4, F)) else (-1, F)
def aForget (F : zTS) : Int32 × zTS := (fN F, setS F (fS F) 0)
def aTold (n : Nat) (F : zTS) (w : Int32) : Int32 := if inI w 10 15 = true then fP F (Int32.toNatClampNeg (w - 10)) else if 20 ≤ w ∧ kIsT (fT F) (w - 20) = true then fL F (Int32.toNatClampNeg (w - 20)) else if w = 0 then nI n else if w = 1 then fT F else if w = 2 then fD F else if w = 3 then fO F else if w = 4 then fE F else if w = 5 then fN F else -2
theorem kMS_rf {M : zMem} : kMS M M := fun _ _ _ => rfl
theorem kMS_st {M M1 : zMem} {q i : Nat} {v : Int32} (h : kMS M M1) (hq : q < 35) : kMS M (zms M1 q i v) := fun p h1 h2 => (zms_ne M1 q i v p (by omega)).trans (h p h1 h2)
theorem vp_cl {x : Int32} {n : Nat} (h : vp_in x n) (hn : n < 2 ^ 31) : Int32.toNatClampNeg x < n := by
  obtain ⟨j, hj, rfl⟩ := vp_in_of h hn
  rw [nI_clamp (by omega)]
  exact hj
theorem kIsT_n {F : zTS} (hw : kWF F) {t : Int32} (h : kIsT (fT F) t = true) : Int32.toNatClampNeg t < tN F ∧ t = nI (Int32.toNatClampNeg t) := by
  simp only [kIsT, Bool.and_eq_true, Bool.not_eq_true', decide_eq_false_iff_not] at h
  obtain ⟨j, hj, e2⟩ := nI_of h.1
  subst e2
  have h2 := h.2
  have hb := hw.1.2
  rw [hw.1.1, nI_leI (by omega) hj] at h2
  rw [nI_clamp hj]
  exact ⟨by omega, rfl⟩
theorem isM_n {m : Int32} (h : isM m = true) : Int32.toNatClampNeg m < 6 ∧ m = nI (Int32.toNatClampNeg m) := by
  obtain ⟨j, hj, rfl⟩ := vp_in_of (isM_in h) (by decide)
  rw [nI_clamp (by omega)]
  exact ⟨hj, rfl⟩
theorem inI_t {v lo hi : Int32} (h : inI v lo hi = true) : ¬ v < lo ∧ ¬ hi < v := by
  simpa [inI] using h
theorem inI_f {v lo hi : Int32} (h : ¬ inI v lo hi = true) : v < lo ∨ hi < v := by
  by_cases h1 : v < lo
  · exact Or.inl h1
  · by_cases h2 : hi < v
    · exact Or.inr h2
    · exact absurd (by simp [inI, h1, h2]) h
theorem inI_i {v lo hi : Int32} (h1 : ¬ v < lo) (h2 : ¬ hi < v) : inI v lo hi = true := by simp [inI, h1, h2]
theorem inI_n1 {v lo hi : Int32} (h1 : v < lo) : ¬ inI v lo hi = true := by simp [inI, h1]
theorem inI_n2 {v lo hi : Int32} (h1 : hi < v) : ¬ inI v lo hi = true := by simp [inI, h1]
theorem i32_nle {a b : Int32} (h : ¬ a ≤ b) : b < a := by
  rw [Int32.le_iff_toInt_le] at h
  rw [Int32.lt_iff_toInt_lt]
  omega
theorem i32_le {a b : Int32} (h : a ≤ b) : ¬ b < a := by
  rw [Int32.le_iff_toInt_le] at h
  rw [Int32.lt_iff_toInt_lt]
  omega
theorem i32_lt {a b : Int32} : a < b ↔ ¬ b ≤ a := by
  rw [Int32.le_iff_toInt_le, Int32.lt_iff_toInt_lt]
  omega
theorem i32_10 {w : Int32} (a : ¬ w < 10) (b : ¬ 16 ≤ w) : vp_in (w - 10) 6 := by
  have h0 : ¬ w < 0 := fun q => a (by rw [Int32.lt_iff_toInt_lt] at q ⊢; exact Int.lt_trans q (by decide))
  obtain ⟨j, hj, e⟩ := nI_of h0
  subst e
  rw [show (10 : Int32) = nI 10 from rfl, nI_ltI hj (by decide)] at a
  rw [show (16 : Int32) = nI 16 from rfl, nI_leI (by decide) hj] at b
  rw [show (10 : Int32) = nI 10 from rfl, pk_sub (by omega)]
  exact vp_in_nI (by omega) (by decide)
section zC8
variable {n : Nat} {P : Nat → Int32} {F : zTS} {I : Nat → Option zTS} {M : zMem} {g : Nat → Option Nat} {X : List zShp}
theorem v_O_say_0 (g : Nat → Option Nat) (X : List zShp) (M : zMem) (x1 : Int32) (R : zEnd) (h : ((x1 < 33) → (R (some (.int (-2))) (SHP g X) M)) ∧ ((¬ x1 < 33) → (((x1 ≤ 126) → ((kPad M) ∧ (R (some (.int (if (M 1 1) < 60 then (M 1 1) + 1 else -4))) (SHP g X) (if (M 1 1) < 60 then zms (zms M 2 (Int32.toNatClampNeg (M 1 1)) x1) 1 1 ((M 1 1) + 1) else M)))) ∧ ((¬ x1 ≤ 126) → (R (some (.int (-2))) (SHP g X) M))))) : zRT m_O_say 0 0 0 [(0, .ref 0), (1, .int x1)] [] (SHP g X) M R := by
  refine zs_iload_n 1 d_O_say_0 rfl (List.mem_of_getElem? (i := 1) rfl) ?_
  refine zs_bipush 33 d_O_say_1 (by decide) ?_
  refine zs_icmp_lt 12 d_O_say_3 (by decide) (fun c1 => ?_) (fun c1 => ?_)
  · replace h := h.1 c1
    refine zs_bipush (-2) d_O_say_12 (by decide) ?_
    exact zs_iret d_O_say_14 rfl h
  · replace h := h.2 c1
    refine zs_iload_n 1 d_O_say_6 rfl (List.mem_of_getElem? (i := 1) rfl) ?_
    refine zs_bipush 126 d_O_say_7 (by decide) ?_
    refine zs_icmp_le 15 d_O_say_9 (by decide) (fun c2 => ?_) (fun c2 => ?_)
    · replace h := h.1 c2
      refine zs_aload_n 0 d_O_say_15 rfl (List.mem_of_getElem? (i := 0) rfl) ?_
      refine zs_get d_O_say_16 gf_O_12 (sh_0 g X) rfl ?_
      refine zs_iload_n 1 d_O_say_19 rfl (List.mem_of_getElem? (i := 1) rfl) ?_
      obtain ⟨p3, h⟩ := h
      refine zs_callV (kc := 0) (ks := 0) (kc1 := 0) (ks1 := 0) (st := []) [.int x1] d_O_say_20 lk_O_62 ⟨by decide, by decide⟩ rfl (sh_1 g X) rfl (Nat.le_of_ble_eq_true rfl) (ex_Pad_put g X M x1 p3) (fun v3 sh3 M3 hR => ?_)
      obtain ⟨rfl, rfl, rfl⟩ := hR
      exact zs_iret d_O_say_23 rfl h
    · replace h := h.2 c2
      refine zs_bipush (-2) d_O_say_12 (by decide) ?_
      exact zs_iret d_O_say_14 rfl h
theorem cl_say (hn : n ≤ 60) (hj : kCJ n P F I M g X) (s : Int32) : zEx m_O_say 0 0 [.ref 0, .int s] (SHP g X) M (qR g X (fun r M1 => r = (aSay n P s).1 ∧ kCJ (aSay n P s).2.1 (aSay n P s).2.2 F I M1 g X ∧ kMS M M1)) := by
  obtain ⟨h1, h2, h3, h4⟩ := id hj
  refine zEx_of _ (by decide) (by simp [Value.category]) (Nat.le_of_ble_eq_true rfl) rfl (v_O_say_0 g X M s _ ⟨fun h => qR_i ?_, fun h => ⟨fun h5 => ⟨kCJ_pad hn hj, ?_⟩, fun h5 => qR_i ?_⟩⟩)
  · unfold aSay; rw [if_pos h]; exact ⟨rfl, hj, kMS_rf⟩
  · unfold aSay
    rw [if_neg h, if_pos h5, h1]
    by_cases hl : n < 60
    · have hl2 : nI n < 60 := (nI_ltI (b := 60) (by omega) (by decide)).mpr hl
      rw [if_pos hl, if_pos hl2, if_pos hl2, nI_1, nI_clamp (by omega)]
      refine qR_i ⟨rfl, ⟨rfl, fun j hj2 => ?_, h3, kIm_ag (fun q hq => (zms_ne _ 1 1 _ q (by omega)).trans (zms_ne M 2 n s q (by omega))) h4⟩, kMS_st (kMS_st kMS_rf (by decide)) (by decide)⟩
      have hj2 : j < n + 1 := hj2
      show (if j = n then s else M 2 j) = if j = n then s else P j
      by_cases e : j = n
      · rw [if_pos e, if_pos e]
      · rw [if_neg e, if_neg e]; exact h2 j (by omega)
    · have hl2 : ¬ nI n < 60 := fun q => hl ((nI_ltI (b := 60) (by omega) (by decide)).mp q)
      rw [if_neg hl, if_neg hl2, if_neg hl2]
      exact qR_i ⟨rfl, hj, kMS_rf⟩
  · unfold aSay; rw [if_neg h, if_neg h5]; exact ⟨rfl, hj, kMS_rf⟩
theorem v_O_wipe_0 (g : Nat → Option Nat) (X : List zShp) (M : zMem) (R : zEnd) (h : R (some (.int (M 1 1))) (SHP g X) (zms M 1 1 0)) : zRT m_O_wipe 0 0 0 [(0, .ref 0)] [] (SHP g X) M R := by
  refine zs_aload_n 0 d_O_wipe_0 rfl (List.mem_of_getElem? (i := 0) rfl) ?_
  refine zs_get d_O_wipe_1 gf_O_12 (sh_0 g X) rfl ?_
  refine zs_callV (kc := 0) (ks := 0) (kc1 := 0) (ks1 := 0) (st := []) [] d_O_wipe_4 lk_O_66 ⟨by decide, by decide⟩ rfl (sh_1 g X) rfl (Nat.le_of_ble_eq_true rfl) (ex_Pad_clear g X M) (fun v1 sh1 M1 hR => ?_)
  obtain ⟨rfl, rfl, rfl⟩ := hR
  exact zs_iret d_O_wipe_7 rfl h
theorem cl_wipe (hj : kCJ n P F I M g X) : zEx m_O_wipe 0 0 [.ref 0] (SHP g X) M (qR g X (fun r M1 => r = nI n ∧ kCJ 0 P F I M1 g X ∧ kMS M M1)) := by
  obtain ⟨h1, h2, h3, h4⟩ := id hj
  exact zEx_of _ (by decide) (by simp [Value.category]) (Nat.le_of_ble_eq_true rfl) rfl (v_O_wipe_0 g X M _ (qR_i ⟨h1, ⟨rfl, fun j hj2 => absurd hj2 (Nat.not_lt_zero j), h3, kIm_ag (fun q hq => zms_ne _ 1 1 _ q (by omega)) h4⟩, kMS_st kMS_rf (by decide)⟩))
theorem v_O_thing_0 (g : Nat → Option Nat) (X : List zShp) (M : zMem) (x1 x2 : Int32) (R : zEnd) (h : (((kIsT (M 11 5) x1) = true) → (((x2 = 0) → ((vp_in x1 10) ∧ (R (some (.int (M 12 (Int32.toNatClampNeg x1)))) (SHP g X) M))) ∧ ((¬ x2 = 0) → (((x2 = 1) → ((vp_in x1 10) ∧ (R (some (.int (M 13 (Int32.toNatClampNeg x1)))) (SHP g X) M))) ∧ ((¬ x2 = 1) → (((x2 = 2) → ((vp_in x1 10) ∧ (R (some (.int (M 14 (Int32.toNatClampNeg x1)))) (SHP g X) M))) ∧ ((¬ x2 = 2) → (((x2 = 3) → ((vp_in x1 10) ∧ (R (some (.int (M 15 (Int32.toNatClampNeg x1)))) (SHP g X) M))) ∧ ((¬ x2 = 3) → (((x2 = 4) → ((vp_in x1 10) ∧ (R (some (.int (M 16 (Int32.toNatClampNeg x1)))) (SHP g X) M))) ∧ ((¬ x2 = 4) → (R (some (.int (-2))) (SHP g X) M)))))))))))) ∧ (((kIsT (M 11 5) x1) = false) → (R (some (.int (-1))) (SHP g X) M))) : zRT m_O_thing 0 0 0 [(0, .ref 0), (1, .int x1), (2, .int x2)] [] (SHP g X) M R := by
  refine zs_aload_n 0 d_O_thing_0 rfl (List.mem_of_getElem? (i := 0) rfl) ?_
  refine zs_iload_n 1 d_O_thing_1 rfl (List.mem_of_getElem? (i := 1) rfl) ?_
  refine zs_callV (kc := 0) (ks := 0) (kc1 := 0) (ks1 := 0) (st := []) [.int x1] d_O_thing_2 lk_O_91 ⟨by decide, by decide⟩ rfl (sh_0 g X) rfl (Nat.le_of_ble_eq_true rfl) (ex_O_isThing g X M x1) (fun v1 sh1 M1 hR => ?_)
  obtain ⟨rfl, rfl, rfl⟩ := hR
  refine zs_if_ne 10 d_O_thing_5 (by decide) (fun c2 => ?_) (fun c2 => ?_)
  · replace h := h.1 (bI_1 c2)
    refine zs_iload_n 2 d_O_thing_10 rfl (List.mem_of_getElem? (i := 2) rfl) ?_
    by_cases c3_0 : x2 = 0
    · replace h := h.1 c3_0
      refine zs_tableIn 44 d_O_thing_11 (by rw [c3_0]; decide) (by rw [c3_0]; decide) (by rw [c3_0]; try rfl) (by decide) ?_
      refine zs_aload_n 0 d_O_thing_44 rfl (List.mem_of_getElem? (i := 0) rfl) ?_
      refine zs_get d_O_thing_45 gf_O_26 (sh_0 g X) rfl ?_
      refine zs_get d_O_thing_48 gf_O_82 (sh_10 g X) rfl ?_
      refine zs_get d_O_thing_51 gf_O_95 (sh_11 g X) rfl ?_
      refine zs_iload_n 1 d_O_thing_54 rfl (List.mem_of_getElem? (i := 1) rfl) ?_
      obtain ⟨b4, h⟩ := h
      refine zs_iald d_O_thing_55 (sh_12 g X) b4 ?_
      exact zs_iret d_O_thing_56 rfl h
    replace h := h.2 c3_0
    by_cases c3_1 : x2 = 1
    · replace h := h.1 c3_1
      refine zs_tableIn 57 d_O_thing_11 (by rw [c3_1]; decide) (by rw [c3_1]; decide) (by rw [c3_1]; try rfl) (by decide) ?_
      refine zs_aload_n 0 d_O_thing_57 rfl (List.mem_of_getElem? (i := 0) rfl) ?_
      refine zs_get d_O_thing_58 gf_O_26 (sh_0 g X) rfl ?_
      refine zs_get d_O_thing_61 gf_O_82 (sh_10 g X) rfl ?_
      refine zs_get d_O_thing_64 gf_O_99 (sh_11 g X) rfl ?_
      refine zs_iload_n 1 d_O_thing_67 rfl (List.mem_of_getElem? (i := 1) rfl) ?_
      obtain ⟨b5, h⟩ := h
      refine zs_iald d_O_thing_68 (sh_13 g X) b5 ?_
      exact zs_iret d_O_thing_69 rfl h
    replace h := h.2 c3_1
    by_cases c3_2 : x2 = 2
    · replace h := h.1 c3_2
      refine zs_tableIn 70 d_O_thing_11 (by rw [c3_2]; decide) (by rw [c3_2]; decide) (by rw [c3_2]; try rfl) (by decide) ?_
      refine zs_aload_n 0 d_O_thing_70 rfl (List.mem_of_getElem? (i := 0) rfl) ?_
      refine zs_get d_O_thing_71 gf_O_26 (sh_0 g X) rfl ?_
      refine zs_get d_O_thing_74 gf_O_82 (sh_10 g X) rfl ?_
      refine zs_get d_O_thing_77 gf_O_102 (sh_11 g X) rfl ?_
      refine zs_iload_n 1 d_O_thing_80 rfl (List.mem_of_getElem? (i := 1) rfl) ?_
      obtain ⟨b6, h⟩ := h
      refine zs_iald d_O_thing_81 (sh_14 g X) b6 ?_
      exact zs_iret d_O_thing_82 rfl h
    replace h := h.2 c3_2
    by_cases c3_3 : x2 = 3
    · replace h := h.1 c3_3
      refine zs_tableIn 83 d_O_thing_11 (by rw [c3_3]; decide) (by rw [c3_3]; decide) (by rw [c3_3]; try rfl) (by decide) ?_
      refine zs_aload_n 0 d_O_thing_83 rfl (List.mem_of_getElem? (i := 0) rfl) ?_
      refine zs_get d_O_thing_84 gf_O_26 (sh_0 g X) rfl ?_
      refine zs_get d_O_thing_87 gf_O_82 (sh_10 g X) rfl ?_
      refine zs_get d_O_thing_90 gf_O_105 (sh_11 g X) rfl ?_
      refine zs_iload_n 1 d_O_thing_93 rfl (List.mem_of_getElem? (i := 1) rfl) ?_
      obtain ⟨b7, h⟩ := h
      refine zs_iald d_O_thing_94 (sh_15 g X) b7 ?_
      exact zs_iret d_O_thing_95 rfl h
    replace h := h.2 c3_3
    by_cases c3_4 : x2 = 4
    · replace h := h.1 c3_4
      refine zs_tableIn 96 d_O_thing_11 (by rw [c3_4]; decide) (by rw [c3_4]; decide) (by rw [c3_4]; try rfl) (by decide) ?_
      refine zs_aload_n 0 d_O_thing_96 rfl (List.mem_of_getElem? (i := 0) rfl) ?_
      refine zs_get d_O_thing_97 gf_O_26 (sh_0 g X) rfl ?_
      refine zs_get d_O_thing_100 gf_O_82 (sh_10 g X) rfl ?_
      refine zs_get d_O_thing_103 gf_O_108 (sh_11 g X) rfl ?_
      refine zs_iload_n 1 d_O_thing_106 rfl (List.mem_of_getElem? (i := 1) rfl) ?_
      obtain ⟨b8, h⟩ := h
      refine zs_iald d_O_thing_107 (sh_16 g X) b8 ?_
      exact zs_iret d_O_thing_108 rfl h
    replace h := h.2 c3_4
    have q3_0 := zI_ne (z := 0) c3_0 (by decide)
    have q3_1 := zI_ne (z := 1) c3_1 (by decide)
    have q3_2 := zI_ne (z := 2) c3_2 (by decide)
    have q3_3 := zI_ne (z := 3) c3_3 (by decide)
    have q3_4 := zI_ne (z := 4) c3_4 (by decide)
    refine zs_tableOut 109 d_O_thing_11 (by omega) (by decide) ?_
    refine zs_bipush (-2) d_O_thing_109 (by decide) ?_
    exact zs_iret d_O_thing_111 rfl h
  · replace h := h.2 (bI_0 c2)
    refine zs_iconst (-1) d_O_thing_8 (by decide) ?_
    exact zs_iret d_O_thing_9 rfl h
theorem cl_thing (hw : kWF F) (hj : kCJ n P F I M g X) (t w : Int32) : zEx m_O_thing 0 0 [.ref 0, .int t, .int w] (SHP g X) M (qR g X (fun r M1 => r = aThing F t w ∧ kAg kCS M M1)) := by
  obtain ⟨hT, -, -, -, -, -, -, -, hR⟩ := hj.2.2.1
  have eT : M 11 5 = fT F := hT
  have go : ∀ k : Nat, k ≤ 4 → kIsT (M 11 5) t = true → w = nI k → aThing F t w = fR F (5 * Int32.toNatClampNeg t + k) := by
    intro k hk h e
    rw [eT] at h
    unfold aThing
    rw [if_pos h, if_pos (inI_i (by rw [e]; exact nI_pos (by omega)) (by rw [e]; exact nI_nlt (a := 4) (by omega) (by decide))), e, nI_clamp (by omega)]
  have hr : kIsT (M 11 5) t = true → Int32.toNatClampNeg t < tN F := fun h => by rw [eT] at h; exact (kIsT_n hw h).1
  have hin : kIsT (M 11 5) t = true → vp_in t 10 := fun h => kIsT_in (kCJ_cnt hw hj) h
  refine zEx_of _ (by decide) (by simp [Value.category]) (Nat.le_of_ble_eq_true rfl) rfl (v_O_thing_0 g X M t w _ ⟨fun h => ⟨fun h2 => ⟨hin h, qR_i ⟨?_, kAg.rf⟩⟩, fun h2 => ⟨fun h3 => ⟨hin h, qR_i ⟨?_, kAg.rf⟩⟩, fun h3 => ⟨fun h4 => ⟨hin h, qR_i ⟨?_, kAg.rf⟩⟩, fun h4 => ⟨fun h5 => ⟨hin h, qR_i ⟨?_, kAg.rf⟩⟩, fun h5 => ⟨fun h6 => ⟨hin h, qR_i ⟨?_, kAg.rf⟩⟩, fun h6 => qR_i ⟨?_, kAg.rf⟩⟩⟩⟩⟩⟩, fun h => qR_i ⟨?_, kAg.rf⟩⟩)
  · rw [go 0 (by decide) h h2]; exact (hR _ (hr h)).1
  · rw [go 1 (by decide) h h3]; exact (hR _ (hr h)).2.1
  · rw [go 2 (by decide) h h4]; exact (hR _ (hr h)).2.2.1
  · rw [go 3 (by decide) h h5]; exact (hR _ (hr h)).2.2.2.1
  · rw [go 4 (by decide) h h6]; exact (hR _ (hr h)).2.2.2.2
  · rw [eT] at h
    unfold aThing
    rw [if_pos h, if_neg]
    intro q
    obtain ⟨q1, q2⟩ := inI_t q
    obtain ⟨j, hj2, e⟩ := nI_of q1
    subst e
    rw [show (4 : Int32) = nI 4 from rfl, nI_ltI (by decide) hj2] at q2
    have hj5 : j = 0 ∨ j = 1 ∨ j = 2 ∨ j = 3 ∨ j = 4 := by omega
    rcases hj5 with rfl | rfl | rfl | rfl | rfl
    · exact h2 rfl
    · exact h3 rfl
    · exact h4 rfl
    · exact h5 rfl
    · exact h6 rfl
  · rw [eT] at h
    unfold aThing
    rw [h]
    rfl
theorem v_O_join_0 (g : Nat → Option Nat) (X : List zShp) (M : zMem) (x1 x2 : Int32) (R : zEnd) (h : (((isM x1) = false) → (R (some (.int (-1))) (SHP g X) M)) ∧ (((isM x1) = true) → ((((isM x2) = false) → (R (some (.int (-1))) (SHP g X) M)) ∧ (((isM x2) = true) → (((¬ x1 = x2) → ((vp_in x1 6) ∧ (((¬ (M 17 (Int32.toNatClampNeg x1)) = (-6)) → (R (some (.int (-3))) (SHP g X) M)) ∧ (((M 17 (Int32.toNatClampNeg x1)) = (-6)) → ((vp_in x2 6) ∧ ((((M 17 (Int32.toNatClampNeg x2)) = (-6)) → (R (some (.int 1)) (SHP g X) (zms (zms M 17 (Int32.toNatClampNeg x1) x2) 17 (Int32.toNatClampNeg x2) x1))) ∧ ((¬ (M 17 (Int32.toNatClampNeg x2)) = (-6)) → (R (some (.int (-3))) (SHP g X) M)))))))) ∧ ((x1 = x2) → (R (some (.int (-1))) (SHP g X) M))))))) : zRT m_O_join 0 0 0 [(0, .ref 0), (1, .int x1), (2, .int x2)] [] (SHP g X) M R := by
  refine zs_iload_n 1 d_O_join_0 rfl (List.mem_of_getElem? (i := 1) rfl) ?_
  refine zs_callS (kc := 0) (ks := 0) (kc1 := 0) (ks1 := 0) (st := []) [.int x1] d_O_join_1 lk_O_111 ⟨by decide, by decide⟩ rfl (Nat.le_of_ble_eq_true rfl) (ex_O_isMan g X M x1) (fun v1 sh1 M1 hR => ?_)
  obtain ⟨rfl, rfl, rfl⟩ := hR
  refine zs_if_eq 19 d_O_join_4 (by decide) (fun c2 => ?_) (fun c2 => ?_)
  · replace h := h.1 (bI_0 c2)
    refine zs_iconst (-1) d_O_join_19 (by decide) ?_
    exact zs_iret d_O_join_20 rfl h
  · replace h := h.2 (bI_1 c2)
    refine zs_iload_n 2 d_O_join_7 rfl (List.mem_of_getElem? (i := 2) rfl) ?_
    refine zs_callS (kc := 0) (ks := 0) (kc1 := 0) (ks1 := 0) (st := []) [.int x2] d_O_join_8 lk_O_111 ⟨by decide, by decide⟩ rfl (Nat.le_of_ble_eq_true rfl) (ex_O_isMan g X M x2) (fun v3 sh3 M3 hR => ?_)
    obtain ⟨rfl, rfl, rfl⟩ := hR
    refine zs_if_eq 19 d_O_join_11 (by decide) (fun c4 => ?_) (fun c4 => ?_)
    · replace h := h.1 (bI_0 c4)
      refine zs_iconst (-1) d_O_join_19 (by decide) ?_
      exact zs_iret d_O_join_20 rfl h
    · replace h := h.2 (bI_1 c4)
      refine zs_iload_n 1 d_O_join_14 rfl (List.mem_of_getElem? (i := 1) rfl) ?_
      refine zs_iload_n 2 d_O_join_15 rfl (List.mem_of_getElem? (i := 2) rfl) ?_
      refine zs_icmp_ne 21 d_O_join_16 (by decide) (fun c5 => ?_) (fun c5 => ?_)
      · replace h := h.1 c5
        refine zs_aload_n 0 d_O_join_21 rfl (List.mem_of_getElem? (i := 0) rfl) ?_
        refine zs_get d_O_join_22 gf_O_26 (sh_0 g X) rfl ?_
        refine zs_get d_O_join_25 gf_O_114 (sh_10 g X) rfl ?_
        refine zs_iload_n 1 d_O_join_28 rfl (List.mem_of_getElem? (i := 1) rfl) ?_
        obtain ⟨b6, h⟩ := h
        refine zs_iald d_O_join_29 (sh_17 g X) b6 ?_
        refine zs_bipush (-6) d_O_join_30 (by decide) ?_
        refine zs_icmp_ne 49 d_O_join_32 (by decide) (fun c7 => ?_) (fun c7 => ?_)
        · replace h := h.1 c7
          refine zs_bipush (-3) d_O_join_49 (by decide) ?_
          exact zs_iret d_O_join_51 rfl h
        · replace h := h.2 c7
          refine zs_aload_n 0 d_O_join_35 rfl (List.mem_of_getElem? (i := 0) rfl) ?_
          refine zs_get d_O_join_36 gf_O_26 (sh_0 g X) rfl ?_
          refine zs_get d_O_join_39 gf_O_114 (sh_10 g X) rfl ?_
          refine zs_iload_n 2 d_O_join_42 rfl (List.mem_of_getElem? (i := 2) rfl) ?_
          obtain ⟨b8, h⟩ := h
          refine zs_iald d_O_join_43 (sh_17 g X) b8 ?_
          refine zs_bipush (-6) d_O_join_44 (by decide) ?_
          refine zs_icmp_eq 52 d_O_join_46 (by decide) (fun c9 => ?_) (fun c9 => ?_)
          · replace h := h.1 c9
            refine zs_aload_n 0 d_O_join_52 rfl (List.mem_of_getElem? (i := 0) rfl) ?_
            refine zs_get d_O_join_53 gf_O_26 (sh_0 g X) rfl ?_
            refine zs_get d_O_join_56 gf_O_114 (sh_10 g X) rfl ?_
            refine zs_iload_n 1 d_O_join_59 rfl (List.mem_of_getElem? (i := 1) rfl) ?_
            refine zs_iload_n 2 d_O_join_60 rfl (List.mem_of_getElem? (i := 2) rfl) ?_
            refine zs_iast d_O_join_61 (sh_17 g X) b6 ?_
            refine zs_aload_n 0 d_O_join_62 rfl (List.mem_of_getElem? (i := 0) rfl) ?_
            refine zs_get d_O_join_63 gf_O_26 (sh_0 g X) rfl ?_
            refine zs_get d_O_join_66 gf_O_114 (sh_10 g X) rfl ?_
            refine zs_iload_n 2 d_O_join_69 rfl (List.mem_of_getElem? (i := 2) rfl) ?_
            refine zs_iload_n 1 d_O_join_70 rfl (List.mem_of_getElem? (i := 1) rfl) ?_
            refine zs_iast d_O_join_71 (sh_17 g X) b8 ?_
            refine zs_iconst 1 d_O_join_72 (by decide) ?_
            exact zs_iret d_O_join_73 rfl h
          · replace h := h.2 c9
            refine zs_bipush (-3) d_O_join_49 (by decide) ?_
            exact zs_iret d_O_join_51 rfl h
      · replace h := h.2 c5
        refine zs_iconst (-1) d_O_join_19 (by decide) ?_
        exact zs_iret d_O_join_20 rfl h
theorem cl_join (hj : kCJ n P F I M g X) (m o : Int32) : zEx m_O_join 0 0 [.ref 0, .int m, .int o] (SHP g X) M (qR g X (fun r M1 => r = (aJoin F m o).1 ∧ kCJ n P (aJoin F m o).2 I M1 g X ∧ kMS M M1)) := by
  obtain ⟨h1, h2, h3, h4⟩ := id hj
  obtain ⟨t1, t2, t3, t4, t5, t6, t7, t8, t9⟩ := id h3
  have hP : ∀ x, isM x = true → M 17 (Int32.toNatClampNeg x) = fP F (Int32.toNatClampNeg x) := fun x hx => t6 _ (isM_n hx).1
  refine zEx_of _ (by decide) (by simp [Value.category]) (Nat.le_of_ble_eq_true rfl) rfl (v_O_join_0 g X M m o _ ⟨fun a1 => ?_, fun a1 => ⟨fun a2 => ?_, fun a2 => ⟨fun a3 => ⟨isM_in a1, fun a4 => ?_, fun a4 => ⟨isM_in a2, fun a5 => ?_, fun a5 => ?_⟩⟩, fun a3 => ?_⟩⟩⟩)
  · unfold aJoin; rw [if_neg (fun q => by rw [a1] at q; exact absurd q.1 (by decide))]; exact qR_i ⟨rfl, hj, kMS_rf⟩
  · unfold aJoin; rw [if_neg (fun q => by rw [a2] at q; exact absurd q.2.1 (by decide))]; exact qR_i ⟨rfl, hj, kMS_rf⟩
  · unfold aJoin; rw [if_pos ⟨a1, a2, a3⟩, if_neg (fun q => a4 (by rw [hP m a1]; exact q.1))]; exact qR_i ⟨rfl, hj, kMS_rf⟩
  · unfold aJoin
    rw [if_pos ⟨a1, a2, a3⟩, if_pos ⟨by rw [← hP m a1]; exact a4, by rw [← hP o a2]; exact a5⟩]
    refine qR_i ⟨rfl, ⟨h1, h2, ⟨t1, t2, t3, t4, t5, fun j hj2 => ?_, t7, t8, t9⟩, kIm_ag (fun q hq => (zms_ne _ 17 _ _ q (by omega)).trans (zms_ne _ 17 _ _ q (by omega))) h4⟩, kMS_st (kMS_st kMS_rf (by decide)) (by decide)⟩
    show (if j = Int32.toNatClampNeg o then m else if j = Int32.toNatClampNeg m then o else M 17 j) = if j = Int32.toNatClampNeg o then m else if j = Int32.toNatClampNeg m then o else fP F j
    rw [show M 17 j = fP F j from t6 j hj2]
  · unfold aJoin; rw [if_pos ⟨a1, a2, a3⟩, if_neg (fun q => a5 (by rw [hP o a2]; exact q.2))]; exact qR_i ⟨rfl, hj, kMS_rf⟩
  · unfold aJoin; rw [if_neg (fun q => q.2.2 a3)]; exact qR_i ⟨rfl, hj, kMS_rf⟩
theorem v_O_part_0 (g : Nat → Option Nat) (X : List zShp) (M : zMem) (x1 : Int32) (R : zEnd) (h : (((isM x1) = true) → ((vp_in x1 6) ∧ ((((isM (M 17 (Int32.toNatClampNeg x1))) = false) → (R (some (.int (M 17 (Int32.toNatClampNeg x1)))) (SHP g X) (zms M 17 (Int32.toNatClampNeg x1) (-6)))) ∧ (((isM (M 17 (Int32.toNatClampNeg x1))) = true) → ((vp_in (M 17 (Int32.toNatClampNeg x1)) 6) ∧ (R (some (.int (M 17 (Int32.toNatClampNeg x1)))) (SHP g X) (zms (zms M 17 (Int32.toNatClampNeg x1) (-6)) 17 (Int32.toNatClampNeg (M 17 (Int32.toNatClampNeg x1))) (-6)))))))) ∧ (((isM x1) = false) → (R (some (.int (-1))) (SHP g X) M))) : zRT m_O_part 0 0 0 [(0, .ref 0), (1, .int x1)] [] (SHP g X) M R := by
  refine zs_iload_n 1 d_O_part_0 rfl (List.mem_of_getElem? (i := 1) rfl) ?_
  refine zs_callS (kc := 0) (ks := 0) (kc1 := 0) (ks1 := 0) (st := []) [.int x1] d_O_part_1 lk_O_111 ⟨by decide, by decide⟩ rfl (Nat.le_of_ble_eq_true rfl) (ex_O_isMan g X M x1) (fun v1 sh1 M1 hR => ?_)
  obtain ⟨rfl, rfl, rfl⟩ := hR
  refine zs_if_ne 9 d_O_part_4 (by decide) (fun c2 => ?_) (fun c2 => ?_)
  · replace h := h.1 (bI_1 c2)
    refine zs_aload_n 0 d_O_part_9 rfl (List.mem_of_getElem? (i := 0) rfl) ?_
    refine zs_get d_O_part_10 gf_O_26 (sh_0 g X) rfl ?_
    refine zs_get d_O_part_13 gf_O_114 (sh_10 g X) rfl ?_
    refine zs_iload_n 1 d_O_part_16 rfl (List.mem_of_getElem? (i := 1) rfl) ?_
    obtain ⟨b3, h⟩ := h
    refine zs_iald d_O_part_17 (sh_17 g X) b3 ?_
    refine zs_istore_n2 2 [1, 2, 0] [(0, .ref 0), (1, .int x1), (2, .int (M 17 (Int32.toNatClampNeg x1)))] d_O_part_18 rfl (by decide) rfl ?_
    refine zs_aload_n 0 d_O_part_19 rfl (List.mem_of_getElem? (i := 0) rfl) ?_
    refine zs_get d_O_part_20 gf_O_26 (sh_0 g X) rfl ?_
    refine zs_get d_O_part_23 gf_O_114 (sh_10 g X) rfl ?_
    refine zs_iload_n 1 d_O_part_26 rfl (List.mem_of_getElem? (i := 1) rfl) ?_
    refine zs_bipush (-6) d_O_part_27 (by decide) ?_
    refine zs_iast d_O_part_29 (sh_17 g X) b3 ?_
    refine zs_iload_n 2 d_O_part_30 rfl (List.mem_of_getElem? (i := 2) rfl) ?_
    refine zs_callS (kc := 0) (ks := 0) (kc1 := 0) (ks1 := 0) (st := []) [.int (M 17 (Int32.toNatClampNeg x1))] d_O_part_31 lk_O_111 ⟨by decide, by decide⟩ rfl (Nat.le_of_ble_eq_true rfl) (ex_O_isMan g X (zms M 17 (Int32.toNatClampNeg x1) (-6)) (M 17 (Int32.toNatClampNeg x1))) (fun v4 sh4 M4 hR => ?_)
    obtain ⟨rfl, rfl, rfl⟩ := hR
    refine zs_if_eq 48 d_O_part_34 (by decide) (fun c5 => ?_) (fun c5 => ?_)
    · replace h := h.1 (bI_0 c5)
      refine zs_iload_n 2 d_O_part_48 rfl (List.mem_of_getElem? (i := 2) rfl) ?_
      exact zs_iret d_O_part_49 rfl h
    · replace h := h.2 (bI_1 c5)
      refine zs_aload_n 0 d_O_part_37 rfl (List.mem_of_getElem? (i := 0) rfl) ?_
      refine zs_get d_O_part_38 gf_O_26 (sh_0 g X) rfl ?_
      refine zs_get d_O_part_41 gf_O_114 (sh_10 g X) rfl ?_
      refine zs_iload_n 2 d_O_part_44 rfl (List.mem_of_getElem? (i := 2) rfl) ?_
      refine zs_bipush (-6) d_O_part_45 (by decide) ?_
      obtain ⟨b6, h⟩ := h
      refine zs_iast d_O_part_47 (sh_17 g X) b6 ?_
      refine zs_iload_n 2 d_O_part_48 rfl (List.mem_of_getElem? (i := 2) rfl) ?_
      exact zs_iret d_O_part_49 rfl h
  · replace h := h.2 (bI_0 c2)
    refine zs_iconst (-1) d_O_part_7 (by decide) ?_
    exact zs_iret d_O_part_8 rfl h
theorem cl_part (hw : kWF F) (hj : kCJ n P F I M g X) (m : Int32) : zEx m_O_part 0 0 [.ref 0, .int m] (SHP g X) M (qR g X (fun r M1 => r = (aPart F m).1 ∧ kCJ n P (aPart F m).2 I M1 g X ∧ kMS M M1)) := by
  obtain ⟨h1, h2, h3, h4⟩ := id hj
  obtain ⟨t1, t2, t3, t4, t5, t6, t7, t8, t9⟩ := id h3
  refine zEx_of _ (by decide) (by simp [Value.category]) (Nat.le_of_ble_eq_true rfl) rfl (v_O_part_0 g X M m _ ⟨fun a1 => ⟨isM_in a1, fun a2 => ?_, fun a2 => ⟨isM_in a2, ?_⟩⟩, fun a1 => ?_⟩)
  · have hP : M 17 (Int32.toNatClampNeg m) = fP F (Int32.toNatClampNeg m) := t6 _ (isM_n a1).1
    rw [hP] at a2 ⊢
    unfold aPart
    rw [if_pos a1, if_neg (by rw [a2]; decide)]
    refine qR_i ⟨rfl, ⟨h1, h2, ⟨t1, t2, t3, t4, t5, fun j hj2 => ?_, t7, t8, t9⟩, kIm_ag (fun q hq => zms_ne _ 17 _ _ q (by omega)) h4⟩, kMS_st kMS_rf (by decide)⟩
    show (if j = Int32.toNatClampNeg m then -6 else M 17 j) = fP F j
    by_cases e : j = Int32.toNatClampNeg m
    · rw [if_pos e, e]
      rcases hw.2.2.2.2.2.1 _ (isM_n a1).1 with q | ⟨i, hi, -, q, -⟩
      · exact q.symm
      · rw [q] at a2
        have : isM (nI i) = true := by
          have : ∀ i, i < 6 → isM (nI i) = true := by decide
          exact this i hi
        rw [this] at a2
        exact absurd a2 (by decide)
    · rw [if_neg e]; exact t6 j hj2
  · have hP : M 17 (Int32.toNatClampNeg m) = fP F (Int32.toNatClampNeg m) := t6 _ (isM_n a1).1
    rw [hP] at a2 ⊢
    unfold aPart
    rw [if_pos a1, if_pos a2]
    refine qR_i ⟨rfl, ⟨h1, h2, ⟨t1, t2, t3, t4, t5, fun j hj2 => ?_, t7, t8, t9⟩, kIm_ag (fun q hq => (zms_ne _ 17 _ _ q (by omega)).trans (zms_ne _ 17 _ _ q (by omega))) h4⟩, kMS_st (kMS_st kMS_rf (by decide)) (by decide)⟩
    show (if j = Int32.toNatClampNeg (fP F (Int32.toNatClampNeg m)) then -6 else if j = Int32.toNatClampNeg m then -6 else M 17 j) = if j = Int32.toNatClampNeg (fP F (Int32.toNatClampNeg m)) then -6 else if j = Int32.toNatClampNeg m then -6 else fP F j
    rw [show M 17 j = fP F j from t6 j hj2]
  · unfold aPart; rw [a1]; exact qR_i ⟨rfl, hj, kMS_rf⟩
theorem v_Town_change_0 (g : Nat → Option Nat) (X : List zShp) (M : zMem) (x1 x2 : Int32) (R : zEnd) (h : ((¬ x1 = 0) → (((¬ x1 = 1) → (R (some (.int (M 10 8))) (SHP g X) (zms M 10 8 x2))) ∧ ((x1 = 1) → (R (some (.int (M 10 7))) (SHP g X) (zms M 10 7 x2))))) ∧ ((x1 = 0) → (R (some (.int (M 10 6))) (SHP g X) (zms M 10 6 x2)))) : zRT m_Town_change 0 0 0 [(0, .ref 10), (1, .int x1), (2, .int x2)] [] (SHP g X) M R := by
  refine zs_iload_n 1 d_Town_change_0 rfl (List.mem_of_getElem? (i := 1) rfl) ?_
  refine zs_if_ne 17 d_Town_change_1 (by decide) (fun c1 => ?_) (fun c1 => ?_)
  · replace h := h.1 c1
    refine zs_iload_n 1 d_Town_change_17 rfl (List.mem_of_getElem? (i := 1) rfl) ?_
    refine zs_iconst 1 d_Town_change_18 (by decide) ?_
    refine zs_icmp_ne 35 d_Town_change_19 (by decide) (fun c2 => ?_) (fun c2 => ?_)
    · replace h := h.1 c2
      refine zs_aload_n 0 d_Town_change_35 rfl (List.mem_of_getElem? (i := 0) rfl) ?_
      refine zs_get d_Town_change_36 gf_Town_35 (sh_10 g X) rfl ?_
      refine zs_istore_n2 3 [1, 2, 3, 0] [(0, .ref 10), (1, .int x1), (2, .int x2), (3, .int (M 10 8))] d_Town_change_39 rfl (by decide) rfl ?_
      refine zs_aload_n 0 d_Town_change_40 rfl (List.mem_of_getElem? (i := 0) rfl) ?_
      refine zs_iload_n 2 d_Town_change_41 rfl (List.mem_of_getElem? (i := 2) rfl) ?_
      refine zs_put d_Town_change_42 pf_Town_35 (sh_10 g X) rfl rfl rfl ?_
      refine zs_iload_n 3 d_Town_change_45 rfl (List.mem_of_getElem? (i := 3) rfl) ?_
      exact zs_iret d_Town_change_46 rfl h
    · replace h := h.2 c2
      refine zs_aload_n 0 d_Town_change_22 rfl (List.mem_of_getElem? (i := 0) rfl) ?_
      refine zs_get d_Town_change_23 gf_Town_51 (sh_10 g X) rfl ?_
      refine zs_istore_n2 3 [1, 2, 3, 0] [(0, .ref 10), (1, .int x1), (2, .int x2), (3, .int (M 10 7))] d_Town_change_26 rfl (by decide) rfl ?_
      refine zs_aload_n 0 d_Town_change_27 rfl (List.mem_of_getElem? (i := 0) rfl) ?_
      refine zs_iload_n 2 d_Town_change_28 rfl (List.mem_of_getElem? (i := 2) rfl) ?_
      refine zs_put d_Town_change_29 pf_Town_51 (sh_10 g X) rfl rfl rfl ?_
      refine zs_goto 45 d_Town_change_32 (by decide) ?_
      refine zs_iload_n 3 d_Town_change_45 rfl (List.mem_of_getElem? (i := 3) rfl) ?_
      exact zs_iret d_Town_change_46 rfl h
  · replace h := h.2 c1
    refine zs_aload_n 0 d_Town_change_4 rfl (List.mem_of_getElem? (i := 0) rfl) ?_
    refine zs_get d_Town_change_5 gf_Town_31 (sh_10 g X) rfl ?_
    refine zs_istore_n2 3 [1, 2, 3, 0] [(0, .ref 10), (1, .int x1), (2, .int x2), (3, .int (M 10 6))] d_Town_change_8 rfl (by decide) rfl ?_
    refine zs_aload_n 0 d_Town_change_9 rfl (List.mem_of_getElem? (i := 0) rfl) ?_
    refine zs_iload_n 2 d_Town_change_10 rfl (List.mem_of_getElem? (i := 2) rfl) ?_
    refine zs_put d_Town_change_11 pf_Town_31 (sh_10 g X) rfl rfl rfl ?_
    refine zs_goto 45 d_Town_change_14 (by decide) ?_
    refine zs_iload_n 3 d_Town_change_45 rfl (List.mem_of_getElem? (i := 3) rfl) ?_
    exact zs_iret d_Town_change_46 rfl h
theorem ex_Town_change (g : Nat → Option Nat) (X : List zShp) (M : zMem) (w v : Int32) : zEx m_Town_change 0 0 [.ref 10, .int w, .int v] (SHP g X) M (qF g X (if w = 0 then M 10 6 else if w = 1 then M 10 7 else M 10 8) (if w = 0 then zms M 10 6 v else if w = 1 then zms M 10 7 v else zms M 10 8 v)) := by
  refine zEx_of _ (by decide) (by simp [Value.category]) (Nat.le_of_ble_eq_true rfl) rfl (v_Town_change_0 g X M w v _ ⟨fun h => ⟨fun h2 => ?_, fun h2 => ?_⟩, fun h => ?_⟩)
  · rw [if_neg h, if_neg h2, if_neg h, if_neg h2]; exact qF_i rfl rfl
  · rw [if_neg h, if_pos h2, if_neg h, if_pos h2]; exact qF_i rfl rfl
  · rw [if_pos h, if_pos h]; exact qF_i rfl rfl
theorem v_O_set_0 (g : Nat → Option Nat) (X : List zShp) (M : zMem) (x1 x2 : Int32) (R : zEnd) (h : ((x1 < 0) → (R (some (.int (-2))) (SHP g X) M)) ∧ ((¬ x1 < 0) → (((2 < x1) → (R (some (.int (-2))) (SHP g X) M)) ∧ ((¬ 2 < x1) → (((x2 < 0) → (R (some (.int (-2))) (SHP g X) M)) ∧ ((¬ x2 < 0) → (((x2 ≤ (mO x1)) → (R (some (.int (if x1 = 0 then M 10 6 else if x1 = 1 then M 10 7 else M 10 8))) (SHP g X) (if x1 = 0 then zms M 10 6 x2 else if x1 = 1 then zms M 10 7 x2 else zms M 10 8 x2))) ∧ ((¬ x2 ≤ (mO x1)) → (R (some (.int (-2))) (SHP g X) M))))))))) : zRT m_O_set 0 0 0 [(0, .ref 0), (1, .int x1), (2, .int x2)] [] (SHP g X) M R := by
  refine zs_iload_n 1 d_O_set_0 rfl (List.mem_of_getElem? (i := 1) rfl) ?_
  refine zs_if_lt 21 d_O_set_1 (by decide) (fun c1 => ?_) (fun c1 => ?_)
  · replace h := h.1 c1
    refine zs_bipush (-2) d_O_set_21 (by decide) ?_
    exact zs_iret d_O_set_23 rfl h
  · replace h := h.2 c1
    refine zs_iload_n 1 d_O_set_4 rfl (List.mem_of_getElem? (i := 1) rfl) ?_
    refine zs_iconst 2 d_O_set_5 (by decide) ?_
    refine zs_icmp_gt 21 d_O_set_6 (by decide) (fun c2 => ?_) (fun c2 => ?_)
    · replace h := h.1 c2
      refine zs_bipush (-2) d_O_set_21 (by decide) ?_
      exact zs_iret d_O_set_23 rfl h
    · replace h := h.2 c2
      refine zs_iload_n 2 d_O_set_9 rfl (List.mem_of_getElem? (i := 2) rfl) ?_
      refine zs_if_lt 21 d_O_set_10 (by decide) (fun c3 => ?_) (fun c3 => ?_)
      · replace h := h.1 c3
        refine zs_bipush (-2) d_O_set_21 (by decide) ?_
        exact zs_iret d_O_set_23 rfl h
      · replace h := h.2 c3
        refine zs_iload_n 2 d_O_set_13 rfl (List.mem_of_getElem? (i := 2) rfl) ?_
        refine zs_iload_n 1 d_O_set_14 rfl (List.mem_of_getElem? (i := 1) rfl) ?_
        refine zs_callS (kc := 0) (ks := 0) (kc1 := 0) (ks1 := 0) (st := [.int x2]) [.int x1] d_O_set_15 lk_O_117 ⟨by decide, by decide⟩ rfl (Nat.le_of_ble_eq_true rfl) (ex_Town_mostOf g X M x1) (fun v4 sh4 M4 hR => ?_)
        obtain ⟨rfl, rfl, rfl⟩ := hR
        refine zs_icmp_le 24 d_O_set_18 (by decide) (fun c5 => ?_) (fun c5 => ?_)
        · replace h := h.1 c5
          refine zs_aload_n 0 d_O_set_24 rfl (List.mem_of_getElem? (i := 0) rfl) ?_
          refine zs_get d_O_set_25 gf_O_26 (sh_0 g X) rfl ?_
          refine zs_iload_n 1 d_O_set_28 rfl (List.mem_of_getElem? (i := 1) rfl) ?_
          refine zs_iload_n 2 d_O_set_29 rfl (List.mem_of_getElem? (i := 2) rfl) ?_
          refine zs_callV (kc := 0) (ks := 0) (kc1 := 0) (ks1 := 0) (st := []) [.int x1, .int x2] d_O_set_30 lk_O_120 ⟨by decide, by decide⟩ rfl (sh_10 g X) rfl (Nat.le_of_ble_eq_true rfl) (ex_Town_change g X M x1 x2) (fun v6 sh6 M6 hR => ?_)
          obtain ⟨rfl, rfl, rfl⟩ := hR
          exact zs_iret d_O_set_33 rfl h
        · replace h := h.2 c5
          refine zs_bipush (-2) d_O_set_21 (by decide) ?_
          exact zs_iret d_O_set_23 rfl h
theorem cl_set (hj : kCJ n P F I M g X) (w v : Int32) : zEx m_O_set 0 0 [.ref 0, .int w, .int v] (SHP g X) M (qR g X (fun r M1 => r = (aSet F w v).1 ∧ kCJ n P (aSet F w v).2 I M1 g X ∧ kMS M M1)) := by
  obtain ⟨h1, h2, h3, h4⟩ := id hj
  obtain ⟨t1, t2, t3, t4, t5, t6, t7, t8, t9⟩ := id h3
  have e6 : M 10 6 = fD F := t3
  have e7 : M 10 7 = fO F := t4
  have e8 : M 10 8 = fE F := t5
  refine zEx_of _ (by decide) (by simp [Value.category]) (Nat.le_of_ble_eq_true rfl) rfl (v_O_set_0 g X M w v _ ⟨fun a => ?_, fun a => ⟨fun b => ?_, fun b => ⟨fun c => ?_, fun c => ⟨fun d => ?_, fun d => ?_⟩⟩⟩⟩)
  · unfold aSet; rw [if_neg (fun q => inI_n1 a q.1)]; exact qR_i ⟨rfl, hj, kMS_rf⟩
  · unfold aSet; rw [if_neg (fun q => inI_n2 b q.1)]; exact qR_i ⟨rfl, hj, kMS_rf⟩
  · unfold aSet; rw [if_neg (fun q => inI_n1 c q.2)]; exact qR_i ⟨rfl, hj, kMS_rf⟩
  · unfold aSet
    rw [if_pos ⟨inI_i a b, inI_i c (i32_le d)⟩]
    by_cases e : w = 0
    · rw [if_pos e, if_pos e, if_pos e]
      exact qR_i ⟨e6, ⟨h1, h2, ⟨t1, t2, rfl, t4, t5, t6, t7, t8, t9⟩, kIm_ag (fun q hq => zms_ne _ 10 _ _ q (by omega)) h4⟩, kMS_st kMS_rf (by decide)⟩
    · by_cases e2 : w = 1
      · rw [if_neg e, if_pos e2, if_neg e, if_pos e2, if_neg e, if_pos e2]
        exact qR_i ⟨e7, ⟨h1, h2, ⟨t1, t2, t3, rfl, t5, t6, t7, t8, t9⟩, kIm_ag (fun q hq => zms_ne _ 10 _ _ q (by omega)) h4⟩, kMS_st kMS_rf (by decide)⟩
      · rw [if_neg e, if_neg e2, if_neg e, if_neg e2, if_neg e, if_neg e2]
        exact qR_i ⟨e8, ⟨h1, h2, ⟨t1, t2, t3, t4, rfl, t6, t7, t8, t9⟩, kIm_ag (fun q hq => zms_ne _ 10 _ _ q (by omega)) h4⟩, kMS_st kMS_rf (by decide)⟩
  · unfold aSet; rw [if_neg (fun q => inI_n2 (i32_nle d) q.2)]; exact qR_i ⟨rfl, hj, kMS_rf⟩
theorem v_O_loaves_0 (g : Nat → Option Nat) (X : List zShp) (M : zMem) (x1 x2 : Int32) (R : zEnd) (h : (((kIsT (M 11 5) x1) = true) → (((x2 < 0) → (R (some (.int (-2))) (SHP g X) M)) ∧ ((¬ x2 < 0) → (((x2 ≤ 9) → ((vp_in x1 10) ∧ (R (some (.int (M 18 (Int32.toNatClampNeg x1)))) (SHP g X) (zms M 18 (Int32.toNatClampNeg x1) x2)))) ∧ ((¬ x2 ≤ 9) → (R (some (.int (-2))) (SHP g X) M)))))) ∧ (((kIsT (M 11 5) x1) = false) → (R (some (.int (-1))) (SHP g X) M))) : zRT m_O_loaves 0 0 0 [(0, .ref 0), (1, .int x1), (2, .int x2)] [] (SHP g X) M R := by
  refine zs_aload_n 0 d_O_loaves_0 rfl (List.mem_of_getElem? (i := 0) rfl) ?_
  refine zs_iload_n 1 d_O_loaves_1 rfl (List.mem_of_getElem? (i := 1) rfl) ?_
  refine zs_callV (kc := 0) (ks := 0) (kc1 := 0) (ks1 := 0) (st := []) [.int x1] d_O_loaves_2 lk_O_91 ⟨by decide, by decide⟩ rfl (sh_0 g X) rfl (Nat.le_of_ble_eq_true rfl) (ex_O_isThing g X M x1) (fun v1 sh1 M1 hR => ?_)
  obtain ⟨rfl, rfl, rfl⟩ := hR
  refine zs_if_ne 10 d_O_loaves_5 (by decide) (fun c2 => ?_) (fun c2 => ?_)
  · replace h := h.1 (bI_1 c2)
    refine zs_iload_n 2 d_O_loaves_10 rfl (List.mem_of_getElem? (i := 2) rfl) ?_
    refine zs_if_lt 20 d_O_loaves_11 (by decide) (fun c3 => ?_) (fun c3 => ?_)
    · replace h := h.1 c3
      refine zs_bipush (-2) d_O_loaves_20 (by decide) ?_
      exact zs_iret d_O_loaves_22 rfl h
    · replace h := h.2 c3
      refine zs_iload_n 2 d_O_loaves_14 rfl (List.mem_of_getElem? (i := 2) rfl) ?_
      refine zs_bipush 9 d_O_loaves_15 (by decide) ?_
      refine zs_icmp_le 23 d_O_loaves_17 (by decide) (fun c4 => ?_) (fun c4 => ?_)
      · replace h := h.1 c4
        refine zs_aload_n 0 d_O_loaves_23 rfl (List.mem_of_getElem? (i := 0) rfl) ?_
        refine zs_get d_O_loaves_24 gf_O_26 (sh_0 g X) rfl ?_
        refine zs_get d_O_loaves_27 gf_O_124 (sh_10 g X) rfl ?_
        refine zs_iload_n 1 d_O_loaves_30 rfl (List.mem_of_getElem? (i := 1) rfl) ?_
        obtain ⟨b5, h⟩ := h
        refine zs_iald d_O_loaves_31 (sh_18 g X) b5 ?_
        refine zs_istore_n2 3 [1, 2, 3, 0] [(0, .ref 0), (1, .int x1), (2, .int x2), (3, .int (M 18 (Int32.toNatClampNeg x1)))] d_O_loaves_32 rfl (by decide) rfl ?_
        refine zs_aload_n 0 d_O_loaves_33 rfl (List.mem_of_getElem? (i := 0) rfl) ?_
        refine zs_get d_O_loaves_34 gf_O_26 (sh_0 g X) rfl ?_
        refine zs_get d_O_loaves_37 gf_O_124 (sh_10 g X) rfl ?_
        refine zs_iload_n 1 d_O_loaves_40 rfl (List.mem_of_getElem? (i := 1) rfl) ?_
        refine zs_iload_n 2 d_O_loaves_41 rfl (List.mem_of_getElem? (i := 2) rfl) ?_
        refine zs_iast d_O_loaves_42 (sh_18 g X) b5 ?_
        refine zs_iload_n 3 d_O_loaves_43 rfl (List.mem_of_getElem? (i := 3) rfl) ?_
        exact zs_iret d_O_loaves_44 rfl h
      · replace h := h.2 c4
        refine zs_bipush (-2) d_O_loaves_20 (by decide) ?_
        exact zs_iret d_O_loaves_22 rfl h
  · replace h := h.2 (bI_0 c2)
    refine zs_iconst (-1) d_O_loaves_8 (by decide) ?_
    exact zs_iret d_O_loaves_9 rfl h
theorem cl_loaves (hw : kWF F) (hj : kCJ n P F I M g X) (t v : Int32) : zEx m_O_loaves 0 0 [.ref 0, .int t, .int v] (SHP g X) M (qR g X (fun r M1 => r = (aLoaves F t v).1 ∧ kCJ n P (aLoaves F t v).2 I M1 g X ∧ kMS M M1)) := by
  obtain ⟨h1, h2, h3, h4⟩ := id hj
  obtain ⟨t1, t2, t3, t4, t5, t6, t7, t8, t9⟩ := id h3
  have eT : M 11 5 = fT F := t1
  have hcn := kCJ_cnt hw hj
  refine zEx_of _ (by decide) (by simp [Value.category]) (Nat.le_of_ble_eq_true rfl) rfl (v_O_loaves_0 g X M t v _ ⟨fun a => ⟨fun b => ?_, fun b => ⟨fun c => ⟨kIsT_in hcn a, ?_⟩, fun c => ?_⟩⟩, fun a => ?_⟩)
  · rw [eT] at a; unfold aLoaves; rw [if_pos a, if_neg (inI_n1 b)]; exact qR_i ⟨rfl, hj, kMS_rf⟩
  · have hc10 := vp_cl (kIsT_in hcn a) (by decide)
    rw [eT] at a; unfold aLoaves; rw [if_pos a, if_pos (inI_i b (i32_le c))]
    refine qR_i ⟨t7 _ hc10, ⟨h1, h2, ⟨t1, t2, t3, t4, t5, t6, fun j hj2 => ?_, t8, t9⟩, kIm_ag (fun q hq => zms_ne _ 18 _ _ q (by omega)) h4⟩, kMS_st kMS_rf (by decide)⟩
    show (if j = Int32.toNatClampNeg t then v else M 18 j) = if j = Int32.toNatClampNeg t then v else fL F j
    rw [show M 18 j = fL F j from t7 j hj2]
  · rw [eT] at a; unfold aLoaves; rw [if_pos a, if_neg (inI_n2 (i32_nle c))]; exact qR_i ⟨rfl, hj, kMS_rf⟩
  · rw [eT] at a; unfold aLoaves; rw [a]; exact qR_i ⟨rfl, hj, kMS_rf⟩
theorem v_Town_addSight_0 (g : Nat → Option Nat) (X : List zShp) (M : zMem) (x1 x2 : Int32) (R : zEnd) (h : (((M 10 5) < 6) → ((vp_in (M 10 5) 6) ∧ (R (some (.int ((zms (zms (zms M 19 (Int32.toNatClampNeg (M 10 5)) x1) 20 (Int32.toNatClampNeg (M 10 5)) x2) 10 5 ((M 10 5) + 1)) 10 5))) (SHP g X) (zms (zms (zms M 19 (Int32.toNatClampNeg (M 10 5)) x1) 20 (Int32.toNatClampNeg (M 10 5)) x2) 10 5 ((M 10 5) + 1))))) ∧ ((¬ (M 10 5) < 6) → (R (some (.int (-4))) (SHP g X) M))) : zRT m_Town_addSight 0 0 0 [(0, .ref 10), (1, .int x1), (2, .int x2)] [] (SHP g X) M R := by
  refine zs_aload_n 0 d_Town_addSight_0 rfl (List.mem_of_getElem? (i := 0) rfl) ?_
  refine zs_get d_Town_addSight_1 gf_Town_48 (sh_10 g X) rfl ?_
  refine zs_bipush 6 d_Town_addSight_4 (by decide) ?_
  refine zs_icmp_lt 12 d_Town_addSight_6 (by decide) (fun c1 => ?_) (fun c1 => ?_)
  · replace h := h.1 c1
    refine zs_aload_n 0 d_Town_addSight_12 rfl (List.mem_of_getElem? (i := 0) rfl) ?_
    refine zs_get d_Town_addSight_13 gf_Town_25 (sh_10 g X) rfl ?_
    refine zs_aload_n 0 d_Town_addSight_16 rfl (List.mem_of_getElem? (i := 0) rfl) ?_
    refine zs_get d_Town_addSight_17 gf_Town_48 (sh_10 g X) rfl ?_
    refine zs_iload_n 1 d_Town_addSight_20 rfl (List.mem_of_getElem? (i := 1) rfl) ?_
    obtain ⟨b2, h⟩ := h
    refine zs_iast d_Town_addSight_21 (sh_19 g X) b2 ?_
    refine zs_aload_n 0 d_Town_addSight_22 rfl (List.mem_of_getElem? (i := 0) rfl) ?_
    refine zs_get d_Town_addSight_23 gf_Town_28 (sh_10 g X) rfl ?_
    refine zs_aload_n 0 d_Town_addSight_26 rfl (List.mem_of_getElem? (i := 0) rfl) ?_
    refine zs_get d_Town_addSight_27 gf_Town_48 (sh_10 g X) rfl ?_
    refine zs_iload_n 2 d_Town_addSight_30 rfl (List.mem_of_getElem? (i := 2) rfl) ?_
    refine zs_iast d_Town_addSight_31 (sh_20 g X) b2 ?_
    refine zs_aload_n 0 d_Town_addSight_32 rfl (List.mem_of_getElem? (i := 0) rfl) ?_
    refine zs_dup d_Town_addSight_33 rfl ?_
    refine zs_get d_Town_addSight_34 gf_Town_48 (sh_10 g X) rfl ?_
    refine zs_iconst 1 d_Town_addSight_37 (by decide) ?_
    refine zs_iadd d_Town_addSight_38 ?_
    refine zs_put d_Town_addSight_39 pf_Town_48 (sh_10 g X) rfl rfl rfl ?_
    refine zs_aload_n 0 d_Town_addSight_42 rfl (List.mem_of_getElem? (i := 0) rfl) ?_
    refine zs_get d_Town_addSight_43 gf_Town_48 (sh_10 g X) rfl ?_
    exact zs_iret d_Town_addSight_46 rfl h
  · replace h := h.2 c1
    refine zs_bipush (-4) d_Town_addSight_9 (by decide) ?_
    exact zs_iret d_Town_addSight_11 rfl h
theorem ex_Town_addSight (g : Nat → Option Nat) (X : List zShp) (M : zMem) (m t : Int32) (hh : kSts M) : zEx m_Town_addSight 0 0 [.ref 10, .int m, .int t] (SHP g X) M (qF g X (if M 10 5 < 6 then M 10 5 + 1 else -4) (if M 10 5 < 6 then zms (zms (zms M 19 (Int32.toNatClampNeg (M 10 5)) m) 20 (Int32.toNatClampNeg (M 10 5)) t) 10 5 (M 10 5 + 1) else M)) := by
  refine zEx_of _ (by decide) (by simp [Value.category]) (Nat.le_of_ble_eq_true rfl) rfl (v_Town_addSight_0 g X M m t _ ⟨fun h => ⟨?_, ?_⟩, fun h => ?_⟩)
  · obtain ⟨s, hs, e, -⟩ := hh
    rw [e] at h ⊢
    rw [show (6 : Int32) = nI 6 from rfl, nI_ltI (by omega) (by decide)] at h
    exact vp_in_nI h (by decide)
  · rw [if_pos h, if_pos h]; exact qF_i rfl rfl
  · rw [if_neg h, if_neg h]; exact qF_i rfl rfl
theorem v_Town_dropSights_0 (g : Nat → Option Nat) (X : List zShp) (M : zMem) (R : zEnd) (h : R (some (.int (M 10 5))) (SHP g X) (zms M 10 5 0)) : zRT m_Town_dropSights 0 0 0 [(0, .ref 10)] [] (SHP g X) M R := by
  refine zs_aload_n 0 d_Town_dropSights_0 rfl (List.mem_of_getElem? (i := 0) rfl) ?_
  refine zs_get d_Town_dropSights_1 gf_Town_48 (sh_10 g X) rfl ?_
  refine zs_istore_n2 1 [1, 0] [(0, .ref 10), (1, .int (M 10 5))] d_Town_dropSights_4 rfl (by decide) rfl ?_
  refine zs_aload_n 0 d_Town_dropSights_5 rfl (List.mem_of_getElem? (i := 0) rfl) ?_
  refine zs_iconst 0 d_Town_dropSights_6 (by decide) ?_
  refine zs_put d_Town_dropSights_7 pf_Town_48 (sh_10 g X) rfl rfl rfl ?_
  refine zs_iload_n 1 d_Town_dropSights_10 rfl (List.mem_of_getElem? (i := 1) rfl) ?_
  exact zs_iret d_Town_dropSights_11 rfl h
theorem ex_Town_dropSights (g : Nat → Option Nat) (X : List zShp) (M : zMem) : zEx m_Town_dropSights 0 0 [.ref 10] (SHP g X) M (qF g X (M 10 5) (zms M 10 5 0)) :=
  zEx_of _ (by decide) (by simp [Value.category]) (Nat.le_of_ble_eq_true rfl) rfl (v_Town_dropSights_0 g X M _ (qF_i rfl rfl))
theorem v_O_seen_0 (g : Nat → Option Nat) (X : List zShp) (M : zMem) (x1 x2 : Int32) (R : zEnd) (h : (((isM x1) = false) → (R (some (.int (-1))) (SHP g X) M)) ∧ (((isM x1) = true) → ((((kIsT (M 11 5) x2) = true) → ((kSts M) ∧ (R (some (.int (if M 10 5 < 6 then M 10 5 + 1 else -4))) (SHP g X) (if M 10 5 < 6 then zms (zms (zms M 19 (Int32.toNatClampNeg (M 10 5)) x1) 20 (Int32.toNatClampNeg (M 10 5)) x2) 10 5 (M 10 5 + 1) else M)))) ∧ (((kIsT (M 11 5) x2) = false) → (R (some (.int (-1))) (SHP g X) M))))) : zRT m_O_seen 0 0 0 [(0, .ref 0), (1, .int x1), (2, .int x2)] [] (SHP g X) M R := by
  refine zs_iload_n 1 d_O_seen_0 rfl (List.mem_of_getElem? (i := 1) rfl) ?_
  refine zs_callS (kc := 0) (ks := 0) (kc1 := 0) (ks1 := 0) (st := []) [.int x1] d_O_seen_1 lk_O_111 ⟨by decide, by decide⟩ rfl (Nat.le_of_ble_eq_true rfl) (ex_O_isMan g X M x1) (fun v1 sh1 M1 hR => ?_)
  obtain ⟨rfl, rfl, rfl⟩ := hR
  refine zs_if_eq 15 d_O_seen_4 (by decide) (fun c2 => ?_) (fun c2 => ?_)
  · replace h := h.1 (bI_0 c2)
    refine zs_iconst (-1) d_O_seen_15 (by decide) ?_
    exact zs_iret d_O_seen_16 rfl h
  · replace h := h.2 (bI_1 c2)
    refine zs_aload_n 0 d_O_seen_7 rfl (List.mem_of_getElem? (i := 0) rfl) ?_
    refine zs_iload_n 2 d_O_seen_8 rfl (List.mem_of_getElem? (i := 2) rfl) ?_
    refine zs_callV (kc := 0) (ks := 0) (kc1 := 0) (ks1 := 0) (st := []) [.int x2] d_O_seen_9 lk_O_91 ⟨by decide, by decide⟩ rfl (sh_0 g X) rfl (Nat.le_of_ble_eq_true rfl) (ex_O_isThing g X M x2) (fun v3 sh3 M3 hR => ?_)
    obtain ⟨rfl, rfl, rfl⟩ := hR
    refine zs_if_ne 17 d_O_seen_12 (by decide) (fun c4 => ?_) (fun c4 => ?_)
    · replace h := h.1 (bI_1 c4)
      refine zs_aload_n 0 d_O_seen_17 rfl (List.mem_of_getElem? (i := 0) rfl) ?_
      refine zs_get d_O_seen_18 gf_O_26 (sh_0 g X) rfl ?_
      refine zs_iload_n 1 d_O_seen_21 rfl (List.mem_of_getElem? (i := 1) rfl) ?_
      refine zs_iload_n 2 d_O_seen_22 rfl (List.mem_of_getElem? (i := 2) rfl) ?_
      obtain ⟨p5, h⟩ := h
      refine zs_callV (kc := 0) (ks := 0) (kc1 := 0) (ks1 := 0) (st := []) [.int x1, .int x2] d_O_seen_23 lk_O_163 ⟨by decide, by decide⟩ rfl (sh_10 g X) rfl (Nat.le_of_ble_eq_true rfl) (ex_Town_addSight g X M x1 x2 p5) (fun v5 sh5 M5 hR => ?_)
      obtain ⟨rfl, rfl, rfl⟩ := hR
      exact zs_iret d_O_seen_26 rfl h
    · replace h := h.2 (bI_0 c4)
      refine zs_iconst (-1) d_O_seen_15 (by decide) ?_
      exact zs_iret d_O_seen_16 rfl h
theorem cl_seen (hw : kWF F) (hj : kCJ n P F I M g X) (m t : Int32) : zEx m_O_seen 0 0 [.ref 0, .int m, .int t] (SHP g X) M (qR g X (fun r M1 => r = (aSeen F m t).1 ∧ kCJ n P (aSeen F m t).2 I M1 g X ∧ kMS M M1)) := by
  obtain ⟨h1, h2, h3, h4⟩ := id hj
  obtain ⟨t1, t2, t3, t4, t5, t6, t7, t8, t9⟩ := id h3
  have eT : M 11 5 = fT F := t1
  have eN : M 10 5 = fN F := t2
  refine zEx_of _ (by decide) (by simp [Value.category]) (Nat.le_of_ble_eq_true rfl) rfl (v_O_seen_0 g X M m t _ ⟨fun a => ?_, fun a => ⟨fun b => ⟨kCJ_sts hw hj, ?_⟩, fun b => ?_⟩⟩)
  · unfold aSeen; rw [if_neg (fun q => by rw [a] at q; exact absurd q.1 (by decide))]; exact qR_i ⟨rfl, hj, kMS_rf⟩
  · rw [eT] at b
    unfold aSeen
    rw [if_pos ⟨a, b⟩, eN]
    by_cases hl : fN F < 6
    · rw [if_pos hl, if_pos hl, if_pos hl]
      refine qR_i ⟨rfl, ⟨h1, h2, ⟨t1, rfl, t3, t4, t5, t6, t7, fun i hi => ?_, t9⟩, kIm_ag (fun q hq => ((zms_ne _ 10 _ _ q (by omega)).trans (zms_ne _ 20 _ _ q (by omega))).trans (zms_ne _ 19 _ _ q (by omega))) h4⟩, kMS_st (kMS_st (kMS_st kMS_rf (by decide)) (by decide)) (by decide)⟩
      show (if i = sN F then m else M 19 i) = (if 2 * i = 2 * sN F + 1 then t else if 2 * i = 2 * sN F then m else fS F (2 * i)) ∧ (if i = sN F then t else M 20 i) = (if 2 * i + 1 = 2 * sN F + 1 then t else if 2 * i + 1 = 2 * sN F then m else fS F (2 * i + 1))
      obtain ⟨s1, s2⟩ := t8 i hi
      have s1 : M 19 i = fS F (2 * i) := s1
      have s2 : M 20 i = fS F (2 * i + 1) := s2
      rw [s1, s2, if_neg (show ¬ 2 * i = 2 * sN F + 1 by omega), if_neg (show ¬ 2 * i + 1 = 2 * sN F by omega)]
      by_cases e : i = sN F
      · rw [if_pos e, if_pos (by omega), if_pos e, if_pos (by omega)]; exact ⟨rfl, rfl⟩
      · rw [if_neg e, if_neg (by omega), if_neg e, if_neg (by omega)]; exact ⟨rfl, rfl⟩
    · rw [if_neg hl, if_neg hl, if_neg hl]; exact qR_i ⟨rfl, hj, kMS_rf⟩
  · rw [eT] at b; unfold aSeen; rw [if_neg (fun q => by rw [b] at q; exact absurd q.2 (by decide))]; exact qR_i ⟨rfl, hj, kMS_rf⟩
theorem v_O_forget_0 (g : Nat → Option Nat) (X : List zShp) (M : zMem) (R : zEnd) (h : R (some (.int (M 10 5))) (SHP g X) (zms M 10 5 0)) : zRT m_O_forget 0 0 0 [(0, .ref 0)] [] (SHP g X) M R := by
  refine zs_aload_n 0 d_O_forget_0 rfl (List.mem_of_getElem? (i := 0) rfl) ?_
  refine zs_get d_O_forget_1 gf_O_26 (sh_0 g X) rfl ?_
  refine zs_callV (kc := 0) (ks := 0) (kc1 := 0) (ks1 := 0) (st := []) [] d_O_forget_4 lk_O_166 ⟨by decide, by decide⟩ rfl (sh_10 g X) rfl (Nat.le_of_ble_eq_true rfl) (ex_Town_dropSights g X M) (fun v1 sh1 M1 hR => ?_)
  obtain ⟨rfl, rfl, rfl⟩ := hR
  exact zs_iret d_O_forget_7 rfl h
theorem cl_forget (hj : kCJ n P F I M g X) : zEx m_O_forget 0 0 [.ref 0] (SHP g X) M (qR g X (fun r M1 => r = (aForget F).1 ∧ kCJ n P (aForget F).2 I M1 g X ∧ kMS M M1)) := by
  obtain ⟨h1, h2, h3, h4⟩ := id hj
  obtain ⟨t1, t2, t3, t4, t5, t6, t7, t8, t9⟩ := id h3
  exact zEx_of _ (by decide) (by simp [Value.category]) (Nat.le_of_ble_eq_true rfl) rfl (v_O_forget_0 g X M _ (qR_i ⟨t2, ⟨h1, h2, ⟨t1, rfl, t3, t4, t5, t6, t7, t8, t9⟩, kIm_ag (fun q hq => zms_ne _ 10 _ _ q (by omega)) h4⟩, kMS_st kMS_rf (by decide)⟩))
theorem v_O_told_0 (g : Nat → Option Nat) (X : List zShp) (M : zMem) (x1 : Int32) (R : zEnd) (h : ((x1 < 10) → (zRT m_O_told 0 0 25 [(0, .ref 0), (1, .int x1)] [] (SHP g X) M R)) ∧ ((¬ x1 < 10) → (((16 ≤ x1) → (zRT m_O_told 0 0 25 [(0, .ref 0), (1, .int x1)] [] (SHP g X) M R)) ∧ ((¬ 16 ≤ x1) → ((vp_in (x1 - 10) 6) ∧ (R (some (.int (M 17 (Int32.toNatClampNeg (x1 - 10))))) (SHP g X) M)))))) : zRT m_O_told 0 0 0 [(0, .ref 0), (1, .int x1)] [] (SHP g X) M R := by
  refine zs_iload_n 1 d_O_told_0 rfl (List.mem_of_getElem? (i := 1) rfl) ?_
  refine zs_bipush 10 d_O_told_1 (by decide) ?_
  refine zs_icmp_lt 25 d_O_told_3 (by decide) (fun c1 => ?_) (fun c1 => ?_)
  · replace h := h.1 c1
    exact h
  · replace h := h.2 c1
    refine zs_iload_n 1 d_O_told_6 rfl (List.mem_of_getElem? (i := 1) rfl) ?_
    refine zs_bipush 16 d_O_told_7 (by decide) ?_
    refine zs_icmp_ge 25 d_O_told_9 (by decide) (fun c2 => ?_) (fun c2 => ?_)
    · replace h := h.1 c2
      exact h
    · replace h := h.2 c2
      refine zs_aload_n 0 d_O_told_12 rfl (List.mem_of_getElem? (i := 0) rfl) ?_
      refine zs_get d_O_told_13 gf_O_26 (sh_0 g X) rfl ?_
      refine zs_get d_O_told_16 gf_O_114 (sh_10 g X) rfl ?_
      refine zs_iload_n 1 d_O_told_19 rfl (List.mem_of_getElem? (i := 1) rfl) ?_
      refine zs_bipush 10 d_O_told_20 (by decide) ?_
      refine zs_isub d_O_told_22 ?_
      obtain ⟨b3, h⟩ := h
      refine zs_iald d_O_told_23 (sh_17 g X) b3 ?_
      exact zs_iret d_O_told_24 rfl h
theorem v_O_told_25 (g : Nat → Option Nat) (X : List zShp) (M : zMem) (x1 : Int32) (R : zEnd) (h : ((x1 < 20) → (zRT m_O_told 0 0 55 [(0, .ref 0), (1, .int x1)] [] (SHP g X) M R)) ∧ ((¬ x1 < 20) → ((((kIsT (M 11 5) (x1 - 20)) = false) → (zRT m_O_told 0 0 55 [(0, .ref 0), (1, .int x1)] [] (SHP g X) M R)) ∧ (((kIsT (M 11 5) (x1 - 20)) = true) → ((vp_in (x1 - 20) 10) ∧ (R (some (.int (M 18 (Int32.toNatClampNeg (x1 - 20))))) (SHP g X) M)))))) : zRT m_O_told 0 0 25 [(0, .ref 0), (1, .int x1)] [] (SHP g X) M R := by
  refine zs_iload_n 1 d_O_told_25 rfl (List.mem_of_getElem? (i := 1) rfl) ?_
  refine zs_bipush 20 d_O_told_26 (by decide) ?_
  refine zs_icmp_lt 55 d_O_told_28 (by decide) (fun c1 => ?_) (fun c1 => ?_)
  · replace h := h.1 c1
    exact h
  · replace h := h.2 c1
    refine zs_aload_n 0 d_O_told_31 rfl (List.mem_of_getElem? (i := 0) rfl) ?_
    refine zs_iload_n 1 d_O_told_32 rfl (List.mem_of_getElem? (i := 1) rfl) ?_
    refine zs_bipush 20 d_O_told_33 (by decide) ?_
    refine zs_isub d_O_told_35 ?_
    refine zs_callV (kc := 0) (ks := 0) (kc1 := 0) (ks1 := 0) (st := []) [.int (x1 - 20)] d_O_told_36 lk_O_91 ⟨by decide, by decide⟩ rfl (sh_0 g X) rfl (Nat.le_of_ble_eq_true rfl) (ex_O_isThing g X M (x1 - 20)) (fun v2 sh2 M2 hR => ?_)
    obtain ⟨rfl, rfl, rfl⟩ := hR
    refine zs_if_eq 55 d_O_told_39 (by decide) (fun c3 => ?_) (fun c3 => ?_)
    · replace h := h.1 (bI_0 c3)
      exact h
    · replace h := h.2 (bI_1 c3)
      refine zs_aload_n 0 d_O_told_42 rfl (List.mem_of_getElem? (i := 0) rfl) ?_
      refine zs_get d_O_told_43 gf_O_26 (sh_0 g X) rfl ?_
      refine zs_get d_O_told_46 gf_O_124 (sh_10 g X) rfl ?_
      refine zs_iload_n 1 d_O_told_49 rfl (List.mem_of_getElem? (i := 1) rfl) ?_
      refine zs_bipush 20 d_O_told_50 (by decide) ?_
      refine zs_isub d_O_told_52 ?_
      obtain ⟨b4, h⟩ := h
      refine zs_iald d_O_told_53 (sh_18 g X) b4 ?_
      exact zs_iret d_O_told_54 rfl h
theorem v_O_told_55 (g : Nat → Option Nat) (X : List zShp) (M : zMem) (x1 : Int32) (R : zEnd) (h : ((x1 = 0) → (R (some (.int (M 1 1))) (SHP g X) M)) ∧ ((¬ x1 = 0) → (((x1 = 1) → (R (some (.int (M 11 5))) (SHP g X) M)) ∧ ((¬ x1 = 1) → (((x1 = 2) → (R (some (.int (M 10 6))) (SHP g X) M)) ∧ ((¬ x1 = 2) → (((x1 = 3) → (R (some (.int (M 10 7))) (SHP g X) M)) ∧ ((¬ x1 = 3) → (((x1 = 4) → (R (some (.int (M 10 8))) (SHP g X) M)) ∧ ((¬ x1 = 4) → (((x1 = 5) → (R (some (.int (M 10 5))) (SHP g X) M)) ∧ ((¬ x1 = 5) → (R (some (.int (-2))) (SHP g X) M))))))))))))) : zRT m_O_told 0 0 55 [(0, .ref 0), (1, .int x1)] [] (SHP g X) M R := by
  refine zs_iload_n 1 d_O_told_55 rfl (List.mem_of_getElem? (i := 1) rfl) ?_
  by_cases c1_0 : x1 = 0
  · replace h := h.1 c1_0
    refine zs_tableIn 96 d_O_told_56 (by rw [c1_0]; decide) (by rw [c1_0]; decide) (by rw [c1_0]; try rfl) (by decide) ?_
    refine zs_aload_n 0 d_O_told_96 rfl (List.mem_of_getElem? (i := 0) rfl) ?_
    refine zs_get d_O_told_97 gf_O_12 (sh_0 g X) rfl ?_
    refine zs_get d_O_told_100 gf_O_235 (sh_1 g X) rfl ?_
    exact zs_iret d_O_told_103 rfl h
  replace h := h.2 c1_0
  by_cases c1_1 : x1 = 1
  · replace h := h.1 c1_1
    refine zs_tableIn 104 d_O_told_56 (by rw [c1_1]; decide) (by rw [c1_1]; decide) (by rw [c1_1]; try rfl) (by decide) ?_
    refine zs_aload_n 0 d_O_told_104 rfl (List.mem_of_getElem? (i := 0) rfl) ?_
    refine zs_get d_O_told_105 gf_O_26 (sh_0 g X) rfl ?_
    refine zs_get d_O_told_108 gf_O_82 (sh_10 g X) rfl ?_
    refine zs_get d_O_told_111 gf_O_85 (sh_11 g X) rfl ?_
    exact zs_iret d_O_told_114 rfl h
  replace h := h.2 c1_1
  by_cases c1_2 : x1 = 2
  · replace h := h.1 c1_2
    refine zs_tableIn 115 d_O_told_56 (by rw [c1_2]; decide) (by rw [c1_2]; decide) (by rw [c1_2]; try rfl) (by decide) ?_
    refine zs_aload_n 0 d_O_told_115 rfl (List.mem_of_getElem? (i := 0) rfl) ?_
    refine zs_get d_O_told_116 gf_O_26 (sh_0 g X) rfl ?_
    refine zs_get d_O_told_119 gf_O_211 (sh_10 g X) rfl ?_
    exact zs_iret d_O_told_122 rfl h
  replace h := h.2 c1_2
  by_cases c1_3 : x1 = 3
  · replace h := h.1 c1_3
    refine zs_tableIn 123 d_O_told_56 (by rw [c1_3]; decide) (by rw [c1_3]; decide) (by rw [c1_3]; try rfl) (by decide) ?_
    refine zs_aload_n 0 d_O_told_123 rfl (List.mem_of_getElem? (i := 0) rfl) ?_
    refine zs_get d_O_told_124 gf_O_26 (sh_0 g X) rfl ?_
    refine zs_get d_O_told_127 gf_O_236 (sh_10 g X) rfl ?_
    exact zs_iret d_O_told_130 rfl h
  replace h := h.2 c1_3
  by_cases c1_4 : x1 = 4
  · replace h := h.1 c1_4
    refine zs_tableIn 131 d_O_told_56 (by rw [c1_4]; decide) (by rw [c1_4]; decide) (by rw [c1_4]; try rfl) (by decide) ?_
    refine zs_aload_n 0 d_O_told_131 rfl (List.mem_of_getElem? (i := 0) rfl) ?_
    refine zs_get d_O_told_132 gf_O_26 (sh_0 g X) rfl ?_
    refine zs_get d_O_told_135 gf_O_133 (sh_10 g X) rfl ?_
    exact zs_iret d_O_told_138 rfl h
  replace h := h.2 c1_4
  by_cases c1_5 : x1 = 5
  · replace h := h.1 c1_5
    refine zs_tableIn 139 d_O_told_56 (by rw [c1_5]; decide) (by rw [c1_5]; decide) (by rw [c1_5]; try rfl) (by decide) ?_
    refine zs_aload_n 0 d_O_told_139 rfl (List.mem_of_getElem? (i := 0) rfl) ?_
    refine zs_get d_O_told_140 gf_O_26 (sh_0 g X) rfl ?_
    refine zs_get d_O_told_143 gf_O_239 (sh_10 g X) rfl ?_
    exact zs_iret d_O_told_146 rfl h
  replace h := h.2 c1_5
  have q1_0 := zI_ne (z := 0) c1_0 (by decide)
  have q1_1 := zI_ne (z := 1) c1_1 (by decide)
  have q1_2 := zI_ne (z := 2) c1_2 (by decide)
  have q1_3 := zI_ne (z := 3) c1_3 (by decide)
  have q1_4 := zI_ne (z := 4) c1_4 (by decide)
  have q1_5 := zI_ne (z := 5) c1_5 (by decide)
  refine zs_tableOut 147 d_O_told_56 (by omega) (by decide) ?_
  refine zs_bipush (-2) d_O_told_147 (by decide) ?_
  exact zs_iret d_O_told_149 rfl h
theorem cl_told (hw : kWF F) (hj : kCJ n P F I M g X) (w : Int32) : zEx m_O_told 0 0 [.ref 0, .int w] (SHP g X) M (qR g X (fun r M1 => r = aTold n F w ∧ kAg kCS M M1)) := by
  obtain ⟨h1, h2, h3, h4⟩ := id hj
  obtain ⟨t1, t2, t3, t4, t5, t6, t7, t8, t9⟩ := id h3
  have eT : M 11 5 = fT F := t1
  have C2 : ¬ inI w 10 15 = true → ¬ (20 ≤ w ∧ kIsT (fT F) (w - 20) = true) → zRT m_O_told 0 0 55 [(0, .ref 0), (1, .int w)] [] (SHP g X) M (qR g X (fun r M1 => r = aTold n F w ∧ kAg kCS M M1)) := by
    intro c1 c2
    refine v_O_told_55 g X M w _ ⟨fun a => ?_, fun a => ⟨fun b => ?_, fun b => ⟨fun c => ?_, fun c => ⟨fun d => ?_, fun d => ⟨fun e => ?_, fun e => ⟨fun f => ?_, fun f => ?_⟩⟩⟩⟩⟩⟩
    · unfold aTold; rw [if_neg c1, if_neg c2, if_pos a]; exact qR_i ⟨h1, kAg.rf⟩
    · unfold aTold; rw [if_neg c1, if_neg c2, if_neg a, if_pos b]; exact qR_i ⟨t1, kAg.rf⟩
    · unfold aTold; rw [if_neg c1, if_neg c2, if_neg a, if_neg b, if_pos c]; exact qR_i ⟨t3, kAg.rf⟩
    · unfold aTold; rw [if_neg c1, if_neg c2, if_neg a, if_neg b, if_neg c, if_pos d]; exact qR_i ⟨t4, kAg.rf⟩
    · unfold aTold; rw [if_neg c1, if_neg c2, if_neg a, if_neg b, if_neg c, if_neg d, if_pos e]; exact qR_i ⟨t5, kAg.rf⟩
    · unfold aTold; rw [if_neg c1, if_neg c2, if_neg a, if_neg b, if_neg c, if_neg d, if_neg e, if_pos f]; exact qR_i ⟨t2, kAg.rf⟩
    · unfold aTold; rw [if_neg c1, if_neg c2, if_neg a, if_neg b, if_neg c, if_neg d, if_neg e, if_neg f]; exact qR_i ⟨rfl, kAg.rf⟩
  have C1 : ¬ inI w 10 15 = true → zRT m_O_told 0 0 25 [(0, .ref 0), (1, .int w)] [] (SHP g X) M (qR g X (fun r M1 => r = aTold n F w ∧ kAg kCS M M1)) := by
    intro c1
    refine v_O_told_25 g X M w _ ⟨fun a => C2 c1 (fun q => i32_lt.mp a q.1), fun a => ⟨fun b => C2 c1 (fun q => by rw [eT] at b; rw [b] at q; exact absurd q.2 (by decide)), fun b => ⟨kIsT_in (kCJ_cnt hw hj) b, ?_⟩⟩⟩
    have hc := vp_cl (kIsT_in (kCJ_cnt hw hj) b) (by decide)
    rw [eT] at b
    have h20 : 20 ≤ w := by
      rw [i32_lt] at a
      exact Classical.not_not.mp a
    unfold aTold
    rw [if_neg c1, if_pos ⟨h20, b⟩]
    exact qR_i ⟨t7 _ hc, kAg.rf⟩
  refine zEx_of _ (by decide) (by simp [Value.category]) (Nat.le_of_ble_eq_true rfl) rfl (v_O_told_0 g X M w _ ⟨fun a => C1 (inI_n1 a), fun a => ⟨fun b => C1 (inI_n2 ?_), fun b => ⟨?_, ?_⟩⟩⟩)
  · rw [Int32.le_iff_toInt_le] at b
    rw [Int32.lt_iff_toInt_lt]
    exact b
  · exact i32_10 a b
  · have hc := vp_cl (i32_10 a b) (by decide)
    have h15 : inI w 10 15 = true := inI_i a (fun q => b (by
      rw [Int32.lt_iff_toInt_lt] at q
      rw [Int32.le_iff_toInt_le]
      exact q))
    unfold aTold
    rw [if_pos h15]
    exact qR_i ⟨t6 _ hc, kAg.rf⟩
end zC8
