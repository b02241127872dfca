/-! the class's asking methods -/
def kv_touched (M : zMem) (t w : Int32) : Int32 := if kIsT (M 11 5) t = true then (if w = 0 then kTch M t else if w = 1 then kWP M (kTch M t) else if w = 2 then kWP M (kHv M t (M 10 8)) else -2) else -1
def kv_may (M : zMem) (m w : Int32) : Int32 := if isM m = true then (if w = 0 then kLwf M m else if w = 1 then kTnt M m else -2) else -1
def kv_near (M : zMem) (t m : Int32) : Int32 := if kIsT (M 11 5) t = true then (if isM m = true then kFst M t ((1 : Int32) <<< (m &&& 31)) else -1) else -1
def kv_share (M : zMem) (t m p : Int32) : Int64 := if kIsT (M 11 5) t = true then (if isM m = true then (if p < 0 then -1000000000000000002 else if p ≤ 1 then Int32.toInt64 (kLow (kSv M t m) 6144 p) else -1000000000000000002) else -1000000000000000001) else -1000000000000000001
def kv_fed (M : zMem) (i : Int32) : Int32 := if i = -1 then kMf (kLay M) 63 else if isM i = true then (kServe (kLay M)) 30 (Int32.toNatClampNeg i) else -6
def kv_lack (M : zMem) : Int32 := kLs (kLay M)
def kv_makers (M : zMem) (c w : Int32) : Int32 := if c < 1 then -2 else if 6 < c then -2 else if w < 0 then -2 else if w ≤ 1 then (if w = 1 then kFew M c else if kFew M c = -6 then -6 else bc (kFew M c)) else -2
def kv_washed (M : zMem) (t m : Int32) : Int32 := if kIsT (M 11 5) t = true then (if isM m = true then (if kFst M t (kCpl M m) = -6 then 0 else mx 0 ((M 10 6 + 1) - kFst M t (kCpl M m))) else -1) else -1
def kv_married (M : zMem) (i : Int32) : Int32 := if i = -1 then (kArr M).1 else if isM i = true then (kArr M).2 34 (Int32.toNatClampNeg i) else -6
def kv_days2 (M : zMem) (s n t : Int32) : Int32 := if s < 0 then -2 else if 9999 < s then -2 else if n < 1 then -2 else if n ≤ 99 then (if t = -1 then (kLive (kLay M) s n).1 else (kLive (kLay M) s n).2 29 (Int32.toNatClampNeg t)) else -2
def kv_days (M : zMem) (s n t : Int32) : Int32 := if t = -1 then kv_days2 M s n t else if kIsT (M 11 5) t = true then kv_days2 M s n t else -1
theorem kIsT_in {M : zMem} {t : Int32} (hc : kCnt M) (h : kIsT (M 11 5) t = true) : vp_in t 10 := by
  obtain ⟨n, hn, e⟩ := hc
  simp only [kIsT, Bool.and_eq_true, Bool.not_eq_true', decide_eq_false_iff_not] at h
  obtain ⟨j, hj, e2⟩ := nI_of h.1
  subst e2
  have h2 := h.2
  rw [e, nI_leI (by omega) hj] at h2
  exact vp_in_nI (by omega) (by decide)
theorem kSeed_i {s n : Int32} (h1 : ¬ s < 0) (h2 : ¬ 9999 < s) (h3 : ¬ n < 1) (h4 : n ≤ 99) : kSeed s n := by
  refine ⟨?_, ?_⟩
  · obtain ⟨j, hj, e⟩ := nI_of h1
    subst e
    rw [show (9999 : Int32) = nI 9999 from rfl, nI_ltI (by decide) hj] at h2
    exact ⟨j, by omega, rfl⟩
  · have h0 : ¬ n < 0 := fun q => h3 (by rw [Int32.lt_iff_toInt_lt] at q ⊢; exact Int.lt_trans q (by decide))
    obtain ⟨j, hj, e⟩ := nI_of h0
    subst e
    rw [show (99 : Int32) = nI 99 from rfl, nI_leI hj (by decide)] at h4
    exact ⟨j, h4, rfl⟩
section zC7
variable (g : Nat → Option Nat) (X : List zShp) (M : zMem)
theorem v_O_touched_0 (g : Nat → Option Nat) (X : List zShp) (M : zMem) (x1 x2 : Int32) (R : zEnd) (h : (((kIsT (M 11 5) x1) = true) → (((x2 = 0) → ((kCnt M ∧ kDpt M) ∧ (R (some (.int (kTch M x1))) (SHP g X) M))) ∧ ((¬ x2 = 0) → (((x2 = 1) → ((kCnt M ∧ kDpt M) ∧ (R (some (.int (kWP M (kTch M x1)))) (SHP g X) M))) ∧ ((¬ x2 = 1) → (((x2 = 2) → ((vp_in x1 10) ∧ (∀ (r6 : Int32) (M6 : zMem), (kHolds M x1 (M 10 8) r6 M6) → (R (some (.int (kWP M6 r6))) (SHP g X) M6)))) ∧ ((¬ x2 = 2) → (R (some (.int (-2))) (SHP g X) M)))))))) ∧ (((kIsT (M 11 5) x1) = false) → (R (some (.int (-1))) (SHP g X) M))) : zRT m_O_touched 0 0 0 [(0, .ref 0), (1, .int x1), (2, .int x2)] [] (SHP g X) M R := by
  refine zs_aload_n 0 d_O_touched_0 rfl (List.mem_of_getElem? (i := 0) rfl) ?_
  refine zs_iload_n 1 d_O_touched_1 rfl (List.mem_of_getElem? (i := 1) rfl) ?_
  refine zs_callV (kc := 0) (ks := 0) (kc1 := 0) (ks1 := 0) (st := []) [.int x1] d_O_touched_2 lk_O_91 ⟨by decide, by decide⟩ rfl (sh_0 g X) rfl (Nat.le_of_ble_eq_true rfl) (ex_O_isThing g X M x1) (fun v1 sh1 M1 hR => ?_)
  obtain ⟨rfl, rfl, rfl⟩ := hR
  refine zs_if_ne 10 d_O_touched_5 (by decide) (fun c2 => ?_) (fun c2 => ?_)
  · replace h := h.1 (bI_1 c2)
    refine zs_iload_n 2 d_O_touched_10 rfl (List.mem_of_getElem? (i := 2) rfl) ?_
    by_cases c3_0 : x2 = 0
    · replace h := h.1 c3_0
      refine zs_tableIn 36 d_O_touched_11 (by rw [c3_0]; decide) (by rw [c3_0]; decide) (by rw [c3_0]; try rfl) (by decide) ?_
      refine zs_aload_n 0 d_O_touched_36 rfl (List.mem_of_getElem? (i := 0) rfl) ?_
      refine zs_get d_O_touched_37 gf_O_26 (sh_0 g X) rfl ?_
      refine zs_iload_n 1 d_O_touched_40 rfl (List.mem_of_getElem? (i := 1) rfl) ?_
      obtain ⟨p4, h⟩ := h
      refine zs_callV (kc := 0) (ks := 0) (kc1 := 0) (ks1 := 0) (st := []) [.int x1] d_O_touched_41 lk_O_127 ⟨by decide, by decide⟩ rfl (sh_10 g X) rfl (Nat.le_of_ble_eq_true rfl) (ex_Town_touchers g X M x1 p4) (fun v4 sh4 M4 hR => ?_)
      obtain ⟨rfl, rfl, rfl⟩ := hR
      exact zs_iret d_O_touched_44 rfl h
    replace h := h.2 c3_0
    by_cases c3_1 : x2 = 1
    · replace h := h.1 c3_1
      refine zs_tableIn 45 d_O_touched_11 (by rw [c3_1]; decide) (by rw [c3_1]; decide) (by rw [c3_1]; try rfl) (by decide) ?_
      refine zs_aload_n 0 d_O_touched_45 rfl (List.mem_of_getElem? (i := 0) rfl) ?_
      refine zs_get d_O_touched_46 gf_O_26 (sh_0 g X) rfl ?_
      refine zs_iload_n 1 d_O_touched_49 rfl (List.mem_of_getElem? (i := 1) rfl) ?_
      obtain ⟨p5, h⟩ := h
      refine zs_callV (kc := 0) (ks := 0) (kc1 := 0) (ks1 := 0) (st := []) [.int x1] d_O_touched_50 lk_O_130 ⟨by decide, by decide⟩ rfl (sh_10 g X) rfl (Nat.le_of_ble_eq_true rfl) (ex_Town_barredMen g X M x1 p5) (fun v5 sh5 M5 hR => ?_)
      obtain ⟨rfl, rfl, rfl⟩ := hR
      exact zs_iret d_O_touched_53 rfl h
    replace h := h.2 c3_1
    by_cases c3_2 : x2 = 2
    · replace h := h.1 c3_2
      refine zs_tableIn 54 d_O_touched_11 (by rw [c3_2]; decide) (by rw [c3_2]; decide) (by rw [c3_2]; try rfl) (by decide) ?_
      refine zs_aload_n 0 d_O_touched_54 rfl (List.mem_of_getElem? (i := 0) rfl) ?_
      refine zs_get d_O_touched_55 gf_O_26 (sh_0 g X) rfl ?_
      refine zs_aload_n 0 d_O_touched_58 rfl (List.mem_of_getElem? (i := 0) rfl) ?_
      refine zs_get d_O_touched_59 gf_O_37 (sh_0 g X) rfl ?_
      refine zs_aload_n 0 d_O_touched_62 rfl (List.mem_of_getElem? (i := 0) rfl) ?_
      refine zs_get d_O_touched_63 gf_O_26 (sh_0 g X) rfl ?_
      refine zs_get d_O_touched_66 gf_O_82 (sh_10 g X) rfl ?_
      refine zs_iload_n 1 d_O_touched_69 rfl (List.mem_of_getElem? (i := 1) rfl) ?_
      refine zs_aload_n 0 d_O_touched_70 rfl (List.mem_of_getElem? (i := 0) rfl) ?_
      refine zs_get d_O_touched_71 gf_O_26 (sh_0 g X) rfl ?_
      refine zs_get d_O_touched_74 gf_O_133 (sh_10 g X) rfl ?_
      obtain ⟨p6, h⟩ := h
      refine zs_callV (kc := 0) (ks := 0) (kc1 := 0) (ks1 := 0) (st := [.ref 10]) [.ref 11, .int x1, .int (M 10 8)] d_O_touched_77 lk_O_136 ⟨by decide, by decide⟩ rfl (sh_22 g X) rfl (Nat.le_of_ble_eq_true rfl) (ex_Shares_holders g X M x1 (M 10 8) p6) (fun v6 sh6 M6 hR => ?_)
      obtain ⟨r6, rfl, rfl, hq6⟩ := hR
      replace h := h r6 M6 hq6
      refine zs_callV (kc := 0) (ks := 0) (kc1 := 0) (ks1 := 0) (st := []) [.int r6] d_O_touched_80 lk_O_140 ⟨by decide, by decide⟩ rfl (sh_10 g X) rfl (Nat.le_of_ble_eq_true rfl) (ex_Town_withPartners g X M6 r6) (fun v7 sh7 M7 hR => ?_)
      obtain ⟨rfl, rfl, rfl⟩ := hR
      exact zs_iret d_O_touched_83 rfl h
    replace h := h.2 c3_2
    have q3_0 := zI_ne (z := 0) c3_0 (by decide)
    have q3_1 := zI_ne (z := 1) c3_1 (by decide)
    have q3_2 := zI_ne (z := 2) c3_2 (by decide)
    refine zs_tableOut 84 d_O_touched_11 (by omega) (by decide) ?_
    refine zs_bipush (-2) d_O_touched_84 (by decide) ?_
    exact zs_iret d_O_touched_86 rfl h
  · replace h := h.2 (bI_0 c2)
    refine zs_iconst (-1) d_O_touched_8 (by decide) ?_
    exact zs_iret d_O_touched_9 rfl h
theorem ex_O_touched (t w : Int32) (hh : kCnt M ∧ kDpt M) : zEx m_O_touched 0 0 [.ref 0, .int t, .int w] (SHP g X) M (qR g X (fun r M1 => r = kv_touched M t w ∧ kAg kCS M M1)) := by
  refine zEx_of _ (by decide) (by simp [Value.category]) (Nat.le_of_ble_eq_true rfl) rfl (v_O_touched_0 g X M t w _ ⟨fun h => ⟨fun h2 => ⟨hh, qR_i ⟨?_, kAg.rf⟩⟩, fun h2 => ⟨fun h3 => ⟨hh, qR_i ⟨?_, kAg.rf⟩⟩, fun h3 => ⟨fun h4 => ⟨kIsT_in hh.1 h, fun r6 M6 h6 => qR_i ⟨?_, ?_⟩⟩, fun h4 => qR_i ⟨?_, kAg.rf⟩⟩⟩⟩, fun h => qR_i ⟨?_, kAg.rf⟩⟩)
  · unfold kv_touched; rw [if_pos h, if_pos h2]
  · unfold kv_touched; rw [if_pos h, if_neg h2, if_pos h3]
  · obtain ⟨e1, f, e2⟩ := h6
    unfold kv_touched; rw [if_pos h, if_neg h2, if_neg h3, if_pos h4, e1, e2, kWP_congr (M := M) (fun p h1 h2 => zmr_ne M 23 f p (by omega))]
  · obtain ⟨e1, f, e2⟩ := h6
    rw [e2]; exact kAg.rf.sr (by decide)
  · unfold kv_touched; rw [if_pos h, if_neg h2, if_neg h3, if_neg h4]
  · unfold kv_touched; rw [h]; rfl
theorem v_O_may_0 (g : Nat → Option Nat) (X : List zShp) (M : zMem) (x1 x2 : Int32) (R : zEnd) (h : (((isM x1) = true) → (((x2 = 0) → ((kCnt M ∧ kDpt M ∧ vp_in x1 6) ∧ (R (some (.int (kLwf M x1))) (SHP g X) M))) ∧ ((¬ x2 = 0) → (((x2 = 1) → ((kCnt M ∧ kDpt M) ∧ (R (some (.int (kTnt M x1))) (SHP g X) M))) ∧ ((¬ x2 = 1) → (R (some (.int (-2))) (SHP g X) M)))))) ∧ (((isM x1) = false) → (R (some (.int (-1))) (SHP g X) M))) : zRT m_O_may 0 0 0 [(0, .ref 0), (1, .int x1), (2, .int x2)] [] (SHP g X) M R := by
  refine zs_iload_n 1 d_O_may_0 rfl (List.mem_of_getElem? (i := 1) rfl) ?_
  refine zs_callS (kc := 0) (ks := 0) (kc1 := 0) (ks1 := 0) (st := []) [.int x1] d_O_may_1 lk_O_111 ⟨by decide, by decide⟩ rfl (Nat.le_of_ble_eq_true rfl) (ex_O_isMan g X M x1) (fun v1 sh1 M1 hR => ?_)
  obtain ⟨rfl, rfl, rfl⟩ := hR
  refine zs_if_ne 9 d_O_may_4 (by decide) (fun c2 => ?_) (fun c2 => ?_)
  · replace h := h.1 (bI_1 c2)
    refine zs_iload_n 2 d_O_may_9 rfl (List.mem_of_getElem? (i := 2) rfl) ?_
    by_cases c3_0 : x2 = 0
    · replace h := h.1 c3_0
      refine zs_lookup 36 d_O_may_10 (by decide) (by rw [c3_0]; try rfl) (by decide) ?_
      refine zs_aload_n 0 d_O_may_36 rfl (List.mem_of_getElem? (i := 0) rfl) ?_
      refine zs_get d_O_may_37 gf_O_26 (sh_0 g X) rfl ?_
      refine zs_iload_n 1 d_O_may_40 rfl (List.mem_of_getElem? (i := 1) rfl) ?_
      obtain ⟨p4, h⟩ := h
      refine zs_callV (kc := 0) (ks := 0) (kc1 := 0) (ks1 := 0) (st := []) [.int x1] d_O_may_41 lk_O_143 ⟨by decide, by decide⟩ rfl (sh_10 g X) rfl (Nat.le_of_ble_eq_true rfl) (ex_Town_lawfulThings g X M x1 p4) (fun v4 sh4 M4 hR => ?_)
      obtain ⟨rfl, rfl, rfl⟩ := hR
      exact zs_iret d_O_may_44 rfl h
    replace h := h.2 c3_0
    by_cases c3_1 : x2 = 1
    · replace h := h.1 c3_1
      refine zs_lookup 45 d_O_may_10 (by decide) (by rw [c3_1]; try rfl) (by decide) ?_
      refine zs_aload_n 0 d_O_may_45 rfl (List.mem_of_getElem? (i := 0) rfl) ?_
      refine zs_get d_O_may_46 gf_O_26 (sh_0 g X) rfl ?_
      refine zs_iload_n 1 d_O_may_49 rfl (List.mem_of_getElem? (i := 1) rfl) ?_
      obtain ⟨p5, h⟩ := h
      refine zs_callV (kc := 0) (ks := 0) (kc1 := 0) (ks1 := 0) (st := []) [.int x1] d_O_may_50 lk_O_146 ⟨by decide, by decide⟩ rfl (sh_10 g X) rfl (Nat.le_of_ble_eq_true rfl) (ex_Town_taintOf g X M x1 p5) (fun v5 sh5 M5 hR => ?_)
      obtain ⟨rfl, rfl, rfl⟩ := hR
      exact zs_iret d_O_may_53 rfl h
    replace h := h.2 c3_1
    have q3_0 := zI_ne (z := 0) c3_0 (by decide)
    have q3_1 := zI_ne (z := 1) c3_1 (by decide)
    refine zs_lookup 54 d_O_may_10 (by decide) (zsw_lk2 q3_0 q3_1) (by decide) ?_
    refine zs_bipush (-2) d_O_may_54 (by decide) ?_
    exact zs_iret d_O_may_56 rfl h
  · replace h := h.2 (bI_0 c2)
    refine zs_iconst (-1) d_O_may_7 (by decide) ?_
    exact zs_iret d_O_may_8 rfl h
theorem ex_O_may (m w : Int32) (hh : kCnt M ∧ kDpt M) : zEx m_O_may 0 0 [.ref 0, .int m, .int w] (SHP g X) M (qR g X (fun r M1 => r = kv_may M m w ∧ kAg kCS M M1)) := by
  refine zEx_of _ (by decide) (by simp [Value.category]) (Nat.le_of_ble_eq_true rfl) rfl (v_O_may_0 g X M m w _ ⟨fun h => ⟨fun h2 => ⟨⟨hh.1, hh.2, isM_in h⟩, qR_i ⟨?_, kAg.rf⟩⟩, fun h2 => ⟨fun h3 => ⟨hh, qR_i ⟨?_, kAg.rf⟩⟩, fun h3 => qR_i ⟨?_, kAg.rf⟩⟩⟩, fun h => qR_i ⟨?_, kAg.rf⟩⟩)
  · unfold kv_may; rw [if_pos h, if_pos h2]
  · unfold kv_may; rw [if_pos h, if_neg h2, if_pos h3]
  · unfold kv_may; rw [if_pos h, if_neg h2, if_neg h3]
  · unfold kv_may; rw [h]; rfl
theorem v_O_near_0 (g : Nat → Option Nat) (X : List zShp) (M : zMem) (x1 x2 : Int32) (R : zEnd) (h : (((kIsT (M 11 5) x1) = false) → (R (some (.int (-1))) (SHP g X) M)) ∧ (((kIsT (M 11 5) x1) = true) → ((((isM x2) = true) → ((kCnt M) ∧ (R (some (.int (kFst M x1 ((1 : Int32) <<< (x2 &&& 31))))) (SHP g X) M))) ∧ (((isM x2) = false) → (R (some (.int (-1))) (SHP g X) M))))) : zRT m_O_near 0 0 0 [(0, .ref 0), (1, .int x1), (2, .int x2)] [] (SHP g X) M R := by
  refine zs_aload_n 0 d_O_near_0 rfl (List.mem_of_getElem? (i := 0) rfl) ?_
  refine zs_iload_n 1 d_O_near_1 rfl (List.mem_of_getElem? (i := 1) rfl) ?_
  refine zs_callV (kc := 0) (ks := 0) (kc1 := 0) (ks1 := 0) (st := []) [.int x1] d_O_near_2 lk_O_91 ⟨by decide, by decide⟩ rfl (sh_0 g X) rfl (Nat.le_of_ble_eq_true rfl) (ex_O_isThing g X M x1) (fun v1 sh1 M1 hR => ?_)
  obtain ⟨rfl, rfl, rfl⟩ := hR
  refine zs_if_eq 15 d_O_near_5 (by decide) (fun c2 => ?_) (fun c2 => ?_)
  · replace h := h.1 (bI_0 c2)
    refine zs_iconst (-1) d_O_near_15 (by decide) ?_
    exact zs_iret d_O_near_16 rfl h
  · replace h := h.2 (bI_1 c2)
    refine zs_iload_n 2 d_O_near_8 rfl (List.mem_of_getElem? (i := 2) rfl) ?_
    refine zs_callS (kc := 0) (ks := 0) (kc1 := 0) (ks1 := 0) (st := []) [.int x2] d_O_near_9 lk_O_111 ⟨by decide, by decide⟩ rfl (Nat.le_of_ble_eq_true rfl) (ex_O_isMan g X M x2) (fun v3 sh3 M3 hR => ?_)
    obtain ⟨rfl, rfl, rfl⟩ := hR
    refine zs_if_ne 17 d_O_near_12 (by decide) (fun c4 => ?_) (fun c4 => ?_)
    · replace h := h.1 (bI_1 c4)
      refine zs_aload_n 0 d_O_near_17 rfl (List.mem_of_getElem? (i := 0) rfl) ?_
      refine zs_get d_O_near_18 gf_O_26 (sh_0 g X) rfl ?_
      refine zs_iload_n 1 d_O_near_21 rfl (List.mem_of_getElem? (i := 1) rfl) ?_
      refine zs_iconst 1 d_O_near_22 (by decide) ?_
      refine zs_iload_n 2 d_O_near_23 rfl (List.mem_of_getElem? (i := 2) rfl) ?_
      refine zs_ishl d_O_near_24 ?_
      obtain ⟨p5, h⟩ := h
      refine zs_callV (kc := 0) (ks := 0) (kc1 := 0) (ks1 := 0) (st := []) [.int x1, .int ((1 : Int32) <<< (x2 &&& 31))] d_O_near_25 lk_O_149 ⟨by decide, by decide⟩ rfl (sh_10 g X) rfl (Nat.le_of_ble_eq_true rfl) (ex_Town_fewestSteps g X M x1 ((1 : Int32) <<< (x2 &&& 31)) p5) (fun v5 sh5 M5 hR => ?_)
      obtain ⟨rfl, rfl, rfl⟩ := hR
      exact zs_iret d_O_near_28 rfl h
    · replace h := h.2 (bI_0 c4)
      refine zs_iconst (-1) d_O_near_15 (by decide) ?_
      exact zs_iret d_O_near_16 rfl h
theorem ex_O_near (t m : Int32) (hh : kCnt M) : zEx m_O_near 0 0 [.ref 0, .int t, .int m] (SHP g X) M (qR g X (fun r M1 => r = kv_near M t m ∧ kAg kCS M M1)) := by
  refine zEx_of _ (by decide) (by simp [Value.category]) (Nat.le_of_ble_eq_true rfl) rfl (v_O_near_0 g X M t m _ ⟨fun h => qR_i ⟨?_, kAg.rf⟩, fun h => ⟨fun h2 => ⟨hh, qR_i ⟨?_, kAg.rf⟩⟩, fun h2 => qR_i ⟨?_, kAg.rf⟩⟩⟩)
  · unfold kv_near; rw [h]; rfl
  · unfold kv_near; rw [if_pos h, if_pos h2]
  · unfold kv_near; rw [if_pos h, h2]; rfl
theorem v_O_share_0 (g : Nat → Option Nat) (X : List zShp) (M : zMem) (x1 x2 x3 : Int32) (R : zEnd) (h : (((kIsT (M 11 5) x1) = false) → (R (some (.long (-1000000000000000001))) (SHP g X) M)) ∧ (((kIsT (M 11 5) x1) = true) → ((((isM x2) = true) → (((x3 < 0) → (R (some (.long (-1000000000000000002))) (SHP g X) M)) ∧ ((¬ x3 < 0) → (((x3 ≤ 1) → ((vp_in x1 10) ∧ (R (some (.long (Int32.toInt64 (kLow (kPt M x2 (Int32.toNatClampNeg x1 + 1) (Int32.toNatClampNeg x1)) 6144 x3)))) (SHP g X) (zmr M 23 (kPt M x2 (Int32.toNatClampNeg x1 + 1)))))) ∧ ((¬ x3 ≤ 1) → (R (some (.long (-1000000000000000002))) (SHP g X) M)))))) ∧ (((isM x2) = false) → (R (some (.long (-1000000000000000001))) (SHP g X) M))))) : zRT m_O_share 0 0 0 [(0, .ref 0), (1, .int x1), (2, .int x2), (3, .int x3)] [] (SHP g X) M R := by
  refine zs_aload_n 0 d_O_share_0 rfl (List.mem_of_getElem? (i := 0) rfl) ?_
  refine zs_iload_n 1 d_O_share_1 rfl (List.mem_of_getElem? (i := 1) rfl) ?_
  refine zs_callV (kc := 0) (ks := 0) (kc1 := 0) (ks1 := 0) (st := []) [.int x1] d_O_share_2 lk_O_91 ⟨by decide, by decide⟩ rfl (sh_0 g X) rfl (Nat.le_of_ble_eq_true rfl) (ex_O_isThing g X M x1) (fun v1 sh1 M1 hR => ?_)
  obtain ⟨rfl, rfl, rfl⟩ := hR
  refine zs_if_eq 15 d_O_share_5 (by decide) (fun c2 => ?_) (fun c2 => ?_)
  · replace h := h.1 (bI_0 c2)
    refine zs_ldc2 (v := (-1000000000000000001)) d_O_share_15 (by decide +kernel) ?_
    exact zs_lret d_O_share_18 rfl h
  · replace h := h.2 (bI_1 c2)
    refine zs_iload_n 2 d_O_share_8 rfl (List.mem_of_getElem? (i := 2) rfl) ?_
    refine zs_callS (kc := 0) (ks := 0) (kc1 := 0) (ks1 := 0) (st := []) [.int x2] d_O_share_9 lk_O_111 ⟨by decide, by decide⟩ rfl (Nat.le_of_ble_eq_true rfl) (ex_O_isMan g X M x2) (fun v3 sh3 M3 hR => ?_)
    obtain ⟨rfl, rfl, rfl⟩ := hR
    refine zs_if_ne 19 d_O_share_12 (by decide) (fun c4 => ?_) (fun c4 => ?_)
    · replace h := h.1 (bI_1 c4)
      refine zs_iload_n 3 d_O_share_19 rfl (List.mem_of_getElem? (i := 3) rfl) ?_
      refine zs_if_lt 28 d_O_share_20 (by decide) (fun c5 => ?_) (fun c5 => ?_)
      · replace h := h.1 c5
        refine zs_ldc2 (v := (-1000000000000000002)) d_O_share_28 (by decide +kernel) ?_
        exact zs_lret d_O_share_31 rfl h
      · replace h := h.2 c5
        refine zs_iload_n 3 d_O_share_23 rfl (List.mem_of_getElem? (i := 3) rfl) ?_
        refine zs_iconst 1 d_O_share_24 (by decide) ?_
        refine zs_icmp_le 32 d_O_share_25 (by decide) (fun c6 => ?_) (fun c6 => ?_)
        · replace h := h.1 c6
          refine zs_aload_n 0 d_O_share_32 rfl (List.mem_of_getElem? (i := 0) rfl) ?_
          refine zs_get d_O_share_33 gf_O_37 (sh_0 g X) rfl ?_
          refine zs_aload_n 0 d_O_share_36 rfl (List.mem_of_getElem? (i := 0) rfl) ?_
          refine zs_get d_O_share_37 gf_O_26 (sh_0 g X) rfl ?_
          refine zs_get d_O_share_40 gf_O_82 (sh_10 g X) rfl ?_
          refine zs_iload_n 1 d_O_share_43 rfl (List.mem_of_getElem? (i := 1) rfl) ?_
          refine zs_iload_n 2 d_O_share_44 rfl (List.mem_of_getElem? (i := 2) rfl) ?_
          obtain ⟨p7, h⟩ := h
          refine zs_callV (kc := 0) (ks := 0) (kc1 := 0) (ks1 := 0) (st := []) [.ref 11, .int x1, .int x2] d_O_share_45 lk_O_156 ⟨by decide, by decide⟩ rfl (sh_22 g X) rfl (Nat.le_of_ble_eq_true rfl) (ex_Shares_partsOf g X M x1 x2 p7) (fun v7 sh7 M7 hR => ?_)
          obtain ⟨rfl, rfl, rfl⟩ := hR
          refine zs_istore2 [1, 2, 3, 4, 0] [(0, .ref 0), (1, .int x1), (2, .int x2), (3, .int x3), (4, .int (kPt M x2 (Int32.toNatClampNeg x1 + 1) (Int32.toNatClampNeg x1)))] d_O_share_48 (by decide) rfl ?_
          refine zs_iload d_O_share_50 (List.mem_of_getElem? (i := 4) rfl) ?_
          refine zs_sipush 6144 d_O_share_52 (by decide) ?_
          refine zs_iload_n 3 d_O_share_55 rfl (List.mem_of_getElem? (i := 3) rfl) ?_
          refine zs_callS (kc := 0) (ks := 0) (kc1 := 0) (ks1 := 0) (st := []) [.int (kPt M x2 (Int32.toNatClampNeg x1 + 1) (Int32.toNatClampNeg x1)), .int 6144, .int x3] d_O_share_56 lk_O_159 ⟨by decide, by decide⟩ rfl (Nat.le_of_ble_eq_true rfl) (ex_Shares_lowest g X (zmr M 23 (kPt M x2 (Int32.toNatClampNeg x1 + 1))) (kPt M x2 (Int32.toNatClampNeg x1 + 1) (Int32.toNatClampNeg x1)) 6144 x3) (fun v8 sh8 M8 hR => ?_)
          obtain ⟨rfl, rfl, rfl⟩ := hR
          refine zs_i2l d_O_share_59 ?_
          exact zs_lret d_O_share_60 rfl h
        · replace h := h.2 c6
          refine zs_ldc2 (v := (-1000000000000000002)) d_O_share_28 (by decide +kernel) ?_
          exact zs_lret d_O_share_31 rfl h
    · replace h := h.2 (bI_0 c4)
      refine zs_ldc2 (v := (-1000000000000000001)) d_O_share_15 (by decide +kernel) ?_
      exact zs_lret d_O_share_18 rfl h
theorem ex_O_share (t m p : Int32) (hh : kCnt M) : zEx m_O_share 0 0 [.ref 0, .int t, .int m, .int p] (SHP g X) M (fun v sh1 M1 => some (.long (kv_share M t m p)) = v ∧ SHP g X = sh1 ∧ kAg kCS M M1) := by
  refine zEx_of _ (by decide) (by simp [Value.category]) (Nat.le_of_ble_eq_true rfl) rfl (v_O_share_0 g X M t m p _ ⟨fun h => ⟨?_, rfl, kAg.rf⟩, fun h => ⟨fun h2 => ⟨fun h3 => ⟨?_, rfl, kAg.rf⟩, fun h3 => ⟨fun h4 => ⟨kIsT_in hh h, ?_, rfl, kAg.rf.sr (by decide)⟩, fun h4 => ⟨?_, rfl, kAg.rf⟩⟩⟩, fun h2 => ⟨?_, rfl, kAg.rf⟩⟩⟩)
  · unfold kv_share; rw [h]; rfl
  · unfold kv_share; rw [if_pos h, if_pos h2, if_pos h3]
  · unfold kv_share; rw [if_pos h, if_pos h2, if_neg h3, if_pos h4]; rfl
  · unfold kv_share; rw [if_pos h, if_pos h2, if_neg h3, if_neg h4]
  · unfold kv_share; rw [if_pos h, h2]; rfl
theorem v_O_filled_0 (g : Nat → Option Nat) (X : List zShp) (M : zMem) (x1 : Int32) (R : zEnd) (h : (kCnt M ∧ kDpt M ∧ kSts M) ∧ (∀ (M1 : zMem), (kFA M M1) → (((¬ x1 = (-1)) → ((kAsk M1) ∧ (R (some (.int (kFM M1 x1))) (SHP g X) M1))) ∧ ((x1 = (-1)) → ((kAsk M1) ∧ (R (some (.int (kWays M1))) (SHP g X) M1)))))) : zRT m_O_filled 0 0 0 [(0, .ref 0), (1, .int x1)] [] (SHP g X) M R := by
  refine zs_aload_n 0 d_O_filled_0 rfl (List.mem_of_getElem? (i := 0) rfl) ?_
  refine zs_get d_O_filled_1 gf_O_44 (sh_0 g X) rfl ?_
  refine zs_aload_n 0 d_O_filled_4 rfl (List.mem_of_getElem? (i := 0) rfl) ?_
  refine zs_get d_O_filled_5 gf_O_26 (sh_0 g X) rfl ?_
  obtain ⟨p1, h⟩ := h
  refine zs_callV (kc := 0) (ks := 0) (kc1 := 0) (ks1 := 0) (st := []) [.ref 10] d_O_filled_8 lk_O_169 ⟨by decide, by decide⟩ rfl (sh_24 g X) rfl (Nat.le_of_ble_eq_true rfl) (ex_Filling_weigh g X M p1) (fun v1 sh1 M1 hR => ?_)
  obtain ⟨rfl, rfl, hq1⟩ := hR
  replace h := h M1 hq1
  refine zs_iload_n 1 d_O_filled_11 rfl (List.mem_of_getElem? (i := 1) rfl) ?_
  refine zs_iconst (-1) d_O_filled_12 (by decide) ?_
  refine zs_icmp_ne 24 d_O_filled_13 (by decide) (fun c2 => ?_) (fun c2 => ?_)
  · replace h := h.1 c2
    refine zs_aload_n 0 d_O_filled_24 rfl (List.mem_of_getElem? (i := 0) rfl) ?_
    refine zs_get d_O_filled_25 gf_O_44 (sh_0 g X) rfl ?_
    refine zs_iload_n 1 d_O_filled_28 rfl (List.mem_of_getElem? (i := 1) rfl) ?_
    obtain ⟨p3, h⟩ := h
    refine zs_callV (kc := 0) (ks := 0) (kc1 := 0) (ks1 := 0) (st := []) [.int x1] d_O_filled_29 lk_O_176 ⟨by decide, by decide⟩ rfl (sh_24 g X) rfl (Nat.le_of_ble_eq_true rfl) (ex_Filling_firstMan g X M1 x1 p3) (fun v3 sh3 M3 hR => ?_)
    obtain ⟨rfl, rfl, rfl⟩ := hR
    exact zs_iret d_O_filled_32 rfl h
  · replace h := h.2 c2
    refine zs_aload_n 0 d_O_filled_16 rfl (List.mem_of_getElem? (i := 0) rfl) ?_
    refine zs_get d_O_filled_17 gf_O_44 (sh_0 g X) rfl ?_
    obtain ⟨p4, h⟩ := h
    refine zs_callV (kc := 0) (ks := 0) (kc1 := 0) (ks1 := 0) (st := []) [] d_O_filled_20 lk_O_173 ⟨by decide, by decide⟩ rfl (sh_24 g X) rfl (Nat.le_of_ble_eq_true rfl) (ex_Filling_ways g X M1 p4) (fun v4 sh4 M4 hR => ?_)
    obtain ⟨rfl, rfl, rfl⟩ := hR
    exact zs_iret d_O_filled_23 rfl h
theorem ex_O_filled (i : Int32) (hh : kCnt M ∧ kDpt M ∧ kSts M) : zEx m_O_filled 0 0 [.ref 0, .int i] (SHP g X) M (qR g X (fun _ M1 => kAg kCS M M1)) := by
  refine zEx_of _ (by decide) (by simp [Value.category]) (Nat.le_of_ble_eq_true rfl) rfl (v_O_filled_0 g X M i _ ⟨hh, fun M1 h1 => ⟨fun _ => ⟨h1.2, qR_i (h1.1.mo (by decide))⟩, fun _ => ⟨h1.2, qR_i (h1.1.mo (by decide))⟩⟩⟩)
theorem v_O_sure_0 (g : Nat → Option Nat) (X : List zShp) (M : zMem) (x1 x2 : Int32) (R : zEnd) (h : (((kIsT (M 11 5) x1) = true) → (((x2 < 0) → (R (some (.int (-2))) (SHP g X) M)) ∧ ((¬ x2 < 0) → (((x2 ≤ 1) → ((kCnt M ∧ kDpt M ∧ kSts M) ∧ (∀ (M5 : zMem), (kFA M M5) → ((kAsk M5) ∧ (((¬ (kWays M5) = 0) → (((¬ x2 = 0) → ((kCnt M5 ∧ kDpt M5 ∧ kAsk M5) ∧ (R (some (.int (kBS M5 x1))) (SHP g X) M5))) ∧ ((x2 = 0) → ((kCnt M5 ∧ kDpt M5 ∧ kAsk M5) ∧ (R (some (.int (kBA M5 x1))) (SHP g X) M5))))) ∧ (((kWays M5) = 0) → (R (some (.int (-3))) (SHP g X) M5))))))) ∧ ((¬ x2 ≤ 1) → (R (some (.int (-2))) (SHP g X) M)))))) ∧ (((kIsT (M 11 5) x1) = false) → (R (some (.int (-1))) (SHP g X) M))) : zRT m_O_sure 0 0 0 [(0, .ref 0), (1, .int x1), (2, .int x2)] [] (SHP g X) M R := by
  refine zs_aload_n 0 d_O_sure_0 rfl (List.mem_of_getElem? (i := 0) rfl) ?_
  refine zs_iload_n 1 d_O_sure_1 rfl (List.mem_of_getElem? (i := 1) rfl) ?_
  refine zs_callV (kc := 0) (ks := 0) (kc1 := 0) (ks1 := 0) (st := []) [.int x1] d_O_sure_2 lk_O_91 ⟨by decide, by decide⟩ rfl (sh_0 g X) rfl (Nat.le_of_ble_eq_true rfl) (ex_O_isThing g X M x1) (fun v1 sh1 M1 hR => ?_)
  obtain ⟨rfl, rfl, rfl⟩ := hR
  refine zs_if_ne 10 d_O_sure_5 (by decide) (fun c2 => ?_) (fun c2 => ?_)
  · replace h := h.1 (bI_1 c2)
    refine zs_iload_n 2 d_O_sure_10 rfl (List.mem_of_getElem? (i := 2) rfl) ?_
    refine zs_if_lt 19 d_O_sure_11 (by decide) (fun c3 => ?_) (fun c3 => ?_)
    · replace h := h.1 c3
      refine zs_bipush (-2) d_O_sure_19 (by decide) ?_
      exact zs_iret d_O_sure_21 rfl h
    · replace h := h.2 c3
      refine zs_iload_n 2 d_O_sure_14 rfl (List.mem_of_getElem? (i := 2) rfl) ?_
      refine zs_iconst 1 d_O_sure_15 (by decide) ?_
      refine zs_icmp_le 22 d_O_sure_16 (by decide) (fun c4 => ?_) (fun c4 => ?_)
      · replace h := h.1 c4
        refine zs_aload_n 0 d_O_sure_22 rfl (List.mem_of_getElem? (i := 0) rfl) ?_
        refine zs_get d_O_sure_23 gf_O_44 (sh_0 g X) rfl ?_
        refine zs_aload_n 0 d_O_sure_26 rfl (List.mem_of_getElem? (i := 0) rfl) ?_
        refine zs_get d_O_sure_27 gf_O_26 (sh_0 g X) rfl ?_
        obtain ⟨p5, h⟩ := h
        refine zs_callV (kc := 0) (ks := 0) (kc1 := 0) (ks1 := 0) (st := []) [.ref 10] d_O_sure_30 lk_O_169 ⟨by decide, by decide⟩ rfl (sh_24 g X) rfl (Nat.le_of_ble_eq_true rfl) (ex_Filling_weigh g X M p5) (fun v5 sh5 M5 hR => ?_)
        obtain ⟨rfl, rfl, hq5⟩ := hR
        replace h := h M5 hq5
        refine zs_aload_n 0 d_O_sure_33 rfl (List.mem_of_getElem? (i := 0) rfl) ?_
        refine zs_get d_O_sure_34 gf_O_44 (sh_0 g X) rfl ?_
        obtain ⟨p6, h⟩ := h
        refine zs_callV (kc := 0) (ks := 0) (kc1 := 0) (ks1 := 0) (st := []) [] d_O_sure_37 lk_O_173 ⟨by decide, by decide⟩ rfl (sh_24 g X) rfl (Nat.le_of_ble_eq_true rfl) (ex_Filling_ways g X M5 p6) (fun v6 sh6 M6 hR => ?_)
        obtain ⟨rfl, rfl, rfl⟩ := hR
        refine zs_if_ne 46 d_O_sure_40 (by decide) (fun c7 => ?_) (fun c7 => ?_)
        · replace h := h.1 c7
          refine zs_iload_n 2 d_O_sure_46 rfl (List.mem_of_getElem? (i := 2) rfl) ?_
          refine zs_if_ne 65 d_O_sure_47 (by decide) (fun c8 => ?_) (fun c8 => ?_)
          · replace h := h.1 c8
            refine zs_aload_n 0 d_O_sure_65 rfl (List.mem_of_getElem? (i := 0) rfl) ?_
            refine zs_get d_O_sure_66 gf_O_44 (sh_0 g X) rfl ?_
            refine zs_aload_n 0 d_O_sure_69 rfl (List.mem_of_getElem? (i := 0) rfl) ?_
            refine zs_get d_O_sure_70 gf_O_26 (sh_0 g X) rfl ?_
            refine zs_iload_n 1 d_O_sure_73 rfl (List.mem_of_getElem? (i := 1) rfl) ?_
            obtain ⟨p9, h⟩ := h
            refine zs_callV (kc := 0) (ks := 0) (kc1 := 0) (ks1 := 0) (st := []) [.ref 10, .int x1] d_O_sure_74 lk_O_183 ⟨by decide, by decide⟩ rfl (sh_24 g X) rfl (Nat.le_of_ble_eq_true rfl) (ex_Filling_barredInSome g X M5 x1 p9) (fun v9 sh9 M9 hR => ?_)
            obtain ⟨rfl, rfl, rfl⟩ := hR
            exact zs_iret d_O_sure_77 rfl h
          · replace h := h.2 c8
            refine zs_aload_n 0 d_O_sure_50 rfl (List.mem_of_getElem? (i := 0) rfl) ?_
            refine zs_get d_O_sure_51 gf_O_44 (sh_0 g X) rfl ?_
            refine zs_aload_n 0 d_O_sure_54 rfl (List.mem_of_getElem? (i := 0) rfl) ?_
            refine zs_get d_O_sure_55 gf_O_26 (sh_0 g X) rfl ?_
            refine zs_iload_n 1 d_O_sure_58 rfl (List.mem_of_getElem? (i := 1) rfl) ?_
            obtain ⟨p10, h⟩ := h
            refine zs_callV (kc := 0) (ks := 0) (kc1 := 0) (ks1 := 0) (st := []) [.ref 10, .int x1] d_O_sure_59 lk_O_179 ⟨by decide, by decide⟩ rfl (sh_24 g X) rfl (Nat.le_of_ble_eq_true rfl) (ex_Filling_barredInAll g X M5 x1 p10) (fun v10 sh10 M10 hR => ?_)
            obtain ⟨rfl, rfl, rfl⟩ := hR
            refine zs_goto 77 d_O_sure_62 (by decide) ?_
            exact zs_iret d_O_sure_77 rfl h
        · replace h := h.2 c7
          refine zs_bipush (-3) d_O_sure_43 (by decide) ?_
          exact zs_iret d_O_sure_45 rfl h
      · replace h := h.2 c4
        refine zs_bipush (-2) d_O_sure_19 (by decide) ?_
        exact zs_iret d_O_sure_21 rfl h
  · replace h := h.2 (bI_0 c2)
    refine zs_iconst (-1) d_O_sure_8 (by decide) ?_
    exact zs_iret d_O_sure_9 rfl h
theorem ex_O_sure (t w : Int32) (hh : kCnt M ∧ kDpt M ∧ kSts M) : zEx m_O_sure 0 0 [.ref 0, .int t, .int w] (SHP g X) M (qR g X (fun _ M1 => kAg kCS M M1)) := by
  refine zEx_of _ (by decide) (by simp [Value.category]) (Nat.le_of_ble_eq_true rfl) rfl (v_O_sure_0 g X M t w _ ⟨fun h => ⟨fun _ => qR_i kAg.rf, fun _ => ⟨fun _ => ⟨hh, fun M5 h5 => ⟨h5.2, fun _ => ⟨fun _ => ⟨?_, qR_i (h5.1.mo (by decide))⟩, fun _ => ⟨?_, qR_i (h5.1.mo (by decide))⟩⟩, fun _ => qR_i (h5.1.mo (by decide))⟩⟩, fun _ => qR_i kAg.rf⟩⟩, fun _ => qR_i kAg.rf⟩)
  · exact ⟨kCnt_ag (h5.1 11 (by decide)) hh.1, kDpt_ag (h5.1 10 (by decide)) hh.2.1, h5.2⟩
  · exact ⟨kCnt_ag (h5.1 11 (by decide)) hh.1, kDpt_ag (h5.1 10 (by decide)) hh.2.1, h5.2⟩
theorem v_O_fed_0 (g : Nat → Option Nat) (X : List zShp) (M : zMem) (x1 : Int32) (R : zEnd) (h : (kCnt M ∧ kDpt M) ∧ (((¬ x1 = (-1)) → ((((isM x1) = false) → (R (some (.int (-6))) (SHP g X) (kServe (kLay M)))) ∧ (((isM x1) = true) → ((vp_in x1 6) ∧ (R (some (.int ((kServe (kLay M)) 30 (Int32.toNatClampNeg x1)))) (SHP g X) (kServe (kLay M))))))) ∧ ((x1 = (-1)) → (R (some (.int (kMf (kLay M) 63))) (SHP g X) (kServe (kLay M)))))) : zRT m_O_fed 0 0 0 [(0, .ref 0), (1, .int x1)] [] (SHP g X) M R := by
  refine zs_aload_n 0 d_O_fed_0 rfl (List.mem_of_getElem? (i := 0) rfl) ?_
  refine zs_get d_O_fed_1 gf_O_51 (sh_0 g X) rfl ?_
  refine zs_aload_n 0 d_O_fed_4 rfl (List.mem_of_getElem? (i := 0) rfl) ?_
  refine zs_get d_O_fed_5 gf_O_26 (sh_0 g X) rfl ?_
  obtain ⟨p1, h⟩ := h
  refine zs_callV (kc := 0) (ks := 0) (kc1 := 0) (ks1 := 0) (st := []) [.ref 10] d_O_fed_8 lk_O_186 ⟨by decide, by decide⟩ rfl (sh_27 g X) rfl (Nat.le_of_ble_eq_true rfl) (ex_Bread_layOut g X M p1) (fun v1 sh1 M1 hR => ?_)
  obtain ⟨rfl, rfl, rfl⟩ := hR
  refine zs_aload_n 0 d_O_fed_11 rfl (List.mem_of_getElem? (i := 0) rfl) ?_
  refine zs_get d_O_fed_12 gf_O_51 (sh_0 g X) rfl ?_
  refine zs_callV (kc := 0) (ks := 0) (kc1 := 0) (ks1 := 0) (st := []) [] d_O_fed_15 lk_O_189 ⟨by decide, by decide⟩ rfl (sh_27 g X) rfl (Nat.le_of_ble_eq_true rfl) (ex_Bread_serve g X (kLay M)) (fun v2 sh2 M2 hR => ?_)
  obtain ⟨rfl, rfl, rfl⟩ := hR
  refine zs_istore_n2 2 [1, 2, 0] [(0, .ref 0), (1, .int x1), (2, .int (kMf (kLay M) 63))] d_O_fed_18 rfl (by decide) rfl ?_
  refine zs_iload_n 1 d_O_fed_19 rfl (List.mem_of_getElem? (i := 1) rfl) ?_
  refine zs_iconst (-1) d_O_fed_20 (by decide) ?_
  refine zs_icmp_ne 26 d_O_fed_21 (by decide) (fun c3 => ?_) (fun c3 => ?_)
  · replace h := h.1 c3
    refine zs_iload_n 1 d_O_fed_26 rfl (List.mem_of_getElem? (i := 1) rfl) ?_
    refine zs_callS (kc := 0) (ks := 0) (kc1 := 0) (ks1 := 0) (st := []) [.int x1] d_O_fed_27 lk_O_111 ⟨by decide, by decide⟩ rfl (Nat.le_of_ble_eq_true rfl) (ex_O_isMan g X (kServe (kLay M)) x1) (fun v4 sh4 M4 hR => ?_)
    obtain ⟨rfl, rfl, rfl⟩ := hR
    refine zs_if_eq 45 d_O_fed_30 (by decide) (fun c5 => ?_) (fun c5 => ?_)
    · replace h := h.1 (bI_0 c5)
      refine zs_bipush (-6) d_O_fed_45 (by decide) ?_
      exact zs_iret d_O_fed_47 rfl h
    · replace h := h.2 (bI_1 c5)
      refine zs_aload_n 0 d_O_fed_33 rfl (List.mem_of_getElem? (i := 0) rfl) ?_
      refine zs_get d_O_fed_34 gf_O_51 (sh_0 g X) rfl ?_
      refine zs_get d_O_fed_37 gf_O_192 (sh_27 g X) rfl ?_
      refine zs_iload_n 1 d_O_fed_40 rfl (List.mem_of_getElem? (i := 1) rfl) ?_
      obtain ⟨b6, h⟩ := h
      refine zs_iald d_O_fed_41 (sh_30 g X) b6 ?_
      refine zs_goto 47 d_O_fed_42 (by decide) ?_
      exact zs_iret d_O_fed_47 rfl h
  · replace h := h.2 c3
    refine zs_iload_n 2 d_O_fed_24 rfl (List.mem_of_getElem? (i := 2) rfl) ?_
    exact zs_iret d_O_fed_25 rfl h
theorem ex_O_fed (i : Int32) (hh : kCnt M ∧ kDpt M) : zEx m_O_fed 0 0 [.ref 0, .int i] (SHP g X) M (qR g X (fun r M1 => r = kv_fed M i ∧ kAg kCS M M1)) := by
  have ha : kAg kCS M (kServe (kLay M)) := (kLay_ag M).tr (kServe_ag _)
  refine zEx_of _ (by decide) (by simp [Value.category]) (Nat.le_of_ble_eq_true rfl) rfl (v_O_fed_0 g X M i _ ⟨hh, fun h => ⟨fun h2 => qR_i ⟨?_, ha⟩, fun h2 => ⟨isM_in h2, qR_i ⟨?_, ha⟩⟩⟩, fun h => qR_i ⟨?_, ha⟩⟩)
  · unfold kv_fed; rw [if_neg h, h2]; rfl
  · unfold kv_fed; rw [if_neg h, if_pos h2]
  · unfold kv_fed; rw [if_pos h]
theorem v_O_lack_0 (g : Nat → Option Nat) (X : List zShp) (M : zMem) (R : zEnd) (h : (kCnt M ∧ kDpt M) ∧ (R (some (.int (kLs (kLay M)))) (SHP g X) (kLay M))) : zRT m_O_lack 0 0 0 [(0, .ref 0)] [] (SHP g X) M R := by
  refine zs_aload_n 0 d_O_lack_0 rfl (List.mem_of_getElem? (i := 0) rfl) ?_
  refine zs_get d_O_lack_1 gf_O_51 (sh_0 g X) rfl ?_
  refine zs_aload_n 0 d_O_lack_4 rfl (List.mem_of_getElem? (i := 0) rfl) ?_
  refine zs_get d_O_lack_5 gf_O_26 (sh_0 g X) rfl ?_
  obtain ⟨p1, h⟩ := h
  refine zs_callV (kc := 0) (ks := 0) (kc1 := 0) (ks1 := 0) (st := []) [.ref 10] d_O_lack_8 lk_O_186 ⟨by decide, by decide⟩ rfl (sh_27 g X) rfl (Nat.le_of_ble_eq_true rfl) (ex_Bread_layOut g X M p1) (fun v1 sh1 M1 hR => ?_)
  obtain ⟨rfl, rfl, rfl⟩ := hR
  refine zs_aload_n 0 d_O_lack_11 rfl (List.mem_of_getElem? (i := 0) rfl) ?_
  refine zs_get d_O_lack_12 gf_O_51 (sh_0 g X) rfl ?_
  refine zs_callV (kc := 0) (ks := 0) (kc1 := 0) (ks1 := 0) (st := []) [] d_O_lack_15 lk_O_195 ⟨by decide, by decide⟩ rfl (sh_27 g X) rfl (Nat.le_of_ble_eq_true rfl) (ex_Bread_leastShortSet g X (kLay M)) (fun v2 sh2 M2 hR => ?_)
  obtain ⟨rfl, rfl, rfl⟩ := hR
  exact zs_iret d_O_lack_18 rfl h
theorem ex_O_lack (hh : kCnt M ∧ kDpt M) : zEx m_O_lack 0 0 [.ref 0] (SHP g X) M (qR g X (fun r M1 => r = kv_lack M ∧ kAg kCS M M1)) :=
  zEx_of _ (by decide) (by simp [Value.category]) (Nat.le_of_ble_eq_true rfl) rfl (v_O_lack_0 g X M _ ⟨hh, qR_i ⟨rfl, kLay_ag M⟩⟩)
theorem v_O_makers_0 (g : Nat → Option Nat) (X : List zShp) (M : zMem) (x1 x2 : Int32) (R : zEnd) (h : ((x1 < 1) → (R (some (.int (-2))) (SHP g X) M)) ∧ ((¬ x1 < 1) → (((6 < x1) → (R (some (.int (-2))) (SHP g X) M)) ∧ ((¬ 6 < x1) → (((x2 < 0) → (R (some (.int (-2))) (SHP g X) M)) ∧ ((¬ x2 < 0) → (((x2 ≤ 1) → (((x2 = 1) → (R (some (.int (kFew M x1))) (SHP g X) M)) ∧ ((¬ x2 = 1) → (((¬ (kFew M x1) = (-6)) → (R (some (.int (bc (kFew M x1)))) (SHP g X) M)) ∧ (((kFew M x1) = (-6)) → (R (some (.int (kFew M x1))) (SHP g X) M)))))) ∧ ((¬ x2 ≤ 1) → (R (some (.int (-2))) (SHP g X) M))))))))) : zRT m_O_makers 0 0 0 [(0, .ref 0), (1, .int x1), (2, .int x2)] [] (SHP g X) M R := by
  refine zs_iload_n 1 d_O_makers_0 rfl (List.mem_of_getElem? (i := 1) rfl) ?_
  refine zs_iconst 1 d_O_makers_1 (by decide) ?_
  refine zs_icmp_lt 20 d_O_makers_2 (by decide) (fun c1 => ?_) (fun c1 => ?_)
  · replace h := h.1 c1
    refine zs_bipush (-2) d_O_makers_20 (by decide) ?_
    exact zs_iret d_O_makers_22 rfl h
  · replace h := h.2 c1
    refine zs_iload_n 1 d_O_makers_5 rfl (List.mem_of_getElem? (i := 1) rfl) ?_
    refine zs_bipush 6 d_O_makers_6 (by decide) ?_
    refine zs_icmp_gt 20 d_O_makers_8 (by decide) (fun c2 => ?_) (fun c2 => ?_)
    · replace h := h.1 c2
      refine zs_bipush (-2) d_O_makers_20 (by decide) ?_
      exact zs_iret d_O_makers_22 rfl h
    · replace h := h.2 c2
      refine zs_iload_n 2 d_O_makers_11 rfl (List.mem_of_getElem? (i := 2) rfl) ?_
      refine zs_if_lt 20 d_O_makers_12 (by decide) (fun c3 => ?_) (fun c3 => ?_)
      · replace h := h.1 c3
        refine zs_bipush (-2) d_O_makers_20 (by decide) ?_
        exact zs_iret d_O_makers_22 rfl h
      · replace h := h.2 c3
        refine zs_iload_n 2 d_O_makers_15 rfl (List.mem_of_getElem? (i := 2) rfl) ?_
        refine zs_iconst 1 d_O_makers_16 (by decide) ?_
        refine zs_icmp_le 23 d_O_makers_17 (by decide) (fun c4 => ?_) (fun c4 => ?_)
        · replace h := h.1 c4
          refine zs_aload_n 0 d_O_makers_23 rfl (List.mem_of_getElem? (i := 0) rfl) ?_
          refine zs_get d_O_makers_24 gf_O_26 (sh_0 g X) rfl ?_
          refine zs_iload_n 1 d_O_makers_27 rfl (List.mem_of_getElem? (i := 1) rfl) ?_
          refine zs_callS (kc := 0) (ks := 0) (kc1 := 0) (ks1 := 0) (st := []) [.ref 10, .int x1] d_O_makers_28 lk_O_198 ⟨by decide, by decide⟩ rfl (Nat.le_of_ble_eq_true rfl) (ex_Bakers_fewest g X M x1) (fun v5 sh5 M5 hR => ?_)
          obtain ⟨rfl, rfl, rfl⟩ := hR
          refine zs_istore_n2 3 [1, 2, 3, 0] [(0, .ref 0), (1, .int x1), (2, .int x2), (3, .int (kFew M x1))] d_O_makers_31 rfl (by decide) rfl ?_
          refine zs_iload_n 2 d_O_makers_32 rfl (List.mem_of_getElem? (i := 2) rfl) ?_
          refine zs_iconst 1 d_O_makers_33 (by decide) ?_
          refine zs_icmp_eq 43 d_O_makers_34 (by decide) (fun c6 => ?_) (fun c6 => ?_)
          · replace h := h.1 c6
            refine zs_iload_n 3 d_O_makers_43 rfl (List.mem_of_getElem? (i := 3) rfl) ?_
            refine zs_goto 51 d_O_makers_44 (by decide) ?_
            exact zs_iret d_O_makers_51 rfl h
          · replace h := h.2 c6
            refine zs_iload_n 3 d_O_makers_37 rfl (List.mem_of_getElem? (i := 3) rfl) ?_
            refine zs_bipush (-6) d_O_makers_38 (by decide) ?_
            refine zs_icmp_ne 47 d_O_makers_40 (by decide) (fun c7 => ?_) (fun c7 => ?_)
            · replace h := h.1 c7
              refine zs_iload_n 3 d_O_makers_47 rfl (List.mem_of_getElem? (i := 3) rfl) ?_
              refine zs_callS (kc := 0) (ks := 0) (kc1 := 0) (ks1 := 0) (st := []) [.int (kFew M x1)] d_O_makers_48 lk_O_203 ⟨by decide, by decide⟩ rfl (Nat.le_of_ble_eq_true rfl) (ex_JI_bitCount g X M (kFew M x1)) (fun v8 sh8 M8 hR => ?_)
              obtain ⟨rfl, rfl, rfl⟩ := hR
              exact zs_iret d_O_makers_51 rfl h
            · replace h := h.2 c7
              refine zs_iload_n 3 d_O_makers_43 rfl (List.mem_of_getElem? (i := 3) rfl) ?_
              refine zs_goto 51 d_O_makers_44 (by decide) ?_
              exact zs_iret d_O_makers_51 rfl h
        · replace h := h.2 c4
          refine zs_bipush (-2) d_O_makers_20 (by decide) ?_
          exact zs_iret d_O_makers_22 rfl h
theorem ex_O_makers (c w : Int32) : zEx m_O_makers 0 0 [.ref 0, .int c, .int w] (SHP g X) M (qR g X (fun r M1 => r = kv_makers M c w ∧ kAg kCS M M1)) := by
  refine zEx_of _ (by decide) (by simp [Value.category]) (Nat.le_of_ble_eq_true rfl) rfl (v_O_makers_0 g X M c w _ ⟨fun h => qR_i ⟨?_, kAg.rf⟩, fun h => ⟨fun h2 => qR_i ⟨?_, kAg.rf⟩, fun h2 => ⟨fun h3 => qR_i ⟨?_, kAg.rf⟩, fun h3 => ⟨fun h4 => ⟨fun h5 => qR_i ⟨?_, kAg.rf⟩, fun h5 => ⟨fun h6 => qR_i ⟨?_, kAg.rf⟩, fun h6 => qR_i ⟨?_, kAg.rf⟩⟩⟩, fun h4 => qR_i ⟨?_, kAg.rf⟩⟩⟩⟩⟩)
  · unfold kv_makers; rw [if_pos h]
  · unfold kv_makers; rw [if_neg h, if_pos h2]
  · unfold kv_makers; rw [if_neg h, if_neg h2, if_pos h3]
  · unfold kv_makers; rw [if_neg h, if_neg h2, if_neg h3, if_pos h4, if_pos h5]
  · unfold kv_makers; rw [if_neg h, if_neg h2, if_neg h3, if_pos h4, if_neg h5, if_neg h6]
  · unfold kv_makers; rw [if_neg h, if_neg h2, if_neg h3, if_pos h4, if_neg h5, if_pos h6, h6]
  · unfold kv_makers; rw [if_neg h, if_neg h2, if_neg h3, if_neg h4]
theorem v_O_washed_0 (g : Nat → Option Nat) (X : List zShp) (M : zMem) (x1 x2 : Int32) (R : zEnd) (h : (((kIsT (M 11 5) x1) = false) → (R (some (.int (-1))) (SHP g X) M)) ∧ (((kIsT (M 11 5) x1) = true) → ((((isM x2) = true) → ((vp_in x2 6) ∧ ((kCnt M) ∧ (((¬ (kFst M x1 (kCpl M x2)) = (-6)) → (R (some (.int (mx 0 (((M 10 6) + 1) - (kFst M x1 (kCpl M x2)))))) (SHP g X) M)) ∧ (((kFst M x1 (kCpl M x2)) = (-6)) → (R (some (.int 0)) (SHP g X) M)))))) ∧ (((isM x2) = false) → (R (some (.int (-1))) (SHP g X) M))))) : zRT m_O_washed 0 0 0 [(0, .ref 0), (1, .int x1), (2, .int x2)] [] (SHP g X) M R := by
  refine zs_aload_n 0 d_O_washed_0 rfl (List.mem_of_getElem? (i := 0) rfl) ?_
  refine zs_iload_n 1 d_O_washed_1 rfl (List.mem_of_getElem? (i := 1) rfl) ?_
  refine zs_callV (kc := 0) (ks := 0) (kc1 := 0) (ks1 := 0) (st := []) [.int x1] d_O_washed_2 lk_O_91 ⟨by decide, by decide⟩ rfl (sh_0 g X) rfl (Nat.le_of_ble_eq_true rfl) (ex_O_isThing g X M x1) (fun v1 sh1 M1 hR => ?_)
  obtain ⟨rfl, rfl, rfl⟩ := hR
  refine zs_if_eq 15 d_O_washed_5 (by decide) (fun c2 => ?_) (fun c2 => ?_)
  · replace h := h.1 (bI_0 c2)
    refine zs_iconst (-1) d_O_washed_15 (by decide) ?_
    exact zs_iret d_O_washed_16 rfl h
  · replace h := h.2 (bI_1 c2)
    refine zs_iload_n 2 d_O_washed_8 rfl (List.mem_of_getElem? (i := 2) rfl) ?_
    refine zs_callS (kc := 0) (ks := 0) (kc1 := 0) (ks1 := 0) (st := []) [.int x2] d_O_washed_9 lk_O_111 ⟨by decide, by decide⟩ rfl (Nat.le_of_ble_eq_true rfl) (ex_O_isMan g X M x2) (fun v3 sh3 M3 hR => ?_)
    obtain ⟨rfl, rfl, rfl⟩ := hR
    refine zs_if_ne 17 d_O_washed_12 (by decide) (fun c4 => ?_) (fun c4 => ?_)
    · replace h := h.1 (bI_1 c4)
      refine zs_aload_n 0 d_O_washed_17 rfl (List.mem_of_getElem? (i := 0) rfl) ?_
      refine zs_get d_O_washed_18 gf_O_26 (sh_0 g X) rfl ?_
      refine zs_iload_n 1 d_O_washed_21 rfl (List.mem_of_getElem? (i := 1) rfl) ?_
      refine zs_aload_n 0 d_O_washed_22 rfl (List.mem_of_getElem? (i := 0) rfl) ?_
      refine zs_get d_O_washed_23 gf_O_26 (sh_0 g X) rfl ?_
      refine zs_iload_n 2 d_O_washed_26 rfl (List.mem_of_getElem? (i := 2) rfl) ?_
      obtain ⟨p5, h⟩ := h
      refine zs_callV (kc := 0) (ks := 0) (kc1 := 0) (ks1 := 0) (st := [.int x1, .ref 10]) [.int x2] d_O_washed_27 lk_O_208 ⟨by decide, by decide⟩ rfl (sh_10 g X) rfl (Nat.le_of_ble_eq_true rfl) (ex_Town_couple g X M x2 p5) (fun v5 sh5 M5 hR => ?_)
      obtain ⟨rfl, rfl, rfl⟩ := hR
      obtain ⟨p6, h⟩ := h
      refine zs_callV (kc := 0) (ks := 0) (kc1 := 0) (ks1 := 0) (st := []) [.int x1, .int (kCpl M x2)] d_O_washed_30 lk_O_149 ⟨by decide, by decide⟩ rfl (sh_10 g X) rfl (Nat.le_of_ble_eq_true rfl) (ex_Town_fewestSteps g X M x1 (kCpl M x2) p6) (fun v6 sh6 M6 hR => ?_)
      obtain ⟨rfl, rfl, rfl⟩ := hR
      refine zs_istore_n2 3 [1, 2, 3, 0] [(0, .ref 0), (1, .int x1), (2, .int x2), (3, .int (kFst M x1 (kCpl M x2)))] d_O_washed_33 rfl (by decide) rfl ?_
      refine zs_iload_n 3 d_O_washed_34 rfl (List.mem_of_getElem? (i := 3) rfl) ?_
      refine zs_bipush (-6) d_O_washed_35 (by decide) ?_
      refine zs_icmp_ne 44 d_O_washed_37 (by decide) (fun c7 => ?_) (fun c7 => ?_)
      · replace h := h.1 c7
        refine zs_iconst 0 d_O_washed_44 (by decide) ?_
        refine zs_aload_n 0 d_O_washed_45 rfl (List.mem_of_getElem? (i := 0) rfl) ?_
        refine zs_get d_O_washed_46 gf_O_26 (sh_0 g X) rfl ?_
        refine zs_get d_O_washed_49 gf_O_211 (sh_10 g X) rfl ?_
        refine zs_iconst 1 d_O_washed_52 (by decide) ?_
        refine zs_iadd d_O_washed_53 ?_
        refine zs_iload_n 3 d_O_washed_54 rfl (List.mem_of_getElem? (i := 3) rfl) ?_
        refine zs_isub d_O_washed_55 ?_
        refine zs_max (st := []) d_O_washed_56 (by decide +kernel) (by decide +kernel) ?_
        exact zs_iret d_O_washed_59 rfl h
      · replace h := h.2 c7
        refine zs_iconst 0 d_O_washed_40 (by decide) ?_
        refine zs_goto 59 d_O_washed_41 (by decide) ?_
        exact zs_iret d_O_washed_59 rfl h
    · replace h := h.2 (bI_0 c4)
      refine zs_iconst (-1) d_O_washed_15 (by decide) ?_
      exact zs_iret d_O_washed_16 rfl h
theorem ex_O_washed (t m : Int32) (hh : kCnt M) : zEx m_O_washed 0 0 [.ref 0, .int t, .int m] (SHP g X) M (qR g X (fun r M1 => r = kv_washed M t m ∧ kAg kCS M M1)) := by
  refine zEx_of _ (by decide) (by simp [Value.category]) (Nat.le_of_ble_eq_true rfl) rfl (v_O_washed_0 g X M t m _ ⟨fun h => qR_i ⟨?_, kAg.rf⟩, fun h => ⟨fun h2 => ⟨isM_in h2, hh, fun h3 => qR_i ⟨?_, kAg.rf⟩, fun h3 => qR_i ⟨?_, kAg.rf⟩⟩, fun h2 => qR_i ⟨?_, kAg.rf⟩⟩⟩)
  · unfold kv_washed; rw [h]; rfl
  · unfold kv_washed; rw [if_pos h, if_pos h2, if_neg h3]
  · unfold kv_washed; rw [if_pos h, if_pos h2, if_pos h3]
  · unfold kv_washed; rw [if_pos h, h2]; rfl
theorem v_O_married_0 (g : Nat → Option Nat) (X : List zShp) (M : zMem) (x1 : Int32) (R : zEnd) (h : (kCnt M ∧ kDpt M) ∧ (((¬ x1 = (-1)) → ((((isM x1) = false) → (R (some (.int (-6))) (SHP g X) ((kArr M).2))) ∧ (((isM x1) = true) → ((vp_in x1 6) ∧ (R (some (.int (((kArr M).2) 34 (Int32.toNatClampNeg x1)))) (SHP g X) ((kArr M).2)))))) ∧ ((x1 = (-1)) → (R (some (.int ((kArr M).1))) (SHP g X) ((kArr M).2))))) : zRT m_O_married 0 0 0 [(0, .ref 0), (1, .int x1)] [] (SHP g X) M R := by
  refine zs_aload_n 0 d_O_married_0 rfl (List.mem_of_getElem? (i := 0) rfl) ?_
  refine zs_get d_O_married_1 gf_O_58 (sh_0 g X) rfl ?_
  refine zs_aload_n 0 d_O_married_4 rfl (List.mem_of_getElem? (i := 0) rfl) ?_
  refine zs_get d_O_married_5 gf_O_26 (sh_0 g X) rfl ?_
  obtain ⟨p1, h⟩ := h
  refine zs_callV (kc := 0) (ks := 0) (kc1 := 0) (ks1 := 0) (st := []) [.ref 10] d_O_married_8 lk_O_219 ⟨by decide, by decide⟩ rfl (sh_31 g X) rfl (Nat.le_of_ble_eq_true rfl) (ex_Matchmaker_arrange g X M p1) (fun v1 sh1 M1 hR => ?_)
  obtain ⟨rfl, rfl, rfl⟩ := hR
  refine zs_istore_n2 2 [1, 2, 0] [(0, .ref 0), (1, .int x1), (2, .int ((kArr M).1))] d_O_married_11 rfl (by decide) rfl ?_
  refine zs_iload_n 1 d_O_married_12 rfl (List.mem_of_getElem? (i := 1) rfl) ?_
  refine zs_iconst (-1) d_O_married_13 (by decide) ?_
  refine zs_icmp_ne 19 d_O_married_14 (by decide) (fun c2 => ?_) (fun c2 => ?_)
  · replace h := h.1 c2
    refine zs_iload_n 1 d_O_married_19 rfl (List.mem_of_getElem? (i := 1) rfl) ?_
    refine zs_callS (kc := 0) (ks := 0) (kc1 := 0) (ks1 := 0) (st := []) [.int x1] d_O_married_20 lk_O_111 ⟨by decide, by decide⟩ rfl (Nat.le_of_ble_eq_true rfl) (ex_O_isMan g X ((kArr M).2) x1) (fun v3 sh3 M3 hR => ?_)
    obtain ⟨rfl, rfl, rfl⟩ := hR
    refine zs_if_eq 38 d_O_married_23 (by decide) (fun c4 => ?_) (fun c4 => ?_)
    · replace h := h.1 (bI_0 c4)
      refine zs_bipush (-6) d_O_married_38 (by decide) ?_
      exact zs_iret d_O_married_40 rfl h
    · replace h := h.2 (bI_1 c4)
      refine zs_aload_n 0 d_O_married_26 rfl (List.mem_of_getElem? (i := 0) rfl) ?_
      refine zs_get d_O_married_27 gf_O_58 (sh_0 g X) rfl ?_
      refine zs_get d_O_married_30 gf_O_223 (sh_31 g X) rfl ?_
      refine zs_iload_n 1 d_O_married_33 rfl (List.mem_of_getElem? (i := 1) rfl) ?_
      obtain ⟨b5, h⟩ := h
      refine zs_iald d_O_married_34 (sh_34 g X) b5 ?_
      refine zs_goto 40 d_O_married_35 (by decide) ?_
      exact zs_iret d_O_married_40 rfl h
  · replace h := h.2 c2
    refine zs_iload_n 2 d_O_married_17 rfl (List.mem_of_getElem? (i := 2) rfl) ?_
    exact zs_iret d_O_married_18 rfl h
theorem ex_O_married (i : Int32) (hh : kCnt M ∧ kDpt M) : zEx m_O_married 0 0 [.ref 0, .int i] (SHP g X) M (qR g X (fun r M1 => r = kv_married M i ∧ kAg kCS M M1)) := by
  refine zEx_of _ (by decide) (by simp [Value.category]) (Nat.le_of_ble_eq_true rfl) rfl (v_O_married_0 g X M i _ ⟨hh, fun h => ⟨fun h2 => qR_i ⟨?_, kArr_ag M⟩, fun h2 => ⟨isM_in h2, qR_i ⟨?_, kArr_ag M⟩⟩⟩, fun h => qR_i ⟨?_, kArr_ag M⟩⟩)
  · unfold kv_married; rw [if_neg h, h2]; rfl
  · unfold kv_married; rw [if_neg h, if_pos h2]
  · unfold kv_married; rw [if_pos h]
theorem v_O_days_0 (g : Nat → Option Nat) (X : List zShp) (M : zMem) (x1 x2 x3 : Int32) (R : zEnd) (h : ((x3 = (-1)) → (zRT m_O_days 0 0 15 [(0, .ref 0), (1, .int x1), (2, .int x2), (3, .int x3)] [] (SHP g X) M R)) ∧ ((¬ x3 = (-1)) → ((((kIsT (M 11 5) x3) = true) → (zRT m_O_days 0 0 15 [(0, .ref 0), (1, .int x1), (2, .int x2), (3, .int x3)] [] (SHP g X) M R)) ∧ (((kIsT (M 11 5) x3) = false) → (R (some (.int (-1))) (SHP g X) M))))) : zRT m_O_days 0 0 0 [(0, .ref 0), (1, .int x1), (2, .int x2), (3, .int x3)] [] (SHP g X) M R := by
  refine zs_iload_n 3 d_O_days_0 rfl (List.mem_of_getElem? (i := 3) rfl) ?_
  refine zs_iconst (-1) d_O_days_1 (by decide) ?_
  refine zs_icmp_eq 15 d_O_days_2 (by decide) (fun c1 => ?_) (fun c1 => ?_)
  · replace h := h.1 c1
    exact h
  · replace h := h.2 c1
    refine zs_aload_n 0 d_O_days_5 rfl (List.mem_of_getElem? (i := 0) rfl) ?_
    refine zs_iload_n 3 d_O_days_6 rfl (List.mem_of_getElem? (i := 3) rfl) ?_
    refine zs_callV (kc := 0) (ks := 0) (kc1 := 0) (ks1 := 0) (st := []) [.int x3] d_O_days_7 lk_O_91 ⟨by decide, by decide⟩ rfl (sh_0 g X) rfl (Nat.le_of_ble_eq_true rfl) (ex_O_isThing g X M x3) (fun v2 sh2 M2 hR => ?_)
    obtain ⟨rfl, rfl, rfl⟩ := hR
    refine zs_if_ne 15 d_O_days_10 (by decide) (fun c3 => ?_) (fun c3 => ?_)
    · replace h := h.1 (bI_1 c3)
      exact h
    · replace h := h.2 (bI_0 c3)
      refine zs_iconst (-1) d_O_days_13 (by decide) ?_
      exact zs_iret d_O_days_14 rfl h
theorem v_O_days_15 (g : Nat → Option Nat) (X : List zShp) (M : zMem) (x1 x2 x3 : Int32) (R : zEnd) (h : ((x1 < 0) → (R (some (.int (-2))) (SHP g X) M)) ∧ ((¬ x1 < 0) → (((9999 < x1) → (R (some (.int (-2))) (SHP g X) M)) ∧ ((¬ 9999 < x1) → (((x2 < 1) → (R (some (.int (-2))) (SHP g X) M)) ∧ ((¬ x2 < 1) → (((x2 ≤ 99) → ((kCnt M ∧ kDpt M) ∧ ((kSeed x1 x2) ∧ (((¬ x3 = (-1)) → ((vp_in x3 10) ∧ (R (some (.int (((kLive (kLay M) x1 x2).2) 29 (Int32.toNatClampNeg x3)))) (SHP g X) ((kLive (kLay M) x1 x2).2)))) ∧ ((x3 = (-1)) → (R (some (.int ((kLive (kLay M) x1 x2).1))) (SHP g X) ((kLive (kLay M) x1 x2).2))))))) ∧ ((¬ x2 ≤ 99) → (R (some (.int (-2))) (SHP g X) M))))))))) : zRT m_O_days 0 0 15 [(0, .ref 0), (1, .int x1), (2, .int x2), (3, .int x3)] [] (SHP g X) M R := by
  refine zs_iload_n 1 d_O_days_15 rfl (List.mem_of_getElem? (i := 1) rfl) ?_
  refine zs_if_lt 37 d_O_days_16 (by decide) (fun c1 => ?_) (fun c1 => ?_)
  · replace h := h.1 c1
    refine zs_bipush (-2) d_O_days_37 (by decide) ?_
    exact zs_iret d_O_days_39 rfl h
  · replace h := h.2 c1
    refine zs_iload_n 1 d_O_days_19 rfl (List.mem_of_getElem? (i := 1) rfl) ?_
    refine zs_sipush 9999 d_O_days_20 (by decide) ?_
    refine zs_icmp_gt 37 d_O_days_23 (by decide) (fun c2 => ?_) (fun c2 => ?_)
    · replace h := h.1 c2
      refine zs_bipush (-2) d_O_days_37 (by decide) ?_
      exact zs_iret d_O_days_39 rfl h
    · replace h := h.2 c2
      refine zs_iload_n 2 d_O_days_26 rfl (List.mem_of_getElem? (i := 2) rfl) ?_
      refine zs_iconst 1 d_O_days_27 (by decide) ?_
      refine zs_icmp_lt 37 d_O_days_28 (by decide) (fun c3 => ?_) (fun c3 => ?_)
      · replace h := h.1 c3
        refine zs_bipush (-2) d_O_days_37 (by decide) ?_
        exact zs_iret d_O_days_39 rfl h
      · replace h := h.2 c3
        refine zs_iload_n 2 d_O_days_31 rfl (List.mem_of_getElem? (i := 2) rfl) ?_
        refine zs_bipush 99 d_O_days_32 (by decide) ?_
        refine zs_icmp_le 40 d_O_days_34 (by decide) (fun c4 => ?_) (fun c4 => ?_)
        · replace h := h.1 c4
          refine zs_aload_n 0 d_O_days_40 rfl (List.mem_of_getElem? (i := 0) rfl) ?_
          refine zs_get d_O_days_41 gf_O_51 (sh_0 g X) rfl ?_
          refine zs_aload_n 0 d_O_days_44 rfl (List.mem_of_getElem? (i := 0) rfl) ?_
          refine zs_get d_O_days_45 gf_O_26 (sh_0 g X) rfl ?_
          obtain ⟨p5, h⟩ := h
          refine zs_callV (kc := 0) (ks := 0) (kc1 := 0) (ks1 := 0) (st := []) [.ref 10] d_O_days_48 lk_O_186 ⟨by decide, by decide⟩ rfl (sh_27 g X) rfl (Nat.le_of_ble_eq_true rfl) (ex_Bread_layOut g X M p5) (fun v5 sh5 M5 hR => ?_)
          obtain ⟨rfl, rfl, rfl⟩ := hR
          refine zs_aload_n 0 d_O_days_51 rfl (List.mem_of_getElem? (i := 0) rfl) ?_
          refine zs_get d_O_days_52 gf_O_51 (sh_0 g X) rfl ?_
          refine zs_iload_n 1 d_O_days_55 rfl (List.mem_of_getElem? (i := 1) rfl) ?_
          refine zs_iload_n 2 d_O_days_56 rfl (List.mem_of_getElem? (i := 2) rfl) ?_
          obtain ⟨p6, h⟩ := h
          refine zs_callV (kc := 0) (ks := 0) (kc1 := 0) (ks1 := 0) (st := []) [.int x1, .int x2] d_O_days_57 lk_O_226 ⟨by decide, by decide⟩ rfl (sh_27 g X) rfl (Nat.le_of_ble_eq_true rfl) (ex_Bread_live g X (kLay M) x1 x2 p6) (fun v6 sh6 M6 hR => ?_)
          obtain ⟨rfl, rfl, rfl⟩ := hR
          refine zs_istore2 [1, 2, 3, 4, 0] [(0, .ref 0), (1, .int x1), (2, .int x2), (3, .int x3), (4, .int ((kLive (kLay M) x1 x2).1))] d_O_days_60 (by decide) rfl ?_
          refine zs_iload_n 3 d_O_days_62 rfl (List.mem_of_getElem? (i := 3) rfl) ?_
          refine zs_iconst (-1) d_O_days_63 (by decide) ?_
          refine zs_icmp_ne 72 d_O_days_64 (by decide) (fun c7 => ?_) (fun c7 => ?_)
          · replace h := h.1 c7
            refine zs_aload_n 0 d_O_days_72 rfl (List.mem_of_getElem? (i := 0) rfl) ?_
            refine zs_get d_O_days_73 gf_O_51 (sh_0 g X) rfl ?_
            refine zs_get d_O_days_76 gf_O_229 (sh_27 g X) rfl ?_
            refine zs_iload_n 3 d_O_days_79 rfl (List.mem_of_getElem? (i := 3) rfl) ?_
            obtain ⟨b8, h⟩ := h
            refine zs_iald d_O_days_80 (sh_29 g X) b8 ?_
            exact zs_iret d_O_days_81 rfl h
          · replace h := h.2 c7
            refine zs_iload d_O_days_67 (List.mem_of_getElem? (i := 4) rfl) ?_
            refine zs_goto 81 d_O_days_69 (by decide) ?_
            exact zs_iret d_O_days_81 rfl h
        · replace h := h.2 c4
          refine zs_bipush (-2) d_O_days_37 (by decide) ?_
          exact zs_iret d_O_days_39 rfl h
theorem ex_O_days (s n t : Int32) (hh : kCnt M ∧ kDpt M) : zEx m_O_days 0 0 [.ref 0, .int s, .int n, .int t] (SHP g X) M (qR g X (fun r M1 => r = kv_days M s n t ∧ kAg kCS M M1)) := by
  have ha : kAg kCS M (kLive (kLay M) s n).2 := (kLay_ag M).tr (kLive_ag _ _ _)
  have C1 : (t = -1 ∨ vp_in t 10) → zRT m_O_days 0 0 15 [(0, .ref 0), (1, .int s), (2, .int n), (3, .int t)] [] (SHP g X) M (qR g X (fun r M1 => r = kv_days2 M s n t ∧ kAg kCS M M1)) := by
    intro ht
    refine v_O_days_15 g X M s n t _ ⟨fun h => qR_i ⟨?_, kAg.rf⟩, fun h => ⟨fun h2 => qR_i ⟨?_, kAg.rf⟩, fun h2 => ⟨fun h3 => qR_i ⟨?_, kAg.rf⟩, fun h3 => ⟨fun h4 => ⟨hh, kSeed_i h h2 h3 h4, fun h5 => ⟨ht.resolve_left h5, qR_i ⟨?_, ha⟩⟩, fun h5 => qR_i ⟨?_, ha⟩⟩, fun h4 => qR_i ⟨?_, kAg.rf⟩⟩⟩⟩⟩
    · unfold kv_days2; rw [if_pos h]
    · unfold kv_days2; rw [if_neg h, if_pos h2]
    · unfold kv_days2; rw [if_neg h, if_neg h2, if_pos h3]
    · unfold kv_days2; rw [if_neg h, if_neg h2, if_neg h3, if_pos h4, if_neg h5]
    · unfold kv_days2; rw [if_neg h, if_neg h2, if_neg h3, if_pos h4, if_pos h5]
    · unfold kv_days2; rw [if_neg h, if_neg h2, if_neg h3, if_neg h4]
  refine zEx_of _ (by decide) (by simp [Value.category]) (Nat.le_of_ble_eq_true rfl) rfl (v_O_days_0 g X M s n t _ ⟨fun h => ?_, fun h => ⟨fun h2 => ?_, fun h2 => qR_i ⟨?_, kAg.rf⟩⟩⟩)
  · unfold kv_days; rw [if_pos h]; exact C1 (Or.inl h)
  · unfold kv_days; rw [if_neg h, if_pos h2]; exact C1 (Or.inr (kIsT_in hh.1 h2))
  · unfold kv_days; rw [if_neg h, h2]; rfl
theorem v_O_fault_0 (g : Nat → Option Nat) (X : List zShp) (M : zMem) (R : zEnd) (h : (kPad M) ∧ (R (some (.int ((kRd M).1))) (SHP g X) ((kRd M).2))) : zRT m_O_fault 0 0 0 [(0, .ref 0)] [] (SHP g X) M R := by
  refine zs_aload_n 0 d_O_fault_0 rfl (List.mem_of_getElem? (i := 0) rfl) ?_
  refine zs_get d_O_fault_1 gf_O_19 (sh_0 g X) rfl ?_
  refine zs_aload_n 0 d_O_fault_4 rfl (List.mem_of_getElem? (i := 0) rfl) ?_
  refine zs_get d_O_fault_5 gf_O_12 (sh_0 g X) rfl ?_
  obtain ⟨p1, h⟩ := h
  refine zs_callV (kc := 0) (ks := 0) (kc1 := 0) (ks1 := 0) (st := []) [.ref 1] d_O_fault_8 lk_O_70 ⟨by decide, by decide⟩ rfl (sh_3 g X) rfl (Nat.le_of_ble_eq_true rfl) (ex_Reader_read g X M p1) (fun v1 sh1 M1 hR => ?_)
  obtain ⟨rfl, rfl, rfl⟩ := hR
  exact zs_iret d_O_fault_11 rfl h
theorem ex_O_fault (hh : kPad M) : zEx m_O_fault 0 0 [.ref 0] (SHP g X) M (qR g X (fun r M1 => r = (kRd M).1 ∧ kAg kCS M M1)) :=
  zEx_of _ (by decide) (by simp [Value.category]) (Nat.le_of_ble_eq_true rfl) rfl (v_O_fault_0 g X M _ ⟨hh, qR_i ⟨rfl, (kRd_ag M).mo kRS_CS⟩⟩)
end zC7
