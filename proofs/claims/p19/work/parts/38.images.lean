/-! image, restore -/
abbrev kL11 (p : Nat) : List Nat := [p, p + 1, p + 2, p + 3, p + 4, p + 5, p + 6, p + 7, p + 8, p + 9, p + 10]
theorem kTB_ag (M : zMem) (p q : Nat) : kAg (kL11 p) M (kTB M p q) := by
  unfold kTB kTB1 kTB0 kPB kPB0
  refine kAg.st (kAg.st (kAg.st (kAg.st (kCp_ag (kCp_ag (kCp_ag (kCp_ag (kAg.st (kCp_ag (kCp_ag (kCp_ag (kCp_ag (kCp_ag kAg.rf ?_) ?_) ?_) ?_) ?_) ?_) ?_) ?_) ?_) ?_) ?_) ?_) ?_) ?_ <;> simp
theorem kTB_52_10 {M : zMem} {F : zTS} (hw : tN F ≤ 10) (h : kTR M 10 F) : kTR (kTB M 52 10) 52 F := by
  obtain ⟨t1, t2, t3, t4, t5, t6, t7, t8, t9⟩ := h
  exact ⟨t1, t2, t3, t4, t5, fun j hj => (sb_cpy0 hj).trans (t6 j hj), fun j hj => (sb_cpy0 hj).trans (t7 j hj), fun i hi => ⟨(sb_cpy0 hi).trans (t8 i hi).1, (sb_cpy0 hi).trans (t8 i hi).2⟩, fun k hk => ⟨(sb_cpy0 (Nat.lt_of_lt_of_le hk hw)).trans (t9 k hk).1, (sb_cpy0 (Nat.lt_of_lt_of_le hk hw)).trans (t9 k hk).2.1, (sb_cpy0 (Nat.lt_of_lt_of_le hk hw)).trans (t9 k hk).2.2.1, (sb_cpy0 (Nat.lt_of_lt_of_le hk hw)).trans (t9 k hk).2.2.2.1, (sb_cpy0 (Nat.lt_of_lt_of_le hk hw)).trans (t9 k hk).2.2.2.2⟩⟩
theorem kTB_63_10 {M : zMem} {F : zTS} (hw : tN F ≤ 10) (h : kTR M 10 F) : kTR (kTB M 63 10) 63 F := by
  obtain ⟨t1, t2, t3, t4, t5, t6, t7, t8, t9⟩ := h
  exact ⟨t1, t2, t3, t4, t5, fun j hj => (sb_cpy0 hj).trans (t6 j hj), fun j hj => (sb_cpy0 hj).trans (t7 j hj), fun i hi => ⟨(sb_cpy0 hi).trans (t8 i hi).1, (sb_cpy0 hi).trans (t8 i hi).2⟩, fun k hk => ⟨(sb_cpy0 (Nat.lt_of_lt_of_le hk hw)).trans (t9 k hk).1, (sb_cpy0 (Nat.lt_of_lt_of_le hk hw)).trans (t9 k hk).2.1, (sb_cpy0 (Nat.lt_of_lt_of_le hk hw)).trans (t9 k hk).2.2.1, (sb_cpy0 (Nat.lt_of_lt_of_le hk hw)).trans (t9 k hk).2.2.2.1, (sb_cpy0 (Nat.lt_of_lt_of_le hk hw)).trans (t9 k hk).2.2.2.2⟩⟩
theorem kTB_10_52 {M : zMem} {F : zTS} (hw : tN F ≤ 10) (h : kTR M 52 F) : kTR (kTB M 10 52) 10 F := by
  obtain ⟨t1, t2, t3, t4, t5, t6, t7, t8, t9⟩ := h
  exact ⟨t1, t2, t3, t4, t5, fun j hj => (sb_cpy0 hj).trans (t6 j hj), fun j hj => (sb_cpy0 hj).trans (t7 j hj), fun i hi => ⟨(sb_cpy0 hi).trans (t8 i hi).1, (sb_cpy0 hi).trans (t8 i hi).2⟩, fun k hk => ⟨(sb_cpy0 (Nat.lt_of_lt_of_le hk hw)).trans (t9 k hk).1, (sb_cpy0 (Nat.lt_of_lt_of_le hk hw)).trans (t9 k hk).2.1, (sb_cpy0 (Nat.lt_of_lt_of_le hk hw)).trans (t9 k hk).2.2.1, (sb_cpy0 (Nat.lt_of_lt_of_le hk hw)).trans (t9 k hk).2.2.2.1, (sb_cpy0 (Nat.lt_of_lt_of_le hk hw)).trans (t9 k hk).2.2.2.2⟩⟩
theorem kTB_10_63 {M : zMem} {F : zTS} (hw : tN F ≤ 10) (h : kTR M 63 F) : kTR (kTB M 10 63) 10 F := by
  obtain ⟨t1, t2, t3, t4, t5, t6, t7, t8, t9⟩ := h
  exact ⟨t1, t2, t3, t4, t5, fun j hj => (sb_cpy0 hj).trans (t6 j hj), fun j hj => (sb_cpy0 hj).trans (t7 j hj), fun i hi => ⟨(sb_cpy0 hi).trans (t8 i hi).1, (sb_cpy0 hi).trans (t8 i hi).2⟩, fun k hk => ⟨(sb_cpy0 (Nat.lt_of_lt_of_le hk hw)).trans (t9 k hk).1, (sb_cpy0 (Nat.lt_of_lt_of_le hk hw)).trans (t9 k hk).2.1, (sb_cpy0 (Nat.lt_of_lt_of_le hk hw)).trans (t9 k hk).2.2.1, (sb_cpy0 (Nat.lt_of_lt_of_le hk hw)).trans (t9 k hk).2.2.2.1, (sb_cpy0 (Nat.lt_of_lt_of_le hk hw)).trans (t9 k hk).2.2.2.2⟩⟩
theorem kLt2 {i : Int32} (h : vp_in i 2) : i < 2 := by
  obtain ⟨j, hj, rfl⟩ := vp_in_of h (by decide)
  exact nI_lt (b := 2) hj (by decide)
theorem kOut2 {i : Int32} (h : ¬ vp_in i 2) : i < 0 ∨ ¬ i < 2 := by
  by_cases h1 : i < 0
  · exact Or.inl h1
  · refine Or.inr (fun h2 => h ?_)
    obtain ⟨j, hj, rfl⟩ := nI_of h1
    rw [show (2 : Int32) = nI 2 from rfl, nI_ltI hj (by decide)] at h2
    exact vp_in_nI h2 (by decide)
theorem ex_O_restore_X (g : Nat → Option Nat) (X : List zShp) (M : zMem) (i : Int32) (hi : ¬ vp_in i 2) : zEx m_O_restore 0 0 [.ref 0, .int i] (SHP g X) M (qF g X (-2) M) := by
  refine zEx_of _ (by decide) (by simp [Value.category]) (Nat.le_of_ble_eq_true rfl) rfl ?_
  have hr : zRT m_O_restore 0 0 9 [(0, .ref 0), (1, .int i)] [] (SHP g X) M (qF g X (-2) M) := by
    refine zs_bipush (-2) d_O_restore_9 (by decide) ?_
    exact zs_iret d_O_restore_11 rfl (qF_i rfl rfl)
  refine zs_iload_n 1 d_O_restore_0 rfl (List.mem_of_getElem? (i := 1) rfl) ?_
  refine zs_if_lt 9 d_O_restore_1 (by decide) (fun _ => hr) (fun c => ?_)
  refine zs_iload_n 1 d_O_restore_4 rfl (List.mem_of_getElem? (i := 1) rfl) ?_
  refine zs_iconst 2 d_O_restore_5 (by decide) ?_
  exact zs_icmp_lt 12 d_O_restore_6 (by decide) (fun c2 => absurd c2 ((kOut2 hi).resolve_left c)) (fun _ => hr)
theorem ex_O_image_X (g : Nat → Option Nat) (X : List zShp) (M : zMem) (i : Int32) (hi : ¬ vp_in i 2) : zEx m_O_image 0 0 [.ref 0, .int i] (SHP g X) M (qF g X (-2) M) := by
  refine zEx_of _ (by decide) (by simp [Value.category]) (Nat.le_of_ble_eq_true rfl) rfl ?_
  have hr : zRT m_O_image 0 0 9 [(0, .ref 0), (1, .int i)] [] (SHP g X) M (qF g X (-2) M) := by
    refine zs_bipush (-2) d_O_image_9 (by decide) ?_
    exact zs_iret d_O_image_11 rfl (qF_i rfl rfl)
  refine zs_iload_n 1 d_O_image_0 rfl (List.mem_of_getElem? (i := 1) rfl) ?_
  refine zs_if_lt 9 d_O_image_1 (by decide) (fun _ => hr) (fun c => ?_)
  refine zs_iload_n 1 d_O_image_4 rfl (List.mem_of_getElem? (i := 1) rfl) ?_
  refine zs_iconst 2 d_O_image_5 (by decide) ?_
  exact zs_icmp_lt 12 d_O_image_6 (by decide) (fun c2 => absurd c2 ((kOut2 hi).resolve_left c)) (fun _ => hr)
theorem ex_O_restore_N (g : Nat → Option Nat) (X : List zShp) (M : zMem) (i : Int32) (hi : vp_in i 2) (hg : g (Int32.toNatClampNeg i) = none) : zEx m_O_restore 0 0 [.ref 0, .int i] (SHP g X) M (qF g X (-3) M) := by
  refine zEx_of _ (by decide) (by simp [Value.category]) (Nat.le_of_ble_eq_true rfl) rfl ?_
  refine zs_iload_n 1 d_O_restore_0 rfl (List.mem_of_getElem? (i := 1) rfl) ?_
  refine zs_if_lt 9 d_O_restore_1 (by decide) (fun c => absurd c (fun q => hi (Or.inl q))) (fun _ => ?_)
  refine zs_iload_n 1 d_O_restore_4 rfl (List.mem_of_getElem? (i := 1) rfl) ?_
  refine zs_iconst 2 d_O_restore_5 (by decide) ?_
  refine zs_icmp_lt 12 d_O_restore_6 (by decide) (fun _ => ?_) (fun c => absurd (kLt2 hi) c)
  refine zs_aload_n 0 d_O_restore_12 rfl (List.mem_of_getElem? (i := 0) rfl) ?_
  refine zs_get d_O_restore_13 gf_O_30 (sh_0 g X) rfl ?_
  refine zs_iload_n 1 d_O_restore_16 rfl (List.mem_of_getElem? (i := 1) rfl) ?_
  refine zs_aald d_O_restore_17 (sh_21 g X) hi ?_
  rw [hg]
  refine zs_astore_nN2 2 [1, 2, 0] [(0, .ref 0), (1, .int i), (2, .null)] d_O_restore_18 rfl (by decide) rfl ?_
  refine zs_aload_nN 2 d_O_restore_19 rfl (List.mem_of_getElem? (i := 2) rfl) ?_
  refine zs_ifnonnullN d_O_restore_20 ?_
  refine zs_bipush (-3) d_O_restore_23 (by decide) ?_
  exact zs_iret d_O_restore_25 rfl (qF_i rfl rfl)
theorem ex_O_restore_S (g : Nat → Option Nat) (X : List zShp) (M : zMem) (i : Int32) (p : Nat) (hi : vp_in i 2) (hg : g (Int32.toNatClampNeg i) = some p) (hp : kTwn (SHP g X) p) : zEx m_O_restore 0 0 [.ref 0, .int i] (SHP g X) M (qF g X 1 (kTB M 10 p)) := by
  refine zEx_of _ (by decide) (by simp [Value.category]) (Nat.le_of_ble_eq_true rfl) rfl ?_
  refine zs_iload_n 1 d_O_restore_0 rfl (List.mem_of_getElem? (i := 1) rfl) ?_
  refine zs_if_lt 9 d_O_restore_1 (by decide) (fun c => absurd c (fun q => hi (Or.inl q))) (fun _ => ?_)
  refine zs_iload_n 1 d_O_restore_4 rfl (List.mem_of_getElem? (i := 1) rfl) ?_
  refine zs_iconst 2 d_O_restore_5 (by decide) ?_
  refine zs_icmp_lt 12 d_O_restore_6 (by decide) (fun _ => ?_) (fun c => absurd (kLt2 hi) c)
  refine zs_aload_n 0 d_O_restore_12 rfl (List.mem_of_getElem? (i := 0) rfl) ?_
  refine zs_get d_O_restore_13 gf_O_30 (sh_0 g X) rfl ?_
  refine zs_iload_n 1 d_O_restore_16 rfl (List.mem_of_getElem? (i := 1) rfl) ?_
  refine zs_aald d_O_restore_17 (sh_21 g X) hi ?_
  rw [hg]
  refine zs_astore_n2 2 [1, 2, 0] [(0, .ref 0), (1, .int i), (2, .ref p)] d_O_restore_18 rfl (by decide) rfl ?_
  refine zs_aload_n 2 d_O_restore_19 rfl (List.mem_of_getElem? (i := 2) rfl) ?_
  refine zs_ifnonnull 26 d_O_restore_20 (by decide) ?_
  refine zs_aload_n 0 d_O_restore_26 rfl (List.mem_of_getElem? (i := 0) rfl) ?_
  refine zs_get d_O_restore_27 gf_O_26 (sh_0 g X) rfl ?_
  refine zs_aload_n 2 d_O_restore_30 rfl (List.mem_of_getElem? (i := 2) rfl) ?_
  refine zs_callV (kc := 0) (ks := 0) (kc1 := 0) (ks1 := 0) (st := []) [.ref p] d_O_restore_31 lk_O_232 ⟨by decide, by decide⟩ rfl (sh_10 g X) rfl (Nat.le_of_ble_eq_true rfl) (ex_Town_become (SHP g X) M 10 p kTwn_10 hp) (fun v sh1 M1 hR => ?_)
  obtain ⟨rfl, rfl, rfl⟩ := hR
  refine zs_iconst 1 d_O_restore_34 (by decide) ?_
  exact zs_iret d_O_restore_35 rfl (qF_i rfl rfl)
theorem ex_O_image_S (g : Nat → Option Nat) (X : List zShp) (M : zMem) (i : Int32) (p : Nat) (hi : vp_in i 2) (hg : g (Int32.toNatClampNeg i) = some p) (hp : kTwn (SHP g X) p) : zEx m_O_image 0 0 [.ref 0, .int i] (SHP g X) M (qF g X 1 (kTB M p 10)) := by
  refine zEx_of _ (by decide) (by simp [Value.category]) (Nat.le_of_ble_eq_true rfl) rfl ?_
  refine zs_iload_n 1 d_O_image_0 rfl (List.mem_of_getElem? (i := 1) rfl) ?_
  refine zs_if_lt 9 d_O_image_1 (by decide) (fun c => absurd c (fun q => hi (Or.inl q))) (fun _ => ?_)
  refine zs_iload_n 1 d_O_image_4 rfl (List.mem_of_getElem? (i := 1) rfl) ?_
  refine zs_iconst 2 d_O_image_5 (by decide) ?_
  refine zs_icmp_lt 12 d_O_image_6 (by decide) (fun _ => ?_) (fun c => absurd (kLt2 hi) c)
  refine zs_aload_n 0 d_O_image_12 rfl (List.mem_of_getElem? (i := 0) rfl) ?_
  refine zs_get d_O_image_13 gf_O_30 (sh_0 g X) rfl ?_
  refine zs_iload_n 1 d_O_image_16 rfl (List.mem_of_getElem? (i := 1) rfl) ?_
  refine zs_aald d_O_image_17 (sh_21 g X) hi ?_
  rw [hg]
  refine zs_astore_n2 2 [1, 2, 0] [(0, .ref 0), (1, .int i), (2, .ref p)] d_O_image_18 rfl (by decide) rfl ?_
  refine zs_aload_n 2 d_O_image_19 rfl (List.mem_of_getElem? (i := 2) rfl) ?_
  refine zs_ifnonnull 38 d_O_image_20 (by decide) ?_
  refine zs_aload_n 2 d_O_image_38 rfl (List.mem_of_getElem? (i := 2) rfl) ?_
  refine zs_aload_n 0 d_O_image_39 rfl (List.mem_of_getElem? (i := 0) rfl) ?_
  refine zs_get d_O_image_40 gf_O_26 (sh_0 g X) rfl ?_
  refine zs_callV (kc := 0) (ks := 0) (kc1 := 0) (ks1 := 0) (st := []) [.ref 10] d_O_image_43 lk_O_232 ⟨by decide, by decide⟩ rfl hp.1 rfl (Nat.le_of_ble_eq_true rfl) (ex_Town_become (SHP g X) _ _ 10 hp kTwn_10) (fun v sh1 M1 hR => ?_)
  obtain ⟨rfl, rfl, rfl⟩ := hR
  refine zs_iconst 1 d_O_image_46 (by decide) ?_
  exact zs_iret d_O_image_47 rfl (qF_i rfl rfl)
abbrev kBl : zShp := .inr (.inl (7, [some none, some none, some none, some none, some none, none, none, none, none]))
abbrev kTC (n : Nat) : zShp := .inr (.inl (7, [some (some (n)), some (some (n + 6)), some (some (n + 7)), some (some (n + 8)), some (some (n + 9)), none, none, none, none]))
abbrev kTL (n : Nat) : List zShp := [.inr (.inl (4, [some (some (n + 1)), some (some (n + 2)), some (some (n + 3)), some (some (n + 4)), some (some (n + 5)), none])), .inl (0, 10), .inl (0, 10), .inl (0, 10), .inl (0, 10), .inl (0, 10), .inl (0, 6), .inl (0, 10), .inl (0, 6), .inl (0, 6)]
abbrev kS1 (g : Nat → Option Nat) (X : List zShp) (q : Nat) : List zShp := (SHP g X ++ [kBl]).set q (kTC (q + 1)) ++ kTL (q + 1)
def kTI (q n : Nat) (M : zMem) : zMem := zNo (zms (zms (zZ (zZ (zZ (zZ (zZ (zZ (zZ (zZ (zZ (zZ M (n)) (n + 1)) (n + 2)) (n + 3)) (n + 4)) (n + 5)) (n + 6)) (n + 7)) (n + 8)) (n + 9)) q 6 2) q 8 1) (n + 6) 6
theorem ex_O_image_N (g : Nat → Option Nat) (X : List zShp) (M : zMem) (i : Int32) (q : Nat) (Y : List zShp) (hi : vp_in i 2) (hg : g (Int32.toNatClampNeg i) = none) (hq : (SHP g X).length = q) (hY : (kS1 g X q).set 21 (.inr (.inr (2, va_up g (Int32.toNatClampNeg i) (some q)))) = SHP (va_up g (Int32.toNatClampNeg i) (some q)) Y) (h21 : (kS1 g X q)[21]? = some (.inr (.inr (2, g)))) (h0 : (kS1 g X q)[0]? = some (.inr (.inl (8, [some (some 1), some (some 3), some (some 10), some (some 21), some (some 22), some (some 24), some (some 27), some (some 31)])))) (hqq : ∃ fs, (kS1 g X q)[q]? = some (.inr (.inl (7, fs)))) (hp : kTwn (SHP (va_up g (Int32.toNatClampNeg i) (some q)) Y) q) : zEx m_O_image 11 93 [.ref 0, .int i] (SHP g X) M (fun v sh1 M1 => some (.int 1) = v ∧ SHP (va_up g (Int32.toNatClampNeg i) (some q)) Y = sh1 ∧ kTB (kTI q (q + 1) (zZ M q)) q 10 = M1) := by
  refine zEx_of _ (by decide) (by simp [Value.category]) (Nat.le_of_ble_eq_true rfl) rfl ?_
  refine zs_iload_n 1 d_O_image_0 rfl (List.mem_of_getElem? (i := 1) rfl) ?_
  refine zs_if_lt 9 d_O_image_1 (by decide) (fun c => absurd c (fun q => hi (Or.inl q))) (fun _ => ?_)
  refine zs_iload_n 1 d_O_image_4 rfl (List.mem_of_getElem? (i := 1) rfl) ?_
  refine zs_iconst 2 d_O_image_5 (by decide) ?_
  refine zs_icmp_lt 12 d_O_image_6 (by decide) (fun _ => ?_) (fun c => absurd (kLt2 hi) c)
  refine zs_aload_n 0 d_O_image_12 rfl (List.mem_of_getElem? (i := 0) rfl) ?_
  refine zs_get d_O_image_13 gf_O_30 (sh_0 g X) rfl ?_
  refine zs_iload_n 1 d_O_image_16 rfl (List.mem_of_getElem? (i := 1) rfl) ?_
  refine zs_aald d_O_image_17 (sh_21 g X) hi ?_
  rw [hg]
  refine zs_astore_nN2 2 [1, 2, 0] [(0, .ref 0), (1, .int i), (2, .null)] d_O_image_18 rfl (by decide) rfl ?_
  refine zs_aload_nN 2 d_O_image_19 rfl (List.mem_of_getElem? (i := 2) rfl) ?_
  refine zs_ifnonnullN d_O_image_20 ?_
  refine zs_new (kc := 10) (ks := 84) d_O_image_23 nw_O_23 ?_
  rw [hq]
  refine zs_dup d_O_image_26 rfl ?_
  have hl : (SHP g X ++ [kBl]).length = q + 1 := by rw [List.length_append, hq]; rfl
  have hb : (SHP g X ++ [kBl])[q]? = some kBl := by
    rw [List.getElem?_append_right (Nat.le_of_eq hq), hq, Nat.sub_self]
    rfl
  have hE := ex_Town_init (SHP g X ++ [kBl]) (zZ M q) q hb
  rw [hl] at hE
  refine zs_callI (kc := 0) (ks := 0) (kc1 := 10) (ks1 := 84) (o := q) (st := [.ref q]) [] d_O_image_27 lk_O_25 ⟨by decide, by decide⟩ rfl (Nat.le_of_ble_eq_true rfl) hE (fun v sh1 M1 hR => ?_)
  obtain ⟨rfl, rfl, rfl⟩ := hR
  refine zs_astore_n2 2 [1, 2, 0] [(0, .ref 0), (1, .int i), (2, .ref q)] d_O_image_30 rfl (by decide) rfl ?_
  refine zs_aload_n 0 d_O_image_31 rfl (List.mem_of_getElem? (i := 0) rfl) ?_
  refine zs_get d_O_image_32 gf_O_30 h0 rfl ?_
  refine zs_iload_n 1 d_O_image_35 rfl (List.mem_of_getElem? (i := 1) rfl) ?_
  refine zs_aload_n 2 d_O_image_36 rfl (List.mem_of_getElem? (i := 2) rfl) ?_
  obtain ⟨fs, hqq⟩ := hqq
  refine zs_aast d_O_image_37 h21 hqq hi ?_
  refine zRT_sh hY ?_
  refine zs_aload_n 2 d_O_image_38 rfl (List.mem_of_getElem? (i := 2) rfl) ?_
  refine zs_aload_n 0 d_O_image_39 rfl (List.mem_of_getElem? (i := 0) rfl) ?_
  refine zs_get d_O_image_40 gf_O_26 (sh_0 (va_up g (Int32.toNatClampNeg i) (some q)) Y) rfl ?_
  refine zs_callV (kc := 0) (ks := 0) (kc1 := 0) (ks1 := 0) (st := []) [.ref 10] d_O_image_43 lk_O_232 ⟨by decide, by decide⟩ rfl hp.1 rfl (Nat.le_of_ble_eq_true rfl) (ex_Town_become (SHP (va_up g (Int32.toNatClampNeg i) (some q)) Y) _ _ 10 hp kTwn_10) (fun v sh1 M1 hR => ?_)
  obtain ⟨rfl, rfl, rfl⟩ := hR
  refine zs_iconst 1 d_O_image_46 (by decide) ?_
  exact zs_iret d_O_image_47 rfl ⟨rfl, rfl, rfl⟩
