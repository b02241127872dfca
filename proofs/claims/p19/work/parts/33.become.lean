/-! a town's rows one behind another; become, open -/
def kPgs (sh : List zShp) (a : Nat) : Prop := sh[a]? = some (.inr (.inl (4, [some (some (a + 1)), some (some (a + 2)), some (some (a + 3)), some (some (a + 4)), some (some (a + 5)), none]))) ∧ sh[a + 1]? = some (.inl (0, 10)) ∧ sh[a + 2]? = some (.inl (0, 10)) ∧ sh[a + 3]? = some (.inl (0, 10)) ∧ sh[a + 4]? = some (.inl (0, 10)) ∧ sh[a + 5]? = some (.inl (0, 10))
def kTwn (sh : List zShp) (p : Nat) : Prop := sh[p]? = some (.inr (.inl (7, [some (some (p + 1)), some (some (p + 7)), some (some (p + 8)), some (some (p + 9)), some (some (p + 10)), none, none, none, none]))) ∧ sh[p + 1]? = some (.inr (.inl (4, [some (some (p + 2)), some (some (p + 3)), some (some (p + 4)), some (some (p + 5)), some (some (p + 6)), none]))) ∧ sh[p + 2]? = some (.inl (0, 10)) ∧ sh[p + 3]? = some (.inl (0, 10)) ∧ sh[p + 4]? = some (.inl (0, 10)) ∧ sh[p + 5]? = some (.inl (0, 10)) ∧ sh[p + 6]? = some (.inl (0, 10)) ∧ sh[p + 7]? = some (.inl (0, 6)) ∧ sh[p + 8]? = some (.inl (0, 10)) ∧ sh[p + 9]? = some (.inl (0, 6)) ∧ sh[p + 10]? = some (.inl (0, 6))
theorem kTwn_p {sh : List zShp} {p : Nat} (h : kTwn sh p) : kPgs sh (p + 1) := ⟨h.2.1, h.2.2.1, h.2.2.2.1, h.2.2.2.2.1, h.2.2.2.2.2.1, h.2.2.2.2.2.2.1⟩
theorem kPgs_11 {g : Nat → Option Nat} {X : List zShp} : kPgs (SHP g X) 11 := ⟨rfl, rfl, rfl, rfl, rfl, rfl⟩
theorem kPgs_4 {g : Nat → Option Nat} {X : List zShp} : kPgs (SHP g X) 4 := ⟨rfl, rfl, rfl, rfl, rfl, rfl⟩
theorem kTwn_10 {g : Nat → Option Nat} {X : List zShp} : kTwn (SHP g X) 10 := ⟨rfl, rfl, rfl, rfl, rfl, rfl, rfl, rfl, rfl, rfl, rfl⟩
def kPB0 (M : zMem) (a b : Nat) : zMem := kCp (kCp (kCp (kCp (kCp M (a + 1) (b + 1) 10) (a + 2) (b + 2) 10) (a + 3) (b + 3) 10) (a + 4) (b + 4) 10) (a + 5) (b + 5) 10
def kPB (M : zMem) (a b : Nat) : zMem := zms (kPB0 M a b) a 5 (kPB0 M a b b 5)
def kTB0 (M : zMem) (p q : Nat) : zMem := kCp (kCp (kCp (kCp (kPB M (p + 1) (q + 1)) (p + 7) (q + 7) 6) (p + 8) (q + 8) 10) (p + 9) (q + 9) 6) (p + 10) (q + 10) 6
def kTB1 (M : zMem) (p q f : Nat) : zMem := zms M p f (M q f)
def kTB (M : zMem) (p q : Nat) : zMem := kTB1 (kTB1 (kTB1 (kTB1 (kTB0 M p q) p q 5) p q 6) p q 7) p q 8
theorem v_Pages_become_0 (sh : List zShp) (M : zMem) (a b : Nat) (ha : kPgs sh a) (hb : kPgs sh b) (R : zEnd) (h : R none sh (zms (kCp (kCp (kCp (kCp (kCp M (a + 1) (b + 1) 10) (a + 2) (b + 2) 10) (a + 3) (b + 3) 10) (a + 4) (b + 4) 10) (a + 5) (b + 5) 10) a 5 ((kCp (kCp (kCp (kCp (kCp M (a + 1) (b + 1) 10) (a + 2) (b + 2) 10) (a + 3) (b + 3) 10) (a + 4) (b + 4) 10) (a + 5) (b + 5) 10) b 5))) : zRT m_Pages_become 0 0 0 [(0, .ref a), (1, .ref b)] [] sh M R := by
  refine zs_aload_n 1 d_Pages_become_0 rfl (List.mem_of_getElem? (i := 1) rfl) ?_
  refine zs_get d_Pages_become_1 gf_Pages_9 (hb.1) rfl ?_
  refine zs_iconst 0 d_Pages_become_4 (by decide) ?_
  refine zs_aload_n 0 d_Pages_become_5 rfl (List.mem_of_getElem? (i := 0) rfl) ?_
  refine zs_get d_Pages_become_6 gf_Pages_9 (ha.1) rfl ?_
  refine zs_iconst 0 d_Pages_become_9 (by decide) ?_
  refine zs_bipush 10 d_Pages_become_10 (by decide) ?_
  refine zs_copy (st := []) d_Pages_become_12 (by decide +kernel) (by decide +kernel) (hb.2.1) (ha.2.1) (by decide) (by decide) (by decide) (by decide) (by decide) ?_
  refine zs_aload_n 1 d_Pages_become_15 rfl (List.mem_of_getElem? (i := 1) rfl) ?_
  refine zs_get d_Pages_become_16 gf_Pages_15 (hb.1) rfl ?_
  refine zs_iconst 0 d_Pages_become_19 (by decide) ?_
  refine zs_aload_n 0 d_Pages_become_20 rfl (List.mem_of_getElem? (i := 0) rfl) ?_
  refine zs_get d_Pages_become_21 gf_Pages_15 (ha.1) rfl ?_
  refine zs_iconst 0 d_Pages_become_24 (by decide) ?_
  refine zs_bipush 10 d_Pages_become_25 (by decide) ?_
  refine zs_copy (st := []) d_Pages_become_27 (by decide +kernel) (by decide +kernel) (hb.2.2.1) (ha.2.2.1) (by decide) (by decide) (by decide) (by decide) (by decide) ?_
  refine zs_aload_n 1 d_Pages_become_30 rfl (List.mem_of_getElem? (i := 1) rfl) ?_
  refine zs_get d_Pages_become_31 gf_Pages_18 (hb.1) rfl ?_
  refine zs_iconst 0 d_Pages_become_34 (by decide) ?_
  refine zs_aload_n 0 d_Pages_become_35 rfl (List.mem_of_getElem? (i := 0) rfl) ?_
  refine zs_get d_Pages_become_36 gf_Pages_18 (ha.1) rfl ?_
  refine zs_iconst 0 d_Pages_become_39 (by decide) ?_
  refine zs_bipush 10 d_Pages_become_40 (by decide) ?_
  refine zs_copy (st := []) d_Pages_become_42 (by decide +kernel) (by decide +kernel) (hb.2.2.2.1) (ha.2.2.2.1) (by decide) (by decide) (by decide) (by decide) (by decide) ?_
  refine zs_aload_n 1 d_Pages_become_45 rfl (List.mem_of_getElem? (i := 1) rfl) ?_
  refine zs_get d_Pages_become_46 gf_Pages_21 (hb.1) rfl ?_
  refine zs_iconst 0 d_Pages_become_49 (by decide) ?_
  refine zs_aload_n 0 d_Pages_become_50 rfl (List.mem_of_getElem? (i := 0) rfl) ?_
  refine zs_get d_Pages_become_51 gf_Pages_21 (ha.1) rfl ?_
  refine zs_iconst 0 d_Pages_become_54 (by decide) ?_
  refine zs_bipush 10 d_Pages_become_55 (by decide) ?_
  refine zs_copy (st := []) d_Pages_become_57 (by decide +kernel) (by decide +kernel) (hb.2.2.2.2.1) (ha.2.2.2.2.1) (by decide) (by decide) (by decide) (by decide) (by decide) ?_
  refine zs_aload_n 1 d_Pages_become_60 rfl (List.mem_of_getElem? (i := 1) rfl) ?_
  refine zs_get d_Pages_become_61 gf_Pages_24 (hb.1) rfl ?_
  refine zs_iconst 0 d_Pages_become_64 (by decide) ?_
  refine zs_aload_n 0 d_Pages_become_65 rfl (List.mem_of_getElem? (i := 0) rfl) ?_
  refine zs_get d_Pages_become_66 gf_Pages_24 (ha.1) rfl ?_
  refine zs_iconst 0 d_Pages_become_69 (by decide) ?_
  refine zs_bipush 10 d_Pages_become_70 (by decide) ?_
  refine zs_copy (st := []) d_Pages_become_72 (by decide +kernel) (by decide +kernel) (hb.2.2.2.2.2) (ha.2.2.2.2.2) (by decide) (by decide) (by decide) (by decide) (by decide) ?_
  refine zs_aload_n 0 d_Pages_become_75 rfl (List.mem_of_getElem? (i := 0) rfl) ?_
  refine zs_aload_n 1 d_Pages_become_76 rfl (List.mem_of_getElem? (i := 1) rfl) ?_
  refine zs_get d_Pages_become_77 gf_Pages_33 (hb.1) rfl ?_
  refine zs_put d_Pages_become_80 pf_Pages_33 (ha.1) rfl rfl rfl ?_
  exact zs_vret d_Pages_become_83 rfl h
theorem ex_Pages_become (sh : List zShp) (M : zMem) (a b : Nat) (ha : kPgs sh a) (hb : kPgs sh b) : zEx m_Pages_become 0 0 [.ref a, .ref b] sh M (fun v sh1 M1 => none = v ∧ sh = sh1 ∧ kPB M a b = M1) :=
  zEx_of _ (by decide) (by simp [Value.category]) (Nat.le_of_ble_eq_true rfl) rfl (v_Pages_become_0 sh M a b ha hb _ ⟨rfl, rfl, rfl⟩)
theorem v_Town_become_0 (sh : List zShp) (M : zMem) (p q : Nat) (hp : kTwn sh p) (hq : kTwn sh q) (R : zEnd) (h : R none sh (zms (zms (zms (zms (kCp (kCp (kCp (kCp (kPB M (p + 1) (q + 1)) (p + 7) (q + 7) 6) (p + 8) (q + 8) 10) (p + 9) (q + 9) 6) (p + 10) (q + 10) 6) p 5 ((kCp (kCp (kCp (kCp (kPB M (p + 1) (q + 1)) (p + 7) (q + 7) 6) (p + 8) (q + 8) 10) (p + 9) (q + 9) 6) (p + 10) (q + 10) 6) q 5)) p 6 ((zms (kCp (kCp (kCp (kCp (kPB M (p + 1) (q + 1)) (p + 7) (q + 7) 6) (p + 8) (q + 8) 10) (p + 9) (q + 9) 6) (p + 10) (q + 10) 6) p 5 ((kCp (kCp (kCp (kCp (kPB M (p + 1) (q + 1)) (p + 7) (q + 7) 6) (p + 8) (q + 8) 10) (p + 9) (q + 9) 6) (p + 10) (q + 10) 6) q 5)) q 6)) p 7 ((zms (zms (kCp (kCp (kCp (kCp (kPB M (p + 1) (q + 1)) (p + 7) (q + 7) 6) (p + 8) (q + 8) 10) (p + 9) (q + 9) 6) (p + 10) (q + 10) 6) p 5 ((kCp (kCp (kCp (kCp (kPB M (p + 1) (q + 1)) (p + 7) (q + 7) 6) (p + 8) (q + 8) 10) (p + 9) (q + 9) 6) (p + 10) (q + 10) 6) q 5)) p 6 ((zms (kCp (kCp (kCp (kCp (kPB M (p + 1) (q + 1)) (p + 7) (q + 7) 6) (p + 8) (q + 8) 10) (p + 9) (q + 9) 6) (p + 10) (q + 10) 6) p 5 ((kCp (kCp (kCp (kCp (kPB M (p + 1) (q + 1)) (p + 7) (q + 7) 6) (p + 8) (q + 8) 10) (p + 9) (q + 9) 6) (p + 10) (q + 10) 6) q 5)) q 6)) q 7)) p 8 ((zms (zms (zms (kCp (kCp (kCp (kCp (kPB M (p + 1) (q + 1)) (p + 7) (q + 7) 6) (p + 8) (q + 8) 10) (p + 9) (q + 9) 6) (p + 10) (q + 10) 6) p 5 ((kCp (kCp (kCp (kCp (kPB M (p + 1) (q + 1)) (p + 7) (q + 7) 6) (p + 8) (q + 8) 10) (p + 9) (q + 9) 6) (p + 10) (q + 10) 6) q 5)) p 6 ((zms (kCp (kCp (kCp (kCp (kPB M (p + 1) (q + 1)) (p + 7) (q + 7) 6) (p + 8) (q + 8) 10) (p + 9) (q + 9) 6) (p + 10) (q + 10) 6) p 5 ((kCp (kCp (kCp (kCp (kPB M (p + 1) (q + 1)) (p + 7) (q + 7) 6) (p + 8) (q + 8) 10) (p + 9) (q + 9) 6) (p + 10) (q + 10) 6) q 5)) q 6)) p 7 ((zms (zms (kCp (kCp (kCp (kCp (kPB M (p + 1) (q + 1)) (p + 7) (q + 7) 6) (p + 8) (q + 8) 10) (p + 9) (q + 9) 6) (p + 10) (q + 10) 6) p 5 ((kCp (kCp (kCp (kCp (kPB M (p + 1) (q + 1)) (p + 7) (q + 7) 6) (p + 8) (q + 8) 10) (p + 9) (q + 9) 6) (p + 10) (q + 10) 6) q 5)) p 6 ((zms (kCp (kCp (kCp (kCp (kPB M (p + 1) (q + 1)) (p + 7) (q + 7) 6) (p + 8) (q + 8) 10) (p + 9) (q + 9) 6) (p + 10) (q + 10) 6) p 5 ((kCp (kCp (kCp (kCp (kPB M (p + 1) (q + 1)) (p + 7) (q + 7) 6) (p + 8) (q + 8) 10) (p + 9) (q + 9) 6) (p + 10) (q + 10) 6) q 5)) q 6)) q 7)) q 8))) : zRT m_Town_become 0 0 0 [(0, .ref p), (1, .ref q)] [] sh M R := by
  refine zs_aload_n 0 d_Town_become_0 rfl (List.mem_of_getElem? (i := 0) rfl) ?_
  refine zs_get d_Town_become_1 gf_Town_12 (hp.1) rfl ?_
  refine zs_aload_n 1 d_Town_become_4 rfl (List.mem_of_getElem? (i := 1) rfl) ?_
  refine zs_get d_Town_become_5 gf_Town_12 (hq.1) rfl ?_
  refine zs_callV (kc := 0) (ks := 0) (kc1 := 0) (ks1 := 0) (st := []) [.ref (q + 1)] d_Town_become_8 lk_Town_38 ⟨by decide, by decide⟩ rfl (hp.2.1) rfl (Nat.le_of_ble_eq_true rfl) (ex_Pages_become sh M (p + 1) (q + 1) (kTwn_p hp) (kTwn_p hq)) (fun v1 sh1 M1 hR => ?_)
  obtain ⟨rfl, rfl, rfl⟩ := hR
  refine zs_aload_n 1 d_Town_become_11 rfl (List.mem_of_getElem? (i := 1) rfl) ?_
  refine zs_get d_Town_become_12 gf_Town_18 (hq.1) rfl ?_
  refine zs_iconst 0 d_Town_become_15 (by decide) ?_
  refine zs_aload_n 0 d_Town_become_16 rfl (List.mem_of_getElem? (i := 0) rfl) ?_
  refine zs_get d_Town_become_17 gf_Town_18 (hp.1) rfl ?_
  refine zs_iconst 0 d_Town_become_20 (by decide) ?_
  refine zs_bipush 6 d_Town_become_21 (by decide) ?_
  refine zs_copy (st := []) d_Town_become_23 (by decide +kernel) (by decide +kernel) (hq.2.2.2.2.2.2.2.1) (hp.2.2.2.2.2.2.2.1) (by decide) (by decide) (by decide) (by decide) (by decide) ?_
  refine zs_aload_n 1 d_Town_become_26 rfl (List.mem_of_getElem? (i := 1) rfl) ?_
  refine zs_get d_Town_become_27 gf_Town_22 (hq.1) rfl ?_
  refine zs_iconst 0 d_Town_become_30 (by decide) ?_
  refine zs_aload_n 0 d_Town_become_31 rfl (List.mem_of_getElem? (i := 0) rfl) ?_
  refine zs_get d_Town_become_32 gf_Town_22 (hp.1) rfl ?_
  refine zs_iconst 0 d_Town_become_35 (by decide) ?_
  refine zs_bipush 10 d_Town_become_36 (by decide) ?_
  refine zs_copy (st := []) d_Town_become_38 (by decide +kernel) (by decide +kernel) (hq.2.2.2.2.2.2.2.2.1) (hp.2.2.2.2.2.2.2.2.1) (by decide) (by decide) (by decide) (by decide) (by decide) ?_
  refine zs_aload_n 1 d_Town_become_41 rfl (List.mem_of_getElem? (i := 1) rfl) ?_
  refine zs_get d_Town_become_42 gf_Town_25 (hq.1) rfl ?_
  refine zs_iconst 0 d_Town_become_45 (by decide) ?_
  refine zs_aload_n 0 d_Town_become_46 rfl (List.mem_of_getElem? (i := 0) rfl) ?_
  refine zs_get d_Town_become_47 gf_Town_25 (hp.1) rfl ?_
  refine zs_iconst 0 d_Town_become_50 (by decide) ?_
  refine zs_bipush 6 d_Town_become_51 (by decide) ?_
  refine zs_copy (st := []) d_Town_become_53 (by decide +kernel) (by decide +kernel) (hq.2.2.2.2.2.2.2.2.2.1) (hp.2.2.2.2.2.2.2.2.2.1) (by decide) (by decide) (by decide) (by decide) (by decide) ?_
  refine zs_aload_n 1 d_Town_become_56 rfl (List.mem_of_getElem? (i := 1) rfl) ?_
  refine zs_get d_Town_become_57 gf_Town_28 (hq.1) rfl ?_
  refine zs_iconst 0 d_Town_become_60 (by decide) ?_
  refine zs_aload_n 0 d_Town_become_61 rfl (List.mem_of_getElem? (i := 0) rfl) ?_
  refine zs_get d_Town_become_62 gf_Town_28 (hp.1) rfl ?_
  refine zs_iconst 0 d_Town_become_65 (by decide) ?_
  refine zs_bipush 6 d_Town_become_66 (by decide) ?_
  refine zs_copy (st := []) d_Town_become_68 (by decide +kernel) (by decide +kernel) (hq.2.2.2.2.2.2.2.2.2.2) (hp.2.2.2.2.2.2.2.2.2.2) (by decide) (by decide) (by decide) (by decide) (by decide) ?_
  refine zs_aload_n 0 d_Town_become_71 rfl (List.mem_of_getElem? (i := 0) rfl) ?_
  refine zs_aload_n 1 d_Town_become_72 rfl (List.mem_of_getElem? (i := 1) rfl) ?_
  refine zs_get d_Town_become_73 gf_Town_48 (hq.1) rfl ?_
  refine zs_put d_Town_become_76 pf_Town_48 (hp.1) rfl rfl rfl ?_
  refine zs_aload_n 0 d_Town_become_79 rfl (List.mem_of_getElem? (i := 0) rfl) ?_
  refine zs_aload_n 1 d_Town_become_80 rfl (List.mem_of_getElem? (i := 1) rfl) ?_
  refine zs_get d_Town_become_81 gf_Town_31 (hq.1) rfl ?_
  refine zs_put d_Town_become_84 pf_Town_31 (hp.1) rfl rfl rfl ?_
  refine zs_aload_n 0 d_Town_become_87 rfl (List.mem_of_getElem? (i := 0) rfl) ?_
  refine zs_aload_n 1 d_Town_become_88 rfl (List.mem_of_getElem? (i := 1) rfl) ?_
  refine zs_get d_Town_become_89 gf_Town_51 (hq.1) rfl ?_
  refine zs_put d_Town_become_92 pf_Town_51 (hp.1) rfl rfl rfl ?_
  refine zs_aload_n 0 d_Town_become_95 rfl (List.mem_of_getElem? (i := 0) rfl) ?_
  refine zs_aload_n 1 d_Town_become_96 rfl (List.mem_of_getElem? (i := 1) rfl) ?_
  refine zs_get d_Town_become_97 gf_Town_35 (hq.1) rfl ?_
  refine zs_put d_Town_become_100 pf_Town_35 (hp.1) rfl rfl rfl ?_
  exact zs_vret d_Town_become_103 rfl h
theorem ex_Town_become (sh : List zShp) (M : zMem) (p q : Nat) (hp : kTwn sh p) (hq : kTwn sh q) : zEx m_Town_become 0 0 [.ref p, .ref q] sh M (fun v sh1 M1 => none = v ∧ sh = sh1 ∧ kTB M p q = M1) :=
  zEx_of _ (by decide) (by simp [Value.category]) (Nat.le_of_ble_eq_true rfl) rfl (v_Town_become_0 sh M p q hp hq _ ⟨rfl, rfl, rfl⟩)
def kOp (M : zMem) : zMem := zms (zmr (kPB M 11 4) 18 (fun j => if j < 10 then 0 else M 18 j)) 10 5 0
theorem v_Town_open_0 (g : Nat → Option Nat) (X : List zShp) (M : zMem) (R : zEnd) (h : zRT m_Town_open 0 0 10 [(0, .ref 10), (2, .int 0)] [] (SHP g X) (kPB M 11 4) R) : zRT m_Town_open 0 0 0 [(0, .ref 10), (1, .ref 4)] [] (SHP g X) M R := by
  refine zs_aload_n 0 d_Town_open_0 rfl (List.mem_of_getElem? (i := 0) rfl) ?_
  refine zs_get d_Town_open_1 gf_Town_12 (sh_10 g X) rfl ?_
  refine zs_aload_n 1 d_Town_open_4 rfl (List.mem_of_getElem? (i := 1) rfl) ?_
  refine zs_callV (kc := 0) (ks := 0) (kc1 := 0) (ks1 := 0) (st := []) [.ref 4] d_Town_open_5 lk_Town_38 ⟨by decide, by decide⟩ rfl (sh_11 g X) rfl (Nat.le_of_ble_eq_true rfl) (ex_Pages_become (SHP g X) M 11 4 kPgs_11 kPgs_4) (fun v1 sh1 M1 hR => ?_)
  obtain ⟨rfl, rfl, rfl⟩ := hR
  refine zs_iconst 0 d_Town_open_8 (by decide) ?_
  refine zs_istore_n2 2 [1, 2, 0] [(0, .ref 10), (1, .ref 4), (2, .int 0)] d_Town_open_9 rfl (by decide) rfl ?_
  exact zRT_sub [0, 2] rfl h
theorem v_Town_open_10 (g : Nat → Option Nat) (X : List zShp) (M : zMem) (x2 : Int32) (R : zEnd) (h : ((10 ≤ x2) → (R none (SHP g X) (zms M 10 5 0))) ∧ ((¬ 10 ≤ x2) → ((vp_in x2 10) ∧ (zRT m_Town_open 0 0 10 [(0, .ref 10), (2, .int (x2 + 1))] [] (SHP g X) (zms M 18 (Int32.toNatClampNeg x2) 0) R)))) : zRT m_Town_open 0 0 10 [(0, .ref 10), (2, .int x2)] [] (SHP g X) M R := by
  refine zs_iload_n 2 d_Town_open_10 rfl (List.mem_of_getElem? (i := 1) rfl) ?_
  refine zs_bipush 10 d_Town_open_11 (by decide) ?_
  refine zs_icmp_ge 29 d_Town_open_13 (by decide) (fun c1 => ?_) (fun c1 => ?_)
  · replace h := h.1 c1
    refine zs_aload_n 0 d_Town_open_29 rfl (List.mem_of_getElem? (i := 0) rfl) ?_
    refine zs_iconst 0 d_Town_open_30 (by decide) ?_
    refine zs_put d_Town_open_31 pf_Town_48 (sh_10 g X) rfl rfl rfl ?_
    exact zs_vret d_Town_open_34 rfl h
  · replace h := h.2 c1
    refine zs_aload_n 0 d_Town_open_16 rfl (List.mem_of_getElem? (i := 0) rfl) ?_
    refine zs_get d_Town_open_17 gf_Town_22 (sh_10 g X) rfl ?_
    refine zs_iload_n 2 d_Town_open_20 rfl (List.mem_of_getElem? (i := 1) rfl) ?_
    refine zs_iconst 0 d_Town_open_21 (by decide) ?_
    obtain ⟨b2, h⟩ := h
    refine zs_iast d_Town_open_22 (sh_18 g X) b2 ?_
    refine zs_iinc2 1 (x2 + 1) [1, 0] [(0, .ref 10), (2, .int (x2 + 1))] d_Town_open_23 rfl rfl (by decide) rfl ?_
    refine zs_goto 10 d_Town_open_26 (by decide) ?_
    exact h
theorem ex_Town_open (g : Nat → Option Nat) (X : List zShp) (M : zMem) : zEx m_Town_open 0 0 [.ref 10, .ref 4] (SHP g X) M (qV g X (kOp M)) := by
  refine zEx_of _ (by decide) (by simp [Value.category]) (Nat.le_of_ble_eq_true rfl) rfl (v_Town_open_0 g X M _ ?_)
  have L : ∀ n k, k + n = 10 → zRT m_Town_open 0 0 10 [(0, .ref 10), (2, .int (nI k))] [] (SHP g X) (zmr (kPB M 11 4) 18 (fun j => if j < k then 0 else M 18 j)) (qV g X (kOp M)) := by
    intro n
    induction n with
    | zero =>
      intro k hk
      have e : k = 10 := by omega
      subst e
      exact v_Town_open_10 g X _ _ _ ⟨fun _ => ⟨rfl, rfl, rfl⟩, fun h => absurd (nI_le (a := 10) (by omega) (by omega)) h⟩
    | succ n ih =>
      intro k hk
      refine v_Town_open_10 g X _ _ _ ⟨fun h => absurd h (nI_ge (b := 10) (by omega) (by omega)), fun _ => ⟨vp_in_nI (by omega) (by decide), ?_⟩⟩
      rw [nI_1, nI_clamp (by omega), zms_zmr]
      have e : upd (fun j => if j < k then (0 : Int32) else M 18 j) k 0 = (fun j => if j < k + 1 then 0 else M 18 j) := by
        funext j
        show (if j = k then (0 : Int32) else if j < k then 0 else M 18 j) = if j < k + 1 then 0 else M 18 j
        by_cases h1 : j = k
        · rw [if_pos h1, if_pos (by omega)]
        · by_cases h2 : j < k
          · rw [if_neg h1, if_pos h2, if_pos (by omega)]
          · rw [if_neg h1, if_neg h2, if_neg (by omega)]
      rw [e]
      exact ih (k + 1) (by omega)
  have e0 : zmr (kPB M 11 4) 18 (fun j => if j < 0 then 0 else M 18 j) = kPB M 11 4 := by
    have : (fun j => if j < 0 then (0 : Int32) else M 18 j) = (kPB M 11 4) 18 := by
      funext j
      simp [kPB, kPB0, kCp, zms, zmr]
    rw [this, zmr_self]
  have h0 := L 10 0 rfl
  rw [e0] at h0
  exact h0
