/-! the rest of Filling; Bread -/
def kCp (M : zMem) (q o n : Nat) : zMem := zmr M q (va_cpy (M o) (M q) 0 0 n)
theorem kBh_congr {M M1 : zMem} (h : ∀ p, 10 ≤ p → p ≤ 17 → M1 p = M p) : kBh M1 = kBh M := by
  funext b w
  unfold kBh kCN
  rw [h 11 (by decide) (by decide), h 13 (by decide) (by decide), h 14 (by decide) (by decide), h 15 (by decide) (by decide)]
theorem kHO_congr {M M1 : zMem} (h : ∀ p, 10 ≤ p → p ≤ 17 → M1 p = M p) : kHO M1 = kHO M := by
  funext b
  unfold kHO kCN
  rw [h 11 (by decide) (by decide), h 12 (by decide) (by decide)]
theorem kCpl_congr {M M1 : zMem} (h : ∀ p, 10 ≤ p → p ≤ 17 → M1 p = M p) : kCpl M1 = kCpl M := by
  funext b
  unfold kCpl
  rw [h 17 (by decide) (by decide)]
theorem kWP_congr {M M1 : zMem} (h : ∀ p, 10 ≤ p → p ≤ 17 → M1 p = M p) : kWP M1 = kWP M := by
  funext b
  unfold kWP
  rw [kCpl_congr h]
theorem kRch_congr {M M1 : zMem} (h : ∀ p, 10 ≤ p → p ≤ 17 → M1 p = M p) : kRch M1 = kRch M := by
  have e : ∀ n a b, kRcn M1 n a b = kRcn M n a b := by
    intro n
    induction n with
    | zero => intro a b; rfl
    | succ n ih => intro a b; simp only [kRcn, ih, kBh_congr h, kTl, h 10 (by decide) (by decide)]
  funext t
  unfold kRch kDN
  rw [h 10 (by decide) (by decide), e]
theorem kTch_congr {M M1 : zMem} (h : ∀ p, 10 ≤ p → p ≤ 17 → M1 p = M p) : kTch M1 = kTch M := by
  funext b
  unfold kTch
  rw [kHO_congr h, kRch_congr h]
theorem kLwf_congr {M M1 : zMem} (h : ∀ p, 10 ≤ p → p ≤ 17 → M1 p = M p) : kLwf M1 = kLwf M := by
  funext b
  unfold kLwf kCN
  rw [kTch_congr h, kCpl_congr h, h 11 (by decide) (by decide)]
theorem kTnt_congr {M M1 : zMem} (h : ∀ p, 10 ≤ p → p ≤ 17 → M1 p = M p) : kTnt M1 = kTnt M := by
  funext b
  unfold kTnt kCN
  rw [kTch_congr h, h 11 (by decide) (by decide)]
def kFM (M : zMem) (i : Int32) : Int32 := if i < 0 then -6 else if M 24 2 ≤ i then -6 else if kWays M = 0 then -6 else kLO (M 26 (Int32.toNatClampNeg i))
def kFon (M : zMem) (r c : Int32) : Nat → Nat → Bool
  | _, 0 => false
  | k, n + 1 => if hb r (M 25 k) = true ∧ M 26 k &&& (c ^^^ (-1)) = 0 then true else kFon M r c (k + 1) n
def kFo (M : zMem) (r c : Int32) : Bool := kFon M r c 0 (Int32.toNatClampNeg (M 24 2))
def kBA (M : zMem) (t : Int32) : Int32 := kOr (fun k => if kHO M (kRch M t) &&& kCpl M (nI k) = 0 then (if kFo M (kRch M t) (kCpl M (nI k)) = true then 1 <<< (nI k &&& 31) else 0) else 1 <<< (nI k &&& 31)) 6
def kBSn (M : zMem) (r w : Int32) : Nat → Int32
  | 0 => w
  | n + 1 => kBSn M r w n ||| (if hb r (M 25 n) = true then M 26 n else 0)
def kBS (M : zMem) (t : Int32) : Int32 := kWP M (kBSn M (kRch M t) (kHO M (kRch M t)) (Int32.toNatClampNeg (M 24 2)))
def kLayn (M : zMem) (k : Nat) : zMem := zmr M 28 (fun j => if j < k then kLwf M (nI j) else M 28 j)
def kLay (M : zMem) : zMem := kCp (kLayn M 6) 29 18 10
def kSm (f : Nat → Int32) : Nat → Int32
  | 0 => 0
  | n + 1 => kSm f n + f n
def kThs (M : zMem) (men : Int32) : Int32 := kOr (fun k => if hb men (nI k) = true then M 28 k else 0) 6
def kLf (M : zMem) (men : Int32) : Int32 := kSm (fun k => if hb (kThs M men) (nI k) = true then M 29 k else 0) 10
def kMfn (M : zMem) (men : Int32) : Nat → Int32
  | 0 => 0
  | n + 1 => if nI (n + 1) &&& (men ^^^ (-1)) = 0 then mx (kMfn M men n) (bc (nI (n + 1)) - kLf M (nI (n + 1))) else kMfn M men n
def kMf (M : zMem) (men : Int32) : Int32 := bc men - kMfn M men 63
def kLsn (M : zMem) : Nat → Nat → Int32
  | _, 0 => -6
  | k, n + 1 => if bc (nI k) ≤ kLf M (nI k) then kLsn M (k + 1) n else nI k
def kLs (M : zMem) : Int32 := kLsn M 1 63
def kTmn (M : zMem) (x1 x2 x3 : Int32) : Nat → Nat → Int32 × zMem
  | _, 0 => (-6, M)
  | k, n + 1 => if hb (M 28 (Int32.toNatClampNeg x1)) (nI k) = true then (if M 29 k ≤ 0 then kTmn M x1 x2 x3 (k + 1) n else if 1 + kMf (zms M 29 k (M 29 k - 1)) x3 = x2 then (nI k, zms M 29 k (M 29 k - 1)) else kTmn M x1 x2 x3 (k + 1) n) else kTmn M x1 x2 x3 (k + 1) n
def kTm (M : zMem) (x1 x2 : Int32) : Int32 × zMem := kTmn M x1 x2 ((63 : Int32) &&& (-((2 : Int32) <<< (x1 &&& 31)))) 0 10
def kServen : Nat → Nat → Int32 → zMem → zMem
  | _, 0, _, M => M
  | k, n + 1, still, M => kServen (k + 1) n (if (kTm M (nI k) still).1 = -6 then still else still + (-1)) (zms (kTm M (nI k) still).2 30 k (kTm M (nI k) still).1)
def kServe (M : zMem) : zMem := kServen 0 6 (kMf M 63) M
def kEatn (M : zMem) (m : Int32) : Nat → Nat → Bool × zMem
  | _, 0 => (false, M)
  | k, n + 1 => if hb (M 28 (Int32.toNatClampNeg m)) (nI k) = true ∧ ¬ M 29 k ≤ 0 then (true, zms M 29 k (M 29 k - 1)) else kEatn M m (k + 1) n
def kEat (M : zMem) (m : Int32) : Bool × zMem := kEatn M m 0 10
def kLvn : Nat → Nat → Int32 → zMem → Int32 × zMem
  | 0, _, e, M => (e, M)
  | n + 1, x, e, M => kLvn n ((75 * x + 74) % 65537) (if (kEat M (nI ((75 * x + 74) % 65537 % 6))).1 = true then e + 1 else e) (kEat M (nI ((75 * x + 74) % 65537 % 6))).2
def kLive (M : zMem) (s n : Int32) : Int32 × zMem := kLvn (Int32.toNatClampNeg n) (Int32.toNatClampNeg s) 0 M
def kSeed (s n : Int32) : Prop := (∃ a : Nat, a ≤ 9999 ∧ s = nI a) ∧ ∃ b : Nat, b ≤ 99 ∧ n = nI b
section zC4
variable (g : Nat → Option Nat) (X : List zShp) (M : zMem)
theorem v_Filling_firstMan_0 (g : Nat → Option Nat) (X : List zShp) (M : zMem) (x1 : Int32) (R : zEnd) (h : ((x1 < 0) → (R (some (.int (-6))) (SHP g X) M)) ∧ ((¬ x1 < 0) → ((((M 24 2) ≤ x1) → (R (some (.int (-6))) (SHP g X) M)) ∧ ((¬ (M 24 2) ≤ x1) → ((kAsk M) ∧ (((¬ (kWays M) = 0) → ((vp_in x1 4) ∧ (R (some (.int (kLO (M 26 (Int32.toNatClampNeg x1))))) (SHP g X) M))) ∧ (((kWays M) = 0) → (R (some (.int (-6))) (SHP g X) M)))))))) : zRT m_Filling_firstMan 0 0 0 [(0, .ref 24), (1, .int x1)] [] (SHP g X) M R := by
  refine zs_iload_n 1 d_Filling_firstMan_0 rfl (List.mem_of_getElem? (i := 1) rfl) ?_
  refine zs_if_lt 19 d_Filling_firstMan_1 (by decide) (fun c1 => ?_) (fun c1 => ?_)
  · replace h := h.1 c1
    refine zs_bipush (-6) d_Filling_firstMan_19 (by decide) ?_
    exact zs_iret d_Filling_firstMan_21 rfl h
  · replace h := h.2 c1
    refine zs_iload_n 1 d_Filling_firstMan_4 rfl (List.mem_of_getElem? (i := 1) rfl) ?_
    refine zs_aload_n 0 d_Filling_firstMan_5 rfl (List.mem_of_getElem? (i := 0) rfl) ?_
    refine zs_get d_Filling_firstMan_6 gf_Filling_53 (sh_24 g X) rfl ?_
    refine zs_icmp_ge 19 d_Filling_firstMan_9 (by decide) (fun c2 => ?_) (fun c2 => ?_)
    · replace h := h.1 c2
      refine zs_bipush (-6) d_Filling_firstMan_19 (by decide) ?_
      exact zs_iret d_Filling_firstMan_21 rfl h
    · replace h := h.2 c2
      refine zs_aload_n 0 d_Filling_firstMan_12 rfl (List.mem_of_getElem? (i := 0) rfl) ?_
      obtain ⟨p3, h⟩ := h
      refine zs_callV (kc := 0) (ks := 0) (kc1 := 0) (ks1 := 0) (st := []) [] d_Filling_firstMan_13 lk_Filling_79 ⟨by decide, by decide⟩ rfl (sh_24 g X) rfl (Nat.le_of_ble_eq_true rfl) (ex_Filling_ways g X M p3) (fun v3 sh3 M3 hR => ?_)
      obtain ⟨rfl, rfl, rfl⟩ := hR
      refine zs_if_ne 22 d_Filling_firstMan_16 (by decide) (fun c4 => ?_) (fun c4 => ?_)
      · replace h := h.1 c4
        refine zs_aload_n 0 d_Filling_firstMan_22 rfl (List.mem_of_getElem? (i := 0) rfl) ?_
        refine zs_get d_Filling_firstMan_23 gf_Filling_15 (sh_24 g X) rfl ?_
        refine zs_iload_n 1 d_Filling_firstMan_26 rfl (List.mem_of_getElem? (i := 1) rfl) ?_
        obtain ⟨b5, h⟩ := h
        refine zs_iald d_Filling_firstMan_27 (sh_26 g X) b5 ?_
        refine zs_callSN (kc := 0) (ks := 0) (kc1 := 0) (ks1 := 0) (st := []) [.int (M 26 (Int32.toNatClampNeg x1))] d_Filling_firstMan_28 lk_Filling_83 ⟨by decide, by decide⟩ rfl (Nat.le_of_ble_eq_true rfl) (ex_O_leastOf g X M (M 26 (Int32.toNatClampNeg x1))) (fun v6 sh6 M6 hR => ?_)
        obtain ⟨rfl, rfl, rfl⟩ := hR
        exact zs_iret d_Filling_firstMan_31 rfl h
      · replace h := h.2 c4
        refine zs_bipush (-6) d_Filling_firstMan_19 (by decide) ?_
        exact zs_iret d_Filling_firstMan_21 rfl h
theorem ex_Filling_firstMan (i : Int32) (hh : kAsk M) : zEx m_Filling_firstMan 0 0 [.ref 24, .int i] (SHP g X) M (qF g X (kFM M i) M) := by
  refine zEx_of _ (by decide) (by simp [Value.category]) (Nat.le_of_ble_eq_true rfl) rfl (v_Filling_firstMan_0 g X M i _ ⟨fun h => qF_i (by simp [kFM, h]) rfl, fun h => ⟨fun h2 => qF_i (by simp [kFM, h, h2]) rfl, fun h2 => ⟨hh, fun h3 => ⟨?_, qF_i (by simp [kFM, h, h2, h3]) rfl⟩, fun h3 => qF_i (by simp [kFM, h, h2, h3]) rfl⟩⟩⟩)
  obtain ⟨a, ha, ea⟩ := hh
  obtain ⟨j, hj, e⟩ := nI_of h
  subst e
  rw [ea, nI_leI (by omega) hj] at h2
  exact vp_in_nI (by omega) (by decide)
theorem v_Filling_isForced_0 (g : Nat → Option Nat) (X : List zShp) (M : zMem) (x1 x2 : Int32) (R : zEnd) (h : zRT m_Filling_isForced 0 0 2 [(0, .ref 24), (1, .int x1), (2, .int x2), (3, .int 0)] [] (SHP g X) M R) : zRT m_Filling_isForced 0 0 0 [(0, .ref 24), (1, .int x1), (2, .int x2)] [] (SHP g X) M R := by
  refine zs_iconst 0 d_Filling_isForced_0 (by decide) ?_
  refine zs_istore_n2 3 [1, 2, 3, 0] [(0, .ref 24), (1, .int x1), (2, .int x2), (3, .int 0)] d_Filling_isForced_1 rfl (by decide) rfl ?_
  exact h
theorem v_Filling_isForced_2 (g : Nat → Option Nat) (X : List zShp) (M : zMem) (x1 x2 x3 : Int32) (R : zEnd) (h : (((M 24 2) ≤ x3) → (R (some (.int 0)) (SHP g X) M)) ∧ ((¬ (M 24 2) ≤ x3) → ((vp_in x3 4) ∧ ((((hb x1 (M 25 (Int32.toNatClampNeg x3))) = false) → (zRT m_Filling_isForced 0 0 2 [(0, .ref 24), (1, .int x1), (2, .int x2), (3, .int (x3 + 1))] [] (SHP g X) M R)) ∧ (((hb x1 (M 25 (Int32.toNatClampNeg x3))) = true) → (((¬ ((M 26 (Int32.toNatClampNeg x3)) &&& (x2 ^^^ (-1))) = 0) → (zRT m_Filling_isForced 0 0 2 [(0, .ref 24), (1, .int x1), (2, .int x2), (3, .int (x3 + 1))] [] (SHP g X) M R)) ∧ ((((M 26 (Int32.toNatClampNeg x3)) &&& (x2 ^^^ (-1))) = 0) → (R (some (.int 1)) (SHP g X) M)))))))) : zRT m_Filling_isForced 0 0 2 [(0, .ref 24), (1, .int x1), (2, .int x2), (3, .int x3)] [] (SHP g X) M R := by
  refine zs_iload_n 3 d_Filling_isForced_2 rfl (List.mem_of_getElem? (i := 3) rfl) ?_
  refine zs_aload_n 0 d_Filling_isForced_3 rfl (List.mem_of_getElem? (i := 0) rfl) ?_
  refine zs_get d_Filling_isForced_4 gf_Filling_53 (sh_24 g X) rfl ?_
  refine zs_icmp_ge 44 d_Filling_isForced_7 (by decide) (fun c1 => ?_) (fun c1 => ?_)
  · replace h := h.1 c1
    refine zs_iconst 0 d_Filling_isForced_44 (by decide) ?_
    exact zs_zret (by decide) d_Filling_isForced_45 rfl h
  · replace h := h.2 c1
    refine zs_iload_n 1 d_Filling_isForced_10 rfl (List.mem_of_getElem? (i := 1) rfl) ?_
    refine zs_aload_n 0 d_Filling_isForced_11 rfl (List.mem_of_getElem? (i := 0) rfl) ?_
    refine zs_get d_Filling_isForced_12 gf_Filling_9 (sh_24 g X) rfl ?_
    refine zs_iload_n 3 d_Filling_isForced_15 rfl (List.mem_of_getElem? (i := 3) rfl) ?_
    obtain ⟨b2, h⟩ := h
    refine zs_iald d_Filling_isForced_16 (sh_25 g X) b2 ?_
    refine zs_callSN (kc := 0) (ks := 0) (kc1 := 0) (ks1 := 0) (st := []) [.int x1, .int (M 25 (Int32.toNatClampNeg x3))] d_Filling_isForced_17 lk_Filling_70 ⟨by decide, by decide⟩ rfl (Nat.le_of_ble_eq_true rfl) (ex_O_has g X M x1 (M 25 (Int32.toNatClampNeg x3))) (fun v3 sh3 M3 hR => ?_)
    obtain ⟨rfl, rfl, rfl⟩ := hR
    refine zs_if_eq 38 d_Filling_isForced_20 (by decide) (fun c4 => ?_) (fun c4 => ?_)
    · replace h := h.1 (bI_0 c4)
      refine zs_iinc2 3 (x3 + 1) [1, 2, 3, 0] [(0, .ref 24), (1, .int x1), (2, .int x2), (3, .int (x3 + 1))] d_Filling_isForced_38 rfl rfl (by decide) rfl ?_
      refine zs_goto 2 d_Filling_isForced_41 (by decide) ?_
      exact h
    · replace h := h.2 (bI_1 c4)
      refine zs_aload_n 0 d_Filling_isForced_23 rfl (List.mem_of_getElem? (i := 0) rfl) ?_
      refine zs_get d_Filling_isForced_24 gf_Filling_15 (sh_24 g X) rfl ?_
      refine zs_iload_n 3 d_Filling_isForced_27 rfl (List.mem_of_getElem? (i := 3) rfl) ?_
      refine zs_iald d_Filling_isForced_28 (sh_26 g X) b2 ?_
      refine zs_iload_n 2 d_Filling_isForced_29 rfl (List.mem_of_getElem? (i := 2) rfl) ?_
      refine zs_iconst (-1) d_Filling_isForced_30 (by decide) ?_
      refine zs_ixor d_Filling_isForced_31 ?_
      refine zs_iand d_Filling_isForced_32 ?_
      refine zs_if_ne 38 d_Filling_isForced_33 (by decide) (fun c5 => ?_) (fun c5 => ?_)
      · replace h := h.1 c5
        refine zs_iinc2 3 (x3 + 1) [1, 2, 3, 0] [(0, .ref 24), (1, .int x1), (2, .int x2), (3, .int (x3 + 1))] d_Filling_isForced_38 rfl rfl (by decide) rfl ?_
        refine zs_goto 2 d_Filling_isForced_41 (by decide) ?_
        exact h
      · replace h := h.2 c5
        refine zs_iconst 1 d_Filling_isForced_36 (by decide) ?_
        exact zs_zret (by decide) d_Filling_isForced_37 rfl h
theorem ex_Filling_isForced (r c : Int32) (hh : kAsk M) : zEx m_Filling_isForced 0 0 [.ref 24, .int r, .int c] (SHP g X) M (qF g X (bI (kFo M r c)) M) := by
  refine zEx_of _ (by decide) (by simp [Value.category]) (Nat.le_of_ble_eq_true rfl) rfl (v_Filling_isForced_0 g X M r c _ ?_)
  obtain ⟨a, ha, ea⟩ := hh
  have L : ∀ n k, k + n = a → zRT m_Filling_isForced 0 0 2 [(0, .ref 24), (1, .int r), (2, .int c), (3, .int (nI k))] [] (SHP g X) M (qF g X (bI (kFon M r c k n)) M) := by
    intro n
    induction n with
    | zero =>
      intro k hk
      exact v_Filling_isForced_2 g X _ _ _ _ _ ⟨fun _ => qF_i rfl rfl, fun h => absurd (by rw [ea]; exact nI_le (by omega) (by omega)) h⟩
    | succ n ih =>
      intro k hk
      refine v_Filling_isForced_2 g X _ _ _ _ _ ⟨fun h => absurd h (by rw [ea]; exact nI_ge (by omega) (by omega)), fun _ => ⟨vp_in_nI (by omega) (by decide), ?_⟩⟩
      rw [nI_1, nI_clamp (by omega)]
      have ih := ih (k + 1) (by omega)
      refine ⟨fun h => ?_, fun h => ⟨fun h2 => ?_, fun h2 => qF_i (by rw [kFon, if_pos ⟨h, h2⟩]; rfl) rfl⟩⟩
      · rw [kFon, if_neg (fun q => by rw [h] at q; exact absurd q.1 (by decide))]
        exact ih
      · rw [kFon, if_neg (fun q => h2 q.2)]
        exact ih
  have ew : kFo M r c = kFon M r c 0 a := by unfold kFo; rw [ea, nI_clamp (by omega)]
  rw [ew]
  exact L a 0 (by omega)
theorem v_Filling_barredInAll_0 (g : Nat → Option Nat) (X : List zShp) (M : zMem) (x2 : Int32) (R : zEnd) (h : (kCnt M ∧ kDpt M) ∧ ((kCnt M) ∧ (zRT m_Filling_barredInAll 0 0 22 [(0, .ref 24), (1, .ref 10), (3, .int (kRch M x2)), (4, .int (kHO M (kRch M x2))), (5, .int 0), (6, .int 0)] [] (SHP g X) M R))) : zRT m_Filling_barredInAll 0 0 0 [(0, .ref 24), (1, .ref 10), (2, .int x2)] [] (SHP g X) M R := by
  refine zs_aload_n 1 d_Filling_barredInAll_0 rfl (List.mem_of_getElem? (i := 1) rfl) ?_
  refine zs_iload_n 2 d_Filling_barredInAll_1 rfl (List.mem_of_getElem? (i := 2) rfl) ?_
  obtain ⟨p1, h⟩ := h
  refine zs_callV (kc := 0) (ks := 0) (kc1 := 0) (ks1 := 0) (st := []) [.int x2] d_Filling_barredInAll_2 lk_Filling_39 ⟨by decide, by decide⟩ rfl (sh_10 g X) rfl (Nat.le_of_ble_eq_true rfl) (ex_Town_reach g X M x2 p1) (fun v1 sh1 M1 hR => ?_)
  obtain ⟨rfl, rfl, rfl⟩ := hR
  refine zs_istore_n2 3 [1, 2, 3, 0] [(0, .ref 24), (1, .ref 10), (2, .int x2), (3, .int (kRch M x2))] d_Filling_barredInAll_5 rfl (by decide) rfl ?_
  refine zs_aload_n 1 d_Filling_barredInAll_6 rfl (List.mem_of_getElem? (i := 1) rfl) ?_
  refine zs_get d_Filling_barredInAll_7 gf_Filling_18 (sh_10 g X) rfl ?_
  refine zs_iload_n 3 d_Filling_barredInAll_10 rfl (List.mem_of_getElem? (i := 3) rfl) ?_
  obtain ⟨p2, h⟩ := h
  refine zs_callV (kc := 0) (ks := 0) (kc1 := 0) (ks1 := 0) (st := []) [.int (kRch M x2)] d_Filling_barredInAll_11 lk_Filling_67 ⟨by decide, by decide⟩ rfl (sh_11 g X) rfl (Nat.le_of_ble_eq_true rfl) (ex_Pages_handsOf g X M (kRch M x2) p2) (fun v2 sh2 M2 hR => ?_)
  obtain ⟨rfl, rfl, rfl⟩ := hR
  refine zs_istore2 [1, 2, 3, 4, 0] [(0, .ref 24), (1, .ref 10), (2, .int x2), (3, .int (kRch M x2)), (4, .int (kHO M (kRch M x2)))] d_Filling_barredInAll_14 (by decide) rfl ?_
  refine zs_iconst 0 d_Filling_barredInAll_16 (by decide) ?_
  refine zs_istore2 [1, 2, 3, 4, 5, 0] [(0, .ref 24), (1, .ref 10), (2, .int x2), (3, .int (kRch M x2)), (4, .int (kHO M (kRch M x2))), (5, .int 0)] d_Filling_barredInAll_17 (by decide) rfl ?_
  refine zs_iconst 0 d_Filling_barredInAll_19 (by decide) ?_
  refine zs_istore2 [1, 2, 3, 4, 5, 6, 0] [(0, .ref 24), (1, .ref 10), (2, .int x2), (3, .int (kRch M x2)), (4, .int (kHO M (kRch M x2))), (5, .int 0), (6, .int 0)] d_Filling_barredInAll_20 (by decide) rfl ?_
  exact zRT_sub [0, 1, 3, 4, 5, 6] rfl h
theorem v_Filling_barredInAll_22 (g : Nat → Option Nat) (X : List zShp) (M : zMem) (x3 x4 x5 x6 : Int32) (R : zEnd) (h : ((6 ≤ x6) → (R (some (.int x5)) (SHP g X) M)) ∧ ((¬ 6 ≤ x6) → ((vp_in x6 6) ∧ (((¬ (x4 &&& (kCpl M x6)) = 0) → (zRT m_Filling_barredInAll 0 0 22 [(0, .ref 24), (1, .ref 10), (3, .int x3), (4, .int x4), (5, .int (x5 ||| ((1 : Int32) <<< (x6 &&& 31)))), (6, .int (x6 + 1))] [] (SHP g X) M R)) ∧ (((x4 &&& (kCpl M x6)) = 0) → ((kAsk M) ∧ ((((kFo M x3 (kCpl M x6)) = false) → (zRT m_Filling_barredInAll 0 0 22 [(0, .ref 24), (1, .ref 10), (3, .int x3), (4, .int x4), (5, .int x5), (6, .int (x6 + 1))] [] (SHP g X) M R)) ∧ (((kFo M x3 (kCpl M x6)) = true) → (zRT m_Filling_barredInAll 0 0 22 [(0, .ref 24), (1, .ref 10), (3, .int x3), (4, .int x4), (5, .int (x5 ||| ((1 : Int32) <<< (x6 &&& 31)))), (6, .int (x6 + 1))] [] (SHP g X) M R))))))))) : zRT m_Filling_barredInAll 0 0 22 [(0, .ref 24), (1, .ref 10), (3, .int x3), (4, .int x4), (5, .int x5), (6, .int x6)] [] (SHP g X) M R := by
  refine zs_iload d_Filling_barredInAll_22 (List.mem_of_getElem? (i := 5) rfl) ?_
  refine zs_bipush 6 d_Filling_barredInAll_24 (by decide) ?_
  refine zs_icmp_ge 70 d_Filling_barredInAll_26 (by decide) (fun c1 => ?_) (fun c1 => ?_)
  · replace h := h.1 c1
    refine zs_iload d_Filling_barredInAll_70 (List.mem_of_getElem? (i := 4) rfl) ?_
    exact zs_iret d_Filling_barredInAll_72 rfl h
  · replace h := h.2 c1
    refine zs_aload_n 1 d_Filling_barredInAll_29 rfl (List.mem_of_getElem? (i := 1) rfl) ?_
    refine zs_iload d_Filling_barredInAll_30 (List.mem_of_getElem? (i := 5) rfl) ?_
    obtain ⟨p2, h⟩ := h
    refine zs_callV (kc := 0) (ks := 0) (kc1 := 0) (ks1 := 0) (st := []) [.int x6] d_Filling_barredInAll_32 lk_Filling_46 ⟨by decide, by decide⟩ rfl (sh_10 g X) rfl (Nat.le_of_ble_eq_true rfl) (ex_Town_couple g X M x6 p2) (fun v2 sh2 M2 hR => ?_)
    obtain ⟨rfl, rfl, rfl⟩ := hR
    refine zs_istore2 [1, 2, 3, 4, 5, 6, 0] [(0, .ref 24), (1, .ref 10), (3, .int x3), (4, .int x4), (5, .int x5), (6, .int x6), (7, .int (kCpl M x6))] d_Filling_barredInAll_35 (by decide) rfl ?_
    refine zs_iload d_Filling_barredInAll_37 (List.mem_of_getElem? (i := 3) rfl) ?_
    refine zs_iload d_Filling_barredInAll_39 (List.mem_of_getElem? (i := 6) rfl) ?_
    refine zs_iand d_Filling_barredInAll_41 ?_
    refine zs_if_ne 55 d_Filling_barredInAll_42 (by decide) (fun c3 => ?_) (fun c3 => ?_)
    · replace h := h.1 c3
      refine zs_iload d_Filling_barredInAll_55 (List.mem_of_getElem? (i := 4) rfl) ?_
      refine zs_iconst 1 d_Filling_barredInAll_57 (by decide) ?_
      refine zs_iload d_Filling_barredInAll_58 (List.mem_of_getElem? (i := 5) rfl) ?_
      refine zs_ishl d_Filling_barredInAll_60 ?_
      refine zs_ior d_Filling_barredInAll_61 ?_
      refine zs_istore2 [1, 2, 3, 4, 0, 5, 6] [(0, .ref 24), (1, .ref 10), (3, .int x3), (4, .int x4), (5, .int (x5 ||| ((1 : Int32) <<< (x6 &&& 31)))), (6, .int x6), (7, .int (kCpl M x6))] d_Filling_barredInAll_62 (by decide) rfl ?_
      refine zs_iinc2 5 (x6 + 1) [1, 2, 3, 4, 5, 0, 6] [(0, .ref 24), (1, .ref 10), (3, .int x3), (4, .int x4), (5, .int (x5 ||| ((1 : Int32) <<< (x6 &&& 31)))), (6, .int (x6 + 1)), (7, .int (kCpl M x6))] d_Filling_barredInAll_64 rfl rfl (by decide) rfl ?_
      refine zs_goto 22 d_Filling_barredInAll_67 (by decide) ?_
      exact zRT_sub [0, 1, 2, 3, 4, 5] rfl h
    · replace h := h.2 c3
      refine zs_aload_n 0 d_Filling_barredInAll_45 rfl (List.mem_of_getElem? (i := 0) rfl) ?_
      refine zs_iload_n 3 d_Filling_barredInAll_46 rfl (List.mem_of_getElem? (i := 2) rfl) ?_
      refine zs_iload d_Filling_barredInAll_47 (List.mem_of_getElem? (i := 6) rfl) ?_
      obtain ⟨p4, h⟩ := h
      refine zs_callV (kc := 0) (ks := 0) (kc1 := 0) (ks1 := 0) (st := []) [.int x3, .int (kCpl M x6)] d_Filling_barredInAll_49 lk_Filling_86 ⟨by decide, by decide⟩ rfl (sh_24 g X) rfl (Nat.le_of_ble_eq_true rfl) (ex_Filling_isForced g X M x3 (kCpl M x6) p4) (fun v4 sh4 M4 hR => ?_)
      obtain ⟨rfl, rfl, rfl⟩ := hR
      refine zs_if_eq 64 d_Filling_barredInAll_52 (by decide) (fun c5 => ?_) (fun c5 => ?_)
      · replace h := h.1 (bI_0 c5)
        refine zs_iinc2 5 (x6 + 1) [1, 2, 3, 4, 5, 0, 6] [(0, .ref 24), (1, .ref 10), (3, .int x3), (4, .int x4), (5, .int x5), (6, .int (x6 + 1)), (7, .int (kCpl M x6))] d_Filling_barredInAll_64 rfl rfl (by decide) rfl ?_
        refine zs_goto 22 d_Filling_barredInAll_67 (by decide) ?_
        exact zRT_sub [0, 1, 2, 3, 4, 5] rfl h
      · replace h := h.2 (bI_1 c5)
        refine zs_iload d_Filling_barredInAll_55 (List.mem_of_getElem? (i := 4) rfl) ?_
        refine zs_iconst 1 d_Filling_barredInAll_57 (by decide) ?_
        refine zs_iload d_Filling_barredInAll_58 (List.mem_of_getElem? (i := 5) rfl) ?_
        refine zs_ishl d_Filling_barredInAll_60 ?_
        refine zs_ior d_Filling_barredInAll_61 ?_
        refine zs_istore2 [1, 2, 3, 4, 0, 5, 6] [(0, .ref 24), (1, .ref 10), (3, .int x3), (4, .int x4), (5, .int (x5 ||| ((1 : Int32) <<< (x6 &&& 31)))), (6, .int x6), (7, .int (kCpl M x6))] d_Filling_barredInAll_62 (by decide) rfl ?_
        refine zs_iinc2 5 (x6 + 1) [1, 2, 3, 4, 5, 0, 6] [(0, .ref 24), (1, .ref 10), (3, .int x3), (4, .int x4), (5, .int (x5 ||| ((1 : Int32) <<< (x6 &&& 31)))), (6, .int (x6 + 1)), (7, .int (kCpl M x6))] d_Filling_barredInAll_64 rfl rfl (by decide) rfl ?_
        refine zs_goto 22 d_Filling_barredInAll_67 (by decide) ?_
        exact zRT_sub [0, 1, 2, 3, 4, 5] rfl h
theorem ex_Filling_barredInAll (t : Int32) (hh : kCnt M ∧ kDpt M ∧ kAsk M) : zEx m_Filling_barredInAll 0 0 [.ref 24, .ref 10, .int t] (SHP g X) M (qF g X (kBA M t) M) := by
  refine zEx_of _ (by decide) (by simp [Value.category]) (Nat.le_of_ble_eq_true rfl) rfl (v_Filling_barredInAll_0 g X M t _ ⟨⟨hh.1, hh.2.1⟩, hh.1, ?_⟩)
  have L : ∀ n k, k + n = 6 → zRT m_Filling_barredInAll 0 0 22 [(0, .ref 24), (1, .ref 10), (3, .int (kRch M t)), (4, .int (kHO M (kRch M t))), (5, .int (kOr (fun k => if kHO M (kRch M t) &&& kCpl M (nI k) = 0 then (if kFo M (kRch M t) (kCpl M (nI k)) = true then 1 <<< (nI k &&& 31) else 0) else 1 <<< (nI k &&& 31)) k)), (6, .int (nI k))] [] (SHP g X) M (qF g X (kBA M t) M) := by
    intro n
    induction n with
    | zero =>
      intro k hk
      have e : k = 6 := by omega
      subst e
      exact v_Filling_barredInAll_22 g X _ _ _ _ _ _ ⟨fun _ => qF_i rfl rfl, fun h => absurd (nI_le (a := 6) (by omega) (by omega)) h⟩
    | succ n ih =>
      intro k hk
      refine v_Filling_barredInAll_22 g X _ _ _ _ _ _ ⟨fun h => absurd h (nI_ge (b := 6) (by omega) (by omega)), fun _ => ⟨vp_in_nI (by omega) (by decide), ?_⟩⟩
      rw [nI_1]
      have ih := ih (k + 1) (by omega)
      refine ⟨fun h => ?_, fun h => ⟨hh.2.2, fun h2 => ?_, fun h2 => ?_⟩⟩
      · simpa [kOr, h] using ih
      · simpa [kOr, h, h2] using ih
      · simpa [kOr, h, h2] using ih
  exact L 6 0 rfl
theorem v_Filling_barredInSome_0 (g : Nat → Option Nat) (X : List zShp) (M : zMem) (x2 : Int32) (R : zEnd) (h : (kCnt M ∧ kDpt M) ∧ ((kCnt M) ∧ (zRT m_Filling_barredInSome 0 0 19 [(0, .ref 24), (1, .ref 10), (3, .int (kRch M x2)), (4, .int (kHO M (kRch M x2))), (5, .int 0)] [] (SHP g X) M R))) : zRT m_Filling_barredInSome 0 0 0 [(0, .ref 24), (1, .ref 10), (2, .int x2)] [] (SHP g X) M R := by
  refine zs_aload_n 1 d_Filling_barredInSome_0 rfl (List.mem_of_getElem? (i := 1) rfl) ?_
  refine zs_iload_n 2 d_Filling_barredInSome_1 rfl (List.mem_of_getElem? (i := 2) rfl) ?_
  obtain ⟨p1, h⟩ := h
  refine zs_callV (kc := 0) (ks := 0) (kc1 := 0) (ks1 := 0) (st := []) [.int x2] d_Filling_barredInSome_2 lk_Filling_39 ⟨by decide, by decide⟩ rfl (sh_10 g X) rfl (Nat.le_of_ble_eq_true rfl) (ex_Town_reach g X M x2 p1) (fun v1 sh1 M1 hR => ?_)
  obtain ⟨rfl, rfl, rfl⟩ := hR
  refine zs_istore_n2 3 [1, 2, 3, 0] [(0, .ref 24), (1, .ref 10), (2, .int x2), (3, .int (kRch M x2))] d_Filling_barredInSome_5 rfl (by decide) rfl ?_
  refine zs_aload_n 1 d_Filling_barredInSome_6 rfl (List.mem_of_getElem? (i := 1) rfl) ?_
  refine zs_get d_Filling_barredInSome_7 gf_Filling_18 (sh_10 g X) rfl ?_
  refine zs_iload_n 3 d_Filling_barredInSome_10 rfl (List.mem_of_getElem? (i := 3) rfl) ?_
  obtain ⟨p2, h⟩ := h
  refine zs_callV (kc := 0) (ks := 0) (kc1 := 0) (ks1 := 0) (st := []) [.int (kRch M x2)] d_Filling_barredInSome_11 lk_Filling_67 ⟨by decide, by decide⟩ rfl (sh_11 g X) rfl (Nat.le_of_ble_eq_true rfl) (ex_Pages_handsOf g X M (kRch M x2) p2) (fun v2 sh2 M2 hR => ?_)
  obtain ⟨rfl, rfl, rfl⟩ := hR
  refine zs_istore2 [1, 2, 3, 4, 0] [(0, .ref 24), (1, .ref 10), (2, .int x2), (3, .int (kRch M x2)), (4, .int (kHO M (kRch M x2)))] d_Filling_barredInSome_14 (by decide) rfl ?_
  refine zs_iconst 0 d_Filling_barredInSome_16 (by decide) ?_
  refine zs_istore2 [1, 2, 3, 4, 5, 0] [(0, .ref 24), (1, .ref 10), (2, .int x2), (3, .int (kRch M x2)), (4, .int (kHO M (kRch M x2))), (5, .int 0)] d_Filling_barredInSome_17 (by decide) rfl ?_
  exact zRT_sub [0, 1, 3, 4, 5] rfl h
theorem v_Filling_barredInSome_19 (g : Nat → Option Nat) (X : List zShp) (M : zMem) (x3 x4 x5 : Int32) (R : zEnd) (h : (((M 24 2) ≤ x5) → (R (some (.int (kWP M x4))) (SHP g X) M)) ∧ ((¬ (M 24 2) ≤ x5) → ((vp_in x5 4) ∧ ((((hb x3 (M 25 (Int32.toNatClampNeg x5))) = false) → (zRT m_Filling_barredInSome 0 0 19 [(0, .ref 24), (1, .ref 10), (3, .int x3), (4, .int x4), (5, .int (x5 + 1))] [] (SHP g X) M R)) ∧ (((hb x3 (M 25 (Int32.toNatClampNeg x5))) = true) → (zRT m_Filling_barredInSome 0 0 19 [(0, .ref 24), (1, .ref 10), (3, .int x3), (4, .int (x4 ||| (M 26 (Int32.toNatClampNeg x5)))), (5, .int (x5 + 1))] [] (SHP g X) M R)))))) : zRT m_Filling_barredInSome 0 0 19 [(0, .ref 24), (1, .ref 10), (3, .int x3), (4, .int x4), (5, .int x5)] [] (SHP g X) M R := by
  refine zs_iload d_Filling_barredInSome_19 (List.mem_of_getElem? (i := 4) rfl) ?_
  refine zs_aload_n 0 d_Filling_barredInSome_21 rfl (List.mem_of_getElem? (i := 0) rfl) ?_
  refine zs_get d_Filling_barredInSome_22 gf_Filling_53 (sh_24 g X) rfl ?_
  refine zs_icmp_ge 60 d_Filling_barredInSome_25 (by decide) (fun c1 => ?_) (fun c1 => ?_)
  · replace h := h.1 c1
    refine zs_aload_n 1 d_Filling_barredInSome_60 rfl (List.mem_of_getElem? (i := 1) rfl) ?_
    refine zs_iload d_Filling_barredInSome_61 (List.mem_of_getElem? (i := 3) rfl) ?_
    refine zs_callV (kc := 0) (ks := 0) (kc1 := 0) (ks1 := 0) (st := []) [.int x4] d_Filling_barredInSome_63 lk_Filling_89 ⟨by decide, by decide⟩ rfl (sh_10 g X) rfl (Nat.le_of_ble_eq_true rfl) (ex_Town_withPartners g X M x4) (fun v2 sh2 M2 hR => ?_)
    obtain ⟨rfl, rfl, rfl⟩ := hR
    exact zs_iret d_Filling_barredInSome_66 rfl h
  · replace h := h.2 c1
    refine zs_iload_n 3 d_Filling_barredInSome_28 rfl (List.mem_of_getElem? (i := 2) rfl) ?_
    refine zs_aload_n 0 d_Filling_barredInSome_29 rfl (List.mem_of_getElem? (i := 0) rfl) ?_
    refine zs_get d_Filling_barredInSome_30 gf_Filling_9 (sh_24 g X) rfl ?_
    refine zs_iload d_Filling_barredInSome_33 (List.mem_of_getElem? (i := 4) rfl) ?_
    obtain ⟨b3, h⟩ := h
    refine zs_iald d_Filling_barredInSome_35 (sh_25 g X) b3 ?_
    refine zs_callSN (kc := 0) (ks := 0) (kc1 := 0) (ks1 := 0) (st := []) [.int x3, .int (M 25 (Int32.toNatClampNeg x5))] d_Filling_barredInSome_36 lk_Filling_70 ⟨by decide, by decide⟩ rfl (Nat.le_of_ble_eq_true rfl) (ex_O_has g X M x3 (M 25 (Int32.toNatClampNeg x5))) (fun v4 sh4 M4 hR => ?_)
    obtain ⟨rfl, rfl, rfl⟩ := hR
    refine zs_if_eq 54 d_Filling_barredInSome_39 (by decide) (fun c5 => ?_) (fun c5 => ?_)
    · replace h := h.1 (bI_0 c5)
      refine zs_iinc2 4 (x5 + 1) [1, 2, 3, 4, 0] [(0, .ref 24), (1, .ref 10), (3, .int x3), (4, .int x4), (5, .int (x5 + 1))] d_Filling_barredInSome_54 rfl rfl (by decide) rfl ?_
      refine zs_goto 19 d_Filling_barredInSome_57 (by decide) ?_
      exact h
    · replace h := h.2 (bI_1 c5)
      refine zs_iload d_Filling_barredInSome_42 (List.mem_of_getElem? (i := 3) rfl) ?_
      refine zs_aload_n 0 d_Filling_barredInSome_44 rfl (List.mem_of_getElem? (i := 0) rfl) ?_
      refine zs_get d_Filling_barredInSome_45 gf_Filling_15 (sh_24 g X) rfl ?_
      refine zs_iload d_Filling_barredInSome_48 (List.mem_of_getElem? (i := 4) rfl) ?_
      refine zs_iald d_Filling_barredInSome_50 (sh_26 g X) b3 ?_
      refine zs_ior d_Filling_barredInSome_51 ?_
      refine zs_istore2 [1, 2, 3, 0, 4] [(0, .ref 24), (1, .ref 10), (3, .int x3), (4, .int (x4 ||| (M 26 (Int32.toNatClampNeg x5)))), (5, .int x5)] d_Filling_barredInSome_52 (by decide) rfl ?_
      refine zs_iinc2 4 (x5 + 1) [1, 2, 3, 4, 0] [(0, .ref 24), (1, .ref 10), (3, .int x3), (4, .int (x4 ||| (M 26 (Int32.toNatClampNeg x5)))), (5, .int (x5 + 1))] d_Filling_barredInSome_54 rfl rfl (by decide) rfl ?_
      refine zs_goto 19 d_Filling_barredInSome_57 (by decide) ?_
      exact h
theorem ex_Filling_barredInSome (t : Int32) (hh : kCnt M ∧ kDpt M ∧ kAsk M) : zEx m_Filling_barredInSome 0 0 [.ref 24, .ref 10, .int t] (SHP g X) M (qF g X (kBS M t) M) := by
  refine zEx_of _ (by decide) (by simp [Value.category]) (Nat.le_of_ble_eq_true rfl) rfl (v_Filling_barredInSome_0 g X M t _ ⟨⟨hh.1, hh.2.1⟩, hh.1, ?_⟩)
  obtain ⟨a, ha, ea⟩ := hh.2.2
  have ew : kBS M t = kWP M (kBSn M (kRch M t) (kHO M (kRch M t)) a) := by unfold kBS; rw [ea, nI_clamp (by omega)]
  rw [ew]
  have L : ∀ n k, k + n = a → zRT m_Filling_barredInSome 0 0 19 [(0, .ref 24), (1, .ref 10), (3, .int (kRch M t)), (4, .int (kBSn M (kRch M t) (kHO M (kRch M t)) k)), (5, .int (nI k))] [] (SHP g X) M (qF g X (kWP M (kBSn M (kRch M t) (kHO M (kRch M t)) a)) M) := by
    intro n
    induction n with
    | zero =>
      intro k hk
      have e : k = a := by omega
      subst e
      exact v_Filling_barredInSome_19 g X _ _ _ _ _ ⟨fun _ => qF_i rfl rfl, fun h => absurd (by rw [ea]; exact nI_le (by omega) (by omega)) h⟩
    | succ n ih =>
      intro k hk
      refine v_Filling_barredInSome_19 g X _ _ _ _ _ ⟨fun h => absurd h (by rw [ea]; exact nI_ge (by omega) (by omega)), fun _ => ⟨vp_in_nI (by omega) (by decide), ?_⟩⟩
      rw [nI_1, nI_clamp (by omega)]
      have ih := ih (k + 1) (by omega)
      refine ⟨fun h => ?_, fun h => ?_⟩
      · simpa [kBSn, h] using ih
      · simpa [kBSn, h] using ih
  exact L a 0 (by omega)
theorem v_Bread_layOut_0 (g : Nat → Option Nat) (X : List zShp) (M : zMem) (R : zEnd) (h : zRT m_Bread_layOut 0 0 2 [(0, .ref 27), (1, .ref 10), (2, .int 0)] [] (SHP g X) M R) : zRT m_Bread_layOut 0 0 0 [(0, .ref 27), (1, .ref 10)] [] (SHP g X) M R := by
  refine zs_iconst 0 d_Bread_layOut_0 (by decide) ?_
  refine zs_istore_n2 2 [1, 2, 0] [(0, .ref 27), (1, .ref 10), (2, .int 0)] d_Bread_layOut_1 rfl (by decide) rfl ?_
  exact h
theorem v_Bread_layOut_2 (g : Nat → Option Nat) (X : List zShp) (M : zMem) (x2 : Int32) (R : zEnd) (h : ((6 ≤ x2) → (R none (SHP g X) (kCp M 29 18 10))) ∧ ((¬ 6 ≤ x2) → ((kCnt M ∧ kDpt M ∧ vp_in x2 6) ∧ ((vp_in x2 6) ∧ (zRT m_Bread_layOut 0 0 2 [(0, .ref 27), (1, .ref 10), (2, .int (x2 + 1))] [] (SHP g X) (zms M 28 (Int32.toNatClampNeg x2) (kLwf M x2)) R))))) : zRT m_Bread_layOut 0 0 2 [(0, .ref 27), (1, .ref 10), (2, .int x2)] [] (SHP g X) M R := by
  refine zs_iload_n 2 d_Bread_layOut_2 rfl (List.mem_of_getElem? (i := 2) rfl) ?_
  refine zs_bipush 6 d_Bread_layOut_3 (by decide) ?_
  refine zs_icmp_ge 25 d_Bread_layOut_5 (by decide) (fun c1 => ?_) (fun c1 => ?_)
  · replace h := h.1 c1
    refine zs_aload_n 1 d_Bread_layOut_25 rfl (List.mem_of_getElem? (i := 1) rfl) ?_
    refine zs_get d_Bread_layOut_26 gf_Bread_27 (sh_10 g X) rfl ?_
    refine zs_iconst 0 d_Bread_layOut_29 (by decide) ?_
    refine zs_aload_n 0 d_Bread_layOut_30 rfl (List.mem_of_getElem? (i := 0) rfl) ?_
    refine zs_get d_Bread_layOut_31 gf_Bread_15 (sh_27 g X) rfl ?_
    refine zs_iconst 0 d_Bread_layOut_34 (by decide) ?_
    refine zs_bipush 10 d_Bread_layOut_35 (by decide) ?_
    refine zs_copy (st := []) d_Bread_layOut_37 (by decide +kernel) (by decide +kernel) (sh_18 g X) (sh_29 g X) (by decide) (by decide) (by decide) (by decide) (by decide) ?_
    exact zs_vret d_Bread_layOut_40 rfl h
  · replace h := h.2 c1
    refine zs_aload_n 0 d_Bread_layOut_8 rfl (List.mem_of_getElem? (i := 0) rfl) ?_
    refine zs_get d_Bread_layOut_9 gf_Bread_9 (sh_27 g X) rfl ?_
    refine zs_iload_n 2 d_Bread_layOut_12 rfl (List.mem_of_getElem? (i := 2) rfl) ?_
    refine zs_aload_n 1 d_Bread_layOut_13 rfl (List.mem_of_getElem? (i := 1) rfl) ?_
    refine zs_iload_n 2 d_Bread_layOut_14 rfl (List.mem_of_getElem? (i := 2) rfl) ?_
    obtain ⟨p2, h⟩ := h
    refine zs_callV (kc := 0) (ks := 0) (kc1 := 0) (ks1 := 0) (st := [.int x2, .ref 28]) [.int x2] d_Bread_layOut_15 lk_Bread_21 ⟨by decide, by decide⟩ rfl (sh_10 g X) rfl (Nat.le_of_ble_eq_true rfl) (ex_Town_lawfulThings g X M x2 p2) (fun v2 sh2 M2 hR => ?_)
    obtain ⟨rfl, rfl, rfl⟩ := hR
    obtain ⟨b3, h⟩ := h
    refine zs_iast d_Bread_layOut_18 (sh_28 g X) b3 ?_
    refine zs_iinc2 2 (x2 + 1) [1, 2, 0] [(0, .ref 27), (1, .ref 10), (2, .int (x2 + 1))] d_Bread_layOut_19 rfl rfl (by decide) rfl ?_
    refine zs_goto 2 d_Bread_layOut_22 (by decide) ?_
    exact h
theorem ex_Bread_layOut (hh : kCnt M ∧ kDpt M) : zEx m_Bread_layOut 0 0 [.ref 27, .ref 10] (SHP g X) M (qV g X (kLay M)) := by
  refine zEx_of _ (by decide) (by simp [Value.category]) (Nat.le_of_ble_eq_true rfl) rfl (v_Bread_layOut_0 g X M _ ?_)
  have L : ∀ n k, k + n = 6 → zRT m_Bread_layOut 0 0 2 [(0, .ref 27), (1, .ref 10), (2, .int (nI k))] [] (SHP g X) (kLayn M k) (qV g X (kLay M)) := by
    intro n
    induction n with
    | zero =>
      intro k hk
      have e : k = 6 := by omega
      subst e
      refine v_Bread_layOut_2 g X _ _ _ ⟨fun _ => ⟨rfl, rfl, ?_⟩, fun h => absurd (nI_le (a := 6) (by omega) (by omega)) h⟩
      rfl
    | succ n ih =>
      intro k hk
      have hr : ∀ p, 10 ≤ p → p ≤ 17 → kLayn M k p = M p := fun p h1 h2 => zmr_ne M 28 _ p (by omega)
      refine v_Bread_layOut_2 g X _ _ _ ⟨fun h => absurd h (nI_ge (b := 6) (by omega) (by omega)), fun _ => ⟨⟨kCnt_ag (hr 11 (by decide) (by decide)) hh.1, kDpt_ag (hr 10 (by decide) (by decide)) hh.2, vp_in_nI (by omega) (by decide)⟩, vp_in_nI (by omega) (by decide), ?_⟩⟩
      rw [nI_1, nI_clamp (by omega), kLwf_congr hr]
      have e : zms (kLayn M k) 28 k (kLwf M (nI k)) = kLayn M (k + 1) := by
        unfold kLayn
        rw [zms_zmr]
        congr 1
        funext j
        show (if j = k then kLwf M (nI k) else if j < k then kLwf M (nI j) else M 28 j) = if j < k + 1 then kLwf M (nI j) else M 28 j
        by_cases h1 : j = k
        · subst h1; simp
        · by_cases h2 : j < k
          · rw [if_neg h1, if_pos h2, if_pos (by omega)]
          · rw [if_neg h1, if_neg h2, if_neg (by omega)]
      rw [e]
      exact ih (k + 1) (by omega)
  have e0 : kLayn M 0 = M := by
    unfold kLayn
    have : (fun j => if j < 0 then kLwf M (nI j) else M 28 j) = M 28 := by funext j; simp
    rw [this, zmr_self]
  have h0 := L 6 0 rfl
  rw [e0] at h0
  exact h0
theorem v_Bread_loavesFor_0 (g : Nat → Option Nat) (X : List zShp) (M : zMem) (x1 : Int32) (R : zEnd) (h : zRT m_Bread_loavesFor 0 0 4 [(0, .ref 27), (1, .int x1), (2, .int 0), (3, .int 0)] [] (SHP g X) M R) : zRT m_Bread_loavesFor 0 0 0 [(0, .ref 27), (1, .int x1)] [] (SHP g X) M R := by
  refine zs_iconst 0 d_Bread_loavesFor_0 (by decide) ?_
  refine zs_istore_n2 2 [1, 2, 0] [(0, .ref 27), (1, .int x1), (2, .int 0)] d_Bread_loavesFor_1 rfl (by decide) rfl ?_
  refine zs_iconst 0 d_Bread_loavesFor_2 (by decide) ?_
  refine zs_istore_n2 3 [1, 2, 3, 0] [(0, .ref 27), (1, .int x1), (2, .int 0), (3, .int 0)] d_Bread_loavesFor_3 rfl (by decide) rfl ?_
  exact h
theorem v_Bread_loavesFor_4 (g : Nat → Option Nat) (X : List zShp) (M : zMem) (x1 x2 x3 : Int32) (R : zEnd) (h : ((6 ≤ x3) → (zRT m_Bread_loavesFor 0 0 38 [(0, .ref 27), (2, .int x2), (3, .int 0), (4, .int 0)] [] (SHP g X) M R)) ∧ ((¬ 6 ≤ x3) → ((((hb x1 x3) = false) → (zRT m_Bread_loavesFor 0 0 4 [(0, .ref 27), (1, .int x1), (2, .int x2), (3, .int (x3 + 1))] [] (SHP g X) M R)) ∧ (((hb x1 x3) = true) → ((vp_in x3 6) ∧ (zRT m_Bread_loavesFor 0 0 4 [(0, .ref 27), (1, .int x1), (2, .int (x2 ||| (M 28 (Int32.toNatClampNeg x3)))), (3, .int (x3 + 1))] [] (SHP g X) M R)))))) : zRT m_Bread_loavesFor 0 0 4 [(0, .ref 27), (1, .int x1), (2, .int x2), (3, .int x3)] [] (SHP g X) M R := by
  refine zs_iload_n 3 d_Bread_loavesFor_4 rfl (List.mem_of_getElem? (i := 3) rfl) ?_
  refine zs_bipush 6 d_Bread_loavesFor_5 (by decide) ?_
  refine zs_icmp_ge 33 d_Bread_loavesFor_7 (by decide) (fun c1 => ?_) (fun c1 => ?_)
  · replace h := h.1 c1
    refine zs_iconst 0 d_Bread_loavesFor_33 (by decide) ?_
    refine zs_istore_n2 3 [1, 2, 3, 0] [(0, .ref 27), (1, .int x1), (2, .int x2), (3, .int 0)] d_Bread_loavesFor_34 rfl (by decide) rfl ?_
    refine zs_iconst 0 d_Bread_loavesFor_35 (by decide) ?_
    refine zs_istore2 [1, 2, 3, 4, 0] [(0, .ref 27), (1, .int x1), (2, .int x2), (3, .int 0), (4, .int 0)] d_Bread_loavesFor_36 (by decide) rfl ?_
    exact zRT_sub [0, 2, 3, 4] rfl h
  · replace h := h.2 c1
    refine zs_iload_n 1 d_Bread_loavesFor_10 rfl (List.mem_of_getElem? (i := 1) rfl) ?_
    refine zs_iload_n 3 d_Bread_loavesFor_11 rfl (List.mem_of_getElem? (i := 3) rfl) ?_
    refine zs_callSN (kc := 0) (ks := 0) (kc1 := 0) (ks1 := 0) (st := []) [.int x1, .int x3] d_Bread_loavesFor_12 lk_Bread_36 ⟨by decide, by decide⟩ rfl (Nat.le_of_ble_eq_true rfl) (ex_O_has g X M x1 x3) (fun v2 sh2 M2 hR => ?_)
    obtain ⟨rfl, rfl, rfl⟩ := hR
    refine zs_if_eq 27 d_Bread_loavesFor_15 (by decide) (fun c3 => ?_) (fun c3 => ?_)
    · replace h := h.1 (bI_0 c3)
      refine zs_iinc2 3 (x3 + 1) [1, 2, 3, 0] [(0, .ref 27), (1, .int x1), (2, .int x2), (3, .int (x3 + 1))] d_Bread_loavesFor_27 rfl rfl (by decide) rfl ?_
      refine zs_goto 4 d_Bread_loavesFor_30 (by decide) ?_
      exact h
    · replace h := h.2 (bI_1 c3)
      refine zs_iload_n 2 d_Bread_loavesFor_18 rfl (List.mem_of_getElem? (i := 2) rfl) ?_
      refine zs_aload_n 0 d_Bread_loavesFor_19 rfl (List.mem_of_getElem? (i := 0) rfl) ?_
      refine zs_get d_Bread_loavesFor_20 gf_Bread_9 (sh_27 g X) rfl ?_
      refine zs_iload_n 3 d_Bread_loavesFor_23 rfl (List.mem_of_getElem? (i := 3) rfl) ?_
      obtain ⟨b4, h⟩ := h
      refine zs_iald d_Bread_loavesFor_24 (sh_28 g X) b4 ?_
      refine zs_ior d_Bread_loavesFor_25 ?_
      refine zs_istore_n2 2 [1, 2, 0, 3] [(0, .ref 27), (1, .int x1), (2, .int (x2 ||| (M 28 (Int32.toNatClampNeg x3)))), (3, .int x3)] d_Bread_loavesFor_26 rfl (by decide) rfl ?_
      refine zs_iinc2 3 (x3 + 1) [1, 2, 3, 0] [(0, .ref 27), (1, .int x1), (2, .int (x2 ||| (M 28 (Int32.toNatClampNeg x3)))), (3, .int (x3 + 1))] d_Bread_loavesFor_27 rfl rfl (by decide) rfl ?_
      refine zs_goto 4 d_Bread_loavesFor_30 (by decide) ?_
      exact h
theorem v_Bread_loavesFor_38 (g : Nat → Option Nat) (X : List zShp) (M : zMem) (x2 x3 x4 : Int32) (R : zEnd) (h : ((10 ≤ x4) → (R (some (.int x3)) (SHP g X) M)) ∧ ((¬ 10 ≤ x4) → ((((hb x2 x4) = false) → (zRT m_Bread_loavesFor 0 0 38 [(0, .ref 27), (2, .int x2), (3, .int x3), (4, .int (x4 + 1))] [] (SHP g X) M R)) ∧ (((hb x2 x4) = true) → ((vp_in x4 10) ∧ (zRT m_Bread_loavesFor 0 0 38 [(0, .ref 27), (2, .int x2), (3, .int (x3 + (M 29 (Int32.toNatClampNeg x4)))), (4, .int (x4 + 1))] [] (SHP g X) M R)))))) : zRT m_Bread_loavesFor 0 0 38 [(0, .ref 27), (2, .int x2), (3, .int x3), (4, .int x4)] [] (SHP g X) M R := by
  refine zs_iload d_Bread_loavesFor_38 (List.mem_of_getElem? (i := 3) rfl) ?_
  refine zs_bipush 10 d_Bread_loavesFor_40 (by decide) ?_
  refine zs_icmp_ge 70 d_Bread_loavesFor_42 (by decide) (fun c1 => ?_) (fun c1 => ?_)
  · replace h := h.1 c1
    refine zs_iload_n 3 d_Bread_loavesFor_70 rfl (List.mem_of_getElem? (i := 2) rfl) ?_
    exact zs_iret d_Bread_loavesFor_71 rfl h
  · replace h := h.2 c1
    refine zs_iload_n 2 d_Bread_loavesFor_45 rfl (List.mem_of_getElem? (i := 1) rfl) ?_
    refine zs_iload d_Bread_loavesFor_46 (List.mem_of_getElem? (i := 3) rfl) ?_
    refine zs_callSN (kc := 0) (ks := 0) (kc1 := 0) (ks1 := 0) (st := []) [.int x2, .int x4] d_Bread_loavesFor_48 lk_Bread_36 ⟨by decide, by decide⟩ rfl (Nat.le_of_ble_eq_true rfl) (ex_O_has g X M x2 x4) (fun v2 sh2 M2 hR => ?_)
    obtain ⟨rfl, rfl, rfl⟩ := hR
    refine zs_if_eq 64 d_Bread_loavesFor_51 (by decide) (fun c3 => ?_) (fun c3 => ?_)
    · replace h := h.1 (bI_0 c3)
      refine zs_iinc2 3 (x4 + 1) [1, 2, 3, 0] [(0, .ref 27), (2, .int x2), (3, .int x3), (4, .int (x4 + 1))] d_Bread_loavesFor_64 rfl rfl (by decide) rfl ?_
      refine zs_goto 38 d_Bread_loavesFor_67 (by decide) ?_
      exact h
    · replace h := h.2 (bI_1 c3)
      refine zs_iload_n 3 d_Bread_loavesFor_54 rfl (List.mem_of_getElem? (i := 2) rfl) ?_
      refine zs_aload_n 0 d_Bread_loavesFor_55 rfl (List.mem_of_getElem? (i := 0) rfl) ?_
      refine zs_get d_Bread_loavesFor_56 gf_Bread_15 (sh_27 g X) rfl ?_
      refine zs_iload d_Bread_loavesFor_59 (List.mem_of_getElem? (i := 3) rfl) ?_
      obtain ⟨b4, h⟩ := h
      refine zs_iald d_Bread_loavesFor_61 (sh_29 g X) b4 ?_
      refine zs_iadd d_Bread_loavesFor_62 ?_
      refine zs_istore_n2 3 [1, 2, 0, 3] [(0, .ref 27), (2, .int x2), (3, .int (x3 + (M 29 (Int32.toNatClampNeg x4)))), (4, .int x4)] d_Bread_loavesFor_63 rfl (by decide) rfl ?_
      refine zs_iinc2 3 (x4 + 1) [1, 2, 3, 0] [(0, .ref 27), (2, .int x2), (3, .int (x3 + (M 29 (Int32.toNatClampNeg x4)))), (4, .int (x4 + 1))] d_Bread_loavesFor_64 rfl rfl (by decide) rfl ?_
      refine zs_goto 38 d_Bread_loavesFor_67 (by decide) ?_
      exact h
theorem ex_Bread_loavesFor (men : Int32) : zEx m_Bread_loavesFor 0 0 [.ref 27, .int men] (SHP g X) M (qF g X (kLf M men) M) := by
  refine zEx_of _ (by decide) (by simp [Value.category]) (Nat.le_of_ble_eq_true rfl) rfl (v_Bread_loavesFor_0 g X M men _ ?_)
  have L2 : ∀ n k, k + n = 10 → zRT m_Bread_loavesFor 0 0 38 [(0, .ref 27), (2, .int (kThs M men)), (3, .int (kSm (fun k => if hb (kThs M men) (nI k) = true then M 29 k else 0) k)), (4, .int (nI k))] [] (SHP g X) M (qF g X (kLf M men) M) := by
    intro n
    induction n with
    | zero =>
      intro k hk
      have e : k = 10 := by omega
      subst e
      exact v_Bread_loavesFor_38 g X _ _ _ _ _ ⟨fun _ => qF_i rfl rfl, fun h => absurd (nI_le (a := 10) (by omega) (by omega)) h⟩
    | succ n ih =>
      intro k hk
      have ih := ih (k + 1) (by omega)
      refine v_Bread_loavesFor_38 g X _ _ _ _ _ ⟨fun h => absurd h (nI_ge (b := 10) (by omega) (by omega)), fun _ => ?_⟩
      rw [nI_1, nI_clamp (by omega)]
      refine ⟨fun h => ?_, fun h => ⟨vp_in_nI (by omega) (by decide), ?_⟩⟩
      · simpa [kSm, h] using ih
      · simpa [kSm, h] using ih
  have L : ∀ n k, k + n = 6 → zRT m_Bread_loavesFor 0 0 4 [(0, .ref 27), (1, .int men), (2, .int (kOr (fun k => if hb men (nI k) = true then M 28 k else 0) k)), (3, .int (nI k))] [] (SHP g X) M (qF g X (kLf M men) M) := by
    intro n
    induction n with
    | zero =>
      intro k hk
      have e : k = 6 := by omega
      subst e
      exact v_Bread_loavesFor_4 g X _ _ _ _ _ ⟨fun _ => L2 10 0 rfl, fun h => absurd (nI_le (a := 6) (by omega) (by omega)) h⟩
    | succ n ih =>
      intro k hk
      have ih := ih (k + 1) (by omega)
      refine v_Bread_loavesFor_4 g X _ _ _ _ _ ⟨fun h => absurd h (nI_ge (b := 6) (by omega) (by omega)), fun _ => ?_⟩
      rw [nI_1, nI_clamp (by omega)]
      refine ⟨fun h => ?_, fun h => ⟨vp_in_nI (by omega) (by decide), ?_⟩⟩
      · simpa [kOr, h] using ih
      · simpa [kOr, h] using ih
  exact L 6 0 rfl
theorem v_Bread_mostFed_0 (g : Nat → Option Nat) (X : List zShp) (M : zMem) (x1 : Int32) (R : zEnd) (h : zRT m_Bread_mostFed 0 0 4 [(0, .ref 27), (1, .int x1), (2, .int 0), (3, .int 1)] [] (SHP g X) M R) : zRT m_Bread_mostFed 0 0 0 [(0, .ref 27), (1, .int x1)] [] (SHP g X) M R := by
  refine zs_iconst 0 d_Bread_mostFed_0 (by decide) ?_
  refine zs_istore_n2 2 [1, 2, 0] [(0, .ref 27), (1, .int x1), (2, .int 0)] d_Bread_mostFed_1 rfl (by decide) rfl ?_
  refine zs_iconst 1 d_Bread_mostFed_2 (by decide) ?_
  refine zs_istore_n2 3 [1, 2, 3, 0] [(0, .ref 27), (1, .int x1), (2, .int 0), (3, .int 1)] d_Bread_mostFed_3 rfl (by decide) rfl ?_
  exact h
theorem v_Bread_mostFed_4 (g : Nat → Option Nat) (X : List zShp) (M : zMem) (x1 x2 x3 : Int32) (R : zEnd) (h : ((63 < x3) → (R (some (.int ((bc x1) - x2))) (SHP g X) M)) ∧ ((¬ 63 < x3) → (((¬ (x3 &&& (x1 ^^^ (-1))) = 0) → (zRT m_Bread_mostFed 0 0 4 [(0, .ref 27), (1, .int x1), (2, .int x2), (3, .int (x3 + 1))] [] (SHP g X) M R)) ∧ (((x3 &&& (x1 ^^^ (-1))) = 0) → (zRT m_Bread_mostFed 0 0 4 [(0, .ref 27), (1, .int x1), (2, .int (mx x2 ((bc x3) - (kLf M x3)))), (3, .int (x3 + 1))] [] (SHP g X) M R))))) : zRT m_Bread_mostFed 0 0 4 [(0, .ref 27), (1, .int x1), (2, .int x2), (3, .int x3)] [] (SHP g X) M R := by
  refine zs_iload_n 3 d_Bread_mostFed_4 rfl (List.mem_of_getElem? (i := 3) rfl) ?_
  refine zs_bipush 63 d_Bread_mostFed_5 (by decide) ?_
  refine zs_icmp_gt 39 d_Bread_mostFed_7 (by decide) (fun c1 => ?_) (fun c1 => ?_)
  · replace h := h.1 c1
    refine zs_iload_n 1 d_Bread_mostFed_39 rfl (List.mem_of_getElem? (i := 1) rfl) ?_
    refine zs_callS (kc := 0) (ks := 0) (kc1 := 0) (ks1 := 0) (st := []) [.int x1] d_Bread_mostFed_40 lk_Bread_40 ⟨by decide, by decide⟩ rfl (Nat.le_of_ble_eq_true rfl) (ex_JI_bitCount g X M x1) (fun v2 sh2 M2 hR => ?_)
    obtain ⟨rfl, rfl, rfl⟩ := hR
    refine zs_iload_n 2 d_Bread_mostFed_43 rfl (List.mem_of_getElem? (i := 2) rfl) ?_
    refine zs_isub d_Bread_mostFed_44 ?_
    exact zs_iret d_Bread_mostFed_45 rfl h
  · replace h := h.2 c1
    refine zs_iload_n 3 d_Bread_mostFed_10 rfl (List.mem_of_getElem? (i := 3) rfl) ?_
    refine zs_iload_n 1 d_Bread_mostFed_11 rfl (List.mem_of_getElem? (i := 1) rfl) ?_
    refine zs_iconst (-1) d_Bread_mostFed_12 (by decide) ?_
    refine zs_ixor d_Bread_mostFed_13 ?_
    refine zs_iand d_Bread_mostFed_14 ?_
    refine zs_if_ne 33 d_Bread_mostFed_15 (by decide) (fun c3 => ?_) (fun c3 => ?_)
    · replace h := h.1 c3
      refine zs_iinc2 3 (x3 + 1) [1, 2, 3, 0] [(0, .ref 27), (1, .int x1), (2, .int x2), (3, .int (x3 + 1))] d_Bread_mostFed_33 rfl rfl (by decide) rfl ?_
      refine zs_goto 4 d_Bread_mostFed_36 (by decide) ?_
      exact h
    · replace h := h.2 c3
      refine zs_iload_n 2 d_Bread_mostFed_18 rfl (List.mem_of_getElem? (i := 2) rfl) ?_
      refine zs_iload_n 3 d_Bread_mostFed_19 rfl (List.mem_of_getElem? (i := 3) rfl) ?_
      refine zs_callS (kc := 0) (ks := 0) (kc1 := 0) (ks1 := 0) (st := [.int x2]) [.int x3] d_Bread_mostFed_20 lk_Bread_40 ⟨by decide, by decide⟩ rfl (Nat.le_of_ble_eq_true rfl) (ex_JI_bitCount g X M x3) (fun v4 sh4 M4 hR => ?_)
      obtain ⟨rfl, rfl, rfl⟩ := hR
      refine zs_aload_n 0 d_Bread_mostFed_23 rfl (List.mem_of_getElem? (i := 0) rfl) ?_
      refine zs_iload_n 3 d_Bread_mostFed_24 rfl (List.mem_of_getElem? (i := 3) rfl) ?_
      refine zs_callV (kc := 0) (ks := 0) (kc1 := 0) (ks1 := 0) (st := [.int (bc x3), .int x2]) [.int x3] d_Bread_mostFed_25 lk_Bread_45 ⟨by decide, by decide⟩ rfl (sh_27 g X) rfl (Nat.le_of_ble_eq_true rfl) (ex_Bread_loavesFor g X M x3) (fun v5 sh5 M5 hR => ?_)
      obtain ⟨rfl, rfl, rfl⟩ := hR
      refine zs_isub d_Bread_mostFed_28 ?_
      refine zs_max (st := []) d_Bread_mostFed_29 (by decide +kernel) (by decide +kernel) ?_
      refine zs_istore_n2 2 [1, 2, 0, 3] [(0, .ref 27), (1, .int x1), (2, .int (mx x2 ((bc x3) - (kLf M x3)))), (3, .int x3)] d_Bread_mostFed_32 rfl (by decide) rfl ?_
      refine zs_iinc2 3 (x3 + 1) [1, 2, 3, 0] [(0, .ref 27), (1, .int x1), (2, .int (mx x2 ((bc x3) - (kLf M x3)))), (3, .int (x3 + 1))] d_Bread_mostFed_33 rfl rfl (by decide) rfl ?_
      refine zs_goto 4 d_Bread_mostFed_36 (by decide) ?_
      exact h
theorem ex_Bread_mostFed (men : Int32) : zEx m_Bread_mostFed 0 0 [.ref 27, .int men] (SHP g X) M (qF g X (kMf M men) M) := by
  refine zEx_of _ (by decide) (by simp [Value.category]) (Nat.le_of_ble_eq_true rfl) rfl (v_Bread_mostFed_0 g X M men _ ?_)
  have L : ∀ n k, k + n = 63 → zRT m_Bread_mostFed 0 0 4 [(0, .ref 27), (1, .int men), (2, .int (kMfn M men k)), (3, .int (nI (k + 1)))] [] (SHP g X) M (qF g X (kMf M men) M) := by
    intro n
    induction n with
    | zero =>
      intro k hk
      have e : k = 63 := by omega
      subst e
      exact v_Bread_mostFed_4 g X _ _ _ _ _ ⟨fun _ => qF_i rfl rfl, fun h => absurd (nI_lt (a := 63) (by omega) (by omega)) h⟩
    | succ n ih =>
      intro k hk
      have ih := ih (k + 1) (by omega)
      refine v_Bread_mostFed_4 g X _ _ _ _ _ ⟨fun h => absurd h (nI_nlt (a := 63) (by omega) (by omega)), fun _ => ?_⟩
      rw [nI_1]
      refine ⟨fun h => ?_, fun h => ?_⟩
      · simp only [kMfn, if_neg h] at ih
        exact ih
      · simp only [kMfn, if_pos h] at ih
        exact ih
  exact L 63 0 rfl
theorem v_Bread_leastShortSet_0 (g : Nat → Option Nat) (X : List zShp) (M : zMem) (R : zEnd) (h : zRT m_Bread_leastShortSet 0 0 2 [(0, .ref 27), (1, .int 1)] [] (SHP g X) M R) : zRT m_Bread_leastShortSet 0 0 0 [(0, .ref 27)] [] (SHP g X) M R := by
  refine zs_iconst 1 d_Bread_leastShortSet_0 (by decide) ?_
  refine zs_istore_n2 1 [1, 0] [(0, .ref 27), (1, .int 1)] d_Bread_leastShortSet_1 rfl (by decide) rfl ?_
  exact h
theorem v_Bread_leastShortSet_2 (g : Nat → Option Nat) (X : List zShp) (M : zMem) (x1 : Int32) (R : zEnd) (h : ((63 < x1) → (R (some (.int (-6))) (SHP g X) M)) ∧ ((¬ 63 < x1) → ((((bc x1) ≤ (kLf M x1)) → (zRT m_Bread_leastShortSet 0 0 2 [(0, .ref 27), (1, .int (x1 + 1))] [] (SHP g X) M R)) ∧ ((¬ (bc x1) ≤ (kLf M x1)) → (R (some (.int x1)) (SHP g X) M))))) : zRT m_Bread_leastShortSet 0 0 2 [(0, .ref 27), (1, .int x1)] [] (SHP g X) M R := by
  refine zs_iload_n 1 d_Bread_leastShortSet_2 rfl (List.mem_of_getElem? (i := 1) rfl) ?_
  refine zs_bipush 63 d_Bread_leastShortSet_3 (by decide) ?_
  refine zs_icmp_gt 28 d_Bread_leastShortSet_5 (by decide) (fun c1 => ?_) (fun c1 => ?_)
  · replace h := h.1 c1
    refine zs_bipush (-6) d_Bread_leastShortSet_28 (by decide) ?_
    exact zs_iret d_Bread_leastShortSet_30 rfl h
  · replace h := h.2 c1
    refine zs_aload_n 0 d_Bread_leastShortSet_8 rfl (List.mem_of_getElem? (i := 0) rfl) ?_
    refine zs_iload_n 1 d_Bread_leastShortSet_9 rfl (List.mem_of_getElem? (i := 1) rfl) ?_
    refine zs_callV (kc := 0) (ks := 0) (kc1 := 0) (ks1 := 0) (st := []) [.int x1] d_Bread_leastShortSet_10 lk_Bread_45 ⟨by decide, by decide⟩ rfl (sh_27 g X) rfl (Nat.le_of_ble_eq_true rfl) (ex_Bread_loavesFor g X M x1) (fun v2 sh2 M2 hR => ?_)
    obtain ⟨rfl, rfl, rfl⟩ := hR
    refine zs_iload_n 1 d_Bread_leastShortSet_13 rfl (List.mem_of_getElem? (i := 1) rfl) ?_
    refine zs_callS (kc := 0) (ks := 0) (kc1 := 0) (ks1 := 0) (st := [.int (kLf M x1)]) [.int x1] d_Bread_leastShortSet_14 lk_Bread_40 ⟨by decide, by decide⟩ rfl (Nat.le_of_ble_eq_true rfl) (ex_JI_bitCount g X M x1) (fun v3 sh3 M3 hR => ?_)
    obtain ⟨rfl, rfl, rfl⟩ := hR
    refine zs_icmp_ge 22 d_Bread_leastShortSet_17 (by decide) (fun c4 => ?_) (fun c4 => ?_)
    · replace h := h.1 c4
      refine zs_iinc2 1 (x1 + 1) [1, 0] [(0, .ref 27), (1, .int (x1 + 1))] d_Bread_leastShortSet_22 rfl rfl (by decide) rfl ?_
      refine zs_goto 2 d_Bread_leastShortSet_25 (by decide) ?_
      exact h
    · replace h := h.2 c4
      refine zs_iload_n 1 d_Bread_leastShortSet_20 rfl (List.mem_of_getElem? (i := 1) rfl) ?_
      exact zs_iret d_Bread_leastShortSet_21 rfl h
theorem ex_Bread_leastShortSet : zEx m_Bread_leastShortSet 0 0 [.ref 27] (SHP g X) M (qF g X (kLs M) M) := by
  refine zEx_of _ (by decide) (by simp [Value.category]) (Nat.le_of_ble_eq_true rfl) rfl (v_Bread_leastShortSet_0 g X M _ ?_)
  have L : ∀ n k, k + n = 64 → zRT m_Bread_leastShortSet 0 0 2 [(0, .ref 27), (1, .int (nI k))] [] (SHP g X) M (qF g X (kLsn M k n) M) := by
    intro n
    induction n with
    | zero =>
      intro k hk
      exact v_Bread_leastShortSet_2 g X _ _ _ ⟨fun _ => qF_i rfl rfl, fun h => absurd (nI_lt (a := 63) (by omega) (by omega)) h⟩
    | succ n ih =>
      intro k hk
      have ih := ih (k + 1) (by omega)
      refine v_Bread_leastShortSet_2 g X _ _ _ ⟨fun h => absurd h (nI_nlt (a := 63) (by omega) (by omega)), fun _ => ?_⟩
      rw [nI_1]
      refine ⟨fun h => ?_, fun h => qF_i (by simp [kLsn, h]) rfl⟩
      simpa [kLsn, h] using ih
  exact L 63 1 rfl
theorem v_Bread_takeLeastMeal_0 (g : Nat → Option Nat) (X : List zShp) (M : zMem) (x1 x2 : Int32) (R : zEnd) (h : zRT m_Bread_takeLeastMeal 0 0 11 [(0, .ref 27), (1, .int x1), (2, .int x2), (3, .int ((63 : Int32) &&& (-((2 : Int32) <<< (x1 &&& 31))))), (4, .int 0)] [] (SHP g X) M R) : zRT m_Bread_takeLeastMeal 0 0 0 [(0, .ref 27), (1, .int x1), (2, .int x2)] [] (SHP g X) M R := by
  refine zs_bipush 63 d_Bread_takeLeastMeal_0 (by decide) ?_
  refine zs_iconst 2 d_Bread_takeLeastMeal_2 (by decide) ?_
  refine zs_iload_n 1 d_Bread_takeLeastMeal_3 rfl (List.mem_of_getElem? (i := 1) rfl) ?_
  refine zs_ishl d_Bread_takeLeastMeal_4 ?_
  refine zs_ineg d_Bread_takeLeastMeal_5 ?_
  refine zs_iand d_Bread_takeLeastMeal_6 ?_
  refine zs_istore_n2 3 [1, 2, 3, 0] [(0, .ref 27), (1, .int x1), (2, .int x2), (3, .int ((63 : Int32) &&& (-((2 : Int32) <<< (x1 &&& 31)))))] d_Bread_takeLeastMeal_7 rfl (by decide) rfl ?_
  refine zs_iconst 0 d_Bread_takeLeastMeal_8 (by decide) ?_
  refine zs_istore2 [1, 2, 3, 4, 0] [(0, .ref 27), (1, .int x1), (2, .int x2), (3, .int ((63 : Int32) &&& (-((2 : Int32) <<< (x1 &&& 31))))), (4, .int 0)] d_Bread_takeLeastMeal_9 (by decide) rfl ?_
  exact h
theorem v_Bread_takeLeastMeal_11 (g : Nat → Option Nat) (X : List zShp) (M : zMem) (x1 x2 x3 x4 : Int32) (R : zEnd) (h : ((10 ≤ x4) → (R (some (.int (-6))) (SHP g X) M)) ∧ ((¬ 10 ≤ x4) → ((vp_in x1 6) ∧ ((((hb (M 28 (Int32.toNatClampNeg x1)) x4) = false) → (zRT m_Bread_takeLeastMeal 0 0 11 [(0, .ref 27), (1, .int x1), (2, .int x2), (3, .int x3), (4, .int (x4 + 1))] [] (SHP g X) M R)) ∧ (((hb (M 28 (Int32.toNatClampNeg x1)) x4) = true) → ((vp_in x4 10) ∧ ((((M 29 (Int32.toNatClampNeg x4)) ≤ 0) → (zRT m_Bread_takeLeastMeal 0 0 11 [(0, .ref 27), (1, .int x1), (2, .int x2), (3, .int x3), (4, .int (x4 + 1))] [] (SHP g X) M R)) ∧ ((¬ (M 29 (Int32.toNatClampNeg x4)) ≤ 0) → (((¬ ((1 : Int32) + (kMf (zms M 29 (Int32.toNatClampNeg x4) ((M 29 (Int32.toNatClampNeg x4)) - 1)) x3)) = x2) → (zRT m_Bread_takeLeastMeal 0 0 11 [(0, .ref 27), (1, .int x1), (2, .int x2), (3, .int x3), (4, .int (x4 + 1))] [] (SHP g X) (zms (zms M 29 (Int32.toNatClampNeg x4) ((M 29 (Int32.toNatClampNeg x4)) - 1)) 29 (Int32.toNatClampNeg x4) (((zms M 29 (Int32.toNatClampNeg x4) ((M 29 (Int32.toNatClampNeg x4)) - 1)) 29 (Int32.toNatClampNeg x4)) + 1)) R)) ∧ ((((1 : Int32) + (kMf (zms M 29 (Int32.toNatClampNeg x4) ((M 29 (Int32.toNatClampNeg x4)) - 1)) x3)) = x2) → (R (some (.int x4)) (SHP g X) (zms M 29 (Int32.toNatClampNeg x4) ((M 29 (Int32.toNatClampNeg x4)) - 1))))))))))))) : zRT m_Bread_takeLeastMeal 0 0 11 [(0, .ref 27), (1, .int x1), (2, .int x2), (3, .int x3), (4, .int x4)] [] (SHP g X) M R := by
  refine zs_iload d_Bread_takeLeastMeal_11 (List.mem_of_getElem? (i := 4) rfl) ?_
  refine zs_bipush 10 d_Bread_takeLeastMeal_13 (by decide) ?_
  refine zs_icmp_ge 84 d_Bread_takeLeastMeal_15 (by decide) (fun c1 => ?_) (fun c1 => ?_)
  · replace h := h.1 c1
    refine zs_bipush (-6) d_Bread_takeLeastMeal_84 (by decide) ?_
    exact zs_iret d_Bread_takeLeastMeal_86 rfl h
  · replace h := h.2 c1
    refine zs_aload_n 0 d_Bread_takeLeastMeal_18 rfl (List.mem_of_getElem? (i := 0) rfl) ?_
    refine zs_get d_Bread_takeLeastMeal_19 gf_Bread_9 (sh_27 g X) rfl ?_
    refine zs_iload_n 1 d_Bread_takeLeastMeal_22 rfl (List.mem_of_getElem? (i := 1) rfl) ?_
    obtain ⟨b2, h⟩ := h
    refine zs_iald d_Bread_takeLeastMeal_23 (sh_28 g X) b2 ?_
    refine zs_iload d_Bread_takeLeastMeal_24 (List.mem_of_getElem? (i := 4) rfl) ?_
    refine zs_callSN (kc := 0) (ks := 0) (kc1 := 0) (ks1 := 0) (st := []) [.int (M 28 (Int32.toNatClampNeg x1)), .int x4] d_Bread_takeLeastMeal_26 lk_Bread_36 ⟨by decide, by decide⟩ rfl (Nat.le_of_ble_eq_true rfl) (ex_O_has g X M (M 28 (Int32.toNatClampNeg x1)) x4) (fun v3 sh3 M3 hR => ?_)
    obtain ⟨rfl, rfl, rfl⟩ := hR
    refine zs_if_eq 78 d_Bread_takeLeastMeal_29 (by decide) (fun c4 => ?_) (fun c4 => ?_)
    · replace h := h.1 (bI_0 c4)
      refine zs_iinc2 4 (x4 + 1) [1, 2, 3, 4, 0] [(0, .ref 27), (1, .int x1), (2, .int x2), (3, .int x3), (4, .int (x4 + 1))] d_Bread_takeLeastMeal_78 rfl rfl (by decide) rfl ?_
      refine zs_goto 11 d_Bread_takeLeastMeal_81 (by decide) ?_
      exact h
    · replace h := h.2 (bI_1 c4)
      refine zs_aload_n 0 d_Bread_takeLeastMeal_32 rfl (List.mem_of_getElem? (i := 0) rfl) ?_
      refine zs_get d_Bread_takeLeastMeal_33 gf_Bread_15 (sh_27 g X) rfl ?_
      refine zs_iload d_Bread_takeLeastMeal_36 (List.mem_of_getElem? (i := 4) rfl) ?_
      obtain ⟨b5, h⟩ := h
      refine zs_iald d_Bread_takeLeastMeal_38 (sh_29 g X) b5 ?_
      refine zs_if_le 78 d_Bread_takeLeastMeal_39 (by decide) (fun c6 => ?_) (fun c6 => ?_)
      · replace h := h.1 c6
        refine zs_iinc2 4 (x4 + 1) [1, 2, 3, 4, 0] [(0, .ref 27), (1, .int x1), (2, .int x2), (3, .int x3), (4, .int (x4 + 1))] d_Bread_takeLeastMeal_78 rfl rfl (by decide) rfl ?_
        refine zs_goto 11 d_Bread_takeLeastMeal_81 (by decide) ?_
        exact h
      · replace h := h.2 c6
        refine zs_aload_n 0 d_Bread_takeLeastMeal_42 rfl (List.mem_of_getElem? (i := 0) rfl) ?_
        refine zs_get d_Bread_takeLeastMeal_43 gf_Bread_15 (sh_27 g X) rfl ?_
        refine zs_iload d_Bread_takeLeastMeal_46 (List.mem_of_getElem? (i := 4) rfl) ?_
        refine zs_dup2 d_Bread_takeLeastMeal_48 rfl rfl ?_
        refine zs_iald d_Bread_takeLeastMeal_49 (sh_29 g X) b5 ?_
        refine zs_iconst 1 d_Bread_takeLeastMeal_50 (by decide) ?_
        refine zs_isub d_Bread_takeLeastMeal_51 ?_
        refine zs_iast d_Bread_takeLeastMeal_52 (sh_29 g X) b5 ?_
        refine zs_iconst 1 d_Bread_takeLeastMeal_53 (by decide) ?_
        refine zs_aload_n 0 d_Bread_takeLeastMeal_54 rfl (List.mem_of_getElem? (i := 0) rfl) ?_
        refine zs_iload_n 3 d_Bread_takeLeastMeal_55 rfl (List.mem_of_getElem? (i := 3) rfl) ?_
        refine zs_callV (kc := 0) (ks := 0) (kc1 := 0) (ks1 := 0) (st := [.int 1]) [.int x3] d_Bread_takeLeastMeal_56 lk_Bread_54 ⟨by decide, by decide⟩ rfl (sh_27 g X) rfl (Nat.le_of_ble_eq_true rfl) (ex_Bread_mostFed g X (zms M 29 (Int32.toNatClampNeg x4) ((M 29 (Int32.toNatClampNeg x4)) - 1)) x3) (fun v7 sh7 M7 hR => ?_)
        obtain ⟨rfl, rfl, rfl⟩ := hR
        refine zs_iadd d_Bread_takeLeastMeal_59 ?_
        refine zs_iload_n 2 d_Bread_takeLeastMeal_60 rfl (List.mem_of_getElem? (i := 2) rfl) ?_
        refine zs_icmp_ne 67 d_Bread_takeLeastMeal_61 (by decide) (fun c8 => ?_) (fun c8 => ?_)
        · replace h := h.1 c8
          refine zs_aload_n 0 d_Bread_takeLeastMeal_67 rfl (List.mem_of_getElem? (i := 0) rfl) ?_
          refine zs_get d_Bread_takeLeastMeal_68 gf_Bread_15 (sh_27 g X) rfl ?_
          refine zs_iload d_Bread_takeLeastMeal_71 (List.mem_of_getElem? (i := 4) rfl) ?_
          refine zs_dup2 d_Bread_takeLeastMeal_73 rfl rfl ?_
          refine zs_iald d_Bread_takeLeastMeal_74 (sh_29 g X) b5 ?_
          refine zs_iconst 1 d_Bread_takeLeastMeal_75 (by decide) ?_
          refine zs_iadd d_Bread_takeLeastMeal_76 ?_
          refine zs_iast d_Bread_takeLeastMeal_77 (sh_29 g X) b5 ?_
          refine zs_iinc2 4 (x4 + 1) [1, 2, 3, 4, 0] [(0, .ref 27), (1, .int x1), (2, .int x2), (3, .int x3), (4, .int (x4 + 1))] d_Bread_takeLeastMeal_78 rfl rfl (by decide) rfl ?_
          refine zs_goto 11 d_Bread_takeLeastMeal_81 (by decide) ?_
          exact h
        · replace h := h.2 c8
          refine zs_iload d_Bread_takeLeastMeal_64 (List.mem_of_getElem? (i := 4) rfl) ?_
          exact zs_iret d_Bread_takeLeastMeal_66 rfl h
theorem zms_back (M : zMem) (p k : Nat) : zms (zms M p k (M p k - 1)) p k ((zms M p k (M p k - 1)) p k + 1) = M := by
  funext a b
  by_cases ha : a = p
  · by_cases hb : b = k
    · simp [zms, ha, hb, Int32.sub_add_cancel]
    · simp [zms, ha, hb]
  · simp [zms, ha]
theorem ex_Bread_takeLeastMeal (x1 x2 : Int32) (hh : vp_in x1 6) : zEx m_Bread_takeLeastMeal 0 0 [.ref 27, .int x1, .int x2] (SHP g X) M (qF g X (kTm M x1 x2).1 (kTm M x1 x2).2) := by
  refine zEx_of _ (by decide) (by simp [Value.category]) (Nat.le_of_ble_eq_true rfl) rfl (v_Bread_takeLeastMeal_0 g X M x1 x2 _ ?_)
  have L : ∀ x3 n k, k + n = 10 → zRT m_Bread_takeLeastMeal 0 0 11 [(0, .ref 27), (1, .int x1), (2, .int x2), (3, .int x3), (4, .int (nI k))] [] (SHP g X) M (qF g X (kTmn M x1 x2 x3 k n).1 (kTmn M x1 x2 x3 k n).2) := by
    intro x3 n
    induction n with
    | zero =>
      intro k hk
      exact v_Bread_takeLeastMeal_11 g X _ _ _ _ _ _ ⟨fun _ => qF_i rfl rfl, fun h => absurd (nI_le (a := 10) (by omega) (by omega)) h⟩
    | succ n ih =>
      intro k hk
      have ih := ih (k + 1) (by omega)
      refine v_Bread_takeLeastMeal_11 g X _ _ _ _ _ _ ⟨fun h => absurd h (nI_ge (b := 10) (by omega) (by omega)), fun _ => ⟨hh, ?_⟩⟩
      rw [nI_1, nI_clamp (by omega), zms_back]
      refine ⟨fun h => ?_, fun h => ⟨vp_in_nI (by omega) (by decide), fun h2 => ?_, fun h2 => ⟨fun h3 => ?_, fun h3 => ?_⟩⟩⟩
      · simpa [kTmn, h] using ih
      · simpa [kTmn, h, h2] using ih
      · simpa [kTmn, h, h2, h3] using ih
      · exact qF_i (by simp [kTmn, h, h2, h3]) (by simp [kTmn, h, h2, h3])
  unfold kTm
  exact L _ 10 0 rfl
theorem v_Bread_serve_0 (g : Nat → Option Nat) (X : List zShp) (M : zMem) (R : zEnd) (h : zRT m_Bread_serve 0 0 11 [(0, .ref 27), (1, .int (kMf M 63)), (2, .int (kMf M 63)), (3, .int 0)] [] (SHP g X) M R) : zRT m_Bread_serve 0 0 0 [(0, .ref 27)] [] (SHP g X) M R := by
  refine zs_aload_n 0 d_Bread_serve_0 rfl (List.mem_of_getElem? (i := 0) rfl) ?_
  refine zs_bipush 63 d_Bread_serve_1 (by decide) ?_
  refine zs_callV (kc := 0) (ks := 0) (kc1 := 0) (ks1 := 0) (st := []) [.int 63] d_Bread_serve_3 lk_Bread_54 ⟨by decide, by decide⟩ rfl (sh_27 g X) rfl (Nat.le_of_ble_eq_true rfl) (ex_Bread_mostFed g X M 63) (fun v1 sh1 M1 hR => ?_)
  obtain ⟨rfl, rfl, rfl⟩ := hR
  refine zs_istore_n2 1 [1, 0] [(0, .ref 27), (1, .int (kMf M 63))] d_Bread_serve_6 rfl (by decide) rfl ?_
  refine zs_iload_n 1 d_Bread_serve_7 rfl (List.mem_of_getElem? (i := 1) rfl) ?_
  refine zs_istore_n2 2 [1, 2, 0] [(0, .ref 27), (1, .int (kMf M 63)), (2, .int (kMf M 63))] d_Bread_serve_8 rfl (by decide) rfl ?_
  refine zs_iconst 0 d_Bread_serve_9 (by decide) ?_
  refine zs_istore_n2 3 [1, 2, 3, 0] [(0, .ref 27), (1, .int (kMf M 63)), (2, .int (kMf M 63)), (3, .int 0)] d_Bread_serve_10 rfl (by decide) rfl ?_
  exact h
theorem v_Bread_serve_11 (g : Nat → Option Nat) (X : List zShp) (M : zMem) (x1 x2 x3 : Int32) (R : zEnd) (h : ((6 ≤ x3) → (R (some (.int x1)) (SHP g X) M)) ∧ ((¬ 6 ≤ x3) → ((vp_in x3 6) ∧ ((vp_in x3 6) ∧ (((((zms ((kTm M x3 x2).2) 30 (Int32.toNatClampNeg x3) ((kTm M x3 x2).1)) 30 (Int32.toNatClampNeg x3)) = (-6)) → (zRT m_Bread_serve 0 0 11 [(0, .ref 27), (1, .int x1), (2, .int x2), (3, .int (x3 + 1))] [] (SHP g X) (zms ((kTm M x3 x2).2) 30 (Int32.toNatClampNeg x3) ((kTm M x3 x2).1)) R)) ∧ ((¬ ((zms ((kTm M x3 x2).2) 30 (Int32.toNatClampNeg x3) ((kTm M x3 x2).1)) 30 (Int32.toNatClampNeg x3)) = (-6)) → (zRT m_Bread_serve 0 0 11 [(0, .ref 27), (1, .int x1), (2, .int (x2 + (-1))), (3, .int (x3 + 1))] [] (SHP g X) (zms ((kTm M x3 x2).2) 30 (Int32.toNatClampNeg x3) ((kTm M x3 x2).1)) R))))))) : zRT m_Bread_serve 0 0 11 [(0, .ref 27), (1, .int x1), (2, .int x2), (3, .int x3)] [] (SHP g X) M R := by
  refine zs_iload_n 3 d_Bread_serve_11 rfl (List.mem_of_getElem? (i := 3) rfl) ?_
  refine zs_bipush 6 d_Bread_serve_12 (by decide) ?_
  refine zs_icmp_ge 49 d_Bread_serve_14 (by decide) (fun c1 => ?_) (fun c1 => ?_)
  · replace h := h.1 c1
    refine zs_iload_n 1 d_Bread_serve_49 rfl (List.mem_of_getElem? (i := 1) rfl) ?_
    exact zs_iret d_Bread_serve_50 rfl h
  · replace h := h.2 c1
    refine zs_aload_n 0 d_Bread_serve_17 rfl (List.mem_of_getElem? (i := 0) rfl) ?_
    refine zs_get d_Bread_serve_18 gf_Bread_18 (sh_27 g X) rfl ?_
    refine zs_iload_n 3 d_Bread_serve_21 rfl (List.mem_of_getElem? (i := 3) rfl) ?_
    refine zs_aload_n 0 d_Bread_serve_22 rfl (List.mem_of_getElem? (i := 0) rfl) ?_
    refine zs_iload_n 3 d_Bread_serve_23 rfl (List.mem_of_getElem? (i := 3) rfl) ?_
    refine zs_iload_n 2 d_Bread_serve_24 rfl (List.mem_of_getElem? (i := 2) rfl) ?_
    obtain ⟨p2, h⟩ := h
    refine zs_callV (kc := 0) (ks := 0) (kc1 := 0) (ks1 := 0) (st := [.int x3, .ref 30]) [.int x3, .int x2] d_Bread_serve_25 lk_Bread_57 ⟨by decide, by decide⟩ rfl (sh_27 g X) rfl (Nat.le_of_ble_eq_true rfl) (ex_Bread_takeLeastMeal g X M x3 x2 p2) (fun v2 sh2 M2 hR => ?_)
    obtain ⟨rfl, rfl, rfl⟩ := hR
    obtain ⟨b3, h⟩ := h
    refine zs_iast d_Bread_serve_28 (sh_30 g X) b3 ?_
    refine zs_aload_n 0 d_Bread_serve_29 rfl (List.mem_of_getElem? (i := 0) rfl) ?_
    refine zs_get d_Bread_serve_30 gf_Bread_18 (sh_27 g X) rfl ?_
    refine zs_iload_n 3 d_Bread_serve_33 rfl (List.mem_of_getElem? (i := 3) rfl) ?_
    refine zs_iald d_Bread_serve_34 (sh_30 g X) b3 ?_
    refine zs_bipush (-6) d_Bread_serve_35 (by decide) ?_
    refine zs_icmp_eq 43 d_Bread_serve_37 (by decide) (fun c4 => ?_) (fun c4 => ?_)
    · replace h := h.1 c4
      refine zs_iinc2 3 (x3 + 1) [1, 2, 3, 0] [(0, .ref 27), (1, .int x1), (2, .int x2), (3, .int (x3 + 1))] d_Bread_serve_43 rfl rfl (by decide) rfl ?_
      refine zs_goto 11 d_Bread_serve_46 (by decide) ?_
      exact h
    · replace h := h.2 c4
      refine zs_iinc2 2 (x2 + (-1)) [1, 2, 0, 3] [(0, .ref 27), (1, .int x1), (2, .int (x2 + (-1))), (3, .int x3)] d_Bread_serve_40 rfl rfl (by decide) rfl ?_
      refine zs_iinc2 3 (x3 + 1) [1, 2, 3, 0] [(0, .ref 27), (1, .int x1), (2, .int (x2 + (-1))), (3, .int (x3 + 1))] d_Bread_serve_43 rfl rfl (by decide) rfl ?_
      refine zs_goto 11 d_Bread_serve_46 (by decide) ?_
      exact h
theorem ex_Bread_serve : zEx m_Bread_serve 0 0 [.ref 27] (SHP g X) M (qF g X (kMf M 63) (kServe M)) := by
  refine zEx_of _ (by decide) (by simp [Value.category]) (Nat.le_of_ble_eq_true rfl) rfl (v_Bread_serve_0 g X M _ ?_)
  have L : ∀ most n k still M1, k + n = 6 → zRT m_Bread_serve 0 0 11 [(0, .ref 27), (1, .int most), (2, .int still), (3, .int (nI k))] [] (SHP g X) M1 (qF g X most (kServen k n still M1)) := by
    intro most n
    induction n with
    | zero =>
      intro k still M1 hk
      exact v_Bread_serve_11 g X _ _ _ _ _ ⟨fun _ => qF_i rfl rfl, fun h => absurd (nI_le (a := 6) (by omega) (by omega)) h⟩
    | succ n ih =>
      intro k still M1 hk
      refine v_Bread_serve_11 g X _ _ _ _ _ ⟨fun h => absurd h (nI_ge (b := 6) (by omega) (by omega)), fun _ => ⟨vp_in_nI (by omega) (by decide), vp_in_nI (by omega) (by decide), ?_⟩⟩
      rw [nI_1, nI_clamp (by omega)]
      have ez : zms (kTm M1 (nI k) still).2 30 k (kTm M1 (nI k) still).1 30 k = (kTm M1 (nI k) still).1 := by simp [zms]
      rw [ez]
      refine ⟨fun h => ?_, fun h => ?_⟩
      · have ih := ih (k + 1) still (zms (kTm M1 (nI k) still).2 30 k (kTm M1 (nI k) still).1) (by omega)
        simpa [kServen, h] using ih
      · have ih := ih (k + 1) (still + (-1)) (zms (kTm M1 (nI k) still).2 30 k (kTm M1 (nI k) still).1) (by omega)
        simpa [kServen, h] using ih
  exact L _ 6 0 _ M rfl
theorem v_Bread_eats_0 (g : Nat → Option Nat) (X : List zShp) (M : zMem) (x1 : Int32) (R : zEnd) (h : zRT m_Bread_eats 0 0 2 [(0, .ref 27), (1, .int x1), (2, .int 0)] [] (SHP g X) M R) : zRT m_Bread_eats 0 0 0 [(0, .ref 27), (1, .int x1)] [] (SHP g X) M R := by
  refine zs_iconst 0 d_Bread_eats_0 (by decide) ?_
  refine zs_istore_n2 2 [1, 2, 0] [(0, .ref 27), (1, .int x1), (2, .int 0)] d_Bread_eats_1 rfl (by decide) rfl ?_
  exact h
theorem v_Bread_eats_2 (g : Nat → Option Nat) (X : List zShp) (M : zMem) (x1 x2 : Int32) (R : zEnd) (h : ((10 ≤ x2) → (R (some (.int 0)) (SHP g X) M)) ∧ ((¬ 10 ≤ x2) → ((vp_in x1 6) ∧ ((((hb (M 28 (Int32.toNatClampNeg x1)) x2) = false) → (zRT m_Bread_eats 0 0 2 [(0, .ref 27), (1, .int x1), (2, .int (x2 + 1))] [] (SHP g X) M R)) ∧ (((hb (M 28 (Int32.toNatClampNeg x1)) x2) = true) → ((vp_in x2 10) ∧ ((((M 29 (Int32.toNatClampNeg x2)) ≤ 0) → (zRT m_Bread_eats 0 0 2 [(0, .ref 27), (1, .int x1), (2, .int (x2 + 1))] [] (SHP g X) M R)) ∧ ((¬ (M 29 (Int32.toNatClampNeg x2)) ≤ 0) → (R (some (.int 1)) (SHP g X) (zms M 29 (Int32.toNatClampNeg x2) ((M 29 (Int32.toNatClampNeg x2)) - 1))))))))))) : zRT m_Bread_eats 0 0 2 [(0, .ref 27), (1, .int x1), (2, .int x2)] [] (SHP g X) M R := by
  refine zs_iload_n 2 d_Bread_eats_2 rfl (List.mem_of_getElem? (i := 2) rfl) ?_
  refine zs_bipush 10 d_Bread_eats_3 (by decide) ?_
  refine zs_icmp_ge 48 d_Bread_eats_5 (by decide) (fun c1 => ?_) (fun c1 => ?_)
  · replace h := h.1 c1
    refine zs_iconst 0 d_Bread_eats_48 (by decide) ?_
    exact zs_zret (by decide) d_Bread_eats_49 rfl h
  · replace h := h.2 c1
    refine zs_aload_n 0 d_Bread_eats_8 rfl (List.mem_of_getElem? (i := 0) rfl) ?_
    refine zs_get d_Bread_eats_9 gf_Bread_9 (sh_27 g X) rfl ?_
    refine zs_iload_n 1 d_Bread_eats_12 rfl (List.mem_of_getElem? (i := 1) rfl) ?_
    obtain ⟨b2, h⟩ := h
    refine zs_iald d_Bread_eats_13 (sh_28 g X) b2 ?_
    refine zs_iload_n 2 d_Bread_eats_14 rfl (List.mem_of_getElem? (i := 2) rfl) ?_
    refine zs_callSN (kc := 0) (ks := 0) (kc1 := 0) (ks1 := 0) (st := []) [.int (M 28 (Int32.toNatClampNeg x1)), .int x2] d_Bread_eats_15 lk_Bread_36 ⟨by decide, by decide⟩ rfl (Nat.le_of_ble_eq_true rfl) (ex_O_has g X M (M 28 (Int32.toNatClampNeg x1)) x2) (fun v3 sh3 M3 hR => ?_)
    obtain ⟨rfl, rfl, rfl⟩ := hR
    refine zs_if_eq 42 d_Bread_eats_18 (by decide) (fun c4 => ?_) (fun c4 => ?_)
    · replace h := h.1 (bI_0 c4)
      refine zs_iinc2 2 (x2 + 1) [1, 2, 0] [(0, .ref 27), (1, .int x1), (2, .int (x2 + 1))] d_Bread_eats_42 rfl rfl (by decide) rfl ?_
      refine zs_goto 2 d_Bread_eats_45 (by decide) ?_
      exact h
    · replace h := h.2 (bI_1 c4)
      refine zs_aload_n 0 d_Bread_eats_21 rfl (List.mem_of_getElem? (i := 0) rfl) ?_
      refine zs_get d_Bread_eats_22 gf_Bread_15 (sh_27 g X) rfl ?_
      refine zs_iload_n 2 d_Bread_eats_25 rfl (List.mem_of_getElem? (i := 2) rfl) ?_
      obtain ⟨b5, h⟩ := h
      refine zs_iald d_Bread_eats_26 (sh_29 g X) b5 ?_
      refine zs_if_le 42 d_Bread_eats_27 (by decide) (fun c6 => ?_) (fun c6 => ?_)
      · replace h := h.1 c6
        refine zs_iinc2 2 (x2 + 1) [1, 2, 0] [(0, .ref 27), (1, .int x1), (2, .int (x2 + 1))] d_Bread_eats_42 rfl rfl (by decide) rfl ?_
        refine zs_goto 2 d_Bread_eats_45 (by decide) ?_
        exact h
      · replace h := h.2 c6
        refine zs_aload_n 0 d_Bread_eats_30 rfl (List.mem_of_getElem? (i := 0) rfl) ?_
        refine zs_get d_Bread_eats_31 gf_Bread_15 (sh_27 g X) rfl ?_
        refine zs_iload_n 2 d_Bread_eats_34 rfl (List.mem_of_getElem? (i := 2) rfl) ?_
        refine zs_dup2 d_Bread_eats_35 rfl rfl ?_
        refine zs_iald d_Bread_eats_36 (sh_29 g X) b5 ?_
        refine zs_iconst 1 d_Bread_eats_37 (by decide) ?_
        refine zs_isub d_Bread_eats_38 ?_
        refine zs_iast d_Bread_eats_39 (sh_29 g X) b5 ?_
        refine zs_iconst 1 d_Bread_eats_40 (by decide) ?_
        exact zs_zret (by decide) d_Bread_eats_41 rfl h
theorem ex_Bread_eats (m : Int32) (hh : vp_in m 6) : zEx m_Bread_eats 0 0 [.ref 27, .int m] (SHP g X) M (qF g X (bI (kEat M m).1) (kEat M m).2) := by
  refine zEx_of _ (by decide) (by simp [Value.category]) (Nat.le_of_ble_eq_true rfl) rfl (v_Bread_eats_0 g X M m _ ?_)
  have L : ∀ n k, k + n = 10 → zRT m_Bread_eats 0 0 2 [(0, .ref 27), (1, .int m), (2, .int (nI k))] [] (SHP g X) M (qF g X (bI (kEatn M m k n).1) (kEatn M m k n).2) := by
    intro n
    induction n with
    | zero =>
      intro k hk
      exact v_Bread_eats_2 g X _ _ _ _ ⟨fun _ => qF_i rfl rfl, fun h => absurd (nI_le (a := 10) (by omega) (by omega)) h⟩
    | succ n ih =>
      intro k hk
      have ih := ih (k + 1) (by omega)
      refine v_Bread_eats_2 g X _ _ _ _ ⟨fun h => absurd h (nI_ge (b := 10) (by omega) (by omega)), fun _ => ⟨hh, ?_⟩⟩
      rw [nI_1, nI_clamp (by omega)]
      refine ⟨fun h => ?_, fun h => ⟨vp_in_nI (by omega) (by decide), fun h2 => ?_, fun h2 => ?_⟩⟩
      · simpa [kEatn, h] using ih
      · simpa [kEatn, h, h2] using ih
      · exact qF_i (by simp [kEatn, h, h2, bI]) (by simp [kEatn, h, h2])
  exact L 10 0 rfl
theorem v_Bread_live_0 (g : Nat → Option Nat) (X : List zShp) (M : zMem) (x1 x2 : Int32) (R : zEnd) (h : zRT m_Bread_live 0 0 8 [(0, .ref 27), (2, .int x2), (3, .int x1), (4, .int 0), (5, .int 0)] [] (SHP g X) M R) : zRT m_Bread_live 0 0 0 [(0, .ref 27), (1, .int x1), (2, .int x2)] [] (SHP g X) M R := by
  refine zs_iload_n 1 d_Bread_live_0 rfl (List.mem_of_getElem? (i := 1) rfl) ?_
  refine zs_istore_n2 3 [1, 2, 3, 0] [(0, .ref 27), (1, .int x1), (2, .int x2), (3, .int x1)] d_Bread_live_1 rfl (by decide) rfl ?_
  refine zs_iconst 0 d_Bread_live_2 (by decide) ?_
  refine zs_istore2 [1, 2, 3, 4, 0] [(0, .ref 27), (1, .int x1), (2, .int x2), (3, .int x1), (4, .int 0)] d_Bread_live_3 (by decide) rfl ?_
  refine zs_iconst 0 d_Bread_live_5 (by decide) ?_
  refine zs_istore2 [1, 2, 3, 4, 5, 0] [(0, .ref 27), (1, .int x1), (2, .int x2), (3, .int x1), (4, .int 0), (5, .int 0)] d_Bread_live_6 (by decide) rfl ?_
  exact zRT_sub [0, 2, 3, 4, 5] rfl h
theorem v_Bread_live_8 (g : Nat → Option Nat) (X : List zShp) (M : zMem) (x2 x3 x4 x5 : Int32) (R : zEnd) (h : ((x2 ≤ x5) → (R (some (.int x4)) (SHP g X) M)) ∧ ((¬ x2 ≤ x5) → ((vp_in (((((75 : Int32) * x3) + 74) - (((75 : Int32) * x3) + 74) / 65537 * 65537) - ((((75 : Int32) * x3) + 74) - (((75 : Int32) * x3) + 74) / 65537 * 65537) / 6 * 6) 6) ∧ ((((kEat M (((((75 : Int32) * x3) + 74) - (((75 : Int32) * x3) + 74) / 65537 * 65537) - ((((75 : Int32) * x3) + 74) - (((75 : Int32) * x3) + 74) / 65537 * 65537) / 6 * 6)).1 = false) → (zRT m_Bread_live 0 0 8 [(0, .ref 27), (2, .int x2), (3, .int ((((75 : Int32) * x3) + 74) - (((75 : Int32) * x3) + 74) / 65537 * 65537)), (4, .int x4), (5, .int (x5 + 1))] [] (SHP g X) ((kEat M (((((75 : Int32) * x3) + 74) - (((75 : Int32) * x3) + 74) / 65537 * 65537) - ((((75 : Int32) * x3) + 74) - (((75 : Int32) * x3) + 74) / 65537 * 65537) / 6 * 6)).2) R)) ∧ (((kEat M (((((75 : Int32) * x3) + 74) - (((75 : Int32) * x3) + 74) / 65537 * 65537) - ((((75 : Int32) * x3) + 74) - (((75 : Int32) * x3) + 74) / 65537 * 65537) / 6 * 6)).1 = true) → (zRT m_Bread_live 0 0 8 [(0, .ref 27), (2, .int x2), (3, .int ((((75 : Int32) * x3) + 74) - (((75 : Int32) * x3) + 74) / 65537 * 65537)), (4, .int (x4 + 1)), (5, .int (x5 + 1))] [] (SHP g X) ((kEat M (((((75 : Int32) * x3) + 74) - (((75 : Int32) * x3) + 74) / 65537 * 65537) - ((((75 : Int32) * x3) + 74) - (((75 : Int32) * x3) + 74) / 65537 * 65537) / 6 * 6)).2) R)))))) : zRT m_Bread_live 0 0 8 [(0, .ref 27), (2, .int x2), (3, .int x3), (4, .int x4), (5, .int x5)] [] (SHP g X) M R := by
  refine zs_iload d_Bread_live_8 (List.mem_of_getElem? (i := 4) rfl) ?_
  refine zs_iload_n 2 d_Bread_live_10 rfl (List.mem_of_getElem? (i := 1) rfl) ?_
  refine zs_icmp_ge 45 d_Bread_live_11 (by decide) (fun c1 => ?_) (fun c1 => ?_)
  · replace h := h.1 c1
    refine zs_iload d_Bread_live_45 (List.mem_of_getElem? (i := 3) rfl) ?_
    exact zs_iret d_Bread_live_47 rfl h
  · replace h := h.2 c1
    refine zs_bipush 75 d_Bread_live_14 (by decide) ?_
    refine zs_iload_n 3 d_Bread_live_16 rfl (List.mem_of_getElem? (i := 2) rfl) ?_
    refine zs_imul d_Bread_live_17 ?_
    refine zs_bipush 74 d_Bread_live_18 (by decide) ?_
    refine zs_iadd d_Bread_live_20 ?_
    refine zs_ldc (v := 65537) d_Bread_live_21 (by decide +kernel) ?_
    refine zs_irem d_Bread_live_23 (by decide) ?_
    refine zs_istore_n2 3 [1, 2, 0, 3, 4] [(0, .ref 27), (2, .int x2), (3, .int ((((75 : Int32) * x3) + 74) - (((75 : Int32) * x3) + 74) / 65537 * 65537)), (4, .int x4), (5, .int x5)] d_Bread_live_24 rfl (by decide) rfl ?_
    refine zs_aload_n 0 d_Bread_live_25 rfl (List.mem_of_getElem? (i := 0) rfl) ?_
    refine zs_iload_n 3 d_Bread_live_26 rfl (List.mem_of_getElem? (i := 2) rfl) ?_
    refine zs_bipush 6 d_Bread_live_27 (by decide) ?_
    refine zs_irem d_Bread_live_29 (by decide) ?_
    obtain ⟨p2, h⟩ := h
    refine zs_callV (kc := 0) (ks := 0) (kc1 := 0) (ks1 := 0) (st := []) [.int (((((75 : Int32) * x3) + 74) - (((75 : Int32) * x3) + 74) / 65537 * 65537) - ((((75 : Int32) * x3) + 74) - (((75 : Int32) * x3) + 74) / 65537 * 65537) / 6 * 6)] d_Bread_live_30 lk_Bread_61 ⟨by decide, by decide⟩ rfl (sh_27 g X) rfl (Nat.le_of_ble_eq_true rfl) (ex_Bread_eats g X M (((((75 : Int32) * x3) + 74) - (((75 : Int32) * x3) + 74) / 65537 * 65537) - ((((75 : Int32) * x3) + 74) - (((75 : Int32) * x3) + 74) / 65537 * 65537) / 6 * 6) p2) (fun v2 sh2 M2 hR => ?_)
    obtain ⟨rfl, rfl, rfl⟩ := hR
    refine zs_if_eq 39 d_Bread_live_33 (by decide) (fun c3 => ?_) (fun c3 => ?_)
    · replace h := h.1 (bI_0 c3)
      refine zs_iinc2 4 (x5 + 1) [1, 2, 3, 4, 0] [(0, .ref 27), (2, .int x2), (3, .int ((((75 : Int32) * x3) + 74) - (((75 : Int32) * x3) + 74) / 65537 * 65537)), (4, .int x4), (5, .int (x5 + 1))] d_Bread_live_39 rfl rfl (by decide) rfl ?_
      refine zs_goto 8 d_Bread_live_42 (by decide) ?_
      exact h
    · replace h := h.2 (bI_1 c3)
      refine zs_iinc2 3 (x4 + 1) [1, 2, 3, 0, 4] [(0, .ref 27), (2, .int x2), (3, .int ((((75 : Int32) * x3) + 74) - (((75 : Int32) * x3) + 74) / 65537 * 65537)), (4, .int (x4 + 1)), (5, .int x5)] d_Bread_live_36 rfl rfl (by decide) rfl ?_
      refine zs_iinc2 4 (x5 + 1) [1, 2, 3, 4, 0] [(0, .ref 27), (2, .int x2), (3, .int ((((75 : Int32) * x3) + 74) - (((75 : Int32) * x3) + 74) / 65537 * 65537)), (4, .int (x4 + 1)), (5, .int (x5 + 1))] d_Bread_live_39 rfl rfl (by decide) rfl ?_
      refine zs_goto 8 d_Bread_live_42 (by decide) ?_
      exact h
theorem kLive_x {a : Nat} (h : a < 65537) : (75 * nI a + 74) - (75 * nI a + 74) / 65537 * 65537 = nI ((75 * a + 74) % 65537) := by
  have e : (75 : Int32) * nI a + 74 = nI (75 * a + 74) := by
    rw [show (75 : Int32) = nI 75 from rfl, show (74 : Int32) = nI 74 from rfl, pk_mul, nI_add]
  rw [e, show (65537 : Int32) = nI 65537 from rfl, pk_rem (by omega) (by decide) (by decide)]
theorem kLive_6 {a : Nat} (h : a < 65537) : nI a - nI a / 6 * 6 = nI (a % 6) := by
  rw [show (6 : Int32) = nI 6 from rfl, pk_rem (by omega) (by decide) (by decide)]
theorem ex_Bread_live (s n : Int32) (hh : kSeed s n) : zEx m_Bread_live 0 0 [.ref 27, .int s, .int n] (SHP g X) M (qF g X (kLive M s n).1 (kLive M s n).2) := by
  refine zEx_of _ (by decide) (by simp [Value.category]) (Nat.le_of_ble_eq_true rfl) rfl (v_Bread_live_0 g X M s n _ ?_)
  obtain ⟨⟨a, ha, rfl⟩, b, hb, rfl⟩ := hh
  unfold kLive
  rw [nI_clamp (by omega), nI_clamp (by omega)]
  have L : ∀ d k x e M1, k + d = b → x < 65537 → zRT m_Bread_live 0 0 8 [(0, .ref 27), (2, .int (nI b)), (3, .int (nI x)), (4, .int e), (5, .int (nI k))] [] (SHP g X) M1 (qF g X (kLvn d x e M1).1 (kLvn d x e M1).2) := by
    intro d
    induction d with
    | zero =>
      intro k x e M1 hk hx
      exact v_Bread_live_8 g X _ _ _ _ _ _ ⟨fun _ => qF_i rfl rfl, fun h => absurd (nI_le (by omega) (by omega)) h⟩
    | succ d ih =>
      intro k x e M1 hk hx
      have hx2 : (75 * x + 74) % 65537 < 65537 := Nat.mod_lt _ (by decide)
      refine v_Bread_live_8 g X _ _ _ _ _ _ ⟨fun h => absurd h (nI_ge (by omega) (by omega)), fun _ => ?_⟩
      rw [nI_1, kLive_x hx, kLive_6 hx2]
      refine ⟨vp_in_nI (by omega) (by decide), fun h => ?_, fun h => ?_⟩
      · have ih := ih (k + 1) ((75 * x + 74) % 65537) e (kEat M1 (nI ((75 * x + 74) % 65537 % 6))).2 (by omega) hx2
        simpa [kLvn, h] using ih
      · have ih := ih (k + 1) ((75 * x + 74) % 65537) (e + 1) (kEat M1 (nI ((75 * x + 74) % 65537 % 6))).2 (by omega) hx2
        simpa [kLvn, h] using ih
  exact L b 0 a 0 M (by omega) (by omega)
end zC4
