/-! Bakers, Matchmaker -/
def kBfn (M : zMem) (e : Int32) : Nat → Int32
  | 0 => 63
  | n + 1 => if hb e (nI n) = true then kBfn M e n &&& kCpl M (nI n) else kBfn M e n
def kBfe (M : zMem) (e : Int32) : Int32 := kBfn M e 6
def kFeAn (M : zMem) (b c : Int32) : Nat → Bool
  | 0 => true
  | n + 1 => if bc (nI (n + 1)) ≤ c * bc (b &&& (kBfe M (nI (n + 1)) ^^^ (-1))) then kFeAn M b c n else false
def kFeA (M : zMem) (b c : Int32) : Bool := kFeAn M b c 63
def kFewn (M : zMem) (c : Int32) : Nat → Int32
  | 0 => -6
  | n + 1 => if kFewn M c n = -6 then (if kFeA M (nI (n + 1)) c = true then nI (n + 1) else kFewn M c n) else if bc (kFewn M c n) ≤ bc (nI (n + 1)) then kFewn M c n else if kFeA M (nI (n + 1)) c = true then nI (n + 1) else kFewn M c n
def kFew (M : zMem) (c : Int32) : Int32 := kFewn M c 63
def kSet (x : Int32) : Prop := ∃ n : Nat, n < 64 ∧ x = nI n
theorem kSet_and {x : Int32} (y : Int32) (h : kSet x) : kSet (x &&& y) := by
  obtain ⟨n, hn, rfl⟩ := h
  have e : nI n &&& 63 = nI n := by
    rw [pk_andN (by omega) 6 (by rfl), Nat.mod_eq_of_lt (by omega)]
  have e2 : nI n &&& y = (nI n &&& y) &&& 63 := by
    rw [Int32.and_assoc, Int32.and_comm y 63, ← Int32.and_assoc, e]
  obtain ⟨j, hj, ej⟩ := pk_andE (nI n &&& y) (m := 63) 6 (by rfl)
  exact ⟨j, hj, by rw [e2, ej]⟩
theorem kSet_or {x : Int32} {k : Nat} (hk : k < 6) (h : kSet x) : kSet (x ||| ((1 : Int32) <<< (nI k &&& 31))) := by
  obtain ⟨n, hn, rfl⟩ := h
  have e : ∀ k, k < 6 → ∀ n, n < 64 → (nI n ||| ((1 : Int32) <<< (nI k &&& 31))) = nI (n ||| 2 ^ k) ∧ n ||| 2 ^ k < 64 := by decide +kernel
  exact ⟨_, (e k hk n hn).2, (e k hk n hn).1⟩
theorem kSet_in {x : Int32} (h : kSet x) : vp_in x 64 := by
  obtain ⟨n, hn, rfl⟩ := h
  exact vp_in_nI hn (by decide)
theorem isM_in {x : Int32} (h : isM x = true) : vp_in x 6 := by
  simp only [isM, Bool.and_eq_true, Bool.not_eq_true', decide_eq_false_iff_not] at h
  obtain ⟨j, hj, e⟩ := nI_of h.1
  subst e
  have h2 := h.2
  rw [show (6 : Int32) = nI 6 from rfl, nI_leI (by decide) hj] at h2
  exact vp_in_nI (by omega) (by decide)
def kSWp (x1 x2 x3 : Int32) : Prop := kSet x1 ∧ vp_in x2 6 ∧ vp_in x3 6
def kSW (M : zMem) (x1 x2 x3 : Int32) : Int32 := bc (M 32 (Int32.toNatClampNeg x2) ^^^ M 32 (Int32.toNatClampNeg x3)) + M 33 (Int32.toNatClampNeg ((x1 &&& (((1 : Int32) <<< (x2 &&& 31)) ^^^ (-1))) &&& (((1 : Int32) <<< (x3 &&& 31)) ^^^ (-1))))
def kBOp (x1 x2 : Int32) : Prop := kSet x1 ∧ vp_in x2 6
def kBOn (M : zMem) (x1 x2 : Int32) : Nat → Nat → Int32 → Int32
  | _, 0, b => b
  | k, n + 1, b => if hb x1 (nI k) = true then (if b = -6 then kBOn M x1 x2 (k + 1) n (nI k) else if kSW M x1 x2 b ≤ kSW M x1 x2 (nI k) then kBOn M x1 x2 (k + 1) n b else kBOn M x1 x2 (k + 1) n (nI k)) else kBOn M x1 x2 (k + 1) n b
def kBO (M : zMem) (x1 x2 : Int32) : Int32 := kBOn M x1 x2 (Int32.toNatClampNeg x2 + 1) (5 - Int32.toNatClampNeg x2) (-6)
def kLSm (M : zMem) (x : Int32) : Int32 := if isM (kLO x) = true then (if isM (kBO M x (kLO x)) = true then kSW M x (kLO x) (kBO M x (kLO x)) else 0) else 0
def kSUn (s : Int32) : Nat → Nat → zMem → zMem
  | _, 0, M => M
  | k, n + 1, M => kSUn s (k + 1) n (if nI k &&& (s ^^^ (-1)) = 0 then (if bc (nI k) - bc (nI k) / 2 * 2 = 0 then zms M 33 k (kLSm M (nI k)) else M) else M)
def kSU (M : zMem) (s : Int32) : zMem := kSUn s 1 (Int32.toNatClampNeg s) M
def kChn : Nat → Nat → Int32 → zMem → zMem
  | _, 0, _, M => M
  | k, n + 1, x, M => if hb x (nI k) = true then (if isM (kBO M x (nI k)) = true then kChn (k + 1) n (x &&& ((((1 : Int32) <<< (nI k &&& 31)) ^^^ (-1)) &&& (((1 : Int32) <<< ((kBO M x (nI k)) &&& 31)) ^^^ (-1)))) (zms (zms M 34 k (kBO M x (nI k))) 34 (Int32.toNatClampNeg (kBO M x (nI k))) (nI k)) else kChn (k + 1) n x M) else kChn (k + 1) n x M
def kCh (M : zMem) (s : Int32) : zMem := kChn 0 6 s M
def kArn : Nat → Nat → Int32 → zMem → Int32 × zMem
  | _, 0, x, M => ((kCh (kSU M x) x) 33 (Int32.toNatClampNeg x), kCh (kSU M x) x)
  | k, n + 1, x, M => kArn (k + 1) n (if M 17 k = -6 then x ||| ((1 : Int32) <<< (nI k &&& 31)) else x) (zms (zms M 32 k (kTnt M (nI k))) 34 k (M 17 k))
def kArr (M : zMem) : Int32 × zMem := kArn 0 6 0 M
section zC5
variable (g : Nat → Option Nat) (X : List zShp) (M : zMem)
theorem v_Bakers_barredForEach_0 (g : Nat → Option Nat) (X : List zShp) (M : zMem) (x1 : Int32) (R : zEnd) (h : zRT m_Bakers_barredForEach 0 0 5 [(0, .ref 10), (1, .int x1), (2, .int 63), (3, .int 0)] [] (SHP g X) M R) : zRT m_Bakers_barredForEach 0 0 0 [(0, .ref 10), (1, .int x1)] [] (SHP g X) M R := by
  refine zs_bipush 63 d_Bakers_barredForEach_0 (by decide) ?_
  refine zs_istore_n2 2 [1, 2, 0] [(0, .ref 10), (1, .int x1), (2, .int 63)] d_Bakers_barredForEach_2 rfl (by decide) rfl ?_
  refine zs_iconst 0 d_Bakers_barredForEach_3 (by decide) ?_
  refine zs_istore_n2 3 [1, 2, 3, 0] [(0, .ref 10), (1, .int x1), (2, .int 63), (3, .int 0)] d_Bakers_barredForEach_4 rfl (by decide) rfl ?_
  exact h
theorem v_Bakers_barredForEach_5 (g : Nat → Option Nat) (X : List zShp) (M : zMem) (x1 x2 x3 : Int32) (R : zEnd) (h : ((6 ≤ x3) → (R (some (.int x2)) (SHP g X) M)) ∧ ((¬ 6 ≤ x3) → ((((hb x1 x3) = false) → (zRT m_Bakers_barredForEach 0 0 5 [(0, .ref 10), (1, .int x1), (2, .int x2), (3, .int (x3 + 1))] [] (SHP g X) M R)) ∧ (((hb x1 x3) = true) → ((vp_in x3 6) ∧ (zRT m_Bakers_barredForEach 0 0 5 [(0, .ref 10), (1, .int x1), (2, .int (x2 &&& (kCpl M x3))), (3, .int (x3 + 1))] [] (SHP g X) M R)))))) : zRT m_Bakers_barredForEach 0 0 5 [(0, .ref 10), (1, .int x1), (2, .int x2), (3, .int x3)] [] (SHP g X) M R := by
  refine zs_iload_n 3 d_Bakers_barredForEach_5 rfl (List.mem_of_getElem? (i := 3) rfl) ?_
  refine zs_bipush 6 d_Bakers_barredForEach_6 (by decide) ?_
  refine zs_icmp_ge 33 d_Bakers_barredForEach_8 (by decide) (fun c1 => ?_) (fun c1 => ?_)
  · replace h := h.1 c1
    refine zs_iload_n 2 d_Bakers_barredForEach_33 rfl (List.mem_of_getElem? (i := 2) rfl) ?_
    exact zs_iret d_Bakers_barredForEach_34 rfl h
  · replace h := h.2 c1
    refine zs_iload_n 1 d_Bakers_barredForEach_11 rfl (List.mem_of_getElem? (i := 1) rfl) ?_
    refine zs_iload_n 3 d_Bakers_barredForEach_12 rfl (List.mem_of_getElem? (i := 3) rfl) ?_
    refine zs_callSN (kc := 0) (ks := 0) (kc1 := 0) (ks1 := 0) (st := []) [.int x1, .int x3] d_Bakers_barredForEach_13 lk_Bakers_25 ⟨by decide, by decide⟩ rfl (Nat.le_of_ble_eq_true rfl) (ex_O_has g X M x1 x3) (fun v2 sh2 M2 hR => ?_)
    obtain ⟨rfl, rfl, rfl⟩ := hR
    refine zs_if_eq 27 d_Bakers_barredForEach_16 (by decide) (fun c3 => ?_) (fun c3 => ?_)
    · replace h := h.1 (bI_0 c3)
      refine zs_iinc2 3 (x3 + 1) [1, 2, 3, 0] [(0, .ref 10), (1, .int x1), (2, .int x2), (3, .int (x3 + 1))] d_Bakers_barredForEach_27 rfl rfl (by decide) rfl ?_
      refine zs_goto 5 d_Bakers_barredForEach_30 (by decide) ?_
      exact h
    · replace h := h.2 (bI_1 c3)
      refine zs_iload_n 2 d_Bakers_barredForEach_19 rfl (List.mem_of_getElem? (i := 2) rfl) ?_
      refine zs_aload_n 0 d_Bakers_barredForEach_20 rfl (List.mem_of_getElem? (i := 0) rfl) ?_
      refine zs_iload_n 3 d_Bakers_barredForEach_21 rfl (List.mem_of_getElem? (i := 3) rfl) ?_
      obtain ⟨p4, h⟩ := h
      refine zs_callV (kc := 0) (ks := 0) (kc1 := 0) (ks1 := 0) (st := [.int x2]) [.int x3] d_Bakers_barredForEach_22 lk_Bakers_29 ⟨by decide, by decide⟩ rfl (sh_10 g X) rfl (Nat.le_of_ble_eq_true rfl) (ex_Town_couple g X M x3 p4) (fun v4 sh4 M4 hR => ?_)
      obtain ⟨rfl, rfl, rfl⟩ := hR
      refine zs_iand d_Bakers_barredForEach_25 ?_
      refine zs_istore_n2 2 [1, 2, 0, 3] [(0, .ref 10), (1, .int x1), (2, .int (x2 &&& (kCpl M x3))), (3, .int x3)] d_Bakers_barredForEach_26 rfl (by decide) rfl ?_
      refine zs_iinc2 3 (x3 + 1) [1, 2, 3, 0] [(0, .ref 10), (1, .int x1), (2, .int (x2 &&& (kCpl M x3))), (3, .int (x3 + 1))] d_Bakers_barredForEach_27 rfl rfl (by decide) rfl ?_
      refine zs_goto 5 d_Bakers_barredForEach_30 (by decide) ?_
      exact h
theorem ex_Bakers_barredForEach (e : Int32) : zEx m_Bakers_barredForEach 0 0 [.ref 10, .int e] (SHP g X) M (qF g X (kBfe M e) M) := by
  refine zEx_of _ (by decide) (by simp [Value.category]) (Nat.le_of_ble_eq_true rfl) rfl (v_Bakers_barredForEach_0 g X M e _ ?_)
  have L : ∀ n k, k + n = 6 → zRT m_Bakers_barredForEach 0 0 5 [(0, .ref 10), (1, .int e), (2, .int (kBfn M e k)), (3, .int (nI k))] [] (SHP g X) M (qF g X (kBfe M e) M) := by
    intro n
    induction n with
    | zero =>
      intro k hk
      have e : k = 6 := by omega
      subst e
      exact v_Bakers_barredForEach_5 g X _ _ _ _ _ ⟨fun _ => qF_i rfl rfl, fun h => absurd (nI_le (a := 6) (by omega) (by omega)) h⟩
    | succ n ih =>
      intro k hk
      have ih := ih (k + 1) (by omega)
      refine v_Bakers_barredForEach_5 g X _ _ _ _ _ ⟨fun h => absurd h (nI_ge (b := 6) (by omega) (by omega)), fun _ => ?_⟩
      rw [nI_1]
      refine ⟨fun h => ?_, fun h => ⟨vp_in_nI (by omega) (by decide), ?_⟩⟩
      · simpa [kBfn, h] using ih
      · simpa [kBfn, h] using ih
  exact L 6 0 rfl
theorem v_Bakers_feedAll_0 (g : Nat → Option Nat) (X : List zShp) (M : zMem) (x1 x2 : Int32) (R : zEnd) (h : zRT m_Bakers_feedAll 0 0 3 [(0, .ref 10), (1, .int x1), (2, .int x2), (3, .int 63)] [] (SHP g X) M R) : zRT m_Bakers_feedAll 0 0 0 [(0, .ref 10), (1, .int x1), (2, .int x2)] [] (SHP g X) M R := by
  refine zs_bipush 63 d_Bakers_feedAll_0 (by decide) ?_
  refine zs_istore_n2 3 [1, 2, 3, 0] [(0, .ref 10), (1, .int x1), (2, .int x2), (3, .int 63)] d_Bakers_feedAll_2 rfl (by decide) rfl ?_
  exact h
theorem v_Bakers_feedAll_3 (g : Nat → Option Nat) (X : List zShp) (M : zMem) (x1 x2 x3 : Int32) (R : zEnd) (h : ((x3 ≤ 0) → (R (some (.int 1)) (SHP g X) M)) ∧ ((¬ x3 ≤ 0) → ((((bc x3) ≤ (x2 * (bc (x1 &&& ((kBfe M x3) ^^^ (-1)))))) → (zRT m_Bakers_feedAll 0 0 3 [(0, .ref 10), (1, .int x1), (2, .int x2), (3, .int (x3 + (-1)))] [] (SHP g X) M R)) ∧ ((¬ (bc x3) ≤ (x2 * (bc (x1 &&& ((kBfe M x3) ^^^ (-1)))))) → (R (some (.int 0)) (SHP g X) M))))) : zRT m_Bakers_feedAll 0 0 3 [(0, .ref 10), (1, .int x1), (2, .int x2), (3, .int x3)] [] (SHP g X) M R := by
  refine zs_iload_n 3 d_Bakers_feedAll_3 rfl (List.mem_of_getElem? (i := 3) rfl) ?_
  refine zs_if_le 40 d_Bakers_feedAll_4 (by decide) (fun c1 => ?_) (fun c1 => ?_)
  · replace h := h.1 c1
    refine zs_iconst 1 d_Bakers_feedAll_40 (by decide) ?_
    exact zs_zret (by decide) d_Bakers_feedAll_41 rfl h
  · replace h := h.2 c1
    refine zs_iload_n 1 d_Bakers_feedAll_7 rfl (List.mem_of_getElem? (i := 1) rfl) ?_
    refine zs_aload_n 0 d_Bakers_feedAll_8 rfl (List.mem_of_getElem? (i := 0) rfl) ?_
    refine zs_iload_n 3 d_Bakers_feedAll_9 rfl (List.mem_of_getElem? (i := 3) rfl) ?_
    refine zs_callS (kc := 0) (ks := 0) (kc1 := 0) (ks1 := 0) (st := [.int x1]) [.ref 10, .int x3] d_Bakers_feedAll_10 lk_Bakers_21 ⟨by decide, by decide⟩ rfl (Nat.le_of_ble_eq_true rfl) (ex_Bakers_barredForEach g X M x3) (fun v2 sh2 M2 hR => ?_)
    obtain ⟨rfl, rfl, rfl⟩ := hR
    refine zs_iconst (-1) d_Bakers_feedAll_13 (by decide) ?_
    refine zs_ixor d_Bakers_feedAll_14 ?_
    refine zs_iand d_Bakers_feedAll_15 ?_
    refine zs_istore2 [1, 2, 3, 4, 0] [(0, .ref 10), (1, .int x1), (2, .int x2), (3, .int x3), (4, .int (x1 &&& ((kBfe M x3) ^^^ (-1))))] d_Bakers_feedAll_16 (by decide) rfl ?_
    refine zs_iload_n 2 d_Bakers_feedAll_18 rfl (List.mem_of_getElem? (i := 2) rfl) ?_
    refine zs_iload d_Bakers_feedAll_19 (List.mem_of_getElem? (i := 4) rfl) ?_
    refine zs_callS (kc := 0) (ks := 0) (kc1 := 0) (ks1 := 0) (st := [.int x2]) [.int (x1 &&& ((kBfe M x3) ^^^ (-1)))] d_Bakers_feedAll_21 lk_Bakers_9 ⟨by decide, by decide⟩ rfl (Nat.le_of_ble_eq_true rfl) (ex_JI_bitCount g X M (x1 &&& ((kBfe M x3) ^^^ (-1)))) (fun v3 sh3 M3 hR => ?_)
    obtain ⟨rfl, rfl, rfl⟩ := hR
    refine zs_imul d_Bakers_feedAll_24 ?_
    refine zs_iload_n 3 d_Bakers_feedAll_25 rfl (List.mem_of_getElem? (i := 3) rfl) ?_
    refine zs_callS (kc := 0) (ks := 0) (kc1 := 0) (ks1 := 0) (st := [.int (x2 * (bc (x1 &&& ((kBfe M x3) ^^^ (-1)))))]) [.int x3] d_Bakers_feedAll_26 lk_Bakers_9 ⟨by decide, by decide⟩ rfl (Nat.le_of_ble_eq_true rfl) (ex_JI_bitCount g X M x3) (fun v4 sh4 M4 hR => ?_)
    obtain ⟨rfl, rfl, rfl⟩ := hR
    refine zs_icmp_ge 34 d_Bakers_feedAll_29 (by decide) (fun c5 => ?_) (fun c5 => ?_)
    · replace h := h.1 c5
      refine zs_iinc2 3 (x3 + (-1)) [1, 2, 3, 0, 4] [(0, .ref 10), (1, .int x1), (2, .int x2), (3, .int (x3 + (-1))), (4, .int (x1 &&& ((kBfe M x3) ^^^ (-1))))] d_Bakers_feedAll_34 rfl rfl (by decide) rfl ?_
      refine zs_goto 3 d_Bakers_feedAll_37 (by decide) ?_
      exact zRT_sub [0, 1, 2, 3] rfl h
    · replace h := h.2 c5
      refine zs_iconst 0 d_Bakers_feedAll_32 (by decide) ?_
      exact zs_zret (by decide) d_Bakers_feedAll_33 rfl h
theorem ex_Bakers_feedAll (b c : Int32) : zEx m_Bakers_feedAll 0 0 [.ref 10, .int b, .int c] (SHP g X) M (qF g X (bI (kFeA M b c)) M) := by
  refine zEx_of _ (by decide) (by simp [Value.category]) (Nat.le_of_ble_eq_true rfl) rfl (v_Bakers_feedAll_0 g X M b c _ ?_)
  have L : ∀ n, n ≤ 63 → zRT m_Bakers_feedAll 0 0 3 [(0, .ref 10), (1, .int b), (2, .int c), (3, .int (nI n))] [] (SHP g X) M (qF g X (bI (kFeAn M b c n)) M) := by
    intro n
    induction n with
    | zero =>
      intro _
      exact v_Bakers_feedAll_3 g X _ _ _ _ _ ⟨fun _ => qF_i rfl rfl, fun h => absurd (by decide) h⟩
    | succ n ih =>
      intro hn
      have ih := ih (by omega)
      refine v_Bakers_feedAll_3 g X _ _ _ _ _ ⟨fun h => absurd h (nI_nle (by omega) (by omega)), fun _ => ?_⟩
      rw [pk_m1]
      refine ⟨fun h => ?_, fun h => qF_i (by rw [kFeAn, if_neg h]; rfl) rfl⟩
      rw [kFeAn, if_pos h]
      exact ih
  exact L 63 (by omega)
theorem v_Bakers_fewest_0 (g : Nat → Option Nat) (X : List zShp) (M : zMem) (x1 : Int32) (R : zEnd) (h : zRT m_Bakers_fewest 0 0 5 [(0, .ref 10), (1, .int x1), (2, .int (-6)), (3, .int 1)] [] (SHP g X) M R) : zRT m_Bakers_fewest 0 0 0 [(0, .ref 10), (1, .int x1)] [] (SHP g X) M R := by
  refine zs_bipush (-6) d_Bakers_fewest_0 (by decide) ?_
  refine zs_istore_n2 2 [1, 2, 0] [(0, .ref 10), (1, .int x1), (2, .int (-6))] d_Bakers_fewest_2 rfl (by decide) rfl ?_
  refine zs_iconst 1 d_Bakers_fewest_3 (by decide) ?_
  refine zs_istore_n2 3 [1, 2, 3, 0] [(0, .ref 10), (1, .int x1), (2, .int (-6)), (3, .int 1)] d_Bakers_fewest_4 rfl (by decide) rfl ?_
  exact h
theorem v_Bakers_fewest_5 (g : Nat → Option Nat) (X : List zShp) (M : zMem) (x1 x2 x3 : Int32) (R : zEnd) (h : ((63 < x3) → (R (some (.int x2)) (SHP g X) M)) ∧ ((¬ 63 < x3) → (((x2 = (-6)) → ((((kFeA M x3 x1) = false) → (zRT m_Bakers_fewest 0 0 5 [(0, .ref 10), (1, .int x1), (2, .int x2), (3, .int (x3 + 1))] [] (SHP g X) M R)) ∧ (((kFeA M x3 x1) = true) → (zRT m_Bakers_fewest 0 0 5 [(0, .ref 10), (1, .int x1), (2, .int x3), (3, .int (x3 + 1))] [] (SHP g X) M R)))) ∧ ((¬ x2 = (-6)) → ((((bc x2) ≤ (bc x3)) → (zRT m_Bakers_fewest 0 0 5 [(0, .ref 10), (1, .int x1), (2, .int x2), (3, .int (x3 + 1))] [] (SHP g X) M R)) ∧ ((¬ (bc x2) ≤ (bc x3)) → ((((kFeA M x3 x1) = false) → (zRT m_Bakers_fewest 0 0 5 [(0, .ref 10), (1, .int x1), (2, .int x2), (3, .int (x3 + 1))] [] (SHP g X) M R)) ∧ (((kFeA M x3 x1) = true) → (zRT m_Bakers_fewest 0 0 5 [(0, .ref 10), (1, .int x1), (2, .int x3), (3, .int (x3 + 1))] [] (SHP g X) M R))))))))) : zRT m_Bakers_fewest 0 0 5 [(0, .ref 10), (1, .int x1), (2, .int x2), (3, .int x3)] [] (SHP g X) M R := by
  refine zs_iload_n 3 d_Bakers_fewest_5 rfl (List.mem_of_getElem? (i := 3) rfl) ?_
  refine zs_bipush 63 d_Bakers_fewest_6 (by decide) ?_
  refine zs_icmp_gt 57 d_Bakers_fewest_8 (by decide) (fun c1 => ?_) (fun c1 => ?_)
  · replace h := h.1 c1
    refine zs_iload_n 2 d_Bakers_fewest_57 rfl (List.mem_of_getElem? (i := 2) rfl) ?_
    exact zs_iret d_Bakers_fewest_58 rfl h
  · replace h := h.2 c1
    refine zs_iload_n 2 d_Bakers_fewest_11 rfl (List.mem_of_getElem? (i := 2) rfl) ?_
    refine zs_bipush (-6) d_Bakers_fewest_12 (by decide) ?_
    refine zs_icmp_eq 28 d_Bakers_fewest_14 (by decide) (fun c2 => ?_) (fun c2 => ?_)
    · replace h := h.1 c2
      refine zs_iconst 1 d_Bakers_fewest_28 (by decide) ?_
      refine zs_goto 33 d_Bakers_fewest_29 (by decide) ?_
      refine zs_istore2 [1, 2, 3, 4, 0] [(0, .ref 10), (1, .int x1), (2, .int x2), (3, .int x3), (4, .int 1)] d_Bakers_fewest_33 (by decide) rfl ?_
      refine zs_iload d_Bakers_fewest_35 (List.mem_of_getElem? (i := 4) rfl) ?_
      refine zs_if_eq 51 d_Bakers_fewest_37 (by decide) (fun c => absurd c (by decide)) (fun _ => ?_)
      refine zs_aload_n 0 d_Bakers_fewest_40 rfl (List.mem_of_getElem? (i := 0) rfl) ?_
      refine zs_iload_n 3 d_Bakers_fewest_41 rfl (List.mem_of_getElem? (i := 3) rfl) ?_
      refine zs_iload_n 1 d_Bakers_fewest_42 rfl (List.mem_of_getElem? (i := 1) rfl) ?_
      refine zs_callS (kc := 0) (ks := 0) (kc1 := 0) (ks1 := 0) (st := []) [.ref 10, .int x3, .int x1] d_Bakers_fewest_43 lk_Bakers_15 ⟨by decide, by decide⟩ rfl (Nat.le_of_ble_eq_true rfl) (ex_Bakers_feedAll g X M x3 x1) (fun v3 sh3 M3 hR => ?_)
      obtain ⟨rfl, rfl, rfl⟩ := hR
      refine zs_if_eq 51 d_Bakers_fewest_46 (by decide) (fun c4 => ?_) (fun c4 => ?_)
      · replace h := h.1 (bI_0 c4)
        refine zs_iinc2 3 (x3 + 1) [1, 2, 3, 0, 4] [(0, .ref 10), (1, .int x1), (2, .int x2), (3, .int (x3 + 1)), (4, .int 1)] d_Bakers_fewest_51 rfl rfl (by decide) rfl ?_
        refine zs_goto 5 d_Bakers_fewest_54 (by decide) ?_
        exact zRT_sub [0, 1, 2, 3] rfl h
      · replace h := h.2 (bI_1 c4)
        refine zs_iload_n 3 d_Bakers_fewest_49 rfl (List.mem_of_getElem? (i := 3) rfl) ?_
        refine zs_istore_n2 2 [1, 2, 0, 3, 4] [(0, .ref 10), (1, .int x1), (2, .int x3), (3, .int x3), (4, .int 1)] d_Bakers_fewest_50 rfl (by decide) rfl ?_
        refine zs_iinc2 3 (x3 + 1) [1, 2, 3, 0, 4] [(0, .ref 10), (1, .int x1), (2, .int x3), (3, .int (x3 + 1)), (4, .int 1)] d_Bakers_fewest_51 rfl rfl (by decide) rfl ?_
        refine zs_goto 5 d_Bakers_fewest_54 (by decide) ?_
        exact zRT_sub [0, 1, 2, 3] rfl h
    · replace h := h.2 c2
      refine zs_iload_n 3 d_Bakers_fewest_17 rfl (List.mem_of_getElem? (i := 3) rfl) ?_
      refine zs_callS (kc := 0) (ks := 0) (kc1 := 0) (ks1 := 0) (st := []) [.int x3] d_Bakers_fewest_18 lk_Bakers_9 ⟨by decide, by decide⟩ rfl (Nat.le_of_ble_eq_true rfl) (ex_JI_bitCount g X M x3) (fun v5 sh5 M5 hR => ?_)
      obtain ⟨rfl, rfl, rfl⟩ := hR
      refine zs_iload_n 2 d_Bakers_fewest_21 rfl (List.mem_of_getElem? (i := 2) rfl) ?_
      refine zs_callS (kc := 0) (ks := 0) (kc1 := 0) (ks1 := 0) (st := [.int (bc x3)]) [.int x2] d_Bakers_fewest_22 lk_Bakers_9 ⟨by decide, by decide⟩ rfl (Nat.le_of_ble_eq_true rfl) (ex_JI_bitCount g X M x2) (fun v6 sh6 M6 hR => ?_)
      obtain ⟨rfl, rfl, rfl⟩ := hR
      refine zs_icmp_ge 32 d_Bakers_fewest_25 (by decide) (fun c7 => ?_) (fun c7 => ?_)
      · replace h := h.1 c7
        refine zs_iconst 0 d_Bakers_fewest_32 (by decide) ?_
        refine zs_istore2 [1, 2, 3, 4, 0] [(0, .ref 10), (1, .int x1), (2, .int x2), (3, .int x3), (4, .int 0)] d_Bakers_fewest_33 (by decide) rfl ?_
        refine zs_iload d_Bakers_fewest_35 (List.mem_of_getElem? (i := 4) rfl) ?_
        refine zs_if_eq 51 d_Bakers_fewest_37 (by decide) (fun _ => ?_) (fun c => absurd c (by decide))
        refine zs_iinc2 3 (x3 + 1) [1, 2, 3, 0, 4] [(0, .ref 10), (1, .int x1), (2, .int x2), (3, .int (x3 + 1)), (4, .int 0)] d_Bakers_fewest_51 rfl rfl (by decide) rfl ?_
        refine zs_goto 5 d_Bakers_fewest_54 (by decide) ?_
        exact zRT_sub [0, 1, 2, 3] rfl h
      · replace h := h.2 c7
        refine zs_iconst 1 d_Bakers_fewest_28 (by decide) ?_
        refine zs_goto 33 d_Bakers_fewest_29 (by decide) ?_
        refine zs_istore2 [1, 2, 3, 4, 0] [(0, .ref 10), (1, .int x1), (2, .int x2), (3, .int x3), (4, .int 1)] d_Bakers_fewest_33 (by decide) rfl ?_
        refine zs_iload d_Bakers_fewest_35 (List.mem_of_getElem? (i := 4) rfl) ?_
        refine zs_if_eq 51 d_Bakers_fewest_37 (by decide) (fun c => absurd c (by decide)) (fun _ => ?_)
        refine zs_aload_n 0 d_Bakers_fewest_40 rfl (List.mem_of_getElem? (i := 0) rfl) ?_
        refine zs_iload_n 3 d_Bakers_fewest_41 rfl (List.mem_of_getElem? (i := 3) rfl) ?_
        refine zs_iload_n 1 d_Bakers_fewest_42 rfl (List.mem_of_getElem? (i := 1) rfl) ?_
        refine zs_callS (kc := 0) (ks := 0) (kc1 := 0) (ks1 := 0) (st := []) [.ref 10, .int x3, .int x1] d_Bakers_fewest_43 lk_Bakers_15 ⟨by decide, by decide⟩ rfl (Nat.le_of_ble_eq_true rfl) (ex_Bakers_feedAll g X M x3 x1) (fun v8 sh8 M8 hR => ?_)
        obtain ⟨rfl, rfl, rfl⟩ := hR
        refine zs_if_eq 51 d_Bakers_fewest_46 (by decide) (fun c9 => ?_) (fun c9 => ?_)
        · replace h := h.1 (bI_0 c9)
          refine zs_iinc2 3 (x3 + 1) [1, 2, 3, 0, 4] [(0, .ref 10), (1, .int x1), (2, .int x2), (3, .int (x3 + 1)), (4, .int 1)] d_Bakers_fewest_51 rfl rfl (by decide) rfl ?_
          refine zs_goto 5 d_Bakers_fewest_54 (by decide) ?_
          exact zRT_sub [0, 1, 2, 3] rfl h
        · replace h := h.2 (bI_1 c9)
          refine zs_iload_n 3 d_Bakers_fewest_49 rfl (List.mem_of_getElem? (i := 3) rfl) ?_
          refine zs_istore_n2 2 [1, 2, 0, 3, 4] [(0, .ref 10), (1, .int x1), (2, .int x3), (3, .int x3), (4, .int 1)] d_Bakers_fewest_50 rfl (by decide) rfl ?_
          refine zs_iinc2 3 (x3 + 1) [1, 2, 3, 0, 4] [(0, .ref 10), (1, .int x1), (2, .int x3), (3, .int (x3 + 1)), (4, .int 1)] d_Bakers_fewest_51 rfl rfl (by decide) rfl ?_
          refine zs_goto 5 d_Bakers_fewest_54 (by decide) ?_
          exact zRT_sub [0, 1, 2, 3] rfl h
theorem ex_Bakers_fewest (c : Int32) : zEx m_Bakers_fewest 0 0 [.ref 10, .int c] (SHP g X) M (qF g X (kFew M c) M) := by
  refine zEx_of _ (by decide) (by simp [Value.category]) (Nat.le_of_ble_eq_true rfl) rfl (v_Bakers_fewest_0 g X M c _ ?_)
  have L : ∀ n k, k + n = 63 → zRT m_Bakers_fewest 0 0 5 [(0, .ref 10), (1, .int c), (2, .int (kFewn M c k)), (3, .int (nI (k + 1)))] [] (SHP g X) M (qF g X (kFew M c) M) := by
    intro n
    induction n with
    | zero =>
      intro k hk
      have e : k = 63 := by omega
      subst e
      exact v_Bakers_fewest_5 g X _ _ _ _ _ ⟨fun _ => qF_i rfl rfl, fun h => absurd (nI_lt (a := 63) (by omega) (by omega)) h⟩
    | succ n ih =>
      intro k hk
      have ih := ih (k + 1) (by omega)
      refine v_Bakers_fewest_5 g X _ _ _ _ _ ⟨fun h => absurd h (nI_nlt (a := 63) (by omega) (by omega)), fun _ => ?_⟩
      rw [nI_1]
      refine ⟨fun h => ⟨fun h2 => ?_, fun h2 => ?_⟩, fun h => ⟨fun h2 => ?_, fun h2 => ⟨fun h3 => ?_, fun h3 => ?_⟩⟩⟩
      · simpa only [kFewn, if_pos h, h2, Bool.false_eq_true, if_false] using ih
      · simpa only [kFewn, if_pos h, h2, if_true] using ih
      · simpa only [kFewn, if_neg h, if_pos h2] using ih
      · simpa only [kFewn, if_neg h, if_neg h2, h3, Bool.false_eq_true, if_false] using ih
      · simpa only [kFewn, if_neg h, if_neg h2, h3, if_true] using ih
  exact L 63 0 rfl
theorem v_Matchmaker_sumWith_0 (g : Nat → Option Nat) (X : List zShp) (M : zMem) (x1 x2 x3 : Int32) (R : zEnd) (h : (vp_in x2 6) ∧ ((vp_in x3 6) ∧ ((vp_in ((x1 &&& (((1 : Int32) <<< (x2 &&& 31)) ^^^ (-1))) &&& (((1 : Int32) <<< (x3 &&& 31)) ^^^ (-1))) 64) ∧ (R (some (.int ((bc ((M 32 (Int32.toNatClampNeg x2)) ^^^ (M 32 (Int32.toNatClampNeg x3)))) + (M 33 (Int32.toNatClampNeg ((x1 &&& (((1 : Int32) <<< (x2 &&& 31)) ^^^ (-1))) &&& (((1 : Int32) <<< (x3 &&& 31)) ^^^ (-1)))))))) (SHP g X) M)))) : zRT m_Matchmaker_sumWith 0 0 0 [(0, .ref 31), (1, .int x1), (2, .int x2), (3, .int x3)] [] (SHP g X) M R := by
  refine zs_aload_n 0 d_Matchmaker_sumWith_0 rfl (List.mem_of_getElem? (i := 0) rfl) ?_
  refine zs_get d_Matchmaker_sumWith_1 gf_Matchmaker_9 (sh_31 g X) rfl ?_
  refine zs_iload_n 2 d_Matchmaker_sumWith_4 rfl (List.mem_of_getElem? (i := 2) rfl) ?_
  obtain ⟨b1, h⟩ := h
  refine zs_iald d_Matchmaker_sumWith_5 (sh_32 g X) b1 ?_
  refine zs_aload_n 0 d_Matchmaker_sumWith_6 rfl (List.mem_of_getElem? (i := 0) rfl) ?_
  refine zs_get d_Matchmaker_sumWith_7 gf_Matchmaker_9 (sh_31 g X) rfl ?_
  refine zs_iload_n 3 d_Matchmaker_sumWith_10 rfl (List.mem_of_getElem? (i := 3) rfl) ?_
  obtain ⟨b2, h⟩ := h
  refine zs_iald d_Matchmaker_sumWith_11 (sh_32 g X) b2 ?_
  refine zs_ixor d_Matchmaker_sumWith_12 ?_
  refine zs_callS (kc := 0) (ks := 0) (kc1 := 0) (ks1 := 0) (st := []) [.int ((M 32 (Int32.toNatClampNeg x2)) ^^^ (M 32 (Int32.toNatClampNeg x3)))] d_Matchmaker_sumWith_13 lk_Matchmaker_37 ⟨by decide, by decide⟩ rfl (Nat.le_of_ble_eq_true rfl) (ex_JI_bitCount g X M ((M 32 (Int32.toNatClampNeg x2)) ^^^ (M 32 (Int32.toNatClampNeg x3)))) (fun v3 sh3 M3 hR => ?_)
  obtain ⟨rfl, rfl, rfl⟩ := hR
  refine zs_istore2 [1, 2, 3, 4, 0] [(0, .ref 31), (1, .int x1), (2, .int x2), (3, .int x3), (4, .int (bc ((M 32 (Int32.toNatClampNeg x2)) ^^^ (M 32 (Int32.toNatClampNeg x3)))))] d_Matchmaker_sumWith_16 (by decide) rfl ?_
  refine zs_iload d_Matchmaker_sumWith_18 (List.mem_of_getElem? (i := 4) rfl) ?_
  refine zs_aload_n 0 d_Matchmaker_sumWith_20 rfl (List.mem_of_getElem? (i := 0) rfl) ?_
  refine zs_get d_Matchmaker_sumWith_21 gf_Matchmaker_15 (sh_31 g X) rfl ?_
  refine zs_iload_n 1 d_Matchmaker_sumWith_24 rfl (List.mem_of_getElem? (i := 1) rfl) ?_
  refine zs_iconst 1 d_Matchmaker_sumWith_25 (by decide) ?_
  refine zs_iload_n 2 d_Matchmaker_sumWith_26 rfl (List.mem_of_getElem? (i := 2) rfl) ?_
  refine zs_ishl d_Matchmaker_sumWith_27 ?_
  refine zs_iconst (-1) d_Matchmaker_sumWith_28 (by decide) ?_
  refine zs_ixor d_Matchmaker_sumWith_29 ?_
  refine zs_iand d_Matchmaker_sumWith_30 ?_
  refine zs_iconst 1 d_Matchmaker_sumWith_31 (by decide) ?_
  refine zs_iload_n 3 d_Matchmaker_sumWith_32 rfl (List.mem_of_getElem? (i := 3) rfl) ?_
  refine zs_ishl d_Matchmaker_sumWith_33 ?_
  refine zs_iconst (-1) d_Matchmaker_sumWith_34 (by decide) ?_
  refine zs_ixor d_Matchmaker_sumWith_35 ?_
  refine zs_iand d_Matchmaker_sumWith_36 ?_
  obtain ⟨b4, h⟩ := h
  refine zs_iald d_Matchmaker_sumWith_37 (sh_33 g X) b4 ?_
  refine zs_iadd d_Matchmaker_sumWith_38 ?_
  exact zs_iret d_Matchmaker_sumWith_39 rfl h
theorem ex_Matchmaker_sumWith (x1 x2 x3 : Int32) (hh : kSWp x1 x2 x3) : zEx m_Matchmaker_sumWith 0 0 [.ref 31, .int x1, .int x2, .int x3] (SHP g X) M (qF g X (kSW M x1 x2 x3) M) :=
  zEx_of _ (by decide) (by simp [Value.category]) (Nat.le_of_ble_eq_true rfl) rfl (v_Matchmaker_sumWith_0 g X M x1 x2 x3 _ ⟨hh.2.1, hh.2.2, kSet_in (kSet_and _ (kSet_and _ hh.1)), qF_i rfl rfl⟩)
theorem v_Matchmaker_bestOther_0 (g : Nat → Option Nat) (X : List zShp) (M : zMem) (x1 x2 : Int32) (R : zEnd) (h : zRT m_Matchmaker_bestOther 0 0 8 [(0, .ref 31), (1, .int x1), (2, .int x2), (3, .int (-6)), (4, .int (x2 + 1))] [] (SHP g X) M R) : zRT m_Matchmaker_bestOther 0 0 0 [(0, .ref 31), (1, .int x1), (2, .int x2)] [] (SHP g X) M R := by
  refine zs_bipush (-6) d_Matchmaker_bestOther_0 (by decide) ?_
  refine zs_istore_n2 3 [1, 2, 3, 0] [(0, .ref 31), (1, .int x1), (2, .int x2), (3, .int (-6))] d_Matchmaker_bestOther_2 rfl (by decide) rfl ?_
  refine zs_iload_n 2 d_Matchmaker_bestOther_3 rfl (List.mem_of_getElem? (i := 2) rfl) ?_
  refine zs_iconst 1 d_Matchmaker_bestOther_4 (by decide) ?_
  refine zs_iadd d_Matchmaker_bestOther_5 ?_
  refine zs_istore2 [1, 2, 3, 4, 0] [(0, .ref 31), (1, .int x1), (2, .int x2), (3, .int (-6)), (4, .int (x2 + 1))] d_Matchmaker_bestOther_6 (by decide) rfl ?_
  exact h
theorem v_Matchmaker_bestOther_8 (g : Nat → Option Nat) (X : List zShp) (M : zMem) (x1 x2 x3 x4 : Int32) (R : zEnd) (h : ((6 ≤ x4) → (R (some (.int x3)) (SHP g X) M)) ∧ ((¬ 6 ≤ x4) → ((((hb x1 x4) = false) → (zRT m_Matchmaker_bestOther 0 0 8 [(0, .ref 31), (1, .int x1), (2, .int x2), (3, .int x3), (4, .int (x4 + 1))] [] (SHP g X) M R)) ∧ (((hb x1 x4) = true) → (((x3 = (-6)) → (zRT m_Matchmaker_bestOther 0 0 8 [(0, .ref 31), (1, .int x1), (2, .int x2), (3, .int x4), (4, .int (x4 + 1))] [] (SHP g X) M R)) ∧ ((¬ x3 = (-6)) → ((kSWp x1 x2 x4) ∧ ((kSWp x1 x2 x3) ∧ ((((kSW M x1 x2 x3) ≤ (kSW M x1 x2 x4)) → (zRT m_Matchmaker_bestOther 0 0 8 [(0, .ref 31), (1, .int x1), (2, .int x2), (3, .int x3), (4, .int (x4 + 1))] [] (SHP g X) M R)) ∧ ((¬ (kSW M x1 x2 x3) ≤ (kSW M x1 x2 x4)) → (zRT m_Matchmaker_bestOther 0 0 8 [(0, .ref 31), (1, .int x1), (2, .int x2), (3, .int x4), (4, .int (x4 + 1))] [] (SHP g X) M R))))))))))) : zRT m_Matchmaker_bestOther 0 0 8 [(0, .ref 31), (1, .int x1), (2, .int x2), (3, .int x3), (4, .int x4)] [] (SHP g X) M R := by
  refine zs_iload d_Matchmaker_bestOther_8 (List.mem_of_getElem? (i := 4) rfl) ?_
  refine zs_bipush 6 d_Matchmaker_bestOther_10 (by decide) ?_
  refine zs_icmp_ge 57 d_Matchmaker_bestOther_12 (by decide) (fun c1 => ?_) (fun c1 => ?_)
  · replace h := h.1 c1
    refine zs_iload_n 3 d_Matchmaker_bestOther_57 rfl (List.mem_of_getElem? (i := 3) rfl) ?_
    exact zs_iret d_Matchmaker_bestOther_58 rfl h
  · replace h := h.2 c1
    refine zs_iload_n 1 d_Matchmaker_bestOther_15 rfl (List.mem_of_getElem? (i := 1) rfl) ?_
    refine zs_iload d_Matchmaker_bestOther_16 (List.mem_of_getElem? (i := 4) rfl) ?_
    refine zs_callSN (kc := 0) (ks := 0) (kc1 := 0) (ks1 := 0) (st := []) [.int x1, .int x4] d_Matchmaker_bestOther_18 lk_Matchmaker_60 ⟨by decide, by decide⟩ rfl (Nat.le_of_ble_eq_true rfl) (ex_O_has g X M x1 x4) (fun v2 sh2 M2 hR => ?_)
    obtain ⟨rfl, rfl, rfl⟩ := hR
    refine zs_if_eq 51 d_Matchmaker_bestOther_21 (by decide) (fun c3 => ?_) (fun c3 => ?_)
    · replace h := h.1 (bI_0 c3)
      refine zs_iinc2 4 (x4 + 1) [1, 2, 3, 4, 0] [(0, .ref 31), (1, .int x1), (2, .int x2), (3, .int x3), (4, .int (x4 + 1))] d_Matchmaker_bestOther_51 rfl rfl (by decide) rfl ?_
      refine zs_goto 8 d_Matchmaker_bestOther_54 (by decide) ?_
      exact h
    · replace h := h.2 (bI_1 c3)
      refine zs_iload_n 3 d_Matchmaker_bestOther_24 rfl (List.mem_of_getElem? (i := 3) rfl) ?_
      refine zs_bipush (-6) d_Matchmaker_bestOther_25 (by decide) ?_
      refine zs_icmp_eq 48 d_Matchmaker_bestOther_27 (by decide) (fun c4 => ?_) (fun c4 => ?_)
      · replace h := h.1 c4
        refine zs_iload d_Matchmaker_bestOther_48 (List.mem_of_getElem? (i := 4) rfl) ?_
        refine zs_istore_n2 3 [1, 2, 3, 0, 4] [(0, .ref 31), (1, .int x1), (2, .int x2), (3, .int x4), (4, .int x4)] d_Matchmaker_bestOther_50 rfl (by decide) rfl ?_
        refine zs_iinc2 4 (x4 + 1) [1, 2, 3, 4, 0] [(0, .ref 31), (1, .int x1), (2, .int x2), (3, .int x4), (4, .int (x4 + 1))] d_Matchmaker_bestOther_51 rfl rfl (by decide) rfl ?_
        refine zs_goto 8 d_Matchmaker_bestOther_54 (by decide) ?_
        exact h
      · replace h := h.2 c4
        refine zs_aload_n 0 d_Matchmaker_bestOther_30 rfl (List.mem_of_getElem? (i := 0) rfl) ?_
        refine zs_iload_n 1 d_Matchmaker_bestOther_31 rfl (List.mem_of_getElem? (i := 1) rfl) ?_
        refine zs_iload_n 2 d_Matchmaker_bestOther_32 rfl (List.mem_of_getElem? (i := 2) rfl) ?_
        refine zs_iload d_Matchmaker_bestOther_33 (List.mem_of_getElem? (i := 4) rfl) ?_
        obtain ⟨p5, h⟩ := h
        refine zs_callV (kc := 0) (ks := 0) (kc1 := 0) (ks1 := 0) (st := []) [.int x1, .int x2, .int x4] d_Matchmaker_bestOther_35 lk_Matchmaker_56 ⟨by decide, by decide⟩ rfl (sh_31 g X) rfl (Nat.le_of_ble_eq_true rfl) (ex_Matchmaker_sumWith g X M x1 x2 x4 p5) (fun v5 sh5 M5 hR => ?_)
        obtain ⟨rfl, rfl, rfl⟩ := hR
        refine zs_aload_n 0 d_Matchmaker_bestOther_38 rfl (List.mem_of_getElem? (i := 0) rfl) ?_
        refine zs_iload_n 1 d_Matchmaker_bestOther_39 rfl (List.mem_of_getElem? (i := 1) rfl) ?_
        refine zs_iload_n 2 d_Matchmaker_bestOther_40 rfl (List.mem_of_getElem? (i := 2) rfl) ?_
        refine zs_iload_n 3 d_Matchmaker_bestOther_41 rfl (List.mem_of_getElem? (i := 3) rfl) ?_
        obtain ⟨p6, h⟩ := h
        refine zs_callV (kc := 0) (ks := 0) (kc1 := 0) (ks1 := 0) (st := [.int (kSW M x1 x2 x4)]) [.int x1, .int x2, .int x3] d_Matchmaker_bestOther_42 lk_Matchmaker_56 ⟨by decide, by decide⟩ rfl (sh_31 g X) rfl (Nat.le_of_ble_eq_true rfl) (ex_Matchmaker_sumWith g X M x1 x2 x3 p6) (fun v6 sh6 M6 hR => ?_)
        obtain ⟨rfl, rfl, rfl⟩ := hR
        refine zs_icmp_ge 51 d_Matchmaker_bestOther_45 (by decide) (fun c7 => ?_) (fun c7 => ?_)
        · replace h := h.1 c7
          refine zs_iinc2 4 (x4 + 1) [1, 2, 3, 4, 0] [(0, .ref 31), (1, .int x1), (2, .int x2), (3, .int x3), (4, .int (x4 + 1))] d_Matchmaker_bestOther_51 rfl rfl (by decide) rfl ?_
          refine zs_goto 8 d_Matchmaker_bestOther_54 (by decide) ?_
          exact h
        · replace h := h.2 c7
          refine zs_iload d_Matchmaker_bestOther_48 (List.mem_of_getElem? (i := 4) rfl) ?_
          refine zs_istore_n2 3 [1, 2, 3, 0, 4] [(0, .ref 31), (1, .int x1), (2, .int x2), (3, .int x4), (4, .int x4)] d_Matchmaker_bestOther_50 rfl (by decide) rfl ?_
          refine zs_iinc2 4 (x4 + 1) [1, 2, 3, 4, 0] [(0, .ref 31), (1, .int x1), (2, .int x2), (3, .int x4), (4, .int (x4 + 1))] d_Matchmaker_bestOther_51 rfl rfl (by decide) rfl ?_
          refine zs_goto 8 d_Matchmaker_bestOther_54 (by decide) ?_
          exact h
theorem ex_Matchmaker_bestOther (x1 x2 : Int32) (hh : kBOp x1 x2) : zEx m_Matchmaker_bestOther 0 0 [.ref 31, .int x1, .int x2] (SHP g X) M (qF g X (kBO M x1 x2) M) := by
  refine zEx_of _ (by decide) (by simp [Value.category]) (Nat.le_of_ble_eq_true rfl) rfl (v_Matchmaker_bestOther_0 g X M x1 x2 _ ?_)
  obtain ⟨a, ha, ea⟩ := vp_in_of hh.2 (by decide)
  have L : ∀ n k b, k + n = 6 → (b = -6 ∨ vp_in b 6) → zRT m_Matchmaker_bestOther 0 0 8 [(0, .ref 31), (1, .int x1), (2, .int x2), (3, .int b), (4, .int (nI k))] [] (SHP g X) M (qF g X (kBOn M x1 x2 k n b) M) := by
    intro n
    induction n with
    | zero =>
      intro k b hk hb
      exact v_Matchmaker_bestOther_8 g X _ _ _ _ _ _ ⟨fun _ => qF_i rfl rfl, fun h => absurd (nI_le (a := 6) (by omega) (by omega)) h⟩
    | succ n ih =>
      intro k b hk hb
      have hk6 : vp_in (nI k) 6 := vp_in_nI (by omega) (by decide)
      have i1 := ih (k + 1) b (by omega) hb
      have i2 := ih (k + 1) (nI k) (by omega) (Or.inr hk6)
      refine v_Matchmaker_bestOther_8 g X _ _ _ _ _ _ ⟨fun h => absurd h (nI_ge (b := 6) (by omega) (by omega)), fun _ => ?_⟩
      rw [nI_1]
      refine ⟨fun h => ?_, fun h => ⟨fun h2 => ?_, fun h2 => ⟨⟨hh.1, hh.2, hk6⟩, ⟨hh.1, hh.2, hb.resolve_left h2⟩, fun h3 => ?_, fun h3 => ?_⟩⟩⟩
      · simpa only [kBOn, h, Bool.false_eq_true, if_false] using i1
      · simpa only [kBOn, h, if_true, if_pos h2] using i2
      · simpa only [kBOn, h, if_true, if_neg h2, if_pos h3] using i1
      · simpa only [kBOn, h, if_true, if_neg h2, if_neg h3] using i2
  unfold kBO
  have e1 : Int32.toNatClampNeg x2 = a := by rw [ea]; exact nI_clamp (by omega)
  have e2 : x2 + 1 = nI (a + 1) := by rw [ea]; exact nI_1 a
  rw [e1, e2]
  exact L (5 - a) (a + 1) (-6) (by omega) (Or.inl rfl)
theorem v_Matchmaker_leastSum_0 (g : Nat → Option Nat) (X : List zShp) (M : zMem) (x1 : Int32) (R : zEnd) (h : (((isM (kLO x1)) = false) → (R (some (.int 0)) (SHP g X) M)) ∧ (((isM (kLO x1)) = true) → ((kBOp x1 (kLO x1)) ∧ ((((isM (kBO M x1 (kLO x1))) = false) → (R (some (.int 0)) (SHP g X) M)) ∧ (((isM (kBO M x1 (kLO x1))) = true) → ((kSWp x1 (kLO x1) (kBO M x1 (kLO x1))) ∧ (R (some (.int (kSW M x1 (kLO x1) (kBO M x1 (kLO x1))))) (SHP g X) M))))))) : zRT m_Matchmaker_leastSum 0 0 0 [(0, .ref 31), (1, .int x1)] [] (SHP g X) M R := by
  refine zs_iload_n 1 d_Matchmaker_leastSum_0 rfl (List.mem_of_getElem? (i := 1) rfl) ?_
  refine zs_callSN (kc := 0) (ks := 0) (kc1 := 0) (ks1 := 0) (st := []) [.int x1] d_Matchmaker_leastSum_1 lk_Matchmaker_45 ⟨by decide, by decide⟩ rfl (Nat.le_of_ble_eq_true rfl) (ex_O_leastOf g X M x1) (fun v1 sh1 M1 hR => ?_)
  obtain ⟨rfl, rfl, rfl⟩ := hR
  refine zs_istore_n2 2 [1, 2, 0] [(0, .ref 31), (1, .int x1), (2, .int (kLO x1))] d_Matchmaker_leastSum_4 rfl (by decide) rfl ?_
  refine zs_iload_n 2 d_Matchmaker_leastSum_5 rfl (List.mem_of_getElem? (i := 2) rfl) ?_
  refine zs_callSN (kc := 0) (ks := 0) (kc1 := 0) (ks1 := 0) (st := []) [.int (kLO x1)] d_Matchmaker_leastSum_6 lk_Matchmaker_48 ⟨by decide, by decide⟩ rfl (Nat.le_of_ble_eq_true rfl) (ex_O_isMan g X M (kLO x1)) (fun v2 sh2 M2 hR => ?_)
  obtain ⟨rfl, rfl, rfl⟩ := hR
  refine zs_if_eq 21 d_Matchmaker_leastSum_9 (by decide) (fun c3 => ?_) (fun c3 => ?_)
  · replace h := h.1 (bI_0 c3)
    refine zs_bipush (-6) d_Matchmaker_leastSum_21 (by decide) ?_
    refine zs_istore_n2 3 [1, 2, 3, 0] [(0, .ref 31), (1, .int x1), (2, .int (kLO x1)), (3, .int (-6))] d_Matchmaker_leastSum_23 rfl (by decide) rfl ?_
    refine zs_iload_n 3 d_Matchmaker_leastSum_24 rfl (List.mem_of_getElem? (i := 3) rfl) ?_
    refine zs_callSN (kc := 0) (ks := 0) (kc1 := 0) (ks1 := 0) (st := []) [.int (-6)] d_Matchmaker_leastSum_25 lk_Matchmaker_48 ⟨by decide, by decide⟩ rfl (Nat.le_of_ble_eq_true rfl) (ex_O_isMan g X M (-6)) (fun v4 sh4 M4 hR => ?_)
    obtain ⟨rfl, rfl, rfl⟩ := hR
    refine zs_if_eq 41 d_Matchmaker_leastSum_28 (by decide) (fun _ => ?_) (fun c => absurd (bI_1 c) (by decide))
    refine zs_iconst 0 d_Matchmaker_leastSum_41 (by decide) ?_
    exact zs_iret d_Matchmaker_leastSum_42 rfl h
  · replace h := h.2 (bI_1 c3)
    refine zs_aload_n 0 d_Matchmaker_leastSum_12 rfl (List.mem_of_getElem? (i := 0) rfl) ?_
    refine zs_iload_n 1 d_Matchmaker_leastSum_13 rfl (List.mem_of_getElem? (i := 1) rfl) ?_
    refine zs_iload_n 2 d_Matchmaker_leastSum_14 rfl (List.mem_of_getElem? (i := 2) rfl) ?_
    obtain ⟨p5, h⟩ := h
    refine zs_callV (kc := 0) (ks := 0) (kc1 := 0) (ks1 := 0) (st := []) [.int x1, .int (kLO x1)] d_Matchmaker_leastSum_15 lk_Matchmaker_52 ⟨by decide, by decide⟩ rfl (sh_31 g X) rfl (Nat.le_of_ble_eq_true rfl) (ex_Matchmaker_bestOther g X M x1 (kLO x1) p5) (fun v5 sh5 M5 hR => ?_)
    obtain ⟨rfl, rfl, rfl⟩ := hR
    refine zs_goto 23 d_Matchmaker_leastSum_18 (by decide) ?_
    refine zs_istore_n2 3 [1, 2, 3, 0] [(0, .ref 31), (1, .int x1), (2, .int (kLO x1)), (3, .int (kBO M x1 (kLO x1)))] d_Matchmaker_leastSum_23 rfl (by decide) rfl ?_
    refine zs_iload_n 3 d_Matchmaker_leastSum_24 rfl (List.mem_of_getElem? (i := 3) rfl) ?_
    refine zs_callSN (kc := 0) (ks := 0) (kc1 := 0) (ks1 := 0) (st := []) [.int (kBO M x1 (kLO x1))] d_Matchmaker_leastSum_25 lk_Matchmaker_48 ⟨by decide, by decide⟩ rfl (Nat.le_of_ble_eq_true rfl) (ex_O_isMan g X M (kBO M x1 (kLO x1))) (fun v6 sh6 M6 hR => ?_)
    obtain ⟨rfl, rfl, rfl⟩ := hR
    refine zs_if_eq 41 d_Matchmaker_leastSum_28 (by decide) (fun c7 => ?_) (fun c7 => ?_)
    · replace h := h.1 (bI_0 c7)
      refine zs_iconst 0 d_Matchmaker_leastSum_41 (by decide) ?_
      exact zs_iret d_Matchmaker_leastSum_42 rfl h
    · replace h := h.2 (bI_1 c7)
      refine zs_aload_n 0 d_Matchmaker_leastSum_31 rfl (List.mem_of_getElem? (i := 0) rfl) ?_
      refine zs_iload_n 1 d_Matchmaker_leastSum_32 rfl (List.mem_of_getElem? (i := 1) rfl) ?_
      refine zs_iload_n 2 d_Matchmaker_leastSum_33 rfl (List.mem_of_getElem? (i := 2) rfl) ?_
      refine zs_iload_n 3 d_Matchmaker_leastSum_34 rfl (List.mem_of_getElem? (i := 3) rfl) ?_
      obtain ⟨p8, h⟩ := h
      refine zs_callV (kc := 0) (ks := 0) (kc1 := 0) (ks1 := 0) (st := []) [.int x1, .int (kLO x1), .int (kBO M x1 (kLO x1))] d_Matchmaker_leastSum_35 lk_Matchmaker_56 ⟨by decide, by decide⟩ rfl (sh_31 g X) rfl (Nat.le_of_ble_eq_true rfl) (ex_Matchmaker_sumWith g X M x1 (kLO x1) (kBO M x1 (kLO x1)) p8) (fun v8 sh8 M8 hR => ?_)
      obtain ⟨rfl, rfl, rfl⟩ := hR
      refine zs_goto 42 d_Matchmaker_leastSum_38 (by decide) ?_
      exact zs_iret d_Matchmaker_leastSum_42 rfl h
theorem ex_Matchmaker_leastSum (x : Int32) (hh : kSet x) : zEx m_Matchmaker_leastSum 0 0 [.ref 31, .int x] (SHP g X) M (qF g X (kLSm M x) M) := by
  refine zEx_of _ (by decide) (by simp [Value.category]) (Nat.le_of_ble_eq_true rfl) rfl (v_Matchmaker_leastSum_0 g X M x _ ⟨fun h => qF_i ?_ rfl, fun h => ⟨⟨hh, isM_in h⟩, fun h2 => qF_i ?_ rfl, fun h2 => ⟨⟨hh, isM_in h, isM_in h2⟩, qF_i ?_ rfl⟩⟩⟩)
  · simp only [kLSm, h, Bool.false_eq_true, if_false]
  · simp only [kLSm, h, h2, if_true, Bool.false_eq_true, if_false]
  · simp only [kLSm, h, h2, if_true]
theorem v_Matchmaker_sumUp_0 (g : Nat → Option Nat) (X : List zShp) (M : zMem) (x1 : Int32) (R : zEnd) (h : zRT m_Matchmaker_sumUp 0 0 2 [(0, .ref 31), (1, .int x1), (2, .int 1)] [] (SHP g X) M R) : zRT m_Matchmaker_sumUp 0 0 0 [(0, .ref 31), (1, .int x1)] [] (SHP g X) M R := by
  refine zs_iconst 1 d_Matchmaker_sumUp_0 (by decide) ?_
  refine zs_istore_n2 2 [1, 2, 0] [(0, .ref 31), (1, .int x1), (2, .int 1)] d_Matchmaker_sumUp_1 rfl (by decide) rfl ?_
  exact h
theorem v_Matchmaker_sumUp_2 (g : Nat → Option Nat) (X : List zShp) (M : zMem) (x1 x2 : Int32) (R : zEnd) (h : ((x1 < x2) → (R none (SHP g X) M)) ∧ ((¬ x1 < x2) → (((¬ (x2 &&& (x1 ^^^ (-1))) = 0) → (zRT m_Matchmaker_sumUp 0 0 2 [(0, .ref 31), (1, .int x1), (2, .int (x2 + 1))] [] (SHP g X) M R)) ∧ (((x2 &&& (x1 ^^^ (-1))) = 0) → (((¬ ((bc x2) - (bc x2) / 2 * 2) = 0) → (zRT m_Matchmaker_sumUp 0 0 2 [(0, .ref 31), (1, .int x1), (2, .int (x2 + 1))] [] (SHP g X) M R)) ∧ ((((bc x2) - (bc x2) / 2 * 2) = 0) → ((kSet x2) ∧ ((vp_in x2 64) ∧ (zRT m_Matchmaker_sumUp 0 0 2 [(0, .ref 31), (1, .int x1), (2, .int (x2 + 1))] [] (SHP g X) (zms M 33 (Int32.toNatClampNeg x2) (kLSm M x2)) R))))))))) : zRT m_Matchmaker_sumUp 0 0 2 [(0, .ref 31), (1, .int x1), (2, .int x2)] [] (SHP g X) M R := by
  refine zs_iload_n 2 d_Matchmaker_sumUp_2 rfl (List.mem_of_getElem? (i := 2) rfl) ?_
  refine zs_iload_n 1 d_Matchmaker_sumUp_3 rfl (List.mem_of_getElem? (i := 1) rfl) ?_
  refine zs_icmp_gt 41 d_Matchmaker_sumUp_4 (by decide) (fun c1 => ?_) (fun c1 => ?_)
  · replace h := h.1 c1
    exact zs_vret d_Matchmaker_sumUp_41 rfl h
  · replace h := h.2 c1
    refine zs_iload_n 2 d_Matchmaker_sumUp_7 rfl (List.mem_of_getElem? (i := 2) rfl) ?_
    refine zs_iload_n 1 d_Matchmaker_sumUp_8 rfl (List.mem_of_getElem? (i := 1) rfl) ?_
    refine zs_iconst (-1) d_Matchmaker_sumUp_9 (by decide) ?_
    refine zs_ixor d_Matchmaker_sumUp_10 ?_
    refine zs_iand d_Matchmaker_sumUp_11 ?_
    refine zs_if_ne 35 d_Matchmaker_sumUp_12 (by decide) (fun c2 => ?_) (fun c2 => ?_)
    · replace h := h.1 c2
      refine zs_iinc2 2 (x2 + 1) [1, 2, 0] [(0, .ref 31), (1, .int x1), (2, .int (x2 + 1))] d_Matchmaker_sumUp_35 rfl rfl (by decide) rfl ?_
      refine zs_goto 2 d_Matchmaker_sumUp_38 (by decide) ?_
      exact h
    · replace h := h.2 c2
      refine zs_iload_n 2 d_Matchmaker_sumUp_15 rfl (List.mem_of_getElem? (i := 2) rfl) ?_
      refine zs_callS (kc := 0) (ks := 0) (kc1 := 0) (ks1 := 0) (st := []) [.int x2] d_Matchmaker_sumUp_16 lk_Matchmaker_37 ⟨by decide, by decide⟩ rfl (Nat.le_of_ble_eq_true rfl) (ex_JI_bitCount g X M x2) (fun v3 sh3 M3 hR => ?_)
      obtain ⟨rfl, rfl, rfl⟩ := hR
      refine zs_iconst 2 d_Matchmaker_sumUp_19 (by decide) ?_
      refine zs_irem d_Matchmaker_sumUp_20 (by decide) ?_
      refine zs_if_ne 35 d_Matchmaker_sumUp_21 (by decide) (fun c4 => ?_) (fun c4 => ?_)
      · replace h := h.1 c4
        refine zs_iinc2 2 (x2 + 1) [1, 2, 0] [(0, .ref 31), (1, .int x1), (2, .int (x2 + 1))] d_Matchmaker_sumUp_35 rfl rfl (by decide) rfl ?_
        refine zs_goto 2 d_Matchmaker_sumUp_38 (by decide) ?_
        exact h
      · replace h := h.2 c4
        refine zs_aload_n 0 d_Matchmaker_sumUp_24 rfl (List.mem_of_getElem? (i := 0) rfl) ?_
        refine zs_get d_Matchmaker_sumUp_25 gf_Matchmaker_15 (sh_31 g X) rfl ?_
        refine zs_iload_n 2 d_Matchmaker_sumUp_28 rfl (List.mem_of_getElem? (i := 2) rfl) ?_
        refine zs_aload_n 0 d_Matchmaker_sumUp_29 rfl (List.mem_of_getElem? (i := 0) rfl) ?_
        refine zs_iload_n 2 d_Matchmaker_sumUp_30 rfl (List.mem_of_getElem? (i := 2) rfl) ?_
        obtain ⟨p5, h⟩ := h
        refine zs_callV (kc := 0) (ks := 0) (kc1 := 0) (ks1 := 0) (st := [.int x2, .ref 33]) [.int x2] d_Matchmaker_sumUp_31 lk_Matchmaker_42 ⟨by decide, by decide⟩ rfl (sh_31 g X) rfl (Nat.le_of_ble_eq_true rfl) (ex_Matchmaker_leastSum g X M x2 p5) (fun v5 sh5 M5 hR => ?_)
        obtain ⟨rfl, rfl, rfl⟩ := hR
        obtain ⟨b6, h⟩ := h
        refine zs_iast d_Matchmaker_sumUp_34 (sh_33 g X) b6 ?_
        refine zs_iinc2 2 (x2 + 1) [1, 2, 0] [(0, .ref 31), (1, .int x1), (2, .int (x2 + 1))] d_Matchmaker_sumUp_35 rfl rfl (by decide) rfl ?_
        refine zs_goto 2 d_Matchmaker_sumUp_38 (by decide) ?_
        exact h
theorem ex_Matchmaker_sumUp (s : Int32) (hh : kSet s) : zEx m_Matchmaker_sumUp 0 0 [.ref 31, .int s] (SHP g X) M (qV g X (kSU M s)) := by
  refine zEx_of _ (by decide) (by simp [Value.category]) (Nat.le_of_ble_eq_true rfl) rfl (v_Matchmaker_sumUp_0 g X M s _ ?_)
  obtain ⟨a, ha, ea⟩ := hh
  unfold kSU
  have e1 : Int32.toNatClampNeg s = a := by rw [ea]; exact nI_clamp (by omega)
  rw [e1]
  have L : ∀ n k M1, k + n = a + 1 → zRT m_Matchmaker_sumUp 0 0 2 [(0, .ref 31), (1, .int s), (2, .int (nI k))] [] (SHP g X) M1 (qV g X (kSUn s k n M1)) := by
    intro n
    induction n with
    | zero =>
      intro k M1 hk
      exact v_Matchmaker_sumUp_2 g X _ _ _ _ ⟨fun _ => ⟨rfl, rfl, rfl⟩, fun h => absurd (by rw [ea]; exact nI_lt (by omega) (by omega)) h⟩
    | succ n ih =>
      intro k M1 hk
      refine v_Matchmaker_sumUp_2 g X _ _ _ _ ⟨fun h => absurd h (by rw [ea]; exact nI_nlt (by omega) (by omega)), fun _ => ?_⟩
      rw [nI_1, nI_clamp (by omega)]
      refine ⟨fun h => ?_, fun h => ⟨fun h2 => ?_, fun h2 => ⟨⟨k, by omega, rfl⟩, vp_in_nI (by omega) (by decide), ?_⟩⟩⟩
      · simpa only [kSUn, if_neg h] using ih (k + 1) M1 (by omega)
      · simpa only [kSUn, if_pos h, if_neg h2] using ih (k + 1) M1 (by omega)
      · simpa only [kSUn, if_pos h, if_pos h2] using ih (k + 1) _ (by omega)
  exact L a 1 M (by omega)
theorem v_Matchmaker_choose_0 (g : Nat → Option Nat) (X : List zShp) (M : zMem) (x1 : Int32) (R : zEnd) (h : zRT m_Matchmaker_choose 0 0 4 [(0, .ref 31), (2, .int x1), (3, .int 0)] [] (SHP g X) M R) : zRT m_Matchmaker_choose 0 0 0 [(0, .ref 31), (1, .int x1)] [] (SHP g X) M R := by
  refine zs_iload_n 1 d_Matchmaker_choose_0 rfl (List.mem_of_getElem? (i := 1) rfl) ?_
  refine zs_istore_n2 2 [1, 2, 0] [(0, .ref 31), (1, .int x1), (2, .int x1)] d_Matchmaker_choose_1 rfl (by decide) rfl ?_
  refine zs_iconst 0 d_Matchmaker_choose_2 (by decide) ?_
  refine zs_istore_n2 3 [1, 2, 3, 0] [(0, .ref 31), (1, .int x1), (2, .int x1), (3, .int 0)] d_Matchmaker_choose_3 rfl (by decide) rfl ?_
  exact zRT_sub [0, 2, 3] rfl h
theorem v_Matchmaker_choose_4 (g : Nat → Option Nat) (X : List zShp) (M : zMem) (x2 x3 : Int32) (R : zEnd) (h : ((6 ≤ x3) → (R none (SHP g X) M)) ∧ ((¬ 6 ≤ x3) → ((((hb x2 x3) = false) → (zRT m_Matchmaker_choose 0 0 4 [(0, .ref 31), (2, .int x2), (3, .int (x3 + 1))] [] (SHP g X) M R)) ∧ (((hb x2 x3) = true) → ((kBOp x2 x3) ∧ ((((isM (kBO M x2 x3)) = false) → (zRT m_Matchmaker_choose 0 0 4 [(0, .ref 31), (2, .int x2), (3, .int (x3 + 1))] [] (SHP g X) M R)) ∧ (((isM (kBO M x2 x3)) = true) → ((vp_in x3 6) ∧ ((vp_in (kBO M x2 x3) 6) ∧ (zRT m_Matchmaker_choose 0 0 4 [(0, .ref 31), (2, .int (x2 &&& ((((1 : Int32) <<< (x3 &&& 31)) ^^^ (-1)) &&& (((1 : Int32) <<< ((kBO M x2 x3) &&& 31)) ^^^ (-1))))), (3, .int (x3 + 1))] [] (SHP g X) (zms (zms M 34 (Int32.toNatClampNeg x3) (kBO M x2 x3)) 34 (Int32.toNatClampNeg (kBO M x2 x3)) x3) R)))))))))) : zRT m_Matchmaker_choose 0 0 4 [(0, .ref 31), (2, .int x2), (3, .int x3)] [] (SHP g X) M R := by
  refine zs_iload_n 3 d_Matchmaker_choose_4 rfl (List.mem_of_getElem? (i := 2) rfl) ?_
  refine zs_bipush 6 d_Matchmaker_choose_5 (by decide) ?_
  refine zs_icmp_ge 76 d_Matchmaker_choose_7 (by decide) (fun c1 => ?_) (fun c1 => ?_)
  · replace h := h.1 c1
    exact zs_vret d_Matchmaker_choose_76 rfl h
  · replace h := h.2 c1
    refine zs_iload_n 2 d_Matchmaker_choose_10 rfl (List.mem_of_getElem? (i := 1) rfl) ?_
    refine zs_iload_n 3 d_Matchmaker_choose_11 rfl (List.mem_of_getElem? (i := 2) rfl) ?_
    refine zs_callSN (kc := 0) (ks := 0) (kc1 := 0) (ks1 := 0) (st := []) [.int x2, .int x3] d_Matchmaker_choose_12 lk_Matchmaker_60 ⟨by decide, by decide⟩ rfl (Nat.le_of_ble_eq_true rfl) (ex_O_has g X M x2 x3) (fun v2 sh2 M2 hR => ?_)
    obtain ⟨rfl, rfl, rfl⟩ := hR
    refine zs_if_eq 27 d_Matchmaker_choose_15 (by decide) (fun c3 => ?_) (fun c3 => ?_)
    · replace h := h.1 (bI_0 c3)
      refine zs_bipush (-6) d_Matchmaker_choose_27 (by decide) ?_
      refine zs_istore2 [1, 2, 3, 0] [(0, .ref 31), (2, .int x2), (3, .int x3), (4, .int (-6))] d_Matchmaker_choose_29 (by decide) rfl ?_
      refine zs_iload d_Matchmaker_choose_31 (List.mem_of_getElem? (i := 3) rfl) ?_
      refine zs_callSN (kc := 0) (ks := 0) (kc1 := 0) (ks1 := 0) (st := []) [.int (-6)] d_Matchmaker_choose_33 lk_Matchmaker_48 ⟨by decide, by decide⟩ rfl (Nat.le_of_ble_eq_true rfl) (ex_O_isMan g X M (-6)) (fun v4 sh4 M4 hR => ?_)
      obtain ⟨rfl, rfl, rfl⟩ := hR
      refine zs_if_eq 70 d_Matchmaker_choose_36 (by decide) (fun _ => ?_) (fun c => absurd (bI_1 c) (by decide))
      refine zs_iinc2 2 (x3 + 1) [1, 2, 0, 3] [(0, .ref 31), (2, .int x2), (3, .int (x3 + 1)), (4, .int (-6))] d_Matchmaker_choose_70 rfl rfl (by decide) rfl ?_
      refine zs_goto 4 d_Matchmaker_choose_73 (by decide) ?_
      exact zRT_sub [0, 1, 2] rfl h
    · replace h := h.2 (bI_1 c3)
      refine zs_aload_n 0 d_Matchmaker_choose_18 rfl (List.mem_of_getElem? (i := 0) rfl) ?_
      refine zs_iload_n 2 d_Matchmaker_choose_19 rfl (List.mem_of_getElem? (i := 1) rfl) ?_
      refine zs_iload_n 3 d_Matchmaker_choose_20 rfl (List.mem_of_getElem? (i := 2) rfl) ?_
      obtain ⟨p5, h⟩ := h
      refine zs_callV (kc := 0) (ks := 0) (kc1 := 0) (ks1 := 0) (st := []) [.int x2, .int x3] d_Matchmaker_choose_21 lk_Matchmaker_52 ⟨by decide, by decide⟩ rfl (sh_31 g X) rfl (Nat.le_of_ble_eq_true rfl) (ex_Matchmaker_bestOther g X M x2 x3 p5) (fun v5 sh5 M5 hR => ?_)
      obtain ⟨rfl, rfl, rfl⟩ := hR
      refine zs_goto 29 d_Matchmaker_choose_24 (by decide) ?_
      refine zs_istore2 [1, 2, 3, 0] [(0, .ref 31), (2, .int x2), (3, .int x3), (4, .int (kBO M x2 x3))] d_Matchmaker_choose_29 (by decide) rfl ?_
      refine zs_iload d_Matchmaker_choose_31 (List.mem_of_getElem? (i := 3) rfl) ?_
      refine zs_callSN (kc := 0) (ks := 0) (kc1 := 0) (ks1 := 0) (st := []) [.int (kBO M x2 x3)] d_Matchmaker_choose_33 lk_Matchmaker_48 ⟨by decide, by decide⟩ rfl (Nat.le_of_ble_eq_true rfl) (ex_O_isMan g X M (kBO M x2 x3)) (fun v6 sh6 M6 hR => ?_)
      obtain ⟨rfl, rfl, rfl⟩ := hR
      refine zs_if_eq 70 d_Matchmaker_choose_36 (by decide) (fun c7 => ?_) (fun c7 => ?_)
      · replace h := h.1 (bI_0 c7)
        refine zs_iinc2 2 (x3 + 1) [1, 2, 0, 3] [(0, .ref 31), (2, .int x2), (3, .int (x3 + 1)), (4, .int (kBO M x2 x3))] d_Matchmaker_choose_70 rfl rfl (by decide) rfl ?_
        refine zs_goto 4 d_Matchmaker_choose_73 (by decide) ?_
        exact zRT_sub [0, 1, 2] rfl h
      · replace h := h.2 (bI_1 c7)
        refine zs_aload_n 0 d_Matchmaker_choose_39 rfl (List.mem_of_getElem? (i := 0) rfl) ?_
        refine zs_get d_Matchmaker_choose_40 gf_Matchmaker_18 (sh_31 g X) rfl ?_
        refine zs_iload_n 3 d_Matchmaker_choose_43 rfl (List.mem_of_getElem? (i := 2) rfl) ?_
        refine zs_iload d_Matchmaker_choose_44 (List.mem_of_getElem? (i := 3) rfl) ?_
        obtain ⟨b8, h⟩ := h
        refine zs_iast d_Matchmaker_choose_46 (sh_34 g X) b8 ?_
        refine zs_aload_n 0 d_Matchmaker_choose_47 rfl (List.mem_of_getElem? (i := 0) rfl) ?_
        refine zs_get d_Matchmaker_choose_48 gf_Matchmaker_18 (sh_31 g X) rfl ?_
        refine zs_iload d_Matchmaker_choose_51 (List.mem_of_getElem? (i := 3) rfl) ?_
        refine zs_iload_n 3 d_Matchmaker_choose_53 rfl (List.mem_of_getElem? (i := 2) rfl) ?_
        obtain ⟨b9, h⟩ := h
        refine zs_iast d_Matchmaker_choose_54 (sh_34 g X) b9 ?_
        refine zs_iload_n 2 d_Matchmaker_choose_55 rfl (List.mem_of_getElem? (i := 1) rfl) ?_
        refine zs_iconst 1 d_Matchmaker_choose_56 (by decide) ?_
        refine zs_iload_n 3 d_Matchmaker_choose_57 rfl (List.mem_of_getElem? (i := 2) rfl) ?_
        refine zs_ishl d_Matchmaker_choose_58 ?_
        refine zs_iconst (-1) d_Matchmaker_choose_59 (by decide) ?_
        refine zs_ixor d_Matchmaker_choose_60 ?_
        refine zs_iconst 1 d_Matchmaker_choose_61 (by decide) ?_
        refine zs_iload d_Matchmaker_choose_62 (List.mem_of_getElem? (i := 3) rfl) ?_
        refine zs_ishl d_Matchmaker_choose_64 ?_
        refine zs_iconst (-1) d_Matchmaker_choose_65 (by decide) ?_
        refine zs_ixor d_Matchmaker_choose_66 ?_
        refine zs_iand d_Matchmaker_choose_67 ?_
        refine zs_iand d_Matchmaker_choose_68 ?_
        refine zs_istore_n2 2 [1, 0, 2, 3] [(0, .ref 31), (2, .int (x2 &&& ((((1 : Int32) <<< (x3 &&& 31)) ^^^ (-1)) &&& (((1 : Int32) <<< ((kBO M x2 x3) &&& 31)) ^^^ (-1))))), (3, .int x3), (4, .int (kBO M x2 x3))] d_Matchmaker_choose_69 rfl (by decide) rfl ?_
        refine zs_iinc2 2 (x3 + 1) [1, 2, 0, 3] [(0, .ref 31), (2, .int (x2 &&& ((((1 : Int32) <<< (x3 &&& 31)) ^^^ (-1)) &&& (((1 : Int32) <<< ((kBO M x2 x3) &&& 31)) ^^^ (-1))))), (3, .int (x3 + 1)), (4, .int (kBO M x2 x3))] d_Matchmaker_choose_70 rfl rfl (by decide) rfl ?_
        refine zs_goto 4 d_Matchmaker_choose_73 (by decide) ?_
        exact zRT_sub [0, 1, 2] rfl h
theorem ex_Matchmaker_choose (s : Int32) (hh : kSet s) : zEx m_Matchmaker_choose 0 0 [.ref 31, .int s] (SHP g X) M (qV g X (kCh M s)) := by
  refine zEx_of _ (by decide) (by simp [Value.category]) (Nat.le_of_ble_eq_true rfl) rfl (v_Matchmaker_choose_0 g X M s _ ?_)
  have L : ∀ n k x M1, k + n = 6 → kSet x → zRT m_Matchmaker_choose 0 0 4 [(0, .ref 31), (2, .int x), (3, .int (nI k))] [] (SHP g X) M1 (qV g X (kChn k n x M1)) := by
    intro n
    induction n with
    | zero =>
      intro k x M1 hk hx
      exact v_Matchmaker_choose_4 g X _ _ _ _ ⟨fun _ => ⟨rfl, rfl, rfl⟩, fun h => absurd (nI_le (a := 6) (by omega) (by omega)) h⟩
    | succ n ih =>
      intro k x M1 hk hx
      have hk6 : vp_in (nI k) 6 := vp_in_nI (by omega) (by decide)
      refine v_Matchmaker_choose_4 g X _ _ _ _ ⟨fun h => absurd h (nI_ge (b := 6) (by omega) (by omega)), fun _ => ?_⟩
      rw [nI_1, nI_clamp (by omega)]
      refine ⟨fun h => ?_, fun h => ⟨⟨hx, hk6⟩, fun h2 => ?_, fun h2 => ⟨hk6, isM_in h2, ?_⟩⟩⟩
      · simpa only [kChn, h, Bool.false_eq_true, if_false] using ih (k + 1) x M1 (by omega) hx
      · simpa only [kChn, h, h2, if_true, Bool.false_eq_true, if_false] using ih (k + 1) x M1 (by omega) hx
      · simpa only [kChn, h, h2, if_true] using ih (k + 1) _ _ (by omega) (kSet_and _ hx)
  exact L 6 0 s M rfl hh
theorem v_Matchmaker_arrange_0 (g : Nat → Option Nat) (X : List zShp) (M : zMem) (R : zEnd) (h : zRT m_Matchmaker_arrange 0 0 4 [(0, .ref 31), (1, .ref 10), (2, .int 0), (3, .int 0)] [] (SHP g X) M R) : zRT m_Matchmaker_arrange 0 0 0 [(0, .ref 31), (1, .ref 10)] [] (SHP g X) M R := by
  refine zs_iconst 0 d_Matchmaker_arrange_0 (by decide) ?_
  refine zs_istore_n2 2 [1, 2, 0] [(0, .ref 31), (1, .ref 10), (2, .int 0)] d_Matchmaker_arrange_1 rfl (by decide) rfl ?_
  refine zs_iconst 0 d_Matchmaker_arrange_2 (by decide) ?_
  refine zs_istore_n2 3 [1, 2, 3, 0] [(0, .ref 31), (1, .ref 10), (2, .int 0), (3, .int 0)] d_Matchmaker_arrange_3 rfl (by decide) rfl ?_
  exact h
theorem v_Matchmaker_arrange_4 (g : Nat → Option Nat) (X : List zShp) (M : zMem) (x2 x3 : Int32) (R : zEnd) (h : ((6 ≤ x3) → ((kSet x2) ∧ ((kSet x2) ∧ ((vp_in x2 64) ∧ (R (some (.int ((kCh (kSU M x2) x2) 33 (Int32.toNatClampNeg x2)))) (SHP g X) (kCh (kSU M x2) x2)))))) ∧ ((¬ 6 ≤ x3) → ((kCnt M ∧ kDpt M) ∧ ((vp_in x3 6) ∧ (((¬ ((zms (zms M 32 (Int32.toNatClampNeg x3) (kTnt M x3)) 34 (Int32.toNatClampNeg x3) (M 17 (Int32.toNatClampNeg x3))) 34 (Int32.toNatClampNeg x3)) = (-6)) → (zRT m_Matchmaker_arrange 0 0 4 [(0, .ref 31), (1, .ref 10), (2, .int x2), (3, .int (x3 + 1))] [] (SHP g X) (zms (zms M 32 (Int32.toNatClampNeg x3) (kTnt M x3)) 34 (Int32.toNatClampNeg x3) (M 17 (Int32.toNatClampNeg x3))) R)) ∧ ((((zms (zms M 32 (Int32.toNatClampNeg x3) (kTnt M x3)) 34 (Int32.toNatClampNeg x3) (M 17 (Int32.toNatClampNeg x3))) 34 (Int32.toNatClampNeg x3)) = (-6)) → (zRT m_Matchmaker_arrange 0 0 4 [(0, .ref 31), (1, .ref 10), (2, .int (x2 ||| ((1 : Int32) <<< (x3 &&& 31)))), (3, .int (x3 + 1))] [] (SHP g X) (zms (zms M 32 (Int32.toNatClampNeg x3) (kTnt M x3)) 34 (Int32.toNatClampNeg x3) (M 17 (Int32.toNatClampNeg x3))) R))))))) : zRT m_Matchmaker_arrange 0 0 4 [(0, .ref 31), (1, .ref 10), (2, .int x2), (3, .int x3)] [] (SHP g X) M R := by
  refine zs_iload_n 3 d_Matchmaker_arrange_4 rfl (List.mem_of_getElem? (i := 3) rfl) ?_
  refine zs_bipush 6 d_Matchmaker_arrange_5 (by decide) ?_
  refine zs_icmp_ge 56 d_Matchmaker_arrange_7 (by decide) (fun c1 => ?_) (fun c1 => ?_)
  · replace h := h.1 c1
    refine zs_aload_n 0 d_Matchmaker_arrange_56 rfl (List.mem_of_getElem? (i := 0) rfl) ?_
    refine zs_iload_n 2 d_Matchmaker_arrange_57 rfl (List.mem_of_getElem? (i := 2) rfl) ?_
    obtain ⟨p2, h⟩ := h
    refine zs_callV (kc := 0) (ks := 0) (kc1 := 0) (ks1 := 0) (st := []) [.int x2] d_Matchmaker_arrange_58 lk_Matchmaker_30 ⟨by decide, by decide⟩ rfl (sh_31 g X) rfl (Nat.le_of_ble_eq_true rfl) (ex_Matchmaker_sumUp g X M x2 p2) (fun v2 sh2 M2 hR => ?_)
    obtain ⟨rfl, rfl, rfl⟩ := hR
    refine zs_aload_n 0 d_Matchmaker_arrange_61 rfl (List.mem_of_getElem? (i := 0) rfl) ?_
    refine zs_iload_n 2 d_Matchmaker_arrange_62 rfl (List.mem_of_getElem? (i := 2) rfl) ?_
    obtain ⟨p3, h⟩ := h
    refine zs_callV (kc := 0) (ks := 0) (kc1 := 0) (ks1 := 0) (st := []) [.int x2] d_Matchmaker_arrange_63 lk_Matchmaker_34 ⟨by decide, by decide⟩ rfl (sh_31 g X) rfl (Nat.le_of_ble_eq_true rfl) (ex_Matchmaker_choose g X (kSU M x2) x2 p3) (fun v3 sh3 M3 hR => ?_)
    obtain ⟨rfl, rfl, rfl⟩ := hR
    refine zs_aload_n 0 d_Matchmaker_arrange_66 rfl (List.mem_of_getElem? (i := 0) rfl) ?_
    refine zs_get d_Matchmaker_arrange_67 gf_Matchmaker_15 (sh_31 g X) rfl ?_
    refine zs_iload_n 2 d_Matchmaker_arrange_70 rfl (List.mem_of_getElem? (i := 2) rfl) ?_
    obtain ⟨b4, h⟩ := h
    refine zs_iald d_Matchmaker_arrange_71 (sh_33 g X) b4 ?_
    exact zs_iret d_Matchmaker_arrange_72 rfl h
  · replace h := h.2 c1
    refine zs_aload_n 0 d_Matchmaker_arrange_10 rfl (List.mem_of_getElem? (i := 0) rfl) ?_
    refine zs_get d_Matchmaker_arrange_11 gf_Matchmaker_9 (sh_31 g X) rfl ?_
    refine zs_iload_n 3 d_Matchmaker_arrange_14 rfl (List.mem_of_getElem? (i := 3) rfl) ?_
    refine zs_aload_n 1 d_Matchmaker_arrange_15 rfl (List.mem_of_getElem? (i := 1) rfl) ?_
    refine zs_iload_n 3 d_Matchmaker_arrange_16 rfl (List.mem_of_getElem? (i := 3) rfl) ?_
    obtain ⟨p5, h⟩ := h
    refine zs_callV (kc := 0) (ks := 0) (kc1 := 0) (ks1 := 0) (st := [.int x3, .ref 32]) [.int x3] d_Matchmaker_arrange_17 lk_Matchmaker_21 ⟨by decide, by decide⟩ rfl (sh_10 g X) rfl (Nat.le_of_ble_eq_true rfl) (ex_Town_taintOf g X M x3 p5) (fun v5 sh5 M5 hR => ?_)
    obtain ⟨rfl, rfl, rfl⟩ := hR
    obtain ⟨b6, h⟩ := h
    refine zs_iast d_Matchmaker_arrange_20 (sh_32 g X) b6 ?_
    refine zs_aload_n 0 d_Matchmaker_arrange_21 rfl (List.mem_of_getElem? (i := 0) rfl) ?_
    refine zs_get d_Matchmaker_arrange_22 gf_Matchmaker_18 (sh_31 g X) rfl ?_
    refine zs_iload_n 3 d_Matchmaker_arrange_25 rfl (List.mem_of_getElem? (i := 3) rfl) ?_
    refine zs_aload_n 1 d_Matchmaker_arrange_26 rfl (List.mem_of_getElem? (i := 1) rfl) ?_
    refine zs_get d_Matchmaker_arrange_27 gf_Matchmaker_27 (sh_10 g X) rfl ?_
    refine zs_iload_n 3 d_Matchmaker_arrange_30 rfl (List.mem_of_getElem? (i := 3) rfl) ?_
    refine zs_iald d_Matchmaker_arrange_31 (sh_17 g X) b6 ?_
    refine zs_iast d_Matchmaker_arrange_32 (sh_34 g X) b6 ?_
    refine zs_aload_n 0 d_Matchmaker_arrange_33 rfl (List.mem_of_getElem? (i := 0) rfl) ?_
    refine zs_get d_Matchmaker_arrange_34 gf_Matchmaker_18 (sh_31 g X) rfl ?_
    refine zs_iload_n 3 d_Matchmaker_arrange_37 rfl (List.mem_of_getElem? (i := 3) rfl) ?_
    refine zs_iald d_Matchmaker_arrange_38 (sh_34 g X) b6 ?_
    refine zs_bipush (-6) d_Matchmaker_arrange_39 (by decide) ?_
    refine zs_icmp_ne 50 d_Matchmaker_arrange_41 (by decide) (fun c7 => ?_) (fun c7 => ?_)
    · replace h := h.1 c7
      refine zs_iinc2 3 (x3 + 1) [1, 2, 3, 0] [(0, .ref 31), (1, .ref 10), (2, .int x2), (3, .int (x3 + 1))] d_Matchmaker_arrange_50 rfl rfl (by decide) rfl ?_
      refine zs_goto 4 d_Matchmaker_arrange_53 (by decide) ?_
      exact h
    · replace h := h.2 c7
      refine zs_iload_n 2 d_Matchmaker_arrange_44 rfl (List.mem_of_getElem? (i := 2) rfl) ?_
      refine zs_iconst 1 d_Matchmaker_arrange_45 (by decide) ?_
      refine zs_iload_n 3 d_Matchmaker_arrange_46 rfl (List.mem_of_getElem? (i := 3) rfl) ?_
      refine zs_ishl d_Matchmaker_arrange_47 ?_
      refine zs_ior d_Matchmaker_arrange_48 ?_
      refine zs_istore_n2 2 [1, 2, 0, 3] [(0, .ref 31), (1, .ref 10), (2, .int (x2 ||| ((1 : Int32) <<< (x3 &&& 31)))), (3, .int x3)] d_Matchmaker_arrange_49 rfl (by decide) rfl ?_
      refine zs_iinc2 3 (x3 + 1) [1, 2, 3, 0] [(0, .ref 31), (1, .ref 10), (2, .int (x2 ||| ((1 : Int32) <<< (x3 &&& 31)))), (3, .int (x3 + 1))] d_Matchmaker_arrange_50 rfl rfl (by decide) rfl ?_
      refine zs_goto 4 d_Matchmaker_arrange_53 (by decide) ?_
      exact h
theorem ex_Matchmaker_arrange (hh : kCnt M ∧ kDpt M) : zEx m_Matchmaker_arrange 0 0 [.ref 31, .ref 10] (SHP g X) M (qF g X (kArr M).1 (kArr M).2) := by
  refine zEx_of _ (by decide) (by simp [Value.category]) (Nat.le_of_ble_eq_true rfl) rfl (v_Matchmaker_arrange_0 g X M _ ?_)
  have L : ∀ n k x M1, k + n = 6 → kSet x → kCnt M1 ∧ kDpt M1 → zRT m_Matchmaker_arrange 0 0 4 [(0, .ref 31), (1, .ref 10), (2, .int x), (3, .int (nI k))] [] (SHP g X) M1 (qF g X (kArn k n x M1).1 (kArn k n x M1).2) := by
    intro n
    induction n with
    | zero =>
      intro k x M1 hk hx hh
      exact v_Matchmaker_arrange_4 g X _ _ _ _ ⟨fun _ => ⟨hx, hx, kSet_in hx, qF_i rfl rfl⟩, fun h => absurd (nI_le (a := 6) (by omega) (by omega)) h⟩
    | succ n ih =>
      intro k x M1 hk hx hh
      refine v_Matchmaker_arrange_4 g X _ _ _ _ ⟨fun h => absurd h (nI_ge (b := 6) (by omega) (by omega)), fun _ => ⟨hh, vp_in_nI (by omega) (by decide), ?_⟩⟩
      rw [nI_1, nI_clamp (by omega)]
      have ez : zms (zms M1 32 k (kTnt M1 (nI k))) 34 k (M1 17 k) 34 k = M1 17 k := by simp [zms]
      rw [ez]
      have hh2 : kCnt (zms (zms M1 32 k (kTnt M1 (nI k))) 34 k (M1 17 k)) ∧ kDpt (zms (zms M1 32 k (kTnt M1 (nI k))) 34 k (M1 17 k)) := hh
      refine ⟨fun h => ?_, fun h => ?_⟩
      · simpa only [kArn, if_neg h] using ih (k + 1) x _ (by omega) hx hh2
      · simpa only [kArn, if_pos h] using ih (k + 1) _ _ (by omega) (kSet_or (by omega) hx) hh2
  unfold kArr
  exact L 6 0 0 M rfl ⟨0, by decide, rfl⟩ hh
end zC5
