/-! plans of marriages; a fresh town -/
def d7 (c j : Nat) : Nat := c / 7 ^ (5 - j) % 7
theorem d7_7 (c j : Nat) : d7 c j < 7 := Nat.mod_lt _ (by decide)
def pO1 (M : zMem) (c j : Nat) : Prop := d7 c j ≠ j ∧ (d7 c j = 6 ∨ d7 c (d7 c j) = j) ∧ (M 48 j < 0 ∨ nI (d7 c j) = M 48 j)
def pAl (c : Nat) : Nat → Nat
  | 0 => 0
  | k + 1 => pAl c k + (if d7 c k = 6 then 1 else 0)
theorem pAl_le (c : Nat) : ∀ k, pAl c k ≤ k
  | 0 => Nat.le_refl _
  | k + 1 => by
    show pAl c k + _ ≤ k + 1
    have := pAl_le c k
    by_cases h : d7 c k = 6
    · rw [if_pos h]; omega
    · rw [if_neg h]; omega
def pOk (M : zMem) (c : Nat) : Prop := (∀ j, j < 6 → pO1 M c j) ∧ pAl c 6 < 2
section zF1
variable (g : Nat → Option Nat) (X : List zShp) (M : zMem)
set_option maxHeartbeats 4000000 in
theorem ex2_X_layPlan (x : Int32) (hh : ∃ n : Nat, n < 2 ^ 31 ∧ x = nI n) : zEx m_X_layPlan 0 0 [.ref 35, .int x] (SHP g X) M (qR g X (fun r M2 => kAg [49] M M2 ∧ (r = 0 ∨ r = 1) ∧ (∀ c : Nat, c < 117649 → x = nI c → (∀ j, j < 6 → M2 49 j = nI (d7 c j)) ∧ (¬ r = 0 ↔ pOk M c)))) := by
  by_cases q : ∃ c : Nat, c < 117649 ∧ x = nI c
  · obtain ⟨c, hc, rfl⟩ := q
    refine zEx_of _ (by decide) (by simp [Value.category]) (Nat.le_of_ble_eq_true rfl) rfl (v_X_layPlan_0 g X M _ _ ?_)
    have fin : ∀ (r : Int32) (M1 : zMem), kAg [49] M M1 → (r = 0 ∨ r = 1) → (∀ j, j < 6 → M1 49 j = nI (d7 c j)) → (¬ r = 0 ↔ pOk M c) → qR g X (fun r M2 => kAg [49] M M2 ∧ (r = 0 ∨ r = 1) ∧ (∀ c2 : Nat, c2 < 117649 → nI c = nI c2 → (∀ j, j < 6 → M2 49 j = nI (d7 c2 j)) ∧ (¬ r = 0 ↔ pOk M c2))) (some (.int r)) (SHP g X) M1 := by
      intro r M1 ha hr h49 hp
      refine qR_i ⟨ha, hr, fun c2 h2 e => ?_⟩
      have e3 : c = c2 := (nI_eq (by omega) (by omega)).mp e
      subst e3
      exact ⟨h49, hp⟩
    have L2 : ∀ d k M1 (b : Int32), k + d = 6 → kAg [49] M M1 → (∀ j, j < 6 → M1 49 j = nI (d7 c j)) → (b = 0 ∨ b = 1) → (¬ b = 0 ↔ ∀ j, j < k → pO1 M c j) → zRT m_X_layPlan 0 0 40 [(0, .ref 35), (3, .int (nI (pAl c k))), (4, .int b), (5, .int (nI k))] [] (SHP g X) M1 (qR g X (fun r M2 => kAg [49] M M2 ∧ (r = 0 ∨ r = 1) ∧ (∀ c2 : Nat, c2 < 117649 → nI c = nI c2 → (∀ j, j < 6 → M2 49 j = nI (d7 c2 j)) ∧ (¬ r = 0 ↔ pOk M c2)))) := by
      intro d
      induction d with
      | zero =>
        intro k M1 b hk ha h49 hb hv
        have e6 : k = 6 := by omega
        subst e6
        have al := pAl_le c 6
        refine v_X_layPlan_40 g X _ _ _ _ _ ⟨fun _ => ⟨fun h => fin 0 M1 ha (Or.inl rfl) h49 ⟨fun z => absurd rfl z, fun z => absurd h (hv.mpr z.1)⟩, fun h => ⟨fun h2 => fin 0 M1 ha (Or.inl rfl) h49 ⟨fun z => absurd rfl z, fun z => ?_⟩, fun h2 => fin 1 M1 ha (Or.inr rfl) h49 ⟨fun _ => ⟨hv.mp h, ?_⟩, fun _ => by decide⟩⟩⟩, fun h => absurd (nI_le (a := 6) (by omega) (by omega)) h⟩
        · rw [show (2 : Int32) = nI 2 from rfl, nI_leI (by decide) (by omega)] at h2
          have := z.2
          omega
        · rw [show (2 : Int32) = nI 2 from rfl, nI_leI (by decide) (by omega)] at h2
          omega
      | succ d ih =>
        intro k M1 b hk ha h49 hb hv
        have k6 : k < 6 := by omega
        have p7 := d7_7 c k
        have al := pAl_le c k
        refine v_X_layPlan_40 g X _ _ _ _ _ ⟨fun h => absurd h (nI_ge (b := 6) (by omega) (by omega)), fun _ => ?_⟩
        rw [nI_1 k, nI_clamp (n := k) (by omega), h49 k k6, ha 48 (by decide), nI_1 (pAl c k), show nI (pAl c k) + 0 = nI (pAl c k) from Int32.add_zero _, nI_clamp (n := d7 c k) (by omega)]
        have q6 : nI (d7 c k) = 6 ↔ d7 c k = 6 := nI_eq (b := 6) (by omega) (by decide)
        have qk : nI (d7 c k) = nI k ↔ d7 c k = k := nI_eq (by omega) (by omega)
        have st1 : d7 c k = 6 → pAl c (k + 1) = pAl c k + 1 := fun h => by
          show pAl c k + (if d7 c k = 6 then 1 else 0) = _
          rw [if_pos h]
        have st0 : ¬ d7 c k = 6 → pAl c (k + 1) = pAl c k := fun h => by
          show pAl c k + (if d7 c k = 6 then 1 else 0) = _
          rw [if_neg h]; rfl
        have nx1 : ∀ b2 : Int32, d7 c k = 6 → (b2 = 0 ∨ b2 = 1) → (¬ b2 = 0 ↔ (¬ b = 0 ∧ pO1 M c k)) → zRT m_X_layPlan 0 0 40 [(0, .ref 35), (3, .int (nI (pAl c k + 1))), (4, .int b2), (5, .int (nI (k + 1)))] [] (SHP g X) M1 (qR g X (fun r M2 => kAg [49] M M2 ∧ (r = 0 ∨ r = 1) ∧ (∀ c2 : Nat, c2 < 117649 → nI c = nI c2 → (∀ j, j < 6 → M2 49 j = nI (d7 c2 j)) ∧ (¬ r = 0 ↔ pOk M c2)))) := by
          intro b2 h6 hb2 hv2
          rw [← st1 h6]
          refine ih (k + 1) M1 b2 (by omega) ha h49 hb2 (hv2.trans ?_)
          rw [hv]
          constructor
          · rintro ⟨z1, z2⟩ j hj
            by_cases e : j = k
            · subst e; exact z2
            · exact z1 j (by omega)
          · intro z
            exact ⟨fun j hj => z j (by omega), z k (by omega)⟩
        have nx0 : ∀ b2 : Int32, ¬ d7 c k = 6 → (b2 = 0 ∨ b2 = 1) → (¬ b2 = 0 ↔ (¬ b = 0 ∧ pO1 M c k)) → zRT m_X_layPlan 0 0 40 [(0, .ref 35), (3, .int (nI (pAl c k))), (4, .int b2), (5, .int (nI (k + 1)))] [] (SHP g X) M1 (qR g X (fun r M2 => kAg [49] M M2 ∧ (r = 0 ∨ r = 1) ∧ (∀ c2 : Nat, c2 < 117649 → nI c = nI c2 → (∀ j, j < 6 → M2 49 j = nI (d7 c2 j)) ∧ (¬ r = 0 ↔ pOk M c2)))) := by
          intro b2 h6 hb2 hv2
          rw [← st0 h6]
          refine ih (k + 1) M1 b2 (by omega) ha h49 hb2 (hv2.trans ?_)
          rw [hv]
          constructor
          · rintro ⟨z1, z2⟩ j hj
            by_cases e : j = k
            · subst e; exact z2
            · exact z1 j (by omega)
          · intro z
            exact ⟨fun j hj => z j (by omega), z k (by omega)⟩
        rw [q6, qk]
        have no : ∀ {B : Prop}, ¬ (B ∧ pO1 M c k) → (¬ (0 : Int32) = 0 ↔ (B ∧ pO1 M c k)) := fun hn => ⟨fun z => absurd rfl z, fun z => absurd z hn⟩
        have yes : ¬ b = 0 → pO1 M c k → (¬ (1 : Int32) = 0 ↔ (¬ b = 0 ∧ pO1 M c k)) := fun z1 z2 => ⟨fun _ => ⟨z1, z2⟩, fun _ => by decide⟩
        refine ⟨vp_in_nI (by omega) (by decide), fun b0 => ⟨fun h => nx0 0 h (Or.inl rfl) (no (fun z => z.1 b0)), fun h => nx1 0 h (Or.inl rfl) (no (fun z => z.1 b0))⟩, fun b0 => ⟨fun h => ⟨fun h6 => nx0 0 h6 (Or.inl rfl) (no (fun z => z.2.1 h)), fun h6 => nx1 0 h6 (Or.inl rfl) (no (fun z => z.2.1 h))⟩, fun h => ⟨fun h6 => ⟨fun h8 => nx1 1 h6 (Or.inr rfl) (yes b0 ⟨h, Or.inl h6, Or.inl h8⟩), fun h8 => ⟨fun h9 => nx1 0 h6 (Or.inl rfl) (no (fun z => z.2.2.2.elim h8 h9)), fun h9 => nx1 1 h6 (Or.inr rfl) (yes b0 ⟨h, Or.inl h6, Or.inr h9⟩)⟩⟩, fun h6 => ?_⟩⟩⟩
        have pk6 : d7 c k < 6 := by omega
        have qq : M1 49 (d7 c k) = nI k ↔ d7 c (d7 c k) = k := by
          rw [h49 _ pk6]
          exact nI_eq (by have := d7_7 c (d7 c k); omega) (by omega)
        rw [qq]
        refine ⟨vp_in_nI (by omega) (by decide), fun h7 => nx0 0 h6 (Or.inl rfl) (no (fun z => z.2.2.1.elim h6 h7)), fun h7 => ⟨fun h8 => nx0 1 h6 (Or.inr rfl) (yes b0 ⟨h, Or.inr h7, Or.inl h8⟩), fun h8 => ⟨fun h9 => nx0 0 h6 (Or.inl rfl) (no (fun z => z.2.2.2.elim h8 h9)), fun h9 => nx0 1 h6 (Or.inr rfl) (yes b0 ⟨h, Or.inr h7, Or.inr h9⟩)⟩⟩⟩
    have L1 : ∀ d M1, d ≤ 6 → kAg [49] M M1 → (∀ j, d ≤ j → j < 6 → M1 49 j = nI (d7 c j)) → zRT m_X_layPlan 0 0 10 [(0, .ref 35), (2, .int (nI (c / 7 ^ (6 - d)))), (3, .int 0), (4, .int 1), (5, .int (nI d + (-1)))] [] (SHP g X) M1 (qR g X (fun r M2 => kAg [49] M M2 ∧ (r = 0 ∨ r = 1) ∧ (∀ c2 : Nat, c2 < 117649 → nI c = nI c2 → (∀ j, j < 6 → M2 49 j = nI (d7 c2 j)) ∧ (¬ r = 0 ↔ pOk M c2)))) := by
      intro d
      induction d with
      | zero =>
        intro M1 _ ha hp
        exact v_X_layPlan_10 g X _ _ _ _ _ _ ⟨fun _ => L2 6 0 M1 1 rfl ha (fun j hj => hp j (by omega) hj) (Or.inr rfl) ⟨fun _ j hj => absurd hj (Nat.not_lt_zero j), fun _ => by decide⟩, fun h => absurd (by decide) h⟩
      | succ d ih =>
        intro M1 hd ha hp
        have cl : c / 7 ^ (6 - (d + 1)) ≤ c := Nat.div_le_self _ _
        rw [pk_m1]
        refine v_X_layPlan_10 g X _ _ _ _ _ _ ⟨fun h => absurd h (nI_pos (by omega)), fun _ => ⟨vp_in_nI (by omega) (by decide), ?_⟩⟩
        rw [nI_clamp (n := d) (by omega), show (7 : Int32) = nI 7 from rfl, pk_rem (by omega) (by omega) (by omega), pk_div (by omega) (by omega) (by omega)]
        have e1 : c / 7 ^ (6 - (d + 1)) / 7 = c / 7 ^ (6 - d) := by
          rw [Nat.div_div_eq_div_mul, ← Nat.pow_succ, show (6 - (d + 1)).succ = 6 - d by omega]
        have e2 : c / 7 ^ (6 - (d + 1)) % 7 = d7 c d := by
          unfold d7
          rw [show 6 - (d + 1) = 5 - d by omega]
        rw [e1, e2]
        refine ih _ (by omega) (ha.st (by decide)) (fun j h1 h2 => ?_)
        rw [zms_at]
        by_cases q : j = d
        · rw [if_pos q, q]
        · rw [if_neg q]; exact hp j (by omega) h2
    have := L1 6 M (Nat.le_refl _) kAg.rf (fun j h1 h2 => absurd h1 (by omega))
    rw [show c / 7 ^ (6 - 6) = c by rw [Nat.sub_self, Nat.pow_zero, Nat.div_one]] at this
    exact this
  · refine zEx_mono (ex_X_layPlan g X M x hh) (qR_w (fun r M1 h => ⟨h.1, h.2.1, fun c h1 e1 => absurd ⟨c, h1, e1⟩ q⟩))
theorem ex2_X_allBarred (hh : mK M) : zEx m_X_allBarred 0 0 [.ref 35] (SHP g X) M (qR g X (fun r M2 => kAg [42] M M2 ∧ (M 35 6 = 0 → r = 0))) := by
  by_cases q : M 35 6 = 0
  · refine zEx_of _ (by decide) (by simp [Value.category]) (Nat.le_of_ble_eq_true rfl) rfl (v_X_allBarred_0 g X M _ ?_)
    exact v_X_allBarred_4 g X _ _ _ _ ⟨fun _ => qR_i ⟨kAg.rf, fun _ => rfl⟩, fun h => absurd (by rw [q]; decide) h⟩
  · exact zEx_mono (ex_X_allBarred g X M hh) (qR_w (fun r M1 h => ⟨h, fun z => absurd z q⟩))
theorem ex2_X_faultOf (hh : ∃ n, mPd M n) : zEx m_X_faultOf 0 0 [.ref 35] (SHP g X) M (qR g X (fun r M1 => M1 = M ∧ (M 35 4 = 0 → r = -6))) := by
  by_cases q : M 35 4 = 0
  · refine zEx_of _ (by decide) (by simp [Value.category]) (Nat.le_of_ble_eq_true rfl) rfl (v_X_faultOf_0 g X M _ ?_)
    refine v_X_faultOf_16 g X _ _ _ _ _ _ _ _ ⟨fun _ => ⟨fun h => absurd rfl h, fun _ => qR_i ⟨rfl, fun _ => rfl⟩⟩, fun h => absurd (by rw [q]; decide) h⟩
  · exact zEx_mono (ex_X_faultOf g X M hh) (qR_w (fun r M1 h => ⟨h.2, fun z => absurd z q⟩))
theorem vS_X_fault_0 (g : Nat → Option Nat) (X : List zShp) (M : zMem) (R : zEnd) (h : ((∃ n, mPd M n)) ∧ (∀ (r1 : Int32) (M1 : zMem), (M1 = M ∧ (M 35 4 = 0 → r1 = -6)) → (R (some (.int r1)) (SHP g X) M1))) : zRT m_X_fault 0 0 0 [(0, .ref 35)] [] (SHP g X) M R := by
  refine zs_aload_n 0 d_X_fault_0 rfl (List.mem_of_getElem? (i := 0) rfl) ?_
  obtain ⟨p1, h⟩ := h
  refine zs_callV (kc := 0) (ks := 0) (kc1 := 0) (ks1 := 0) (st := []) [] d_X_fault_1 lk_X_76 ⟨by decide, by decide⟩ rfl (sh_35 g X) rfl (Nat.le_of_ble_eq_true rfl) (ex2_X_faultOf g X M p1) (fun v1 sh1 M1 hR => ?_)
  obtain ⟨r1, rfl, rfl, hq1⟩ := hR
  replace h := h r1 M1 hq1
  exact zs_iret d_X_fault_4 rfl h
theorem ex2_X_fault (hh : ∃ n, mPd M n) (h0 : M 35 4 = 0) : zEx m_X_fault 0 0 [.ref 35] (SHP g X) M (qR g X (fun r M1 => mAg M M1 ∧ r = -6)) :=
  zEx_of _ (by decide) (by simp [Value.category]) (Nat.le_of_ble_eq_true rfl) rfl (vS_X_fault_0 g X M _ ⟨hh, fun r M1 h => qR_i ⟨by rw [h.1]; exact mAg.rf, h.2 h0⟩⟩)
end zF1
/-! the first of all plans, where nobody has a partner -/
theorem pFirst {M : zMem} {c : Nat} (hc : c < 117649) (h : pOk M c) : 17973 ≤ c := by
  have e0 : d7 c 0 = c / 16807 % 7 := rfl
  have e1 : d7 c 1 = c / 2401 % 7 := rfl
  have e2 : d7 c 2 = c / 343 % 7 := rfl
  have e3 : d7 c 3 = c / 49 % 7 := rfl
  have e4 : d7 c 4 = c / 7 % 7 := rfl
  have e5 : d7 c 5 = c / 1 % 7 := rfl
  have o0 := h.1 0 (by decide)
  have o2 := h.1 2 (by decide)
  have o4 := h.1 4 (by decide)
  have z0 := o0.1
  by_cases c0 : d7 c 0 = 1
  · have d1 : d7 c 1 = 0 := by
      rcases o0.2.1 with q | q
      · omega
      · rw [c0] at q; exact q
    have t2 : 3 ≤ d7 c 2 := by
      have n2 := o2.1
      by_cases a0 : d7 c 2 = 0
      · rcases o2.2.1 with q | q
        · omega
        · rw [a0, c0] at q; omega
      · by_cases a1 : d7 c 2 = 1
        · rcases o2.2.1 with q | q
          · omega
          · rw [a1, d1] at q; omega
        · omega
    by_cases c2 : d7 c 2 = 3
    · have d3 : d7 c 3 = 2 := by
        rcases o2.2.1 with q | q
        · omega
        · rw [c2] at q; exact q
      have t4 : 5 ≤ d7 c 4 := by
        have n4 := o4.1
        rcases o4.2.1 with q | q
        · omega
        · by_cases a0 : d7 c 4 = 0
          · rw [a0, c0] at q; omega
          · by_cases a1 : d7 c 4 = 1
            · rw [a1, d1] at q; omega
            · by_cases a2 : d7 c 4 = 2
              · rw [a2, c2] at q; omega
              · by_cases a3 : d7 c 4 = 3
                · rw [a3, d3] at q; omega
                · omega
      by_cases c4 : d7 c 4 = 5
      · have d5 : d7 c 5 = 4 := by
          rcases o4.2.1 with q | q
          · omega
          · rw [c4] at q; exact q
        omega
      · have := d7_7 c 4
        omega
    · have := d7_7 c 2
      omega
  · have := d7_7 c 0
    omega
theorem pFirst0 {M : zMem} (h : ∀ j, j < 6 → M 48 j < 0) : pOk M 17973 := by
  refine ⟨fun j hj => ?_, by decide⟩
  have hk : ∀ j, j < 6 → d7 17973 j ≠ j ∧ (d7 17973 j = 6 ∨ d7 17973 (d7 17973 j) = j) := by decide
  exact ⟨(hk j hj).1, (hk j hj).2, Or.inl (h j hj)⟩
