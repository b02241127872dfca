/-! constructors: cells at the end of the list, the object's own row set -/
theorem zap_get {sh l : List zShp} {o : Nat} {c : zShp} (ho : o < sh.length) : (sh.set o c ++ l)[o]? = some c := by
  rw [List.getElem?_append_left (by rw [List.length_set]; exact ho), List.getElem?_set_self ho]
theorem zap_set {sh l : List zShp} {o : Nat} {c c2 : zShp} (ho : o < sh.length) : (sh.set o c ++ l).set o c2 = sh.set o c2 ++ l := by
  rw [List.set_append_left _ _ (by rw [List.length_set]; exact ho), List.set_set]
theorem zap_len {sh l : List zShp} {o : Nat} {c : zShp} : (sh.set o c ++ l).length = sh.length + l.length := by
  rw [List.length_append, List.length_set]
theorem zap_at {sh l : List zShp} {o : Nat} {c : zShp} (j : Nat) : (sh.set o c ++ l)[sh.length + j]? = l[j]? := by
  rw [List.getElem?_append_right (by rw [List.length_set]; omega), List.length_set, Nat.add_sub_cancel_left]
theorem zap_last {sh l : List zShp} {o : Nat} {c b b2 : zShp} : (sh.set o c ++ (l ++ [b])).set (sh.length + l.length) b2 = sh.set o c ++ (l ++ [b2]) := by
  rw [List.set_append_right _ _ (by rw [List.length_set]; omega), List.length_set, Nat.add_sub_cancel_left, List.set_append_right _ _ (Nat.le_refl _), Nat.sub_self]
  rfl
theorem zset_self {sh : List zShp} {o : Nat} {c : zShp} (h : sh[o]? = some c) : sh.set o c = sh := by
  refine List.ext_getElem? fun k => ?_
  by_cases hk : o = k
  · subst hk
    rw [List.getElem?_set_self (List.getElem?_eq_some_iff.mp h).1, h]
  · rw [List.getElem?_set_ne hk]
def zZ (M : zMem) (p : Nat) : zMem := zmr M p (fun _ => 0)
theorem zRT_M {μ : zMI} {kc ks pc : Nat} {lv : List (Nat × Value)} {st : List Value} {sh : List zShp} {M M2 : zMem} {R : zEnd} (e : M = M2) (k : zRT μ kc ks pc lv st sh M2 R) : zRT μ kc ks pc lv st sh M R := e ▸ k
theorem zRT_sh {μ : zMI} {kc ks pc : Nat} {lv : List (Nat × Value)} {st : List Value} {sh sh2 : List zShp} {M : zMem} {R : zEnd} (e : sh = sh2) (k : zRT μ kc ks pc lv st sh2 M R) : zRT μ kc ks pc lv st sh M R := e ▸ k
section zInit
variable {μ : zMI} {kc ks pc : Nat} {lv : List (Nat × Value)} {st : List Value} {sh l : List zShp} {M : zMem} {R : zEnd} {o ci f ix : Nat} {fs : List (Option (Option Nat))} {ty : FieldType}
theorem zs_fa {n : Int32} {N : Nat} (h1 : decode μ.2.1 pc = .ok (.newarray .int, 2)) (h2 : decode μ.2.1 (pc + 2) = .ok (.putfield ix, 3)) (F : zPF μ.1.cls ix ci f true ty) (ho : o < sh.length) (hf : f < fs.length) (hi : μ.1.name = "<init>") (hn : ∀ a : Nat, narrow ty (.ref a) = .ref a) (hfit : ∀ a : Nat, fits ty (.ref a) = true) (hn0 : ¬ n < 0) (hN : n.toNatClampNeg = N) (hb : N * componentBytes (newarray.typeOf .int) ≤ 536870912)
    (k : zRT μ kc ks (pc + 5) lv st (sh.set o (.inr (.inl (ci, fs.set f (some (some (sh.length + l.length)))))) ++ (l ++ [.inl (0, N)])) (zZ M (sh.length + l.length)) R) : zRT μ (kc + 1) (ks + N) pc lv (.int n :: .ref o :: st) (sh.set o (.inr (.inl (ci, fs))) ++ l) M R := by
  refine zs_newa h1 hn0 hN hb ?_
  rw [zap_len, List.append_assoc]
  refine zs_putR h2 F (zap_get ho) hf hi hn hfit ?_
  rw [zap_set ho]
  exact k
theorem zs_fz {n : Int32} {N : Nat} (h1 : decode μ.2.1 pc = .ok (.newarray .boolean, 2)) (h2 : decode μ.2.1 (pc + 2) = .ok (.putfield ix, 3)) (F : zPF μ.1.cls ix ci f true ty) (ho : o < sh.length) (hf : f < fs.length) (hi : μ.1.name = "<init>") (hn : ∀ a : Nat, narrow ty (.ref a) = .ref a) (hfit : ∀ a : Nat, fits ty (.ref a) = true) (hn0 : ¬ n < 0) (hN : n.toNatClampNeg = N) (hb : N * componentBytes (newarray.typeOf .boolean) ≤ 536870912)
    (k : zRT μ kc ks (pc + 5) lv st (sh.set o (.inr (.inl (ci, fs.set f (some (some (sh.length + l.length)))))) ++ (l ++ [.inl (1, N)])) (zZ M (sh.length + l.length)) R) : zRT μ (kc + 1) (ks + N) pc lv (.int n :: .ref o :: st) (sh.set o (.inr (.inl (ci, fs))) ++ l) M R := by
  refine zs_newz h1 hn0 hN hb ?_
  rw [zap_len, List.append_assoc]
  refine zs_putR h2 F (zap_get ho) hf hi hn hfit ?_
  rw [zap_set ho]
  exact k
theorem zs_fr {n : Int32} {N ixc : Nat} (h1 : decode μ.2.1 pc = .ok (.anewarray ixc, 3)) (hw : Cond.classLink μ.1.cls ixc "OthersHands$Town" ∈ zgt) (h2 : decode μ.2.1 (pc + 3) = .ok (.putfield ix, 3)) (F : zPF μ.1.cls ix ci f true ty) (ho : o < sh.length) (hf : f < fs.length) (hi : μ.1.name = "<init>") (hn : ∀ a : Nat, narrow ty (.ref a) = .ref a) (hfit : ∀ a : Nat, fits ty (.ref a) = true) (hn0 : ¬ n < 0) (hN : n.toNatClampNeg = N) (hb : N * 4 ≤ 536870912)
    (k : zRT μ kc ks (pc + 6) lv st (sh.set o (.inr (.inl (ci, fs.set f (some (some (sh.length + l.length)))))) ++ (l ++ [.inr (.inr (N, fun _ => none))])) (zZ M (sh.length + l.length)) R) : zRT μ (kc + 1) (ks + N) pc lv (.int n :: .ref o :: st) (sh.set o (.inr (.inl (ci, fs))) ++ l) M R := by
  refine zs_newr h1 hw hn0 hN hb ?_
  rw [zap_len, List.append_assoc]
  refine zs_putR h2 F (zap_get ho) hf hi hn hfit ?_
  rw [zap_set ho]
  exact k
/-- new, dup, the constructor (of the nest), putfield -/
theorem zs_fn {ν : zMI} {host : String} {ixc ixm cj N kc1 ks1 : Nat} {fj : List (Option (Option Nat))} {cq : Nat → zShp} {L : Nat → List zShp} {T : Nat → Nat → zMem → zMem} (h1 : decode μ.2.1 pc = .ok (.new ixc, 3)) (W : zNW μ.1.cls ixc cj N fj) (h2 : decode μ.2.1 (pc + 3) = .ok (.dup, 1)) (h3 : decode μ.2.1 (pc + 4) = .ok (.invokespecial ixm, 3)) (Lk : zLIN μ.1.cls host ixm ν 0) (hr : zRo μ ν) (h4 : decode μ.2.1 (pc + 7) = .ok (.putfield ix, 3)) (F : zPF μ.1.cls ix ci f true ty) (ho : o < sh.length) (hf : f < fs.length) (hi : μ.1.name = "<init>") (hn : ∀ a : Nat, narrow ty (.ref a) = .ref a) (hfit : ∀ a : Nat, fits ty (.ref a) = true)
    (hE : ∀ (S : List zShp) (q : Nat) (M : zMem), S[q]? = some (.inr (.inl (cj, fj))) → zEx ν kc1 ks1 [.ref q] S M (fun v sh1 M1 => none = v ∧ S.set q (cq S.length) ++ L S.length = sh1 ∧ T q S.length M = M1))
    (k : zRT μ kc ks (pc + 10) lv [] (sh.set o (.inr (.inl (ci, fs.set f (some (some (sh.length + l.length)))))) ++ (l ++ ([cq (sh.length + l.length + 1)] ++ L (sh.length + l.length + 1)))) (T (sh.length + l.length) (sh.length + l.length + 1) (zZ M (sh.length + l.length))) R) : zRT μ (kc1 + kc + 1) (ks1 + ks + N) pc lv [.ref o] (sh.set o (.inr (.inl (ci, fs))) ++ l) M R := by
  refine zs_new h1 W ?_
  rw [zap_len, List.append_assoc]
  refine zs_dup h2 rfl ?_
  have hq : (sh.set o (.inr (.inl (ci, fs))) ++ (l ++ [.inr (.inl (cj, fj))]))[sh.length + l.length]? = some (.inr (.inl (cj, fj))) := by
    rw [zap_at, List.getElem?_append_right (Nat.le_refl _), Nat.sub_self]
    rfl
  refine zs_callIN (o := sh.length + l.length) (st := [.ref (sh.length + l.length), .ref o]) [] h3 Lk hr rfl (Nat.le_of_ble_eq_true rfl) (hE _ _ _ hq) (fun v sh1 M1 hR => ?_)
  obtain ⟨rfl, rfl, rfl⟩ := hR
  have hlen : (sh.set o (Sum.inr (Sum.inl (ci, fs))) ++ (l ++ [Sum.inr (Sum.inl (cj, fj))]) : List zShp).length = sh.length + l.length + 1 := by
    rw [zap_len, List.length_append]; rfl
  rw [hlen, zap_last, List.append_assoc, List.append_assoc]
  refine zs_putR h4 F (zap_get ho) hf hi hn hfit ?_
  rw [zap_set ho]
  exact k
/-- new, dup, the constructor , putfield -/
theorem zs_fnI {ν : zMI} {ixc ixm cj N kc1 ks1 : Nat} {fj : List (Option (Option Nat))} {cq : Nat → zShp} {L : Nat → List zShp} {T : Nat → Nat → zMem → zMem} (h1 : decode μ.2.1 pc = .ok (.new ixc, 3)) (W : zNW μ.1.cls ixc cj N fj) (h2 : decode μ.2.1 (pc + 3) = .ok (.dup, 1)) (h3 : decode μ.2.1 (pc + 4) = .ok (.invokespecial ixm, 3)) (Lk : zLI μ.1.cls ixm ν 0) (hr : zRo μ ν) (h4 : decode μ.2.1 (pc + 7) = .ok (.putfield ix, 3)) (F : zPF μ.1.cls ix ci f true ty) (ho : o < sh.length) (hf : f < fs.length) (hi : μ.1.name = "<init>") (hn : ∀ a : Nat, narrow ty (.ref a) = .ref a) (hfit : ∀ a : Nat, fits ty (.ref a) = true)
    (hE : ∀ (S : List zShp) (q : Nat) (M : zMem), S[q]? = some (.inr (.inl (cj, fj))) → zEx ν kc1 ks1 [.ref q] S M (fun v sh1 M1 => none = v ∧ S.set q (cq S.length) ++ L S.length = sh1 ∧ T q S.length M = M1))
    (k : zRT μ kc ks (pc + 10) lv [] (sh.set o (.inr (.inl (ci, fs.set f (some (some (sh.length + l.length)))))) ++ (l ++ ([cq (sh.length + l.length + 1)] ++ L (sh.length + l.length + 1)))) (T (sh.length + l.length) (sh.length + l.length + 1) (zZ M (sh.length + l.length))) R) : zRT μ (kc1 + kc + 1) (ks1 + ks + N) pc lv [.ref o] (sh.set o (.inr (.inl (ci, fs))) ++ l) M R := by
  refine zs_new h1 W ?_
  rw [zap_len, List.append_assoc]
  refine zs_dup h2 rfl ?_
  have hq : (sh.set o (.inr (.inl (ci, fs))) ++ (l ++ [.inr (.inl (cj, fj))]))[sh.length + l.length]? = some (.inr (.inl (cj, fj))) := by
    rw [zap_at, List.getElem?_append_right (Nat.le_refl _), Nat.sub_self]
    rfl
  refine zs_callI (o := sh.length + l.length) (st := [.ref (sh.length + l.length), .ref o]) [] h3 Lk hr rfl (Nat.le_of_ble_eq_true rfl) (hE _ _ _ hq) (fun v sh1 M1 hR => ?_)
  obtain ⟨rfl, rfl, rfl⟩ := hR
  have hlen : (sh.set o (Sum.inr (Sum.inl (ci, fs))) ++ (l ++ [Sum.inr (Sum.inl (cj, fj))]) : List zShp).length = sh.length + l.length + 1 := by
    rw [zap_len, List.length_append]; rfl
  rw [hlen, zap_last, List.append_assoc, List.append_assoc]
  refine zs_putR h4 F (zap_get ho) hf hi hn hfit ?_
  rw [zap_set ho]
  exact k
end zInit
