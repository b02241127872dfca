theorem zlv_pick_map (B : Nat) (lv : List (Nat × Value)) (ks : List Nat) : lv_pick (lv.map (fun q => (q.1, zv B q.2))) ks = (lv_pick lv ks).map (fun q => (q.1, zv B q.2)) := by
  simp [lv_pick, List.map_filterMap, List.getElem?_map]
theorem zRT_sub {μ : zMI} {kc ks pc : Nat} {lv lv2 : List (Nat × Value)} {st : List Value} {sh : List zShp} {M : zMem} {R : zEnd} (ps : List Nat) (hk : lv_pick lv ps = lv2) (h : zRT μ kc ks pc lv2 st sh M R) : zRT μ kc ks pc lv st sh M R := by
  intro p l e Rm s m args below meth c H locs cells slots D cy B ls C V hc hs hl
  exact h p l e Rm s m args below meth c H locs cells slots D cy B ls C V hc hs (lv_sub hl ps (by rw [zlv_pick_map, hk]))
section zMore
variable {μ : zMI} {kc ks pc : Nat} {lv : List (Nat × Value)} {st : List Value} {sh : List zShp} {M : zMem} {R : zEnd}
theorem zs_istore_n2 {n : Fin 4} (j : Nat) {x : Int32} (ps : List Nat) (lv2 : List (Nat × Value)) (hd : decode μ.2.1 pc = .ok (.istore_n n, 1)) (hn : (n : Nat) = j) (hj : j < μ.2.2.1) (hlv : lv_pick (zsto lv j (.int x)) ps = lv2) (k : zRT μ kc ks (pc + 1) lv2 st sh M R) : zRT μ kc ks pc lv (.int x :: st) sh M R := zs_istore_n j _ hd hn hj rfl (zRT_sub ps hlv k)
theorem zs_istore2 {j : Nat} {x : Int32} (ps : List Nat) (lv2 : List (Nat × Value)) (hd : decode μ.2.1 pc = .ok (.istore j, 2)) (hj : j < μ.2.2.1) (hlv : lv_pick (zsto lv j (.int x)) ps = lv2) (k : zRT μ kc ks (pc + 2) lv2 st sh M R) : zRT μ kc ks pc lv (.int x :: st) sh M R := zs_istore _ hd hj rfl (zRT_sub ps hlv k)
theorem zs_astore_n2 {n : Fin 4} (j : Nat) {x : Nat} (ps : List Nat) (lv2 : List (Nat × Value)) (hd : decode μ.2.1 pc = .ok (.astore_n n, 1)) (hn : (n : Nat) = j) (hj : j < μ.2.2.1) (hlv : lv_pick (zsto lv j (.ref x)) ps = lv2) (k : zRT μ kc ks (pc + 1) lv2 st sh M R) : zRT μ kc ks pc lv (.ref x :: st) sh M R := zs_astore_n j _ hd hn hj rfl (zRT_sub ps hlv k)
theorem zs_astore_nN2 {n : Fin 4} (j : Nat) (ps : List Nat) (lv2 : List (Nat × Value)) (hd : decode μ.2.1 pc = .ok (.astore_n n, 1)) (hn : (n : Nat) = j) (hj : j < μ.2.2.1) (hlv : lv_pick (zsto lv j .null) ps = lv2) (k : zRT μ kc ks (pc + 1) lv2 st sh M R) : zRT μ kc ks pc lv (.null :: st) sh M R := zs_astore_nN j _ hd hn hj rfl (zRT_sub ps hlv k)
theorem zs_iinc2 {j : Nat} {n : Int} {x : Int32} (i : Nat) (v : Int32) (ps : List Nat) (lv2 : List (Nat × Value)) (hd : decode μ.2.1 pc = .ok (.iinc j n, 3)) (hi : lv[i]? = some (j, .int x)) (hv : x + Int32.ofInt n = v) (hj : j < μ.2.2.1) (hlv : lv_pick (zsto lv j (.int v)) ps = lv2) (k : zRT μ kc ks (pc + 3) lv2 st sh M R) : zRT μ kc ks pc lv st sh M R := zs_iinc i v _ hd hi hv hj rfl (zRT_sub ps hlv k)
end zMore
theorem zI_ne {x y : Int32} {z : Int} (h : ¬ x = y) (hz : y.toInt = z) : ¬ x.toInt = z := fun q => h (Int32.toInt_inj.mp (q.trans hz.symm))
theorem zsw_lk2 {a0 o0 a1 o1 df k : Int} (h0 : ¬ k = a0) (h1 : ¬ k = a1) : Op.lookupswitch.offset [(a0, o0), (a1, o1)] df k = df := by
  rw [Op.lookupswitch.offset_cons, if_neg (fun q => h0 q.symm), Op.lookupswitch.offset_cons, if_neg (fun q => h1 q.symm)]
  rfl
theorem zsw_lk3 {a0 o0 a1 o1 a2 o2 df k : Int} (h0 : ¬ k = a0) (h1 : ¬ k = a1) (h2 : ¬ k = a2) : Op.lookupswitch.offset [(a0, o0), (a1, o1), (a2, o2)] df k = df := by
  rw [Op.lookupswitch.offset_cons, if_neg (fun q => h0 q.symm), Op.lookupswitch.offset_cons, if_neg (fun q => h1 q.symm), Op.lookupswitch.offset_cons, if_neg (fun q => h2 q.symm)]
  rfl
