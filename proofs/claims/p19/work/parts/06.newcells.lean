def zNW (own : String) (ix ci N : Nat) (fs : List (Option (Option Nat))) : Prop := ∃ (Cn : String) (T : u_T) (t : Nat → FieldType), zCL[ci]? = some (Cn, T, N) ∧ (∀ w ∈ u_ws Cn T N, w ∈ zgt) ∧ (∀ k, k < N → parseFieldDescriptor (T k).2.2.1 = some (t k)) ∧ Cond.classLink own ix Cn ∈ zgt ∧ Cond.instantiable Cn N ∈ zgt ∧ Cond.initialized Cn ∈ zgt ∧ (∀ j, j < N → defaultValue (t j) = vp_V (fs.mapIdx (fun j x => zfv (fun _ => 0) j x)) j) ∧ (∀ x ∈ fs, x = none ∨ x = some none)
/-- a new cell: the world behind it -/
theorem zWd_new {D : va_G} {cy : zCy} {B : Nat} {s : State} {H H1 : Heap} {locs : List Loc} {cells : Nat} {sh : List zShp} {M : zMem} (V : zWd D cy B s H locs cells sh M) (cc : zShp) (z1 : H1.size = H.size + 1) (o1 : ∀ q, q < H.size → H1[q]? = H[q]?) (h : va_at D zCL (H.size, zc cy B (fun _ => 0) cc) H1) : zWd D cy B s H1 locs (cells + 1) (sh ++ [cc]) (zmr M sh.length (fun _ => 0)) := by
  obtain ⟨v1, v2, v3, v4, v5, v6⟩ := V
  refine ⟨v1, ?_, by rw [z1, v3, List.length_append]; rfl, by omega, ⟨by have := v5.1; omega, fun q a b => (o1 q (Nat.lt_of_lt_of_le a v5.1)).trans (v5.2.1 q a b), v5.2.2⟩, v6⟩
  rw [zw_push, ← v3]
  refine (v2.kept (fun k x hx => o1 x.1 ((v2 k x hx).lt))).app (fun k x hx => ?_)
  have hz : k < 1 := (List.getElem?_eq_some_iff.mp hx).1
  rw [show k = 0 by omega] at hx
  cases hx
  exact h
theorem zs_new {μ : zMI} {kc ks pc : Nat} {lv : List (Nat × Value)} {st : List Value} {sh : List zShp} {M : zMem} {R : zEnd} {ix ci N : Nat} {fs : List (Option (Option Nat))} (hd : decode μ.2.1 pc = .ok (.new ix, 3)) (F : zNW μ.1.cls ix ci N fs) (k : zRT μ kc ks (pc + 3) lv (.ref sh.length :: st) (sh ++ [.inr (.inl (ci, fs))]) (zmr M sh.length (fun _ => 0)) R) : zRT μ (kc + 1) (ks + N) pc lv st sh M R := by
  intro p l e Rm s m args below meth c H locs cells slots D cy B ls C V hc hs hl
  obtain ⟨Cn, T, t, h1, h2, h3, h4, h5, h6, h7, h8⟩ := F
  have hts := C.2.2.2.2.2.1
  have hKn := V.1.1 ci _ h1
  refine W.newcK C.1 C.2.1 C.2.2.2.2.1 (hts _ h4) (hts _ h5) (hts _ h6) rfl hd (by omega) (by omega) hKn.2.1 rfl fun H1 kC hkC e1 z1 o1 => ?_
  have hfs : fs.mapIdx (fun j x => zv B (zfv (fun _ => 0) j x)) = fs.mapIdx (fun j x => zfv (fun _ => 0) j x) := by
    refine List.ext_getElem? fun j => ?_
    simp only [List.getElem?_mapIdx]
    cases hj : fs[j]? with
    | none => rfl
    | some x =>
      rcases h8 x (List.mem_of_getElem? hj) with rfl | rfl <;> rfl
  have hV := zWd_new V (.inr (.inl (ci, fs))) z1 o1 ⟨_, h1, by
    show t_OB H.size (D.1 ci) N (D.2 ci) H1 (vp_V (fs.mapIdx (fun j x => zv B (zfv (fun _ => 0) j x))))
    rw [hfs]
    exact (u_born t hts h2 hKn hkC e1 h3).to h7⟩
  have k := k p l e Rm s m args below meth c H1 locs (cells + 1) (slots + N) D cy B ls C hV (by omega) (by omega) hl
  rw [List.map_cons, show zv B (.ref sh.length) = .ref (B + sh.length) from rfl, ← V.2.2.1] at k
  exact k
theorem zs_newa {μ : zMI} {kc ks pc : Nat} {lv : List (Nat × Value)} {st : List Value} {sh : List zShp} {M : zMem} {R : zEnd} {n : Int32} {N : Nat} (hd : decode μ.2.1 pc = .ok (.newarray .int, 2)) (hn : ¬ n < 0) (hN : n.toNatClampNeg = N) (hb : N * componentBytes (newarray.typeOf .int) ≤ 536870912) (k : zRT μ kc ks (pc + 2) lv (.ref sh.length :: st) (sh ++ [.inl (0, N)]) (zmr M sh.length (fun _ => 0)) R) : zRT μ (kc + 1) (ks + N) pc lv (.int n :: st) sh M R := by
  intro p l e Rm s m args below meth c H locs cells slots D cy B ls C V hc hs hl
  have hts := C.2.2.2.2.2.1
  have hac : (Cond.arrayClass (newarray.typeOf .int)).before args s = true := hts (.arrayClass .int) (by decide +kernel)
  have hc1 : cells + 1 ≤ Rm.cells := by omega
  have hs1 : slots + N ≤ Rm.slots := by omega
  refine va_newaK (atype := .int) (g := F0 m pc ls (.int n :: st.map (zv B))) (rest := st.map (zv B)) (n := n) (N := N) C.1 C.2.1 hac rfl hd rfl hn hN hb hc1 hs1 (h := H.size) rfl fun H1 cA e1 z1 o1 hAr hNm => ?_
  have hcy : cA = cy.1 := by
    have h := (V.1.2 0 (cy.1, .int) rfl).2
    exact Option.some.inj (hNm.symm.trans h)
  subst hcy
  have hV := zWd_new V (.inl (0, N)) z1 o1 (by
    show H1[H.size]? = some (vp_cell cy.1 (N, .inl (fun _ => 0)))
    exact e1)
  have k := k p l e Rm s m args below meth c H1 locs (cells + 1) (slots + N) D cy B ls C hV (by omega) (by omega) hl
  rw [List.map_cons, show zv B (.ref sh.length) = .ref (B + sh.length) from rfl, ← V.2.2.1] at k
  exact k
theorem zs_newz {μ : zMI} {kc ks pc : Nat} {lv : List (Nat × Value)} {st : List Value} {sh : List zShp} {M : zMem} {R : zEnd} {n : Int32} {N : Nat} (hd : decode μ.2.1 pc = .ok (.newarray .boolean, 2)) (hn : ¬ n < 0) (hN : n.toNatClampNeg = N) (hb : N * componentBytes (newarray.typeOf .boolean) ≤ 536870912) (k : zRT μ kc ks (pc + 2) lv (.ref sh.length :: st) (sh ++ [.inl (1, N)]) (zmr M sh.length (fun _ => 0)) R) : zRT μ (kc + 1) (ks + N) pc lv (.int n :: st) sh M R := by
  intro p l e Rm s m args below meth c H locs cells slots D cy B ls C V hc hs hl
  have hts := C.2.2.2.2.2.1
  have hac : (Cond.arrayClass (newarray.typeOf .boolean)).before args s = true := hts (.arrayClass .boolean) (by decide +kernel)
  have hc1 : cells + 1 ≤ Rm.cells := by omega
  have hs1 : slots + N ≤ Rm.slots := by omega
  refine va_newaK (atype := .boolean) (g := F0 m pc ls (.int n :: st.map (zv B))) (rest := st.map (zv B)) (n := n) (N := N) C.1 C.2.1 hac rfl hd rfl hn hN hb hc1 hs1 (h := H.size) rfl fun H1 cA e1 z1 o1 hAr hNm => ?_
  have hcy : cA = cy.2.1 := by
    have h := (V.1.2 1 (cy.2.1, .boolean) rfl).2
    exact Option.some.inj (hNm.symm.trans h)
  subst hcy
  have hV := zWd_new V (.inl (1, N)) z1 o1 (by
    show H1[H.size]? = some (vp_cell cy.2.1 (N, .inl (fun _ => 0)))
    exact e1)
  have k := k p l e Rm s m args below meth c H1 locs (cells + 1) (slots + N) D cy B ls C hV (by omega) (by omega) hl
  rw [List.map_cons, show zv B (.ref sh.length) = .ref (B + sh.length) from rfl, ← V.2.2.1] at k
  exact k
theorem zs_newr {μ : zMI} {kc ks pc : Nat} {lv : List (Nat × Value)} {st : List Value} {sh : List zShp} {M : zMem} {R : zEnd} {n : Int32} {N ix : Nat} (hd : decode μ.2.1 pc = .ok (.anewarray ix, 3)) (hw : Cond.classLink μ.1.cls ix "OthersHands$Town" ∈ zgt) (hn : ¬ n < 0) (hN : n.toNatClampNeg = N) (hb : N * 4 ≤ 536870912) (k : zRT μ kc ks (pc + 3) lv (.ref sh.length :: st) (sh ++ [.inr (.inr (N, fun _ => none))]) (zmr M sh.length (fun _ => 0)) R) : zRT μ (kc + 1) (ks + N) pc lv (.int n :: st) sh M R := by
  intro p l e Rm s m args below meth c H locs cells slots D cy B ls C V hc hs hl
  have hts := C.2.2.2.2.2.1
  subst hN
  refine W.anew C.1 C.2.1 C.2.2.2.2.1 (hts _ hw) (va_AO.use (zCx_N C).2) rfl hd rfl hn hb (by omega) (by omega) fun cA kA comp f1 f2 f3 f4 => ?_
  generalize hH1 : H.push ({ cls := cA, slots := Array.replicate n.toNatClampNeg .null, vm := .none } : Cell) = H1
  have z1 : H1.size = H.size + 1 := by rw [← hH1, Array.size_push]
  have e1 : H1[H.size]? = some (arrV cA n.toNatClampNeg (fun _ => .null)) := by rw [← hH1, Array.getElem?_push_size, ← arrV_new]
  have o1 : ∀ q : Nat, q < H.size → H1[q]? = H[q]? := fun q hq => by rw [← hH1, Array.getElem?_push, if_neg (Nat.ne_of_lt hq)]
  have hcy : cA = cy.2.2 := by
    obtain ⟨_, _, -, -, -, h⟩ := (V.1.2 2 (cy.2.2, .object "OthersHands$Town") rfl).2
    exact Option.some.inj (f1.symm.trans h)
  subst hcy
  have hV := zWd_new V (.inr (.inr (n.toNatClampNeg, fun _ => none))) z1 o1 (by
    show H1[H.size]? = some (vp_cell cy.2.2 (n.toNatClampNeg, .inr (.inr (.inr (.inr (fun _ => none))))))
    exact e1)
  have k := k p l e Rm s m args below meth c H1 locs (cells + 1) (slots + n.toNatClampNeg) D cy B ls C hV (by omega) (by omega) hl
  rw [List.map_cons, show zv B (.ref sh.length) = .ref (B + sh.length) from rfl, ← V.2.2.1] at k
  exact k
theorem zs_objInit {μ : zMI} {kc ks pc : Nat} {lv : List (Nat × Value)} {st : List Value} {sh : List zShp} {M : zMem} {R : zEnd} {ix o : Nat} (hd : decode μ.2.1 pc = .ok (.invokespecial ix, 3)) (hw : Cond.methodLink μ.1.cls ix Lib.objectInit ∈ zgt) (hr : 1 ≤ μ.2.2.2.2.1 ∧ (st.map fun v => v.category).sum + 12 ≤ μ.2.2.2.2.2) (k : zRT μ kc ks (pc + 3) lv st sh M R) : zRT μ kc ks pc lv (.ref o :: st) sh M R := by
  intro p l e Rm s m args below meth c H locs cells slots D cy B ls C V hc hs hl
  have hts := C.2.2.2.2.2.1
  refine W.objInit (a := B + o) (rest := st.map (zv B)) C.1 C.2.1 C.2.2.2.2.1 (hts _ hw) (hts (.instanceMethod Lib.objectInit) (by decide +kernel)) (hts (.code Lib.objectInit ⟨#[0xb1]⟩ 1 none) (by decide +kernel)) rfl (hl.1.trans C.2.2.2.1.symm) rfl hd (Nat.le_trans hr.1 C.2.2.2.2.2.2.2.2.1) ?_ (k p l e Rm s m args below meth c H locs cells slots D cy B ls C V hc hs hl)
  have := C.2.2.2.2.2.2.2.2.2.1
  have h2 := hr.2
  show 2 * 0 + ((st.map (zv B)).map fun v => v.category).sum + 12 ≤ Rm.locals
  rw [zst_sum]
  omega
