/-- a field that another class writes -/
def zPG (own : String) (ix ci k : Nat) (ty : FieldType) : Prop := ∃ (C : String) (T : u_T) (N : Nat) (t : Nat → FieldType), zCL[ci]? = some (C, T, N) ∧ (∀ w ∈ u_ws C T N, w ∈ zgt) ∧ k < N ∧ Cond.fieldLink own ix (T k).1 (T k).2.1 (T k).2.2.1 ∈ zgt ∧ (∀ k, k < N → parseFieldDescriptor (T k).2.2.1 = some (t k)) ∧ (∀ a, a < N → ∀ b, b < N → a ≠ b → (T a).2.1 ≠ (T b).2.1) ∧ (T k).2.2.2 = false ∧ parseFieldDescriptor (T k).2.2.1 = some ty
theorem zs_putG {μ : zMI} {kc ks pc : Nat} {lv : List (Nat × Value)} {st : List Value} {sh : List zShp} {M : zMem} {R : zEnd} {ix ci f o : Nat} {fs : List (Option (Option Nat))} {v : Int32} {ty : FieldType} (hd : decode μ.2.1 pc = .ok (.putfield ix, 3)) (F : zPG μ.1.cls ix ci f ty) (ho : sh[o]? = some (.inr (.inl (ci, fs)))) (hf : fs[f]? = some none) (hn : narrow ty (.int v) = .int v) (hfit : fits ty (.int v) = true) (k : zRT μ kc ks (pc + 3) lv st sh (zms M o f v) R) : zRT μ kc ks pc lv (.int v :: .ref o :: st) sh M R := by
  intro p l e Rm s m args below meth c H locs cells slots D cy B ls C V hc hs hl
  obtain ⟨Cn, T, N, t, h1, h2, h3, h4, h5, h6, h7, h8⟩ := F
  have hl0 : f < fs.length := (List.getElem?_eq_some_iff.mp hf).1
  refine va_put (D := D) (cl := zCL) (tys := zTY cy) (ws := zw cy B sh M) (fs := fs.mapIdx (fun j x => zv B (zfv (M o) j x))) C.1 C.2.1 C.2.2.2.2.2.1 h2 t h5 h6 C.2.2.2.2.1 V.1 V.2.1 (zw_D cy B sh M) (zS_self V.2.2.2.2.1) o (zw_at ho) h1 f h3 (C.2.2.2.2.2.1 _ h4) (fun _ h9 => h9) h7 h8 hn hfit (by simp; exact hl0) hd (fun H1 locs1 hP hD hS => ?_)
  have he : zw cy B sh (zms M o f v) = (zw cy B sh M).set o (B + o, .inr (ci, (fs.mapIdx (fun j x => zv B (zfv (M o) j x))).set f (.int v))) := by
    rw [zw_same ho (zms_ne M o f v), zms_row, ← zc_fs hf]
    rfl
  have hP : va_P D zCL (zw cy B sh (zms M o f v)) H1 := by rw [he]; exact hP
  exact zW_size (fun hz => k p l e Rm s m args below meth c H1 locs1 cells slots D cy B ls C (zWd_write V hP hS hz rfl) hc hs hl)
theorem pg_Reader_18 : zPG "OthersHands$Reader" 18 4 5 .int := ⟨_, _, _, _, rfl, zi_Pages, by decide, by decide +kernel, zo_Pages, zn_Pages, rfl, by decide +kernel⟩
theorem zs_max {μ : zMI} {kc ks pc : Nat} {lv : List (Nat × Value)} {st : List Value} {sh : List zShp} {M : zMem} {R : zEnd} {ix : Nat} {x y : Int32} (hd : decode μ.2.1 pc = .ok (.invokestatic ix, 3)) (hw : Cond.methodLink μ.1.cls ix Lib.Math.max.name ∈ zgt) (hr : 1 ≤ μ.2.2.2.2.1 ∧ (st.map fun v => v.category).sum + 13 ≤ μ.2.2.2.2.2) (k : zRT μ kc ks (pc + 3) lv (.int (if x < y then y else x) :: st) sh M R) : zRT μ kc ks pc lv (.int y :: .int x :: st) sh M R := by
  intro p l e Rm s m args below meth c H locs cells slots D cy B ls C V hc hs hl
  have hts := C.2.2.2.2.2.1
  exact va_mmax (rest := st.map (zv B)) C.1 C.2.1 (C.2.2.2.1.trans hl.1.symm) C.2.2.2.2.1 (hts _ hw) (hts _ (by decide +kernel)) (hts _ (by decide +kernel)) (hts _ (by decide +kernel)) (Nat.le_trans hr.1 C.2.2.2.2.2.2.2.2.1) (by rw [zst_sum]; exact Nat.le_trans hr.2 C.2.2.2.2.2.2.2.2.2.1) (by omega) (by omega) hd (k p l e Rm s m args below meth c H locs cells slots D cy B ls C V hc hs hl)
