/-! THE MACHINE SEEN SMALL: a heap is a list of kinds (positions, not addresses) and the numbers in it; a method's contract says what it answers and what heap it leaves. -/
abbrev zMem : Type := Nat → Nat → Int32
abbrev zShp : Type := (Nat × Nat) ⊕ ((Nat × List (Option (Option Nat))) ⊕ (Nat × (Nat → Option Nat)))
abbrev zCy : Type := ClassId × ClassId × ClassId
abbrev zMI : Type := MethodName × ByteArray × Nat × Option FieldType × Nat × Nat
abbrev zEnd : Type := Option Value → List zShp → zMem → Prop
def zv (B : Nat) (v : Value) : Value := match v with
  | .ref k => .ref (B + k)
  | w => w
def zms (M : zMem) (p i : Nat) (v : Int32) : zMem := fun a b => if a = p then (if b = i then v else M a b) else M a b
def zmr (M : zMem) (p : Nat) (f : Nat → Int32) : zMem := fun a b => if a = p then f b else M a b
def zfv (r : Nat → Int32) (j : Nat) (x : Option (Option Nat)) : Value := match x with
  | none => .int (r j)
  | some q => va_rf q
def zc (cy : zCy) (B : Nat) (r : Nat → Int32) (c : zShp) : va_E := match c with
  | .inl (0, n) => .inl (cy.1, n, .inl r)
  | .inl (_ + 1, n) => .inl (cy.2.1, n, .inl r)
  | .inr (.inl (ci, fs)) => .inr (ci, fs.mapIdx (fun j x => zv B (zfv r j x)))
  | .inr (.inr (n, g)) => .inl (cy.2.2, n, .inr (.inr (.inr (.inr (fun j => (g j).map (B + ·))))))
def zw (cy : zCy) (B : Nat) (sh : List zShp) (M : zMem) : va_W := sh.mapIdx (fun k c => (B + k, zc cy B (M k) c))
def zTY (cy : zCy) : List (ClassId × FieldType) := [(cy.1, .int), (cy.2.1, .boolean), (cy.2.2, .object "OthersHands$Town")]
def zws (μ : zMI) : List Cond := .code μ.1 μ.2.1 μ.2.2.1 μ.2.2.2.1 :: zgt
/-- the words of the nest, and the class of Town's rows -/
def zNx (U : State) : Prop := (∀ w ∈ zns, va_Nw w U) ∧ va_AO "OthersHands$Town" U
def zCx (μ : zMI) (p : Program) (Rm : Room) (s : State) (m : MethodId) (args : Array Value) (meth : Method) (c : Code) : Prop :=
  p.tables.exec = Jvm.exec ∧ c.code = μ.2.1 ∧ meth.sig.returnType = μ.2.2.2.1 ∧ c.maxLocals = μ.2.2.1 ∧ s.vm.findClass μ.1.cls = some m.cls ∧ (∀ w ∈ zgt, w.before args s = true) ∧ meth.locks = false ∧ meth.name = μ.1.name ∧ μ.2.2.2.2.1 ≤ Rm.frames ∧ μ.2.2.2.2.2 ≤ Rm.locals ∧ zNx s
def zWd (D : va_G) (cy : zCy) (B : Nat) (s : State) (H : Heap) (locs : List Loc) (cells : Nat) (sh : List zShp) (M : zMem) : Prop :=
  va_K D zCL (zTY cy) s ∧ va_P D zCL (zw cy B sh M) H ∧ H.size = B + sh.length ∧ s.heap.size + cells = H.size ∧ va_S (fun q => B ≤ q) s.heap H locs ∧ B ≤ s.heap.size
def zQC (D : va_G) (cy : zCy) (B kc : Nat) (R : zEnd) : Array Value → State → Outcome → State → Prop := fun _ st oc t =>
  (∃ (v : Option Value) (sh : List zShp) (M : zMem), oc = .returned (v.map (zv B)) ∧ R v sh M ∧ va_K D zCL (zTY cy) t ∧ va_P D zCL (zw cy B sh M) t.heap ∧ t.heap.size = B + sh.length) ∧ va_F (fun q => B ≤ q) st t ∧ t.heap.size = st.heap.size + kc
def zPre (D : va_G) (cy : zCy) (B : Nat) (as : List Value) (sh : List zShp) (M : zMem) : Array Value → State → Prop := va_Pc (as.map (zv B)) (fun U => va_K D zCL (zTY cy) U ∧ va_P D zCL (zw cy B sh M) U.heap ∧ U.heap.size = B + sh.length ∧ zNx U)
/-- a method's contract: called with these on this heap it returns, and R holds of its answer and the heap behind it; at most kc cells of ks slots are new -/
def zEx (μ : zMI) (kc ks : Nat) (as : List Value) (sh : List zShp) (M : zMem) (R : zEnd) : Prop :=
  ∀ (l : Launch) (D : va_G) (cy : zCy) (B : Nat), Met l μ.1 (zws μ) { frames := μ.2.2.2.2.1, cells := kc, slots := ks, locals := μ.2.2.2.2.2 } (zPre D cy B as sh M) (zQC D cy B kc R) kc ks (fun q => B ≤ q)
/-- from this place the method returns with R -/
def zRT (μ : zMI) (kc ks : Nat) (pc : Nat) (lv : List (Nat × Value)) (st : List Value) (sh : List zShp) (M : zMem) (R : zEnd) : Prop :=
  ∀ (p : Program) (l : Launch) (e : Env) (Rm : Room) (s : State) (m : MethodId) (args : Array Value) (below : List Frame) (meth : Method) (c : Code) (H : Heap) (locs : List Loc) (cells slots : Nat) (D : va_G) (cy : zCy) (B : Nat) (ls : Array Slot),
    zCx μ p Rm s m args meth c → zWd D cy B s H locs cells sh M → cells + kc = Rm.cells → slots + ks ≤ Rm.slots → lv_has ls μ.2.2.1 (lv.map (fun q => (q.1, zv B q.2))) →
    W p l e Rm s m args below meth c H locs cells slots (MQ below (zQC D cy B Rm.cells R) args s Rm.cells Rm.slots (fun q => B ≤ q)) (F0 m pc ls (st.map (zv B)))
theorem zv_int (B : Nat) (x : Int32) : zv B (.int x) = .int x := rfl
theorem zv_rf (B : Nat) (r : Option Nat) : zv B (va_rf r) = va_rf (r.map (B + ·)) := by cases r <;> rfl
theorem zw_at {cy : zCy} {B : Nat} {sh : List zShp} {M : zMem} {o : Nat} {c : zShp} (h : sh[o]? = some c) : (zw cy B sh M)[o]? = some (B + o, zc cy B (M o) c) := by
  simp [zw, List.getElem?_mapIdx, h]
theorem zw_len (cy : zCy) (B : Nat) (sh : List zShp) (M : zMem) : (zw cy B sh M).length = sh.length := by simp [zw]
theorem zw_D (cy : zCy) (B : Nat) (sh : List zShp) (M : zMem) : va_D (fun q => B ≤ q) (zw cy B sh M) := by
  have h : ∀ (i : Nat) (p : Nat × va_E), (zw cy B sh M)[i]? = some p → p.1 = B + i := by
    intro i p hp
    simp only [zw, List.getElem?_mapIdx, Option.map_eq_some_iff] at hp
    obtain ⟨c, -, rfl⟩ := hp
    rfl
  refine ⟨fun i j p q hp hq e => ?_, fun k q hq => ?_⟩
  · have h1 := h i p hp
    have h2 := h j q hq
    omega
  · have h1 := h k q hq
    show B ≤ q.1
    omega
theorem zw_set {cy : zCy} {B : Nat} {sh : List zShp} {M M' : zMem} {o : Nat} {c c' : zShp} (h : sh[o]? = some c) (hM : ∀ k, k ≠ o → M' k = M k) : zw cy B (sh.set o c') M' = (zw cy B sh M).set o (B + o, zc cy B (M' o) c') := by
  have hl : o < sh.length := (List.getElem?_eq_some_iff.mp h).1
  refine List.ext_getElem? fun k => ?_
  by_cases hk : o = k
  · subst hk
    simp [zw, List.getElem?_mapIdx, List.getElem?_set, hl]
  · simp only [zw, List.getElem?_mapIdx, List.getElem?_set, if_neg hk, hM k (fun q => hk q.symm)]
theorem zw_same {cy : zCy} {B : Nat} {sh : List zShp} {M M' : zMem} {o : Nat} {c : zShp} (h : sh[o]? = some c) (hM : ∀ k, k ≠ o → M' k = M k) : zw cy B sh M' = (zw cy B sh M).set o (B + o, zc cy B (M' o) c) := by
  have h1 : sh.set o c = sh := by
    refine List.ext_getElem? fun k => ?_
    by_cases hk : o = k
    · subst hk
      rw [List.getElem?_set_self (List.getElem?_eq_some_iff.mp h).1, h]
    · rw [List.getElem?_set_ne hk]
  have h2 := zw_set (cy := cy) (B := B) (c' := c) h hM
  rw [h1] at h2
  exact h2
theorem zw_push (cy : zCy) (B : Nat) (sh : List zShp) (M : zMem) (c : zShp) (f : Nat → Int32) : zw cy B (sh ++ [c]) (zmr M sh.length f) = zw cy B sh M ++ [(B + sh.length, zc cy B f c)] := by
  refine List.ext_getElem? fun k => ?_
  rcases Nat.lt_trichotomy k sh.length with h | h | h
  · rw [List.getElem?_append_left (by rw [zw_len]; exact h)]
    have hr : zmr M sh.length f k = M k := by funext b; simp [zmr, Nat.ne_of_lt h]
    simp only [zw, List.getElem?_mapIdx, List.getElem?_append_left h, hr]
  · subst h
    rw [List.getElem?_append_right (by rw [zw_len]; exact Nat.le_refl _), zw_len]
    have hr : zmr M sh.length f sh.length = f := by funext b; simp [zmr]
    simp [zw, List.getElem?_mapIdx, hr]
  · rw [List.getElem?_eq_none (by simp [zw]; omega), List.getElem?_eq_none (by simp [zw]; omega)]
theorem zms_ne (M : zMem) (p i : Nat) (v : Int32) : ∀ k, k ≠ p → zms M p i v k = M k := fun k h => by funext b; simp [zms, h]
theorem zms_row (M : zMem) (p i : Nat) (v : Int32) : zms M p i v p = upd (M p) i v := by funext b; simp [zms, upd]
theorem zmr_ne (M : zMem) (p : Nat) (f : Nat → Int32) : ∀ k, k ≠ p → zmr M p f k = M k := fun k h => by funext b; simp [zmr, h]
theorem zmr_row (M : zMem) (p : Nat) (f : Nat → Int32) : zmr M p f p = f := by funext b; simp [zmr]
theorem zc_fs {B : Nat} {r : Nat → Int32} {fs : List (Option (Option Nat))} {k : Nat} {v : Int32} (hk : fs[k]? = some none) : fs.mapIdx (fun j x => zv B (zfv (upd r k v) j x)) = (fs.mapIdx (fun j x => zv B (zfv r j x))).set k (.int v) := by
  have hl : k < fs.length := (List.getElem?_eq_some_iff.mp hk).1
  refine List.ext_getElem? fun j => ?_
  by_cases hj : k = j
  · subst hj
    rw [List.getElem?_set_self (by simp; exact hl), List.getElem?_mapIdx, hk]
    simp [zfv, zv, upd]
  · rw [List.getElem?_set_ne hj]
    simp only [List.getElem?_mapIdx]
    congr 1
    funext x
    cases x with
    | none => simp only [zfv, upd, if_neg (fun q : j = k => hj q.symm)]
    | some q => rfl
theorem zc_fr {B : Nat} {r : Nat → Int32} {fs : List (Option (Option Nat))} {k : Nat} (q : Option Nat) (hl : k < fs.length) : (fs.set k (some q)).mapIdx (fun j x => zv B (zfv r j x)) = (fs.mapIdx (fun j x => zv B (zfv r j x))).set k (zv B (va_rf q)) := by
  refine List.ext_getElem? fun j => ?_
  by_cases hj : k = j
  · subst hj
    simp [List.getElem?_mapIdx, List.getElem?_set, hl, zfv]
  · rw [List.getElem?_set_ne hj]
    simp only [List.getElem?_mapIdx, List.getElem?_set_ne hj]

theorem zs_iconst {μ : zMI} {kc ks pc : Nat} {lv : List (Nat × Value)} {st : List Value} {sh : List zShp} {M : zMem} {R : zEnd} {n : Int} (v : Int32) (hd : decode μ.2.1 pc = .ok (.iconst n, 1)) (hv : Int32.ofInt n = v) (k : (zRT μ kc ks (pc + 1) lv (.int v :: st) sh M R)) : (zRT μ kc ks (pc) lv (st) sh M R) := by
  intro p l e Rm s m args below meth c H locs cells slots D cy B ls C V hc hs hl
  exact lv_iconst C.1 C.2.1 hd hv (k p l e Rm s m args below meth c H locs cells slots D cy B ls C V hc hs hl)
theorem zs_bipush {μ : zMI} {kc ks pc : Nat} {lv : List (Nat × Value)} {st : List Value} {sh : List zShp} {M : zMem} {R : zEnd} {n : Int} (v : Int32) (hd : decode μ.2.1 pc = .ok (.bipush n, 2)) (hv : (Int8.ofInt n).toInt32 = v) (k : (zRT μ kc ks (pc + 2) lv (.int v :: st) sh M R)) : (zRT μ kc ks (pc) lv (st) sh M R) := by
  intro p l e Rm s m args below meth c H locs cells slots D cy B ls C V hc hs hl
  exact lv_bipush C.1 C.2.1 hd hv (k p l e Rm s m args below meth c H locs cells slots D cy B ls C V hc hs hl)
theorem zs_sipush {μ : zMI} {kc ks pc : Nat} {lv : List (Nat × Value)} {st : List Value} {sh : List zShp} {M : zMem} {R : zEnd} {n : Int} (v : Int32) (hd : decode μ.2.1 pc = .ok (.sipush n, 3)) (hv : (Int16.ofInt n).toInt32 = v) (k : (zRT μ kc ks (pc + 3) lv (.int v :: st) sh M R)) : (zRT μ kc ks (pc) lv (st) sh M R) := by
  intro p l e Rm s m args below meth c H locs cells slots D cy B ls C V hc hs hl
  exact lv_sipush C.1 C.2.1 hd hv (k p l e Rm s m args below meth c H locs cells slots D cy B ls C V hc hs hl)
theorem zs_iload_n {μ : zMI} {kc ks pc : Nat} {lv : List (Nat × Value)} {st : List Value} {sh : List zShp} {M : zMem} {R : zEnd} {n : Fin 4} (j : Nat) {x : Int32} (hd : decode μ.2.1 pc = .ok (.iload_n n, 1)) (hn : (n : Nat) = j) (hi : (j, Value.int x) ∈ lv) (k : (zRT μ kc ks (pc + 1) lv (.int x :: st) sh M R)) : (zRT μ kc ks (pc) lv (st) sh M R) := by
  intro p l e Rm s m args below meth c H locs cells slots D cy B ls C V hc hs hl
  exact lv_iload_n C.1 C.2.1 hd hn (hl.2.2 (j, .int x) (List.mem_map.mpr ⟨_, hi, rfl⟩)) (k p l e Rm s m args below meth c H locs cells slots D cy B ls C V hc hs hl)
theorem zs_iload {μ : zMI} {kc ks pc : Nat} {lv : List (Nat × Value)} {st : List Value} {sh : List zShp} {M : zMem} {R : zEnd} {j : Nat} {x : Int32} (hd : decode μ.2.1 pc = .ok (.iload j, 2)) (hi : (j, Value.int x) ∈ lv) (k : (zRT μ kc ks (pc + 2) lv (.int x :: st) sh M R)) : (zRT μ kc ks (pc) lv (st) sh M R) := by
  intro p l e Rm s m args below meth c H locs cells slots D cy B ls C V hc hs hl
  exact lv_iload C.1 C.2.1 hd (hl.2.2 (j, .int x) (List.mem_map.mpr ⟨_, hi, rfl⟩)) (k p l e Rm s m args below meth c H locs cells slots D cy B ls C V hc hs hl)
theorem zs_aload_n {μ : zMI} {kc ks pc : Nat} {lv : List (Nat × Value)} {st : List Value} {sh : List zShp} {M : zMem} {R : zEnd} {n : Fin 4} (j : Nat) {x : Nat} (hd : decode μ.2.1 pc = .ok (.aload_n n, 1)) (hn : (n : Nat) = j) (hi : (j, Value.ref x) ∈ lv) (k : (zRT μ kc ks (pc + 1) lv (.ref x :: st) sh M R)) : (zRT μ kc ks (pc) lv (st) sh M R) := by
  intro p l e Rm s m args below meth c H locs cells slots D cy B ls C V hc hs hl
  exact lv_aload_n C.1 C.2.1 hd hn (hl.2.2 (j, .ref (B + x)) (List.mem_map.mpr ⟨_, hi, rfl⟩)) (k p l e Rm s m args below meth c H locs cells slots D cy B ls C V hc hs hl)
theorem zs_aload {μ : zMI} {kc ks pc : Nat} {lv : List (Nat × Value)} {st : List Value} {sh : List zShp} {M : zMem} {R : zEnd} {j : Nat} {x : Nat} (hd : decode μ.2.1 pc = .ok (.aload j, 2)) (hi : (j, Value.ref x) ∈ lv) (k : (zRT μ kc ks (pc + 2) lv (.ref x :: st) sh M R)) : (zRT μ kc ks (pc) lv (st) sh M R) := by
  intro p l e Rm s m args below meth c H locs cells slots D cy B ls C V hc hs hl
  exact lv_aload C.1 C.2.1 hd (hl.2.2 (j, .ref (B + x)) (List.mem_map.mpr ⟨_, hi, rfl⟩)) (k p l e Rm s m args below meth c H locs cells slots D cy B ls C V hc hs hl)
theorem zs_aload_nN {μ : zMI} {kc ks pc : Nat} {lv : List (Nat × Value)} {st : List Value} {sh : List zShp} {M : zMem} {R : zEnd} {n : Fin 4} (j : Nat) (hd : decode μ.2.1 pc = .ok (.aload_n n, 1)) (hn : (n : Nat) = j) (hi : (j, Value.null) ∈ lv) (k : (zRT μ kc ks (pc + 1) lv (.null :: st) sh M R)) : (zRT μ kc ks (pc) lv (st) sh M R) := by
  intro p l e Rm s m args below meth c H locs cells slots D cy B ls C V hc hs hl
  exact lv_aload_nN C.1 C.2.1 hd hn (hl.2.2 (j, .null) (List.mem_map.mpr ⟨_, hi, rfl⟩)) (k p l e Rm s m args below meth c H locs cells slots D cy B ls C V hc hs hl)
def zsto (lv : List (Nat × Value)) (j : Nat) (v : Value) : List (Nat × Value) := (j, v) :: lv.filter (fun q => !(q.1 == j) && !(q.1 + 1 == j && q.2.category == 2))
theorem zv_cat (B : Nat) (v : Value) : (zv B v).category = v.category := by cases v <;> rfl
theorem zsto_map (B : Nat) (lv : List (Nat × Value)) (j : Nat) (v : Value) : (j, zv B v) :: (lv.map (fun q => (q.1, zv B q.2))).filter (fun q => !(q.1 == j) && !(q.1 + 1 == j && q.2.category == 2)) = (zsto lv j v).map (fun q => (q.1, zv B q.2)) := by
  simp [zsto, List.filter_map, Function.comp_def, zv_cat]
theorem zs_istore_n {μ : zMI} {kc ks pc : Nat} {lv : List (Nat × Value)} {st : List Value} {sh : List zShp} {M : zMem} {R : zEnd} {n : Fin 4} (j : Nat) {x : Int32} (lv2 : List (Nat × Value)) (hd : decode μ.2.1 pc = .ok (.istore_n n, 1)) (hn : (n : Nat) = j) (hj : j < μ.2.2.1) (hlv : zsto lv j (.int x) = lv2) (k : (zRT μ kc ks (pc + 1) lv2 (st) sh M R)) : (zRT μ kc ks (pc) lv (.int x :: st) sh M R) := by
  intro p l e Rm s m args below meth c H locs cells slots D cy B ls C V hc hs hl
  subst hlv
  exact lv_istore_n C.1 C.2.1 hd hn hl hj (zsto_map B lv j (.int x)) (fun ls2 hl2 => k p l e Rm s m args below meth c H locs cells slots D cy B ls2 C V hc hs hl2)
theorem zs_istore {μ : zMI} {kc ks pc : Nat} {lv : List (Nat × Value)} {st : List Value} {sh : List zShp} {M : zMem} {R : zEnd} {j : Nat} {x : Int32} (lv2 : List (Nat × Value)) (hd : decode μ.2.1 pc = .ok (.istore j, 2)) (hj : j < μ.2.2.1) (hlv : zsto lv j (.int x) = lv2) (k : (zRT μ kc ks (pc + 2) lv2 (st) sh M R)) : (zRT μ kc ks (pc) lv (.int x :: st) sh M R) := by
  intro p l e Rm s m args below meth c H locs cells slots D cy B ls C V hc hs hl
  subst hlv
  exact lv_istore C.1 C.2.1 hd hl hj (zsto_map B lv j (.int x)) (fun ls2 hl2 => k p l e Rm s m args below meth c H locs cells slots D cy B ls2 C V hc hs hl2)
theorem zs_astore_n {μ : zMI} {kc ks pc : Nat} {lv : List (Nat × Value)} {st : List Value} {sh : List zShp} {M : zMem} {R : zEnd} {n : Fin 4} (j : Nat) {x : Nat} (lv2 : List (Nat × Value)) (hd : decode μ.2.1 pc = .ok (.astore_n n, 1)) (hn : (n : Nat) = j) (hj : j < μ.2.2.1) (hlv : zsto lv j (.ref x) = lv2) (k : (zRT μ kc ks (pc + 1) lv2 (st) sh M R)) : (zRT μ kc ks (pc) lv (.ref x :: st) sh M R) := by
  intro p l e Rm s m args below meth c H locs cells slots D cy B ls C V hc hs hl
  subst hlv
  exact lv_astore_n C.1 C.2.1 hd hn hl hj (zsto_map B lv j (.ref x)) (fun ls2 hl2 => k p l e Rm s m args below meth c H locs cells slots D cy B ls2 C V hc hs hl2)
theorem zs_astore {μ : zMI} {kc ks pc : Nat} {lv : List (Nat × Value)} {st : List Value} {sh : List zShp} {M : zMem} {R : zEnd} {j : Nat} {x : Nat} (lv2 : List (Nat × Value)) (hd : decode μ.2.1 pc = .ok (.astore j, 2)) (hj : j < μ.2.2.1) (hlv : zsto lv j (.ref x) = lv2) (k : (zRT μ kc ks (pc + 2) lv2 (st) sh M R)) : (zRT μ kc ks (pc) lv (.ref x :: st) sh M R) := by
  intro p l e Rm s m args below meth c H locs cells slots D cy B ls C V hc hs hl
  subst hlv
  exact lv_astore C.1 C.2.1 hd hl hj (zsto_map B lv j (.ref x)) (fun ls2 hl2 => k p l e Rm s m args below meth c H locs cells slots D cy B ls2 C V hc hs hl2)
theorem zs_astore_nN {μ : zMI} {kc ks pc : Nat} {lv : List (Nat × Value)} {st : List Value} {sh : List zShp} {M : zMem} {R : zEnd} {n : Fin 4} (j : Nat) (lv2 : List (Nat × Value)) (hd : decode μ.2.1 pc = .ok (.astore_n n, 1)) (hn : (n : Nat) = j) (hj : j < μ.2.2.1) (hlv : zsto lv j .null = lv2) (k : (zRT μ kc ks (pc + 1) lv2 (st) sh M R)) : (zRT μ kc ks (pc) lv (.null :: st) sh M R) := by
  intro p l e Rm s m args below meth c H locs cells slots D cy B ls C V hc hs hl
  subst hlv
  exact lv_astore_nN C.1 C.2.1 hd hn hl hj (zsto_map B lv j .null) (fun ls2 hl2 => k p l e Rm s m args below meth c H locs cells slots D cy B ls2 C V hc hs hl2)
theorem zs_iinc {μ : zMI} {kc ks pc : Nat} {lv : List (Nat × Value)} {st : List Value} {sh : List zShp} {M : zMem} {R : zEnd} {j : Nat} {n : Int} {x : Int32} (i : Nat) (v : Int32) (lv2 : List (Nat × Value)) (hd : decode μ.2.1 pc = .ok (.iinc j n, 3)) (hi : lv[i]? = some (j, .int x)) (hv : x + Int32.ofInt n = v) (hj : j < μ.2.2.1) (hlv : zsto lv j (.int v) = lv2) (k : (zRT μ kc ks (pc + 3) lv2 (st) sh M R)) : (zRT μ kc ks (pc) lv (st) sh M R) := by
  intro p l e Rm s m args below meth c H locs cells slots D cy B ls C V hc hs hl
  subst hlv
  exact lv_iinc (k := i) C.1 C.2.1 hd hl (by rw [List.getElem?_map, hi]; rfl) hv hj (zsto_map B lv j (.int v)) (fun ls2 hl2 => k p l e Rm s m args below meth c H locs cells slots D cy B ls2 C V hc hs hl2)
theorem zs_iadd {μ : zMI} {kc ks pc : Nat} {lv : List (Nat × Value)} {st : List Value} {sh : List zShp} {M : zMem} {R : zEnd} {x y : Int32} (hd : decode μ.2.1 pc = .ok (.iadd, 1))  (k : (zRT μ kc ks (pc + 1) lv (.int (x + y) :: st) sh M R)) : (zRT μ kc ks (pc) lv (.int y :: .int x :: st) sh M R) := by
  intro p l e Rm s m args below meth c H locs cells slots D cy B ls C V hc hs hl
  exact lv_iadd C.1 C.2.1 hd  (k p l e Rm s m args below meth c H locs cells slots D cy B ls C V hc hs hl)
theorem zs_isub {μ : zMI} {kc ks pc : Nat} {lv : List (Nat × Value)} {st : List Value} {sh : List zShp} {M : zMem} {R : zEnd} {x y : Int32} (hd : decode μ.2.1 pc = .ok (.isub, 1))  (k : (zRT μ kc ks (pc + 1) lv (.int (x - y) :: st) sh M R)) : (zRT μ kc ks (pc) lv (.int y :: .int x :: st) sh M R) := by
  intro p l e Rm s m args below meth c H locs cells slots D cy B ls C V hc hs hl
  exact lv_isub C.1 C.2.1 hd  (k p l e Rm s m args below meth c H locs cells slots D cy B ls C V hc hs hl)
theorem zs_imul {μ : zMI} {kc ks pc : Nat} {lv : List (Nat × Value)} {st : List Value} {sh : List zShp} {M : zMem} {R : zEnd} {x y : Int32} (hd : decode μ.2.1 pc = .ok (.imul, 1))  (k : (zRT μ kc ks (pc + 1) lv (.int (x * y) :: st) sh M R)) : (zRT μ kc ks (pc) lv (.int y :: .int x :: st) sh M R) := by
  intro p l e Rm s m args below meth c H locs cells slots D cy B ls C V hc hs hl
  exact lv_imul C.1 C.2.1 hd  (k p l e Rm s m args below meth c H locs cells slots D cy B ls C V hc hs hl)
theorem zs_iand {μ : zMI} {kc ks pc : Nat} {lv : List (Nat × Value)} {st : List Value} {sh : List zShp} {M : zMem} {R : zEnd} {x y : Int32} (hd : decode μ.2.1 pc = .ok (.iand, 1))  (k : (zRT μ kc ks (pc + 1) lv (.int (x &&& y) :: st) sh M R)) : (zRT μ kc ks (pc) lv (.int y :: .int x :: st) sh M R) := by
  intro p l e Rm s m args below meth c H locs cells slots D cy B ls C V hc hs hl
  exact lv_iand C.1 C.2.1 hd  (k p l e Rm s m args below meth c H locs cells slots D cy B ls C V hc hs hl)
theorem zs_ior {μ : zMI} {kc ks pc : Nat} {lv : List (Nat × Value)} {st : List Value} {sh : List zShp} {M : zMem} {R : zEnd} {x y : Int32} (hd : decode μ.2.1 pc = .ok (.ior, 1))  (k : (zRT μ kc ks (pc + 1) lv (.int (x ||| y) :: st) sh M R)) : (zRT μ kc ks (pc) lv (.int y :: .int x :: st) sh M R) := by
  intro p l e Rm s m args below meth c H locs cells slots D cy B ls C V hc hs hl
  exact lv_ior C.1 C.2.1 hd  (k p l e Rm s m args below meth c H locs cells slots D cy B ls C V hc hs hl)
theorem zs_ixor {μ : zMI} {kc ks pc : Nat} {lv : List (Nat × Value)} {st : List Value} {sh : List zShp} {M : zMem} {R : zEnd} {x y : Int32} (hd : decode μ.2.1 pc = .ok (.ixor, 1))  (k : (zRT μ kc ks (pc + 1) lv (.int (x ^^^ y) :: st) sh M R)) : (zRT μ kc ks (pc) lv (.int y :: .int x :: st) sh M R) := by
  intro p l e Rm s m args below meth c H locs cells slots D cy B ls C V hc hs hl
  exact lv_ixor C.1 C.2.1 hd  (k p l e Rm s m args below meth c H locs cells slots D cy B ls C V hc hs hl)
theorem zs_ishl {μ : zMI} {kc ks pc : Nat} {lv : List (Nat × Value)} {st : List Value} {sh : List zShp} {M : zMem} {R : zEnd} {x y : Int32} (hd : decode μ.2.1 pc = .ok (.ishl, 1))  (k : (zRT μ kc ks (pc + 1) lv (.int (x <<< (y &&& 31)) :: st) sh M R)) : (zRT μ kc ks (pc) lv (.int y :: .int x :: st) sh M R) := by
  intro p l e Rm s m args below meth c H locs cells slots D cy B ls C V hc hs hl
  exact lv_ishl C.1 C.2.1 hd  (k p l e Rm s m args below meth c H locs cells slots D cy B ls C V hc hs hl)
theorem zs_ishr {μ : zMI} {kc ks pc : Nat} {lv : List (Nat × Value)} {st : List Value} {sh : List zShp} {M : zMem} {R : zEnd} {x y : Int32} (hd : decode μ.2.1 pc = .ok (.ishr, 1))  (k : (zRT μ kc ks (pc + 1) lv (.int (x >>> (y &&& 31)) :: st) sh M R)) : (zRT μ kc ks (pc) lv (.int y :: .int x :: st) sh M R) := by
  intro p l e Rm s m args below meth c H locs cells slots D cy B ls C V hc hs hl
  exact lv_ishr C.1 C.2.1 hd  (k p l e Rm s m args below meth c H locs cells slots D cy B ls C V hc hs hl)
theorem zs_idiv {μ : zMI} {kc ks pc : Nat} {lv : List (Nat × Value)} {st : List Value} {sh : List zShp} {M : zMem} {R : zEnd} {x y : Int32} (hd : decode μ.2.1 pc = .ok (.idiv, 1)) (hne : ¬ y = 0) (k : (zRT μ kc ks (pc + 1) lv (.int (x / y) :: st) sh M R)) : (zRT μ kc ks (pc) lv (.int y :: .int x :: st) sh M R) := by
  intro p l e Rm s m args below meth c H locs cells slots D cy B ls C V hc hs hl
  exact lv_idiv C.1 C.2.1 hd hne (k p l e Rm s m args below meth c H locs cells slots D cy B ls C V hc hs hl)
theorem zs_irem {μ : zMI} {kc ks pc : Nat} {lv : List (Nat × Value)} {st : List Value} {sh : List zShp} {M : zMem} {R : zEnd} {x y : Int32} (hd : decode μ.2.1 pc = .ok (.irem, 1)) (hne : ¬ y = 0) (k : (zRT μ kc ks (pc + 1) lv (.int (x - x / y * y) :: st) sh M R)) : (zRT μ kc ks (pc) lv (.int y :: .int x :: st) sh M R) := by
  intro p l e Rm s m args below meth c H locs cells slots D cy B ls C V hc hs hl
  exact lv_irem C.1 C.2.1 hd hne (k p l e Rm s m args below meth c H locs cells slots D cy B ls C V hc hs hl)
theorem zs_iushr {μ : zMI} {kc ks pc : Nat} {lv : List (Nat × Value)} {st : List Value} {sh : List zShp} {M : zMem} {R : zEnd} {x y : Int32} (hd : decode μ.2.1 pc = .ok (.iushr, 1)) (k : (zRT μ kc ks (pc + 1) lv (.int ((x.toUInt32 >>> (y.toUInt32 &&& Int32.toUInt32 31)).toInt32) :: st) sh M R)) : (zRT μ kc ks (pc) lv (.int y :: .int x :: st) sh M R) := by
  intro p l e Rm s m args below meth c H locs cells slots D cy B ls C V hc hs hl
  exact lv_iushr C.1 C.2.1 hd rfl (k p l e Rm s m args below meth c H locs cells slots D cy B ls C V hc hs hl)
theorem zs_ineg {μ : zMI} {kc ks pc : Nat} {lv : List (Nat × Value)} {st : List Value} {sh : List zShp} {M : zMem} {R : zEnd} {x : Int32} (hd : decode μ.2.1 pc = .ok (.ineg, 1)) (k : (zRT μ kc ks (pc + 1) lv (.int (-x) :: st) sh M R)) : (zRT μ kc ks (pc) lv (.int x :: st) sh M R) := by
  intro p l e Rm s m args below meth c H locs cells slots D cy B ls C V hc hs hl
  exact lv_ineg C.1 C.2.1 hd (k p l e Rm s m args below meth c H locs cells slots D cy B ls C V hc hs hl)
theorem zs_i2l {μ : zMI} {kc ks pc : Nat} {lv : List (Nat × Value)} {st : List Value} {sh : List zShp} {M : zMem} {R : zEnd} {x : Int32} (hd : decode μ.2.1 pc = .ok (.i2l, 1)) (k : (zRT μ kc ks (pc + 1) lv (.long x.toInt64 :: st) sh M R)) : (zRT μ kc ks (pc) lv (.int x :: st) sh M R) := by
  intro p l e Rm s m args below meth c H locs cells slots D cy B ls C V hc hs hl
  exact lv_i2l C.1 C.2.1 hd rfl (k p l e Rm s m args below meth c H locs cells slots D cy B ls C V hc hs hl)
theorem zs_dup {μ : zMI} {kc ks pc : Nat} {lv : List (Nat × Value)} {st : List Value} {sh : List zShp} {M : zMem} {R : zEnd} {v : Value} (hd : decode μ.2.1 pc = .ok (.dup, 1)) (hv : v.category = 1) (k : (zRT μ kc ks (pc + 1) lv (v :: v :: st) sh M R)) : (zRT μ kc ks (pc) lv (v :: st) sh M R) := by
  intro p l e Rm s m args below meth c H locs cells slots D cy B ls C V hc hs hl
  exact lv_dup C.1 C.2.1 hd ((zv_cat B v).trans hv) (k p l e Rm s m args below meth c H locs cells slots D cy B ls C V hc hs hl)
theorem zs_dup2 {μ : zMI} {kc ks pc : Nat} {lv : List (Nat × Value)} {st : List Value} {sh : List zShp} {M : zMem} {R : zEnd} {v w : Value} (hd : decode μ.2.1 pc = .ok (.dup2, 1)) (hv : v.category = 1) (hw : w.category = 1) (k : (zRT μ kc ks (pc + 1) lv (v :: w :: v :: w :: st) sh M R)) : (zRT μ kc ks (pc) lv (v :: w :: st) sh M R) := by
  intro p l e Rm s m args below meth c H locs cells slots D cy B ls C V hc hs hl
  exact lv_dup2_11 C.1 C.2.1 hd ((zv_cat B v).trans hv) ((zv_cat B w).trans hw) (k p l e Rm s m args below meth c H locs cells slots D cy B ls C V hc hs hl)
theorem zs_pop {μ : zMI} {kc ks pc : Nat} {lv : List (Nat × Value)} {st : List Value} {sh : List zShp} {M : zMem} {R : zEnd} {v : Value} (hd : decode μ.2.1 pc = .ok (.pop, 1)) (hv : v.category = 1) (k : (zRT μ kc ks (pc + 1) lv (st) sh M R)) : (zRT μ kc ks (pc) lv (v :: st) sh M R) := by
  intro p l e Rm s m args below meth c H locs cells slots D cy B ls C V hc hs hl
  exact lv_pop C.1 C.2.1 hd ((zv_cat B v).trans hv) (k p l e Rm s m args below meth c H locs cells slots D cy B ls C V hc hs hl)
theorem zs_if_eq {μ : zMI} {kc ks pc : Nat} {lv : List (Nat × Value)} {st : List Value} {sh : List zShp} {M : zMem} {R : zEnd} {x : Int32} {off : Int} (tgt : Nat) (hd : decode μ.2.1 pc = .ok (.ifCond .eq off, 3)) (ht : (pc : Int) + off = (tgt : Int)) (kt : x = 0 → (zRT μ kc ks (tgt) lv (st) sh M R)) (kf : ¬ x = 0 → (zRT μ kc ks (pc + 3) lv (st) sh M R)) : (zRT μ kc ks (pc) lv (.int x :: st) sh M R) := by
  intro p l e Rm s m args below meth c H locs cells slots D cy B ls C V hc hs hl
  exact lv_if_eq C.1 C.2.1 hd ht (fun z => kt z p l e Rm s m args below meth c H locs cells slots D cy B ls C V hc hs hl) (fun z => kf z p l e Rm s m args below meth c H locs cells slots D cy B ls C V hc hs hl)
theorem zs_if_ne {μ : zMI} {kc ks pc : Nat} {lv : List (Nat × Value)} {st : List Value} {sh : List zShp} {M : zMem} {R : zEnd} {x : Int32} {off : Int} (tgt : Nat) (hd : decode μ.2.1 pc = .ok (.ifCond .ne off, 3)) (ht : (pc : Int) + off = (tgt : Int)) (kt : ¬ x = 0 → (zRT μ kc ks (tgt) lv (st) sh M R)) (kf : x = 0 → (zRT μ kc ks (pc + 3) lv (st) sh M R)) : (zRT μ kc ks (pc) lv (.int x :: st) sh M R) := by
  intro p l e Rm s m args below meth c H locs cells slots D cy B ls C V hc hs hl
  exact lv_if_ne C.1 C.2.1 hd ht (fun z => kt z p l e Rm s m args below meth c H locs cells slots D cy B ls C V hc hs hl) (fun z => kf z p l e Rm s m args below meth c H locs cells slots D cy B ls C V hc hs hl)
theorem zs_if_lt {μ : zMI} {kc ks pc : Nat} {lv : List (Nat × Value)} {st : List Value} {sh : List zShp} {M : zMem} {R : zEnd} {x : Int32} {off : Int} (tgt : Nat) (hd : decode μ.2.1 pc = .ok (.ifCond .lt off, 3)) (ht : (pc : Int) + off = (tgt : Int)) (kt : x < 0 → (zRT μ kc ks (tgt) lv (st) sh M R)) (kf : ¬ x < 0 → (zRT μ kc ks (pc + 3) lv (st) sh M R)) : (zRT μ kc ks (pc) lv (.int x :: st) sh M R) := by
  intro p l e Rm s m args below meth c H locs cells slots D cy B ls C V hc hs hl
  exact lv_if_lt C.1 C.2.1 hd ht (fun z => kt z p l e Rm s m args below meth c H locs cells slots D cy B ls C V hc hs hl) (fun z => kf z p l e Rm s m args below meth c H locs cells slots D cy B ls C V hc hs hl)
theorem zs_if_ge {μ : zMI} {kc ks pc : Nat} {lv : List (Nat × Value)} {st : List Value} {sh : List zShp} {M : zMem} {R : zEnd} {x : Int32} {off : Int} (tgt : Nat) (hd : decode μ.2.1 pc = .ok (.ifCond .ge off, 3)) (ht : (pc : Int) + off = (tgt : Int)) (kt : 0 ≤ x → (zRT μ kc ks (tgt) lv (st) sh M R)) (kf : ¬ 0 ≤ x → (zRT μ kc ks (pc + 3) lv (st) sh M R)) : (zRT μ kc ks (pc) lv (.int x :: st) sh M R) := by
  intro p l e Rm s m args below meth c H locs cells slots D cy B ls C V hc hs hl
  exact lv_if_ge C.1 C.2.1 hd ht (fun z => kt z p l e Rm s m args below meth c H locs cells slots D cy B ls C V hc hs hl) (fun z => kf z p l e Rm s m args below meth c H locs cells slots D cy B ls C V hc hs hl)
theorem zs_if_gt {μ : zMI} {kc ks pc : Nat} {lv : List (Nat × Value)} {st : List Value} {sh : List zShp} {M : zMem} {R : zEnd} {x : Int32} {off : Int} (tgt : Nat) (hd : decode μ.2.1 pc = .ok (.ifCond .gt off, 3)) (ht : (pc : Int) + off = (tgt : Int)) (kt : 0 < x → (zRT μ kc ks (tgt) lv (st) sh M R)) (kf : ¬ 0 < x → (zRT μ kc ks (pc + 3) lv (st) sh M R)) : (zRT μ kc ks (pc) lv (.int x :: st) sh M R) := by
  intro p l e Rm s m args below meth c H locs cells slots D cy B ls C V hc hs hl
  exact lv_if_gt C.1 C.2.1 hd ht (fun z => kt z p l e Rm s m args below meth c H locs cells slots D cy B ls C V hc hs hl) (fun z => kf z p l e Rm s m args below meth c H locs cells slots D cy B ls C V hc hs hl)
theorem zs_if_le {μ : zMI} {kc ks pc : Nat} {lv : List (Nat × Value)} {st : List Value} {sh : List zShp} {M : zMem} {R : zEnd} {x : Int32} {off : Int} (tgt : Nat) (hd : decode μ.2.1 pc = .ok (.ifCond .le off, 3)) (ht : (pc : Int) + off = (tgt : Int)) (kt : x ≤ 0 → (zRT μ kc ks (tgt) lv (st) sh M R)) (kf : ¬ x ≤ 0 → (zRT μ kc ks (pc + 3) lv (st) sh M R)) : (zRT μ kc ks (pc) lv (.int x :: st) sh M R) := by
  intro p l e Rm s m args below meth c H locs cells slots D cy B ls C V hc hs hl
  exact lv_if_le C.1 C.2.1 hd ht (fun z => kt z p l e Rm s m args below meth c H locs cells slots D cy B ls C V hc hs hl) (fun z => kf z p l e Rm s m args below meth c H locs cells slots D cy B ls C V hc hs hl)
theorem zs_icmp_eq {μ : zMI} {kc ks pc : Nat} {lv : List (Nat × Value)} {st : List Value} {sh : List zShp} {M : zMem} {R : zEnd} {x y : Int32} {off : Int} (tgt : Nat) (hd : decode μ.2.1 pc = .ok (.if_icmp .eq off, 3)) (ht : (pc : Int) + off = (tgt : Int)) (kt : x = y → (zRT μ kc ks (tgt) lv (st) sh M R)) (kf : ¬ x = y → (zRT μ kc ks (pc + 3) lv (st) sh M R)) : (zRT μ kc ks (pc) lv (.int y :: .int x :: st) sh M R) := by
  intro p l e Rm s m args below meth c H locs cells slots D cy B ls C V hc hs hl
  exact lv_icmp_eq C.1 C.2.1 hd ht (fun z => kt z p l e Rm s m args below meth c H locs cells slots D cy B ls C V hc hs hl) (fun z => kf z p l e Rm s m args below meth c H locs cells slots D cy B ls C V hc hs hl)
theorem zs_icmp_ne {μ : zMI} {kc ks pc : Nat} {lv : List (Nat × Value)} {st : List Value} {sh : List zShp} {M : zMem} {R : zEnd} {x y : Int32} {off : Int} (tgt : Nat) (hd : decode μ.2.1 pc = .ok (.if_icmp .ne off, 3)) (ht : (pc : Int) + off = (tgt : Int)) (kt : ¬ x = y → (zRT μ kc ks (tgt) lv (st) sh M R)) (kf : x = y → (zRT μ kc ks (pc + 3) lv (st) sh M R)) : (zRT μ kc ks (pc) lv (.int y :: .int x :: st) sh M R) := by
  intro p l e Rm s m args below meth c H locs cells slots D cy B ls C V hc hs hl
  exact lv_icmp_ne C.1 C.2.1 hd ht (fun z => kt z p l e Rm s m args below meth c H locs cells slots D cy B ls C V hc hs hl) (fun z => kf z p l e Rm s m args below meth c H locs cells slots D cy B ls C V hc hs hl)
theorem zs_icmp_lt {μ : zMI} {kc ks pc : Nat} {lv : List (Nat × Value)} {st : List Value} {sh : List zShp} {M : zMem} {R : zEnd} {x y : Int32} {off : Int} (tgt : Nat) (hd : decode μ.2.1 pc = .ok (.if_icmp .lt off, 3)) (ht : (pc : Int) + off = (tgt : Int)) (kt : x < y → (zRT μ kc ks (tgt) lv (st) sh M R)) (kf : ¬ x < y → (zRT μ kc ks (pc + 3) lv (st) sh M R)) : (zRT μ kc ks (pc) lv (.int y :: .int x :: st) sh M R) := by
  intro p l e Rm s m args below meth c H locs cells slots D cy B ls C V hc hs hl
  exact lv_icmp_lt C.1 C.2.1 hd ht (fun z => kt z p l e Rm s m args below meth c H locs cells slots D cy B ls C V hc hs hl) (fun z => kf z p l e Rm s m args below meth c H locs cells slots D cy B ls C V hc hs hl)
theorem zs_icmp_ge {μ : zMI} {kc ks pc : Nat} {lv : List (Nat × Value)} {st : List Value} {sh : List zShp} {M : zMem} {R : zEnd} {x y : Int32} {off : Int} (tgt : Nat) (hd : decode μ.2.1 pc = .ok (.if_icmp .ge off, 3)) (ht : (pc : Int) + off = (tgt : Int)) (kt : y ≤ x → (zRT μ kc ks (tgt) lv (st) sh M R)) (kf : ¬ y ≤ x → (zRT μ kc ks (pc + 3) lv (st) sh M R)) : (zRT μ kc ks (pc) lv (.int y :: .int x :: st) sh M R) := by
  intro p l e Rm s m args below meth c H locs cells slots D cy B ls C V hc hs hl
  exact lv_icmp_ge C.1 C.2.1 hd ht (fun z => kt z p l e Rm s m args below meth c H locs cells slots D cy B ls C V hc hs hl) (fun z => kf z p l e Rm s m args below meth c H locs cells slots D cy B ls C V hc hs hl)
theorem zs_icmp_gt {μ : zMI} {kc ks pc : Nat} {lv : List (Nat × Value)} {st : List Value} {sh : List zShp} {M : zMem} {R : zEnd} {x y : Int32} {off : Int} (tgt : Nat) (hd : decode μ.2.1 pc = .ok (.if_icmp .gt off, 3)) (ht : (pc : Int) + off = (tgt : Int)) (kt : y < x → (zRT μ kc ks (tgt) lv (st) sh M R)) (kf : ¬ y < x → (zRT μ kc ks (pc + 3) lv (st) sh M R)) : (zRT μ kc ks (pc) lv (.int y :: .int x :: st) sh M R) := by
  intro p l e Rm s m args below meth c H locs cells slots D cy B ls C V hc hs hl
  exact lv_icmp_gt C.1 C.2.1 hd ht (fun z => kt z p l e Rm s m args below meth c H locs cells slots D cy B ls C V hc hs hl) (fun z => kf z p l e Rm s m args below meth c H locs cells slots D cy B ls C V hc hs hl)
theorem zs_icmp_le {μ : zMI} {kc ks pc : Nat} {lv : List (Nat × Value)} {st : List Value} {sh : List zShp} {M : zMem} {R : zEnd} {x y : Int32} {off : Int} (tgt : Nat) (hd : decode μ.2.1 pc = .ok (.if_icmp .le off, 3)) (ht : (pc : Int) + off = (tgt : Int)) (kt : x ≤ y → (zRT μ kc ks (tgt) lv (st) sh M R)) (kf : ¬ x ≤ y → (zRT μ kc ks (pc + 3) lv (st) sh M R)) : (zRT μ kc ks (pc) lv (.int y :: .int x :: st) sh M R) := by
  intro p l e Rm s m args below meth c H locs cells slots D cy B ls C V hc hs hl
  exact lv_icmp_le C.1 C.2.1 hd ht (fun z => kt z p l e Rm s m args below meth c H locs cells slots D cy B ls C V hc hs hl) (fun z => kf z p l e Rm s m args below meth c H locs cells slots D cy B ls C V hc hs hl)
theorem zs_goto {μ : zMI} {kc ks pc : Nat} {lv : List (Nat × Value)} {st : List Value} {sh : List zShp} {M : zMem} {R : zEnd} {off : Int} (tgt : Nat) (hd : decode μ.2.1 pc = .ok (.goto off, 3)) (ht : (pc : Int) + off = (tgt : Int)) (k : (zRT μ kc ks (tgt) lv (st) sh M R)) : (zRT μ kc ks (pc) lv (st) sh M R) := by
  intro p l e Rm s m args below meth c H locs cells slots D cy B ls C V hc hs hl
  exact lv_goto C.1 C.2.1 hd ht (k p l e Rm s m args below meth c H locs cells slots D cy B ls C V hc hs hl)
theorem zs_ifnonnull {μ : zMI} {kc ks pc : Nat} {lv : List (Nat × Value)} {st : List Value} {sh : List zShp} {M : zMem} {R : zEnd} {x : Nat} {off : Int} (tgt : Nat) (hd : decode μ.2.1 pc = .ok (.ifnonnull off, 3)) (ht : (pc : Int) + off = (tgt : Int)) (k : (zRT μ kc ks (tgt) lv (st) sh M R)) : (zRT μ kc ks (pc) lv (.ref x :: st) sh M R) := by
  intro p l e Rm s m args below meth c H locs cells slots D cy B ls C V hc hs hl
  exact lv_ifnonnull C.1 C.2.1 hd ht (k p l e Rm s m args below meth c H locs cells slots D cy B ls C V hc hs hl)
theorem zs_ifnonnullN {μ : zMI} {kc ks pc : Nat} {lv : List (Nat × Value)} {st : List Value} {sh : List zShp} {M : zMem} {R : zEnd} {off : Int} (hd : decode μ.2.1 pc = .ok (.ifnonnull off, 3)) (k : (zRT μ kc ks (pc + 3) lv (st) sh M R)) : (zRT μ kc ks (pc) lv (.null :: st) sh M R) := by
  intro p l e Rm s m args below meth c H locs cells slots D cy B ls C V hc hs hl
  exact lv_ifnonnullN C.1 C.2.1 hd (k p l e Rm s m args below meth c H locs cells slots D cy B ls C V hc hs hl)
theorem zs_tableIn {μ : zMI} {kc ks pc : Nat} {lv : List (Nat × Value)} {st : List Value} {sh : List zShp} {M : zMem} {R : zEnd} {dflt lo hi : Int} {offs : Array Int} {len : Nat} {x : Int32} {off : Int} (tgt : Nat) (hd : decode μ.2.1 pc = .ok (.tableswitch dflt lo hi offs, len)) (h1 : ¬ x.toInt < lo) (h2 : ¬ hi < x.toInt) (ho : offs[(x.toInt - lo).toNat]? = some off) (ht : (pc : Int) + off = (tgt : Int)) (k : (zRT μ kc ks (tgt) lv (st) sh M R)) : (zRT μ kc ks (pc) lv (.int x :: st) sh M R) := by
  intro p l e Rm s m args below meth c H locs cells slots D cy B ls C V hc hs hl
  exact lv_tableIn C.1 C.2.1 hd h1 h2 ho ht (k p l e Rm s m args below meth c H locs cells slots D cy B ls C V hc hs hl)
theorem zs_tableOut {μ : zMI} {kc ks pc : Nat} {lv : List (Nat × Value)} {st : List Value} {sh : List zShp} {M : zMem} {R : zEnd} {dflt lo hi : Int} {offs : Array Int} {len : Nat} {x : Int32} (tgt : Nat) (hd : decode μ.2.1 pc = .ok (.tableswitch dflt lo hi offs, len)) (h : x.toInt < lo ∨ hi < x.toInt) (ht : (pc : Int) + dflt = (tgt : Int)) (k : (zRT μ kc ks (tgt) lv (st) sh M R)) : (zRT μ kc ks (pc) lv (.int x :: st) sh M R) := by
  intro p l e Rm s m args below meth c H locs cells slots D cy B ls C V hc hs hl
  exact lv_tableOut C.1 C.2.1 hd h ht (k p l e Rm s m args below meth c H locs cells slots D cy B ls C V hc hs hl)
theorem zs_lookup {μ : zMI} {kc ks pc : Nat} {lv : List (Nat × Value)} {st : List Value} {sh : List zShp} {M : zMem} {R : zEnd} {dflt : Int} {ps : Array (Int × Int)} {len : Nat} {x : Int32} {off : Int} (tgt : Nat) (hd : decode μ.2.1 pc = .ok (.lookupswitch dflt ps, len)) (hp : (ps.toList.zip (ps.toList.drop 1)).all (fun (a, next) => a.1 < next.1) = true) (ho : Op.lookupswitch.offset ps.toList dflt x.toInt = off) (ht : (pc : Int) + off = (tgt : Int)) (k : (zRT μ kc ks (tgt) lv (st) sh M R)) : (zRT μ kc ks (pc) lv (.int x :: st) sh M R) := by
  intro p l e Rm s m args below meth c H locs cells slots D cy B ls C V hc hs hl
  exact lv_lookup C.1 C.2.1 hd hp ho ht (k p l e Rm s m args below meth c H locs cells slots D cy B ls C V hc hs hl)
theorem zs_ldc {μ : zMI} {kc ks pc : Nat} {lv : List (Nat × Value)} {st : List Value} {sh : List zShp} {M : zMem} {R : zEnd} {ix : Nat} {v : Int32} (hd : decode μ.2.1 pc = .ok (.ldc ix, 2)) (hw : Cond.constant μ.1.cls ix v ∈ zgt) (k : (zRT μ kc ks (pc + 2) lv (.int v :: st) sh M R)) : (zRT μ kc ks (pc) lv (st) sh M R) := by
  intro p l e Rm s m args below meth c H locs cells slots D cy B ls C V hc hs hl
  exact lv_ldc C.1 C.2.1 C.2.2.2.2.1 (C.2.2.2.2.2.1 _ hw) hd (k p l e Rm s m args below meth c H locs cells slots D cy B ls C V hc hs hl)
theorem zs_ldcw {μ : zMI} {kc ks pc : Nat} {lv : List (Nat × Value)} {st : List Value} {sh : List zShp} {M : zMem} {R : zEnd} {ix : Nat} {v : Int32} (hd : decode μ.2.1 pc = .ok (.ldc_w ix, 3)) (hw : Cond.constant μ.1.cls ix v ∈ zgt) (k : (zRT μ kc ks (pc + 3) lv (.int v :: st) sh M R)) : (zRT μ kc ks (pc) lv (st) sh M R) := by
  intro p l e Rm s m args below meth c H locs cells slots D cy B ls C V hc hs hl
  exact lv_ldcw C.1 C.2.1 C.2.2.2.2.1 (C.2.2.2.2.2.1 _ hw) hd (k p l e Rm s m args below meth c H locs cells slots D cy B ls C V hc hs hl)
theorem zs_ldc2 {μ : zMI} {kc ks pc : Nat} {lv : List (Nat × Value)} {st : List Value} {sh : List zShp} {M : zMem} {R : zEnd} {ix : Nat} {v : Int64} (hd : decode μ.2.1 pc = .ok (.ldc2_w ix, 3)) (hw : Cond.constantLong μ.1.cls ix v ∈ zgt) (k : (zRT μ kc ks (pc + 3) lv (.long v :: st) sh M R)) : (zRT μ kc ks (pc) lv (st) sh M R) := by
  intro p l e Rm s m args below meth c H locs cells slots D cy B ls C V hc hs hl
  exact lv_ldc2 C.1 C.2.1 C.2.2.2.2.1 (C.2.2.2.2.2.1 _ hw) hd (k p l e Rm s m args below meth c H locs cells slots D cy B ls C V hc hs hl)
/-- the entry ix of the class own is the field k of the class ci of zCL -/
def zGF (own : String) (ix ci k : Nat) : Prop := ∃ (C : String) (T : u_T) (N : Nat), zCL[ci]? = some (C, T, N) ∧ (∀ w ∈ u_ws C T N, w ∈ zgt) ∧ k < N ∧ Cond.fieldLink own ix (T k).1 (T k).2.1 (T k).2.2.1 ∈ zgt
def zPF (own : String) (ix ci k : Nat) (fin : Bool) (ty : FieldType) : Prop := ∃ (C : String) (T : u_T) (N : Nat) (t : Nat → FieldType), zCL[ci]? = some (C, T, N) ∧ (∀ w ∈ u_ws C T N, w ∈ zgt) ∧ k < N ∧ Cond.fieldLink own ix (T k).1 (T k).2.1 (T k).2.2.1 ∈ zgt ∧ (∀ k, k < N → parseFieldDescriptor (T k).2.2.1 = some (t k)) ∧ (∀ a, a < N → ∀ b, b < N → a ≠ b → (T a).2.1 ≠ (T b).2.1) ∧ (T k).2.2.2 = fin ∧ parseFieldDescriptor (T k).2.2.1 = some ty ∧ (T k).1 = own
theorem zs_get {μ : zMI} {kc ks pc : Nat} {lv : List (Nat × Value)} {st : List Value} {sh : List zShp} {M : zMem} {R : zEnd} {ix ci f o : Nat} {fs : List (Option (Option Nat))} {x : Option (Option Nat)} (hd : decode μ.2.1 pc = .ok (.getfield ix, 3)) (F : zGF μ.1.cls ix ci f) (ho : sh[o]? = some (.inr (.inl (ci, fs)))) (hf : fs[f]? = some x) (k : (zRT μ kc ks (pc + 3) lv (zfv (M o) f x :: st) sh M R)) : (zRT μ kc ks (pc) lv (.ref o :: st) sh M R) := by
  intro p l e Rm s m args below meth c H locs cells slots D cy B ls C V hc hs hl
  obtain ⟨Cn, T, N, h1, h2, h3, h4⟩ := F
  exact va_get (D := D) (cl := zCL) (tys := zTY cy) (ws := zw cy B sh M) (fs := fs.mapIdx (fun j x => zv B (zfv (M o) j x))) C.1 C.2.1 C.2.2.2.2.2.1 h2 C.2.2.2.2.1 V.1 V.2.1 o (zw_at ho) h1 f h3 (C.2.2.2.2.2.1 _ h4) (fun _ h9 => h9) (by simp [List.getElem?_mapIdx, hf]) hd (k p l e Rm s m args below meth c H locs cells slots D cy B ls C V hc hs hl)
theorem zW_size {p : Program} {l : Launch} {e : Env} {R : Room} {s : State} {m : MethodId} {args : Array Value} {below : List Frame} {meth : Method} {c : Code} {H : Heap} {locs : List Loc} {cells slots : Nat} {Q : State → Prop} {g : JFrame} (k : H.size ≤ s.heap.size + cells → W p l e R s m args below meth c H locs cells slots Q g) : W p l e R s m args below meth c H locs cells slots Q g := by
  intro T hT X
  have h := X.heapSize
  rw [hT] at h
  exact k h T hT X
theorem zS_self {A : Nat → Prop} {H0 H : Heap} {locs : List Loc} (h : va_S A H0 H locs) : va_S A H H locs := ⟨Nat.le_refl _, fun _ _ _ => rfl, h.2.2⟩
theorem zS_trans {A : Nat → Prop} {H0 H H1 : Heap} {locs locs1 : List Loc} (h : va_S A H0 H locs) (h1 : va_S A H H1 locs1) : va_S A H0 H1 locs1 := ⟨Nat.le_trans h.1 h1.1, fun q a b => (h1.2.1 q (Nat.lt_of_lt_of_le a h.1) b).trans (h.2.1 q a b), h1.2.2⟩
/-- a write: the cells stay as many -/
theorem zWd_write {D : va_G} {cy : zCy} {B : Nat} {s : State} {H H1 : Heap} {locs locs1 : List Loc} {cells : Nat} {sh sh1 : List zShp} {M M1 : zMem} (V : zWd D cy B s H locs cells sh M) (hP : va_P D zCL (zw cy B sh1 M1) H1) (hS : va_S (fun q => B ≤ q) H H1 locs1) (hz : H1.size ≤ s.heap.size + cells) (hl : sh1.length = sh.length) : zWd D cy B s H1 locs1 cells sh1 M1 := by
  obtain ⟨v1, v2, v3, v4, v5, v6⟩ := V
  have h1 := hS.1
  exact ⟨v1, hP, by omega, by omega, zS_trans v5 hS, v6⟩
theorem zs_put {μ : zMI} {kc ks pc : Nat} {lv : List (Nat × Value)} {st : List Value} {sh : List zShp} {M : zMem} {R : zEnd} {ix ci f o : Nat} {fs : List (Option (Option Nat))} {v : Int32} {ty : FieldType} (hd : decode μ.2.1 pc = .ok (.putfield ix, 3)) (F : zPF μ.1.cls ix ci f false ty) (ho : sh[o]? = some (.inr (.inl (ci, fs)))) (hf : fs[f]? = some none) (hn : narrow ty (.int v) = .int v) (hfit : fits ty (.int v) = true) (k : (zRT μ kc ks (pc + 3) lv (st) sh (zms M o f v) R)) : (zRT μ kc ks (pc) lv (.int v :: .ref o :: st) sh M R) := by
  intro p l e Rm s m args below meth c H locs cells slots D cy B ls C V hc hs hl
  obtain ⟨Cn, T, N, t, h1, h2, h3, h4, h5, h6, h7, h8, -⟩ := F
  have hl0 : f < fs.length := (List.getElem?_eq_some_iff.mp hf).1
  refine va_put (D := D) (cl := zCL) (tys := zTY cy) (ws := zw cy B sh M) (fs := fs.mapIdx (fun j x => zv B (zfv (M o) j x))) C.1 C.2.1 C.2.2.2.2.2.1 h2 t h5 h6 C.2.2.2.2.1 V.1 V.2.1 (zw_D cy B sh M) (zS_self V.2.2.2.2.1) o (zw_at ho) h1 f h3 (C.2.2.2.2.2.1 _ h4) (fun _ h9 => h9) h7 h8 hn hfit (by simp; exact hl0) hd (fun H1 locs1 hP hD hS => ?_)
  have he : zw cy B sh (zms M o f v) = (zw cy B sh M).set o (B + o, .inr (ci, (fs.mapIdx (fun j x => zv B (zfv (M o) j x))).set f (.int v))) := by
    rw [zw_same ho (zms_ne M o f v), zms_row, ← zc_fs hf]
    rfl
  have hP : va_P D zCL (zw cy B sh (zms M o f v)) H1 := by rw [he]; exact hP
  exact zW_size (fun hz => k p l e Rm s m args below meth c H1 locs1 cells slots D cy B ls C (zWd_write V hP hS hz rfl) hc hs hl)
theorem zs_putR {μ : zMI} {kc ks pc : Nat} {lv : List (Nat × Value)} {st : List Value} {sh : List zShp} {M : zMem} {R : zEnd} {ix ci f o r : Nat} {fs : List (Option (Option Nat))} {ty : FieldType} (hd : decode μ.2.1 pc = .ok (.putfield ix, 3)) (F : zPF μ.1.cls ix ci f true ty) (ho : sh[o]? = some (.inr (.inl (ci, fs)))) (hf : f < fs.length) (hi : μ.1.name = "<init>") (hn : ∀ a : Nat, narrow ty (.ref a) = .ref a) (hfit : ∀ a : Nat, fits ty (.ref a) = true) (k : (zRT μ kc ks (pc + 3) lv (st) (sh.set o (.inr (.inl (ci, fs.set f (some (some r)))))) M R)) : (zRT μ kc ks (pc) lv (.ref r :: .ref o :: st) sh M R) := by
  intro p l e Rm s m args below meth c H locs cells slots D cy B ls C V hc hs hl
  obtain ⟨Cn, T, N, t, h1, h2, h3, h4, h5, h6, h7, h8, h9⟩ := F
  refine va_putF (D := D) (cl := zCL) (tys := zTY cy) (ws := zw cy B sh M) (fs := fs.mapIdx (fun j x => zv B (zfv (M o) j x))) C.1 C.2.1 C.2.2.2.2.2.1 h2 t h5 h6 C.2.2.2.2.1 V.1 V.2.1 (zw_D cy B sh M) (zS_self V.2.2.2.2.1) o (zw_at ho) h1 f h3 (C.2.2.2.2.2.1 _ h4) (fun _ h9 => h9) h7 (C.2.2.2.2.2.2.2.1.trans hi) h9 h8 (hn _) (hfit _) (by simp; exact hf) hd (fun H1 locs1 hP hD hS => ?_)
  have he : zw cy B (sh.set o (.inr (.inl (ci, fs.set f (some (some r)))))) M = (zw cy B sh M).set o (B + o, .inr (ci, (fs.mapIdx (fun j x => zv B (zfv (M o) j x))).set f (.ref (B + r)))) := by
    rw [zw_set ho (fun _ _ => rfl)]
    show _ = (zw cy B sh M).set o (B + o, Sum.inr (ci, (fs.mapIdx (fun j x => zv B (zfv (M o) j x))).set f (zv B (va_rf (some r)))))
    rw [← zc_fr (some r) hf]
    rfl
  have hP : va_P D zCL (zw cy B (sh.set o (.inr (.inl (ci, fs.set f (some (some r)))))) M) H1 := by rw [he]; exact hP
  exact zW_size (fun hz => k p l e Rm s m args below meth c H1 locs1 cells slots D cy B ls C (zWd_write V hP hS hz (by simp)) hc hs hl)
theorem zs_iald {μ : zMI} {kc ks pc : Nat} {lv : List (Nat × Value)} {st : List Value} {sh : List zShp} {M : zMem} {R : zEnd} {o n : Nat} {i : Int32} (hd : decode μ.2.1 pc = .ok (.iaload, 1)) (ho : sh[o]? = some (.inl (0, n))) (hin : vp_in i n) (k : (zRT μ kc ks (pc + 1) lv (.int (M o i.toNatClampNeg) :: st) sh M R)) : (zRT μ kc ks (pc) lv (.int i :: .ref o :: st) sh M R) := by
  intro p l e Rm s m args below meth c H locs cells slots D cy B ls C V hc hs hl
  exact va_iald (D := D) (cl := zCL) (tys := zTY cy) (ws := zw cy B sh M) C.1 C.2.1 V.1 V.2.1 o 0 (zw_at ho) rfl hin hd (k p l e Rm s m args below meth c H locs cells slots D cy B ls C V hc hs hl)
theorem zs_zald {μ : zMI} {kc ks pc : Nat} {lv : List (Nat × Value)} {st : List Value} {sh : List zShp} {M : zMem} {R : zEnd} {o n : Nat} {i : Int32} (hd : decode μ.2.1 pc = .ok (.baload, 1)) (ho : sh[o]? = some (.inl (1, n))) (hin : vp_in i n) (k : (zRT μ kc ks (pc + 1) lv (.int (M o i.toNatClampNeg) :: st) sh M R)) : (zRT μ kc ks (pc) lv (.int i :: .ref o :: st) sh M R) := by
  intro p l e Rm s m args below meth c H locs cells slots D cy B ls C V hc hs hl
  exact va_zald (D := D) (cl := zCL) (tys := zTY cy) (ws := zw cy B sh M) C.1 C.2.1 V.1 V.2.1 o 1 (zw_at ho) rfl hin hd (k p l e Rm s m args below meth c H locs cells slots D cy B ls C V hc hs hl)
theorem zs_aald {μ : zMI} {kc ks pc : Nat} {lv : List (Nat × Value)} {st : List Value} {sh : List zShp} {M : zMem} {R : zEnd} {o n : Nat} {g : Nat → Option Nat} {i : Int32} (hd : decode μ.2.1 pc = .ok (.aaload, 1)) (ho : sh[o]? = some (.inr (.inr (n, g)))) (hin : vp_in i n) (k : (zRT μ kc ks (pc + 1) lv (va_rf (g i.toNatClampNeg) :: st) sh M R)) : (zRT μ kc ks (pc) lv (.int i :: .ref o :: st) sh M R) := by
  intro p l e Rm s m args below meth c H locs cells slots D cy B ls C V hc hs hl
  have k := k p l e Rm s m args below meth c H locs cells slots D cy B ls C V hc hs hl
  rw [List.map_cons, zv_rf] at k
  exact va_aldq (D := D) (cl := zCL) (tys := zTY cy) (ws := zw cy B sh M) C.1 C.2.1 V.1 V.2.1 o 2 (zw_at ho) rfl hin hd k
theorem zs_iast {μ : zMI} {kc ks pc : Nat} {lv : List (Nat × Value)} {st : List Value} {sh : List zShp} {M : zMem} {R : zEnd} {o n : Nat} {i x : Int32} (hd : decode μ.2.1 pc = .ok (.iastore, 1)) (ho : sh[o]? = some (.inl (0, n))) (hin : vp_in i n) (k : (zRT μ kc ks (pc + 1) lv (st) sh (zms M o i.toNatClampNeg x) R)) : (zRT μ kc ks (pc) lv (.int x :: .int i :: .ref o :: st) sh M R) := by
  intro p l e Rm s m args below meth c H locs cells slots D cy B ls C V hc hs hl
  refine va_iast (D := D) (cl := zCL) (tys := zTY cy) (ws := zw cy B sh M) C.1 C.2.1 V.1 V.2.1 (zw_D cy B sh M) (zS_self V.2.2.2.2.1) o 0 (zw_at ho) rfl hin hd (fun H1 locs1 hP hD hS => ?_)
  have hP : va_P D zCL (zw cy B sh (zms M o i.toNatClampNeg x)) H1 := by rw [zw_same ho (zms_ne M o _ x), zms_row]; exact hP
  exact zW_size (fun hz => k p l e Rm s m args below meth c H1 locs1 cells slots D cy B ls C (zWd_write V hP hS hz rfl) hc hs hl)
theorem zs_zast {μ : zMI} {kc ks pc : Nat} {lv : List (Nat × Value)} {st : List Value} {sh : List zShp} {M : zMem} {R : zEnd} {o n : Nat} {i x : Int32} (hd : decode μ.2.1 pc = .ok (.bastore, 1)) (ho : sh[o]? = some (.inl (1, n))) (hin : vp_in i n) (hx : vp_nar .boolean x = x) (k : (zRT μ kc ks (pc + 1) lv (st) sh (zms M o i.toNatClampNeg x) R)) : (zRT μ kc ks (pc) lv (.int x :: .int i :: .ref o :: st) sh M R) := by
  intro p l e Rm s m args below meth c H locs cells slots D cy B ls C V hc hs hl
  refine va_zast (D := D) (cl := zCL) (tys := zTY cy) (ws := zw cy B sh M) C.1 C.2.1 V.1 V.2.1 (zw_D cy B sh M) (zS_self V.2.2.2.2.1) o 1 (zw_at ho) rfl hin hd (fun H1 locs1 hP hD hS => ?_)
  rw [hx] at hP
  have hP : va_P D zCL (zw cy B sh (zms M o i.toNatClampNeg x)) H1 := by rw [zw_same ho (zms_ne M o _ x), zms_row]; exact hP
  exact zW_size (fun hz => k p l e Rm s m args below meth c H1 locs1 cells slots D cy B ls C (zWd_write V hP hS hz rfl) hc hs hl)
theorem zs_aast {μ : zMI} {kc ks pc : Nat} {lv : List (Nat × Value)} {st : List Value} {sh : List zShp} {M : zMem} {R : zEnd} {o n r : Nat} {g : Nat → Option Nat} {i : Int32} {fs : List (Option (Option Nat))} (hd : decode μ.2.1 pc = .ok (.aastore, 1)) (ho : sh[o]? = some (.inr (.inr (n, g)))) (hr : sh[r]? = some (.inr (.inl (7, fs)))) (hin : vp_in i n) (k : (zRT μ kc ks (pc + 1) lv (st) (sh.set o (.inr (.inr (n, va_up g i.toNatClampNeg (some r))))) M R)) : (zRT μ kc ks (pc) lv (.ref r :: .int i :: .ref o :: st) sh M R) := by
  intro p l e Rm s m args below meth c H locs cells slots D cy B ls C V hc hs hl
  refine va_astq (D := D) (cl := zCL) (tys := zTY cy) (ws := zw cy B sh M) C.1 C.2.1 V.1 V.2.1 (zw_D cy B sh M) (zS_self V.2.2.2.2.1) o 2 r 7 (r := ("OthersHands$Town", zT_Town, 9)) (zw_at ho) rfl (zw_at hr) rfl hin hd (fun H1 locs1 hP hD hS => ?_)
  have he : (fun j => (va_up g i.toNatClampNeg (some r) j).map (B + ·)) = va_up (fun j => (g j).map (B + ·)) i.toNatClampNeg (some (B + r)) := by
    funext j
    by_cases hj : j = i.toNatClampNeg
    · subst hj; simp [va_up]
    · simp [va_up, hj]
  have hP : va_P D zCL (zw cy B (sh.set o (.inr (.inr (n, va_up g i.toNatClampNeg (some r))))) M) H1 := by
    rw [zw_set ho (fun _ _ => rfl)]
    show va_P D zCL ((zw cy B sh M).set o (B + o, Sum.inl (cy.2.2, n, .inr (.inr (.inr (.inr (fun j => (va_up g i.toNatClampNeg (some r) j).map (B + ·)))))))) H1
    rw [he]
    exact hP
  exact zW_size (fun hz => k p l e Rm s m args below meth c H1 locs1 cells slots D cy B ls C (zWd_write V hP hS hz (by simp)) hc hs hl)
theorem zs_copy {μ : zMI} {kc ks pc : Nat} {lv : List (Nat × Value)} {st : List Value} {sh : List zShp} {M : zMem} {R : zEnd} {ix o q n0 n1 : Nat} {sp dp n : Int32} (hd : decode μ.2.1 pc = .ok (.invokestatic ix, 3)) (hw : Cond.methodLink μ.1.cls ix arraycopyName ∈ zgt) (hr : 1 ≤ μ.2.2.2.2.1 ∧ (st.map fun v => v.category).sum + (nativeFrameWords "java/lang/System" "arraycopy" 5 + 11) ≤ μ.2.2.2.2.2) (ho : sh[o]? = some (.inl (0, n0))) (hq : sh[q]? = some (.inl (0, n1))) (h1 : ¬ sp < 0) (h2 : ¬ dp < 0) (h3 : ¬ n < 0) (h4 : sp.toNatClampNeg + n.toNatClampNeg ≤ n0) (h5 : dp.toNatClampNeg + n.toNatClampNeg ≤ n1) (k : (zRT μ kc ks (pc + 3) lv (st) sh (zmr M q (va_cpy (M o) (M q) sp.toNatClampNeg dp.toNatClampNeg n.toNatClampNeg)) R)) : (zRT μ kc ks (pc) lv (.int n :: .int dp :: .ref q :: .int sp :: .ref o :: st) sh M R) := by
  intro p l e Rm s m args below meth c H locs cells slots D cy B ls C V hc hs hl
  have hcat : ((st.map (zv B)).map fun v => v.category) = st.map fun v => v.category := by simp [Function.comp_def, zv_cat]
  refine va_copyi (D := D) (cl := zCL) (tys := zTY cy) (ws := zw cy B sh M) (ty := .int) C.1 C.2.1 (C.2.2.2.1.trans hl.1.symm) C.2.2.2.2.1 (C.2.2.2.2.2.1 _ hw) (C.2.2.2.2.2.1 _ (by decide +kernel)) (C.2.2.2.2.2.1 _ (by decide +kernel)) (C.2.2.2.2.2.1 _ (by decide +kernel)) V.1 V.2.1 (zw_D cy B sh M) (zS_self V.2.2.2.2.1) o q 0 0 (zw_at ho) (zw_at hq) rfl rfl rfl h1 h2 h3 h4 h5 (fun _ _ => rfl) (Nat.le_trans hr.1 C.2.2.2.2.2.2.2.2.1) (by rw [hcat]; exact Nat.le_trans hr.2 C.2.2.2.2.2.2.2.2.2.1) hd (fun H1 locs1 hP hD hS => ?_)
  have hP : va_P D zCL (zw cy B sh (zmr M q (va_cpy (M o) (M q) sp.toNatClampNeg dp.toNatClampNeg n.toNatClampNeg))) H1 := by rw [zw_same hq (zmr_ne M q _), zmr_row]; exact hP
  exact zW_size (fun hz => k p l e Rm s m args below meth c H1 locs1 cells slots D cy B ls C (zWd_write V hP hS hz rfl) hc hs hl)
