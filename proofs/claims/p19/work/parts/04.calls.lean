/-! NEW CELLS, CALLS, RETURNS -/
theorem zN_warm {s U : State} (hW : s.WarmedH U.vm) (h : zNx s) : zNx U := by
  refine ⟨fun w hw => ?_, va_AO.moved hW.alike h.2⟩
  have h1 := h.1 w hw
  have h2 : zisN w = true := (List.mem_filter.mp hw).2
  cases w <;> first | exact va_Nw.warmM hW h1 | (simp [zisN] at h2)
theorem zN_vm {s U : State} (hv : s.vm = U.vm) (h : zNx s) : zNx U := by
  refine ⟨fun w hw => ?_, va_AO.moved (by rw [hv]; exact Vm.Alike.refl U.vm) h.2⟩
  have h1 := h.1 w hw
  have h2 : zisN w = true := (List.mem_filter.mp hw).2
  cases w <;> first | exact va_tabs rfl hv h1 | (simp [zisN] at h2)
theorem zG : GoodIn zgt zgt := fun w hw => ⟨hw, good_of_word (List.mem_filter.mp hw).2⟩
theorem zPre_blind (D : va_G) (cy : zCy) (B : Nat) (as : List Value) (sh : List zShp) (M : zMem) : FrameBlind (zPre D cy B as sh M) := by
  intro a U g mk q
  obtain ⟨q0, qK, qP, qz, qN⟩ := q
  exact ⟨q0, va_K.moved (u := U) (U := U.calling g mk a) (Vm.Alike.refl U.vm) qK, qP, qz, zN_vm (s := U) (U := U.calling g mk a) rfl qN⟩
section zCall
variable {p : Program} {l : Launch} {e : Env} {Rm : Room} {s : State} {m : MethodId} {args : Array Value} {below : List Frame} {meth : Method} {c : Code} {H : Heap} {locs : List Loc} {cells slots : Nat} {Q : State → Prop}
variable {D : va_G} {cy : zCy} {B : Nat} {ls : Array Slot} {sh : List zShp} {M : zMem}
theorem zPre_at {as : List Value} (hN : zNx s) (V : zWd D cy B s H locs cells sh M) : ∀ U : State, U.heap = H → s.WarmedH U.vm → zPre D cy B as sh M (as.map (zv B)).toArray U := by
  intro U hU hW
  exact ⟨rfl, va_K.moved hW.alike V.1, by rw [hU]; exact V.2.1, by rw [hU]; exact V.2.2.1, zN_warm hW hN⟩
/-- behind a call -/
theorem zW_cont {pc kc ks : Nat} {st0 rest : List Value} {R0 : zEnd} {a : Array Value} (hr : va_Run p l e Rm s m args below meth c H locs cells slots kc ks (F0 m pc ls st0) rest (zQC D cy B kc R0 a) (fun q => B ≤ q)) (V : zWd D cy B s H locs cells sh M)
    (kk : ∀ (v : Option Value) (sh1 : List zShp) (M1 : zMem) (H1 : Heap) (locs1 : List Loc), R0 v sh1 M1 → zWd D cy B s H1 locs1 (cells + kc) sh1 M1 → W p l e Rm s m args below meth c H1 locs1 (cells + kc) (slots + ks) Q (F0 m (pc + 3) ls ((v.map (zv B)).toList ++ rest))) : W p l e Rm s m args below meth c H locs cells slots Q (F0 m pc ls st0) := by
  intro T hT X
  obtain ⟨v, st₀, t, T', L, h0, X', hL, e1, e2, ⟨⟨w, sh1, M1, hv, hR, hK, hP, hz⟩, ⟨hF1, hF2⟩, hk⟩, st⟩ := hr T hT X
  obtain ⟨v1, v2, v3, v4, v5, v6⟩ := V
  cases hv
  rw [h0] at hF1 hF2 hk
  have hV : zWd D cy B s T'.heap (locs ++ L) (cells + kc) sh1 M1 := by
    refine ⟨v1, by rw [e1]; exact hP, by rw [e1]; exact hz, by rw [e1]; omega, ⟨Nat.le_trans v5.1 (by rw [e1]; exact hF1), fun q a1 a2 => ?_, fun q hq => ?_⟩, v6⟩
    · rw [e1, hF2 q (Nat.lt_of_lt_of_le a1 v5.1) a2]
      exact v5.2.1 q a1 a2
    · rcases List.mem_append.mp hq with h | h
      · exact v5.2.2 q h
      · exact hL q h
  obtain ⟨t2, a1, b1⟩ := kk w sh1 M1 T'.heap (locs ++ L) hR hV T' rfl X'
  exact ⟨t2, st t2 a1, b1⟩
end zCall
/-- how the entry ix of the class own comes to the method μ -/
def zCd (μ : zMI) : Prop := Cond.code μ.1 μ.2.1 μ.2.2.1 μ.2.2.2.1 ∈ zgt ∧ Cond.initialized μ.1.cls ∈ zgt ∧ (μ.1.cls ≠ "java/lang/invoke/MethodHandle" ∧ μ.1.cls ≠ "java/lang/invoke/VarHandle")
def zLV (own : String) (ix : Nat) (μ : zMI) (n : Nat) : Prop := zCd μ ∧ (parseMethodDescriptor μ.1.desc).map (fun d => d.parameters.length) = some n ∧ Cond.methodLink own ix μ.1 ∈ zgt ∧ Cond.instanceMethod μ.1 ∈ zgt ∧ Cond.selects μ.1.cls μ.1 μ.1 ∈ zgt
def zLVN (own host : String) (ix : Nat) (μ : zMI) (n : Nat) : Prop := zCd μ ∧ (parseMethodDescriptor μ.1.desc).map (fun d => d.parameters.length) = some n ∧ Cond.methodLinkNest own ix μ.1 host ∈ zns ∧ Cond.instanceMethod μ.1 ∈ zgt ∧ Cond.selects μ.1.cls μ.1 μ.1 ∈ zgt
def zLS (own : String) (ix : Nat) (μ : zMI) (n : Nat) : Prop := zCd μ ∧ (parseMethodDescriptor μ.1.desc).map (fun d => d.parameters.length) = some n ∧ Cond.methodLink own ix μ.1 ∈ zgt ∧ Cond.static μ.1 ∈ zgt
def zLSN (own host : String) (ix : Nat) (μ : zMI) (n : Nat) : Prop := zCd μ ∧ (parseMethodDescriptor μ.1.desc).map (fun d => d.parameters.length) = some n ∧ Cond.methodLinkNest own ix μ.1 host ∈ zns ∧ Cond.static μ.1 ∈ zgt
def zLI (own : String) (ix : Nat) (μ : zMI) (n : Nat) : Prop := zCd μ ∧ (parseMethodDescriptor μ.1.desc).map (fun d => d.parameters.length) = some n ∧ Cond.methodLink own ix μ.1 ∈ zgt ∧ Cond.instanceMethod μ.1 ∈ zgt ∧ μ.1.name = "<init>" ∧ μ.2.2.2.1 = none
def zLIN (own host : String) (ix : Nat) (μ : zMI) (n : Nat) : Prop := zCd μ ∧ (parseMethodDescriptor μ.1.desc).map (fun d => d.parameters.length) = some n ∧ Cond.methodLinkNest own ix μ.1 host ∈ zns ∧ Cond.instanceMethod μ.1 ∈ zgt ∧ μ.1.name = "<init>" ∧ μ.2.2.2.1 = none
theorem zgood_code {μ : zMI} (h : zCd μ) : GoodIn zgt (zws μ) := fun w hw => by
  rcases List.mem_cons.mp hw with rfl | h1
  · exact zG _ h.1
  · exact zG _ h1
/-- room for a call of ν out of μ -/
def zRo (μ ν : zMI) : Prop := ν.2.2.2.2.1 + 1 ≤ μ.2.2.2.2.1 ∧ 8 + (ν.2.2.1 + 11) + ν.2.2.2.2.2 ≤ μ.2.2.2.2.2
section zCall2
variable {p : Program} {l : Launch} {e : Env} {Rm : Room} {s : State} {m : MethodId} {args : Array Value} {below : List Frame} {meth : Method} {c : Code} {H : Heap} {locs : List Loc} {cells slots : Nat} {Q : State → Prop}
variable {D : va_G} {cy : zCy} {B : Nat} {ls : Array Slot} {sh : List zShp} {M : zMem} {cc : ByteArray} {nL pc kc ks ix n : Nat} {own host : String} {ν : zMI} {R0 : zEnd} {rest : List Value}
theorem zcall_hR (hfr : ν.2.2.2.2.1 + 1 ≤ Rm.frames) (hlo : 8 + (ν.2.2.1 + 11) + ν.2.2.2.2.2 ≤ Rm.locals) : ({ frames := ν.2.2.2.2.1, cells := kc, slots := ks, locals := ν.2.2.2.2.2 } : Room).frames + 1 ≤ Rm.frames ∧ 8 + (ν.2.2.1 + 11) + ({ frames := ν.2.2.2.2.1, cells := kc, slots := ks, locals := ν.2.2.2.2.2 } : Room).locals ≤ Rm.locals := ⟨hfr, hlo⟩
theorem zrun_V {o ci : Nat} {fs : List (Option (Option Nat))} {as : List Value} (S : CallFix p m c cc nL s args zgt own) (hN : zNx s) (V : zWd D cy B s H locs cells sh M) (hE : zEx ν kc ks (.ref o :: as) sh M R0) (L : zLV own ix ν n) (ho : sh[o]? = some (.inr (.inl (ci, fs)))) {T : u_T} {N : Nat} (hc : zCL[ci]? = some (ν.1.cls, T, N))
    (hfr : ν.2.2.2.2.1 + 1 ≤ Rm.frames) (hlo : 8 + (ν.2.2.1 + 11) + ν.2.2.2.2.2 ≤ Rm.locals) (hn : as.length = n) (hsize : ls.size = nL) (hW : (rest.map fun v => v.category).sum ≤ 8) (hdg : decode cc pc = .ok (.invokevirtual ix, 3)) (hf : cells + kc ≤ Rm.cells ∧ slots + ks ≤ Rm.slots) :
    va_Run p l e Rm s m args below meth c H locs cells slots kc ks (F0 m pc ls ((as.map (zv B)).reverse ++ .ref (B + o) :: rest)) rest (zQC D cy B kc R0 (((Value.ref o :: as).map (zv B)).toArray)) (fun q => B ≤ q) := by
  obtain ⟨hcd, hd, h1, h2, h3⟩ := L
  have hG : GoodIn zgt (wsV own ix ν.1.cls ν.1 (zws ν)) := fun w hw => by
    unfold wsV at hw
    rcases List.mem_append.mp hw with q | q
    · simp only [List.mem_cons, List.not_mem_nil, or_false] at q
      rcases q with rfl | rfl | rfl | rfl
      · exact zG _ h1
      · exact zG _ h2
      · exact zG _ h3
      · exact zG _ hcd.2.1
    · exact zgood_code hcd w q
  exact va_runV (As := as.map (zv B)) (rest := rest) (g := F0 m pc ls ((as.map (zv B)).reverse ++ .ref (B + o) :: rest)) S (hE l D cy B) (cwV n S.2.2.2.2 hG rfl rfl rfl ⟨rfl, hcd.2.2.1, hcd.2.2.2, hd⟩ (zcall_hR hfr hlo)) ⟨zPre_blind D cy B _ sh M, va_recv V.1 V.2.1 (ci := ci) (q0 := o) hc (zw_at ho), zPre_at (as := .ref o :: as) hN V⟩ rfl (by simp; exact hn) hsize rfl (lv_room hW) hdg hf
theorem zrun_VN {o ci : Nat} {fs : List (Option (Option Nat))} {as : List Value} (S : CallFix p m c cc nL s args zgt own) (hN : zNx s) (V : zWd D cy B s H locs cells sh M) (hE : zEx ν kc ks (.ref o :: as) sh M R0) (L : zLVN own host ix ν n) (ho : sh[o]? = some (.inr (.inl (ci, fs)))) {T : u_T} {N : Nat} (hc : zCL[ci]? = some (ν.1.cls, T, N))
    (hfr : ν.2.2.2.2.1 + 1 ≤ Rm.frames) (hlo : 8 + (ν.2.2.1 + 11) + ν.2.2.2.2.2 ≤ Rm.locals) (hn : as.length = n) (hsize : ls.size = nL) (hW : (rest.map fun v => v.category).sum ≤ 8) (hdg : decode cc pc = .ok (.invokevirtual ix, 3)) (hf : cells + kc ≤ Rm.cells ∧ slots + ks ≤ Rm.slots) :
    va_Run p l e Rm s m args below meth c H locs cells slots kc ks (F0 m pc ls ((as.map (zv B)).reverse ++ .ref (B + o) :: rest)) rest (zQC D cy B kc R0 (((Value.ref o :: as).map (zv B)).toArray)) (fun q => B ≤ q) := by
  obtain ⟨hcd, hd, h1, h2, h3⟩ := L
  exact va_runVN (C := ν.1.cls) (As := as.map (zv B)) (rest := rest) (g := F0 m pc ls ((as.map (zv B)).reverse ++ .ref (B + o) :: rest)) S (hE l D cy B) ⟨va_cnB n S.2.2.2.2 (zgood_code hcd) rfl rfl rfl (hN.1 _ h1) (S.2.2.2.2 _ hcd.2.1) ⟨hcd.2.2.1, hcd.2.2.2, hd⟩ (zcall_hR hfr hlo), S.2.2.2.2 _ h2, S.2.2.2.2 _ h3⟩ ⟨zPre_blind D cy B _ sh M, va_recv V.1 V.2.1 (ci := ci) (q0 := o) hc (zw_at ho), zPre_at (as := .ref o :: as) hN V⟩ rfl (by simp; exact hn) hsize rfl (lv_room hW) hdg hf
theorem zrun_S {as : List Value} (S : CallFix p m c cc nL s args zgt own) (hN : zNx s) (V : zWd D cy B s H locs cells sh M) (hE : zEx ν kc ks as sh M R0) (L : zLS own ix ν n)
    (hfr : ν.2.2.2.2.1 + 1 ≤ Rm.frames) (hlo : 8 + (ν.2.2.1 + 11) + ν.2.2.2.2.2 ≤ Rm.locals) (hn : as.length = n) (hsize : ls.size = nL) (hW : (rest.map fun v => v.category).sum ≤ 8) (hdg : decode cc pc = .ok (.invokestatic ix, 3)) (hf : cells + kc ≤ Rm.cells ∧ slots + ks ≤ Rm.slots) :
    va_Run p l e Rm s m args below meth c H locs cells slots kc ks (F0 m pc ls ((as.map (zv B)).reverse ++ rest)) rest (zQC D cy B kc R0 ((as.map (zv B)).toArray)) (fun q => B ≤ q) := by
  obtain ⟨hcd, hd, h1, h2⟩ := L
  have hG : GoodIn zgt (va_wsS own ix ν.1 (zws ν)) := fun w hw => by
    unfold va_wsS at hw
    rcases List.mem_append.mp hw with q | q
    · simp only [List.mem_cons, List.not_mem_nil, or_false] at q
      rcases q with rfl | rfl | rfl
      · exact zG _ h1
      · exact zG _ h2
      · exact zG _ hcd.2.1
    · exact zgood_code hcd w q
  exact va_runS (As := as.map (zv B)) (rest := rest) (g := F0 m pc ls ((as.map (zv B)).reverse ++ rest)) S (hE l D cy B) (va_cwS n S.2.2.2.2 hG rfl rfl rfl ⟨hcd.2.2.1, hcd.2.2.2, hd⟩ (zcall_hR hfr hlo)) ⟨zPre_blind D cy B _ sh M, zPre_at (as := as) hN V⟩ rfl (by simp; exact hn) hsize rfl (lv_room hW) hdg hf
theorem zrun_SN {as : List Value} (S : CallFix p m c cc nL s args zgt own) (hN : zNx s) (V : zWd D cy B s H locs cells sh M) (hE : zEx ν kc ks as sh M R0) (L : zLSN own host ix ν n)
    (hfr : ν.2.2.2.2.1 + 1 ≤ Rm.frames) (hlo : 8 + (ν.2.2.1 + 11) + ν.2.2.2.2.2 ≤ Rm.locals) (hn : as.length = n) (hsize : ls.size = nL) (hW : (rest.map fun v => v.category).sum ≤ 8) (hdg : decode cc pc = .ok (.invokestatic ix, 3)) (hf : cells + kc ≤ Rm.cells ∧ slots + ks ≤ Rm.slots) :
    va_Run p l e Rm s m args below meth c H locs cells slots kc ks (F0 m pc ls ((as.map (zv B)).reverse ++ rest)) rest (zQC D cy B kc R0 ((as.map (zv B)).toArray)) (fun q => B ≤ q) := by
  obtain ⟨hcd, hd, h1, h2⟩ := L
  exact va_runSN (As := as.map (zv B)) (rest := rest) (g := F0 m pc ls ((as.map (zv B)).reverse ++ rest)) S (hE l D cy B) ⟨va_cnB n S.2.2.2.2 (zgood_code hcd) rfl rfl rfl (hN.1 _ h1) (S.2.2.2.2 _ hcd.2.1) ⟨hcd.2.2.1, hcd.2.2.2, hd⟩ (zcall_hR hfr hlo), S.2.2.2.2 _ h2, trivial⟩ ⟨zPre_blind D cy B _ sh M, zPre_at (as := as) hN V⟩ rfl (by simp; exact hn) hsize rfl (lv_room hW) hdg hf
theorem zrun_I {o : Nat} {as : List Value} (S : CallFix p m c cc nL s args zgt own) (hN : zNx s) (V : zWd D cy B s H locs cells sh M) (hE : zEx ν kc ks (.ref o :: as) sh M R0) (L : zLI own ix ν n)
    (hfr : ν.2.2.2.2.1 + 1 ≤ Rm.frames) (hlo : 8 + (ν.2.2.1 + 11) + ν.2.2.2.2.2 ≤ Rm.locals) (hn : as.length = n) (hsize : ls.size = nL) (hW : (rest.map fun v => v.category).sum ≤ 8) (hdg : decode cc pc = .ok (.invokespecial ix, 3)) (hf : cells + kc ≤ Rm.cells ∧ slots + ks ≤ Rm.slots) :
    va_Run p l e Rm s m args below meth c H locs cells slots kc ks (F0 m pc ls ((as.map (zv B)).reverse ++ .ref (B + o) :: rest)) rest (zQC D cy B kc R0 (((Value.ref o :: as).map (zv B)).toArray)) (fun q => B ≤ q) := by
  obtain ⟨hcd, hd, h1, h2, h3, h4⟩ := L
  have hws : zws ν = Cond.code ν.1 ν.2.1 ν.2.2.1 none :: zgt := by rw [← h4]; rfl
  exact va_runI (As := as.map (zv B)) (rest := rest) (g := F0 m pc ls ((as.map (zv B)).reverse ++ .ref (B + o) :: rest)) S (hE l D cy B) (cwI n S.2.2.2.2 (zgood_code hcd) hws rfl rfl (S.2.2.2.2 _ hcd.2.1) (S.2.2.2.2 _ h1) (S.2.2.2.2 _ h2) h3 ⟨hcd.2.2.1, hcd.2.2.2, hd⟩ (zcall_hR hfr hlo)) ⟨zPre_blind D cy B _ sh M, zPre_at (as := .ref o :: as) hN V⟩ rfl (by simp; exact hn) hsize rfl (lv_room hW) hdg hf
theorem zrun_IN {o : Nat} {as : List Value} (S : CallFix p m c cc nL s args zgt own) (hN : zNx s) (V : zWd D cy B s H locs cells sh M) (hE : zEx ν kc ks (.ref o :: as) sh M R0) (L : zLIN own host ix ν n)
    (hfr : ν.2.2.2.2.1 + 1 ≤ Rm.frames) (hlo : 8 + (ν.2.2.1 + 11) + ν.2.2.2.2.2 ≤ Rm.locals) (hn : as.length = n) (hsize : ls.size = nL) (hW : (rest.map fun v => v.category).sum ≤ 8) (hdg : decode cc pc = .ok (.invokespecial ix, 3)) (hf : cells + kc ≤ Rm.cells ∧ slots + ks ≤ Rm.slots) :
    va_Run p l e Rm s m args below meth c H locs cells slots kc ks (F0 m pc ls ((as.map (zv B)).reverse ++ .ref (B + o) :: rest)) rest (zQC D cy B kc R0 (((Value.ref o :: as).map (zv B)).toArray)) (fun q => B ≤ q) := by
  obtain ⟨hcd, hd, h1, h2, h3, h4⟩ := L
  have hws : zws ν = Cond.code ν.1 ν.2.1 ν.2.2.1 none :: zgt := by rw [← h4]; rfl
  exact va_runIN (As := as.map (zv B)) (rest := rest) (g := F0 m pc ls ((as.map (zv B)).reverse ++ .ref (B + o) :: rest)) S (hE l D cy B) ⟨va_cnB n S.2.2.2.2 (zgood_code hcd) hws rfl rfl (hN.1 _ h1) (S.2.2.2.2 _ hcd.2.1) ⟨hcd.2.2.1, hcd.2.2.2, hd⟩ (zcall_hR hfr hlo), h3, S.2.2.2.2 _ h2⟩ ⟨zPre_blind D cy B _ sh M, zPre_at (as := .ref o :: as) hN V⟩ rfl (by simp; exact hn) hsize rfl (lv_room hW) hdg hf
end zCall2
