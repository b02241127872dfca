/-! the reference's images -/
def kIc (M M1 : zMem) (b a l s p : Nat) : Prop := kAg [50] M M1 ∧ (∀ j, j < a → M1 50 (b + j) = M 38 j) ∧ (∀ j, j < l → M1 50 (b + 50 + j) = M 39 j) ∧ (∀ j, j < s → M1 50 (b + 60 + j) = M 40 j) ∧ (∀ j, j < p → M1 50 (b + 72 + j) = M 36 j) ∧ ∀ x, x < b ∨ b + 84 ≤ x → M1 50 x = M 50 x
theorem zms_at (M : zMem) (p i j : Nat) (v : Int32) : zms M p i v p j = if j = i then v else M p j := by simp [zms]
theorem kIc_w {M M1 : zMem} {b a l s p x : Nat} {v : Int32} (h : kIc M M1 b a l s p) (hx : b ≤ x ∧ x < b + 84) (ha : a ≤ 50) (hl : l ≤ 10) (hs : s ≤ 12) (hp : p ≤ 6) (a2 l2 s2 p2 : Nat) (ea : a2 = a ∨ (a2 = a + 1 ∧ x = b + a ∧ v = M 38 a)) (el : l2 = l ∨ (l2 = l + 1 ∧ x = b + 50 + l ∧ v = M 39 l)) (es : s2 = s ∨ (s2 = s + 1 ∧ x = b + 60 + s ∧ v = M 40 s)) (ep : p2 = p ∨ (p2 = p + 1 ∧ x = b + 72 + p ∧ v = M 36 p))
    (h1 : ∀ j, j < a → x ≠ b + j) (h2 : ∀ j, j < l → x ≠ b + 50 + j) (h3 : ∀ j, j < s → x ≠ b + 60 + j) (h4 : ∀ j, j < p → x ≠ b + 72 + j) : kIc M (zms M1 50 x v) b a2 l2 s2 p2 := by
  obtain ⟨i1, i2, i3, i4, i5, i6⟩ := h
  refine ⟨i1.st (by decide), fun j hj => ?_, fun j hj => ?_, fun j hj => ?_, fun j hj => ?_, fun y hy => ?_⟩
  · rw [zms_at]
    by_cases hj2 : j < a
    · rw [if_neg (fun q => h1 j hj2 q.symm)]; exact i2 j hj2
    · rcases ea with rfl | ⟨rfl, ex, ev⟩
      · exact absurd hj hj2
      · have : j = a := by omega
        subst this
        rw [if_pos ex.symm, ev]
  · rw [zms_at]
    by_cases hj2 : j < l
    · rw [if_neg (fun q => h2 j hj2 q.symm)]; exact i3 j hj2
    · rcases el with rfl | ⟨rfl, ex, ev⟩
      · exact absurd hj hj2
      · have : j = l := by omega
        subst this
        rw [if_pos ex.symm, ev]
  · rw [zms_at]
    by_cases hj2 : j < s
    · rw [if_neg (fun q => h3 j hj2 q.symm)]; exact i4 j hj2
    · rcases es with rfl | ⟨rfl, ex, ev⟩
      · exact absurd hj hj2
      · have : j = s := by omega
        subst this
        rw [if_pos ex.symm, ev]
  · rw [zms_at]
    by_cases hj2 : j < p
    · rw [if_neg (fun q => h4 j hj2 q.symm)]; exact i5 j hj2
    · rcases ep with rfl | ⟨rfl, ex, ev⟩
      · exact absurd hj hj2
      · have : j = p := by omega
        subst this
        rw [if_pos ex.symm, ev]
  · rw [zms_at, if_neg (by omega)]
    exact i6 y hy
def kRc (M M1 : zMem) (b a l s p : Nat) : Prop := kAg [36, 38, 39, 40] M M1 ∧ (∀ j, j < a → M1 38 j = M 50 (b + j)) ∧ (∀ j, j < l → M1 39 j = M 50 (b + 50 + j)) ∧ (∀ j, j < s → M1 40 j = M 50 (b + 60 + j)) ∧ (∀ j, j < p → M1 36 j = M 50 (b + 72 + j))
theorem kUp {f : Nat → Int32} {M : zMem} {p k : Nat} {v : Int32} (h : ∀ j, j < k → M p j = f j) (hv : v = f k) : ∀ j, j < k + 1 → zms M p k v p j = f j := by
  intro j hj
  rw [zms_at]
  by_cases e : j = k
  · rw [if_pos e, hv, e]
  · rw [if_neg e]; exact h j (by omega)
section zX2
variable {n : Nat} {P : Nat → Int32} {F : zTS} {I : Nat → Option zTS} {M : zMem} {g : Nat → Option Nat} {X : List zShp}
theorem v_X_image_0 (g : Nat → Option Nat) (X : List zShp) (M : zMem) (x1 : Int32) (R : zEnd) (h : (((inI x1 0 1) = true) → (zRT m_X_image 0 0 19 [(0, .ref 35), (1, .int x1), (2, .int ((84 : Int32) * x1)), (3, .int 0)] [] (SHP g X) M R)) ∧ (((inI x1 0 1) = false) → (R (some (.int (-2))) (SHP g X) M))) : zRT m_X_image 0 0 0 [(0, .ref 35), (1, .int x1)] [] (SHP g X) M R := by
  refine zs_iload_n 1 d_X_image_0 rfl (List.mem_of_getElem? (i := 1) rfl) ?_
  refine zs_iconst 0 d_X_image_1 (by decide) ?_
  refine zs_iconst 1 d_X_image_2 (by decide) ?_
  refine zs_callS (kc := 0) (ks := 0) (kc1 := 0) (ks1 := 0) (st := []) [.int x1, .int 0, .int 1] d_X_image_3 lk_X_66 ⟨by decide, by decide⟩ rfl (Nat.le_of_ble_eq_true rfl) (ex_X_in g X M x1 0 1) (fun v1 sh1 M1 hR => ?_)
  obtain ⟨rfl, rfl, rfl⟩ := hR
  refine zs_if_ne 12 d_X_image_6 (by decide) (fun c2 => ?_) (fun c2 => ?_)
  · replace h := h.1 (bI_1 c2)
    refine zs_bipush 84 d_X_image_12 (by decide) ?_
    refine zs_iload_n 1 d_X_image_14 rfl (List.mem_of_getElem? (i := 1) rfl) ?_
    refine zs_imul d_X_image_15 ?_
    refine zs_istore_n2 2 [1, 2, 0] [(0, .ref 35), (1, .int x1), (2, .int ((84 : Int32) * x1))] d_X_image_16 rfl (by decide) rfl ?_
    refine zs_iconst 0 d_X_image_17 (by decide) ?_
    refine zs_istore_n2 3 [1, 2, 3, 0] [(0, .ref 35), (1, .int x1), (2, .int ((84 : Int32) * x1)), (3, .int 0)] d_X_image_18 rfl (by decide) rfl ?_
    exact h
  · replace h := h.2 (bI_0 c2)
    refine zs_bipush (-2) d_X_image_9 (by decide) ?_
    exact zs_iret d_X_image_11 rfl h
theorem v_X_image_19 (g : Nat → Option Nat) (X : List zShp) (M : zMem) (x1 x2 x3 : Int32) (R : zEnd) (h : ((50 ≤ x3) → (zRT m_X_image 0 0 47 [(0, .ref 35), (1, .int x1), (2, .int x2), (3, .int 0)] [] (SHP g X) M R)) ∧ ((¬ 50 ≤ x3) → ((vp_in x3 50) ∧ ((vp_in (x2 + x3) 168) ∧ (zRT m_X_image 0 0 19 [(0, .ref 35), (1, .int x1), (2, .int x2), (3, .int (x3 + 1))] [] (SHP g X) (zms M 50 (Int32.toNatClampNeg (x2 + x3)) (M 38 (Int32.toNatClampNeg x3))) R))))) : zRT m_X_image 0 0 19 [(0, .ref 35), (1, .int x1), (2, .int x2), (3, .int x3)] [] (SHP g X) M R := by
  refine zs_iload_n 3 d_X_image_19 rfl (List.mem_of_getElem? (i := 3) rfl) ?_
  refine zs_bipush 50 d_X_image_20 (by decide) ?_
  refine zs_icmp_ge 45 d_X_image_22 (by decide) (fun c1 => ?_) (fun c1 => ?_)
  · replace h := h.1 c1
    refine zs_iconst 0 d_X_image_45 (by decide) ?_
    refine zs_istore_n2 3 [1, 2, 3, 0] [(0, .ref 35), (1, .int x1), (2, .int x2), (3, .int 0)] d_X_image_46 rfl (by decide) rfl ?_
    exact h
  · replace h := h.2 c1
    refine zs_aload_n 0 d_X_image_25 rfl (List.mem_of_getElem? (i := 0) rfl) ?_
    refine zs_get d_X_image_26 gf_X_59 (sh_35 g X) rfl ?_
    refine zs_iload_n 2 d_X_image_29 rfl (List.mem_of_getElem? (i := 2) rfl) ?_
    refine zs_iload_n 3 d_X_image_30 rfl (List.mem_of_getElem? (i := 3) rfl) ?_
    refine zs_iadd d_X_image_31 ?_
    refine zs_aload_n 0 d_X_image_32 rfl (List.mem_of_getElem? (i := 0) rfl) ?_
    refine zs_get d_X_image_33 gf_X_23 (sh_35 g X) rfl ?_
    refine zs_iload_n 3 d_X_image_36 rfl (List.mem_of_getElem? (i := 3) rfl) ?_
    obtain ⟨b2, h⟩ := h
    refine zs_iald d_X_image_37 (sh_38 g X) b2 ?_
    obtain ⟨b3, h⟩ := h
    refine zs_iast d_X_image_38 (sh_50 g X) b3 ?_
    refine zs_iinc2 3 (x3 + 1) [1, 2, 3, 0] [(0, .ref 35), (1, .int x1), (2, .int x2), (3, .int (x3 + 1))] d_X_image_39 rfl rfl (by decide) rfl ?_
    refine zs_goto 19 d_X_image_42 (by decide) ?_
    exact h
theorem v_X_image_47 (g : Nat → Option Nat) (X : List zShp) (M : zMem) (x1 x2 x3 : Int32) (R : zEnd) (h : ((10 ≤ x3) → (zRT m_X_image 0 0 78 [(0, .ref 35), (1, .int x1), (2, .int x2), (3, .int 0)] [] (SHP g X) M R)) ∧ ((¬ 10 ≤ x3) → ((vp_in x3 10) ∧ ((vp_in ((x2 + 50) + x3) 168) ∧ (zRT m_X_image 0 0 47 [(0, .ref 35), (1, .int x1), (2, .int x2), (3, .int (x3 + 1))] [] (SHP g X) (zms M 50 (Int32.toNatClampNeg ((x2 + 50) + x3)) (M 39 (Int32.toNatClampNeg x3))) R))))) : zRT m_X_image 0 0 47 [(0, .ref 35), (1, .int x1), (2, .int x2), (3, .int x3)] [] (SHP g X) M R := by
  refine zs_iload_n 3 d_X_image_47 rfl (List.mem_of_getElem? (i := 3) rfl) ?_
  refine zs_bipush 10 d_X_image_48 (by decide) ?_
  refine zs_icmp_ge 76 d_X_image_50 (by decide) (fun c1 => ?_) (fun c1 => ?_)
  · replace h := h.1 c1
    refine zs_iconst 0 d_X_image_76 (by decide) ?_
    refine zs_istore_n2 3 [1, 2, 3, 0] [(0, .ref 35), (1, .int x1), (2, .int x2), (3, .int 0)] d_X_image_77 rfl (by decide) rfl ?_
    exact h
  · replace h := h.2 c1
    refine zs_aload_n 0 d_X_image_53 rfl (List.mem_of_getElem? (i := 0) rfl) ?_
    refine zs_get d_X_image_54 gf_X_59 (sh_35 g X) rfl ?_
    refine zs_iload_n 2 d_X_image_57 rfl (List.mem_of_getElem? (i := 2) rfl) ?_
    refine zs_bipush 50 d_X_image_58 (by decide) ?_
    refine zs_iadd d_X_image_60 ?_
    refine zs_iload_n 3 d_X_image_61 rfl (List.mem_of_getElem? (i := 3) rfl) ?_
    refine zs_iadd d_X_image_62 ?_
    refine zs_aload_n 0 d_X_image_63 rfl (List.mem_of_getElem? (i := 0) rfl) ?_
    refine zs_get d_X_image_64 gf_X_26 (sh_35 g X) rfl ?_
    refine zs_iload_n 3 d_X_image_67 rfl (List.mem_of_getElem? (i := 3) rfl) ?_
    obtain ⟨b2, h⟩ := h
    refine zs_iald d_X_image_68 (sh_39 g X) b2 ?_
    obtain ⟨b3, h⟩ := h
    refine zs_iast d_X_image_69 (sh_50 g X) b3 ?_
    refine zs_iinc2 3 (x3 + 1) [1, 2, 3, 0] [(0, .ref 35), (1, .int x1), (2, .int x2), (3, .int (x3 + 1))] d_X_image_70 rfl rfl (by decide) rfl ?_
    refine zs_goto 47 d_X_image_73 (by decide) ?_
    exact h
theorem v_X_image_78 (g : Nat → Option Nat) (X : List zShp) (M : zMem) (x1 x2 x3 : Int32) (R : zEnd) (h : ((12 ≤ x3) → (zRT m_X_image 0 0 109 [(0, .ref 35), (1, .int x1), (2, .int x2), (3, .int 0)] [] (SHP g X) M R)) ∧ ((¬ 12 ≤ x3) → ((vp_in x3 12) ∧ ((vp_in ((x2 + 60) + x3) 168) ∧ (zRT m_X_image 0 0 78 [(0, .ref 35), (1, .int x1), (2, .int x2), (3, .int (x3 + 1))] [] (SHP g X) (zms M 50 (Int32.toNatClampNeg ((x2 + 60) + x3)) (M 40 (Int32.toNatClampNeg x3))) R))))) : zRT m_X_image 0 0 78 [(0, .ref 35), (1, .int x1), (2, .int x2), (3, .int x3)] [] (SHP g X) M R := by
  refine zs_iload_n 3 d_X_image_78 rfl (List.mem_of_getElem? (i := 3) rfl) ?_
  refine zs_bipush 12 d_X_image_79 (by decide) ?_
  refine zs_icmp_ge 107 d_X_image_81 (by decide) (fun c1 => ?_) (fun c1 => ?_)
  · replace h := h.1 c1
    refine zs_iconst 0 d_X_image_107 (by decide) ?_
    refine zs_istore_n2 3 [1, 2, 3, 0] [(0, .ref 35), (1, .int x1), (2, .int x2), (3, .int 0)] d_X_image_108 rfl (by decide) rfl ?_
    exact h
  · replace h := h.2 c1
    refine zs_aload_n 0 d_X_image_84 rfl (List.mem_of_getElem? (i := 0) rfl) ?_
    refine zs_get d_X_image_85 gf_X_59 (sh_35 g X) rfl ?_
    refine zs_iload_n 2 d_X_image_88 rfl (List.mem_of_getElem? (i := 2) rfl) ?_
    refine zs_bipush 60 d_X_image_89 (by decide) ?_
    refine zs_iadd d_X_image_91 ?_
    refine zs_iload_n 3 d_X_image_92 rfl (List.mem_of_getElem? (i := 3) rfl) ?_
    refine zs_iadd d_X_image_93 ?_
    refine zs_aload_n 0 d_X_image_94 rfl (List.mem_of_getElem? (i := 0) rfl) ?_
    refine zs_get d_X_image_95 gf_X_29 (sh_35 g X) rfl ?_
    refine zs_iload_n 3 d_X_image_98 rfl (List.mem_of_getElem? (i := 3) rfl) ?_
    obtain ⟨b2, h⟩ := h
    refine zs_iald d_X_image_99 (sh_40 g X) b2 ?_
    obtain ⟨b3, h⟩ := h
    refine zs_iast d_X_image_100 (sh_50 g X) b3 ?_
    refine zs_iinc2 3 (x3 + 1) [1, 2, 3, 0] [(0, .ref 35), (1, .int x1), (2, .int x2), (3, .int (x3 + 1))] d_X_image_101 rfl rfl (by decide) rfl ?_
    refine zs_goto 78 d_X_image_104 (by decide) ?_
    exact h
theorem v_X_image_109 (g : Nat → Option Nat) (X : List zShp) (M : zMem) (x1 x2 x3 : Int32) (R : zEnd) (h : ((6 ≤ x3) → ((vp_in (x2 + 78) 168) ∧ ((vp_in (x2 + 79) 168) ∧ ((vp_in (x2 + 80) 168) ∧ ((vp_in (x2 + 81) 168) ∧ ((vp_in (x2 + 82) 168) ∧ ((vp_in x1 2) ∧ (R (some (.int 1)) (SHP g X) (zms (zms (zms (zms (zms (zms M 50 (Int32.toNatClampNeg (x2 + 78)) (M 35 6)) 50 (Int32.toNatClampNeg (x2 + 79)) (M 35 9)) 50 (Int32.toNatClampNeg (x2 + 80)) (M 35 0)) 50 (Int32.toNatClampNeg (x2 + 81)) (M 35 1)) 50 (Int32.toNatClampNeg (x2 + 82)) (M 35 2)) 51 (Int32.toNatClampNeg x1) 1))))))))) ∧ ((¬ 6 ≤ x3) → ((vp_in x3 6) ∧ ((vp_in ((x2 + 72) + x3) 168) ∧ (zRT m_X_image 0 0 109 [(0, .ref 35), (1, .int x1), (2, .int x2), (3, .int (x3 + 1))] [] (SHP g X) (zms M 50 (Int32.toNatClampNeg ((x2 + 72) + x3)) (M 36 (Int32.toNatClampNeg x3))) R))))) : zRT m_X_image 0 0 109 [(0, .ref 35), (1, .int x1), (2, .int x2), (3, .int x3)] [] (SHP g X) M R := by
  refine zs_iload_n 3 d_X_image_109 rfl (List.mem_of_getElem? (i := 3) rfl) ?_
  refine zs_bipush 6 d_X_image_110 (by decide) ?_
  refine zs_icmp_ge 138 d_X_image_112 (by decide) (fun c1 => ?_) (fun c1 => ?_)
  · replace h := h.1 c1
    refine zs_aload_n 0 d_X_image_138 rfl (List.mem_of_getElem? (i := 0) rfl) ?_
    refine zs_get d_X_image_139 gf_X_59 (sh_35 g X) rfl ?_
    refine zs_iload_n 2 d_X_image_142 rfl (List.mem_of_getElem? (i := 2) rfl) ?_
    refine zs_bipush 78 d_X_image_143 (by decide) ?_
    refine zs_iadd d_X_image_145 ?_
    refine zs_aload_n 0 d_X_image_146 rfl (List.mem_of_getElem? (i := 0) rfl) ?_
    refine zs_get d_X_image_147 gf_X_70 (sh_35 g X) rfl ?_
    obtain ⟨b2, h⟩ := h
    refine zs_iast d_X_image_150 (sh_50 g X) b2 ?_
    refine zs_aload_n 0 d_X_image_151 rfl (List.mem_of_getElem? (i := 0) rfl) ?_
    refine zs_get d_X_image_152 gf_X_59 (sh_35 g X) rfl ?_
    refine zs_iload_n 2 d_X_image_155 rfl (List.mem_of_getElem? (i := 2) rfl) ?_
    refine zs_bipush 79 d_X_image_156 (by decide) ?_
    refine zs_iadd d_X_image_158 ?_
    refine zs_aload_n 0 d_X_image_159 rfl (List.mem_of_getElem? (i := 0) rfl) ?_
    refine zs_get d_X_image_160 gf_X_80 (sh_35 g X) rfl ?_
    obtain ⟨b3, h⟩ := h
    refine zs_iast d_X_image_163 (sh_50 g X) b3 ?_
    refine zs_aload_n 0 d_X_image_164 rfl (List.mem_of_getElem? (i := 0) rfl) ?_
    refine zs_get d_X_image_165 gf_X_59 (sh_35 g X) rfl ?_
    refine zs_iload_n 2 d_X_image_168 rfl (List.mem_of_getElem? (i := 2) rfl) ?_
    refine zs_bipush 80 d_X_image_169 (by decide) ?_
    refine zs_iadd d_X_image_171 ?_
    refine zs_aload_n 0 d_X_image_172 rfl (List.mem_of_getElem? (i := 0) rfl) ?_
    refine zs_get d_X_image_173 gf_X_7 (sh_35 g X) rfl ?_
    obtain ⟨b4, h⟩ := h
    refine zs_iast d_X_image_176 (sh_50 g X) b4 ?_
    refine zs_aload_n 0 d_X_image_177 rfl (List.mem_of_getElem? (i := 0) rfl) ?_
    refine zs_get d_X_image_178 gf_X_59 (sh_35 g X) rfl ?_
    refine zs_iload_n 2 d_X_image_181 rfl (List.mem_of_getElem? (i := 2) rfl) ?_
    refine zs_bipush 81 d_X_image_182 (by decide) ?_
    refine zs_iadd d_X_image_184 ?_
    refine zs_aload_n 0 d_X_image_185 rfl (List.mem_of_getElem? (i := 0) rfl) ?_
    refine zs_get d_X_image_186 gf_X_90 (sh_35 g X) rfl ?_
    obtain ⟨b5, h⟩ := h
    refine zs_iast d_X_image_189 (sh_50 g X) b5 ?_
    refine zs_aload_n 0 d_X_image_190 rfl (List.mem_of_getElem? (i := 0) rfl) ?_
    refine zs_get d_X_image_191 gf_X_59 (sh_35 g X) rfl ?_
    refine zs_iload_n 2 d_X_image_194 rfl (List.mem_of_getElem? (i := 2) rfl) ?_
    refine zs_bipush 82 d_X_image_195 (by decide) ?_
    refine zs_iadd d_X_image_197 ?_
    refine zs_aload_n 0 d_X_image_198 rfl (List.mem_of_getElem? (i := 0) rfl) ?_
    refine zs_get d_X_image_199 gf_X_13 (sh_35 g X) rfl ?_
    obtain ⟨b6, h⟩ := h
    refine zs_iast d_X_image_202 (sh_50 g X) b6 ?_
    refine zs_aload_n 0 d_X_image_203 rfl (List.mem_of_getElem? (i := 0) rfl) ?_
    refine zs_get d_X_image_204 gf_X_62 (sh_35 g X) rfl ?_
    refine zs_iload_n 1 d_X_image_207 rfl (List.mem_of_getElem? (i := 1) rfl) ?_
    refine zs_iconst 1 d_X_image_208 (by decide) ?_
    obtain ⟨b7, h⟩ := h
    refine zs_zast d_X_image_209 (sh_51 g X) b7 (by decide) ?_
    refine zs_iconst 1 d_X_image_210 (by decide) ?_
    exact zs_iret d_X_image_211 rfl h
  · replace h := h.2 c1
    refine zs_aload_n 0 d_X_image_115 rfl (List.mem_of_getElem? (i := 0) rfl) ?_
    refine zs_get d_X_image_116 gf_X_59 (sh_35 g X) rfl ?_
    refine zs_iload_n 2 d_X_image_119 rfl (List.mem_of_getElem? (i := 2) rfl) ?_
    refine zs_bipush 72 d_X_image_120 (by decide) ?_
    refine zs_iadd d_X_image_122 ?_
    refine zs_iload_n 3 d_X_image_123 rfl (List.mem_of_getElem? (i := 3) rfl) ?_
    refine zs_iadd d_X_image_124 ?_
    refine zs_aload_n 0 d_X_image_125 rfl (List.mem_of_getElem? (i := 0) rfl) ?_
    refine zs_get d_X_image_126 gf_X_16 (sh_35 g X) rfl ?_
    refine zs_iload_n 3 d_X_image_129 rfl (List.mem_of_getElem? (i := 3) rfl) ?_
    obtain ⟨b8, h⟩ := h
    refine zs_iald d_X_image_130 (sh_36 g X) b8 ?_
    obtain ⟨b9, h⟩ := h
    refine zs_iast d_X_image_131 (sh_50 g X) b9 ?_
    refine zs_iinc2 3 (x3 + 1) [1, 2, 3, 0] [(0, .ref 35), (1, .int x1), (2, .int x2), (3, .int (x3 + 1))] d_X_image_132 rfl rfl (by decide) rfl ?_
    refine zs_goto 109 d_X_image_135 (by decide) ?_
    exact h
theorem ml_image (hj : kMJ n P F I M) (i : Int32) : zEx m_X_image 0 0 [.ref 35, .int i] (SHP g X) M (qR g X (fun r M1 => r = (aImg I F i).1 ∧ kMJ n P F (aImg I F i).2 M1 ∧ kOS M M1)) := by
  obtain ⟨h1, h2, h3, h4⟩ := id hj
  obtain ⟨t1, t2, t3, t4, t5, t6, t7, t8, t9⟩ := id h3
  refine zEx_of _ (by decide) (by simp [Value.category]) (Nat.le_of_ble_eq_true rfl) rfl (v_X_image_0 g X M i _ ⟨fun a => ?_, fun a => ?_⟩)
  · unfold aImg
    rw [if_pos a]
    obtain ⟨k, hk, ek⟩ := vp_in_of (inI_vp.mp a) (by decide)
    have hcl : Int32.toNatClampNeg i = k := by rw [ek]; exact nI_clamp (by omega)
    obtain ⟨b, hb⟩ : ∃ b, b = 84 * k := ⟨_, rfl⟩
    have eb : (84 : Int32) * i = nI b := by rw [ek, show (84 : Int32) = nI 84 from rfl, pk_mul, hb]
    rw [eb, hcl]
    have ad : ∀ c j : Nat, nI b + nI c + nI j = nI (b + c + j) := fun c j => by rw [nI_add, nI_add]
    have L4 : ∀ d j M1, j + d = 6 → kIc M M1 b 50 10 12 j → zRT m_X_image 0 0 109 [(0, .ref 35), (1, .int i), (2, .int (nI b)), (3, .int (nI j))] [] (SHP g X) M1 (qR g X (fun r M1 => r = (1, aImI I F k).1 ∧ kMJ n P F (1, aImI I F k).2 M1 ∧ kOS M M1)) := by
      intro d
      induction d with
      | zero =>
        intro j M1 hd hc
        have e : j = 6 := by omega
        subst e
        have ad2 : ∀ c : Nat, nI b + nI c = nI (b + c) := fun c => nI_add b c
        have vi : ∀ c, c < 84 → vp_in (nI (b + c)) 168 := fun c hc => vp_in_nI (by omega) (by decide)
        refine v_X_image_109 g X _ _ _ _ _ ⟨fun _ => ?_, fun h => absurd (nI_le (a := 6) (by omega) (by omega)) h⟩
        rw [show (78 : Int32) = nI 78 from rfl, show (79 : Int32) = nI 79 from rfl, show (80 : Int32) = nI 80 from rfl, show (81 : Int32) = nI 81 from rfl, show (82 : Int32) = nI 82 from rfl, ad2, ad2, ad2, ad2, ad2]
        refine ⟨vi 78 (by omega), vi 79 (by omega), vi 80 (by omega), vi 81 (by omega), vi 82 (by omega), inI_vp.mp a, ?_⟩
        rw [nI_clamp (by omega), nI_clamp (by omega), nI_clamp (by omega), nI_clamp (by omega), nI_clamp (by omega), hcl]
        obtain ⟨i1, i2, i3, i4, i5, i6⟩ := hc
        have e35 : M1 35 = M 35 := i1 35 (by decide)
        have r50 : ∀ x v5, zms (zms (zms (zms (zms (zms M1 50 (b + 78) (M1 35 6)) 50 (b + 79) (M1 35 9)) 50 (b + 80) (M1 35 0)) 50 (b + 81) (M1 35 1)) 50 (b + 82) (M1 35 2)) 51 k v5 50 x = if x = b + 82 then fE F else if x = b + 81 then fO F else if x = b + 80 then fD F else if x = b + 79 then fN F else if x = b + 78 then fT F else M1 50 x := by
          intro x v5
          rw [e35, t5, t6, t7, t8, t9]
          rfl
        refine qR_i ⟨rfl, ⟨?_, ?_, ?_, ?_⟩, ?_⟩
        · exact (congrFun (i1 35 (by decide)) 4).trans h1
        · intro j hj2
          exact (congrFun (i1 37 (by decide)) j).trans (h2 j hj2)
        · exact ⟨fun j q => (congrFun (i1 38 (by decide)) j).trans (t1 j q), fun j q => (congrFun (i1 39 (by decide)) j).trans (t2 j q), fun j q => (congrFun (i1 40 (by decide)) j).trans (t3 j q), fun j q => (congrFun (i1 36 (by decide)) j).trans (t4 j q), (congrFun (i1 35 (by decide)) 6).trans t5, (congrFun (i1 35 (by decide)) 9).trans t6, (congrFun (i1 35 (by decide)) 0).trans t7, (congrFun (i1 35 (by decide)) 1).trans t8, (congrFun (i1 35 (by decide)) 2).trans t9⟩
        · intro y hy
          by_cases ey : y = k
          · subst ey
            refine Or.inr ⟨F, if_pos rfl, by rw [zms_at, if_pos rfl], ?_⟩
            rw [← hb]
            refine ⟨fun j q => ?_, fun j q => ?_, fun j q => ?_, fun j q => ?_, ?_, ?_, ?_, ?_, ?_⟩
            · rw [r50, if_neg (by omega), if_neg (by omega), if_neg (by omega), if_neg (by omega), if_neg (by omega), i2 j q, t1 j q]
            · rw [r50, if_neg (by omega), if_neg (by omega), if_neg (by omega), if_neg (by omega), if_neg (by omega), i3 j q, t2 j q]
            · rw [r50, if_neg (by omega), if_neg (by omega), if_neg (by omega), if_neg (by omega), if_neg (by omega), i4 j q, t3 j q]
            · rw [r50, if_neg (by omega), if_neg (by omega), if_neg (by omega), if_neg (by omega), if_neg (by omega), i5 j q, t4 j q]
            · rw [r50, if_neg (by omega), if_neg (by omega), if_neg (by omega), if_neg (by omega), if_pos rfl]
            · rw [r50, if_neg (by omega), if_neg (by omega), if_neg (by omega), if_pos rfl]
            · rw [r50, if_neg (by omega), if_neg (by omega), if_pos rfl]
            · rw [r50, if_neg (by omega), if_pos rfl]
            · rw [r50, if_pos rfl]
          · have e51 : ∀ m : zMem, (∀ x, m 50 x = M1 50 x ∨ (b ≤ x ∧ x < b + 84)) → m 51 y = M 51 y → (aImI I F k y = none ∧ m 51 y = 0) ∨ ∃ G, aImI I F k y = some G ∧ m 51 y = 1 ∧ kMI m (84 * y) G := by
              intro m hm h5
              have ei : aImI I F k y = I y := if_neg ey
              rw [ei, h5]
              rcases h4 y hy with q | ⟨G, q1, q2, q3⟩
              · exact Or.inl q
              · refine Or.inr ⟨G, q1, q2, ?_⟩
                have rr : ∀ c, c < 84 → m 50 (84 * y + c) = M 50 (84 * y + c) := by
                  intro c hc
                  rcases hm (84 * y + c) with z | z
                  · rw [z]; exact i6 _ (by omega)
                  · omega
                obtain ⟨u1, u2, u3, u4, u5, u6, u7, u8, u9⟩ := q3
                exact ⟨fun j q => by rw [rr j (by omega)]; exact u1 j q, fun j q => by rw [Nat.add_assoc, rr (50 + j) (by omega), ← Nat.add_assoc]; exact u2 j q, fun j q => by rw [Nat.add_assoc, rr (60 + j) (by omega), ← Nat.add_assoc]; exact u3 j q, fun j q => by rw [Nat.add_assoc, rr (72 + j) (by omega), ← Nat.add_assoc]; exact u4 j q, by rw [rr 78 (by omega)]; exact u5, by rw [rr 79 (by omega)]; exact u6, by rw [rr 80 (by omega)]; exact u7, by rw [rr 81 (by omega)]; exact u8, by rw [rr 82 (by omega)]; exact u9⟩
            refine e51 _ (fun x => ?_) ?_
            · rw [r50]
              by_cases hx : b ≤ x ∧ x < b + 84
              · exact Or.inr hx
              · left
                rw [if_neg (by omega), if_neg (by omega), if_neg (by omega), if_neg (by omega), if_neg (by omega)]
            · rw [zms_at, if_neg ey]
              exact congrFun (i1 51 (by decide)) y
        · exact kOS_ag (l := [50, 51]) (((((((i1.mo (by decide)).st (by decide)).st (by decide)).st (by decide)).st (by decide)).st (by decide)).st (by decide)) (by decide)
      | succ d ih =>
        intro j M1 hd hc
        refine v_X_image_109 g X _ _ _ _ _ ⟨fun h => absurd h (nI_ge (b := 6) (by omega) (by omega)), fun _ => ⟨vp_in_nI (by omega) (by decide), ?_⟩⟩
        rw [show (72 : Int32) = nI 72 from rfl, ad, nI_clamp (by omega), nI_clamp (by omega), nI_1]
        refine ⟨vp_in_nI (by omega) (by decide), ih (j + 1) _ (by omega) (kIc_w hc (by omega) (by omega) (by omega) (by omega) (by omega) 50 10 12 (j + 1) (Or.inl rfl) (Or.inl rfl) (Or.inl rfl) (Or.inr ⟨rfl, rfl, congrFun (hc.1 36 (by decide)) j⟩) (by omega) (by omega) (by omega) (by omega))⟩
    have L3 : ∀ d j M1, j + d = 12 → kIc M M1 b 50 10 j 0 → zRT m_X_image 0 0 78 [(0, .ref 35), (1, .int i), (2, .int (nI b)), (3, .int (nI j))] [] (SHP g X) M1 (qR g X (fun r M1 => r = (1, aImI I F k).1 ∧ kMJ n P F (1, aImI I F k).2 M1 ∧ kOS M M1)) := by
      intro d
      induction d with
      | zero =>
        intro j M1 hd hc
        have e : j = 12 := by omega
        subst e
        exact v_X_image_78 g X _ _ _ _ _ ⟨fun _ => L4 6 0 M1 rfl hc, fun h => absurd (nI_le (a := 12) (by omega) (by omega)) h⟩
      | succ d ih =>
        intro j M1 hd hc
        refine v_X_image_78 g X _ _ _ _ _ ⟨fun h => absurd h (nI_ge (b := 12) (by omega) (by omega)), fun _ => ⟨vp_in_nI (by omega) (by decide), ?_⟩⟩
        rw [show (60 : Int32) = nI 60 from rfl, ad, nI_clamp (by omega), nI_clamp (by omega), nI_1]
        refine ⟨vp_in_nI (by omega) (by decide), ih (j + 1) _ (by omega) (kIc_w hc (by omega) (by omega) (by omega) (by omega) (by omega) 50 10 (j + 1) 0 (Or.inl rfl) (Or.inl rfl) (Or.inr ⟨rfl, rfl, congrFun (hc.1 40 (by decide)) j⟩) (Or.inl rfl) (by omega) (by omega) (by omega) (by omega))⟩
    have L2 : ∀ d j M1, j + d = 10 → kIc M M1 b 50 j 0 0 → zRT m_X_image 0 0 47 [(0, .ref 35), (1, .int i), (2, .int (nI b)), (3, .int (nI j))] [] (SHP g X) M1 (qR g X (fun r M1 => r = (1, aImI I F k).1 ∧ kMJ n P F (1, aImI I F k).2 M1 ∧ kOS M M1)) := by
      intro d
      induction d with
      | zero =>
        intro j M1 hd hc
        have e : j = 10 := by omega
        subst e
        exact v_X_image_47 g X _ _ _ _ _ ⟨fun _ => L3 12 0 M1 rfl hc, fun h => absurd (nI_le (a := 10) (by omega) (by omega)) h⟩
      | succ d ih =>
        intro j M1 hd hc
        refine v_X_image_47 g X _ _ _ _ _ ⟨fun h => absurd h (nI_ge (b := 10) (by omega) (by omega)), fun _ => ⟨vp_in_nI (by omega) (by decide), ?_⟩⟩
        rw [show (50 : Int32) = nI 50 from rfl, ad, nI_clamp (by omega), nI_clamp (by omega), nI_1]
        refine ⟨vp_in_nI (by omega) (by decide), ih (j + 1) _ (by omega) (kIc_w hc (by omega) (by omega) (by omega) (by omega) (by omega) 50 (j + 1) 0 0 (Or.inl rfl) (Or.inr ⟨rfl, rfl, congrFun (hc.1 39 (by decide)) j⟩) (Or.inl rfl) (Or.inl rfl) (by omega) (by omega) (by omega) (by omega))⟩
    have L1 : ∀ d j M1, j + d = 50 → kIc M M1 b j 0 0 0 → zRT m_X_image 0 0 19 [(0, .ref 35), (1, .int i), (2, .int (nI b)), (3, .int (nI j))] [] (SHP g X) M1 (qR g X (fun r M1 => r = (1, aImI I F k).1 ∧ kMJ n P F (1, aImI I F k).2 M1 ∧ kOS M M1)) := by
      intro d
      induction d with
      | zero =>
        intro j M1 hd hc
        have e : j = 50 := by omega
        subst e
        exact v_X_image_19 g X _ _ _ _ _ ⟨fun _ => L2 10 0 M1 rfl hc, fun h => absurd (nI_le (a := 50) (by omega) (by omega)) h⟩
      | succ d ih =>
        intro j M1 hd hc
        refine v_X_image_19 g X _ _ _ _ _ ⟨fun h => absurd h (nI_ge (b := 50) (by omega) (by omega)), fun _ => ⟨vp_in_nI (by omega) (by decide), ?_⟩⟩
        rw [nI_add, nI_clamp (by omega), nI_clamp (by omega), nI_1]
        refine ⟨vp_in_nI (by omega) (by decide), ih (j + 1) _ (by omega) (kIc_w hc (by omega) (by omega) (by omega) (by omega) (by omega) (j + 1) 0 0 0 (Or.inr ⟨rfl, rfl, congrFun (hc.1 38 (by decide)) j⟩) (Or.inl rfl) (Or.inl rfl) (Or.inl rfl) (by omega) (by omega) (by omega) (by omega))⟩
    exact L1 50 0 M rfl ⟨kAg.rf, fun j hj => by omega, fun j hj => by omega, fun j hj => by omega, fun j hj => by omega, fun _ _ => rfl⟩
  · unfold aImg; rw [a]; exact qR_i ⟨rfl, hj, kOS_rf⟩
theorem v_X_restore_0 (g : Nat → Option Nat) (X : List zShp) (M : zMem) (x1 : Int32) (R : zEnd) (h : (((inI x1 0 1) = true) → ((vp_in x1 2) ∧ (((¬ (M 51 (Int32.toNatClampNeg x1)) = 0) → (zRT m_X_restore 0 0 31 [(0, .ref 35), (2, .int ((84 : Int32) * x1)), (3, .int 0)] [] (SHP g X) M R)) ∧ (((M 51 (Int32.toNatClampNeg x1)) = 0) → (R (some (.int (-3))) (SHP g X) M))))) ∧ (((inI x1 0 1) = false) → (R (some (.int (-2))) (SHP g X) M))) : zRT m_X_restore 0 0 0 [(0, .ref 35), (1, .int x1)] [] (SHP g X) M R := by
  refine zs_iload_n 1 d_X_restore_0 rfl (List.mem_of_getElem? (i := 1) rfl) ?_
  refine zs_iconst 0 d_X_restore_1 (by decide) ?_
  refine zs_iconst 1 d_X_restore_2 (by decide) ?_
  refine zs_callS (kc := 0) (ks := 0) (kc1 := 0) (ks1 := 0) (st := []) [.int x1, .int 0, .int 1] d_X_restore_3 lk_X_66 ⟨by decide, by decide⟩ rfl (Nat.le_of_ble_eq_true rfl) (ex_X_in g X M x1 0 1) (fun v1 sh1 M1 hR => ?_)
  obtain ⟨rfl, rfl, rfl⟩ := hR
  refine zs_if_ne 12 d_X_restore_6 (by decide) (fun c2 => ?_) (fun c2 => ?_)
  · replace h := h.1 (bI_1 c2)
    refine zs_aload_n 0 d_X_restore_12 rfl (List.mem_of_getElem? (i := 0) rfl) ?_
    refine zs_get d_X_restore_13 gf_X_62 (sh_35 g X) rfl ?_
    refine zs_iload_n 1 d_X_restore_16 rfl (List.mem_of_getElem? (i := 1) rfl) ?_
    obtain ⟨b3, h⟩ := h
    refine zs_zald d_X_restore_17 (sh_51 g X) b3 ?_
    refine zs_if_ne 24 d_X_restore_18 (by decide) (fun c4 => ?_) (fun c4 => ?_)
    · replace h := h.1 c4
      refine zs_bipush 84 d_X_restore_24 (by decide) ?_
      refine zs_iload_n 1 d_X_restore_26 rfl (List.mem_of_getElem? (i := 1) rfl) ?_
      refine zs_imul d_X_restore_27 ?_
      refine zs_istore_n2 2 [1, 2, 0] [(0, .ref 35), (1, .int x1), (2, .int ((84 : Int32) * x1))] d_X_restore_28 rfl (by decide) rfl ?_
      refine zs_iconst 0 d_X_restore_29 (by decide) ?_
      refine zs_istore_n2 3 [1, 2, 3, 0] [(0, .ref 35), (1, .int x1), (2, .int ((84 : Int32) * x1)), (3, .int 0)] d_X_restore_30 rfl (by decide) rfl ?_
      exact zRT_sub [0, 2, 3] rfl h
    · replace h := h.2 c4
      refine zs_bipush (-3) d_X_restore_21 (by decide) ?_
      exact zs_iret d_X_restore_23 rfl h
  · replace h := h.2 (bI_0 c2)
    refine zs_bipush (-2) d_X_restore_9 (by decide) ?_
    exact zs_iret d_X_restore_11 rfl h
theorem v_X_restore_31 (g : Nat → Option Nat) (X : List zShp) (M : zMem) (x2 x3 : Int32) (R : zEnd) (h : ((50 ≤ x3) → (zRT m_X_restore 0 0 59 [(0, .ref 35), (2, .int x2), (3, .int 0)] [] (SHP g X) M R)) ∧ ((¬ 50 ≤ x3) → ((vp_in (x2 + x3) 168) ∧ ((vp_in x3 50) ∧ (zRT m_X_restore 0 0 31 [(0, .ref 35), (2, .int x2), (3, .int (x3 + 1))] [] (SHP g X) (zms M 38 (Int32.toNatClampNeg x3) (M 50 (Int32.toNatClampNeg (x2 + x3)))) R))))) : zRT m_X_restore 0 0 31 [(0, .ref 35), (2, .int x2), (3, .int x3)] [] (SHP g X) M R := by
  refine zs_iload_n 3 d_X_restore_31 rfl (List.mem_of_getElem? (i := 2) rfl) ?_
  refine zs_bipush 50 d_X_restore_32 (by decide) ?_
  refine zs_icmp_ge 57 d_X_restore_34 (by decide) (fun c1 => ?_) (fun c1 => ?_)
  · replace h := h.1 c1
    refine zs_iconst 0 d_X_restore_57 (by decide) ?_
    refine zs_istore_n2 3 [1, 2, 0] [(0, .ref 35), (2, .int x2), (3, .int 0)] d_X_restore_58 rfl (by decide) rfl ?_
    exact h
  · replace h := h.2 c1
    refine zs_aload_n 0 d_X_restore_37 rfl (List.mem_of_getElem? (i := 0) rfl) ?_
    refine zs_get d_X_restore_38 gf_X_23 (sh_35 g X) rfl ?_
    refine zs_iload_n 3 d_X_restore_41 rfl (List.mem_of_getElem? (i := 2) rfl) ?_
    refine zs_aload_n 0 d_X_restore_42 rfl (List.mem_of_getElem? (i := 0) rfl) ?_
    refine zs_get d_X_restore_43 gf_X_59 (sh_35 g X) rfl ?_
    refine zs_iload_n 2 d_X_restore_46 rfl (List.mem_of_getElem? (i := 1) rfl) ?_
    refine zs_iload_n 3 d_X_restore_47 rfl (List.mem_of_getElem? (i := 2) rfl) ?_
    refine zs_iadd d_X_restore_48 ?_
    obtain ⟨b2, h⟩ := h
    refine zs_iald d_X_restore_49 (sh_50 g X) b2 ?_
    obtain ⟨b3, h⟩ := h
    refine zs_iast d_X_restore_50 (sh_38 g X) b3 ?_
    refine zs_iinc2 2 (x3 + 1) [1, 2, 0] [(0, .ref 35), (2, .int x2), (3, .int (x3 + 1))] d_X_restore_51 rfl rfl (by decide) rfl ?_
    refine zs_goto 31 d_X_restore_54 (by decide) ?_
    exact h
theorem v_X_restore_59 (g : Nat → Option Nat) (X : List zShp) (M : zMem) (x2 x3 : Int32) (R : zEnd) (h : ((10 ≤ x3) → (zRT m_X_restore 0 0 90 [(0, .ref 35), (2, .int x2), (3, .int 0)] [] (SHP g X) M R)) ∧ ((¬ 10 ≤ x3) → ((vp_in ((x2 + 50) + x3) 168) ∧ ((vp_in x3 10) ∧ (zRT m_X_restore 0 0 59 [(0, .ref 35), (2, .int x2), (3, .int (x3 + 1))] [] (SHP g X) (zms M 39 (Int32.toNatClampNeg x3) (M 50 (Int32.toNatClampNeg ((x2 + 50) + x3)))) R))))) : zRT m_X_restore 0 0 59 [(0, .ref 35), (2, .int x2), (3, .int x3)] [] (SHP g X) M R := by
  refine zs_iload_n 3 d_X_restore_59 rfl (List.mem_of_getElem? (i := 2) rfl) ?_
  refine zs_bipush 10 d_X_restore_60 (by decide) ?_
  refine zs_icmp_ge 88 d_X_restore_62 (by decide) (fun c1 => ?_) (fun c1 => ?_)
  · replace h := h.1 c1
    refine zs_iconst 0 d_X_restore_88 (by decide) ?_
    refine zs_istore_n2 3 [1, 2, 0] [(0, .ref 35), (2, .int x2), (3, .int 0)] d_X_restore_89 rfl (by decide) rfl ?_
    exact h
  · replace h := h.2 c1
    refine zs_aload_n 0 d_X_restore_65 rfl (List.mem_of_getElem? (i := 0) rfl) ?_
    refine zs_get d_X_restore_66 gf_X_26 (sh_35 g X) rfl ?_
    refine zs_iload_n 3 d_X_restore_69 rfl (List.mem_of_getElem? (i := 2) rfl) ?_
    refine zs_aload_n 0 d_X_restore_70 rfl (List.mem_of_getElem? (i := 0) rfl) ?_
    refine zs_get d_X_restore_71 gf_X_59 (sh_35 g X) rfl ?_
    refine zs_iload_n 2 d_X_restore_74 rfl (List.mem_of_getElem? (i := 1) rfl) ?_
    refine zs_bipush 50 d_X_restore_75 (by decide) ?_
    refine zs_iadd d_X_restore_77 ?_
    refine zs_iload_n 3 d_X_restore_78 rfl (List.mem_of_getElem? (i := 2) rfl) ?_
    refine zs_iadd d_X_restore_79 ?_
    obtain ⟨b2, h⟩ := h
    refine zs_iald d_X_restore_80 (sh_50 g X) b2 ?_
    obtain ⟨b3, h⟩ := h
    refine zs_iast d_X_restore_81 (sh_39 g X) b3 ?_
    refine zs_iinc2 2 (x3 + 1) [1, 2, 0] [(0, .ref 35), (2, .int x2), (3, .int (x3 + 1))] d_X_restore_82 rfl rfl (by decide) rfl ?_
    refine zs_goto 59 d_X_restore_85 (by decide) ?_
    exact h
theorem v_X_restore_90 (g : Nat → Option Nat) (X : List zShp) (M : zMem) (x2 x3 : Int32) (R : zEnd) (h : ((12 ≤ x3) → (zRT m_X_restore 0 0 121 [(0, .ref 35), (2, .int x2), (3, .int 0)] [] (SHP g X) M R)) ∧ ((¬ 12 ≤ x3) → ((vp_in ((x2 + 60) + x3) 168) ∧ ((vp_in x3 12) ∧ (zRT m_X_restore 0 0 90 [(0, .ref 35), (2, .int x2), (3, .int (x3 + 1))] [] (SHP g X) (zms M 40 (Int32.toNatClampNeg x3) (M 50 (Int32.toNatClampNeg ((x2 + 60) + x3)))) R))))) : zRT m_X_restore 0 0 90 [(0, .ref 35), (2, .int x2), (3, .int x3)] [] (SHP g X) M R := by
  refine zs_iload_n 3 d_X_restore_90 rfl (List.mem_of_getElem? (i := 2) rfl) ?_
  refine zs_bipush 12 d_X_restore_91 (by decide) ?_
  refine zs_icmp_ge 119 d_X_restore_93 (by decide) (fun c1 => ?_) (fun c1 => ?_)
  · replace h := h.1 c1
    refine zs_iconst 0 d_X_restore_119 (by decide) ?_
    refine zs_istore_n2 3 [1, 2, 0] [(0, .ref 35), (2, .int x2), (3, .int 0)] d_X_restore_120 rfl (by decide) rfl ?_
    exact h
  · replace h := h.2 c1
    refine zs_aload_n 0 d_X_restore_96 rfl (List.mem_of_getElem? (i := 0) rfl) ?_
    refine zs_get d_X_restore_97 gf_X_29 (sh_35 g X) rfl ?_
    refine zs_iload_n 3 d_X_restore_100 rfl (List.mem_of_getElem? (i := 2) rfl) ?_
    refine zs_aload_n 0 d_X_restore_101 rfl (List.mem_of_getElem? (i := 0) rfl) ?_
    refine zs_get d_X_restore_102 gf_X_59 (sh_35 g X) rfl ?_
    refine zs_iload_n 2 d_X_restore_105 rfl (List.mem_of_getElem? (i := 1) rfl) ?_
    refine zs_bipush 60 d_X_restore_106 (by decide) ?_
    refine zs_iadd d_X_restore_108 ?_
    refine zs_iload_n 3 d_X_restore_109 rfl (List.mem_of_getElem? (i := 2) rfl) ?_
    refine zs_iadd d_X_restore_110 ?_
    obtain ⟨b2, h⟩ := h
    refine zs_iald d_X_restore_111 (sh_50 g X) b2 ?_
    obtain ⟨b3, h⟩ := h
    refine zs_iast d_X_restore_112 (sh_40 g X) b3 ?_
    refine zs_iinc2 2 (x3 + 1) [1, 2, 0] [(0, .ref 35), (2, .int x2), (3, .int (x3 + 1))] d_X_restore_113 rfl rfl (by decide) rfl ?_
    refine zs_goto 90 d_X_restore_116 (by decide) ?_
    exact h
theorem v_X_restore_121 (g : Nat → Option Nat) (X : List zShp) (M : zMem) (x2 x3 : Int32) (R : zEnd) (h : ((6 ≤ x3) → ((vp_in (x2 + 78) 168) ∧ ((vp_in (x2 + 79) 168) ∧ ((vp_in (x2 + 80) 168) ∧ ((vp_in (x2 + 81) 168) ∧ ((vp_in (x2 + 82) 168) ∧ (R (some (.int 1)) (SHP g X) (zms (zms (zms (zms (zms M 35 6 (M 50 (Int32.toNatClampNeg (x2 + 78)))) 35 9 (M 50 (Int32.toNatClampNeg (x2 + 79)))) 35 0 (M 50 (Int32.toNatClampNeg (x2 + 80)))) 35 1 (M 50 (Int32.toNatClampNeg (x2 + 81)))) 35 2 (M 50 (Int32.toNatClampNeg (x2 + 82))))))))))) ∧ ((¬ 6 ≤ x3) → ((vp_in ((x2 + 72) + x3) 168) ∧ ((vp_in x3 6) ∧ (zRT m_X_restore 0 0 121 [(0, .ref 35), (2, .int x2), (3, .int (x3 + 1))] [] (SHP g X) (zms M 36 (Int32.toNatClampNeg x3) (M 50 (Int32.toNatClampNeg ((x2 + 72) + x3)))) R))))) : zRT m_X_restore 0 0 121 [(0, .ref 35), (2, .int x2), (3, .int x3)] [] (SHP g X) M R := by
  refine zs_iload_n 3 d_X_restore_121 rfl (List.mem_of_getElem? (i := 2) rfl) ?_
  refine zs_bipush 6 d_X_restore_122 (by decide) ?_
  refine zs_icmp_ge 150 d_X_restore_124 (by decide) (fun c1 => ?_) (fun c1 => ?_)
  · replace h := h.1 c1
    refine zs_aload_n 0 d_X_restore_150 rfl (List.mem_of_getElem? (i := 0) rfl) ?_
    refine zs_aload_n 0 d_X_restore_151 rfl (List.mem_of_getElem? (i := 0) rfl) ?_
    refine zs_get d_X_restore_152 gf_X_59 (sh_35 g X) rfl ?_
    refine zs_iload_n 2 d_X_restore_155 rfl (List.mem_of_getElem? (i := 1) rfl) ?_
    refine zs_bipush 78 d_X_restore_156 (by decide) ?_
    refine zs_iadd d_X_restore_158 ?_
    obtain ⟨b2, h⟩ := h
    refine zs_iald d_X_restore_159 (sh_50 g X) b2 ?_
    refine zs_put d_X_restore_160 pf_X_70 (sh_35 g X) rfl rfl rfl ?_
    refine zs_aload_n 0 d_X_restore_163 rfl (List.mem_of_getElem? (i := 0) rfl) ?_
    refine zs_aload_n 0 d_X_restore_164 rfl (List.mem_of_getElem? (i := 0) rfl) ?_
    refine zs_get d_X_restore_165 gf_X_59 (sh_35 g X) rfl ?_
    refine zs_iload_n 2 d_X_restore_168 rfl (List.mem_of_getElem? (i := 1) rfl) ?_
    refine zs_bipush 79 d_X_restore_169 (by decide) ?_
    refine zs_iadd d_X_restore_171 ?_
    obtain ⟨b3, h⟩ := h
    refine zs_iald d_X_restore_172 (sh_50 g X) b3 ?_
    refine zs_put d_X_restore_173 pf_X_80 (sh_35 g X) rfl rfl rfl ?_
    refine zs_aload_n 0 d_X_restore_176 rfl (List.mem_of_getElem? (i := 0) rfl) ?_
    refine zs_aload_n 0 d_X_restore_177 rfl (List.mem_of_getElem? (i := 0) rfl) ?_
    refine zs_get d_X_restore_178 gf_X_59 (sh_35 g X) rfl ?_
    refine zs_iload_n 2 d_X_restore_181 rfl (List.mem_of_getElem? (i := 1) rfl) ?_
    refine zs_bipush 80 d_X_restore_182 (by decide) ?_
    refine zs_iadd d_X_restore_184 ?_
    obtain ⟨b4, h⟩ := h
    refine zs_iald d_X_restore_185 (sh_50 g X) b4 ?_
    refine zs_put d_X_restore_186 pf_X_7 (sh_35 g X) rfl rfl rfl ?_
    refine zs_aload_n 0 d_X_restore_189 rfl (List.mem_of_getElem? (i := 0) rfl) ?_
    refine zs_aload_n 0 d_X_restore_190 rfl (List.mem_of_getElem? (i := 0) rfl) ?_
    refine zs_get d_X_restore_191 gf_X_59 (sh_35 g X) rfl ?_
    refine zs_iload_n 2 d_X_restore_194 rfl (List.mem_of_getElem? (i := 1) rfl) ?_
    refine zs_bipush 81 d_X_restore_195 (by decide) ?_
    refine zs_iadd d_X_restore_197 ?_
    obtain ⟨b5, h⟩ := h
    refine zs_iald d_X_restore_198 (sh_50 g X) b5 ?_
    refine zs_put d_X_restore_199 pf_X_90 (sh_35 g X) rfl rfl rfl ?_
    refine zs_aload_n 0 d_X_restore_202 rfl (List.mem_of_getElem? (i := 0) rfl) ?_
    refine zs_aload_n 0 d_X_restore_203 rfl (List.mem_of_getElem? (i := 0) rfl) ?_
    refine zs_get d_X_restore_204 gf_X_59 (sh_35 g X) rfl ?_
    refine zs_iload_n 2 d_X_restore_207 rfl (List.mem_of_getElem? (i := 1) rfl) ?_
    refine zs_bipush 82 d_X_restore_208 (by decide) ?_
    refine zs_iadd d_X_restore_210 ?_
    obtain ⟨b6, h⟩ := h
    refine zs_iald d_X_restore_211 (sh_50 g X) b6 ?_
    refine zs_put d_X_restore_212 pf_X_13 (sh_35 g X) rfl rfl rfl ?_
    refine zs_iconst 1 d_X_restore_215 (by decide) ?_
    exact zs_iret d_X_restore_216 rfl h
  · replace h := h.2 c1
    refine zs_aload_n 0 d_X_restore_127 rfl (List.mem_of_getElem? (i := 0) rfl) ?_
    refine zs_get d_X_restore_128 gf_X_16 (sh_35 g X) rfl ?_
    refine zs_iload_n 3 d_X_restore_131 rfl (List.mem_of_getElem? (i := 2) rfl) ?_
    refine zs_aload_n 0 d_X_restore_132 rfl (List.mem_of_getElem? (i := 0) rfl) ?_
    refine zs_get d_X_restore_133 gf_X_59 (sh_35 g X) rfl ?_
    refine zs_iload_n 2 d_X_restore_136 rfl (List.mem_of_getElem? (i := 1) rfl) ?_
    refine zs_bipush 72 d_X_restore_137 (by decide) ?_
    refine zs_iadd d_X_restore_139 ?_
    refine zs_iload_n 3 d_X_restore_140 rfl (List.mem_of_getElem? (i := 2) rfl) ?_
    refine zs_iadd d_X_restore_141 ?_
    obtain ⟨b7, h⟩ := h
    refine zs_iald d_X_restore_142 (sh_50 g X) b7 ?_
    obtain ⟨b8, h⟩ := h
    refine zs_iast d_X_restore_143 (sh_36 g X) b8 ?_
    refine zs_iinc2 2 (x3 + 1) [1, 2, 0] [(0, .ref 35), (2, .int x2), (3, .int (x3 + 1))] d_X_restore_144 rfl rfl (by decide) rfl ?_
    refine zs_goto 121 d_X_restore_147 (by decide) ?_
    exact h
theorem ml_restore (hj : kMJ n P F I M) (i : Int32) : zEx m_X_restore 0 0 [.ref 35, .int i] (SHP g X) M (qR g X (fun r M1 => r = (aRes I F i).1 ∧ kMJ n P (aRes I F i).2 I M1 ∧ kOS M M1)) := by
  obtain ⟨h1, h2, h3, h4⟩ := id hj
  refine zEx_of _ (by decide) (by simp [Value.category]) (Nat.le_of_ble_eq_true rfl) rfl (v_X_restore_0 g X M i _ ⟨fun a => ⟨inI_vp.mp a, ?_⟩, fun a => ?_⟩)
  · unfold aRes
    rw [if_pos a]
    obtain ⟨k, hk, ek⟩ := vp_in_of (inI_vp.mp a) (by decide)
    have hcl : Int32.toNatClampNeg i = k := by rw [ek]; exact nI_clamp (by omega)
    obtain ⟨b, hb⟩ : ∃ b, b = 84 * k := ⟨_, rfl⟩
    have eb : (84 : Int32) * i = nI b := by rw [ek, show (84 : Int32) = nI 84 from rfl, pk_mul, hb]
    rw [eb, hcl]
    rcases h4 k hk with ⟨q1, q2⟩ | ⟨G, q1, q2, q3⟩
    · rw [q1, q2]
      exact ⟨fun h => absurd rfl h, fun _ => qR_i ⟨rfl, hj, kOS_rf⟩⟩
    · rw [q1, q2]
      rw [← hb] at q3
      refine ⟨fun _ => ?_, fun h => absurd h (by decide)⟩
      obtain ⟨u1, u2, u3, u4, u5, u6, u7, u8, u9⟩ := q3
      have ad : ∀ c j : Nat, nI b + nI c + nI j = nI (b + c + j) := fun c j => by rw [nI_add, nI_add]
      have ad2 : ∀ c : Nat, nI b + nI c = nI (b + c) := fun c => nI_add b c
      have vi : ∀ c, c < 84 → vp_in (nI (b + c)) 168 := fun c hc => vp_in_nI (by omega) (by decide)
      have L4 : ∀ d j M1, j + d = 6 → kRc M M1 b 50 10 12 j → zRT m_X_restore 0 0 121 [(0, .ref 35), (2, .int (nI b)), (3, .int (nI j))] [] (SHP g X) M1 (qR g X (fun r M1 => r = (aRes2 (some G) F).1 ∧ kMJ n P (aRes2 (some G) F).2 I M1 ∧ kOS M M1)) := by
        intro d
        induction d with
        | zero =>
          intro j M1 hd hc
          have e : j = 6 := by omega
          subst e
          refine v_X_restore_121 g X _ _ _ _ ⟨fun _ => ?_, fun h => absurd (nI_le (a := 6) (by omega) (by omega)) h⟩
          rw [show (78 : Int32) = nI 78 from rfl, show (79 : Int32) = nI 79 from rfl, show (80 : Int32) = nI 80 from rfl, show (81 : Int32) = nI 81 from rfl, show (82 : Int32) = nI 82 from rfl, ad2, ad2, ad2, ad2, ad2]
          refine ⟨vi 78 (by omega), vi 79 (by omega), vi 80 (by omega), vi 81 (by omega), vi 82 (by omega), ?_⟩
          rw [nI_clamp (by omega), nI_clamp (by omega), nI_clamp (by omega), nI_clamp (by omega), nI_clamp (by omega)]
          obtain ⟨i1, i2, i3, i4, i5⟩ := hc
          have e50 : M1 50 = M 50 := i1 50 (by decide)
          rw [e50, u5, u6, u7, u8, u9]
          refine qR_i ⟨rfl, ⟨?_, ?_, ⟨fun j q => ?_, fun j q => ?_, fun j q => ?_, fun j q => ?_, rfl, rfl, rfl, rfl, rfl⟩, ?_⟩, ?_⟩
          · exact (congrFun (i1 35 (by decide)) 4).trans h1
          · intro j hj2
            exact (congrFun (i1 37 (by decide)) j).trans (h2 j hj2)
          · exact (i2 j q).trans (u1 j q)
          · exact (i3 j q).trans (u2 j q)
          · exact (i4 j q).trans (u3 j q)
          · exact (i5 j q).trans (u4 j q)
          · intro y hy
            have e51 : M1 51 = M 51 := i1 51 (by decide)
            have hz := h4 y hy
            unfold kMI at hz ⊢
            rw [← e50, ← e51] at hz
            exact hz
          · exact kOS_ag (l := [35, 36, 38, 39, 40]) ((((((i1.mo (by decide)).st (by decide)).st (by decide)).st (by decide)).st (by decide)).st (by decide)) (by decide)
        | succ d ih =>
          intro j M1 hd hc
          refine v_X_restore_121 g X _ _ _ _ ⟨fun h => absurd h (nI_ge (b := 6) (by omega) (by omega)), fun _ => ?_⟩
          rw [show (72 : Int32) = nI 72 from rfl, ad, nI_clamp (by omega), nI_clamp (by omega), nI_1]
          obtain ⟨i1, i2, i3, i4, i5⟩ := hc
          exact ⟨vp_in_nI (by omega) (by decide), vp_in_nI (by omega) (by decide), ih (j + 1) _ (by omega) ⟨i1.st (by decide), i2, i3, i4, kUp (f := fun j => M 50 (b + 72 + j)) i5 (congrFun (i1 50 (by decide)) _)⟩⟩
      have L3 : ∀ d j M1, j + d = 12 → kRc M M1 b 50 10 j 0 → zRT m_X_restore 0 0 90 [(0, .ref 35), (2, .int (nI b)), (3, .int (nI j))] [] (SHP g X) M1 (qR g X (fun r M1 => r = (aRes2 (some G) F).1 ∧ kMJ n P (aRes2 (some G) F).2 I M1 ∧ kOS M M1)) := by
        intro d
        induction d with
        | zero =>
          intro j M1 hd hc
          have e : j = 12 := by omega
          subst e
          exact v_X_restore_90 g X _ _ _ _ ⟨fun _ => L4 6 0 M1 rfl hc, fun h => absurd (nI_le (a := 12) (by omega) (by omega)) h⟩
        | succ d ih =>
          intro j M1 hd hc
          refine v_X_restore_90 g X _ _ _ _ ⟨fun h => absurd h (nI_ge (b := 12) (by omega) (by omega)), fun _ => ?_⟩
          rw [show (60 : Int32) = nI 60 from rfl, ad, nI_clamp (by omega), nI_clamp (by omega), nI_1]
          obtain ⟨i1, i2, i3, i4, i5⟩ := hc
          exact ⟨vp_in_nI (by omega) (by decide), vp_in_nI (by omega) (by decide), ih (j + 1) _ (by omega) ⟨i1.st (by decide), i2, i3, kUp (f := fun j => M 50 (b + 60 + j)) i4 (congrFun (i1 50 (by decide)) _), i5⟩⟩
      have L2 : ∀ d j M1, j + d = 10 → kRc M M1 b 50 j 0 0 → zRT m_X_restore 0 0 59 [(0, .ref 35), (2, .int (nI b)), (3, .int (nI j))] [] (SHP g X) M1 (qR g X (fun r M1 => r = (aRes2 (some G) F).1 ∧ kMJ n P (aRes2 (some G) F).2 I M1 ∧ kOS M M1)) := by
        intro d
        induction d with
        | zero =>
          intro j M1 hd hc
          have e : j = 10 := by omega
          subst e
          exact v_X_restore_59 g X _ _ _ _ ⟨fun _ => L3 12 0 M1 rfl hc, fun h => absurd (nI_le (a := 10) (by omega) (by omega)) h⟩
        | succ d ih =>
          intro j M1 hd hc
          refine v_X_restore_59 g X _ _ _ _ ⟨fun h => absurd h (nI_ge (b := 10) (by omega) (by omega)), fun _ => ?_⟩
          rw [show (50 : Int32) = nI 50 from rfl, ad, nI_clamp (by omega), nI_clamp (by omega), nI_1]
          obtain ⟨i1, i2, i3, i4, i5⟩ := hc
          exact ⟨vp_in_nI (by omega) (by decide), vp_in_nI (by omega) (by decide), ih (j + 1) _ (by omega) ⟨i1.st (by decide), i2, kUp (f := fun j => M 50 (b + 50 + j)) i3 (congrFun (i1 50 (by decide)) _), i4, i5⟩⟩
      have L1 : ∀ d j M1, j + d = 50 → kRc M M1 b j 0 0 0 → zRT m_X_restore 0 0 31 [(0, .ref 35), (2, .int (nI b)), (3, .int (nI j))] [] (SHP g X) M1 (qR g X (fun r M1 => r = (aRes2 (some G) F).1 ∧ kMJ n P (aRes2 (some G) F).2 I M1 ∧ kOS M M1)) := by
        intro d
        induction d with
        | zero =>
          intro j M1 hd hc
          have e : j = 50 := by omega
          subst e
          exact v_X_restore_31 g X _ _ _ _ ⟨fun _ => L2 10 0 M1 rfl hc, fun h => absurd (nI_le (a := 50) (by omega) (by omega)) h⟩
        | succ d ih =>
          intro j M1 hd hc
          refine v_X_restore_31 g X _ _ _ _ ⟨fun h => absurd h (nI_ge (b := 50) (by omega) (by omega)), fun _ => ?_⟩
          rw [nI_add, nI_clamp (by omega), nI_clamp (by omega), nI_1]
          obtain ⟨i1, i2, i3, i4, i5⟩ := hc
          exact ⟨vp_in_nI (by omega) (by decide), vp_in_nI (by omega) (by decide), ih (j + 1) _ (by omega) ⟨i1.st (by decide), kUp (f := fun j => M 50 (b + j)) i2 (congrFun (i1 50 (by decide)) _), i3, i4, i5⟩⟩
      exact L1 50 0 M rfl ⟨kAg.rf, fun j hj => by omega, fun j hj => by omega, fun j hj => by omega, fun j hj => by omega⟩
  · unfold aRes; rw [a]; exact qR_i ⟨rfl, hj, kOS_rf⟩
end zX2
