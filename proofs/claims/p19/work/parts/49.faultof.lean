/-! the reference: the fault of a book -/
section zX9
variable (g : Nat → Option Nat) (X : List zShp) (M : zMem)
theorem bFaultLoop (n : Nat) (hp : mPd M n) (Q : zEnd) : ∀ d k (A : bS) (x : Int32), k + d = n → bSz A → bLs A x → (∀ r, bFo (M 37) n k d A r → Q (some (.int r)) (SHP g X) M) → zRT m_X_faultOf 0 0 16 [(0, .ref 35), (1, .int (nI A.1)), (2, .int (nI A.2.1)), (3, .int x), (4, .int (nI A.2.2.2.1)), (5, .int (nI A.2.2.2.2.1)), (6, .int (nI k))] [] (SHP g X) M Q := by
  intro d
  induction d with
  | zero =>
    intro k A x hk hz hl hQ
    have h60 := hp.1
    have hq := hz.1
    refine v_X_faultOf_16 g X _ _ _ _ _ _ _ _ ⟨fun _ => ⟨fun h => hQ _ (Or.inr ⟨?_, fun B e => ?_⟩), fun h => hQ _ (Or.inl ⟨by decide, A, rfl, ?_⟩)⟩, fun h => absurd (by rw [hp.2.1]; exact nI_le (by omega) (by omega)) h⟩
    · rw [hp.2.1]; exact nI_pos (by omega)
    · cases e
      exact fun q => h (by rw [q]; rfl)
    · exact (nI_eq (b := 0) (by omega) (by omega)).mp h
  | succ d ih =>
    intro k A x hk hz hl hQ
    have h60 := hp.1
    refine bFaultStep g X M n hp Q k (by omega) A x hz hl (fun e => hQ _ (Or.inr ⟨nI_pos (by omega), fun B h => ?_⟩)) (fun B y e hB hy => ih (k + 1) B y (by omega) hB hy (fun r hr => hQ r ?_))
    · simp only [bRun, e] at h
      cases h
    · unfold bFo at hr ⊢
      simp only [bRun, e]
      exact hr
end zX9
