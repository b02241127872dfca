/-! what the asking methods leave as it was -/
abbrev kCS : List Nat := [3, 4, 5, 6, 7, 8, 9, 23, 24, 25, 26, 28, 29, 30, 32, 33, 34]
theorem kCp_ag {l : List Nat} {M M1 : zMem} {q o n : Nat} (h : kAg l M M1) (hq : q ∈ l) : kAg l M (kCp M1 q o n) := h.sr hq
theorem kLay_ag (M : zMem) : kAg kCS M (kLay M) := kCp_ag (kAg.rf.sr (by decide)) (by decide)
theorem kTmn_ag (M : zMem) (x1 x2 x3 : Int32) : ∀ n k, kAg kCS M (kTmn M x1 x2 x3 k n).2 := by
  intro n
  induction n with
  | zero => intro k; exact kAg.rf
  | succ n ih =>
    intro k
    simp only [kTmn]
    exact kP_ite (P := fun x : Int32 × zMem => kAg kCS M x.2) (fun _ => kP_ite (P := fun x : Int32 × zMem => kAg kCS M x.2) (fun _ => ih (k + 1)) (fun _ => kP_ite (P := fun x : Int32 × zMem => kAg kCS M x.2) (fun _ => kAg.rf.st (by decide)) (fun _ => ih (k + 1)))) (fun _ => ih (k + 1))
theorem kTm_ag (M : zMem) (x1 x2 : Int32) : kAg kCS M (kTm M x1 x2).2 := by
  unfold kTm
  exact kTmn_ag M x1 x2 _ 10 0
theorem kServen_ag : ∀ n k still M, kAg kCS M (kServen k n still M) := by
  intro n
  induction n with
  | zero => intro k still M; exact kAg.rf
  | succ n ih =>
    intro k still M
    simp only [kServen]
    exact ((kTm_ag M _ _).st (by decide)).tr (ih _ _ _)
theorem kServe_ag (M : zMem) : kAg kCS M (kServe M) := by
  unfold kServe
  exact kServen_ag 6 0 _ M
theorem kEatn_ag (M : zMem) (m : Int32) : ∀ n k, kAg kCS M (kEatn M m k n).2 := by
  intro n
  induction n with
  | zero => intro k; exact kAg.rf
  | succ n ih =>
    intro k
    simp only [kEatn]
    exact kP_ite (P := fun x : Bool × zMem => kAg kCS M x.2) (fun _ => kAg.rf.st (by decide)) (fun _ => ih (k + 1))
theorem kEat_ag (M : zMem) (m : Int32) : kAg kCS M (kEat M m).2 := by
  unfold kEat
  exact kEatn_ag M m 10 0
theorem kLvn_ag : ∀ n x e M, kAg kCS M (kLvn n x e M).2 := by
  intro n
  induction n with
  | zero => intro x e M; exact kAg.rf
  | succ n ih =>
    intro x e M
    simp only [kLvn]
    exact (kEat_ag M _).tr (ih _ _ _)
theorem kLive_ag (M : zMem) (s n : Int32) : kAg kCS M (kLive M s n).2 := by
  unfold kLive
  exact kLvn_ag _ _ _ M
theorem kSUn_ag (s : Int32) : ∀ n k M, kAg kCS M (kSUn s k n M) := by
  intro n
  induction n with
  | zero => intro k M; exact kAg.rf
  | succ n ih =>
    intro k M
    simp only [kSUn]
    exact (kP_ite (P := kAg kCS M) (fun _ => kP_ite (P := kAg kCS M) (fun _ => kAg.rf.st (by decide)) (fun _ => kAg.rf)) (fun _ => kAg.rf)).tr (ih _ _)
theorem kChn_ag : ∀ n k x M, kAg kCS M (kChn k n x M) := by
  intro n
  induction n with
  | zero => intro k x M; exact kAg.rf
  | succ n ih =>
    intro k x M
    simp only [kChn]
    exact kP_ite (P := kAg kCS M) (fun _ => kP_ite (P := kAg kCS M) (fun _ => ((kAg.rf.st (by decide)).st (by decide)).tr (ih _ _ _)) (fun _ => ih _ _ _)) (fun _ => ih _ _ _)
theorem kArn_ag : ∀ n k x M, kAg kCS M (kArn k n x M).2 := by
  intro n
  induction n with
  | zero => intro k x M; exact (kSUn_ag x _ _ M).tr (kChn_ag 6 0 x _)
  | succ n ih =>
    intro k x M
    simp only [kArn]
    exact ((kAg.rf.st (by decide)).st (by decide)).tr (ih _ _ _)
theorem kArr_ag (M : zMem) : kAg kCS M (kArr M).2 := by
  unfold kArr
  exact kArn_ag 6 0 0 M
theorem kRdn_ag : ∀ n k M, kAg kRS M (kRdn k n M).2 := by
  intro n
  induction n with
  | zero => intro k M; exact kAg.rf
  | succ n ih =>
    intro k M
    simp only [kRdn]
    exact kP_ite (P := fun x : Int32 × zMem => kAg kRS M x.2) (fun _ => (kTk_ag M _).tr (ih _ _)) (fun _ => kTk_ag M _)
theorem kRd0_ag (M : zMem) : kAg kRS M (kRd0 M) := ((kClr_ag (l := kRS) _ (kAg.rf.st (by decide)) (by decide)).st (by decide)).st (by decide)
theorem kRd_ag (M : zMem) : kAg kRS M (kRd M).2 := (kRd0_ag M).tr (kRdn_ag _ 0 _)
theorem kRS_CS : ∀ p ∈ kRS, p ∈ kCS := by decide
