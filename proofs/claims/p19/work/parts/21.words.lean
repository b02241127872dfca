/-! words of the contracts -/
def bI (b : Bool) : Int32 := if b then 1 else 0
theorem bI_0 {b : Bool} (h : bI b = 0) : b = false := by cases b with | false => rfl | true => exact absurd h (by decide)
theorem bI_1 {b : Bool} (h : ¬ bI b = 0) : b = true := by cases b with | true => rfl | false => exact absurd rfl h
theorem bI_nar (b : Bool) : narrow .boolean (.int (bI b)) = .int (bI b) := by cases b <;> rfl
/-- an int answer and a heap; an answer of a kind; no answer -/
def qF (g : Nat → Option Nat) (X : List zShp) (r : Int32) (M2 : zMem) : zEnd := fun v sh1 M1 => some (.int r) = v ∧ SHP g X = sh1 ∧ M2 = M1
def qV (g : Nat → Option Nat) (X : List zShp) (M2 : zMem) : zEnd := fun v sh1 M1 => none = v ∧ SHP g X = sh1 ∧ M2 = M1
def qR (g : Nat → Option Nat) (X : List zShp) (Q : Int32 → zMem → Prop) : zEnd := fun v sh1 M1 => ∃ r : Int32, some (.int r) = v ∧ SHP g X = sh1 ∧ Q r M1
def qW (g : Nat → Option Nat) (X : List zShp) (Q : zMem → Prop) : zEnd := fun v sh1 M1 => none = v ∧ SHP g X = sh1 ∧ Q M1
theorem qF_i {g : Nat → Option Nat} {X : List zShp} {r r2 : Int32} {M M2 : zMem} (h : r = r2) (hM : M2 = M) : qF g X r M2 (some (.int r2)) (SHP g X) M := ⟨by rw [h], rfl, hM⟩
theorem qR_i {g : Nat → Option Nat} {X : List zShp} {Q : Int32 → zMem → Prop} {r : Int32} {M : zMem} (h : Q r M) : qR g X Q (some (.int r)) (SHP g X) M := ⟨r, rfl, rfl, h⟩
def hb (a k : Int32) : Bool := !decide ((a >>> (k &&& 31)) &&& 1 = 0)
def isM (m : Int32) : Bool := !decide (m < 0) && !decide (6 ≤ m)
def inI (v lo hi : Int32) : Bool := !decide (v < lo) && !decide (hi < v)
def bO (x : Int32) : Int32 := if x = -6 then 0 else 1 <<< (x &&& 31)
def ahd (x k : Int32) : Bool := !decide (x < 0) && !decide (k ≤ x)
def mx (x y : Int32) : Int32 := if x < y then y else x
def mO (w : Int32) : Int32 := if w = 0 then 9 else if w = 1 then 1 else 10
def bc1 (x : Int32) : Int32 := x - (((Int32.toUInt32 x >>> (Int32.toUInt32 1 &&& Int32.toUInt32 31)).toInt32) &&& 1431655765)
def bc2 (x : Int32) : Int32 := (x &&& 858993459) + (((Int32.toUInt32 x >>> (Int32.toUInt32 2 &&& Int32.toUInt32 31)).toInt32) &&& 858993459)
def bc3 (x : Int32) : Int32 := (x + ((Int32.toUInt32 x >>> (Int32.toUInt32 4 &&& Int32.toUInt32 31)).toInt32)) &&& 252645135
def bc4 (x : Int32) : Int32 := x + ((Int32.toUInt32 x >>> (Int32.toUInt32 8 &&& Int32.toUInt32 31)).toInt32)
def bc5 (x : Int32) : Int32 := x + ((Int32.toUInt32 x >>> (Int32.toUInt32 16 &&& Int32.toUInt32 31)).toInt32)
def bc (x : Int32) : Int32 := bc5 (bc4 (bc3 (bc2 (bc1 x)))) &&& 63
def bt6n (x : Int32) : Nat → Int32
  | 0 => 0
  | n + 1 => bt6n x n + ((x >>> (nI n &&& 31)) &&& 1)
def bt6 (x : Int32) : Int32 := bt6n x 6
