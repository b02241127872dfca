/-- the words that keep, and those of the nest -/
def zgt : List Cond := lw_tbl.filter goodWord
def zisN (w : Cond) : Bool := match w with
  | .methodLinkNest _ _ _ _ => true
  | _ => false
def zns : List Cond := lw_tbl.filter zisN
def zT_Bread : u_T := fun k => match k with
  | 0 => ("OthersHands$Bread", "lawful", "[I", true)
  | 1 => ("OthersHands$Bread", "left", "[I", true)
  | _ => ("OthersHands$Bread", "meal", "[I", true)
def zt_Bread : Nat → FieldType := fun k => match k with
  | 0 => .array .int
  | 1 => .array .int
  | _ => .array .int
theorem zn_Bread : ∀ a, a < 3 → ∀ b, b < 3 → a ≠ b → (zT_Bread a).2.1 ≠ (zT_Bread b).2.1 := by decide +kernel
theorem zo_Bread : ∀ k, k < 3 → parseFieldDescriptor (zT_Bread k).2.2.1 = some (zt_Bread k) := by decide +kernel
theorem zi_Bread : ∀ w ∈ u_ws "OthersHands$Bread" zT_Bread 3, w ∈ zgt := by decide +kernel
def zT_Filling : u_T := fun k => match k with
  | 0 => ("OthersHands$Filling", "making", "[I", true)
  | 1 => ("OthersHands$Filling", "choices", "[I", true)
  | 2 => ("OthersHands$Filling", "asks", "I", false)
  | _ => ("OthersHands$Filling", "toldHandsHold", "Z", false)
def zt_Filling : Nat → FieldType := fun k => match k with
  | 0 => .array .int
  | 1 => .array .int
  | 2 => .int
  | _ => .boolean
theorem zn_Filling : ∀ a, a < 4 → ∀ b, b < 4 → a ≠ b → (zT_Filling a).2.1 ≠ (zT_Filling b).2.1 := by decide +kernel
theorem zo_Filling : ∀ k, k < 4 → parseFieldDescriptor (zT_Filling k).2.2.1 = some (zt_Filling k) := by decide +kernel
theorem zi_Filling : ∀ w ∈ u_ws "OthersHands$Filling" zT_Filling 4, w ∈ zgt := by decide +kernel
def zT_Matchmaker : u_T := fun k => match k with
  | 0 => ("OthersHands$Matchmaker", "taint", "[I", true)
  | 1 => ("OthersHands$Matchmaker", "least", "[I", true)
  | _ => ("OthersHands$Matchmaker", "plan", "[I", true)
def zt_Matchmaker : Nat → FieldType := fun k => match k with
  | 0 => .array .int
  | 1 => .array .int
  | _ => .array .int
theorem zn_Matchmaker : ∀ a, a < 3 → ∀ b, b < 3 → a ≠ b → (zT_Matchmaker a).2.1 ≠ (zT_Matchmaker b).2.1 := by decide +kernel
theorem zo_Matchmaker : ∀ k, k < 3 → parseFieldDescriptor (zT_Matchmaker k).2.2.1 = some (zt_Matchmaker k) := by decide +kernel
theorem zi_Matchmaker : ∀ w ∈ u_ws "OthersHands$Matchmaker" zT_Matchmaker 3, w ∈ zgt := by decide +kernel
def zT_Pad : u_T := fun k => match k with
  | 0 => ("OthersHands$Pad", "signs", "[I", true)
  | _ => ("OthersHands$Pad", "count", "I", false)
def zt_Pad : Nat → FieldType := fun k => match k with
  | 0 => .array .int
  | _ => .int
theorem zn_Pad : ∀ a, a < 2 → ∀ b, b < 2 → a ≠ b → (zT_Pad a).2.1 ≠ (zT_Pad b).2.1 := by decide +kernel
theorem zo_Pad : ∀ k, k < 2 → parseFieldDescriptor (zT_Pad k).2.2.1 = some (zt_Pad k) := by decide +kernel
theorem zi_Pad : ∀ w ∈ u_ws "OthersHands$Pad" zT_Pad 2, w ∈ zgt := by decide +kernel
def zT_Pages : u_T := fun k => match k with
  | 0 => ("OthersHands$Pages", "hands", "[I", true)
  | 1 => ("OthersHands$Pages", "first", "[I", true)
  | 2 => ("OthersHands$Pages", "second", "[I", true)
  | 3 => ("OthersHands$Pages", "tool", "[I", true)
  | 4 => ("OthersHands$Pages", "asked", "[I", true)
  | _ => ("OthersHands$Pages", "count", "I", false)
def zt_Pages : Nat → FieldType := fun k => match k with
  | 0 => .array .int
  | 1 => .array .int
  | 2 => .array .int
  | 3 => .array .int
  | 4 => .array .int
  | _ => .int
theorem zn_Pages : ∀ a, a < 6 → ∀ b, b < 6 → a ≠ b → (zT_Pages a).2.1 ≠ (zT_Pages b).2.1 := by decide +kernel
theorem zo_Pages : ∀ k, k < 6 → parseFieldDescriptor (zT_Pages k).2.2.1 = some (zt_Pages k) := by decide +kernel
theorem zi_Pages : ∀ w ∈ u_ws "OthersHands$Pages" zT_Pages 6, w ∈ zgt := by decide +kernel
def zT_Reader : u_T := fun k => match k with
  | 0 => ("OthersHands$Reader", "draft", "LOthersHands$Pages;", true)
  | 1 => ("OthersHands$Reader", "stage", "I", false)
  | _ => ("OthersHands$Reader", "asks", "I", false)
def zt_Reader : Nat → FieldType := fun k => match k with
  | 0 => .object "OthersHands$Pages"
  | 1 => .int
  | _ => .int
theorem zn_Reader : ∀ a, a < 3 → ∀ b, b < 3 → a ≠ b → (zT_Reader a).2.1 ≠ (zT_Reader b).2.1 := by decide +kernel
theorem zo_Reader : ∀ k, k < 3 → parseFieldDescriptor (zT_Reader k).2.2.1 = some (zt_Reader k) := by decide +kernel
theorem zi_Reader : ∀ w ∈ u_ws "OthersHands$Reader" zT_Reader 3, w ∈ zgt := by decide +kernel
def zT_Shares : u_T := fun k => match k with
  | _ => ("OthersHands$Shares", "parts", "[I", true)
def zt_Shares : Nat → FieldType := fun k => match k with
  | _ => .array .int
theorem zn_Shares : ∀ a, a < 1 → ∀ b, b < 1 → a ≠ b → (zT_Shares a).2.1 ≠ (zT_Shares b).2.1 := by decide +kernel
theorem zo_Shares : ∀ k, k < 1 → parseFieldDescriptor (zT_Shares k).2.2.1 = some (zt_Shares k) := by decide +kernel
theorem zi_Shares : ∀ w ∈ u_ws "OthersHands$Shares" zT_Shares 1, w ∈ zgt := by decide +kernel
def zT_Town : u_T := fun k => match k with
  | 0 => ("OthersHands$Town", "pages", "LOthersHands$Pages;", true)
  | 1 => ("OthersHands$Town", "partner", "[I", true)
  | 2 => ("OthersHands$Town", "stock", "[I", true)
  | 3 => ("OthersHands$Town", "seer", "[I", true)
  | 4 => ("OthersHands$Town", "had", "[I", true)
  | 5 => ("OthersHands$Town", "sights", "I", false)
  | 6 => ("OthersHands$Town", "depth", "I", false)
  | 7 => ("OthersHands$Town", "tools", "I", false)
  | _ => ("OthersHands$Town", "tenths", "I", false)
def zt_Town : Nat → FieldType := fun k => match k with
  | 0 => .object "OthersHands$Pages"
  | 1 => .array .int
  | 2 => .array .int
  | 3 => .array .int
  | 4 => .array .int
  | 5 => .int
  | 6 => .int
  | 7 => .int
  | _ => .int
theorem zn_Town : ∀ a, a < 9 → ∀ b, b < 9 → a ≠ b → (zT_Town a).2.1 ≠ (zT_Town b).2.1 := by decide +kernel
theorem zo_Town : ∀ k, k < 9 → parseFieldDescriptor (zT_Town k).2.2.1 = some (zt_Town k) := by decide +kernel
theorem zi_Town : ∀ w ∈ u_ws "OthersHands$Town" zT_Town 9, w ∈ zgt := by decide +kernel
def zT_O : u_T := fun k => match k with
  | 0 => ("OthersHands", "pad", "LOthersHands$Pad;", true)
  | 1 => ("OthersHands", "reader", "LOthersHands$Reader;", true)
  | 2 => ("OthersHands", "town", "LOthersHands$Town;", true)
  | 3 => ("OthersHands", "images", "[LOthersHands$Town;", true)
  | 4 => ("OthersHands", "shares", "LOthersHands$Shares;", true)
  | 5 => ("OthersHands", "filling", "LOthersHands$Filling;", true)
  | 6 => ("OthersHands", "bread", "LOthersHands$Bread;", true)
  | _ => ("OthersHands", "matchmaker", "LOthersHands$Matchmaker;", true)
def zt_O : Nat → FieldType := fun k => match k with
  | 0 => .object "OthersHands$Pad"
  | 1 => .object "OthersHands$Reader"
  | 2 => .object "OthersHands$Town"
  | 3 => .array (.object "OthersHands$Town")
  | 4 => .object "OthersHands$Shares"
  | 5 => .object "OthersHands$Filling"
  | 6 => .object "OthersHands$Bread"
  | _ => .object "OthersHands$Matchmaker"
theorem zn_O : ∀ a, a < 8 → ∀ b, b < 8 → a ≠ b → (zT_O a).2.1 ≠ (zT_O b).2.1 := by decide +kernel
theorem zo_O : ∀ k, k < 8 → parseFieldDescriptor (zT_O k).2.2.1 = some (zt_O k) := by decide +kernel
theorem zi_O : ∀ w ∈ u_ws "OthersHands" zT_O 8, w ∈ zgt := by decide +kernel
def zT_X : u_T := fun k => match k with
  | 0 => ("OthersHandsModel", "depth", "I", false)
  | 1 => ("OthersHandsModel", "tools", "I", false)
  | 2 => ("OthersHandsModel", "tenths", "I", false)
  | 3 => ("OthersHandsModel", "partner", "[I", true)
  | 4 => ("OthersHandsModel", "signs", "I", false)
  | 5 => ("OthersHandsModel", "pad", "[I", true)
  | 6 => ("OthersHandsModel", "things", "I", false)
  | 7 => ("OthersHandsModel", "made", "[I", true)
  | 8 => ("OthersHandsModel", "loaf", "[I", true)
  | 9 => ("OthersHandsModel", "sights", "I", false)
  | 10 => ("OthersHandsModel", "sight", "[I", true)
  | 11 => ("OthersHandsModel", "hands", "[I", true)
  | 12 => ("OthersHandsModel", "steps", "[I", true)
  | 13 => ("OthersHandsModel", "shares", "[I", true)
  | 14 => ("OthersHandsModel", "mays", "[I", true)
  | 15 => ("OthersHandsModel", "eats", "[I", true)
  | 16 => ("OthersHandsModel", "best", "[I", true)
  | 17 => ("OthersHandsModel", "left", "[I", true)
  | 18 => ("OthersHandsModel", "kept", "[I", true)
  | 19 => ("OthersHandsModel", "plan", "[I", true)
  | 20 => ("OthersHandsModel", "image", "[I", true)
  | _ => ("OthersHandsModel", "isKept", "[Z", true)
def zt_X : Nat → FieldType := fun k => match k with
  | 0 => .int
  | 1 => .int
  | 2 => .int
  | 3 => .array .int
  | 4 => .int
  | 5 => .array .int
  | 6 => .int
  | 7 => .array .int
  | 8 => .array .int
  | 9 => .int
  | 10 => .array .int
  | 11 => .array .int
  | 12 => .array .int
  | 13 => .array .int
  | 14 => .array .int
  | 15 => .array .int
  | 16 => .array .int
  | 17 => .array .int
  | 18 => .array .int
  | 19 => .array .int
  | 20 => .array .int
  | _ => .array .boolean
theorem zn_X : ∀ a, a < 22 → ∀ b, b < 22 → a ≠ b → (zT_X a).2.1 ≠ (zT_X b).2.1 := by decide +kernel
theorem zo_X : ∀ k, k < 22 → parseFieldDescriptor (zT_X k).2.2.1 = some (zt_X k) := by decide +kernel
theorem zi_X : ∀ w ∈ u_ws "OthersHandsModel" zT_X 22, w ∈ zgt := by decide +kernel
abbrev zCL : List vw_C := [("OthersHands$Bread", zT_Bread, 3), ("OthersHands$Filling", zT_Filling, 4), ("OthersHands$Matchmaker", zT_Matchmaker, 3), ("OthersHands$Pad", zT_Pad, 2), ("OthersHands$Pages", zT_Pages, 6), ("OthersHands$Reader", zT_Reader, 3), ("OthersHands$Shares", zT_Shares, 1), ("OthersHands$Town", zT_Town, 9), ("OthersHands", zT_O, 8), ("OthersHandsModel", zT_X, 22)]
