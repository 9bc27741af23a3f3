def RX0 : String := "Treequery$Bits"
def TX0 : u_T := fun k => match k with
  | _ => ("", "", "", false)
def tyX0 : Nat → FieldType := fun k => match k with
  | _ => .int
theorem nmX0 : ∀ a, a < 0 → ∀ b, b < 0 → a ≠ b → (TX0 a).2.1 ≠ (TX0 b).2.1 := by decide +kernel
theorem tyX0_ok : ∀ k, k < 0 → parseFieldDescriptor (TX0 k).2.2.1 = some (tyX0 k) := by decide +kernel
def RX1 : String := "Treequery$Edits"
def TX1 : u_T := fun k => match k with
  | 0 => ("Treequery$Edits", "nodes", "LTreequery$Row;", true)
  | 1 => ("Treequery$Edits", "lefts", "LTreequery$Row;", true)
  | 2 => ("Treequery$Edits", "otherNodes", "LTreequery$Row;", true)
  | 3 => ("Treequery$Edits", "otherLefts", "LTreequery$Row;", true)
  | 4 => ("Treequery$Edits", "trees", "LTreequery$Row;", true)
  | 5 => ("Treequery$Edits", "forests", "LTreequery$Row;", true)
  | _ => ("Treequery$Edits", "answers", "LTreequery$Row;", true)
def tyX1 : Nat → FieldType := fun k => match k with
  | 0 => .object "Treequery$Row"
  | 1 => .object "Treequery$Row"
  | 2 => .object "Treequery$Row"
  | 3 => .object "Treequery$Row"
  | 4 => .object "Treequery$Row"
  | 5 => .object "Treequery$Row"
  | _ => .object "Treequery$Row"
theorem nmX1 : ∀ a, a < 7 → ∀ b, b < 7 → a ≠ b → (TX1 a).2.1 ≠ (TX1 b).2.1 := by decide +kernel
theorem tyX1_ok : ∀ k, k < 7 → parseFieldDescriptor (TX1 k).2.2.1 = some (tyX1 k) := by decide +kernel
def RX2 : String := "Treequery$Finder"
def TX2 : u_T := fun k => match k with
  | 0 => ("Treequery$Finder", "tree", "LTreequery$Tree;", true)
  | 1 => ("Treequery$Finder", "layout", "LTreequery$Layout;", true)
  | 2 => ("Treequery$Finder", "paths", "LTreequery$Paths;", true)
  | 3 => ("Treequery$Finder", "tables", "LTreequery$Sets;", true)
  | 4 => ("Treequery$Finder", "leaps", "LTreequery$Sets;", true)
  | 5 => ("Treequery$Finder", "values", "LTreequery$Row;", true)
  | 6 => ("Treequery$Finder", "seen", "J", false)
  | _ => ("Treequery$Finder", "ready", "I", false)
def tyX2 : Nat → FieldType := fun k => match k with
  | 0 => .object "Treequery$Tree"
  | 1 => .object "Treequery$Layout"
  | 2 => .object "Treequery$Paths"
  | 3 => .object "Treequery$Sets"
  | 4 => .object "Treequery$Sets"
  | 5 => .object "Treequery$Row"
  | 6 => .long
  | _ => .int
theorem nmX2 : ∀ a, a < 8 → ∀ b, b < 8 → a ≠ b → (TX2 a).2.1 ≠ (TX2 b).2.1 := by decide +kernel
theorem tyX2_ok : ∀ k, k < 8 → parseFieldDescriptor (TX2 k).2.2.1 = some (tyX2 k) := by decide +kernel
def RX3 : String := "Treequery$Layout"
def TX3 : u_T := fun k => match k with
  | 0 => ("Treequery$Layout", "order", "LTreequery$Row;", true)
  | 1 => ("Treequery$Layout", "spots", "LTreequery$Row;", true)
  | 2 => ("Treequery$Layout", "ups", "LTreequery$Row;", true)
  | 3 => ("Treequery$Layout", "ends", "LTreequery$Row;", true)
  | 4 => ("Treequery$Layout", "spaces", "LTreequery$Row;", true)
  | 5 => ("Treequery$Layout", "inner", "LTreequery$Sets;", true)
  | 6 => ("Treequery$Layout", "beside", "LTreequery$Sets;", true)
  | 7 => ("Treequery$Layout", "above", "LTreequery$Sets;", true)
  | 8 => ("Treequery$Layout", "below", "LTreequery$Sets;", true)
  | 9 => ("Treequery$Layout", "tests", "LTreequery$Sets;", true)
  | 10 => ("Treequery$Layout", "elements", "J", false)
  | 11 => ("Treequery$Layout", "attributes", "J", false)
  | _ => ("Treequery$Layout", "count", "I", false)
def tyX3 : Nat → FieldType := fun k => match k with
  | 0 => .object "Treequery$Row"
  | 1 => .object "Treequery$Row"
  | 2 => .object "Treequery$Row"
  | 3 => .object "Treequery$Row"
  | 4 => .object "Treequery$Row"
  | 5 => .object "Treequery$Sets"
  | 6 => .object "Treequery$Sets"
  | 7 => .object "Treequery$Sets"
  | 8 => .object "Treequery$Sets"
  | 9 => .object "Treequery$Sets"
  | 10 => .long
  | 11 => .long
  | _ => .int
theorem nmX3 : ∀ a, a < 13 → ∀ b, b < 13 → a ≠ b → (TX3 a).2.1 ≠ (TX3 b).2.1 := by decide +kernel
theorem tyX3_ok : ∀ k, k < 13 → parseFieldDescriptor (TX3 k).2.2.1 = some (tyX3 k) := by decide +kernel
def RX4 : String := "Treequery$Paths"
def TX4 : u_T := fun k => match k with
  | 0 => ("Treequery$Paths", "stepCounts", "LTreequery$Row;", true)
  | 1 => ("Treequery$Paths", "axes", "LTreequery$Row;", true)
  | 2 => ("Treequery$Paths", "tests", "LTreequery$Row;", true)
  | 3 => ("Treequery$Paths", "repeats", "LTreequery$Row;", true)
  | 4 => ("Treequery$Paths", "conditionCounts", "LTreequery$Row;", true)
  | 5 => ("Treequery$Paths", "whats", "LTreequery$Row;", true)
  | 6 => ("Treequery$Paths", "others", "LTreequery$Row;", true)
  | 7 => ("Treequery$Paths", "comparisons", "LTreequery$Row;", true)
  | 8 => ("Treequery$Paths", "numbers", "LTreequery$Row;", true)
  | _ => ("Treequery$Paths", "count", "I", false)
def tyX4 : Nat → FieldType := fun k => match k with
  | 0 => .object "Treequery$Row"
  | 1 => .object "Treequery$Row"
  | 2 => .object "Treequery$Row"
  | 3 => .object "Treequery$Row"
  | 4 => .object "Treequery$Row"
  | 5 => .object "Treequery$Row"
  | 6 => .object "Treequery$Row"
  | 7 => .object "Treequery$Row"
  | 8 => .object "Treequery$Row"
  | _ => .int
theorem nmX4 : ∀ a, a < 10 → ∀ b, b < 10 → a ≠ b → (TX4 a).2.1 ≠ (TX4 b).2.1 := by decide +kernel
theorem tyX4_ok : ∀ k, k < 10 → parseFieldDescriptor (TX4 k).2.2.1 = some (tyX4 k) := by decide +kernel
def RX5 : String := "Treequery$Row"
def TX5 : u_T := fun k => match k with
  | _ => ("Treequery$Row", "cells", "[I", true)
def tyX5 : Nat → FieldType := fun k => match k with
  | _ => .array .int
theorem nmX5 : ∀ a, a < 1 → ∀ b, b < 1 → a ≠ b → (TX5 a).2.1 ≠ (TX5 b).2.1 := by decide +kernel
theorem tyX5_ok : ∀ k, k < 1 → parseFieldDescriptor (TX5 k).2.2.1 = some (tyX5 k) := by decide +kernel
def RX6 : String := "Treequery$Schema"
def TX6 : u_T := fun k => match k with
  | 0 => ("Treequery$Schema", "names", "LTreequery$Row;", true)
  | 1 => ("Treequery$Schema", "finals", "LTreequery$Row;", true)
  | 2 => ("Treequery$Schema", "rules", "LTreequery$Row;", true)
  | 3 => ("Treequery$Schema", "arcs", "LTreequery$Row;", true)
  | 4 => ("Treequery$Schema", "typeSets", "LTreequery$Row;", true)
  | 5 => ("Treequery$Schema", "haves", "LTreequery$Row;", true)
  | 6 => ("Treequery$Schema", "havers", "LTreequery$Row;", true)
  | 7 => ("Treequery$Schema", "told", "LTreequery$Row;", true)
  | 8 => ("Treequery$Schema", "textTypes", "I", false)
  | 9 => ("Treequery$Schema", "everything", "I", false)
  | _ => ("Treequery$Schema", "isStrict", "Z", false)
def tyX6 : Nat → FieldType := fun k => match k with
  | 0 => .object "Treequery$Row"
  | 1 => .object "Treequery$Row"
  | 2 => .object "Treequery$Row"
  | 3 => .object "Treequery$Row"
  | 4 => .object "Treequery$Row"
  | 5 => .object "Treequery$Row"
  | 6 => .object "Treequery$Row"
  | 7 => .object "Treequery$Row"
  | 8 => .int
  | 9 => .int
  | _ => .boolean
theorem nmX6 : ∀ a, a < 11 → ∀ b, b < 11 → a ≠ b → (TX6 a).2.1 ≠ (TX6 b).2.1 := by decide +kernel
theorem tyX6_ok : ∀ k, k < 11 → parseFieldDescriptor (TX6 k).2.2.1 = some (tyX6 k) := by decide +kernel
def RX7 : String := "Treequery$Sets"
def TX7 : u_T := fun k => match k with
  | _ => ("Treequery$Sets", "cells", "[J", true)
def tyX7 : Nat → FieldType := fun k => match k with
  | _ => .array .long
theorem nmX7 : ∀ a, a < 1 → ∀ b, b < 1 → a ≠ b → (TX7 a).2.1 ≠ (TX7 b).2.1 := by decide +kernel
theorem tyX7_ok : ∀ k, k < 1 → parseFieldDescriptor (TX7 k).2.2.1 = some (tyX7 k) := by decide +kernel
def RX8 : String := "Treequery$Tree"
def TX8 : u_T := fun k => match k with
  | 0 => ("Treequery$Tree", "layout", "LTreequery$Layout;", true)
  | 1 => ("Treequery$Tree", "kinds", "LTreequery$Row;", true)
  | 2 => ("Treequery$Tree", "names", "LTreequery$Row;", true)
  | 3 => ("Treequery$Tree", "contents", "LTreequery$Row;", true)
  | 4 => ("Treequery$Tree", "declared", "LTreequery$Row;", true)
  | 5 => ("Treequery$Tree", "parents", "LTreequery$Row;", true)
  | 6 => ("Treequery$Tree", "numbers", "LTreequery$Row;", true)
  | 7 => ("Treequery$Tree", "firsts", "LTreequery$Row;", true)
  | 8 => ("Treequery$Tree", "nexts", "LTreequery$Row;", true)
  | 9 => ("Treequery$Tree", "tails", "LTreequery$Row;", true)
  | _ => ("Treequery$Tree", "made", "I", false)
def tyX8 : Nat → FieldType := fun k => match k with
  | 0 => .object "Treequery$Layout"
  | 1 => .object "Treequery$Row"
  | 2 => .object "Treequery$Row"
  | 3 => .object "Treequery$Row"
  | 4 => .object "Treequery$Row"
  | 5 => .object "Treequery$Row"
  | 6 => .object "Treequery$Row"
  | 7 => .object "Treequery$Row"
  | 8 => .object "Treequery$Row"
  | 9 => .object "Treequery$Row"
  | _ => .int
theorem nmX8 : ∀ a, a < 11 → ∀ b, b < 11 → a ≠ b → (TX8 a).2.1 ≠ (TX8 b).2.1 := by decide +kernel
theorem tyX8_ok : ∀ k, k < 11 → parseFieldDescriptor (TX8 k).2.2.1 = some (tyX8 k) := by decide +kernel
def RX9 : String := "Treequery$Updates"
def TX9 : u_T := fun k => match k with
  | 0 => ("Treequery$Updates", "whats", "LTreequery$Row;", true)
  | 1 => ("Treequery$Updates", "targets", "LTreequery$Row;", true)
  | 2 => ("Treequery$Updates", "parents", "LTreequery$Row;", true)
  | 3 => ("Treequery$Updates", "places", "LTreequery$Row;", true)
  | 4 => ("Treequery$Updates", "kinds", "LTreequery$Row;", true)
  | 5 => ("Treequery$Updates", "names", "LTreequery$Row;", true)
  | 6 => ("Treequery$Updates", "contents", "LTreequery$Row;", true)
  | 7 => ("Treequery$Updates", "subjects", "LTreequery$Row;", true)
  | 8 => ("Treequery$Updates", "fresh", "J", false)
  | 9 => ("Treequery$Updates", "taken", "J", false)
  | 10 => ("Treequery$Updates", "entered", "J", false)
  | _ => ("Treequery$Updates", "count", "I", false)
def tyX9 : Nat → FieldType := fun k => match k with
  | 0 => .object "Treequery$Row"
  | 1 => .object "Treequery$Row"
  | 2 => .object "Treequery$Row"
  | 3 => .object "Treequery$Row"
  | 4 => .object "Treequery$Row"
  | 5 => .object "Treequery$Row"
  | 6 => .object "Treequery$Row"
  | 7 => .object "Treequery$Row"
  | 8 => .long
  | 9 => .long
  | 10 => .long
  | _ => .int
theorem nmX9 : ∀ a, a < 12 → ∀ b, b < 12 → a ≠ b → (TX9 a).2.1 ≠ (TX9 b).2.1 := by decide +kernel
theorem tyX9_ok : ∀ k, k < 12 → parseFieldDescriptor (TX9 k).2.2.1 = some (tyX9 k) := by decide +kernel
def RX10 : String := "Treequery"
def TX10 : u_T := fun k => match k with
  | 0 => ("Treequery", "tree", "LTreequery$Tree;", true)
  | 1 => ("Treequery", "spare", "LTreequery$Tree;", true)
  | 2 => ("Treequery", "updates", "LTreequery$Updates;", true)
  | 3 => ("Treequery", "paths", "LTreequery$Paths;", true)
  | 4 => ("Treequery", "all", "LTreequery$Finder;", true)
  | 5 => ("Treequery", "reader", "LTreequery$Finder;", true)
  | 6 => ("Treequery", "schema", "LTreequery$Schema;", true)
  | 7 => ("Treequery", "versions", "[LTreequery$Tree;", true)
  | 8 => ("Treequery", "viewPaths", "LTreequery$Row;", true)
  | 9 => ("Treequery", "viewChanges", "LTreequery$Row;", true)
  | 10 => ("Treequery", "viewSets", "LTreequery$Sets;", true)
  | 11 => ("Treequery", "edits", "LTreequery$Edits;", false)
  | 12 => ("Treequery", "versionCount", "I", false)
  | 13 => ("Treequery", "viewCount", "I", false)
  | 14 => ("Treequery", "renumberings", "I", false)
  | 15 => ("Treequery", "hiddenPaths", "J", false)
  | 16 => ("Treequery", "indexedNames", "J", false)
  | 17 => ("Treequery", "isReader", "Z", false)
  | _ => ("Treequery", "isReaderStale", "Z", false)
def tyX10 : Nat → FieldType := fun k => match k with
  | 0 => .object "Treequery$Tree"
  | 1 => .object "Treequery$Tree"
  | 2 => .object "Treequery$Updates"
  | 3 => .object "Treequery$Paths"
  | 4 => .object "Treequery$Finder"
  | 5 => .object "Treequery$Finder"
  | 6 => .object "Treequery$Schema"
  | 7 => .array (.object "Treequery$Tree")
  | 8 => .object "Treequery$Row"
  | 9 => .object "Treequery$Row"
  | 10 => .object "Treequery$Sets"
  | 11 => .object "Treequery$Edits"
  | 12 => .int
  | 13 => .int
  | 14 => .int
  | 15 => .long
  | 16 => .long
  | 17 => .boolean
  | _ => .boolean
theorem nmX10 : ∀ a, a < 19 → ∀ b, b < 19 → a ≠ b → (TX10 a).2.1 ≠ (TX10 b).2.1 := by decide +kernel
theorem tyX10_ok : ∀ k, k < 19 → parseFieldDescriptor (TX10 k).2.2.1 = some (tyX10 k) := by decide +kernel
def RX11 : String := "TreequeryModel"
def TX11 : u_T := fun k => match k with
  | _ => ("", "", "", false)
def tyX11 : Nat → FieldType := fun k => match k with
  | _ => .int
theorem nmX11 : ∀ a, a < 0 → ∀ b, b < 0 → a ≠ b → (TX11 a).2.1 ≠ (TX11 b).2.1 := by decide +kernel
theorem tyX11_ok : ∀ k, k < 0 → parseFieldDescriptor (TX11 k).2.2.1 = some (tyX11 k) := by decide +kernel
/-- the classes whose objects the worlds hold -/
abbrev tq_cl : List vw_C := [(RX5, TX5, 1), (RX1, TX1, 7), (RX2, TX2, 8), (RX3, TX3, 13), (RX4, TX4, 10), (RX5, TX5, 1), (RX6, TX6, 11), (RX7, TX7, 1), (RX8, TX8, 11), (RX9, TX9, 12), (RX10, TX10, 19), (RX5, TX5, 1)]
def tq_G : List Cond := lw_tbl.filter goodWord
theorem tq_g {i : Nat} {w : Cond} (h : lw_tbl[i]? = some w) (g : goodWord w = true) : w ∈ tq_G := List.mem_filter.mpr ⟨List.mem_of_getElem? h, g⟩
theorem tq_Gt : ∀ w ∈ tq_G, w ∈ lw_tbl := fun _ h => (List.mem_filter.mp h).1
theorem tq_Gg : ∀ w ∈ tq_G, goodWord w = true := fun _ h => (List.mem_filter.mp h).2
theorem tq_in1 : ∀ w ∈ u_ws RX1 TX1 7, w ∈ tq_G := by decide +kernel
theorem tq_in2 : ∀ w ∈ u_ws RX2 TX2 8, w ∈ tq_G := by decide +kernel
theorem tq_in3 : ∀ w ∈ u_ws RX3 TX3 13, w ∈ tq_G := by decide +kernel
theorem tq_in4 : ∀ w ∈ u_ws RX4 TX4 10, w ∈ tq_G := by decide +kernel
theorem tq_in5 : ∀ w ∈ u_ws RX5 TX5 1, w ∈ tq_G := by decide +kernel
theorem tq_in6 : ∀ w ∈ u_ws RX6 TX6 11, w ∈ tq_G := by decide +kernel
theorem tq_in7 : ∀ w ∈ u_ws RX7 TX7 1, w ∈ tq_G := by decide +kernel
theorem tq_in8 : ∀ w ∈ u_ws RX8 TX8 11, w ∈ tq_G := by decide +kernel
theorem tq_in9 : ∀ w ∈ u_ws RX9 TX9 12, w ∈ tq_G := by decide +kernel
theorem tq_in10 : ∀ w ∈ u_ws RX10 TX10 19, w ∈ tq_G := by decide +kernel
