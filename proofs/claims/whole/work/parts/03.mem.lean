/-! the classes, their fields; printed by program -/
/-- the tables' words that last from call to call -/
def zz_tb : List Cond := lw_tbl.filter goodWord
theorem zz_mem_r {ws : List Cond} (ps : List Nat) (h : ws.map some = ps.map (fun i => lw_tbl[i]?)) (hg : ws.all goodWord = true) : ∀ w ∈ ws, w ∈ zz_tb := by
  intro w hw
  have h1 : some w ∈ ws.map some := List.mem_map.mpr ⟨w, hw, rfl⟩
  rw [h] at h1
  obtain ⟨i, -, hi⟩ := List.mem_map.mp h1
  exact List.mem_filter.mpr ⟨List.mem_of_getElem? hi, List.all_eq_true.mp hg w hw⟩
def zz_R0 : String := "TurnQueues$Bytes"
def zz_T0 : u_T := fun k => match k with
  | 0 => ("TurnQueues$Bytes", "length", "I", false)
  | _ => ("TurnQueues$Bytes", "values", "[B", true)
def zz_t0 : Nat → FieldType := fun k => match k with
  | 0 => .int
  | _ => .array .byte
theorem zz_nm0 : ∀ a, a < 2 → ∀ b, b < 2 → a ≠ b → (zz_T0 a).2.1 ≠ (zz_T0 b).2.1 := by decide +kernel
theorem zz_to0 : ∀ k, k < 2 → parseFieldDescriptor (zz_T0 k).2.2.1 = some (zz_t0 k) := by decide +kernel
def zz_R1 : String := "TurnQueues$Cells"
def zz_T1 : u_T := fun k => match k with
  | 0 => ("TurnQueues$Cells", "made", "I", false)
  | 1 => ("TurnQueues$Cells", "numbers", "[I", true)
  | 2 => ("TurnQueues$Cells", "nexts", "[I", true)
  | 3 => ("TurnQueues$Cells", "makers", "[I", true)
  | 4 => ("TurnQueues$Cells", "marks", "[I", true)
  | _ => ("TurnQueues$Cells", "mark", "I", false)
def zz_t1 : Nat → FieldType := fun k => match k with
  | 0 => .int
  | 1 => .array .int
  | 2 => .array .int
  | 3 => .array .int
  | 4 => .array .int
  | _ => .int
theorem zz_nm1 : ∀ a, a < 6 → ∀ b, b < 6 → a ≠ b → (zz_T1 a).2.1 ≠ (zz_T1 b).2.1 := by decide +kernel
theorem zz_to1 : ∀ k, k < 6 → parseFieldDescriptor (zz_T1 k).2.2.1 = some (zz_t1 k) := by decide +kernel
def zz_R2 : String := "TurnQueues$Deeds"
def zz_T2 : u_T := fun k => match k with
  | 0 => ("TurnQueues$Deeds", "housed", "Z", false)
  | 1 => ("TurnQueues$Deeds", "law", "I", false)
  | 2 => ("TurnQueues$Deeds", "ratio", "I", false)
  | 3 => ("TurnQueues$Deeds", "told", "I", false)
  | 4 => ("TurnQueues$Deeds", "many", "I", false)
  | 5 => ("TurnQueues$Deeds", "kinds", "[I", true)
  | 6 => ("TurnQueues$Deeds", "bases", "[I", true)
  | _ => ("TurnQueues$Deeds", "numbers", "[I", true)
def zz_t2 : Nat → FieldType := fun k => match k with
  | 0 => .boolean
  | 1 => .int
  | 2 => .int
  | 3 => .int
  | 4 => .int
  | 5 => .array .int
  | 6 => .array .int
  | _ => .array .int
theorem zz_nm2 : ∀ a, a < 8 → ∀ b, b < 8 → a ≠ b → (zz_T2 a).2.1 ≠ (zz_T2 b).2.1 := by decide +kernel
theorem zz_to2 : ∀ k, k < 8 → parseFieldDescriptor (zz_T2 k).2.2.1 = some (zz_t2 k) := by decide +kernel
def zz_R3 : String := "TurnQueues$History"
def zz_T3 : u_T := fun k => match k with
  | 0 => ("TurnQueues$History", "deeds", "LTurnQueues$Deeds;", true)
  | 1 => ("TurnQueues$History", "mill", "LTurnQueues$Mill;", true)
  | 2 => ("TurnQueues$History", "cells", "LTurnQueues$Cells;", true)
  | 3 => ("TurnQueues$History", "states", "[LTurnQueues$State;", true)
  | 4 => ("TurnQueues$History", "queues", "[LTurnQueues$Numbers;", true)
  | 5 => ("TurnQueues$History", "spent", "[I", true)
  | 6 => ("TurnQueues$History", "late", "[Z", true)
  | 7 => ("TurnQueues$History", "cellsBefore", "[I", true)
  | 8 => ("TurnQueues$History", "way", "[I", true)
  | 9 => ("TurnQueues$History", "told", "LTurnQueues$Bytes;", true)
  | _ => ("TurnQueues$History", "otherTold", "LTurnQueues$Bytes;", true)
def zz_t3 : Nat → FieldType := fun k => match k with
  | 0 => .object "TurnQueues$Deeds"
  | 1 => .object "TurnQueues$Mill"
  | 2 => .object "TurnQueues$Cells"
  | 3 => .array (.object "TurnQueues$State")
  | 4 => .array (.object "TurnQueues$Numbers")
  | 5 => .array .int
  | 6 => .array .boolean
  | 7 => .array .int
  | 8 => .array .int
  | 9 => .object "TurnQueues$Bytes"
  | _ => .object "TurnQueues$Bytes"
theorem zz_nm3 : ∀ a, a < 11 → ∀ b, b < 11 → a ≠ b → (zz_T3 a).2.1 ≠ (zz_T3 b).2.1 := by decide +kernel
theorem zz_to3 : ∀ k, k < 11 → parseFieldDescriptor (zz_T3 k).2.2.1 = some (zz_t3 k) := by decide +kernel
def zz_R4 : String := "TurnQueues$Mill"
def zz_T4 : u_T := fun k => match k with
  | 0 => ("TurnQueues$Mill", "cells", "LTurnQueues$Cells;", true)
  | 1 => ("TurnQueues$Mill", "turned", "Z", false)
  | 2 => ("TurnQueues$Mill", "wasOverdue", "Z", false)
  | 3 => ("TurnQueues$Mill", "laid", "[I", true)
  | 4 => ("TurnQueues$Mill", "law", "I", false)
  | 5 => ("TurnQueues$Mill", "ratio", "I", false)
  | 6 => ("TurnQueues$Mill", "maker", "I", false)
  | _ => ("TurnQueues$Mill", "steps", "I", false)
def zz_t4 : Nat → FieldType := fun k => match k with
  | 0 => .object "TurnQueues$Cells"
  | 1 => .boolean
  | 2 => .boolean
  | 3 => .array .int
  | 4 => .int
  | 5 => .int
  | 6 => .int
  | _ => .int
theorem zz_nm4 : ∀ a, a < 8 → ∀ b, b < 8 → a ≠ b → (zz_T4 a).2.1 ≠ (zz_T4 b).2.1 := by decide +kernel
theorem zz_to4 : ∀ k, k < 8 → parseFieldDescriptor (zz_T4 k).2.2.1 = some (zz_t4 k) := by decide +kernel
def zz_R5 : String := "TurnQueues$Numbers"
def zz_T5 : u_T := fun k => match k with
  | 0 => ("TurnQueues$Numbers", "many", "I", false)
  | _ => ("TurnQueues$Numbers", "values", "[I", true)
def zz_t5 : Nat → FieldType := fun k => match k with
  | 0 => .int
  | _ => .array .int
theorem zz_nm5 : ∀ a, a < 2 → ∀ b, b < 2 → a ≠ b → (zz_T5 a).2.1 ≠ (zz_T5 b).2.1 := by decide +kernel
theorem zz_to5 : ∀ k, k < 2 → parseFieldDescriptor (zz_T5 k).2.2.1 = some (zz_t5 k) := by decide +kernel
def zz_R6 : String := "TurnQueues$Reader"
def zz_T6 : u_T := fun k => match k with
  | 0 => ("TurnQueues$Reader", "draft", "LTurnQueues$Deeds;", true)
  | 1 => ("TurnQueues$Reader", "fault", "I", false)
  | 2 => ("TurnQueues$Reader", "faultPlace", "I", false)
  | 3 => ("TurnQueues$Reader", "sizes", "[I", true)
  | 4 => ("TurnQueues$Reader", "token", "I", false)
  | 5 => ("TurnQueues$Reader", "start", "I", false)
  | 6 => ("TurnQueues$Reader", "next", "I", false)
  | _ => ("TurnQueues$Reader", "value", "I", false)
def zz_t6 : Nat → FieldType := fun k => match k with
  | 0 => .object "TurnQueues$Deeds"
  | 1 => .int
  | 2 => .int
  | 3 => .array .int
  | 4 => .int
  | 5 => .int
  | 6 => .int
  | _ => .int
theorem zz_nm6 : ∀ a, a < 8 → ∀ b, b < 8 → a ≠ b → (zz_T6 a).2.1 ≠ (zz_T6 b).2.1 := by decide +kernel
theorem zz_to6 : ∀ k, k < 8 → parseFieldDescriptor (zz_T6 k).2.2.1 = some (zz_t6 k) := by decide +kernel
def zz_R7 : String := "TurnQueues$Row"
def zz_T7 : u_T := fun k => match k with
  | 0 => ("TurnQueues$Row", "head", "I", false)
  | _ => ("TurnQueues$Row", "length", "I", false)
def zz_t7 : Nat → FieldType := fun k => match k with
  | 0 => .int
  | _ => .int
theorem zz_nm7 : ∀ a, a < 2 → ∀ b, b < 2 → a ≠ b → (zz_T7 a).2.1 ≠ (zz_T7 b).2.1 := by decide +kernel
theorem zz_to7 : ∀ k, k < 2 → parseFieldDescriptor (zz_T7 k).2.2.1 = some (zz_t7 k) := by decide +kernel
def zz_R8 : String := "TurnQueues$Scout"
def zz_T8 : u_T := fun k => match k with
  | 0 => ("TurnQueues$Scout", "most", "I", false)
  | 1 => ("TurnQueues$Scout", "mostTogether", "I", false)
  | 2 => ("TurnQueues$Scout", "tries", "I", false)
  | 3 => ("TurnQueues$Scout", "longest", "I", false)
  | 4 => ("TurnQueues$Scout", "tried", "[I", true)
  | 5 => ("TurnQueues$Scout", "worst", "[I", true)
  | 6 => ("TurnQueues$Scout", "mostAtLevel", "[I", true)
  | 7 => ("TurnQueues$Scout", "mill", "LTurnQueues$Mill;", true)
  | _ => ("TurnQueues$Scout", "levels", "[LTurnQueues$State;", true)
def zz_t8 : Nat → FieldType := fun k => match k with
  | 0 => .int
  | 1 => .int
  | 2 => .int
  | 3 => .int
  | 4 => .array .int
  | 5 => .array .int
  | 6 => .array .int
  | 7 => .object "TurnQueues$Mill"
  | _ => .array (.object "TurnQueues$State")
theorem zz_nm8 : ∀ a, a < 9 → ∀ b, b < 9 → a ≠ b → (zz_T8 a).2.1 ≠ (zz_T8 b).2.1 := by decide +kernel
theorem zz_to8 : ∀ k, k < 9 → parseFieldDescriptor (zz_T8 k).2.2.1 = some (zz_t8 k) := by decide +kernel
def zz_R9 : String := "TurnQueues$State"
def zz_T9 : u_T := fun k => match k with
  | 0 => ("TurnQueues$State", "front", "LTurnQueues$Row;", true)
  | 1 => ("TurnQueues$State", "back", "LTurnQueues$Row;", true)
  | 2 => ("TurnQueues$State", "a", "LTurnQueues$Row;", true)
  | 3 => ("TurnQueues$State", "c", "LTurnQueues$Row;", true)
  | 4 => ("TurnQueues$State", "d", "LTurnQueues$Row;", true)
  | 5 => ("TurnQueues$State", "e", "LTurnQueues$Row;", true)
  | 6 => ("TurnQueues$State", "total", "I", false)
  | 7 => ("TurnQueues$State", "count", "I", false)
  | 8 => ("TurnQueues$State", "mode", "I", false)
  | 9 => ("TurnQueues$State", "good", "I", false)
  | 10 => ("TurnQueues$State", "frontOwes", "I", false)
  | _ => ("TurnQueues$State", "backOwes", "I", false)
def zz_t9 : Nat → FieldType := fun k => match k with
  | 0 => .object "TurnQueues$Row"
  | 1 => .object "TurnQueues$Row"
  | 2 => .object "TurnQueues$Row"
  | 3 => .object "TurnQueues$Row"
  | 4 => .object "TurnQueues$Row"
  | 5 => .object "TurnQueues$Row"
  | 6 => .int
  | 7 => .int
  | 8 => .int
  | 9 => .int
  | 10 => .int
  | _ => .int
theorem zz_nm9 : ∀ a, a < 12 → ∀ b, b < 12 → a ≠ b → (zz_T9 a).2.1 ≠ (zz_T9 b).2.1 := by decide +kernel
theorem zz_to9 : ∀ k, k < 12 → parseFieldDescriptor (zz_T9 k).2.2.1 = some (zz_t9 k) := by decide +kernel
def zz_R10 : String := "TurnQueues$Trial"
def zz_T10 : u_T := fun k => match k with
  | 0 => ("TurnQueues$Trial", "most", "I", false)
  | 1 => ("TurnQueues$Trial", "steps", "I", false)
  | 2 => ("TurnQueues$Trial", "clash", "I", false)
  | 3 => ("TurnQueues$Trial", "queue", "LTurnQueues$Numbers;", true)
  | 4 => ("TurnQueues$Trial", "mill", "LTurnQueues$Mill;", true)
  | 5 => ("TurnQueues$Trial", "now", "LTurnQueues$State;", true)
  | _ => ("TurnQueues$Trial", "tree", "[LTurnQueues$State;", true)
def zz_t10 : Nat → FieldType := fun k => match k with
  | 0 => .int
  | 1 => .int
  | 2 => .int
  | 3 => .object "TurnQueues$Numbers"
  | 4 => .object "TurnQueues$Mill"
  | 5 => .object "TurnQueues$State"
  | _ => .array (.object "TurnQueues$State")
theorem zz_nm10 : ∀ a, a < 7 → ∀ b, b < 7 → a ≠ b → (zz_T10 a).2.1 ≠ (zz_T10 b).2.1 := by decide +kernel
theorem zz_to10 : ∀ k, k < 7 → parseFieldDescriptor (zz_T10 k).2.2.1 = some (zz_t10 k) := by decide +kernel
def zz_R11 : String := "TurnQueues"
def zz_T11 : u_T := fun k => match k with
  | 0 => ("TurnQueues", "tape", "LTurnQueues$Bytes;", true)
  | 1 => ("TurnQueues", "out", "LTurnQueues$Bytes;", true)
  | 2 => ("TurnQueues", "reader", "LTurnQueues$Reader;", true)
  | 3 => ("TurnQueues", "history", "LTurnQueues$History;", true)
  | 4 => ("TurnQueues", "trial", "LTurnQueues$Trial;", true)
  | 5 => ("TurnQueues", "scout", "LTurnQueues$Scout;", true)
  | _ => ("TurnQueues", "images", "[LTurnQueues$Deeds;", true)
def zz_t11 : Nat → FieldType := fun k => match k with
  | 0 => .object "TurnQueues$Bytes"
  | 1 => .object "TurnQueues$Bytes"
  | 2 => .object "TurnQueues$Reader"
  | 3 => .object "TurnQueues$History"
  | 4 => .object "TurnQueues$Trial"
  | 5 => .object "TurnQueues$Scout"
  | _ => .array (.object "TurnQueues$Deeds")
theorem zz_nm11 : ∀ a, a < 7 → ∀ b, b < 7 → a ≠ b → (zz_T11 a).2.1 ≠ (zz_T11 b).2.1 := by decide +kernel
theorem zz_to11 : ∀ k, k < 7 → parseFieldDescriptor (zz_T11 k).2.2.1 = some (zz_t11 k) := by decide +kernel
def zz_R12 : String := "TurnQueuesModel"
def zz_T12 : u_T := fun k => match k with
  | 0 => ("TurnQueuesModel", "thrown", "I", false)
  | 1 => ("TurnQueuesModel", "numberOf", "[I", true)
  | 2 => ("TurnQueuesModel", "nextOf", "[I", true)
  | 3 => ("TurnQueuesModel", "cells", "I", false)
  | 4 => ("TurnQueuesModel", "stands", "[I", true)
  | 5 => ("TurnQueuesModel", "law", "I", false)
  | 6 => ("TurnQueuesModel", "balance", "I", false)
  | 7 => ("TurnQueuesModel", "steps", "I", false)
  | 8 => ("TurnQueuesModel", "hasBegun", "Z", false)
  | 9 => ("TurnQueuesModel", "isOverdue", "Z", false)
  | 10 => ("TurnQueuesModel", "line", "[I", true)
  | 11 => ("TurnQueuesModel", "houseLaw", "I", false)
  | 12 => ("TurnQueuesModel", "houseBalance", "I", false)
  | 13 => ("TurnQueuesModel", "texts", "I", false)
  | 14 => ("TurnQueuesModel", "toldMany", "I", false)
  | 15 => ("TurnQueuesModel", "versions", "I", false)
  | 16 => ("TurnQueuesModel", "madeOf", "[I", true)
  | 17 => ("TurnQueuesModel", "kindOf", "[I", true)
  | 18 => ("TurnQueuesModel", "numberBy", "[I", true)
  | 19 => ("TurnQueuesModel", "spentBy", "[I", true)
  | 20 => ("TurnQueuesModel", "wasOverdue", "[Z", true)
  | 21 => ("TurnQueuesModel", "cellsAhead", "[I", true)
  | 22 => ("TurnQueuesModel", "queue", "[I", true)
  | 23 => ("TurnQueuesModel", "size0", "[I", true)
  | 24 => ("TurnQueuesModel", "tape", "[B", true)
  | 25 => ("TurnQueuesModel", "taped", "I", false)
  | 26 => ("TurnQueuesModel", "five", "[I", true)
  | 27 => ("TurnQueuesModel", "size", "I", false)
  | 28 => ("TurnQueuesModel", "at", "I", false)
  | 29 => ("TurnQueuesModel", "from", "I", false)
  | 30 => ("TurnQueuesModel", "token", "I", false)
  | 31 => ("TurnQueuesModel", "value", "I", false)
  | 32 => ("TurnQueuesModel", "faultKind", "I", false)
  | 33 => ("TurnQueuesModel", "faultPlace", "I", false)
  | 34 => ("TurnQueuesModel", "freshLaw", "I", false)
  | 35 => ("TurnQueuesModel", "freshBalance", "I", false)
  | 36 => ("TurnQueuesModel", "freshMany", "I", false)
  | 37 => ("TurnQueuesModel", "freshOf", "[I", true)
  | 38 => ("TurnQueuesModel", "freshKind", "[I", true)
  | 39 => ("TurnQueuesModel", "freshNumber", "[I", true)
  | 40 => ("TurnQueuesModel", "freshSize", "[I", true)
  | 41 => ("TurnQueuesModel", "met", "[I", true)
  | 42 => ("TurnQueuesModel", "most", "I", false)
  | 43 => ("TurnQueuesModel", "mostOne", "I", false)
  | 44 => ("TurnQueuesModel", "mostAll", "I", false)
  | 45 => ("TurnQueuesModel", "rows", "I", false)
  | 46 => ("TurnQueuesModel", "mostLast", "I", false)
  | 47 => ("TurnQueuesModel", "all", "I", false)
  | 48 => ("TurnQueuesModel", "tried", "[I", true)
  | 49 => ("TurnQueuesModel", "worstRow", "[I", true)
  | 50 => ("TurnQueuesModel", "wayOf", "[I", true)
  | 51 => ("TurnQueuesModel", "wayMany", "I", false)
  | 52 => ("TurnQueuesModel", "numbers", "[I", true)
  | 53 => ("TurnQueuesModel", "numberMany", "I", false)
  | 54 => ("TurnQueuesModel", "clash", "I", false)
  | 55 => ("TurnQueuesModel", "out", "[B", true)
  | 56 => ("TurnQueuesModel", "outMany", "I", false)
  | _ => ("TurnQueuesModel", "images", "[I", true)
def zz_t12 : Nat → FieldType := fun k => match k with
  | 0 => .int
  | 1 => .array .int
  | 2 => .array .int
  | 3 => .int
  | 4 => .array .int
  | 5 => .int
  | 6 => .int
  | 7 => .int
  | 8 => .boolean
  | 9 => .boolean
  | 10 => .array .int
  | 11 => .int
  | 12 => .int
  | 13 => .int
  | 14 => .int
  | 15 => .int
  | 16 => .array .int
  | 17 => .array .int
  | 18 => .array .int
  | 19 => .array .int
  | 20 => .array .boolean
  | 21 => .array .int
  | 22 => .array .int
  | 23 => .array .int
  | 24 => .array .byte
  | 25 => .int
  | 26 => .array .int
  | 27 => .int
  | 28 => .int
  | 29 => .int
  | 30 => .int
  | 31 => .int
  | 32 => .int
  | 33 => .int
  | 34 => .int
  | 35 => .int
  | 36 => .int
  | 37 => .array .int
  | 38 => .array .int
  | 39 => .array .int
  | 40 => .array .int
  | 41 => .array .int
  | 42 => .int
  | 43 => .int
  | 44 => .int
  | 45 => .int
  | 46 => .int
  | 47 => .int
  | 48 => .array .int
  | 49 => .array .int
  | 50 => .array .int
  | 51 => .int
  | 52 => .array .int
  | 53 => .int
  | 54 => .int
  | 55 => .array .byte
  | 56 => .int
  | _ => .array .int
theorem zz_nm12 : ∀ a, a < 58 → ∀ b, b < 58 → a ≠ b → (zz_T12 a).2.1 ≠ (zz_T12 b).2.1 := by decide +kernel
theorem zz_to12 : ∀ k, k < 58 → parseFieldDescriptor (zz_T12 k).2.2.1 = some (zz_t12 k) := by decide +kernel
set_option maxRecDepth 200000 in
theorem zz_in0 : ∀ w ∈ u_ws zz_R0 zz_T0 2, w ∈ zz_tb := zz_mem_r [137, 139] rfl (by decide +kernel)
set_option maxRecDepth 200000 in
theorem zz_in1 : ∀ w ∈ u_ws zz_R1 zz_T1 6, w ∈ zz_tb := zz_mem_r [264, 266, 268, 270, 272, 274] rfl (by decide +kernel)
set_option maxRecDepth 200000 in
theorem zz_in2 : ∀ w ∈ u_ws zz_R2 zz_T2 8, w ∈ zz_tb := zz_mem_r [189, 191, 193, 195, 197, 199, 201, 203] rfl (by decide +kernel)
set_option maxRecDepth 200000 in
theorem zz_in3 : ∀ w ∈ u_ws zz_R3 zz_T3 11, w ∈ zz_tb := zz_mem_r [440, 442, 444, 446, 448, 450, 452, 454, 456, 458, 460] rfl (by decide +kernel)
set_option maxRecDepth 200000 in
theorem zz_in4 : ∀ w ∈ u_ws zz_R4 zz_T4 8, w ∈ zz_tb := zz_mem_r [289, 291, 293, 295, 297, 299, 301, 303] rfl (by decide +kernel)
set_option maxRecDepth 200000 in
theorem zz_in5 : ∀ w ∈ u_ws zz_R5 zz_T5 2, w ∈ zz_tb := zz_mem_r [421, 423] rfl (by decide +kernel)
set_option maxRecDepth 200000 in
theorem zz_in6 : ∀ w ∈ u_ws zz_R6 zz_T6 8, w ∈ zz_tb := zz_mem_r [218, 220, 222, 224, 226, 228, 230, 232] rfl (by decide +kernel)
set_option maxRecDepth 200000 in
theorem zz_in7 : ∀ w ∈ u_ws zz_R7 zz_T7 2, w ∈ zz_tb := zz_mem_r [332, 334] rfl (by decide +kernel)
set_option maxRecDepth 200000 in
theorem zz_in8 : ∀ w ∈ u_ws zz_R8 zz_T8 9, w ∈ zz_tb := zz_mem_r [523, 525, 527, 529, 531, 533, 535, 537, 539] rfl (by decide +kernel)
set_option maxRecDepth 200000 in
theorem zz_in9 : ∀ w ∈ u_ws zz_R9 zz_T9 12, w ∈ zz_tb := zz_mem_r [386, 388, 390, 392, 394, 396, 398, 400, 402, 404, 406, 408] rfl (by decide +kernel)
set_option maxRecDepth 200000 in
theorem zz_in10 : ∀ w ∈ u_ws zz_R10 zz_T10 7, w ∈ zz_tb := zz_mem_r [486, 488, 490, 492, 494, 496, 498] rfl (by decide +kernel)
set_option maxRecDepth 200000 in
theorem zz_in11 : ∀ w ∈ u_ws zz_R11 zz_T11 7, w ∈ zz_tb := zz_mem_r [552, 554, 556, 558, 560, 562, 564] rfl (by decide +kernel)
set_option maxRecDepth 200000 in
theorem zz_in12 : ∀ w ∈ u_ws zz_R12 zz_T12 58, w ∈ zz_tb := zz_mem_r [1416, 1418, 1420, 1422, 1424, 1426, 1428, 1430, 1432, 1434, 1436, 1438, 1440, 1442, 1444, 1446, 1448, 1450, 1452, 1454, 1456, 1458, 1460, 1462, 1464, 1466, 1468, 1470, 1472, 1474, 1476, 1478, 1480, 1482, 1484, 1486, 1488, 1490, 1492, 1494, 1496, 1498, 1500, 1502, 1504, 1506, 1508, 1510, 1512, 1514, 1516, 1518, 1520, 1522, 1524, 1526, 1528, 1530] rfl (by decide +kernel)
/-! THE PURE MACHINE AND THE REAL ONE: how the memory lies in the heap. -/
def zz_k0 : List (Nat × Nat × Nat) := [(11, 0, 0), (0, 600, 0), (51, 600, 0), (0, 1200, 0), (51, 1200, 0), (6, 0, 0), (2, 0, 0), (50, 60, 0), (50, 60, 0), (50, 60, 0), (50, 41, 0)]
def zz_k3 : List (Nat × Nat × Nat) := [(3, 0, 0), (2, 0, 0), (50, 60, 0), (50, 60, 0), (50, 60, 0), (4, 1890, 60), (1, 1890, 0), (50, 1890, 0), (50, 1890, 0), (50, 1890, 0), (50, 1890, 0), (50, 60, 0), (53, 61, 1009), (54, 61, 1609), (50, 60, 0), (52, 60, 0), (50, 60, 0), (50, 60, 0), (0, 1200, 0), (51, 1200, 0), (0, 1200, 0), (51, 1200, 0)]
def zz_k10 : List (Nat × Nat × Nat) := [(10, 0, 0), (5, 120, 0), (50, 120, 0), (4, 0, 0), (1, 0, 0), (50, 0, 0), (50, 0, 0), (50, 0, 0), (50, 0, 0), (50, 0, 0), (9, 0, 0), (7, 0, 0), (7, 0, 0), (7, 0, 0), (7, 0, 0), (7, 0, 0), (7, 0, 0), (53, 61, 107)]
def zz_k8 : List (Nat × Nat × Nat) := [(8, 0, 0), (50, 6, 0), (50, 6, 0), (50, 6, 0), (4, 0, 0), (1, 0, 0), (50, 0, 0), (50, 0, 0), (50, 0, 0), (50, 0, 0), (50, 0, 0), (53, 7, 107)]
def zz_k12 : List (Nat × Nat × Nat) := [(12, 0, 0), (50, 20000, 0), (50, 20000, 0), (50, 2184, 0), (50, 800, 0), (50, 61, 0), (50, 61, 0), (50, 61, 0), (50, 61, 0), (52, 61, 0), (50, 61, 0), (50, 3904, 0), (50, 61, 0), (51, 600, 0), (50, 5, 0), (50, 40, 0), (50, 40, 0), (50, 40, 0), (50, 41, 0), (50, 20000, 0), (50, 6, 0), (50, 6, 0), (50, 61, 0), (50, 800, 0), (51, 1400, 0), (50, 564, 0)]
/-- the kind of the i-th own cell -/
def zz_K (i : Nat) : Nat × Nat × Nat :=
  if i < 11 then zz_k0.getD i (99, 0, 0)
  else if i < 582 then (if i < 33 then zz_k3.getD (i - 11) (99, 0, 0) else if (i - 33) % 9 = 0 then (9, 0, 0) else if (i - 33) % 9 < 7 then (7, 0, 0) else if (i - 33) % 9 = 7 then (5, 60, 0) else (50, 60, 0))
  else if i < 1027 then (if i < 600 then zz_k10.getD (i - 582) (99, 0, 0) else if (i - 600) % 7 = 0 then (9, 0, 0) else (7, 0, 0))
  else if i < 1088 then (if i < 1039 then zz_k8.getD (i - 1027) (99, 0, 0) else if (i - 1039) % 7 = 0 then (9, 0, 0) else (7, 0, 0))
  else if i < 1089 then (55, 3, 104)
  else if i < 1101 then (if (i - 1089) % 4 = 0 then (2, 0, 0) else (50, 60, 0))
  else zz_k12.getD (i - 1101) (99, 0, 0)
abbrev zz_n : Nat := 1127
/-- what stays the same in a run: launch, first own cell, numbers of classes and slots, array classes, texts -/
abbrev zz_X : Type := Launch × Nat × va_G × (Nat → ClassId) × (Nat → Nat) × (Nat → Nat)
abbrev zz_X.l (X : zz_X) : Launch := X.1
abbrev zz_X.b (X : zz_X) : Nat := X.2.1
abbrev zz_X.D (X : zz_X) : va_G := X.2.2.1
abbrev zz_X.dA (X : zz_X) : Nat → ClassId := X.2.2.2.1
abbrev zz_X.sa (X : zz_X) : Nat → Nat := X.2.2.2.2.1
abbrev zz_X.sv (X : zz_X) : Nat → Nat := X.2.2.2.2.2
abbrev zz_cl : List vw_C := [(zz_R0, zz_T0, 2), (zz_R1, zz_T1, 6), (zz_R2, zz_T2, 8), (zz_R3, zz_T3, 11), (zz_R4, zz_T4, 8), (zz_R5, zz_T5, 2), (zz_R6, zz_T6, 8), (zz_R7, zz_T7, 2), (zz_R8, zz_T8, 9), (zz_R9, zz_T9, 12), (zz_R10, zz_T10, 7), (zz_R11, zz_T11, 7), (zz_R12, zz_T12, 58)]
def zz_tys (X : zz_X) : List (ClassId × FieldType) := [(X.dA 0, .int), (X.dA 1, .byte), (X.dA 2, .boolean), (X.dA 3, .object "TurnQueues$State"), (X.dA 4, .object "TurnQueues$Numbers"), (X.dA 5, .object "TurnQueues$Deeds")]
/-- the region of the own cells -/
def zz_A (X : zz_X) : Nat → Prop := fun q => X.b ≤ q
def zz_nf : Nat → Nat := fun t => match t with
  | 0 => 2
  | 1 => 6
  | 2 => 8
  | 3 => 11
  | 4 => 8
  | 5 => 2
  | 6 => 8
  | 7 => 2
  | 8 => 9
  | 9 => 12
  | 10 => 7
  | 11 => 7
  | 12 => 58
  | _ => 0
def zz_fs (t p q : Nat) (σ : zz_M) (a : Nat) : List Value := (List.range (zz_nf t)).map (fun k => match zz_rf (100 * t + k) p q with
  | some r => .ref (a + r.2.2.2)
  | none => .int (Int32.ofInt (σ.1 (100 * t + k) a)))
def zz_ce (X : zz_X) (σ : zz_M) (a : Nat) (K : Nat × Nat × Nat) : va_E :=
  if K.1 < 50 then .inr (K.1, zz_fs K.1 K.2.1 K.2.2 σ a)
  else if K.1 < 53 then .inl (X.dA (K.1 - 50), K.2.1, .inl (fun i => Int32.ofInt (σ.2 a i)))
  else .inl (X.dA (K.1 - 50), K.2.1, .inr (.inr (.inr (.inr (fun i => some (a + K.2.2 / 100 + K.2.2 % 100 * i))))))
def zz_ws (X : zz_X) (σ : zz_M) : va_W := (List.range zz_n).map (fun i => (X.b + i, zz_ce X σ (X.b + i) (zz_K i)))
/-- the texts -/
def zz_nS : Nat := 37
def zz_tx (i : Nat) : List Nat := match i with
  | 0 => [104, 111, 117, 115, 101]
  | 1 => [108, 97, 119]
  | 2 => [98, 97, 108, 97, 110, 99, 101]
  | 3 => [112, 117, 116]
  | 4 => [116, 97, 107, 101]
  | 5 => [102, 111, 114, 101]
  | 6 => [108, 97, 115, 116]
  | 7 => [102]
  | 8 => [124, 98]
  | 9 => [124, 116, 117, 114, 110, 105, 110, 103, 32]
  | 10 => [124, 97]
  | 11 => [124, 99]
  | 12 => [124, 100]
  | 13 => [124, 101]
  | 14 => [124, 106, 111, 105, 110, 105, 110, 103, 32]
  | 15 => [124, 105, 100, 108, 101]
  | 16 => [124, 111, 119, 101, 115, 32]
  | 17 => [32]
  | 18 => [104, 111, 117, 115, 101]
  | 19 => [108, 97, 119]
  | 20 => [98, 97, 108, 97, 110, 99, 101]
  | 21 => [112, 117, 116]
  | 22 => [116, 97, 107, 101]
  | 23 => [102, 111, 114, 101]
  | 24 => [108, 97, 115, 116]
  | 25 => [102]
  | 26 => [32]
  | 27 => [45]
  | 28 => [124, 98]
  | 29 => [124, 105, 100, 108, 101]
  | 30 => [124, 116, 117, 114, 110, 105, 110, 103, 32]
  | 31 => [124, 106, 111, 105, 110, 105, 110, 103, 32]
  | 32 => [124, 97]
  | 33 => [124, 99]
  | 34 => [124, 100]
  | 35 => [124, 101]
  | 36 => [124, 111, 119, 101, 115, 32]
  | _ => []
def zz_sr : List (String × Nat × String) := [("TurnQueues$Reader", 54, "house"), ("TurnQueues$Reader", 60, "law"), ("TurnQueues$Reader", 68, "balance"), ("TurnQueues$Reader", 103, "put"), ("TurnQueues$Reader", 109, "take"), ("TurnQueues$Reader", 111, "fore"), ("TurnQueues$Reader", 113, "last"), ("TurnQueues$History", 198, "f"), ("TurnQueues$History", 208, "|b"), ("TurnQueues$History", 234, "|turning "), ("TurnQueues$History", 239, "|a"), ("TurnQueues$History", 244, "|c"), ("TurnQueues$History", 249, "|d"), ("TurnQueues$History", 254, "|e"), ("TurnQueues$History", 259, "|joining "), ("TurnQueues$History", 261, "|idle"), ("TurnQueues$History", 217, "|owes "), ("TurnQueues$History", 226, " "), ("TurnQueuesModel", 273, "house"), ("TurnQueuesModel", 275, "law"), ("TurnQueuesModel", 280, "balance"), ("TurnQueuesModel", 256, "put"), ("TurnQueuesModel", 258, "take"), ("TurnQueuesModel", 263, "fore"), ("TurnQueuesModel", 265, "last"), ("TurnQueuesModel", 453, "f"), ("TurnQueuesModel", 433, " "), ("TurnQueuesModel", 421, "-"), ("TurnQueuesModel", 455, "|b"), ("TurnQueuesModel", 435, "|idle"), ("TurnQueuesModel", 437, "|turning "), ("TurnQueuesModel", 439, "|joining "), ("TurnQueuesModel", 441, "|a"), ("TurnQueuesModel", 447, "|c"), ("TurnQueuesModel", 449, "|d"), ("TurnQueuesModel", 451, "|e"), ("TurnQueuesModel", 460, "|owes ")]
def zz_S (X : zz_X) (U : State) (H : Heap) : Prop := ∀ i, i < zz_nS → va_O "java/lang/String" (X.sa i) (zz_A X) U H ∧ va_OF "java/lang/String" "coder" "B" (.int 0) (X.sa i) (zz_A X) U H ∧ va_OF "java/lang/String" "value" "[B" (.ref (X.sv i)) (X.sa i) (zz_A X) U H ∧ va_T .byte (X.sv i) (zz_tx i).length (fun j => .int (nI ((zz_tx i).getD j 0))) (zz_A X) U H
def zz_ml : List MethodName := [⟨"TurnQueues$Bytes", "<init>", "(I)V"⟩, ⟨"TurnQueues$Bytes", "add", "(I)V"⟩, ⟨"TurnQueues$Bytes", "addFour", "(I)V"⟩, ⟨"TurnQueues$Bytes", "addWord", "(Ljava/lang/String;)V"⟩, ⟨"TurnQueues$Bytes", "addNumber", "(I)V"⟩, ⟨"TurnQueues$Bytes", "byteAt", "(I)I"⟩, ⟨"TurnQueues$Bytes", "equalTo", "(LTurnQueues$Bytes;)Z"⟩, ⟨"TurnQueues$Cells", "<init>", "(I)V"⟩, ⟨"TurnQueues$Cells", "numberOf", "(I)I"⟩, ⟨"TurnQueues$Cells", "makerOf", "(I)I"⟩, ⟨"TurnQueues$Cells", "behind", "(I)I"⟩, ⟨"TurnQueues$Cells", "add", "(LTurnQueues$Row;II)V"⟩, ⟨"TurnQueues$Cells", "dropFirst", "(LTurnQueues$Row;)V"⟩, ⟨"TurnQueues$Cells", "cellIn", "(LTurnQueues$Row;I)I"⟩, ⟨"TurnQueues$Cells", "unmarkAll", "()V"⟩, ⟨"TurnQueues$Cells", "markState", "(LTurnQueues$State;I)I"⟩, ⟨"TurnQueues$Cells", "markRow", "(LTurnQueues$Row;I)I"⟩, ⟨"TurnQueues$Deeds", "<init>", "()V"⟩, ⟨"TurnQueues$Deeds", "clear", "()V"⟩, ⟨"TurnQueues$Deeds", "become", "(LTurnQueues$Deeds;)V"⟩, ⟨"TurnQueues$Deeds", "add", "(III)V"⟩, ⟨"TurnQueues$Deeds", "versions", "()I"⟩, ⟨"TurnQueues$Deeds", "lines", "()I"⟩, ⟨"TurnQueues$Deeds", "acts", "()I"⟩, ⟨"TurnQueues$Deeds", "hasVersion", "(I)Z"⟩, ⟨"TurnQueues$Deeds", "hasDeed", "(I)Z"⟩, ⟨"TurnQueues$Deeds", "baseOf", "(I)I"⟩, ⟨"TurnQueues$Deeds", "depth", "(I)I"⟩, ⟨"TurnQueues$Deeds", "meeting", "(II)I"⟩, ⟨"TurnQueues$Deeds", "madeOf", "(I)I"⟩, ⟨"TurnQueues$Deeds", "lawRefusal", "(I)I"⟩, ⟨"TurnQueues$History", "<init>", "()V"⟩, ⟨"TurnQueues$History", "become", "(LTurnQueues$Deeds;)V"⟩, ⟨"TurnQueues$History", "enact", "(I)V"⟩, ⟨"TurnQueues$History", "stateOf", "(I)LTurnQueues$State;"⟩, ⟨"TurnQueues$History", "queueOf", "(I)LTurnQueues$Numbers;"⟩, ⟨"TurnQueues$History", "rowOf", "(II)LTurnQueues$Row;"⟩, ⟨"TurnQueues$History", "hasAll", "(III)Z"⟩, ⟨"TurnQueues$History", "actPutting", "(III)I"⟩, ⟨"TurnQueues$History", "actTaking", "(II)I"⟩, ⟨"TurnQueues$History", "actAlongWay", "(II)I"⟩, ⟨"TurnQueues$History", "cutTo", "(I)V"⟩, ⟨"TurnQueues$History", "findWay", "(II)I"⟩, ⟨"TurnQueues$History", "wayDeed", "(I)I"⟩, ⟨"TurnQueues$History", "stepsOnWay", "(I)I"⟩, ⟨"TurnQueues$History", "mostOnWay", "(I)I"⟩, ⟨"TurnQueues$History", "stepsOf", "(I)I"⟩, ⟨"TurnQueues$History", "stepsOfAll", "()I"⟩, ⟨"TurnQueues$History", "dearestDeed", "()I"⟩, ⟨"TurnQueues$History", "overdueDeeds", "()I"⟩, ⟨"TurnQueues$History", "heldByAll", "()I"⟩, ⟨"TurnQueues$History", "heldBySet", "(J)I"⟩, ⟨"TurnQueues$History", "leastEqual", "(I)I"⟩, ⟨"TurnQueues$History", "leastToldAlike", "(I)I"⟩, ⟨"TurnQueues$History", "write", "(ILTurnQueues$Bytes;)V"⟩, ⟨"TurnQueues$History", "writeTurn", "(LTurnQueues$Bytes;LTurnQueues$State;)V"⟩, ⟨"TurnQueues$History", "writeCount", "(LTurnQueues$Bytes;Ljava/lang/String;I)V"⟩, ⟨"TurnQueues$History", "writeRow", "(LTurnQueues$Bytes;Ljava/lang/String;LTurnQueues$Row;)V"⟩, ⟨"TurnQueues$Mill", "<init>", "(II)V"⟩, ⟨"TurnQueues$Mill", "obey", "(II)V"⟩, ⟨"TurnQueues$Mill", "perform", "(LTurnQueues$State;III)I"⟩, ⟨"TurnQueues$Mill", "change", "(LTurnQueues$State;II)V"⟩, ⟨"TurnQueues$Mill", "move", "(LTurnQueues$Row;LTurnQueues$Row;)V"⟩, ⟨"TurnQueues$Mill", "turnAtOnce", "(LTurnQueues$State;)V"⟩, ⟨"TurnQueues$Mill", "disown", "(LTurnQueues$State;)V"⟩, ⟨"TurnQueues$Mill", "turnBySteps", "(LTurnQueues$State;)V"⟩, ⟨"TurnQueues$Mill", "beginTurning", "(LTurnQueues$State;)V"⟩, ⟨"TurnQueues$Mill", "turnOnce", "(LTurnQueues$State;)V"⟩, ⟨"TurnQueues$Mill", "even", "(LTurnQueues$State;I)V"⟩, ⟨"TurnQueues$Mill", "split", "(LTurnQueues$State;LTurnQueues$Row;LTurnQueues$Row;)V"⟩, ⟨"TurnQueues$Mill", "lay", "(LTurnQueues$Row;II)V"⟩, ⟨"TurnQueues$Mill", "laidAt", "(I)I"⟩, ⟨"TurnQueues$Numbers", "<init>", "(I)V"⟩, ⟨"TurnQueues$Numbers", "become", "(LTurnQueues$Numbers;)V"⟩, ⟨"TurnQueues$Numbers", "numberAt", "(I)I"⟩, ⟨"TurnQueues$Numbers", "change", "(II)I"⟩, ⟨"TurnQueues$Numbers", "insert", "(II)V"⟩, ⟨"TurnQueues$Numbers", "remove", "(I)I"⟩, ⟨"TurnQueues$Numbers", "equalTo", "(LTurnQueues$Numbers;)Z"⟩, ⟨"TurnQueues$Reader", "<init>", "()V"⟩, ⟨"TurnQueues$Reader", "readText", "(LTurnQueues$Bytes;)Z"⟩, ⟨"TurnQueues$Reader", "readHouseLine", "(LTurnQueues$Bytes;)V"⟩, ⟨"TurnQueues$Reader", "readDeedLine", "(LTurnQueues$Bytes;)V"⟩, ⟨"TurnQueues$Reader", "expectVersion", "(LTurnQueues$Bytes;Z)I"⟩, ⟨"TurnQueues$Reader", "kindOfWord", "(LTurnQueues$Bytes;)I"⟩, ⟨"TurnQueues$Reader", "refuse", "(I)V"⟩, ⟨"TurnQueues$Reader", "expectWord", "(LTurnQueues$Bytes;Ljava/lang/String;)V"⟩, ⟨"TurnQueues$Reader", "expectSign", "(LTurnQueues$Bytes;)V"⟩, ⟨"TurnQueues$Reader", "expectNumber", "(LTurnQueues$Bytes;II)I"⟩, ⟨"TurnQueues$Reader", "isWord", "(LTurnQueues$Bytes;Ljava/lang/String;)Z"⟩, ⟨"TurnQueues$Reader", "step", "(LTurnQueues$Bytes;)V"⟩, ⟨"TurnQueues$Reader", "readWord", "(LTurnQueues$Bytes;)V"⟩, ⟨"TurnQueues$Reader", "readNumber", "(LTurnQueues$Bytes;)V"⟩, ⟨"TurnQueues$Reader", "isBlank", "(I)Z"⟩, ⟨"TurnQueues$Reader", "isLetter", "(I)Z"⟩, ⟨"TurnQueues$Reader", "isDigit", "(I)Z"⟩, ⟨"TurnQueues$Row", "<init>", "()V"⟩, ⟨"TurnQueues$Row", "become", "(LTurnQueues$Row;)V"⟩, ⟨"TurnQueues$Row", "clear", "()V"⟩, ⟨"TurnQueues$Scout", "<init>", "()V"⟩, ⟨"TurnQueues$Scout", "tryAll", "(LTurnQueues$Deeds;LTurnQueues$State;I)V"⟩, ⟨"TurnQueues$Scout", "tryFrom", "(LTurnQueues$Scout;II)V"⟩, ⟨"TurnQueues$Scout", "noteDeed", "(III)V"⟩, ⟨"TurnQueues$Scout", "noteRow", "(I)V"⟩, ⟨"TurnQueues$Scout", "worstKind", "(I)I"⟩, ⟨"TurnQueues$Scout", "fewestFor", "(I)I"⟩, ⟨"TurnQueues$State", "<init>", "()V"⟩, ⟨"TurnQueues$State", "clearTurn", "()V"⟩, ⟨"TurnQueues$State", "become", "(LTurnQueues$State;)V"⟩, ⟨"TurnQueues$State", "isAtRest", "()Z"⟩, ⟨"TurnQueues$State", "rowNumbered", "(I)LTurnQueues$Row;"⟩, ⟨"TurnQueues$Trial", "<init>", "()V"⟩, ⟨"TurnQueues$Trial", "begin", "(LTurnQueues$Deeds;LTurnQueues$State;)V"⟩, ⟨"TurnQueues$Trial", "stepsOfAll", "(LTurnQueues$Deeds;II)I"⟩, ⟨"TurnQueues$Trial", "cheapestRatio", "(LTurnQueues$Deeds;)I"⟩, ⟨"TurnQueues$Trial", "putsTillTurned", "(LTurnQueues$Deeds;LTurnQueues$State;)I"⟩, ⟨"TurnQueues$Trial", "putsTillAtRest", "(LTurnQueues$Deeds;LTurnQueues$State;)I"⟩, ⟨"TurnQueues$Trial", "stepsToDrain", "(LTurnQueues$Deeds;LTurnQueues$State;)I"⟩, ⟨"TurnQueues$Trial", "stepsOfLetters", "(LTurnQueues$Deeds;LTurnQueues$State;LTurnQueues$Bytes;)I"⟩, ⟨"TurnQueues$Trial", "kindOfLetter", "(II)I"⟩, ⟨"TurnQueues$Trial", "graftWay", "(LTurnQueues$History;III)I"⟩, ⟨"TurnQueues$Trial", "graftDeed", "(LTurnQueues$Deeds;I)V"⟩, ⟨"TurnQueues", "<init>", "()V"⟩, ⟨"TurnQueues", "feed", "(IIIII)I"⟩, ⟨"TurnQueues", "end", "(I)I"⟩, ⟨"TurnQueues", "house", "()I"⟩, ⟨"TurnQueues", "fault", "(I)I"⟩, ⟨"TurnQueues", "count", "(I)I"⟩, ⟨"TurnQueues", "version", "(II)I"⟩, ⟨"TurnQueues", "size", "(I)I"⟩, ⟨"TurnQueues", "at", "(II)I"⟩, ⟨"TurnQueues", "first", "(I)I"⟩, ⟨"TurnQueues", "tail", "(I)I"⟩, ⟨"TurnQueues", "like", "(I)I"⟩, ⟨"TurnQueues", "forks", "(I)I"⟩, ⟨"TurnQueues", "meet", "(II)I"⟩, ⟨"TurnQueues", "apart", "(II)I"⟩, ⟨"TurnQueues", "state", "(II)I"⟩, ⟨"TurnQueues", "row", "(II)I"⟩, ⟨"TurnQueues", "cell", "(III)I"⟩, ⟨"TurnQueues", "twin", "(I)I"⟩, ⟨"TurnQueues", "path", "(II)I"⟩, ⟨"TurnQueues", "along", "(II)I"⟩, ⟨"TurnQueues", "origin", "(III)I"⟩, ⟨"TurnQueues", "from", "(II)I"⟩, ⟨"TurnQueues", "lost", "()I"⟩, ⟨"TurnQueues", "holds", "(I)I"⟩, ⟨"TurnQueues", "shares", "(II)I"⟩, ⟨"TurnQueues", "held", "(J)I"⟩, ⟨"TurnQueues", "made", "()I"⟩, ⟨"TurnQueues", "spent", "(I)I"⟩, ⟨"TurnQueues", "ledger", "()I"⟩, ⟨"TurnQueues", "dearest", "()I"⟩, ⟨"TurnQueues", "overdue", "()I"⟩, ⟨"TurnQueues", "by", "(I)I"⟩, ⟨"TurnQueues", "peak", "(I)I"⟩, ⟨"TurnQueues", "balanced", "(I)I"⟩, ⟨"TurnQueues", "balance", "()I"⟩, ⟨"TurnQueues", "until", "(I)I"⟩, ⟨"TurnQueues", "rest", "(I)I"⟩, ⟨"TurnQueues", "worst", "(III)I"⟩, ⟨"TurnQueues", "worstAt", "(III)I"⟩, ⟨"TurnQueues", "spike", "(II)I"⟩, ⟨"TurnQueues", "drain", "(I)I"⟩, ⟨"TurnQueues", "tell", "(I)I"⟩, ⟨"TurnQueues", "octet", "(I)I"⟩, ⟨"TurnQueues", "walk", "(I)I"⟩, ⟨"TurnQueues", "grafting", "(IIII)I"⟩, ⟨"TurnQueues", "grafted", "(IIII)I"⟩, ⟨"TurnQueues", "graft", "(III)I"⟩, ⟨"TurnQueues", "image", "(I)I"⟩, ⟨"TurnQueues", "back", "(I)I"⟩, ⟨"TurnQueues", "put", "(II)I"⟩, ⟨"TurnQueues", "take", "(I)I"⟩, ⟨"TurnQueues", "fore", "(II)I"⟩, ⟨"TurnQueues", "last", "(I)I"⟩, ⟨"TurnQueues", "undo", "()I"⟩, ⟨"TurnQueues", "anew", "()I"⟩, ⟨"TurnQueues", "isPutting", "(I)Z"⟩, ⟨"TurnQueuesModel", "<init>", "()V"⟩, ⟨"TurnQueuesModel", "in", "(JJJ)Z"⟩, ⟨"TurnQueuesModel", "ahead", "(II)I"⟩, ⟨"TurnQueuesModel", "lengthOf", "(I)I"⟩, ⟨"TurnQueuesModel", "of", "(II)I"⟩, ⟨"TurnQueuesModel", "sets", "(III)V"⟩, ⟨"TurnQueuesModel", "empties", "(I)V"⟩, ⟨"TurnQueuesModel", "copies", "(II)V"⟩, ⟨"TurnQueuesModel", "pushes", "(III)V"⟩, ⟨"TurnQueuesModel", "pops", "(II)I"⟩, ⟨"TurnQueuesModel", "deeds", "(IIII)I"⟩, ⟨"TurnQueuesModel", "turnsAll", "(I)V"⟩, ⟨"TurnQueuesModel", "goesOn", "(IZ)V"⟩, ⟨"TurnQueuesModel", "takenBy", "(I)V"⟩, ⟨"TurnQueuesModel", "becomesReady", "(I)V"⟩, ⟨"TurnQueuesModel", "begins", "(II)V"⟩, ⟨"TurnQueuesModel", "turns", "(I)V"⟩, ⟨"TurnQueuesModel", "evens", "(II)V"⟩, ⟨"TurnQueuesModel", "evensBy", "(III)V"⟩, ⟨"TurnQueuesModel", "asked", "(II)I"⟩, ⟨"TurnQueuesModel", "laysQueue", "(IIII)V"⟩, ⟨"TurnQueuesModel", "makes", "(III)I"⟩, ⟨"TurnQueuesModel", "beginsHouse", "()V"⟩, ⟨"TurnQueuesModel", "feed", "(IIIII)I"⟩, ⟨"TurnQueuesModel", "end", "(I)I"⟩, ⟨"TurnQueuesModel", "see", "(I)I"⟩, ⟨"TurnQueuesModel", "advance", "()V"⟩, ⟨"TurnQueuesModel", "good", "()Z"⟩, ⟨"TurnQueuesModel", "errs", "(I)V"⟩, ⟨"TurnQueuesModel", "is", "(Ljava/lang/String;)Z"⟩, ⟨"TurnQueuesModel", "takes", "(II)I"⟩, ⟨"TurnQueuesModel", "told", "(Ljava/lang/String;II)I"⟩, ⟨"TurnQueuesModel", "fault", "(I)I"⟩, ⟨"TurnQueuesModel", "kindHere", "()I"⟩, ⟨"TurnQueuesModel", "readDeed", "()V"⟩, ⟨"TurnQueuesModel", "house", "()I"⟩, ⟨"TurnQueuesModel", "isHouse", "()Z"⟩, ⟨"TurnQueuesModel", "isVersion", "(I)Z"⟩, ⟨"TurnQueuesModel", "deedMany", "()I"⟩, ⟨"TurnQueuesModel", "count", "(I)I"⟩, ⟨"TurnQueuesModel", "version", "(II)I"⟩, ⟨"TurnQueuesModel", "size", "(I)I"⟩, ⟨"TurnQueuesModel", "at", "(II)I"⟩, ⟨"TurnQueuesModel", "first", "(I)I"⟩, ⟨"TurnQueuesModel", "tail", "(I)I"⟩, ⟨"TurnQueuesModel", "areLike", "(II)Z"⟩, ⟨"TurnQueuesModel", "like", "(I)I"⟩, ⟨"TurnQueuesModel", "forks", "(I)I"⟩, ⟨"TurnQueuesModel", "meetOf", "(II)I"⟩, ⟨"TurnQueuesModel", "meet", "(II)I"⟩, ⟨"TurnQueuesModel", "apart", "(II)I"⟩, ⟨"TurnQueuesModel", "areLikeRows", "(III)Z"⟩, ⟨"TurnQueuesModel", "areTwins", "(II)Z"⟩, ⟨"TurnQueuesModel", "twin", "(I)I"⟩, ⟨"TurnQueuesModel", "deepOf", "(I)I"⟩, ⟨"TurnQueuesModel", "path", "(II)I"⟩, ⟨"TurnQueuesModel", "along", "(II)I"⟩, ⟨"TurnQueuesModel", "deedOf", "(I)I"⟩, ⟨"TurnQueuesModel", "origin", "(III)I"⟩, ⟨"TurnQueuesModel", "from", "(II)I"⟩, ⟨"TurnQueuesModel", "lost", "()I"⟩, ⟨"TurnQueuesModel", "state", "(II)I"⟩, ⟨"TurnQueuesModel", "row", "(II)I"⟩, ⟨"TurnQueuesModel", "cell", "(III)I"⟩, ⟨"TurnQueuesModel", "forgets", "()V"⟩, ⟨"TurnQueuesModel", "marks", "(II)V"⟩, ⟨"TurnQueuesModel", "marked", "(I)I"⟩, ⟨"TurnQueuesModel", "holds", "(I)I"⟩, ⟨"TurnQueuesModel", "shares", "(II)I"⟩, ⟨"TurnQueuesModel", "held", "(J)I"⟩, ⟨"TurnQueuesModel", "made", "()I"⟩, ⟨"TurnQueuesModel", "spent", "(I)I"⟩, ⟨"TurnQueuesModel", "ledger", "()I"⟩, ⟨"TurnQueuesModel", "dearest", "()I"⟩, ⟨"TurnQueuesModel", "overdue", "()I"⟩, ⟨"TurnQueuesModel", "replays", "(II)I"⟩, ⟨"TurnQueuesModel", "isTwoSided", "()Z"⟩, ⟨"TurnQueuesModel", "asksLaw", "(I)I"⟩, ⟨"TurnQueuesModel", "by", "(I)I"⟩, ⟨"TurnQueuesModel", "peak", "(I)I"⟩, ⟨"TurnQueuesModel", "balanced", "(I)I"⟩, ⟨"TurnQueuesModel", "balance", "()I"⟩, ⟨"TurnQueuesModel", "until", "(I)I"⟩, ⟨"TurnQueuesModel", "isAtRest", "(I)Z"⟩, ⟨"TurnQueuesModel", "rest", "(I)I"⟩, ⟨"TurnQueuesModel", "goes", "(III)V"⟩, ⟨"TurnQueuesModel", "goesAll", "(II)V"⟩, ⟨"TurnQueuesModel", "worstAt", "(III)I"⟩, ⟨"TurnQueuesModel", "spike", "(II)I"⟩, ⟨"TurnQueuesModel", "worst", "(III)I"⟩, ⟨"TurnQueuesModel", "drain", "(I)I"⟩, ⟨"TurnQueuesModel", "laysWay", "(II)Z"⟩, ⟨"TurnQueuesModel", "takesOut", "(I)V"⟩, ⟨"TurnQueuesModel", "putsIn", "(II)V"⟩, ⟨"TurnQueuesModel", "grafts", "(I)I"⟩, ⟨"TurnQueuesModel", "areThree", "(III)Z"⟩, ⟨"TurnQueuesModel", "grafting", "(IIII)I"⟩, ⟨"TurnQueuesModel", "grafted", "(IIII)I"⟩, ⟨"TurnQueuesModel", "graft", "(III)I"⟩, ⟨"TurnQueuesModel", "tells", "(Ljava/lang/String;)V"⟩, ⟨"TurnQueuesModel", "tellsNumber", "(I)V"⟩, ⟨"TurnQueuesModel", "tellsRow", "(Ljava/lang/String;I)V"⟩, ⟨"TurnQueuesModel", "tellsState", "(I)V"⟩, ⟨"TurnQueuesModel", "tell", "(I)I"⟩, ⟨"TurnQueuesModel", "octet", "(I)I"⟩, ⟨"TurnQueuesModel", "kindBy", "(I)I"⟩, ⟨"TurnQueuesModel", "walks", "(II)I"⟩, ⟨"TurnQueuesModel", "walk", "(I)I"⟩, ⟨"TurnQueuesModel", "isFull", "()Z"⟩, ⟨"TurnQueuesModel", "put", "(II)I"⟩, ⟨"TurnQueuesModel", "take", "(I)I"⟩, ⟨"TurnQueuesModel", "fore", "(II)I"⟩, ⟨"TurnQueuesModel", "last", "(I)I"⟩, ⟨"TurnQueuesModel", "image", "(I)I"⟩, ⟨"TurnQueuesModel", "back", "(I)I"⟩, ⟨"TurnQueuesModel", "takesBack", "()V"⟩, ⟨"TurnQueuesModel", "undo", "()I"⟩, ⟨"TurnQueuesModel", "anew", "()I"⟩, ⟨"java/lang/String", "length", "()I"⟩, ⟨"java/lang/String", "charAt", "(I)C"⟩, ⟨"java/lang/Math", "max", "(II)I"⟩, ⟨"java/lang/Math", "min", "(II)I"⟩, ⟨"java/lang/Math", "abs", "(I)I"⟩]
def zz_mn (n : Nat) : MethodName := zz_ml.getD n ⟨"", "", ""⟩
/-- the static methods that a nest mate calls -/
def zz_nl : List (String × Nat × MethodName) := [("TurnQueues$Reader", 84, ⟨"TurnQueues", "isPutting", "(I)Z"⟩), ("TurnQueues$Mill", 61, ⟨"TurnQueues", "isPutting", "(I)Z"⟩), ("TurnQueues$Trial", 117, ⟨"TurnQueues", "isPutting", "(I)Z"⟩)]
def zz_SR (X : zz_X) (U : State) : Prop := (∀ (i : Nat) (q : String × Nat × String), zz_sr[i]? = some q → vk_R q.1 q.2.1 q.2.2 (X.sa i) U) ∧ ∀ (i : Nat) (q : String × Nat × MethodName), zz_nl[i]? = some q → va_Nw (.methodLinkNest q.1 q.2.1 q.2.2 "TurnQueues") U
/-- what holds around the own cells -/
def zz_E (X : zz_X) (U : State) (H : Heap) : Prop := va_K X.D zz_cl (zz_tys X) U ∧ zz_S X U H ∧ zz_SR X U ∧ va_Z "java/lang/String" "COMPACT_STRINGS" "Z" (.int 1) (zz_A X) U H ∧ va_Zq "jdk/internal/util/Preconditions" "SIOOBE_FORMATTER" "Ljava/util/function/BiFunction;" (zz_A X) U H ∧ X.b ≤ H.size
/-- the memory lies in the heap -/
def zz_R (X : zz_X) (σ : zz_M) (H : Heap) : Prop := va_P X.D zz_cl (zz_ws X σ) H ∧ (∀ f a, zz_in (σ.1 f a)) ∧ (∀ a i, zz_in (σ.2 a i))
def zz_toV (X : zz_X) : zz_V → Value
  | .inl i => .int (Int32.ofInt i)
  | .inr (.inl i) => .long (Int64.ofInt i)
  | .inr (.inr (.inl q)) => .ref q.2.2.2
  | .inr (.inr (.inr 0)) => .null
  | .inr (.inr (.inr 1)) => .null
  | .inr (.inr (.inr (k + 2))) => .ref (X.sa k)
/-- a good value: in range; a cell that is there -/
def zz_ok (X : zz_X) : zz_V → Prop
  | .inl i => zz_in i
  | .inr (.inl i) => zz_inL i
  | .inr (.inr (.inl q)) => ∃ i, i < zz_n ∧ q.2.2.2 = X.b + i ∧ zz_K i = (q.1, q.2.1, q.2.2.1)
  | .inr (.inr (.inr k)) => k < 2 ∨ k - 2 < zz_nS
def zz_lk (X : zz_X) (k : Nat) : Option zz_V → Option (Nat × Value)
  | some (.inr (.inr (.inr 1))) => none
  | some v => some (k, zz_toV X v)
  | none => none
def zz_lv (X : zz_X) (ls : List zz_V) : List (Nat × Value) := (List.range ls.length).filterMap (fun (k : Nat) => zz_lk X k ls[k]?)
