/-! the layout of the cells, by program (wip/gen) -/
def TA_ : u_T := fun k => match k with
  | 0 => ("LinearCells", "characters", "[C", true)
  | 1 => ("LinearCells", "characterCount", "I", false)
  | 2 => ("LinearCells", "procedures", "[LLinearCells$Procedure;", true)
  | 3 => ("LinearCells", "spare", "LLinearCells$Procedure;", false)
  | 4 => ("LinearCells", "reader", "LLinearCells$Reader;", true)
  | 5 => ("LinearCells", "checker", "LLinearCells$Checker;", true)
  | _ => ("LinearCells", "machine", "LLinearCells$Machine;", true)
def tyA_ : Nat → FieldType := fun k => match k with
  | 0 => .array (.char)
  | 1 => .int
  | 2 => .array (.object "LinearCells$Procedure")
  | 3 => .object "LinearCells$Procedure"
  | 4 => .object "LinearCells$Reader"
  | 5 => .object "LinearCells$Checker"
  | _ => .object "LinearCells$Machine"
theorem nmA_ : ∀ a, a < 7 → ∀ b, b < 7 → a ≠ b → (TA_ a).2.1 ≠ (TA_ b).2.1 := by decide +kernel
theorem tyA_ok : ∀ k, k < 7 → parseFieldDescriptor (TA_ k).2.2.1 = some (tyA_ k) := by decide +kernel
def TP_ : u_T := fun k => match k with
  | 0 => ("LinearCells$Procedure", "there", "Z", false)
  | 1 => ("LinearCells$Procedure", "callees", "I", false)
  | 2 => ("LinearCells$Procedure", "typeSigns", "[I", true)
  | 3 => ("LinearCells$Procedure", "typeSignCount", "I", false)
  | 4 => ("LinearCells$Procedure", "variableTypeEnd", "I", false)
  | 5 => ("LinearCells$Procedure", "kind", "[I", true)
  | 6 => ("LinearCells$Procedure", "first", "[I", true)
  | 7 => ("LinearCells$Procedure", "second", "[I", true)
  | 8 => ("LinearCells$Procedure", "third", "[I", true)
  | 9 => ("LinearCells$Procedure", "number", "[I", true)
  | 10 => ("LinearCells$Procedure", "binder", "[I", true)
  | 11 => ("LinearCells$Procedure", "count", "I", false)
  | 12 => ("LinearCells$Procedure", "bound", "[I", true)
  | _ => ("LinearCells$Procedure", "binderCount", "I", false)
def tyP_ : Nat → FieldType := fun k => match k with
  | 0 => .boolean
  | 1 => .int
  | 2 => .array (.int)
  | 3 => .int
  | 4 => .int
  | 5 => .array (.int)
  | 6 => .array (.int)
  | 7 => .array (.int)
  | 8 => .array (.int)
  | 9 => .array (.int)
  | 10 => .array (.int)
  | 11 => .int
  | 12 => .array (.int)
  | _ => .int
theorem nmP_ : ∀ a, a < 14 → ∀ b, b < 14 → a ≠ b → (TP_ a).2.1 ≠ (TP_ b).2.1 := by decide +kernel
theorem tyP_ok : ∀ k, k < 14 → parseFieldDescriptor (TP_ k).2.2.1 = some (tyP_ k) := by decide +kernel
def TR_ : u_T := fun k => match k with
  | 0 => ("LinearCells$Reader", "text", "[C", false)
  | 1 => ("LinearCells$Reader", "length", "I", false)
  | 2 => ("LinearCells$Reader", "at", "I", false)
  | 3 => ("LinearCells$Reader", "made", "LLinearCells$Procedure;", false)
  | 4 => ("LinearCells$Reader", "unbound", "Z", false)
  | 5 => ("LinearCells$Reader", "names", "[I", true)
  | 6 => ("LinearCells$Reader", "binders", "[I", true)
  | 7 => ("LinearCells$Reader", "parts", "[I", true)
  | _ => ("LinearCells$Reader", "nameCount", "I", false)
def tyR_ : Nat → FieldType := fun k => match k with
  | 0 => .array (.char)
  | 1 => .int
  | 2 => .int
  | 3 => .object "LinearCells$Procedure"
  | 4 => .boolean
  | 5 => .array (.int)
  | 6 => .array (.int)
  | 7 => .array (.int)
  | _ => .int
theorem nmR_ : ∀ a, a < 9 → ∀ b, b < 9 → a ≠ b → (TR_ a).2.1 ≠ (TR_ b).2.1 := by decide +kernel
theorem tyR_ok : ∀ k, k < 9 → parseFieldDescriptor (TR_ k).2.2.1 = some (tyR_ k) := by decide +kernel
def TT_ : u_T := fun k => match k with
  | 0 => ("LinearCells$Types", "first", "[I", true)
  | 1 => ("LinearCells$Types", "second", "[I", true)
  | 2 => ("LinearCells$Types", "number", "[I", true)
  | 3 => ("LinearCells$Types", "linear", "[Z", true)
  | 4 => ("LinearCells$Types", "count", "I", false)
  | _ => ("LinearCells$Types", "waiting", "[I", true)
def tyT_ : Nat → FieldType := fun k => match k with
  | 0 => .array (.int)
  | 1 => .array (.int)
  | 2 => .array (.int)
  | 3 => .array (.boolean)
  | 4 => .int
  | _ => .array (.int)
theorem nmT_ : ∀ a, a < 6 → ∀ b, b < 6 → a ≠ b → (TT_ a).2.1 ≠ (TT_ b).2.1 := by decide +kernel
theorem tyT_ok : ∀ k, k < 6 → parseFieldDescriptor (TT_ k).2.2.1 = some (tyT_ k) := by decide +kernel
def TK_ : u_T := fun k => match k with
  | 0 => ("LinearCells$Checker", "types", "LLinearCells$Types;", true)
  | 1 => ("LinearCells$Checker", "variableTypes", "[I", true)
  | 2 => ("LinearCells$Checker", "givenTypes", "[I", true)
  | 3 => ("LinearCells$Checker", "checkedNumber", "I", false)
  | 4 => ("LinearCells$Checker", "checked", "LLinearCells$Procedure;", false)
  | 5 => ("LinearCells$Checker", "typeOf", "[I", true)
  | _ => ("LinearCells$Checker", "uses", "[I", true)
def tyK_ : Nat → FieldType := fun k => match k with
  | 0 => .object "LinearCells$Types"
  | 1 => .array (.int)
  | 2 => .array (.int)
  | 3 => .int
  | 4 => .object "LinearCells$Procedure"
  | 5 => .array (.int)
  | _ => .array (.int)
theorem nmK_ : ∀ a, a < 7 → ∀ b, b < 7 → a ≠ b → (TK_ a).2.1 ≠ (TK_ b).2.1 := by decide +kernel
theorem tyK_ok : ∀ k, k < 7 → parseFieldDescriptor (TK_ k).2.2.1 = some (tyK_ k) := by decide +kernel
def TY_ : u_T := fun k => match k with
  | 0 => ("LinearCells$Memory", "taken", "[Z", true)
  | 1 => ("LinearCells$Memory", "numbers", "[I", true)
  | 2 => ("LinearCells$Memory", "made", "I", false)
  | 3 => ("LinearCells$Memory", "freed", "I", false)
  | 4 => ("LinearCells$Memory", "first", "[J", true)
  | 5 => ("LinearCells$Memory", "second", "[J", true)
  | 6 => ("LinearCells$Memory", "cellCount", "[I", true)
  | 7 => ("LinearCells$Memory", "numberCount", "[I", true)
  | 8 => ("LinearCells$Memory", "withNumber", "[Z", true)
  | 9 => ("LinearCells$Memory", "firstNumber", "[I", true)
  | _ => ("LinearCells$Memory", "pairs", "I", false)
def tyY_ : Nat → FieldType := fun k => match k with
  | 0 => .array (.boolean)
  | 1 => .array (.int)
  | 2 => .int
  | 3 => .int
  | 4 => .array (.long)
  | 5 => .array (.long)
  | 6 => .array (.int)
  | 7 => .array (.int)
  | 8 => .array (.boolean)
  | 9 => .array (.int)
  | _ => .int
theorem nmY_ : ∀ a, a < 11 → ∀ b, b < 11 → a ≠ b → (TY_ a).2.1 ≠ (TY_ b).2.1 := by decide +kernel
theorem tyY_ok : ∀ k, k < 11 → parseFieldDescriptor (TY_ k).2.2.1 = some (tyY_ k) := by decide +kernel
def TM_ : u_T := fun k => match k with
  | 0 => ("LinearCells$Machine", "memory", "LLinearCells$Memory;", true)
  | 1 => ("LinearCells$Machine", "procedures", "[LLinearCells$Procedure;", false)
  | 2 => ("LinearCells$Machine", "begun", "I", false)
  | 3 => ("LinearCells$Machine", "trap", "I", false)
  | 4 => ("LinearCells$Machine", "latest", "J", false)
  | 5 => ("LinearCells$Machine", "running", "[LLinearCells$Procedure;", true)
  | 6 => ("LinearCells$Machine", "bound", "[J", true)
  | 7 => ("LinearCells$Machine", "expressions", "[I", true)
  | 8 => ("LinearCells$Machine", "depths", "[I", true)
  | 9 => ("LinearCells$Machine", "stages", "[I", true)
  | 10 => ("LinearCells$Machine", "kept", "[J", true)
  | _ => ("LinearCells$Machine", "open", "I", false)
def tyM_ : Nat → FieldType := fun k => match k with
  | 0 => .object "LinearCells$Memory"
  | 1 => .array (.object "LinearCells$Procedure")
  | 2 => .int
  | 3 => .int
  | 4 => .long
  | 5 => .array (.object "LinearCells$Procedure")
  | 6 => .array (.long)
  | 7 => .array (.int)
  | 8 => .array (.int)
  | 9 => .array (.int)
  | 10 => .array (.long)
  | _ => .int
theorem nmM_ : ∀ a, a < 12 → ∀ b, b < 12 → a ≠ b → (TM_ a).2.1 ≠ (TM_ b).2.1 := by decide +kernel
theorem tyM_ok : ∀ k, k < 12 → parseFieldDescriptor (TM_ k).2.2.1 = some (tyM_ k) := by decide +kernel
def TQ_ : u_T := fun k => match k with
  | 0 => ("LinearCellsModel", "code", "I", false)
  | 1 => ("LinearCellsModel", "drafted", "I", false)
  | 2 => ("LinearCellsModel", "draft", "[I", true)
  | 3 => ("LinearCellsModel", "sign", "[I", true)
  | 4 => ("LinearCellsModel", "value", "[I", true)
  | 5 => ("LinearCellsModel", "first", "[I", true)
  | 6 => ("LinearCellsModel", "second", "[I", true)
  | 7 => ("LinearCellsModel", "third", "[I", true)
  | 8 => ("LinearCellsModel", "binder", "[I", true)
  | 9 => ("LinearCellsModel", "other", "[Z", true)
  | 10 => ("LinearCellsModel", "parts", "[I", true)
  | 11 => ("LinearCellsModel", "taken", "[I", true)
  | 12 => ("LinearCellsModel", "given", "[I", true)
  | 13 => ("LinearCellsModel", "at", "I", false)
  | 14 => ("LinearCellsModel", "bad", "Z", false)
  | 15 => ("LinearCellsModel", "unbound", "Z", false)
  | 16 => ("LinearCellsModel", "open", "I", false)
  | 17 => ("LinearCellsModel", "openPart", "[I", true)
  | 18 => ("LinearCellsModel", "stage", "[I", true)
  | 19 => ("LinearCellsModel", "bound", "I", false)
  | 20 => ("LinearCellsModel", "name", "[I", true)
  | 21 => ("LinearCellsModel", "boundBy", "[I", true)
  | 22 => ("LinearCellsModel", "boundOther", "[Z", true)
  | 23 => ("LinearCellsModel", "heldTypes", "I", false)
  | 24 => ("LinearCellsModel", "holdTypes", "[I", true)
  | 25 => ("LinearCellsModel", "types", "I", false)
  | 26 => ("LinearCellsModel", "left", "[I", true)
  | 27 => ("LinearCellsModel", "right", "[I", true)
  | 28 => ("LinearCellsModel", "typeOf", "[I", true)
  | 29 => ("LinearCellsModel", "takes", "[I", true)
  | 30 => ("LinearCellsModel", "gives", "[I", true)
  | 31 => ("LinearCellsModel", "fewest", "[I", true)
  | 32 => ("LinearCellsModel", "mostOften", "[I", true)
  | 33 => ("LinearCellsModel", "pile", "I", false)
  | 34 => ("LinearCellsModel", "pilePart", "[I", true)
  | 35 => ("LinearCellsModel", "pileBase", "[I", true)
  | 36 => ("LinearCellsModel", "pileNames", "[I", true)
  | 37 => ("LinearCellsModel", "pileDepth", "[I", true)
  | 38 => ("LinearCellsModel", "pileStage", "[I", true)
  | 39 => ("LinearCellsModel", "pileValue", "[J", true)
  | 40 => ("LinearCellsModel", "named", "I", false)
  | 41 => ("LinearCellsModel", "nameBinder", "[I", true)
  | 42 => ("LinearCellsModel", "nameOther", "[Z", true)
  | 43 => ("LinearCellsModel", "nameValue", "[J", true)
  | 44 => ("LinearCellsModel", "nameBehind", "[I", true)
  | 45 => ("LinearCellsModel", "trap", "I", false)
  | 46 => ("LinearCellsModel", "ran", "Z", false)
  | 47 => ("LinearCellsModel", "result", "J", false)
  | 48 => ("LinearCellsModel", "begun", "I", false)
  | 49 => ("LinearCellsModel", "made", "I", false)
  | 50 => ("LinearCellsModel", "freed", "I", false)
  | 51 => ("LinearCellsModel", "full", "[Z", true)
  | 52 => ("LinearCellsModel", "cell", "[I", true)
  | 53 => ("LinearCellsModel", "pairs", "I", false)
  | 54 => ("LinearCellsModel", "pairFirst", "[J", true)
  | 55 => ("LinearCellsModel", "pairSecond", "[J", true)
  | 56 => ("LinearCellsModel", "typeRow", "[I", true)
  | 57 => ("LinearCellsModel", "linear", "[Z", true)
  | _ => ("LinearCellsModel", "number", "[I", true)
def tyQ_ : Nat → FieldType := fun k => match k with
  | 0 => .int
  | 1 => .int
  | 2 => .array (.int)
  | 3 => .array (.int)
  | 4 => .array (.int)
  | 5 => .array (.int)
  | 6 => .array (.int)
  | 7 => .array (.int)
  | 8 => .array (.int)
  | 9 => .array (.boolean)
  | 10 => .array (.int)
  | 11 => .array (.int)
  | 12 => .array (.int)
  | 13 => .int
  | 14 => .boolean
  | 15 => .boolean
  | 16 => .int
  | 17 => .array (.int)
  | 18 => .array (.int)
  | 19 => .int
  | 20 => .array (.int)
  | 21 => .array (.int)
  | 22 => .array (.boolean)
  | 23 => .int
  | 24 => .array (.int)
  | 25 => .int
  | 26 => .array (.int)
  | 27 => .array (.int)
  | 28 => .array (.int)
  | 29 => .array (.int)
  | 30 => .array (.int)
  | 31 => .array (.int)
  | 32 => .array (.int)
  | 33 => .int
  | 34 => .array (.int)
  | 35 => .array (.int)
  | 36 => .array (.int)
  | 37 => .array (.int)
  | 38 => .array (.int)
  | 39 => .array (.long)
  | 40 => .int
  | 41 => .array (.int)
  | 42 => .array (.boolean)
  | 43 => .array (.long)
  | 44 => .array (.int)
  | 45 => .int
  | 46 => .boolean
  | 47 => .long
  | 48 => .int
  | 49 => .int
  | 50 => .int
  | 51 => .array (.boolean)
  | 52 => .array (.int)
  | 53 => .int
  | 54 => .array (.long)
  | 55 => .array (.long)
  | 56 => .array (.int)
  | 57 => .array (.boolean)
  | _ => .array (.int)
theorem nmQ_ : ∀ a, a < 59 → ∀ b, b < 59 → a ≠ b → (TQ_ a).2.1 ≠ (TQ_ b).2.1 := by decide +kernel
theorem tyQ_ok : ∀ k, k < 59 → parseFieldDescriptor (TQ_ k).2.2.1 = some (tyQ_ k) := by decide +kernel
def lc_cl : List vw_C := [("LinearCells", TA_, 7), ("LinearCells$Procedure", TP_, 14), ("LinearCells$Reader", TR_, 9), ("LinearCells$Types", TT_, 6), ("LinearCells$Checker", TK_, 7), ("LinearCells$Memory", TY_, 11), ("LinearCells$Machine", TM_, 12), ("LinearCellsModel", TQ_, 59)]
def lc_fk : Nat → List Nat
  | 0 => [4, 0, 5, 2, 6, 10, 21]
  | 1 => [0, 0, 4, 0, 0, 5, 6, 7, 8, 9, 10, 0, 11, 0]
  | 2 => [2, 0, 0, 2, 0, 4, 5, 6, 0]
  | 3 => [4, 5, 6, 7, 0, 8]
  | 4 => [4, 10, 11, 0, 2, 12, 13]
  | 5 => [4, 5, 0, 0, 6, 7, 8, 9, 10, 11, 0]
  | 6 => [4, 2, 0, 0, 1, 13, 14, 15, 16, 17, 18, 0]
  | 7 => [0, 0, 4, 5, 6, 7, 8, 9, 10, 11, 12, 13, 14, 0, 0, 0, 0, 15, 16, 0, 17, 18, 19, 0, 20, 0, 21, 22, 23, 24, 25, 26, 27, 0, 28, 29, 30, 31, 32, 33, 0, 34, 35, 36, 37, 0, 0, 1, 0, 0, 0, 38, 39, 0, 40, 41, 42, 43, 44]
  | _ => []
def lc_tys : List FieldType := [.int, .boolean, .char, .long, .object "LinearCells$Procedure"]
def lc_shL : List (Nat × Nat × Nat) := [(2, 3, 1), (0, 0, 0), (1, 2, 120), (3, 4, 4), (0, 2, 0), (1, 0, 33), (1, 0, 33), (1, 0, 33), (0, 4, 0), (0, 3, 0), (1, 0, 243), (1, 0, 243), (1, 0, 243), (1, 1, 243), (1, 0, 5), (1, 0, 4), (1, 0, 4), (1, 0, 120), (1, 0, 120), (0, 6, 0), (0, 5, 0), (1, 1, 12), (1, 0, 12), (2, 3, 120), (2, 3, 120), (1, 0, 120), (1, 0, 120), (1, 1, 120), (1, 0, 120), (3, 4, 25), (2, 3, 600), (1, 0, 408), (1, 0, 408), (1, 0, 408), (2, 3, 408), (0, 1, 0), (1, 0, 62), (1, 0, 120), (1, 0, 120), (1, 0, 120), (1, 0, 120), (1, 0, 120), (1, 0, 120), (1, 0, 24), (0, 1, 0), (1, 0, 62), (1, 0, 120), (1, 0, 120), (1, 0, 120), (1, 0, 120), (1, 0, 120), (1, 0, 120), (1, 0, 24), (0, 1, 0), (1, 0, 62), (1, 0, 120), (1, 0, 120), (1, 0, 120), (1, 0, 120), (1, 0, 120), (1, 0, 120), (1, 0, 24), (0, 1, 0), (1, 0, 62), (1, 0, 120), (1, 0, 120), (1, 0, 120), (1, 0, 120), (1, 0, 120), (1, 0, 120), (1, 0, 24), (0, 1, 0), (1, 0, 62), (1, 0, 120), (1, 0, 120), (1, 0, 120), (1, 0, 120), (1, 0, 120), (1, 0, 120), (1, 0, 24), (0, 7, 0), (1, 0, 120), (1, 0, 600), (1, 0, 600), (1, 0, 600), (1, 0, 600), (1, 0, 600), (1, 0, 600), (1, 1, 600), (1, 0, 5), (1, 0, 600), (1, 0, 600), (1, 0, 24), (1, 0, 24), (1, 0, 64), (1, 0, 64), (1, 1, 64), (1, 0, 128), (1, 0, 340), (1, 0, 340), (1, 0, 120), (1, 0, 4), (1, 0, 4), (1, 0, 120), (1, 0, 120), (1, 0, 430), (1, 0, 430), (1, 0, 430), (1, 0, 430), (1, 0, 430), (2, 3, 430), (1, 0, 2100), (1, 1, 2100), (2, 3, 2100), (1, 0, 2100), (1, 1, 12), (1, 0, 12), (2, 3, 120), (2, 3, 120), (1, 0, 130), (1, 1, 340), (1, 0, 340)]
def lc_ALL : List Cond := lw_tbl.filter goodWord
theorem lc_mt {w : Cond} (hg : goodWord w = true) (h : w ∈ tables_1) : w ∈ lc_ALL := List.mem_filter.mpr ⟨List.mem_append_right _ h, hg⟩
theorem lc_ms {q : MethodName × Nat} (hg : goodWord (Cond.selects q.1.cls q.1 q.1) = true) (h : q ∈ lw_privs) : Cond.selects q.1.cls q.1 q.1 ∈ lc_ALL := List.mem_filter.mpr ⟨List.mem_append_left _ (List.mem_map.mpr ⟨q, h, rfl⟩), hg⟩
def yA_init : MethodName := ⟨"LinearCells", "<init>", "()V"⟩
def yA_draft : MethodName := ⟨"LinearCells", "draft", "(J)Z"⟩
def yA_define : MethodName := ⟨"LinearCells", "define", "(I)I"⟩
def yA_sound : MethodName := ⟨"LinearCells", "sound", "(I)Z"⟩
def yA_typed : MethodName := ⟨"LinearCells", "typed", "(I)I"⟩
def yA_run : MethodName := ⟨"LinearCells", "run", "(II)I"⟩
def yA_value : MethodName := ⟨"LinearCells", "value", "(I)I"⟩
def yA_heap : MethodName := ⟨"LinearCells", "heap", "(I)I"⟩
def yA_cell : MethodName := ⟨"LinearCells", "cell", "(I)I"⟩
def yA_charactersIn : MethodName := ⟨"LinearCells", "charactersIn", "(J)I"⟩
def yA_byteOf : MethodName := ⟨"LinearCells", "byteOf", "(JI)I"⟩
def yA_isProcedureNumber : MethodName := ⟨"LinearCells", "isProcedureNumber", "(I)Z"⟩
def yA_hasBit : MethodName := ⟨"LinearCells", "hasBit", "(II)Z"⟩
def yA_isThere : MethodName := ⟨"LinearCells", "isThere", "(I)Z"⟩
def yA_reachedFrom : MethodName := ⟨"LinearCells", "reachedFrom", "(I)I"⟩
def yQ_init : MethodName := ⟨"LinearCellsModel", "<init>", "()V"⟩
def yQ_thrown : MethodName := ⟨"LinearCellsModel", "thrown", "()I"⟩
def yQ_refuse : MethodName := ⟨"LinearCellsModel", "refuse", "(I)I"⟩
def yQ_draft : MethodName := ⟨"LinearCellsModel", "draft", "(J)Z"⟩
def yQ_peek : MethodName := ⟨"LinearCellsModel", "peek", "()I"⟩
def yQ_next : MethodName := ⟨"LinearCellsModel", "next", "()I"⟩
def yQ_expect : MethodName := ⟨"LinearCellsModel", "expect", "(I)V"⟩
def yQ_isLetter : MethodName := ⟨"LinearCellsModel", "isLetter", "(I)Z"⟩
def yQ_isDigit : MethodName := ⟨"LinearCellsModel", "isDigit", "(I)Z"⟩
def yQ_letter : MethodName := ⟨"LinearCellsModel", "letter", "()I"⟩
def yQ_number : MethodName := ⟨"LinearCellsModel", "number", "()I"⟩
def yQ_type : MethodName := ⟨"LinearCellsModel", "type", "([I)V"⟩
def yQ_isTwo : MethodName := ⟨"LinearCellsModel", "isTwo", "(I)Z"⟩
def yQ_partsOf : MethodName := ⟨"LinearCellsModel", "partsOf", "(I)I"⟩
def yQ_part : MethodName := ⟨"LinearCellsModel", "part", "(I)I"⟩
def yQ_bind : MethodName := ⟨"LinearCellsModel", "bind", "(IIZ)V"⟩
def yQ_read : MethodName := ⟨"LinearCellsModel", "read", "()V"⟩
def yQ_begin : MethodName := ⟨"LinearCellsModel", "begin", "()I"⟩
def yQ_variable : MethodName := ⟨"LinearCellsModel", "variable", "(I)I"⟩
def yQ_attach : MethodName := ⟨"LinearCellsModel", "attach", "(I)I"⟩
def yQ_define : MethodName := ⟨"LinearCellsModel", "define", "(I)I"⟩
def yQ_isThere : MethodName := ⟨"LinearCellsModel", "isThere", "(I)Z"⟩
def yQ_pairType : MethodName := ⟨"LinearCellsModel", "pairType", "(II)I"⟩
def yQ_typeIn : MethodName := ⟨"LinearCellsModel", "typeIn", "([II)I"⟩
def yQ_isLinear : MethodName := ⟨"LinearCellsModel", "isLinear", "(I)Z"⟩
def yQ_find : MethodName := ⟨"LinearCellsModel", "find", "(I)Z"⟩
def yQ_bindingType : MethodName := ⟨"LinearCellsModel", "bindingType", "(IIZ)I"⟩
def yQ_typeBy : MethodName := ⟨"LinearCellsModel", "typeBy", "(II)I"⟩
def yQ_isUsedOnce : MethodName := ⟨"LinearCellsModel", "isUsedOnce", "(IIZI)Z"⟩
def yQ_isChecked : MethodName := ⟨"LinearCellsModel", "isChecked", "(I)Z"⟩
def yQ_sound : MethodName := ⟨"LinearCellsModel", "sound", "(I)Z"⟩
def yQ_typed : MethodName := ⟨"LinearCellsModel", "typed", "(I)I"⟩
def yQ_isNumber : MethodName := ⟨"LinearCellsModel", "isNumber", "(J)Z"⟩
def yQ_plain : MethodName := ⟨"LinearCellsModel", "plain", "(J)J"⟩
def yQ_stop : MethodName := ⟨"LinearCellsModel", "stop", "(I)V"⟩
def yQ_enter : MethodName := ⟨"LinearCellsModel", "enter", "(IIII)V"⟩
def yQ_withName : MethodName := ⟨"LinearCellsModel", "withName", "(IZJI)I"⟩
def yQ_run : MethodName := ⟨"LinearCellsModel", "run", "(II)I"⟩
def yQ_answer : MethodName := ⟨"LinearCellsModel", "answer", "(J)V"⟩
def yQ_step : MethodName := ⟨"LinearCellsModel", "step", "()V"⟩
def yQ_lookUp : MethodName := ⟨"LinearCellsModel", "lookUp", "(IIZ)J"⟩
def yQ_goOn : MethodName := ⟨"LinearCellsModel", "goOn", "(IIII)V"⟩
def yQ_call : MethodName := ⟨"LinearCellsModel", "call", "(III)V"⟩
def yQ_pairUp : MethodName := ⟨"LinearCellsModel", "pairUp", "(JJ)V"⟩
def yQ_isCell : MethodName := ⟨"LinearCellsModel", "isCell", "(J)Z"⟩
def yQ_two : MethodName := ⟨"LinearCellsModel", "two", "(IJJ)V"⟩
def yQ_one : MethodName := ⟨"LinearCellsModel", "one", "(IJ)V"⟩
def yQ_hasValue : MethodName := ⟨"LinearCellsModel", "hasValue", "()Z"⟩
def yQ_count : MethodName := ⟨"LinearCellsModel", "count", "(Z)I"⟩
def yQ_in : MethodName := ⟨"LinearCellsModel", "in", "(JZ)I"⟩
def yQ_firstNumber : MethodName := ⟨"LinearCellsModel", "firstNumber", "()I"⟩
def yQ_has : MethodName := ⟨"LinearCellsModel", "has", "(J)Z"⟩
def yQ_hasIn : MethodName := ⟨"LinearCellsModel", "hasIn", "(J)Z"⟩
def yQ_value : MethodName := ⟨"LinearCellsModel", "value", "(I)I"⟩
def yQ_heap : MethodName := ⟨"LinearCellsModel", "heap", "(I)I"⟩
def yQ_cell : MethodName := ⟨"LinearCellsModel", "cell", "(I)I"⟩
def yK_init : MethodName := ⟨"LinearCells$Checker", "<init>", "()V"⟩
def yK_numberOfBodyType : MethodName := ⟨"LinearCells$Checker", "numberOfBodyType", "([LLinearCells$Procedure;I)I"⟩
def yK_findsNoFault : MethodName := ⟨"LinearCells$Checker", "findsNoFault", "([LLinearCells$Procedure;I)Z"⟩
def yK_findBodyType : MethodName := ⟨"LinearCells$Checker", "findBodyType", "([LLinearCells$Procedure;I)I"⟩
def yK_findWrittenTypes : MethodName := ⟨"LinearCells$Checker", "findWrittenTypes", "([LLinearCells$Procedure;)V"⟩
def yK_typeOfPart : MethodName := ⟨"LinearCells$Checker", "typeOfPart", "(I)I"⟩
def yK_findType : MethodName := ⟨"LinearCells$Checker", "findType", "(I)I"⟩
def yK_typeOfBound : MethodName := ⟨"LinearCells$Checker", "typeOfBound", "(I)I"⟩
def yK_eachVariableIsUsedWell : MethodName := ⟨"LinearCells$Checker", "eachVariableIsUsedWell", "()Z"⟩
def yK_isUsedWell : MethodName := ⟨"LinearCells$Checker", "isUsedWell", "(III)Z"⟩
def yK_usesOf : MethodName := ⟨"LinearCells$Checker", "usesOf", "(III)I"⟩
def yK_usesOfPart : MethodName := ⟨"LinearCells$Checker", "usesOfPart", "(I)I"⟩
def yM_init : MethodName := ⟨"LinearCells$Machine", "<init>", "()V"⟩
def yM_memory : MethodName := ⟨"LinearCells$Machine", "memory", "()LLinearCells$Memory;"⟩
def yM_expressionsBegun : MethodName := ⟨"LinearCells$Machine", "expressionsBegun", "()I"⟩
def yM_result : MethodName := ⟨"LinearCells$Machine", "result", "()J"⟩
def yM_leadingNumber : MethodName := ⟨"LinearCells$Machine", "leadingNumber", "()I"⟩
def yM_trapOf : MethodName := ⟨"LinearCells$Machine", "trapOf", "([LLinearCells$Procedure;II)I"⟩
def yM_enter : MethodName := ⟨"LinearCells$Machine", "enter", "(II)V"⟩
def yM_bind : MethodName := ⟨"LinearCells$Machine", "bind", "(II)V"⟩
def yM_begin : MethodName := ⟨"LinearCells$Machine", "begin", "(II)V"⟩
def yM_end : MethodName := ⟨"LinearCells$Machine", "end", "(J)V"⟩
def yM_takeStep : MethodName := ⟨"LinearCells$Machine", "takeStep", "()V"⟩
def yM_valueOfVariable : MethodName := ⟨"LinearCells$Machine", "valueOfVariable", "(II)J"⟩
def yM_goOn : MethodName := ⟨"LinearCells$Machine", "goOn", "(II)V"⟩
def yM_choose : MethodName := ⟨"LinearCells$Machine", "choose", "(II)V"⟩
def yM_split : MethodName := ⟨"LinearCells$Machine", "split", "(II)V"⟩
def yM_finish : MethodName := ⟨"LinearCells$Machine", "finish", "(IJJ)V"⟩
def yM_makeCell : MethodName := ⟨"LinearCells$Machine", "makeCell", "(J)V"⟩
def yM_getNumber : MethodName := ⟨"LinearCells$Machine", "getNumber", "(J)V"⟩
def yM_freeCell : MethodName := ⟨"LinearCells$Machine", "freeCell", "(J)V"⟩
def yM_putNumber : MethodName := ⟨"LinearCells$Machine", "putNumber", "(JJ)V"⟩
def yM_isLivingCell : MethodName := ⟨"LinearCells$Machine", "isLivingCell", "(J)Z"⟩
def yM_makePair : MethodName := ⟨"LinearCells$Machine", "makePair", "(JJ)V"⟩
def yM_calculate : MethodName := ⟨"LinearCells$Machine", "calculate", "(IJJ)V"⟩
def yM_numberOf : MethodName := ⟨"LinearCells$Machine", "numberOf", "(III)I"⟩
def yY_init : MethodName := ⟨"LinearCells$Memory", "<init>", "()V"⟩
def yY_clear : MethodName := ⟨"LinearCells$Memory", "clear", "()V"⟩
def yY_cellsMade : MethodName := ⟨"LinearCells$Memory", "cellsMade", "()I"⟩
def yY_cellsFreed : MethodName := ⟨"LinearCells$Memory", "cellsFreed", "()I"⟩
def yY_pairsMade : MethodName := ⟨"LinearCells$Memory", "pairsMade", "()I"⟩
def yY_isFree : MethodName := ⟨"LinearCells$Memory", "isFree", "(I)Z"⟩
def yY_numberAt : MethodName := ⟨"LinearCells$Memory", "numberAt", "(I)I"⟩
def yY_putNumber : MethodName := ⟨"LinearCells$Memory", "putNumber", "(II)V"⟩
def yY_takePlace : MethodName := ⟨"LinearCells$Memory", "takePlace", "(I)I"⟩
def yY_freePlace : MethodName := ⟨"LinearCells$Memory", "freePlace", "(I)V"⟩
def yY_addPair : MethodName := ⟨"LinearCells$Memory", "addPair", "(JJ)Z"⟩
def yY_sumUpPairs : MethodName := ⟨"LinearCells$Memory", "sumUpPairs", "()V"⟩
def yY_isMade : MethodName := ⟨"LinearCells$Memory", "isMade", "(I)Z"⟩
def yY_partOf : MethodName := ⟨"LinearCells$Memory", "partOf", "(JI)J"⟩
def yY_cellsIn : MethodName := ⟨"LinearCells$Memory", "cellsIn", "(J)I"⟩
def yY_numbersIn : MethodName := ⟨"LinearCells$Memory", "numbersIn", "(J)I"⟩
def yY_hasNumber : MethodName := ⟨"LinearCells$Memory", "hasNumber", "(J)Z"⟩
def yY_firstNumberIn : MethodName := ⟨"LinearCells$Memory", "firstNumberIn", "(J)I"⟩
def yP_init : MethodName := ⟨"LinearCells$Procedure", "<init>", "()V"⟩
def yP_clear : MethodName := ⟨"LinearCells$Procedure", "clear", "()V"⟩
def yP_body : MethodName := ⟨"LinearCells$Procedure", "body", "()I"⟩
def yP_addTypeSign : MethodName := ⟨"LinearCells$Procedure", "addTypeSign", "(I)Z"⟩
def yP_addBinder : MethodName := ⟨"LinearCells$Procedure", "addBinder", "(I)I"⟩
def yP_addLeaf : MethodName := ⟨"LinearCells$Procedure", "addLeaf", "(III)I"⟩
def yP_addForm : MethodName := ⟨"LinearCells$Procedure", "addForm", "(IIII)I"⟩
def yP_annotate : MethodName := ⟨"LinearCells$Procedure", "annotate", "(III)I"⟩
def yR_init : MethodName := ⟨"LinearCells$Reader", "<init>", "()V"⟩
def yR_metUnboundVariable : MethodName := ⟨"LinearCells$Reader", "metUnboundVariable", "()Z"⟩
def yR_reads : MethodName := ⟨"LinearCells$Reader", "reads", "([CILLinearCells$Procedure;)Z"⟩
def yR_nextSign : MethodName := ⟨"LinearCells$Reader", "nextSign", "()I"⟩
def yR_isLetter : MethodName := ⟨"LinearCells$Reader", "isLetter", "(I)Z"⟩
def yR_isDigit : MethodName := ⟨"LinearCells$Reader", "isDigit", "(I)Z"⟩
def yR_readType : MethodName := ⟨"LinearCells$Reader", "readType", "(I)Z"⟩
def yR_readExpression : MethodName := ⟨"LinearCells$Reader", "readExpression", "(I)I"⟩
def yR_readNumber : MethodName := ⟨"LinearCells$Reader", "readNumber", "(I)I"⟩
def yR_readForm : MethodName := ⟨"LinearCells$Reader", "readForm", "(II)I"⟩
def yR_readOne : MethodName := ⟨"LinearCells$Reader", "readOne", "(II)I"⟩
def yR_readTwo : MethodName := ⟨"LinearCells$Reader", "readTwo", "(II)I"⟩
def yR_readThree : MethodName := ⟨"LinearCells$Reader", "readThree", "(II)I"⟩
def yR_readLet : MethodName := ⟨"LinearCells$Reader", "readLet", "(I)I"⟩
def yR_readSplit : MethodName := ⟨"LinearCells$Reader", "readSplit", "(I)I"⟩
def yR_readBound : MethodName := ⟨"LinearCells$Reader", "readBound", "(IIII)I"⟩
def yR_readCall : MethodName := ⟨"LinearCells$Reader", "readCall", "(I)I"⟩
def yR_addName : MethodName := ⟨"LinearCells$Reader", "addName", "(III)V"⟩
def yR_forgetNames : MethodName := ⟨"LinearCells$Reader", "forgetNames", "(I)V"⟩
def yR_addVariable : MethodName := ⟨"LinearCells$Reader", "addVariable", "(I)I"⟩
def yT_init : MethodName := ⟨"LinearCells$Types", "<init>", "()V"⟩
def yT_forgetPairs : MethodName := ⟨"LinearCells$Types", "forgetPairs", "()V"⟩
def yT_isPair : MethodName := ⟨"LinearCells$Types", "isPair", "(I)Z"⟩
def yT_isLinear : MethodName := ⟨"LinearCells$Types", "isLinear", "(I)Z"⟩
def yT_numberOf : MethodName := ⟨"LinearCells$Types", "numberOf", "(I)I"⟩
def yT_partOf : MethodName := ⟨"LinearCells$Types", "partOf", "(II)I"⟩
def yT_pairOf : MethodName := ⟨"LinearCells$Types", "pairOf", "(II)I"⟩
def yT_written : MethodName := ⟨"LinearCells$Types", "written", "(LLinearCells$Procedure;II)I"⟩
def yV_of : MethodName := ⟨"LinearCells$Value", "of", "(II)J"⟩
def yV_kindOf : MethodName := ⟨"LinearCells$Value", "kindOf", "(J)I"⟩
def yV_wordOf : MethodName := ⟨"LinearCells$Value", "wordOf", "(J)I"⟩
def yV_isNumber : MethodName := ⟨"LinearCells$Value", "isNumber", "(J)Z"⟩
def yV_isCell : MethodName := ⟨"LinearCells$Value", "isCell", "(J)Z"⟩
def yV_isPair : MethodName := ⟨"LinearCells$Value", "isPair", "(J)Z"⟩
def lc_NW : List Cond := [Cond.methodLinkNest "LinearCells$Reader" 128 yA_isProcedureNumber "LinearCells", Cond.methodLinkNest "LinearCells" 19 yP_init "LinearCells", Cond.methodLinkNest "LinearCells" 26 yR_init "LinearCells", Cond.methodLinkNest "LinearCells" 33 yK_init "LinearCells", Cond.methodLinkNest "LinearCells" 40 yM_init "LinearCells", Cond.methodLinkNest "LinearCells$Machine" 15 yY_init "LinearCells"]
theorem lc_NW_warm {s U : State} (hW : s.WarmedH U.vm) (h : ∀ w ∈ lc_NW, va_Nw w s) : ∀ w ∈ lc_NW, va_Nw w U := fun w hw => by
  have h1 := h w hw
  simp only [lc_NW, List.mem_cons, List.not_mem_nil, or_false] at hw
  rcases hw with rfl | rfl | rfl | rfl | rfl | rfl <;> exact va_Nw.warmM hW h1
theorem lc_NW_tab : ∀ w ∈ lc_NW, w.onTables = true := fun w hw => by
  simp only [lc_NW, List.mem_cons, List.not_mem_nil, or_false] at hw
  rcases hw with rfl | rfl | rfl | rfl | rfl | rfl <;> rfl
theorem inlA_ : ∀ k, k < 7 → u_lay "LinearCells" TA_ k ∈ lc_ALL
  | 0, _ => (lc_mt rfl (List.mem_append_right _ (List.mem_append_left _ (List.mem_of_getElem? (i := 42) rfl))))
  | 1, _ => (lc_mt rfl (List.mem_append_right _ (List.mem_append_left _ (List.mem_of_getElem? (i := 44) rfl))))
  | 2, _ => (lc_mt rfl (List.mem_append_right _ (List.mem_append_left _ (List.mem_of_getElem? (i := 46) rfl))))
  | 3, _ => (lc_mt rfl (List.mem_append_right _ (List.mem_append_left _ (List.mem_of_getElem? (i := 48) rfl))))
  | 4, _ => (lc_mt rfl (List.mem_append_right _ (List.mem_append_left _ (List.mem_of_getElem? (i := 50) rfl))))
  | 5, _ => (lc_mt rfl (List.mem_append_right _ (List.mem_append_left _ (List.mem_of_getElem? (i := 52) rfl))))
  | 6, _ => (lc_mt rfl (List.mem_append_right _ (List.mem_append_left _ (List.mem_of_getElem? (i := 54) rfl))))
  | n + 7, h => absurd h (by omega)
theorem inwA_ : ∀ w ∈ u_ws "LinearCells" TA_ 7, w ∈ lc_ALL := fun w hw => by
  obtain ⟨k, hk, rfl⟩ := List.mem_map.mp hw
  exact inlA_ k (List.mem_range.mp hk)
theorem inlP_ : ∀ k, k < 14 → u_lay "LinearCells$Procedure" TP_ k ∈ lc_ALL
  | 0, _ => (lc_mt rfl (List.mem_append_left _ (List.mem_of_getElem? (i := 71) rfl)))
  | 1, _ => (lc_mt rfl (List.mem_append_left _ (List.mem_of_getElem? (i := 73) rfl)))
  | 2, _ => (lc_mt rfl (List.mem_append_left _ (List.mem_of_getElem? (i := 75) rfl)))
  | 3, _ => (lc_mt rfl (List.mem_append_left _ (List.mem_of_getElem? (i := 77) rfl)))
  | 4, _ => (lc_mt rfl (List.mem_append_left _ (List.mem_of_getElem? (i := 79) rfl)))
  | 5, _ => (lc_mt rfl (List.mem_append_left _ (List.mem_of_getElem? (i := 81) rfl)))
  | 6, _ => (lc_mt rfl (List.mem_append_left _ (List.mem_of_getElem? (i := 83) rfl)))
  | 7, _ => (lc_mt rfl (List.mem_append_left _ (List.mem_of_getElem? (i := 85) rfl)))
  | 8, _ => (lc_mt rfl (List.mem_append_left _ (List.mem_of_getElem? (i := 87) rfl)))
  | 9, _ => (lc_mt rfl (List.mem_append_left _ (List.mem_of_getElem? (i := 89) rfl)))
  | 10, _ => (lc_mt rfl (List.mem_append_left _ (List.mem_of_getElem? (i := 91) rfl)))
  | 11, _ => (lc_mt rfl (List.mem_append_left _ (List.mem_of_getElem? (i := 93) rfl)))
  | 12, _ => (lc_mt rfl (List.mem_append_left _ (List.mem_of_getElem? (i := 95) rfl)))
  | 13, _ => (lc_mt rfl (List.mem_append_left _ (List.mem_of_getElem? (i := 97) rfl)))
  | n + 14, h => absurd h (by omega)
theorem inwP_ : ∀ w ∈ u_ws "LinearCells$Procedure" TP_ 14, w ∈ lc_ALL := fun w hw => by
  obtain ⟨k, hk, rfl⟩ := List.mem_map.mp hw
  exact inlP_ k (List.mem_range.mp hk)
theorem inlR_ : ∀ k, k < 9 → u_lay "LinearCells$Reader" TR_ k ∈ lc_ALL
  | 0, _ => (lc_mt rfl (List.mem_append_left _ (List.mem_of_getElem? (i := 117) rfl)))
  | 1, _ => (lc_mt rfl (List.mem_append_left _ (List.mem_of_getElem? (i := 119) rfl)))
  | 2, _ => (lc_mt rfl (List.mem_append_left _ (List.mem_of_getElem? (i := 121) rfl)))
  | 3, _ => (lc_mt rfl (List.mem_append_left _ (List.mem_of_getElem? (i := 123) rfl)))
  | 4, _ => (lc_mt rfl (List.mem_append_left _ (List.mem_of_getElem? (i := 125) rfl)))
  | 5, _ => (lc_mt rfl (List.mem_append_left _ (List.mem_of_getElem? (i := 127) rfl)))
  | 6, _ => (lc_mt rfl (List.mem_append_left _ (List.mem_of_getElem? (i := 129) rfl)))
  | 7, _ => (lc_mt rfl (List.mem_append_left _ (List.mem_of_getElem? (i := 131) rfl)))
  | 8, _ => (lc_mt rfl (List.mem_append_left _ (List.mem_of_getElem? (i := 133) rfl)))
  | n + 9, h => absurd h (by omega)
theorem inwR_ : ∀ w ∈ u_ws "LinearCells$Reader" TR_ 9, w ∈ lc_ALL := fun w hw => by
  obtain ⟨k, hk, rfl⟩ := List.mem_map.mp hw
  exact inlR_ k (List.mem_range.mp hk)
theorem inlT_ : ∀ k, k < 6 → u_lay "LinearCells$Types" TT_ k ∈ lc_ALL
  | 0, _ => (lc_mt rfl (List.mem_append_left _ (List.mem_of_getElem? (i := 154) rfl)))
  | 1, _ => (lc_mt rfl (List.mem_append_left _ (List.mem_of_getElem? (i := 156) rfl)))
  | 2, _ => (lc_mt rfl (List.mem_append_left _ (List.mem_of_getElem? (i := 158) rfl)))
  | 3, _ => (lc_mt rfl (List.mem_append_left _ (List.mem_of_getElem? (i := 160) rfl)))
  | 4, _ => (lc_mt rfl (List.mem_append_left _ (List.mem_of_getElem? (i := 162) rfl)))
  | 5, _ => (lc_mt rfl (List.mem_append_left _ (List.mem_of_getElem? (i := 164) rfl)))
  | n + 6, h => absurd h (by omega)
theorem inwT_ : ∀ w ∈ u_ws "LinearCells$Types" TT_ 6, w ∈ lc_ALL := fun w hw => by
  obtain ⟨k, hk, rfl⟩ := List.mem_map.mp hw
  exact inlT_ k (List.mem_range.mp hk)
theorem inlK_ : ∀ k, k < 7 → u_lay "LinearCells$Checker" TK_ k ∈ lc_ALL
  | 0, _ => (lc_mt rfl (List.mem_append_left _ (List.mem_of_getElem? (i := 175) rfl)))
  | 1, _ => (lc_mt rfl (List.mem_append_left _ (List.mem_of_getElem? (i := 177) rfl)))
  | 2, _ => (lc_mt rfl (List.mem_append_left _ (List.mem_of_getElem? (i := 179) rfl)))
  | 3, _ => (lc_mt rfl (List.mem_append_left _ (List.mem_of_getElem? (i := 181) rfl)))
  | 4, _ => (lc_mt rfl (List.mem_append_left _ (List.mem_of_getElem? (i := 183) rfl)))
  | 5, _ => (lc_mt rfl (List.mem_append_left _ (List.mem_of_getElem? (i := 185) rfl)))
  | 6, _ => (lc_mt rfl (List.mem_append_left _ (List.mem_of_getElem? (i := 187) rfl)))
  | n + 7, h => absurd h (by omega)
theorem inwK_ : ∀ w ∈ u_ws "LinearCells$Checker" TK_ 7, w ∈ lc_ALL := fun w hw => by
  obtain ⟨k, hk, rfl⟩ := List.mem_map.mp hw
  exact inlK_ k (List.mem_range.mp hk)
theorem inlY_ : ∀ k, k < 11 → u_lay "LinearCells$Memory" TY_ k ∈ lc_ALL
  | 0, _ => (lc_mt rfl (List.mem_append_left _ (List.mem_of_getElem? (i := 213) rfl)))
  | 1, _ => (lc_mt rfl (List.mem_append_left _ (List.mem_of_getElem? (i := 215) rfl)))
  | 2, _ => (lc_mt rfl (List.mem_append_left _ (List.mem_of_getElem? (i := 217) rfl)))
  | 3, _ => (lc_mt rfl (List.mem_append_left _ (List.mem_of_getElem? (i := 219) rfl)))
  | 4, _ => (lc_mt rfl (List.mem_append_left _ (List.mem_of_getElem? (i := 221) rfl)))
  | 5, _ => (lc_mt rfl (List.mem_append_left _ (List.mem_of_getElem? (i := 223) rfl)))
  | 6, _ => (lc_mt rfl (List.mem_append_left _ (List.mem_of_getElem? (i := 225) rfl)))
  | 7, _ => (lc_mt rfl (List.mem_append_left _ (List.mem_of_getElem? (i := 227) rfl)))
  | 8, _ => (lc_mt rfl (List.mem_append_left _ (List.mem_of_getElem? (i := 229) rfl)))
  | 9, _ => (lc_mt rfl (List.mem_append_left _ (List.mem_of_getElem? (i := 231) rfl)))
  | 10, _ => (lc_mt rfl (List.mem_append_left _ (List.mem_of_getElem? (i := 233) rfl)))
  | n + 11, h => absurd h (by omega)
theorem inwY_ : ∀ w ∈ u_ws "LinearCells$Memory" TY_ 11, w ∈ lc_ALL := fun w hw => by
  obtain ⟨k, hk, rfl⟩ := List.mem_map.mp hw
  exact inlY_ k (List.mem_range.mp hk)
theorem inlM_ : ∀ k, k < 12 → u_lay "LinearCells$Machine" TM_ k ∈ lc_ALL
  | 0, _ => (lc_mt rfl (List.mem_append_right _ (List.mem_append_left _ (List.mem_of_getElem? (i := 10) rfl))))
  | 1, _ => (lc_mt rfl (List.mem_append_right _ (List.mem_append_left _ (List.mem_of_getElem? (i := 12) rfl))))
  | 2, _ => (lc_mt rfl (List.mem_append_right _ (List.mem_append_left _ (List.mem_of_getElem? (i := 14) rfl))))
  | 3, _ => (lc_mt rfl (List.mem_append_right _ (List.mem_append_left _ (List.mem_of_getElem? (i := 16) rfl))))
  | 4, _ => (lc_mt rfl (List.mem_append_right _ (List.mem_append_left _ (List.mem_of_getElem? (i := 18) rfl))))
  | 5, _ => (lc_mt rfl (List.mem_append_right _ (List.mem_append_left _ (List.mem_of_getElem? (i := 20) rfl))))
  | 6, _ => (lc_mt rfl (List.mem_append_right _ (List.mem_append_left _ (List.mem_of_getElem? (i := 22) rfl))))
  | 7, _ => (lc_mt rfl (List.mem_append_right _ (List.mem_append_left _ (List.mem_of_getElem? (i := 24) rfl))))
  | 8, _ => (lc_mt rfl (List.mem_append_right _ (List.mem_append_left _ (List.mem_of_getElem? (i := 26) rfl))))
  | 9, _ => (lc_mt rfl (List.mem_append_right _ (List.mem_append_left _ (List.mem_of_getElem? (i := 28) rfl))))
  | 10, _ => (lc_mt rfl (List.mem_append_right _ (List.mem_append_left _ (List.mem_of_getElem? (i := 30) rfl))))
  | 11, _ => (lc_mt rfl (List.mem_append_right _ (List.mem_append_left _ (List.mem_of_getElem? (i := 32) rfl))))
  | n + 12, h => absurd h (by omega)
theorem inwM_ : ∀ w ∈ u_ws "LinearCells$Machine" TM_ 12, w ∈ lc_ALL := fun w hw => by
  obtain ⟨k, hk, rfl⟩ := List.mem_map.mp hw
  exact inlM_ k (List.mem_range.mp hk)
theorem inlQ_ : ∀ k, k < 59 → u_lay "LinearCellsModel" TQ_ k ∈ lc_ALL
  | 0, _ => (lc_mt rfl (List.mem_append_right _ (List.mem_append_right _ (List.mem_append_right _ (List.mem_append_left _ (List.mem_of_getElem? (i := 195) rfl))))))
  | 1, _ => (lc_mt rfl (List.mem_append_right _ (List.mem_append_right _ (List.mem_append_right _ (List.mem_append_left _ (List.mem_of_getElem? (i := 197) rfl))))))
  | 2, _ => (lc_mt rfl (List.mem_append_right _ (List.mem_append_right _ (List.mem_append_right _ (List.mem_append_left _ (List.mem_of_getElem? (i := 199) rfl))))))
  | 3, _ => (lc_mt rfl (List.mem_append_right _ (List.mem_append_right _ (List.mem_append_right _ (List.mem_append_left _ (List.mem_of_getElem? (i := 201) rfl))))))
  | 4, _ => (lc_mt rfl (List.mem_append_right _ (List.mem_append_right _ (List.mem_append_right _ (List.mem_append_left _ (List.mem_of_getElem? (i := 203) rfl))))))
  | 5, _ => (lc_mt rfl (List.mem_append_right _ (List.mem_append_right _ (List.mem_append_right _ (List.mem_append_left _ (List.mem_of_getElem? (i := 205) rfl))))))
  | 6, _ => (lc_mt rfl (List.mem_append_right _ (List.mem_append_right _ (List.mem_append_right _ (List.mem_append_left _ (List.mem_of_getElem? (i := 207) rfl))))))
  | 7, _ => (lc_mt rfl (List.mem_append_right _ (List.mem_append_right _ (List.mem_append_right _ (List.mem_append_left _ (List.mem_of_getElem? (i := 209) rfl))))))
  | 8, _ => (lc_mt rfl (List.mem_append_right _ (List.mem_append_right _ (List.mem_append_right _ (List.mem_append_left _ (List.mem_of_getElem? (i := 211) rfl))))))
  | 9, _ => (lc_mt rfl (List.mem_append_right _ (List.mem_append_right _ (List.mem_append_right _ (List.mem_append_left _ (List.mem_of_getElem? (i := 213) rfl))))))
  | 10, _ => (lc_mt rfl (List.mem_append_right _ (List.mem_append_right _ (List.mem_append_right _ (List.mem_append_left _ (List.mem_of_getElem? (i := 215) rfl))))))
  | 11, _ => (lc_mt rfl (List.mem_append_right _ (List.mem_append_right _ (List.mem_append_right _ (List.mem_append_left _ (List.mem_of_getElem? (i := 217) rfl))))))
  | 12, _ => (lc_mt rfl (List.mem_append_right _ (List.mem_append_right _ (List.mem_append_right _ (List.mem_append_left _ (List.mem_of_getElem? (i := 219) rfl))))))
  | 13, _ => (lc_mt rfl (List.mem_append_right _ (List.mem_append_right _ (List.mem_append_right _ (List.mem_append_left _ (List.mem_of_getElem? (i := 221) rfl))))))
  | 14, _ => (lc_mt rfl (List.mem_append_right _ (List.mem_append_right _ (List.mem_append_right _ (List.mem_append_left _ (List.mem_of_getElem? (i := 223) rfl))))))
  | 15, _ => (lc_mt rfl (List.mem_append_right _ (List.mem_append_right _ (List.mem_append_right _ (List.mem_append_left _ (List.mem_of_getElem? (i := 225) rfl))))))
  | 16, _ => (lc_mt rfl (List.mem_append_right _ (List.mem_append_right _ (List.mem_append_right _ (List.mem_append_left _ (List.mem_of_getElem? (i := 227) rfl))))))
  | 17, _ => (lc_mt rfl (List.mem_append_right _ (List.mem_append_right _ (List.mem_append_right _ (List.mem_append_left _ (List.mem_of_getElem? (i := 229) rfl))))))
  | 18, _ => (lc_mt rfl (List.mem_append_right _ (List.mem_append_right _ (List.mem_append_right _ (List.mem_append_left _ (List.mem_of_getElem? (i := 231) rfl))))))
  | 19, _ => (lc_mt rfl (List.mem_append_right _ (List.mem_append_right _ (List.mem_append_right _ (List.mem_append_left _ (List.mem_of_getElem? (i := 233) rfl))))))
  | 20, _ => (lc_mt rfl (List.mem_append_right _ (List.mem_append_right _ (List.mem_append_right _ (List.mem_append_left _ (List.mem_of_getElem? (i := 235) rfl))))))
  | 21, _ => (lc_mt rfl (List.mem_append_right _ (List.mem_append_right _ (List.mem_append_right _ (List.mem_append_left _ (List.mem_of_getElem? (i := 237) rfl))))))
  | 22, _ => (lc_mt rfl (List.mem_append_right _ (List.mem_append_right _ (List.mem_append_right _ (List.mem_append_left _ (List.mem_of_getElem? (i := 239) rfl))))))
  | 23, _ => (lc_mt rfl (List.mem_append_right _ (List.mem_append_right _ (List.mem_append_right _ (List.mem_append_right _ (List.mem_append_left _ (List.mem_of_getElem? (i := 1) rfl)))))))
  | 24, _ => (lc_mt rfl (List.mem_append_right _ (List.mem_append_right _ (List.mem_append_right _ (List.mem_append_right _ (List.mem_append_left _ (List.mem_of_getElem? (i := 3) rfl)))))))
  | 25, _ => (lc_mt rfl (List.mem_append_right _ (List.mem_append_right _ (List.mem_append_right _ (List.mem_append_right _ (List.mem_append_left _ (List.mem_of_getElem? (i := 5) rfl)))))))
  | 26, _ => (lc_mt rfl (List.mem_append_right _ (List.mem_append_right _ (List.mem_append_right _ (List.mem_append_right _ (List.mem_append_left _ (List.mem_of_getElem? (i := 7) rfl)))))))
  | 27, _ => (lc_mt rfl (List.mem_append_right _ (List.mem_append_right _ (List.mem_append_right _ (List.mem_append_right _ (List.mem_append_left _ (List.mem_of_getElem? (i := 9) rfl)))))))
  | 28, _ => (lc_mt rfl (List.mem_append_right _ (List.mem_append_right _ (List.mem_append_right _ (List.mem_append_right _ (List.mem_append_left _ (List.mem_of_getElem? (i := 11) rfl)))))))
  | 29, _ => (lc_mt rfl (List.mem_append_right _ (List.mem_append_right _ (List.mem_append_right _ (List.mem_append_right _ (List.mem_append_left _ (List.mem_of_getElem? (i := 13) rfl)))))))
  | 30, _ => (lc_mt rfl (List.mem_append_right _ (List.mem_append_right _ (List.mem_append_right _ (List.mem_append_right _ (List.mem_append_left _ (List.mem_of_getElem? (i := 15) rfl)))))))
  | 31, _ => (lc_mt rfl (List.mem_append_right _ (List.mem_append_right _ (List.mem_append_right _ (List.mem_append_right _ (List.mem_append_left _ (List.mem_of_getElem? (i := 17) rfl)))))))
  | 32, _ => (lc_mt rfl (List.mem_append_right _ (List.mem_append_right _ (List.mem_append_right _ (List.mem_append_right _ (List.mem_append_left _ (List.mem_of_getElem? (i := 19) rfl)))))))
  | 33, _ => (lc_mt rfl (List.mem_append_right _ (List.mem_append_right _ (List.mem_append_right _ (List.mem_append_right _ (List.mem_append_left _ (List.mem_of_getElem? (i := 21) rfl)))))))
  | 34, _ => (lc_mt rfl (List.mem_append_right _ (List.mem_append_right _ (List.mem_append_right _ (List.mem_append_right _ (List.mem_append_left _ (List.mem_of_getElem? (i := 23) rfl)))))))
  | 35, _ => (lc_mt rfl (List.mem_append_right _ (List.mem_append_right _ (List.mem_append_right _ (List.mem_append_right _ (List.mem_append_left _ (List.mem_of_getElem? (i := 25) rfl)))))))
  | 36, _ => (lc_mt rfl (List.mem_append_right _ (List.mem_append_right _ (List.mem_append_right _ (List.mem_append_right _ (List.mem_append_left _ (List.mem_of_getElem? (i := 27) rfl)))))))
  | 37, _ => (lc_mt rfl (List.mem_append_right _ (List.mem_append_right _ (List.mem_append_right _ (List.mem_append_right _ (List.mem_append_left _ (List.mem_of_getElem? (i := 29) rfl)))))))
  | 38, _ => (lc_mt rfl (List.mem_append_right _ (List.mem_append_right _ (List.mem_append_right _ (List.mem_append_right _ (List.mem_append_left _ (List.mem_of_getElem? (i := 31) rfl)))))))
  | 39, _ => (lc_mt rfl (List.mem_append_right _ (List.mem_append_right _ (List.mem_append_right _ (List.mem_append_right _ (List.mem_append_left _ (List.mem_of_getElem? (i := 33) rfl)))))))
  | 40, _ => (lc_mt rfl (List.mem_append_right _ (List.mem_append_right _ (List.mem_append_right _ (List.mem_append_right _ (List.mem_append_left _ (List.mem_of_getElem? (i := 35) rfl)))))))
  | 41, _ => (lc_mt rfl (List.mem_append_right _ (List.mem_append_right _ (List.mem_append_right _ (List.mem_append_right _ (List.mem_append_left _ (List.mem_of_getElem? (i := 37) rfl)))))))
  | 42, _ => (lc_mt rfl (List.mem_append_right _ (List.mem_append_right _ (List.mem_append_right _ (List.mem_append_right _ (List.mem_append_left _ (List.mem_of_getElem? (i := 39) rfl)))))))
  | 43, _ => (lc_mt rfl (List.mem_append_right _ (List.mem_append_right _ (List.mem_append_right _ (List.mem_append_right _ (List.mem_append_left _ (List.mem_of_getElem? (i := 41) rfl)))))))
  | 44, _ => (lc_mt rfl (List.mem_append_right _ (List.mem_append_right _ (List.mem_append_right _ (List.mem_append_right _ (List.mem_append_left _ (List.mem_of_getElem? (i := 43) rfl)))))))
  | 45, _ => (lc_mt rfl (List.mem_append_right _ (List.mem_append_right _ (List.mem_append_right _ (List.mem_append_right _ (List.mem_append_left _ (List.mem_of_getElem? (i := 45) rfl)))))))
  | 46, _ => (lc_mt rfl (List.mem_append_right _ (List.mem_append_right _ (List.mem_append_right _ (List.mem_append_right _ (List.mem_append_left _ (List.mem_of_getElem? (i := 47) rfl)))))))
  | 47, _ => (lc_mt rfl (List.mem_append_right _ (List.mem_append_right _ (List.mem_append_right _ (List.mem_append_right _ (List.mem_append_left _ (List.mem_of_getElem? (i := 49) rfl)))))))
  | 48, _ => (lc_mt rfl (List.mem_append_right _ (List.mem_append_right _ (List.mem_append_right _ (List.mem_append_right _ (List.mem_append_left _ (List.mem_of_getElem? (i := 51) rfl)))))))
  | 49, _ => (lc_mt rfl (List.mem_append_right _ (List.mem_append_right _ (List.mem_append_right _ (List.mem_append_right _ (List.mem_append_left _ (List.mem_of_getElem? (i := 53) rfl)))))))
  | 50, _ => (lc_mt rfl (List.mem_append_right _ (List.mem_append_right _ (List.mem_append_right _ (List.mem_append_right _ (List.mem_append_left _ (List.mem_of_getElem? (i := 55) rfl)))))))
  | 51, _ => (lc_mt rfl (List.mem_append_right _ (List.mem_append_right _ (List.mem_append_right _ (List.mem_append_right _ (List.mem_append_left _ (List.mem_of_getElem? (i := 57) rfl)))))))
  | 52, _ => (lc_mt rfl (List.mem_append_right _ (List.mem_append_right _ (List.mem_append_right _ (List.mem_append_right _ (List.mem_append_left _ (List.mem_of_getElem? (i := 59) rfl)))))))
  | 53, _ => (lc_mt rfl (List.mem_append_right _ (List.mem_append_right _ (List.mem_append_right _ (List.mem_append_right _ (List.mem_append_left _ (List.mem_of_getElem? (i := 61) rfl)))))))
  | 54, _ => (lc_mt rfl (List.mem_append_right _ (List.mem_append_right _ (List.mem_append_right _ (List.mem_append_right _ (List.mem_append_left _ (List.mem_of_getElem? (i := 63) rfl)))))))
  | 55, _ => (lc_mt rfl (List.mem_append_right _ (List.mem_append_right _ (List.mem_append_right _ (List.mem_append_right _ (List.mem_append_left _ (List.mem_of_getElem? (i := 65) rfl)))))))
  | 56, _ => (lc_mt rfl (List.mem_append_right _ (List.mem_append_right _ (List.mem_append_right _ (List.mem_append_right _ (List.mem_append_left _ (List.mem_of_getElem? (i := 67) rfl)))))))
  | 57, _ => (lc_mt rfl (List.mem_append_right _ (List.mem_append_right _ (List.mem_append_right _ (List.mem_append_right _ (List.mem_append_left _ (List.mem_of_getElem? (i := 69) rfl)))))))
  | 58, _ => (lc_mt rfl (List.mem_append_right _ (List.mem_append_right _ (List.mem_append_right _ (List.mem_append_right _ (List.mem_append_left _ (List.mem_of_getElem? (i := 71) rfl)))))))
  | n + 59, h => absurd h (by omega)
theorem inwQ_ : ∀ w ∈ u_ws "LinearCellsModel" TQ_ 59, w ∈ lc_ALL := fun w hw => by
  obtain ⟨k, hk, rfl⟩ := List.mem_map.mp hw
  exact inlQ_ k (List.mem_range.mp hk)
def wA_byteOf : List Cond := Cond.code yA_byteOf prog_1_method_11_code 3 (some .int) :: lc_ALL
def wA_charactersIn : List Cond := Cond.code yA_charactersIn prog_1_method_10_code 4 (some .int) :: lc_ALL
def wA_draft : List Cond := Cond.code yA_draft prog_1_method_2_code 5 (some .boolean) :: lc_ALL
def wA_isProcedureNumber : List Cond := Cond.code yA_isProcedureNumber prog_1_method_12_code 1 (some .boolean) :: lc_ALL
def wP_clear : List Cond := Cond.code yP_clear prog_5_method_2_code 1 none :: lc_ALL
def wR_nextSign : List Cond := Cond.code yR_nextSign prog_6_method_4_code 1 (some .int) :: lc_ALL
def wR_isLetter : List Cond := Cond.code yR_isLetter prog_6_method_5_code 1 (some .boolean) :: lc_ALL
def wP_addTypeSign : List Cond := Cond.code yP_addTypeSign prog_5_method_4_code 2 (some .boolean) :: lc_ALL
def wR_readType : List Cond := Cond.code yR_readType prog_6_method_7_code 2 (some .boolean) :: lc_ALL
def wR_addName : List Cond := Cond.code yR_addName prog_6_method_18_code 4 none :: lc_ALL
def wP_addForm : List Cond := Cond.code yP_addForm prog_5_method_7_code 5 (some .int) :: lc_ALL
def wP_annotate : List Cond := Cond.code yP_annotate prog_5_method_8_code 4 (some .int) :: lc_ALL
def wP_addLeaf : List Cond := Cond.code yP_addLeaf prog_5_method_6_code 5 (some .int) :: lc_ALL
def wR_addVariable : List Cond := Cond.code yR_addVariable prog_6_method_20_code 3 (some .int) :: lc_ALL
def wR_isDigit : List Cond := Cond.code yR_isDigit prog_6_method_6_code 1 (some .boolean) :: lc_ALL
def wR_readNumber : List Cond := Cond.code yR_readNumber prog_6_method_9_code 4 (some .int) :: lc_ALL
def wR_readOne : List Cond := Cond.code yR_readOne prog_6_method_11_code 4 (some .int) :: lc_ALL
def wR_readTwo : List Cond := Cond.code yR_readTwo prog_6_method_12_code 5 (some .int) :: lc_ALL
def wR_readThree : List Cond := Cond.code yR_readThree prog_6_method_13_code 6 (some .int) :: lc_ALL
def wP_addBinder : List Cond := Cond.code yP_addBinder prog_5_method_5_code 2 (some .int) :: lc_ALL
def wR_forgetNames : List Cond := Cond.code yR_forgetNames prog_6_method_19_code 2 none :: lc_ALL
def wR_readBound : List Cond := Cond.code yR_readBound prog_6_method_16_code 6 (some .int) :: lc_ALL
def wR_readLet : List Cond := Cond.code yR_readLet prog_6_method_14_code 5 (some .int) :: lc_ALL
def wR_readSplit : List Cond := Cond.code yR_readSplit prog_6_method_15_code 6 (some .int) :: lc_ALL
def wR_readCall : List Cond := Cond.code yR_readCall prog_6_method_17_code 5 (some .int) :: lc_ALL
def wR_readForm : List Cond := Cond.code yR_readForm prog_6_method_10_code 3 (some .int) :: lc_ALL
def wR_readExpression : List Cond := Cond.code yR_readExpression prog_6_method_8_code 4 (some .int) :: lc_ALL
def wR_reads : List Cond := Cond.code yR_reads prog_6_method_3_code 5 (some .boolean) :: lc_ALL
def wR_metUnboundVariable : List Cond := Cond.code yR_metUnboundVariable prog_6_method_2_code 1 (some .boolean) :: lc_ALL
def wA_define : List Cond := Cond.code yA_define prog_1_method_3_code 4 (some .int) :: lc_ALL
def wA_isThere : List Cond := Cond.code yA_isThere prog_1_method_14_code 2 (some .boolean) :: lc_ALL
def wA_hasBit : List Cond := Cond.code yA_hasBit prog_1_method_13_code 2 (some .boolean) :: lc_ALL
def wA_reachedFrom : List Cond := Cond.code yA_reachedFrom prog_1_method_15_code 5 (some .int) :: lc_ALL
def wT_forgetPairs : List Cond := Cond.code yT_forgetPairs prog_7_method_2_code 1 none :: lc_ALL
def wT_pairOf : List Cond := Cond.code yT_pairOf prog_7_method_7_code 4 (some .int) :: lc_ALL
def wT_written : List Cond := Cond.code yT_written prog_7_method_8_code 7 (some .int) :: lc_ALL
def wK_findWrittenTypes : List Cond := Cond.code yK_findWrittenTypes prog_2_method_5_code 4 none :: lc_ALL
def wK_typeOfPart : List Cond := Cond.code yK_typeOfPart prog_2_method_6_code 2 (some .int) :: lc_ALL
def wK_typeOfBound : List Cond := Cond.code yK_typeOfBound prog_2_method_8_code 2 (some .int) :: lc_ALL
def wT_partOf : List Cond := Cond.code yT_partOf prog_7_method_6_code 3 (some .int) :: lc_ALL
def wT_isPair : List Cond := Cond.code yT_isPair prog_7_method_3_code 2 (some .boolean) :: lc_ALL
def wK_findType : List Cond := Cond.code yK_findType prog_2_method_7_code 4 (some .int) :: lc_ALL
def wP_body : List Cond := Cond.code yP_body prog_5_method_3_code 1 (some .int) :: lc_ALL
def wK_findBodyType : List Cond := Cond.code yK_findBodyType prog_2_method_4_code 4 (some .int) :: lc_ALL
def wT_isLinear : List Cond := Cond.code yT_isLinear prog_7_method_4_code 2 (some .boolean) :: lc_ALL
def wK_usesOfPart : List Cond := Cond.code yK_usesOfPart prog_2_method_12_code 2 (some .int) :: lc_ALL
def wK_usesOf : List Cond := Cond.code yK_usesOf prog_2_method_11_code 7 (some .int) :: lc_ALL
def wK_isUsedWell : List Cond := Cond.code yK_isUsedWell prog_2_method_10_code 4 (some .boolean) :: lc_ALL
def wK_eachVariableIsUsedWell : List Cond := Cond.code yK_eachVariableIsUsedWell prog_2_method_9_code 4 (some .boolean) :: lc_ALL
def wK_findsNoFault : List Cond := Cond.code yK_findsNoFault prog_2_method_3_code 4 (some .boolean) :: lc_ALL
def wA_sound : List Cond := Cond.code yA_sound prog_1_method_4_code 4 (some .boolean) :: lc_ALL
def wT_numberOf : List Cond := Cond.code yT_numberOf prog_7_method_5_code 2 (some .int) :: lc_ALL
def wK_numberOfBodyType : List Cond := Cond.code yK_numberOfBodyType prog_2_method_2_code 3 (some .int) :: lc_ALL
def wA_typed : List Cond := Cond.code yA_typed prog_1_method_5_code 2 (some .int) :: lc_ALL
def wY_clear : List Cond := Cond.code yY_clear prog_4_method_2_code 2 none :: lc_ALL
def wV_of : List Cond := Cond.code yV_of prog_8_method_2_code 2 (some .long) :: lc_ALL
def wM_bind : List Cond := Cond.code yM_bind prog_3_method_8_code 3 none :: lc_ALL
def wM_begin : List Cond := Cond.code yM_begin prog_3_method_9_code 3 none :: lc_ALL
def wM_enter : List Cond := Cond.code yM_enter prog_3_method_7_code 3 none :: lc_ALL
def wM_end : List Cond := Cond.code yM_end prog_3_method_10_code 3 none :: lc_ALL
def wV_wordOf : List Cond := Cond.code yV_wordOf prog_8_method_4_code 2 (some .int) :: lc_ALL
def wV_isPair : List Cond := Cond.code yV_isPair prog_8_method_7_code 2 (some .boolean) :: lc_ALL
def wY_isMade : List Cond := Cond.code yY_isMade prog_4_method_13_code 2 (some .boolean) :: lc_ALL
def wY_partOf : List Cond := Cond.code yY_partOf prog_4_method_14_code 5 (some .long) :: lc_ALL
def wM_valueOfVariable : List Cond := Cond.code yM_valueOfVariable prog_3_method_12_code 6 (some .long) :: lc_ALL
def wV_isNumber : List Cond := Cond.code yV_isNumber prog_8_method_5_code 2 (some .boolean) :: lc_ALL
def wM_choose : List Cond := Cond.code yM_choose prog_3_method_14_code 3 none :: lc_ALL
def wM_split : List Cond := Cond.code yM_split prog_3_method_15_code 3 none :: lc_ALL
def wM_goOn : List Cond := Cond.code yM_goOn prog_3_method_13_code 4 none :: lc_ALL
def wY_takePlace : List Cond := Cond.code yY_takePlace prog_4_method_9_code 3 (some .int) :: lc_ALL
def wM_makeCell : List Cond := Cond.code yM_makeCell prog_3_method_17_code 4 none :: lc_ALL
def wV_isCell : List Cond := Cond.code yV_isCell prog_8_method_6_code 2 (some .boolean) :: lc_ALL
def wY_isFree : List Cond := Cond.code yY_isFree prog_4_method_6_code 2 (some .boolean) :: lc_ALL
def wM_isLivingCell : List Cond := Cond.code yM_isLivingCell prog_3_method_21_code 3 (some .boolean) :: lc_ALL
def wY_numberAt : List Cond := Cond.code yY_numberAt prog_4_method_7_code 2 (some .int) :: lc_ALL
def wY_addPair : List Cond := Cond.code yY_addPair prog_4_method_11_code 5 (some .boolean) :: lc_ALL
def wY_pairsMade : List Cond := Cond.code yY_pairsMade prog_4_method_5_code 1 (some .int) :: lc_ALL
def wM_makePair : List Cond := Cond.code yM_makePair prog_3_method_22_code 5 none :: lc_ALL
def wM_getNumber : List Cond := Cond.code yM_getNumber prog_3_method_18_code 4 none :: lc_ALL
def wY_freePlace : List Cond := Cond.code yY_freePlace prog_4_method_10_code 2 none :: lc_ALL
def wM_freeCell : List Cond := Cond.code yM_freeCell prog_3_method_19_code 4 none :: lc_ALL
def wY_putNumber : List Cond := Cond.code yY_putNumber prog_4_method_8_code 3 none :: lc_ALL
def wM_putNumber : List Cond := Cond.code yM_putNumber prog_3_method_20_code 5 none :: lc_ALL
def wM_numberOf : List Cond := Cond.code yM_numberOf prog_3_method_24_code 3 (some .int) :: lc_ALL
def wM_calculate : List Cond := Cond.code yM_calculate prog_3_method_23_code 7 none :: lc_ALL
def wM_finish : List Cond := Cond.code yM_finish prog_3_method_16_code 6 none :: lc_ALL
def wM_takeStep : List Cond := Cond.code yM_takeStep prog_3_method_11_code 6 none :: lc_ALL
def wY_cellsIn : List Cond := Cond.code yY_cellsIn prog_4_method_15_code 4 (some .int) :: lc_ALL
def wY_numbersIn : List Cond := Cond.code yY_numbersIn prog_4_method_16_code 4 (some .int) :: lc_ALL
def wY_hasNumber : List Cond := Cond.code yY_hasNumber prog_4_method_17_code 4 (some .boolean) :: lc_ALL
def wY_firstNumberIn : List Cond := Cond.code yY_firstNumberIn prog_4_method_18_code 4 (some .int) :: lc_ALL
def wY_sumUpPairs : List Cond := Cond.code yY_sumUpPairs prog_4_method_12_code 6 none :: lc_ALL
def wM_trapOf : List Cond := Cond.code yM_trapOf prog_3_method_6_code 5 (some .int) :: lc_ALL
def wA_run : List Cond := Cond.code yA_run prog_1_method_6_code 3 (some .int) :: lc_ALL
def wM_result : List Cond := Cond.code yM_result prog_3_method_4_code 1 (some .long) :: lc_ALL
def wV_kindOf : List Cond := Cond.code yV_kindOf prog_8_method_3_code 2 (some .int) :: lc_ALL
def wM_leadingNumber : List Cond := Cond.code yM_leadingNumber prog_3_method_5_code 1 (some .int) :: lc_ALL
def wM_memory : List Cond := Cond.code yM_memory prog_3_method_2_code 1 (some (.object "LinearCells$Memory")) :: lc_ALL
def wA_value : List Cond := Cond.code yA_value prog_1_method_7_code 2 (some .int) :: lc_ALL
def wY_cellsMade : List Cond := Cond.code yY_cellsMade prog_4_method_3_code 1 (some .int) :: lc_ALL
def wY_cellsFreed : List Cond := Cond.code yY_cellsFreed prog_4_method_4_code 1 (some .int) :: lc_ALL
def wM_expressionsBegun : List Cond := Cond.code yM_expressionsBegun prog_3_method_3_code 1 (some .int) :: lc_ALL
def wA_heap : List Cond := Cond.code yA_heap prog_1_method_8_code 2 (some .int) :: lc_ALL
def wA_cell : List Cond := Cond.code yA_cell prog_1_method_9_code 2 (some .int) :: lc_ALL
def wQ_thrown : List Cond := Cond.code yQ_thrown prog_10_method_2_code 1 (some .int) :: lc_ALL
def wQ_refuse : List Cond := Cond.code yQ_refuse prog_10_method_3_code 2 (some .int) :: lc_ALL
def wQ_draft : List Cond := Cond.code yQ_draft prog_10_method_4_code 7 (some .boolean) :: lc_ALL
def wQ_peek : List Cond := Cond.code yQ_peek prog_10_method_5_code 1 (some .int) :: lc_ALL
def wQ_next : List Cond := Cond.code yQ_next prog_10_method_6_code 2 (some .int) :: lc_ALL
def wQ_expect : List Cond := Cond.code yQ_expect prog_10_method_7_code 2 none :: lc_ALL
def wQ_isLetter : List Cond := Cond.code yQ_isLetter prog_10_method_8_code 1 (some .boolean) :: lc_ALL
def wQ_isDigit : List Cond := Cond.code yQ_isDigit prog_10_method_9_code 1 (some .boolean) :: lc_ALL
def wQ_letter : List Cond := Cond.code yQ_letter prog_10_method_10_code 2 (some .int) :: lc_ALL
def wQ_number : List Cond := Cond.code yQ_number prog_10_method_11_code 3 (some .int) :: lc_ALL
def wQ_type : List Cond := Cond.code yQ_type prog_10_method_12_code 6 none :: lc_ALL
def wQ_isTwo : List Cond := Cond.code yQ_isTwo prog_10_method_13_code 1 (some .boolean) :: lc_ALL
def wQ_partsOf : List Cond := Cond.code yQ_partsOf prog_10_method_14_code 1 (some .int) :: lc_ALL
def wQ_part : List Cond := Cond.code yQ_part prog_10_method_15_code 3 (some .int) :: lc_ALL
def wQ_bind : List Cond := Cond.code yQ_bind prog_10_method_16_code 4 none :: lc_ALL
def wQ_variable : List Cond := Cond.code yQ_variable prog_10_method_19_code 4 (some .int) :: lc_ALL
def wQ_begin : List Cond := Cond.code yQ_begin prog_10_method_18_code 5 (some .int) :: lc_ALL
def wQ_attach : List Cond := Cond.code yQ_attach prog_10_method_20_code 5 (some .int) :: lc_ALL
def wQ_read : List Cond := Cond.code yQ_read prog_10_method_17_code 2 none :: lc_ALL
def wQ_define : List Cond := Cond.code yQ_define prog_10_method_21_code 4 (some .int) :: lc_ALL
def wQ_isThere : List Cond := Cond.code yQ_isThere prog_10_method_22_code 2 (some .boolean) :: lc_ALL
def wQ_pairType : List Cond := Cond.code yQ_pairType prog_10_method_23_code 4 (some .int) :: lc_ALL
def wQ_typeIn : List Cond := Cond.code yQ_typeIn prog_10_method_24_code 6 (some .int) :: lc_ALL
def wQ_isLinear : List Cond := Cond.code yQ_isLinear prog_10_method_25_code 4 (some .boolean) :: lc_ALL
def wQ_bindingType : List Cond := Cond.code yQ_bindingType prog_10_method_27_code 5 (some .int) :: lc_ALL
def wQ_typeBy : List Cond := Cond.code yQ_typeBy prog_10_method_28_code 9 (some .int) :: lc_ALL
def wQ_find : List Cond := Cond.code yQ_find prog_10_method_26_code 6 (some .boolean) :: lc_ALL
def wQ_isUsedOnce : List Cond := Cond.code yQ_isUsedOnce prog_10_method_29_code 14 (some .boolean) :: lc_ALL
def wQ_isChecked : List Cond := Cond.code yQ_isChecked prog_10_method_30_code 6 (some .boolean) :: lc_ALL
def wQ_sound : List Cond := Cond.code yQ_sound prog_10_method_31_code 8 (some .boolean) :: lc_ALL
def wQ_typed : List Cond := Cond.code yQ_typed prog_10_method_32_code 3 (some .int) :: lc_ALL
def wQ_isNumber : List Cond := Cond.code yQ_isNumber prog_10_method_33_code 2 (some .boolean) :: lc_ALL
def wQ_plain : List Cond := Cond.code yQ_plain prog_10_method_34_code 2 (some .long) :: lc_ALL
def wQ_stop : List Cond := Cond.code yQ_stop prog_10_method_35_code 2 none :: lc_ALL
def wQ_enter : List Cond := Cond.code yQ_enter prog_10_method_36_code 5 none :: lc_ALL
def wQ_withName : List Cond := Cond.code yQ_withName prog_10_method_37_code 6 (some .int) :: lc_ALL
def wQ_answer : List Cond := Cond.code yQ_answer prog_10_method_39_code 3 none :: lc_ALL
def wQ_lookUp : List Cond := Cond.code yQ_lookUp prog_10_method_41_code 5 (some .long) :: lc_ALL
def wQ_goOn : List Cond := Cond.code yQ_goOn prog_10_method_42_code 9 none :: lc_ALL
def wQ_call : List Cond := Cond.code yQ_call prog_10_method_43_code 4 none :: lc_ALL
def wQ_pairUp : List Cond := Cond.code yQ_pairUp prog_10_method_44_code 5 none :: lc_ALL
def wQ_isCell : List Cond := Cond.code yQ_isCell prog_10_method_45_code 2 (some .boolean) :: lc_ALL
def wQ_two : List Cond := Cond.code yQ_two prog_10_method_46_code 9 none :: lc_ALL
def wQ_one : List Cond := Cond.code yQ_one prog_10_method_47_code 6 none :: lc_ALL
def wQ_step : List Cond := Cond.code yQ_step prog_10_method_40_code 5 none :: lc_ALL
def wQ_run : List Cond := Cond.code yQ_run prog_10_method_38_code 4 (some .int) :: lc_ALL
def wQ_hasValue : List Cond := Cond.code yQ_hasValue prog_10_method_48_code 1 (some .boolean) :: lc_ALL
def wQ_in : List Cond := Cond.code yQ_in prog_10_method_50_code 4 (some .int) :: lc_ALL
def wQ_count : List Cond := Cond.code yQ_count prog_10_method_49_code 3 (some .int) :: lc_ALL
def wQ_hasIn : List Cond := Cond.code yQ_hasIn prog_10_method_53_code 3 (some .boolean) :: lc_ALL
def wQ_has : List Cond := Cond.code yQ_has prog_10_method_52_code 4 (some .boolean) :: lc_ALL
def wQ_firstNumber : List Cond := Cond.code yQ_firstNumber prog_10_method_51_code 7 (some .int) :: lc_ALL
def wQ_value : List Cond := Cond.code yQ_value prog_10_method_54_code 2 (some .int) :: lc_ALL
def wQ_heap : List Cond := Cond.code yQ_heap prog_10_method_55_code 4 (some .int) :: lc_ALL
def wQ_cell : List Cond := Cond.code yQ_cell prog_10_method_56_code 2 (some .int) :: lc_ALL
