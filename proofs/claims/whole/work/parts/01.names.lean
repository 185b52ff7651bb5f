/-! names: classes, fields, methods; by program out of the Statement and javap -/
theorem goodIn_sub2 {big ws : List Cond} (hm : ∀ {w : Cond}, w ∈ ws → w ∈ big) (h : ws.all goodWord = true) : GoodIn big ws := fun w hw => ⟨hm hw, good_of_word (List.all_eq_true.mp h w hw)⟩
theorem goodIn_app2 {big a b : List Cond} (ha : GoodIn big a) (hb : GoodIn big b) : GoodIn big (a ++ b) := fun w h => (List.mem_append.mp h).elim (ha w) (hb w)
theorem goodIn_c {big ws : List Cond} {w : Cond} (h : w ∈ big) (hg : goodWord w = true) (hw : GoodIn big ws) : GoodIn big (w :: ws) := fun v hv => by
  rcases List.mem_cons.mp hv with e | e
  · rw [e]; exact ⟨h, good_of_word hg⟩
  · exact hw v e
def TG : u_T := fun k => match k with
  | 0 => ("ArrowClasses$Graph", "nodes", "I", true)
  | 1 => ("ArrowClasses$Graph", "parents", "[I", true)
  | _ => ("ArrowClasses$Graph", "children", "[I", true)
def tyG : Nat → FieldType := fun k => match k with
  | 0 => .int
  | 1 => .array .int
  | _ => .array .int
theorem nmG : ∀ a, a < 3 → ∀ b, b < 3 → a ≠ b → (TG a).2.1 ≠ (TG b).2.1 := by decide +kernel
theorem okG : ∀ k, k < 3 → parseFieldDescriptor (TG k).2.2.1 = some (tyG k) := by decide +kernel
def TK : u_T := fun k => match k with
  | 0 => ("ArrowClasses$Kindred", "drawn", "LArrowClasses$Graph;", true)
  | 1 => ("ArrowClasses$Kindred", "tried", "LArrowClasses$Graph;", true)
  | 2 => ("ArrowClasses$Kindred", "lows", "[I", true)
  | 3 => ("ArrowClasses$Kindred", "highs", "[I", true)
  | 4 => ("ArrowClasses$Kindred", "pairs", "I", false)
  | 5 => ("ArrowClasses$Kindred", "drawnCode", "I", false)
  | 6 => ("ArrowClasses$Kindred", "collidingBits", "I", false)
  | 7 => ("ArrowClasses$Kindred", "knownBits", "I", false)
  | 8 => ("ArrowClasses$Kindred", "knownCode", "I", false)
  | 9 => ("ArrowClasses$Kindred", "gathered", "Z", false)
  | 10 => ("ArrowClasses$Kindred", "count", "I", false)
  | 11 => ("ArrowClasses$Kindred", "firstCode", "I", false)
  | 12 => ("ArrowClasses$Kindred", "someFalling", "I", false)
  | _ => ("ArrowClasses$Kindred", "allFalling", "I", false)
def tyK : Nat → FieldType := fun k => match k with
  | 0 => .object "ArrowClasses$Graph"
  | 1 => .object "ArrowClasses$Graph"
  | 2 => .array .int
  | 3 => .array .int
  | 4 => .int
  | 5 => .int
  | 6 => .int
  | 7 => .int
  | 8 => .int
  | 9 => .boolean
  | 10 => .int
  | 11 => .int
  | 12 => .int
  | _ => .int
theorem nmK : ∀ a, a < 14 → ∀ b, b < 14 → a ≠ b → (TK a).2.1 ≠ (TK b).2.1 := by decide +kernel
theorem okK : ∀ k, k < 14 → parseFieldDescriptor (TK k).2.2.1 = some (tyK k) := by decide +kernel
def TA : u_T := fun k => match k with
  | 0 => ("ArrowClasses", "nodes", "I", true)
  | 1 => ("ArrowClasses", "kindred", "LArrowClasses$Kindred;", true)
  | 2 => ("ArrowClasses", "graph", "LArrowClasses$Graph;", true)
  | _ => ("ArrowClasses", "separationCount", "I", false)
def tyA : Nat → FieldType := fun k => match k with
  | 0 => .int
  | 1 => .object "ArrowClasses$Kindred"
  | 2 => .object "ArrowClasses$Graph"
  | _ => .int
theorem nmA : ∀ a, a < 4 → ∀ b, b < 4 → a ≠ b → (TA a).2.1 ≠ (TA b).2.1 := by decide +kernel
theorem okA : ∀ k, k < 4 → parseFieldDescriptor (TA k).2.2.1 = some (tyA k) := by decide +kernel
def TM : u_T := fun k => match k with
  | 0 => ("ArrowClassesModel", "nodes", "I", false)
  | 1 => ("ArrowClassesModel", "has", "[Z", false)
  | 2 => ("ArrowClassesModel", "known", "[Z", false)
  | 3 => ("ArrowClassesModel", "tried", "[Z", false)
  | 4 => ("ArrowClassesModel", "count", "I", false)
  | 5 => ("ArrowClassesModel", "having", "[I", false)
  | 6 => ("ArrowClassesModel", "best", "[Z", false)
  | 7 => ("ArrowClassesModel", "pairs", "I", false)
  | 8 => ("ArrowClassesModel", "low", "[I", false)
  | 9 => ("ArrowClassesModel", "high", "[I", false)
  | 10 => ("ArrowClassesModel", "path", "[I", false)
  | 11 => ("ArrowClassesModel", "next", "[I", false)
  | _ => ("ArrowClassesModel", "reaches", "[I", false)
def tyM : Nat → FieldType := fun k => match k with
  | 0 => .int
  | 1 => .array .boolean
  | 2 => .array .boolean
  | 3 => .array .boolean
  | 4 => .int
  | 5 => .array .int
  | 6 => .array .boolean
  | 7 => .int
  | 8 => .array .int
  | 9 => .array .int
  | 10 => .array .int
  | 11 => .array .int
  | _ => .array .int
theorem nmM : ∀ a, a < 13 → ∀ b, b < 13 → a ≠ b → (TM a).2.1 ≠ (TM b).2.1 := by decide +kernel
theorem okM : ∀ k, k < 13 → parseFieldDescriptor (TM k).2.2.1 = some (tyM k) := by decide +kernel
abbrev vwCl : List vw_C := [("ArrowClasses$Graph", TG, 3), ("ArrowClasses$Kindred", TK, 14), ("ArrowClasses", TA, 4), ("ArrowClassesModel", TM, 13)]
/-- the words of the tables that every method takes -/
def vzB_0 : List Cond := [.initialized "ArrowClassesLaw", .initialized "ArrowClasses", .initialized "ArrowClasses$Kindred", .initialized "ArrowClasses$Graph", .initialized "ArrowClassesModel", .initialized "java/lang/Integer", .initialized "java/lang/Math", .classLink "ArrowClassesLaw" 7 "ArrowClasses", .instantiable "ArrowClasses" 4, .methodLink "ArrowClassesLaw" 15 ⟨"ArrowClasses", "<init>", "(I)V"⟩, .instanceMethod ⟨"ArrowClasses", "<init>", "(I)V"⟩, .code ⟨"ArrowClasses", "<init>", "(I)V"⟩ prog_1_method_1_code 2 none, .methodLink "ArrowClasses" 1 ⟨"java/lang/Object", "<init>", "()V"⟩, .instanceMethod ⟨"java/lang/Object", "<init>", "()V"⟩, .code ⟨"java/lang/Object", "<init>", "()V"⟩ object_method_1_code 1 none, .classLink "ArrowClasses" 13 "ArrowClasses$Kindred", .instantiable "ArrowClasses$Kindred" 14, .methodLink "ArrowClasses" 15 ⟨"ArrowClasses$Kindred", "<init>", "(I)V"⟩, .instanceMethod ⟨"ArrowClasses$Kindred", "<init>", "(I)V"⟩, .code ⟨"ArrowClasses$Kindred", "<init>", "(I)V"⟩ prog_3_method_1_code 2 none, .methodLink "ArrowClasses$Kindred" 3 ⟨"java/lang/Object", "<init>", "()V"⟩, .classLink "ArrowClasses$Kindred" 9 "ArrowClasses$Graph", .instantiable "ArrowClasses$Graph" 3, .methodLink "ArrowClasses$Kindred" 11 ⟨"ArrowClasses$Graph", "<init>", "(I)V"⟩, .instanceMethod ⟨"ArrowClasses$Graph", "<init>", "(I)V"⟩, .code ⟨"ArrowClasses$Graph", "<init>", "(I)V"⟩ prog_2_method_1_code 2 none, .methodLink "ArrowClasses$Graph" 1 ⟨"java/lang/Object", "<init>", "()V"⟩, .fieldLink "ArrowClasses$Graph" 7 "ArrowClasses$Graph" "nodes" "I", .fieldLink "ArrowClasses$Kindred" 50 "ArrowClasses$Graph" "nodes" "I", .fieldLink "ArrowClasses$Graph" 13 "ArrowClasses$Graph" "parents" "[I", .fieldLink "ArrowClasses" 69 "ArrowClasses$Graph" "parents" "[I", .fieldLink "ArrowClasses$Graph" 17 "ArrowClasses$Graph" "children" "[I", .fieldLink "ArrowClasses" 73 "ArrowClasses$Graph" "children" "[I", .laysFinal "ArrowClasses$Graph" "ArrowClasses$Graph" "nodes" "I", .laysFinal "ArrowClasses$Graph" "ArrowClasses$Graph" "parents" "[I", .laysFinal "ArrowClasses$Graph" "ArrowClasses$Graph" "children" "[I", .arrayClass .int, .fieldLink "ArrowClasses$Kindred" 14 "ArrowClasses$Kindred" "drawn" "LArrowClasses$Graph;", .fieldLink "ArrowClasses" 22 "ArrowClasses$Kindred" "drawn" "LArrowClasses$Graph;", .fieldLink "ArrowClasses$Kindred" 20 "ArrowClasses$Kindred" "tried" "LArrowClasses$Graph;"]
def vzB_1 : List Cond := [.fieldLink "ArrowClasses$Kindred" 23 "ArrowClasses$Kindred" "lows" "[I", .fieldLink "ArrowClasses$Kindred" 27 "ArrowClasses$Kindred" "highs" "[I", .fieldLink "ArrowClasses$Kindred" 30 "ArrowClasses$Kindred" "pairs" "I", .fieldLink "ArrowClasses$Kindred" 34 "ArrowClasses$Kindred" "drawnCode" "I", .fieldLink "ArrowClasses$Kindred" 37 "ArrowClasses$Kindred" "collidingBits" "I", .fieldLink "ArrowClasses$Kindred" 40 "ArrowClasses$Kindred" "knownBits" "I", .fieldLink "ArrowClasses$Kindred" 43 "ArrowClasses$Kindred" "knownCode" "I", .fieldLink "ArrowClasses$Kindred" 46 "ArrowClasses$Kindred" "gathered" "Z", .fieldLink "ArrowClasses$Kindred" 71 "ArrowClasses$Kindred" "count" "I", .fieldLink "ArrowClasses$Kindred" 83 "ArrowClasses$Kindred" "firstCode" "I", .fieldLink "ArrowClasses$Kindred" 80 "ArrowClasses$Kindred" "someFalling" "I", .fieldLink "ArrowClasses$Kindred" 77 "ArrowClasses$Kindred" "allFalling" "I", .laysFinal "ArrowClasses$Kindred" "ArrowClasses$Kindred" "drawn" "LArrowClasses$Graph;", .laysFinal "ArrowClasses$Kindred" "ArrowClasses$Kindred" "tried" "LArrowClasses$Graph;", .laysFinal "ArrowClasses$Kindred" "ArrowClasses$Kindred" "lows" "[I", .laysFinal "ArrowClasses$Kindred" "ArrowClasses$Kindred" "highs" "[I", .lays "ArrowClasses$Kindred" "ArrowClasses$Kindred" "pairs" "I", .lays "ArrowClasses$Kindred" "ArrowClasses$Kindred" "drawnCode" "I", .lays "ArrowClasses$Kindred" "ArrowClasses$Kindred" "collidingBits" "I", .lays "ArrowClasses$Kindred" "ArrowClasses$Kindred" "knownBits" "I", .lays "ArrowClasses$Kindred" "ArrowClasses$Kindred" "knownCode" "I", .lays "ArrowClasses$Kindred" "ArrowClasses$Kindred" "gathered" "Z", .lays "ArrowClasses$Kindred" "ArrowClasses$Kindred" "count" "I", .lays "ArrowClasses$Kindred" "ArrowClasses$Kindred" "firstCode" "I", .lays "ArrowClasses$Kindred" "ArrowClasses$Kindred" "someFalling" "I", .lays "ArrowClasses$Kindred" "ArrowClasses$Kindred" "allFalling" "I", .fieldLink "ArrowClasses" 9 "ArrowClasses" "nodes" "I", .fieldLink "ArrowClasses" 18 "ArrowClasses" "kindred" "LArrowClasses$Kindred;", .fieldLink "ArrowClasses" 26 "ArrowClasses" "graph" "LArrowClasses$Graph;", .fieldLink "ArrowClasses" 29 "ArrowClasses" "separationCount" "I", .laysFinal "ArrowClasses" "ArrowClasses" "nodes" "I", .laysFinal "ArrowClasses" "ArrowClasses" "kindred" "LArrowClasses$Kindred;", .laysFinal "ArrowClasses" "ArrowClasses" "graph" "LArrowClasses$Graph;", .lays "ArrowClasses" "ArrowClasses" "separationCount" "I", .methodLink "ArrowClassesLaw" 21 ⟨"ArrowClasses", "arrow", "(II)Z"⟩, .instanceMethod ⟨"ArrowClasses", "arrow", "(II)Z"⟩, .selects "ArrowClasses" ⟨"ArrowClasses", "arrow", "(II)Z"⟩ ⟨"ArrowClasses", "arrow", "(II)Z"⟩, .code ⟨"ArrowClasses", "arrow", "(II)Z"⟩ prog_1_method_2_code 3 (some .boolean), .methodLink "ArrowClasses" 32 ⟨"ArrowClasses", "isPair", "(II)Z"⟩, .selects "ArrowClasses" ⟨"ArrowClasses", "isPair", "(II)Z"⟩ ⟨"ArrowClasses", "isPair", "(II)Z"⟩]
def vzB_2 : List Cond := [.instanceMethod ⟨"ArrowClasses", "isPair", "(II)Z"⟩, .code ⟨"ArrowClasses", "isPair", "(II)Z"⟩ prog_1_method_22_code 3 (some .boolean), .methodLink "ArrowClasses" 65 ⟨"ArrowClasses", "isNode", "(I)Z"⟩, .selects "ArrowClasses" ⟨"ArrowClasses", "isNode", "(I)Z"⟩ ⟨"ArrowClasses", "isNode", "(I)Z"⟩, .instanceMethod ⟨"ArrowClasses", "isNode", "(I)Z"⟩, .code ⟨"ArrowClasses", "isNode", "(I)Z"⟩ prog_1_method_21_code 2 (some .boolean), .methodLink "ArrowClasses" 36 ⟨"ArrowClasses$Graph", "joins", "(II)Z"⟩, .instanceMethod ⟨"ArrowClasses$Graph", "joins", "(II)Z"⟩, .selects "ArrowClasses$Graph" ⟨"ArrowClasses$Graph", "joins", "(II)Z"⟩ ⟨"ArrowClasses$Graph", "joins", "(II)Z"⟩, .code ⟨"ArrowClasses$Graph", "joins", "(II)Z"⟩ prog_2_method_3_code 3 (some .boolean), .methodLink "ArrowClasses$Graph" 26 ⟨"ArrowClasses$Graph", "has", "(II)Z"⟩, .instanceMethod ⟨"ArrowClasses$Graph", "has", "(II)Z"⟩, .selects "ArrowClasses$Graph" ⟨"ArrowClasses$Graph", "has", "(II)Z"⟩ ⟨"ArrowClasses$Graph", "has", "(II)Z"⟩, .code ⟨"ArrowClasses$Graph", "has", "(II)Z"⟩ prog_2_method_2_code 3 (some .boolean), .static ⟨"ArrowClasses", "holds", "(II)Z"⟩, .code ⟨"ArrowClasses", "holds", "(II)Z"⟩ prog_1_method_25_code 2 (some .boolean), .methodLink "ArrowClasses" 41 ⟨"ArrowClasses$Graph", "size", "()I"⟩, .instanceMethod ⟨"ArrowClasses$Graph", "size", "()I"⟩, .selects "ArrowClasses$Graph" ⟨"ArrowClasses$Graph", "size", "()I"⟩ ⟨"ArrowClasses$Graph", "size", "()I"⟩, .code ⟨"ArrowClasses$Graph", "size", "()I"⟩ prog_2_method_7_code 3 (some .int), .methodLink "ArrowClasses$Graph" 29 ⟨"java/lang/Integer", "bitCount", "(I)I"⟩, .static ⟨"java/lang/Integer", "bitCount", "(I)I"⟩, .code ⟨"java/lang/Integer", "bitCount", "(I)I"⟩ prog_6_method_49_code 1 (some .int), .constant "java/lang/Integer" 265 1431655765, .constant "java/lang/Integer" 266 858993459, .constant "java/lang/Integer" 267 252645135, .methodLink "ArrowClasses" 45 ⟨"ArrowClasses$Graph", "reachOf", "(I)I"⟩, .instanceMethod ⟨"ArrowClasses$Graph", "reachOf", "(I)I"⟩, .selects "ArrowClasses$Graph" ⟨"ArrowClasses$Graph", "reachOf", "(I)I"⟩ ⟨"ArrowClasses$Graph", "reachOf", "(I)I"⟩, .code ⟨"ArrowClasses$Graph", "reachOf", "(I)I"⟩ prog_2_method_8_code 5 (some .int), .methodLink "ArrowClasses" 49 ⟨"ArrowClasses", "holds", "(II)Z"⟩, .methodLink "ArrowClasses" 52 ⟨"ArrowClasses$Graph", "put", "(II)V"⟩, .instanceMethod ⟨"ArrowClasses$Graph", "put", "(II)V"⟩, .selects "ArrowClasses$Graph" ⟨"ArrowClasses$Graph", "put", "(II)V"⟩ ⟨"ArrowClasses$Graph", "put", "(II)V"⟩, .code ⟨"ArrowClasses$Graph", "put", "(II)V"⟩ prog_2_method_4_code 3 none, .methodLink "ArrowClasses" 56 ⟨"ArrowClasses", "noteChange", "()V"⟩, .selects "ArrowClasses" ⟨"ArrowClasses", "noteChange", "()V"⟩ ⟨"ArrowClasses", "noteChange", "()V"⟩, .instanceMethod ⟨"ArrowClasses", "noteChange", "()V"⟩, .code ⟨"ArrowClasses", "noteChange", "()V"⟩ prog_1_method_23_code 1 none, .methodLink "ArrowClasses" 116 ⟨"ArrowClasses$Kindred", "restart", "()V"⟩]
def vzB_3 : List Cond := [.instanceMethod ⟨"ArrowClasses$Kindred", "restart", "()V"⟩, .selects "ArrowClasses$Kindred" ⟨"ArrowClasses$Kindred", "restart", "()V"⟩ ⟨"ArrowClasses$Kindred", "restart", "()V"⟩, .code ⟨"ArrowClasses$Kindred", "restart", "()V"⟩ prog_3_method_2_code 3 none, .methodLink "ArrowClasses$Kindred" 53 ⟨"ArrowClasses$Graph", "joins", "(II)Z"⟩, .methodLink "ArrowClasses$Kindred" 57 ⟨"ArrowClasses$Kindred", "listPair", "(II)V"⟩, .selects "ArrowClasses$Kindred" ⟨"ArrowClasses$Kindred", "listPair", "(II)V"⟩ ⟨"ArrowClasses$Kindred", "listPair", "(II)V"⟩, .instanceMethod ⟨"ArrowClasses$Kindred", "listPair", "(II)V"⟩, .code ⟨"ArrowClasses$Kindred", "listPair", "(II)V"⟩ prog_3_method_3_code 4 none, .methodLink "ArrowClasses$Kindred" 61 ⟨"ArrowClasses$Graph", "strangers", "(II)I"⟩, .instanceMethod ⟨"ArrowClasses$Graph", "strangers", "(II)I"⟩, .selects "ArrowClasses$Graph" ⟨"ArrowClasses$Graph", "strangers", "(II)I"⟩ ⟨"ArrowClasses$Graph", "strangers", "(II)I"⟩, .code ⟨"ArrowClasses$Graph", "strangers", "(II)I"⟩ prog_2_method_10_code 3 (some .int), .methodLink "ArrowClasses$Kindred" 65 ⟨"ArrowClasses$Graph", "has", "(II)Z"⟩, .methodLink "ArrowClassesLaw" 26 ⟨"ArrowClasses", "erase", "(II)Z"⟩, .instanceMethod ⟨"ArrowClasses", "erase", "(II)Z"⟩, .selects "ArrowClasses" ⟨"ArrowClasses", "erase", "(II)Z"⟩ ⟨"ArrowClasses", "erase", "(II)Z"⟩, .code ⟨"ArrowClasses", "erase", "(II)Z"⟩ prog_1_method_3_code 3 (some .boolean), .methodLink "ArrowClasses" 59 ⟨"ArrowClasses$Graph", "has", "(II)Z"⟩, .methodLink "ArrowClasses" 62 ⟨"ArrowClasses$Graph", "take", "(II)V"⟩, .instanceMethod ⟨"ArrowClasses$Graph", "take", "(II)V"⟩, .selects "ArrowClasses$Graph" ⟨"ArrowClasses$Graph", "take", "(II)V"⟩ ⟨"ArrowClasses$Graph", "take", "(II)V"⟩, .code ⟨"ArrowClasses$Graph", "take", "(II)V"⟩ prog_2_method_5_code 3 none, .methodLink "ArrowClassesLaw" 30 ⟨"ArrowClasses", "turn", "(II)Z"⟩, .instanceMethod ⟨"ArrowClasses", "turn", "(II)Z"⟩, .selects "ArrowClasses" ⟨"ArrowClasses", "turn", "(II)Z"⟩ ⟨"ArrowClasses", "turn", "(II)Z"⟩, .code ⟨"ArrowClasses", "turn", "(II)Z"⟩ prog_1_method_4_code 3 (some .boolean), .methodLink "ArrowClassesLaw" 34 ⟨"ArrowClasses", "drawn", "(II)Z"⟩, .instanceMethod ⟨"ArrowClasses", "drawn", "(II)Z"⟩, .selects "ArrowClasses" ⟨"ArrowClasses", "drawn", "(II)Z"⟩ ⟨"ArrowClasses", "drawn", "(II)Z"⟩, .code ⟨"ArrowClasses", "drawn", "(II)Z"⟩ prog_1_method_5_code 3 (some .boolean), .methodLink "ArrowClassesLaw" 38 ⟨"ArrowClasses", "parents", "(I)I"⟩, .instanceMethod ⟨"ArrowClasses", "parents", "(I)I"⟩, .selects "ArrowClasses" ⟨"ArrowClasses", "parents", "(I)I"⟩ ⟨"ArrowClasses", "parents", "(I)I"⟩, .code ⟨"ArrowClasses", "parents", "(I)I"⟩ prog_1_method_6_code 2 (some .int), .methodLink "ArrowClassesLaw" 43 ⟨"ArrowClasses", "reached", "(I)I"⟩, .instanceMethod ⟨"ArrowClasses", "reached", "(I)I"⟩, .selects "ArrowClasses" ⟨"ArrowClasses", "reached", "(I)I"⟩ ⟨"ArrowClasses", "reached", "(I)I"⟩, .code ⟨"ArrowClasses", "reached", "(I)I"⟩ prog_1_method_7_code 2 (some .int), .methodLink "ArrowClassesLaw" 47 ⟨"ArrowClasses", "around", "(I)I"⟩, .instanceMethod ⟨"ArrowClasses", "around", "(I)I"⟩]
def vzB_4 : List Cond := [.selects "ArrowClasses" ⟨"ArrowClasses", "around", "(I)I"⟩ ⟨"ArrowClasses", "around", "(I)I"⟩, .code ⟨"ArrowClasses", "around", "(I)I"⟩ prog_1_method_8_code 4 (some .int), .methodLink "ArrowClassesLaw" 51 ⟨"ArrowClasses", "collisions", "()I"⟩, .instanceMethod ⟨"ArrowClasses", "collisions", "()I"⟩, .selects "ArrowClasses" ⟨"ArrowClasses", "collisions", "()I"⟩ ⟨"ArrowClasses", "collisions", "()I"⟩, .code ⟨"ArrowClasses", "collisions", "()I"⟩ prog_1_method_9_code 4 (some .int), .methodLink "ArrowClasses" 76 ⟨"ArrowClasses$Graph", "strangers", "(II)I"⟩, .methodLink "ArrowClasses" 80 ⟨"java/lang/Integer", "bitCount", "(I)I"⟩, .methodLink "ArrowClassesLaw" 56 ⟨"ArrowClasses", "covered", "(II)Z"⟩, .instanceMethod ⟨"ArrowClasses", "covered", "(II)Z"⟩, .selects "ArrowClasses" ⟨"ArrowClasses", "covered", "(II)Z"⟩ ⟨"ArrowClasses", "covered", "(II)Z"⟩, .code ⟨"ArrowClasses", "covered", "(II)Z"⟩ prog_1_method_10_code 3 (some .boolean), .methodLink "ArrowClasses" 85 ⟨"ArrowClasses", "drawn", "(II)Z"⟩, .methodLink "ArrowClassesLaw" 60 ⟨"ArrowClasses", "separated", "(III)Z"⟩, .instanceMethod ⟨"ArrowClasses", "separated", "(III)Z"⟩, .selects "ArrowClasses" ⟨"ArrowClasses", "separated", "(III)Z"⟩ ⟨"ArrowClasses", "separated", "(III)Z"⟩, .code ⟨"ArrowClasses", "separated", "(III)Z"⟩ prog_1_method_11_code 4 (some .boolean), .methodLink "ArrowClasses" 87 ⟨"ArrowClasses$Graph", "openFrom", "(II)I"⟩, .instanceMethod ⟨"ArrowClasses$Graph", "openFrom", "(II)I"⟩, .selects "ArrowClasses$Graph" ⟨"ArrowClasses$Graph", "openFrom", "(II)I"⟩ ⟨"ArrowClasses$Graph", "openFrom", "(II)I"⟩, .code ⟨"ArrowClasses$Graph", "openFrom", "(II)I"⟩ prog_2_method_12_code 11 (some .int), .methodLink "ArrowClassesLaw" 65 ⟨"ArrowClasses", "separator", "(II)I"⟩, .instanceMethod ⟨"ArrowClasses", "separator", "(II)I"⟩, .selects "ArrowClasses" ⟨"ArrowClasses", "separator", "(II)I"⟩ ⟨"ArrowClasses", "separator", "(II)I"⟩, .code ⟨"ArrowClasses", "separator", "(II)I"⟩ prog_1_method_12_code 7 (some .int), .methodLink "ArrowClasses" 90 ⟨"ArrowClasses", "separated", "(III)Z"⟩, .methodLink "ArrowClassesLaw" 70 ⟨"ArrowClasses", "separations", "()I"⟩, .instanceMethod ⟨"ArrowClasses", "separations", "()I"⟩, .selects "ArrowClasses" ⟨"ArrowClasses", "separations", "()I"⟩ ⟨"ArrowClasses", "separations", "()I"⟩, .code ⟨"ArrowClasses", "separations", "()I"⟩ prog_1_method_13_code 3 (some .int), .methodLink "ArrowClasses" 94 ⟨"ArrowClasses", "separationsBy", "(I)I"⟩, .selects "ArrowClasses" ⟨"ArrowClasses", "separationsBy", "(I)I"⟩ ⟨"ArrowClasses", "separationsBy", "(I)I"⟩, .instanceMethod ⟨"ArrowClasses", "separationsBy", "(I)I"⟩, .code ⟨"ArrowClasses", "separationsBy", "(I)I"⟩ prog_1_method_24_code 5 (some .int), .methodLink "ArrowClassesLaw" 74 ⟨"ArrowClasses", "edge", "(II)I"⟩, .instanceMethod ⟨"ArrowClasses", "edge", "(II)I"⟩, .selects "ArrowClasses" ⟨"ArrowClasses", "edge", "(II)I"⟩ ⟨"ArrowClasses", "edge", "(II)I"⟩, .code ⟨"ArrowClasses", "edge", "(II)I"⟩ prog_1_method_14_code 3 (some .int), .methodLink "ArrowClasses" 97 ⟨"ArrowClasses$Kindred", "someHas", "(II)Z"⟩, .instanceMethod ⟨"ArrowClasses$Kindred", "someHas", "(II)Z"⟩]
def vzB_5 : List Cond := [.selects "ArrowClasses$Kindred" ⟨"ArrowClasses$Kindred", "someHas", "(II)Z"⟩ ⟨"ArrowClasses$Kindred", "someHas", "(II)Z"⟩, .code ⟨"ArrowClasses$Kindred", "someHas", "(II)Z"⟩ prog_3_method_5_code 4 (some .boolean), .methodLink "ArrowClasses$Kindred" 68 ⟨"ArrowClasses$Kindred", "gather", "()V"⟩, .selects "ArrowClasses$Kindred" ⟨"ArrowClasses$Kindred", "gather", "()V"⟩ ⟨"ArrowClasses$Kindred", "gather", "()V"⟩, .instanceMethod ⟨"ArrowClasses$Kindred", "gather", "()V"⟩, .code ⟨"ArrowClasses$Kindred", "gather", "()V"⟩ prog_3_method_13_code 2 none, .methodLink "ArrowClasses$Kindred" 103 ⟨"ArrowClasses$Kindred", "isMember", "(I)Z"⟩, .selects "ArrowClasses$Kindred" ⟨"ArrowClasses$Kindred", "isMember", "(I)Z"⟩ ⟨"ArrowClasses$Kindred", "isMember", "(I)Z"⟩, .instanceMethod ⟨"ArrowClasses$Kindred", "isMember", "(I)Z"⟩, .code ⟨"ArrowClasses$Kindred", "isMember", "(I)Z"⟩ prog_3_method_14_code 3 (some .boolean), .methodLink "ArrowClasses$Kindred" 107 ⟨"ArrowClasses$Graph", "empty", "()V"⟩, .instanceMethod ⟨"ArrowClasses$Graph", "empty", "()V"⟩, .selects "ArrowClasses$Graph" ⟨"ArrowClasses$Graph", "empty", "()V"⟩ ⟨"ArrowClasses$Graph", "empty", "()V"⟩, .code ⟨"ArrowClasses$Graph", "empty", "()V"⟩ prog_2_method_6_code 2 none, .methodLink "ArrowClasses$Kindred" 100 ⟨"ArrowClasses$Kindred", "bitAt", "(I)I"⟩, .selects "ArrowClasses$Kindred" ⟨"ArrowClasses$Kindred", "bitAt", "(I)I"⟩ ⟨"ArrowClasses$Kindred", "bitAt", "(I)I"⟩, .instanceMethod ⟨"ArrowClasses$Kindred", "bitAt", "(I)I"⟩, .code ⟨"ArrowClasses$Kindred", "bitAt", "(I)I"⟩ prog_3_method_12_code 2 (some .int), .methodLink "ArrowClasses$Kindred" 110 ⟨"ArrowClasses$Graph", "put", "(II)V"⟩, .methodLink "ArrowClasses$Kindred" 113 ⟨"ArrowClasses$Graph", "collidesLike", "(LArrowClasses$Graph;)Z"⟩, .instanceMethod ⟨"ArrowClasses$Graph", "collidesLike", "(LArrowClasses$Graph;)Z"⟩, .selects "ArrowClasses$Graph" ⟨"ArrowClasses$Graph", "collidesLike", "(LArrowClasses$Graph;)Z"⟩ ⟨"ArrowClasses$Graph", "collidesLike", "(LArrowClasses$Graph;)Z"⟩, .code ⟨"ArrowClasses$Graph", "collidesLike", "(LArrowClasses$Graph;)Z"⟩ prog_2_method_11_code 4 (some .boolean), .methodLink "ArrowClasses$Graph" 35 ⟨"ArrowClasses$Graph", "strangers", "(II)I"⟩, .methodLink "ArrowClasses$Kindred" 117 ⟨"ArrowClasses$Graph", "hasRing", "()Z"⟩, .instanceMethod ⟨"ArrowClasses$Graph", "hasRing", "()Z"⟩, .selects "ArrowClasses$Graph" ⟨"ArrowClasses$Graph", "hasRing", "()Z"⟩ ⟨"ArrowClasses$Graph", "hasRing", "()Z"⟩, .code ⟨"ArrowClasses$Graph", "hasRing", "()Z"⟩ prog_2_method_9_code 4 (some .boolean), .methodLink "ArrowClasses$Kindred" 74 ⟨"ArrowClasses$Kindred", "bitOf", "(II)I"⟩, .selects "ArrowClasses$Kindred" ⟨"ArrowClasses$Kindred", "bitOf", "(II)I"⟩ ⟨"ArrowClasses$Kindred", "bitOf", "(II)I"⟩, .instanceMethod ⟨"ArrowClasses$Kindred", "bitOf", "(II)I"⟩, .code ⟨"ArrowClasses$Kindred", "bitOf", "(II)I"⟩ prog_3_method_11_code 4 (some .int), .methodLink "ArrowClasses$Kindred" 92 ⟨"java/lang/Math", "min", "(II)I"⟩, .static ⟨"java/lang/Math", "min", "(II)I"⟩, .code ⟨"java/lang/Math", "min", "(II)I"⟩ prog_7_method_69_code 2 (some .int), .methodLink "ArrowClasses$Kindred" 97 ⟨"java/lang/Math", "max", "(II)I"⟩, .static ⟨"java/lang/Math", "max", "(II)I"⟩, .code ⟨"java/lang/Math", "max", "(II)I"⟩ prog_7_method_65_code 2 (some .int), .methodLink "ArrowClassesLaw" 78 ⟨"ArrowClasses", "loose", "()I"⟩, .instanceMethod ⟨"ArrowClasses", "loose", "()I"⟩]
def vzB_6 : List Cond := [.selects "ArrowClasses" ⟨"ArrowClasses", "loose", "()I"⟩ ⟨"ArrowClasses", "loose", "()I"⟩, .code ⟨"ArrowClasses", "loose", "()I"⟩ prog_1_method_15_code 1 (some .int), .methodLink "ArrowClasses" 100 ⟨"ArrowClasses$Kindred", "loosePairs", "()I"⟩, .instanceMethod ⟨"ArrowClasses$Kindred", "loosePairs", "()I"⟩, .selects "ArrowClasses$Kindred" ⟨"ArrowClasses$Kindred", "loosePairs", "()I"⟩ ⟨"ArrowClasses$Kindred", "loosePairs", "()I"⟩, .code ⟨"ArrowClasses$Kindred", "loosePairs", "()I"⟩ prog_3_method_7_code 1 (some .int), .methodLink "ArrowClasses$Kindred" 86 ⟨"java/lang/Integer", "bitCount", "(I)I"⟩, .methodLink "ArrowClassesLaw" 82 ⟨"ArrowClasses", "know", "(II)Z"⟩, .instanceMethod ⟨"ArrowClasses", "know", "(II)Z"⟩, .selects "ArrowClasses" ⟨"ArrowClasses", "know", "(II)Z"⟩ ⟨"ArrowClasses", "know", "(II)Z"⟩, .code ⟨"ArrowClasses", "know", "(II)Z"⟩ prog_1_method_16_code 3 (some .boolean), .methodLink "ArrowClasses" 103 ⟨"ArrowClasses$Kindred", "fix", "(II)V"⟩, .instanceMethod ⟨"ArrowClasses$Kindred", "fix", "(II)V"⟩, .selects "ArrowClasses$Kindred" ⟨"ArrowClasses$Kindred", "fix", "(II)V"⟩ ⟨"ArrowClasses$Kindred", "fix", "(II)V"⟩, .code ⟨"ArrowClasses$Kindred", "fix", "(II)V"⟩ prog_3_method_9_code 4 none, .methodLink "ArrowClassesLaw" 86 ⟨"ArrowClasses", "forget", "()I"⟩, .instanceMethod ⟨"ArrowClasses", "forget", "()I"⟩, .selects "ArrowClasses" ⟨"ArrowClasses", "forget", "()I"⟩ ⟨"ArrowClasses", "forget", "()I"⟩, .code ⟨"ArrowClasses", "forget", "()I"⟩ prog_1_method_17_code 1 (some .int), .methodLink "ArrowClasses" 106 ⟨"ArrowClasses$Kindred", "unfix", "()I"⟩, .instanceMethod ⟨"ArrowClasses$Kindred", "unfix", "()I"⟩, .selects "ArrowClasses$Kindred" ⟨"ArrowClasses$Kindred", "unfix", "()I"⟩ ⟨"ArrowClasses$Kindred", "unfix", "()I"⟩, .code ⟨"ArrowClasses$Kindred", "unfix", "()I"⟩ prog_3_method_10_code 2 (some .int), .methodLink "ArrowClassesLaw" 90 ⟨"ArrowClasses", "members", "()I"⟩, .instanceMethod ⟨"ArrowClasses", "members", "()I"⟩, .selects "ArrowClasses" ⟨"ArrowClasses", "members", "()I"⟩ ⟨"ArrowClasses", "members", "()I"⟩, .code ⟨"ArrowClasses", "members", "()I"⟩ prog_1_method_18_code 1 (some .int), .methodLink "ArrowClasses" 109 ⟨"ArrowClasses$Kindred", "size", "()I"⟩, .instanceMethod ⟨"ArrowClasses$Kindred", "size", "()I"⟩, .selects "ArrowClasses$Kindred" ⟨"ArrowClasses$Kindred", "size", "()I"⟩ ⟨"ArrowClasses$Kindred", "size", "()I"⟩, .code ⟨"ArrowClasses$Kindred", "size", "()I"⟩ prog_3_method_4_code 1 (some .int), .methodLink "ArrowClassesLaw" 94 ⟨"ArrowClasses", "first", "(II)Z"⟩, .instanceMethod ⟨"ArrowClasses", "first", "(II)Z"⟩, .selects "ArrowClasses" ⟨"ArrowClasses", "first", "(II)Z"⟩ ⟨"ArrowClasses", "first", "(II)Z"⟩, .code ⟨"ArrowClasses", "first", "(II)Z"⟩ prog_1_method_19_code 3 (some .boolean), .methodLink "ArrowClasses" 110 ⟨"ArrowClasses$Kindred", "firstHas", "(II)Z"⟩, .instanceMethod ⟨"ArrowClasses$Kindred", "firstHas", "(II)Z"⟩, .selects "ArrowClasses$Kindred" ⟨"ArrowClasses$Kindred", "firstHas", "(II)Z"⟩ ⟨"ArrowClasses$Kindred", "firstHas", "(II)Z"⟩, .code ⟨"ArrowClasses$Kindred", "firstHas", "(II)Z"⟩ prog_3_method_6_code 4 (some .boolean), .methodLink "ArrowClassesLaw" 98 ⟨"ArrowClasses", "turned", "()I"⟩]
def vzB_7 : List Cond := [.instanceMethod ⟨"ArrowClasses", "turned", "()I"⟩, .selects "ArrowClasses" ⟨"ArrowClasses", "turned", "()I"⟩ ⟨"ArrowClasses", "turned", "()I"⟩, .code ⟨"ArrowClasses", "turned", "()I"⟩ prog_1_method_20_code 1 (some .int), .methodLink "ArrowClasses" 113 ⟨"ArrowClasses$Kindred", "turnedInFirst", "()I"⟩, .instanceMethod ⟨"ArrowClasses$Kindred", "turnedInFirst", "()I"⟩, .selects "ArrowClasses$Kindred" ⟨"ArrowClasses$Kindred", "turnedInFirst", "()I"⟩ ⟨"ArrowClasses$Kindred", "turnedInFirst", "()I"⟩, .code ⟨"ArrowClasses$Kindred", "turnedInFirst", "()I"⟩ prog_3_method_8_code 1 (some .int), .methodLink "ArrowClassesLaw" 9 ⟨"ArrowClassesLaw", "cell", "([II)I"⟩, .static ⟨"ArrowClassesLaw", "cell", "([II)I"⟩, .code ⟨"ArrowClassesLaw", "cell", "([II)I"⟩ method_2_code 2 (some .int), .classLink "ArrowClassesLaw" 18 "ArrowClassesModel", .instantiable "ArrowClassesModel" 13, .methodLink "ArrowClassesLaw" 20 ⟨"ArrowClassesModel", "<init>", "(I)V"⟩, .instanceMethod ⟨"ArrowClassesModel", "<init>", "(I)V"⟩, .code ⟨"ArrowClassesModel", "<init>", "(I)V"⟩ prog_5_method_1_code 2 none, .methodLink "ArrowClassesModel" 1 ⟨"java/lang/Object", "<init>", "()V"⟩, .fieldLink "ArrowClassesModel" 41 "ArrowClassesModel" "nodes" "I", .fieldLink "ArrowClassesModel" 7 "ArrowClassesModel" "has" "[Z", .fieldLink "ArrowClassesModel" 13 "ArrowClassesModel" "known" "[Z", .fieldLink "ArrowClassesModel" 16 "ArrowClassesModel" "tried" "[Z", .fieldLink "ArrowClassesModel" 103 "ArrowClassesModel" "count" "I", .fieldLink "ArrowClassesModel" 19 "ArrowClassesModel" "having" "[I", .fieldLink "ArrowClassesModel" 23 "ArrowClassesModel" "best" "[Z", .fieldLink "ArrowClassesModel" 93 "ArrowClassesModel" "pairs" "I", .fieldLink "ArrowClassesModel" 26 "ArrowClassesModel" "low" "[I", .fieldLink "ArrowClassesModel" 29 "ArrowClassesModel" "high" "[I", .fieldLink "ArrowClassesModel" 32 "ArrowClassesModel" "path" "[I", .fieldLink "ArrowClassesModel" 35 "ArrowClassesModel" "next" "[I", .fieldLink "ArrowClassesModel" 38 "ArrowClassesModel" "reaches" "[I", .lays "ArrowClassesModel" "ArrowClassesModel" "nodes" "I", .lays "ArrowClassesModel" "ArrowClassesModel" "has" "[Z", .lays "ArrowClassesModel" "ArrowClassesModel" "known" "[Z", .lays "ArrowClassesModel" "ArrowClassesModel" "tried" "[Z", .lays "ArrowClassesModel" "ArrowClassesModel" "count" "I", .lays "ArrowClassesModel" "ArrowClassesModel" "having" "[I", .lays "ArrowClassesModel" "ArrowClassesModel" "best" "[Z", .lays "ArrowClassesModel" "ArrowClassesModel" "pairs" "I", .lays "ArrowClassesModel" "ArrowClassesModel" "low" "[I", .lays "ArrowClassesModel" "ArrowClassesModel" "high" "[I", .lays "ArrowClassesModel" "ArrowClassesModel" "path" "[I"]
def vzB_8 : List Cond := [.lays "ArrowClassesModel" "ArrowClassesModel" "next" "[I", .lays "ArrowClassesModel" "ArrowClassesModel" "reaches" "[I", .arrayClass .boolean, .methodLink "ArrowClassesLaw" 25 ⟨"ArrowClassesModel", "arrow", "(II)Z"⟩, .instanceMethod ⟨"ArrowClassesModel", "arrow", "(II)Z"⟩, .selects "ArrowClassesModel" ⟨"ArrowClassesModel", "arrow", "(II)Z"⟩ ⟨"ArrowClassesModel", "arrow", "(II)Z"⟩, .code ⟨"ArrowClassesModel", "arrow", "(II)Z"⟩ prog_5_method_8_code 3 (some .boolean), .methodLink "ArrowClassesModel" 49 ⟨"ArrowClassesModel", "areNodes", "(II)Z"⟩, .selects "ArrowClassesModel" ⟨"ArrowClassesModel", "areNodes", "(II)Z"⟩ ⟨"ArrowClassesModel", "areNodes", "(II)Z"⟩, .instanceMethod ⟨"ArrowClassesModel", "areNodes", "(II)Z"⟩, .code ⟨"ArrowClassesModel", "areNodes", "(II)Z"⟩ prog_5_method_3_code 3 (some .boolean), .methodLink "ArrowClassesModel" 45 ⟨"ArrowClassesModel", "isNode", "(I)Z"⟩, .selects "ArrowClassesModel" ⟨"ArrowClassesModel", "isNode", "(I)Z"⟩ ⟨"ArrowClassesModel", "isNode", "(I)Z"⟩, .instanceMethod ⟨"ArrowClassesModel", "isNode", "(I)Z"⟩, .code ⟨"ArrowClassesModel", "isNode", "(I)Z"⟩ prog_5_method_2_code 2 (some .boolean), .methodLink "ArrowClassesModel" 53 ⟨"ArrowClassesModel", "joined", "(II)Z"⟩, .selects "ArrowClassesModel" ⟨"ArrowClassesModel", "joined", "(II)Z"⟩ ⟨"ArrowClassesModel", "joined", "(II)Z"⟩, .instanceMethod ⟨"ArrowClassesModel", "joined", "(II)Z"⟩, .code ⟨"ArrowClassesModel", "joined", "(II)Z"⟩ prog_5_method_4_code 3 (some .boolean), .methodLink "ArrowClassesModel" 56 ⟨"ArrowClassesModel", "arrows", "()I"⟩, .selects "ArrowClassesModel" ⟨"ArrowClassesModel", "arrows", "()I"⟩ ⟨"ArrowClassesModel", "arrows", "()I"⟩, .instanceMethod ⟨"ArrowClassesModel", "arrows", "()I"⟩, .code ⟨"ArrowClassesModel", "arrows", "()I"⟩ prog_5_method_5_code 3 (some .int), .methodLink "ArrowClassesModel" 60 ⟨"ArrowClassesModel", "reach", "(I)I"⟩, .selects "ArrowClassesModel" ⟨"ArrowClassesModel", "reach", "(I)I"⟩ ⟨"ArrowClassesModel", "reach", "(I)I"⟩, .instanceMethod ⟨"ArrowClassesModel", "reach", "(I)I"⟩, .code ⟨"ArrowClassesModel", "reach", "(I)I"⟩ prog_5_method_7_code 6 (some .int), .methodLink "ArrowClassesModel" 64 ⟨"ArrowClassesModel", "forgetAll", "()V"⟩, .selects "ArrowClassesModel" ⟨"ArrowClassesModel", "forgetAll", "()V"⟩ ⟨"ArrowClassesModel", "forgetAll", "()V"⟩, .instanceMethod ⟨"ArrowClassesModel", "forgetAll", "()V"⟩, .code ⟨"ArrowClassesModel", "forgetAll", "()V"⟩ prog_5_method_6_code 2 none, .methodLink "ArrowClassesLaw" 29 ⟨"ArrowClassesModel", "erase", "(II)Z"⟩, .instanceMethod ⟨"ArrowClassesModel", "erase", "(II)Z"⟩, .selects "ArrowClassesModel" ⟨"ArrowClassesModel", "erase", "(II)Z"⟩ ⟨"ArrowClassesModel", "erase", "(II)Z"⟩, .code ⟨"ArrowClassesModel", "erase", "(II)Z"⟩ prog_5_method_9_code 3 (some .boolean), .methodLink "ArrowClassesLaw" 33 ⟨"ArrowClassesModel", "turn", "(II)Z"⟩, .instanceMethod ⟨"ArrowClassesModel", "turn", "(II)Z"⟩, .selects "ArrowClassesModel" ⟨"ArrowClassesModel", "turn", "(II)Z"⟩ ⟨"ArrowClassesModel", "turn", "(II)Z"⟩, .code ⟨"ArrowClassesModel", "turn", "(II)Z"⟩ prog_5_method_10_code 3 (some .boolean), .methodLink "ArrowClassesLaw" 37 ⟨"ArrowClassesModel", "drawn", "(II)Z"⟩]
def vzB_9 : List Cond := [.instanceMethod ⟨"ArrowClassesModel", "drawn", "(II)Z"⟩, .selects "ArrowClassesModel" ⟨"ArrowClassesModel", "drawn", "(II)Z"⟩ ⟨"ArrowClassesModel", "drawn", "(II)Z"⟩, .code ⟨"ArrowClassesModel", "drawn", "(II)Z"⟩ prog_5_method_11_code 3 (some .boolean), .methodLink "ArrowClassesLaw" 42 ⟨"ArrowClassesModel", "parents", "(I)I"⟩, .instanceMethod ⟨"ArrowClassesModel", "parents", "(I)I"⟩, .selects "ArrowClassesModel" ⟨"ArrowClassesModel", "parents", "(I)I"⟩ ⟨"ArrowClassesModel", "parents", "(I)I"⟩, .code ⟨"ArrowClassesModel", "parents", "(I)I"⟩ prog_5_method_12_code 4 (some .int), .methodLink "ArrowClassesLaw" 46 ⟨"ArrowClassesModel", "reached", "(I)I"⟩, .instanceMethod ⟨"ArrowClassesModel", "reached", "(I)I"⟩, .selects "ArrowClassesModel" ⟨"ArrowClassesModel", "reached", "(I)I"⟩ ⟨"ArrowClassesModel", "reached", "(I)I"⟩, .code ⟨"ArrowClassesModel", "reached", "(I)I"⟩ prog_5_method_13_code 2 (some .int), .methodLink "ArrowClassesLaw" 50 ⟨"ArrowClassesModel", "around", "(I)I"⟩, .instanceMethod ⟨"ArrowClassesModel", "around", "(I)I"⟩, .selects "ArrowClassesModel" ⟨"ArrowClassesModel", "around", "(I)I"⟩ ⟨"ArrowClassesModel", "around", "(I)I"⟩, .code ⟨"ArrowClassesModel", "around", "(I)I"⟩ prog_5_method_14_code 4 (some .int), .methodLink "ArrowClassesModel" 67 ⟨"ArrowClassesModel", "parents", "(I)I"⟩, .methodLink "ArrowClassesLaw" 55 ⟨"ArrowClassesModel", "collisions", "()I"⟩, .instanceMethod ⟨"ArrowClassesModel", "collisions", "()I"⟩, .selects "ArrowClassesModel" ⟨"ArrowClassesModel", "collisions", "()I"⟩ ⟨"ArrowClassesModel", "collisions", "()I"⟩, .code ⟨"ArrowClassesModel", "collisions", "()I"⟩ prog_5_method_16_code 5 (some .int), .methodLink "ArrowClassesModel" 70 ⟨"ArrowClassesModel", "collides", "([ZIII)Z"⟩, .static ⟨"ArrowClassesModel", "collides", "([ZIII)Z"⟩, .code ⟨"ArrowClassesModel", "collides", "([ZIII)Z"⟩ prog_5_method_15_code 4 (some .boolean), .methodLink "ArrowClassesLaw" 59 ⟨"ArrowClassesModel", "covered", "(II)Z"⟩, .instanceMethod ⟨"ArrowClassesModel", "covered", "(II)Z"⟩, .selects "ArrowClassesModel" ⟨"ArrowClassesModel", "covered", "(II)Z"⟩ ⟨"ArrowClassesModel", "covered", "(II)Z"⟩, .code ⟨"ArrowClassesModel", "covered", "(II)Z"⟩ prog_5_method_17_code 3 (some .boolean), .methodLink "ArrowClassesModel" 74 ⟨"ArrowClassesModel", "drawn", "(II)Z"⟩, .methodLink "ArrowClassesLaw" 64 ⟨"ArrowClassesModel", "separated", "(III)Z"⟩, .instanceMethod ⟨"ArrowClassesModel", "separated", "(III)Z"⟩, .selects "ArrowClassesModel" ⟨"ArrowClassesModel", "separated", "(III)Z"⟩ ⟨"ArrowClassesModel", "separated", "(III)Z"⟩, .code ⟨"ArrowClassesModel", "separated", "(III)Z"⟩ prog_5_method_21_code 4 (some .boolean), .methodLink "ArrowClassesModel" 83 ⟨"ArrowClassesModel", "allBlocked", "(III)Z"⟩, .selects "ArrowClassesModel" ⟨"ArrowClassesModel", "allBlocked", "(III)Z"⟩ ⟨"ArrowClassesModel", "allBlocked", "(III)Z"⟩, .instanceMethod ⟨"ArrowClassesModel", "allBlocked", "(III)Z"⟩, .code ⟨"ArrowClassesModel", "allBlocked", "(III)Z"⟩ prog_5_method_20_code 7 (some .boolean), .methodLink "ArrowClassesModel" 77 ⟨"ArrowClassesModel", "blocked", "(II)Z"⟩, .selects "ArrowClassesModel" ⟨"ArrowClassesModel", "blocked", "(II)Z"⟩ ⟨"ArrowClassesModel", "blocked", "(II)Z"⟩, .instanceMethod ⟨"ArrowClassesModel", "blocked", "(II)Z"⟩, .code ⟨"ArrowClassesModel", "blocked", "(II)Z"⟩ prog_5_method_18_code 6 (some .boolean)]
def vzB_10 : List Cond := [.methodLink "ArrowClassesModel" 80 ⟨"ArrowClassesModel", "onPath", "(II)Z"⟩, .selects "ArrowClassesModel" ⟨"ArrowClassesModel", "onPath", "(II)Z"⟩ ⟨"ArrowClassesModel", "onPath", "(II)Z"⟩, .instanceMethod ⟨"ArrowClassesModel", "onPath", "(II)Z"⟩, .code ⟨"ArrowClassesModel", "onPath", "(II)Z"⟩ prog_5_method_19_code 5 (some .boolean), .methodLink "ArrowClassesLaw" 69 ⟨"ArrowClassesModel", "separator", "(II)I"⟩, .instanceMethod ⟨"ArrowClassesModel", "separator", "(II)I"⟩, .selects "ArrowClassesModel" ⟨"ArrowClassesModel", "separator", "(II)I"⟩ ⟨"ArrowClassesModel", "separator", "(II)I"⟩, .code ⟨"ArrowClassesModel", "separator", "(II)I"⟩ prog_5_method_23_code 5 (some .int), .methodLink "ArrowClassesModel" 87 ⟨"ArrowClassesModel", "size", "(I)I"⟩, .static ⟨"ArrowClassesModel", "size", "(I)I"⟩, .code ⟨"ArrowClassesModel", "size", "(I)I"⟩ prog_5_method_22_code 3 (some .int), .methodLink "ArrowClassesModel" 90 ⟨"ArrowClassesModel", "separated", "(III)Z"⟩, .methodLink "ArrowClassesLaw" 73 ⟨"ArrowClassesModel", "separations", "()I"⟩, .instanceMethod ⟨"ArrowClassesModel", "separations", "()I"⟩, .selects "ArrowClassesModel" ⟨"ArrowClassesModel", "separations", "()I"⟩ ⟨"ArrowClassesModel", "separations", "()I"⟩, .code ⟨"ArrowClassesModel", "separations", "()I"⟩ prog_5_method_24_code 5 (some .int), .methodLink "ArrowClassesLaw" 77 ⟨"ArrowClassesModel", "edge", "(II)I"⟩, .instanceMethod ⟨"ArrowClassesModel", "edge", "(II)I"⟩, .selects "ArrowClassesModel" ⟨"ArrowClassesModel", "edge", "(II)I"⟩ ⟨"ArrowClassesModel", "edge", "(II)I"⟩, .code ⟨"ArrowClassesModel", "edge", "(II)I"⟩ prog_5_method_30_code 3 (some .int), .methodLink "ArrowClassesModel" 113 ⟨"ArrowClassesModel", "goThrough", "()V"⟩, .selects "ArrowClassesModel" ⟨"ArrowClassesModel", "goThrough", "()V"⟩ ⟨"ArrowClassesModel", "goThrough", "()V"⟩, .instanceMethod ⟨"ArrowClassesModel", "goThrough", "()V"⟩, .code ⟨"ArrowClassesModel", "goThrough", "()V"⟩ prog_5_method_29_code 3 none, .methodLink "ArrowClassesModel" 100 ⟨"ArrowClassesModel", "findPairs", "()V"⟩, .selects "ArrowClassesModel" ⟨"ArrowClassesModel", "findPairs", "()V"⟩ ⟨"ArrowClassesModel", "findPairs", "()V"⟩, .instanceMethod ⟨"ArrowClassesModel", "findPairs", "()V"⟩, .code ⟨"ArrowClassesModel", "findPairs", "()V"⟩ prog_5_method_25_code 3 none, .methodLink "ArrowClassesModel" 106 ⟨"ArrowClassesModel", "direct", "(I)V"⟩, .selects "ArrowClassesModel" ⟨"ArrowClassesModel", "direct", "(I)V"⟩ ⟨"ArrowClassesModel", "direct", "(I)V"⟩, .instanceMethod ⟨"ArrowClassesModel", "direct", "(I)V"⟩, .code ⟨"ArrowClassesModel", "direct", "(I)V"⟩ prog_5_method_26_code 6 none, .methodLink "ArrowClassesModel" 110 ⟨"ArrowClassesModel", "isMember", "()Z"⟩, .selects "ArrowClassesModel" ⟨"ArrowClassesModel", "isMember", "()Z"⟩ ⟨"ArrowClassesModel", "isMember", "()Z"⟩, .instanceMethod ⟨"ArrowClassesModel", "isMember", "()Z"⟩, .code ⟨"ArrowClassesModel", "isMember", "()Z"⟩ prog_5_method_28_code 4 (some .boolean), .methodLink "ArrowClassesModel" 96 ⟨"ArrowClassesModel", "hasRing", "()Z"⟩, .selects "ArrowClassesModel" ⟨"ArrowClassesModel", "hasRing", "()Z"⟩ ⟨"ArrowClassesModel", "hasRing", "()Z"⟩, .instanceMethod ⟨"ArrowClassesModel", "hasRing", "()Z"⟩, .code ⟨"ArrowClassesModel", "hasRing", "()Z"⟩ prog_5_method_27_code 6 (some .boolean)]
def vzB_11 : List Cond := [.methodLink "ArrowClassesLaw" 81 ⟨"ArrowClassesModel", "loose", "()I"⟩, .instanceMethod ⟨"ArrowClassesModel", "loose", "()I"⟩, .selects "ArrowClassesModel" ⟨"ArrowClassesModel", "loose", "()I"⟩ ⟨"ArrowClassesModel", "loose", "()I"⟩, .code ⟨"ArrowClassesModel", "loose", "()I"⟩ prog_5_method_31_code 4 (some .int), .methodLink "ArrowClassesLaw" 85 ⟨"ArrowClassesModel", "know", "(II)Z"⟩, .instanceMethod ⟨"ArrowClassesModel", "know", "(II)Z"⟩, .selects "ArrowClassesModel" ⟨"ArrowClassesModel", "know", "(II)Z"⟩ ⟨"ArrowClassesModel", "know", "(II)Z"⟩, .code ⟨"ArrowClassesModel", "know", "(II)Z"⟩ prog_5_method_32_code 3 (some .boolean), .methodLink "ArrowClassesLaw" 89 ⟨"ArrowClassesModel", "forget", "()I"⟩, .instanceMethod ⟨"ArrowClassesModel", "forget", "()I"⟩, .selects "ArrowClassesModel" ⟨"ArrowClassesModel", "forget", "()I"⟩ ⟨"ArrowClassesModel", "forget", "()I"⟩, .code ⟨"ArrowClassesModel", "forget", "()I"⟩ prog_5_method_33_code 3 (some .int), .methodLink "ArrowClassesLaw" 93 ⟨"ArrowClassesModel", "members", "()I"⟩, .instanceMethod ⟨"ArrowClassesModel", "members", "()I"⟩, .selects "ArrowClassesModel" ⟨"ArrowClassesModel", "members", "()I"⟩ ⟨"ArrowClassesModel", "members", "()I"⟩, .code ⟨"ArrowClassesModel", "members", "()I"⟩ prog_5_method_34_code 1 (some .int), .methodLink "ArrowClassesLaw" 97 ⟨"ArrowClassesModel", "first", "(II)Z"⟩, .instanceMethod ⟨"ArrowClassesModel", "first", "(II)Z"⟩, .selects "ArrowClassesModel" ⟨"ArrowClassesModel", "first", "(II)Z"⟩ ⟨"ArrowClassesModel", "first", "(II)Z"⟩, .code ⟨"ArrowClassesModel", "first", "(II)Z"⟩ prog_5_method_35_code 3 (some .boolean), .methodLink "ArrowClassesLaw" 101 ⟨"ArrowClassesModel", "turned", "()I"⟩, .instanceMethod ⟨"ArrowClassesModel", "turned", "()I"⟩, .selects "ArrowClassesModel" ⟨"ArrowClassesModel", "turned", "()I"⟩ ⟨"ArrowClassesModel", "turned", "()I"⟩, .code ⟨"ArrowClassesModel", "turned", "()I"⟩ prog_5_method_36_code 4 (some .int)]
def vzB : List Cond := vzB_0 ++ (vzB_1 ++ (vzB_2 ++ (vzB_3 ++ (vzB_4 ++ (vzB_5 ++ (vzB_6 ++ (vzB_7 ++ (vzB_8 ++ (vzB_9 ++ (vzB_10 ++ (vzB_11)))))))))))
theorem vzB_in0 {w : Cond} (h : w ∈ vzB_0) : w ∈ vzB := List.mem_append_left _ h
theorem vzB_in1 {w : Cond} (h : w ∈ vzB_1) : w ∈ vzB := List.mem_append_right _ (List.mem_append_left _ h)
theorem vzB_in2 {w : Cond} (h : w ∈ vzB_2) : w ∈ vzB := List.mem_append_right _ (List.mem_append_right _ (List.mem_append_left _ h))
theorem vzB_in3 {w : Cond} (h : w ∈ vzB_3) : w ∈ vzB := List.mem_append_right _ (List.mem_append_right _ (List.mem_append_right _ (List.mem_append_left _ h)))
theorem vzB_in4 {w : Cond} (h : w ∈ vzB_4) : w ∈ vzB := List.mem_append_right _ (List.mem_append_right _ (List.mem_append_right _ (List.mem_append_right _ (List.mem_append_left _ h))))
theorem vzB_in5 {w : Cond} (h : w ∈ vzB_5) : w ∈ vzB := List.mem_append_right _ (List.mem_append_right _ (List.mem_append_right _ (List.mem_append_right _ (List.mem_append_right _ (List.mem_append_left _ h)))))
theorem vzB_in6 {w : Cond} (h : w ∈ vzB_6) : w ∈ vzB := List.mem_append_right _ (List.mem_append_right _ (List.mem_append_right _ (List.mem_append_right _ (List.mem_append_right _ (List.mem_append_right _ (List.mem_append_left _ h))))))
theorem vzB_in7 {w : Cond} (h : w ∈ vzB_7) : w ∈ vzB := List.mem_append_right _ (List.mem_append_right _ (List.mem_append_right _ (List.mem_append_right _ (List.mem_append_right _ (List.mem_append_right _ (List.mem_append_right _ (List.mem_append_left _ h)))))))
theorem vzB_in8 {w : Cond} (h : w ∈ vzB_8) : w ∈ vzB := List.mem_append_right _ (List.mem_append_right _ (List.mem_append_right _ (List.mem_append_right _ (List.mem_append_right _ (List.mem_append_right _ (List.mem_append_right _ (List.mem_append_right _ (List.mem_append_left _ h))))))))
theorem vzB_in9 {w : Cond} (h : w ∈ vzB_9) : w ∈ vzB := List.mem_append_right _ (List.mem_append_right _ (List.mem_append_right _ (List.mem_append_right _ (List.mem_append_right _ (List.mem_append_right _ (List.mem_append_right _ (List.mem_append_right _ (List.mem_append_right _ (List.mem_append_left _ h)))))))))
theorem vzB_in10 {w : Cond} (h : w ∈ vzB_10) : w ∈ vzB := List.mem_append_right _ (List.mem_append_right _ (List.mem_append_right _ (List.mem_append_right _ (List.mem_append_right _ (List.mem_append_right _ (List.mem_append_right _ (List.mem_append_right _ (List.mem_append_right _ (List.mem_append_right _ (List.mem_append_left _ h))))))))))
theorem vzB_in11 {w : Cond} (h : w ∈ vzB_11) : w ∈ vzB := List.mem_append_right _ (List.mem_append_right _ (List.mem_append_right _ (List.mem_append_right _ (List.mem_append_right _ (List.mem_append_right _ (List.mem_append_right _ (List.mem_append_right _ (List.mem_append_right _ (List.mem_append_right _ (List.mem_append_right _ (h)))))))))))
theorem wd_ini_L : (.initialized "ArrowClassesLaw" : Cond) ∈ vzB := vzB_in0 (List.mem_of_getElem? (i := 0) rfl)
theorem wd_ini_A : (.initialized "ArrowClasses" : Cond) ∈ vzB := vzB_in0 (List.mem_of_getElem? (i := 1) rfl)
theorem wd_ini_K : (.initialized "ArrowClasses$Kindred" : Cond) ∈ vzB := vzB_in0 (List.mem_of_getElem? (i := 2) rfl)
theorem wd_ini_G : (.initialized "ArrowClasses$Graph" : Cond) ∈ vzB := vzB_in0 (List.mem_of_getElem? (i := 3) rfl)
theorem wd_ini_M : (.initialized "ArrowClassesModel" : Cond) ∈ vzB := vzB_in0 (List.mem_of_getElem? (i := 4) rfl)
theorem wd_ini_J : (.initialized "java/lang/Integer" : Cond) ∈ vzB := vzB_in0 (List.mem_of_getElem? (i := 5) rfl)
theorem wd_ini_H : (.initialized "java/lang/Math" : Cond) ∈ vzB := vzB_in0 (List.mem_of_getElem? (i := 6) rfl)
theorem wd_cl_L_7 : (.classLink "ArrowClassesLaw" 7 "ArrowClasses" : Cond) ∈ vzB := vzB_in0 (List.mem_of_getElem? (i := 7) rfl)
theorem wd_new_A : (.instantiable "ArrowClasses" 4 : Cond) ∈ vzB := vzB_in0 (List.mem_of_getElem? (i := 8) rfl)
theorem wd_link_L_15 : (.methodLink "ArrowClassesLaw" 15 ⟨"ArrowClasses", "<init>", "(I)V"⟩ : Cond) ∈ vzB := vzB_in0 (List.mem_of_getElem? (i := 9) rfl)
theorem wd_inst_A_init : (.instanceMethod ⟨"ArrowClasses", "<init>", "(I)V"⟩ : Cond) ∈ vzB := vzB_in0 (List.mem_of_getElem? (i := 10) rfl)
theorem wd_code_A_init : (.code ⟨"ArrowClasses", "<init>", "(I)V"⟩ prog_1_method_1_code 2 none : Cond) ∈ vzB := vzB_in0 (List.mem_of_getElem? (i := 11) rfl)
theorem wd_link_A_1 : (.methodLink "ArrowClasses" 1 ⟨"java/lang/Object", "<init>", "()V"⟩ : Cond) ∈ vzB := vzB_in0 (List.mem_of_getElem? (i := 12) rfl)
theorem wd_inst_O_init : (.instanceMethod ⟨"java/lang/Object", "<init>", "()V"⟩ : Cond) ∈ vzB := vzB_in0 (List.mem_of_getElem? (i := 13) rfl)
theorem wd_code_O_init : (.code ⟨"java/lang/Object", "<init>", "()V"⟩ object_method_1_code 1 none : Cond) ∈ vzB := vzB_in0 (List.mem_of_getElem? (i := 14) rfl)
theorem wd_cl_A_13 : (.classLink "ArrowClasses" 13 "ArrowClasses$Kindred" : Cond) ∈ vzB := vzB_in0 (List.mem_of_getElem? (i := 15) rfl)
theorem wd_new_K : (.instantiable "ArrowClasses$Kindred" 14 : Cond) ∈ vzB := vzB_in0 (List.mem_of_getElem? (i := 16) rfl)
theorem wd_link_A_15 : (.methodLink "ArrowClasses" 15 ⟨"ArrowClasses$Kindred", "<init>", "(I)V"⟩ : Cond) ∈ vzB := vzB_in0 (List.mem_of_getElem? (i := 17) rfl)
theorem wd_inst_K_init : (.instanceMethod ⟨"ArrowClasses$Kindred", "<init>", "(I)V"⟩ : Cond) ∈ vzB := vzB_in0 (List.mem_of_getElem? (i := 18) rfl)
theorem wd_code_K_init : (.code ⟨"ArrowClasses$Kindred", "<init>", "(I)V"⟩ prog_3_method_1_code 2 none : Cond) ∈ vzB := vzB_in0 (List.mem_of_getElem? (i := 19) rfl)
theorem wd_link_K_3 : (.methodLink "ArrowClasses$Kindred" 3 ⟨"java/lang/Object", "<init>", "()V"⟩ : Cond) ∈ vzB := vzB_in0 (List.mem_of_getElem? (i := 20) rfl)
theorem wd_cl_K_9 : (.classLink "ArrowClasses$Kindred" 9 "ArrowClasses$Graph" : Cond) ∈ vzB := vzB_in0 (List.mem_of_getElem? (i := 21) rfl)
theorem wd_new_G : (.instantiable "ArrowClasses$Graph" 3 : Cond) ∈ vzB := vzB_in0 (List.mem_of_getElem? (i := 22) rfl)
theorem wd_link_K_11 : (.methodLink "ArrowClasses$Kindred" 11 ⟨"ArrowClasses$Graph", "<init>", "(I)V"⟩ : Cond) ∈ vzB := vzB_in0 (List.mem_of_getElem? (i := 23) rfl)
theorem wd_inst_G_init : (.instanceMethod ⟨"ArrowClasses$Graph", "<init>", "(I)V"⟩ : Cond) ∈ vzB := vzB_in0 (List.mem_of_getElem? (i := 24) rfl)
theorem wd_code_G_init : (.code ⟨"ArrowClasses$Graph", "<init>", "(I)V"⟩ prog_2_method_1_code 2 none : Cond) ∈ vzB := vzB_in0 (List.mem_of_getElem? (i := 25) rfl)
theorem wd_link_G_1 : (.methodLink "ArrowClasses$Graph" 1 ⟨"java/lang/Object", "<init>", "()V"⟩ : Cond) ∈ vzB := vzB_in0 (List.mem_of_getElem? (i := 26) rfl)
theorem wd_fld_G_7 : (.fieldLink "ArrowClasses$Graph" 7 "ArrowClasses$Graph" "nodes" "I" : Cond) ∈ vzB := vzB_in0 (List.mem_of_getElem? (i := 27) rfl)
theorem wd_fld_K_50 : (.fieldLink "ArrowClasses$Kindred" 50 "ArrowClasses$Graph" "nodes" "I" : Cond) ∈ vzB := vzB_in0 (List.mem_of_getElem? (i := 28) rfl)
theorem wd_fld_G_13 : (.fieldLink "ArrowClasses$Graph" 13 "ArrowClasses$Graph" "parents" "[I" : Cond) ∈ vzB := vzB_in0 (List.mem_of_getElem? (i := 29) rfl)
theorem wd_fld_A_69 : (.fieldLink "ArrowClasses" 69 "ArrowClasses$Graph" "parents" "[I" : Cond) ∈ vzB := vzB_in0 (List.mem_of_getElem? (i := 30) rfl)
theorem wd_fld_G_17 : (.fieldLink "ArrowClasses$Graph" 17 "ArrowClasses$Graph" "children" "[I" : Cond) ∈ vzB := vzB_in0 (List.mem_of_getElem? (i := 31) rfl)
theorem wd_fld_A_73 : (.fieldLink "ArrowClasses" 73 "ArrowClasses$Graph" "children" "[I" : Cond) ∈ vzB := vzB_in0 (List.mem_of_getElem? (i := 32) rfl)
theorem wd_lay_G_nodes : (.laysFinal "ArrowClasses$Graph" "ArrowClasses$Graph" "nodes" "I" : Cond) ∈ vzB := vzB_in0 (List.mem_of_getElem? (i := 33) rfl)
theorem wd_lay_G_parents : (.laysFinal "ArrowClasses$Graph" "ArrowClasses$Graph" "parents" "[I" : Cond) ∈ vzB := vzB_in0 (List.mem_of_getElem? (i := 34) rfl)
theorem wd_lay_G_children : (.laysFinal "ArrowClasses$Graph" "ArrowClasses$Graph" "children" "[I" : Cond) ∈ vzB := vzB_in0 (List.mem_of_getElem? (i := 35) rfl)
theorem wd_arr_int : (.arrayClass .int : Cond) ∈ vzB := vzB_in0 (List.mem_of_getElem? (i := 36) rfl)
theorem wd_fld_K_14 : (.fieldLink "ArrowClasses$Kindred" 14 "ArrowClasses$Kindred" "drawn" "LArrowClasses$Graph;" : Cond) ∈ vzB := vzB_in0 (List.mem_of_getElem? (i := 37) rfl)
theorem wd_fld_A_22 : (.fieldLink "ArrowClasses" 22 "ArrowClasses$Kindred" "drawn" "LArrowClasses$Graph;" : Cond) ∈ vzB := vzB_in0 (List.mem_of_getElem? (i := 38) rfl)
theorem wd_fld_K_20 : (.fieldLink "ArrowClasses$Kindred" 20 "ArrowClasses$Kindred" "tried" "LArrowClasses$Graph;" : Cond) ∈ vzB := vzB_in0 (List.mem_of_getElem? (i := 39) rfl)
theorem wd_fld_K_23 : (.fieldLink "ArrowClasses$Kindred" 23 "ArrowClasses$Kindred" "lows" "[I" : Cond) ∈ vzB := vzB_in1 (List.mem_of_getElem? (i := 0) rfl)
theorem wd_fld_K_27 : (.fieldLink "ArrowClasses$Kindred" 27 "ArrowClasses$Kindred" "highs" "[I" : Cond) ∈ vzB := vzB_in1 (List.mem_of_getElem? (i := 1) rfl)
theorem wd_fld_K_30 : (.fieldLink "ArrowClasses$Kindred" 30 "ArrowClasses$Kindred" "pairs" "I" : Cond) ∈ vzB := vzB_in1 (List.mem_of_getElem? (i := 2) rfl)
theorem wd_fld_K_34 : (.fieldLink "ArrowClasses$Kindred" 34 "ArrowClasses$Kindred" "drawnCode" "I" : Cond) ∈ vzB := vzB_in1 (List.mem_of_getElem? (i := 3) rfl)
theorem wd_fld_K_37 : (.fieldLink "ArrowClasses$Kindred" 37 "ArrowClasses$Kindred" "collidingBits" "I" : Cond) ∈ vzB := vzB_in1 (List.mem_of_getElem? (i := 4) rfl)
theorem wd_fld_K_40 : (.fieldLink "ArrowClasses$Kindred" 40 "ArrowClasses$Kindred" "knownBits" "I" : Cond) ∈ vzB := vzB_in1 (List.mem_of_getElem? (i := 5) rfl)
theorem wd_fld_K_43 : (.fieldLink "ArrowClasses$Kindred" 43 "ArrowClasses$Kindred" "knownCode" "I" : Cond) ∈ vzB := vzB_in1 (List.mem_of_getElem? (i := 6) rfl)
theorem wd_fld_K_46 : (.fieldLink "ArrowClasses$Kindred" 46 "ArrowClasses$Kindred" "gathered" "Z" : Cond) ∈ vzB := vzB_in1 (List.mem_of_getElem? (i := 7) rfl)
theorem wd_fld_K_71 : (.fieldLink "ArrowClasses$Kindred" 71 "ArrowClasses$Kindred" "count" "I" : Cond) ∈ vzB := vzB_in1 (List.mem_of_getElem? (i := 8) rfl)
theorem wd_fld_K_83 : (.fieldLink "ArrowClasses$Kindred" 83 "ArrowClasses$Kindred" "firstCode" "I" : Cond) ∈ vzB := vzB_in1 (List.mem_of_getElem? (i := 9) rfl)
theorem wd_fld_K_80 : (.fieldLink "ArrowClasses$Kindred" 80 "ArrowClasses$Kindred" "someFalling" "I" : Cond) ∈ vzB := vzB_in1 (List.mem_of_getElem? (i := 10) rfl)
theorem wd_fld_K_77 : (.fieldLink "ArrowClasses$Kindred" 77 "ArrowClasses$Kindred" "allFalling" "I" : Cond) ∈ vzB := vzB_in1 (List.mem_of_getElem? (i := 11) rfl)
theorem wd_lay_K_drawn : (.laysFinal "ArrowClasses$Kindred" "ArrowClasses$Kindred" "drawn" "LArrowClasses$Graph;" : Cond) ∈ vzB := vzB_in1 (List.mem_of_getElem? (i := 12) rfl)
theorem wd_lay_K_tried : (.laysFinal "ArrowClasses$Kindred" "ArrowClasses$Kindred" "tried" "LArrowClasses$Graph;" : Cond) ∈ vzB := vzB_in1 (List.mem_of_getElem? (i := 13) rfl)
theorem wd_lay_K_lows : (.laysFinal "ArrowClasses$Kindred" "ArrowClasses$Kindred" "lows" "[I" : Cond) ∈ vzB := vzB_in1 (List.mem_of_getElem? (i := 14) rfl)
theorem wd_lay_K_highs : (.laysFinal "ArrowClasses$Kindred" "ArrowClasses$Kindred" "highs" "[I" : Cond) ∈ vzB := vzB_in1 (List.mem_of_getElem? (i := 15) rfl)
theorem wd_lay_K_pairs : (.lays "ArrowClasses$Kindred" "ArrowClasses$Kindred" "pairs" "I" : Cond) ∈ vzB := vzB_in1 (List.mem_of_getElem? (i := 16) rfl)
theorem wd_lay_K_drawnCode : (.lays "ArrowClasses$Kindred" "ArrowClasses$Kindred" "drawnCode" "I" : Cond) ∈ vzB := vzB_in1 (List.mem_of_getElem? (i := 17) rfl)
theorem wd_lay_K_collidingBits : (.lays "ArrowClasses$Kindred" "ArrowClasses$Kindred" "collidingBits" "I" : Cond) ∈ vzB := vzB_in1 (List.mem_of_getElem? (i := 18) rfl)
theorem wd_lay_K_knownBits : (.lays "ArrowClasses$Kindred" "ArrowClasses$Kindred" "knownBits" "I" : Cond) ∈ vzB := vzB_in1 (List.mem_of_getElem? (i := 19) rfl)
theorem wd_lay_K_knownCode : (.lays "ArrowClasses$Kindred" "ArrowClasses$Kindred" "knownCode" "I" : Cond) ∈ vzB := vzB_in1 (List.mem_of_getElem? (i := 20) rfl)
theorem wd_lay_K_gathered : (.lays "ArrowClasses$Kindred" "ArrowClasses$Kindred" "gathered" "Z" : Cond) ∈ vzB := vzB_in1 (List.mem_of_getElem? (i := 21) rfl)
theorem wd_lay_K_count : (.lays "ArrowClasses$Kindred" "ArrowClasses$Kindred" "count" "I" : Cond) ∈ vzB := vzB_in1 (List.mem_of_getElem? (i := 22) rfl)
theorem wd_lay_K_firstCode : (.lays "ArrowClasses$Kindred" "ArrowClasses$Kindred" "firstCode" "I" : Cond) ∈ vzB := vzB_in1 (List.mem_of_getElem? (i := 23) rfl)
theorem wd_lay_K_someFalling : (.lays "ArrowClasses$Kindred" "ArrowClasses$Kindred" "someFalling" "I" : Cond) ∈ vzB := vzB_in1 (List.mem_of_getElem? (i := 24) rfl)
theorem wd_lay_K_allFalling : (.lays "ArrowClasses$Kindred" "ArrowClasses$Kindred" "allFalling" "I" : Cond) ∈ vzB := vzB_in1 (List.mem_of_getElem? (i := 25) rfl)
theorem wd_fld_A_9 : (.fieldLink "ArrowClasses" 9 "ArrowClasses" "nodes" "I" : Cond) ∈ vzB := vzB_in1 (List.mem_of_getElem? (i := 26) rfl)
theorem wd_fld_A_18 : (.fieldLink "ArrowClasses" 18 "ArrowClasses" "kindred" "LArrowClasses$Kindred;" : Cond) ∈ vzB := vzB_in1 (List.mem_of_getElem? (i := 27) rfl)
theorem wd_fld_A_26 : (.fieldLink "ArrowClasses" 26 "ArrowClasses" "graph" "LArrowClasses$Graph;" : Cond) ∈ vzB := vzB_in1 (List.mem_of_getElem? (i := 28) rfl)
theorem wd_fld_A_29 : (.fieldLink "ArrowClasses" 29 "ArrowClasses" "separationCount" "I" : Cond) ∈ vzB := vzB_in1 (List.mem_of_getElem? (i := 29) rfl)
theorem wd_lay_A_nodes : (.laysFinal "ArrowClasses" "ArrowClasses" "nodes" "I" : Cond) ∈ vzB := vzB_in1 (List.mem_of_getElem? (i := 30) rfl)
theorem wd_lay_A_kindred : (.laysFinal "ArrowClasses" "ArrowClasses" "kindred" "LArrowClasses$Kindred;" : Cond) ∈ vzB := vzB_in1 (List.mem_of_getElem? (i := 31) rfl)
theorem wd_lay_A_graph : (.laysFinal "ArrowClasses" "ArrowClasses" "graph" "LArrowClasses$Graph;" : Cond) ∈ vzB := vzB_in1 (List.mem_of_getElem? (i := 32) rfl)
theorem wd_lay_A_separationCount : (.lays "ArrowClasses" "ArrowClasses" "separationCount" "I" : Cond) ∈ vzB := vzB_in1 (List.mem_of_getElem? (i := 33) rfl)
theorem wd_link_L_21 : (.methodLink "ArrowClassesLaw" 21 ⟨"ArrowClasses", "arrow", "(II)Z"⟩ : Cond) ∈ vzB := vzB_in1 (List.mem_of_getElem? (i := 34) rfl)
theorem wd_inst_A_arrow : (.instanceMethod ⟨"ArrowClasses", "arrow", "(II)Z"⟩ : Cond) ∈ vzB := vzB_in1 (List.mem_of_getElem? (i := 35) rfl)
theorem wd_sel_A_arrow : (.selects "ArrowClasses" ⟨"ArrowClasses", "arrow", "(II)Z"⟩ ⟨"ArrowClasses", "arrow", "(II)Z"⟩ : Cond) ∈ vzB := vzB_in1 (List.mem_of_getElem? (i := 36) rfl)
theorem wd_code_A_arrow : (.code ⟨"ArrowClasses", "arrow", "(II)Z"⟩ prog_1_method_2_code 3 (some .boolean) : Cond) ∈ vzB := vzB_in1 (List.mem_of_getElem? (i := 37) rfl)
theorem wd_link_A_32 : (.methodLink "ArrowClasses" 32 ⟨"ArrowClasses", "isPair", "(II)Z"⟩ : Cond) ∈ vzB := vzB_in1 (List.mem_of_getElem? (i := 38) rfl)
theorem wd_sel_A_isPair : (.selects "ArrowClasses" ⟨"ArrowClasses", "isPair", "(II)Z"⟩ ⟨"ArrowClasses", "isPair", "(II)Z"⟩ : Cond) ∈ vzB := vzB_in1 (List.mem_of_getElem? (i := 39) rfl)
theorem wd_inst_A_isPair : (.instanceMethod ⟨"ArrowClasses", "isPair", "(II)Z"⟩ : Cond) ∈ vzB := vzB_in2 (List.mem_of_getElem? (i := 0) rfl)
theorem wd_code_A_isPair : (.code ⟨"ArrowClasses", "isPair", "(II)Z"⟩ prog_1_method_22_code 3 (some .boolean) : Cond) ∈ vzB := vzB_in2 (List.mem_of_getElem? (i := 1) rfl)
theorem wd_link_A_65 : (.methodLink "ArrowClasses" 65 ⟨"ArrowClasses", "isNode", "(I)Z"⟩ : Cond) ∈ vzB := vzB_in2 (List.mem_of_getElem? (i := 2) rfl)
theorem wd_sel_A_isNode : (.selects "ArrowClasses" ⟨"ArrowClasses", "isNode", "(I)Z"⟩ ⟨"ArrowClasses", "isNode", "(I)Z"⟩ : Cond) ∈ vzB := vzB_in2 (List.mem_of_getElem? (i := 3) rfl)
theorem wd_inst_A_isNode : (.instanceMethod ⟨"ArrowClasses", "isNode", "(I)Z"⟩ : Cond) ∈ vzB := vzB_in2 (List.mem_of_getElem? (i := 4) rfl)
theorem wd_code_A_isNode : (.code ⟨"ArrowClasses", "isNode", "(I)Z"⟩ prog_1_method_21_code 2 (some .boolean) : Cond) ∈ vzB := vzB_in2 (List.mem_of_getElem? (i := 5) rfl)
theorem wd_link_A_36 : (.methodLink "ArrowClasses" 36 ⟨"ArrowClasses$Graph", "joins", "(II)Z"⟩ : Cond) ∈ vzB := vzB_in2 (List.mem_of_getElem? (i := 6) rfl)
theorem wd_inst_G_joins : (.instanceMethod ⟨"ArrowClasses$Graph", "joins", "(II)Z"⟩ : Cond) ∈ vzB := vzB_in2 (List.mem_of_getElem? (i := 7) rfl)
theorem wd_sel_G_joins : (.selects "ArrowClasses$Graph" ⟨"ArrowClasses$Graph", "joins", "(II)Z"⟩ ⟨"ArrowClasses$Graph", "joins", "(II)Z"⟩ : Cond) ∈ vzB := vzB_in2 (List.mem_of_getElem? (i := 8) rfl)
theorem wd_code_G_joins : (.code ⟨"ArrowClasses$Graph", "joins", "(II)Z"⟩ prog_2_method_3_code 3 (some .boolean) : Cond) ∈ vzB := vzB_in2 (List.mem_of_getElem? (i := 9) rfl)
theorem wd_link_G_26 : (.methodLink "ArrowClasses$Graph" 26 ⟨"ArrowClasses$Graph", "has", "(II)Z"⟩ : Cond) ∈ vzB := vzB_in2 (List.mem_of_getElem? (i := 10) rfl)
theorem wd_inst_G_has : (.instanceMethod ⟨"ArrowClasses$Graph", "has", "(II)Z"⟩ : Cond) ∈ vzB := vzB_in2 (List.mem_of_getElem? (i := 11) rfl)
theorem wd_sel_G_has : (.selects "ArrowClasses$Graph" ⟨"ArrowClasses$Graph", "has", "(II)Z"⟩ ⟨"ArrowClasses$Graph", "has", "(II)Z"⟩ : Cond) ∈ vzB := vzB_in2 (List.mem_of_getElem? (i := 12) rfl)
theorem wd_code_G_has : (.code ⟨"ArrowClasses$Graph", "has", "(II)Z"⟩ prog_2_method_2_code 3 (some .boolean) : Cond) ∈ vzB := vzB_in2 (List.mem_of_getElem? (i := 13) rfl)
theorem wd_stat_A_holds : (.static ⟨"ArrowClasses", "holds", "(II)Z"⟩ : Cond) ∈ vzB := vzB_in2 (List.mem_of_getElem? (i := 14) rfl)
theorem wd_code_A_holds : (.code ⟨"ArrowClasses", "holds", "(II)Z"⟩ prog_1_method_25_code 2 (some .boolean) : Cond) ∈ vzB := vzB_in2 (List.mem_of_getElem? (i := 15) rfl)
theorem wd_link_A_41 : (.methodLink "ArrowClasses" 41 ⟨"ArrowClasses$Graph", "size", "()I"⟩ : Cond) ∈ vzB := vzB_in2 (List.mem_of_getElem? (i := 16) rfl)
theorem wd_inst_G_size : (.instanceMethod ⟨"ArrowClasses$Graph", "size", "()I"⟩ : Cond) ∈ vzB := vzB_in2 (List.mem_of_getElem? (i := 17) rfl)
theorem wd_sel_G_size : (.selects "ArrowClasses$Graph" ⟨"ArrowClasses$Graph", "size", "()I"⟩ ⟨"ArrowClasses$Graph", "size", "()I"⟩ : Cond) ∈ vzB := vzB_in2 (List.mem_of_getElem? (i := 18) rfl)
theorem wd_code_G_size : (.code ⟨"ArrowClasses$Graph", "size", "()I"⟩ prog_2_method_7_code 3 (some .int) : Cond) ∈ vzB := vzB_in2 (List.mem_of_getElem? (i := 19) rfl)
theorem wd_link_G_29 : (.methodLink "ArrowClasses$Graph" 29 ⟨"java/lang/Integer", "bitCount", "(I)I"⟩ : Cond) ∈ vzB := vzB_in2 (List.mem_of_getElem? (i := 20) rfl)
theorem wd_stat_J_bitCount : (.static ⟨"java/lang/Integer", "bitCount", "(I)I"⟩ : Cond) ∈ vzB := vzB_in2 (List.mem_of_getElem? (i := 21) rfl)
theorem wd_code_J_bitCount : (.code ⟨"java/lang/Integer", "bitCount", "(I)I"⟩ prog_6_method_49_code 1 (some .int) : Cond) ∈ vzB := vzB_in2 (List.mem_of_getElem? (i := 22) rfl)
theorem wd_con_265 : (.constant "java/lang/Integer" 265 1431655765 : Cond) ∈ vzB := vzB_in2 (List.mem_of_getElem? (i := 23) rfl)
theorem wd_con_266 : (.constant "java/lang/Integer" 266 858993459 : Cond) ∈ vzB := vzB_in2 (List.mem_of_getElem? (i := 24) rfl)
theorem wd_con_267 : (.constant "java/lang/Integer" 267 252645135 : Cond) ∈ vzB := vzB_in2 (List.mem_of_getElem? (i := 25) rfl)
theorem wd_link_A_45 : (.methodLink "ArrowClasses" 45 ⟨"ArrowClasses$Graph", "reachOf", "(I)I"⟩ : Cond) ∈ vzB := vzB_in2 (List.mem_of_getElem? (i := 26) rfl)
theorem wd_inst_G_reachOf : (.instanceMethod ⟨"ArrowClasses$Graph", "reachOf", "(I)I"⟩ : Cond) ∈ vzB := vzB_in2 (List.mem_of_getElem? (i := 27) rfl)
theorem wd_sel_G_reachOf : (.selects "ArrowClasses$Graph" ⟨"ArrowClasses$Graph", "reachOf", "(I)I"⟩ ⟨"ArrowClasses$Graph", "reachOf", "(I)I"⟩ : Cond) ∈ vzB := vzB_in2 (List.mem_of_getElem? (i := 28) rfl)
theorem wd_code_G_reachOf : (.code ⟨"ArrowClasses$Graph", "reachOf", "(I)I"⟩ prog_2_method_8_code 5 (some .int) : Cond) ∈ vzB := vzB_in2 (List.mem_of_getElem? (i := 29) rfl)
theorem wd_link_A_49 : (.methodLink "ArrowClasses" 49 ⟨"ArrowClasses", "holds", "(II)Z"⟩ : Cond) ∈ vzB := vzB_in2 (List.mem_of_getElem? (i := 30) rfl)
theorem wd_link_A_52 : (.methodLink "ArrowClasses" 52 ⟨"ArrowClasses$Graph", "put", "(II)V"⟩ : Cond) ∈ vzB := vzB_in2 (List.mem_of_getElem? (i := 31) rfl)
theorem wd_inst_G_put : (.instanceMethod ⟨"ArrowClasses$Graph", "put", "(II)V"⟩ : Cond) ∈ vzB := vzB_in2 (List.mem_of_getElem? (i := 32) rfl)
theorem wd_sel_G_put : (.selects "ArrowClasses$Graph" ⟨"ArrowClasses$Graph", "put", "(II)V"⟩ ⟨"ArrowClasses$Graph", "put", "(II)V"⟩ : Cond) ∈ vzB := vzB_in2 (List.mem_of_getElem? (i := 33) rfl)
theorem wd_code_G_put : (.code ⟨"ArrowClasses$Graph", "put", "(II)V"⟩ prog_2_method_4_code 3 none : Cond) ∈ vzB := vzB_in2 (List.mem_of_getElem? (i := 34) rfl)
theorem wd_link_A_56 : (.methodLink "ArrowClasses" 56 ⟨"ArrowClasses", "noteChange", "()V"⟩ : Cond) ∈ vzB := vzB_in2 (List.mem_of_getElem? (i := 35) rfl)
theorem wd_sel_A_noteChange : (.selects "ArrowClasses" ⟨"ArrowClasses", "noteChange", "()V"⟩ ⟨"ArrowClasses", "noteChange", "()V"⟩ : Cond) ∈ vzB := vzB_in2 (List.mem_of_getElem? (i := 36) rfl)
theorem wd_inst_A_noteChange : (.instanceMethod ⟨"ArrowClasses", "noteChange", "()V"⟩ : Cond) ∈ vzB := vzB_in2 (List.mem_of_getElem? (i := 37) rfl)
theorem wd_code_A_noteChange : (.code ⟨"ArrowClasses", "noteChange", "()V"⟩ prog_1_method_23_code 1 none : Cond) ∈ vzB := vzB_in2 (List.mem_of_getElem? (i := 38) rfl)
theorem wd_link_A_116 : (.methodLink "ArrowClasses" 116 ⟨"ArrowClasses$Kindred", "restart", "()V"⟩ : Cond) ∈ vzB := vzB_in2 (List.mem_of_getElem? (i := 39) rfl)
theorem wd_inst_K_restart : (.instanceMethod ⟨"ArrowClasses$Kindred", "restart", "()V"⟩ : Cond) ∈ vzB := vzB_in3 (List.mem_of_getElem? (i := 0) rfl)
theorem wd_sel_K_restart : (.selects "ArrowClasses$Kindred" ⟨"ArrowClasses$Kindred", "restart", "()V"⟩ ⟨"ArrowClasses$Kindred", "restart", "()V"⟩ : Cond) ∈ vzB := vzB_in3 (List.mem_of_getElem? (i := 1) rfl)
theorem wd_code_K_restart : (.code ⟨"ArrowClasses$Kindred", "restart", "()V"⟩ prog_3_method_2_code 3 none : Cond) ∈ vzB := vzB_in3 (List.mem_of_getElem? (i := 2) rfl)
theorem wd_link_K_53 : (.methodLink "ArrowClasses$Kindred" 53 ⟨"ArrowClasses$Graph", "joins", "(II)Z"⟩ : Cond) ∈ vzB := vzB_in3 (List.mem_of_getElem? (i := 3) rfl)
theorem wd_link_K_57 : (.methodLink "ArrowClasses$Kindred" 57 ⟨"ArrowClasses$Kindred", "listPair", "(II)V"⟩ : Cond) ∈ vzB := vzB_in3 (List.mem_of_getElem? (i := 4) rfl)
theorem wd_sel_K_listPair : (.selects "ArrowClasses$Kindred" ⟨"ArrowClasses$Kindred", "listPair", "(II)V"⟩ ⟨"ArrowClasses$Kindred", "listPair", "(II)V"⟩ : Cond) ∈ vzB := vzB_in3 (List.mem_of_getElem? (i := 5) rfl)
theorem wd_inst_K_listPair : (.instanceMethod ⟨"ArrowClasses$Kindred", "listPair", "(II)V"⟩ : Cond) ∈ vzB := vzB_in3 (List.mem_of_getElem? (i := 6) rfl)
theorem wd_code_K_listPair : (.code ⟨"ArrowClasses$Kindred", "listPair", "(II)V"⟩ prog_3_method_3_code 4 none : Cond) ∈ vzB := vzB_in3 (List.mem_of_getElem? (i := 7) rfl)
theorem wd_link_K_61 : (.methodLink "ArrowClasses$Kindred" 61 ⟨"ArrowClasses$Graph", "strangers", "(II)I"⟩ : Cond) ∈ vzB := vzB_in3 (List.mem_of_getElem? (i := 8) rfl)
theorem wd_inst_G_strangers : (.instanceMethod ⟨"ArrowClasses$Graph", "strangers", "(II)I"⟩ : Cond) ∈ vzB := vzB_in3 (List.mem_of_getElem? (i := 9) rfl)
theorem wd_sel_G_strangers : (.selects "ArrowClasses$Graph" ⟨"ArrowClasses$Graph", "strangers", "(II)I"⟩ ⟨"ArrowClasses$Graph", "strangers", "(II)I"⟩ : Cond) ∈ vzB := vzB_in3 (List.mem_of_getElem? (i := 10) rfl)
theorem wd_code_G_strangers : (.code ⟨"ArrowClasses$Graph", "strangers", "(II)I"⟩ prog_2_method_10_code 3 (some .int) : Cond) ∈ vzB := vzB_in3 (List.mem_of_getElem? (i := 11) rfl)
theorem wd_link_K_65 : (.methodLink "ArrowClasses$Kindred" 65 ⟨"ArrowClasses$Graph", "has", "(II)Z"⟩ : Cond) ∈ vzB := vzB_in3 (List.mem_of_getElem? (i := 12) rfl)
theorem wd_link_L_26 : (.methodLink "ArrowClassesLaw" 26 ⟨"ArrowClasses", "erase", "(II)Z"⟩ : Cond) ∈ vzB := vzB_in3 (List.mem_of_getElem? (i := 13) rfl)
theorem wd_inst_A_erase : (.instanceMethod ⟨"ArrowClasses", "erase", "(II)Z"⟩ : Cond) ∈ vzB := vzB_in3 (List.mem_of_getElem? (i := 14) rfl)
theorem wd_sel_A_erase : (.selects "ArrowClasses" ⟨"ArrowClasses", "erase", "(II)Z"⟩ ⟨"ArrowClasses", "erase", "(II)Z"⟩ : Cond) ∈ vzB := vzB_in3 (List.mem_of_getElem? (i := 15) rfl)
theorem wd_code_A_erase : (.code ⟨"ArrowClasses", "erase", "(II)Z"⟩ prog_1_method_3_code 3 (some .boolean) : Cond) ∈ vzB := vzB_in3 (List.mem_of_getElem? (i := 16) rfl)
theorem wd_link_A_59 : (.methodLink "ArrowClasses" 59 ⟨"ArrowClasses$Graph", "has", "(II)Z"⟩ : Cond) ∈ vzB := vzB_in3 (List.mem_of_getElem? (i := 17) rfl)
theorem wd_link_A_62 : (.methodLink "ArrowClasses" 62 ⟨"ArrowClasses$Graph", "take", "(II)V"⟩ : Cond) ∈ vzB := vzB_in3 (List.mem_of_getElem? (i := 18) rfl)
theorem wd_inst_G_take : (.instanceMethod ⟨"ArrowClasses$Graph", "take", "(II)V"⟩ : Cond) ∈ vzB := vzB_in3 (List.mem_of_getElem? (i := 19) rfl)
theorem wd_sel_G_take : (.selects "ArrowClasses$Graph" ⟨"ArrowClasses$Graph", "take", "(II)V"⟩ ⟨"ArrowClasses$Graph", "take", "(II)V"⟩ : Cond) ∈ vzB := vzB_in3 (List.mem_of_getElem? (i := 20) rfl)
theorem wd_code_G_take : (.code ⟨"ArrowClasses$Graph", "take", "(II)V"⟩ prog_2_method_5_code 3 none : Cond) ∈ vzB := vzB_in3 (List.mem_of_getElem? (i := 21) rfl)
theorem wd_link_L_30 : (.methodLink "ArrowClassesLaw" 30 ⟨"ArrowClasses", "turn", "(II)Z"⟩ : Cond) ∈ vzB := vzB_in3 (List.mem_of_getElem? (i := 22) rfl)
theorem wd_inst_A_turn : (.instanceMethod ⟨"ArrowClasses", "turn", "(II)Z"⟩ : Cond) ∈ vzB := vzB_in3 (List.mem_of_getElem? (i := 23) rfl)
theorem wd_sel_A_turn : (.selects "ArrowClasses" ⟨"ArrowClasses", "turn", "(II)Z"⟩ ⟨"ArrowClasses", "turn", "(II)Z"⟩ : Cond) ∈ vzB := vzB_in3 (List.mem_of_getElem? (i := 24) rfl)
theorem wd_code_A_turn : (.code ⟨"ArrowClasses", "turn", "(II)Z"⟩ prog_1_method_4_code 3 (some .boolean) : Cond) ∈ vzB := vzB_in3 (List.mem_of_getElem? (i := 25) rfl)
theorem wd_link_L_34 : (.methodLink "ArrowClassesLaw" 34 ⟨"ArrowClasses", "drawn", "(II)Z"⟩ : Cond) ∈ vzB := vzB_in3 (List.mem_of_getElem? (i := 26) rfl)
theorem wd_inst_A_drawn : (.instanceMethod ⟨"ArrowClasses", "drawn", "(II)Z"⟩ : Cond) ∈ vzB := vzB_in3 (List.mem_of_getElem? (i := 27) rfl)
theorem wd_sel_A_drawn : (.selects "ArrowClasses" ⟨"ArrowClasses", "drawn", "(II)Z"⟩ ⟨"ArrowClasses", "drawn", "(II)Z"⟩ : Cond) ∈ vzB := vzB_in3 (List.mem_of_getElem? (i := 28) rfl)
theorem wd_code_A_drawn : (.code ⟨"ArrowClasses", "drawn", "(II)Z"⟩ prog_1_method_5_code 3 (some .boolean) : Cond) ∈ vzB := vzB_in3 (List.mem_of_getElem? (i := 29) rfl)
theorem wd_link_L_38 : (.methodLink "ArrowClassesLaw" 38 ⟨"ArrowClasses", "parents", "(I)I"⟩ : Cond) ∈ vzB := vzB_in3 (List.mem_of_getElem? (i := 30) rfl)
theorem wd_inst_A_parents : (.instanceMethod ⟨"ArrowClasses", "parents", "(I)I"⟩ : Cond) ∈ vzB := vzB_in3 (List.mem_of_getElem? (i := 31) rfl)
theorem wd_sel_A_parents : (.selects "ArrowClasses" ⟨"ArrowClasses", "parents", "(I)I"⟩ ⟨"ArrowClasses", "parents", "(I)I"⟩ : Cond) ∈ vzB := vzB_in3 (List.mem_of_getElem? (i := 32) rfl)
theorem wd_code_A_parents : (.code ⟨"ArrowClasses", "parents", "(I)I"⟩ prog_1_method_6_code 2 (some .int) : Cond) ∈ vzB := vzB_in3 (List.mem_of_getElem? (i := 33) rfl)
theorem wd_link_L_43 : (.methodLink "ArrowClassesLaw" 43 ⟨"ArrowClasses", "reached", "(I)I"⟩ : Cond) ∈ vzB := vzB_in3 (List.mem_of_getElem? (i := 34) rfl)
theorem wd_inst_A_reached : (.instanceMethod ⟨"ArrowClasses", "reached", "(I)I"⟩ : Cond) ∈ vzB := vzB_in3 (List.mem_of_getElem? (i := 35) rfl)
theorem wd_sel_A_reached : (.selects "ArrowClasses" ⟨"ArrowClasses", "reached", "(I)I"⟩ ⟨"ArrowClasses", "reached", "(I)I"⟩ : Cond) ∈ vzB := vzB_in3 (List.mem_of_getElem? (i := 36) rfl)
theorem wd_code_A_reached : (.code ⟨"ArrowClasses", "reached", "(I)I"⟩ prog_1_method_7_code 2 (some .int) : Cond) ∈ vzB := vzB_in3 (List.mem_of_getElem? (i := 37) rfl)
theorem wd_link_L_47 : (.methodLink "ArrowClassesLaw" 47 ⟨"ArrowClasses", "around", "(I)I"⟩ : Cond) ∈ vzB := vzB_in3 (List.mem_of_getElem? (i := 38) rfl)
theorem wd_inst_A_around : (.instanceMethod ⟨"ArrowClasses", "around", "(I)I"⟩ : Cond) ∈ vzB := vzB_in3 (List.mem_of_getElem? (i := 39) rfl)
theorem wd_sel_A_around : (.selects "ArrowClasses" ⟨"ArrowClasses", "around", "(I)I"⟩ ⟨"ArrowClasses", "around", "(I)I"⟩ : Cond) ∈ vzB := vzB_in4 (List.mem_of_getElem? (i := 0) rfl)
theorem wd_code_A_around : (.code ⟨"ArrowClasses", "around", "(I)I"⟩ prog_1_method_8_code 4 (some .int) : Cond) ∈ vzB := vzB_in4 (List.mem_of_getElem? (i := 1) rfl)
theorem wd_link_L_51 : (.methodLink "ArrowClassesLaw" 51 ⟨"ArrowClasses", "collisions", "()I"⟩ : Cond) ∈ vzB := vzB_in4 (List.mem_of_getElem? (i := 2) rfl)
theorem wd_inst_A_collisions : (.instanceMethod ⟨"ArrowClasses", "collisions", "()I"⟩ : Cond) ∈ vzB := vzB_in4 (List.mem_of_getElem? (i := 3) rfl)
theorem wd_sel_A_collisions : (.selects "ArrowClasses" ⟨"ArrowClasses", "collisions", "()I"⟩ ⟨"ArrowClasses", "collisions", "()I"⟩ : Cond) ∈ vzB := vzB_in4 (List.mem_of_getElem? (i := 4) rfl)
theorem wd_code_A_collisions : (.code ⟨"ArrowClasses", "collisions", "()I"⟩ prog_1_method_9_code 4 (some .int) : Cond) ∈ vzB := vzB_in4 (List.mem_of_getElem? (i := 5) rfl)
theorem wd_link_A_76 : (.methodLink "ArrowClasses" 76 ⟨"ArrowClasses$Graph", "strangers", "(II)I"⟩ : Cond) ∈ vzB := vzB_in4 (List.mem_of_getElem? (i := 6) rfl)
theorem wd_link_A_80 : (.methodLink "ArrowClasses" 80 ⟨"java/lang/Integer", "bitCount", "(I)I"⟩ : Cond) ∈ vzB := vzB_in4 (List.mem_of_getElem? (i := 7) rfl)
theorem wd_link_L_56 : (.methodLink "ArrowClassesLaw" 56 ⟨"ArrowClasses", "covered", "(II)Z"⟩ : Cond) ∈ vzB := vzB_in4 (List.mem_of_getElem? (i := 8) rfl)
theorem wd_inst_A_covered : (.instanceMethod ⟨"ArrowClasses", "covered", "(II)Z"⟩ : Cond) ∈ vzB := vzB_in4 (List.mem_of_getElem? (i := 9) rfl)
theorem wd_sel_A_covered : (.selects "ArrowClasses" ⟨"ArrowClasses", "covered", "(II)Z"⟩ ⟨"ArrowClasses", "covered", "(II)Z"⟩ : Cond) ∈ vzB := vzB_in4 (List.mem_of_getElem? (i := 10) rfl)
theorem wd_code_A_covered : (.code ⟨"ArrowClasses", "covered", "(II)Z"⟩ prog_1_method_10_code 3 (some .boolean) : Cond) ∈ vzB := vzB_in4 (List.mem_of_getElem? (i := 11) rfl)
theorem wd_link_A_85 : (.methodLink "ArrowClasses" 85 ⟨"ArrowClasses", "drawn", "(II)Z"⟩ : Cond) ∈ vzB := vzB_in4 (List.mem_of_getElem? (i := 12) rfl)
theorem wd_link_L_60 : (.methodLink "ArrowClassesLaw" 60 ⟨"ArrowClasses", "separated", "(III)Z"⟩ : Cond) ∈ vzB := vzB_in4 (List.mem_of_getElem? (i := 13) rfl)
theorem wd_inst_A_separated : (.instanceMethod ⟨"ArrowClasses", "separated", "(III)Z"⟩ : Cond) ∈ vzB := vzB_in4 (List.mem_of_getElem? (i := 14) rfl)
theorem wd_sel_A_separated : (.selects "ArrowClasses" ⟨"ArrowClasses", "separated", "(III)Z"⟩ ⟨"ArrowClasses", "separated", "(III)Z"⟩ : Cond) ∈ vzB := vzB_in4 (List.mem_of_getElem? (i := 15) rfl)
theorem wd_code_A_separated : (.code ⟨"ArrowClasses", "separated", "(III)Z"⟩ prog_1_method_11_code 4 (some .boolean) : Cond) ∈ vzB := vzB_in4 (List.mem_of_getElem? (i := 16) rfl)
theorem wd_link_A_87 : (.methodLink "ArrowClasses" 87 ⟨"ArrowClasses$Graph", "openFrom", "(II)I"⟩ : Cond) ∈ vzB := vzB_in4 (List.mem_of_getElem? (i := 17) rfl)
theorem wd_inst_G_openFrom : (.instanceMethod ⟨"ArrowClasses$Graph", "openFrom", "(II)I"⟩ : Cond) ∈ vzB := vzB_in4 (List.mem_of_getElem? (i := 18) rfl)
theorem wd_sel_G_openFrom : (.selects "ArrowClasses$Graph" ⟨"ArrowClasses$Graph", "openFrom", "(II)I"⟩ ⟨"ArrowClasses$Graph", "openFrom", "(II)I"⟩ : Cond) ∈ vzB := vzB_in4 (List.mem_of_getElem? (i := 19) rfl)
theorem wd_code_G_openFrom : (.code ⟨"ArrowClasses$Graph", "openFrom", "(II)I"⟩ prog_2_method_12_code 11 (some .int) : Cond) ∈ vzB := vzB_in4 (List.mem_of_getElem? (i := 20) rfl)
theorem wd_link_L_65 : (.methodLink "ArrowClassesLaw" 65 ⟨"ArrowClasses", "separator", "(II)I"⟩ : Cond) ∈ vzB := vzB_in4 (List.mem_of_getElem? (i := 21) rfl)
theorem wd_inst_A_separator : (.instanceMethod ⟨"ArrowClasses", "separator", "(II)I"⟩ : Cond) ∈ vzB := vzB_in4 (List.mem_of_getElem? (i := 22) rfl)
theorem wd_sel_A_separator : (.selects "ArrowClasses" ⟨"ArrowClasses", "separator", "(II)I"⟩ ⟨"ArrowClasses", "separator", "(II)I"⟩ : Cond) ∈ vzB := vzB_in4 (List.mem_of_getElem? (i := 23) rfl)
theorem wd_code_A_separator : (.code ⟨"ArrowClasses", "separator", "(II)I"⟩ prog_1_method_12_code 7 (some .int) : Cond) ∈ vzB := vzB_in4 (List.mem_of_getElem? (i := 24) rfl)
theorem wd_link_A_90 : (.methodLink "ArrowClasses" 90 ⟨"ArrowClasses", "separated", "(III)Z"⟩ : Cond) ∈ vzB := vzB_in4 (List.mem_of_getElem? (i := 25) rfl)
theorem wd_link_L_70 : (.methodLink "ArrowClassesLaw" 70 ⟨"ArrowClasses", "separations", "()I"⟩ : Cond) ∈ vzB := vzB_in4 (List.mem_of_getElem? (i := 26) rfl)
theorem wd_inst_A_separations : (.instanceMethod ⟨"ArrowClasses", "separations", "()I"⟩ : Cond) ∈ vzB := vzB_in4 (List.mem_of_getElem? (i := 27) rfl)
theorem wd_sel_A_separations : (.selects "ArrowClasses" ⟨"ArrowClasses", "separations", "()I"⟩ ⟨"ArrowClasses", "separations", "()I"⟩ : Cond) ∈ vzB := vzB_in4 (List.mem_of_getElem? (i := 28) rfl)
theorem wd_code_A_separations : (.code ⟨"ArrowClasses", "separations", "()I"⟩ prog_1_method_13_code 3 (some .int) : Cond) ∈ vzB := vzB_in4 (List.mem_of_getElem? (i := 29) rfl)
theorem wd_link_A_94 : (.methodLink "ArrowClasses" 94 ⟨"ArrowClasses", "separationsBy", "(I)I"⟩ : Cond) ∈ vzB := vzB_in4 (List.mem_of_getElem? (i := 30) rfl)
theorem wd_sel_A_separationsBy : (.selects "ArrowClasses" ⟨"ArrowClasses", "separationsBy", "(I)I"⟩ ⟨"ArrowClasses", "separationsBy", "(I)I"⟩ : Cond) ∈ vzB := vzB_in4 (List.mem_of_getElem? (i := 31) rfl)
theorem wd_inst_A_separationsBy : (.instanceMethod ⟨"ArrowClasses", "separationsBy", "(I)I"⟩ : Cond) ∈ vzB := vzB_in4 (List.mem_of_getElem? (i := 32) rfl)
theorem wd_code_A_separationsBy : (.code ⟨"ArrowClasses", "separationsBy", "(I)I"⟩ prog_1_method_24_code 5 (some .int) : Cond) ∈ vzB := vzB_in4 (List.mem_of_getElem? (i := 33) rfl)
theorem wd_link_L_74 : (.methodLink "ArrowClassesLaw" 74 ⟨"ArrowClasses", "edge", "(II)I"⟩ : Cond) ∈ vzB := vzB_in4 (List.mem_of_getElem? (i := 34) rfl)
theorem wd_inst_A_edge : (.instanceMethod ⟨"ArrowClasses", "edge", "(II)I"⟩ : Cond) ∈ vzB := vzB_in4 (List.mem_of_getElem? (i := 35) rfl)
theorem wd_sel_A_edge : (.selects "ArrowClasses" ⟨"ArrowClasses", "edge", "(II)I"⟩ ⟨"ArrowClasses", "edge", "(II)I"⟩ : Cond) ∈ vzB := vzB_in4 (List.mem_of_getElem? (i := 36) rfl)
theorem wd_code_A_edge : (.code ⟨"ArrowClasses", "edge", "(II)I"⟩ prog_1_method_14_code 3 (some .int) : Cond) ∈ vzB := vzB_in4 (List.mem_of_getElem? (i := 37) rfl)
theorem wd_link_A_97 : (.methodLink "ArrowClasses" 97 ⟨"ArrowClasses$Kindred", "someHas", "(II)Z"⟩ : Cond) ∈ vzB := vzB_in4 (List.mem_of_getElem? (i := 38) rfl)
theorem wd_inst_K_someHas : (.instanceMethod ⟨"ArrowClasses$Kindred", "someHas", "(II)Z"⟩ : Cond) ∈ vzB := vzB_in4 (List.mem_of_getElem? (i := 39) rfl)
theorem wd_sel_K_someHas : (.selects "ArrowClasses$Kindred" ⟨"ArrowClasses$Kindred", "someHas", "(II)Z"⟩ ⟨"ArrowClasses$Kindred", "someHas", "(II)Z"⟩ : Cond) ∈ vzB := vzB_in5 (List.mem_of_getElem? (i := 0) rfl)
theorem wd_code_K_someHas : (.code ⟨"ArrowClasses$Kindred", "someHas", "(II)Z"⟩ prog_3_method_5_code 4 (some .boolean) : Cond) ∈ vzB := vzB_in5 (List.mem_of_getElem? (i := 1) rfl)
theorem wd_link_K_68 : (.methodLink "ArrowClasses$Kindred" 68 ⟨"ArrowClasses$Kindred", "gather", "()V"⟩ : Cond) ∈ vzB := vzB_in5 (List.mem_of_getElem? (i := 2) rfl)
theorem wd_sel_K_gather : (.selects "ArrowClasses$Kindred" ⟨"ArrowClasses$Kindred", "gather", "()V"⟩ ⟨"ArrowClasses$Kindred", "gather", "()V"⟩ : Cond) ∈ vzB := vzB_in5 (List.mem_of_getElem? (i := 3) rfl)
theorem wd_inst_K_gather : (.instanceMethod ⟨"ArrowClasses$Kindred", "gather", "()V"⟩ : Cond) ∈ vzB := vzB_in5 (List.mem_of_getElem? (i := 4) rfl)
theorem wd_code_K_gather : (.code ⟨"ArrowClasses$Kindred", "gather", "()V"⟩ prog_3_method_13_code 2 none : Cond) ∈ vzB := vzB_in5 (List.mem_of_getElem? (i := 5) rfl)
theorem wd_link_K_103 : (.methodLink "ArrowClasses$Kindred" 103 ⟨"ArrowClasses$Kindred", "isMember", "(I)Z"⟩ : Cond) ∈ vzB := vzB_in5 (List.mem_of_getElem? (i := 6) rfl)
theorem wd_sel_K_isMember : (.selects "ArrowClasses$Kindred" ⟨"ArrowClasses$Kindred", "isMember", "(I)Z"⟩ ⟨"ArrowClasses$Kindred", "isMember", "(I)Z"⟩ : Cond) ∈ vzB := vzB_in5 (List.mem_of_getElem? (i := 7) rfl)
theorem wd_inst_K_isMember : (.instanceMethod ⟨"ArrowClasses$Kindred", "isMember", "(I)Z"⟩ : Cond) ∈ vzB := vzB_in5 (List.mem_of_getElem? (i := 8) rfl)
theorem wd_code_K_isMember : (.code ⟨"ArrowClasses$Kindred", "isMember", "(I)Z"⟩ prog_3_method_14_code 3 (some .boolean) : Cond) ∈ vzB := vzB_in5 (List.mem_of_getElem? (i := 9) rfl)
theorem wd_link_K_107 : (.methodLink "ArrowClasses$Kindred" 107 ⟨"ArrowClasses$Graph", "empty", "()V"⟩ : Cond) ∈ vzB := vzB_in5 (List.mem_of_getElem? (i := 10) rfl)
theorem wd_inst_G_empty : (.instanceMethod ⟨"ArrowClasses$Graph", "empty", "()V"⟩ : Cond) ∈ vzB := vzB_in5 (List.mem_of_getElem? (i := 11) rfl)
theorem wd_sel_G_empty : (.selects "ArrowClasses$Graph" ⟨"ArrowClasses$Graph", "empty", "()V"⟩ ⟨"ArrowClasses$Graph", "empty", "()V"⟩ : Cond) ∈ vzB := vzB_in5 (List.mem_of_getElem? (i := 12) rfl)
theorem wd_code_G_empty : (.code ⟨"ArrowClasses$Graph", "empty", "()V"⟩ prog_2_method_6_code 2 none : Cond) ∈ vzB := vzB_in5 (List.mem_of_getElem? (i := 13) rfl)
theorem wd_link_K_100 : (.methodLink "ArrowClasses$Kindred" 100 ⟨"ArrowClasses$Kindred", "bitAt", "(I)I"⟩ : Cond) ∈ vzB := vzB_in5 (List.mem_of_getElem? (i := 14) rfl)
theorem wd_sel_K_bitAt : (.selects "ArrowClasses$Kindred" ⟨"ArrowClasses$Kindred", "bitAt", "(I)I"⟩ ⟨"ArrowClasses$Kindred", "bitAt", "(I)I"⟩ : Cond) ∈ vzB := vzB_in5 (List.mem_of_getElem? (i := 15) rfl)
theorem wd_inst_K_bitAt : (.instanceMethod ⟨"ArrowClasses$Kindred", "bitAt", "(I)I"⟩ : Cond) ∈ vzB := vzB_in5 (List.mem_of_getElem? (i := 16) rfl)
theorem wd_code_K_bitAt : (.code ⟨"ArrowClasses$Kindred", "bitAt", "(I)I"⟩ prog_3_method_12_code 2 (some .int) : Cond) ∈ vzB := vzB_in5 (List.mem_of_getElem? (i := 17) rfl)
theorem wd_link_K_110 : (.methodLink "ArrowClasses$Kindred" 110 ⟨"ArrowClasses$Graph", "put", "(II)V"⟩ : Cond) ∈ vzB := vzB_in5 (List.mem_of_getElem? (i := 18) rfl)
theorem wd_link_K_113 : (.methodLink "ArrowClasses$Kindred" 113 ⟨"ArrowClasses$Graph", "collidesLike", "(LArrowClasses$Graph;)Z"⟩ : Cond) ∈ vzB := vzB_in5 (List.mem_of_getElem? (i := 19) rfl)
theorem wd_inst_G_collidesLike : (.instanceMethod ⟨"ArrowClasses$Graph", "collidesLike", "(LArrowClasses$Graph;)Z"⟩ : Cond) ∈ vzB := vzB_in5 (List.mem_of_getElem? (i := 20) rfl)
theorem wd_sel_G_collidesLike : (.selects "ArrowClasses$Graph" ⟨"ArrowClasses$Graph", "collidesLike", "(LArrowClasses$Graph;)Z"⟩ ⟨"ArrowClasses$Graph", "collidesLike", "(LArrowClasses$Graph;)Z"⟩ : Cond) ∈ vzB := vzB_in5 (List.mem_of_getElem? (i := 21) rfl)
theorem wd_code_G_collidesLike : (.code ⟨"ArrowClasses$Graph", "collidesLike", "(LArrowClasses$Graph;)Z"⟩ prog_2_method_11_code 4 (some .boolean) : Cond) ∈ vzB := vzB_in5 (List.mem_of_getElem? (i := 22) rfl)
theorem wd_link_G_35 : (.methodLink "ArrowClasses$Graph" 35 ⟨"ArrowClasses$Graph", "strangers", "(II)I"⟩ : Cond) ∈ vzB := vzB_in5 (List.mem_of_getElem? (i := 23) rfl)
theorem wd_link_K_117 : (.methodLink "ArrowClasses$Kindred" 117 ⟨"ArrowClasses$Graph", "hasRing", "()Z"⟩ : Cond) ∈ vzB := vzB_in5 (List.mem_of_getElem? (i := 24) rfl)
theorem wd_inst_G_hasRing : (.instanceMethod ⟨"ArrowClasses$Graph", "hasRing", "()Z"⟩ : Cond) ∈ vzB := vzB_in5 (List.mem_of_getElem? (i := 25) rfl)
theorem wd_sel_G_hasRing : (.selects "ArrowClasses$Graph" ⟨"ArrowClasses$Graph", "hasRing", "()Z"⟩ ⟨"ArrowClasses$Graph", "hasRing", "()Z"⟩ : Cond) ∈ vzB := vzB_in5 (List.mem_of_getElem? (i := 26) rfl)
theorem wd_code_G_hasRing : (.code ⟨"ArrowClasses$Graph", "hasRing", "()Z"⟩ prog_2_method_9_code 4 (some .boolean) : Cond) ∈ vzB := vzB_in5 (List.mem_of_getElem? (i := 27) rfl)
theorem wd_link_K_74 : (.methodLink "ArrowClasses$Kindred" 74 ⟨"ArrowClasses$Kindred", "bitOf", "(II)I"⟩ : Cond) ∈ vzB := vzB_in5 (List.mem_of_getElem? (i := 28) rfl)
theorem wd_sel_K_bitOf : (.selects "ArrowClasses$Kindred" ⟨"ArrowClasses$Kindred", "bitOf", "(II)I"⟩ ⟨"ArrowClasses$Kindred", "bitOf", "(II)I"⟩ : Cond) ∈ vzB := vzB_in5 (List.mem_of_getElem? (i := 29) rfl)
theorem wd_inst_K_bitOf : (.instanceMethod ⟨"ArrowClasses$Kindred", "bitOf", "(II)I"⟩ : Cond) ∈ vzB := vzB_in5 (List.mem_of_getElem? (i := 30) rfl)
theorem wd_code_K_bitOf : (.code ⟨"ArrowClasses$Kindred", "bitOf", "(II)I"⟩ prog_3_method_11_code 4 (some .int) : Cond) ∈ vzB := vzB_in5 (List.mem_of_getElem? (i := 31) rfl)
theorem wd_link_K_92 : (.methodLink "ArrowClasses$Kindred" 92 ⟨"java/lang/Math", "min", "(II)I"⟩ : Cond) ∈ vzB := vzB_in5 (List.mem_of_getElem? (i := 32) rfl)
theorem wd_stat_H_min : (.static ⟨"java/lang/Math", "min", "(II)I"⟩ : Cond) ∈ vzB := vzB_in5 (List.mem_of_getElem? (i := 33) rfl)
theorem wd_code_H_min : (.code ⟨"java/lang/Math", "min", "(II)I"⟩ prog_7_method_69_code 2 (some .int) : Cond) ∈ vzB := vzB_in5 (List.mem_of_getElem? (i := 34) rfl)
theorem wd_link_K_97 : (.methodLink "ArrowClasses$Kindred" 97 ⟨"java/lang/Math", "max", "(II)I"⟩ : Cond) ∈ vzB := vzB_in5 (List.mem_of_getElem? (i := 35) rfl)
theorem wd_stat_H_max : (.static ⟨"java/lang/Math", "max", "(II)I"⟩ : Cond) ∈ vzB := vzB_in5 (List.mem_of_getElem? (i := 36) rfl)
theorem wd_code_H_max : (.code ⟨"java/lang/Math", "max", "(II)I"⟩ prog_7_method_65_code 2 (some .int) : Cond) ∈ vzB := vzB_in5 (List.mem_of_getElem? (i := 37) rfl)
theorem wd_link_L_78 : (.methodLink "ArrowClassesLaw" 78 ⟨"ArrowClasses", "loose", "()I"⟩ : Cond) ∈ vzB := vzB_in5 (List.mem_of_getElem? (i := 38) rfl)
theorem wd_inst_A_loose : (.instanceMethod ⟨"ArrowClasses", "loose", "()I"⟩ : Cond) ∈ vzB := vzB_in5 (List.mem_of_getElem? (i := 39) rfl)
theorem wd_sel_A_loose : (.selects "ArrowClasses" ⟨"ArrowClasses", "loose", "()I"⟩ ⟨"ArrowClasses", "loose", "()I"⟩ : Cond) ∈ vzB := vzB_in6 (List.mem_of_getElem? (i := 0) rfl)
theorem wd_code_A_loose : (.code ⟨"ArrowClasses", "loose", "()I"⟩ prog_1_method_15_code 1 (some .int) : Cond) ∈ vzB := vzB_in6 (List.mem_of_getElem? (i := 1) rfl)
theorem wd_link_A_100 : (.methodLink "ArrowClasses" 100 ⟨"ArrowClasses$Kindred", "loosePairs", "()I"⟩ : Cond) ∈ vzB := vzB_in6 (List.mem_of_getElem? (i := 2) rfl)
theorem wd_inst_K_loosePairs : (.instanceMethod ⟨"ArrowClasses$Kindred", "loosePairs", "()I"⟩ : Cond) ∈ vzB := vzB_in6 (List.mem_of_getElem? (i := 3) rfl)
theorem wd_sel_K_loosePairs : (.selects "ArrowClasses$Kindred" ⟨"ArrowClasses$Kindred", "loosePairs", "()I"⟩ ⟨"ArrowClasses$Kindred", "loosePairs", "()I"⟩ : Cond) ∈ vzB := vzB_in6 (List.mem_of_getElem? (i := 4) rfl)
theorem wd_code_K_loosePairs : (.code ⟨"ArrowClasses$Kindred", "loosePairs", "()I"⟩ prog_3_method_7_code 1 (some .int) : Cond) ∈ vzB := vzB_in6 (List.mem_of_getElem? (i := 5) rfl)
theorem wd_link_K_86 : (.methodLink "ArrowClasses$Kindred" 86 ⟨"java/lang/Integer", "bitCount", "(I)I"⟩ : Cond) ∈ vzB := vzB_in6 (List.mem_of_getElem? (i := 6) rfl)
theorem wd_link_L_82 : (.methodLink "ArrowClassesLaw" 82 ⟨"ArrowClasses", "know", "(II)Z"⟩ : Cond) ∈ vzB := vzB_in6 (List.mem_of_getElem? (i := 7) rfl)
theorem wd_inst_A_know : (.instanceMethod ⟨"ArrowClasses", "know", "(II)Z"⟩ : Cond) ∈ vzB := vzB_in6 (List.mem_of_getElem? (i := 8) rfl)
theorem wd_sel_A_know : (.selects "ArrowClasses" ⟨"ArrowClasses", "know", "(II)Z"⟩ ⟨"ArrowClasses", "know", "(II)Z"⟩ : Cond) ∈ vzB := vzB_in6 (List.mem_of_getElem? (i := 9) rfl)
theorem wd_code_A_know : (.code ⟨"ArrowClasses", "know", "(II)Z"⟩ prog_1_method_16_code 3 (some .boolean) : Cond) ∈ vzB := vzB_in6 (List.mem_of_getElem? (i := 10) rfl)
theorem wd_link_A_103 : (.methodLink "ArrowClasses" 103 ⟨"ArrowClasses$Kindred", "fix", "(II)V"⟩ : Cond) ∈ vzB := vzB_in6 (List.mem_of_getElem? (i := 11) rfl)
theorem wd_inst_K_fix : (.instanceMethod ⟨"ArrowClasses$Kindred", "fix", "(II)V"⟩ : Cond) ∈ vzB := vzB_in6 (List.mem_of_getElem? (i := 12) rfl)
theorem wd_sel_K_fix : (.selects "ArrowClasses$Kindred" ⟨"ArrowClasses$Kindred", "fix", "(II)V"⟩ ⟨"ArrowClasses$Kindred", "fix", "(II)V"⟩ : Cond) ∈ vzB := vzB_in6 (List.mem_of_getElem? (i := 13) rfl)
theorem wd_code_K_fix : (.code ⟨"ArrowClasses$Kindred", "fix", "(II)V"⟩ prog_3_method_9_code 4 none : Cond) ∈ vzB := vzB_in6 (List.mem_of_getElem? (i := 14) rfl)
theorem wd_link_L_86 : (.methodLink "ArrowClassesLaw" 86 ⟨"ArrowClasses", "forget", "()I"⟩ : Cond) ∈ vzB := vzB_in6 (List.mem_of_getElem? (i := 15) rfl)
theorem wd_inst_A_forget : (.instanceMethod ⟨"ArrowClasses", "forget", "()I"⟩ : Cond) ∈ vzB := vzB_in6 (List.mem_of_getElem? (i := 16) rfl)
theorem wd_sel_A_forget : (.selects "ArrowClasses" ⟨"ArrowClasses", "forget", "()I"⟩ ⟨"ArrowClasses", "forget", "()I"⟩ : Cond) ∈ vzB := vzB_in6 (List.mem_of_getElem? (i := 17) rfl)
theorem wd_code_A_forget : (.code ⟨"ArrowClasses", "forget", "()I"⟩ prog_1_method_17_code 1 (some .int) : Cond) ∈ vzB := vzB_in6 (List.mem_of_getElem? (i := 18) rfl)
theorem wd_link_A_106 : (.methodLink "ArrowClasses" 106 ⟨"ArrowClasses$Kindred", "unfix", "()I"⟩ : Cond) ∈ vzB := vzB_in6 (List.mem_of_getElem? (i := 19) rfl)
theorem wd_inst_K_unfix : (.instanceMethod ⟨"ArrowClasses$Kindred", "unfix", "()I"⟩ : Cond) ∈ vzB := vzB_in6 (List.mem_of_getElem? (i := 20) rfl)
theorem wd_sel_K_unfix : (.selects "ArrowClasses$Kindred" ⟨"ArrowClasses$Kindred", "unfix", "()I"⟩ ⟨"ArrowClasses$Kindred", "unfix", "()I"⟩ : Cond) ∈ vzB := vzB_in6 (List.mem_of_getElem? (i := 21) rfl)
theorem wd_code_K_unfix : (.code ⟨"ArrowClasses$Kindred", "unfix", "()I"⟩ prog_3_method_10_code 2 (some .int) : Cond) ∈ vzB := vzB_in6 (List.mem_of_getElem? (i := 22) rfl)
theorem wd_link_L_90 : (.methodLink "ArrowClassesLaw" 90 ⟨"ArrowClasses", "members", "()I"⟩ : Cond) ∈ vzB := vzB_in6 (List.mem_of_getElem? (i := 23) rfl)
theorem wd_inst_A_members : (.instanceMethod ⟨"ArrowClasses", "members", "()I"⟩ : Cond) ∈ vzB := vzB_in6 (List.mem_of_getElem? (i := 24) rfl)
theorem wd_sel_A_members : (.selects "ArrowClasses" ⟨"ArrowClasses", "members", "()I"⟩ ⟨"ArrowClasses", "members", "()I"⟩ : Cond) ∈ vzB := vzB_in6 (List.mem_of_getElem? (i := 25) rfl)
theorem wd_code_A_members : (.code ⟨"ArrowClasses", "members", "()I"⟩ prog_1_method_18_code 1 (some .int) : Cond) ∈ vzB := vzB_in6 (List.mem_of_getElem? (i := 26) rfl)
theorem wd_link_A_109 : (.methodLink "ArrowClasses" 109 ⟨"ArrowClasses$Kindred", "size", "()I"⟩ : Cond) ∈ vzB := vzB_in6 (List.mem_of_getElem? (i := 27) rfl)
theorem wd_inst_K_size : (.instanceMethod ⟨"ArrowClasses$Kindred", "size", "()I"⟩ : Cond) ∈ vzB := vzB_in6 (List.mem_of_getElem? (i := 28) rfl)
theorem wd_sel_K_size : (.selects "ArrowClasses$Kindred" ⟨"ArrowClasses$Kindred", "size", "()I"⟩ ⟨"ArrowClasses$Kindred", "size", "()I"⟩ : Cond) ∈ vzB := vzB_in6 (List.mem_of_getElem? (i := 29) rfl)
theorem wd_code_K_size : (.code ⟨"ArrowClasses$Kindred", "size", "()I"⟩ prog_3_method_4_code 1 (some .int) : Cond) ∈ vzB := vzB_in6 (List.mem_of_getElem? (i := 30) rfl)
theorem wd_link_L_94 : (.methodLink "ArrowClassesLaw" 94 ⟨"ArrowClasses", "first", "(II)Z"⟩ : Cond) ∈ vzB := vzB_in6 (List.mem_of_getElem? (i := 31) rfl)
theorem wd_inst_A_first : (.instanceMethod ⟨"ArrowClasses", "first", "(II)Z"⟩ : Cond) ∈ vzB := vzB_in6 (List.mem_of_getElem? (i := 32) rfl)
theorem wd_sel_A_first : (.selects "ArrowClasses" ⟨"ArrowClasses", "first", "(II)Z"⟩ ⟨"ArrowClasses", "first", "(II)Z"⟩ : Cond) ∈ vzB := vzB_in6 (List.mem_of_getElem? (i := 33) rfl)
theorem wd_code_A_first : (.code ⟨"ArrowClasses", "first", "(II)Z"⟩ prog_1_method_19_code 3 (some .boolean) : Cond) ∈ vzB := vzB_in6 (List.mem_of_getElem? (i := 34) rfl)
theorem wd_link_A_110 : (.methodLink "ArrowClasses" 110 ⟨"ArrowClasses$Kindred", "firstHas", "(II)Z"⟩ : Cond) ∈ vzB := vzB_in6 (List.mem_of_getElem? (i := 35) rfl)
theorem wd_inst_K_firstHas : (.instanceMethod ⟨"ArrowClasses$Kindred", "firstHas", "(II)Z"⟩ : Cond) ∈ vzB := vzB_in6 (List.mem_of_getElem? (i := 36) rfl)
theorem wd_sel_K_firstHas : (.selects "ArrowClasses$Kindred" ⟨"ArrowClasses$Kindred", "firstHas", "(II)Z"⟩ ⟨"ArrowClasses$Kindred", "firstHas", "(II)Z"⟩ : Cond) ∈ vzB := vzB_in6 (List.mem_of_getElem? (i := 37) rfl)
theorem wd_code_K_firstHas : (.code ⟨"ArrowClasses$Kindred", "firstHas", "(II)Z"⟩ prog_3_method_6_code 4 (some .boolean) : Cond) ∈ vzB := vzB_in6 (List.mem_of_getElem? (i := 38) rfl)
theorem wd_link_L_98 : (.methodLink "ArrowClassesLaw" 98 ⟨"ArrowClasses", "turned", "()I"⟩ : Cond) ∈ vzB := vzB_in6 (List.mem_of_getElem? (i := 39) rfl)
theorem wd_inst_A_turned : (.instanceMethod ⟨"ArrowClasses", "turned", "()I"⟩ : Cond) ∈ vzB := vzB_in7 (List.mem_of_getElem? (i := 0) rfl)
theorem wd_sel_A_turned : (.selects "ArrowClasses" ⟨"ArrowClasses", "turned", "()I"⟩ ⟨"ArrowClasses", "turned", "()I"⟩ : Cond) ∈ vzB := vzB_in7 (List.mem_of_getElem? (i := 1) rfl)
theorem wd_code_A_turned : (.code ⟨"ArrowClasses", "turned", "()I"⟩ prog_1_method_20_code 1 (some .int) : Cond) ∈ vzB := vzB_in7 (List.mem_of_getElem? (i := 2) rfl)
theorem wd_link_A_113 : (.methodLink "ArrowClasses" 113 ⟨"ArrowClasses$Kindred", "turnedInFirst", "()I"⟩ : Cond) ∈ vzB := vzB_in7 (List.mem_of_getElem? (i := 3) rfl)
theorem wd_inst_K_turnedInFirst : (.instanceMethod ⟨"ArrowClasses$Kindred", "turnedInFirst", "()I"⟩ : Cond) ∈ vzB := vzB_in7 (List.mem_of_getElem? (i := 4) rfl)
theorem wd_sel_K_turnedInFirst : (.selects "ArrowClasses$Kindred" ⟨"ArrowClasses$Kindred", "turnedInFirst", "()I"⟩ ⟨"ArrowClasses$Kindred", "turnedInFirst", "()I"⟩ : Cond) ∈ vzB := vzB_in7 (List.mem_of_getElem? (i := 5) rfl)
theorem wd_code_K_turnedInFirst : (.code ⟨"ArrowClasses$Kindred", "turnedInFirst", "()I"⟩ prog_3_method_8_code 1 (some .int) : Cond) ∈ vzB := vzB_in7 (List.mem_of_getElem? (i := 6) rfl)
theorem wd_link_L_9 : (.methodLink "ArrowClassesLaw" 9 ⟨"ArrowClassesLaw", "cell", "([II)I"⟩ : Cond) ∈ vzB := vzB_in7 (List.mem_of_getElem? (i := 7) rfl)
theorem wd_stat_L_cell : (.static ⟨"ArrowClassesLaw", "cell", "([II)I"⟩ : Cond) ∈ vzB := vzB_in7 (List.mem_of_getElem? (i := 8) rfl)
theorem wd_code_L_cell : (.code ⟨"ArrowClassesLaw", "cell", "([II)I"⟩ method_2_code 2 (some .int) : Cond) ∈ vzB := vzB_in7 (List.mem_of_getElem? (i := 9) rfl)
theorem wd_cl_L_18 : (.classLink "ArrowClassesLaw" 18 "ArrowClassesModel" : Cond) ∈ vzB := vzB_in7 (List.mem_of_getElem? (i := 10) rfl)
theorem wd_new_M : (.instantiable "ArrowClassesModel" 13 : Cond) ∈ vzB := vzB_in7 (List.mem_of_getElem? (i := 11) rfl)
theorem wd_link_L_20 : (.methodLink "ArrowClassesLaw" 20 ⟨"ArrowClassesModel", "<init>", "(I)V"⟩ : Cond) ∈ vzB := vzB_in7 (List.mem_of_getElem? (i := 12) rfl)
theorem wd_inst_M_init : (.instanceMethod ⟨"ArrowClassesModel", "<init>", "(I)V"⟩ : Cond) ∈ vzB := vzB_in7 (List.mem_of_getElem? (i := 13) rfl)
theorem wd_code_M_init : (.code ⟨"ArrowClassesModel", "<init>", "(I)V"⟩ prog_5_method_1_code 2 none : Cond) ∈ vzB := vzB_in7 (List.mem_of_getElem? (i := 14) rfl)
theorem wd_link_M_1 : (.methodLink "ArrowClassesModel" 1 ⟨"java/lang/Object", "<init>", "()V"⟩ : Cond) ∈ vzB := vzB_in7 (List.mem_of_getElem? (i := 15) rfl)
theorem wd_fld_M_41 : (.fieldLink "ArrowClassesModel" 41 "ArrowClassesModel" "nodes" "I" : Cond) ∈ vzB := vzB_in7 (List.mem_of_getElem? (i := 16) rfl)
theorem wd_fld_M_7 : (.fieldLink "ArrowClassesModel" 7 "ArrowClassesModel" "has" "[Z" : Cond) ∈ vzB := vzB_in7 (List.mem_of_getElem? (i := 17) rfl)
theorem wd_fld_M_13 : (.fieldLink "ArrowClassesModel" 13 "ArrowClassesModel" "known" "[Z" : Cond) ∈ vzB := vzB_in7 (List.mem_of_getElem? (i := 18) rfl)
theorem wd_fld_M_16 : (.fieldLink "ArrowClassesModel" 16 "ArrowClassesModel" "tried" "[Z" : Cond) ∈ vzB := vzB_in7 (List.mem_of_getElem? (i := 19) rfl)
theorem wd_fld_M_103 : (.fieldLink "ArrowClassesModel" 103 "ArrowClassesModel" "count" "I" : Cond) ∈ vzB := vzB_in7 (List.mem_of_getElem? (i := 20) rfl)
theorem wd_fld_M_19 : (.fieldLink "ArrowClassesModel" 19 "ArrowClassesModel" "having" "[I" : Cond) ∈ vzB := vzB_in7 (List.mem_of_getElem? (i := 21) rfl)
theorem wd_fld_M_23 : (.fieldLink "ArrowClassesModel" 23 "ArrowClassesModel" "best" "[Z" : Cond) ∈ vzB := vzB_in7 (List.mem_of_getElem? (i := 22) rfl)
theorem wd_fld_M_93 : (.fieldLink "ArrowClassesModel" 93 "ArrowClassesModel" "pairs" "I" : Cond) ∈ vzB := vzB_in7 (List.mem_of_getElem? (i := 23) rfl)
theorem wd_fld_M_26 : (.fieldLink "ArrowClassesModel" 26 "ArrowClassesModel" "low" "[I" : Cond) ∈ vzB := vzB_in7 (List.mem_of_getElem? (i := 24) rfl)
theorem wd_fld_M_29 : (.fieldLink "ArrowClassesModel" 29 "ArrowClassesModel" "high" "[I" : Cond) ∈ vzB := vzB_in7 (List.mem_of_getElem? (i := 25) rfl)
theorem wd_fld_M_32 : (.fieldLink "ArrowClassesModel" 32 "ArrowClassesModel" "path" "[I" : Cond) ∈ vzB := vzB_in7 (List.mem_of_getElem? (i := 26) rfl)
theorem wd_fld_M_35 : (.fieldLink "ArrowClassesModel" 35 "ArrowClassesModel" "next" "[I" : Cond) ∈ vzB := vzB_in7 (List.mem_of_getElem? (i := 27) rfl)
theorem wd_fld_M_38 : (.fieldLink "ArrowClassesModel" 38 "ArrowClassesModel" "reaches" "[I" : Cond) ∈ vzB := vzB_in7 (List.mem_of_getElem? (i := 28) rfl)
theorem wd_lay_M_nodes : (.lays "ArrowClassesModel" "ArrowClassesModel" "nodes" "I" : Cond) ∈ vzB := vzB_in7 (List.mem_of_getElem? (i := 29) rfl)
theorem wd_lay_M_has : (.lays "ArrowClassesModel" "ArrowClassesModel" "has" "[Z" : Cond) ∈ vzB := vzB_in7 (List.mem_of_getElem? (i := 30) rfl)
theorem wd_lay_M_known : (.lays "ArrowClassesModel" "ArrowClassesModel" "known" "[Z" : Cond) ∈ vzB := vzB_in7 (List.mem_of_getElem? (i := 31) rfl)
theorem wd_lay_M_tried : (.lays "ArrowClassesModel" "ArrowClassesModel" "tried" "[Z" : Cond) ∈ vzB := vzB_in7 (List.mem_of_getElem? (i := 32) rfl)
theorem wd_lay_M_count : (.lays "ArrowClassesModel" "ArrowClassesModel" "count" "I" : Cond) ∈ vzB := vzB_in7 (List.mem_of_getElem? (i := 33) rfl)
theorem wd_lay_M_having : (.lays "ArrowClassesModel" "ArrowClassesModel" "having" "[I" : Cond) ∈ vzB := vzB_in7 (List.mem_of_getElem? (i := 34) rfl)
theorem wd_lay_M_best : (.lays "ArrowClassesModel" "ArrowClassesModel" "best" "[Z" : Cond) ∈ vzB := vzB_in7 (List.mem_of_getElem? (i := 35) rfl)
theorem wd_lay_M_pairs : (.lays "ArrowClassesModel" "ArrowClassesModel" "pairs" "I" : Cond) ∈ vzB := vzB_in7 (List.mem_of_getElem? (i := 36) rfl)
theorem wd_lay_M_low : (.lays "ArrowClassesModel" "ArrowClassesModel" "low" "[I" : Cond) ∈ vzB := vzB_in7 (List.mem_of_getElem? (i := 37) rfl)
theorem wd_lay_M_high : (.lays "ArrowClassesModel" "ArrowClassesModel" "high" "[I" : Cond) ∈ vzB := vzB_in7 (List.mem_of_getElem? (i := 38) rfl)
theorem wd_lay_M_path : (.lays "ArrowClassesModel" "ArrowClassesModel" "path" "[I" : Cond) ∈ vzB := vzB_in7 (List.mem_of_getElem? (i := 39) rfl)
theorem wd_lay_M_next : (.lays "ArrowClassesModel" "ArrowClassesModel" "next" "[I" : Cond) ∈ vzB := vzB_in8 (List.mem_of_getElem? (i := 0) rfl)
theorem wd_lay_M_reaches : (.lays "ArrowClassesModel" "ArrowClassesModel" "reaches" "[I" : Cond) ∈ vzB := vzB_in8 (List.mem_of_getElem? (i := 1) rfl)
theorem wd_arr_boolean : (.arrayClass .boolean : Cond) ∈ vzB := vzB_in8 (List.mem_of_getElem? (i := 2) rfl)
theorem wd_link_L_25 : (.methodLink "ArrowClassesLaw" 25 ⟨"ArrowClassesModel", "arrow", "(II)Z"⟩ : Cond) ∈ vzB := vzB_in8 (List.mem_of_getElem? (i := 3) rfl)
theorem wd_inst_M_arrow : (.instanceMethod ⟨"ArrowClassesModel", "arrow", "(II)Z"⟩ : Cond) ∈ vzB := vzB_in8 (List.mem_of_getElem? (i := 4) rfl)
theorem wd_sel_M_arrow : (.selects "ArrowClassesModel" ⟨"ArrowClassesModel", "arrow", "(II)Z"⟩ ⟨"ArrowClassesModel", "arrow", "(II)Z"⟩ : Cond) ∈ vzB := vzB_in8 (List.mem_of_getElem? (i := 5) rfl)
theorem wd_code_M_arrow : (.code ⟨"ArrowClassesModel", "arrow", "(II)Z"⟩ prog_5_method_8_code 3 (some .boolean) : Cond) ∈ vzB := vzB_in8 (List.mem_of_getElem? (i := 6) rfl)
theorem wd_link_M_49 : (.methodLink "ArrowClassesModel" 49 ⟨"ArrowClassesModel", "areNodes", "(II)Z"⟩ : Cond) ∈ vzB := vzB_in8 (List.mem_of_getElem? (i := 7) rfl)
theorem wd_sel_M_areNodes : (.selects "ArrowClassesModel" ⟨"ArrowClassesModel", "areNodes", "(II)Z"⟩ ⟨"ArrowClassesModel", "areNodes", "(II)Z"⟩ : Cond) ∈ vzB := vzB_in8 (List.mem_of_getElem? (i := 8) rfl)
theorem wd_inst_M_areNodes : (.instanceMethod ⟨"ArrowClassesModel", "areNodes", "(II)Z"⟩ : Cond) ∈ vzB := vzB_in8 (List.mem_of_getElem? (i := 9) rfl)
theorem wd_code_M_areNodes : (.code ⟨"ArrowClassesModel", "areNodes", "(II)Z"⟩ prog_5_method_3_code 3 (some .boolean) : Cond) ∈ vzB := vzB_in8 (List.mem_of_getElem? (i := 10) rfl)
theorem wd_link_M_45 : (.methodLink "ArrowClassesModel" 45 ⟨"ArrowClassesModel", "isNode", "(I)Z"⟩ : Cond) ∈ vzB := vzB_in8 (List.mem_of_getElem? (i := 11) rfl)
theorem wd_sel_M_isNode : (.selects "ArrowClassesModel" ⟨"ArrowClassesModel", "isNode", "(I)Z"⟩ ⟨"ArrowClassesModel", "isNode", "(I)Z"⟩ : Cond) ∈ vzB := vzB_in8 (List.mem_of_getElem? (i := 12) rfl)
theorem wd_inst_M_isNode : (.instanceMethod ⟨"ArrowClassesModel", "isNode", "(I)Z"⟩ : Cond) ∈ vzB := vzB_in8 (List.mem_of_getElem? (i := 13) rfl)
theorem wd_code_M_isNode : (.code ⟨"ArrowClassesModel", "isNode", "(I)Z"⟩ prog_5_method_2_code 2 (some .boolean) : Cond) ∈ vzB := vzB_in8 (List.mem_of_getElem? (i := 14) rfl)
theorem wd_link_M_53 : (.methodLink "ArrowClassesModel" 53 ⟨"ArrowClassesModel", "joined", "(II)Z"⟩ : Cond) ∈ vzB := vzB_in8 (List.mem_of_getElem? (i := 15) rfl)
theorem wd_sel_M_joined : (.selects "ArrowClassesModel" ⟨"ArrowClassesModel", "joined", "(II)Z"⟩ ⟨"ArrowClassesModel", "joined", "(II)Z"⟩ : Cond) ∈ vzB := vzB_in8 (List.mem_of_getElem? (i := 16) rfl)
theorem wd_inst_M_joined : (.instanceMethod ⟨"ArrowClassesModel", "joined", "(II)Z"⟩ : Cond) ∈ vzB := vzB_in8 (List.mem_of_getElem? (i := 17) rfl)
theorem wd_code_M_joined : (.code ⟨"ArrowClassesModel", "joined", "(II)Z"⟩ prog_5_method_4_code 3 (some .boolean) : Cond) ∈ vzB := vzB_in8 (List.mem_of_getElem? (i := 18) rfl)
theorem wd_link_M_56 : (.methodLink "ArrowClassesModel" 56 ⟨"ArrowClassesModel", "arrows", "()I"⟩ : Cond) ∈ vzB := vzB_in8 (List.mem_of_getElem? (i := 19) rfl)
theorem wd_sel_M_arrows : (.selects "ArrowClassesModel" ⟨"ArrowClassesModel", "arrows", "()I"⟩ ⟨"ArrowClassesModel", "arrows", "()I"⟩ : Cond) ∈ vzB := vzB_in8 (List.mem_of_getElem? (i := 20) rfl)
theorem wd_inst_M_arrows : (.instanceMethod ⟨"ArrowClassesModel", "arrows", "()I"⟩ : Cond) ∈ vzB := vzB_in8 (List.mem_of_getElem? (i := 21) rfl)
theorem wd_code_M_arrows : (.code ⟨"ArrowClassesModel", "arrows", "()I"⟩ prog_5_method_5_code 3 (some .int) : Cond) ∈ vzB := vzB_in8 (List.mem_of_getElem? (i := 22) rfl)
theorem wd_link_M_60 : (.methodLink "ArrowClassesModel" 60 ⟨"ArrowClassesModel", "reach", "(I)I"⟩ : Cond) ∈ vzB := vzB_in8 (List.mem_of_getElem? (i := 23) rfl)
theorem wd_sel_M_reach : (.selects "ArrowClassesModel" ⟨"ArrowClassesModel", "reach", "(I)I"⟩ ⟨"ArrowClassesModel", "reach", "(I)I"⟩ : Cond) ∈ vzB := vzB_in8 (List.mem_of_getElem? (i := 24) rfl)
theorem wd_inst_M_reach : (.instanceMethod ⟨"ArrowClassesModel", "reach", "(I)I"⟩ : Cond) ∈ vzB := vzB_in8 (List.mem_of_getElem? (i := 25) rfl)
theorem wd_code_M_reach : (.code ⟨"ArrowClassesModel", "reach", "(I)I"⟩ prog_5_method_7_code 6 (some .int) : Cond) ∈ vzB := vzB_in8 (List.mem_of_getElem? (i := 26) rfl)
theorem wd_link_M_64 : (.methodLink "ArrowClassesModel" 64 ⟨"ArrowClassesModel", "forgetAll", "()V"⟩ : Cond) ∈ vzB := vzB_in8 (List.mem_of_getElem? (i := 27) rfl)
theorem wd_sel_M_forgetAll : (.selects "ArrowClassesModel" ⟨"ArrowClassesModel", "forgetAll", "()V"⟩ ⟨"ArrowClassesModel", "forgetAll", "()V"⟩ : Cond) ∈ vzB := vzB_in8 (List.mem_of_getElem? (i := 28) rfl)
theorem wd_inst_M_forgetAll : (.instanceMethod ⟨"ArrowClassesModel", "forgetAll", "()V"⟩ : Cond) ∈ vzB := vzB_in8 (List.mem_of_getElem? (i := 29) rfl)
theorem wd_code_M_forgetAll : (.code ⟨"ArrowClassesModel", "forgetAll", "()V"⟩ prog_5_method_6_code 2 none : Cond) ∈ vzB := vzB_in8 (List.mem_of_getElem? (i := 30) rfl)
theorem wd_link_L_29 : (.methodLink "ArrowClassesLaw" 29 ⟨"ArrowClassesModel", "erase", "(II)Z"⟩ : Cond) ∈ vzB := vzB_in8 (List.mem_of_getElem? (i := 31) rfl)
theorem wd_inst_M_erase : (.instanceMethod ⟨"ArrowClassesModel", "erase", "(II)Z"⟩ : Cond) ∈ vzB := vzB_in8 (List.mem_of_getElem? (i := 32) rfl)
theorem wd_sel_M_erase : (.selects "ArrowClassesModel" ⟨"ArrowClassesModel", "erase", "(II)Z"⟩ ⟨"ArrowClassesModel", "erase", "(II)Z"⟩ : Cond) ∈ vzB := vzB_in8 (List.mem_of_getElem? (i := 33) rfl)
theorem wd_code_M_erase : (.code ⟨"ArrowClassesModel", "erase", "(II)Z"⟩ prog_5_method_9_code 3 (some .boolean) : Cond) ∈ vzB := vzB_in8 (List.mem_of_getElem? (i := 34) rfl)
theorem wd_link_L_33 : (.methodLink "ArrowClassesLaw" 33 ⟨"ArrowClassesModel", "turn", "(II)Z"⟩ : Cond) ∈ vzB := vzB_in8 (List.mem_of_getElem? (i := 35) rfl)
theorem wd_inst_M_turn : (.instanceMethod ⟨"ArrowClassesModel", "turn", "(II)Z"⟩ : Cond) ∈ vzB := vzB_in8 (List.mem_of_getElem? (i := 36) rfl)
theorem wd_sel_M_turn : (.selects "ArrowClassesModel" ⟨"ArrowClassesModel", "turn", "(II)Z"⟩ ⟨"ArrowClassesModel", "turn", "(II)Z"⟩ : Cond) ∈ vzB := vzB_in8 (List.mem_of_getElem? (i := 37) rfl)
theorem wd_code_M_turn : (.code ⟨"ArrowClassesModel", "turn", "(II)Z"⟩ prog_5_method_10_code 3 (some .boolean) : Cond) ∈ vzB := vzB_in8 (List.mem_of_getElem? (i := 38) rfl)
theorem wd_link_L_37 : (.methodLink "ArrowClassesLaw" 37 ⟨"ArrowClassesModel", "drawn", "(II)Z"⟩ : Cond) ∈ vzB := vzB_in8 (List.mem_of_getElem? (i := 39) rfl)
theorem wd_inst_M_drawn : (.instanceMethod ⟨"ArrowClassesModel", "drawn", "(II)Z"⟩ : Cond) ∈ vzB := vzB_in9 (List.mem_of_getElem? (i := 0) rfl)
theorem wd_sel_M_drawn : (.selects "ArrowClassesModel" ⟨"ArrowClassesModel", "drawn", "(II)Z"⟩ ⟨"ArrowClassesModel", "drawn", "(II)Z"⟩ : Cond) ∈ vzB := vzB_in9 (List.mem_of_getElem? (i := 1) rfl)
theorem wd_code_M_drawn : (.code ⟨"ArrowClassesModel", "drawn", "(II)Z"⟩ prog_5_method_11_code 3 (some .boolean) : Cond) ∈ vzB := vzB_in9 (List.mem_of_getElem? (i := 2) rfl)
theorem wd_link_L_42 : (.methodLink "ArrowClassesLaw" 42 ⟨"ArrowClassesModel", "parents", "(I)I"⟩ : Cond) ∈ vzB := vzB_in9 (List.mem_of_getElem? (i := 3) rfl)
theorem wd_inst_M_parents : (.instanceMethod ⟨"ArrowClassesModel", "parents", "(I)I"⟩ : Cond) ∈ vzB := vzB_in9 (List.mem_of_getElem? (i := 4) rfl)
theorem wd_sel_M_parents : (.selects "ArrowClassesModel" ⟨"ArrowClassesModel", "parents", "(I)I"⟩ ⟨"ArrowClassesModel", "parents", "(I)I"⟩ : Cond) ∈ vzB := vzB_in9 (List.mem_of_getElem? (i := 5) rfl)
theorem wd_code_M_parents : (.code ⟨"ArrowClassesModel", "parents", "(I)I"⟩ prog_5_method_12_code 4 (some .int) : Cond) ∈ vzB := vzB_in9 (List.mem_of_getElem? (i := 6) rfl)
theorem wd_link_L_46 : (.methodLink "ArrowClassesLaw" 46 ⟨"ArrowClassesModel", "reached", "(I)I"⟩ : Cond) ∈ vzB := vzB_in9 (List.mem_of_getElem? (i := 7) rfl)
theorem wd_inst_M_reached : (.instanceMethod ⟨"ArrowClassesModel", "reached", "(I)I"⟩ : Cond) ∈ vzB := vzB_in9 (List.mem_of_getElem? (i := 8) rfl)
theorem wd_sel_M_reached : (.selects "ArrowClassesModel" ⟨"ArrowClassesModel", "reached", "(I)I"⟩ ⟨"ArrowClassesModel", "reached", "(I)I"⟩ : Cond) ∈ vzB := vzB_in9 (List.mem_of_getElem? (i := 9) rfl)
theorem wd_code_M_reached : (.code ⟨"ArrowClassesModel", "reached", "(I)I"⟩ prog_5_method_13_code 2 (some .int) : Cond) ∈ vzB := vzB_in9 (List.mem_of_getElem? (i := 10) rfl)
theorem wd_link_L_50 : (.methodLink "ArrowClassesLaw" 50 ⟨"ArrowClassesModel", "around", "(I)I"⟩ : Cond) ∈ vzB := vzB_in9 (List.mem_of_getElem? (i := 11) rfl)
theorem wd_inst_M_around : (.instanceMethod ⟨"ArrowClassesModel", "around", "(I)I"⟩ : Cond) ∈ vzB := vzB_in9 (List.mem_of_getElem? (i := 12) rfl)
theorem wd_sel_M_around : (.selects "ArrowClassesModel" ⟨"ArrowClassesModel", "around", "(I)I"⟩ ⟨"ArrowClassesModel", "around", "(I)I"⟩ : Cond) ∈ vzB := vzB_in9 (List.mem_of_getElem? (i := 13) rfl)
theorem wd_code_M_around : (.code ⟨"ArrowClassesModel", "around", "(I)I"⟩ prog_5_method_14_code 4 (some .int) : Cond) ∈ vzB := vzB_in9 (List.mem_of_getElem? (i := 14) rfl)
theorem wd_link_M_67 : (.methodLink "ArrowClassesModel" 67 ⟨"ArrowClassesModel", "parents", "(I)I"⟩ : Cond) ∈ vzB := vzB_in9 (List.mem_of_getElem? (i := 15) rfl)
theorem wd_link_L_55 : (.methodLink "ArrowClassesLaw" 55 ⟨"ArrowClassesModel", "collisions", "()I"⟩ : Cond) ∈ vzB := vzB_in9 (List.mem_of_getElem? (i := 16) rfl)
theorem wd_inst_M_collisions : (.instanceMethod ⟨"ArrowClassesModel", "collisions", "()I"⟩ : Cond) ∈ vzB := vzB_in9 (List.mem_of_getElem? (i := 17) rfl)
theorem wd_sel_M_collisions : (.selects "ArrowClassesModel" ⟨"ArrowClassesModel", "collisions", "()I"⟩ ⟨"ArrowClassesModel", "collisions", "()I"⟩ : Cond) ∈ vzB := vzB_in9 (List.mem_of_getElem? (i := 18) rfl)
theorem wd_code_M_collisions : (.code ⟨"ArrowClassesModel", "collisions", "()I"⟩ prog_5_method_16_code 5 (some .int) : Cond) ∈ vzB := vzB_in9 (List.mem_of_getElem? (i := 19) rfl)
theorem wd_link_M_70 : (.methodLink "ArrowClassesModel" 70 ⟨"ArrowClassesModel", "collides", "([ZIII)Z"⟩ : Cond) ∈ vzB := vzB_in9 (List.mem_of_getElem? (i := 20) rfl)
theorem wd_stat_M_collides : (.static ⟨"ArrowClassesModel", "collides", "([ZIII)Z"⟩ : Cond) ∈ vzB := vzB_in9 (List.mem_of_getElem? (i := 21) rfl)
theorem wd_code_M_collides : (.code ⟨"ArrowClassesModel", "collides", "([ZIII)Z"⟩ prog_5_method_15_code 4 (some .boolean) : Cond) ∈ vzB := vzB_in9 (List.mem_of_getElem? (i := 22) rfl)
theorem wd_link_L_59 : (.methodLink "ArrowClassesLaw" 59 ⟨"ArrowClassesModel", "covered", "(II)Z"⟩ : Cond) ∈ vzB := vzB_in9 (List.mem_of_getElem? (i := 23) rfl)
theorem wd_inst_M_covered : (.instanceMethod ⟨"ArrowClassesModel", "covered", "(II)Z"⟩ : Cond) ∈ vzB := vzB_in9 (List.mem_of_getElem? (i := 24) rfl)
theorem wd_sel_M_covered : (.selects "ArrowClassesModel" ⟨"ArrowClassesModel", "covered", "(II)Z"⟩ ⟨"ArrowClassesModel", "covered", "(II)Z"⟩ : Cond) ∈ vzB := vzB_in9 (List.mem_of_getElem? (i := 25) rfl)
theorem wd_code_M_covered : (.code ⟨"ArrowClassesModel", "covered", "(II)Z"⟩ prog_5_method_17_code 3 (some .boolean) : Cond) ∈ vzB := vzB_in9 (List.mem_of_getElem? (i := 26) rfl)
theorem wd_link_M_74 : (.methodLink "ArrowClassesModel" 74 ⟨"ArrowClassesModel", "drawn", "(II)Z"⟩ : Cond) ∈ vzB := vzB_in9 (List.mem_of_getElem? (i := 27) rfl)
theorem wd_link_L_64 : (.methodLink "ArrowClassesLaw" 64 ⟨"ArrowClassesModel", "separated", "(III)Z"⟩ : Cond) ∈ vzB := vzB_in9 (List.mem_of_getElem? (i := 28) rfl)
theorem wd_inst_M_separated : (.instanceMethod ⟨"ArrowClassesModel", "separated", "(III)Z"⟩ : Cond) ∈ vzB := vzB_in9 (List.mem_of_getElem? (i := 29) rfl)
theorem wd_sel_M_separated : (.selects "ArrowClassesModel" ⟨"ArrowClassesModel", "separated", "(III)Z"⟩ ⟨"ArrowClassesModel", "separated", "(III)Z"⟩ : Cond) ∈ vzB := vzB_in9 (List.mem_of_getElem? (i := 30) rfl)
theorem wd_code_M_separated : (.code ⟨"ArrowClassesModel", "separated", "(III)Z"⟩ prog_5_method_21_code 4 (some .boolean) : Cond) ∈ vzB := vzB_in9 (List.mem_of_getElem? (i := 31) rfl)
theorem wd_link_M_83 : (.methodLink "ArrowClassesModel" 83 ⟨"ArrowClassesModel", "allBlocked", "(III)Z"⟩ : Cond) ∈ vzB := vzB_in9 (List.mem_of_getElem? (i := 32) rfl)
theorem wd_sel_M_allBlocked : (.selects "ArrowClassesModel" ⟨"ArrowClassesModel", "allBlocked", "(III)Z"⟩ ⟨"ArrowClassesModel", "allBlocked", "(III)Z"⟩ : Cond) ∈ vzB := vzB_in9 (List.mem_of_getElem? (i := 33) rfl)
theorem wd_inst_M_allBlocked : (.instanceMethod ⟨"ArrowClassesModel", "allBlocked", "(III)Z"⟩ : Cond) ∈ vzB := vzB_in9 (List.mem_of_getElem? (i := 34) rfl)
theorem wd_code_M_allBlocked : (.code ⟨"ArrowClassesModel", "allBlocked", "(III)Z"⟩ prog_5_method_20_code 7 (some .boolean) : Cond) ∈ vzB := vzB_in9 (List.mem_of_getElem? (i := 35) rfl)
theorem wd_link_M_77 : (.methodLink "ArrowClassesModel" 77 ⟨"ArrowClassesModel", "blocked", "(II)Z"⟩ : Cond) ∈ vzB := vzB_in9 (List.mem_of_getElem? (i := 36) rfl)
theorem wd_sel_M_blocked : (.selects "ArrowClassesModel" ⟨"ArrowClassesModel", "blocked", "(II)Z"⟩ ⟨"ArrowClassesModel", "blocked", "(II)Z"⟩ : Cond) ∈ vzB := vzB_in9 (List.mem_of_getElem? (i := 37) rfl)
theorem wd_inst_M_blocked : (.instanceMethod ⟨"ArrowClassesModel", "blocked", "(II)Z"⟩ : Cond) ∈ vzB := vzB_in9 (List.mem_of_getElem? (i := 38) rfl)
theorem wd_code_M_blocked : (.code ⟨"ArrowClassesModel", "blocked", "(II)Z"⟩ prog_5_method_18_code 6 (some .boolean) : Cond) ∈ vzB := vzB_in9 (List.mem_of_getElem? (i := 39) rfl)
theorem wd_link_M_80 : (.methodLink "ArrowClassesModel" 80 ⟨"ArrowClassesModel", "onPath", "(II)Z"⟩ : Cond) ∈ vzB := vzB_in10 (List.mem_of_getElem? (i := 0) rfl)
theorem wd_sel_M_onPath : (.selects "ArrowClassesModel" ⟨"ArrowClassesModel", "onPath", "(II)Z"⟩ ⟨"ArrowClassesModel", "onPath", "(II)Z"⟩ : Cond) ∈ vzB := vzB_in10 (List.mem_of_getElem? (i := 1) rfl)
theorem wd_inst_M_onPath : (.instanceMethod ⟨"ArrowClassesModel", "onPath", "(II)Z"⟩ : Cond) ∈ vzB := vzB_in10 (List.mem_of_getElem? (i := 2) rfl)
theorem wd_code_M_onPath : (.code ⟨"ArrowClassesModel", "onPath", "(II)Z"⟩ prog_5_method_19_code 5 (some .boolean) : Cond) ∈ vzB := vzB_in10 (List.mem_of_getElem? (i := 3) rfl)
theorem wd_link_L_69 : (.methodLink "ArrowClassesLaw" 69 ⟨"ArrowClassesModel", "separator", "(II)I"⟩ : Cond) ∈ vzB := vzB_in10 (List.mem_of_getElem? (i := 4) rfl)
theorem wd_inst_M_separator : (.instanceMethod ⟨"ArrowClassesModel", "separator", "(II)I"⟩ : Cond) ∈ vzB := vzB_in10 (List.mem_of_getElem? (i := 5) rfl)
theorem wd_sel_M_separator : (.selects "ArrowClassesModel" ⟨"ArrowClassesModel", "separator", "(II)I"⟩ ⟨"ArrowClassesModel", "separator", "(II)I"⟩ : Cond) ∈ vzB := vzB_in10 (List.mem_of_getElem? (i := 6) rfl)
theorem wd_code_M_separator : (.code ⟨"ArrowClassesModel", "separator", "(II)I"⟩ prog_5_method_23_code 5 (some .int) : Cond) ∈ vzB := vzB_in10 (List.mem_of_getElem? (i := 7) rfl)
theorem wd_link_M_87 : (.methodLink "ArrowClassesModel" 87 ⟨"ArrowClassesModel", "size", "(I)I"⟩ : Cond) ∈ vzB := vzB_in10 (List.mem_of_getElem? (i := 8) rfl)
theorem wd_stat_M_size : (.static ⟨"ArrowClassesModel", "size", "(I)I"⟩ : Cond) ∈ vzB := vzB_in10 (List.mem_of_getElem? (i := 9) rfl)
theorem wd_code_M_size : (.code ⟨"ArrowClassesModel", "size", "(I)I"⟩ prog_5_method_22_code 3 (some .int) : Cond) ∈ vzB := vzB_in10 (List.mem_of_getElem? (i := 10) rfl)
theorem wd_link_M_90 : (.methodLink "ArrowClassesModel" 90 ⟨"ArrowClassesModel", "separated", "(III)Z"⟩ : Cond) ∈ vzB := vzB_in10 (List.mem_of_getElem? (i := 11) rfl)
theorem wd_link_L_73 : (.methodLink "ArrowClassesLaw" 73 ⟨"ArrowClassesModel", "separations", "()I"⟩ : Cond) ∈ vzB := vzB_in10 (List.mem_of_getElem? (i := 12) rfl)
theorem wd_inst_M_separations : (.instanceMethod ⟨"ArrowClassesModel", "separations", "()I"⟩ : Cond) ∈ vzB := vzB_in10 (List.mem_of_getElem? (i := 13) rfl)
theorem wd_sel_M_separations : (.selects "ArrowClassesModel" ⟨"ArrowClassesModel", "separations", "()I"⟩ ⟨"ArrowClassesModel", "separations", "()I"⟩ : Cond) ∈ vzB := vzB_in10 (List.mem_of_getElem? (i := 14) rfl)
theorem wd_code_M_separations : (.code ⟨"ArrowClassesModel", "separations", "()I"⟩ prog_5_method_24_code 5 (some .int) : Cond) ∈ vzB := vzB_in10 (List.mem_of_getElem? (i := 15) rfl)
theorem wd_link_L_77 : (.methodLink "ArrowClassesLaw" 77 ⟨"ArrowClassesModel", "edge", "(II)I"⟩ : Cond) ∈ vzB := vzB_in10 (List.mem_of_getElem? (i := 16) rfl)
theorem wd_inst_M_edge : (.instanceMethod ⟨"ArrowClassesModel", "edge", "(II)I"⟩ : Cond) ∈ vzB := vzB_in10 (List.mem_of_getElem? (i := 17) rfl)
theorem wd_sel_M_edge : (.selects "ArrowClassesModel" ⟨"ArrowClassesModel", "edge", "(II)I"⟩ ⟨"ArrowClassesModel", "edge", "(II)I"⟩ : Cond) ∈ vzB := vzB_in10 (List.mem_of_getElem? (i := 18) rfl)
theorem wd_code_M_edge : (.code ⟨"ArrowClassesModel", "edge", "(II)I"⟩ prog_5_method_30_code 3 (some .int) : Cond) ∈ vzB := vzB_in10 (List.mem_of_getElem? (i := 19) rfl)
theorem wd_link_M_113 : (.methodLink "ArrowClassesModel" 113 ⟨"ArrowClassesModel", "goThrough", "()V"⟩ : Cond) ∈ vzB := vzB_in10 (List.mem_of_getElem? (i := 20) rfl)
theorem wd_sel_M_goThrough : (.selects "ArrowClassesModel" ⟨"ArrowClassesModel", "goThrough", "()V"⟩ ⟨"ArrowClassesModel", "goThrough", "()V"⟩ : Cond) ∈ vzB := vzB_in10 (List.mem_of_getElem? (i := 21) rfl)
theorem wd_inst_M_goThrough : (.instanceMethod ⟨"ArrowClassesModel", "goThrough", "()V"⟩ : Cond) ∈ vzB := vzB_in10 (List.mem_of_getElem? (i := 22) rfl)
theorem wd_code_M_goThrough : (.code ⟨"ArrowClassesModel", "goThrough", "()V"⟩ prog_5_method_29_code 3 none : Cond) ∈ vzB := vzB_in10 (List.mem_of_getElem? (i := 23) rfl)
theorem wd_link_M_100 : (.methodLink "ArrowClassesModel" 100 ⟨"ArrowClassesModel", "findPairs", "()V"⟩ : Cond) ∈ vzB := vzB_in10 (List.mem_of_getElem? (i := 24) rfl)
theorem wd_sel_M_findPairs : (.selects "ArrowClassesModel" ⟨"ArrowClassesModel", "findPairs", "()V"⟩ ⟨"ArrowClassesModel", "findPairs", "()V"⟩ : Cond) ∈ vzB := vzB_in10 (List.mem_of_getElem? (i := 25) rfl)
theorem wd_inst_M_findPairs : (.instanceMethod ⟨"ArrowClassesModel", "findPairs", "()V"⟩ : Cond) ∈ vzB := vzB_in10 (List.mem_of_getElem? (i := 26) rfl)
theorem wd_code_M_findPairs : (.code ⟨"ArrowClassesModel", "findPairs", "()V"⟩ prog_5_method_25_code 3 none : Cond) ∈ vzB := vzB_in10 (List.mem_of_getElem? (i := 27) rfl)
theorem wd_link_M_106 : (.methodLink "ArrowClassesModel" 106 ⟨"ArrowClassesModel", "direct", "(I)V"⟩ : Cond) ∈ vzB := vzB_in10 (List.mem_of_getElem? (i := 28) rfl)
theorem wd_sel_M_direct : (.selects "ArrowClassesModel" ⟨"ArrowClassesModel", "direct", "(I)V"⟩ ⟨"ArrowClassesModel", "direct", "(I)V"⟩ : Cond) ∈ vzB := vzB_in10 (List.mem_of_getElem? (i := 29) rfl)
theorem wd_inst_M_direct : (.instanceMethod ⟨"ArrowClassesModel", "direct", "(I)V"⟩ : Cond) ∈ vzB := vzB_in10 (List.mem_of_getElem? (i := 30) rfl)
theorem wd_code_M_direct : (.code ⟨"ArrowClassesModel", "direct", "(I)V"⟩ prog_5_method_26_code 6 none : Cond) ∈ vzB := vzB_in10 (List.mem_of_getElem? (i := 31) rfl)
theorem wd_link_M_110 : (.methodLink "ArrowClassesModel" 110 ⟨"ArrowClassesModel", "isMember", "()Z"⟩ : Cond) ∈ vzB := vzB_in10 (List.mem_of_getElem? (i := 32) rfl)
theorem wd_sel_M_isMember : (.selects "ArrowClassesModel" ⟨"ArrowClassesModel", "isMember", "()Z"⟩ ⟨"ArrowClassesModel", "isMember", "()Z"⟩ : Cond) ∈ vzB := vzB_in10 (List.mem_of_getElem? (i := 33) rfl)
theorem wd_inst_M_isMember : (.instanceMethod ⟨"ArrowClassesModel", "isMember", "()Z"⟩ : Cond) ∈ vzB := vzB_in10 (List.mem_of_getElem? (i := 34) rfl)
theorem wd_code_M_isMember : (.code ⟨"ArrowClassesModel", "isMember", "()Z"⟩ prog_5_method_28_code 4 (some .boolean) : Cond) ∈ vzB := vzB_in10 (List.mem_of_getElem? (i := 35) rfl)
theorem wd_link_M_96 : (.methodLink "ArrowClassesModel" 96 ⟨"ArrowClassesModel", "hasRing", "()Z"⟩ : Cond) ∈ vzB := vzB_in10 (List.mem_of_getElem? (i := 36) rfl)
theorem wd_sel_M_hasRing : (.selects "ArrowClassesModel" ⟨"ArrowClassesModel", "hasRing", "()Z"⟩ ⟨"ArrowClassesModel", "hasRing", "()Z"⟩ : Cond) ∈ vzB := vzB_in10 (List.mem_of_getElem? (i := 37) rfl)
theorem wd_inst_M_hasRing : (.instanceMethod ⟨"ArrowClassesModel", "hasRing", "()Z"⟩ : Cond) ∈ vzB := vzB_in10 (List.mem_of_getElem? (i := 38) rfl)
theorem wd_code_M_hasRing : (.code ⟨"ArrowClassesModel", "hasRing", "()Z"⟩ prog_5_method_27_code 6 (some .boolean) : Cond) ∈ vzB := vzB_in10 (List.mem_of_getElem? (i := 39) rfl)
theorem wd_link_L_81 : (.methodLink "ArrowClassesLaw" 81 ⟨"ArrowClassesModel", "loose", "()I"⟩ : Cond) ∈ vzB := vzB_in11 (List.mem_of_getElem? (i := 0) rfl)
theorem wd_inst_M_loose : (.instanceMethod ⟨"ArrowClassesModel", "loose", "()I"⟩ : Cond) ∈ vzB := vzB_in11 (List.mem_of_getElem? (i := 1) rfl)
theorem wd_sel_M_loose : (.selects "ArrowClassesModel" ⟨"ArrowClassesModel", "loose", "()I"⟩ ⟨"ArrowClassesModel", "loose", "()I"⟩ : Cond) ∈ vzB := vzB_in11 (List.mem_of_getElem? (i := 2) rfl)
theorem wd_code_M_loose : (.code ⟨"ArrowClassesModel", "loose", "()I"⟩ prog_5_method_31_code 4 (some .int) : Cond) ∈ vzB := vzB_in11 (List.mem_of_getElem? (i := 3) rfl)
theorem wd_link_L_85 : (.methodLink "ArrowClassesLaw" 85 ⟨"ArrowClassesModel", "know", "(II)Z"⟩ : Cond) ∈ vzB := vzB_in11 (List.mem_of_getElem? (i := 4) rfl)
theorem wd_inst_M_know : (.instanceMethod ⟨"ArrowClassesModel", "know", "(II)Z"⟩ : Cond) ∈ vzB := vzB_in11 (List.mem_of_getElem? (i := 5) rfl)
theorem wd_sel_M_know : (.selects "ArrowClassesModel" ⟨"ArrowClassesModel", "know", "(II)Z"⟩ ⟨"ArrowClassesModel", "know", "(II)Z"⟩ : Cond) ∈ vzB := vzB_in11 (List.mem_of_getElem? (i := 6) rfl)
theorem wd_code_M_know : (.code ⟨"ArrowClassesModel", "know", "(II)Z"⟩ prog_5_method_32_code 3 (some .boolean) : Cond) ∈ vzB := vzB_in11 (List.mem_of_getElem? (i := 7) rfl)
theorem wd_link_L_89 : (.methodLink "ArrowClassesLaw" 89 ⟨"ArrowClassesModel", "forget", "()I"⟩ : Cond) ∈ vzB := vzB_in11 (List.mem_of_getElem? (i := 8) rfl)
theorem wd_inst_M_forget : (.instanceMethod ⟨"ArrowClassesModel", "forget", "()I"⟩ : Cond) ∈ vzB := vzB_in11 (List.mem_of_getElem? (i := 9) rfl)
theorem wd_sel_M_forget : (.selects "ArrowClassesModel" ⟨"ArrowClassesModel", "forget", "()I"⟩ ⟨"ArrowClassesModel", "forget", "()I"⟩ : Cond) ∈ vzB := vzB_in11 (List.mem_of_getElem? (i := 10) rfl)
theorem wd_code_M_forget : (.code ⟨"ArrowClassesModel", "forget", "()I"⟩ prog_5_method_33_code 3 (some .int) : Cond) ∈ vzB := vzB_in11 (List.mem_of_getElem? (i := 11) rfl)
theorem wd_link_L_93 : (.methodLink "ArrowClassesLaw" 93 ⟨"ArrowClassesModel", "members", "()I"⟩ : Cond) ∈ vzB := vzB_in11 (List.mem_of_getElem? (i := 12) rfl)
theorem wd_inst_M_members : (.instanceMethod ⟨"ArrowClassesModel", "members", "()I"⟩ : Cond) ∈ vzB := vzB_in11 (List.mem_of_getElem? (i := 13) rfl)
theorem wd_sel_M_members : (.selects "ArrowClassesModel" ⟨"ArrowClassesModel", "members", "()I"⟩ ⟨"ArrowClassesModel", "members", "()I"⟩ : Cond) ∈ vzB := vzB_in11 (List.mem_of_getElem? (i := 14) rfl)
theorem wd_code_M_members : (.code ⟨"ArrowClassesModel", "members", "()I"⟩ prog_5_method_34_code 1 (some .int) : Cond) ∈ vzB := vzB_in11 (List.mem_of_getElem? (i := 15) rfl)
theorem wd_link_L_97 : (.methodLink "ArrowClassesLaw" 97 ⟨"ArrowClassesModel", "first", "(II)Z"⟩ : Cond) ∈ vzB := vzB_in11 (List.mem_of_getElem? (i := 16) rfl)
theorem wd_inst_M_first : (.instanceMethod ⟨"ArrowClassesModel", "first", "(II)Z"⟩ : Cond) ∈ vzB := vzB_in11 (List.mem_of_getElem? (i := 17) rfl)
theorem wd_sel_M_first : (.selects "ArrowClassesModel" ⟨"ArrowClassesModel", "first", "(II)Z"⟩ ⟨"ArrowClassesModel", "first", "(II)Z"⟩ : Cond) ∈ vzB := vzB_in11 (List.mem_of_getElem? (i := 18) rfl)
theorem wd_code_M_first : (.code ⟨"ArrowClassesModel", "first", "(II)Z"⟩ prog_5_method_35_code 3 (some .boolean) : Cond) ∈ vzB := vzB_in11 (List.mem_of_getElem? (i := 19) rfl)
theorem wd_link_L_101 : (.methodLink "ArrowClassesLaw" 101 ⟨"ArrowClassesModel", "turned", "()I"⟩ : Cond) ∈ vzB := vzB_in11 (List.mem_of_getElem? (i := 20) rfl)
theorem wd_inst_M_turned : (.instanceMethod ⟨"ArrowClassesModel", "turned", "()I"⟩ : Cond) ∈ vzB := vzB_in11 (List.mem_of_getElem? (i := 21) rfl)
theorem wd_sel_M_turned : (.selects "ArrowClassesModel" ⟨"ArrowClassesModel", "turned", "()I"⟩ ⟨"ArrowClassesModel", "turned", "()I"⟩ : Cond) ∈ vzB := vzB_in11 (List.mem_of_getElem? (i := 22) rfl)
theorem wd_code_M_turned : (.code ⟨"ArrowClassesModel", "turned", "()I"⟩ prog_5_method_36_code 4 (some .int) : Cond) ∈ vzB := vzB_in11 (List.mem_of_getElem? (i := 23) rfl)
theorem gd_0 : vzB_0.all goodWord = true := by decide +kernel
theorem gd_1 : vzB_1.all goodWord = true := by decide +kernel
theorem gd_2 : vzB_2.all goodWord = true := by decide +kernel
theorem gd_3 : vzB_3.all goodWord = true := by decide +kernel
theorem gd_4 : vzB_4.all goodWord = true := by decide +kernel
theorem gd_5 : vzB_5.all goodWord = true := by decide +kernel
theorem gd_6 : vzB_6.all goodWord = true := by decide +kernel
theorem gd_7 : vzB_7.all goodWord = true := by decide +kernel
theorem gd_8 : vzB_8.all goodWord = true := by decide +kernel
theorem gd_9 : vzB_9.all goodWord = true := by decide +kernel
theorem gd_10 : vzB_10.all goodWord = true := by decide +kernel
theorem gd_11 : vzB_11.all goodWord = true := by decide +kernel
theorem gd_B : GoodIn vzB vzB := goodIn_app2 (goodIn_sub2 vzB_in0 gd_0) (goodIn_app2 (goodIn_sub2 vzB_in1 gd_1) (goodIn_app2 (goodIn_sub2 vzB_in2 gd_2) (goodIn_app2 (goodIn_sub2 vzB_in3 gd_3) (goodIn_app2 (goodIn_sub2 vzB_in4 gd_4) (goodIn_app2 (goodIn_sub2 vzB_in5 gd_5) (goodIn_app2 (goodIn_sub2 vzB_in6 gd_6) (goodIn_app2 (goodIn_sub2 vzB_in7 gd_7) (goodIn_app2 (goodIn_sub2 vzB_in8 gd_8) (goodIn_app2 (goodIn_sub2 vzB_in9 gd_9) (goodIn_app2 (goodIn_sub2 vzB_in10 gd_10) (goodIn_sub2 vzB_in11 gd_11)))))))))))
theorem inG : ∀ w ∈ u_ws "ArrowClasses$Graph" TG 3, w ∈ vzB := List.forall_mem_cons.mpr ⟨wd_lay_G_nodes, List.forall_mem_cons.mpr ⟨wd_lay_G_parents, List.forall_mem_cons.mpr ⟨wd_lay_G_children, fun _ h => absurd h List.not_mem_nil⟩⟩⟩
theorem inK : ∀ w ∈ u_ws "ArrowClasses$Kindred" TK 14, w ∈ vzB := List.forall_mem_cons.mpr ⟨wd_lay_K_drawn, List.forall_mem_cons.mpr ⟨wd_lay_K_tried, List.forall_mem_cons.mpr ⟨wd_lay_K_lows, List.forall_mem_cons.mpr ⟨wd_lay_K_highs, List.forall_mem_cons.mpr ⟨wd_lay_K_pairs, List.forall_mem_cons.mpr ⟨wd_lay_K_drawnCode, List.forall_mem_cons.mpr ⟨wd_lay_K_collidingBits, List.forall_mem_cons.mpr ⟨wd_lay_K_knownBits, List.forall_mem_cons.mpr ⟨wd_lay_K_knownCode, List.forall_mem_cons.mpr ⟨wd_lay_K_gathered, List.forall_mem_cons.mpr ⟨wd_lay_K_count, List.forall_mem_cons.mpr ⟨wd_lay_K_firstCode, List.forall_mem_cons.mpr ⟨wd_lay_K_someFalling, List.forall_mem_cons.mpr ⟨wd_lay_K_allFalling, fun _ h => absurd h List.not_mem_nil⟩⟩⟩⟩⟩⟩⟩⟩⟩⟩⟩⟩⟩⟩
theorem inA : ∀ w ∈ u_ws "ArrowClasses" TA 4, w ∈ vzB := List.forall_mem_cons.mpr ⟨wd_lay_A_nodes, List.forall_mem_cons.mpr ⟨wd_lay_A_kindred, List.forall_mem_cons.mpr ⟨wd_lay_A_graph, List.forall_mem_cons.mpr ⟨wd_lay_A_separationCount, fun _ h => absurd h List.not_mem_nil⟩⟩⟩⟩
theorem inM : ∀ w ∈ u_ws "ArrowClassesModel" TM 13, w ∈ vzB := List.forall_mem_cons.mpr ⟨wd_lay_M_nodes, List.forall_mem_cons.mpr ⟨wd_lay_M_has, List.forall_mem_cons.mpr ⟨wd_lay_M_known, List.forall_mem_cons.mpr ⟨wd_lay_M_tried, List.forall_mem_cons.mpr ⟨wd_lay_M_count, List.forall_mem_cons.mpr ⟨wd_lay_M_having, List.forall_mem_cons.mpr ⟨wd_lay_M_best, List.forall_mem_cons.mpr ⟨wd_lay_M_pairs, List.forall_mem_cons.mpr ⟨wd_lay_M_low, List.forall_mem_cons.mpr ⟨wd_lay_M_high, List.forall_mem_cons.mpr ⟨wd_lay_M_path, List.forall_mem_cons.mpr ⟨wd_lay_M_next, List.forall_mem_cons.mpr ⟨wd_lay_M_reaches, fun _ h => absurd h List.not_mem_nil⟩⟩⟩⟩⟩⟩⟩⟩⟩⟩⟩⟩⟩
abbrev b_A_init : ByteArray := prog_1_method_1_code
abbrev y_A_init : MethodName := ⟨"ArrowClasses", "<init>", "(I)V"⟩
abbrev w_A_init : List Cond := .code y_A_init b_A_init 2 none :: vzB
abbrev b_K_init : ByteArray := prog_3_method_1_code
abbrev y_K_init : MethodName := ⟨"ArrowClasses$Kindred", "<init>", "(I)V"⟩
abbrev w_K_init : List Cond := .code y_K_init b_K_init 2 none :: vzB
abbrev b_G_init : ByteArray := prog_2_method_1_code
abbrev y_G_init : MethodName := ⟨"ArrowClasses$Graph", "<init>", "(I)V"⟩
abbrev w_G_init : List Cond := .code y_G_init b_G_init 2 none :: vzB
abbrev b_A_arrow : ByteArray := prog_1_method_2_code
abbrev y_A_arrow : MethodName := ⟨"ArrowClasses", "arrow", "(II)Z"⟩
abbrev w_A_arrow : List Cond := .code y_A_arrow b_A_arrow 3 (some .boolean) :: vzB
abbrev b_A_isPair : ByteArray := prog_1_method_22_code
abbrev y_A_isPair : MethodName := ⟨"ArrowClasses", "isPair", "(II)Z"⟩
abbrev w_A_isPair : List Cond := .code y_A_isPair b_A_isPair 3 (some .boolean) :: vzB
abbrev b_A_isNode : ByteArray := prog_1_method_21_code
abbrev y_A_isNode : MethodName := ⟨"ArrowClasses", "isNode", "(I)Z"⟩
abbrev w_A_isNode : List Cond := .code y_A_isNode b_A_isNode 2 (some .boolean) :: vzB
abbrev b_G_joins : ByteArray := prog_2_method_3_code
abbrev y_G_joins : MethodName := ⟨"ArrowClasses$Graph", "joins", "(II)Z"⟩
abbrev w_G_joins : List Cond := .code y_G_joins b_G_joins 3 (some .boolean) :: vzB
abbrev b_G_has : ByteArray := prog_2_method_2_code
abbrev y_G_has : MethodName := ⟨"ArrowClasses$Graph", "has", "(II)Z"⟩
abbrev w_G_has : List Cond := .code y_G_has b_G_has 3 (some .boolean) :: vzB
abbrev b_A_holds : ByteArray := prog_1_method_25_code
abbrev y_A_holds : MethodName := ⟨"ArrowClasses", "holds", "(II)Z"⟩
abbrev w_A_holds : List Cond := .code y_A_holds b_A_holds 2 (some .boolean) :: vzB
abbrev b_G_size : ByteArray := prog_2_method_7_code
abbrev y_G_size : MethodName := ⟨"ArrowClasses$Graph", "size", "()I"⟩
abbrev w_G_size : List Cond := .code y_G_size b_G_size 3 (some .int) :: vzB
abbrev b_J_bitCount : ByteArray := prog_6_method_49_code
abbrev y_J_bitCount : MethodName := ⟨"java/lang/Integer", "bitCount", "(I)I"⟩
abbrev w_J_bitCount : List Cond := .code y_J_bitCount b_J_bitCount 1 (some .int) :: vzB
abbrev b_G_reachOf : ByteArray := prog_2_method_8_code
abbrev y_G_reachOf : MethodName := ⟨"ArrowClasses$Graph", "reachOf", "(I)I"⟩
abbrev w_G_reachOf : List Cond := .code y_G_reachOf b_G_reachOf 5 (some .int) :: vzB
abbrev b_G_put : ByteArray := prog_2_method_4_code
abbrev y_G_put : MethodName := ⟨"ArrowClasses$Graph", "put", "(II)V"⟩
abbrev w_G_put : List Cond := .code y_G_put b_G_put 3 none :: vzB
abbrev b_A_noteChange : ByteArray := prog_1_method_23_code
abbrev y_A_noteChange : MethodName := ⟨"ArrowClasses", "noteChange", "()V"⟩
abbrev w_A_noteChange : List Cond := .code y_A_noteChange b_A_noteChange 1 none :: vzB
abbrev b_K_restart : ByteArray := prog_3_method_2_code
abbrev y_K_restart : MethodName := ⟨"ArrowClasses$Kindred", "restart", "()V"⟩
abbrev w_K_restart : List Cond := .code y_K_restart b_K_restart 3 none :: vzB
abbrev b_K_listPair : ByteArray := prog_3_method_3_code
abbrev y_K_listPair : MethodName := ⟨"ArrowClasses$Kindred", "listPair", "(II)V"⟩
abbrev w_K_listPair : List Cond := .code y_K_listPair b_K_listPair 4 none :: vzB
abbrev b_G_strangers : ByteArray := prog_2_method_10_code
abbrev y_G_strangers : MethodName := ⟨"ArrowClasses$Graph", "strangers", "(II)I"⟩
abbrev w_G_strangers : List Cond := .code y_G_strangers b_G_strangers 3 (some .int) :: vzB
abbrev b_A_erase : ByteArray := prog_1_method_3_code
abbrev y_A_erase : MethodName := ⟨"ArrowClasses", "erase", "(II)Z"⟩
abbrev w_A_erase : List Cond := .code y_A_erase b_A_erase 3 (some .boolean) :: vzB
abbrev b_G_take : ByteArray := prog_2_method_5_code
abbrev y_G_take : MethodName := ⟨"ArrowClasses$Graph", "take", "(II)V"⟩
abbrev w_G_take : List Cond := .code y_G_take b_G_take 3 none :: vzB
abbrev b_A_turn : ByteArray := prog_1_method_4_code
abbrev y_A_turn : MethodName := ⟨"ArrowClasses", "turn", "(II)Z"⟩
abbrev w_A_turn : List Cond := .code y_A_turn b_A_turn 3 (some .boolean) :: vzB
abbrev b_A_drawn : ByteArray := prog_1_method_5_code
abbrev y_A_drawn : MethodName := ⟨"ArrowClasses", "drawn", "(II)Z"⟩
abbrev w_A_drawn : List Cond := .code y_A_drawn b_A_drawn 3 (some .boolean) :: vzB
abbrev b_A_parents : ByteArray := prog_1_method_6_code
abbrev y_A_parents : MethodName := ⟨"ArrowClasses", "parents", "(I)I"⟩
abbrev w_A_parents : List Cond := .code y_A_parents b_A_parents 2 (some .int) :: vzB
abbrev b_A_reached : ByteArray := prog_1_method_7_code
abbrev y_A_reached : MethodName := ⟨"ArrowClasses", "reached", "(I)I"⟩
abbrev w_A_reached : List Cond := .code y_A_reached b_A_reached 2 (some .int) :: vzB
abbrev b_A_around : ByteArray := prog_1_method_8_code
abbrev y_A_around : MethodName := ⟨"ArrowClasses", "around", "(I)I"⟩
abbrev w_A_around : List Cond := .code y_A_around b_A_around 4 (some .int) :: vzB
abbrev b_A_collisions : ByteArray := prog_1_method_9_code
abbrev y_A_collisions : MethodName := ⟨"ArrowClasses", "collisions", "()I"⟩
abbrev w_A_collisions : List Cond := .code y_A_collisions b_A_collisions 4 (some .int) :: vzB
abbrev b_A_covered : ByteArray := prog_1_method_10_code
abbrev y_A_covered : MethodName := ⟨"ArrowClasses", "covered", "(II)Z"⟩
abbrev w_A_covered : List Cond := .code y_A_covered b_A_covered 3 (some .boolean) :: vzB
abbrev b_A_separated : ByteArray := prog_1_method_11_code
abbrev y_A_separated : MethodName := ⟨"ArrowClasses", "separated", "(III)Z"⟩
abbrev w_A_separated : List Cond := .code y_A_separated b_A_separated 4 (some .boolean) :: vzB
abbrev b_G_openFrom : ByteArray := prog_2_method_12_code
abbrev y_G_openFrom : MethodName := ⟨"ArrowClasses$Graph", "openFrom", "(II)I"⟩
abbrev w_G_openFrom : List Cond := .code y_G_openFrom b_G_openFrom 11 (some .int) :: vzB
abbrev b_A_separator : ByteArray := prog_1_method_12_code
abbrev y_A_separator : MethodName := ⟨"ArrowClasses", "separator", "(II)I"⟩
abbrev w_A_separator : List Cond := .code y_A_separator b_A_separator 7 (some .int) :: vzB
abbrev b_A_separations : ByteArray := prog_1_method_13_code
abbrev y_A_separations : MethodName := ⟨"ArrowClasses", "separations", "()I"⟩
abbrev w_A_separations : List Cond := .code y_A_separations b_A_separations 3 (some .int) :: vzB
abbrev b_A_separationsBy : ByteArray := prog_1_method_24_code
abbrev y_A_separationsBy : MethodName := ⟨"ArrowClasses", "separationsBy", "(I)I"⟩
abbrev w_A_separationsBy : List Cond := .code y_A_separationsBy b_A_separationsBy 5 (some .int) :: vzB
abbrev b_A_edge : ByteArray := prog_1_method_14_code
abbrev y_A_edge : MethodName := ⟨"ArrowClasses", "edge", "(II)I"⟩
abbrev w_A_edge : List Cond := .code y_A_edge b_A_edge 3 (some .int) :: vzB
abbrev b_K_someHas : ByteArray := prog_3_method_5_code
abbrev y_K_someHas : MethodName := ⟨"ArrowClasses$Kindred", "someHas", "(II)Z"⟩
abbrev w_K_someHas : List Cond := .code y_K_someHas b_K_someHas 4 (some .boolean) :: vzB
abbrev b_K_gather : ByteArray := prog_3_method_13_code
abbrev y_K_gather : MethodName := ⟨"ArrowClasses$Kindred", "gather", "()V"⟩
abbrev w_K_gather : List Cond := .code y_K_gather b_K_gather 2 none :: vzB
abbrev b_K_isMember : ByteArray := prog_3_method_14_code
abbrev y_K_isMember : MethodName := ⟨"ArrowClasses$Kindred", "isMember", "(I)Z"⟩
abbrev w_K_isMember : List Cond := .code y_K_isMember b_K_isMember 3 (some .boolean) :: vzB
abbrev b_G_empty : ByteArray := prog_2_method_6_code
abbrev y_G_empty : MethodName := ⟨"ArrowClasses$Graph", "empty", "()V"⟩
abbrev w_G_empty : List Cond := .code y_G_empty b_G_empty 2 none :: vzB
abbrev b_K_bitAt : ByteArray := prog_3_method_12_code
abbrev y_K_bitAt : MethodName := ⟨"ArrowClasses$Kindred", "bitAt", "(I)I"⟩
abbrev w_K_bitAt : List Cond := .code y_K_bitAt b_K_bitAt 2 (some .int) :: vzB
abbrev b_G_collidesLike : ByteArray := prog_2_method_11_code
abbrev y_G_collidesLike : MethodName := ⟨"ArrowClasses$Graph", "collidesLike", "(LArrowClasses$Graph;)Z"⟩
abbrev w_G_collidesLike : List Cond := .code y_G_collidesLike b_G_collidesLike 4 (some .boolean) :: vzB
abbrev b_G_hasRing : ByteArray := prog_2_method_9_code
abbrev y_G_hasRing : MethodName := ⟨"ArrowClasses$Graph", "hasRing", "()Z"⟩
abbrev w_G_hasRing : List Cond := .code y_G_hasRing b_G_hasRing 4 (some .boolean) :: vzB
abbrev b_K_bitOf : ByteArray := prog_3_method_11_code
abbrev y_K_bitOf : MethodName := ⟨"ArrowClasses$Kindred", "bitOf", "(II)I"⟩
abbrev w_K_bitOf : List Cond := .code y_K_bitOf b_K_bitOf 4 (some .int) :: vzB
abbrev b_A_loose : ByteArray := prog_1_method_15_code
abbrev y_A_loose : MethodName := ⟨"ArrowClasses", "loose", "()I"⟩
abbrev w_A_loose : List Cond := .code y_A_loose b_A_loose 1 (some .int) :: vzB
abbrev b_K_loosePairs : ByteArray := prog_3_method_7_code
abbrev y_K_loosePairs : MethodName := ⟨"ArrowClasses$Kindred", "loosePairs", "()I"⟩
abbrev w_K_loosePairs : List Cond := .code y_K_loosePairs b_K_loosePairs 1 (some .int) :: vzB
abbrev b_A_know : ByteArray := prog_1_method_16_code
abbrev y_A_know : MethodName := ⟨"ArrowClasses", "know", "(II)Z"⟩
abbrev w_A_know : List Cond := .code y_A_know b_A_know 3 (some .boolean) :: vzB
abbrev b_K_fix : ByteArray := prog_3_method_9_code
abbrev y_K_fix : MethodName := ⟨"ArrowClasses$Kindred", "fix", "(II)V"⟩
abbrev w_K_fix : List Cond := .code y_K_fix b_K_fix 4 none :: vzB
abbrev b_A_forget : ByteArray := prog_1_method_17_code
abbrev y_A_forget : MethodName := ⟨"ArrowClasses", "forget", "()I"⟩
abbrev w_A_forget : List Cond := .code y_A_forget b_A_forget 1 (some .int) :: vzB
abbrev b_K_unfix : ByteArray := prog_3_method_10_code
abbrev y_K_unfix : MethodName := ⟨"ArrowClasses$Kindred", "unfix", "()I"⟩
abbrev w_K_unfix : List Cond := .code y_K_unfix b_K_unfix 2 (some .int) :: vzB
abbrev b_A_members : ByteArray := prog_1_method_18_code
abbrev y_A_members : MethodName := ⟨"ArrowClasses", "members", "()I"⟩
abbrev w_A_members : List Cond := .code y_A_members b_A_members 1 (some .int) :: vzB
abbrev b_K_size : ByteArray := prog_3_method_4_code
abbrev y_K_size : MethodName := ⟨"ArrowClasses$Kindred", "size", "()I"⟩
abbrev w_K_size : List Cond := .code y_K_size b_K_size 1 (some .int) :: vzB
abbrev b_A_first : ByteArray := prog_1_method_19_code
abbrev y_A_first : MethodName := ⟨"ArrowClasses", "first", "(II)Z"⟩
abbrev w_A_first : List Cond := .code y_A_first b_A_first 3 (some .boolean) :: vzB
abbrev b_K_firstHas : ByteArray := prog_3_method_6_code
abbrev y_K_firstHas : MethodName := ⟨"ArrowClasses$Kindred", "firstHas", "(II)Z"⟩
abbrev w_K_firstHas : List Cond := .code y_K_firstHas b_K_firstHas 4 (some .boolean) :: vzB
abbrev b_A_turned : ByteArray := prog_1_method_20_code
abbrev y_A_turned : MethodName := ⟨"ArrowClasses", "turned", "()I"⟩
abbrev w_A_turned : List Cond := .code y_A_turned b_A_turned 1 (some .int) :: vzB
abbrev b_K_turnedInFirst : ByteArray := prog_3_method_8_code
abbrev y_K_turnedInFirst : MethodName := ⟨"ArrowClasses$Kindred", "turnedInFirst", "()I"⟩
abbrev w_K_turnedInFirst : List Cond := .code y_K_turnedInFirst b_K_turnedInFirst 1 (some .int) :: vzB
abbrev b_L_cell : ByteArray := method_2_code
abbrev y_L_cell : MethodName := ⟨"ArrowClassesLaw", "cell", "([II)I"⟩
abbrev w_L_cell : List Cond := .code y_L_cell b_L_cell 2 (some .int) :: vzB
abbrev b_M_init : ByteArray := prog_5_method_1_code
abbrev y_M_init : MethodName := ⟨"ArrowClassesModel", "<init>", "(I)V"⟩
abbrev w_M_init : List Cond := .code y_M_init b_M_init 2 none :: vzB
abbrev b_M_arrow : ByteArray := prog_5_method_8_code
abbrev y_M_arrow : MethodName := ⟨"ArrowClassesModel", "arrow", "(II)Z"⟩
abbrev w_M_arrow : List Cond := .code y_M_arrow b_M_arrow 3 (some .boolean) :: vzB
abbrev b_M_areNodes : ByteArray := prog_5_method_3_code
abbrev y_M_areNodes : MethodName := ⟨"ArrowClassesModel", "areNodes", "(II)Z"⟩
abbrev w_M_areNodes : List Cond := .code y_M_areNodes b_M_areNodes 3 (some .boolean) :: vzB
abbrev b_M_isNode : ByteArray := prog_5_method_2_code
abbrev y_M_isNode : MethodName := ⟨"ArrowClassesModel", "isNode", "(I)Z"⟩
abbrev w_M_isNode : List Cond := .code y_M_isNode b_M_isNode 2 (some .boolean) :: vzB
abbrev b_M_joined : ByteArray := prog_5_method_4_code
abbrev y_M_joined : MethodName := ⟨"ArrowClassesModel", "joined", "(II)Z"⟩
abbrev w_M_joined : List Cond := .code y_M_joined b_M_joined 3 (some .boolean) :: vzB
abbrev b_M_arrows : ByteArray := prog_5_method_5_code
abbrev y_M_arrows : MethodName := ⟨"ArrowClassesModel", "arrows", "()I"⟩
abbrev w_M_arrows : List Cond := .code y_M_arrows b_M_arrows 3 (some .int) :: vzB
abbrev b_M_reach : ByteArray := prog_5_method_7_code
abbrev y_M_reach : MethodName := ⟨"ArrowClassesModel", "reach", "(I)I"⟩
abbrev w_M_reach : List Cond := .code y_M_reach b_M_reach 6 (some .int) :: vzB
abbrev b_M_forgetAll : ByteArray := prog_5_method_6_code
abbrev y_M_forgetAll : MethodName := ⟨"ArrowClassesModel", "forgetAll", "()V"⟩
abbrev w_M_forgetAll : List Cond := .code y_M_forgetAll b_M_forgetAll 2 none :: vzB
abbrev b_M_erase : ByteArray := prog_5_method_9_code
abbrev y_M_erase : MethodName := ⟨"ArrowClassesModel", "erase", "(II)Z"⟩
abbrev w_M_erase : List Cond := .code y_M_erase b_M_erase 3 (some .boolean) :: vzB
abbrev b_M_turn : ByteArray := prog_5_method_10_code
abbrev y_M_turn : MethodName := ⟨"ArrowClassesModel", "turn", "(II)Z"⟩
abbrev w_M_turn : List Cond := .code y_M_turn b_M_turn 3 (some .boolean) :: vzB
abbrev b_M_drawn : ByteArray := prog_5_method_11_code
abbrev y_M_drawn : MethodName := ⟨"ArrowClassesModel", "drawn", "(II)Z"⟩
abbrev w_M_drawn : List Cond := .code y_M_drawn b_M_drawn 3 (some .boolean) :: vzB
abbrev b_M_parents : ByteArray := prog_5_method_12_code
abbrev y_M_parents : MethodName := ⟨"ArrowClassesModel", "parents", "(I)I"⟩
abbrev w_M_parents : List Cond := .code y_M_parents b_M_parents 4 (some .int) :: vzB
abbrev b_M_reached : ByteArray := prog_5_method_13_code
abbrev y_M_reached : MethodName := ⟨"ArrowClassesModel", "reached", "(I)I"⟩
abbrev w_M_reached : List Cond := .code y_M_reached b_M_reached 2 (some .int) :: vzB
abbrev b_M_around : ByteArray := prog_5_method_14_code
abbrev y_M_around : MethodName := ⟨"ArrowClassesModel", "around", "(I)I"⟩
abbrev w_M_around : List Cond := .code y_M_around b_M_around 4 (some .int) :: vzB
abbrev b_M_collisions : ByteArray := prog_5_method_16_code
abbrev y_M_collisions : MethodName := ⟨"ArrowClassesModel", "collisions", "()I"⟩
abbrev w_M_collisions : List Cond := .code y_M_collisions b_M_collisions 5 (some .int) :: vzB
abbrev b_M_collides : ByteArray := prog_5_method_15_code
abbrev y_M_collides : MethodName := ⟨"ArrowClassesModel", "collides", "([ZIII)Z"⟩
abbrev w_M_collides : List Cond := .code y_M_collides b_M_collides 4 (some .boolean) :: vzB
abbrev b_M_covered : ByteArray := prog_5_method_17_code
abbrev y_M_covered : MethodName := ⟨"ArrowClassesModel", "covered", "(II)Z"⟩
abbrev w_M_covered : List Cond := .code y_M_covered b_M_covered 3 (some .boolean) :: vzB
abbrev b_M_separated : ByteArray := prog_5_method_21_code
abbrev y_M_separated : MethodName := ⟨"ArrowClassesModel", "separated", "(III)Z"⟩
abbrev w_M_separated : List Cond := .code y_M_separated b_M_separated 4 (some .boolean) :: vzB
abbrev b_M_allBlocked : ByteArray := prog_5_method_20_code
abbrev y_M_allBlocked : MethodName := ⟨"ArrowClassesModel", "allBlocked", "(III)Z"⟩
abbrev w_M_allBlocked : List Cond := .code y_M_allBlocked b_M_allBlocked 7 (some .boolean) :: vzB
abbrev b_M_blocked : ByteArray := prog_5_method_18_code
abbrev y_M_blocked : MethodName := ⟨"ArrowClassesModel", "blocked", "(II)Z"⟩
abbrev w_M_blocked : List Cond := .code y_M_blocked b_M_blocked 6 (some .boolean) :: vzB
abbrev b_M_onPath : ByteArray := prog_5_method_19_code
abbrev y_M_onPath : MethodName := ⟨"ArrowClassesModel", "onPath", "(II)Z"⟩
abbrev w_M_onPath : List Cond := .code y_M_onPath b_M_onPath 5 (some .boolean) :: vzB
abbrev b_M_separator : ByteArray := prog_5_method_23_code
abbrev y_M_separator : MethodName := ⟨"ArrowClassesModel", "separator", "(II)I"⟩
abbrev w_M_separator : List Cond := .code y_M_separator b_M_separator 5 (some .int) :: vzB
abbrev b_M_size : ByteArray := prog_5_method_22_code
abbrev y_M_size : MethodName := ⟨"ArrowClassesModel", "size", "(I)I"⟩
abbrev w_M_size : List Cond := .code y_M_size b_M_size 3 (some .int) :: vzB
abbrev b_M_separations : ByteArray := prog_5_method_24_code
abbrev y_M_separations : MethodName := ⟨"ArrowClassesModel", "separations", "()I"⟩
abbrev w_M_separations : List Cond := .code y_M_separations b_M_separations 5 (some .int) :: vzB
abbrev b_M_edge : ByteArray := prog_5_method_30_code
abbrev y_M_edge : MethodName := ⟨"ArrowClassesModel", "edge", "(II)I"⟩
abbrev w_M_edge : List Cond := .code y_M_edge b_M_edge 3 (some .int) :: vzB
abbrev b_M_goThrough : ByteArray := prog_5_method_29_code
abbrev y_M_goThrough : MethodName := ⟨"ArrowClassesModel", "goThrough", "()V"⟩
abbrev w_M_goThrough : List Cond := .code y_M_goThrough b_M_goThrough 3 none :: vzB
abbrev b_M_findPairs : ByteArray := prog_5_method_25_code
abbrev y_M_findPairs : MethodName := ⟨"ArrowClassesModel", "findPairs", "()V"⟩
abbrev w_M_findPairs : List Cond := .code y_M_findPairs b_M_findPairs 3 none :: vzB
abbrev b_M_direct : ByteArray := prog_5_method_26_code
abbrev y_M_direct : MethodName := ⟨"ArrowClassesModel", "direct", "(I)V"⟩
abbrev w_M_direct : List Cond := .code y_M_direct b_M_direct 6 none :: vzB
abbrev b_M_isMember : ByteArray := prog_5_method_28_code
abbrev y_M_isMember : MethodName := ⟨"ArrowClassesModel", "isMember", "()Z"⟩
abbrev w_M_isMember : List Cond := .code y_M_isMember b_M_isMember 4 (some .boolean) :: vzB
abbrev b_M_hasRing : ByteArray := prog_5_method_27_code
abbrev y_M_hasRing : MethodName := ⟨"ArrowClassesModel", "hasRing", "()Z"⟩
abbrev w_M_hasRing : List Cond := .code y_M_hasRing b_M_hasRing 6 (some .boolean) :: vzB
abbrev b_M_loose : ByteArray := prog_5_method_31_code
abbrev y_M_loose : MethodName := ⟨"ArrowClassesModel", "loose", "()I"⟩
abbrev w_M_loose : List Cond := .code y_M_loose b_M_loose 4 (some .int) :: vzB
abbrev b_M_know : ByteArray := prog_5_method_32_code
abbrev y_M_know : MethodName := ⟨"ArrowClassesModel", "know", "(II)Z"⟩
abbrev w_M_know : List Cond := .code y_M_know b_M_know 3 (some .boolean) :: vzB
abbrev b_M_forget : ByteArray := prog_5_method_33_code
abbrev y_M_forget : MethodName := ⟨"ArrowClassesModel", "forget", "()I"⟩
abbrev w_M_forget : List Cond := .code y_M_forget b_M_forget 3 (some .int) :: vzB
abbrev b_M_members : ByteArray := prog_5_method_34_code
abbrev y_M_members : MethodName := ⟨"ArrowClassesModel", "members", "()I"⟩
abbrev w_M_members : List Cond := .code y_M_members b_M_members 1 (some .int) :: vzB
abbrev b_M_first : ByteArray := prog_5_method_35_code
abbrev y_M_first : MethodName := ⟨"ArrowClassesModel", "first", "(II)Z"⟩
abbrev w_M_first : List Cond := .code y_M_first b_M_first 3 (some .boolean) :: vzB
abbrev b_M_turned : ByteArray := prog_5_method_36_code
abbrev y_M_turned : MethodName := ⟨"ArrowClassesModel", "turned", "()I"⟩
abbrev w_M_turned : List Cond := .code y_M_turned b_M_turned 4 (some .int) :: vzB
