section
-- ===== PART A: goes FIRST, ahead of the names: the tables' words, and 'selects' of the private methods out of them =====
/-- a private method of a class that the tables say can be made, by its rows of tables_1 -/
def lw_okq (q : MethodName × Nat) : Prop := (q.1.cls ≠ "java/lang/invoke/MethodHandle" ∧ q.1.cls ≠ "java/lang/invoke/VarHandle") ∧ Cond.instantiable q.1.cls q.2 ∈ tables_1 ∧ Cond.privateMethod q.1 ∈ tables_1 ∧ Cond.instanceMethod q.1 ∈ tables_1
theorem lw_p0 : lw_okq (⟨"ArrowClasses", "isPair", "(II)Z"⟩, 4) := ⟨⟨by decide +kernel, by decide +kernel⟩, List.mem_of_getElem? (i := 8) (by decide +kernel), List.mem_of_getElem? (i := 103) (by decide +kernel), List.mem_of_getElem? (i := 104) (by decide +kernel)⟩
theorem lw_p1 : lw_okq (⟨"ArrowClasses", "isNode", "(I)Z"⟩, 4) := ⟨⟨by decide +kernel, by decide +kernel⟩, List.mem_of_getElem? (i := 8) (by decide +kernel), List.mem_of_getElem? (i := 107) (by decide +kernel), List.mem_of_getElem? (i := 108) (by decide +kernel)⟩
theorem lw_p2 : lw_okq (⟨"ArrowClasses", "noteChange", "()V"⟩, 4) := ⟨⟨by decide +kernel, by decide +kernel⟩, List.mem_of_getElem? (i := 8) (by decide +kernel), List.mem_of_getElem? (i := 141) (by decide +kernel), List.mem_of_getElem? (i := 142) (by decide +kernel)⟩
theorem lw_p3 : lw_okq (⟨"ArrowClasses$Kindred", "listPair", "(II)V"⟩, 14) := ⟨⟨by decide +kernel, by decide +kernel⟩, List.mem_of_getElem? (i := 16) (by decide +kernel), List.mem_of_getElem? (i := 150) (by decide +kernel), List.mem_of_getElem? (i := 151) (by decide +kernel)⟩
theorem lw_p4 : lw_okq (⟨"ArrowClasses", "separationsBy", "(I)I"⟩, 4) := ⟨⟨by decide +kernel, by decide +kernel⟩, List.mem_of_getElem? (i := 8) (by decide +kernel), List.mem_of_getElem? (i := 216) (by decide +kernel), List.mem_of_getElem? (i := 217) (by decide +kernel)⟩
theorem lw_p5 : lw_okq (⟨"ArrowClasses$Kindred", "gather", "()V"⟩, 14) := ⟨⟨by decide +kernel, by decide +kernel⟩, List.mem_of_getElem? (i := 16) (by decide +kernel), List.mem_of_getElem? (i := 228) (by decide +kernel), List.mem_of_getElem? (i := 229) (by decide +kernel)⟩
theorem lw_p6 : lw_okq (⟨"ArrowClasses$Kindred", "isMember", "(I)Z"⟩, 14) := ⟨⟨by decide +kernel, by decide +kernel⟩, List.mem_of_getElem? (i := 16) (by decide +kernel), List.mem_of_getElem? (i := 232) (by decide +kernel), List.mem_of_getElem? (i := 233) (by decide +kernel)⟩
theorem lw_p7 : lw_okq (⟨"ArrowClasses$Kindred", "bitAt", "(I)I"⟩, 14) := ⟨⟨by decide +kernel, by decide +kernel⟩, List.mem_of_getElem? (i := 16) (by decide +kernel), List.mem_of_getElem? (i := 240) (by decide +kernel), List.mem_of_getElem? (i := 241) (by decide +kernel)⟩
theorem lw_p8 : lw_okq (⟨"ArrowClasses$Kindred", "bitOf", "(II)I"⟩, 14) := ⟨⟨by decide +kernel, by decide +kernel⟩, List.mem_of_getElem? (i := 16) (by decide +kernel), List.mem_of_getElem? (i := 254) (by decide +kernel), List.mem_of_getElem? (i := 255) (by decide +kernel)⟩
theorem lw_p9 : lw_okq (⟨"ArrowClassesModel", "areNodes", "(II)Z"⟩, 13) := ⟨⟨by decide +kernel, by decide +kernel⟩, List.mem_of_getElem? (i := 316) (by decide +kernel), List.mem_of_getElem? (i := 367) (by decide +kernel), List.mem_of_getElem? (i := 368) (by decide +kernel)⟩
theorem lw_p10 : lw_okq (⟨"ArrowClassesModel", "isNode", "(I)Z"⟩, 13) := ⟨⟨by decide +kernel, by decide +kernel⟩, List.mem_of_getElem? (i := 316) (by decide +kernel), List.mem_of_getElem? (i := 371) (by decide +kernel), List.mem_of_getElem? (i := 372) (by decide +kernel)⟩
theorem lw_p11 : lw_okq (⟨"ArrowClassesModel", "joined", "(II)Z"⟩, 13) := ⟨⟨by decide +kernel, by decide +kernel⟩, List.mem_of_getElem? (i := 316) (by decide +kernel), List.mem_of_getElem? (i := 375) (by decide +kernel), List.mem_of_getElem? (i := 376) (by decide +kernel)⟩
theorem lw_p12 : lw_okq (⟨"ArrowClassesModel", "arrows", "()I"⟩, 13) := ⟨⟨by decide +kernel, by decide +kernel⟩, List.mem_of_getElem? (i := 316) (by decide +kernel), List.mem_of_getElem? (i := 379) (by decide +kernel), List.mem_of_getElem? (i := 380) (by decide +kernel)⟩
theorem lw_p13 : lw_okq (⟨"ArrowClassesModel", "reach", "(I)I"⟩, 13) := ⟨⟨by decide +kernel, by decide +kernel⟩, List.mem_of_getElem? (i := 316) (by decide +kernel), List.mem_of_getElem? (i := 383) (by decide +kernel), List.mem_of_getElem? (i := 384) (by decide +kernel)⟩
theorem lw_p14 : lw_okq (⟨"ArrowClassesModel", "forgetAll", "()V"⟩, 13) := ⟨⟨by decide +kernel, by decide +kernel⟩, List.mem_of_getElem? (i := 316) (by decide +kernel), List.mem_of_getElem? (i := 387) (by decide +kernel), List.mem_of_getElem? (i := 388) (by decide +kernel)⟩
theorem lw_p15 : lw_okq (⟨"ArrowClassesModel", "allBlocked", "(III)Z"⟩, 13) := ⟨⟨by decide +kernel, by decide +kernel⟩, List.mem_of_getElem? (i := 316) (by decide +kernel), List.mem_of_getElem? (i := 432) (by decide +kernel), List.mem_of_getElem? (i := 433) (by decide +kernel)⟩
def lw_privs_1 : List (MethodName × Nat) := [(⟨"ArrowClasses", "isPair", "(II)Z"⟩, 4), (⟨"ArrowClasses", "isNode", "(I)Z"⟩, 4), (⟨"ArrowClasses", "noteChange", "()V"⟩, 4), (⟨"ArrowClasses$Kindred", "listPair", "(II)V"⟩, 14), (⟨"ArrowClasses", "separationsBy", "(I)I"⟩, 4), (⟨"ArrowClasses$Kindred", "gather", "()V"⟩, 14), (⟨"ArrowClasses$Kindred", "isMember", "(I)Z"⟩, 14), (⟨"ArrowClasses$Kindred", "bitAt", "(I)I"⟩, 14), (⟨"ArrowClasses$Kindred", "bitOf", "(II)I"⟩, 14), (⟨"ArrowClassesModel", "areNodes", "(II)Z"⟩, 13), (⟨"ArrowClassesModel", "isNode", "(I)Z"⟩, 13), (⟨"ArrowClassesModel", "joined", "(II)Z"⟩, 13), (⟨"ArrowClassesModel", "arrows", "()I"⟩, 13), (⟨"ArrowClassesModel", "reach", "(I)I"⟩, 13), (⟨"ArrowClassesModel", "forgetAll", "()V"⟩, 13), (⟨"ArrowClassesModel", "allBlocked", "(III)Z"⟩, 13)]
theorem lw_r1 : ∀ q ∈ lw_privs_1, lw_okq q := List.forall_mem_cons.mpr ⟨lw_p0, List.forall_mem_cons.mpr ⟨lw_p1, List.forall_mem_cons.mpr ⟨lw_p2, List.forall_mem_cons.mpr ⟨lw_p3, List.forall_mem_cons.mpr ⟨lw_p4, List.forall_mem_cons.mpr ⟨lw_p5, List.forall_mem_cons.mpr ⟨lw_p6, List.forall_mem_cons.mpr ⟨lw_p7, List.forall_mem_cons.mpr ⟨lw_p8, List.forall_mem_cons.mpr ⟨lw_p9, List.forall_mem_cons.mpr ⟨lw_p10, List.forall_mem_cons.mpr ⟨lw_p11, List.forall_mem_cons.mpr ⟨lw_p12, List.forall_mem_cons.mpr ⟨lw_p13, List.forall_mem_cons.mpr ⟨lw_p14, List.forall_mem_cons.mpr ⟨lw_p15, fun _ h => absurd h List.not_mem_nil⟩⟩⟩⟩⟩⟩⟩⟩⟩⟩⟩⟩⟩⟩⟩⟩
theorem lw_p16 : lw_okq (⟨"ArrowClassesModel", "blocked", "(II)Z"⟩, 13) := ⟨⟨by decide +kernel, by decide +kernel⟩, List.mem_of_getElem? (i := 316) (by decide +kernel), List.mem_of_getElem? (i := 436) (by decide +kernel), List.mem_of_getElem? (i := 437) (by decide +kernel)⟩
theorem lw_p17 : lw_okq (⟨"ArrowClassesModel", "onPath", "(II)Z"⟩, 13) := ⟨⟨by decide +kernel, by decide +kernel⟩, List.mem_of_getElem? (i := 316) (by decide +kernel), List.mem_of_getElem? (i := 440) (by decide +kernel), List.mem_of_getElem? (i := 441) (by decide +kernel)⟩
theorem lw_p18 : lw_okq (⟨"ArrowClassesModel", "goThrough", "()V"⟩, 13) := ⟨⟨by decide +kernel, by decide +kernel⟩, List.mem_of_getElem? (i := 316) (by decide +kernel), List.mem_of_getElem? (i := 460) (by decide +kernel), List.mem_of_getElem? (i := 461) (by decide +kernel)⟩
theorem lw_p19 : lw_okq (⟨"ArrowClassesModel", "findPairs", "()V"⟩, 13) := ⟨⟨by decide +kernel, by decide +kernel⟩, List.mem_of_getElem? (i := 316) (by decide +kernel), List.mem_of_getElem? (i := 464) (by decide +kernel), List.mem_of_getElem? (i := 465) (by decide +kernel)⟩
theorem lw_p20 : lw_okq (⟨"ArrowClassesModel", "direct", "(I)V"⟩, 13) := ⟨⟨by decide +kernel, by decide +kernel⟩, List.mem_of_getElem? (i := 316) (by decide +kernel), List.mem_of_getElem? (i := 468) (by decide +kernel), List.mem_of_getElem? (i := 469) (by decide +kernel)⟩
theorem lw_p21 : lw_okq (⟨"ArrowClassesModel", "isMember", "()Z"⟩, 13) := ⟨⟨by decide +kernel, by decide +kernel⟩, List.mem_of_getElem? (i := 316) (by decide +kernel), List.mem_of_getElem? (i := 472) (by decide +kernel), List.mem_of_getElem? (i := 473) (by decide +kernel)⟩
theorem lw_p22 : lw_okq (⟨"ArrowClassesModel", "hasRing", "()Z"⟩, 13) := ⟨⟨by decide +kernel, by decide +kernel⟩, List.mem_of_getElem? (i := 316) (by decide +kernel), List.mem_of_getElem? (i := 476) (by decide +kernel), List.mem_of_getElem? (i := 477) (by decide +kernel)⟩
def lw_privs_2 : List (MethodName × Nat) := [(⟨"ArrowClassesModel", "blocked", "(II)Z"⟩, 13), (⟨"ArrowClassesModel", "onPath", "(II)Z"⟩, 13), (⟨"ArrowClassesModel", "goThrough", "()V"⟩, 13), (⟨"ArrowClassesModel", "findPairs", "()V"⟩, 13), (⟨"ArrowClassesModel", "direct", "(I)V"⟩, 13), (⟨"ArrowClassesModel", "isMember", "()Z"⟩, 13), (⟨"ArrowClassesModel", "hasRing", "()Z"⟩, 13)]
theorem lw_r2 : ∀ q ∈ lw_privs_2, lw_okq q := List.forall_mem_cons.mpr ⟨lw_p16, List.forall_mem_cons.mpr ⟨lw_p17, List.forall_mem_cons.mpr ⟨lw_p18, List.forall_mem_cons.mpr ⟨lw_p19, List.forall_mem_cons.mpr ⟨lw_p20, List.forall_mem_cons.mpr ⟨lw_p21, List.forall_mem_cons.mpr ⟨lw_p22, fun _ h => absurd h List.not_mem_nil⟩⟩⟩⟩⟩⟩⟩
def lw_privs : List (MethodName × Nat) := lw_privs_1 ++ (lw_privs_2)
def lw_tbl : List Cond := k2_sels lw_privs ++ tables_1
theorem lw_privs_ok : ∀ q ∈ lw_privs, lw_okq q := by
  show ∀ q ∈ lw_privs_1 ++ (lw_privs_2), lw_okq q
  exact List.forall_mem_append.mpr ⟨lw_r1, lw_r2⟩
end
section
/-! names: classes, fields, methods; by program out of the Statement and javap -/
theorem goodIn_sub2 {big ws : List Cond} (hm : ∀ {w : Cond}, w ∈ ws → w ∈ big) (h : ws.all goodWord = true) : GoodIn big ws := fun w hw => ⟨hm hw, good_of_word (List.all_eq_true.mp h w hw)⟩
theorem goodIn_app2 {big a b : List Cond} (ha : GoodIn big a) (hb : GoodIn big b) : GoodIn big (a ++ b) := fun w h => (List.mem_append.mp h).elim (ha w) (hb w)
theorem goodIn_c {big ws : List Cond} {w : Cond} (h : w ∈ big) (hg : goodWord w = true) (hw : GoodIn big ws) : GoodIn big (w :: ws) := fun v hv => by
  rcases List.mem_cons.mp hv with e | e
  · rw [e]; exact ⟨h, good_of_word hg⟩
  · exact hw v e
def TG : u_T := fun k => match k with
  | 0 => ("ArrowClasses$Graph", "nodes", "I", true)
  | 1 => ("ArrowClasses$Graph", "parents", "[I", true)
  | _ => ("ArrowClasses$Graph", "children", "[I", true)
def tyG : Nat → FieldType := fun k => match k with
  | 0 => .int
  | 1 => .array .int
  | _ => .array .int
theorem nmG : ∀ a, a < 3 → ∀ b, b < 3 → a ≠ b → (TG a).2.1 ≠ (TG b).2.1 := by decide +kernel
theorem okG : ∀ k, k < 3 → parseFieldDescriptor (TG k).2.2.1 = some (tyG k) := by decide +kernel
def TK : u_T := fun k => match k with
  | 0 => ("ArrowClasses$Kindred", "drawn", "LArrowClasses$Graph;", true)
  | 1 => ("ArrowClasses$Kindred", "tried", "LArrowClasses$Graph;", true)
  | 2 => ("ArrowClasses$Kindred", "lows", "[I", true)
  | 3 => ("ArrowClasses$Kindred", "highs", "[I", true)
  | 4 => ("ArrowClasses$Kindred", "pairs", "I", false)
  | 5 => ("ArrowClasses$Kindred", "drawnCode", "I", false)
  | 6 => ("ArrowClasses$Kindred", "collidingBits", "I", false)
  | 7 => ("ArrowClasses$Kindred", "knownBits", "I", false)
  | 8 => ("ArrowClasses$Kindred", "knownCode", "I", false)
  | 9 => ("ArrowClasses$Kindred", "gathered", "Z", false)
  | 10 => ("ArrowClasses$Kindred", "count", "I", false)
  | 11 => ("ArrowClasses$Kindred", "firstCode", "I", false)
  | 12 => ("ArrowClasses$Kindred", "someFalling", "I", false)
  | _ => ("ArrowClasses$Kindred", "allFalling", "I", false)
def tyK : Nat → FieldType := fun k => match k with
  | 0 => .object "ArrowClasses$Graph"
  | 1 => .object "ArrowClasses$Graph"
  | 2 => .array .int
  | 3 => .array .int
  | 4 => .int
  | 5 => .int
  | 6 => .int
  | 7 => .int
  | 8 => .int
  | 9 => .boolean
  | 10 => .int
  | 11 => .int
  | 12 => .int
  | _ => .int
theorem nmK : ∀ a, a < 14 → ∀ b, b < 14 → a ≠ b → (TK a).2.1 ≠ (TK b).2.1 := by decide +kernel
theorem okK : ∀ k, k < 14 → parseFieldDescriptor (TK k).2.2.1 = some (tyK k) := by decide +kernel
def TA : u_T := fun k => match k with
  | 0 => ("ArrowClasses", "nodes", "I", true)
  | 1 => ("ArrowClasses", "kindred", "LArrowClasses$Kindred;", true)
  | 2 => ("ArrowClasses", "graph", "LArrowClasses$Graph;", true)
  | _ => ("ArrowClasses", "separationCount", "I", false)
def tyA : Nat → FieldType := fun k => match k with
  | 0 => .int
  | 1 => .object "ArrowClasses$Kindred"
  | 2 => .object "ArrowClasses$Graph"
  | _ => .int
theorem nmA : ∀ a, a < 4 → ∀ b, b < 4 → a ≠ b → (TA a).2.1 ≠ (TA b).2.1 := by decide +kernel
theorem okA : ∀ k, k < 4 → parseFieldDescriptor (TA k).2.2.1 = some (tyA k) := by decide +kernel
def TM : u_T := fun k => match k with
  | 0 => ("ArrowClassesModel", "nodes", "I", false)
  | 1 => ("ArrowClassesModel", "has", "[Z", false)
  | 2 => ("ArrowClassesModel", "known", "[Z", false)
  | 3 => ("ArrowClassesModel", "tried", "[Z", false)
  | 4 => ("ArrowClassesModel", "count", "I", false)
  | 5 => ("ArrowClassesModel", "having", "[I", false)
  | 6 => ("ArrowClassesModel", "best", "[Z", false)
  | 7 => ("ArrowClassesModel", "pairs", "I", false)
  | 8 => ("ArrowClassesModel", "low", "[I", false)
  | 9 => ("ArrowClassesModel", "high", "[I", false)
  | 10 => ("ArrowClassesModel", "path", "[I", false)
  | 11 => ("ArrowClassesModel", "next", "[I", false)
  | _ => ("ArrowClassesModel", "reaches", "[I", false)
def tyM : Nat → FieldType := fun k => match k with
  | 0 => .int
  | 1 => .array .boolean
  | 2 => .array .boolean
  | 3 => .array .boolean
  | 4 => .int
  | 5 => .array .int
  | 6 => .array .boolean
  | 7 => .int
  | 8 => .array .int
  | 9 => .array .int
  | 10 => .array .int
  | 11 => .array .int
  | _ => .array .int
theorem nmM : ∀ a, a < 13 → ∀ b, b < 13 → a ≠ b → (TM a).2.1 ≠ (TM b).2.1 := by decide +kernel
theorem okM : ∀ k, k < 13 → parseFieldDescriptor (TM k).2.2.1 = some (tyM k) := by decide +kernel
abbrev vwCl : List vw_C := [("ArrowClasses$Graph", TG, 3), ("ArrowClasses$Kindred", TK, 14), ("ArrowClasses", TA, 4), ("ArrowClassesModel", TM, 13)]
/-- the words of the tables that every method takes -/
def vzB_0 : List Cond := [.initialized "ArrowClassesLaw", .initialized "ArrowClasses", .initialized "ArrowClasses$Kindred", .initialized "ArrowClasses$Graph", .initialized "ArrowClassesModel", .initialized "java/lang/Integer", .initialized "java/lang/Math", .classLink "ArrowClassesLaw" 7 "ArrowClasses", .instantiable "ArrowClasses" 4, .methodLink "ArrowClassesLaw" 15 ⟨"ArrowClasses", "<init>", "(I)V"⟩, .instanceMethod ⟨"ArrowClasses", "<init>", "(I)V"⟩, .code ⟨"ArrowClasses", "<init>", "(I)V"⟩ prog_1_method_1_code 2 none, .methodLink "ArrowClasses" 1 ⟨"java/lang/Object", "<init>", "()V"⟩, .instanceMethod ⟨"java/lang/Object", "<init>", "()V"⟩, .code ⟨"java/lang/Object", "<init>", "()V"⟩ object_method_1_code 1 none, .classLink "ArrowClasses" 13 "ArrowClasses$Kindred", .instantiable "ArrowClasses$Kindred" 14, .methodLink "ArrowClasses" 15 ⟨"ArrowClasses$Kindred", "<init>", "(I)V"⟩, .instanceMethod ⟨"ArrowClasses$Kindred", "<init>", "(I)V"⟩, .code ⟨"ArrowClasses$Kindred", "<init>", "(I)V"⟩ prog_3_method_1_code 2 none, .methodLink "ArrowClasses$Kindred" 3 ⟨"java/lang/Object", "<init>", "()V"⟩, .classLink "ArrowClasses$Kindred" 9 "ArrowClasses$Graph", .instantiable "ArrowClasses$Graph" 3, .methodLink "ArrowClasses$Kindred" 11 ⟨"ArrowClasses$Graph", "<init>", "(I)V"⟩, .instanceMethod ⟨"ArrowClasses$Graph", "<init>", "(I)V"⟩, .code ⟨"ArrowClasses$Graph", "<init>", "(I)V"⟩ prog_2_method_1_code 2 none, .methodLink "ArrowClasses$Graph" 1 ⟨"java/lang/Object", "<init>", "()V"⟩, .fieldLink "ArrowClasses$Graph" 7 "ArrowClasses$Graph" "nodes" "I", .fieldLink "ArrowClasses$Kindred" 50 "ArrowClasses$Graph" "nodes" "I", .fieldLink "ArrowClasses$Graph" 13 "ArrowClasses$Graph" "parents" "[I", .fieldLink "ArrowClasses" 69 "ArrowClasses$Graph" "parents" "[I", .fieldLink "ArrowClasses$Graph" 17 "ArrowClasses$Graph" "children" "[I", .fieldLink "ArrowClasses" 73 "ArrowClasses$Graph" "children" "[I", .laysFinal "ArrowClasses$Graph" "ArrowClasses$Graph" "nodes" "I", .laysFinal "ArrowClasses$Graph" "ArrowClasses$Graph" "parents" "[I", .laysFinal "ArrowClasses$Graph" "ArrowClasses$Graph" "children" "[I", .arrayClass .int, .fieldLink "ArrowClasses$Kindred" 14 "ArrowClasses$Kindred" "drawn" "LArrowClasses$Graph;", .fieldLink "ArrowClasses" 22 "ArrowClasses$Kindred" "drawn" "LArrowClasses$Graph;", .fieldLink "ArrowClasses$Kindred" 20 "ArrowClasses$Kindred" "tried" "LArrowClasses$Graph;"]
def vzB_1 : List Cond := [.fieldLink "ArrowClasses$Kindred" 23 "ArrowClasses$Kindred" "lows" "[I", .fieldLink "ArrowClasses$Kindred" 27 "ArrowClasses$Kindred" "highs" "[I", .fieldLink "ArrowClasses$Kindred" 30 "ArrowClasses$Kindred" "pairs" "I", .fieldLink "ArrowClasses$Kindred" 34 "ArrowClasses$Kindred" "drawnCode" "I", .fieldLink "ArrowClasses$Kindred" 37 "ArrowClasses$Kindred" "collidingBits" "I", .fieldLink "ArrowClasses$Kindred" 40 "ArrowClasses$Kindred" "knownBits" "I", .fieldLink "ArrowClasses$Kindred" 43 "ArrowClasses$Kindred" "knownCode" "I", .fieldLink "ArrowClasses$Kindred" 46 "ArrowClasses$Kindred" "gathered" "Z", .fieldLink "ArrowClasses$Kindred" 71 "ArrowClasses$Kindred" "count" "I", .fieldLink "ArrowClasses$Kindred" 83 "ArrowClasses$Kindred" "firstCode" "I", .fieldLink "ArrowClasses$Kindred" 80 "ArrowClasses$Kindred" "someFalling" "I", .fieldLink "ArrowClasses$Kindred" 77 "ArrowClasses$Kindred" "allFalling" "I", .laysFinal "ArrowClasses$Kindred" "ArrowClasses$Kindred" "drawn" "LArrowClasses$Graph;", .laysFinal "ArrowClasses$Kindred" "ArrowClasses$Kindred" "tried" "LArrowClasses$Graph;", .laysFinal "ArrowClasses$Kindred" "ArrowClasses$Kindred" "lows" "[I", .laysFinal "ArrowClasses$Kindred" "ArrowClasses$Kindred" "highs" "[I", .lays "ArrowClasses$Kindred" "ArrowClasses$Kindred" "pairs" "I", .lays "ArrowClasses$Kindred" "ArrowClasses$Kindred" "drawnCode" "I", .lays "ArrowClasses$Kindred" "ArrowClasses$Kindred" "collidingBits" "I", .lays "ArrowClasses$Kindred" "ArrowClasses$Kindred" "knownBits" "I", .lays "ArrowClasses$Kindred" "ArrowClasses$Kindred" "knownCode" "I", .lays "ArrowClasses$Kindred" "ArrowClasses$Kindred" "gathered" "Z", .lays "ArrowClasses$Kindred" "ArrowClasses$Kindred" "count" "I", .lays "ArrowClasses$Kindred" "ArrowClasses$Kindred" "firstCode" "I", .lays "ArrowClasses$Kindred" "ArrowClasses$Kindred" "someFalling" "I", .lays "ArrowClasses$Kindred" "ArrowClasses$Kindred" "allFalling" "I", .fieldLink "ArrowClasses" 9 "ArrowClasses" "nodes" "I", .fieldLink "ArrowClasses" 18 "ArrowClasses" "kindred" "LArrowClasses$Kindred;", .fieldLink "ArrowClasses" 26 "ArrowClasses" "graph" "LArrowClasses$Graph;", .fieldLink "ArrowClasses" 29 "ArrowClasses" "separationCount" "I", .laysFinal "ArrowClasses" "ArrowClasses" "nodes" "I", .laysFinal "ArrowClasses" "ArrowClasses" "kindred" "LArrowClasses$Kindred;", .laysFinal "ArrowClasses" "ArrowClasses" "graph" "LArrowClasses$Graph;", .lays "ArrowClasses" "ArrowClasses" "separationCount" "I", .methodLink "ArrowClassesLaw" 21 ⟨"ArrowClasses", "arrow", "(II)Z"⟩, .instanceMethod ⟨"ArrowClasses", "arrow", "(II)Z"⟩, .selects "ArrowClasses" ⟨"ArrowClasses", "arrow", "(II)Z"⟩ ⟨"ArrowClasses", "arrow", "(II)Z"⟩, .code ⟨"ArrowClasses", "arrow", "(II)Z"⟩ prog_1_method_2_code 3 (some .boolean), .methodLink "ArrowClasses" 32 ⟨"ArrowClasses", "isPair", "(II)Z"⟩, .selects "ArrowClasses" ⟨"ArrowClasses", "isPair", "(II)Z"⟩ ⟨"ArrowClasses", "isPair", "(II)Z"⟩]
def vzB_2 : List Cond := [.instanceMethod ⟨"ArrowClasses", "isPair", "(II)Z"⟩, .code ⟨"ArrowClasses", "isPair", "(II)Z"⟩ prog_1_method_22_code 3 (some .boolean), .methodLink "ArrowClasses" 65 ⟨"ArrowClasses", "isNode", "(I)Z"⟩, .selects "ArrowClasses" ⟨"ArrowClasses", "isNode", "(I)Z"⟩ ⟨"ArrowClasses", "isNode", "(I)Z"⟩, .instanceMethod ⟨"ArrowClasses", "isNode", "(I)Z"⟩, .code ⟨"ArrowClasses", "isNode", "(I)Z"⟩ prog_1_method_21_code 2 (some .boolean), .methodLink "ArrowClasses" 36 ⟨"ArrowClasses$Graph", "joins", "(II)Z"⟩, .instanceMethod ⟨"ArrowClasses$Graph", "joins", "(II)Z"⟩, .selects "ArrowClasses$Graph" ⟨"ArrowClasses$Graph", "joins", "(II)Z"⟩ ⟨"ArrowClasses$Graph", "joins", "(II)Z"⟩, .code ⟨"ArrowClasses$Graph", "joins", "(II)Z"⟩ prog_2_method_3_code 3 (some .boolean), .methodLink "ArrowClasses$Graph" 26 ⟨"ArrowClasses$Graph", "has", "(II)Z"⟩, .instanceMethod ⟨"ArrowClasses$Graph", "has", "(II)Z"⟩, .selects "ArrowClasses$Graph" ⟨"ArrowClasses$Graph", "has", "(II)Z"⟩ ⟨"ArrowClasses$Graph", "has", "(II)Z"⟩, .code ⟨"ArrowClasses$Graph", "has", "(II)Z"⟩ prog_2_method_2_code 3 (some .boolean), .static ⟨"ArrowClasses", "holds", "(II)Z"⟩, .code ⟨"ArrowClasses", "holds", "(II)Z"⟩ prog_1_method_25_code 2 (some .boolean), .methodLink "ArrowClasses" 41 ⟨"ArrowClasses$Graph", "size", "()I"⟩, .instanceMethod ⟨"ArrowClasses$Graph", "size", "()I"⟩, .selects "ArrowClasses$Graph" ⟨"ArrowClasses$Graph", "size", "()I"⟩ ⟨"ArrowClasses$Graph", "size", "()I"⟩, .code ⟨"ArrowClasses$Graph", "size", "()I"⟩ prog_2_method_7_code 3 (some .int), .methodLink "ArrowClasses$Graph" 29 ⟨"java/lang/Integer", "bitCount", "(I)I"⟩, .static ⟨"java/lang/Integer", "bitCount", "(I)I"⟩, .code ⟨"java/lang/Integer", "bitCount", "(I)I"⟩ prog_6_method_49_code 1 (some .int), .constant "java/lang/Integer" 265 1431655765, .constant "java/lang/Integer" 266 858993459, .constant "java/lang/Integer" 267 252645135, .methodLink "ArrowClasses" 45 ⟨"ArrowClasses$Graph", "reachOf", "(I)I"⟩, .instanceMethod ⟨"ArrowClasses$Graph", "reachOf", "(I)I"⟩, .selects "ArrowClasses$Graph" ⟨"ArrowClasses$Graph", "reachOf", "(I)I"⟩ ⟨"ArrowClasses$Graph", "reachOf", "(I)I"⟩, .code ⟨"ArrowClasses$Graph", "reachOf", "(I)I"⟩ prog_2_method_8_code 5 (some .int), .methodLink "ArrowClasses" 49 ⟨"ArrowClasses", "holds", "(II)Z"⟩, .methodLink "ArrowClasses" 52 ⟨"ArrowClasses$Graph", "put", "(II)V"⟩, .instanceMethod ⟨"ArrowClasses$Graph", "put", "(II)V"⟩, .selects "ArrowClasses$Graph" ⟨"ArrowClasses$Graph", "put", "(II)V"⟩ ⟨"ArrowClasses$Graph", "put", "(II)V"⟩, .code ⟨"ArrowClasses$Graph", "put", "(II)V"⟩ prog_2_method_4_code 3 none, .methodLink "ArrowClasses" 56 ⟨"ArrowClasses", "noteChange", "()V"⟩, .selects "ArrowClasses" ⟨"ArrowClasses", "noteChange", "()V"⟩ ⟨"ArrowClasses", "noteChange", "()V"⟩, .instanceMethod ⟨"ArrowClasses", "noteChange", "()V"⟩, .code ⟨"ArrowClasses", "noteChange", "()V"⟩ prog_1_method_23_code 1 none, .methodLink "ArrowClasses" 116 ⟨"ArrowClasses$Kindred", "restart", "()V"⟩]
def vzB_3 : List Cond := [.instanceMethod ⟨"ArrowClasses$Kindred", "restart", "()V"⟩, .selects "ArrowClasses$Kindred" ⟨"ArrowClasses$Kindred", "restart", "()V"⟩ ⟨"ArrowClasses$Kindred", "restart", "()V"⟩, .code ⟨"ArrowClasses$Kindred", "restart", "()V"⟩ prog_3_method_2_code 3 none, .methodLink "ArrowClasses$Kindred" 53 ⟨"ArrowClasses$Graph", "joins", "(II)Z"⟩, .methodLink "ArrowClasses$Kindred" 57 ⟨"ArrowClasses$Kindred", "listPair", "(II)V"⟩, .selects "ArrowClasses$Kindred" ⟨"ArrowClasses$Kindred", "listPair", "(II)V"⟩ ⟨"ArrowClasses$Kindred", "listPair", "(II)V"⟩, .instanceMethod ⟨"ArrowClasses$Kindred", "listPair", "(II)V"⟩, .code ⟨"ArrowClasses$Kindred", "listPair", "(II)V"⟩ prog_3_method_3_code 4 none, .methodLink "ArrowClasses$Kindred" 61 ⟨"ArrowClasses$Graph", "strangers", "(II)I"⟩, .instanceMethod ⟨"ArrowClasses$Graph", "strangers", "(II)I"⟩, .selects "ArrowClasses$Graph" ⟨"ArrowClasses$Graph", "strangers", "(II)I"⟩ ⟨"ArrowClasses$Graph", "strangers", "(II)I"⟩, .code ⟨"ArrowClasses$Graph", "strangers", "(II)I"⟩ prog_2_method_10_code 3 (some .int), .methodLink "ArrowClasses$Kindred" 65 ⟨"ArrowClasses$Graph", "has", "(II)Z"⟩, .methodLink "ArrowClassesLaw" 26 ⟨"ArrowClasses", "erase", "(II)Z"⟩, .instanceMethod ⟨"ArrowClasses", "erase", "(II)Z"⟩, .selects "ArrowClasses" ⟨"ArrowClasses", "erase", "(II)Z"⟩ ⟨"ArrowClasses", "erase", "(II)Z"⟩, .code ⟨"ArrowClasses", "erase", "(II)Z"⟩ prog_1_method_3_code 3 (some .boolean), .methodLink "ArrowClasses" 59 ⟨"ArrowClasses$Graph", "has", "(II)Z"⟩, .methodLink "ArrowClasses" 62 ⟨"ArrowClasses$Graph", "take", "(II)V"⟩, .instanceMethod ⟨"ArrowClasses$Graph", "take", "(II)V"⟩, .selects "ArrowClasses$Graph" ⟨"ArrowClasses$Graph", "take", "(II)V"⟩ ⟨"ArrowClasses$Graph", "take", "(II)V"⟩, .code ⟨"ArrowClasses$Graph", "take", "(II)V"⟩ prog_2_method_5_code 3 none, .methodLink "ArrowClassesLaw" 30 ⟨"ArrowClasses", "turn", "(II)Z"⟩, .instanceMethod ⟨"ArrowClasses", "turn", "(II)Z"⟩, .selects "ArrowClasses" ⟨"ArrowClasses", "turn", "(II)Z"⟩ ⟨"ArrowClasses", "turn", "(II)Z"⟩, .code ⟨"ArrowClasses", "turn", "(II)Z"⟩ prog_1_method_4_code 3 (some .boolean), .methodLink "ArrowClassesLaw" 34 ⟨"ArrowClasses", "drawn", "(II)Z"⟩, .instanceMethod ⟨"ArrowClasses", "drawn", "(II)Z"⟩, .selects "ArrowClasses" ⟨"ArrowClasses", "drawn", "(II)Z"⟩ ⟨"ArrowClasses", "drawn", "(II)Z"⟩, .code ⟨"ArrowClasses", "drawn", "(II)Z"⟩ prog_1_method_5_code 3 (some .boolean), .methodLink "ArrowClassesLaw" 38 ⟨"ArrowClasses", "parents", "(I)I"⟩, .instanceMethod ⟨"ArrowClasses", "parents", "(I)I"⟩, .selects "ArrowClasses" ⟨"ArrowClasses", "parents", "(I)I"⟩ ⟨"ArrowClasses", "parents", "(I)I"⟩, .code ⟨"ArrowClasses", "parents", "(I)I"⟩ prog_1_method_6_code 2 (some .int), .methodLink "ArrowClassesLaw" 43 ⟨"ArrowClasses", "reached", "(I)I"⟩, .instanceMethod ⟨"ArrowClasses", "reached", "(I)I"⟩, .selects "ArrowClasses" ⟨"ArrowClasses", "reached", "(I)I"⟩ ⟨"ArrowClasses", "reached", "(I)I"⟩, .code ⟨"ArrowClasses", "reached", "(I)I"⟩ prog_1_method_7_code 2 (some .int), .methodLink "ArrowClassesLaw" 47 ⟨"ArrowClasses", "around", "(I)I"⟩, .instanceMethod ⟨"ArrowClasses", "around", "(I)I"⟩]
def vzB_4 : List Cond := [.selects "ArrowClasses" ⟨"ArrowClasses", "around", "(I)I"⟩ ⟨"ArrowClasses", "around", "(I)I"⟩, .code ⟨"ArrowClasses", "around", "(I)I"⟩ prog_1_method_8_code 4 (some .int), .methodLink "ArrowClassesLaw" 51 ⟨"ArrowClasses", "collisions", "()I"⟩, .instanceMethod ⟨"ArrowClasses", "collisions", "()I"⟩, .selects "ArrowClasses" ⟨"ArrowClasses", "collisions", "()I"⟩ ⟨"ArrowClasses", "collisions", "()I"⟩, .code ⟨"ArrowClasses", "collisions", "()I"⟩ prog_1_method_9_code 4 (some .int), .methodLink "ArrowClasses" 76 ⟨"ArrowClasses$Graph", "strangers", "(II)I"⟩, .methodLink "ArrowClasses" 80 ⟨"java/lang/Integer", "bitCount", "(I)I"⟩, .methodLink "ArrowClassesLaw" 56 ⟨"ArrowClasses", "covered", "(II)Z"⟩, .instanceMethod ⟨"ArrowClasses", "covered", "(II)Z"⟩, .selects "ArrowClasses" ⟨"ArrowClasses", "covered", "(II)Z"⟩ ⟨"ArrowClasses", "covered", "(II)Z"⟩, .code ⟨"ArrowClasses", "covered", "(II)Z"⟩ prog_1_method_10_code 3 (some .boolean), .methodLink "ArrowClasses" 85 ⟨"ArrowClasses", "drawn", "(II)Z"⟩, .methodLink "ArrowClassesLaw" 60 ⟨"ArrowClasses", "separated", "(III)Z"⟩, .instanceMethod ⟨"ArrowClasses", "separated", "(III)Z"⟩, .selects "ArrowClasses" ⟨"ArrowClasses", "separated", "(III)Z"⟩ ⟨"ArrowClasses", "separated", "(III)Z"⟩, .code ⟨"ArrowClasses", "separated", "(III)Z"⟩ prog_1_method_11_code 4 (some .boolean), .methodLink "ArrowClasses" 87 ⟨"ArrowClasses$Graph", "openFrom", "(II)I"⟩, .instanceMethod ⟨"ArrowClasses$Graph", "openFrom", "(II)I"⟩, .selects "ArrowClasses$Graph" ⟨"ArrowClasses$Graph", "openFrom", "(II)I"⟩ ⟨"ArrowClasses$Graph", "openFrom", "(II)I"⟩, .code ⟨"ArrowClasses$Graph", "openFrom", "(II)I"⟩ prog_2_method_12_code 11 (some .int), .methodLink "ArrowClassesLaw" 65 ⟨"ArrowClasses", "separator", "(II)I"⟩, .instanceMethod ⟨"ArrowClasses", "separator", "(II)I"⟩, .selects "ArrowClasses" ⟨"ArrowClasses", "separator", "(II)I"⟩ ⟨"ArrowClasses", "separator", "(II)I"⟩, .code ⟨"ArrowClasses", "separator", "(II)I"⟩ prog_1_method_12_code 7 (some .int), .methodLink "ArrowClasses" 90 ⟨"ArrowClasses", "separated", "(III)Z"⟩, .methodLink "ArrowClassesLaw" 70 ⟨"ArrowClasses", "separations", "()I"⟩, .instanceMethod ⟨"ArrowClasses", "separations", "()I"⟩, .selects "ArrowClasses" ⟨"ArrowClasses", "separations", "()I"⟩ ⟨"ArrowClasses", "separations", "()I"⟩, .code ⟨"ArrowClasses", "separations", "()I"⟩ prog_1_method_13_code 3 (some .int), .methodLink "ArrowClasses" 94 ⟨"ArrowClasses", "separationsBy", "(I)I"⟩, .selects "ArrowClasses" ⟨"ArrowClasses", "separationsBy", "(I)I"⟩ ⟨"ArrowClasses", "separationsBy", "(I)I"⟩, .instanceMethod ⟨"ArrowClasses", "separationsBy", "(I)I"⟩, .code ⟨"ArrowClasses", "separationsBy", "(I)I"⟩ prog_1_method_24_code 5 (some .int), .methodLink "ArrowClassesLaw" 74 ⟨"ArrowClasses", "edge", "(II)I"⟩, .instanceMethod ⟨"ArrowClasses", "edge", "(II)I"⟩, .selects "ArrowClasses" ⟨"ArrowClasses", "edge", "(II)I"⟩ ⟨"ArrowClasses", "edge", "(II)I"⟩, .code ⟨"ArrowClasses", "edge", "(II)I"⟩ prog_1_method_14_code 3 (some .int), .methodLink "ArrowClasses" 97 ⟨"ArrowClasses$Kindred", "someHas", "(II)Z"⟩, .instanceMethod ⟨"ArrowClasses$Kindred", "someHas", "(II)Z"⟩]
def vzB_5 : List Cond := [.selects "ArrowClasses$Kindred" ⟨"ArrowClasses$Kindred", "someHas", "(II)Z"⟩ ⟨"ArrowClasses$Kindred", "someHas", "(II)Z"⟩, .code ⟨"ArrowClasses$Kindred", "someHas", "(II)Z"⟩ prog_3_method_5_code 4 (some .boolean), .methodLink "ArrowClasses$Kindred" 68 ⟨"ArrowClasses$Kindred", "gather", "()V"⟩, .selects "ArrowClasses$Kindred" ⟨"ArrowClasses$Kindred", "gather", "()V"⟩ ⟨"ArrowClasses$Kindred", "gather", "()V"⟩, .instanceMethod ⟨"ArrowClasses$Kindred", "gather", "()V"⟩, .code ⟨"ArrowClasses$Kindred", "gather", "()V"⟩ prog_3_method_13_code 2 none, .methodLink "ArrowClasses$Kindred" 103 ⟨"ArrowClasses$Kindred", "isMember", "(I)Z"⟩, .selects "ArrowClasses$Kindred" ⟨"ArrowClasses$Kindred", "isMember", "(I)Z"⟩ ⟨"ArrowClasses$Kindred", "isMember", "(I)Z"⟩, .instanceMethod ⟨"ArrowClasses$Kindred", "isMember", "(I)Z"⟩, .code ⟨"ArrowClasses$Kindred", "isMember", "(I)Z"⟩ prog_3_method_14_code 3 (some .boolean), .methodLink "ArrowClasses$Kindred" 107 ⟨"ArrowClasses$Graph", "empty", "()V"⟩, .instanceMethod ⟨"ArrowClasses$Graph", "empty", "()V"⟩, .selects "ArrowClasses$Graph" ⟨"ArrowClasses$Graph", "empty", "()V"⟩ ⟨"ArrowClasses$Graph", "empty", "()V"⟩, .code ⟨"ArrowClasses$Graph", "empty", "()V"⟩ prog_2_method_6_code 2 none, .methodLink "ArrowClasses$Kindred" 100 ⟨"ArrowClasses$Kindred", "bitAt", "(I)I"⟩, .selects "ArrowClasses$Kindred" ⟨"ArrowClasses$Kindred", "bitAt", "(I)I"⟩ ⟨"ArrowClasses$Kindred", "bitAt", "(I)I"⟩, .instanceMethod ⟨"ArrowClasses$Kindred", "bitAt", "(I)I"⟩, .code ⟨"ArrowClasses$Kindred", "bitAt", "(I)I"⟩ prog_3_method_12_code 2 (some .int), .methodLink "ArrowClasses$Kindred" 110 ⟨"ArrowClasses$Graph", "put", "(II)V"⟩, .methodLink "ArrowClasses$Kindred" 113 ⟨"ArrowClasses$Graph", "collidesLike", "(LArrowClasses$Graph;)Z"⟩, .instanceMethod ⟨"ArrowClasses$Graph", "collidesLike", "(LArrowClasses$Graph;)Z"⟩, .selects "ArrowClasses$Graph" ⟨"ArrowClasses$Graph", "collidesLike", "(LArrowClasses$Graph;)Z"⟩ ⟨"ArrowClasses$Graph", "collidesLike", "(LArrowClasses$Graph;)Z"⟩, .code ⟨"ArrowClasses$Graph", "collidesLike", "(LArrowClasses$Graph;)Z"⟩ prog_2_method_11_code 4 (some .boolean), .methodLink "ArrowClasses$Graph" 35 ⟨"ArrowClasses$Graph", "strangers", "(II)I"⟩, .methodLink "ArrowClasses$Kindred" 117 ⟨"ArrowClasses$Graph", "hasRing", "()Z"⟩, .instanceMethod ⟨"ArrowClasses$Graph", "hasRing", "()Z"⟩, .selects "ArrowClasses$Graph" ⟨"ArrowClasses$Graph", "hasRing", "()Z"⟩ ⟨"ArrowClasses$Graph", "hasRing", "()Z"⟩, .code ⟨"ArrowClasses$Graph", "hasRing", "()Z"⟩ prog_2_method_9_code 4 (some .boolean), .methodLink "ArrowClasses$Kindred" 74 ⟨"ArrowClasses$Kindred", "bitOf", "(II)I"⟩, .selects "ArrowClasses$Kindred" ⟨"ArrowClasses$Kindred", "bitOf", "(II)I"⟩ ⟨"ArrowClasses$Kindred", "bitOf", "(II)I"⟩, .instanceMethod ⟨"ArrowClasses$Kindred", "bitOf", "(II)I"⟩, .code ⟨"ArrowClasses$Kindred", "bitOf", "(II)I"⟩ prog_3_method_11_code 4 (some .int), .methodLink "ArrowClasses$Kindred" 92 ⟨"java/lang/Math", "min", "(II)I"⟩, .static ⟨"java/lang/Math", "min", "(II)I"⟩, .code ⟨"java/lang/Math", "min", "(II)I"⟩ prog_7_method_69_code 2 (some .int), .methodLink "ArrowClasses$Kindred" 97 ⟨"java/lang/Math", "max", "(II)I"⟩, .static ⟨"java/lang/Math", "max", "(II)I"⟩, .code ⟨"java/lang/Math", "max", "(II)I"⟩ prog_7_method_65_code 2 (some .int), .methodLink "ArrowClassesLaw" 78 ⟨"ArrowClasses", "loose", "()I"⟩, .instanceMethod ⟨"ArrowClasses", "loose", "()I"⟩]
def vzB_6 : List Cond := [.selects "ArrowClasses" ⟨"ArrowClasses", "loose", "()I"⟩ ⟨"ArrowClasses", "loose", "()I"⟩, .code ⟨"ArrowClasses", "loose", "()I"⟩ prog_1_method_15_code 1 (some .int), .methodLink "ArrowClasses" 100 ⟨"ArrowClasses$Kindred", "loosePairs", "()I"⟩, .instanceMethod ⟨"ArrowClasses$Kindred", "loosePairs", "()I"⟩, .selects "ArrowClasses$Kindred" ⟨"ArrowClasses$Kindred", "loosePairs", "()I"⟩ ⟨"ArrowClasses$Kindred", "loosePairs", "()I"⟩, .code ⟨"ArrowClasses$Kindred", "loosePairs", "()I"⟩ prog_3_method_7_code 1 (some .int), .methodLink "ArrowClasses$Kindred" 86 ⟨"java/lang/Integer", "bitCount", "(I)I"⟩, .methodLink "ArrowClassesLaw" 82 ⟨"ArrowClasses", "know", "(II)Z"⟩, .instanceMethod ⟨"ArrowClasses", "know", "(II)Z"⟩, .selects "ArrowClasses" ⟨"ArrowClasses", "know", "(II)Z"⟩ ⟨"ArrowClasses", "know", "(II)Z"⟩, .code ⟨"ArrowClasses", "know", "(II)Z"⟩ prog_1_method_16_code 3 (some .boolean), .methodLink "ArrowClasses" 103 ⟨"ArrowClasses$Kindred", "fix", "(II)V"⟩, .instanceMethod ⟨"ArrowClasses$Kindred", "fix", "(II)V"⟩, .selects "ArrowClasses$Kindred" ⟨"ArrowClasses$Kindred", "fix", "(II)V"⟩ ⟨"ArrowClasses$Kindred", "fix", "(II)V"⟩, .code ⟨"ArrowClasses$Kindred", "fix", "(II)V"⟩ prog_3_method_9_code 4 none, .methodLink "ArrowClassesLaw" 86 ⟨"ArrowClasses", "forget", "()I"⟩, .instanceMethod ⟨"ArrowClasses", "forget", "()I"⟩, .selects "ArrowClasses" ⟨"ArrowClasses", "forget", "()I"⟩ ⟨"ArrowClasses", "forget", "()I"⟩, .code ⟨"ArrowClasses", "forget", "()I"⟩ prog_1_method_17_code 1 (some .int), .methodLink "ArrowClasses" 106 ⟨"ArrowClasses$Kindred", "unfix", "()I"⟩, .instanceMethod ⟨"ArrowClasses$Kindred", "unfix", "()I"⟩, .selects "ArrowClasses$Kindred" ⟨"ArrowClasses$Kindred", "unfix", "()I"⟩ ⟨"ArrowClasses$Kindred", "unfix", "()I"⟩, .code ⟨"ArrowClasses$Kindred", "unfix", "()I"⟩ prog_3_method_10_code 2 (some .int), .methodLink "ArrowClassesLaw" 90 ⟨"ArrowClasses", "members", "()I"⟩, .instanceMethod ⟨"ArrowClasses", "members", "()I"⟩, .selects "ArrowClasses" ⟨"ArrowClasses", "members", "()I"⟩ ⟨"ArrowClasses", "members", "()I"⟩, .code ⟨"ArrowClasses", "members", "()I"⟩ prog_1_method_18_code 1 (some .int), .methodLink "ArrowClasses" 109 ⟨"ArrowClasses$Kindred", "size", "()I"⟩, .instanceMethod ⟨"ArrowClasses$Kindred", "size", "()I"⟩, .selects "ArrowClasses$Kindred" ⟨"ArrowClasses$Kindred", "size", "()I"⟩ ⟨"ArrowClasses$Kindred", "size", "()I"⟩, .code ⟨"ArrowClasses$Kindred", "size", "()I"⟩ prog_3_method_4_code 1 (some .int), .methodLink "ArrowClassesLaw" 94 ⟨"ArrowClasses", "first", "(II)Z"⟩, .instanceMethod ⟨"ArrowClasses", "first", "(II)Z"⟩, .selects "ArrowClasses" ⟨"ArrowClasses", "first", "(II)Z"⟩ ⟨"ArrowClasses", "first", "(II)Z"⟩, .code ⟨"ArrowClasses", "first", "(II)Z"⟩ prog_1_method_19_code 3 (some .boolean), .methodLink "ArrowClasses" 110 ⟨"ArrowClasses$Kindred", "firstHas", "(II)Z"⟩, .instanceMethod ⟨"ArrowClasses$Kindred", "firstHas", "(II)Z"⟩, .selects "ArrowClasses$Kindred" ⟨"ArrowClasses$Kindred", "firstHas", "(II)Z"⟩ ⟨"ArrowClasses$Kindred", "firstHas", "(II)Z"⟩, .code ⟨"ArrowClasses$Kindred", "firstHas", "(II)Z"⟩ prog_3_method_6_code 4 (some .boolean), .methodLink "ArrowClassesLaw" 98 ⟨"ArrowClasses", "turned", "()I"⟩]
def vzB_7 : List Cond := [.instanceMethod ⟨"ArrowClasses", "turned", "()I"⟩, .selects "ArrowClasses" ⟨"ArrowClasses", "turned", "()I"⟩ ⟨"ArrowClasses", "turned", "()I"⟩, .code ⟨"ArrowClasses", "turned", "()I"⟩ prog_1_method_20_code 1 (some .int), .methodLink "ArrowClasses" 113 ⟨"ArrowClasses$Kindred", "turnedInFirst", "()I"⟩, .instanceMethod ⟨"ArrowClasses$Kindred", "turnedInFirst", "()I"⟩, .selects "ArrowClasses$Kindred" ⟨"ArrowClasses$Kindred", "turnedInFirst", "()I"⟩ ⟨"ArrowClasses$Kindred", "turnedInFirst", "()I"⟩, .code ⟨"ArrowClasses$Kindred", "turnedInFirst", "()I"⟩ prog_3_method_8_code 1 (some .int), .methodLink "ArrowClassesLaw" 9 ⟨"ArrowClassesLaw", "cell", "([II)I"⟩, .static ⟨"ArrowClassesLaw", "cell", "([II)I"⟩, .code ⟨"ArrowClassesLaw", "cell", "([II)I"⟩ method_2_code 2 (some .int), .classLink "ArrowClassesLaw" 18 "ArrowClassesModel", .instantiable "ArrowClassesModel" 13, .methodLink "ArrowClassesLaw" 20 ⟨"ArrowClassesModel", "<init>", "(I)V"⟩, .instanceMethod ⟨"ArrowClassesModel", "<init>", "(I)V"⟩, .code ⟨"ArrowClassesModel", "<init>", "(I)V"⟩ prog_5_method_1_code 2 none, .methodLink "ArrowClassesModel" 1 ⟨"java/lang/Object", "<init>", "()V"⟩, .fieldLink "ArrowClassesModel" 41 "ArrowClassesModel" "nodes" "I", .fieldLink "ArrowClassesModel" 7 "ArrowClassesModel" "has" "[Z", .fieldLink "ArrowClassesModel" 13 "ArrowClassesModel" "known" "[Z", .fieldLink "ArrowClassesModel" 16 "ArrowClassesModel" "tried" "[Z", .fieldLink "ArrowClassesModel" 103 "ArrowClassesModel" "count" "I", .fieldLink "ArrowClassesModel" 19 "ArrowClassesModel" "having" "[I", .fieldLink "ArrowClassesModel" 23 "ArrowClassesModel" "best" "[Z", .fieldLink "ArrowClassesModel" 93 "ArrowClassesModel" "pairs" "I", .fieldLink "ArrowClassesModel" 26 "ArrowClassesModel" "low" "[I", .fieldLink "ArrowClassesModel" 29 "ArrowClassesModel" "high" "[I", .fieldLink "ArrowClassesModel" 32 "ArrowClassesModel" "path" "[I", .fieldLink "ArrowClassesModel" 35 "ArrowClassesModel" "next" "[I", .fieldLink "ArrowClassesModel" 38 "ArrowClassesModel" "reaches" "[I", .lays "ArrowClassesModel" "ArrowClassesModel" "nodes" "I", .lays "ArrowClassesModel" "ArrowClassesModel" "has" "[Z", .lays "ArrowClassesModel" "ArrowClassesModel" "known" "[Z", .lays "ArrowClassesModel" "ArrowClassesModel" "tried" "[Z", .lays "ArrowClassesModel" "ArrowClassesModel" "count" "I", .lays "ArrowClassesModel" "ArrowClassesModel" "having" "[I", .lays "ArrowClassesModel" "ArrowClassesModel" "best" "[Z", .lays "ArrowClassesModel" "ArrowClassesModel" "pairs" "I", .lays "ArrowClassesModel" "ArrowClassesModel" "low" "[I", .lays "ArrowClassesModel" "ArrowClassesModel" "high" "[I", .lays "ArrowClassesModel" "ArrowClassesModel" "path" "[I"]
def vzB_8 : List Cond := [.lays "ArrowClassesModel" "ArrowClassesModel" "next" "[I", .lays "ArrowClassesModel" "ArrowClassesModel" "reaches" "[I", .arrayClass .boolean, .methodLink "ArrowClassesLaw" 25 ⟨"ArrowClassesModel", "arrow", "(II)Z"⟩, .instanceMethod ⟨"ArrowClassesModel", "arrow", "(II)Z"⟩, .selects "ArrowClassesModel" ⟨"ArrowClassesModel", "arrow", "(II)Z"⟩ ⟨"ArrowClassesModel", "arrow", "(II)Z"⟩, .code ⟨"ArrowClassesModel", "arrow", "(II)Z"⟩ prog_5_method_8_code 3 (some .boolean), .methodLink "ArrowClassesModel" 49 ⟨"ArrowClassesModel", "areNodes", "(II)Z"⟩, .selects "ArrowClassesModel" ⟨"ArrowClassesModel", "areNodes", "(II)Z"⟩ ⟨"ArrowClassesModel", "areNodes", "(II)Z"⟩, .instanceMethod ⟨"ArrowClassesModel", "areNodes", "(II)Z"⟩, .code ⟨"ArrowClassesModel", "areNodes", "(II)Z"⟩ prog_5_method_3_code 3 (some .boolean), .methodLink "ArrowClassesModel" 45 ⟨"ArrowClassesModel", "isNode", "(I)Z"⟩, .selects "ArrowClassesModel" ⟨"ArrowClassesModel", "isNode", "(I)Z"⟩ ⟨"ArrowClassesModel", "isNode", "(I)Z"⟩, .instanceMethod ⟨"ArrowClassesModel", "isNode", "(I)Z"⟩, .code ⟨"ArrowClassesModel", "isNode", "(I)Z"⟩ prog_5_method_2_code 2 (some .boolean), .methodLink "ArrowClassesModel" 53 ⟨"ArrowClassesModel", "joined", "(II)Z"⟩, .selects "ArrowClassesModel" ⟨"ArrowClassesModel", "joined", "(II)Z"⟩ ⟨"ArrowClassesModel", "joined", "(II)Z"⟩, .instanceMethod ⟨"ArrowClassesModel", "joined", "(II)Z"⟩, .code ⟨"ArrowClassesModel", "joined", "(II)Z"⟩ prog_5_method_4_code 3 (some .boolean), .methodLink "ArrowClassesModel" 56 ⟨"ArrowClassesModel", "arrows", "()I"⟩, .selects "ArrowClassesModel" ⟨"ArrowClassesModel", "arrows", "()I"⟩ ⟨"ArrowClassesModel", "arrows", "()I"⟩, .instanceMethod ⟨"ArrowClassesModel", "arrows", "()I"⟩, .code ⟨"ArrowClassesModel", "arrows", "()I"⟩ prog_5_method_5_code 3 (some .int), .methodLink "ArrowClassesModel" 60 ⟨"ArrowClassesModel", "reach", "(I)I"⟩, .selects "ArrowClassesModel" ⟨"ArrowClassesModel", "reach", "(I)I"⟩ ⟨"ArrowClassesModel", "reach", "(I)I"⟩, .instanceMethod ⟨"ArrowClassesModel", "reach", "(I)I"⟩, .code ⟨"ArrowClassesModel", "reach", "(I)I"⟩ prog_5_method_7_code 6 (some .int), .methodLink "ArrowClassesModel" 64 ⟨"ArrowClassesModel", "forgetAll", "()V"⟩, .selects "ArrowClassesModel" ⟨"ArrowClassesModel", "forgetAll", "()V"⟩ ⟨"ArrowClassesModel", "forgetAll", "()V"⟩, .instanceMethod ⟨"ArrowClassesModel", "forgetAll", "()V"⟩, .code ⟨"ArrowClassesModel", "forgetAll", "()V"⟩ prog_5_method_6_code 2 none, .methodLink "ArrowClassesLaw" 29 ⟨"ArrowClassesModel", "erase", "(II)Z"⟩, .instanceMethod ⟨"ArrowClassesModel", "erase", "(II)Z"⟩, .selects "ArrowClassesModel" ⟨"ArrowClassesModel", "erase", "(II)Z"⟩ ⟨"ArrowClassesModel", "erase", "(II)Z"⟩, .code ⟨"ArrowClassesModel", "erase", "(II)Z"⟩ prog_5_method_9_code 3 (some .boolean), .methodLink "ArrowClassesLaw" 33 ⟨"ArrowClassesModel", "turn", "(II)Z"⟩, .instanceMethod ⟨"ArrowClassesModel", "turn", "(II)Z"⟩, .selects "ArrowClassesModel" ⟨"ArrowClassesModel", "turn", "(II)Z"⟩ ⟨"ArrowClassesModel", "turn", "(II)Z"⟩, .code ⟨"ArrowClassesModel", "turn", "(II)Z"⟩ prog_5_method_10_code 3 (some .boolean), .methodLink "ArrowClassesLaw" 37 ⟨"ArrowClassesModel", "drawn", "(II)Z"⟩]
def vzB_9 : List Cond := [.instanceMethod ⟨"ArrowClassesModel", "drawn", "(II)Z"⟩, .selects "ArrowClassesModel" ⟨"ArrowClassesModel", "drawn", "(II)Z"⟩ ⟨"ArrowClassesModel", "drawn", "(II)Z"⟩, .code ⟨"ArrowClassesModel", "drawn", "(II)Z"⟩ prog_5_method_11_code 3 (some .boolean), .methodLink "ArrowClassesLaw" 42 ⟨"ArrowClassesModel", "parents", "(I)I"⟩, .instanceMethod ⟨"ArrowClassesModel", "parents", "(I)I"⟩, .selects "ArrowClassesModel" ⟨"ArrowClassesModel", "parents", "(I)I"⟩ ⟨"ArrowClassesModel", "parents", "(I)I"⟩, .code ⟨"ArrowClassesModel", "parents", "(I)I"⟩ prog_5_method_12_code 4 (some .int), .methodLink "ArrowClassesLaw" 46 ⟨"ArrowClassesModel", "reached", "(I)I"⟩, .instanceMethod ⟨"ArrowClassesModel", "reached", "(I)I"⟩, .selects "ArrowClassesModel" ⟨"ArrowClassesModel", "reached", "(I)I"⟩ ⟨"ArrowClassesModel", "reached", "(I)I"⟩, .code ⟨"ArrowClassesModel", "reached", "(I)I"⟩ prog_5_method_13_code 2 (some .int), .methodLink "ArrowClassesLaw" 50 ⟨"ArrowClassesModel", "around", "(I)I"⟩, .instanceMethod ⟨"ArrowClassesModel", "around", "(I)I"⟩, .selects "ArrowClassesModel" ⟨"ArrowClassesModel", "around", "(I)I"⟩ ⟨"ArrowClassesModel", "around", "(I)I"⟩, .code ⟨"ArrowClassesModel", "around", "(I)I"⟩ prog_5_method_14_code 4 (some .int), .methodLink "ArrowClassesModel" 67 ⟨"ArrowClassesModel", "parents", "(I)I"⟩, .methodLink "ArrowClassesLaw" 55 ⟨"ArrowClassesModel", "collisions", "()I"⟩, .instanceMethod ⟨"ArrowClassesModel", "collisions", "()I"⟩, .selects "ArrowClassesModel" ⟨"ArrowClassesModel", "collisions", "()I"⟩ ⟨"ArrowClassesModel", "collisions", "()I"⟩, .code ⟨"ArrowClassesModel", "collisions", "()I"⟩ prog_5_method_16_code 5 (some .int), .methodLink "ArrowClassesModel" 70 ⟨"ArrowClassesModel", "collides", "([ZIII)Z"⟩, .static ⟨"ArrowClassesModel", "collides", "([ZIII)Z"⟩, .code ⟨"ArrowClassesModel", "collides", "([ZIII)Z"⟩ prog_5_method_15_code 4 (some .boolean), .methodLink "ArrowClassesLaw" 59 ⟨"ArrowClassesModel", "covered", "(II)Z"⟩, .instanceMethod ⟨"ArrowClassesModel", "covered", "(II)Z"⟩, .selects "ArrowClassesModel" ⟨"ArrowClassesModel", "covered", "(II)Z"⟩ ⟨"ArrowClassesModel", "covered", "(II)Z"⟩, .code ⟨"ArrowClassesModel", "covered", "(II)Z"⟩ prog_5_method_17_code 3 (some .boolean), .methodLink "ArrowClassesModel" 74 ⟨"ArrowClassesModel", "drawn", "(II)Z"⟩, .methodLink "ArrowClassesLaw" 64 ⟨"ArrowClassesModel", "separated", "(III)Z"⟩, .instanceMethod ⟨"ArrowClassesModel", "separated", "(III)Z"⟩, .selects "ArrowClassesModel" ⟨"ArrowClassesModel", "separated", "(III)Z"⟩ ⟨"ArrowClassesModel", "separated", "(III)Z"⟩, .code ⟨"ArrowClassesModel", "separated", "(III)Z"⟩ prog_5_method_21_code 4 (some .boolean), .methodLink "ArrowClassesModel" 83 ⟨"ArrowClassesModel", "allBlocked", "(III)Z"⟩, .selects "ArrowClassesModel" ⟨"ArrowClassesModel", "allBlocked", "(III)Z"⟩ ⟨"ArrowClassesModel", "allBlocked", "(III)Z"⟩, .instanceMethod ⟨"ArrowClassesModel", "allBlocked", "(III)Z"⟩, .code ⟨"ArrowClassesModel", "allBlocked", "(III)Z"⟩ prog_5_method_20_code 7 (some .boolean), .methodLink "ArrowClassesModel" 77 ⟨"ArrowClassesModel", "blocked", "(II)Z"⟩, .selects "ArrowClassesModel" ⟨"ArrowClassesModel", "blocked", "(II)Z"⟩ ⟨"ArrowClassesModel", "blocked", "(II)Z"⟩, .instanceMethod ⟨"ArrowClassesModel", "blocked", "(II)Z"⟩, .code ⟨"ArrowClassesModel", "blocked", "(II)Z"⟩ prog_5_method_18_code 6 (some .boolean)]
def vzB_10 : List Cond := [.methodLink "ArrowClassesModel" 80 ⟨"ArrowClassesModel", "onPath", "(II)Z"⟩, .selects "ArrowClassesModel" ⟨"ArrowClassesModel", "onPath", "(II)Z"⟩ ⟨"ArrowClassesModel", "onPath", "(II)Z"⟩, .instanceMethod ⟨"ArrowClassesModel", "onPath", "(II)Z"⟩, .code ⟨"ArrowClassesModel", "onPath", "(II)Z"⟩ prog_5_method_19_code 5 (some .boolean), .methodLink "ArrowClassesLaw" 69 ⟨"ArrowClassesModel", "separator", "(II)I"⟩, .instanceMethod ⟨"ArrowClassesModel", "separator", "(II)I"⟩, .selects "ArrowClassesModel" ⟨"ArrowClassesModel", "separator", "(II)I"⟩ ⟨"ArrowClassesModel", "separator", "(II)I"⟩, .code ⟨"ArrowClassesModel", "separator", "(II)I"⟩ prog_5_method_23_code 5 (some .int), .methodLink "ArrowClassesModel" 87 ⟨"ArrowClassesModel", "size", "(I)I"⟩, .static ⟨"ArrowClassesModel", "size", "(I)I"⟩, .code ⟨"ArrowClassesModel", "size", "(I)I"⟩ prog_5_method_22_code 3 (some .int), .methodLink "ArrowClassesModel" 90 ⟨"ArrowClassesModel", "separated", "(III)Z"⟩, .methodLink "ArrowClassesLaw" 73 ⟨"ArrowClassesModel", "separations", "()I"⟩, .instanceMethod ⟨"ArrowClassesModel", "separations", "()I"⟩, .selects "ArrowClassesModel" ⟨"ArrowClassesModel", "separations", "()I"⟩ ⟨"ArrowClassesModel", "separations", "()I"⟩, .code ⟨"ArrowClassesModel", "separations", "()I"⟩ prog_5_method_24_code 5 (some .int), .methodLink "ArrowClassesLaw" 77 ⟨"ArrowClassesModel", "edge", "(II)I"⟩, .instanceMethod ⟨"ArrowClassesModel", "edge", "(II)I"⟩, .selects "ArrowClassesModel" ⟨"ArrowClassesModel", "edge", "(II)I"⟩ ⟨"ArrowClassesModel", "edge", "(II)I"⟩, .code ⟨"ArrowClassesModel", "edge", "(II)I"⟩ prog_5_method_30_code 3 (some .int), .methodLink "ArrowClassesModel" 113 ⟨"ArrowClassesModel", "goThrough", "()V"⟩, .selects "ArrowClassesModel" ⟨"ArrowClassesModel", "goThrough", "()V"⟩ ⟨"ArrowClassesModel", "goThrough", "()V"⟩, .instanceMethod ⟨"ArrowClassesModel", "goThrough", "()V"⟩, .code ⟨"ArrowClassesModel", "goThrough", "()V"⟩ prog_5_method_29_code 3 none, .methodLink "ArrowClassesModel" 100 ⟨"ArrowClassesModel", "findPairs", "()V"⟩, .selects "ArrowClassesModel" ⟨"ArrowClassesModel", "findPairs", "()V"⟩ ⟨"ArrowClassesModel", "findPairs", "()V"⟩, .instanceMethod ⟨"ArrowClassesModel", "findPairs", "()V"⟩, .code ⟨"ArrowClassesModel", "findPairs", "()V"⟩ prog_5_method_25_code 3 none, .methodLink "ArrowClassesModel" 106 ⟨"ArrowClassesModel", "direct", "(I)V"⟩, .selects "ArrowClassesModel" ⟨"ArrowClassesModel", "direct", "(I)V"⟩ ⟨"ArrowClassesModel", "direct", "(I)V"⟩, .instanceMethod ⟨"ArrowClassesModel", "direct", "(I)V"⟩, .code ⟨"ArrowClassesModel", "direct", "(I)V"⟩ prog_5_method_26_code 6 none, .methodLink "ArrowClassesModel" 110 ⟨"ArrowClassesModel", "isMember", "()Z"⟩, .selects "ArrowClassesModel" ⟨"ArrowClassesModel", "isMember", "()Z"⟩ ⟨"ArrowClassesModel", "isMember", "()Z"⟩, .instanceMethod ⟨"ArrowClassesModel", "isMember", "()Z"⟩, .code ⟨"ArrowClassesModel", "isMember", "()Z"⟩ prog_5_method_28_code 4 (some .boolean), .methodLink "ArrowClassesModel" 96 ⟨"ArrowClassesModel", "hasRing", "()Z"⟩, .selects "ArrowClassesModel" ⟨"ArrowClassesModel", "hasRing", "()Z"⟩ ⟨"ArrowClassesModel", "hasRing", "()Z"⟩, .instanceMethod ⟨"ArrowClassesModel", "hasRing", "()Z"⟩, .code ⟨"ArrowClassesModel", "hasRing", "()Z"⟩ prog_5_method_27_code 6 (some .boolean)]
def vzB_11 : List Cond := [.methodLink "ArrowClassesLaw" 81 ⟨"ArrowClassesModel", "loose", "()I"⟩, .instanceMethod ⟨"ArrowClassesModel", "loose", "()I"⟩, .selects "ArrowClassesModel" ⟨"ArrowClassesModel", "loose", "()I"⟩ ⟨"ArrowClassesModel", "loose", "()I"⟩, .code ⟨"ArrowClassesModel", "loose", "()I"⟩ prog_5_method_31_code 4 (some .int), .methodLink "ArrowClassesLaw" 85 ⟨"ArrowClassesModel", "know", "(II)Z"⟩, .instanceMethod ⟨"ArrowClassesModel", "know", "(II)Z"⟩, .selects "ArrowClassesModel" ⟨"ArrowClassesModel", "know", "(II)Z"⟩ ⟨"ArrowClassesModel", "know", "(II)Z"⟩, .code ⟨"ArrowClassesModel", "know", "(II)Z"⟩ prog_5_method_32_code 3 (some .boolean), .methodLink "ArrowClassesLaw" 89 ⟨"ArrowClassesModel", "forget", "()I"⟩, .instanceMethod ⟨"ArrowClassesModel", "forget", "()I"⟩, .selects "ArrowClassesModel" ⟨"ArrowClassesModel", "forget", "()I"⟩ ⟨"ArrowClassesModel", "forget", "()I"⟩, .code ⟨"ArrowClassesModel", "forget", "()I"⟩ prog_5_method_33_code 3 (some .int), .methodLink "ArrowClassesLaw" 93 ⟨"ArrowClassesModel", "members", "()I"⟩, .instanceMethod ⟨"ArrowClassesModel", "members", "()I"⟩, .selects "ArrowClassesModel" ⟨"ArrowClassesModel", "members", "()I"⟩ ⟨"ArrowClassesModel", "members", "()I"⟩, .code ⟨"ArrowClassesModel", "members", "()I"⟩ prog_5_method_34_code 1 (some .int), .methodLink "ArrowClassesLaw" 97 ⟨"ArrowClassesModel", "first", "(II)Z"⟩, .instanceMethod ⟨"ArrowClassesModel", "first", "(II)Z"⟩, .selects "ArrowClassesModel" ⟨"ArrowClassesModel", "first", "(II)Z"⟩ ⟨"ArrowClassesModel", "first", "(II)Z"⟩, .code ⟨"ArrowClassesModel", "first", "(II)Z"⟩ prog_5_method_35_code 3 (some .boolean), .methodLink "ArrowClassesLaw" 101 ⟨"ArrowClassesModel", "turned", "()I"⟩, .instanceMethod ⟨"ArrowClassesModel", "turned", "()I"⟩, .selects "ArrowClassesModel" ⟨"ArrowClassesModel", "turned", "()I"⟩ ⟨"ArrowClassesModel", "turned", "()I"⟩, .code ⟨"ArrowClassesModel", "turned", "()I"⟩ prog_5_method_36_code 4 (some .int)]
def vzB : List Cond := vzB_0 ++ (vzB_1 ++ (vzB_2 ++ (vzB_3 ++ (vzB_4 ++ (vzB_5 ++ (vzB_6 ++ (vzB_7 ++ (vzB_8 ++ (vzB_9 ++ (vzB_10 ++ (vzB_11)))))))))))
theorem vzB_in0 {w : Cond} (h : w ∈ vzB_0) : w ∈ vzB := List.mem_append_left _ h
theorem vzB_in1 {w : Cond} (h : w ∈ vzB_1) : w ∈ vzB := List.mem_append_right _ (List.mem_append_left _ h)
theorem vzB_in2 {w : Cond} (h : w ∈ vzB_2) : w ∈ vzB := List.mem_append_right _ (List.mem_append_right _ (List.mem_append_left _ h))
theorem vzB_in3 {w : Cond} (h : w ∈ vzB_3) : w ∈ vzB := List.mem_append_right _ (List.mem_append_right _ (List.mem_append_right _ (List.mem_append_left _ h)))
theorem vzB_in4 {w : Cond} (h : w ∈ vzB_4) : w ∈ vzB := List.mem_append_right _ (List.mem_append_right _ (List.mem_append_right _ (List.mem_append_right _ (List.mem_append_left _ h))))
theorem vzB_in5 {w : Cond} (h : w ∈ vzB_5) : w ∈ vzB := List.mem_append_right _ (List.mem_append_right _ (List.mem_append_right _ (List.mem_append_right _ (List.mem_append_right _ (List.mem_append_left _ h)))))
theorem vzB_in6 {w : Cond} (h : w ∈ vzB_6) : w ∈ vzB := List.mem_append_right _ (List.mem_append_right _ (List.mem_append_right _ (List.mem_append_right _ (List.mem_append_right _ (List.mem_append_right _ (List.mem_append_left _ h))))))
theorem vzB_in7 {w : Cond} (h : w ∈ vzB_7) : w ∈ vzB := List.mem_append_right _ (List.mem_append_right _ (List.mem_append_right _ (List.mem_append_right _ (List.mem_append_right _ (List.mem_append_right _ (List.mem_append_right _ (List.mem_append_left _ h)))))))
theorem vzB_in8 {w : Cond} (h : w ∈ vzB_8) : w ∈ vzB := List.mem_append_right _ (List.mem_append_right _ (List.mem_append_right _ (List.mem_append_right _ (List.mem_append_right _ (List.mem_append_right _ (List.mem_append_right _ (List.mem_append_right _ (List.mem_append_left _ h))))))))
theorem vzB_in9 {w : Cond} (h : w ∈ vzB_9) : w ∈ vzB := List.mem_append_right _ (List.mem_append_right _ (List.mem_append_right _ (List.mem_append_right _ (List.mem_append_right _ (List.mem_append_right _ (List.mem_append_right _ (List.mem_append_right _ (List.mem_append_right _ (List.mem_append_left _ h)))))))))
theorem vzB_in10 {w : Cond} (h : w ∈ vzB_10) : w ∈ vzB := List.mem_append_right _ (List.mem_append_right _ (List.mem_append_right _ (List.mem_append_right _ (List.mem_append_right _ (List.mem_append_right _ (List.mem_append_right _ (List.mem_append_right _ (List.mem_append_right _ (List.mem_append_right _ (List.mem_append_left _ h))))))))))
theorem vzB_in11 {w : Cond} (h : w ∈ vzB_11) : w ∈ vzB := List.mem_append_right _ (List.mem_append_right _ (List.mem_append_right _ (List.mem_append_right _ (List.mem_append_right _ (List.mem_append_right _ (List.mem_append_right _ (List.mem_append_right _ (List.mem_append_right _ (List.mem_append_right _ (List.mem_append_right _ (h)))))))))))
theorem wd_ini_L : (.initialized "ArrowClassesLaw" : Cond) ∈ vzB := vzB_in0 (List.mem_of_getElem? (i := 0) rfl)
theorem wd_ini_A : (.initialized "ArrowClasses" : Cond) ∈ vzB := vzB_in0 (List.mem_of_getElem? (i := 1) rfl)
theorem wd_ini_K : (.initialized "ArrowClasses$Kindred" : Cond) ∈ vzB := vzB_in0 (List.mem_of_getElem? (i := 2) rfl)
theorem wd_ini_G : (.initialized "ArrowClasses$Graph" : Cond) ∈ vzB := vzB_in0 (List.mem_of_getElem? (i := 3) rfl)
theorem wd_ini_M : (.initialized "ArrowClassesModel" : Cond) ∈ vzB := vzB_in0 (List.mem_of_getElem? (i := 4) rfl)
theorem wd_ini_J : (.initialized "java/lang/Integer" : Cond) ∈ vzB := vzB_in0 (List.mem_of_getElem? (i := 5) rfl)
theorem wd_ini_H : (.initialized "java/lang/Math" : Cond) ∈ vzB := vzB_in0 (List.mem_of_getElem? (i := 6) rfl)
theorem wd_cl_L_7 : (.classLink "ArrowClassesLaw" 7 "ArrowClasses" : Cond) ∈ vzB := vzB_in0 (List.mem_of_getElem? (i := 7) rfl)
theorem wd_new_A : (.instantiable "ArrowClasses" 4 : Cond) ∈ vzB := vzB_in0 (List.mem_of_getElem? (i := 8) rfl)
theorem wd_link_L_15 : (.methodLink "ArrowClassesLaw" 15 ⟨"ArrowClasses", "<init>", "(I)V"⟩ : Cond) ∈ vzB := vzB_in0 (List.mem_of_getElem? (i := 9) rfl)
theorem wd_inst_A_init : (.instanceMethod ⟨"ArrowClasses", "<init>", "(I)V"⟩ : Cond) ∈ vzB := vzB_in0 (List.mem_of_getElem? (i := 10) rfl)
theorem wd_code_A_init : (.code ⟨"ArrowClasses", "<init>", "(I)V"⟩ prog_1_method_1_code 2 none : Cond) ∈ vzB := vzB_in0 (List.mem_of_getElem? (i := 11) rfl)
theorem wd_link_A_1 : (.methodLink "ArrowClasses" 1 ⟨"java/lang/Object", "<init>", "()V"⟩ : Cond) ∈ vzB := vzB_in0 (List.mem_of_getElem? (i := 12) rfl)
theorem wd_inst_O_init : (.instanceMethod ⟨"java/lang/Object", "<init>", "()V"⟩ : Cond) ∈ vzB := vzB_in0 (List.mem_of_getElem? (i := 13) rfl)
theorem wd_code_O_init : (.code ⟨"java/lang/Object", "<init>", "()V"⟩ object_method_1_code 1 none : Cond) ∈ vzB := vzB_in0 (List.mem_of_getElem? (i := 14) rfl)
theorem wd_cl_A_13 : (.classLink "ArrowClasses" 13 "ArrowClasses$Kindred" : Cond) ∈ vzB := vzB_in0 (List.mem_of_getElem? (i := 15) rfl)
theorem wd_new_K : (.instantiable "ArrowClasses$Kindred" 14 : Cond) ∈ vzB := vzB_in0 (List.mem_of_getElem? (i := 16) rfl)
theorem wd_link_A_15 : (.methodLink "ArrowClasses" 15 ⟨"ArrowClasses$Kindred", "<init>", "(I)V"⟩ : Cond) ∈ vzB := vzB_in0 (List.mem_of_getElem? (i := 17) rfl)
theorem wd_inst_K_init : (.instanceMethod ⟨"ArrowClasses$Kindred", "<init>", "(I)V"⟩ : Cond) ∈ vzB := vzB_in0 (List.mem_of_getElem? (i := 18) rfl)
theorem wd_code_K_init : (.code ⟨"ArrowClasses$Kindred", "<init>", "(I)V"⟩ prog_3_method_1_code 2 none : Cond) ∈ vzB := vzB_in0 (List.mem_of_getElem? (i := 19) rfl)
theorem wd_link_K_3 : (.methodLink "ArrowClasses$Kindred" 3 ⟨"java/lang/Object", "<init>", "()V"⟩ : Cond) ∈ vzB := vzB_in0 (List.mem_of_getElem? (i := 20) rfl)
theorem wd_cl_K_9 : (.classLink "ArrowClasses$Kindred" 9 "ArrowClasses$Graph" : Cond) ∈ vzB := vzB_in0 (List.mem_of_getElem? (i := 21) rfl)
theorem wd_new_G : (.instantiable "ArrowClasses$Graph" 3 : Cond) ∈ vzB := vzB_in0 (List.mem_of_getElem? (i := 22) rfl)
theorem wd_link_K_11 : (.methodLink "ArrowClasses$Kindred" 11 ⟨"ArrowClasses$Graph", "<init>", "(I)V"⟩ : Cond) ∈ vzB := vzB_in0 (List.mem_of_getElem? (i := 23) rfl)
theorem wd_inst_G_init : (.instanceMethod ⟨"ArrowClasses$Graph", "<init>", "(I)V"⟩ : Cond) ∈ vzB := vzB_in0 (List.mem_of_getElem? (i := 24) rfl)
theorem wd_code_G_init : (.code ⟨"ArrowClasses$Graph", "<init>", "(I)V"⟩ prog_2_method_1_code 2 none : Cond) ∈ vzB := vzB_in0 (List.mem_of_getElem? (i := 25) rfl)
theorem wd_link_G_1 : (.methodLink "ArrowClasses$Graph" 1 ⟨"java/lang/Object", "<init>", "()V"⟩ : Cond) ∈ vzB := vzB_in0 (List.mem_of_getElem? (i := 26) rfl)
theorem wd_fld_G_7 : (.fieldLink "ArrowClasses$Graph" 7 "ArrowClasses$Graph" "nodes" "I" : Cond) ∈ vzB := vzB_in0 (List.mem_of_getElem? (i := 27) rfl)
theorem wd_fld_K_50 : (.fieldLink "ArrowClasses$Kindred" 50 "ArrowClasses$Graph" "nodes" "I" : Cond) ∈ vzB := vzB_in0 (List.mem_of_getElem? (i := 28) rfl)
theorem wd_fld_G_13 : (.fieldLink "ArrowClasses$Graph" 13 "ArrowClasses$Graph" "parents" "[I" : Cond) ∈ vzB := vzB_in0 (List.mem_of_getElem? (i := 29) rfl)
theorem wd_fld_A_69 : (.fieldLink "ArrowClasses" 69 "ArrowClasses$Graph" "parents" "[I" : Cond) ∈ vzB := vzB_in0 (List.mem_of_getElem? (i := 30) rfl)
theorem wd_fld_G_17 : (.fieldLink "ArrowClasses$Graph" 17 "ArrowClasses$Graph" "children" "[I" : Cond) ∈ vzB := vzB_in0 (List.mem_of_getElem? (i := 31) rfl)
theorem wd_fld_A_73 : (.fieldLink "ArrowClasses" 73 "ArrowClasses$Graph" "children" "[I" : Cond) ∈ vzB := vzB_in0 (List.mem_of_getElem? (i := 32) rfl)
theorem wd_lay_G_nodes : (.laysFinal "ArrowClasses$Graph" "ArrowClasses$Graph" "nodes" "I" : Cond) ∈ vzB := vzB_in0 (List.mem_of_getElem? (i := 33) rfl)
theorem wd_lay_G_parents : (.laysFinal "ArrowClasses$Graph" "ArrowClasses$Graph" "parents" "[I" : Cond) ∈ vzB := vzB_in0 (List.mem_of_getElem? (i := 34) rfl)
theorem wd_lay_G_children : (.laysFinal "ArrowClasses$Graph" "ArrowClasses$Graph" "children" "[I" : Cond) ∈ vzB := vzB_in0 (List.mem_of_getElem? (i := 35) rfl)
theorem wd_arr_int : (.arrayClass .int : Cond) ∈ vzB := vzB_in0 (List.mem_of_getElem? (i := 36) rfl)
theorem wd_fld_K_14 : (.fieldLink "ArrowClasses$Kindred" 14 "ArrowClasses$Kindred" "drawn" "LArrowClasses$Graph;" : Cond) ∈ vzB := vzB_in0 (List.mem_of_getElem? (i := 37) rfl)
theorem wd_fld_A_22 : (.fieldLink "ArrowClasses" 22 "ArrowClasses$Kindred" "drawn" "LArrowClasses$Graph;" : Cond) ∈ vzB := vzB_in0 (List.mem_of_getElem? (i := 38) rfl)
theorem wd_fld_K_20 : (.fieldLink "ArrowClasses$Kindred" 20 "ArrowClasses$Kindred" "tried" "LArrowClasses$Graph;" : Cond) ∈ vzB := vzB_in0 (List.mem_of_getElem? (i := 39) rfl)
theorem wd_fld_K_23 : (.fieldLink "ArrowClasses$Kindred" 23 "ArrowClasses$Kindred" "lows" "[I" : Cond) ∈ vzB := vzB_in1 (List.mem_of_getElem? (i := 0) rfl)
theorem wd_fld_K_27 : (.fieldLink "ArrowClasses$Kindred" 27 "ArrowClasses$Kindred" "highs" "[I" : Cond) ∈ vzB := vzB_in1 (List.mem_of_getElem? (i := 1) rfl)
theorem wd_fld_K_30 : (.fieldLink "ArrowClasses$Kindred" 30 "ArrowClasses$Kindred" "pairs" "I" : Cond) ∈ vzB := vzB_in1 (List.mem_of_getElem? (i := 2) rfl)
theorem wd_fld_K_34 : (.fieldLink "ArrowClasses$Kindred" 34 "ArrowClasses$Kindred" "drawnCode" "I" : Cond) ∈ vzB := vzB_in1 (List.mem_of_getElem? (i := 3) rfl)
theorem wd_fld_K_37 : (.fieldLink "ArrowClasses$Kindred" 37 "ArrowClasses$Kindred" "collidingBits" "I" : Cond) ∈ vzB := vzB_in1 (List.mem_of_getElem? (i := 4) rfl)
theorem wd_fld_K_40 : (.fieldLink "ArrowClasses$Kindred" 40 "ArrowClasses$Kindred" "knownBits" "I" : Cond) ∈ vzB := vzB_in1 (List.mem_of_getElem? (i := 5) rfl)
theorem wd_fld_K_43 : (.fieldLink "ArrowClasses$Kindred" 43 "ArrowClasses$Kindred" "knownCode" "I" : Cond) ∈ vzB := vzB_in1 (List.mem_of_getElem? (i := 6) rfl)
theorem wd_fld_K_46 : (.fieldLink "ArrowClasses$Kindred" 46 "ArrowClasses$Kindred" "gathered" "Z" : Cond) ∈ vzB := vzB_in1 (List.mem_of_getElem? (i := 7) rfl)
theorem wd_fld_K_71 : (.fieldLink "ArrowClasses$Kindred" 71 "ArrowClasses$Kindred" "count" "I" : Cond) ∈ vzB := vzB_in1 (List.mem_of_getElem? (i := 8) rfl)
theorem wd_fld_K_83 : (.fieldLink "ArrowClasses$Kindred" 83 "ArrowClasses$Kindred" "firstCode" "I" : Cond) ∈ vzB := vzB_in1 (List.mem_of_getElem? (i := 9) rfl)
theorem wd_fld_K_80 : (.fieldLink "ArrowClasses$Kindred" 80 "ArrowClasses$Kindred" "someFalling" "I" : Cond) ∈ vzB := vzB_in1 (List.mem_of_getElem? (i := 10) rfl)
theorem wd_fld_K_77 : (.fieldLink "ArrowClasses$Kindred" 77 "ArrowClasses$Kindred" "allFalling" "I" : Cond) ∈ vzB := vzB_in1 (List.mem_of_getElem? (i := 11) rfl)
theorem wd_lay_K_drawn : (.laysFinal "ArrowClasses$Kindred" "ArrowClasses$Kindred" "drawn" "LArrowClasses$Graph;" : Cond) ∈ vzB := vzB_in1 (List.mem_of_getElem? (i := 12) rfl)
theorem wd_lay_K_tried : (.laysFinal "ArrowClasses$Kindred" "ArrowClasses$Kindred" "tried" "LArrowClasses$Graph;" : Cond) ∈ vzB := vzB_in1 (List.mem_of_getElem? (i := 13) rfl)
theorem wd_lay_K_lows : (.laysFinal "ArrowClasses$Kindred" "ArrowClasses$Kindred" "lows" "[I" : Cond) ∈ vzB := vzB_in1 (List.mem_of_getElem? (i := 14) rfl)
theorem wd_lay_K_highs : (.laysFinal "ArrowClasses$Kindred" "ArrowClasses$Kindred" "highs" "[I" : Cond) ∈ vzB := vzB_in1 (List.mem_of_getElem? (i := 15) rfl)
theorem wd_lay_K_pairs : (.lays "ArrowClasses$Kindred" "ArrowClasses$Kindred" "pairs" "I" : Cond) ∈ vzB := vzB_in1 (List.mem_of_getElem? (i := 16) rfl)
theorem wd_lay_K_drawnCode : (.lays "ArrowClasses$Kindred" "ArrowClasses$Kindred" "drawnCode" "I" : Cond) ∈ vzB := vzB_in1 (List.mem_of_getElem? (i := 17) rfl)
theorem wd_lay_K_collidingBits : (.lays "ArrowClasses$Kindred" "ArrowClasses$Kindred" "collidingBits" "I" : Cond) ∈ vzB := vzB_in1 (List.mem_of_getElem? (i := 18) rfl)
theorem wd_lay_K_knownBits : (.lays "ArrowClasses$Kindred" "ArrowClasses$Kindred" "knownBits" "I" : Cond) ∈ vzB := vzB_in1 (List.mem_of_getElem? (i := 19) rfl)
theorem wd_lay_K_knownCode : (.lays "ArrowClasses$Kindred" "ArrowClasses$Kindred" "knownCode" "I" : Cond) ∈ vzB := vzB_in1 (List.mem_of_getElem? (i := 20) rfl)
theorem wd_lay_K_gathered : (.lays "ArrowClasses$Kindred" "ArrowClasses$Kindred" "gathered" "Z" : Cond) ∈ vzB := vzB_in1 (List.mem_of_getElem? (i := 21) rfl)
theorem wd_lay_K_count : (.lays "ArrowClasses$Kindred" "ArrowClasses$Kindred" "count" "I" : Cond) ∈ vzB := vzB_in1 (List.mem_of_getElem? (i := 22) rfl)
theorem wd_lay_K_firstCode : (.lays "ArrowClasses$Kindred" "ArrowClasses$Kindred" "firstCode" "I" : Cond) ∈ vzB := vzB_in1 (List.mem_of_getElem? (i := 23) rfl)
theorem wd_lay_K_someFalling : (.lays "ArrowClasses$Kindred" "ArrowClasses$Kindred" "someFalling" "I" : Cond) ∈ vzB := vzB_in1 (List.mem_of_getElem? (i := 24) rfl)
theorem wd_lay_K_allFalling : (.lays "ArrowClasses$Kindred" "ArrowClasses$Kindred" "allFalling" "I" : Cond) ∈ vzB := vzB_in1 (List.mem_of_getElem? (i := 25) rfl)
theorem wd_fld_A_9 : (.fieldLink "ArrowClasses" 9 "ArrowClasses" "nodes" "I" : Cond) ∈ vzB := vzB_in1 (List.mem_of_getElem? (i := 26) rfl)
theorem wd_fld_A_18 : (.fieldLink "ArrowClasses" 18 "ArrowClasses" "kindred" "LArrowClasses$Kindred;" : Cond) ∈ vzB := vzB_in1 (List.mem_of_getElem? (i := 27) rfl)
theorem wd_fld_A_26 : (.fieldLink "ArrowClasses" 26 "ArrowClasses" "graph" "LArrowClasses$Graph;" : Cond) ∈ vzB := vzB_in1 (List.mem_of_getElem? (i := 28) rfl)
theorem wd_fld_A_29 : (.fieldLink "ArrowClasses" 29 "ArrowClasses" "separationCount" "I" : Cond) ∈ vzB := vzB_in1 (List.mem_of_getElem? (i := 29) rfl)
theorem wd_lay_A_nodes : (.laysFinal "ArrowClasses" "ArrowClasses" "nodes" "I" : Cond) ∈ vzB := vzB_in1 (List.mem_of_getElem? (i := 30) rfl)
theorem wd_lay_A_kindred : (.laysFinal "ArrowClasses" "ArrowClasses" "kindred" "LArrowClasses$Kindred;" : Cond) ∈ vzB := vzB_in1 (List.mem_of_getElem? (i := 31) rfl)
theorem wd_lay_A_graph : (.laysFinal "ArrowClasses" "ArrowClasses" "graph" "LArrowClasses$Graph;" : Cond) ∈ vzB := vzB_in1 (List.mem_of_getElem? (i := 32) rfl)
theorem wd_lay_A_separationCount : (.lays "ArrowClasses" "ArrowClasses" "separationCount" "I" : Cond) ∈ vzB := vzB_in1 (List.mem_of_getElem? (i := 33) rfl)
theorem wd_link_L_21 : (.methodLink "ArrowClassesLaw" 21 ⟨"ArrowClasses", "arrow", "(II)Z"⟩ : Cond) ∈ vzB := vzB_in1 (List.mem_of_getElem? (i := 34) rfl)
theorem wd_inst_A_arrow : (.instanceMethod ⟨"ArrowClasses", "arrow", "(II)Z"⟩ : Cond) ∈ vzB := vzB_in1 (List.mem_of_getElem? (i := 35) rfl)
theorem wd_sel_A_arrow : (.selects "ArrowClasses" ⟨"ArrowClasses", "arrow", "(II)Z"⟩ ⟨"ArrowClasses", "arrow", "(II)Z"⟩ : Cond) ∈ vzB := vzB_in1 (List.mem_of_getElem? (i := 36) rfl)
theorem wd_code_A_arrow : (.code ⟨"ArrowClasses", "arrow", "(II)Z"⟩ prog_1_method_2_code 3 (some .boolean) : Cond) ∈ vzB := vzB_in1 (List.mem_of_getElem? (i := 37) rfl)
theorem wd_link_A_32 : (.methodLink "ArrowClasses" 32 ⟨"ArrowClasses", "isPair", "(II)Z"⟩ : Cond) ∈ vzB := vzB_in1 (List.mem_of_getElem? (i := 38) rfl)
theorem wd_sel_A_isPair : (.selects "ArrowClasses" ⟨"ArrowClasses", "isPair", "(II)Z"⟩ ⟨"ArrowClasses", "isPair", "(II)Z"⟩ : Cond) ∈ vzB := vzB_in1 (List.mem_of_getElem? (i := 39) rfl)
theorem wd_inst_A_isPair : (.instanceMethod ⟨"ArrowClasses", "isPair", "(II)Z"⟩ : Cond) ∈ vzB := vzB_in2 (List.mem_of_getElem? (i := 0) rfl)
theorem wd_code_A_isPair : (.code ⟨"ArrowClasses", "isPair", "(II)Z"⟩ prog_1_method_22_code 3 (some .boolean) : Cond) ∈ vzB := vzB_in2 (List.mem_of_getElem? (i := 1) rfl)
theorem wd_link_A_65 : (.methodLink "ArrowClasses" 65 ⟨"ArrowClasses", "isNode", "(I)Z"⟩ : Cond) ∈ vzB := vzB_in2 (List.mem_of_getElem? (i := 2) rfl)
theorem wd_sel_A_isNode : (.selects "ArrowClasses" ⟨"ArrowClasses", "isNode", "(I)Z"⟩ ⟨"ArrowClasses", "isNode", "(I)Z"⟩ : Cond) ∈ vzB := vzB_in2 (List.mem_of_getElem? (i := 3) rfl)
theorem wd_inst_A_isNode : (.instanceMethod ⟨"ArrowClasses", "isNode", "(I)Z"⟩ : Cond) ∈ vzB := vzB_in2 (List.mem_of_getElem? (i := 4) rfl)
theorem wd_code_A_isNode : (.code ⟨"ArrowClasses", "isNode", "(I)Z"⟩ prog_1_method_21_code 2 (some .boolean) : Cond) ∈ vzB := vzB_in2 (List.mem_of_getElem? (i := 5) rfl)
theorem wd_link_A_36 : (.methodLink "ArrowClasses" 36 ⟨"ArrowClasses$Graph", "joins", "(II)Z"⟩ : Cond) ∈ vzB := vzB_in2 (List.mem_of_getElem? (i := 6) rfl)
theorem wd_inst_G_joins : (.instanceMethod ⟨"ArrowClasses$Graph", "joins", "(II)Z"⟩ : Cond) ∈ vzB := vzB_in2 (List.mem_of_getElem? (i := 7) rfl)
theorem wd_sel_G_joins : (.selects "ArrowClasses$Graph" ⟨"ArrowClasses$Graph", "joins", "(II)Z"⟩ ⟨"ArrowClasses$Graph", "joins", "(II)Z"⟩ : Cond) ∈ vzB := vzB_in2 (List.mem_of_getElem? (i := 8) rfl)
theorem wd_code_G_joins : (.code ⟨"ArrowClasses$Graph", "joins", "(II)Z"⟩ prog_2_method_3_code 3 (some .boolean) : Cond) ∈ vzB := vzB_in2 (List.mem_of_getElem? (i := 9) rfl)
theorem wd_link_G_26 : (.methodLink "ArrowClasses$Graph" 26 ⟨"ArrowClasses$Graph", "has", "(II)Z"⟩ : Cond) ∈ vzB := vzB_in2 (List.mem_of_getElem? (i := 10) rfl)
theorem wd_inst_G_has : (.instanceMethod ⟨"ArrowClasses$Graph", "has", "(II)Z"⟩ : Cond) ∈ vzB := vzB_in2 (List.mem_of_getElem? (i := 11) rfl)
theorem wd_sel_G_has : (.selects "ArrowClasses$Graph" ⟨"ArrowClasses$Graph", "has", "(II)Z"⟩ ⟨"ArrowClasses$Graph", "has", "(II)Z"⟩ : Cond) ∈ vzB := vzB_in2 (List.mem_of_getElem? (i := 12) rfl)
theorem wd_code_G_has : (.code ⟨"ArrowClasses$Graph", "has", "(II)Z"⟩ prog_2_method_2_code 3 (some .boolean) : Cond) ∈ vzB := vzB_in2 (List.mem_of_getElem? (i := 13) rfl)
theorem wd_stat_A_holds : (.static ⟨"ArrowClasses", "holds", "(II)Z"⟩ : Cond) ∈ vzB := vzB_in2 (List.mem_of_getElem? (i := 14) rfl)
theorem wd_code_A_holds : (.code ⟨"ArrowClasses", "holds", "(II)Z"⟩ prog_1_method_25_code 2 (some .boolean) : Cond) ∈ vzB := vzB_in2 (List.mem_of_getElem? (i := 15) rfl)
theorem wd_link_A_41 : (.methodLink "ArrowClasses" 41 ⟨"ArrowClasses$Graph", "size", "()I"⟩ : Cond) ∈ vzB := vzB_in2 (List.mem_of_getElem? (i := 16) rfl)
theorem wd_inst_G_size : (.instanceMethod ⟨"ArrowClasses$Graph", "size", "()I"⟩ : Cond) ∈ vzB := vzB_in2 (List.mem_of_getElem? (i := 17) rfl)
theorem wd_sel_G_size : (.selects "ArrowClasses$Graph" ⟨"ArrowClasses$Graph", "size", "()I"⟩ ⟨"ArrowClasses$Graph", "size", "()I"⟩ : Cond) ∈ vzB := vzB_in2 (List.mem_of_getElem? (i := 18) rfl)
theorem wd_code_G_size : (.code ⟨"ArrowClasses$Graph", "size", "()I"⟩ prog_2_method_7_code 3 (some .int) : Cond) ∈ vzB := vzB_in2 (List.mem_of_getElem? (i := 19) rfl)
theorem wd_link_G_29 : (.methodLink "ArrowClasses$Graph" 29 ⟨"java/lang/Integer", "bitCount", "(I)I"⟩ : Cond) ∈ vzB := vzB_in2 (List.mem_of_getElem? (i := 20) rfl)
theorem wd_stat_J_bitCount : (.static ⟨"java/lang/Integer", "bitCount", "(I)I"⟩ : Cond) ∈ vzB := vzB_in2 (List.mem_of_getElem? (i := 21) rfl)
theorem wd_code_J_bitCount : (.code ⟨"java/lang/Integer", "bitCount", "(I)I"⟩ prog_6_method_49_code 1 (some .int) : Cond) ∈ vzB := vzB_in2 (List.mem_of_getElem? (i := 22) rfl)
theorem wd_con_265 : (.constant "java/lang/Integer" 265 1431655765 : Cond) ∈ vzB := vzB_in2 (List.mem_of_getElem? (i := 23) rfl)
theorem wd_con_266 : (.constant "java/lang/Integer" 266 858993459 : Cond) ∈ vzB := vzB_in2 (List.mem_of_getElem? (i := 24) rfl)
theorem wd_con_267 : (.constant "java/lang/Integer" 267 252645135 : Cond) ∈ vzB := vzB_in2 (List.mem_of_getElem? (i := 25) rfl)
theorem wd_link_A_45 : (.methodLink "ArrowClasses" 45 ⟨"ArrowClasses$Graph", "reachOf", "(I)I"⟩ : Cond) ∈ vzB := vzB_in2 (List.mem_of_getElem? (i := 26) rfl)
theorem wd_inst_G_reachOf : (.instanceMethod ⟨"ArrowClasses$Graph", "reachOf", "(I)I"⟩ : Cond) ∈ vzB := vzB_in2 (List.mem_of_getElem? (i := 27) rfl)
theorem wd_sel_G_reachOf : (.selects "ArrowClasses$Graph" ⟨"ArrowClasses$Graph", "reachOf", "(I)I"⟩ ⟨"ArrowClasses$Graph", "reachOf", "(I)I"⟩ : Cond) ∈ vzB := vzB_in2 (List.mem_of_getElem? (i := 28) rfl)
theorem wd_code_G_reachOf : (.code ⟨"ArrowClasses$Graph", "reachOf", "(I)I"⟩ prog_2_method_8_code 5 (some .int) : Cond) ∈ vzB := vzB_in2 (List.mem_of_getElem? (i := 29) rfl)
theorem wd_link_A_49 : (.methodLink "ArrowClasses" 49 ⟨"ArrowClasses", "holds", "(II)Z"⟩ : Cond) ∈ vzB := vzB_in2 (List.mem_of_getElem? (i := 30) rfl)
theorem wd_link_A_52 : (.methodLink "ArrowClasses" 52 ⟨"ArrowClasses$Graph", "put", "(II)V"⟩ : Cond) ∈ vzB := vzB_in2 (List.mem_of_getElem? (i := 31) rfl)
theorem wd_inst_G_put : (.instanceMethod ⟨"ArrowClasses$Graph", "put", "(II)V"⟩ : Cond) ∈ vzB := vzB_in2 (List.mem_of_getElem? (i := 32) rfl)
theorem wd_sel_G_put : (.selects "ArrowClasses$Graph" ⟨"ArrowClasses$Graph", "put", "(II)V"⟩ ⟨"ArrowClasses$Graph", "put", "(II)V"⟩ : Cond) ∈ vzB := vzB_in2 (List.mem_of_getElem? (i := 33) rfl)
theorem wd_code_G_put : (.code ⟨"ArrowClasses$Graph", "put", "(II)V"⟩ prog_2_method_4_code 3 none : Cond) ∈ vzB := vzB_in2 (List.mem_of_getElem? (i := 34) rfl)
theorem wd_link_A_56 : (.methodLink "ArrowClasses" 56 ⟨"ArrowClasses", "noteChange", "()V"⟩ : Cond) ∈ vzB := vzB_in2 (List.mem_of_getElem? (i := 35) rfl)
theorem wd_sel_A_noteChange : (.selects "ArrowClasses" ⟨"ArrowClasses", "noteChange", "()V"⟩ ⟨"ArrowClasses", "noteChange", "()V"⟩ : Cond) ∈ vzB := vzB_in2 (List.mem_of_getElem? (i := 36) rfl)
theorem wd_inst_A_noteChange : (.instanceMethod ⟨"ArrowClasses", "noteChange", "()V"⟩ : Cond) ∈ vzB := vzB_in2 (List.mem_of_getElem? (i := 37) rfl)
theorem wd_code_A_noteChange : (.code ⟨"ArrowClasses", "noteChange", "()V"⟩ prog_1_method_23_code 1 none : Cond) ∈ vzB := vzB_in2 (List.mem_of_getElem? (i := 38) rfl)
theorem wd_link_A_116 : (.methodLink "ArrowClasses" 116 ⟨"ArrowClasses$Kindred", "restart", "()V"⟩ : Cond) ∈ vzB := vzB_in2 (List.mem_of_getElem? (i := 39) rfl)
theorem wd_inst_K_restart : (.instanceMethod ⟨"ArrowClasses$Kindred", "restart", "()V"⟩ : Cond) ∈ vzB := vzB_in3 (List.mem_of_getElem? (i := 0) rfl)
theorem wd_sel_K_restart : (.selects "ArrowClasses$Kindred" ⟨"ArrowClasses$Kindred", "restart", "()V"⟩ ⟨"ArrowClasses$Kindred", "restart", "()V"⟩ : Cond) ∈ vzB := vzB_in3 (List.mem_of_getElem? (i := 1) rfl)
theorem wd_code_K_restart : (.code ⟨"ArrowClasses$Kindred", "restart", "()V"⟩ prog_3_method_2_code 3 none : Cond) ∈ vzB := vzB_in3 (List.mem_of_getElem? (i := 2) rfl)
theorem wd_link_K_53 : (.methodLink "ArrowClasses$Kindred" 53 ⟨"ArrowClasses$Graph", "joins", "(II)Z"⟩ : Cond) ∈ vzB := vzB_in3 (List.mem_of_getElem? (i := 3) rfl)
theorem wd_link_K_57 : (.methodLink "ArrowClasses$Kindred" 57 ⟨"ArrowClasses$Kindred", "listPair", "(II)V"⟩ : Cond) ∈ vzB := vzB_in3 (List.mem_of_getElem? (i := 4) rfl)
theorem wd_sel_K_listPair : (.selects "ArrowClasses$Kindred" ⟨"ArrowClasses$Kindred", "listPair", "(II)V"⟩ ⟨"ArrowClasses$Kindred", "listPair", "(II)V"⟩ : Cond) ∈ vzB := vzB_in3 (List.mem_of_getElem? (i := 5) rfl)
theorem wd_inst_K_listPair : (.instanceMethod ⟨"ArrowClasses$Kindred", "listPair", "(II)V"⟩ : Cond) ∈ vzB := vzB_in3 (List.mem_of_getElem? (i := 6) rfl)
theorem wd_code_K_listPair : (.code ⟨"ArrowClasses$Kindred", "listPair", "(II)V"⟩ prog_3_method_3_code 4 none : Cond) ∈ vzB := vzB_in3 (List.mem_of_getElem? (i := 7) rfl)
theorem wd_link_K_61 : (.methodLink "ArrowClasses$Kindred" 61 ⟨"ArrowClasses$Graph", "strangers", "(II)I"⟩ : Cond) ∈ vzB := vzB_in3 (List.mem_of_getElem? (i := 8) rfl)
theorem wd_inst_G_strangers : (.instanceMethod ⟨"ArrowClasses$Graph", "strangers", "(II)I"⟩ : Cond) ∈ vzB := vzB_in3 (List.mem_of_getElem? (i := 9) rfl)
theorem wd_sel_G_strangers : (.selects "ArrowClasses$Graph" ⟨"ArrowClasses$Graph", "strangers", "(II)I"⟩ ⟨"ArrowClasses$Graph", "strangers", "(II)I"⟩ : Cond) ∈ vzB := vzB_in3 (List.mem_of_getElem? (i := 10) rfl)
theorem wd_code_G_strangers : (.code ⟨"ArrowClasses$Graph", "strangers", "(II)I"⟩ prog_2_method_10_code 3 (some .int) : Cond) ∈ vzB := vzB_in3 (List.mem_of_getElem? (i := 11) rfl)
theorem wd_link_K_65 : (.methodLink "ArrowClasses$Kindred" 65 ⟨"ArrowClasses$Graph", "has", "(II)Z"⟩ : Cond) ∈ vzB := vzB_in3 (List.mem_of_getElem? (i := 12) rfl)
theorem wd_link_L_26 : (.methodLink "ArrowClassesLaw" 26 ⟨"ArrowClasses", "erase", "(II)Z"⟩ : Cond) ∈ vzB := vzB_in3 (List.mem_of_getElem? (i := 13) rfl)
theorem wd_inst_A_erase : (.instanceMethod ⟨"ArrowClasses", "erase", "(II)Z"⟩ : Cond) ∈ vzB := vzB_in3 (List.mem_of_getElem? (i := 14) rfl)
theorem wd_sel_A_erase : (.selects "ArrowClasses" ⟨"ArrowClasses", "erase", "(II)Z"⟩ ⟨"ArrowClasses", "erase", "(II)Z"⟩ : Cond) ∈ vzB := vzB_in3 (List.mem_of_getElem? (i := 15) rfl)
theorem wd_code_A_erase : (.code ⟨"ArrowClasses", "erase", "(II)Z"⟩ prog_1_method_3_code 3 (some .boolean) : Cond) ∈ vzB := vzB_in3 (List.mem_of_getElem? (i := 16) rfl)
theorem wd_link_A_59 : (.methodLink "ArrowClasses" 59 ⟨"ArrowClasses$Graph", "has", "(II)Z"⟩ : Cond) ∈ vzB := vzB_in3 (List.mem_of_getElem? (i := 17) rfl)
theorem wd_link_A_62 : (.methodLink "ArrowClasses" 62 ⟨"ArrowClasses$Graph", "take", "(II)V"⟩ : Cond) ∈ vzB := vzB_in3 (List.mem_of_getElem? (i := 18) rfl)
theorem wd_inst_G_take : (.instanceMethod ⟨"ArrowClasses$Graph", "take", "(II)V"⟩ : Cond) ∈ vzB := vzB_in3 (List.mem_of_getElem? (i := 19) rfl)
theorem wd_sel_G_take : (.selects "ArrowClasses$Graph" ⟨"ArrowClasses$Graph", "take", "(II)V"⟩ ⟨"ArrowClasses$Graph", "take", "(II)V"⟩ : Cond) ∈ vzB := vzB_in3 (List.mem_of_getElem? (i := 20) rfl)
theorem wd_code_G_take : (.code ⟨"ArrowClasses$Graph", "take", "(II)V"⟩ prog_2_method_5_code 3 none : Cond) ∈ vzB := vzB_in3 (List.mem_of_getElem? (i := 21) rfl)
theorem wd_link_L_30 : (.methodLink "ArrowClassesLaw" 30 ⟨"ArrowClasses", "turn", "(II)Z"⟩ : Cond) ∈ vzB := vzB_in3 (List.mem_of_getElem? (i := 22) rfl)
theorem wd_inst_A_turn : (.instanceMethod ⟨"ArrowClasses", "turn", "(II)Z"⟩ : Cond) ∈ vzB := vzB_in3 (List.mem_of_getElem? (i := 23) rfl)
theorem wd_sel_A_turn : (.selects "ArrowClasses" ⟨"ArrowClasses", "turn", "(II)Z"⟩ ⟨"ArrowClasses", "turn", "(II)Z"⟩ : Cond) ∈ vzB := vzB_in3 (List.mem_of_getElem? (i := 24) rfl)
theorem wd_code_A_turn : (.code ⟨"ArrowClasses", "turn", "(II)Z"⟩ prog_1_method_4_code 3 (some .boolean) : Cond) ∈ vzB := vzB_in3 (List.mem_of_getElem? (i := 25) rfl)
theorem wd_link_L_34 : (.methodLink "ArrowClassesLaw" 34 ⟨"ArrowClasses", "drawn", "(II)Z"⟩ : Cond) ∈ vzB := vzB_in3 (List.mem_of_getElem? (i := 26) rfl)
theorem wd_inst_A_drawn : (.instanceMethod ⟨"ArrowClasses", "drawn", "(II)Z"⟩ : Cond) ∈ vzB := vzB_in3 (List.mem_of_getElem? (i := 27) rfl)
theorem wd_sel_A_drawn : (.selects "ArrowClasses" ⟨"ArrowClasses", "drawn", "(II)Z"⟩ ⟨"ArrowClasses", "drawn", "(II)Z"⟩ : Cond) ∈ vzB := vzB_in3 (List.mem_of_getElem? (i := 28) rfl)
theorem wd_code_A_drawn : (.code ⟨"ArrowClasses", "drawn", "(II)Z"⟩ prog_1_method_5_code 3 (some .boolean) : Cond) ∈ vzB := vzB_in3 (List.mem_of_getElem? (i := 29) rfl)
theorem wd_link_L_38 : (.methodLink "ArrowClassesLaw" 38 ⟨"ArrowClasses", "parents", "(I)I"⟩ : Cond) ∈ vzB := vzB_in3 (List.mem_of_getElem? (i := 30) rfl)
theorem wd_inst_A_parents : (.instanceMethod ⟨"ArrowClasses", "parents", "(I)I"⟩ : Cond) ∈ vzB := vzB_in3 (List.mem_of_getElem? (i := 31) rfl)
theorem wd_sel_A_parents : (.selects "ArrowClasses" ⟨"ArrowClasses", "parents", "(I)I"⟩ ⟨"ArrowClasses", "parents", "(I)I"⟩ : Cond) ∈ vzB := vzB_in3 (List.mem_of_getElem? (i := 32) rfl)
theorem wd_code_A_parents : (.code ⟨"ArrowClasses", "parents", "(I)I"⟩ prog_1_method_6_code 2 (some .int) : Cond) ∈ vzB := vzB_in3 (List.mem_of_getElem? (i := 33) rfl)
theorem wd_link_L_43 : (.methodLink "ArrowClassesLaw" 43 ⟨"ArrowClasses", "reached", "(I)I"⟩ : Cond) ∈ vzB := vzB_in3 (List.mem_of_getElem? (i := 34) rfl)
theorem wd_inst_A_reached : (.instanceMethod ⟨"ArrowClasses", "reached", "(I)I"⟩ : Cond) ∈ vzB := vzB_in3 (List.mem_of_getElem? (i := 35) rfl)
theorem wd_sel_A_reached : (.selects "ArrowClasses" ⟨"ArrowClasses", "reached", "(I)I"⟩ ⟨"ArrowClasses", "reached", "(I)I"⟩ : Cond) ∈ vzB := vzB_in3 (List.mem_of_getElem? (i := 36) rfl)
theorem wd_code_A_reached : (.code ⟨"ArrowClasses", "reached", "(I)I"⟩ prog_1_method_7_code 2 (some .int) : Cond) ∈ vzB := vzB_in3 (List.mem_of_getElem? (i := 37) rfl)
theorem wd_link_L_47 : (.methodLink "ArrowClassesLaw" 47 ⟨"ArrowClasses", "around", "(I)I"⟩ : Cond) ∈ vzB := vzB_in3 (List.mem_of_getElem? (i := 38) rfl)
theorem wd_inst_A_around : (.instanceMethod ⟨"ArrowClasses", "around", "(I)I"⟩ : Cond) ∈ vzB := vzB_in3 (List.mem_of_getElem? (i := 39) rfl)
theorem wd_sel_A_around : (.selects "ArrowClasses" ⟨"ArrowClasses", "around", "(I)I"⟩ ⟨"ArrowClasses", "around", "(I)I"⟩ : Cond) ∈ vzB := vzB_in4 (List.mem_of_getElem? (i := 0) rfl)
theorem wd_code_A_around : (.code ⟨"ArrowClasses", "around", "(I)I"⟩ prog_1_method_8_code 4 (some .int) : Cond) ∈ vzB := vzB_in4 (List.mem_of_getElem? (i := 1) rfl)
theorem wd_link_L_51 : (.methodLink "ArrowClassesLaw" 51 ⟨"ArrowClasses", "collisions", "()I"⟩ : Cond) ∈ vzB := vzB_in4 (List.mem_of_getElem? (i := 2) rfl)
theorem wd_inst_A_collisions : (.instanceMethod ⟨"ArrowClasses", "collisions", "()I"⟩ : Cond) ∈ vzB := vzB_in4 (List.mem_of_getElem? (i := 3) rfl)
theorem wd_sel_A_collisions : (.selects "ArrowClasses" ⟨"ArrowClasses", "collisions", "()I"⟩ ⟨"ArrowClasses", "collisions", "()I"⟩ : Cond) ∈ vzB := vzB_in4 (List.mem_of_getElem? (i := 4) rfl)
theorem wd_code_A_collisions : (.code ⟨"ArrowClasses", "collisions", "()I"⟩ prog_1_method_9_code 4 (some .int) : Cond) ∈ vzB := vzB_in4 (List.mem_of_getElem? (i := 5) rfl)
theorem wd_link_A_76 : (.methodLink "ArrowClasses" 76 ⟨"ArrowClasses$Graph", "strangers", "(II)I"⟩ : Cond) ∈ vzB := vzB_in4 (List.mem_of_getElem? (i := 6) rfl)
theorem wd_link_A_80 : (.methodLink "ArrowClasses" 80 ⟨"java/lang/Integer", "bitCount", "(I)I"⟩ : Cond) ∈ vzB := vzB_in4 (List.mem_of_getElem? (i := 7) rfl)
theorem wd_link_L_56 : (.methodLink "ArrowClassesLaw" 56 ⟨"ArrowClasses", "covered", "(II)Z"⟩ : Cond) ∈ vzB := vzB_in4 (List.mem_of_getElem? (i := 8) rfl)
theorem wd_inst_A_covered : (.instanceMethod ⟨"ArrowClasses", "covered", "(II)Z"⟩ : Cond) ∈ vzB := vzB_in4 (List.mem_of_getElem? (i := 9) rfl)
theorem wd_sel_A_covered : (.selects "ArrowClasses" ⟨"ArrowClasses", "covered", "(II)Z"⟩ ⟨"ArrowClasses", "covered", "(II)Z"⟩ : Cond) ∈ vzB := vzB_in4 (List.mem_of_getElem? (i := 10) rfl)
theorem wd_code_A_covered : (.code ⟨"ArrowClasses", "covered", "(II)Z"⟩ prog_1_method_10_code 3 (some .boolean) : Cond) ∈ vzB := vzB_in4 (List.mem_of_getElem? (i := 11) rfl)
theorem wd_link_A_85 : (.methodLink "ArrowClasses" 85 ⟨"ArrowClasses", "drawn", "(II)Z"⟩ : Cond) ∈ vzB := vzB_in4 (List.mem_of_getElem? (i := 12) rfl)
theorem wd_link_L_60 : (.methodLink "ArrowClassesLaw" 60 ⟨"ArrowClasses", "separated", "(III)Z"⟩ : Cond) ∈ vzB := vzB_in4 (List.mem_of_getElem? (i := 13) rfl)
theorem wd_inst_A_separated : (.instanceMethod ⟨"ArrowClasses", "separated", "(III)Z"⟩ : Cond) ∈ vzB := vzB_in4 (List.mem_of_getElem? (i := 14) rfl)
theorem wd_sel_A_separated : (.selects "ArrowClasses" ⟨"ArrowClasses", "separated", "(III)Z"⟩ ⟨"ArrowClasses", "separated", "(III)Z"⟩ : Cond) ∈ vzB := vzB_in4 (List.mem_of_getElem? (i := 15) rfl)
theorem wd_code_A_separated : (.code ⟨"ArrowClasses", "separated", "(III)Z"⟩ prog_1_method_11_code 4 (some .boolean) : Cond) ∈ vzB := vzB_in4 (List.mem_of_getElem? (i := 16) rfl)
theorem wd_link_A_87 : (.methodLink "ArrowClasses" 87 ⟨"ArrowClasses$Graph", "openFrom", "(II)I"⟩ : Cond) ∈ vzB := vzB_in4 (List.mem_of_getElem? (i := 17) rfl)
theorem wd_inst_G_openFrom : (.instanceMethod ⟨"ArrowClasses$Graph", "openFrom", "(II)I"⟩ : Cond) ∈ vzB := vzB_in4 (List.mem_of_getElem? (i := 18) rfl)
theorem wd_sel_G_openFrom : (.selects "ArrowClasses$Graph" ⟨"ArrowClasses$Graph", "openFrom", "(II)I"⟩ ⟨"ArrowClasses$Graph", "openFrom", "(II)I"⟩ : Cond) ∈ vzB := vzB_in4 (List.mem_of_getElem? (i := 19) rfl)
theorem wd_code_G_openFrom : (.code ⟨"ArrowClasses$Graph", "openFrom", "(II)I"⟩ prog_2_method_12_code 11 (some .int) : Cond) ∈ vzB := vzB_in4 (List.mem_of_getElem? (i := 20) rfl)
theorem wd_link_L_65 : (.methodLink "ArrowClassesLaw" 65 ⟨"ArrowClasses", "separator", "(II)I"⟩ : Cond) ∈ vzB := vzB_in4 (List.mem_of_getElem? (i := 21) rfl)
theorem wd_inst_A_separator : (.instanceMethod ⟨"ArrowClasses", "separator", "(II)I"⟩ : Cond) ∈ vzB := vzB_in4 (List.mem_of_getElem? (i := 22) rfl)
theorem wd_sel_A_separator : (.selects "ArrowClasses" ⟨"ArrowClasses", "separator", "(II)I"⟩ ⟨"ArrowClasses", "separator", "(II)I"⟩ : Cond) ∈ vzB := vzB_in4 (List.mem_of_getElem? (i := 23) rfl)
theorem wd_code_A_separator : (.code ⟨"ArrowClasses", "separator", "(II)I"⟩ prog_1_method_12_code 7 (some .int) : Cond) ∈ vzB := vzB_in4 (List.mem_of_getElem? (i := 24) rfl)
theorem wd_link_A_90 : (.methodLink "ArrowClasses" 90 ⟨"ArrowClasses", "separated", "(III)Z"⟩ : Cond) ∈ vzB := vzB_in4 (List.mem_of_getElem? (i := 25) rfl)
theorem wd_link_L_70 : (.methodLink "ArrowClassesLaw" 70 ⟨"ArrowClasses", "separations", "()I"⟩ : Cond) ∈ vzB := vzB_in4 (List.mem_of_getElem? (i := 26) rfl)
theorem wd_inst_A_separations : (.instanceMethod ⟨"ArrowClasses", "separations", "()I"⟩ : Cond) ∈ vzB := vzB_in4 (List.mem_of_getElem? (i := 27) rfl)
theorem wd_sel_A_separations : (.selects "ArrowClasses" ⟨"ArrowClasses", "separations", "()I"⟩ ⟨"ArrowClasses", "separations", "()I"⟩ : Cond) ∈ vzB := vzB_in4 (List.mem_of_getElem? (i := 28) rfl)
theorem wd_code_A_separations : (.code ⟨"ArrowClasses", "separations", "()I"⟩ prog_1_method_13_code 3 (some .int) : Cond) ∈ vzB := vzB_in4 (List.mem_of_getElem? (i := 29) rfl)
theorem wd_link_A_94 : (.methodLink "ArrowClasses" 94 ⟨"ArrowClasses", "separationsBy", "(I)I"⟩ : Cond) ∈ vzB := vzB_in4 (List.mem_of_getElem? (i := 30) rfl)
theorem wd_sel_A_separationsBy : (.selects "ArrowClasses" ⟨"ArrowClasses", "separationsBy", "(I)I"⟩ ⟨"ArrowClasses", "separationsBy", "(I)I"⟩ : Cond) ∈ vzB := vzB_in4 (List.mem_of_getElem? (i := 31) rfl)
theorem wd_inst_A_separationsBy : (.instanceMethod ⟨"ArrowClasses", "separationsBy", "(I)I"⟩ : Cond) ∈ vzB := vzB_in4 (List.mem_of_getElem? (i := 32) rfl)
theorem wd_code_A_separationsBy : (.code ⟨"ArrowClasses", "separationsBy", "(I)I"⟩ prog_1_method_24_code 5 (some .int) : Cond) ∈ vzB := vzB_in4 (List.mem_of_getElem? (i := 33) rfl)
theorem wd_link_L_74 : (.methodLink "ArrowClassesLaw" 74 ⟨"ArrowClasses", "edge", "(II)I"⟩ : Cond) ∈ vzB := vzB_in4 (List.mem_of_getElem? (i := 34) rfl)
theorem wd_inst_A_edge : (.instanceMethod ⟨"ArrowClasses", "edge", "(II)I"⟩ : Cond) ∈ vzB := vzB_in4 (List.mem_of_getElem? (i := 35) rfl)
theorem wd_sel_A_edge : (.selects "ArrowClasses" ⟨"ArrowClasses", "edge", "(II)I"⟩ ⟨"ArrowClasses", "edge", "(II)I"⟩ : Cond) ∈ vzB := vzB_in4 (List.mem_of_getElem? (i := 36) rfl)
theorem wd_code_A_edge : (.code ⟨"ArrowClasses", "edge", "(II)I"⟩ prog_1_method_14_code 3 (some .int) : Cond) ∈ vzB := vzB_in4 (List.mem_of_getElem? (i := 37) rfl)
theorem wd_link_A_97 : (.methodLink "ArrowClasses" 97 ⟨"ArrowClasses$Kindred", "someHas", "(II)Z"⟩ : Cond) ∈ vzB := vzB_in4 (List.mem_of_getElem? (i := 38) rfl)
theorem wd_inst_K_someHas : (.instanceMethod ⟨"ArrowClasses$Kindred", "someHas", "(II)Z"⟩ : Cond) ∈ vzB := vzB_in4 (List.mem_of_getElem? (i := 39) rfl)
theorem wd_sel_K_someHas : (.selects "ArrowClasses$Kindred" ⟨"ArrowClasses$Kindred", "someHas", "(II)Z"⟩ ⟨"ArrowClasses$Kindred", "someHas", "(II)Z"⟩ : Cond) ∈ vzB := vzB_in5 (List.mem_of_getElem? (i := 0) rfl)
theorem wd_code_K_someHas : (.code ⟨"ArrowClasses$Kindred", "someHas", "(II)Z"⟩ prog_3_method_5_code 4 (some .boolean) : Cond) ∈ vzB := vzB_in5 (List.mem_of_getElem? (i := 1) rfl)
theorem wd_link_K_68 : (.methodLink "ArrowClasses$Kindred" 68 ⟨"ArrowClasses$Kindred", "gather", "()V"⟩ : Cond) ∈ vzB := vzB_in5 (List.mem_of_getElem? (i := 2) rfl)
theorem wd_sel_K_gather : (.selects "ArrowClasses$Kindred" ⟨"ArrowClasses$Kindred", "gather", "()V"⟩ ⟨"ArrowClasses$Kindred", "gather", "()V"⟩ : Cond) ∈ vzB := vzB_in5 (List.mem_of_getElem? (i := 3) rfl)
theorem wd_inst_K_gather : (.instanceMethod ⟨"ArrowClasses$Kindred", "gather", "()V"⟩ : Cond) ∈ vzB := vzB_in5 (List.mem_of_getElem? (i := 4) rfl)
theorem wd_code_K_gather : (.code ⟨"ArrowClasses$Kindred", "gather", "()V"⟩ prog_3_method_13_code 2 none : Cond) ∈ vzB := vzB_in5 (List.mem_of_getElem? (i := 5) rfl)
theorem wd_link_K_103 : (.methodLink "ArrowClasses$Kindred" 103 ⟨"ArrowClasses$Kindred", "isMember", "(I)Z"⟩ : Cond) ∈ vzB := vzB_in5 (List.mem_of_getElem? (i := 6) rfl)
theorem wd_sel_K_isMember : (.selects "ArrowClasses$Kindred" ⟨"ArrowClasses$Kindred", "isMember", "(I)Z"⟩ ⟨"ArrowClasses$Kindred", "isMember", "(I)Z"⟩ : Cond) ∈ vzB := vzB_in5 (List.mem_of_getElem? (i := 7) rfl)
theorem wd_inst_K_isMember : (.instanceMethod ⟨"ArrowClasses$Kindred", "isMember", "(I)Z"⟩ : Cond) ∈ vzB := vzB_in5 (List.mem_of_getElem? (i := 8) rfl)
theorem wd_code_K_isMember : (.code ⟨"ArrowClasses$Kindred", "isMember", "(I)Z"⟩ prog_3_method_14_code 3 (some .boolean) : Cond) ∈ vzB := vzB_in5 (List.mem_of_getElem? (i := 9) rfl)
theorem wd_link_K_107 : (.methodLink "ArrowClasses$Kindred" 107 ⟨"ArrowClasses$Graph", "empty", "()V"⟩ : Cond) ∈ vzB := vzB_in5 (List.mem_of_getElem? (i := 10) rfl)
theorem wd_inst_G_empty : (.instanceMethod ⟨"ArrowClasses$Graph", "empty", "()V"⟩ : Cond) ∈ vzB := vzB_in5 (List.mem_of_getElem? (i := 11) rfl)
theorem wd_sel_G_empty : (.selects "ArrowClasses$Graph" ⟨"ArrowClasses$Graph", "empty", "()V"⟩ ⟨"ArrowClasses$Graph", "empty", "()V"⟩ : Cond) ∈ vzB := vzB_in5 (List.mem_of_getElem? (i := 12) rfl)
theorem wd_code_G_empty : (.code ⟨"ArrowClasses$Graph", "empty", "()V"⟩ prog_2_method_6_code 2 none : Cond) ∈ vzB := vzB_in5 (List.mem_of_getElem? (i := 13) rfl)
theorem wd_link_K_100 : (.methodLink "ArrowClasses$Kindred" 100 ⟨"ArrowClasses$Kindred", "bitAt", "(I)I"⟩ : Cond) ∈ vzB := vzB_in5 (List.mem_of_getElem? (i := 14) rfl)
theorem wd_sel_K_bitAt : (.selects "ArrowClasses$Kindred" ⟨"ArrowClasses$Kindred", "bitAt", "(I)I"⟩ ⟨"ArrowClasses$Kindred", "bitAt", "(I)I"⟩ : Cond) ∈ vzB := vzB_in5 (List.mem_of_getElem? (i := 15) rfl)
theorem wd_inst_K_bitAt : (.instanceMethod ⟨"ArrowClasses$Kindred", "bitAt", "(I)I"⟩ : Cond) ∈ vzB := vzB_in5 (List.mem_of_getElem? (i := 16) rfl)
theorem wd_code_K_bitAt : (.code ⟨"ArrowClasses$Kindred", "bitAt", "(I)I"⟩ prog_3_method_12_code 2 (some .int) : Cond) ∈ vzB := vzB_in5 (List.mem_of_getElem? (i := 17) rfl)
theorem wd_link_K_110 : (.methodLink "ArrowClasses$Kindred" 110 ⟨"ArrowClasses$Graph", "put", "(II)V"⟩ : Cond) ∈ vzB := vzB_in5 (List.mem_of_getElem? (i := 18) rfl)
theorem wd_link_K_113 : (.methodLink "ArrowClasses$Kindred" 113 ⟨"ArrowClasses$Graph", "collidesLike", "(LArrowClasses$Graph;)Z"⟩ : Cond) ∈ vzB := vzB_in5 (List.mem_of_getElem? (i := 19) rfl)
theorem wd_inst_G_collidesLike : (.instanceMethod ⟨"ArrowClasses$Graph", "collidesLike", "(LArrowClasses$Graph;)Z"⟩ : Cond) ∈ vzB := vzB_in5 (List.mem_of_getElem? (i := 20) rfl)
theorem wd_sel_G_collidesLike : (.selects "ArrowClasses$Graph" ⟨"ArrowClasses$Graph", "collidesLike", "(LArrowClasses$Graph;)Z"⟩ ⟨"ArrowClasses$Graph", "collidesLike", "(LArrowClasses$Graph;)Z"⟩ : Cond) ∈ vzB := vzB_in5 (List.mem_of_getElem? (i := 21) rfl)
theorem wd_code_G_collidesLike : (.code ⟨"ArrowClasses$Graph", "collidesLike", "(LArrowClasses$Graph;)Z"⟩ prog_2_method_11_code 4 (some .boolean) : Cond) ∈ vzB := vzB_in5 (List.mem_of_getElem? (i := 22) rfl)
theorem wd_link_G_35 : (.methodLink "ArrowClasses$Graph" 35 ⟨"ArrowClasses$Graph", "strangers", "(II)I"⟩ : Cond) ∈ vzB := vzB_in5 (List.mem_of_getElem? (i := 23) rfl)
theorem wd_link_K_117 : (.methodLink "ArrowClasses$Kindred" 117 ⟨"ArrowClasses$Graph", "hasRing", "()Z"⟩ : Cond) ∈ vzB := vzB_in5 (List.mem_of_getElem? (i := 24) rfl)
theorem wd_inst_G_hasRing : (.instanceMethod ⟨"ArrowClasses$Graph", "hasRing", "()Z"⟩ : Cond) ∈ vzB := vzB_in5 (List.mem_of_getElem? (i := 25) rfl)
theorem wd_sel_G_hasRing : (.selects "ArrowClasses$Graph" ⟨"ArrowClasses$Graph", "hasRing", "()Z"⟩ ⟨"ArrowClasses$Graph", "hasRing", "()Z"⟩ : Cond) ∈ vzB := vzB_in5 (List.mem_of_getElem? (i := 26) rfl)
theorem wd_code_G_hasRing : (.code ⟨"ArrowClasses$Graph", "hasRing", "()Z"⟩ prog_2_method_9_code 4 (some .boolean) : Cond) ∈ vzB := vzB_in5 (List.mem_of_getElem? (i := 27) rfl)
theorem wd_link_K_74 : (.methodLink "ArrowClasses$Kindred" 74 ⟨"ArrowClasses$Kindred", "bitOf", "(II)I"⟩ : Cond) ∈ vzB := vzB_in5 (List.mem_of_getElem? (i := 28) rfl)
theorem wd_sel_K_bitOf : (.selects "ArrowClasses$Kindred" ⟨"ArrowClasses$Kindred", "bitOf", "(II)I"⟩ ⟨"ArrowClasses$Kindred", "bitOf", "(II)I"⟩ : Cond) ∈ vzB := vzB_in5 (List.mem_of_getElem? (i := 29) rfl)
theorem wd_inst_K_bitOf : (.instanceMethod ⟨"ArrowClasses$Kindred", "bitOf", "(II)I"⟩ : Cond) ∈ vzB := vzB_in5 (List.mem_of_getElem? (i := 30) rfl)
theorem wd_code_K_bitOf : (.code ⟨"ArrowClasses$Kindred", "bitOf", "(II)I"⟩ prog_3_method_11_code 4 (some .int) : Cond) ∈ vzB := vzB_in5 (List.mem_of_getElem? (i := 31) rfl)
theorem wd_link_K_92 : (.methodLink "ArrowClasses$Kindred" 92 ⟨"java/lang/Math", "min", "(II)I"⟩ : Cond) ∈ vzB := vzB_in5 (List.mem_of_getElem? (i := 32) rfl)
theorem wd_stat_H_min : (.static ⟨"java/lang/Math", "min", "(II)I"⟩ : Cond) ∈ vzB := vzB_in5 (List.mem_of_getElem? (i := 33) rfl)
theorem wd_code_H_min : (.code ⟨"java/lang/Math", "min", "(II)I"⟩ prog_7_method_69_code 2 (some .int) : Cond) ∈ vzB := vzB_in5 (List.mem_of_getElem? (i := 34) rfl)
theorem wd_link_K_97 : (.methodLink "ArrowClasses$Kindred" 97 ⟨"java/lang/Math", "max", "(II)I"⟩ : Cond) ∈ vzB := vzB_in5 (List.mem_of_getElem? (i := 35) rfl)
theorem wd_stat_H_max : (.static ⟨"java/lang/Math", "max", "(II)I"⟩ : Cond) ∈ vzB := vzB_in5 (List.mem_of_getElem? (i := 36) rfl)
theorem wd_code_H_max : (.code ⟨"java/lang/Math", "max", "(II)I"⟩ prog_7_method_65_code 2 (some .int) : Cond) ∈ vzB := vzB_in5 (List.mem_of_getElem? (i := 37) rfl)
theorem wd_link_L_78 : (.methodLink "ArrowClassesLaw" 78 ⟨"ArrowClasses", "loose", "()I"⟩ : Cond) ∈ vzB := vzB_in5 (List.mem_of_getElem? (i := 38) rfl)
theorem wd_inst_A_loose : (.instanceMethod ⟨"ArrowClasses", "loose", "()I"⟩ : Cond) ∈ vzB := vzB_in5 (List.mem_of_getElem? (i := 39) rfl)
theorem wd_sel_A_loose : (.selects "ArrowClasses" ⟨"ArrowClasses", "loose", "()I"⟩ ⟨"ArrowClasses", "loose", "()I"⟩ : Cond) ∈ vzB := vzB_in6 (List.mem_of_getElem? (i := 0) rfl)
theorem wd_code_A_loose : (.code ⟨"ArrowClasses", "loose", "()I"⟩ prog_1_method_15_code 1 (some .int) : Cond) ∈ vzB := vzB_in6 (List.mem_of_getElem? (i := 1) rfl)
theorem wd_link_A_100 : (.methodLink "ArrowClasses" 100 ⟨"ArrowClasses$Kindred", "loosePairs", "()I"⟩ : Cond) ∈ vzB := vzB_in6 (List.mem_of_getElem? (i := 2) rfl)
theorem wd_inst_K_loosePairs : (.instanceMethod ⟨"ArrowClasses$Kindred", "loosePairs", "()I"⟩ : Cond) ∈ vzB := vzB_in6 (List.mem_of_getElem? (i := 3) rfl)
theorem wd_sel_K_loosePairs : (.selects "ArrowClasses$Kindred" ⟨"ArrowClasses$Kindred", "loosePairs", "()I"⟩ ⟨"ArrowClasses$Kindred", "loosePairs", "()I"⟩ : Cond) ∈ vzB := vzB_in6 (List.mem_of_getElem? (i := 4) rfl)
theorem wd_code_K_loosePairs : (.code ⟨"ArrowClasses$Kindred", "loosePairs", "()I"⟩ prog_3_method_7_code 1 (some .int) : Cond) ∈ vzB := vzB_in6 (List.mem_of_getElem? (i := 5) rfl)
theorem wd_link_K_86 : (.methodLink "ArrowClasses$Kindred" 86 ⟨"java/lang/Integer", "bitCount", "(I)I"⟩ : Cond) ∈ vzB := vzB_in6 (List.mem_of_getElem? (i := 6) rfl)
theorem wd_link_L_82 : (.methodLink "ArrowClassesLaw" 82 ⟨"ArrowClasses", "know", "(II)Z"⟩ : Cond) ∈ vzB := vzB_in6 (List.mem_of_getElem? (i := 7) rfl)
theorem wd_inst_A_know : (.instanceMethod ⟨"ArrowClasses", "know", "(II)Z"⟩ : Cond) ∈ vzB := vzB_in6 (List.mem_of_getElem? (i := 8) rfl)
theorem wd_sel_A_know : (.selects "ArrowClasses" ⟨"ArrowClasses", "know", "(II)Z"⟩ ⟨"ArrowClasses", "know", "(II)Z"⟩ : Cond) ∈ vzB := vzB_in6 (List.mem_of_getElem? (i := 9) rfl)
theorem wd_code_A_know : (.code ⟨"ArrowClasses", "know", "(II)Z"⟩ prog_1_method_16_code 3 (some .boolean) : Cond) ∈ vzB := vzB_in6 (List.mem_of_getElem? (i := 10) rfl)
theorem wd_link_A_103 : (.methodLink "ArrowClasses" 103 ⟨"ArrowClasses$Kindred", "fix", "(II)V"⟩ : Cond) ∈ vzB := vzB_in6 (List.mem_of_getElem? (i := 11) rfl)
theorem wd_inst_K_fix : (.instanceMethod ⟨"ArrowClasses$Kindred", "fix", "(II)V"⟩ : Cond) ∈ vzB := vzB_in6 (List.mem_of_getElem? (i := 12) rfl)
theorem wd_sel_K_fix : (.selects "ArrowClasses$Kindred" ⟨"ArrowClasses$Kindred", "fix", "(II)V"⟩ ⟨"ArrowClasses$Kindred", "fix", "(II)V"⟩ : Cond) ∈ vzB := vzB_in6 (List.mem_of_getElem? (i := 13) rfl)
theorem wd_code_K_fix : (.code ⟨"ArrowClasses$Kindred", "fix", "(II)V"⟩ prog_3_method_9_code 4 none : Cond) ∈ vzB := vzB_in6 (List.mem_of_getElem? (i := 14) rfl)
theorem wd_link_L_86 : (.methodLink "ArrowClassesLaw" 86 ⟨"ArrowClasses", "forget", "()I"⟩ : Cond) ∈ vzB := vzB_in6 (List.mem_of_getElem? (i := 15) rfl)
theorem wd_inst_A_forget : (.instanceMethod ⟨"ArrowClasses", "forget", "()I"⟩ : Cond) ∈ vzB := vzB_in6 (List.mem_of_getElem? (i := 16) rfl)
theorem wd_sel_A_forget : (.selects "ArrowClasses" ⟨"ArrowClasses", "forget", "()I"⟩ ⟨"ArrowClasses", "forget", "()I"⟩ : Cond) ∈ vzB := vzB_in6 (List.mem_of_getElem? (i := 17) rfl)
theorem wd_code_A_forget : (.code ⟨"ArrowClasses", "forget", "()I"⟩ prog_1_method_17_code 1 (some .int) : Cond) ∈ vzB := vzB_in6 (List.mem_of_getElem? (i := 18) rfl)
theorem wd_link_A_106 : (.methodLink "ArrowClasses" 106 ⟨"ArrowClasses$Kindred", "unfix", "()I"⟩ : Cond) ∈ vzB := vzB_in6 (List.mem_of_getElem? (i := 19) rfl)
theorem wd_inst_K_unfix : (.instanceMethod ⟨"ArrowClasses$Kindred", "unfix", "()I"⟩ : Cond) ∈ vzB := vzB_in6 (List.mem_of_getElem? (i := 20) rfl)
theorem wd_sel_K_unfix : (.selects "ArrowClasses$Kindred" ⟨"ArrowClasses$Kindred", "unfix", "()I"⟩ ⟨"ArrowClasses$Kindred", "unfix", "()I"⟩ : Cond) ∈ vzB := vzB_in6 (List.mem_of_getElem? (i := 21) rfl)
theorem wd_code_K_unfix : (.code ⟨"ArrowClasses$Kindred", "unfix", "()I"⟩ prog_3_method_10_code 2 (some .int) : Cond) ∈ vzB := vzB_in6 (List.mem_of_getElem? (i := 22) rfl)
theorem wd_link_L_90 : (.methodLink "ArrowClassesLaw" 90 ⟨"ArrowClasses", "members", "()I"⟩ : Cond) ∈ vzB := vzB_in6 (List.mem_of_getElem? (i := 23) rfl)
theorem wd_inst_A_members : (.instanceMethod ⟨"ArrowClasses", "members", "()I"⟩ : Cond) ∈ vzB := vzB_in6 (List.mem_of_getElem? (i := 24) rfl)
theorem wd_sel_A_members : (.selects "ArrowClasses" ⟨"ArrowClasses", "members", "()I"⟩ ⟨"ArrowClasses", "members", "()I"⟩ : Cond) ∈ vzB := vzB_in6 (List.mem_of_getElem? (i := 25) rfl)
theorem wd_code_A_members : (.code ⟨"ArrowClasses", "members", "()I"⟩ prog_1_method_18_code 1 (some .int) : Cond) ∈ vzB := vzB_in6 (List.mem_of_getElem? (i := 26) rfl)
theorem wd_link_A_109 : (.methodLink "ArrowClasses" 109 ⟨"ArrowClasses$Kindred", "size", "()I"⟩ : Cond) ∈ vzB := vzB_in6 (List.mem_of_getElem? (i := 27) rfl)
theorem wd_inst_K_size : (.instanceMethod ⟨"ArrowClasses$Kindred", "size", "()I"⟩ : Cond) ∈ vzB := vzB_in6 (List.mem_of_getElem? (i := 28) rfl)
theorem wd_sel_K_size : (.selects "ArrowClasses$Kindred" ⟨"ArrowClasses$Kindred", "size", "()I"⟩ ⟨"ArrowClasses$Kindred", "size", "()I"⟩ : Cond) ∈ vzB := vzB_in6 (List.mem_of_getElem? (i := 29) rfl)
theorem wd_code_K_size : (.code ⟨"ArrowClasses$Kindred", "size", "()I"⟩ prog_3_method_4_code 1 (some .int) : Cond) ∈ vzB := vzB_in6 (List.mem_of_getElem? (i := 30) rfl)
theorem wd_link_L_94 : (.methodLink "ArrowClassesLaw" 94 ⟨"ArrowClasses", "first", "(II)Z"⟩ : Cond) ∈ vzB := vzB_in6 (List.mem_of_getElem? (i := 31) rfl)
theorem wd_inst_A_first : (.instanceMethod ⟨"ArrowClasses", "first", "(II)Z"⟩ : Cond) ∈ vzB := vzB_in6 (List.mem_of_getElem? (i := 32) rfl)
theorem wd_sel_A_first : (.selects "ArrowClasses" ⟨"ArrowClasses", "first", "(II)Z"⟩ ⟨"ArrowClasses", "first", "(II)Z"⟩ : Cond) ∈ vzB := vzB_in6 (List.mem_of_getElem? (i := 33) rfl)
theorem wd_code_A_first : (.code ⟨"ArrowClasses", "first", "(II)Z"⟩ prog_1_method_19_code 3 (some .boolean) : Cond) ∈ vzB := vzB_in6 (List.mem_of_getElem? (i := 34) rfl)
theorem wd_link_A_110 : (.methodLink "ArrowClasses" 110 ⟨"ArrowClasses$Kindred", "firstHas", "(II)Z"⟩ : Cond) ∈ vzB := vzB_in6 (List.mem_of_getElem? (i := 35) rfl)
theorem wd_inst_K_firstHas : (.instanceMethod ⟨"ArrowClasses$Kindred", "firstHas", "(II)Z"⟩ : Cond) ∈ vzB := vzB_in6 (List.mem_of_getElem? (i := 36) rfl)
theorem wd_sel_K_firstHas : (.selects "ArrowClasses$Kindred" ⟨"ArrowClasses$Kindred", "firstHas", "(II)Z"⟩ ⟨"ArrowClasses$Kindred", "firstHas", "(II)Z"⟩ : Cond) ∈ vzB := vzB_in6 (List.mem_of_getElem? (i := 37) rfl)
theorem wd_code_K_firstHas : (.code ⟨"ArrowClasses$Kindred", "firstHas", "(II)Z"⟩ prog_3_method_6_code 4 (some .boolean) : Cond) ∈ vzB := vzB_in6 (List.mem_of_getElem? (i := 38) rfl)
theorem wd_link_L_98 : (.methodLink "ArrowClassesLaw" 98 ⟨"ArrowClasses", "turned", "()I"⟩ : Cond) ∈ vzB := vzB_in6 (List.mem_of_getElem? (i := 39) rfl)
theorem wd_inst_A_turned : (.instanceMethod ⟨"ArrowClasses", "turned", "()I"⟩ : Cond) ∈ vzB := vzB_in7 (List.mem_of_getElem? (i := 0) rfl)
theorem wd_sel_A_turned : (.selects "ArrowClasses" ⟨"ArrowClasses", "turned", "()I"⟩ ⟨"ArrowClasses", "turned", "()I"⟩ : Cond) ∈ vzB := vzB_in7 (List.mem_of_getElem? (i := 1) rfl)
theorem wd_code_A_turned : (.code ⟨"ArrowClasses", "turned", "()I"⟩ prog_1_method_20_code 1 (some .int) : Cond) ∈ vzB := vzB_in7 (List.mem_of_getElem? (i := 2) rfl)
theorem wd_link_A_113 : (.methodLink "ArrowClasses" 113 ⟨"ArrowClasses$Kindred", "turnedInFirst", "()I"⟩ : Cond) ∈ vzB := vzB_in7 (List.mem_of_getElem? (i := 3) rfl)
theorem wd_inst_K_turnedInFirst : (.instanceMethod ⟨"ArrowClasses$Kindred", "turnedInFirst", "()I"⟩ : Cond) ∈ vzB := vzB_in7 (List.mem_of_getElem? (i := 4) rfl)
theorem wd_sel_K_turnedInFirst : (.selects "ArrowClasses$Kindred" ⟨"ArrowClasses$Kindred", "turnedInFirst", "()I"⟩ ⟨"ArrowClasses$Kindred", "turnedInFirst", "()I"⟩ : Cond) ∈ vzB := vzB_in7 (List.mem_of_getElem? (i := 5) rfl)
theorem wd_code_K_turnedInFirst : (.code ⟨"ArrowClasses$Kindred", "turnedInFirst", "()I"⟩ prog_3_method_8_code 1 (some .int) : Cond) ∈ vzB := vzB_in7 (List.mem_of_getElem? (i := 6) rfl)
theorem wd_link_L_9 : (.methodLink "ArrowClassesLaw" 9 ⟨"ArrowClassesLaw", "cell", "([II)I"⟩ : Cond) ∈ vzB := vzB_in7 (List.mem_of_getElem? (i := 7) rfl)
theorem wd_stat_L_cell : (.static ⟨"ArrowClassesLaw", "cell", "([II)I"⟩ : Cond) ∈ vzB := vzB_in7 (List.mem_of_getElem? (i := 8) rfl)
theorem wd_code_L_cell : (.code ⟨"ArrowClassesLaw", "cell", "([II)I"⟩ method_2_code 2 (some .int) : Cond) ∈ vzB := vzB_in7 (List.mem_of_getElem? (i := 9) rfl)
theorem wd_cl_L_18 : (.classLink "ArrowClassesLaw" 18 "ArrowClassesModel" : Cond) ∈ vzB := vzB_in7 (List.mem_of_getElem? (i := 10) rfl)
theorem wd_new_M : (.instantiable "ArrowClassesModel" 13 : Cond) ∈ vzB := vzB_in7 (List.mem_of_getElem? (i := 11) rfl)
theorem wd_link_L_20 : (.methodLink "ArrowClassesLaw" 20 ⟨"ArrowClassesModel", "<init>", "(I)V"⟩ : Cond) ∈ vzB := vzB_in7 (List.mem_of_getElem? (i := 12) rfl)
theorem wd_inst_M_init : (.instanceMethod ⟨"ArrowClassesModel", "<init>", "(I)V"⟩ : Cond) ∈ vzB := vzB_in7 (List.mem_of_getElem? (i := 13) rfl)
theorem wd_code_M_init : (.code ⟨"ArrowClassesModel", "<init>", "(I)V"⟩ prog_5_method_1_code 2 none : Cond) ∈ vzB := vzB_in7 (List.mem_of_getElem? (i := 14) rfl)
theorem wd_link_M_1 : (.methodLink "ArrowClassesModel" 1 ⟨"java/lang/Object", "<init>", "()V"⟩ : Cond) ∈ vzB := vzB_in7 (List.mem_of_getElem? (i := 15) rfl)
theorem wd_fld_M_41 : (.fieldLink "ArrowClassesModel" 41 "ArrowClassesModel" "nodes" "I" : Cond) ∈ vzB := vzB_in7 (List.mem_of_getElem? (i := 16) rfl)
theorem wd_fld_M_7 : (.fieldLink "ArrowClassesModel" 7 "ArrowClassesModel" "has" "[Z" : Cond) ∈ vzB := vzB_in7 (List.mem_of_getElem? (i := 17) rfl)
theorem wd_fld_M_13 : (.fieldLink "ArrowClassesModel" 13 "ArrowClassesModel" "known" "[Z" : Cond) ∈ vzB := vzB_in7 (List.mem_of_getElem? (i := 18) rfl)
theorem wd_fld_M_16 : (.fieldLink "ArrowClassesModel" 16 "ArrowClassesModel" "tried" "[Z" : Cond) ∈ vzB := vzB_in7 (List.mem_of_getElem? (i := 19) rfl)
theorem wd_fld_M_103 : (.fieldLink "ArrowClassesModel" 103 "ArrowClassesModel" "count" "I" : Cond) ∈ vzB := vzB_in7 (List.mem_of_getElem? (i := 20) rfl)
theorem wd_fld_M_19 : (.fieldLink "ArrowClassesModel" 19 "ArrowClassesModel" "having" "[I" : Cond) ∈ vzB := vzB_in7 (List.mem_of_getElem? (i := 21) rfl)
theorem wd_fld_M_23 : (.fieldLink "ArrowClassesModel" 23 "ArrowClassesModel" "best" "[Z" : Cond) ∈ vzB := vzB_in7 (List.mem_of_getElem? (i := 22) rfl)
theorem wd_fld_M_93 : (.fieldLink "ArrowClassesModel" 93 "ArrowClassesModel" "pairs" "I" : Cond) ∈ vzB := vzB_in7 (List.mem_of_getElem? (i := 23) rfl)
theorem wd_fld_M_26 : (.fieldLink "ArrowClassesModel" 26 "ArrowClassesModel" "low" "[I" : Cond) ∈ vzB := vzB_in7 (List.mem_of_getElem? (i := 24) rfl)
theorem wd_fld_M_29 : (.fieldLink "ArrowClassesModel" 29 "ArrowClassesModel" "high" "[I" : Cond) ∈ vzB := vzB_in7 (List.mem_of_getElem? (i := 25) rfl)
theorem wd_fld_M_32 : (.fieldLink "ArrowClassesModel" 32 "ArrowClassesModel" "path" "[I" : Cond) ∈ vzB := vzB_in7 (List.mem_of_getElem? (i := 26) rfl)
theorem wd_fld_M_35 : (.fieldLink "ArrowClassesModel" 35 "ArrowClassesModel" "next" "[I" : Cond) ∈ vzB := vzB_in7 (List.mem_of_getElem? (i := 27) rfl)
theorem wd_fld_M_38 : (.fieldLink "ArrowClassesModel" 38 "ArrowClassesModel" "reaches" "[I" : Cond) ∈ vzB := vzB_in7 (List.mem_of_getElem? (i := 28) rfl)
theorem wd_lay_M_nodes : (.lays "ArrowClassesModel" "ArrowClassesModel" "nodes" "I" : Cond) ∈ vzB := vzB_in7 (List.mem_of_getElem? (i := 29) rfl)
theorem wd_lay_M_has : (.lays "ArrowClassesModel" "ArrowClassesModel" "has" "[Z" : Cond) ∈ vzB := vzB_in7 (List.mem_of_getElem? (i := 30) rfl)
theorem wd_lay_M_known : (.lays "ArrowClassesModel" "ArrowClassesModel" "known" "[Z" : Cond) ∈ vzB := vzB_in7 (List.mem_of_getElem? (i := 31) rfl)
theorem wd_lay_M_tried : (.lays "ArrowClassesModel" "ArrowClassesModel" "tried" "[Z" : Cond) ∈ vzB := vzB_in7 (List.mem_of_getElem? (i := 32) rfl)
theorem wd_lay_M_count : (.lays "ArrowClassesModel" "ArrowClassesModel" "count" "I" : Cond) ∈ vzB := vzB_in7 (List.mem_of_getElem? (i := 33) rfl)
theorem wd_lay_M_having : (.lays "ArrowClassesModel" "ArrowClassesModel" "having" "[I" : Cond) ∈ vzB := vzB_in7 (List.mem_of_getElem? (i := 34) rfl)
theorem wd_lay_M_best : (.lays "ArrowClassesModel" "ArrowClassesModel" "best" "[Z" : Cond) ∈ vzB := vzB_in7 (List.mem_of_getElem? (i := 35) rfl)
theorem wd_lay_M_pairs : (.lays "ArrowClassesModel" "ArrowClassesModel" "pairs" "I" : Cond) ∈ vzB := vzB_in7 (List.mem_of_getElem? (i := 36) rfl)
theorem wd_lay_M_low : (.lays "ArrowClassesModel" "ArrowClassesModel" "low" "[I" : Cond) ∈ vzB := vzB_in7 (List.mem_of_getElem? (i := 37) rfl)
theorem wd_lay_M_high : (.lays "ArrowClassesModel" "ArrowClassesModel" "high" "[I" : Cond) ∈ vzB := vzB_in7 (List.mem_of_getElem? (i := 38) rfl)
theorem wd_lay_M_path : (.lays "ArrowClassesModel" "ArrowClassesModel" "path" "[I" : Cond) ∈ vzB := vzB_in7 (List.mem_of_getElem? (i := 39) rfl)
theorem wd_lay_M_next : (.lays "ArrowClassesModel" "ArrowClassesModel" "next" "[I" : Cond) ∈ vzB := vzB_in8 (List.mem_of_getElem? (i := 0) rfl)
theorem wd_lay_M_reaches : (.lays "ArrowClassesModel" "ArrowClassesModel" "reaches" "[I" : Cond) ∈ vzB := vzB_in8 (List.mem_of_getElem? (i := 1) rfl)
theorem wd_arr_boolean : (.arrayClass .boolean : Cond) ∈ vzB := vzB_in8 (List.mem_of_getElem? (i := 2) rfl)
theorem wd_link_L_25 : (.methodLink "ArrowClassesLaw" 25 ⟨"ArrowClassesModel", "arrow", "(II)Z"⟩ : Cond) ∈ vzB := vzB_in8 (List.mem_of_getElem? (i := 3) rfl)
theorem wd_inst_M_arrow : (.instanceMethod ⟨"ArrowClassesModel", "arrow", "(II)Z"⟩ : Cond) ∈ vzB := vzB_in8 (List.mem_of_getElem? (i := 4) rfl)
theorem wd_sel_M_arrow : (.selects "ArrowClassesModel" ⟨"ArrowClassesModel", "arrow", "(II)Z"⟩ ⟨"ArrowClassesModel", "arrow", "(II)Z"⟩ : Cond) ∈ vzB := vzB_in8 (List.mem_of_getElem? (i := 5) rfl)
theorem wd_code_M_arrow : (.code ⟨"ArrowClassesModel", "arrow", "(II)Z"⟩ prog_5_method_8_code 3 (some .boolean) : Cond) ∈ vzB := vzB_in8 (List.mem_of_getElem? (i := 6) rfl)
theorem wd_link_M_49 : (.methodLink "ArrowClassesModel" 49 ⟨"ArrowClassesModel", "areNodes", "(II)Z"⟩ : Cond) ∈ vzB := vzB_in8 (List.mem_of_getElem? (i := 7) rfl)
theorem wd_sel_M_areNodes : (.selects "ArrowClassesModel" ⟨"ArrowClassesModel", "areNodes", "(II)Z"⟩ ⟨"ArrowClassesModel", "areNodes", "(II)Z"⟩ : Cond) ∈ vzB := vzB_in8 (List.mem_of_getElem? (i := 8) rfl)
theorem wd_inst_M_areNodes : (.instanceMethod ⟨"ArrowClassesModel", "areNodes", "(II)Z"⟩ : Cond) ∈ vzB := vzB_in8 (List.mem_of_getElem? (i := 9) rfl)
theorem wd_code_M_areNodes : (.code ⟨"ArrowClassesModel", "areNodes", "(II)Z"⟩ prog_5_method_3_code 3 (some .boolean) : Cond) ∈ vzB := vzB_in8 (List.mem_of_getElem? (i := 10) rfl)
theorem wd_link_M_45 : (.methodLink "ArrowClassesModel" 45 ⟨"ArrowClassesModel", "isNode", "(I)Z"⟩ : Cond) ∈ vzB := vzB_in8 (List.mem_of_getElem? (i := 11) rfl)
theorem wd_sel_M_isNode : (.selects "ArrowClassesModel" ⟨"ArrowClassesModel", "isNode", "(I)Z"⟩ ⟨"ArrowClassesModel", "isNode", "(I)Z"⟩ : Cond) ∈ vzB := vzB_in8 (List.mem_of_getElem? (i := 12) rfl)
theorem wd_inst_M_isNode : (.instanceMethod ⟨"ArrowClassesModel", "isNode", "(I)Z"⟩ : Cond) ∈ vzB := vzB_in8 (List.mem_of_getElem? (i := 13) rfl)
theorem wd_code_M_isNode : (.code ⟨"ArrowClassesModel", "isNode", "(I)Z"⟩ prog_5_method_2_code 2 (some .boolean) : Cond) ∈ vzB := vzB_in8 (List.mem_of_getElem? (i := 14) rfl)
theorem wd_link_M_53 : (.methodLink "ArrowClassesModel" 53 ⟨"ArrowClassesModel", "joined", "(II)Z"⟩ : Cond) ∈ vzB := vzB_in8 (List.mem_of_getElem? (i := 15) rfl)
theorem wd_sel_M_joined : (.selects "ArrowClassesModel" ⟨"ArrowClassesModel", "joined", "(II)Z"⟩ ⟨"ArrowClassesModel", "joined", "(II)Z"⟩ : Cond) ∈ vzB := vzB_in8 (List.mem_of_getElem? (i := 16) rfl)
theorem wd_inst_M_joined : (.instanceMethod ⟨"ArrowClassesModel", "joined", "(II)Z"⟩ : Cond) ∈ vzB := vzB_in8 (List.mem_of_getElem? (i := 17) rfl)
theorem wd_code_M_joined : (.code ⟨"ArrowClassesModel", "joined", "(II)Z"⟩ prog_5_method_4_code 3 (some .boolean) : Cond) ∈ vzB := vzB_in8 (List.mem_of_getElem? (i := 18) rfl)
theorem wd_link_M_56 : (.methodLink "ArrowClassesModel" 56 ⟨"ArrowClassesModel", "arrows", "()I"⟩ : Cond) ∈ vzB := vzB_in8 (List.mem_of_getElem? (i := 19) rfl)
theorem wd_sel_M_arrows : (.selects "ArrowClassesModel" ⟨"ArrowClassesModel", "arrows", "()I"⟩ ⟨"ArrowClassesModel", "arrows", "()I"⟩ : Cond) ∈ vzB := vzB_in8 (List.mem_of_getElem? (i := 20) rfl)
theorem wd_inst_M_arrows : (.instanceMethod ⟨"ArrowClassesModel", "arrows", "()I"⟩ : Cond) ∈ vzB := vzB_in8 (List.mem_of_getElem? (i := 21) rfl)
theorem wd_code_M_arrows : (.code ⟨"ArrowClassesModel", "arrows", "()I"⟩ prog_5_method_5_code 3 (some .int) : Cond) ∈ vzB := vzB_in8 (List.mem_of_getElem? (i := 22) rfl)
theorem wd_link_M_60 : (.methodLink "ArrowClassesModel" 60 ⟨"ArrowClassesModel", "reach", "(I)I"⟩ : Cond) ∈ vzB := vzB_in8 (List.mem_of_getElem? (i := 23) rfl)
theorem wd_sel_M_reach : (.selects "ArrowClassesModel" ⟨"ArrowClassesModel", "reach", "(I)I"⟩ ⟨"ArrowClassesModel", "reach", "(I)I"⟩ : Cond) ∈ vzB := vzB_in8 (List.mem_of_getElem? (i := 24) rfl)
theorem wd_inst_M_reach : (.instanceMethod ⟨"ArrowClassesModel", "reach", "(I)I"⟩ : Cond) ∈ vzB := vzB_in8 (List.mem_of_getElem? (i := 25) rfl)
theorem wd_code_M_reach : (.code ⟨"ArrowClassesModel", "reach", "(I)I"⟩ prog_5_method_7_code 6 (some .int) : Cond) ∈ vzB := vzB_in8 (List.mem_of_getElem? (i := 26) rfl)
theorem wd_link_M_64 : (.methodLink "ArrowClassesModel" 64 ⟨"ArrowClassesModel", "forgetAll", "()V"⟩ : Cond) ∈ vzB := vzB_in8 (List.mem_of_getElem? (i := 27) rfl)
theorem wd_sel_M_forgetAll : (.selects "ArrowClassesModel" ⟨"ArrowClassesModel", "forgetAll", "()V"⟩ ⟨"ArrowClassesModel", "forgetAll", "()V"⟩ : Cond) ∈ vzB := vzB_in8 (List.mem_of_getElem? (i := 28) rfl)
theorem wd_inst_M_forgetAll : (.instanceMethod ⟨"ArrowClassesModel", "forgetAll", "()V"⟩ : Cond) ∈ vzB := vzB_in8 (List.mem_of_getElem? (i := 29) rfl)
theorem wd_code_M_forgetAll : (.code ⟨"ArrowClassesModel", "forgetAll", "()V"⟩ prog_5_method_6_code 2 none : Cond) ∈ vzB := vzB_in8 (List.mem_of_getElem? (i := 30) rfl)
theorem wd_link_L_29 : (.methodLink "ArrowClassesLaw" 29 ⟨"ArrowClassesModel", "erase", "(II)Z"⟩ : Cond) ∈ vzB := vzB_in8 (List.mem_of_getElem? (i := 31) rfl)
theorem wd_inst_M_erase : (.instanceMethod ⟨"ArrowClassesModel", "erase", "(II)Z"⟩ : Cond) ∈ vzB := vzB_in8 (List.mem_of_getElem? (i := 32) rfl)
theorem wd_sel_M_erase : (.selects "ArrowClassesModel" ⟨"ArrowClassesModel", "erase", "(II)Z"⟩ ⟨"ArrowClassesModel", "erase", "(II)Z"⟩ : Cond) ∈ vzB := vzB_in8 (List.mem_of_getElem? (i := 33) rfl)
theorem wd_code_M_erase : (.code ⟨"ArrowClassesModel", "erase", "(II)Z"⟩ prog_5_method_9_code 3 (some .boolean) : Cond) ∈ vzB := vzB_in8 (List.mem_of_getElem? (i := 34) rfl)
theorem wd_link_L_33 : (.methodLink "ArrowClassesLaw" 33 ⟨"ArrowClassesModel", "turn", "(II)Z"⟩ : Cond) ∈ vzB := vzB_in8 (List.mem_of_getElem? (i := 35) rfl)
theorem wd_inst_M_turn : (.instanceMethod ⟨"ArrowClassesModel", "turn", "(II)Z"⟩ : Cond) ∈ vzB := vzB_in8 (List.mem_of_getElem? (i := 36) rfl)
theorem wd_sel_M_turn : (.selects "ArrowClassesModel" ⟨"ArrowClassesModel", "turn", "(II)Z"⟩ ⟨"ArrowClassesModel", "turn", "(II)Z"⟩ : Cond) ∈ vzB := vzB_in8 (List.mem_of_getElem? (i := 37) rfl)
theorem wd_code_M_turn : (.code ⟨"ArrowClassesModel", "turn", "(II)Z"⟩ prog_5_method_10_code 3 (some .boolean) : Cond) ∈ vzB := vzB_in8 (List.mem_of_getElem? (i := 38) rfl)
theorem wd_link_L_37 : (.methodLink "ArrowClassesLaw" 37 ⟨"ArrowClassesModel", "drawn", "(II)Z"⟩ : Cond) ∈ vzB := vzB_in8 (List.mem_of_getElem? (i := 39) rfl)
theorem wd_inst_M_drawn : (.instanceMethod ⟨"ArrowClassesModel", "drawn", "(II)Z"⟩ : Cond) ∈ vzB := vzB_in9 (List.mem_of_getElem? (i := 0) rfl)
theorem wd_sel_M_drawn : (.selects "ArrowClassesModel" ⟨"ArrowClassesModel", "drawn", "(II)Z"⟩ ⟨"ArrowClassesModel", "drawn", "(II)Z"⟩ : Cond) ∈ vzB := vzB_in9 (List.mem_of_getElem? (i := 1) rfl)
theorem wd_code_M_drawn : (.code ⟨"ArrowClassesModel", "drawn", "(II)Z"⟩ prog_5_method_11_code 3 (some .boolean) : Cond) ∈ vzB := vzB_in9 (List.mem_of_getElem? (i := 2) rfl)
theorem wd_link_L_42 : (.methodLink "ArrowClassesLaw" 42 ⟨"ArrowClassesModel", "parents", "(I)I"⟩ : Cond) ∈ vzB := vzB_in9 (List.mem_of_getElem? (i := 3) rfl)
theorem wd_inst_M_parents : (.instanceMethod ⟨"ArrowClassesModel", "parents", "(I)I"⟩ : Cond) ∈ vzB := vzB_in9 (List.mem_of_getElem? (i := 4) rfl)
theorem wd_sel_M_parents : (.selects "ArrowClassesModel" ⟨"ArrowClassesModel", "parents", "(I)I"⟩ ⟨"ArrowClassesModel", "parents", "(I)I"⟩ : Cond) ∈ vzB := vzB_in9 (List.mem_of_getElem? (i := 5) rfl)
theorem wd_code_M_parents : (.code ⟨"ArrowClassesModel", "parents", "(I)I"⟩ prog_5_method_12_code 4 (some .int) : Cond) ∈ vzB := vzB_in9 (List.mem_of_getElem? (i := 6) rfl)
theorem wd_link_L_46 : (.methodLink "ArrowClassesLaw" 46 ⟨"ArrowClassesModel", "reached", "(I)I"⟩ : Cond) ∈ vzB := vzB_in9 (List.mem_of_getElem? (i := 7) rfl)
theorem wd_inst_M_reached : (.instanceMethod ⟨"ArrowClassesModel", "reached", "(I)I"⟩ : Cond) ∈ vzB := vzB_in9 (List.mem_of_getElem? (i := 8) rfl)
theorem wd_sel_M_reached : (.selects "ArrowClassesModel" ⟨"ArrowClassesModel", "reached", "(I)I"⟩ ⟨"ArrowClassesModel", "reached", "(I)I"⟩ : Cond) ∈ vzB := vzB_in9 (List.mem_of_getElem? (i := 9) rfl)
theorem wd_code_M_reached : (.code ⟨"ArrowClassesModel", "reached", "(I)I"⟩ prog_5_method_13_code 2 (some .int) : Cond) ∈ vzB := vzB_in9 (List.mem_of_getElem? (i := 10) rfl)
theorem wd_link_L_50 : (.methodLink "ArrowClassesLaw" 50 ⟨"ArrowClassesModel", "around", "(I)I"⟩ : Cond) ∈ vzB := vzB_in9 (List.mem_of_getElem? (i := 11) rfl)
theorem wd_inst_M_around : (.instanceMethod ⟨"ArrowClassesModel", "around", "(I)I"⟩ : Cond) ∈ vzB := vzB_in9 (List.mem_of_getElem? (i := 12) rfl)
theorem wd_sel_M_around : (.selects "ArrowClassesModel" ⟨"ArrowClassesModel", "around", "(I)I"⟩ ⟨"ArrowClassesModel", "around", "(I)I"⟩ : Cond) ∈ vzB := vzB_in9 (List.mem_of_getElem? (i := 13) rfl)
theorem wd_code_M_around : (.code ⟨"ArrowClassesModel", "around", "(I)I"⟩ prog_5_method_14_code 4 (some .int) : Cond) ∈ vzB := vzB_in9 (List.mem_of_getElem? (i := 14) rfl)
theorem wd_link_M_67 : (.methodLink "ArrowClassesModel" 67 ⟨"ArrowClassesModel", "parents", "(I)I"⟩ : Cond) ∈ vzB := vzB_in9 (List.mem_of_getElem? (i := 15) rfl)
theorem wd_link_L_55 : (.methodLink "ArrowClassesLaw" 55 ⟨"ArrowClassesModel", "collisions", "()I"⟩ : Cond) ∈ vzB := vzB_in9 (List.mem_of_getElem? (i := 16) rfl)
theorem wd_inst_M_collisions : (.instanceMethod ⟨"ArrowClassesModel", "collisions", "()I"⟩ : Cond) ∈ vzB := vzB_in9 (List.mem_of_getElem? (i := 17) rfl)
theorem wd_sel_M_collisions : (.selects "ArrowClassesModel" ⟨"ArrowClassesModel", "collisions", "()I"⟩ ⟨"ArrowClassesModel", "collisions", "()I"⟩ : Cond) ∈ vzB := vzB_in9 (List.mem_of_getElem? (i := 18) rfl)
theorem wd_code_M_collisions : (.code ⟨"ArrowClassesModel", "collisions", "()I"⟩ prog_5_method_16_code 5 (some .int) : Cond) ∈ vzB := vzB_in9 (List.mem_of_getElem? (i := 19) rfl)
theorem wd_link_M_70 : (.methodLink "ArrowClassesModel" 70 ⟨"ArrowClassesModel", "collides", "([ZIII)Z"⟩ : Cond) ∈ vzB := vzB_in9 (List.mem_of_getElem? (i := 20) rfl)
theorem wd_stat_M_collides : (.static ⟨"ArrowClassesModel", "collides", "([ZIII)Z"⟩ : Cond) ∈ vzB := vzB_in9 (List.mem_of_getElem? (i := 21) rfl)
theorem wd_code_M_collides : (.code ⟨"ArrowClassesModel", "collides", "([ZIII)Z"⟩ prog_5_method_15_code 4 (some .boolean) : Cond) ∈ vzB := vzB_in9 (List.mem_of_getElem? (i := 22) rfl)
theorem wd_link_L_59 : (.methodLink "ArrowClassesLaw" 59 ⟨"ArrowClassesModel", "covered", "(II)Z"⟩ : Cond) ∈ vzB := vzB_in9 (List.mem_of_getElem? (i := 23) rfl)
theorem wd_inst_M_covered : (.instanceMethod ⟨"ArrowClassesModel", "covered", "(II)Z"⟩ : Cond) ∈ vzB := vzB_in9 (List.mem_of_getElem? (i := 24) rfl)
theorem wd_sel_M_covered : (.selects "ArrowClassesModel" ⟨"ArrowClassesModel", "covered", "(II)Z"⟩ ⟨"ArrowClassesModel", "covered", "(II)Z"⟩ : Cond) ∈ vzB := vzB_in9 (List.mem_of_getElem? (i := 25) rfl)
theorem wd_code_M_covered : (.code ⟨"ArrowClassesModel", "covered", "(II)Z"⟩ prog_5_method_17_code 3 (some .boolean) : Cond) ∈ vzB := vzB_in9 (List.mem_of_getElem? (i := 26) rfl)
theorem wd_link_M_74 : (.methodLink "ArrowClassesModel" 74 ⟨"ArrowClassesModel", "drawn", "(II)Z"⟩ : Cond) ∈ vzB := vzB_in9 (List.mem_of_getElem? (i := 27) rfl)
theorem wd_link_L_64 : (.methodLink "ArrowClassesLaw" 64 ⟨"ArrowClassesModel", "separated", "(III)Z"⟩ : Cond) ∈ vzB := vzB_in9 (List.mem_of_getElem? (i := 28) rfl)
theorem wd_inst_M_separated : (.instanceMethod ⟨"ArrowClassesModel", "separated", "(III)Z"⟩ : Cond) ∈ vzB := vzB_in9 (List.mem_of_getElem? (i := 29) rfl)
theorem wd_sel_M_separated : (.selects "ArrowClassesModel" ⟨"ArrowClassesModel", "separated", "(III)Z"⟩ ⟨"ArrowClassesModel", "separated", "(III)Z"⟩ : Cond) ∈ vzB := vzB_in9 (List.mem_of_getElem? (i := 30) rfl)
theorem wd_code_M_separated : (.code ⟨"ArrowClassesModel", "separated", "(III)Z"⟩ prog_5_method_21_code 4 (some .boolean) : Cond) ∈ vzB := vzB_in9 (List.mem_of_getElem? (i := 31) rfl)
theorem wd_link_M_83 : (.methodLink "ArrowClassesModel" 83 ⟨"ArrowClassesModel", "allBlocked", "(III)Z"⟩ : Cond) ∈ vzB := vzB_in9 (List.mem_of_getElem? (i := 32) rfl)
theorem wd_sel_M_allBlocked : (.selects "ArrowClassesModel" ⟨"ArrowClassesModel", "allBlocked", "(III)Z"⟩ ⟨"ArrowClassesModel", "allBlocked", "(III)Z"⟩ : Cond) ∈ vzB := vzB_in9 (List.mem_of_getElem? (i := 33) rfl)
theorem wd_inst_M_allBlocked : (.instanceMethod ⟨"ArrowClassesModel", "allBlocked", "(III)Z"⟩ : Cond) ∈ vzB := vzB_in9 (List.mem_of_getElem? (i := 34) rfl)
theorem wd_code_M_allBlocked : (.code ⟨"ArrowClassesModel", "allBlocked", "(III)Z"⟩ prog_5_method_20_code 7 (some .boolean) : Cond) ∈ vzB := vzB_in9 (List.mem_of_getElem? (i := 35) rfl)
theorem wd_link_M_77 : (.methodLink "ArrowClassesModel" 77 ⟨"ArrowClassesModel", "blocked", "(II)Z"⟩ : Cond) ∈ vzB := vzB_in9 (List.mem_of_getElem? (i := 36) rfl)
theorem wd_sel_M_blocked : (.selects "ArrowClassesModel" ⟨"ArrowClassesModel", "blocked", "(II)Z"⟩ ⟨"ArrowClassesModel", "blocked", "(II)Z"⟩ : Cond) ∈ vzB := vzB_in9 (List.mem_of_getElem? (i := 37) rfl)
theorem wd_inst_M_blocked : (.instanceMethod ⟨"ArrowClassesModel", "blocked", "(II)Z"⟩ : Cond) ∈ vzB := vzB_in9 (List.mem_of_getElem? (i := 38) rfl)
theorem wd_code_M_blocked : (.code ⟨"ArrowClassesModel", "blocked", "(II)Z"⟩ prog_5_method_18_code 6 (some .boolean) : Cond) ∈ vzB := vzB_in9 (List.mem_of_getElem? (i := 39) rfl)
theorem wd_link_M_80 : (.methodLink "ArrowClassesModel" 80 ⟨"ArrowClassesModel", "onPath", "(II)Z"⟩ : Cond) ∈ vzB := vzB_in10 (List.mem_of_getElem? (i := 0) rfl)
theorem wd_sel_M_onPath : (.selects "ArrowClassesModel" ⟨"ArrowClassesModel", "onPath", "(II)Z"⟩ ⟨"ArrowClassesModel", "onPath", "(II)Z"⟩ : Cond) ∈ vzB := vzB_in10 (List.mem_of_getElem? (i := 1) rfl)
theorem wd_inst_M_onPath : (.instanceMethod ⟨"ArrowClassesModel", "onPath", "(II)Z"⟩ : Cond) ∈ vzB := vzB_in10 (List.mem_of_getElem? (i := 2) rfl)
theorem wd_code_M_onPath : (.code ⟨"ArrowClassesModel", "onPath", "(II)Z"⟩ prog_5_method_19_code 5 (some .boolean) : Cond) ∈ vzB := vzB_in10 (List.mem_of_getElem? (i := 3) rfl)
theorem wd_link_L_69 : (.methodLink "ArrowClassesLaw" 69 ⟨"ArrowClassesModel", "separator", "(II)I"⟩ : Cond) ∈ vzB := vzB_in10 (List.mem_of_getElem? (i := 4) rfl)
theorem wd_inst_M_separator : (.instanceMethod ⟨"ArrowClassesModel", "separator", "(II)I"⟩ : Cond) ∈ vzB := vzB_in10 (List.mem_of_getElem? (i := 5) rfl)
theorem wd_sel_M_separator : (.selects "ArrowClassesModel" ⟨"ArrowClassesModel", "separator", "(II)I"⟩ ⟨"ArrowClassesModel", "separator", "(II)I"⟩ : Cond) ∈ vzB := vzB_in10 (List.mem_of_getElem? (i := 6) rfl)
theorem wd_code_M_separator : (.code ⟨"ArrowClassesModel", "separator", "(II)I"⟩ prog_5_method_23_code 5 (some .int) : Cond) ∈ vzB := vzB_in10 (List.mem_of_getElem? (i := 7) rfl)
theorem wd_link_M_87 : (.methodLink "ArrowClassesModel" 87 ⟨"ArrowClassesModel", "size", "(I)I"⟩ : Cond) ∈ vzB := vzB_in10 (List.mem_of_getElem? (i := 8) rfl)
theorem wd_stat_M_size : (.static ⟨"ArrowClassesModel", "size", "(I)I"⟩ : Cond) ∈ vzB := vzB_in10 (List.mem_of_getElem? (i := 9) rfl)
theorem wd_code_M_size : (.code ⟨"ArrowClassesModel", "size", "(I)I"⟩ prog_5_method_22_code 3 (some .int) : Cond) ∈ vzB := vzB_in10 (List.mem_of_getElem? (i := 10) rfl)
theorem wd_link_M_90 : (.methodLink "ArrowClassesModel" 90 ⟨"ArrowClassesModel", "separated", "(III)Z"⟩ : Cond) ∈ vzB := vzB_in10 (List.mem_of_getElem? (i := 11) rfl)
theorem wd_link_L_73 : (.methodLink "ArrowClassesLaw" 73 ⟨"ArrowClassesModel", "separations", "()I"⟩ : Cond) ∈ vzB := vzB_in10 (List.mem_of_getElem? (i := 12) rfl)
theorem wd_inst_M_separations : (.instanceMethod ⟨"ArrowClassesModel", "separations", "()I"⟩ : Cond) ∈ vzB := vzB_in10 (List.mem_of_getElem? (i := 13) rfl)
theorem wd_sel_M_separations : (.selects "ArrowClassesModel" ⟨"ArrowClassesModel", "separations", "()I"⟩ ⟨"ArrowClassesModel", "separations", "()I"⟩ : Cond) ∈ vzB := vzB_in10 (List.mem_of_getElem? (i := 14) rfl)
theorem wd_code_M_separations : (.code ⟨"ArrowClassesModel", "separations", "()I"⟩ prog_5_method_24_code 5 (some .int) : Cond) ∈ vzB := vzB_in10 (List.mem_of_getElem? (i := 15) rfl)
theorem wd_link_L_77 : (.methodLink "ArrowClassesLaw" 77 ⟨"ArrowClassesModel", "edge", "(II)I"⟩ : Cond) ∈ vzB := vzB_in10 (List.mem_of_getElem? (i := 16) rfl)
theorem wd_inst_M_edge : (.instanceMethod ⟨"ArrowClassesModel", "edge", "(II)I"⟩ : Cond) ∈ vzB := vzB_in10 (List.mem_of_getElem? (i := 17) rfl)
theorem wd_sel_M_edge : (.selects "ArrowClassesModel" ⟨"ArrowClassesModel", "edge", "(II)I"⟩ ⟨"ArrowClassesModel", "edge", "(II)I"⟩ : Cond) ∈ vzB := vzB_in10 (List.mem_of_getElem? (i := 18) rfl)
theorem wd_code_M_edge : (.code ⟨"ArrowClassesModel", "edge", "(II)I"⟩ prog_5_method_30_code 3 (some .int) : Cond) ∈ vzB := vzB_in10 (List.mem_of_getElem? (i := 19) rfl)
theorem wd_link_M_113 : (.methodLink "ArrowClassesModel" 113 ⟨"ArrowClassesModel", "goThrough", "()V"⟩ : Cond) ∈ vzB := vzB_in10 (List.mem_of_getElem? (i := 20) rfl)
theorem wd_sel_M_goThrough : (.selects "ArrowClassesModel" ⟨"ArrowClassesModel", "goThrough", "()V"⟩ ⟨"ArrowClassesModel", "goThrough", "()V"⟩ : Cond) ∈ vzB := vzB_in10 (List.mem_of_getElem? (i := 21) rfl)
theorem wd_inst_M_goThrough : (.instanceMethod ⟨"ArrowClassesModel", "goThrough", "()V"⟩ : Cond) ∈ vzB := vzB_in10 (List.mem_of_getElem? (i := 22) rfl)
theorem wd_code_M_goThrough : (.code ⟨"ArrowClassesModel", "goThrough", "()V"⟩ prog_5_method_29_code 3 none : Cond) ∈ vzB := vzB_in10 (List.mem_of_getElem? (i := 23) rfl)
theorem wd_link_M_100 : (.methodLink "ArrowClassesModel" 100 ⟨"ArrowClassesModel", "findPairs", "()V"⟩ : Cond) ∈ vzB := vzB_in10 (List.mem_of_getElem? (i := 24) rfl)
theorem wd_sel_M_findPairs : (.selects "ArrowClassesModel" ⟨"ArrowClassesModel", "findPairs", "()V"⟩ ⟨"ArrowClassesModel", "findPairs", "()V"⟩ : Cond) ∈ vzB := vzB_in10 (List.mem_of_getElem? (i := 25) rfl)
theorem wd_inst_M_findPairs : (.instanceMethod ⟨"ArrowClassesModel", "findPairs", "()V"⟩ : Cond) ∈ vzB := vzB_in10 (List.mem_of_getElem? (i := 26) rfl)
theorem wd_code_M_findPairs : (.code ⟨"ArrowClassesModel", "findPairs", "()V"⟩ prog_5_method_25_code 3 none : Cond) ∈ vzB := vzB_in10 (List.mem_of_getElem? (i := 27) rfl)
theorem wd_link_M_106 : (.methodLink "ArrowClassesModel" 106 ⟨"ArrowClassesModel", "direct", "(I)V"⟩ : Cond) ∈ vzB := vzB_in10 (List.mem_of_getElem? (i := 28) rfl)
theorem wd_sel_M_direct : (.selects "ArrowClassesModel" ⟨"ArrowClassesModel", "direct", "(I)V"⟩ ⟨"ArrowClassesModel", "direct", "(I)V"⟩ : Cond) ∈ vzB := vzB_in10 (List.mem_of_getElem? (i := 29) rfl)
theorem wd_inst_M_direct : (.instanceMethod ⟨"ArrowClassesModel", "direct", "(I)V"⟩ : Cond) ∈ vzB := vzB_in10 (List.mem_of_getElem? (i := 30) rfl)
theorem wd_code_M_direct : (.code ⟨"ArrowClassesModel", "direct", "(I)V"⟩ prog_5_method_26_code 6 none : Cond) ∈ vzB := vzB_in10 (List.mem_of_getElem? (i := 31) rfl)
theorem wd_link_M_110 : (.methodLink "ArrowClassesModel" 110 ⟨"ArrowClassesModel", "isMember", "()Z"⟩ : Cond) ∈ vzB := vzB_in10 (List.mem_of_getElem? (i := 32) rfl)
theorem wd_sel_M_isMember : (.selects "ArrowClassesModel" ⟨"ArrowClassesModel", "isMember", "()Z"⟩ ⟨"ArrowClassesModel", "isMember", "()Z"⟩ : Cond) ∈ vzB := vzB_in10 (List.mem_of_getElem? (i := 33) rfl)
theorem wd_inst_M_isMember : (.instanceMethod ⟨"ArrowClassesModel", "isMember", "()Z"⟩ : Cond) ∈ vzB := vzB_in10 (List.mem_of_getElem? (i := 34) rfl)
theorem wd_code_M_isMember : (.code ⟨"ArrowClassesModel", "isMember", "()Z"⟩ prog_5_method_28_code 4 (some .boolean) : Cond) ∈ vzB := vzB_in10 (List.mem_of_getElem? (i := 35) rfl)
theorem wd_link_M_96 : (.methodLink "ArrowClassesModel" 96 ⟨"ArrowClassesModel", "hasRing", "()Z"⟩ : Cond) ∈ vzB := vzB_in10 (List.mem_of_getElem? (i := 36) rfl)
theorem wd_sel_M_hasRing : (.selects "ArrowClassesModel" ⟨"ArrowClassesModel", "hasRing", "()Z"⟩ ⟨"ArrowClassesModel", "hasRing", "()Z"⟩ : Cond) ∈ vzB := vzB_in10 (List.mem_of_getElem? (i := 37) rfl)
theorem wd_inst_M_hasRing : (.instanceMethod ⟨"ArrowClassesModel", "hasRing", "()Z"⟩ : Cond) ∈ vzB := vzB_in10 (List.mem_of_getElem? (i := 38) rfl)
theorem wd_code_M_hasRing : (.code ⟨"ArrowClassesModel", "hasRing", "()Z"⟩ prog_5_method_27_code 6 (some .boolean) : Cond) ∈ vzB := vzB_in10 (List.mem_of_getElem? (i := 39) rfl)
theorem wd_link_L_81 : (.methodLink "ArrowClassesLaw" 81 ⟨"ArrowClassesModel", "loose", "()I"⟩ : Cond) ∈ vzB := vzB_in11 (List.mem_of_getElem? (i := 0) rfl)
theorem wd_inst_M_loose : (.instanceMethod ⟨"ArrowClassesModel", "loose", "()I"⟩ : Cond) ∈ vzB := vzB_in11 (List.mem_of_getElem? (i := 1) rfl)
theorem wd_sel_M_loose : (.selects "ArrowClassesModel" ⟨"ArrowClassesModel", "loose", "()I"⟩ ⟨"ArrowClassesModel", "loose", "()I"⟩ : Cond) ∈ vzB := vzB_in11 (List.mem_of_getElem? (i := 2) rfl)
theorem wd_code_M_loose : (.code ⟨"ArrowClassesModel", "loose", "()I"⟩ prog_5_method_31_code 4 (some .int) : Cond) ∈ vzB := vzB_in11 (List.mem_of_getElem? (i := 3) rfl)
theorem wd_link_L_85 : (.methodLink "ArrowClassesLaw" 85 ⟨"ArrowClassesModel", "know", "(II)Z"⟩ : Cond) ∈ vzB := vzB_in11 (List.mem_of_getElem? (i := 4) rfl)
theorem wd_inst_M_know : (.instanceMethod ⟨"ArrowClassesModel", "know", "(II)Z"⟩ : Cond) ∈ vzB := vzB_in11 (List.mem_of_getElem? (i := 5) rfl)
theorem wd_sel_M_know : (.selects "ArrowClassesModel" ⟨"ArrowClassesModel", "know", "(II)Z"⟩ ⟨"ArrowClassesModel", "know", "(II)Z"⟩ : Cond) ∈ vzB := vzB_in11 (List.mem_of_getElem? (i := 6) rfl)
theorem wd_code_M_know : (.code ⟨"ArrowClassesModel", "know", "(II)Z"⟩ prog_5_method_32_code 3 (some .boolean) : Cond) ∈ vzB := vzB_in11 (List.mem_of_getElem? (i := 7) rfl)
theorem wd_link_L_89 : (.methodLink "ArrowClassesLaw" 89 ⟨"ArrowClassesModel", "forget", "()I"⟩ : Cond) ∈ vzB := vzB_in11 (List.mem_of_getElem? (i := 8) rfl)
theorem wd_inst_M_forget : (.instanceMethod ⟨"ArrowClassesModel", "forget", "()I"⟩ : Cond) ∈ vzB := vzB_in11 (List.mem_of_getElem? (i := 9) rfl)
theorem wd_sel_M_forget : (.selects "ArrowClassesModel" ⟨"ArrowClassesModel", "forget", "()I"⟩ ⟨"ArrowClassesModel", "forget", "()I"⟩ : Cond) ∈ vzB := vzB_in11 (List.mem_of_getElem? (i := 10) rfl)
theorem wd_code_M_forget : (.code ⟨"ArrowClassesModel", "forget", "()I"⟩ prog_5_method_33_code 3 (some .int) : Cond) ∈ vzB := vzB_in11 (List.mem_of_getElem? (i := 11) rfl)
theorem wd_link_L_93 : (.methodLink "ArrowClassesLaw" 93 ⟨"ArrowClassesModel", "members", "()I"⟩ : Cond) ∈ vzB := vzB_in11 (List.mem_of_getElem? (i := 12) rfl)
theorem wd_inst_M_members : (.instanceMethod ⟨"ArrowClassesModel", "members", "()I"⟩ : Cond) ∈ vzB := vzB_in11 (List.mem_of_getElem? (i := 13) rfl)
theorem wd_sel_M_members : (.selects "ArrowClassesModel" ⟨"ArrowClassesModel", "members", "()I"⟩ ⟨"ArrowClassesModel", "members", "()I"⟩ : Cond) ∈ vzB := vzB_in11 (List.mem_of_getElem? (i := 14) rfl)
theorem wd_code_M_members : (.code ⟨"ArrowClassesModel", "members", "()I"⟩ prog_5_method_34_code 1 (some .int) : Cond) ∈ vzB := vzB_in11 (List.mem_of_getElem? (i := 15) rfl)
theorem wd_link_L_97 : (.methodLink "ArrowClassesLaw" 97 ⟨"ArrowClassesModel", "first", "(II)Z"⟩ : Cond) ∈ vzB := vzB_in11 (List.mem_of_getElem? (i := 16) rfl)
theorem wd_inst_M_first : (.instanceMethod ⟨"ArrowClassesModel", "first", "(II)Z"⟩ : Cond) ∈ vzB := vzB_in11 (List.mem_of_getElem? (i := 17) rfl)
theorem wd_sel_M_first : (.selects "ArrowClassesModel" ⟨"ArrowClassesModel", "first", "(II)Z"⟩ ⟨"ArrowClassesModel", "first", "(II)Z"⟩ : Cond) ∈ vzB := vzB_in11 (List.mem_of_getElem? (i := 18) rfl)
theorem wd_code_M_first : (.code ⟨"ArrowClassesModel", "first", "(II)Z"⟩ prog_5_method_35_code 3 (some .boolean) : Cond) ∈ vzB := vzB_in11 (List.mem_of_getElem? (i := 19) rfl)
theorem wd_link_L_101 : (.methodLink "ArrowClassesLaw" 101 ⟨"ArrowClassesModel", "turned", "()I"⟩ : Cond) ∈ vzB := vzB_in11 (List.mem_of_getElem? (i := 20) rfl)
theorem wd_inst_M_turned : (.instanceMethod ⟨"ArrowClassesModel", "turned", "()I"⟩ : Cond) ∈ vzB := vzB_in11 (List.mem_of_getElem? (i := 21) rfl)
theorem wd_sel_M_turned : (.selects "ArrowClassesModel" ⟨"ArrowClassesModel", "turned", "()I"⟩ ⟨"ArrowClassesModel", "turned", "()I"⟩ : Cond) ∈ vzB := vzB_in11 (List.mem_of_getElem? (i := 22) rfl)
theorem wd_code_M_turned : (.code ⟨"ArrowClassesModel", "turned", "()I"⟩ prog_5_method_36_code 4 (some .int) : Cond) ∈ vzB := vzB_in11 (List.mem_of_getElem? (i := 23) rfl)
theorem gd_0 : vzB_0.all goodWord = true := by decide +kernel
theorem gd_1 : vzB_1.all goodWord = true := by decide +kernel
theorem gd_2 : vzB_2.all goodWord = true := by decide +kernel
theorem gd_3 : vzB_3.all goodWord = true := by decide +kernel
theorem gd_4 : vzB_4.all goodWord = true := by decide +kernel
theorem gd_5 : vzB_5.all goodWord = true := by decide +kernel
theorem gd_6 : vzB_6.all goodWord = true := by decide +kernel
theorem gd_7 : vzB_7.all goodWord = true := by decide +kernel
theorem gd_8 : vzB_8.all goodWord = true := by decide +kernel
theorem gd_9 : vzB_9.all goodWord = true := by decide +kernel
theorem gd_10 : vzB_10.all goodWord = true := by decide +kernel
theorem gd_11 : vzB_11.all goodWord = true := by decide +kernel
theorem gd_B : GoodIn vzB vzB := goodIn_app2 (goodIn_sub2 vzB_in0 gd_0) (goodIn_app2 (goodIn_sub2 vzB_in1 gd_1) (goodIn_app2 (goodIn_sub2 vzB_in2 gd_2) (goodIn_app2 (goodIn_sub2 vzB_in3 gd_3) (goodIn_app2 (goodIn_sub2 vzB_in4 gd_4) (goodIn_app2 (goodIn_sub2 vzB_in5 gd_5) (goodIn_app2 (goodIn_sub2 vzB_in6 gd_6) (goodIn_app2 (goodIn_sub2 vzB_in7 gd_7) (goodIn_app2 (goodIn_sub2 vzB_in8 gd_8) (goodIn_app2 (goodIn_sub2 vzB_in9 gd_9) (goodIn_app2 (goodIn_sub2 vzB_in10 gd_10) (goodIn_sub2 vzB_in11 gd_11)))))))))))
theorem inG : ∀ w ∈ u_ws "ArrowClasses$Graph" TG 3, w ∈ vzB := List.forall_mem_cons.mpr ⟨wd_lay_G_nodes, List.forall_mem_cons.mpr ⟨wd_lay_G_parents, List.forall_mem_cons.mpr ⟨wd_lay_G_children, fun _ h => absurd h List.not_mem_nil⟩⟩⟩
theorem inK : ∀ w ∈ u_ws "ArrowClasses$Kindred" TK 14, w ∈ vzB := List.forall_mem_cons.mpr ⟨wd_lay_K_drawn, List.forall_mem_cons.mpr ⟨wd_lay_K_tried, List.forall_mem_cons.mpr ⟨wd_lay_K_lows, List.forall_mem_cons.mpr ⟨wd_lay_K_highs, List.forall_mem_cons.mpr ⟨wd_lay_K_pairs, List.forall_mem_cons.mpr ⟨wd_lay_K_drawnCode, List.forall_mem_cons.mpr ⟨wd_lay_K_collidingBits, List.forall_mem_cons.mpr ⟨wd_lay_K_knownBits, List.forall_mem_cons.mpr ⟨wd_lay_K_knownCode, List.forall_mem_cons.mpr ⟨wd_lay_K_gathered, List.forall_mem_cons.mpr ⟨wd_lay_K_count, List.forall_mem_cons.mpr ⟨wd_lay_K_firstCode, List.forall_mem_cons.mpr ⟨wd_lay_K_someFalling, List.forall_mem_cons.mpr ⟨wd_lay_K_allFalling, fun _ h => absurd h List.not_mem_nil⟩⟩⟩⟩⟩⟩⟩⟩⟩⟩⟩⟩⟩⟩
theorem inA : ∀ w ∈ u_ws "ArrowClasses" TA 4, w ∈ vzB := List.forall_mem_cons.mpr ⟨wd_lay_A_nodes, List.forall_mem_cons.mpr ⟨wd_lay_A_kindred, List.forall_mem_cons.mpr ⟨wd_lay_A_graph, List.forall_mem_cons.mpr ⟨wd_lay_A_separationCount, fun _ h => absurd h List.not_mem_nil⟩⟩⟩⟩
theorem inM : ∀ w ∈ u_ws "ArrowClassesModel" TM 13, w ∈ vzB := List.forall_mem_cons.mpr ⟨wd_lay_M_nodes, List.forall_mem_cons.mpr ⟨wd_lay_M_has, List.forall_mem_cons.mpr ⟨wd_lay_M_known, List.forall_mem_cons.mpr ⟨wd_lay_M_tried, List.forall_mem_cons.mpr ⟨wd_lay_M_count, List.forall_mem_cons.mpr ⟨wd_lay_M_having, List.forall_mem_cons.mpr ⟨wd_lay_M_best, List.forall_mem_cons.mpr ⟨wd_lay_M_pairs, List.forall_mem_cons.mpr ⟨wd_lay_M_low, List.forall_mem_cons.mpr ⟨wd_lay_M_high, List.forall_mem_cons.mpr ⟨wd_lay_M_path, List.forall_mem_cons.mpr ⟨wd_lay_M_next, List.forall_mem_cons.mpr ⟨wd_lay_M_reaches, fun _ h => absurd h List.not_mem_nil⟩⟩⟩⟩⟩⟩⟩⟩⟩⟩⟩⟩⟩
abbrev b_A_init : ByteArray := prog_1_method_1_code
abbrev y_A_init : MethodName := ⟨"ArrowClasses", "<init>", "(I)V"⟩
abbrev w_A_init : List Cond := .code y_A_init b_A_init 2 none :: vzB
abbrev b_K_init : ByteArray := prog_3_method_1_code
abbrev y_K_init : MethodName := ⟨"ArrowClasses$Kindred", "<init>", "(I)V"⟩
abbrev w_K_init : List Cond := .code y_K_init b_K_init 2 none :: vzB
abbrev b_G_init : ByteArray := prog_2_method_1_code
abbrev y_G_init : MethodName := ⟨"ArrowClasses$Graph", "<init>", "(I)V"⟩
abbrev w_G_init : List Cond := .code y_G_init b_G_init 2 none :: vzB
abbrev b_A_arrow : ByteArray := prog_1_method_2_code
abbrev y_A_arrow : MethodName := ⟨"ArrowClasses", "arrow", "(II)Z"⟩
abbrev w_A_arrow : List Cond := .code y_A_arrow b_A_arrow 3 (some .boolean) :: vzB
abbrev b_A_isPair : ByteArray := prog_1_method_22_code
abbrev y_A_isPair : MethodName := ⟨"ArrowClasses", "isPair", "(II)Z"⟩
abbrev w_A_isPair : List Cond := .code y_A_isPair b_A_isPair 3 (some .boolean) :: vzB
abbrev b_A_isNode : ByteArray := prog_1_method_21_code
abbrev y_A_isNode : MethodName := ⟨"ArrowClasses", "isNode", "(I)Z"⟩
abbrev w_A_isNode : List Cond := .code y_A_isNode b_A_isNode 2 (some .boolean) :: vzB
abbrev b_G_joins : ByteArray := prog_2_method_3_code
abbrev y_G_joins : MethodName := ⟨"ArrowClasses$Graph", "joins", "(II)Z"⟩
abbrev w_G_joins : List Cond := .code y_G_joins b_G_joins 3 (some .boolean) :: vzB
abbrev b_G_has : ByteArray := prog_2_method_2_code
abbrev y_G_has : MethodName := ⟨"ArrowClasses$Graph", "has", "(II)Z"⟩
abbrev w_G_has : List Cond := .code y_G_has b_G_has 3 (some .boolean) :: vzB
abbrev b_A_holds : ByteArray := prog_1_method_25_code
abbrev y_A_holds : MethodName := ⟨"ArrowClasses", "holds", "(II)Z"⟩
abbrev w_A_holds : List Cond := .code y_A_holds b_A_holds 2 (some .boolean) :: vzB
abbrev b_G_size : ByteArray := prog_2_method_7_code
abbrev y_G_size : MethodName := ⟨"ArrowClasses$Graph", "size", "()I"⟩
abbrev w_G_size : List Cond := .code y_G_size b_G_size 3 (some .int) :: vzB
abbrev b_J_bitCount : ByteArray := prog_6_method_49_code
abbrev y_J_bitCount : MethodName := ⟨"java/lang/Integer", "bitCount", "(I)I"⟩
abbrev w_J_bitCount : List Cond := .code y_J_bitCount b_J_bitCount 1 (some .int) :: vzB
abbrev b_G_reachOf : ByteArray := prog_2_method_8_code
abbrev y_G_reachOf : MethodName := ⟨"ArrowClasses$Graph", "reachOf", "(I)I"⟩
abbrev w_G_reachOf : List Cond := .code y_G_reachOf b_G_reachOf 5 (some .int) :: vzB
abbrev b_G_put : ByteArray := prog_2_method_4_code
abbrev y_G_put : MethodName := ⟨"ArrowClasses$Graph", "put", "(II)V"⟩
abbrev w_G_put : List Cond := .code y_G_put b_G_put 3 none :: vzB
abbrev b_A_noteChange : ByteArray := prog_1_method_23_code
abbrev y_A_noteChange : MethodName := ⟨"ArrowClasses", "noteChange", "()V"⟩
abbrev w_A_noteChange : List Cond := .code y_A_noteChange b_A_noteChange 1 none :: vzB
abbrev b_K_restart : ByteArray := prog_3_method_2_code
abbrev y_K_restart : MethodName := ⟨"ArrowClasses$Kindred", "restart", "()V"⟩
abbrev w_K_restart : List Cond := .code y_K_restart b_K_restart 3 none :: vzB
abbrev b_K_listPair : ByteArray := prog_3_method_3_code
abbrev y_K_listPair : MethodName := ⟨"ArrowClasses$Kindred", "listPair", "(II)V"⟩
abbrev w_K_listPair : List Cond := .code y_K_listPair b_K_listPair 4 none :: vzB
abbrev b_G_strangers : ByteArray := prog_2_method_10_code
abbrev y_G_strangers : MethodName := ⟨"ArrowClasses$Graph", "strangers", "(II)I"⟩
abbrev w_G_strangers : List Cond := .code y_G_strangers b_G_strangers 3 (some .int) :: vzB
abbrev b_A_erase : ByteArray := prog_1_method_3_code
abbrev y_A_erase : MethodName := ⟨"ArrowClasses", "erase", "(II)Z"⟩
abbrev w_A_erase : List Cond := .code y_A_erase b_A_erase 3 (some .boolean) :: vzB
abbrev b_G_take : ByteArray := prog_2_method_5_code
abbrev y_G_take : MethodName := ⟨"ArrowClasses$Graph", "take", "(II)V"⟩
abbrev w_G_take : List Cond := .code y_G_take b_G_take 3 none :: vzB
abbrev b_A_turn : ByteArray := prog_1_method_4_code
abbrev y_A_turn : MethodName := ⟨"ArrowClasses", "turn", "(II)Z"⟩
abbrev w_A_turn : List Cond := .code y_A_turn b_A_turn 3 (some .boolean) :: vzB
abbrev b_A_drawn : ByteArray := prog_1_method_5_code
abbrev y_A_drawn : MethodName := ⟨"ArrowClasses", "drawn", "(II)Z"⟩
abbrev w_A_drawn : List Cond := .code y_A_drawn b_A_drawn 3 (some .boolean) :: vzB
abbrev b_A_parents : ByteArray := prog_1_method_6_code
abbrev y_A_parents : MethodName := ⟨"ArrowClasses", "parents", "(I)I"⟩
abbrev w_A_parents : List Cond := .code y_A_parents b_A_parents 2 (some .int) :: vzB
abbrev b_A_reached : ByteArray := prog_1_method_7_code
abbrev y_A_reached : MethodName := ⟨"ArrowClasses", "reached", "(I)I"⟩
abbrev w_A_reached : List Cond := .code y_A_reached b_A_reached 2 (some .int) :: vzB
abbrev b_A_around : ByteArray := prog_1_method_8_code
abbrev y_A_around : MethodName := ⟨"ArrowClasses", "around", "(I)I"⟩
abbrev w_A_around : List Cond := .code y_A_around b_A_around 4 (some .int) :: vzB
abbrev b_A_collisions : ByteArray := prog_1_method_9_code
abbrev y_A_collisions : MethodName := ⟨"ArrowClasses", "collisions", "()I"⟩
abbrev w_A_collisions : List Cond := .code y_A_collisions b_A_collisions 4 (some .int) :: vzB
abbrev b_A_covered : ByteArray := prog_1_method_10_code
abbrev y_A_covered : MethodName := ⟨"ArrowClasses", "covered", "(II)Z"⟩
abbrev w_A_covered : List Cond := .code y_A_covered b_A_covered 3 (some .boolean) :: vzB
abbrev b_A_separated : ByteArray := prog_1_method_11_code
abbrev y_A_separated : MethodName := ⟨"ArrowClasses", "separated", "(III)Z"⟩
abbrev w_A_separated : List Cond := .code y_A_separated b_A_separated 4 (some .boolean) :: vzB
abbrev b_G_openFrom : ByteArray := prog_2_method_12_code
abbrev y_G_openFrom : MethodName := ⟨"ArrowClasses$Graph", "openFrom", "(II)I"⟩
abbrev w_G_openFrom : List Cond := .code y_G_openFrom b_G_openFrom 11 (some .int) :: vzB
abbrev b_A_separator : ByteArray := prog_1_method_12_code
abbrev y_A_separator : MethodName := ⟨"ArrowClasses", "separator", "(II)I"⟩
abbrev w_A_separator : List Cond := .code y_A_separator b_A_separator 7 (some .int) :: vzB
abbrev b_A_separations : ByteArray := prog_1_method_13_code
abbrev y_A_separations : MethodName := ⟨"ArrowClasses", "separations", "()I"⟩
abbrev w_A_separations : List Cond := .code y_A_separations b_A_separations 3 (some .int) :: vzB
abbrev b_A_separationsBy : ByteArray := prog_1_method_24_code
abbrev y_A_separationsBy : MethodName := ⟨"ArrowClasses", "separationsBy", "(I)I"⟩
abbrev w_A_separationsBy : List Cond := .code y_A_separationsBy b_A_separationsBy 5 (some .int) :: vzB
abbrev b_A_edge : ByteArray := prog_1_method_14_code
abbrev y_A_edge : MethodName := ⟨"ArrowClasses", "edge", "(II)I"⟩
abbrev w_A_edge : List Cond := .code y_A_edge b_A_edge 3 (some .int) :: vzB
abbrev b_K_someHas : ByteArray := prog_3_method_5_code
abbrev y_K_someHas : MethodName := ⟨"ArrowClasses$Kindred", "someHas", "(II)Z"⟩
abbrev w_K_someHas : List Cond := .code y_K_someHas b_K_someHas 4 (some .boolean) :: vzB
abbrev b_K_gather : ByteArray := prog_3_method_13_code
abbrev y_K_gather : MethodName := ⟨"ArrowClasses$Kindred", "gather", "()V"⟩
abbrev w_K_gather : List Cond := .code y_K_gather b_K_gather 2 none :: vzB
abbrev b_K_isMember : ByteArray := prog_3_method_14_code
abbrev y_K_isMember : MethodName := ⟨"ArrowClasses$Kindred", "isMember", "(I)Z"⟩
abbrev w_K_isMember : List Cond := .code y_K_isMember b_K_isMember 3 (some .boolean) :: vzB
abbrev b_G_empty : ByteArray := prog_2_method_6_code
abbrev y_G_empty : MethodName := ⟨"ArrowClasses$Graph", "empty", "()V"⟩
abbrev w_G_empty : List Cond := .code y_G_empty b_G_empty 2 none :: vzB
abbrev b_K_bitAt : ByteArray := prog_3_method_12_code
abbrev y_K_bitAt : MethodName := ⟨"ArrowClasses$Kindred", "bitAt", "(I)I"⟩
abbrev w_K_bitAt : List Cond := .code y_K_bitAt b_K_bitAt 2 (some .int) :: vzB
abbrev b_G_collidesLike : ByteArray := prog_2_method_11_code
abbrev y_G_collidesLike : MethodName := ⟨"ArrowClasses$Graph", "collidesLike", "(LArrowClasses$Graph;)Z"⟩
abbrev w_G_collidesLike : List Cond := .code y_G_collidesLike b_G_collidesLike 4 (some .boolean) :: vzB
abbrev b_G_hasRing : ByteArray := prog_2_method_9_code
abbrev y_G_hasRing : MethodName := ⟨"ArrowClasses$Graph", "hasRing", "()Z"⟩
abbrev w_G_hasRing : List Cond := .code y_G_hasRing b_G_hasRing 4 (some .boolean) :: vzB
abbrev b_K_bitOf : ByteArray := prog_3_method_11_code
abbrev y_K_bitOf : MethodName := ⟨"ArrowClasses$Kindred", "bitOf", "(II)I"⟩
abbrev w_K_bitOf : List Cond := .code y_K_bitOf b_K_bitOf 4 (some .int) :: vzB
abbrev b_A_loose : ByteArray := prog_1_method_15_code
abbrev y_A_loose : MethodName := ⟨"ArrowClasses", "loose", "()I"⟩
abbrev w_A_loose : List Cond := .code y_A_loose b_A_loose 1 (some .int) :: vzB
abbrev b_K_loosePairs : ByteArray := prog_3_method_7_code
abbrev y_K_loosePairs : MethodName := ⟨"ArrowClasses$Kindred", "loosePairs", "()I"⟩
abbrev w_K_loosePairs : List Cond := .code y_K_loosePairs b_K_loosePairs 1 (some .int) :: vzB
abbrev b_A_know : ByteArray := prog_1_method_16_code
abbrev y_A_know : MethodName := ⟨"ArrowClasses", "know", "(II)Z"⟩
abbrev w_A_know : List Cond := .code y_A_know b_A_know 3 (some .boolean) :: vzB
abbrev b_K_fix : ByteArray := prog_3_method_9_code
abbrev y_K_fix : MethodName := ⟨"ArrowClasses$Kindred", "fix", "(II)V"⟩
abbrev w_K_fix : List Cond := .code y_K_fix b_K_fix 4 none :: vzB
abbrev b_A_forget : ByteArray := prog_1_method_17_code
abbrev y_A_forget : MethodName := ⟨"ArrowClasses", "forget", "()I"⟩
abbrev w_A_forget : List Cond := .code y_A_forget b_A_forget 1 (some .int) :: vzB
abbrev b_K_unfix : ByteArray := prog_3_method_10_code
abbrev y_K_unfix : MethodName := ⟨"ArrowClasses$Kindred", "unfix", "()I"⟩
abbrev w_K_unfix : List Cond := .code y_K_unfix b_K_unfix 2 (some .int) :: vzB
abbrev b_A_members : ByteArray := prog_1_method_18_code
abbrev y_A_members : MethodName := ⟨"ArrowClasses", "members", "()I"⟩
abbrev w_A_members : List Cond := .code y_A_members b_A_members 1 (some .int) :: vzB
abbrev b_K_size : ByteArray := prog_3_method_4_code
abbrev y_K_size : MethodName := ⟨"ArrowClasses$Kindred", "size", "()I"⟩
abbrev w_K_size : List Cond := .code y_K_size b_K_size 1 (some .int) :: vzB
abbrev b_A_first : ByteArray := prog_1_method_19_code
abbrev y_A_first : MethodName := ⟨"ArrowClasses", "first", "(II)Z"⟩
abbrev w_A_first : List Cond := .code y_A_first b_A_first 3 (some .boolean) :: vzB
abbrev b_K_firstHas : ByteArray := prog_3_method_6_code
abbrev y_K_firstHas : MethodName := ⟨"ArrowClasses$Kindred", "firstHas", "(II)Z"⟩
abbrev w_K_firstHas : List Cond := .code y_K_firstHas b_K_firstHas 4 (some .boolean) :: vzB
abbrev b_A_turned : ByteArray := prog_1_method_20_code
abbrev y_A_turned : MethodName := ⟨"ArrowClasses", "turned", "()I"⟩
abbrev w_A_turned : List Cond := .code y_A_turned b_A_turned 1 (some .int) :: vzB
abbrev b_K_turnedInFirst : ByteArray := prog_3_method_8_code
abbrev y_K_turnedInFirst : MethodName := ⟨"ArrowClasses$Kindred", "turnedInFirst", "()I"⟩
abbrev w_K_turnedInFirst : List Cond := .code y_K_turnedInFirst b_K_turnedInFirst 1 (some .int) :: vzB
abbrev b_L_cell : ByteArray := method_2_code
abbrev y_L_cell : MethodName := ⟨"ArrowClassesLaw", "cell", "([II)I"⟩
abbrev w_L_cell : List Cond := .code y_L_cell b_L_cell 2 (some .int) :: vzB
abbrev b_M_init : ByteArray := prog_5_method_1_code
abbrev y_M_init : MethodName := ⟨"ArrowClassesModel", "<init>", "(I)V"⟩
abbrev w_M_init : List Cond := .code y_M_init b_M_init 2 none :: vzB
abbrev b_M_arrow : ByteArray := prog_5_method_8_code
abbrev y_M_arrow : MethodName := ⟨"ArrowClassesModel", "arrow", "(II)Z"⟩
abbrev w_M_arrow : List Cond := .code y_M_arrow b_M_arrow 3 (some .boolean) :: vzB
abbrev b_M_areNodes : ByteArray := prog_5_method_3_code
abbrev y_M_areNodes : MethodName := ⟨"ArrowClassesModel", "areNodes", "(II)Z"⟩
abbrev w_M_areNodes : List Cond := .code y_M_areNodes b_M_areNodes 3 (some .boolean) :: vzB
abbrev b_M_isNode : ByteArray := prog_5_method_2_code
abbrev y_M_isNode : MethodName := ⟨"ArrowClassesModel", "isNode", "(I)Z"⟩
abbrev w_M_isNode : List Cond := .code y_M_isNode b_M_isNode 2 (some .boolean) :: vzB
abbrev b_M_joined : ByteArray := prog_5_method_4_code
abbrev y_M_joined : MethodName := ⟨"ArrowClassesModel", "joined", "(II)Z"⟩
abbrev w_M_joined : List Cond := .code y_M_joined b_M_joined 3 (some .boolean) :: vzB
abbrev b_M_arrows : ByteArray := prog_5_method_5_code
abbrev y_M_arrows : MethodName := ⟨"ArrowClassesModel", "arrows", "()I"⟩
abbrev w_M_arrows : List Cond := .code y_M_arrows b_M_arrows 3 (some .int) :: vzB
abbrev b_M_reach : ByteArray := prog_5_method_7_code
abbrev y_M_reach : MethodName := ⟨"ArrowClassesModel", "reach", "(I)I"⟩
abbrev w_M_reach : List Cond := .code y_M_reach b_M_reach 6 (some .int) :: vzB
abbrev b_M_forgetAll : ByteArray := prog_5_method_6_code
abbrev y_M_forgetAll : MethodName := ⟨"ArrowClassesModel", "forgetAll", "()V"⟩
abbrev w_M_forgetAll : List Cond := .code y_M_forgetAll b_M_forgetAll 2 none :: vzB
abbrev b_M_erase : ByteArray := prog_5_method_9_code
abbrev y_M_erase : MethodName := ⟨"ArrowClassesModel", "erase", "(II)Z"⟩
abbrev w_M_erase : List Cond := .code y_M_erase b_M_erase 3 (some .boolean) :: vzB
abbrev b_M_turn : ByteArray := prog_5_method_10_code
abbrev y_M_turn : MethodName := ⟨"ArrowClassesModel", "turn", "(II)Z"⟩
abbrev w_M_turn : List Cond := .code y_M_turn b_M_turn 3 (some .boolean) :: vzB
abbrev b_M_drawn : ByteArray := prog_5_method_11_code
abbrev y_M_drawn : MethodName := ⟨"ArrowClassesModel", "drawn", "(II)Z"⟩
abbrev w_M_drawn : List Cond := .code y_M_drawn b_M_drawn 3 (some .boolean) :: vzB
abbrev b_M_parents : ByteArray := prog_5_method_12_code
abbrev y_M_parents : MethodName := ⟨"ArrowClassesModel", "parents", "(I)I"⟩
abbrev w_M_parents : List Cond := .code y_M_parents b_M_parents 4 (some .int) :: vzB
abbrev b_M_reached : ByteArray := prog_5_method_13_code
abbrev y_M_reached : MethodName := ⟨"ArrowClassesModel", "reached", "(I)I"⟩
abbrev w_M_reached : List Cond := .code y_M_reached b_M_reached 2 (some .int) :: vzB
abbrev b_M_around : ByteArray := prog_5_method_14_code
abbrev y_M_around : MethodName := ⟨"ArrowClassesModel", "around", "(I)I"⟩
abbrev w_M_around : List Cond := .code y_M_around b_M_around 4 (some .int) :: vzB
abbrev b_M_collisions : ByteArray := prog_5_method_16_code
abbrev y_M_collisions : MethodName := ⟨"ArrowClassesModel", "collisions", "()I"⟩
abbrev w_M_collisions : List Cond := .code y_M_collisions b_M_collisions 5 (some .int) :: vzB
abbrev b_M_collides : ByteArray := prog_5_method_15_code
abbrev y_M_collides : MethodName := ⟨"ArrowClassesModel", "collides", "([ZIII)Z"⟩
abbrev w_M_collides : List Cond := .code y_M_collides b_M_collides 4 (some .boolean) :: vzB
abbrev b_M_covered : ByteArray := prog_5_method_17_code
abbrev y_M_covered : MethodName := ⟨"ArrowClassesModel", "covered", "(II)Z"⟩
abbrev w_M_covered : List Cond := .code y_M_covered b_M_covered 3 (some .boolean) :: vzB
abbrev b_M_separated : ByteArray := prog_5_method_21_code
abbrev y_M_separated : MethodName := ⟨"ArrowClassesModel", "separated", "(III)Z"⟩
abbrev w_M_separated : List Cond := .code y_M_separated b_M_separated 4 (some .boolean) :: vzB
abbrev b_M_allBlocked : ByteArray := prog_5_method_20_code
abbrev y_M_allBlocked : MethodName := ⟨"ArrowClassesModel", "allBlocked", "(III)Z"⟩
abbrev w_M_allBlocked : List Cond := .code y_M_allBlocked b_M_allBlocked 7 (some .boolean) :: vzB
abbrev b_M_blocked : ByteArray := prog_5_method_18_code
abbrev y_M_blocked : MethodName := ⟨"ArrowClassesModel", "blocked", "(II)Z"⟩
abbrev w_M_blocked : List Cond := .code y_M_blocked b_M_blocked 6 (some .boolean) :: vzB
abbrev b_M_onPath : ByteArray := prog_5_method_19_code
abbrev y_M_onPath : MethodName := ⟨"ArrowClassesModel", "onPath", "(II)Z"⟩
abbrev w_M_onPath : List Cond := .code y_M_onPath b_M_onPath 5 (some .boolean) :: vzB
abbrev b_M_separator : ByteArray := prog_5_method_23_code
abbrev y_M_separator : MethodName := ⟨"ArrowClassesModel", "separator", "(II)I"⟩
abbrev w_M_separator : List Cond := .code y_M_separator b_M_separator 5 (some .int) :: vzB
abbrev b_M_size : ByteArray := prog_5_method_22_code
abbrev y_M_size : MethodName := ⟨"ArrowClassesModel", "size", "(I)I"⟩
abbrev w_M_size : List Cond := .code y_M_size b_M_size 3 (some .int) :: vzB
abbrev b_M_separations : ByteArray := prog_5_method_24_code
abbrev y_M_separations : MethodName := ⟨"ArrowClassesModel", "separations", "()I"⟩
abbrev w_M_separations : List Cond := .code y_M_separations b_M_separations 5 (some .int) :: vzB
abbrev b_M_edge : ByteArray := prog_5_method_30_code
abbrev y_M_edge : MethodName := ⟨"ArrowClassesModel", "edge", "(II)I"⟩
abbrev w_M_edge : List Cond := .code y_M_edge b_M_edge 3 (some .int) :: vzB
abbrev b_M_goThrough : ByteArray := prog_5_method_29_code
abbrev y_M_goThrough : MethodName := ⟨"ArrowClassesModel", "goThrough", "()V"⟩
abbrev w_M_goThrough : List Cond := .code y_M_goThrough b_M_goThrough 3 none :: vzB
abbrev b_M_findPairs : ByteArray := prog_5_method_25_code
abbrev y_M_findPairs : MethodName := ⟨"ArrowClassesModel", "findPairs", "()V"⟩
abbrev w_M_findPairs : List Cond := .code y_M_findPairs b_M_findPairs 3 none :: vzB
abbrev b_M_direct : ByteArray := prog_5_method_26_code
abbrev y_M_direct : MethodName := ⟨"ArrowClassesModel", "direct", "(I)V"⟩
abbrev w_M_direct : List Cond := .code y_M_direct b_M_direct 6 none :: vzB
abbrev b_M_isMember : ByteArray := prog_5_method_28_code
abbrev y_M_isMember : MethodName := ⟨"ArrowClassesModel", "isMember", "()Z"⟩
abbrev w_M_isMember : List Cond := .code y_M_isMember b_M_isMember 4 (some .boolean) :: vzB
abbrev b_M_hasRing : ByteArray := prog_5_method_27_code
abbrev y_M_hasRing : MethodName := ⟨"ArrowClassesModel", "hasRing", "()Z"⟩
abbrev w_M_hasRing : List Cond := .code y_M_hasRing b_M_hasRing 6 (some .boolean) :: vzB
abbrev b_M_loose : ByteArray := prog_5_method_31_code
abbrev y_M_loose : MethodName := ⟨"ArrowClassesModel", "loose", "()I"⟩
abbrev w_M_loose : List Cond := .code y_M_loose b_M_loose 4 (some .int) :: vzB
abbrev b_M_know : ByteArray := prog_5_method_32_code
abbrev y_M_know : MethodName := ⟨"ArrowClassesModel", "know", "(II)Z"⟩
abbrev w_M_know : List Cond := .code y_M_know b_M_know 3 (some .boolean) :: vzB
abbrev b_M_forget : ByteArray := prog_5_method_33_code
abbrev y_M_forget : MethodName := ⟨"ArrowClassesModel", "forget", "()I"⟩
abbrev w_M_forget : List Cond := .code y_M_forget b_M_forget 3 (some .int) :: vzB
abbrev b_M_members : ByteArray := prog_5_method_34_code
abbrev y_M_members : MethodName := ⟨"ArrowClassesModel", "members", "()I"⟩
abbrev w_M_members : List Cond := .code y_M_members b_M_members 1 (some .int) :: vzB
abbrev b_M_first : ByteArray := prog_5_method_35_code
abbrev y_M_first : MethodName := ⟨"ArrowClassesModel", "first", "(II)Z"⟩
abbrev w_M_first : List Cond := .code y_M_first b_M_first 3 (some .boolean) :: vzB
abbrev b_M_turned : ByteArray := prog_5_method_36_code
abbrev y_M_turned : MethodName := ⟨"ArrowClassesModel", "turned", "()I"⟩
abbrev w_M_turned : List Cond := .code y_M_turned b_M_turned 4 (some .int) :: vzB
end
section
/-! decode rows -/
theorem d_G_init_0 : decode b_G_init 0 = .ok (.aload_n 0, 1) := by decide +kernel
theorem d_G_init_1 : decode b_G_init 1 = .ok (.invokespecial 1, 3) := by decide +kernel
theorem d_G_init_4 : decode b_G_init 4 = .ok (.aload_n 0, 1) := by decide +kernel
theorem d_G_init_5 : decode b_G_init 5 = .ok (.iload_n 1, 1) := by decide +kernel
theorem d_G_init_6 : decode b_G_init 6 = .ok (.putfield 7, 3) := by decide +kernel
theorem d_G_init_9 : decode b_G_init 9 = .ok (.aload_n 0, 1) := by decide +kernel
theorem d_G_init_10 : decode b_G_init 10 = .ok (.iload_n 1, 1) := by decide +kernel
theorem d_G_init_11 : decode b_G_init 11 = .ok (.newarray .int, 2) := by decide +kernel
theorem d_G_init_13 : decode b_G_init 13 = .ok (.putfield 13, 3) := by decide +kernel
theorem d_G_init_16 : decode b_G_init 16 = .ok (.aload_n 0, 1) := by decide +kernel
theorem d_G_init_17 : decode b_G_init 17 = .ok (.iload_n 1, 1) := by decide +kernel
theorem d_G_init_18 : decode b_G_init 18 = .ok (.newarray .int, 2) := by decide +kernel
theorem d_G_init_20 : decode b_G_init 20 = .ok (.putfield 17, 3) := by decide +kernel
theorem d_G_init_23 : decode b_G_init 23 = .ok (.return_, 1) := by decide +kernel
theorem d_G_joins_0 : decode b_G_joins 0 = .ok (.aload_n 0, 1) := by decide +kernel
theorem d_G_joins_1 : decode b_G_joins 1 = .ok (.iload_n 1, 1) := by decide +kernel
theorem d_G_joins_2 : decode b_G_joins 2 = .ok (.iload_n 2, 1) := by decide +kernel
theorem d_G_joins_3 : decode b_G_joins 3 = .ok (.invokevirtual 26, 3) := by decide +kernel
theorem d_G_joins_6 : decode b_G_joins 6 = .ok (.ifCond .ne 12, 3) := by decide +kernel
theorem d_G_joins_9 : decode b_G_joins 9 = .ok (.aload_n 0, 1) := by decide +kernel
theorem d_G_joins_10 : decode b_G_joins 10 = .ok (.iload_n 2, 1) := by decide +kernel
theorem d_G_joins_11 : decode b_G_joins 11 = .ok (.iload_n 1, 1) := by decide +kernel
theorem d_G_joins_12 : decode b_G_joins 12 = .ok (.invokevirtual 26, 3) := by decide +kernel
theorem d_G_joins_15 : decode b_G_joins 15 = .ok (.ifCond .eq 7, 3) := by decide +kernel
theorem d_G_joins_18 : decode b_G_joins 18 = .ok (.iconst 1, 1) := by decide +kernel
theorem d_G_joins_19 : decode b_G_joins 19 = .ok (.goto 4, 3) := by decide +kernel
theorem d_G_joins_22 : decode b_G_joins 22 = .ok (.iconst 0, 1) := by decide +kernel
theorem d_G_joins_23 : decode b_G_joins 23 = .ok (.ireturn, 1) := by decide +kernel
theorem d_G_has_0 : decode b_G_has 0 = .ok (.aload_n 0, 1) := by decide +kernel
theorem d_G_has_1 : decode b_G_has 1 = .ok (.getfield 13, 3) := by decide +kernel
theorem d_G_has_4 : decode b_G_has 4 = .ok (.iload_n 2, 1) := by decide +kernel
theorem d_G_has_5 : decode b_G_has 5 = .ok (.iaload, 1) := by decide +kernel
theorem d_G_has_6 : decode b_G_has 6 = .ok (.iload_n 1, 1) := by decide +kernel
theorem d_G_has_7 : decode b_G_has 7 = .ok (.invokestatic 20, 3) := by decide +kernel
theorem d_G_has_10 : decode b_G_has 10 = .ok (.ireturn, 1) := by decide +kernel
theorem d_G_size_0 : decode b_G_size 0 = .ok (.iconst 0, 1) := by decide +kernel
theorem d_G_size_1 : decode b_G_size 1 = .ok (.istore_n 1, 1) := by decide +kernel
theorem d_G_size_2 : decode b_G_size 2 = .ok (.iconst 0, 1) := by decide +kernel
theorem d_G_size_3 : decode b_G_size 3 = .ok (.istore_n 2, 1) := by decide +kernel
theorem d_G_size_4 : decode b_G_size 4 = .ok (.iload_n 2, 1) := by decide +kernel
theorem d_G_size_5 : decode b_G_size 5 = .ok (.aload_n 0, 1) := by decide +kernel
theorem d_G_size_6 : decode b_G_size 6 = .ok (.getfield 7, 3) := by decide +kernel
theorem d_G_size_9 : decode b_G_size 9 = .ok (.if_icmp .ge 21, 3) := by decide +kernel
theorem d_G_size_12 : decode b_G_size 12 = .ok (.iload_n 1, 1) := by decide +kernel
theorem d_G_size_13 : decode b_G_size 13 = .ok (.aload_n 0, 1) := by decide +kernel
theorem d_G_size_14 : decode b_G_size 14 = .ok (.getfield 13, 3) := by decide +kernel
theorem d_G_size_17 : decode b_G_size 17 = .ok (.iload_n 2, 1) := by decide +kernel
theorem d_G_size_18 : decode b_G_size 18 = .ok (.iaload, 1) := by decide +kernel
theorem d_G_size_19 : decode b_G_size 19 = .ok (.invokestatic 29, 3) := by decide +kernel
theorem d_G_size_22 : decode b_G_size 22 = .ok (.iadd, 1) := by decide +kernel
theorem d_G_size_23 : decode b_G_size 23 = .ok (.istore_n 1, 1) := by decide +kernel
theorem d_G_size_24 : decode b_G_size 24 = .ok (.iinc 2 1, 3) := by decide +kernel
theorem d_G_size_27 : decode b_G_size 27 = .ok (.goto (-23), 3) := by decide +kernel
theorem d_G_size_30 : decode b_G_size 30 = .ok (.iload_n 1, 1) := by decide +kernel
theorem d_G_size_31 : decode b_G_size 31 = .ok (.ireturn, 1) := by decide +kernel
theorem d_G_reachOf_0 : decode b_G_reachOf 0 = .ok (.iconst 1, 1) := by decide +kernel
theorem d_G_reachOf_1 : decode b_G_reachOf 1 = .ok (.iload_n 1, 1) := by decide +kernel
theorem d_G_reachOf_2 : decode b_G_reachOf 2 = .ok (.ishl, 1) := by decide +kernel
theorem d_G_reachOf_3 : decode b_G_reachOf 3 = .ok (.istore_n 2, 1) := by decide +kernel
theorem d_G_reachOf_4 : decode b_G_reachOf 4 = .ok (.iconst 1, 1) := by decide +kernel
theorem d_G_reachOf_5 : decode b_G_reachOf 5 = .ok (.istore_n 3, 1) := by decide +kernel
theorem d_G_reachOf_6 : decode b_G_reachOf 6 = .ok (.iload_n 3, 1) := by decide +kernel
theorem d_G_reachOf_7 : decode b_G_reachOf 7 = .ok (.aload_n 0, 1) := by decide +kernel
theorem d_G_reachOf_8 : decode b_G_reachOf 8 = .ok (.getfield 7, 3) := by decide +kernel
theorem d_G_reachOf_11 : decode b_G_reachOf 11 = .ok (.if_icmp .ge 46, 3) := by decide +kernel
theorem d_G_reachOf_14 : decode b_G_reachOf 14 = .ok (.iconst 0, 1) := by decide +kernel
theorem d_G_reachOf_15 : decode b_G_reachOf 15 = .ok (.istore 4, 2) := by decide +kernel
theorem d_G_reachOf_17 : decode b_G_reachOf 17 = .ok (.iload 4, 2) := by decide +kernel
theorem d_G_reachOf_19 : decode b_G_reachOf 19 = .ok (.aload_n 0, 1) := by decide +kernel
theorem d_G_reachOf_20 : decode b_G_reachOf 20 = .ok (.getfield 7, 3) := by decide +kernel
theorem d_G_reachOf_23 : decode b_G_reachOf 23 = .ok (.if_icmp .ge 28, 3) := by decide +kernel
theorem d_G_reachOf_26 : decode b_G_reachOf 26 = .ok (.iload_n 2, 1) := by decide +kernel
theorem d_G_reachOf_27 : decode b_G_reachOf 27 = .ok (.iload 4, 2) := by decide +kernel
theorem d_G_reachOf_29 : decode b_G_reachOf 29 = .ok (.invokestatic 20, 3) := by decide +kernel
theorem d_G_reachOf_32 : decode b_G_reachOf 32 = .ok (.ifCond .eq 13, 3) := by decide +kernel
theorem d_G_reachOf_35 : decode b_G_reachOf 35 = .ok (.iload_n 2, 1) := by decide +kernel
theorem d_G_reachOf_36 : decode b_G_reachOf 36 = .ok (.aload_n 0, 1) := by decide +kernel
theorem d_G_reachOf_37 : decode b_G_reachOf 37 = .ok (.getfield 17, 3) := by decide +kernel
theorem d_G_reachOf_40 : decode b_G_reachOf 40 = .ok (.iload 4, 2) := by decide +kernel
theorem d_G_reachOf_42 : decode b_G_reachOf 42 = .ok (.iaload, 1) := by decide +kernel
theorem d_G_reachOf_43 : decode b_G_reachOf 43 = .ok (.ior, 1) := by decide +kernel
theorem d_G_reachOf_44 : decode b_G_reachOf 44 = .ok (.istore_n 2, 1) := by decide +kernel
theorem d_G_reachOf_45 : decode b_G_reachOf 45 = .ok (.iinc 4 1, 3) := by decide +kernel
theorem d_G_reachOf_48 : decode b_G_reachOf 48 = .ok (.goto (-31), 3) := by decide +kernel
theorem d_G_reachOf_51 : decode b_G_reachOf 51 = .ok (.iinc 3 1, 3) := by decide +kernel
theorem d_G_reachOf_54 : decode b_G_reachOf 54 = .ok (.goto (-48), 3) := by decide +kernel
theorem d_G_reachOf_57 : decode b_G_reachOf 57 = .ok (.iload_n 2, 1) := by decide +kernel
theorem d_G_reachOf_58 : decode b_G_reachOf 58 = .ok (.ireturn, 1) := by decide +kernel
theorem d_G_put_0 : decode b_G_put 0 = .ok (.aload_n 0, 1) := by decide +kernel
theorem d_G_put_1 : decode b_G_put 1 = .ok (.getfield 13, 3) := by decide +kernel
theorem d_G_put_4 : decode b_G_put 4 = .ok (.iload_n 2, 1) := by decide +kernel
theorem d_G_put_5 : decode b_G_put 5 = .ok (.dup2, 1) := by decide +kernel
theorem d_G_put_6 : decode b_G_put 6 = .ok (.iaload, 1) := by decide +kernel
theorem d_G_put_7 : decode b_G_put 7 = .ok (.iconst 1, 1) := by decide +kernel
theorem d_G_put_8 : decode b_G_put 8 = .ok (.iload_n 1, 1) := by decide +kernel
theorem d_G_put_9 : decode b_G_put 9 = .ok (.ishl, 1) := by decide +kernel
theorem d_G_put_10 : decode b_G_put 10 = .ok (.ior, 1) := by decide +kernel
theorem d_G_put_11 : decode b_G_put 11 = .ok (.iastore, 1) := by decide +kernel
theorem d_G_put_12 : decode b_G_put 12 = .ok (.aload_n 0, 1) := by decide +kernel
theorem d_G_put_13 : decode b_G_put 13 = .ok (.getfield 17, 3) := by decide +kernel
theorem d_G_put_16 : decode b_G_put 16 = .ok (.iload_n 1, 1) := by decide +kernel
theorem d_G_put_17 : decode b_G_put 17 = .ok (.dup2, 1) := by decide +kernel
theorem d_G_put_18 : decode b_G_put 18 = .ok (.iaload, 1) := by decide +kernel
theorem d_G_put_19 : decode b_G_put 19 = .ok (.iconst 1, 1) := by decide +kernel
theorem d_G_put_20 : decode b_G_put 20 = .ok (.iload_n 2, 1) := by decide +kernel
theorem d_G_put_21 : decode b_G_put 21 = .ok (.ishl, 1) := by decide +kernel
theorem d_G_put_22 : decode b_G_put 22 = .ok (.ior, 1) := by decide +kernel
theorem d_G_put_23 : decode b_G_put 23 = .ok (.iastore, 1) := by decide +kernel
theorem d_G_put_24 : decode b_G_put 24 = .ok (.return_, 1) := by decide +kernel
theorem d_G_strangers_0 : decode b_G_strangers 0 = .ok (.aload_n 0, 1) := by decide +kernel
theorem d_G_strangers_1 : decode b_G_strangers 1 = .ok (.getfield 13, 3) := by decide +kernel
theorem d_G_strangers_4 : decode b_G_strangers 4 = .ok (.iload_n 2, 1) := by decide +kernel
theorem d_G_strangers_5 : decode b_G_strangers 5 = .ok (.iaload, 1) := by decide +kernel
theorem d_G_strangers_6 : decode b_G_strangers 6 = .ok (.iload_n 1, 1) := by decide +kernel
theorem d_G_strangers_7 : decode b_G_strangers 7 = .ok (.invokestatic 20, 3) := by decide +kernel
theorem d_G_strangers_10 : decode b_G_strangers 10 = .ok (.ifCond .ne 5, 3) := by decide +kernel
theorem d_G_strangers_13 : decode b_G_strangers 13 = .ok (.iconst 0, 1) := by decide +kernel
theorem d_G_strangers_14 : decode b_G_strangers 14 = .ok (.ireturn, 1) := by decide +kernel
theorem d_G_strangers_15 : decode b_G_strangers 15 = .ok (.aload_n 0, 1) := by decide +kernel
theorem d_G_strangers_16 : decode b_G_strangers 16 = .ok (.getfield 13, 3) := by decide +kernel
theorem d_G_strangers_19 : decode b_G_strangers 19 = .ok (.iload_n 2, 1) := by decide +kernel
theorem d_G_strangers_20 : decode b_G_strangers 20 = .ok (.iaload, 1) := by decide +kernel
theorem d_G_strangers_21 : decode b_G_strangers 21 = .ok (.aload_n 0, 1) := by decide +kernel
theorem d_G_strangers_22 : decode b_G_strangers 22 = .ok (.getfield 13, 3) := by decide +kernel
theorem d_G_strangers_25 : decode b_G_strangers 25 = .ok (.iload_n 1, 1) := by decide +kernel
theorem d_G_strangers_26 : decode b_G_strangers 26 = .ok (.iaload, 1) := by decide +kernel
theorem d_G_strangers_27 : decode b_G_strangers 27 = .ok (.aload_n 0, 1) := by decide +kernel
theorem d_G_strangers_28 : decode b_G_strangers 28 = .ok (.getfield 17, 3) := by decide +kernel
theorem d_G_strangers_31 : decode b_G_strangers 31 = .ok (.iload_n 1, 1) := by decide +kernel
theorem d_G_strangers_32 : decode b_G_strangers 32 = .ok (.iaload, 1) := by decide +kernel
theorem d_G_strangers_33 : decode b_G_strangers 33 = .ok (.ior, 1) := by decide +kernel
theorem d_G_strangers_34 : decode b_G_strangers 34 = .ok (.iconst 1, 1) := by decide +kernel
theorem d_G_strangers_35 : decode b_G_strangers 35 = .ok (.iload_n 1, 1) := by decide +kernel
theorem d_G_strangers_36 : decode b_G_strangers 36 = .ok (.ishl, 1) := by decide +kernel
theorem d_G_strangers_37 : decode b_G_strangers 37 = .ok (.ior, 1) := by decide +kernel
theorem d_G_strangers_38 : decode b_G_strangers 38 = .ok (.iconst (-1), 1) := by decide +kernel
theorem d_G_strangers_39 : decode b_G_strangers 39 = .ok (.ixor, 1) := by decide +kernel
theorem d_G_strangers_40 : decode b_G_strangers 40 = .ok (.iand, 1) := by decide +kernel
theorem d_G_strangers_41 : decode b_G_strangers 41 = .ok (.ireturn, 1) := by decide +kernel
theorem d_G_take_0 : decode b_G_take 0 = .ok (.aload_n 0, 1) := by decide +kernel
theorem d_G_take_1 : decode b_G_take 1 = .ok (.getfield 13, 3) := by decide +kernel
theorem d_G_take_4 : decode b_G_take 4 = .ok (.iload_n 2, 1) := by decide +kernel
theorem d_G_take_5 : decode b_G_take 5 = .ok (.dup2, 1) := by decide +kernel
theorem d_G_take_6 : decode b_G_take 6 = .ok (.iaload, 1) := by decide +kernel
theorem d_G_take_7 : decode b_G_take 7 = .ok (.iconst 1, 1) := by decide +kernel
theorem d_G_take_8 : decode b_G_take 8 = .ok (.iload_n 1, 1) := by decide +kernel
theorem d_G_take_9 : decode b_G_take 9 = .ok (.ishl, 1) := by decide +kernel
theorem d_G_take_10 : decode b_G_take 10 = .ok (.iconst (-1), 1) := by decide +kernel
theorem d_G_take_11 : decode b_G_take 11 = .ok (.ixor, 1) := by decide +kernel
theorem d_G_take_12 : decode b_G_take 12 = .ok (.iand, 1) := by decide +kernel
theorem d_G_take_13 : decode b_G_take 13 = .ok (.iastore, 1) := by decide +kernel
theorem d_G_take_14 : decode b_G_take 14 = .ok (.aload_n 0, 1) := by decide +kernel
theorem d_G_take_15 : decode b_G_take 15 = .ok (.getfield 17, 3) := by decide +kernel
theorem d_G_take_18 : decode b_G_take 18 = .ok (.iload_n 1, 1) := by decide +kernel
theorem d_G_take_19 : decode b_G_take 19 = .ok (.dup2, 1) := by decide +kernel
theorem d_G_take_20 : decode b_G_take 20 = .ok (.iaload, 1) := by decide +kernel
theorem d_G_take_21 : decode b_G_take 21 = .ok (.iconst 1, 1) := by decide +kernel
theorem d_G_take_22 : decode b_G_take 22 = .ok (.iload_n 2, 1) := by decide +kernel
theorem d_G_take_23 : decode b_G_take 23 = .ok (.ishl, 1) := by decide +kernel
theorem d_G_take_24 : decode b_G_take 24 = .ok (.iconst (-1), 1) := by decide +kernel
theorem d_G_take_25 : decode b_G_take 25 = .ok (.ixor, 1) := by decide +kernel
theorem d_G_take_26 : decode b_G_take 26 = .ok (.iand, 1) := by decide +kernel
theorem d_G_take_27 : decode b_G_take 27 = .ok (.iastore, 1) := by decide +kernel
theorem d_G_take_28 : decode b_G_take 28 = .ok (.return_, 1) := by decide +kernel
theorem d_G_openFrom_0 : decode b_G_openFrom 0 = .ok (.aload_n 0, 1) := by decide +kernel
theorem d_G_openFrom_1 : decode b_G_openFrom 1 = .ok (.getfield 13, 3) := by decide +kernel
theorem d_G_openFrom_4 : decode b_G_openFrom 4 = .ok (.iload_n 1, 1) := by decide +kernel
theorem d_G_openFrom_5 : decode b_G_openFrom 5 = .ok (.iaload, 1) := by decide +kernel
theorem d_G_openFrom_6 : decode b_G_openFrom 6 = .ok (.istore_n 3, 1) := by decide +kernel
theorem d_G_openFrom_7 : decode b_G_openFrom 7 = .ok (.aload_n 0, 1) := by decide +kernel
theorem d_G_openFrom_8 : decode b_G_openFrom 8 = .ok (.getfield 17, 3) := by decide +kernel
theorem d_G_openFrom_11 : decode b_G_openFrom 11 = .ok (.iload_n 1, 1) := by decide +kernel
theorem d_G_openFrom_12 : decode b_G_openFrom 12 = .ok (.iaload, 1) := by decide +kernel
theorem d_G_openFrom_13 : decode b_G_openFrom 13 = .ok (.istore 4, 2) := by decide +kernel
theorem d_G_openFrom_15 : decode b_G_openFrom 15 = .ok (.iconst 1, 1) := by decide +kernel
theorem d_G_openFrom_16 : decode b_G_openFrom 16 = .ok (.istore 5, 2) := by decide +kernel
theorem d_G_openFrom_18 : decode b_G_openFrom 18 = .ok (.iconst 0, 1) := by decide +kernel
theorem d_G_openFrom_19 : decode b_G_openFrom 19 = .ok (.istore 6, 2) := by decide +kernel
theorem d_G_openFrom_21 : decode b_G_openFrom 21 = .ok (.iload 6, 2) := by decide +kernel
theorem d_G_openFrom_23 : decode b_G_openFrom 23 = .ok (.iconst 2, 1) := by decide +kernel
theorem d_G_openFrom_24 : decode b_G_openFrom 24 = .ok (.aload_n 0, 1) := by decide +kernel
theorem d_G_openFrom_25 : decode b_G_openFrom 25 = .ok (.getfield 7, 3) := by decide +kernel
theorem d_G_openFrom_28 : decode b_G_openFrom 28 = .ok (.imul, 1) := by decide +kernel
theorem d_G_openFrom_29 : decode b_G_openFrom 29 = .ok (.if_icmp .gt 125, 3) := by decide +kernel
theorem d_G_openFrom_32 : decode b_G_openFrom 32 = .ok (.iload 5, 2) := by decide +kernel
theorem d_G_openFrom_34 : decode b_G_openFrom 34 = .ok (.ifCond .eq 120, 3) := by decide +kernel
theorem d_G_openFrom_37 : decode b_G_openFrom 37 = .ok (.iload_n 3, 1) := by decide +kernel
theorem d_G_openFrom_38 : decode b_G_openFrom 38 = .ok (.istore 7, 2) := by decide +kernel
theorem d_G_openFrom_40 : decode b_G_openFrom 40 = .ok (.iload 4, 2) := by decide +kernel
theorem d_G_openFrom_42 : decode b_G_openFrom 42 = .ok (.istore 8, 2) := by decide +kernel
theorem d_G_openFrom_44 : decode b_G_openFrom 44 = .ok (.iconst 0, 1) := by decide +kernel
theorem d_G_openFrom_45 : decode b_G_openFrom 45 = .ok (.istore 9, 2) := by decide +kernel
theorem d_G_openFrom_47 : decode b_G_openFrom 47 = .ok (.iload 9, 2) := by decide +kernel
theorem d_G_openFrom_49 : decode b_G_openFrom 49 = .ok (.aload_n 0, 1) := by decide +kernel
theorem d_G_openFrom_50 : decode b_G_openFrom 50 = .ok (.getfield 7, 3) := by decide +kernel
theorem d_G_openFrom_53 : decode b_G_openFrom 53 = .ok (.if_icmp .ge 75, 3) := by decide +kernel
theorem d_G_openFrom_56 : decode b_G_openFrom 56 = .ok (.iload_n 2, 1) := by decide +kernel
theorem d_G_openFrom_57 : decode b_G_openFrom 57 = .ok (.iload 9, 2) := by decide +kernel
theorem d_G_openFrom_59 : decode b_G_openFrom 59 = .ok (.invokestatic 20, 3) := by decide +kernel
theorem d_G_openFrom_62 : decode b_G_openFrom 62 = .ok (.istore 10, 2) := by decide +kernel
theorem d_G_openFrom_64 : decode b_G_openFrom 64 = .ok (.iload 10, 2) := by decide +kernel
theorem d_G_openFrom_66 : decode b_G_openFrom 66 = .ok (.ifCond .ne 27, 3) := by decide +kernel
theorem d_G_openFrom_69 : decode b_G_openFrom 69 = .ok (.iload_n 3, 1) := by decide +kernel
theorem d_G_openFrom_70 : decode b_G_openFrom 70 = .ok (.iload 4, 2) := by decide +kernel
theorem d_G_openFrom_72 : decode b_G_openFrom 72 = .ok (.ior, 1) := by decide +kernel
theorem d_G_openFrom_73 : decode b_G_openFrom 73 = .ok (.iload 9, 2) := by decide +kernel
theorem d_G_openFrom_75 : decode b_G_openFrom 75 = .ok (.invokestatic 20, 3) := by decide +kernel
theorem d_G_openFrom_78 : decode b_G_openFrom 78 = .ok (.ifCond .eq 15, 3) := by decide +kernel
theorem d_G_openFrom_81 : decode b_G_openFrom 81 = .ok (.iload 4, 2) := by decide +kernel
theorem d_G_openFrom_83 : decode b_G_openFrom 83 = .ok (.aload_n 0, 1) := by decide +kernel
theorem d_G_openFrom_84 : decode b_G_openFrom 84 = .ok (.getfield 17, 3) := by decide +kernel
theorem d_G_openFrom_87 : decode b_G_openFrom 87 = .ok (.iload 9, 2) := by decide +kernel
theorem d_G_openFrom_89 : decode b_G_openFrom 89 = .ok (.iaload, 1) := by decide +kernel
theorem d_G_openFrom_90 : decode b_G_openFrom 90 = .ok (.ior, 1) := by decide +kernel
theorem d_G_openFrom_91 : decode b_G_openFrom 91 = .ok (.istore 4, 2) := by decide +kernel
theorem d_G_openFrom_93 : decode b_G_openFrom 93 = .ok (.iload 10, 2) := by decide +kernel
theorem d_G_openFrom_95 : decode b_G_openFrom 95 = .ok (.ifCond .eq 8, 3) := by decide +kernel
theorem d_G_openFrom_98 : decode b_G_openFrom 98 = .ok (.iload 4, 2) := by decide +kernel
theorem d_G_openFrom_100 : decode b_G_openFrom 100 = .ok (.goto 4, 3) := by decide +kernel
theorem d_G_openFrom_103 : decode b_G_openFrom 103 = .ok (.iload_n 3, 1) := by decide +kernel
theorem d_G_openFrom_104 : decode b_G_openFrom 104 = .ok (.iload 9, 2) := by decide +kernel
theorem d_G_openFrom_106 : decode b_G_openFrom 106 = .ok (.invokestatic 20, 3) := by decide +kernel
theorem d_G_openFrom_109 : decode b_G_openFrom 109 = .ok (.ifCond .eq 13, 3) := by decide +kernel
theorem d_G_openFrom_112 : decode b_G_openFrom 112 = .ok (.iload_n 3, 1) := by decide +kernel
theorem d_G_openFrom_113 : decode b_G_openFrom 113 = .ok (.aload_n 0, 1) := by decide +kernel
theorem d_G_openFrom_114 : decode b_G_openFrom 114 = .ok (.getfield 13, 3) := by decide +kernel
theorem d_G_openFrom_117 : decode b_G_openFrom 117 = .ok (.iload 9, 2) := by decide +kernel
theorem d_G_openFrom_119 : decode b_G_openFrom 119 = .ok (.iaload, 1) := by decide +kernel
theorem d_G_openFrom_120 : decode b_G_openFrom 120 = .ok (.ior, 1) := by decide +kernel
theorem d_G_openFrom_121 : decode b_G_openFrom 121 = .ok (.istore_n 3, 1) := by decide +kernel
theorem d_G_openFrom_122 : decode b_G_openFrom 122 = .ok (.iinc 9 1, 3) := by decide +kernel
theorem d_G_openFrom_125 : decode b_G_openFrom 125 = .ok (.goto (-78), 3) := by decide +kernel
theorem d_G_openFrom_128 : decode b_G_openFrom 128 = .ok (.iload_n 3, 1) := by decide +kernel
theorem d_G_openFrom_129 : decode b_G_openFrom 129 = .ok (.iload 7, 2) := by decide +kernel
theorem d_G_openFrom_131 : decode b_G_openFrom 131 = .ok (.if_icmp .ne 10, 3) := by decide +kernel
theorem d_G_openFrom_134 : decode b_G_openFrom 134 = .ok (.iload 4, 2) := by decide +kernel
theorem d_G_openFrom_136 : decode b_G_openFrom 136 = .ok (.iload 8, 2) := by decide +kernel
theorem d_G_openFrom_138 : decode b_G_openFrom 138 = .ok (.if_icmp .eq 7, 3) := by decide +kernel
theorem d_G_openFrom_141 : decode b_G_openFrom 141 = .ok (.iconst 1, 1) := by decide +kernel
theorem d_G_openFrom_142 : decode b_G_openFrom 142 = .ok (.goto 4, 3) := by decide +kernel
theorem d_G_openFrom_145 : decode b_G_openFrom 145 = .ok (.iconst 0, 1) := by decide +kernel
theorem d_G_openFrom_146 : decode b_G_openFrom 146 = .ok (.istore 5, 2) := by decide +kernel
theorem d_G_openFrom_148 : decode b_G_openFrom 148 = .ok (.iinc 6 1, 3) := by decide +kernel
theorem d_G_openFrom_151 : decode b_G_openFrom 151 = .ok (.goto (-130), 3) := by decide +kernel
theorem d_G_openFrom_154 : decode b_G_openFrom 154 = .ok (.iload_n 3, 1) := by decide +kernel
theorem d_G_openFrom_155 : decode b_G_openFrom 155 = .ok (.iload 4, 2) := by decide +kernel
theorem d_G_openFrom_157 : decode b_G_openFrom 157 = .ok (.ior, 1) := by decide +kernel
theorem d_G_openFrom_158 : decode b_G_openFrom 158 = .ok (.ireturn, 1) := by decide +kernel
theorem d_G_empty_0 : decode b_G_empty 0 = .ok (.iconst 0, 1) := by decide +kernel
theorem d_G_empty_1 : decode b_G_empty 1 = .ok (.istore_n 1, 1) := by decide +kernel
theorem d_G_empty_2 : decode b_G_empty 2 = .ok (.iload_n 1, 1) := by decide +kernel
theorem d_G_empty_3 : decode b_G_empty 3 = .ok (.aload_n 0, 1) := by decide +kernel
theorem d_G_empty_4 : decode b_G_empty 4 = .ok (.getfield 7, 3) := by decide +kernel
theorem d_G_empty_7 : decode b_G_empty 7 = .ok (.if_icmp .ge 23, 3) := by decide +kernel
theorem d_G_empty_10 : decode b_G_empty 10 = .ok (.aload_n 0, 1) := by decide +kernel
theorem d_G_empty_11 : decode b_G_empty 11 = .ok (.getfield 13, 3) := by decide +kernel
theorem d_G_empty_14 : decode b_G_empty 14 = .ok (.iload_n 1, 1) := by decide +kernel
theorem d_G_empty_15 : decode b_G_empty 15 = .ok (.iconst 0, 1) := by decide +kernel
theorem d_G_empty_16 : decode b_G_empty 16 = .ok (.iastore, 1) := by decide +kernel
theorem d_G_empty_17 : decode b_G_empty 17 = .ok (.aload_n 0, 1) := by decide +kernel
theorem d_G_empty_18 : decode b_G_empty 18 = .ok (.getfield 17, 3) := by decide +kernel
theorem d_G_empty_21 : decode b_G_empty 21 = .ok (.iload_n 1, 1) := by decide +kernel
theorem d_G_empty_22 : decode b_G_empty 22 = .ok (.iconst 0, 1) := by decide +kernel
theorem d_G_empty_23 : decode b_G_empty 23 = .ok (.iastore, 1) := by decide +kernel
theorem d_G_empty_24 : decode b_G_empty 24 = .ok (.iinc 1 1, 3) := by decide +kernel
theorem d_G_empty_27 : decode b_G_empty 27 = .ok (.goto (-25), 3) := by decide +kernel
theorem d_G_empty_30 : decode b_G_empty 30 = .ok (.return_, 1) := by decide +kernel
theorem d_G_collidesLike_0 : decode b_G_collidesLike 0 = .ok (.iconst 0, 1) := by decide +kernel
theorem d_G_collidesLike_1 : decode b_G_collidesLike 1 = .ok (.istore_n 2, 1) := by decide +kernel
theorem d_G_collidesLike_2 : decode b_G_collidesLike 2 = .ok (.iload_n 2, 1) := by decide +kernel
theorem d_G_collidesLike_3 : decode b_G_collidesLike 3 = .ok (.aload_n 0, 1) := by decide +kernel
theorem d_G_collidesLike_4 : decode b_G_collidesLike 4 = .ok (.getfield 7, 3) := by decide +kernel
theorem d_G_collidesLike_7 : decode b_G_collidesLike 7 = .ok (.if_icmp .ge 42, 3) := by decide +kernel
theorem d_G_collidesLike_10 : decode b_G_collidesLike 10 = .ok (.iconst 0, 1) := by decide +kernel
theorem d_G_collidesLike_11 : decode b_G_collidesLike 11 = .ok (.istore_n 3, 1) := by decide +kernel
theorem d_G_collidesLike_12 : decode b_G_collidesLike 12 = .ok (.iload_n 3, 1) := by decide +kernel
theorem d_G_collidesLike_13 : decode b_G_collidesLike 13 = .ok (.aload_n 0, 1) := by decide +kernel
theorem d_G_collidesLike_14 : decode b_G_collidesLike 14 = .ok (.getfield 7, 3) := by decide +kernel
theorem d_G_collidesLike_17 : decode b_G_collidesLike 17 = .ok (.if_icmp .ge 26, 3) := by decide +kernel
theorem d_G_collidesLike_20 : decode b_G_collidesLike 20 = .ok (.aload_n 0, 1) := by decide +kernel
theorem d_G_collidesLike_21 : decode b_G_collidesLike 21 = .ok (.iload_n 3, 1) := by decide +kernel
theorem d_G_collidesLike_22 : decode b_G_collidesLike 22 = .ok (.iload_n 2, 1) := by decide +kernel
theorem d_G_collidesLike_23 : decode b_G_collidesLike 23 = .ok (.invokevirtual 35, 3) := by decide +kernel
theorem d_G_collidesLike_26 : decode b_G_collidesLike 26 = .ok (.aload_n 1, 1) := by decide +kernel
theorem d_G_collidesLike_27 : decode b_G_collidesLike 27 = .ok (.iload_n 3, 1) := by decide +kernel
theorem d_G_collidesLike_28 : decode b_G_collidesLike 28 = .ok (.iload_n 2, 1) := by decide +kernel
theorem d_G_collidesLike_29 : decode b_G_collidesLike 29 = .ok (.invokevirtual 35, 3) := by decide +kernel
theorem d_G_collidesLike_32 : decode b_G_collidesLike 32 = .ok (.if_icmp .eq 5, 3) := by decide +kernel
theorem d_G_collidesLike_35 : decode b_G_collidesLike 35 = .ok (.iconst 0, 1) := by decide +kernel
theorem d_G_collidesLike_36 : decode b_G_collidesLike 36 = .ok (.ireturn, 1) := by decide +kernel
theorem d_G_collidesLike_37 : decode b_G_collidesLike 37 = .ok (.iinc 3 1, 3) := by decide +kernel
theorem d_G_collidesLike_40 : decode b_G_collidesLike 40 = .ok (.goto (-28), 3) := by decide +kernel
theorem d_G_collidesLike_43 : decode b_G_collidesLike 43 = .ok (.iinc 2 1, 3) := by decide +kernel
theorem d_G_collidesLike_46 : decode b_G_collidesLike 46 = .ok (.goto (-44), 3) := by decide +kernel
theorem d_G_collidesLike_49 : decode b_G_collidesLike 49 = .ok (.iconst 1, 1) := by decide +kernel
theorem d_G_collidesLike_50 : decode b_G_collidesLike 50 = .ok (.ireturn, 1) := by decide +kernel
theorem d_G_hasRing_0 : decode b_G_hasRing 0 = .ok (.iconst 1, 1) := by decide +kernel
theorem d_G_hasRing_1 : decode b_G_hasRing 1 = .ok (.aload_n 0, 1) := by decide +kernel
theorem d_G_hasRing_2 : decode b_G_hasRing 2 = .ok (.getfield 7, 3) := by decide +kernel
theorem d_G_hasRing_5 : decode b_G_hasRing 5 = .ok (.ishl, 1) := by decide +kernel
theorem d_G_hasRing_6 : decode b_G_hasRing 6 = .ok (.iconst 1, 1) := by decide +kernel
theorem d_G_hasRing_7 : decode b_G_hasRing 7 = .ok (.isub, 1) := by decide +kernel
theorem d_G_hasRing_8 : decode b_G_hasRing 8 = .ok (.istore_n 1, 1) := by decide +kernel
theorem d_G_hasRing_9 : decode b_G_hasRing 9 = .ok (.iconst 0, 1) := by decide +kernel
theorem d_G_hasRing_10 : decode b_G_hasRing 10 = .ok (.istore_n 2, 1) := by decide +kernel
theorem d_G_hasRing_11 : decode b_G_hasRing 11 = .ok (.iload_n 2, 1) := by decide +kernel
theorem d_G_hasRing_12 : decode b_G_hasRing 12 = .ok (.aload_n 0, 1) := by decide +kernel
theorem d_G_hasRing_13 : decode b_G_hasRing 13 = .ok (.getfield 7, 3) := by decide +kernel
theorem d_G_hasRing_16 : decode b_G_hasRing 16 = .ok (.if_icmp .ge 48, 3) := by decide +kernel
theorem d_G_hasRing_19 : decode b_G_hasRing 19 = .ok (.iload_n 1, 1) := by decide +kernel
theorem d_G_hasRing_20 : decode b_G_hasRing 20 = .ok (.ifCond .eq 44, 3) := by decide +kernel
theorem d_G_hasRing_23 : decode b_G_hasRing 23 = .ok (.iconst 0, 1) := by decide +kernel
theorem d_G_hasRing_24 : decode b_G_hasRing 24 = .ok (.istore_n 3, 1) := by decide +kernel
theorem d_G_hasRing_25 : decode b_G_hasRing 25 = .ok (.iload_n 3, 1) := by decide +kernel
theorem d_G_hasRing_26 : decode b_G_hasRing 26 = .ok (.aload_n 0, 1) := by decide +kernel
theorem d_G_hasRing_27 : decode b_G_hasRing 27 = .ok (.getfield 7, 3) := by decide +kernel
theorem d_G_hasRing_30 : decode b_G_hasRing 30 = .ok (.if_icmp .ge 28, 3) := by decide +kernel
theorem d_G_hasRing_33 : decode b_G_hasRing 33 = .ok (.aload_n 0, 1) := by decide +kernel
theorem d_G_hasRing_34 : decode b_G_hasRing 34 = .ok (.getfield 13, 3) := by decide +kernel
theorem d_G_hasRing_37 : decode b_G_hasRing 37 = .ok (.iload_n 3, 1) := by decide +kernel
theorem d_G_hasRing_38 : decode b_G_hasRing 38 = .ok (.iaload, 1) := by decide +kernel
theorem d_G_hasRing_39 : decode b_G_hasRing 39 = .ok (.iload_n 1, 1) := by decide +kernel
theorem d_G_hasRing_40 : decode b_G_hasRing 40 = .ok (.iand, 1) := by decide +kernel
theorem d_G_hasRing_41 : decode b_G_hasRing 41 = .ok (.ifCond .ne 11, 3) := by decide +kernel
theorem d_G_hasRing_44 : decode b_G_hasRing 44 = .ok (.iload_n 1, 1) := by decide +kernel
theorem d_G_hasRing_45 : decode b_G_hasRing 45 = .ok (.iconst 1, 1) := by decide +kernel
theorem d_G_hasRing_46 : decode b_G_hasRing 46 = .ok (.iload_n 3, 1) := by decide +kernel
theorem d_G_hasRing_47 : decode b_G_hasRing 47 = .ok (.ishl, 1) := by decide +kernel
theorem d_G_hasRing_48 : decode b_G_hasRing 48 = .ok (.iconst (-1), 1) := by decide +kernel
theorem d_G_hasRing_49 : decode b_G_hasRing 49 = .ok (.ixor, 1) := by decide +kernel
theorem d_G_hasRing_50 : decode b_G_hasRing 50 = .ok (.iand, 1) := by decide +kernel
theorem d_G_hasRing_51 : decode b_G_hasRing 51 = .ok (.istore_n 1, 1) := by decide +kernel
theorem d_G_hasRing_52 : decode b_G_hasRing 52 = .ok (.iinc 3 1, 3) := by decide +kernel
theorem d_G_hasRing_55 : decode b_G_hasRing 55 = .ok (.goto (-30), 3) := by decide +kernel
theorem d_G_hasRing_58 : decode b_G_hasRing 58 = .ok (.iinc 2 1, 3) := by decide +kernel
theorem d_G_hasRing_61 : decode b_G_hasRing 61 = .ok (.goto (-50), 3) := by decide +kernel
theorem d_G_hasRing_64 : decode b_G_hasRing 64 = .ok (.iload_n 1, 1) := by decide +kernel
theorem d_G_hasRing_65 : decode b_G_hasRing 65 = .ok (.ifCond .eq 7, 3) := by decide +kernel
theorem d_G_hasRing_68 : decode b_G_hasRing 68 = .ok (.iconst 1, 1) := by decide +kernel
theorem d_G_hasRing_69 : decode b_G_hasRing 69 = .ok (.goto 4, 3) := by decide +kernel
theorem d_G_hasRing_72 : decode b_G_hasRing 72 = .ok (.iconst 0, 1) := by decide +kernel
theorem d_G_hasRing_73 : decode b_G_hasRing 73 = .ok (.ireturn, 1) := by decide +kernel
theorem d_J_bitCount_0 : decode b_J_bitCount 0 = .ok (.iload_n 0, 1) := by decide +kernel
theorem d_J_bitCount_1 : decode b_J_bitCount 1 = .ok (.iload_n 0, 1) := by decide +kernel
theorem d_J_bitCount_2 : decode b_J_bitCount 2 = .ok (.iconst 1, 1) := by decide +kernel
theorem d_J_bitCount_3 : decode b_J_bitCount 3 = .ok (.iushr, 1) := by decide +kernel
theorem d_J_bitCount_4 : decode b_J_bitCount 4 = .ok (.ldc_w 265, 3) := by decide +kernel
theorem d_J_bitCount_7 : decode b_J_bitCount 7 = .ok (.iand, 1) := by decide +kernel
theorem d_J_bitCount_8 : decode b_J_bitCount 8 = .ok (.isub, 1) := by decide +kernel
theorem d_J_bitCount_9 : decode b_J_bitCount 9 = .ok (.istore_n 0, 1) := by decide +kernel
theorem d_J_bitCount_10 : decode b_J_bitCount 10 = .ok (.iload_n 0, 1) := by decide +kernel
theorem d_J_bitCount_11 : decode b_J_bitCount 11 = .ok (.ldc_w 266, 3) := by decide +kernel
theorem d_J_bitCount_14 : decode b_J_bitCount 14 = .ok (.iand, 1) := by decide +kernel
theorem d_J_bitCount_15 : decode b_J_bitCount 15 = .ok (.iload_n 0, 1) := by decide +kernel
theorem d_J_bitCount_16 : decode b_J_bitCount 16 = .ok (.iconst 2, 1) := by decide +kernel
theorem d_J_bitCount_17 : decode b_J_bitCount 17 = .ok (.iushr, 1) := by decide +kernel
theorem d_J_bitCount_18 : decode b_J_bitCount 18 = .ok (.ldc_w 266, 3) := by decide +kernel
theorem d_J_bitCount_21 : decode b_J_bitCount 21 = .ok (.iand, 1) := by decide +kernel
theorem d_J_bitCount_22 : decode b_J_bitCount 22 = .ok (.iadd, 1) := by decide +kernel
theorem d_J_bitCount_23 : decode b_J_bitCount 23 = .ok (.istore_n 0, 1) := by decide +kernel
theorem d_J_bitCount_24 : decode b_J_bitCount 24 = .ok (.iload_n 0, 1) := by decide +kernel
theorem d_J_bitCount_25 : decode b_J_bitCount 25 = .ok (.iload_n 0, 1) := by decide +kernel
theorem d_J_bitCount_26 : decode b_J_bitCount 26 = .ok (.iconst 4, 1) := by decide +kernel
theorem d_J_bitCount_27 : decode b_J_bitCount 27 = .ok (.iushr, 1) := by decide +kernel
theorem d_J_bitCount_28 : decode b_J_bitCount 28 = .ok (.iadd, 1) := by decide +kernel
theorem d_J_bitCount_29 : decode b_J_bitCount 29 = .ok (.ldc_w 267, 3) := by decide +kernel
theorem d_J_bitCount_32 : decode b_J_bitCount 32 = .ok (.iand, 1) := by decide +kernel
theorem d_J_bitCount_33 : decode b_J_bitCount 33 = .ok (.istore_n 0, 1) := by decide +kernel
theorem d_J_bitCount_34 : decode b_J_bitCount 34 = .ok (.iload_n 0, 1) := by decide +kernel
theorem d_J_bitCount_35 : decode b_J_bitCount 35 = .ok (.iload_n 0, 1) := by decide +kernel
theorem d_J_bitCount_36 : decode b_J_bitCount 36 = .ok (.bipush 8, 2) := by decide +kernel
theorem d_J_bitCount_38 : decode b_J_bitCount 38 = .ok (.iushr, 1) := by decide +kernel
theorem d_J_bitCount_39 : decode b_J_bitCount 39 = .ok (.iadd, 1) := by decide +kernel
theorem d_J_bitCount_40 : decode b_J_bitCount 40 = .ok (.istore_n 0, 1) := by decide +kernel
theorem d_J_bitCount_41 : decode b_J_bitCount 41 = .ok (.iload_n 0, 1) := by decide +kernel
theorem d_J_bitCount_42 : decode b_J_bitCount 42 = .ok (.iload_n 0, 1) := by decide +kernel
theorem d_J_bitCount_43 : decode b_J_bitCount 43 = .ok (.bipush 16, 2) := by decide +kernel
theorem d_J_bitCount_45 : decode b_J_bitCount 45 = .ok (.iushr, 1) := by decide +kernel
theorem d_J_bitCount_46 : decode b_J_bitCount 46 = .ok (.iadd, 1) := by decide +kernel
theorem d_J_bitCount_47 : decode b_J_bitCount 47 = .ok (.istore_n 0, 1) := by decide +kernel
theorem d_J_bitCount_48 : decode b_J_bitCount 48 = .ok (.iload_n 0, 1) := by decide +kernel
theorem d_J_bitCount_49 : decode b_J_bitCount 49 = .ok (.bipush 63, 2) := by decide +kernel
theorem d_J_bitCount_51 : decode b_J_bitCount 51 = .ok (.iand, 1) := by decide +kernel
theorem d_J_bitCount_52 : decode b_J_bitCount 52 = .ok (.ireturn, 1) := by decide +kernel
end
section
/-! decode rows -/
theorem d_K_init_0 : decode b_K_init 0 = .ok (.aload_n 0, 1) := by decide +kernel
theorem d_K_init_1 : decode b_K_init 1 = .ok (.invokespecial 3, 3) := by decide +kernel
theorem d_K_init_4 : decode b_K_init 4 = .ok (.aload_n 0, 1) := by decide +kernel
theorem d_K_init_5 : decode b_K_init 5 = .ok (.new 9, 3) := by decide +kernel
theorem d_K_init_8 : decode b_K_init 8 = .ok (.dup, 1) := by decide +kernel
theorem d_K_init_9 : decode b_K_init 9 = .ok (.iload_n 1, 1) := by decide +kernel
theorem d_K_init_10 : decode b_K_init 10 = .ok (.invokespecial 11, 3) := by decide +kernel
theorem d_K_init_13 : decode b_K_init 13 = .ok (.putfield 14, 3) := by decide +kernel
theorem d_K_init_16 : decode b_K_init 16 = .ok (.aload_n 0, 1) := by decide +kernel
theorem d_K_init_17 : decode b_K_init 17 = .ok (.new 9, 3) := by decide +kernel
theorem d_K_init_20 : decode b_K_init 20 = .ok (.dup, 1) := by decide +kernel
theorem d_K_init_21 : decode b_K_init 21 = .ok (.iload_n 1, 1) := by decide +kernel
theorem d_K_init_22 : decode b_K_init 22 = .ok (.invokespecial 11, 3) := by decide +kernel
theorem d_K_init_25 : decode b_K_init 25 = .ok (.putfield 20, 3) := by decide +kernel
theorem d_K_init_28 : decode b_K_init 28 = .ok (.aload_n 0, 1) := by decide +kernel
theorem d_K_init_29 : decode b_K_init 29 = .ok (.bipush 9, 2) := by decide +kernel
theorem d_K_init_31 : decode b_K_init 31 = .ok (.newarray .int, 2) := by decide +kernel
theorem d_K_init_33 : decode b_K_init 33 = .ok (.putfield 23, 3) := by decide +kernel
theorem d_K_init_36 : decode b_K_init 36 = .ok (.aload_n 0, 1) := by decide +kernel
theorem d_K_init_37 : decode b_K_init 37 = .ok (.bipush 9, 2) := by decide +kernel
theorem d_K_init_39 : decode b_K_init 39 = .ok (.newarray .int, 2) := by decide +kernel
theorem d_K_init_41 : decode b_K_init 41 = .ok (.putfield 27, 3) := by decide +kernel
theorem d_K_init_44 : decode b_K_init 44 = .ok (.return_, 1) := by decide +kernel
theorem d_K_restart_0 : decode b_K_restart 0 = .ok (.aload_n 0, 1) := by decide +kernel
theorem d_K_restart_1 : decode b_K_restart 1 = .ok (.iconst 0, 1) := by decide +kernel
theorem d_K_restart_2 : decode b_K_restart 2 = .ok (.putfield 30, 3) := by decide +kernel
theorem d_K_restart_5 : decode b_K_restart 5 = .ok (.aload_n 0, 1) := by decide +kernel
theorem d_K_restart_6 : decode b_K_restart 6 = .ok (.iconst 0, 1) := by decide +kernel
theorem d_K_restart_7 : decode b_K_restart 7 = .ok (.putfield 34, 3) := by decide +kernel
theorem d_K_restart_10 : decode b_K_restart 10 = .ok (.aload_n 0, 1) := by decide +kernel
theorem d_K_restart_11 : decode b_K_restart 11 = .ok (.iconst 0, 1) := by decide +kernel
theorem d_K_restart_12 : decode b_K_restart 12 = .ok (.putfield 37, 3) := by decide +kernel
theorem d_K_restart_15 : decode b_K_restart 15 = .ok (.aload_n 0, 1) := by decide +kernel
theorem d_K_restart_16 : decode b_K_restart 16 = .ok (.iconst 0, 1) := by decide +kernel
theorem d_K_restart_17 : decode b_K_restart 17 = .ok (.putfield 40, 3) := by decide +kernel
theorem d_K_restart_20 : decode b_K_restart 20 = .ok (.aload_n 0, 1) := by decide +kernel
theorem d_K_restart_21 : decode b_K_restart 21 = .ok (.iconst 0, 1) := by decide +kernel
theorem d_K_restart_22 : decode b_K_restart 22 = .ok (.putfield 43, 3) := by decide +kernel
theorem d_K_restart_25 : decode b_K_restart 25 = .ok (.aload_n 0, 1) := by decide +kernel
theorem d_K_restart_26 : decode b_K_restart 26 = .ok (.iconst 0, 1) := by decide +kernel
theorem d_K_restart_27 : decode b_K_restart 27 = .ok (.putfield 46, 3) := by decide +kernel
theorem d_K_restart_30 : decode b_K_restart 30 = .ok (.iconst 0, 1) := by decide +kernel
theorem d_K_restart_31 : decode b_K_restart 31 = .ok (.istore_n 1, 1) := by decide +kernel
theorem d_K_restart_32 : decode b_K_restart 32 = .ok (.iload_n 1, 1) := by decide +kernel
theorem d_K_restart_33 : decode b_K_restart 33 = .ok (.aload_n 0, 1) := by decide +kernel
theorem d_K_restart_34 : decode b_K_restart 34 = .ok (.getfield 14, 3) := by decide +kernel
theorem d_K_restart_37 : decode b_K_restart 37 = .ok (.getfield 50, 3) := by decide +kernel
theorem d_K_restart_40 : decode b_K_restart 40 = .ok (.if_icmp .ge 57, 3) := by decide +kernel
theorem d_K_restart_43 : decode b_K_restart 43 = .ok (.iload_n 1, 1) := by decide +kernel
theorem d_K_restart_44 : decode b_K_restart 44 = .ok (.iconst 1, 1) := by decide +kernel
theorem d_K_restart_45 : decode b_K_restart 45 = .ok (.iadd, 1) := by decide +kernel
theorem d_K_restart_46 : decode b_K_restart 46 = .ok (.istore_n 2, 1) := by decide +kernel
theorem d_K_restart_47 : decode b_K_restart 47 = .ok (.iload_n 2, 1) := by decide +kernel
theorem d_K_restart_48 : decode b_K_restart 48 = .ok (.aload_n 0, 1) := by decide +kernel
theorem d_K_restart_49 : decode b_K_restart 49 = .ok (.getfield 14, 3) := by decide +kernel
theorem d_K_restart_52 : decode b_K_restart 52 = .ok (.getfield 50, 3) := by decide +kernel
theorem d_K_restart_55 : decode b_K_restart 55 = .ok (.if_icmp .ge 36, 3) := by decide +kernel
theorem d_K_restart_58 : decode b_K_restart 58 = .ok (.aload_n 0, 1) := by decide +kernel
theorem d_K_restart_59 : decode b_K_restart 59 = .ok (.getfield 14, 3) := by decide +kernel
theorem d_K_restart_62 : decode b_K_restart 62 = .ok (.iload_n 1, 1) := by decide +kernel
theorem d_K_restart_63 : decode b_K_restart 63 = .ok (.iload_n 2, 1) := by decide +kernel
theorem d_K_restart_64 : decode b_K_restart 64 = .ok (.invokevirtual 53, 3) := by decide +kernel
theorem d_K_restart_67 : decode b_K_restart 67 = .ok (.ifCond .eq 18, 3) := by decide +kernel
theorem d_K_restart_70 : decode b_K_restart 70 = .ok (.aload_n 0, 1) := by decide +kernel
theorem d_K_restart_71 : decode b_K_restart 71 = .ok (.getfield 30, 3) := by decide +kernel
theorem d_K_restart_74 : decode b_K_restart 74 = .ok (.bipush 9, 2) := by decide +kernel
theorem d_K_restart_76 : decode b_K_restart 76 = .ok (.if_icmp .ge 9, 3) := by decide +kernel
theorem d_K_restart_79 : decode b_K_restart 79 = .ok (.aload_n 0, 1) := by decide +kernel
theorem d_K_restart_80 : decode b_K_restart 80 = .ok (.iload_n 1, 1) := by decide +kernel
theorem d_K_restart_81 : decode b_K_restart 81 = .ok (.iload_n 2, 1) := by decide +kernel
theorem d_K_restart_82 : decode b_K_restart 82 = .ok (.invokevirtual 57, 3) := by decide +kernel
theorem d_K_restart_85 : decode b_K_restart 85 = .ok (.iinc 2 1, 3) := by decide +kernel
theorem d_K_restart_88 : decode b_K_restart 88 = .ok (.goto (-41), 3) := by decide +kernel
theorem d_K_restart_91 : decode b_K_restart 91 = .ok (.iinc 1 1, 3) := by decide +kernel
theorem d_K_restart_94 : decode b_K_restart 94 = .ok (.goto (-62), 3) := by decide +kernel
theorem d_K_restart_97 : decode b_K_restart 97 = .ok (.return_, 1) := by decide +kernel
theorem d_K_listPair_0 : decode b_K_listPair 0 = .ok (.aload_n 0, 1) := by decide +kernel
theorem d_K_listPair_1 : decode b_K_listPair 1 = .ok (.getfield 14, 3) := by decide +kernel
theorem d_K_listPair_4 : decode b_K_listPair 4 = .ok (.iload_n 1, 1) := by decide +kernel
theorem d_K_listPair_5 : decode b_K_listPair 5 = .ok (.iload_n 2, 1) := by decide +kernel
theorem d_K_listPair_6 : decode b_K_listPair 6 = .ok (.invokevirtual 61, 3) := by decide +kernel
theorem d_K_listPair_9 : decode b_K_listPair 9 = .ok (.aload_n 0, 1) := by decide +kernel
theorem d_K_listPair_10 : decode b_K_listPair 10 = .ok (.getfield 14, 3) := by decide +kernel
theorem d_K_listPair_13 : decode b_K_listPair 13 = .ok (.iload_n 2, 1) := by decide +kernel
theorem d_K_listPair_14 : decode b_K_listPair 14 = .ok (.iload_n 1, 1) := by decide +kernel
theorem d_K_listPair_15 : decode b_K_listPair 15 = .ok (.invokevirtual 61, 3) := by decide +kernel
theorem d_K_listPair_18 : decode b_K_listPair 18 = .ok (.ior, 1) := by decide +kernel
theorem d_K_listPair_19 : decode b_K_listPair 19 = .ok (.ifCond .eq 7, 3) := by decide +kernel
theorem d_K_listPair_22 : decode b_K_listPair 22 = .ok (.iconst 1, 1) := by decide +kernel
theorem d_K_listPair_23 : decode b_K_listPair 23 = .ok (.goto 4, 3) := by decide +kernel
theorem d_K_listPair_26 : decode b_K_listPair 26 = .ok (.iconst 0, 1) := by decide +kernel
theorem d_K_listPair_27 : decode b_K_listPair 27 = .ok (.istore_n 3, 1) := by decide +kernel
theorem d_K_listPair_28 : decode b_K_listPair 28 = .ok (.aload_n 0, 1) := by decide +kernel
theorem d_K_listPair_29 : decode b_K_listPair 29 = .ok (.getfield 23, 3) := by decide +kernel
theorem d_K_listPair_32 : decode b_K_listPair 32 = .ok (.aload_n 0, 1) := by decide +kernel
theorem d_K_listPair_33 : decode b_K_listPair 33 = .ok (.getfield 30, 3) := by decide +kernel
theorem d_K_listPair_36 : decode b_K_listPair 36 = .ok (.iload_n 1, 1) := by decide +kernel
theorem d_K_listPair_37 : decode b_K_listPair 37 = .ok (.iastore, 1) := by decide +kernel
theorem d_K_listPair_38 : decode b_K_listPair 38 = .ok (.aload_n 0, 1) := by decide +kernel
theorem d_K_listPair_39 : decode b_K_listPair 39 = .ok (.getfield 27, 3) := by decide +kernel
theorem d_K_listPair_42 : decode b_K_listPair 42 = .ok (.aload_n 0, 1) := by decide +kernel
theorem d_K_listPair_43 : decode b_K_listPair 43 = .ok (.getfield 30, 3) := by decide +kernel
theorem d_K_listPair_46 : decode b_K_listPair 46 = .ok (.iload_n 2, 1) := by decide +kernel
theorem d_K_listPair_47 : decode b_K_listPair 47 = .ok (.iastore, 1) := by decide +kernel
theorem d_K_listPair_48 : decode b_K_listPair 48 = .ok (.aload_n 0, 1) := by decide +kernel
theorem d_K_listPair_49 : decode b_K_listPair 49 = .ok (.dup, 1) := by decide +kernel
theorem d_K_listPair_50 : decode b_K_listPair 50 = .ok (.getfield 30, 3) := by decide +kernel
theorem d_K_listPair_53 : decode b_K_listPair 53 = .ok (.iconst 1, 1) := by decide +kernel
theorem d_K_listPair_54 : decode b_K_listPair 54 = .ok (.iadd, 1) := by decide +kernel
theorem d_K_listPair_55 : decode b_K_listPair 55 = .ok (.putfield 30, 3) := by decide +kernel
theorem d_K_listPair_58 : decode b_K_listPair 58 = .ok (.aload_n 0, 1) := by decide +kernel
theorem d_K_listPair_59 : decode b_K_listPair 59 = .ok (.iconst 2, 1) := by decide +kernel
theorem d_K_listPair_60 : decode b_K_listPair 60 = .ok (.aload_n 0, 1) := by decide +kernel
theorem d_K_listPair_61 : decode b_K_listPair 61 = .ok (.getfield 34, 3) := by decide +kernel
theorem d_K_listPair_64 : decode b_K_listPair 64 = .ok (.imul, 1) := by decide +kernel
theorem d_K_listPair_65 : decode b_K_listPair 65 = .ok (.aload_n 0, 1) := by decide +kernel
theorem d_K_listPair_66 : decode b_K_listPair 66 = .ok (.getfield 14, 3) := by decide +kernel
theorem d_K_listPair_69 : decode b_K_listPair 69 = .ok (.iload_n 2, 1) := by decide +kernel
theorem d_K_listPair_70 : decode b_K_listPair 70 = .ok (.iload_n 1, 1) := by decide +kernel
theorem d_K_listPair_71 : decode b_K_listPair 71 = .ok (.invokevirtual 65, 3) := by decide +kernel
theorem d_K_listPair_74 : decode b_K_listPair 74 = .ok (.ifCond .eq 7, 3) := by decide +kernel
theorem d_K_listPair_77 : decode b_K_listPair 77 = .ok (.iconst 1, 1) := by decide +kernel
theorem d_K_listPair_78 : decode b_K_listPair 78 = .ok (.goto 4, 3) := by decide +kernel
theorem d_K_listPair_81 : decode b_K_listPair 81 = .ok (.iconst 0, 1) := by decide +kernel
theorem d_K_listPair_82 : decode b_K_listPair 82 = .ok (.iadd, 1) := by decide +kernel
theorem d_K_listPair_83 : decode b_K_listPair 83 = .ok (.putfield 34, 3) := by decide +kernel
theorem d_K_listPair_86 : decode b_K_listPair 86 = .ok (.aload_n 0, 1) := by decide +kernel
theorem d_K_listPair_87 : decode b_K_listPair 87 = .ok (.iconst 2, 1) := by decide +kernel
theorem d_K_listPair_88 : decode b_K_listPair 88 = .ok (.aload_n 0, 1) := by decide +kernel
theorem d_K_listPair_89 : decode b_K_listPair 89 = .ok (.getfield 37, 3) := by decide +kernel
theorem d_K_listPair_92 : decode b_K_listPair 92 = .ok (.imul, 1) := by decide +kernel
theorem d_K_listPair_93 : decode b_K_listPair 93 = .ok (.iload_n 3, 1) := by decide +kernel
theorem d_K_listPair_94 : decode b_K_listPair 94 = .ok (.ifCond .eq 7, 3) := by decide +kernel
theorem d_K_listPair_97 : decode b_K_listPair 97 = .ok (.iconst 1, 1) := by decide +kernel
theorem d_K_listPair_98 : decode b_K_listPair 98 = .ok (.goto 4, 3) := by decide +kernel
theorem d_K_listPair_101 : decode b_K_listPair 101 = .ok (.iconst 0, 1) := by decide +kernel
theorem d_K_listPair_102 : decode b_K_listPair 102 = .ok (.iadd, 1) := by decide +kernel
theorem d_K_listPair_103 : decode b_K_listPair 103 = .ok (.putfield 37, 3) := by decide +kernel
theorem d_K_listPair_106 : decode b_K_listPair 106 = .ok (.return_, 1) := by decide +kernel
theorem d_K_someHas_0 : decode b_K_someHas 0 = .ok (.aload_n 0, 1) := by decide +kernel
theorem d_K_someHas_1 : decode b_K_someHas 1 = .ok (.invokevirtual 68, 3) := by decide +kernel
theorem d_K_someHas_4 : decode b_K_someHas 4 = .ok (.aload_n 0, 1) := by decide +kernel
theorem d_K_someHas_5 : decode b_K_someHas 5 = .ok (.iload_n 1, 1) := by decide +kernel
theorem d_K_someHas_6 : decode b_K_someHas 6 = .ok (.iload_n 2, 1) := by decide +kernel
theorem d_K_someHas_7 : decode b_K_someHas 7 = .ok (.invokevirtual 74, 3) := by decide +kernel
theorem d_K_someHas_10 : decode b_K_someHas 10 = .ok (.istore_n 3, 1) := by decide +kernel
theorem d_K_someHas_11 : decode b_K_someHas 11 = .ok (.iload_n 3, 1) := by decide +kernel
theorem d_K_someHas_12 : decode b_K_someHas 12 = .ok (.iload_n 1, 1) := by decide +kernel
theorem d_K_someHas_13 : decode b_K_someHas 13 = .ok (.iload_n 2, 1) := by decide +kernel
theorem d_K_someHas_14 : decode b_K_someHas 14 = .ok (.if_icmp .ge 12, 3) := by decide +kernel
theorem d_K_someHas_17 : decode b_K_someHas 17 = .ok (.aload_n 0, 1) := by decide +kernel
theorem d_K_someHas_18 : decode b_K_someHas 18 = .ok (.getfield 77, 3) := by decide +kernel
theorem d_K_someHas_21 : decode b_K_someHas 21 = .ok (.iconst (-1), 1) := by decide +kernel
theorem d_K_someHas_22 : decode b_K_someHas 22 = .ok (.ixor, 1) := by decide +kernel
theorem d_K_someHas_23 : decode b_K_someHas 23 = .ok (.goto 7, 3) := by decide +kernel
theorem d_K_someHas_26 : decode b_K_someHas 26 = .ok (.aload_n 0, 1) := by decide +kernel
theorem d_K_someHas_27 : decode b_K_someHas 27 = .ok (.getfield 80, 3) := by decide +kernel
theorem d_K_someHas_30 : decode b_K_someHas 30 = .ok (.iand, 1) := by decide +kernel
theorem d_K_someHas_31 : decode b_K_someHas 31 = .ok (.ifCond .eq 7, 3) := by decide +kernel
theorem d_K_someHas_34 : decode b_K_someHas 34 = .ok (.iconst 1, 1) := by decide +kernel
theorem d_K_someHas_35 : decode b_K_someHas 35 = .ok (.goto 4, 3) := by decide +kernel
theorem d_K_someHas_38 : decode b_K_someHas 38 = .ok (.iconst 0, 1) := by decide +kernel
theorem d_K_someHas_39 : decode b_K_someHas 39 = .ok (.ireturn, 1) := by decide +kernel
theorem d_K_gather_0 : decode b_K_gather 0 = .ok (.aload_n 0, 1) := by decide +kernel
theorem d_K_gather_1 : decode b_K_gather 1 = .ok (.getfield 46, 3) := by decide +kernel
theorem d_K_gather_4 : decode b_K_gather 4 = .ok (.ifCond .eq 4, 3) := by decide +kernel
theorem d_K_gather_7 : decode b_K_gather 7 = .ok (.return_, 1) := by decide +kernel
theorem d_K_gather_8 : decode b_K_gather 8 = .ok (.aload_n 0, 1) := by decide +kernel
theorem d_K_gather_9 : decode b_K_gather 9 = .ok (.iconst 0, 1) := by decide +kernel
theorem d_K_gather_10 : decode b_K_gather 10 = .ok (.putfield 71, 3) := by decide +kernel
theorem d_K_gather_13 : decode b_K_gather 13 = .ok (.aload_n 0, 1) := by decide +kernel
theorem d_K_gather_14 : decode b_K_gather 14 = .ok (.iconst 0, 1) := by decide +kernel
theorem d_K_gather_15 : decode b_K_gather 15 = .ok (.putfield 80, 3) := by decide +kernel
theorem d_K_gather_18 : decode b_K_gather 18 = .ok (.aload_n 0, 1) := by decide +kernel
theorem d_K_gather_19 : decode b_K_gather 19 = .ok (.iconst (-1), 1) := by decide +kernel
theorem d_K_gather_20 : decode b_K_gather 20 = .ok (.putfield 77, 3) := by decide +kernel
theorem d_K_gather_23 : decode b_K_gather 23 = .ok (.iconst 0, 1) := by decide +kernel
theorem d_K_gather_24 : decode b_K_gather 24 = .ok (.istore_n 1, 1) := by decide +kernel
theorem d_K_gather_25 : decode b_K_gather 25 = .ok (.iload_n 1, 1) := by decide +kernel
theorem d_K_gather_26 : decode b_K_gather 26 = .ok (.iconst 1, 1) := by decide +kernel
theorem d_K_gather_27 : decode b_K_gather 27 = .ok (.aload_n 0, 1) := by decide +kernel
theorem d_K_gather_28 : decode b_K_gather 28 = .ok (.getfield 30, 3) := by decide +kernel
theorem d_K_gather_31 : decode b_K_gather 31 = .ok (.ishl, 1) := by decide +kernel
theorem d_K_gather_32 : decode b_K_gather 32 = .ok (.if_icmp .ge 66, 3) := by decide +kernel
theorem d_K_gather_35 : decode b_K_gather 35 = .ok (.aload_n 0, 1) := by decide +kernel
theorem d_K_gather_36 : decode b_K_gather 36 = .ok (.iload_n 1, 1) := by decide +kernel
theorem d_K_gather_37 : decode b_K_gather 37 = .ok (.invokevirtual 103, 3) := by decide +kernel
theorem d_K_gather_40 : decode b_K_gather 40 = .ok (.ifCond .eq 52, 3) := by decide +kernel
theorem d_K_gather_43 : decode b_K_gather 43 = .ok (.aload_n 0, 1) := by decide +kernel
theorem d_K_gather_44 : decode b_K_gather 44 = .ok (.aload_n 0, 1) := by decide +kernel
theorem d_K_gather_45 : decode b_K_gather 45 = .ok (.getfield 71, 3) := by decide +kernel
theorem d_K_gather_48 : decode b_K_gather 48 = .ok (.ifCond .ne 7, 3) := by decide +kernel
theorem d_K_gather_51 : decode b_K_gather 51 = .ok (.iload_n 1, 1) := by decide +kernel
theorem d_K_gather_52 : decode b_K_gather 52 = .ok (.goto 7, 3) := by decide +kernel
theorem d_K_gather_55 : decode b_K_gather 55 = .ok (.aload_n 0, 1) := by decide +kernel
theorem d_K_gather_56 : decode b_K_gather 56 = .ok (.getfield 83, 3) := by decide +kernel
theorem d_K_gather_59 : decode b_K_gather 59 = .ok (.putfield 83, 3) := by decide +kernel
theorem d_K_gather_62 : decode b_K_gather 62 = .ok (.aload_n 0, 1) := by decide +kernel
theorem d_K_gather_63 : decode b_K_gather 63 = .ok (.dup, 1) := by decide +kernel
theorem d_K_gather_64 : decode b_K_gather 64 = .ok (.getfield 80, 3) := by decide +kernel
theorem d_K_gather_67 : decode b_K_gather 67 = .ok (.iload_n 1, 1) := by decide +kernel
theorem d_K_gather_68 : decode b_K_gather 68 = .ok (.ior, 1) := by decide +kernel
theorem d_K_gather_69 : decode b_K_gather 69 = .ok (.putfield 80, 3) := by decide +kernel
theorem d_K_gather_72 : decode b_K_gather 72 = .ok (.aload_n 0, 1) := by decide +kernel
theorem d_K_gather_73 : decode b_K_gather 73 = .ok (.dup, 1) := by decide +kernel
theorem d_K_gather_74 : decode b_K_gather 74 = .ok (.getfield 77, 3) := by decide +kernel
theorem d_K_gather_77 : decode b_K_gather 77 = .ok (.iload_n 1, 1) := by decide +kernel
theorem d_K_gather_78 : decode b_K_gather 78 = .ok (.iand, 1) := by decide +kernel
theorem d_K_gather_79 : decode b_K_gather 79 = .ok (.putfield 77, 3) := by decide +kernel
theorem d_K_gather_82 : decode b_K_gather 82 = .ok (.aload_n 0, 1) := by decide +kernel
theorem d_K_gather_83 : decode b_K_gather 83 = .ok (.dup, 1) := by decide +kernel
theorem d_K_gather_84 : decode b_K_gather 84 = .ok (.getfield 71, 3) := by decide +kernel
theorem d_K_gather_87 : decode b_K_gather 87 = .ok (.iconst 1, 1) := by decide +kernel
theorem d_K_gather_88 : decode b_K_gather 88 = .ok (.iadd, 1) := by decide +kernel
theorem d_K_gather_89 : decode b_K_gather 89 = .ok (.putfield 71, 3) := by decide +kernel
theorem d_K_gather_92 : decode b_K_gather 92 = .ok (.iinc 1 1, 3) := by decide +kernel
theorem d_K_gather_95 : decode b_K_gather 95 = .ok (.goto (-70), 3) := by decide +kernel
theorem d_K_gather_98 : decode b_K_gather 98 = .ok (.aload_n 0, 1) := by decide +kernel
theorem d_K_gather_99 : decode b_K_gather 99 = .ok (.iconst 1, 1) := by decide +kernel
theorem d_K_gather_100 : decode b_K_gather 100 = .ok (.putfield 46, 3) := by decide +kernel
theorem d_K_gather_103 : decode b_K_gather 103 = .ok (.return_, 1) := by decide +kernel
theorem d_K_isMember_0 : decode b_K_isMember 0 = .ok (.iload_n 1, 1) := by decide +kernel
theorem d_K_isMember_1 : decode b_K_isMember 1 = .ok (.aload_n 0, 1) := by decide +kernel
theorem d_K_isMember_2 : decode b_K_isMember 2 = .ok (.getfield 40, 3) := by decide +kernel
theorem d_K_isMember_5 : decode b_K_isMember 5 = .ok (.iand, 1) := by decide +kernel
theorem d_K_isMember_6 : decode b_K_isMember 6 = .ok (.aload_n 0, 1) := by decide +kernel
theorem d_K_isMember_7 : decode b_K_isMember 7 = .ok (.getfield 43, 3) := by decide +kernel
theorem d_K_isMember_10 : decode b_K_isMember 10 = .ok (.if_icmp .eq 5, 3) := by decide +kernel
theorem d_K_isMember_13 : decode b_K_isMember 13 = .ok (.iconst 0, 1) := by decide +kernel
theorem d_K_isMember_14 : decode b_K_isMember 14 = .ok (.ireturn, 1) := by decide +kernel
theorem d_K_isMember_15 : decode b_K_isMember 15 = .ok (.iload_n 1, 1) := by decide +kernel
theorem d_K_isMember_16 : decode b_K_isMember 16 = .ok (.aload_n 0, 1) := by decide +kernel
theorem d_K_isMember_17 : decode b_K_isMember 17 = .ok (.getfield 34, 3) := by decide +kernel
theorem d_K_isMember_20 : decode b_K_isMember 20 = .ok (.ixor, 1) := by decide +kernel
theorem d_K_isMember_21 : decode b_K_isMember 21 = .ok (.aload_n 0, 1) := by decide +kernel
theorem d_K_isMember_22 : decode b_K_isMember 22 = .ok (.getfield 37, 3) := by decide +kernel
theorem d_K_isMember_25 : decode b_K_isMember 25 = .ok (.iand, 1) := by decide +kernel
theorem d_K_isMember_26 : decode b_K_isMember 26 = .ok (.ifCond .eq 5, 3) := by decide +kernel
theorem d_K_isMember_29 : decode b_K_isMember 29 = .ok (.iconst 0, 1) := by decide +kernel
theorem d_K_isMember_30 : decode b_K_isMember 30 = .ok (.ireturn, 1) := by decide +kernel
theorem d_K_isMember_31 : decode b_K_isMember 31 = .ok (.aload_n 0, 1) := by decide +kernel
theorem d_K_isMember_32 : decode b_K_isMember 32 = .ok (.getfield 20, 3) := by decide +kernel
theorem d_K_isMember_35 : decode b_K_isMember 35 = .ok (.invokevirtual 107, 3) := by decide +kernel
theorem d_K_isMember_38 : decode b_K_isMember 38 = .ok (.iconst 0, 1) := by decide +kernel
theorem d_K_isMember_39 : decode b_K_isMember 39 = .ok (.istore_n 2, 1) := by decide +kernel
theorem d_K_isMember_40 : decode b_K_isMember 40 = .ok (.iload_n 2, 1) := by decide +kernel
theorem d_K_isMember_41 : decode b_K_isMember 41 = .ok (.aload_n 0, 1) := by decide +kernel
theorem d_K_isMember_42 : decode b_K_isMember 42 = .ok (.getfield 30, 3) := by decide +kernel
theorem d_K_isMember_45 : decode b_K_isMember 45 = .ok (.if_icmp .ge 60, 3) := by decide +kernel
theorem d_K_isMember_48 : decode b_K_isMember 48 = .ok (.iload_n 1, 1) := by decide +kernel
theorem d_K_isMember_49 : decode b_K_isMember 49 = .ok (.aload_n 0, 1) := by decide +kernel
theorem d_K_isMember_50 : decode b_K_isMember 50 = .ok (.iload_n 2, 1) := by decide +kernel
theorem d_K_isMember_51 : decode b_K_isMember 51 = .ok (.invokevirtual 100, 3) := by decide +kernel
theorem d_K_isMember_54 : decode b_K_isMember 54 = .ok (.iand, 1) := by decide +kernel
theorem d_K_isMember_55 : decode b_K_isMember 55 = .ok (.ifCond .ne 25, 3) := by decide +kernel
theorem d_K_isMember_58 : decode b_K_isMember 58 = .ok (.aload_n 0, 1) := by decide +kernel
theorem d_K_isMember_59 : decode b_K_isMember 59 = .ok (.getfield 20, 3) := by decide +kernel
theorem d_K_isMember_62 : decode b_K_isMember 62 = .ok (.aload_n 0, 1) := by decide +kernel
theorem d_K_isMember_63 : decode b_K_isMember 63 = .ok (.getfield 23, 3) := by decide +kernel
theorem d_K_isMember_66 : decode b_K_isMember 66 = .ok (.iload_n 2, 1) := by decide +kernel
theorem d_K_isMember_67 : decode b_K_isMember 67 = .ok (.iaload, 1) := by decide +kernel
theorem d_K_isMember_68 : decode b_K_isMember 68 = .ok (.aload_n 0, 1) := by decide +kernel
theorem d_K_isMember_69 : decode b_K_isMember 69 = .ok (.getfield 27, 3) := by decide +kernel
theorem d_K_isMember_72 : decode b_K_isMember 72 = .ok (.iload_n 2, 1) := by decide +kernel
theorem d_K_isMember_73 : decode b_K_isMember 73 = .ok (.iaload, 1) := by decide +kernel
theorem d_K_isMember_74 : decode b_K_isMember 74 = .ok (.invokevirtual 110, 3) := by decide +kernel
theorem d_K_isMember_77 : decode b_K_isMember 77 = .ok (.goto 22, 3) := by decide +kernel
theorem d_K_isMember_80 : decode b_K_isMember 80 = .ok (.aload_n 0, 1) := by decide +kernel
theorem d_K_isMember_81 : decode b_K_isMember 81 = .ok (.getfield 20, 3) := by decide +kernel
theorem d_K_isMember_84 : decode b_K_isMember 84 = .ok (.aload_n 0, 1) := by decide +kernel
theorem d_K_isMember_85 : decode b_K_isMember 85 = .ok (.getfield 27, 3) := by decide +kernel
theorem d_K_isMember_88 : decode b_K_isMember 88 = .ok (.iload_n 2, 1) := by decide +kernel
theorem d_K_isMember_89 : decode b_K_isMember 89 = .ok (.iaload, 1) := by decide +kernel
theorem d_K_isMember_90 : decode b_K_isMember 90 = .ok (.aload_n 0, 1) := by decide +kernel
theorem d_K_isMember_91 : decode b_K_isMember 91 = .ok (.getfield 23, 3) := by decide +kernel
theorem d_K_isMember_94 : decode b_K_isMember 94 = .ok (.iload_n 2, 1) := by decide +kernel
theorem d_K_isMember_95 : decode b_K_isMember 95 = .ok (.iaload, 1) := by decide +kernel
theorem d_K_isMember_96 : decode b_K_isMember 96 = .ok (.invokevirtual 110, 3) := by decide +kernel
theorem d_K_isMember_99 : decode b_K_isMember 99 = .ok (.iinc 2 1, 3) := by decide +kernel
theorem d_K_isMember_102 : decode b_K_isMember 102 = .ok (.goto (-62), 3) := by decide +kernel
theorem d_K_isMember_105 : decode b_K_isMember 105 = .ok (.aload_n 0, 1) := by decide +kernel
theorem d_K_isMember_106 : decode b_K_isMember 106 = .ok (.getfield 20, 3) := by decide +kernel
theorem d_K_isMember_109 : decode b_K_isMember 109 = .ok (.aload_n 0, 1) := by decide +kernel
theorem d_K_isMember_110 : decode b_K_isMember 110 = .ok (.getfield 14, 3) := by decide +kernel
theorem d_K_isMember_113 : decode b_K_isMember 113 = .ok (.invokevirtual 113, 3) := by decide +kernel
theorem d_K_isMember_116 : decode b_K_isMember 116 = .ok (.ifCond .eq 17, 3) := by decide +kernel
theorem d_K_isMember_119 : decode b_K_isMember 119 = .ok (.aload_n 0, 1) := by decide +kernel
theorem d_K_isMember_120 : decode b_K_isMember 120 = .ok (.getfield 20, 3) := by decide +kernel
theorem d_K_isMember_123 : decode b_K_isMember 123 = .ok (.invokevirtual 117, 3) := by decide +kernel
theorem d_K_isMember_126 : decode b_K_isMember 126 = .ok (.ifCond .ne 7, 3) := by decide +kernel
theorem d_K_isMember_129 : decode b_K_isMember 129 = .ok (.iconst 1, 1) := by decide +kernel
theorem d_K_isMember_130 : decode b_K_isMember 130 = .ok (.goto 4, 3) := by decide +kernel
theorem d_K_isMember_133 : decode b_K_isMember 133 = .ok (.iconst 0, 1) := by decide +kernel
theorem d_K_isMember_134 : decode b_K_isMember 134 = .ok (.ireturn, 1) := by decide +kernel
theorem d_K_bitAt_0 : decode b_K_bitAt 0 = .ok (.iconst 1, 1) := by decide +kernel
theorem d_K_bitAt_1 : decode b_K_bitAt 1 = .ok (.aload_n 0, 1) := by decide +kernel
theorem d_K_bitAt_2 : decode b_K_bitAt 2 = .ok (.getfield 30, 3) := by decide +kernel
theorem d_K_bitAt_5 : decode b_K_bitAt 5 = .ok (.iconst 1, 1) := by decide +kernel
theorem d_K_bitAt_6 : decode b_K_bitAt 6 = .ok (.isub, 1) := by decide +kernel
theorem d_K_bitAt_7 : decode b_K_bitAt 7 = .ok (.iload_n 1, 1) := by decide +kernel
theorem d_K_bitAt_8 : decode b_K_bitAt 8 = .ok (.isub, 1) := by decide +kernel
theorem d_K_bitAt_9 : decode b_K_bitAt 9 = .ok (.ishl, 1) := by decide +kernel
theorem d_K_bitAt_10 : decode b_K_bitAt 10 = .ok (.ireturn, 1) := by decide +kernel
theorem d_K_bitOf_0 : decode b_K_bitOf 0 = .ok (.iconst 0, 1) := by decide +kernel
theorem d_K_bitOf_1 : decode b_K_bitOf 1 = .ok (.istore_n 3, 1) := by decide +kernel
theorem d_K_bitOf_2 : decode b_K_bitOf 2 = .ok (.iload_n 3, 1) := by decide +kernel
theorem d_K_bitOf_3 : decode b_K_bitOf 3 = .ok (.aload_n 0, 1) := by decide +kernel
theorem d_K_bitOf_4 : decode b_K_bitOf 4 = .ok (.getfield 30, 3) := by decide +kernel
theorem d_K_bitOf_7 : decode b_K_bitOf 7 = .ok (.if_icmp .ge 43, 3) := by decide +kernel
theorem d_K_bitOf_10 : decode b_K_bitOf 10 = .ok (.aload_n 0, 1) := by decide +kernel
theorem d_K_bitOf_11 : decode b_K_bitOf 11 = .ok (.getfield 23, 3) := by decide +kernel
theorem d_K_bitOf_14 : decode b_K_bitOf 14 = .ok (.iload_n 3, 1) := by decide +kernel
theorem d_K_bitOf_15 : decode b_K_bitOf 15 = .ok (.iaload, 1) := by decide +kernel
theorem d_K_bitOf_16 : decode b_K_bitOf 16 = .ok (.iload_n 1, 1) := by decide +kernel
theorem d_K_bitOf_17 : decode b_K_bitOf 17 = .ok (.iload_n 2, 1) := by decide +kernel
theorem d_K_bitOf_18 : decode b_K_bitOf 18 = .ok (.invokestatic 92, 3) := by decide +kernel
theorem d_K_bitOf_21 : decode b_K_bitOf 21 = .ok (.if_icmp .ne 23, 3) := by decide +kernel
theorem d_K_bitOf_24 : decode b_K_bitOf 24 = .ok (.aload_n 0, 1) := by decide +kernel
theorem d_K_bitOf_25 : decode b_K_bitOf 25 = .ok (.getfield 27, 3) := by decide +kernel
theorem d_K_bitOf_28 : decode b_K_bitOf 28 = .ok (.iload_n 3, 1) := by decide +kernel
theorem d_K_bitOf_29 : decode b_K_bitOf 29 = .ok (.iaload, 1) := by decide +kernel
theorem d_K_bitOf_30 : decode b_K_bitOf 30 = .ok (.iload_n 1, 1) := by decide +kernel
theorem d_K_bitOf_31 : decode b_K_bitOf 31 = .ok (.iload_n 2, 1) := by decide +kernel
theorem d_K_bitOf_32 : decode b_K_bitOf 32 = .ok (.invokestatic 97, 3) := by decide +kernel
theorem d_K_bitOf_35 : decode b_K_bitOf 35 = .ok (.if_icmp .ne 9, 3) := by decide +kernel
theorem d_K_bitOf_38 : decode b_K_bitOf 38 = .ok (.aload_n 0, 1) := by decide +kernel
theorem d_K_bitOf_39 : decode b_K_bitOf 39 = .ok (.iload_n 3, 1) := by decide +kernel
theorem d_K_bitOf_40 : decode b_K_bitOf 40 = .ok (.invokevirtual 100, 3) := by decide +kernel
theorem d_K_bitOf_43 : decode b_K_bitOf 43 = .ok (.ireturn, 1) := by decide +kernel
theorem d_K_bitOf_44 : decode b_K_bitOf 44 = .ok (.iinc 3 1, 3) := by decide +kernel
theorem d_K_bitOf_47 : decode b_K_bitOf 47 = .ok (.goto (-45), 3) := by decide +kernel
theorem d_K_bitOf_50 : decode b_K_bitOf 50 = .ok (.iconst 0, 1) := by decide +kernel
theorem d_K_bitOf_51 : decode b_K_bitOf 51 = .ok (.ireturn, 1) := by decide +kernel
theorem d_K_loosePairs_0 : decode b_K_loosePairs 0 = .ok (.aload_n 0, 1) := by decide +kernel
theorem d_K_loosePairs_1 : decode b_K_loosePairs 1 = .ok (.invokevirtual 68, 3) := by decide +kernel
theorem d_K_loosePairs_4 : decode b_K_loosePairs 4 = .ok (.aload_n 0, 1) := by decide +kernel
theorem d_K_loosePairs_5 : decode b_K_loosePairs 5 = .ok (.getfield 80, 3) := by decide +kernel
theorem d_K_loosePairs_8 : decode b_K_loosePairs 8 = .ok (.aload_n 0, 1) := by decide +kernel
theorem d_K_loosePairs_9 : decode b_K_loosePairs 9 = .ok (.getfield 77, 3) := by decide +kernel
theorem d_K_loosePairs_12 : decode b_K_loosePairs 12 = .ok (.iconst (-1), 1) := by decide +kernel
theorem d_K_loosePairs_13 : decode b_K_loosePairs 13 = .ok (.ixor, 1) := by decide +kernel
theorem d_K_loosePairs_14 : decode b_K_loosePairs 14 = .ok (.iand, 1) := by decide +kernel
theorem d_K_loosePairs_15 : decode b_K_loosePairs 15 = .ok (.invokestatic 86, 3) := by decide +kernel
theorem d_K_loosePairs_18 : decode b_K_loosePairs 18 = .ok (.ireturn, 1) := by decide +kernel
theorem d_K_fix_0 : decode b_K_fix 0 = .ok (.aload_n 0, 1) := by decide +kernel
theorem d_K_fix_1 : decode b_K_fix 1 = .ok (.iload_n 1, 1) := by decide +kernel
theorem d_K_fix_2 : decode b_K_fix 2 = .ok (.iload_n 2, 1) := by decide +kernel
theorem d_K_fix_3 : decode b_K_fix 3 = .ok (.invokevirtual 74, 3) := by decide +kernel
theorem d_K_fix_6 : decode b_K_fix 6 = .ok (.istore_n 3, 1) := by decide +kernel
theorem d_K_fix_7 : decode b_K_fix 7 = .ok (.aload_n 0, 1) := by decide +kernel
theorem d_K_fix_8 : decode b_K_fix 8 = .ok (.dup, 1) := by decide +kernel
theorem d_K_fix_9 : decode b_K_fix 9 = .ok (.getfield 40, 3) := by decide +kernel
theorem d_K_fix_12 : decode b_K_fix 12 = .ok (.iload_n 3, 1) := by decide +kernel
theorem d_K_fix_13 : decode b_K_fix 13 = .ok (.ior, 1) := by decide +kernel
theorem d_K_fix_14 : decode b_K_fix 14 = .ok (.putfield 40, 3) := by decide +kernel
theorem d_K_fix_17 : decode b_K_fix 17 = .ok (.iload_n 1, 1) := by decide +kernel
theorem d_K_fix_18 : decode b_K_fix 18 = .ok (.iload_n 2, 1) := by decide +kernel
theorem d_K_fix_19 : decode b_K_fix 19 = .ok (.if_icmp .le 13, 3) := by decide +kernel
theorem d_K_fix_22 : decode b_K_fix 22 = .ok (.aload_n 0, 1) := by decide +kernel
theorem d_K_fix_23 : decode b_K_fix 23 = .ok (.dup, 1) := by decide +kernel
theorem d_K_fix_24 : decode b_K_fix 24 = .ok (.getfield 43, 3) := by decide +kernel
theorem d_K_fix_27 : decode b_K_fix 27 = .ok (.iload_n 3, 1) := by decide +kernel
theorem d_K_fix_28 : decode b_K_fix 28 = .ok (.ior, 1) := by decide +kernel
theorem d_K_fix_29 : decode b_K_fix 29 = .ok (.putfield 43, 3) := by decide +kernel
theorem d_K_fix_32 : decode b_K_fix 32 = .ok (.aload_n 0, 1) := by decide +kernel
theorem d_K_fix_33 : decode b_K_fix 33 = .ok (.iconst 0, 1) := by decide +kernel
theorem d_K_fix_34 : decode b_K_fix 34 = .ok (.putfield 46, 3) := by decide +kernel
theorem d_K_fix_37 : decode b_K_fix 37 = .ok (.return_, 1) := by decide +kernel
theorem d_K_unfix_0 : decode b_K_unfix 0 = .ok (.aload_n 0, 1) := by decide +kernel
theorem d_K_unfix_1 : decode b_K_unfix 1 = .ok (.getfield 40, 3) := by decide +kernel
theorem d_K_unfix_4 : decode b_K_unfix 4 = .ok (.invokestatic 86, 3) := by decide +kernel
theorem d_K_unfix_7 : decode b_K_unfix 7 = .ok (.istore_n 1, 1) := by decide +kernel
theorem d_K_unfix_8 : decode b_K_unfix 8 = .ok (.aload_n 0, 1) := by decide +kernel
theorem d_K_unfix_9 : decode b_K_unfix 9 = .ok (.iconst 0, 1) := by decide +kernel
theorem d_K_unfix_10 : decode b_K_unfix 10 = .ok (.putfield 40, 3) := by decide +kernel
theorem d_K_unfix_13 : decode b_K_unfix 13 = .ok (.aload_n 0, 1) := by decide +kernel
theorem d_K_unfix_14 : decode b_K_unfix 14 = .ok (.iconst 0, 1) := by decide +kernel
theorem d_K_unfix_15 : decode b_K_unfix 15 = .ok (.putfield 43, 3) := by decide +kernel
theorem d_K_unfix_18 : decode b_K_unfix 18 = .ok (.aload_n 0, 1) := by decide +kernel
theorem d_K_unfix_19 : decode b_K_unfix 19 = .ok (.iconst 0, 1) := by decide +kernel
theorem d_K_unfix_20 : decode b_K_unfix 20 = .ok (.putfield 46, 3) := by decide +kernel
theorem d_K_unfix_23 : decode b_K_unfix 23 = .ok (.iload_n 1, 1) := by decide +kernel
theorem d_K_unfix_24 : decode b_K_unfix 24 = .ok (.ireturn, 1) := by decide +kernel
theorem d_K_size_0 : decode b_K_size 0 = .ok (.aload_n 0, 1) := by decide +kernel
theorem d_K_size_1 : decode b_K_size 1 = .ok (.invokevirtual 68, 3) := by decide +kernel
theorem d_K_size_4 : decode b_K_size 4 = .ok (.aload_n 0, 1) := by decide +kernel
theorem d_K_size_5 : decode b_K_size 5 = .ok (.getfield 71, 3) := by decide +kernel
theorem d_K_size_8 : decode b_K_size 8 = .ok (.ireturn, 1) := by decide +kernel
theorem d_K_firstHas_0 : decode b_K_firstHas 0 = .ok (.aload_n 0, 1) := by decide +kernel
theorem d_K_firstHas_1 : decode b_K_firstHas 1 = .ok (.invokevirtual 68, 3) := by decide +kernel
theorem d_K_firstHas_4 : decode b_K_firstHas 4 = .ok (.aload_n 0, 1) := by decide +kernel
theorem d_K_firstHas_5 : decode b_K_firstHas 5 = .ok (.iload_n 1, 1) := by decide +kernel
theorem d_K_firstHas_6 : decode b_K_firstHas 6 = .ok (.iload_n 2, 1) := by decide +kernel
theorem d_K_firstHas_7 : decode b_K_firstHas 7 = .ok (.invokevirtual 74, 3) := by decide +kernel
theorem d_K_firstHas_10 : decode b_K_firstHas 10 = .ok (.istore_n 3, 1) := by decide +kernel
theorem d_K_firstHas_11 : decode b_K_firstHas 11 = .ok (.iload_n 3, 1) := by decide +kernel
theorem d_K_firstHas_12 : decode b_K_firstHas 12 = .ok (.iload_n 1, 1) := by decide +kernel
theorem d_K_firstHas_13 : decode b_K_firstHas 13 = .ok (.iload_n 2, 1) := by decide +kernel
theorem d_K_firstHas_14 : decode b_K_firstHas 14 = .ok (.if_icmp .ge 12, 3) := by decide +kernel
theorem d_K_firstHas_17 : decode b_K_firstHas 17 = .ok (.aload_n 0, 1) := by decide +kernel
theorem d_K_firstHas_18 : decode b_K_firstHas 18 = .ok (.getfield 83, 3) := by decide +kernel
theorem d_K_firstHas_21 : decode b_K_firstHas 21 = .ok (.iconst (-1), 1) := by decide +kernel
theorem d_K_firstHas_22 : decode b_K_firstHas 22 = .ok (.ixor, 1) := by decide +kernel
theorem d_K_firstHas_23 : decode b_K_firstHas 23 = .ok (.goto 7, 3) := by decide +kernel
theorem d_K_firstHas_26 : decode b_K_firstHas 26 = .ok (.aload_n 0, 1) := by decide +kernel
theorem d_K_firstHas_27 : decode b_K_firstHas 27 = .ok (.getfield 83, 3) := by decide +kernel
theorem d_K_firstHas_30 : decode b_K_firstHas 30 = .ok (.iand, 1) := by decide +kernel
theorem d_K_firstHas_31 : decode b_K_firstHas 31 = .ok (.ifCond .eq 7, 3) := by decide +kernel
theorem d_K_firstHas_34 : decode b_K_firstHas 34 = .ok (.iconst 1, 1) := by decide +kernel
theorem d_K_firstHas_35 : decode b_K_firstHas 35 = .ok (.goto 4, 3) := by decide +kernel
theorem d_K_firstHas_38 : decode b_K_firstHas 38 = .ok (.iconst 0, 1) := by decide +kernel
theorem d_K_firstHas_39 : decode b_K_firstHas 39 = .ok (.ireturn, 1) := by decide +kernel
theorem d_K_turnedInFirst_0 : decode b_K_turnedInFirst 0 = .ok (.aload_n 0, 1) := by decide +kernel
theorem d_K_turnedInFirst_1 : decode b_K_turnedInFirst 1 = .ok (.invokevirtual 68, 3) := by decide +kernel
theorem d_K_turnedInFirst_4 : decode b_K_turnedInFirst 4 = .ok (.aload_n 0, 1) := by decide +kernel
theorem d_K_turnedInFirst_5 : decode b_K_turnedInFirst 5 = .ok (.getfield 83, 3) := by decide +kernel
theorem d_K_turnedInFirst_8 : decode b_K_turnedInFirst 8 = .ok (.aload_n 0, 1) := by decide +kernel
theorem d_K_turnedInFirst_9 : decode b_K_turnedInFirst 9 = .ok (.getfield 34, 3) := by decide +kernel
theorem d_K_turnedInFirst_12 : decode b_K_turnedInFirst 12 = .ok (.ixor, 1) := by decide +kernel
theorem d_K_turnedInFirst_13 : decode b_K_turnedInFirst 13 = .ok (.invokestatic 86, 3) := by decide +kernel
theorem d_K_turnedInFirst_16 : decode b_K_turnedInFirst 16 = .ok (.ireturn, 1) := by decide +kernel
end
section
/-! decode rows -/
theorem d_A_init_0 : decode b_A_init 0 = .ok (.aload_n 0, 1) := by decide +kernel
theorem d_A_init_1 : decode b_A_init 1 = .ok (.invokespecial 1, 3) := by decide +kernel
theorem d_A_init_4 : decode b_A_init 4 = .ok (.aload_n 0, 1) := by decide +kernel
theorem d_A_init_5 : decode b_A_init 5 = .ok (.iload_n 1, 1) := by decide +kernel
theorem d_A_init_6 : decode b_A_init 6 = .ok (.iconst 2, 1) := by decide +kernel
theorem d_A_init_7 : decode b_A_init 7 = .ok (.if_icmp .lt 9, 3) := by decide +kernel
theorem d_A_init_10 : decode b_A_init 10 = .ok (.iload_n 1, 1) := by decide +kernel
theorem d_A_init_11 : decode b_A_init 11 = .ok (.bipush 6, 2) := by decide +kernel
theorem d_A_init_13 : decode b_A_init 13 = .ok (.if_icmp .le 8, 3) := by decide +kernel
theorem d_A_init_16 : decode b_A_init 16 = .ok (.bipush 6, 2) := by decide +kernel
theorem d_A_init_18 : decode b_A_init 18 = .ok (.goto 4, 3) := by decide +kernel
theorem d_A_init_21 : decode b_A_init 21 = .ok (.iload_n 1, 1) := by decide +kernel
theorem d_A_init_22 : decode b_A_init 22 = .ok (.putfield 9, 3) := by decide +kernel
theorem d_A_init_25 : decode b_A_init 25 = .ok (.aload_n 0, 1) := by decide +kernel
theorem d_A_init_26 : decode b_A_init 26 = .ok (.new 13, 3) := by decide +kernel
theorem d_A_init_29 : decode b_A_init 29 = .ok (.dup, 1) := by decide +kernel
theorem d_A_init_30 : decode b_A_init 30 = .ok (.aload_n 0, 1) := by decide +kernel
theorem d_A_init_31 : decode b_A_init 31 = .ok (.getfield 9, 3) := by decide +kernel
theorem d_A_init_34 : decode b_A_init 34 = .ok (.invokespecial 15, 3) := by decide +kernel
theorem d_A_init_37 : decode b_A_init 37 = .ok (.putfield 18, 3) := by decide +kernel
theorem d_A_init_40 : decode b_A_init 40 = .ok (.aload_n 0, 1) := by decide +kernel
theorem d_A_init_41 : decode b_A_init 41 = .ok (.aload_n 0, 1) := by decide +kernel
theorem d_A_init_42 : decode b_A_init 42 = .ok (.getfield 18, 3) := by decide +kernel
theorem d_A_init_45 : decode b_A_init 45 = .ok (.getfield 22, 3) := by decide +kernel
theorem d_A_init_48 : decode b_A_init 48 = .ok (.putfield 26, 3) := by decide +kernel
theorem d_A_init_51 : decode b_A_init 51 = .ok (.aload_n 0, 1) := by decide +kernel
theorem d_A_init_52 : decode b_A_init 52 = .ok (.iconst (-1), 1) := by decide +kernel
theorem d_A_init_53 : decode b_A_init 53 = .ok (.putfield 29, 3) := by decide +kernel
theorem d_A_init_56 : decode b_A_init 56 = .ok (.return_, 1) := by decide +kernel
theorem d_A_arrow_0 : decode b_A_arrow 0 = .ok (.aload_n 0, 1) := by decide +kernel
theorem d_A_arrow_1 : decode b_A_arrow 1 = .ok (.iload_n 1, 1) := by decide +kernel
theorem d_A_arrow_2 : decode b_A_arrow 2 = .ok (.iload_n 2, 1) := by decide +kernel
theorem d_A_arrow_3 : decode b_A_arrow 3 = .ok (.invokevirtual 32, 3) := by decide +kernel
theorem d_A_arrow_6 : decode b_A_arrow 6 = .ok (.ifCond .eq 27, 3) := by decide +kernel
theorem d_A_arrow_9 : decode b_A_arrow 9 = .ok (.aload_n 0, 1) := by decide +kernel
theorem d_A_arrow_10 : decode b_A_arrow 10 = .ok (.getfield 26, 3) := by decide +kernel
theorem d_A_arrow_13 : decode b_A_arrow 13 = .ok (.iload_n 1, 1) := by decide +kernel
theorem d_A_arrow_14 : decode b_A_arrow 14 = .ok (.iload_n 2, 1) := by decide +kernel
theorem d_A_arrow_15 : decode b_A_arrow 15 = .ok (.invokevirtual 36, 3) := by decide +kernel
theorem d_A_arrow_18 : decode b_A_arrow 18 = .ok (.ifCond .ne 15, 3) := by decide +kernel
theorem d_A_arrow_21 : decode b_A_arrow 21 = .ok (.aload_n 0, 1) := by decide +kernel
theorem d_A_arrow_22 : decode b_A_arrow 22 = .ok (.getfield 26, 3) := by decide +kernel
theorem d_A_arrow_25 : decode b_A_arrow 25 = .ok (.invokevirtual 41, 3) := by decide +kernel
theorem d_A_arrow_28 : decode b_A_arrow 28 = .ok (.bipush 9, 2) := by decide +kernel
theorem d_A_arrow_30 : decode b_A_arrow 30 = .ok (.if_icmp .lt 5, 3) := by decide +kernel
theorem d_A_arrow_33 : decode b_A_arrow 33 = .ok (.iconst 0, 1) := by decide +kernel
theorem d_A_arrow_34 : decode b_A_arrow 34 = .ok (.ireturn, 1) := by decide +kernel
theorem d_A_arrow_35 : decode b_A_arrow 35 = .ok (.aload_n 0, 1) := by decide +kernel
theorem d_A_arrow_36 : decode b_A_arrow 36 = .ok (.getfield 26, 3) := by decide +kernel
theorem d_A_arrow_39 : decode b_A_arrow 39 = .ok (.iload_n 2, 1) := by decide +kernel
theorem d_A_arrow_40 : decode b_A_arrow 40 = .ok (.invokevirtual 45, 3) := by decide +kernel
theorem d_A_arrow_43 : decode b_A_arrow 43 = .ok (.iload_n 1, 1) := by decide +kernel
theorem d_A_arrow_44 : decode b_A_arrow 44 = .ok (.invokestatic 49, 3) := by decide +kernel
theorem d_A_arrow_47 : decode b_A_arrow 47 = .ok (.ifCond .eq 5, 3) := by decide +kernel
theorem d_A_arrow_50 : decode b_A_arrow 50 = .ok (.iconst 0, 1) := by decide +kernel
theorem d_A_arrow_51 : decode b_A_arrow 51 = .ok (.ireturn, 1) := by decide +kernel
theorem d_A_arrow_52 : decode b_A_arrow 52 = .ok (.aload_n 0, 1) := by decide +kernel
theorem d_A_arrow_53 : decode b_A_arrow 53 = .ok (.getfield 26, 3) := by decide +kernel
theorem d_A_arrow_56 : decode b_A_arrow 56 = .ok (.iload_n 1, 1) := by decide +kernel
theorem d_A_arrow_57 : decode b_A_arrow 57 = .ok (.iload_n 2, 1) := by decide +kernel
theorem d_A_arrow_58 : decode b_A_arrow 58 = .ok (.invokevirtual 52, 3) := by decide +kernel
theorem d_A_arrow_61 : decode b_A_arrow 61 = .ok (.aload_n 0, 1) := by decide +kernel
theorem d_A_arrow_62 : decode b_A_arrow 62 = .ok (.invokevirtual 56, 3) := by decide +kernel
theorem d_A_arrow_65 : decode b_A_arrow 65 = .ok (.iconst 1, 1) := by decide +kernel
theorem d_A_arrow_66 : decode b_A_arrow 66 = .ok (.ireturn, 1) := by decide +kernel
theorem d_A_isPair_0 : decode b_A_isPair 0 = .ok (.aload_n 0, 1) := by decide +kernel
theorem d_A_isPair_1 : decode b_A_isPair 1 = .ok (.iload_n 1, 1) := by decide +kernel
theorem d_A_isPair_2 : decode b_A_isPair 2 = .ok (.invokevirtual 65, 3) := by decide +kernel
theorem d_A_isPair_5 : decode b_A_isPair 5 = .ok (.ifCond .eq 20, 3) := by decide +kernel
theorem d_A_isPair_8 : decode b_A_isPair 8 = .ok (.aload_n 0, 1) := by decide +kernel
theorem d_A_isPair_9 : decode b_A_isPair 9 = .ok (.iload_n 2, 1) := by decide +kernel
theorem d_A_isPair_10 : decode b_A_isPair 10 = .ok (.invokevirtual 65, 3) := by decide +kernel
theorem d_A_isPair_13 : decode b_A_isPair 13 = .ok (.ifCond .eq 12, 3) := by decide +kernel
theorem d_A_isPair_16 : decode b_A_isPair 16 = .ok (.iload_n 1, 1) := by decide +kernel
theorem d_A_isPair_17 : decode b_A_isPair 17 = .ok (.iload_n 2, 1) := by decide +kernel
theorem d_A_isPair_18 : decode b_A_isPair 18 = .ok (.if_icmp .eq 7, 3) := by decide +kernel
theorem d_A_isPair_21 : decode b_A_isPair 21 = .ok (.iconst 1, 1) := by decide +kernel
theorem d_A_isPair_22 : decode b_A_isPair 22 = .ok (.goto 4, 3) := by decide +kernel
theorem d_A_isPair_25 : decode b_A_isPair 25 = .ok (.iconst 0, 1) := by decide +kernel
theorem d_A_isPair_26 : decode b_A_isPair 26 = .ok (.ireturn, 1) := by decide +kernel
theorem d_A_isNode_0 : decode b_A_isNode 0 = .ok (.iload_n 1, 1) := by decide +kernel
theorem d_A_isNode_1 : decode b_A_isNode 1 = .ok (.ifCond .lt 15, 3) := by decide +kernel
theorem d_A_isNode_4 : decode b_A_isNode 4 = .ok (.iload_n 1, 1) := by decide +kernel
theorem d_A_isNode_5 : decode b_A_isNode 5 = .ok (.aload_n 0, 1) := by decide +kernel
theorem d_A_isNode_6 : decode b_A_isNode 6 = .ok (.getfield 9, 3) := by decide +kernel
theorem d_A_isNode_9 : decode b_A_isNode 9 = .ok (.if_icmp .ge 7, 3) := by decide +kernel
theorem d_A_isNode_12 : decode b_A_isNode 12 = .ok (.iconst 1, 1) := by decide +kernel
theorem d_A_isNode_13 : decode b_A_isNode 13 = .ok (.goto 4, 3) := by decide +kernel
theorem d_A_isNode_16 : decode b_A_isNode 16 = .ok (.iconst 0, 1) := by decide +kernel
theorem d_A_isNode_17 : decode b_A_isNode 17 = .ok (.ireturn, 1) := by decide +kernel
theorem d_A_holds_0 : decode b_A_holds 0 = .ok (.iload_n 0, 1) := by decide +kernel
theorem d_A_holds_1 : decode b_A_holds 1 = .ok (.iload_n 1, 1) := by decide +kernel
theorem d_A_holds_2 : decode b_A_holds 2 = .ok (.ishr, 1) := by decide +kernel
theorem d_A_holds_3 : decode b_A_holds 3 = .ok (.iconst 1, 1) := by decide +kernel
theorem d_A_holds_4 : decode b_A_holds 4 = .ok (.iand, 1) := by decide +kernel
theorem d_A_holds_5 : decode b_A_holds 5 = .ok (.ifCond .eq 7, 3) := by decide +kernel
theorem d_A_holds_8 : decode b_A_holds 8 = .ok (.iconst 1, 1) := by decide +kernel
theorem d_A_holds_9 : decode b_A_holds 9 = .ok (.goto 4, 3) := by decide +kernel
theorem d_A_holds_12 : decode b_A_holds 12 = .ok (.iconst 0, 1) := by decide +kernel
theorem d_A_holds_13 : decode b_A_holds 13 = .ok (.ireturn, 1) := by decide +kernel
theorem d_A_noteChange_0 : decode b_A_noteChange 0 = .ok (.aload_n 0, 1) := by decide +kernel
theorem d_A_noteChange_1 : decode b_A_noteChange 1 = .ok (.iconst (-1), 1) := by decide +kernel
theorem d_A_noteChange_2 : decode b_A_noteChange 2 = .ok (.putfield 29, 3) := by decide +kernel
theorem d_A_noteChange_5 : decode b_A_noteChange 5 = .ok (.aload_n 0, 1) := by decide +kernel
theorem d_A_noteChange_6 : decode b_A_noteChange 6 = .ok (.getfield 18, 3) := by decide +kernel
theorem d_A_noteChange_9 : decode b_A_noteChange 9 = .ok (.invokevirtual 116, 3) := by decide +kernel
theorem d_A_noteChange_12 : decode b_A_noteChange 12 = .ok (.return_, 1) := by decide +kernel
theorem d_A_erase_0 : decode b_A_erase 0 = .ok (.aload_n 0, 1) := by decide +kernel
theorem d_A_erase_1 : decode b_A_erase 1 = .ok (.iload_n 1, 1) := by decide +kernel
theorem d_A_erase_2 : decode b_A_erase 2 = .ok (.iload_n 2, 1) := by decide +kernel
theorem d_A_erase_3 : decode b_A_erase 3 = .ok (.invokevirtual 32, 3) := by decide +kernel
theorem d_A_erase_6 : decode b_A_erase 6 = .ok (.ifCond .eq 15, 3) := by decide +kernel
theorem d_A_erase_9 : decode b_A_erase 9 = .ok (.aload_n 0, 1) := by decide +kernel
theorem d_A_erase_10 : decode b_A_erase 10 = .ok (.getfield 26, 3) := by decide +kernel
theorem d_A_erase_13 : decode b_A_erase 13 = .ok (.iload_n 1, 1) := by decide +kernel
theorem d_A_erase_14 : decode b_A_erase 14 = .ok (.iload_n 2, 1) := by decide +kernel
theorem d_A_erase_15 : decode b_A_erase 15 = .ok (.invokevirtual 59, 3) := by decide +kernel
theorem d_A_erase_18 : decode b_A_erase 18 = .ok (.ifCond .ne 5, 3) := by decide +kernel
theorem d_A_erase_21 : decode b_A_erase 21 = .ok (.iconst 0, 1) := by decide +kernel
theorem d_A_erase_22 : decode b_A_erase 22 = .ok (.ireturn, 1) := by decide +kernel
theorem d_A_erase_23 : decode b_A_erase 23 = .ok (.aload_n 0, 1) := by decide +kernel
theorem d_A_erase_24 : decode b_A_erase 24 = .ok (.getfield 26, 3) := by decide +kernel
theorem d_A_erase_27 : decode b_A_erase 27 = .ok (.iload_n 1, 1) := by decide +kernel
theorem d_A_erase_28 : decode b_A_erase 28 = .ok (.iload_n 2, 1) := by decide +kernel
theorem d_A_erase_29 : decode b_A_erase 29 = .ok (.invokevirtual 62, 3) := by decide +kernel
theorem d_A_erase_32 : decode b_A_erase 32 = .ok (.aload_n 0, 1) := by decide +kernel
theorem d_A_erase_33 : decode b_A_erase 33 = .ok (.invokevirtual 56, 3) := by decide +kernel
theorem d_A_erase_36 : decode b_A_erase 36 = .ok (.iconst 1, 1) := by decide +kernel
theorem d_A_erase_37 : decode b_A_erase 37 = .ok (.ireturn, 1) := by decide +kernel
theorem d_A_turn_0 : decode b_A_turn 0 = .ok (.aload_n 0, 1) := by decide +kernel
theorem d_A_turn_1 : decode b_A_turn 1 = .ok (.iload_n 1, 1) := by decide +kernel
theorem d_A_turn_2 : decode b_A_turn 2 = .ok (.iload_n 2, 1) := by decide +kernel
theorem d_A_turn_3 : decode b_A_turn 3 = .ok (.invokevirtual 32, 3) := by decide +kernel
theorem d_A_turn_6 : decode b_A_turn 6 = .ok (.ifCond .eq 15, 3) := by decide +kernel
theorem d_A_turn_9 : decode b_A_turn 9 = .ok (.aload_n 0, 1) := by decide +kernel
theorem d_A_turn_10 : decode b_A_turn 10 = .ok (.getfield 26, 3) := by decide +kernel
theorem d_A_turn_13 : decode b_A_turn 13 = .ok (.iload_n 1, 1) := by decide +kernel
theorem d_A_turn_14 : decode b_A_turn 14 = .ok (.iload_n 2, 1) := by decide +kernel
theorem d_A_turn_15 : decode b_A_turn 15 = .ok (.invokevirtual 59, 3) := by decide +kernel
theorem d_A_turn_18 : decode b_A_turn 18 = .ok (.ifCond .ne 5, 3) := by decide +kernel
theorem d_A_turn_21 : decode b_A_turn 21 = .ok (.iconst 0, 1) := by decide +kernel
theorem d_A_turn_22 : decode b_A_turn 22 = .ok (.ireturn, 1) := by decide +kernel
theorem d_A_turn_23 : decode b_A_turn 23 = .ok (.aload_n 0, 1) := by decide +kernel
theorem d_A_turn_24 : decode b_A_turn 24 = .ok (.getfield 26, 3) := by decide +kernel
theorem d_A_turn_27 : decode b_A_turn 27 = .ok (.iload_n 1, 1) := by decide +kernel
theorem d_A_turn_28 : decode b_A_turn 28 = .ok (.iload_n 2, 1) := by decide +kernel
theorem d_A_turn_29 : decode b_A_turn 29 = .ok (.invokevirtual 62, 3) := by decide +kernel
theorem d_A_turn_32 : decode b_A_turn 32 = .ok (.aload_n 0, 1) := by decide +kernel
theorem d_A_turn_33 : decode b_A_turn 33 = .ok (.getfield 26, 3) := by decide +kernel
theorem d_A_turn_36 : decode b_A_turn 36 = .ok (.iload_n 1, 1) := by decide +kernel
theorem d_A_turn_37 : decode b_A_turn 37 = .ok (.invokevirtual 45, 3) := by decide +kernel
theorem d_A_turn_40 : decode b_A_turn 40 = .ok (.iload_n 2, 1) := by decide +kernel
theorem d_A_turn_41 : decode b_A_turn 41 = .ok (.invokestatic 49, 3) := by decide +kernel
theorem d_A_turn_44 : decode b_A_turn 44 = .ok (.ifCond .eq 14, 3) := by decide +kernel
theorem d_A_turn_47 : decode b_A_turn 47 = .ok (.aload_n 0, 1) := by decide +kernel
theorem d_A_turn_48 : decode b_A_turn 48 = .ok (.getfield 26, 3) := by decide +kernel
theorem d_A_turn_51 : decode b_A_turn 51 = .ok (.iload_n 1, 1) := by decide +kernel
theorem d_A_turn_52 : decode b_A_turn 52 = .ok (.iload_n 2, 1) := by decide +kernel
theorem d_A_turn_53 : decode b_A_turn 53 = .ok (.invokevirtual 52, 3) := by decide +kernel
theorem d_A_turn_56 : decode b_A_turn 56 = .ok (.iconst 0, 1) := by decide +kernel
theorem d_A_turn_57 : decode b_A_turn 57 = .ok (.ireturn, 1) := by decide +kernel
theorem d_A_turn_58 : decode b_A_turn 58 = .ok (.aload_n 0, 1) := by decide +kernel
theorem d_A_turn_59 : decode b_A_turn 59 = .ok (.getfield 26, 3) := by decide +kernel
theorem d_A_turn_62 : decode b_A_turn 62 = .ok (.iload_n 2, 1) := by decide +kernel
theorem d_A_turn_63 : decode b_A_turn 63 = .ok (.iload_n 1, 1) := by decide +kernel
theorem d_A_turn_64 : decode b_A_turn 64 = .ok (.invokevirtual 52, 3) := by decide +kernel
theorem d_A_turn_67 : decode b_A_turn 67 = .ok (.aload_n 0, 1) := by decide +kernel
theorem d_A_turn_68 : decode b_A_turn 68 = .ok (.invokevirtual 56, 3) := by decide +kernel
theorem d_A_turn_71 : decode b_A_turn 71 = .ok (.iconst 1, 1) := by decide +kernel
theorem d_A_turn_72 : decode b_A_turn 72 = .ok (.ireturn, 1) := by decide +kernel
theorem d_A_drawn_0 : decode b_A_drawn 0 = .ok (.aload_n 0, 1) := by decide +kernel
theorem d_A_drawn_1 : decode b_A_drawn 1 = .ok (.iload_n 1, 1) := by decide +kernel
theorem d_A_drawn_2 : decode b_A_drawn 2 = .ok (.iload_n 2, 1) := by decide +kernel
theorem d_A_drawn_3 : decode b_A_drawn 3 = .ok (.invokevirtual 32, 3) := by decide +kernel
theorem d_A_drawn_6 : decode b_A_drawn 6 = .ok (.ifCond .eq 19, 3) := by decide +kernel
theorem d_A_drawn_9 : decode b_A_drawn 9 = .ok (.aload_n 0, 1) := by decide +kernel
theorem d_A_drawn_10 : decode b_A_drawn 10 = .ok (.getfield 26, 3) := by decide +kernel
theorem d_A_drawn_13 : decode b_A_drawn 13 = .ok (.iload_n 1, 1) := by decide +kernel
theorem d_A_drawn_14 : decode b_A_drawn 14 = .ok (.iload_n 2, 1) := by decide +kernel
theorem d_A_drawn_15 : decode b_A_drawn 15 = .ok (.invokevirtual 59, 3) := by decide +kernel
theorem d_A_drawn_18 : decode b_A_drawn 18 = .ok (.ifCond .eq 7, 3) := by decide +kernel
theorem d_A_drawn_21 : decode b_A_drawn 21 = .ok (.iconst 1, 1) := by decide +kernel
theorem d_A_drawn_22 : decode b_A_drawn 22 = .ok (.goto 4, 3) := by decide +kernel
theorem d_A_drawn_25 : decode b_A_drawn 25 = .ok (.iconst 0, 1) := by decide +kernel
theorem d_A_drawn_26 : decode b_A_drawn 26 = .ok (.ireturn, 1) := by decide +kernel
theorem d_A_parents_0 : decode b_A_parents 0 = .ok (.aload_n 0, 1) := by decide +kernel
theorem d_A_parents_1 : decode b_A_parents 1 = .ok (.iload_n 1, 1) := by decide +kernel
theorem d_A_parents_2 : decode b_A_parents 2 = .ok (.invokevirtual 65, 3) := by decide +kernel
theorem d_A_parents_5 : decode b_A_parents 5 = .ok (.ifCond .eq 15, 3) := by decide +kernel
theorem d_A_parents_8 : decode b_A_parents 8 = .ok (.aload_n 0, 1) := by decide +kernel
theorem d_A_parents_9 : decode b_A_parents 9 = .ok (.getfield 26, 3) := by decide +kernel
theorem d_A_parents_12 : decode b_A_parents 12 = .ok (.getfield 69, 3) := by decide +kernel
theorem d_A_parents_15 : decode b_A_parents 15 = .ok (.iload_n 1, 1) := by decide +kernel
theorem d_A_parents_16 : decode b_A_parents 16 = .ok (.iaload, 1) := by decide +kernel
theorem d_A_parents_17 : decode b_A_parents 17 = .ok (.goto 4, 3) := by decide +kernel
theorem d_A_parents_20 : decode b_A_parents 20 = .ok (.iconst (-1), 1) := by decide +kernel
theorem d_A_parents_21 : decode b_A_parents 21 = .ok (.ireturn, 1) := by decide +kernel
theorem d_A_reached_0 : decode b_A_reached 0 = .ok (.aload_n 0, 1) := by decide +kernel
theorem d_A_reached_1 : decode b_A_reached 1 = .ok (.iload_n 1, 1) := by decide +kernel
theorem d_A_reached_2 : decode b_A_reached 2 = .ok (.invokevirtual 65, 3) := by decide +kernel
theorem d_A_reached_5 : decode b_A_reached 5 = .ok (.ifCond .eq 14, 3) := by decide +kernel
theorem d_A_reached_8 : decode b_A_reached 8 = .ok (.aload_n 0, 1) := by decide +kernel
theorem d_A_reached_9 : decode b_A_reached 9 = .ok (.getfield 26, 3) := by decide +kernel
theorem d_A_reached_12 : decode b_A_reached 12 = .ok (.iload_n 1, 1) := by decide +kernel
theorem d_A_reached_13 : decode b_A_reached 13 = .ok (.invokevirtual 45, 3) := by decide +kernel
theorem d_A_reached_16 : decode b_A_reached 16 = .ok (.goto 4, 3) := by decide +kernel
theorem d_A_reached_19 : decode b_A_reached 19 = .ok (.iconst (-1), 1) := by decide +kernel
theorem d_A_reached_20 : decode b_A_reached 20 = .ok (.ireturn, 1) := by decide +kernel
theorem d_A_around_0 : decode b_A_around 0 = .ok (.aload_n 0, 1) := by decide +kernel
theorem d_A_around_1 : decode b_A_around 1 = .ok (.iload_n 1, 1) := by decide +kernel
theorem d_A_around_2 : decode b_A_around 2 = .ok (.invokevirtual 65, 3) := by decide +kernel
theorem d_A_around_5 : decode b_A_around 5 = .ok (.ifCond .ne 5, 3) := by decide +kernel
theorem d_A_around_8 : decode b_A_around 8 = .ok (.iconst (-1), 1) := by decide +kernel
theorem d_A_around_9 : decode b_A_around 9 = .ok (.ireturn, 1) := by decide +kernel
theorem d_A_around_10 : decode b_A_around 10 = .ok (.aload_n 0, 1) := by decide +kernel
theorem d_A_around_11 : decode b_A_around 11 = .ok (.getfield 26, 3) := by decide +kernel
theorem d_A_around_14 : decode b_A_around 14 = .ok (.getfield 69, 3) := by decide +kernel
theorem d_A_around_17 : decode b_A_around 17 = .ok (.iload_n 1, 1) := by decide +kernel
theorem d_A_around_18 : decode b_A_around 18 = .ok (.iaload, 1) := by decide +kernel
theorem d_A_around_19 : decode b_A_around 19 = .ok (.aload_n 0, 1) := by decide +kernel
theorem d_A_around_20 : decode b_A_around 20 = .ok (.getfield 26, 3) := by decide +kernel
theorem d_A_around_23 : decode b_A_around 23 = .ok (.getfield 73, 3) := by decide +kernel
theorem d_A_around_26 : decode b_A_around 26 = .ok (.iload_n 1, 1) := by decide +kernel
theorem d_A_around_27 : decode b_A_around 27 = .ok (.iaload, 1) := by decide +kernel
theorem d_A_around_28 : decode b_A_around 28 = .ok (.ior, 1) := by decide +kernel
theorem d_A_around_29 : decode b_A_around 29 = .ok (.istore_n 2, 1) := by decide +kernel
theorem d_A_around_30 : decode b_A_around 30 = .ok (.iconst 0, 1) := by decide +kernel
theorem d_A_around_31 : decode b_A_around 31 = .ok (.istore_n 3, 1) := by decide +kernel
theorem d_A_around_32 : decode b_A_around 32 = .ok (.iload_n 3, 1) := by decide +kernel
theorem d_A_around_33 : decode b_A_around 33 = .ok (.aload_n 0, 1) := by decide +kernel
theorem d_A_around_34 : decode b_A_around 34 = .ok (.getfield 9, 3) := by decide +kernel
theorem d_A_around_37 : decode b_A_around 37 = .ok (.if_icmp .ge 33, 3) := by decide +kernel
theorem d_A_around_40 : decode b_A_around 40 = .ok (.aload_n 0, 1) := by decide +kernel
theorem d_A_around_41 : decode b_A_around 41 = .ok (.getfield 26, 3) := by decide +kernel
theorem d_A_around_44 : decode b_A_around 44 = .ok (.iload_n 1, 1) := by decide +kernel
theorem d_A_around_45 : decode b_A_around 45 = .ok (.iload_n 3, 1) := by decide +kernel
theorem d_A_around_46 : decode b_A_around 46 = .ok (.invokevirtual 59, 3) := by decide +kernel
theorem d_A_around_49 : decode b_A_around 49 = .ok (.ifCond .eq 15, 3) := by decide +kernel
theorem d_A_around_52 : decode b_A_around 52 = .ok (.iload_n 2, 1) := by decide +kernel
theorem d_A_around_53 : decode b_A_around 53 = .ok (.aload_n 0, 1) := by decide +kernel
theorem d_A_around_54 : decode b_A_around 54 = .ok (.getfield 26, 3) := by decide +kernel
theorem d_A_around_57 : decode b_A_around 57 = .ok (.getfield 69, 3) := by decide +kernel
theorem d_A_around_60 : decode b_A_around 60 = .ok (.iload_n 3, 1) := by decide +kernel
theorem d_A_around_61 : decode b_A_around 61 = .ok (.iaload, 1) := by decide +kernel
theorem d_A_around_62 : decode b_A_around 62 = .ok (.ior, 1) := by decide +kernel
theorem d_A_around_63 : decode b_A_around 63 = .ok (.istore_n 2, 1) := by decide +kernel
theorem d_A_around_64 : decode b_A_around 64 = .ok (.iinc 3 1, 3) := by decide +kernel
theorem d_A_around_67 : decode b_A_around 67 = .ok (.goto (-35), 3) := by decide +kernel
theorem d_A_around_70 : decode b_A_around 70 = .ok (.iload_n 2, 1) := by decide +kernel
theorem d_A_around_71 : decode b_A_around 71 = .ok (.iconst 1, 1) := by decide +kernel
theorem d_A_around_72 : decode b_A_around 72 = .ok (.iload_n 1, 1) := by decide +kernel
theorem d_A_around_73 : decode b_A_around 73 = .ok (.ishl, 1) := by decide +kernel
theorem d_A_around_74 : decode b_A_around 74 = .ok (.iconst (-1), 1) := by decide +kernel
theorem d_A_around_75 : decode b_A_around 75 = .ok (.ixor, 1) := by decide +kernel
theorem d_A_around_76 : decode b_A_around 76 = .ok (.iand, 1) := by decide +kernel
theorem d_A_around_77 : decode b_A_around 77 = .ok (.ireturn, 1) := by decide +kernel
theorem d_A_collisions_0 : decode b_A_collisions 0 = .ok (.iconst 0, 1) := by decide +kernel
theorem d_A_collisions_1 : decode b_A_collisions 1 = .ok (.istore_n 1, 1) := by decide +kernel
theorem d_A_collisions_2 : decode b_A_collisions 2 = .ok (.iconst 0, 1) := by decide +kernel
theorem d_A_collisions_3 : decode b_A_collisions 3 = .ok (.istore_n 2, 1) := by decide +kernel
theorem d_A_collisions_4 : decode b_A_collisions 4 = .ok (.iload_n 2, 1) := by decide +kernel
theorem d_A_collisions_5 : decode b_A_collisions 5 = .ok (.aload_n 0, 1) := by decide +kernel
theorem d_A_collisions_6 : decode b_A_collisions 6 = .ok (.getfield 9, 3) := by decide +kernel
theorem d_A_collisions_9 : decode b_A_collisions 9 = .ok (.if_icmp .ge 40, 3) := by decide +kernel
theorem d_A_collisions_12 : decode b_A_collisions 12 = .ok (.iconst 0, 1) := by decide +kernel
theorem d_A_collisions_13 : decode b_A_collisions 13 = .ok (.istore_n 3, 1) := by decide +kernel
theorem d_A_collisions_14 : decode b_A_collisions 14 = .ok (.iload_n 3, 1) := by decide +kernel
theorem d_A_collisions_15 : decode b_A_collisions 15 = .ok (.aload_n 0, 1) := by decide +kernel
theorem d_A_collisions_16 : decode b_A_collisions 16 = .ok (.getfield 9, 3) := by decide +kernel
theorem d_A_collisions_19 : decode b_A_collisions 19 = .ok (.if_icmp .ge 24, 3) := by decide +kernel
theorem d_A_collisions_22 : decode b_A_collisions 22 = .ok (.iload_n 1, 1) := by decide +kernel
theorem d_A_collisions_23 : decode b_A_collisions 23 = .ok (.aload_n 0, 1) := by decide +kernel
theorem d_A_collisions_24 : decode b_A_collisions 24 = .ok (.getfield 26, 3) := by decide +kernel
theorem d_A_collisions_27 : decode b_A_collisions 27 = .ok (.iload_n 3, 1) := by decide +kernel
theorem d_A_collisions_28 : decode b_A_collisions 28 = .ok (.iload_n 2, 1) := by decide +kernel
theorem d_A_collisions_29 : decode b_A_collisions 29 = .ok (.invokevirtual 76, 3) := by decide +kernel
theorem d_A_collisions_32 : decode b_A_collisions 32 = .ok (.invokestatic 80, 3) := by decide +kernel
theorem d_A_collisions_35 : decode b_A_collisions 35 = .ok (.iadd, 1) := by decide +kernel
theorem d_A_collisions_36 : decode b_A_collisions 36 = .ok (.istore_n 1, 1) := by decide +kernel
theorem d_A_collisions_37 : decode b_A_collisions 37 = .ok (.iinc 3 1, 3) := by decide +kernel
theorem d_A_collisions_40 : decode b_A_collisions 40 = .ok (.goto (-26), 3) := by decide +kernel
theorem d_A_collisions_43 : decode b_A_collisions 43 = .ok (.iinc 2 1, 3) := by decide +kernel
theorem d_A_collisions_46 : decode b_A_collisions 46 = .ok (.goto (-42), 3) := by decide +kernel
theorem d_A_collisions_49 : decode b_A_collisions 49 = .ok (.iload_n 1, 1) := by decide +kernel
theorem d_A_collisions_50 : decode b_A_collisions 50 = .ok (.iconst 2, 1) := by decide +kernel
theorem d_A_collisions_51 : decode b_A_collisions 51 = .ok (.idiv, 1) := by decide +kernel
theorem d_A_collisions_52 : decode b_A_collisions 52 = .ok (.ireturn, 1) := by decide +kernel
theorem d_A_covered_0 : decode b_A_covered 0 = .ok (.aload_n 0, 1) := by decide +kernel
theorem d_A_covered_1 : decode b_A_covered 1 = .ok (.iload_n 1, 1) := by decide +kernel
theorem d_A_covered_2 : decode b_A_covered 2 = .ok (.iload_n 2, 1) := by decide +kernel
theorem d_A_covered_3 : decode b_A_covered 3 = .ok (.invokevirtual 85, 3) := by decide +kernel
theorem d_A_covered_6 : decode b_A_covered 6 = .ok (.ifCond .eq 32, 3) := by decide +kernel
theorem d_A_covered_9 : decode b_A_covered 9 = .ok (.aload_n 0, 1) := by decide +kernel
theorem d_A_covered_10 : decode b_A_covered 10 = .ok (.getfield 26, 3) := by decide +kernel
theorem d_A_covered_13 : decode b_A_covered 13 = .ok (.getfield 69, 3) := by decide +kernel
theorem d_A_covered_16 : decode b_A_covered 16 = .ok (.iload_n 2, 1) := by decide +kernel
theorem d_A_covered_17 : decode b_A_covered 17 = .ok (.iaload, 1) := by decide +kernel
theorem d_A_covered_18 : decode b_A_covered 18 = .ok (.aload_n 0, 1) := by decide +kernel
theorem d_A_covered_19 : decode b_A_covered 19 = .ok (.getfield 26, 3) := by decide +kernel
theorem d_A_covered_22 : decode b_A_covered 22 = .ok (.getfield 69, 3) := by decide +kernel
theorem d_A_covered_25 : decode b_A_covered 25 = .ok (.iload_n 1, 1) := by decide +kernel
theorem d_A_covered_26 : decode b_A_covered 26 = .ok (.iaload, 1) := by decide +kernel
theorem d_A_covered_27 : decode b_A_covered 27 = .ok (.iconst 1, 1) := by decide +kernel
theorem d_A_covered_28 : decode b_A_covered 28 = .ok (.iload_n 1, 1) := by decide +kernel
theorem d_A_covered_29 : decode b_A_covered 29 = .ok (.ishl, 1) := by decide +kernel
theorem d_A_covered_30 : decode b_A_covered 30 = .ok (.ior, 1) := by decide +kernel
theorem d_A_covered_31 : decode b_A_covered 31 = .ok (.if_icmp .ne 7, 3) := by decide +kernel
theorem d_A_covered_34 : decode b_A_covered 34 = .ok (.iconst 1, 1) := by decide +kernel
theorem d_A_covered_35 : decode b_A_covered 35 = .ok (.goto 4, 3) := by decide +kernel
theorem d_A_covered_38 : decode b_A_covered 38 = .ok (.iconst 0, 1) := by decide +kernel
theorem d_A_covered_39 : decode b_A_covered 39 = .ok (.ireturn, 1) := by decide +kernel
theorem d_A_separated_0 : decode b_A_separated 0 = .ok (.aload_n 0, 1) := by decide +kernel
theorem d_A_separated_1 : decode b_A_separated 1 = .ok (.iload_n 1, 1) := by decide +kernel
theorem d_A_separated_2 : decode b_A_separated 2 = .ok (.iload_n 2, 1) := by decide +kernel
theorem d_A_separated_3 : decode b_A_separated 3 = .ok (.invokevirtual 32, 3) := by decide +kernel
theorem d_A_separated_6 : decode b_A_separated 6 = .ok (.ifCond .eq 33, 3) := by decide +kernel
theorem d_A_separated_9 : decode b_A_separated 9 = .ok (.iload_n 3, 1) := by decide +kernel
theorem d_A_separated_10 : decode b_A_separated 10 = .ok (.ifCond .lt 29, 3) := by decide +kernel
theorem d_A_separated_13 : decode b_A_separated 13 = .ok (.iload_n 3, 1) := by decide +kernel
theorem d_A_separated_14 : decode b_A_separated 14 = .ok (.iconst 1, 1) := by decide +kernel
theorem d_A_separated_15 : decode b_A_separated 15 = .ok (.aload_n 0, 1) := by decide +kernel
theorem d_A_separated_16 : decode b_A_separated 16 = .ok (.getfield 9, 3) := by decide +kernel
theorem d_A_separated_19 : decode b_A_separated 19 = .ok (.ishl, 1) := by decide +kernel
theorem d_A_separated_20 : decode b_A_separated 20 = .ok (.if_icmp .ge 19, 3) := by decide +kernel
theorem d_A_separated_23 : decode b_A_separated 23 = .ok (.iload_n 3, 1) := by decide +kernel
theorem d_A_separated_24 : decode b_A_separated 24 = .ok (.iload_n 1, 1) := by decide +kernel
theorem d_A_separated_25 : decode b_A_separated 25 = .ok (.invokestatic 49, 3) := by decide +kernel
theorem d_A_separated_28 : decode b_A_separated 28 = .ok (.ifCond .ne 11, 3) := by decide +kernel
theorem d_A_separated_31 : decode b_A_separated 31 = .ok (.iload_n 3, 1) := by decide +kernel
theorem d_A_separated_32 : decode b_A_separated 32 = .ok (.iload_n 2, 1) := by decide +kernel
theorem d_A_separated_33 : decode b_A_separated 33 = .ok (.invokestatic 49, 3) := by decide +kernel
theorem d_A_separated_36 : decode b_A_separated 36 = .ok (.ifCond .eq 5, 3) := by decide +kernel
theorem d_A_separated_39 : decode b_A_separated 39 = .ok (.iconst 0, 1) := by decide +kernel
theorem d_A_separated_40 : decode b_A_separated 40 = .ok (.ireturn, 1) := by decide +kernel
theorem d_A_separated_41 : decode b_A_separated 41 = .ok (.aload_n 0, 1) := by decide +kernel
theorem d_A_separated_42 : decode b_A_separated 42 = .ok (.getfield 26, 3) := by decide +kernel
theorem d_A_separated_45 : decode b_A_separated 45 = .ok (.iload_n 1, 1) := by decide +kernel
theorem d_A_separated_46 : decode b_A_separated 46 = .ok (.iload_n 3, 1) := by decide +kernel
theorem d_A_separated_47 : decode b_A_separated 47 = .ok (.invokevirtual 87, 3) := by decide +kernel
theorem d_A_separated_50 : decode b_A_separated 50 = .ok (.iload_n 2, 1) := by decide +kernel
theorem d_A_separated_51 : decode b_A_separated 51 = .ok (.invokestatic 49, 3) := by decide +kernel
theorem d_A_separated_54 : decode b_A_separated 54 = .ok (.ifCond .ne 7, 3) := by decide +kernel
theorem d_A_separated_57 : decode b_A_separated 57 = .ok (.iconst 1, 1) := by decide +kernel
theorem d_A_separated_58 : decode b_A_separated 58 = .ok (.goto 4, 3) := by decide +kernel
theorem d_A_separated_61 : decode b_A_separated 61 = .ok (.iconst 0, 1) := by decide +kernel
theorem d_A_separated_62 : decode b_A_separated 62 = .ok (.ireturn, 1) := by decide +kernel
theorem d_A_separator_0 : decode b_A_separator 0 = .ok (.iconst (-1), 1) := by decide +kernel
theorem d_A_separator_1 : decode b_A_separator 1 = .ok (.istore_n 3, 1) := by decide +kernel
theorem d_A_separator_2 : decode b_A_separator 2 = .ok (.aload_n 0, 1) := by decide +kernel
theorem d_A_separator_3 : decode b_A_separator 3 = .ok (.getfield 9, 3) := by decide +kernel
theorem d_A_separator_6 : decode b_A_separator 6 = .ok (.istore 4, 2) := by decide +kernel
theorem d_A_separator_8 : decode b_A_separator 8 = .ok (.iconst 0, 1) := by decide +kernel
theorem d_A_separator_9 : decode b_A_separator 9 = .ok (.istore 5, 2) := by decide +kernel
theorem d_A_separator_11 : decode b_A_separator 11 = .ok (.iload 5, 2) := by decide +kernel
theorem d_A_separator_13 : decode b_A_separator 13 = .ok (.iconst 1, 1) := by decide +kernel
theorem d_A_separator_14 : decode b_A_separator 14 = .ok (.aload_n 0, 1) := by decide +kernel
theorem d_A_separator_15 : decode b_A_separator 15 = .ok (.getfield 9, 3) := by decide +kernel
theorem d_A_separator_18 : decode b_A_separator 18 = .ok (.ishl, 1) := by decide +kernel
theorem d_A_separator_19 : decode b_A_separator 19 = .ok (.if_icmp .ge 41, 3) := by decide +kernel
theorem d_A_separator_22 : decode b_A_separator 22 = .ok (.iload 5, 2) := by decide +kernel
theorem d_A_separator_24 : decode b_A_separator 24 = .ok (.invokestatic 80, 3) := by decide +kernel
theorem d_A_separator_27 : decode b_A_separator 27 = .ok (.istore 6, 2) := by decide +kernel
theorem d_A_separator_29 : decode b_A_separator 29 = .ok (.iload 6, 2) := by decide +kernel
theorem d_A_separator_31 : decode b_A_separator 31 = .ok (.iload 4, 2) := by decide +kernel
theorem d_A_separator_33 : decode b_A_separator 33 = .ok (.if_icmp .ge 21, 3) := by decide +kernel
theorem d_A_separator_36 : decode b_A_separator 36 = .ok (.aload_n 0, 1) := by decide +kernel
theorem d_A_separator_37 : decode b_A_separator 37 = .ok (.iload_n 1, 1) := by decide +kernel
theorem d_A_separator_38 : decode b_A_separator 38 = .ok (.iload_n 2, 1) := by decide +kernel
theorem d_A_separator_39 : decode b_A_separator 39 = .ok (.iload 5, 2) := by decide +kernel
theorem d_A_separator_41 : decode b_A_separator 41 = .ok (.invokevirtual 90, 3) := by decide +kernel
theorem d_A_separator_44 : decode b_A_separator 44 = .ok (.ifCond .eq 10, 3) := by decide +kernel
theorem d_A_separator_47 : decode b_A_separator 47 = .ok (.iload 5, 2) := by decide +kernel
theorem d_A_separator_49 : decode b_A_separator 49 = .ok (.istore_n 3, 1) := by decide +kernel
theorem d_A_separator_50 : decode b_A_separator 50 = .ok (.iload 6, 2) := by decide +kernel
theorem d_A_separator_52 : decode b_A_separator 52 = .ok (.istore 4, 2) := by decide +kernel
theorem d_A_separator_54 : decode b_A_separator 54 = .ok (.iinc 5 1, 3) := by decide +kernel
theorem d_A_separator_57 : decode b_A_separator 57 = .ok (.goto (-46), 3) := by decide +kernel
theorem d_A_separator_60 : decode b_A_separator 60 = .ok (.iload_n 3, 1) := by decide +kernel
theorem d_A_separator_61 : decode b_A_separator 61 = .ok (.ireturn, 1) := by decide +kernel
theorem d_A_separations_0 : decode b_A_separations 0 = .ok (.aload_n 0, 1) := by decide +kernel
theorem d_A_separations_1 : decode b_A_separations 1 = .ok (.getfield 29, 3) := by decide +kernel
theorem d_A_separations_4 : decode b_A_separations 4 = .ok (.iconst (-1), 1) := by decide +kernel
theorem d_A_separations_5 : decode b_A_separations 5 = .ok (.if_icmp .ne 36, 3) := by decide +kernel
theorem d_A_separations_8 : decode b_A_separations 8 = .ok (.iconst 0, 1) := by decide +kernel
theorem d_A_separations_9 : decode b_A_separations 9 = .ok (.istore_n 1, 1) := by decide +kernel
theorem d_A_separations_10 : decode b_A_separations 10 = .ok (.iconst 0, 1) := by decide +kernel
theorem d_A_separations_11 : decode b_A_separations 11 = .ok (.istore_n 2, 1) := by decide +kernel
theorem d_A_separations_12 : decode b_A_separations 12 = .ok (.iload_n 2, 1) := by decide +kernel
theorem d_A_separations_13 : decode b_A_separations 13 = .ok (.iconst 1, 1) := by decide +kernel
theorem d_A_separations_14 : decode b_A_separations 14 = .ok (.aload_n 0, 1) := by decide +kernel
theorem d_A_separations_15 : decode b_A_separations 15 = .ok (.getfield 9, 3) := by decide +kernel
theorem d_A_separations_18 : decode b_A_separations 18 = .ok (.ishl, 1) := by decide +kernel
theorem d_A_separations_19 : decode b_A_separations 19 = .ok (.if_icmp .ge 17, 3) := by decide +kernel
theorem d_A_separations_22 : decode b_A_separations 22 = .ok (.iload_n 1, 1) := by decide +kernel
theorem d_A_separations_23 : decode b_A_separations 23 = .ok (.aload_n 0, 1) := by decide +kernel
theorem d_A_separations_24 : decode b_A_separations 24 = .ok (.iload_n 2, 1) := by decide +kernel
theorem d_A_separations_25 : decode b_A_separations 25 = .ok (.invokevirtual 94, 3) := by decide +kernel
theorem d_A_separations_28 : decode b_A_separations 28 = .ok (.iadd, 1) := by decide +kernel
theorem d_A_separations_29 : decode b_A_separations 29 = .ok (.istore_n 1, 1) := by decide +kernel
theorem d_A_separations_30 : decode b_A_separations 30 = .ok (.iinc 2 1, 3) := by decide +kernel
theorem d_A_separations_33 : decode b_A_separations 33 = .ok (.goto (-21), 3) := by decide +kernel
theorem d_A_separations_36 : decode b_A_separations 36 = .ok (.aload_n 0, 1) := by decide +kernel
theorem d_A_separations_37 : decode b_A_separations 37 = .ok (.iload_n 1, 1) := by decide +kernel
theorem d_A_separations_38 : decode b_A_separations 38 = .ok (.putfield 29, 3) := by decide +kernel
theorem d_A_separations_41 : decode b_A_separations 41 = .ok (.aload_n 0, 1) := by decide +kernel
theorem d_A_separations_42 : decode b_A_separations 42 = .ok (.getfield 29, 3) := by decide +kernel
theorem d_A_separations_45 : decode b_A_separations 45 = .ok (.ireturn, 1) := by decide +kernel
theorem d_A_separationsBy_0 : decode b_A_separationsBy 0 = .ok (.iconst 0, 1) := by decide +kernel
theorem d_A_separationsBy_1 : decode b_A_separationsBy 1 = .ok (.istore_n 2, 1) := by decide +kernel
theorem d_A_separationsBy_2 : decode b_A_separationsBy 2 = .ok (.iconst 0, 1) := by decide +kernel
theorem d_A_separationsBy_3 : decode b_A_separationsBy 3 = .ok (.istore_n 3, 1) := by decide +kernel
theorem d_A_separationsBy_4 : decode b_A_separationsBy 4 = .ok (.iload_n 3, 1) := by decide +kernel
theorem d_A_separationsBy_5 : decode b_A_separationsBy 5 = .ok (.aload_n 0, 1) := by decide +kernel
theorem d_A_separationsBy_6 : decode b_A_separationsBy 6 = .ok (.getfield 9, 3) := by decide +kernel
theorem d_A_separationsBy_9 : decode b_A_separationsBy 9 = .ok (.if_icmp .ge 53, 3) := by decide +kernel
theorem d_A_separationsBy_12 : decode b_A_separationsBy 12 = .ok (.iload_n 1, 1) := by decide +kernel
theorem d_A_separationsBy_13 : decode b_A_separationsBy 13 = .ok (.iload_n 3, 1) := by decide +kernel
theorem d_A_separationsBy_14 : decode b_A_separationsBy 14 = .ok (.invokestatic 49, 3) := by decide +kernel
theorem d_A_separationsBy_17 : decode b_A_separationsBy 17 = .ok (.ifCond .ne 39, 3) := by decide +kernel
theorem d_A_separationsBy_20 : decode b_A_separationsBy 20 = .ok (.iconst 1, 1) := by decide +kernel
theorem d_A_separationsBy_21 : decode b_A_separationsBy 21 = .ok (.aload_n 0, 1) := by decide +kernel
theorem d_A_separationsBy_22 : decode b_A_separationsBy 22 = .ok (.getfield 9, 3) := by decide +kernel
theorem d_A_separationsBy_25 : decode b_A_separationsBy 25 = .ok (.ishl, 1) := by decide +kernel
theorem d_A_separationsBy_26 : decode b_A_separationsBy 26 = .ok (.iconst 2, 1) := by decide +kernel
theorem d_A_separationsBy_27 : decode b_A_separationsBy 27 = .ok (.iload_n 3, 1) := by decide +kernel
theorem d_A_separationsBy_28 : decode b_A_separationsBy 28 = .ok (.ishl, 1) := by decide +kernel
theorem d_A_separationsBy_29 : decode b_A_separationsBy 29 = .ok (.isub, 1) := by decide +kernel
theorem d_A_separationsBy_30 : decode b_A_separationsBy 30 = .ok (.istore 4, 2) := by decide +kernel
theorem d_A_separationsBy_32 : decode b_A_separationsBy 32 = .ok (.iload_n 2, 1) := by decide +kernel
theorem d_A_separationsBy_33 : decode b_A_separationsBy 33 = .ok (.iload 4, 2) := by decide +kernel
theorem d_A_separationsBy_35 : decode b_A_separationsBy 35 = .ok (.iload_n 1, 1) := by decide +kernel
theorem d_A_separationsBy_36 : decode b_A_separationsBy 36 = .ok (.iconst (-1), 1) := by decide +kernel
theorem d_A_separationsBy_37 : decode b_A_separationsBy 37 = .ok (.ixor, 1) := by decide +kernel
theorem d_A_separationsBy_38 : decode b_A_separationsBy 38 = .ok (.iand, 1) := by decide +kernel
theorem d_A_separationsBy_39 : decode b_A_separationsBy 39 = .ok (.aload_n 0, 1) := by decide +kernel
theorem d_A_separationsBy_40 : decode b_A_separationsBy 40 = .ok (.getfield 26, 3) := by decide +kernel
theorem d_A_separationsBy_43 : decode b_A_separationsBy 43 = .ok (.iload_n 3, 1) := by decide +kernel
theorem d_A_separationsBy_44 : decode b_A_separationsBy 44 = .ok (.iload_n 1, 1) := by decide +kernel
theorem d_A_separationsBy_45 : decode b_A_separationsBy 45 = .ok (.invokevirtual 87, 3) := by decide +kernel
theorem d_A_separationsBy_48 : decode b_A_separationsBy 48 = .ok (.iconst (-1), 1) := by decide +kernel
theorem d_A_separationsBy_49 : decode b_A_separationsBy 49 = .ok (.ixor, 1) := by decide +kernel
theorem d_A_separationsBy_50 : decode b_A_separationsBy 50 = .ok (.iand, 1) := by decide +kernel
theorem d_A_separationsBy_51 : decode b_A_separationsBy 51 = .ok (.invokestatic 80, 3) := by decide +kernel
theorem d_A_separationsBy_54 : decode b_A_separationsBy 54 = .ok (.iadd, 1) := by decide +kernel
theorem d_A_separationsBy_55 : decode b_A_separationsBy 55 = .ok (.istore_n 2, 1) := by decide +kernel
theorem d_A_separationsBy_56 : decode b_A_separationsBy 56 = .ok (.iinc 3 1, 3) := by decide +kernel
theorem d_A_separationsBy_59 : decode b_A_separationsBy 59 = .ok (.goto (-55), 3) := by decide +kernel
theorem d_A_separationsBy_62 : decode b_A_separationsBy 62 = .ok (.iload_n 2, 1) := by decide +kernel
theorem d_A_separationsBy_63 : decode b_A_separationsBy 63 = .ok (.ireturn, 1) := by decide +kernel
theorem d_A_edge_0 : decode b_A_edge 0 = .ok (.aload_n 0, 1) := by decide +kernel
theorem d_A_edge_1 : decode b_A_edge 1 = .ok (.iload_n 1, 1) := by decide +kernel
theorem d_A_edge_2 : decode b_A_edge 2 = .ok (.iload_n 2, 1) := by decide +kernel
theorem d_A_edge_3 : decode b_A_edge 3 = .ok (.invokevirtual 32, 3) := by decide +kernel
theorem d_A_edge_6 : decode b_A_edge 6 = .ok (.ifCond .eq 15, 3) := by decide +kernel
theorem d_A_edge_9 : decode b_A_edge 9 = .ok (.aload_n 0, 1) := by decide +kernel
theorem d_A_edge_10 : decode b_A_edge 10 = .ok (.getfield 26, 3) := by decide +kernel
theorem d_A_edge_13 : decode b_A_edge 13 = .ok (.iload_n 1, 1) := by decide +kernel
theorem d_A_edge_14 : decode b_A_edge 14 = .ok (.iload_n 2, 1) := by decide +kernel
theorem d_A_edge_15 : decode b_A_edge 15 = .ok (.invokevirtual 36, 3) := by decide +kernel
theorem d_A_edge_18 : decode b_A_edge 18 = .ok (.ifCond .ne 5, 3) := by decide +kernel
theorem d_A_edge_21 : decode b_A_edge 21 = .ok (.iconst 0, 1) := by decide +kernel
theorem d_A_edge_22 : decode b_A_edge 22 = .ok (.ireturn, 1) := by decide +kernel
theorem d_A_edge_23 : decode b_A_edge 23 = .ok (.aload_n 0, 1) := by decide +kernel
theorem d_A_edge_24 : decode b_A_edge 24 = .ok (.getfield 18, 3) := by decide +kernel
theorem d_A_edge_27 : decode b_A_edge 27 = .ok (.iload_n 2, 1) := by decide +kernel
theorem d_A_edge_28 : decode b_A_edge 28 = .ok (.iload_n 1, 1) := by decide +kernel
theorem d_A_edge_29 : decode b_A_edge 29 = .ok (.invokevirtual 97, 3) := by decide +kernel
theorem d_A_edge_32 : decode b_A_edge 32 = .ok (.ifCond .ne 5, 3) := by decide +kernel
theorem d_A_edge_35 : decode b_A_edge 35 = .ok (.iconst 1, 1) := by decide +kernel
theorem d_A_edge_36 : decode b_A_edge 36 = .ok (.ireturn, 1) := by decide +kernel
theorem d_A_edge_37 : decode b_A_edge 37 = .ok (.aload_n 0, 1) := by decide +kernel
theorem d_A_edge_38 : decode b_A_edge 38 = .ok (.getfield 18, 3) := by decide +kernel
theorem d_A_edge_41 : decode b_A_edge 41 = .ok (.iload_n 1, 1) := by decide +kernel
theorem d_A_edge_42 : decode b_A_edge 42 = .ok (.iload_n 2, 1) := by decide +kernel
theorem d_A_edge_43 : decode b_A_edge 43 = .ok (.invokevirtual 97, 3) := by decide +kernel
theorem d_A_edge_46 : decode b_A_edge 46 = .ok (.ifCond .eq 7, 3) := by decide +kernel
theorem d_A_edge_49 : decode b_A_edge 49 = .ok (.iconst 3, 1) := by decide +kernel
theorem d_A_edge_50 : decode b_A_edge 50 = .ok (.goto 4, 3) := by decide +kernel
theorem d_A_edge_53 : decode b_A_edge 53 = .ok (.iconst 2, 1) := by decide +kernel
theorem d_A_edge_54 : decode b_A_edge 54 = .ok (.ireturn, 1) := by decide +kernel
theorem d_A_loose_0 : decode b_A_loose 0 = .ok (.aload_n 0, 1) := by decide +kernel
theorem d_A_loose_1 : decode b_A_loose 1 = .ok (.getfield 18, 3) := by decide +kernel
theorem d_A_loose_4 : decode b_A_loose 4 = .ok (.invokevirtual 100, 3) := by decide +kernel
theorem d_A_loose_7 : decode b_A_loose 7 = .ok (.ireturn, 1) := by decide +kernel
theorem d_A_know_0 : decode b_A_know 0 = .ok (.aload_n 0, 1) := by decide +kernel
theorem d_A_know_1 : decode b_A_know 1 = .ok (.iload_n 1, 1) := by decide +kernel
theorem d_A_know_2 : decode b_A_know 2 = .ok (.iload_n 2, 1) := by decide +kernel
theorem d_A_know_3 : decode b_A_know 3 = .ok (.invokevirtual 32, 3) := by decide +kernel
theorem d_A_know_6 : decode b_A_know 6 = .ok (.ifCond .eq 15, 3) := by decide +kernel
theorem d_A_know_9 : decode b_A_know 9 = .ok (.aload_n 0, 1) := by decide +kernel
theorem d_A_know_10 : decode b_A_know 10 = .ok (.getfield 18, 3) := by decide +kernel
theorem d_A_know_13 : decode b_A_know 13 = .ok (.iload_n 1, 1) := by decide +kernel
theorem d_A_know_14 : decode b_A_know 14 = .ok (.iload_n 2, 1) := by decide +kernel
theorem d_A_know_15 : decode b_A_know 15 = .ok (.invokevirtual 97, 3) := by decide +kernel
theorem d_A_know_18 : decode b_A_know 18 = .ok (.ifCond .ne 5, 3) := by decide +kernel
theorem d_A_know_21 : decode b_A_know 21 = .ok (.iconst 0, 1) := by decide +kernel
theorem d_A_know_22 : decode b_A_know 22 = .ok (.ireturn, 1) := by decide +kernel
theorem d_A_know_23 : decode b_A_know 23 = .ok (.aload_n 0, 1) := by decide +kernel
theorem d_A_know_24 : decode b_A_know 24 = .ok (.getfield 18, 3) := by decide +kernel
theorem d_A_know_27 : decode b_A_know 27 = .ok (.iload_n 1, 1) := by decide +kernel
theorem d_A_know_28 : decode b_A_know 28 = .ok (.iload_n 2, 1) := by decide +kernel
theorem d_A_know_29 : decode b_A_know 29 = .ok (.invokevirtual 103, 3) := by decide +kernel
theorem d_A_know_32 : decode b_A_know 32 = .ok (.iconst 1, 1) := by decide +kernel
theorem d_A_know_33 : decode b_A_know 33 = .ok (.ireturn, 1) := by decide +kernel
theorem d_A_forget_0 : decode b_A_forget 0 = .ok (.aload_n 0, 1) := by decide +kernel
theorem d_A_forget_1 : decode b_A_forget 1 = .ok (.getfield 18, 3) := by decide +kernel
theorem d_A_forget_4 : decode b_A_forget 4 = .ok (.invokevirtual 106, 3) := by decide +kernel
theorem d_A_forget_7 : decode b_A_forget 7 = .ok (.ireturn, 1) := by decide +kernel
theorem d_A_members_0 : decode b_A_members 0 = .ok (.aload_n 0, 1) := by decide +kernel
theorem d_A_members_1 : decode b_A_members 1 = .ok (.getfield 18, 3) := by decide +kernel
theorem d_A_members_4 : decode b_A_members 4 = .ok (.invokevirtual 109, 3) := by decide +kernel
theorem d_A_members_7 : decode b_A_members 7 = .ok (.ireturn, 1) := by decide +kernel
theorem d_A_first_0 : decode b_A_first 0 = .ok (.aload_n 0, 1) := by decide +kernel
theorem d_A_first_1 : decode b_A_first 1 = .ok (.iload_n 1, 1) := by decide +kernel
theorem d_A_first_2 : decode b_A_first 2 = .ok (.iload_n 2, 1) := by decide +kernel
theorem d_A_first_3 : decode b_A_first 3 = .ok (.invokevirtual 32, 3) := by decide +kernel
theorem d_A_first_6 : decode b_A_first 6 = .ok (.ifCond .eq 19, 3) := by decide +kernel
theorem d_A_first_9 : decode b_A_first 9 = .ok (.aload_n 0, 1) := by decide +kernel
theorem d_A_first_10 : decode b_A_first 10 = .ok (.getfield 18, 3) := by decide +kernel
theorem d_A_first_13 : decode b_A_first 13 = .ok (.iload_n 1, 1) := by decide +kernel
theorem d_A_first_14 : decode b_A_first 14 = .ok (.iload_n 2, 1) := by decide +kernel
theorem d_A_first_15 : decode b_A_first 15 = .ok (.invokevirtual 110, 3) := by decide +kernel
theorem d_A_first_18 : decode b_A_first 18 = .ok (.ifCond .eq 7, 3) := by decide +kernel
theorem d_A_first_21 : decode b_A_first 21 = .ok (.iconst 1, 1) := by decide +kernel
theorem d_A_first_22 : decode b_A_first 22 = .ok (.goto 4, 3) := by decide +kernel
theorem d_A_first_25 : decode b_A_first 25 = .ok (.iconst 0, 1) := by decide +kernel
theorem d_A_first_26 : decode b_A_first 26 = .ok (.ireturn, 1) := by decide +kernel
theorem d_A_turned_0 : decode b_A_turned 0 = .ok (.aload_n 0, 1) := by decide +kernel
theorem d_A_turned_1 : decode b_A_turned 1 = .ok (.getfield 18, 3) := by decide +kernel
theorem d_A_turned_4 : decode b_A_turned 4 = .ok (.invokevirtual 113, 3) := by decide +kernel
theorem d_A_turned_7 : decode b_A_turned 7 = .ok (.ireturn, 1) := by decide +kernel
end
section
/-! decode rows -/
theorem d_M_init_0 : decode b_M_init 0 = .ok (.aload_n 0, 1) := by decide +kernel
theorem d_M_init_1 : decode b_M_init 1 = .ok (.invokespecial 1, 3) := by decide +kernel
theorem d_M_init_4 : decode b_M_init 4 = .ok (.aload_n 0, 1) := by decide +kernel
theorem d_M_init_5 : decode b_M_init 5 = .ok (.bipush 36, 2) := by decide +kernel
theorem d_M_init_7 : decode b_M_init 7 = .ok (.newarray .boolean, 2) := by decide +kernel
theorem d_M_init_9 : decode b_M_init 9 = .ok (.putfield 7, 3) := by decide +kernel
theorem d_M_init_12 : decode b_M_init 12 = .ok (.aload_n 0, 1) := by decide +kernel
theorem d_M_init_13 : decode b_M_init 13 = .ok (.bipush 36, 2) := by decide +kernel
theorem d_M_init_15 : decode b_M_init 15 = .ok (.newarray .boolean, 2) := by decide +kernel
theorem d_M_init_17 : decode b_M_init 17 = .ok (.putfield 13, 3) := by decide +kernel
theorem d_M_init_20 : decode b_M_init 20 = .ok (.aload_n 0, 1) := by decide +kernel
theorem d_M_init_21 : decode b_M_init 21 = .ok (.bipush 36, 2) := by decide +kernel
theorem d_M_init_23 : decode b_M_init 23 = .ok (.newarray .boolean, 2) := by decide +kernel
theorem d_M_init_25 : decode b_M_init 25 = .ok (.putfield 16, 3) := by decide +kernel
theorem d_M_init_28 : decode b_M_init 28 = .ok (.aload_n 0, 1) := by decide +kernel
theorem d_M_init_29 : decode b_M_init 29 = .ok (.bipush 36, 2) := by decide +kernel
theorem d_M_init_31 : decode b_M_init 31 = .ok (.newarray .int, 2) := by decide +kernel
theorem d_M_init_33 : decode b_M_init 33 = .ok (.putfield 19, 3) := by decide +kernel
theorem d_M_init_36 : decode b_M_init 36 = .ok (.aload_n 0, 1) := by decide +kernel
theorem d_M_init_37 : decode b_M_init 37 = .ok (.bipush 36, 2) := by decide +kernel
theorem d_M_init_39 : decode b_M_init 39 = .ok (.newarray .boolean, 2) := by decide +kernel
theorem d_M_init_41 : decode b_M_init 41 = .ok (.putfield 23, 3) := by decide +kernel
theorem d_M_init_44 : decode b_M_init 44 = .ok (.aload_n 0, 1) := by decide +kernel
theorem d_M_init_45 : decode b_M_init 45 = .ok (.bipush 9, 2) := by decide +kernel
theorem d_M_init_47 : decode b_M_init 47 = .ok (.newarray .int, 2) := by decide +kernel
theorem d_M_init_49 : decode b_M_init 49 = .ok (.putfield 26, 3) := by decide +kernel
theorem d_M_init_52 : decode b_M_init 52 = .ok (.aload_n 0, 1) := by decide +kernel
theorem d_M_init_53 : decode b_M_init 53 = .ok (.bipush 9, 2) := by decide +kernel
theorem d_M_init_55 : decode b_M_init 55 = .ok (.newarray .int, 2) := by decide +kernel
theorem d_M_init_57 : decode b_M_init 57 = .ok (.putfield 29, 3) := by decide +kernel
theorem d_M_init_60 : decode b_M_init 60 = .ok (.aload_n 0, 1) := by decide +kernel
theorem d_M_init_61 : decode b_M_init 61 = .ok (.bipush 6, 2) := by decide +kernel
theorem d_M_init_63 : decode b_M_init 63 = .ok (.newarray .int, 2) := by decide +kernel
theorem d_M_init_65 : decode b_M_init 65 = .ok (.putfield 32, 3) := by decide +kernel
theorem d_M_init_68 : decode b_M_init 68 = .ok (.aload_n 0, 1) := by decide +kernel
theorem d_M_init_69 : decode b_M_init 69 = .ok (.bipush 6, 2) := by decide +kernel
theorem d_M_init_71 : decode b_M_init 71 = .ok (.newarray .int, 2) := by decide +kernel
theorem d_M_init_73 : decode b_M_init 73 = .ok (.putfield 35, 3) := by decide +kernel
theorem d_M_init_76 : decode b_M_init 76 = .ok (.aload_n 0, 1) := by decide +kernel
theorem d_M_init_77 : decode b_M_init 77 = .ok (.bipush 6, 2) := by decide +kernel
theorem d_M_init_79 : decode b_M_init 79 = .ok (.newarray .int, 2) := by decide +kernel
theorem d_M_init_81 : decode b_M_init 81 = .ok (.putfield 38, 3) := by decide +kernel
theorem d_M_init_84 : decode b_M_init 84 = .ok (.aload_n 0, 1) := by decide +kernel
theorem d_M_init_85 : decode b_M_init 85 = .ok (.iload_n 1, 1) := by decide +kernel
theorem d_M_init_86 : decode b_M_init 86 = .ok (.iconst 2, 1) := by decide +kernel
theorem d_M_init_87 : decode b_M_init 87 = .ok (.if_icmp .lt 9, 3) := by decide +kernel
theorem d_M_init_90 : decode b_M_init 90 = .ok (.iload_n 1, 1) := by decide +kernel
theorem d_M_init_91 : decode b_M_init 91 = .ok (.bipush 6, 2) := by decide +kernel
theorem d_M_init_93 : decode b_M_init 93 = .ok (.if_icmp .le 8, 3) := by decide +kernel
theorem d_M_init_96 : decode b_M_init 96 = .ok (.bipush 6, 2) := by decide +kernel
theorem d_M_init_98 : decode b_M_init 98 = .ok (.goto 4, 3) := by decide +kernel
theorem d_M_init_101 : decode b_M_init 101 = .ok (.iload_n 1, 1) := by decide +kernel
theorem d_M_init_102 : decode b_M_init 102 = .ok (.putfield 41, 3) := by decide +kernel
theorem d_M_init_105 : decode b_M_init 105 = .ok (.return_, 1) := by decide +kernel
theorem d_M_arrow_0 : decode b_M_arrow 0 = .ok (.aload_n 0, 1) := by decide +kernel
theorem d_M_arrow_1 : decode b_M_arrow 1 = .ok (.iload_n 1, 1) := by decide +kernel
theorem d_M_arrow_2 : decode b_M_arrow 2 = .ok (.iload_n 2, 1) := by decide +kernel
theorem d_M_arrow_3 : decode b_M_arrow 3 = .ok (.invokevirtual 49, 3) := by decide +kernel
theorem d_M_arrow_6 : decode b_M_arrow 6 = .ok (.ifCond .eq 34, 3) := by decide +kernel
theorem d_M_arrow_9 : decode b_M_arrow 9 = .ok (.aload_n 0, 1) := by decide +kernel
theorem d_M_arrow_10 : decode b_M_arrow 10 = .ok (.iload_n 1, 1) := by decide +kernel
theorem d_M_arrow_11 : decode b_M_arrow 11 = .ok (.iload_n 2, 1) := by decide +kernel
theorem d_M_arrow_12 : decode b_M_arrow 12 = .ok (.invokevirtual 53, 3) := by decide +kernel
theorem d_M_arrow_15 : decode b_M_arrow 15 = .ok (.ifCond .ne 25, 3) := by decide +kernel
theorem d_M_arrow_18 : decode b_M_arrow 18 = .ok (.aload_n 0, 1) := by decide +kernel
theorem d_M_arrow_19 : decode b_M_arrow 19 = .ok (.invokevirtual 56, 3) := by decide +kernel
theorem d_M_arrow_22 : decode b_M_arrow 22 = .ok (.bipush 9, 2) := by decide +kernel
theorem d_M_arrow_24 : decode b_M_arrow 24 = .ok (.if_icmp .ge 16, 3) := by decide +kernel
theorem d_M_arrow_27 : decode b_M_arrow 27 = .ok (.aload_n 0, 1) := by decide +kernel
theorem d_M_arrow_28 : decode b_M_arrow 28 = .ok (.iload_n 2, 1) := by decide +kernel
theorem d_M_arrow_29 : decode b_M_arrow 29 = .ok (.invokevirtual 60, 3) := by decide +kernel
theorem d_M_arrow_32 : decode b_M_arrow 32 = .ok (.iload_n 1, 1) := by decide +kernel
theorem d_M_arrow_33 : decode b_M_arrow 33 = .ok (.ishr, 1) := by decide +kernel
theorem d_M_arrow_34 : decode b_M_arrow 34 = .ok (.iconst 1, 1) := by decide +kernel
theorem d_M_arrow_35 : decode b_M_arrow 35 = .ok (.iand, 1) := by decide +kernel
theorem d_M_arrow_36 : decode b_M_arrow 36 = .ok (.iconst 1, 1) := by decide +kernel
theorem d_M_arrow_37 : decode b_M_arrow 37 = .ok (.if_icmp .ne 5, 3) := by decide +kernel
theorem d_M_arrow_40 : decode b_M_arrow 40 = .ok (.iconst 0, 1) := by decide +kernel
theorem d_M_arrow_41 : decode b_M_arrow 41 = .ok (.ireturn, 1) := by decide +kernel
theorem d_M_arrow_42 : decode b_M_arrow 42 = .ok (.aload_n 0, 1) := by decide +kernel
theorem d_M_arrow_43 : decode b_M_arrow 43 = .ok (.getfield 7, 3) := by decide +kernel
theorem d_M_arrow_46 : decode b_M_arrow 46 = .ok (.bipush 6, 2) := by decide +kernel
theorem d_M_arrow_48 : decode b_M_arrow 48 = .ok (.iload_n 1, 1) := by decide +kernel
theorem d_M_arrow_49 : decode b_M_arrow 49 = .ok (.imul, 1) := by decide +kernel
theorem d_M_arrow_50 : decode b_M_arrow 50 = .ok (.iload_n 2, 1) := by decide +kernel
theorem d_M_arrow_51 : decode b_M_arrow 51 = .ok (.iadd, 1) := by decide +kernel
theorem d_M_arrow_52 : decode b_M_arrow 52 = .ok (.iconst 1, 1) := by decide +kernel
theorem d_M_arrow_53 : decode b_M_arrow 53 = .ok (.bastore, 1) := by decide +kernel
theorem d_M_arrow_54 : decode b_M_arrow 54 = .ok (.aload_n 0, 1) := by decide +kernel
theorem d_M_arrow_55 : decode b_M_arrow 55 = .ok (.invokevirtual 64, 3) := by decide +kernel
theorem d_M_arrow_58 : decode b_M_arrow 58 = .ok (.iconst 1, 1) := by decide +kernel
theorem d_M_arrow_59 : decode b_M_arrow 59 = .ok (.ireturn, 1) := by decide +kernel
theorem d_M_areNodes_0 : decode b_M_areNodes 0 = .ok (.aload_n 0, 1) := by decide +kernel
theorem d_M_areNodes_1 : decode b_M_areNodes 1 = .ok (.iload_n 1, 1) := by decide +kernel
theorem d_M_areNodes_2 : decode b_M_areNodes 2 = .ok (.invokevirtual 45, 3) := by decide +kernel
theorem d_M_areNodes_5 : decode b_M_areNodes 5 = .ok (.ifCond .eq 20, 3) := by decide +kernel
theorem d_M_areNodes_8 : decode b_M_areNodes 8 = .ok (.aload_n 0, 1) := by decide +kernel
theorem d_M_areNodes_9 : decode b_M_areNodes 9 = .ok (.iload_n 2, 1) := by decide +kernel
theorem d_M_areNodes_10 : decode b_M_areNodes 10 = .ok (.invokevirtual 45, 3) := by decide +kernel
theorem d_M_areNodes_13 : decode b_M_areNodes 13 = .ok (.ifCond .eq 12, 3) := by decide +kernel
theorem d_M_areNodes_16 : decode b_M_areNodes 16 = .ok (.iload_n 1, 1) := by decide +kernel
theorem d_M_areNodes_17 : decode b_M_areNodes 17 = .ok (.iload_n 2, 1) := by decide +kernel
theorem d_M_areNodes_18 : decode b_M_areNodes 18 = .ok (.if_icmp .eq 7, 3) := by decide +kernel
theorem d_M_areNodes_21 : decode b_M_areNodes 21 = .ok (.iconst 1, 1) := by decide +kernel
theorem d_M_areNodes_22 : decode b_M_areNodes 22 = .ok (.goto 4, 3) := by decide +kernel
theorem d_M_areNodes_25 : decode b_M_areNodes 25 = .ok (.iconst 0, 1) := by decide +kernel
theorem d_M_areNodes_26 : decode b_M_areNodes 26 = .ok (.ireturn, 1) := by decide +kernel
theorem d_M_isNode_0 : decode b_M_isNode 0 = .ok (.iload_n 1, 1) := by decide +kernel
theorem d_M_isNode_1 : decode b_M_isNode 1 = .ok (.ifCond .lt 15, 3) := by decide +kernel
theorem d_M_isNode_4 : decode b_M_isNode 4 = .ok (.iload_n 1, 1) := by decide +kernel
theorem d_M_isNode_5 : decode b_M_isNode 5 = .ok (.aload_n 0, 1) := by decide +kernel
theorem d_M_isNode_6 : decode b_M_isNode 6 = .ok (.getfield 41, 3) := by decide +kernel
theorem d_M_isNode_9 : decode b_M_isNode 9 = .ok (.if_icmp .ge 7, 3) := by decide +kernel
theorem d_M_isNode_12 : decode b_M_isNode 12 = .ok (.iconst 1, 1) := by decide +kernel
theorem d_M_isNode_13 : decode b_M_isNode 13 = .ok (.goto 4, 3) := by decide +kernel
theorem d_M_isNode_16 : decode b_M_isNode 16 = .ok (.iconst 0, 1) := by decide +kernel
theorem d_M_isNode_17 : decode b_M_isNode 17 = .ok (.ireturn, 1) := by decide +kernel
theorem d_M_joined_0 : decode b_M_joined 0 = .ok (.aload_n 0, 1) := by decide +kernel
theorem d_M_joined_1 : decode b_M_joined 1 = .ok (.getfield 7, 3) := by decide +kernel
theorem d_M_joined_4 : decode b_M_joined 4 = .ok (.bipush 6, 2) := by decide +kernel
theorem d_M_joined_6 : decode b_M_joined 6 = .ok (.iload_n 1, 1) := by decide +kernel
theorem d_M_joined_7 : decode b_M_joined 7 = .ok (.imul, 1) := by decide +kernel
theorem d_M_joined_8 : decode b_M_joined 8 = .ok (.iload_n 2, 1) := by decide +kernel
theorem d_M_joined_9 : decode b_M_joined 9 = .ok (.iadd, 1) := by decide +kernel
theorem d_M_joined_10 : decode b_M_joined 10 = .ok (.baload, 1) := by decide +kernel
theorem d_M_joined_11 : decode b_M_joined 11 = .ok (.ifCond .ne 17, 3) := by decide +kernel
theorem d_M_joined_14 : decode b_M_joined 14 = .ok (.aload_n 0, 1) := by decide +kernel
theorem d_M_joined_15 : decode b_M_joined 15 = .ok (.getfield 7, 3) := by decide +kernel
theorem d_M_joined_18 : decode b_M_joined 18 = .ok (.bipush 6, 2) := by decide +kernel
theorem d_M_joined_20 : decode b_M_joined 20 = .ok (.iload_n 2, 1) := by decide +kernel
theorem d_M_joined_21 : decode b_M_joined 21 = .ok (.imul, 1) := by decide +kernel
theorem d_M_joined_22 : decode b_M_joined 22 = .ok (.iload_n 1, 1) := by decide +kernel
theorem d_M_joined_23 : decode b_M_joined 23 = .ok (.iadd, 1) := by decide +kernel
theorem d_M_joined_24 : decode b_M_joined 24 = .ok (.baload, 1) := by decide +kernel
theorem d_M_joined_25 : decode b_M_joined 25 = .ok (.ifCond .eq 7, 3) := by decide +kernel
theorem d_M_joined_28 : decode b_M_joined 28 = .ok (.iconst 1, 1) := by decide +kernel
theorem d_M_joined_29 : decode b_M_joined 29 = .ok (.goto 4, 3) := by decide +kernel
theorem d_M_joined_32 : decode b_M_joined 32 = .ok (.iconst 0, 1) := by decide +kernel
theorem d_M_joined_33 : decode b_M_joined 33 = .ok (.ireturn, 1) := by decide +kernel
theorem d_M_arrows_0 : decode b_M_arrows 0 = .ok (.iconst 0, 1) := by decide +kernel
theorem d_M_arrows_1 : decode b_M_arrows 1 = .ok (.istore_n 1, 1) := by decide +kernel
theorem d_M_arrows_2 : decode b_M_arrows 2 = .ok (.iconst 0, 1) := by decide +kernel
theorem d_M_arrows_3 : decode b_M_arrows 3 = .ok (.istore_n 2, 1) := by decide +kernel
theorem d_M_arrows_4 : decode b_M_arrows 4 = .ok (.iload_n 2, 1) := by decide +kernel
theorem d_M_arrows_5 : decode b_M_arrows 5 = .ok (.bipush 36, 2) := by decide +kernel
theorem d_M_arrows_7 : decode b_M_arrows 7 = .ok (.if_icmp .ge 26, 3) := by decide +kernel
theorem d_M_arrows_10 : decode b_M_arrows 10 = .ok (.aload_n 0, 1) := by decide +kernel
theorem d_M_arrows_11 : decode b_M_arrows 11 = .ok (.getfield 7, 3) := by decide +kernel
theorem d_M_arrows_14 : decode b_M_arrows 14 = .ok (.iload_n 2, 1) := by decide +kernel
theorem d_M_arrows_15 : decode b_M_arrows 15 = .ok (.baload, 1) := by decide +kernel
theorem d_M_arrows_16 : decode b_M_arrows 16 = .ok (.ifCond .eq 9, 3) := by decide +kernel
theorem d_M_arrows_19 : decode b_M_arrows 19 = .ok (.iload_n 1, 1) := by decide +kernel
theorem d_M_arrows_20 : decode b_M_arrows 20 = .ok (.iconst 1, 1) := by decide +kernel
theorem d_M_arrows_21 : decode b_M_arrows 21 = .ok (.iadd, 1) := by decide +kernel
theorem d_M_arrows_22 : decode b_M_arrows 22 = .ok (.goto 4, 3) := by decide +kernel
theorem d_M_arrows_25 : decode b_M_arrows 25 = .ok (.iload_n 1, 1) := by decide +kernel
theorem d_M_arrows_26 : decode b_M_arrows 26 = .ok (.istore_n 1, 1) := by decide +kernel
theorem d_M_arrows_27 : decode b_M_arrows 27 = .ok (.iinc 2 1, 3) := by decide +kernel
theorem d_M_arrows_30 : decode b_M_arrows 30 = .ok (.goto (-26), 3) := by decide +kernel
theorem d_M_arrows_33 : decode b_M_arrows 33 = .ok (.iload_n 1, 1) := by decide +kernel
theorem d_M_arrows_34 : decode b_M_arrows 34 = .ok (.ireturn, 1) := by decide +kernel
theorem d_M_reach_0 : decode b_M_reach 0 = .ok (.iconst 1, 1) := by decide +kernel
theorem d_M_reach_1 : decode b_M_reach 1 = .ok (.iload_n 1, 1) := by decide +kernel
theorem d_M_reach_2 : decode b_M_reach 2 = .ok (.ishl, 1) := by decide +kernel
theorem d_M_reach_3 : decode b_M_reach 3 = .ok (.istore_n 2, 1) := by decide +kernel
theorem d_M_reach_4 : decode b_M_reach 4 = .ok (.iconst 0, 1) := by decide +kernel
theorem d_M_reach_5 : decode b_M_reach 5 = .ok (.istore_n 3, 1) := by decide +kernel
theorem d_M_reach_6 : decode b_M_reach 6 = .ok (.iload_n 3, 1) := by decide +kernel
theorem d_M_reach_7 : decode b_M_reach 7 = .ok (.bipush 6, 2) := by decide +kernel
theorem d_M_reach_9 : decode b_M_reach 9 = .ok (.if_icmp .ge 82, 3) := by decide +kernel
theorem d_M_reach_12 : decode b_M_reach 12 = .ok (.iconst 0, 1) := by decide +kernel
theorem d_M_reach_13 : decode b_M_reach 13 = .ok (.istore 4, 2) := by decide +kernel
theorem d_M_reach_15 : decode b_M_reach 15 = .ok (.iload 4, 2) := by decide +kernel
theorem d_M_reach_17 : decode b_M_reach 17 = .ok (.aload_n 0, 1) := by decide +kernel
theorem d_M_reach_18 : decode b_M_reach 18 = .ok (.getfield 41, 3) := by decide +kernel
theorem d_M_reach_21 : decode b_M_reach 21 = .ok (.if_icmp .ge 64, 3) := by decide +kernel
theorem d_M_reach_24 : decode b_M_reach 24 = .ok (.iconst 0, 1) := by decide +kernel
theorem d_M_reach_25 : decode b_M_reach 25 = .ok (.istore 5, 2) := by decide +kernel
theorem d_M_reach_27 : decode b_M_reach 27 = .ok (.iload 5, 2) := by decide +kernel
theorem d_M_reach_29 : decode b_M_reach 29 = .ok (.aload_n 0, 1) := by decide +kernel
theorem d_M_reach_30 : decode b_M_reach 30 = .ok (.getfield 41, 3) := by decide +kernel
theorem d_M_reach_33 : decode b_M_reach 33 = .ok (.if_icmp .ge 46, 3) := by decide +kernel
theorem d_M_reach_36 : decode b_M_reach 36 = .ok (.iload_n 2, 1) := by decide +kernel
theorem d_M_reach_37 : decode b_M_reach 37 = .ok (.iload 4, 2) := by decide +kernel
theorem d_M_reach_39 : decode b_M_reach 39 = .ok (.ishr, 1) := by decide +kernel
theorem d_M_reach_40 : decode b_M_reach 40 = .ok (.iconst 1, 1) := by decide +kernel
theorem d_M_reach_41 : decode b_M_reach 41 = .ok (.iand, 1) := by decide +kernel
theorem d_M_reach_42 : decode b_M_reach 42 = .ok (.iconst 1, 1) := by decide +kernel
theorem d_M_reach_43 : decode b_M_reach 43 = .ok (.if_icmp .ne 36, 3) := by decide +kernel
theorem d_M_reach_46 : decode b_M_reach 46 = .ok (.aload_n 0, 1) := by decide +kernel
theorem d_M_reach_47 : decode b_M_reach 47 = .ok (.getfield 7, 3) := by decide +kernel
theorem d_M_reach_50 : decode b_M_reach 50 = .ok (.bipush 6, 2) := by decide +kernel
theorem d_M_reach_52 : decode b_M_reach 52 = .ok (.iload 4, 2) := by decide +kernel
theorem d_M_reach_54 : decode b_M_reach 54 = .ok (.imul, 1) := by decide +kernel
theorem d_M_reach_55 : decode b_M_reach 55 = .ok (.iload 5, 2) := by decide +kernel
theorem d_M_reach_57 : decode b_M_reach 57 = .ok (.iadd, 1) := by decide +kernel
theorem d_M_reach_58 : decode b_M_reach 58 = .ok (.baload, 1) := by decide +kernel
theorem d_M_reach_59 : decode b_M_reach 59 = .ok (.ifCond .eq 12, 3) := by decide +kernel
theorem d_M_reach_62 : decode b_M_reach 62 = .ok (.iload_n 2, 1) := by decide +kernel
theorem d_M_reach_63 : decode b_M_reach 63 = .ok (.iconst 1, 1) := by decide +kernel
theorem d_M_reach_64 : decode b_M_reach 64 = .ok (.iload 5, 2) := by decide +kernel
theorem d_M_reach_66 : decode b_M_reach 66 = .ok (.ishl, 1) := by decide +kernel
theorem d_M_reach_67 : decode b_M_reach 67 = .ok (.ior, 1) := by decide +kernel
theorem d_M_reach_68 : decode b_M_reach 68 = .ok (.goto 4, 3) := by decide +kernel
theorem d_M_reach_71 : decode b_M_reach 71 = .ok (.iload_n 2, 1) := by decide +kernel
theorem d_M_reach_72 : decode b_M_reach 72 = .ok (.istore_n 2, 1) := by decide +kernel
theorem d_M_reach_73 : decode b_M_reach 73 = .ok (.iinc 5 1, 3) := by decide +kernel
theorem d_M_reach_76 : decode b_M_reach 76 = .ok (.goto (-49), 3) := by decide +kernel
theorem d_M_reach_79 : decode b_M_reach 79 = .ok (.iinc 4 1, 3) := by decide +kernel
theorem d_M_reach_82 : decode b_M_reach 82 = .ok (.goto (-67), 3) := by decide +kernel
theorem d_M_reach_85 : decode b_M_reach 85 = .ok (.iinc 3 1, 3) := by decide +kernel
theorem d_M_reach_88 : decode b_M_reach 88 = .ok (.goto (-82), 3) := by decide +kernel
theorem d_M_reach_91 : decode b_M_reach 91 = .ok (.iload_n 2, 1) := by decide +kernel
theorem d_M_reach_92 : decode b_M_reach 92 = .ok (.ireturn, 1) := by decide +kernel
theorem d_M_forgetAll_0 : decode b_M_forgetAll 0 = .ok (.iconst 0, 1) := by decide +kernel
theorem d_M_forgetAll_1 : decode b_M_forgetAll 1 = .ok (.istore_n 1, 1) := by decide +kernel
theorem d_M_forgetAll_2 : decode b_M_forgetAll 2 = .ok (.iload_n 1, 1) := by decide +kernel
theorem d_M_forgetAll_3 : decode b_M_forgetAll 3 = .ok (.bipush 36, 2) := by decide +kernel
theorem d_M_forgetAll_5 : decode b_M_forgetAll 5 = .ok (.if_icmp .ge 16, 3) := by decide +kernel
theorem d_M_forgetAll_8 : decode b_M_forgetAll 8 = .ok (.aload_n 0, 1) := by decide +kernel
theorem d_M_forgetAll_9 : decode b_M_forgetAll 9 = .ok (.getfield 13, 3) := by decide +kernel
theorem d_M_forgetAll_12 : decode b_M_forgetAll 12 = .ok (.iload_n 1, 1) := by decide +kernel
theorem d_M_forgetAll_13 : decode b_M_forgetAll 13 = .ok (.iconst 0, 1) := by decide +kernel
theorem d_M_forgetAll_14 : decode b_M_forgetAll 14 = .ok (.bastore, 1) := by decide +kernel
theorem d_M_forgetAll_15 : decode b_M_forgetAll 15 = .ok (.iinc 1 1, 3) := by decide +kernel
theorem d_M_forgetAll_18 : decode b_M_forgetAll 18 = .ok (.goto (-16), 3) := by decide +kernel
theorem d_M_forgetAll_21 : decode b_M_forgetAll 21 = .ok (.return_, 1) := by decide +kernel
theorem d_M_erase_0 : decode b_M_erase 0 = .ok (.aload_n 0, 1) := by decide +kernel
theorem d_M_erase_1 : decode b_M_erase 1 = .ok (.iload_n 1, 1) := by decide +kernel
theorem d_M_erase_2 : decode b_M_erase 2 = .ok (.iload_n 2, 1) := by decide +kernel
theorem d_M_erase_3 : decode b_M_erase 3 = .ok (.invokevirtual 49, 3) := by decide +kernel
theorem d_M_erase_6 : decode b_M_erase 6 = .ok (.ifCond .eq 17, 3) := by decide +kernel
theorem d_M_erase_9 : decode b_M_erase 9 = .ok (.aload_n 0, 1) := by decide +kernel
theorem d_M_erase_10 : decode b_M_erase 10 = .ok (.getfield 7, 3) := by decide +kernel
theorem d_M_erase_13 : decode b_M_erase 13 = .ok (.bipush 6, 2) := by decide +kernel
theorem d_M_erase_15 : decode b_M_erase 15 = .ok (.iload_n 1, 1) := by decide +kernel
theorem d_M_erase_16 : decode b_M_erase 16 = .ok (.imul, 1) := by decide +kernel
theorem d_M_erase_17 : decode b_M_erase 17 = .ok (.iload_n 2, 1) := by decide +kernel
theorem d_M_erase_18 : decode b_M_erase 18 = .ok (.iadd, 1) := by decide +kernel
theorem d_M_erase_19 : decode b_M_erase 19 = .ok (.baload, 1) := by decide +kernel
theorem d_M_erase_20 : decode b_M_erase 20 = .ok (.ifCond .ne 5, 3) := by decide +kernel
theorem d_M_erase_23 : decode b_M_erase 23 = .ok (.iconst 0, 1) := by decide +kernel
theorem d_M_erase_24 : decode b_M_erase 24 = .ok (.ireturn, 1) := by decide +kernel
theorem d_M_erase_25 : decode b_M_erase 25 = .ok (.aload_n 0, 1) := by decide +kernel
theorem d_M_erase_26 : decode b_M_erase 26 = .ok (.getfield 7, 3) := by decide +kernel
theorem d_M_erase_29 : decode b_M_erase 29 = .ok (.bipush 6, 2) := by decide +kernel
theorem d_M_erase_31 : decode b_M_erase 31 = .ok (.iload_n 1, 1) := by decide +kernel
theorem d_M_erase_32 : decode b_M_erase 32 = .ok (.imul, 1) := by decide +kernel
theorem d_M_erase_33 : decode b_M_erase 33 = .ok (.iload_n 2, 1) := by decide +kernel
theorem d_M_erase_34 : decode b_M_erase 34 = .ok (.iadd, 1) := by decide +kernel
theorem d_M_erase_35 : decode b_M_erase 35 = .ok (.iconst 0, 1) := by decide +kernel
theorem d_M_erase_36 : decode b_M_erase 36 = .ok (.bastore, 1) := by decide +kernel
theorem d_M_erase_37 : decode b_M_erase 37 = .ok (.aload_n 0, 1) := by decide +kernel
theorem d_M_erase_38 : decode b_M_erase 38 = .ok (.invokevirtual 64, 3) := by decide +kernel
theorem d_M_erase_41 : decode b_M_erase 41 = .ok (.iconst 1, 1) := by decide +kernel
theorem d_M_erase_42 : decode b_M_erase 42 = .ok (.ireturn, 1) := by decide +kernel
theorem d_M_turn_0 : decode b_M_turn 0 = .ok (.aload_n 0, 1) := by decide +kernel
theorem d_M_turn_1 : decode b_M_turn 1 = .ok (.iload_n 1, 1) := by decide +kernel
theorem d_M_turn_2 : decode b_M_turn 2 = .ok (.iload_n 2, 1) := by decide +kernel
theorem d_M_turn_3 : decode b_M_turn 3 = .ok (.invokevirtual 49, 3) := by decide +kernel
theorem d_M_turn_6 : decode b_M_turn 6 = .ok (.ifCond .eq 17, 3) := by decide +kernel
theorem d_M_turn_9 : decode b_M_turn 9 = .ok (.aload_n 0, 1) := by decide +kernel
theorem d_M_turn_10 : decode b_M_turn 10 = .ok (.getfield 7, 3) := by decide +kernel
theorem d_M_turn_13 : decode b_M_turn 13 = .ok (.bipush 6, 2) := by decide +kernel
theorem d_M_turn_15 : decode b_M_turn 15 = .ok (.iload_n 1, 1) := by decide +kernel
theorem d_M_turn_16 : decode b_M_turn 16 = .ok (.imul, 1) := by decide +kernel
theorem d_M_turn_17 : decode b_M_turn 17 = .ok (.iload_n 2, 1) := by decide +kernel
theorem d_M_turn_18 : decode b_M_turn 18 = .ok (.iadd, 1) := by decide +kernel
theorem d_M_turn_19 : decode b_M_turn 19 = .ok (.baload, 1) := by decide +kernel
theorem d_M_turn_20 : decode b_M_turn 20 = .ok (.ifCond .ne 5, 3) := by decide +kernel
theorem d_M_turn_23 : decode b_M_turn 23 = .ok (.iconst 0, 1) := by decide +kernel
theorem d_M_turn_24 : decode b_M_turn 24 = .ok (.ireturn, 1) := by decide +kernel
theorem d_M_turn_25 : decode b_M_turn 25 = .ok (.aload_n 0, 1) := by decide +kernel
theorem d_M_turn_26 : decode b_M_turn 26 = .ok (.getfield 7, 3) := by decide +kernel
theorem d_M_turn_29 : decode b_M_turn 29 = .ok (.bipush 6, 2) := by decide +kernel
theorem d_M_turn_31 : decode b_M_turn 31 = .ok (.iload_n 1, 1) := by decide +kernel
theorem d_M_turn_32 : decode b_M_turn 32 = .ok (.imul, 1) := by decide +kernel
theorem d_M_turn_33 : decode b_M_turn 33 = .ok (.iload_n 2, 1) := by decide +kernel
theorem d_M_turn_34 : decode b_M_turn 34 = .ok (.iadd, 1) := by decide +kernel
theorem d_M_turn_35 : decode b_M_turn 35 = .ok (.iconst 0, 1) := by decide +kernel
theorem d_M_turn_36 : decode b_M_turn 36 = .ok (.bastore, 1) := by decide +kernel
theorem d_M_turn_37 : decode b_M_turn 37 = .ok (.aload_n 0, 1) := by decide +kernel
theorem d_M_turn_38 : decode b_M_turn 38 = .ok (.iload_n 1, 1) := by decide +kernel
theorem d_M_turn_39 : decode b_M_turn 39 = .ok (.invokevirtual 60, 3) := by decide +kernel
theorem d_M_turn_42 : decode b_M_turn 42 = .ok (.iload_n 2, 1) := by decide +kernel
theorem d_M_turn_43 : decode b_M_turn 43 = .ok (.ishr, 1) := by decide +kernel
theorem d_M_turn_44 : decode b_M_turn 44 = .ok (.iconst 1, 1) := by decide +kernel
theorem d_M_turn_45 : decode b_M_turn 45 = .ok (.iand, 1) := by decide +kernel
theorem d_M_turn_46 : decode b_M_turn 46 = .ok (.iconst 1, 1) := by decide +kernel
theorem d_M_turn_47 : decode b_M_turn 47 = .ok (.if_icmp .ne 17, 3) := by decide +kernel
theorem d_M_turn_50 : decode b_M_turn 50 = .ok (.aload_n 0, 1) := by decide +kernel
theorem d_M_turn_51 : decode b_M_turn 51 = .ok (.getfield 7, 3) := by decide +kernel
theorem d_M_turn_54 : decode b_M_turn 54 = .ok (.bipush 6, 2) := by decide +kernel
theorem d_M_turn_56 : decode b_M_turn 56 = .ok (.iload_n 1, 1) := by decide +kernel
theorem d_M_turn_57 : decode b_M_turn 57 = .ok (.imul, 1) := by decide +kernel
theorem d_M_turn_58 : decode b_M_turn 58 = .ok (.iload_n 2, 1) := by decide +kernel
theorem d_M_turn_59 : decode b_M_turn 59 = .ok (.iadd, 1) := by decide +kernel
theorem d_M_turn_60 : decode b_M_turn 60 = .ok (.iconst 1, 1) := by decide +kernel
theorem d_M_turn_61 : decode b_M_turn 61 = .ok (.bastore, 1) := by decide +kernel
theorem d_M_turn_62 : decode b_M_turn 62 = .ok (.iconst 0, 1) := by decide +kernel
theorem d_M_turn_63 : decode b_M_turn 63 = .ok (.ireturn, 1) := by decide +kernel
theorem d_M_turn_64 : decode b_M_turn 64 = .ok (.aload_n 0, 1) := by decide +kernel
theorem d_M_turn_65 : decode b_M_turn 65 = .ok (.getfield 7, 3) := by decide +kernel
theorem d_M_turn_68 : decode b_M_turn 68 = .ok (.bipush 6, 2) := by decide +kernel
theorem d_M_turn_70 : decode b_M_turn 70 = .ok (.iload_n 2, 1) := by decide +kernel
theorem d_M_turn_71 : decode b_M_turn 71 = .ok (.imul, 1) := by decide +kernel
theorem d_M_turn_72 : decode b_M_turn 72 = .ok (.iload_n 1, 1) := by decide +kernel
theorem d_M_turn_73 : decode b_M_turn 73 = .ok (.iadd, 1) := by decide +kernel
theorem d_M_turn_74 : decode b_M_turn 74 = .ok (.iconst 1, 1) := by decide +kernel
theorem d_M_turn_75 : decode b_M_turn 75 = .ok (.bastore, 1) := by decide +kernel
theorem d_M_turn_76 : decode b_M_turn 76 = .ok (.aload_n 0, 1) := by decide +kernel
theorem d_M_turn_77 : decode b_M_turn 77 = .ok (.invokevirtual 64, 3) := by decide +kernel
theorem d_M_turn_80 : decode b_M_turn 80 = .ok (.iconst 1, 1) := by decide +kernel
theorem d_M_turn_81 : decode b_M_turn 81 = .ok (.ireturn, 1) := by decide +kernel
theorem d_M_drawn_0 : decode b_M_drawn 0 = .ok (.aload_n 0, 1) := by decide +kernel
theorem d_M_drawn_1 : decode b_M_drawn 1 = .ok (.iload_n 1, 1) := by decide +kernel
theorem d_M_drawn_2 : decode b_M_drawn 2 = .ok (.iload_n 2, 1) := by decide +kernel
theorem d_M_drawn_3 : decode b_M_drawn 3 = .ok (.invokevirtual 49, 3) := by decide +kernel
theorem d_M_drawn_6 : decode b_M_drawn 6 = .ok (.ifCond .eq 21, 3) := by decide +kernel
theorem d_M_drawn_9 : decode b_M_drawn 9 = .ok (.aload_n 0, 1) := by decide +kernel
theorem d_M_drawn_10 : decode b_M_drawn 10 = .ok (.getfield 7, 3) := by decide +kernel
theorem d_M_drawn_13 : decode b_M_drawn 13 = .ok (.bipush 6, 2) := by decide +kernel
theorem d_M_drawn_15 : decode b_M_drawn 15 = .ok (.iload_n 1, 1) := by decide +kernel
theorem d_M_drawn_16 : decode b_M_drawn 16 = .ok (.imul, 1) := by decide +kernel
theorem d_M_drawn_17 : decode b_M_drawn 17 = .ok (.iload_n 2, 1) := by decide +kernel
theorem d_M_drawn_18 : decode b_M_drawn 18 = .ok (.iadd, 1) := by decide +kernel
theorem d_M_drawn_19 : decode b_M_drawn 19 = .ok (.baload, 1) := by decide +kernel
theorem d_M_drawn_20 : decode b_M_drawn 20 = .ok (.ifCond .eq 7, 3) := by decide +kernel
theorem d_M_drawn_23 : decode b_M_drawn 23 = .ok (.iconst 1, 1) := by decide +kernel
theorem d_M_drawn_24 : decode b_M_drawn 24 = .ok (.goto 4, 3) := by decide +kernel
theorem d_M_drawn_27 : decode b_M_drawn 27 = .ok (.iconst 0, 1) := by decide +kernel
theorem d_M_drawn_28 : decode b_M_drawn 28 = .ok (.ireturn, 1) := by decide +kernel
theorem d_M_parents_0 : decode b_M_parents 0 = .ok (.aload_n 0, 1) := by decide +kernel
theorem d_M_parents_1 : decode b_M_parents 1 = .ok (.iload_n 1, 1) := by decide +kernel
theorem d_M_parents_2 : decode b_M_parents 2 = .ok (.invokevirtual 45, 3) := by decide +kernel
theorem d_M_parents_5 : decode b_M_parents 5 = .ok (.ifCond .ne 5, 3) := by decide +kernel
theorem d_M_parents_8 : decode b_M_parents 8 = .ok (.iconst (-1), 1) := by decide +kernel
theorem d_M_parents_9 : decode b_M_parents 9 = .ok (.ireturn, 1) := by decide +kernel
theorem d_M_parents_10 : decode b_M_parents 10 = .ok (.iconst 0, 1) := by decide +kernel
theorem d_M_parents_11 : decode b_M_parents 11 = .ok (.istore_n 2, 1) := by decide +kernel
theorem d_M_parents_12 : decode b_M_parents 12 = .ok (.iconst 0, 1) := by decide +kernel
theorem d_M_parents_13 : decode b_M_parents 13 = .ok (.istore_n 3, 1) := by decide +kernel
theorem d_M_parents_14 : decode b_M_parents 14 = .ok (.iload_n 3, 1) := by decide +kernel
theorem d_M_parents_15 : decode b_M_parents 15 = .ok (.aload_n 0, 1) := by decide +kernel
theorem d_M_parents_16 : decode b_M_parents 16 = .ok (.getfield 41, 3) := by decide +kernel
theorem d_M_parents_19 : decode b_M_parents 19 = .ok (.if_icmp .ge 33, 3) := by decide +kernel
theorem d_M_parents_22 : decode b_M_parents 22 = .ok (.aload_n 0, 1) := by decide +kernel
theorem d_M_parents_23 : decode b_M_parents 23 = .ok (.getfield 7, 3) := by decide +kernel
theorem d_M_parents_26 : decode b_M_parents 26 = .ok (.bipush 6, 2) := by decide +kernel
theorem d_M_parents_28 : decode b_M_parents 28 = .ok (.iload_n 3, 1) := by decide +kernel
theorem d_M_parents_29 : decode b_M_parents 29 = .ok (.imul, 1) := by decide +kernel
theorem d_M_parents_30 : decode b_M_parents 30 = .ok (.iload_n 1, 1) := by decide +kernel
theorem d_M_parents_31 : decode b_M_parents 31 = .ok (.iadd, 1) := by decide +kernel
theorem d_M_parents_32 : decode b_M_parents 32 = .ok (.baload, 1) := by decide +kernel
theorem d_M_parents_33 : decode b_M_parents 33 = .ok (.ifCond .eq 11, 3) := by decide +kernel
theorem d_M_parents_36 : decode b_M_parents 36 = .ok (.iload_n 2, 1) := by decide +kernel
theorem d_M_parents_37 : decode b_M_parents 37 = .ok (.iconst 1, 1) := by decide +kernel
theorem d_M_parents_38 : decode b_M_parents 38 = .ok (.iload_n 3, 1) := by decide +kernel
theorem d_M_parents_39 : decode b_M_parents 39 = .ok (.ishl, 1) := by decide +kernel
theorem d_M_parents_40 : decode b_M_parents 40 = .ok (.iadd, 1) := by decide +kernel
theorem d_M_parents_41 : decode b_M_parents 41 = .ok (.goto 4, 3) := by decide +kernel
theorem d_M_parents_44 : decode b_M_parents 44 = .ok (.iload_n 2, 1) := by decide +kernel
theorem d_M_parents_45 : decode b_M_parents 45 = .ok (.istore_n 2, 1) := by decide +kernel
theorem d_M_parents_46 : decode b_M_parents 46 = .ok (.iinc 3 1, 3) := by decide +kernel
theorem d_M_parents_49 : decode b_M_parents 49 = .ok (.goto (-35), 3) := by decide +kernel
theorem d_M_parents_52 : decode b_M_parents 52 = .ok (.iload_n 2, 1) := by decide +kernel
theorem d_M_parents_53 : decode b_M_parents 53 = .ok (.ireturn, 1) := by decide +kernel
theorem d_M_reached_0 : decode b_M_reached 0 = .ok (.aload_n 0, 1) := by decide +kernel
theorem d_M_reached_1 : decode b_M_reached 1 = .ok (.iload_n 1, 1) := by decide +kernel
theorem d_M_reached_2 : decode b_M_reached 2 = .ok (.invokevirtual 45, 3) := by decide +kernel
theorem d_M_reached_5 : decode b_M_reached 5 = .ok (.ifCond .eq 11, 3) := by decide +kernel
theorem d_M_reached_8 : decode b_M_reached 8 = .ok (.aload_n 0, 1) := by decide +kernel
theorem d_M_reached_9 : decode b_M_reached 9 = .ok (.iload_n 1, 1) := by decide +kernel
theorem d_M_reached_10 : decode b_M_reached 10 = .ok (.invokevirtual 60, 3) := by decide +kernel
theorem d_M_reached_13 : decode b_M_reached 13 = .ok (.goto 4, 3) := by decide +kernel
theorem d_M_reached_16 : decode b_M_reached 16 = .ok (.iconst (-1), 1) := by decide +kernel
theorem d_M_reached_17 : decode b_M_reached 17 = .ok (.ireturn, 1) := by decide +kernel
theorem d_M_around_0 : decode b_M_around 0 = .ok (.aload_n 0, 1) := by decide +kernel
theorem d_M_around_1 : decode b_M_around 1 = .ok (.iload_n 1, 1) := by decide +kernel
theorem d_M_around_2 : decode b_M_around 2 = .ok (.invokevirtual 45, 3) := by decide +kernel
theorem d_M_around_5 : decode b_M_around 5 = .ok (.ifCond .ne 5, 3) := by decide +kernel
theorem d_M_around_8 : decode b_M_around 8 = .ok (.iconst (-1), 1) := by decide +kernel
theorem d_M_around_9 : decode b_M_around 9 = .ok (.ireturn, 1) := by decide +kernel
theorem d_M_around_10 : decode b_M_around 10 = .ok (.aload_n 0, 1) := by decide +kernel
theorem d_M_around_11 : decode b_M_around 11 = .ok (.iload_n 1, 1) := by decide +kernel
theorem d_M_around_12 : decode b_M_around 12 = .ok (.invokevirtual 67, 3) := by decide +kernel
theorem d_M_around_15 : decode b_M_around 15 = .ok (.istore_n 2, 1) := by decide +kernel
theorem d_M_around_16 : decode b_M_around 16 = .ok (.iconst 0, 1) := by decide +kernel
theorem d_M_around_17 : decode b_M_around 17 = .ok (.istore_n 3, 1) := by decide +kernel
theorem d_M_around_18 : decode b_M_around 18 = .ok (.iload_n 3, 1) := by decide +kernel
theorem d_M_around_19 : decode b_M_around 19 = .ok (.aload_n 0, 1) := by decide +kernel
theorem d_M_around_20 : decode b_M_around 20 = .ok (.getfield 41, 3) := by decide +kernel
theorem d_M_around_23 : decode b_M_around 23 = .ok (.if_icmp .ge 35, 3) := by decide +kernel
theorem d_M_around_26 : decode b_M_around 26 = .ok (.aload_n 0, 1) := by decide +kernel
theorem d_M_around_27 : decode b_M_around 27 = .ok (.getfield 7, 3) := by decide +kernel
theorem d_M_around_30 : decode b_M_around 30 = .ok (.bipush 6, 2) := by decide +kernel
theorem d_M_around_32 : decode b_M_around 32 = .ok (.iload_n 1, 1) := by decide +kernel
theorem d_M_around_33 : decode b_M_around 33 = .ok (.imul, 1) := by decide +kernel
theorem d_M_around_34 : decode b_M_around 34 = .ok (.iload_n 3, 1) := by decide +kernel
theorem d_M_around_35 : decode b_M_around 35 = .ok (.iadd, 1) := by decide +kernel
theorem d_M_around_36 : decode b_M_around 36 = .ok (.baload, 1) := by decide +kernel
theorem d_M_around_37 : decode b_M_around 37 = .ok (.ifCond .eq 15, 3) := by decide +kernel
theorem d_M_around_40 : decode b_M_around 40 = .ok (.iload_n 2, 1) := by decide +kernel
theorem d_M_around_41 : decode b_M_around 41 = .ok (.iconst 1, 1) := by decide +kernel
theorem d_M_around_42 : decode b_M_around 42 = .ok (.iload_n 3, 1) := by decide +kernel
theorem d_M_around_43 : decode b_M_around 43 = .ok (.ishl, 1) := by decide +kernel
theorem d_M_around_44 : decode b_M_around 44 = .ok (.ior, 1) := by decide +kernel
theorem d_M_around_45 : decode b_M_around 45 = .ok (.aload_n 0, 1) := by decide +kernel
theorem d_M_around_46 : decode b_M_around 46 = .ok (.iload_n 3, 1) := by decide +kernel
theorem d_M_around_47 : decode b_M_around 47 = .ok (.invokevirtual 67, 3) := by decide +kernel
theorem d_M_around_50 : decode b_M_around 50 = .ok (.ior, 1) := by decide +kernel
theorem d_M_around_51 : decode b_M_around 51 = .ok (.istore_n 2, 1) := by decide +kernel
theorem d_M_around_52 : decode b_M_around 52 = .ok (.iinc 3 1, 3) := by decide +kernel
theorem d_M_around_55 : decode b_M_around 55 = .ok (.goto (-37), 3) := by decide +kernel
theorem d_M_around_58 : decode b_M_around 58 = .ok (.iload_n 2, 1) := by decide +kernel
theorem d_M_around_59 : decode b_M_around 59 = .ok (.iconst 1, 1) := by decide +kernel
theorem d_M_around_60 : decode b_M_around 60 = .ok (.iload_n 1, 1) := by decide +kernel
theorem d_M_around_61 : decode b_M_around 61 = .ok (.ishl, 1) := by decide +kernel
theorem d_M_around_62 : decode b_M_around 62 = .ok (.iconst (-1), 1) := by decide +kernel
theorem d_M_around_63 : decode b_M_around 63 = .ok (.ixor, 1) := by decide +kernel
theorem d_M_around_64 : decode b_M_around 64 = .ok (.iand, 1) := by decide +kernel
theorem d_M_around_65 : decode b_M_around 65 = .ok (.ireturn, 1) := by decide +kernel
theorem d_M_collisions_0 : decode b_M_collisions 0 = .ok (.iconst 0, 1) := by decide +kernel
theorem d_M_collisions_1 : decode b_M_collisions 1 = .ok (.istore_n 1, 1) := by decide +kernel
theorem d_M_collisions_2 : decode b_M_collisions 2 = .ok (.iconst 0, 1) := by decide +kernel
theorem d_M_collisions_3 : decode b_M_collisions 3 = .ok (.istore_n 2, 1) := by decide +kernel
theorem d_M_collisions_4 : decode b_M_collisions 4 = .ok (.iload_n 2, 1) := by decide +kernel
theorem d_M_collisions_5 : decode b_M_collisions 5 = .ok (.aload_n 0, 1) := by decide +kernel
theorem d_M_collisions_6 : decode b_M_collisions 6 = .ok (.getfield 41, 3) := by decide +kernel
theorem d_M_collisions_9 : decode b_M_collisions 9 = .ok (.if_icmp .ge 67, 3) := by decide +kernel
theorem d_M_collisions_12 : decode b_M_collisions 12 = .ok (.iconst 0, 1) := by decide +kernel
theorem d_M_collisions_13 : decode b_M_collisions 13 = .ok (.istore_n 3, 1) := by decide +kernel
theorem d_M_collisions_14 : decode b_M_collisions 14 = .ok (.iload_n 3, 1) := by decide +kernel
theorem d_M_collisions_15 : decode b_M_collisions 15 = .ok (.aload_n 0, 1) := by decide +kernel
theorem d_M_collisions_16 : decode b_M_collisions 16 = .ok (.getfield 41, 3) := by decide +kernel
theorem d_M_collisions_19 : decode b_M_collisions 19 = .ok (.if_icmp .ge 51, 3) := by decide +kernel
theorem d_M_collisions_22 : decode b_M_collisions 22 = .ok (.iload_n 3, 1) := by decide +kernel
theorem d_M_collisions_23 : decode b_M_collisions 23 = .ok (.iconst 1, 1) := by decide +kernel
theorem d_M_collisions_24 : decode b_M_collisions 24 = .ok (.iadd, 1) := by decide +kernel
theorem d_M_collisions_25 : decode b_M_collisions 25 = .ok (.istore 4, 2) := by decide +kernel
theorem d_M_collisions_27 : decode b_M_collisions 27 = .ok (.iload 4, 2) := by decide +kernel
theorem d_M_collisions_29 : decode b_M_collisions 29 = .ok (.aload_n 0, 1) := by decide +kernel
theorem d_M_collisions_30 : decode b_M_collisions 30 = .ok (.getfield 41, 3) := by decide +kernel
theorem d_M_collisions_33 : decode b_M_collisions 33 = .ok (.if_icmp .ge 31, 3) := by decide +kernel
theorem d_M_collisions_36 : decode b_M_collisions 36 = .ok (.aload_n 0, 1) := by decide +kernel
theorem d_M_collisions_37 : decode b_M_collisions 37 = .ok (.getfield 7, 3) := by decide +kernel
theorem d_M_collisions_40 : decode b_M_collisions 40 = .ok (.iload_n 3, 1) := by decide +kernel
theorem d_M_collisions_41 : decode b_M_collisions 41 = .ok (.iload_n 2, 1) := by decide +kernel
theorem d_M_collisions_42 : decode b_M_collisions 42 = .ok (.iload 4, 2) := by decide +kernel
theorem d_M_collisions_44 : decode b_M_collisions 44 = .ok (.invokestatic 70, 3) := by decide +kernel
theorem d_M_collisions_47 : decode b_M_collisions 47 = .ok (.ifCond .eq 9, 3) := by decide +kernel
theorem d_M_collisions_50 : decode b_M_collisions 50 = .ok (.iload_n 1, 1) := by decide +kernel
theorem d_M_collisions_51 : decode b_M_collisions 51 = .ok (.iconst 1, 1) := by decide +kernel
theorem d_M_collisions_52 : decode b_M_collisions 52 = .ok (.iadd, 1) := by decide +kernel
theorem d_M_collisions_53 : decode b_M_collisions 53 = .ok (.goto 4, 3) := by decide +kernel
theorem d_M_collisions_56 : decode b_M_collisions 56 = .ok (.iload_n 1, 1) := by decide +kernel
theorem d_M_collisions_57 : decode b_M_collisions 57 = .ok (.istore_n 1, 1) := by decide +kernel
theorem d_M_collisions_58 : decode b_M_collisions 58 = .ok (.iinc 4 1, 3) := by decide +kernel
theorem d_M_collisions_61 : decode b_M_collisions 61 = .ok (.goto (-34), 3) := by decide +kernel
theorem d_M_collisions_64 : decode b_M_collisions 64 = .ok (.iinc 3 1, 3) := by decide +kernel
theorem d_M_collisions_67 : decode b_M_collisions 67 = .ok (.goto (-53), 3) := by decide +kernel
theorem d_M_collisions_70 : decode b_M_collisions 70 = .ok (.iinc 2 1, 3) := by decide +kernel
theorem d_M_collisions_73 : decode b_M_collisions 73 = .ok (.goto (-69), 3) := by decide +kernel
theorem d_M_collisions_76 : decode b_M_collisions 76 = .ok (.iload_n 1, 1) := by decide +kernel
theorem d_M_collisions_77 : decode b_M_collisions 77 = .ok (.ireturn, 1) := by decide +kernel
theorem d_M_collides_0 : decode b_M_collides 0 = .ok (.aload_n 0, 1) := by decide +kernel
theorem d_M_collides_1 : decode b_M_collides 1 = .ok (.bipush 6, 2) := by decide +kernel
theorem d_M_collides_3 : decode b_M_collides 3 = .ok (.iload_n 1, 1) := by decide +kernel
theorem d_M_collides_4 : decode b_M_collides 4 = .ok (.imul, 1) := by decide +kernel
theorem d_M_collides_5 : decode b_M_collides 5 = .ok (.iload_n 2, 1) := by decide +kernel
theorem d_M_collides_6 : decode b_M_collides 6 = .ok (.iadd, 1) := by decide +kernel
theorem d_M_collides_7 : decode b_M_collides 7 = .ok (.baload, 1) := by decide +kernel
theorem d_M_collides_8 : decode b_M_collides 8 = .ok (.ifCond .eq 40, 3) := by decide +kernel
theorem d_M_collides_11 : decode b_M_collides 11 = .ok (.aload_n 0, 1) := by decide +kernel
theorem d_M_collides_12 : decode b_M_collides 12 = .ok (.bipush 6, 2) := by decide +kernel
theorem d_M_collides_14 : decode b_M_collides 14 = .ok (.iload_n 3, 1) := by decide +kernel
theorem d_M_collides_15 : decode b_M_collides 15 = .ok (.imul, 1) := by decide +kernel
theorem d_M_collides_16 : decode b_M_collides 16 = .ok (.iload_n 2, 1) := by decide +kernel
theorem d_M_collides_17 : decode b_M_collides 17 = .ok (.iadd, 1) := by decide +kernel
theorem d_M_collides_18 : decode b_M_collides 18 = .ok (.baload, 1) := by decide +kernel
theorem d_M_collides_19 : decode b_M_collides 19 = .ok (.ifCond .eq 29, 3) := by decide +kernel
theorem d_M_collides_22 : decode b_M_collides 22 = .ok (.aload_n 0, 1) := by decide +kernel
theorem d_M_collides_23 : decode b_M_collides 23 = .ok (.bipush 6, 2) := by decide +kernel
theorem d_M_collides_25 : decode b_M_collides 25 = .ok (.iload_n 1, 1) := by decide +kernel
theorem d_M_collides_26 : decode b_M_collides 26 = .ok (.imul, 1) := by decide +kernel
theorem d_M_collides_27 : decode b_M_collides 27 = .ok (.iload_n 3, 1) := by decide +kernel
theorem d_M_collides_28 : decode b_M_collides 28 = .ok (.iadd, 1) := by decide +kernel
theorem d_M_collides_29 : decode b_M_collides 29 = .ok (.baload, 1) := by decide +kernel
theorem d_M_collides_30 : decode b_M_collides 30 = .ok (.ifCond .ne 18, 3) := by decide +kernel
theorem d_M_collides_33 : decode b_M_collides 33 = .ok (.aload_n 0, 1) := by decide +kernel
theorem d_M_collides_34 : decode b_M_collides 34 = .ok (.bipush 6, 2) := by decide +kernel
theorem d_M_collides_36 : decode b_M_collides 36 = .ok (.iload_n 3, 1) := by decide +kernel
theorem d_M_collides_37 : decode b_M_collides 37 = .ok (.imul, 1) := by decide +kernel
theorem d_M_collides_38 : decode b_M_collides 38 = .ok (.iload_n 1, 1) := by decide +kernel
theorem d_M_collides_39 : decode b_M_collides 39 = .ok (.iadd, 1) := by decide +kernel
theorem d_M_collides_40 : decode b_M_collides 40 = .ok (.baload, 1) := by decide +kernel
theorem d_M_collides_41 : decode b_M_collides 41 = .ok (.ifCond .ne 7, 3) := by decide +kernel
theorem d_M_collides_44 : decode b_M_collides 44 = .ok (.iconst 1, 1) := by decide +kernel
theorem d_M_collides_45 : decode b_M_collides 45 = .ok (.goto 4, 3) := by decide +kernel
theorem d_M_collides_48 : decode b_M_collides 48 = .ok (.iconst 0, 1) := by decide +kernel
theorem d_M_collides_49 : decode b_M_collides 49 = .ok (.ireturn, 1) := by decide +kernel
theorem d_M_covered_0 : decode b_M_covered 0 = .ok (.aload_n 0, 1) := by decide +kernel
theorem d_M_covered_1 : decode b_M_covered 1 = .ok (.iload_n 1, 1) := by decide +kernel
theorem d_M_covered_2 : decode b_M_covered 2 = .ok (.iload_n 2, 1) := by decide +kernel
theorem d_M_covered_3 : decode b_M_covered 3 = .ok (.invokevirtual 74, 3) := by decide +kernel
theorem d_M_covered_6 : decode b_M_covered 6 = .ok (.ifCond .eq 24, 3) := by decide +kernel
theorem d_M_covered_9 : decode b_M_covered 9 = .ok (.aload_n 0, 1) := by decide +kernel
theorem d_M_covered_10 : decode b_M_covered 10 = .ok (.iload_n 2, 1) := by decide +kernel
theorem d_M_covered_11 : decode b_M_covered 11 = .ok (.invokevirtual 67, 3) := by decide +kernel
theorem d_M_covered_14 : decode b_M_covered 14 = .ok (.aload_n 0, 1) := by decide +kernel
theorem d_M_covered_15 : decode b_M_covered 15 = .ok (.iload_n 1, 1) := by decide +kernel
theorem d_M_covered_16 : decode b_M_covered 16 = .ok (.invokevirtual 67, 3) := by decide +kernel
theorem d_M_covered_19 : decode b_M_covered 19 = .ok (.iconst 1, 1) := by decide +kernel
theorem d_M_covered_20 : decode b_M_covered 20 = .ok (.iload_n 1, 1) := by decide +kernel
theorem d_M_covered_21 : decode b_M_covered 21 = .ok (.ishl, 1) := by decide +kernel
theorem d_M_covered_22 : decode b_M_covered 22 = .ok (.ior, 1) := by decide +kernel
theorem d_M_covered_23 : decode b_M_covered 23 = .ok (.if_icmp .ne 7, 3) := by decide +kernel
theorem d_M_covered_26 : decode b_M_covered 26 = .ok (.iconst 1, 1) := by decide +kernel
theorem d_M_covered_27 : decode b_M_covered 27 = .ok (.goto 4, 3) := by decide +kernel
theorem d_M_covered_30 : decode b_M_covered 30 = .ok (.iconst 0, 1) := by decide +kernel
theorem d_M_covered_31 : decode b_M_covered 31 = .ok (.ireturn, 1) := by decide +kernel
theorem d_M_separated_0 : decode b_M_separated 0 = .ok (.aload_n 0, 1) := by decide +kernel
theorem d_M_separated_1 : decode b_M_separated 1 = .ok (.iload_n 1, 1) := by decide +kernel
theorem d_M_separated_2 : decode b_M_separated 2 = .ok (.iload_n 2, 1) := by decide +kernel
theorem d_M_separated_3 : decode b_M_separated 3 = .ok (.invokevirtual 49, 3) := by decide +kernel
theorem d_M_separated_6 : decode b_M_separated 6 = .ok (.ifCond .eq 35, 3) := by decide +kernel
theorem d_M_separated_9 : decode b_M_separated 9 = .ok (.iload_n 3, 1) := by decide +kernel
theorem d_M_separated_10 : decode b_M_separated 10 = .ok (.ifCond .lt 31, 3) := by decide +kernel
theorem d_M_separated_13 : decode b_M_separated 13 = .ok (.iload_n 3, 1) := by decide +kernel
theorem d_M_separated_14 : decode b_M_separated 14 = .ok (.iconst 1, 1) := by decide +kernel
theorem d_M_separated_15 : decode b_M_separated 15 = .ok (.aload_n 0, 1) := by decide +kernel
theorem d_M_separated_16 : decode b_M_separated 16 = .ok (.getfield 41, 3) := by decide +kernel
theorem d_M_separated_19 : decode b_M_separated 19 = .ok (.ishl, 1) := by decide +kernel
theorem d_M_separated_20 : decode b_M_separated 20 = .ok (.if_icmp .ge 21, 3) := by decide +kernel
theorem d_M_separated_23 : decode b_M_separated 23 = .ok (.iload_n 3, 1) := by decide +kernel
theorem d_M_separated_24 : decode b_M_separated 24 = .ok (.iload_n 1, 1) := by decide +kernel
theorem d_M_separated_25 : decode b_M_separated 25 = .ok (.ishr, 1) := by decide +kernel
theorem d_M_separated_26 : decode b_M_separated 26 = .ok (.iconst 1, 1) := by decide +kernel
theorem d_M_separated_27 : decode b_M_separated 27 = .ok (.iand, 1) := by decide +kernel
theorem d_M_separated_28 : decode b_M_separated 28 = .ok (.iconst 1, 1) := by decide +kernel
theorem d_M_separated_29 : decode b_M_separated 29 = .ok (.if_icmp .eq 12, 3) := by decide +kernel
theorem d_M_separated_32 : decode b_M_separated 32 = .ok (.iload_n 3, 1) := by decide +kernel
theorem d_M_separated_33 : decode b_M_separated 33 = .ok (.iload_n 2, 1) := by decide +kernel
theorem d_M_separated_34 : decode b_M_separated 34 = .ok (.ishr, 1) := by decide +kernel
theorem d_M_separated_35 : decode b_M_separated 35 = .ok (.iconst 1, 1) := by decide +kernel
theorem d_M_separated_36 : decode b_M_separated 36 = .ok (.iand, 1) := by decide +kernel
theorem d_M_separated_37 : decode b_M_separated 37 = .ok (.iconst 1, 1) := by decide +kernel
theorem d_M_separated_38 : decode b_M_separated 38 = .ok (.if_icmp .ne 5, 3) := by decide +kernel
theorem d_M_separated_41 : decode b_M_separated 41 = .ok (.iconst 0, 1) := by decide +kernel
theorem d_M_separated_42 : decode b_M_separated 42 = .ok (.ireturn, 1) := by decide +kernel
theorem d_M_separated_43 : decode b_M_separated 43 = .ok (.aload_n 0, 1) := by decide +kernel
theorem d_M_separated_44 : decode b_M_separated 44 = .ok (.iload_n 1, 1) := by decide +kernel
theorem d_M_separated_45 : decode b_M_separated 45 = .ok (.iload_n 2, 1) := by decide +kernel
theorem d_M_separated_46 : decode b_M_separated 46 = .ok (.iload_n 3, 1) := by decide +kernel
theorem d_M_separated_47 : decode b_M_separated 47 = .ok (.invokevirtual 83, 3) := by decide +kernel
theorem d_M_separated_50 : decode b_M_separated 50 = .ok (.ireturn, 1) := by decide +kernel
theorem d_M_allBlocked_0 : decode b_M_allBlocked 0 = .ok (.iconst 0, 1) := by decide +kernel
theorem d_M_allBlocked_1 : decode b_M_allBlocked 1 = .ok (.istore 4, 2) := by decide +kernel
theorem d_M_allBlocked_3 : decode b_M_allBlocked 3 = .ok (.iload 4, 2) := by decide +kernel
theorem d_M_allBlocked_5 : decode b_M_allBlocked 5 = .ok (.aload_n 0, 1) := by decide +kernel
theorem d_M_allBlocked_6 : decode b_M_allBlocked 6 = .ok (.getfield 41, 3) := by decide +kernel
theorem d_M_allBlocked_9 : decode b_M_allBlocked 9 = .ok (.if_icmp .ge 22, 3) := by decide +kernel
theorem d_M_allBlocked_12 : decode b_M_allBlocked 12 = .ok (.aload_n 0, 1) := by decide +kernel
theorem d_M_allBlocked_13 : decode b_M_allBlocked 13 = .ok (.getfield 38, 3) := by decide +kernel
theorem d_M_allBlocked_16 : decode b_M_allBlocked 16 = .ok (.iload 4, 2) := by decide +kernel
theorem d_M_allBlocked_18 : decode b_M_allBlocked 18 = .ok (.aload_n 0, 1) := by decide +kernel
theorem d_M_allBlocked_19 : decode b_M_allBlocked 19 = .ok (.iload 4, 2) := by decide +kernel
theorem d_M_allBlocked_21 : decode b_M_allBlocked 21 = .ok (.invokevirtual 60, 3) := by decide +kernel
theorem d_M_allBlocked_24 : decode b_M_allBlocked 24 = .ok (.iastore, 1) := by decide +kernel
theorem d_M_allBlocked_25 : decode b_M_allBlocked 25 = .ok (.iinc 4 1, 3) := by decide +kernel
theorem d_M_allBlocked_28 : decode b_M_allBlocked 28 = .ok (.goto (-25), 3) := by decide +kernel
theorem d_M_allBlocked_31 : decode b_M_allBlocked 31 = .ok (.iconst 1, 1) := by decide +kernel
theorem d_M_allBlocked_32 : decode b_M_allBlocked 32 = .ok (.istore 4, 2) := by decide +kernel
theorem d_M_allBlocked_34 : decode b_M_allBlocked 34 = .ok (.aload_n 0, 1) := by decide +kernel
theorem d_M_allBlocked_35 : decode b_M_allBlocked 35 = .ok (.getfield 32, 3) := by decide +kernel
theorem d_M_allBlocked_38 : decode b_M_allBlocked 38 = .ok (.iconst 0, 1) := by decide +kernel
theorem d_M_allBlocked_39 : decode b_M_allBlocked 39 = .ok (.iload_n 1, 1) := by decide +kernel
theorem d_M_allBlocked_40 : decode b_M_allBlocked 40 = .ok (.iastore, 1) := by decide +kernel
theorem d_M_allBlocked_41 : decode b_M_allBlocked 41 = .ok (.aload_n 0, 1) := by decide +kernel
theorem d_M_allBlocked_42 : decode b_M_allBlocked 42 = .ok (.getfield 35, 3) := by decide +kernel
theorem d_M_allBlocked_45 : decode b_M_allBlocked 45 = .ok (.iconst 0, 1) := by decide +kernel
theorem d_M_allBlocked_46 : decode b_M_allBlocked 46 = .ok (.iconst 0, 1) := by decide +kernel
theorem d_M_allBlocked_47 : decode b_M_allBlocked 47 = .ok (.iastore, 1) := by decide +kernel
theorem d_M_allBlocked_48 : decode b_M_allBlocked 48 = .ok (.iload 4, 2) := by decide +kernel
theorem d_M_allBlocked_50 : decode b_M_allBlocked 50 = .ok (.ifCond .le 128, 3) := by decide +kernel
theorem d_M_allBlocked_53 : decode b_M_allBlocked 53 = .ok (.iload 4, 2) := by decide +kernel
theorem d_M_allBlocked_55 : decode b_M_allBlocked 55 = .ok (.iconst 1, 1) := by decide +kernel
theorem d_M_allBlocked_56 : decode b_M_allBlocked 56 = .ok (.isub, 1) := by decide +kernel
theorem d_M_allBlocked_57 : decode b_M_allBlocked 57 = .ok (.istore 5, 2) := by decide +kernel
theorem d_M_allBlocked_59 : decode b_M_allBlocked 59 = .ok (.aload_n 0, 1) := by decide +kernel
theorem d_M_allBlocked_60 : decode b_M_allBlocked 60 = .ok (.getfield 35, 3) := by decide +kernel
theorem d_M_allBlocked_63 : decode b_M_allBlocked 63 = .ok (.iload 5, 2) := by decide +kernel
theorem d_M_allBlocked_65 : decode b_M_allBlocked 65 = .ok (.iaload, 1) := by decide +kernel
theorem d_M_allBlocked_66 : decode b_M_allBlocked 66 = .ok (.istore 6, 2) := by decide +kernel
theorem d_M_allBlocked_68 : decode b_M_allBlocked 68 = .ok (.iload 6, 2) := by decide +kernel
theorem d_M_allBlocked_70 : decode b_M_allBlocked 70 = .ok (.aload_n 0, 1) := by decide +kernel
theorem d_M_allBlocked_71 : decode b_M_allBlocked 71 = .ok (.getfield 41, 3) := by decide +kernel
theorem d_M_allBlocked_74 : decode b_M_allBlocked 74 = .ok (.if_icmp .eq 14, 3) := by decide +kernel
theorem d_M_allBlocked_77 : decode b_M_allBlocked 77 = .ok (.aload_n 0, 1) := by decide +kernel
theorem d_M_allBlocked_78 : decode b_M_allBlocked 78 = .ok (.getfield 32, 3) := by decide +kernel
theorem d_M_allBlocked_81 : decode b_M_allBlocked 81 = .ok (.iload 5, 2) := by decide +kernel
theorem d_M_allBlocked_83 : decode b_M_allBlocked 83 = .ok (.iaload, 1) := by decide +kernel
theorem d_M_allBlocked_84 : decode b_M_allBlocked 84 = .ok (.iload_n 2, 1) := by decide +kernel
theorem d_M_allBlocked_85 : decode b_M_allBlocked 85 = .ok (.if_icmp .ne 32, 3) := by decide +kernel
theorem d_M_allBlocked_88 : decode b_M_allBlocked 88 = .ok (.aload_n 0, 1) := by decide +kernel
theorem d_M_allBlocked_89 : decode b_M_allBlocked 89 = .ok (.getfield 32, 3) := by decide +kernel
theorem d_M_allBlocked_92 : decode b_M_allBlocked 92 = .ok (.iload 5, 2) := by decide +kernel
theorem d_M_allBlocked_94 : decode b_M_allBlocked 94 = .ok (.iaload, 1) := by decide +kernel
theorem d_M_allBlocked_95 : decode b_M_allBlocked 95 = .ok (.iload_n 2, 1) := by decide +kernel
theorem d_M_allBlocked_96 : decode b_M_allBlocked 96 = .ok (.if_icmp .ne 15, 3) := by decide +kernel
theorem d_M_allBlocked_99 : decode b_M_allBlocked 99 = .ok (.aload_n 0, 1) := by decide +kernel
theorem d_M_allBlocked_100 : decode b_M_allBlocked 100 = .ok (.iload 4, 2) := by decide +kernel
theorem d_M_allBlocked_102 : decode b_M_allBlocked 102 = .ok (.iload_n 3, 1) := by decide +kernel
theorem d_M_allBlocked_103 : decode b_M_allBlocked 103 = .ok (.invokevirtual 77, 3) := by decide +kernel
theorem d_M_allBlocked_106 : decode b_M_allBlocked 106 = .ok (.ifCond .ne 5, 3) := by decide +kernel
theorem d_M_allBlocked_109 : decode b_M_allBlocked 109 = .ok (.iconst 0, 1) := by decide +kernel
theorem d_M_allBlocked_110 : decode b_M_allBlocked 110 = .ok (.ireturn, 1) := by decide +kernel
theorem d_M_allBlocked_111 : decode b_M_allBlocked 111 = .ok (.iinc 4 (-1), 3) := by decide +kernel
theorem d_M_allBlocked_114 : decode b_M_allBlocked 114 = .ok (.goto 61, 3) := by decide +kernel
theorem d_M_allBlocked_117 : decode b_M_allBlocked 117 = .ok (.aload_n 0, 1) := by decide +kernel
theorem d_M_allBlocked_118 : decode b_M_allBlocked 118 = .ok (.getfield 35, 3) := by decide +kernel
theorem d_M_allBlocked_121 : decode b_M_allBlocked 121 = .ok (.iload 5, 2) := by decide +kernel
theorem d_M_allBlocked_123 : decode b_M_allBlocked 123 = .ok (.dup2, 1) := by decide +kernel
theorem d_M_allBlocked_124 : decode b_M_allBlocked 124 = .ok (.iaload, 1) := by decide +kernel
theorem d_M_allBlocked_125 : decode b_M_allBlocked 125 = .ok (.iconst 1, 1) := by decide +kernel
theorem d_M_allBlocked_126 : decode b_M_allBlocked 126 = .ok (.iadd, 1) := by decide +kernel
theorem d_M_allBlocked_127 : decode b_M_allBlocked 127 = .ok (.iastore, 1) := by decide +kernel
theorem d_M_allBlocked_128 : decode b_M_allBlocked 128 = .ok (.aload_n 0, 1) := by decide +kernel
theorem d_M_allBlocked_129 : decode b_M_allBlocked 129 = .ok (.aload_n 0, 1) := by decide +kernel
theorem d_M_allBlocked_130 : decode b_M_allBlocked 130 = .ok (.getfield 32, 3) := by decide +kernel
theorem d_M_allBlocked_133 : decode b_M_allBlocked 133 = .ok (.iload 5, 2) := by decide +kernel
theorem d_M_allBlocked_135 : decode b_M_allBlocked 135 = .ok (.iaload, 1) := by decide +kernel
theorem d_M_allBlocked_136 : decode b_M_allBlocked 136 = .ok (.iload 6, 2) := by decide +kernel
theorem d_M_allBlocked_138 : decode b_M_allBlocked 138 = .ok (.invokevirtual 53, 3) := by decide +kernel
theorem d_M_allBlocked_141 : decode b_M_allBlocked 141 = .ok (.ifCond .eq 34, 3) := by decide +kernel
theorem d_M_allBlocked_144 : decode b_M_allBlocked 144 = .ok (.aload_n 0, 1) := by decide +kernel
theorem d_M_allBlocked_145 : decode b_M_allBlocked 145 = .ok (.iload 6, 2) := by decide +kernel
theorem d_M_allBlocked_147 : decode b_M_allBlocked 147 = .ok (.iload 4, 2) := by decide +kernel
theorem d_M_allBlocked_149 : decode b_M_allBlocked 149 = .ok (.invokevirtual 80, 3) := by decide +kernel
theorem d_M_allBlocked_152 : decode b_M_allBlocked 152 = .ok (.ifCond .ne 23, 3) := by decide +kernel
theorem d_M_allBlocked_155 : decode b_M_allBlocked 155 = .ok (.aload_n 0, 1) := by decide +kernel
theorem d_M_allBlocked_156 : decode b_M_allBlocked 156 = .ok (.getfield 32, 3) := by decide +kernel
theorem d_M_allBlocked_159 : decode b_M_allBlocked 159 = .ok (.iload 4, 2) := by decide +kernel
theorem d_M_allBlocked_161 : decode b_M_allBlocked 161 = .ok (.iload 6, 2) := by decide +kernel
theorem d_M_allBlocked_163 : decode b_M_allBlocked 163 = .ok (.iastore, 1) := by decide +kernel
theorem d_M_allBlocked_164 : decode b_M_allBlocked 164 = .ok (.aload_n 0, 1) := by decide +kernel
theorem d_M_allBlocked_165 : decode b_M_allBlocked 165 = .ok (.getfield 35, 3) := by decide +kernel
theorem d_M_allBlocked_168 : decode b_M_allBlocked 168 = .ok (.iload 4, 2) := by decide +kernel
theorem d_M_allBlocked_170 : decode b_M_allBlocked 170 = .ok (.iconst 0, 1) := by decide +kernel
theorem d_M_allBlocked_171 : decode b_M_allBlocked 171 = .ok (.iastore, 1) := by decide +kernel
theorem d_M_allBlocked_172 : decode b_M_allBlocked 172 = .ok (.iinc 4 1, 3) := by decide +kernel
theorem d_M_allBlocked_175 : decode b_M_allBlocked 175 = .ok (.goto (-127), 3) := by decide +kernel
theorem d_M_allBlocked_178 : decode b_M_allBlocked 178 = .ok (.iconst 1, 1) := by decide +kernel
theorem d_M_allBlocked_179 : decode b_M_allBlocked 179 = .ok (.ireturn, 1) := by decide +kernel
theorem d_M_blocked_0 : decode b_M_blocked 0 = .ok (.iconst 1, 1) := by decide +kernel
theorem d_M_blocked_1 : decode b_M_blocked 1 = .ok (.istore_n 3, 1) := by decide +kernel
theorem d_M_blocked_2 : decode b_M_blocked 2 = .ok (.iload_n 3, 1) := by decide +kernel
theorem d_M_blocked_3 : decode b_M_blocked 3 = .ok (.iload_n 1, 1) := by decide +kernel
theorem d_M_blocked_4 : decode b_M_blocked 4 = .ok (.iconst 1, 1) := by decide +kernel
theorem d_M_blocked_5 : decode b_M_blocked 5 = .ok (.isub, 1) := by decide +kernel
theorem d_M_blocked_6 : decode b_M_blocked 6 = .ok (.if_icmp .ge 100, 3) := by decide +kernel
theorem d_M_blocked_9 : decode b_M_blocked 9 = .ok (.aload_n 0, 1) := by decide +kernel
theorem d_M_blocked_10 : decode b_M_blocked 10 = .ok (.getfield 32, 3) := by decide +kernel
theorem d_M_blocked_13 : decode b_M_blocked 13 = .ok (.iload_n 3, 1) := by decide +kernel
theorem d_M_blocked_14 : decode b_M_blocked 14 = .ok (.iaload, 1) := by decide +kernel
theorem d_M_blocked_15 : decode b_M_blocked 15 = .ok (.istore 4, 2) := by decide +kernel
theorem d_M_blocked_17 : decode b_M_blocked 17 = .ok (.aload_n 0, 1) := by decide +kernel
theorem d_M_blocked_18 : decode b_M_blocked 18 = .ok (.getfield 7, 3) := by decide +kernel
theorem d_M_blocked_21 : decode b_M_blocked 21 = .ok (.bipush 6, 2) := by decide +kernel
theorem d_M_blocked_23 : decode b_M_blocked 23 = .ok (.aload_n 0, 1) := by decide +kernel
theorem d_M_blocked_24 : decode b_M_blocked 24 = .ok (.getfield 32, 3) := by decide +kernel
theorem d_M_blocked_27 : decode b_M_blocked 27 = .ok (.iload_n 3, 1) := by decide +kernel
theorem d_M_blocked_28 : decode b_M_blocked 28 = .ok (.iconst 1, 1) := by decide +kernel
theorem d_M_blocked_29 : decode b_M_blocked 29 = .ok (.isub, 1) := by decide +kernel
theorem d_M_blocked_30 : decode b_M_blocked 30 = .ok (.iaload, 1) := by decide +kernel
theorem d_M_blocked_31 : decode b_M_blocked 31 = .ok (.imul, 1) := by decide +kernel
theorem d_M_blocked_32 : decode b_M_blocked 32 = .ok (.iload 4, 2) := by decide +kernel
theorem d_M_blocked_34 : decode b_M_blocked 34 = .ok (.iadd, 1) := by decide +kernel
theorem d_M_blocked_35 : decode b_M_blocked 35 = .ok (.baload, 1) := by decide +kernel
theorem d_M_blocked_36 : decode b_M_blocked 36 = .ok (.ifCond .eq 29, 3) := by decide +kernel
theorem d_M_blocked_39 : decode b_M_blocked 39 = .ok (.aload_n 0, 1) := by decide +kernel
theorem d_M_blocked_40 : decode b_M_blocked 40 = .ok (.getfield 7, 3) := by decide +kernel
theorem d_M_blocked_43 : decode b_M_blocked 43 = .ok (.bipush 6, 2) := by decide +kernel
theorem d_M_blocked_45 : decode b_M_blocked 45 = .ok (.aload_n 0, 1) := by decide +kernel
theorem d_M_blocked_46 : decode b_M_blocked 46 = .ok (.getfield 32, 3) := by decide +kernel
theorem d_M_blocked_49 : decode b_M_blocked 49 = .ok (.iload_n 3, 1) := by decide +kernel
theorem d_M_blocked_50 : decode b_M_blocked 50 = .ok (.iconst 1, 1) := by decide +kernel
theorem d_M_blocked_51 : decode b_M_blocked 51 = .ok (.iadd, 1) := by decide +kernel
theorem d_M_blocked_52 : decode b_M_blocked 52 = .ok (.iaload, 1) := by decide +kernel
theorem d_M_blocked_53 : decode b_M_blocked 53 = .ok (.imul, 1) := by decide +kernel
theorem d_M_blocked_54 : decode b_M_blocked 54 = .ok (.iload 4, 2) := by decide +kernel
theorem d_M_blocked_56 : decode b_M_blocked 56 = .ok (.iadd, 1) := by decide +kernel
theorem d_M_blocked_57 : decode b_M_blocked 57 = .ok (.baload, 1) := by decide +kernel
theorem d_M_blocked_58 : decode b_M_blocked 58 = .ok (.ifCond .eq 7, 3) := by decide +kernel
theorem d_M_blocked_61 : decode b_M_blocked 61 = .ok (.iconst 1, 1) := by decide +kernel
theorem d_M_blocked_62 : decode b_M_blocked 62 = .ok (.goto 4, 3) := by decide +kernel
theorem d_M_blocked_65 : decode b_M_blocked 65 = .ok (.iconst 0, 1) := by decide +kernel
theorem d_M_blocked_66 : decode b_M_blocked 66 = .ok (.istore 5, 2) := by decide +kernel
theorem d_M_blocked_68 : decode b_M_blocked 68 = .ok (.iload 5, 2) := by decide +kernel
theorem d_M_blocked_70 : decode b_M_blocked 70 = .ok (.ifCond .eq 18, 3) := by decide +kernel
theorem d_M_blocked_73 : decode b_M_blocked 73 = .ok (.aload_n 0, 1) := by decide +kernel
theorem d_M_blocked_74 : decode b_M_blocked 74 = .ok (.getfield 38, 3) := by decide +kernel
theorem d_M_blocked_77 : decode b_M_blocked 77 = .ok (.iload 4, 2) := by decide +kernel
theorem d_M_blocked_79 : decode b_M_blocked 79 = .ok (.iaload, 1) := by decide +kernel
theorem d_M_blocked_80 : decode b_M_blocked 80 = .ok (.iload_n 2, 1) := by decide +kernel
theorem d_M_blocked_81 : decode b_M_blocked 81 = .ok (.iand, 1) := by decide +kernel
theorem d_M_blocked_82 : decode b_M_blocked 82 = .ok (.ifCond .ne 18, 3) := by decide +kernel
theorem d_M_blocked_85 : decode b_M_blocked 85 = .ok (.goto 13, 3) := by decide +kernel
theorem d_M_blocked_88 : decode b_M_blocked 88 = .ok (.iload_n 2, 1) := by decide +kernel
theorem d_M_blocked_89 : decode b_M_blocked 89 = .ok (.iload 4, 2) := by decide +kernel
theorem d_M_blocked_91 : decode b_M_blocked 91 = .ok (.ishr, 1) := by decide +kernel
theorem d_M_blocked_92 : decode b_M_blocked 92 = .ok (.iconst 1, 1) := by decide +kernel
theorem d_M_blocked_93 : decode b_M_blocked 93 = .ok (.iand, 1) := by decide +kernel
theorem d_M_blocked_94 : decode b_M_blocked 94 = .ok (.iconst 1, 1) := by decide +kernel
theorem d_M_blocked_95 : decode b_M_blocked 95 = .ok (.if_icmp .ne 5, 3) := by decide +kernel
theorem d_M_blocked_98 : decode b_M_blocked 98 = .ok (.iconst 1, 1) := by decide +kernel
theorem d_M_blocked_99 : decode b_M_blocked 99 = .ok (.ireturn, 1) := by decide +kernel
theorem d_M_blocked_100 : decode b_M_blocked 100 = .ok (.iinc 3 1, 3) := by decide +kernel
theorem d_M_blocked_103 : decode b_M_blocked 103 = .ok (.goto (-101), 3) := by decide +kernel
theorem d_M_blocked_106 : decode b_M_blocked 106 = .ok (.iconst 0, 1) := by decide +kernel
theorem d_M_blocked_107 : decode b_M_blocked 107 = .ok (.ireturn, 1) := by decide +kernel
theorem d_M_onPath_0 : decode b_M_onPath 0 = .ok (.iconst 0, 1) := by decide +kernel
theorem d_M_onPath_1 : decode b_M_onPath 1 = .ok (.istore_n 3, 1) := by decide +kernel
theorem d_M_onPath_2 : decode b_M_onPath 2 = .ok (.iconst 0, 1) := by decide +kernel
theorem d_M_onPath_3 : decode b_M_onPath 3 = .ok (.istore 4, 2) := by decide +kernel
theorem d_M_onPath_5 : decode b_M_onPath 5 = .ok (.iload 4, 2) := by decide +kernel
theorem d_M_onPath_7 : decode b_M_onPath 7 = .ok (.iload_n 2, 1) := by decide +kernel
theorem d_M_onPath_8 : decode b_M_onPath 8 = .ok (.if_icmp .ge 30, 3) := by decide +kernel
theorem d_M_onPath_11 : decode b_M_onPath 11 = .ok (.iload_n 3, 1) := by decide +kernel
theorem d_M_onPath_12 : decode b_M_onPath 12 = .ok (.ifCond .ne 14, 3) := by decide +kernel
theorem d_M_onPath_15 : decode b_M_onPath 15 = .ok (.aload_n 0, 1) := by decide +kernel
theorem d_M_onPath_16 : decode b_M_onPath 16 = .ok (.getfield 32, 3) := by decide +kernel
theorem d_M_onPath_19 : decode b_M_onPath 19 = .ok (.iload 4, 2) := by decide +kernel
theorem d_M_onPath_21 : decode b_M_onPath 21 = .ok (.iaload, 1) := by decide +kernel
theorem d_M_onPath_22 : decode b_M_onPath 22 = .ok (.iload_n 1, 1) := by decide +kernel
theorem d_M_onPath_23 : decode b_M_onPath 23 = .ok (.if_icmp .ne 7, 3) := by decide +kernel
theorem d_M_onPath_26 : decode b_M_onPath 26 = .ok (.iconst 1, 1) := by decide +kernel
theorem d_M_onPath_27 : decode b_M_onPath 27 = .ok (.goto 4, 3) := by decide +kernel
theorem d_M_onPath_30 : decode b_M_onPath 30 = .ok (.iconst 0, 1) := by decide +kernel
theorem d_M_onPath_31 : decode b_M_onPath 31 = .ok (.istore_n 3, 1) := by decide +kernel
theorem d_M_onPath_32 : decode b_M_onPath 32 = .ok (.iinc 4 1, 3) := by decide +kernel
theorem d_M_onPath_35 : decode b_M_onPath 35 = .ok (.goto (-30), 3) := by decide +kernel
theorem d_M_onPath_38 : decode b_M_onPath 38 = .ok (.iload_n 3, 1) := by decide +kernel
theorem d_M_onPath_39 : decode b_M_onPath 39 = .ok (.ireturn, 1) := by decide +kernel
theorem d_M_separator_0 : decode b_M_separator 0 = .ok (.aload_n 0, 1) := by decide +kernel
theorem d_M_separator_1 : decode b_M_separator 1 = .ok (.iload_n 1, 1) := by decide +kernel
theorem d_M_separator_2 : decode b_M_separator 2 = .ok (.iload_n 2, 1) := by decide +kernel
theorem d_M_separator_3 : decode b_M_separator 3 = .ok (.invokevirtual 49, 3) := by decide +kernel
theorem d_M_separator_6 : decode b_M_separator 6 = .ok (.ifCond .ne 5, 3) := by decide +kernel
theorem d_M_separator_9 : decode b_M_separator 9 = .ok (.iconst (-1), 1) := by decide +kernel
theorem d_M_separator_10 : decode b_M_separator 10 = .ok (.ireturn, 1) := by decide +kernel
theorem d_M_separator_11 : decode b_M_separator 11 = .ok (.iconst 0, 1) := by decide +kernel
theorem d_M_separator_12 : decode b_M_separator 12 = .ok (.istore_n 3, 1) := by decide +kernel
theorem d_M_separator_13 : decode b_M_separator 13 = .ok (.iload_n 3, 1) := by decide +kernel
theorem d_M_separator_14 : decode b_M_separator 14 = .ok (.aload_n 0, 1) := by decide +kernel
theorem d_M_separator_15 : decode b_M_separator 15 = .ok (.getfield 41, 3) := by decide +kernel
theorem d_M_separator_18 : decode b_M_separator 18 = .ok (.if_icmp .gt 52, 3) := by decide +kernel
theorem d_M_separator_21 : decode b_M_separator 21 = .ok (.iconst 0, 1) := by decide +kernel
theorem d_M_separator_22 : decode b_M_separator 22 = .ok (.istore 4, 2) := by decide +kernel
theorem d_M_separator_24 : decode b_M_separator 24 = .ok (.iload 4, 2) := by decide +kernel
theorem d_M_separator_26 : decode b_M_separator 26 = .ok (.iconst 1, 1) := by decide +kernel
theorem d_M_separator_27 : decode b_M_separator 27 = .ok (.aload_n 0, 1) := by decide +kernel
theorem d_M_separator_28 : decode b_M_separator 28 = .ok (.getfield 41, 3) := by decide +kernel
theorem d_M_separator_31 : decode b_M_separator 31 = .ok (.ishl, 1) := by decide +kernel
theorem d_M_separator_32 : decode b_M_separator 32 = .ok (.if_icmp .ge 32, 3) := by decide +kernel
theorem d_M_separator_35 : decode b_M_separator 35 = .ok (.iload 4, 2) := by decide +kernel
theorem d_M_separator_37 : decode b_M_separator 37 = .ok (.invokestatic 87, 3) := by decide +kernel
theorem d_M_separator_40 : decode b_M_separator 40 = .ok (.iload_n 3, 1) := by decide +kernel
theorem d_M_separator_41 : decode b_M_separator 41 = .ok (.if_icmp .ne 17, 3) := by decide +kernel
theorem d_M_separator_44 : decode b_M_separator 44 = .ok (.aload_n 0, 1) := by decide +kernel
theorem d_M_separator_45 : decode b_M_separator 45 = .ok (.iload_n 1, 1) := by decide +kernel
theorem d_M_separator_46 : decode b_M_separator 46 = .ok (.iload_n 2, 1) := by decide +kernel
theorem d_M_separator_47 : decode b_M_separator 47 = .ok (.iload 4, 2) := by decide +kernel
theorem d_M_separator_49 : decode b_M_separator 49 = .ok (.invokevirtual 90, 3) := by decide +kernel
theorem d_M_separator_52 : decode b_M_separator 52 = .ok (.ifCond .eq 6, 3) := by decide +kernel
theorem d_M_separator_55 : decode b_M_separator 55 = .ok (.iload 4, 2) := by decide +kernel
theorem d_M_separator_57 : decode b_M_separator 57 = .ok (.ireturn, 1) := by decide +kernel
theorem d_M_separator_58 : decode b_M_separator 58 = .ok (.iinc 4 1, 3) := by decide +kernel
theorem d_M_separator_61 : decode b_M_separator 61 = .ok (.goto (-37), 3) := by decide +kernel
theorem d_M_separator_64 : decode b_M_separator 64 = .ok (.iinc 3 1, 3) := by decide +kernel
theorem d_M_separator_67 : decode b_M_separator 67 = .ok (.goto (-54), 3) := by decide +kernel
theorem d_M_separator_70 : decode b_M_separator 70 = .ok (.iconst (-1), 1) := by decide +kernel
theorem d_M_separator_71 : decode b_M_separator 71 = .ok (.ireturn, 1) := by decide +kernel
theorem d_M_size_0 : decode b_M_size 0 = .ok (.iconst 0, 1) := by decide +kernel
theorem d_M_size_1 : decode b_M_size 1 = .ok (.istore_n 1, 1) := by decide +kernel
theorem d_M_size_2 : decode b_M_size 2 = .ok (.iconst 0, 1) := by decide +kernel
theorem d_M_size_3 : decode b_M_size 3 = .ok (.istore_n 2, 1) := by decide +kernel
theorem d_M_size_4 : decode b_M_size 4 = .ok (.iload_n 2, 1) := by decide +kernel
theorem d_M_size_5 : decode b_M_size 5 = .ok (.bipush 6, 2) := by decide +kernel
theorem d_M_size_7 : decode b_M_size 7 = .ok (.if_icmp .ge 17, 3) := by decide +kernel
theorem d_M_size_10 : decode b_M_size 10 = .ok (.iload_n 1, 1) := by decide +kernel
theorem d_M_size_11 : decode b_M_size 11 = .ok (.iload_n 0, 1) := by decide +kernel
theorem d_M_size_12 : decode b_M_size 12 = .ok (.iload_n 2, 1) := by decide +kernel
theorem d_M_size_13 : decode b_M_size 13 = .ok (.ishr, 1) := by decide +kernel
theorem d_M_size_14 : decode b_M_size 14 = .ok (.iconst 1, 1) := by decide +kernel
theorem d_M_size_15 : decode b_M_size 15 = .ok (.iand, 1) := by decide +kernel
theorem d_M_size_16 : decode b_M_size 16 = .ok (.iadd, 1) := by decide +kernel
theorem d_M_size_17 : decode b_M_size 17 = .ok (.istore_n 1, 1) := by decide +kernel
theorem d_M_size_18 : decode b_M_size 18 = .ok (.iinc 2 1, 3) := by decide +kernel
theorem d_M_size_21 : decode b_M_size 21 = .ok (.goto (-17), 3) := by decide +kernel
theorem d_M_size_24 : decode b_M_size 24 = .ok (.iload_n 1, 1) := by decide +kernel
theorem d_M_size_25 : decode b_M_size 25 = .ok (.ireturn, 1) := by decide +kernel
theorem d_M_separations_0 : decode b_M_separations 0 = .ok (.iconst 0, 1) := by decide +kernel
theorem d_M_separations_1 : decode b_M_separations 1 = .ok (.istore_n 1, 1) := by decide +kernel
theorem d_M_separations_2 : decode b_M_separations 2 = .ok (.iconst 0, 1) := by decide +kernel
theorem d_M_separations_3 : decode b_M_separations 3 = .ok (.istore_n 2, 1) := by decide +kernel
theorem d_M_separations_4 : decode b_M_separations 4 = .ok (.iload_n 2, 1) := by decide +kernel
theorem d_M_separations_5 : decode b_M_separations 5 = .ok (.aload_n 0, 1) := by decide +kernel
theorem d_M_separations_6 : decode b_M_separations 6 = .ok (.getfield 41, 3) := by decide +kernel
theorem d_M_separations_9 : decode b_M_separations 9 = .ok (.if_icmp .ge 66, 3) := by decide +kernel
theorem d_M_separations_12 : decode b_M_separations 12 = .ok (.iload_n 2, 1) := by decide +kernel
theorem d_M_separations_13 : decode b_M_separations 13 = .ok (.iconst 1, 1) := by decide +kernel
theorem d_M_separations_14 : decode b_M_separations 14 = .ok (.iadd, 1) := by decide +kernel
theorem d_M_separations_15 : decode b_M_separations 15 = .ok (.istore_n 3, 1) := by decide +kernel
theorem d_M_separations_16 : decode b_M_separations 16 = .ok (.iload_n 3, 1) := by decide +kernel
theorem d_M_separations_17 : decode b_M_separations 17 = .ok (.aload_n 0, 1) := by decide +kernel
theorem d_M_separations_18 : decode b_M_separations 18 = .ok (.getfield 41, 3) := by decide +kernel
theorem d_M_separations_21 : decode b_M_separations 21 = .ok (.if_icmp .ge 48, 3) := by decide +kernel
theorem d_M_separations_24 : decode b_M_separations 24 = .ok (.iconst 0, 1) := by decide +kernel
theorem d_M_separations_25 : decode b_M_separations 25 = .ok (.istore 4, 2) := by decide +kernel
theorem d_M_separations_27 : decode b_M_separations 27 = .ok (.iload 4, 2) := by decide +kernel
theorem d_M_separations_29 : decode b_M_separations 29 = .ok (.iconst 1, 1) := by decide +kernel
theorem d_M_separations_30 : decode b_M_separations 30 = .ok (.aload_n 0, 1) := by decide +kernel
theorem d_M_separations_31 : decode b_M_separations 31 = .ok (.getfield 41, 3) := by decide +kernel
theorem d_M_separations_34 : decode b_M_separations 34 = .ok (.ishl, 1) := by decide +kernel
theorem d_M_separations_35 : decode b_M_separations 35 = .ok (.if_icmp .ge 28, 3) := by decide +kernel
theorem d_M_separations_38 : decode b_M_separations 38 = .ok (.aload_n 0, 1) := by decide +kernel
theorem d_M_separations_39 : decode b_M_separations 39 = .ok (.iload_n 2, 1) := by decide +kernel
theorem d_M_separations_40 : decode b_M_separations 40 = .ok (.iload_n 3, 1) := by decide +kernel
theorem d_M_separations_41 : decode b_M_separations 41 = .ok (.iload 4, 2) := by decide +kernel
theorem d_M_separations_43 : decode b_M_separations 43 = .ok (.invokevirtual 90, 3) := by decide +kernel
theorem d_M_separations_46 : decode b_M_separations 46 = .ok (.ifCond .eq 9, 3) := by decide +kernel
theorem d_M_separations_49 : decode b_M_separations 49 = .ok (.iload_n 1, 1) := by decide +kernel
theorem d_M_separations_50 : decode b_M_separations 50 = .ok (.iconst 1, 1) := by decide +kernel
theorem d_M_separations_51 : decode b_M_separations 51 = .ok (.iadd, 1) := by decide +kernel
theorem d_M_separations_52 : decode b_M_separations 52 = .ok (.goto 4, 3) := by decide +kernel
theorem d_M_separations_55 : decode b_M_separations 55 = .ok (.iload_n 1, 1) := by decide +kernel
theorem d_M_separations_56 : decode b_M_separations 56 = .ok (.istore_n 1, 1) := by decide +kernel
theorem d_M_separations_57 : decode b_M_separations 57 = .ok (.iinc 4 1, 3) := by decide +kernel
theorem d_M_separations_60 : decode b_M_separations 60 = .ok (.goto (-33), 3) := by decide +kernel
theorem d_M_separations_63 : decode b_M_separations 63 = .ok (.iinc 3 1, 3) := by decide +kernel
theorem d_M_separations_66 : decode b_M_separations 66 = .ok (.goto (-50), 3) := by decide +kernel
theorem d_M_separations_69 : decode b_M_separations 69 = .ok (.iinc 2 1, 3) := by decide +kernel
theorem d_M_separations_72 : decode b_M_separations 72 = .ok (.goto (-68), 3) := by decide +kernel
theorem d_M_separations_75 : decode b_M_separations 75 = .ok (.iload_n 1, 1) := by decide +kernel
theorem d_M_separations_76 : decode b_M_separations 76 = .ok (.ireturn, 1) := by decide +kernel
theorem d_M_edge_0 : decode b_M_edge 0 = .ok (.aload_n 0, 1) := by decide +kernel
theorem d_M_edge_1 : decode b_M_edge 1 = .ok (.iload_n 1, 1) := by decide +kernel
theorem d_M_edge_2 : decode b_M_edge 2 = .ok (.iload_n 2, 1) := by decide +kernel
theorem d_M_edge_3 : decode b_M_edge 3 = .ok (.invokevirtual 49, 3) := by decide +kernel
theorem d_M_edge_6 : decode b_M_edge 6 = .ok (.ifCond .eq 12, 3) := by decide +kernel
theorem d_M_edge_9 : decode b_M_edge 9 = .ok (.aload_n 0, 1) := by decide +kernel
theorem d_M_edge_10 : decode b_M_edge 10 = .ok (.iload_n 1, 1) := by decide +kernel
theorem d_M_edge_11 : decode b_M_edge 11 = .ok (.iload_n 2, 1) := by decide +kernel
theorem d_M_edge_12 : decode b_M_edge 12 = .ok (.invokevirtual 53, 3) := by decide +kernel
theorem d_M_edge_15 : decode b_M_edge 15 = .ok (.ifCond .ne 5, 3) := by decide +kernel
theorem d_M_edge_18 : decode b_M_edge 18 = .ok (.iconst 0, 1) := by decide +kernel
theorem d_M_edge_19 : decode b_M_edge 19 = .ok (.ireturn, 1) := by decide +kernel
theorem d_M_edge_20 : decode b_M_edge 20 = .ok (.aload_n 0, 1) := by decide +kernel
theorem d_M_edge_21 : decode b_M_edge 21 = .ok (.invokevirtual 113, 3) := by decide +kernel
theorem d_M_edge_24 : decode b_M_edge 24 = .ok (.aload_n 0, 1) := by decide +kernel
theorem d_M_edge_25 : decode b_M_edge 25 = .ok (.getfield 19, 3) := by decide +kernel
theorem d_M_edge_28 : decode b_M_edge 28 = .ok (.bipush 6, 2) := by decide +kernel
theorem d_M_edge_30 : decode b_M_edge 30 = .ok (.iload_n 1, 1) := by decide +kernel
theorem d_M_edge_31 : decode b_M_edge 31 = .ok (.imul, 1) := by decide +kernel
theorem d_M_edge_32 : decode b_M_edge 32 = .ok (.iload_n 2, 1) := by decide +kernel
theorem d_M_edge_33 : decode b_M_edge 33 = .ok (.iadd, 1) := by decide +kernel
theorem d_M_edge_34 : decode b_M_edge 34 = .ok (.iaload, 1) := by decide +kernel
theorem d_M_edge_35 : decode b_M_edge 35 = .ok (.aload_n 0, 1) := by decide +kernel
theorem d_M_edge_36 : decode b_M_edge 36 = .ok (.getfield 103, 3) := by decide +kernel
theorem d_M_edge_39 : decode b_M_edge 39 = .ok (.if_icmp .ne 7, 3) := by decide +kernel
theorem d_M_edge_42 : decode b_M_edge 42 = .ok (.iconst 1, 1) := by decide +kernel
theorem d_M_edge_43 : decode b_M_edge 43 = .ok (.goto 26, 3) := by decide +kernel
theorem d_M_edge_46 : decode b_M_edge 46 = .ok (.aload_n 0, 1) := by decide +kernel
theorem d_M_edge_47 : decode b_M_edge 47 = .ok (.getfield 19, 3) := by decide +kernel
theorem d_M_edge_50 : decode b_M_edge 50 = .ok (.bipush 6, 2) := by decide +kernel
theorem d_M_edge_52 : decode b_M_edge 52 = .ok (.iload_n 2, 1) := by decide +kernel
theorem d_M_edge_53 : decode b_M_edge 53 = .ok (.imul, 1) := by decide +kernel
theorem d_M_edge_54 : decode b_M_edge 54 = .ok (.iload_n 1, 1) := by decide +kernel
theorem d_M_edge_55 : decode b_M_edge 55 = .ok (.iadd, 1) := by decide +kernel
theorem d_M_edge_56 : decode b_M_edge 56 = .ok (.iaload, 1) := by decide +kernel
theorem d_M_edge_57 : decode b_M_edge 57 = .ok (.aload_n 0, 1) := by decide +kernel
theorem d_M_edge_58 : decode b_M_edge 58 = .ok (.getfield 103, 3) := by decide +kernel
theorem d_M_edge_61 : decode b_M_edge 61 = .ok (.if_icmp .ne 7, 3) := by decide +kernel
theorem d_M_edge_64 : decode b_M_edge 64 = .ok (.iconst 2, 1) := by decide +kernel
theorem d_M_edge_65 : decode b_M_edge 65 = .ok (.goto 4, 3) := by decide +kernel
theorem d_M_edge_68 : decode b_M_edge 68 = .ok (.iconst 3, 1) := by decide +kernel
theorem d_M_edge_69 : decode b_M_edge 69 = .ok (.ireturn, 1) := by decide +kernel
theorem d_M_goThrough_0 : decode b_M_goThrough 0 = .ok (.aload_n 0, 1) := by decide +kernel
theorem d_M_goThrough_1 : decode b_M_goThrough 1 = .ok (.invokevirtual 100, 3) := by decide +kernel
theorem d_M_goThrough_4 : decode b_M_goThrough 4 = .ok (.aload_n 0, 1) := by decide +kernel
theorem d_M_goThrough_5 : decode b_M_goThrough 5 = .ok (.iconst 0, 1) := by decide +kernel
theorem d_M_goThrough_6 : decode b_M_goThrough 6 = .ok (.putfield 103, 3) := by decide +kernel
theorem d_M_goThrough_9 : decode b_M_goThrough 9 = .ok (.iconst 0, 1) := by decide +kernel
theorem d_M_goThrough_10 : decode b_M_goThrough 10 = .ok (.istore_n 1, 1) := by decide +kernel
theorem d_M_goThrough_11 : decode b_M_goThrough 11 = .ok (.iload_n 1, 1) := by decide +kernel
theorem d_M_goThrough_12 : decode b_M_goThrough 12 = .ok (.bipush 36, 2) := by decide +kernel
theorem d_M_goThrough_14 : decode b_M_goThrough 14 = .ok (.if_icmp .ge 16, 3) := by decide +kernel
theorem d_M_goThrough_17 : decode b_M_goThrough 17 = .ok (.aload_n 0, 1) := by decide +kernel
theorem d_M_goThrough_18 : decode b_M_goThrough 18 = .ok (.getfield 19, 3) := by decide +kernel
theorem d_M_goThrough_21 : decode b_M_goThrough 21 = .ok (.iload_n 1, 1) := by decide +kernel
theorem d_M_goThrough_22 : decode b_M_goThrough 22 = .ok (.iconst 0, 1) := by decide +kernel
theorem d_M_goThrough_23 : decode b_M_goThrough 23 = .ok (.iastore, 1) := by decide +kernel
theorem d_M_goThrough_24 : decode b_M_goThrough 24 = .ok (.iinc 1 1, 3) := by decide +kernel
theorem d_M_goThrough_27 : decode b_M_goThrough 27 = .ok (.goto (-16), 3) := by decide +kernel
theorem d_M_goThrough_30 : decode b_M_goThrough 30 = .ok (.iconst 0, 1) := by decide +kernel
theorem d_M_goThrough_31 : decode b_M_goThrough 31 = .ok (.istore_n 1, 1) := by decide +kernel
theorem d_M_goThrough_32 : decode b_M_goThrough 32 = .ok (.iload_n 1, 1) := by decide +kernel
theorem d_M_goThrough_33 : decode b_M_goThrough 33 = .ok (.iconst 1, 1) := by decide +kernel
theorem d_M_goThrough_34 : decode b_M_goThrough 34 = .ok (.aload_n 0, 1) := by decide +kernel
theorem d_M_goThrough_35 : decode b_M_goThrough 35 = .ok (.getfield 93, 3) := by decide +kernel
theorem d_M_goThrough_38 : decode b_M_goThrough 38 = .ok (.ishl, 1) := by decide +kernel
theorem d_M_goThrough_39 : decode b_M_goThrough 39 = .ok (.if_icmp .ge 105, 3) := by decide +kernel
theorem d_M_goThrough_42 : decode b_M_goThrough 42 = .ok (.aload_n 0, 1) := by decide +kernel
theorem d_M_goThrough_43 : decode b_M_goThrough 43 = .ok (.iload_n 1, 1) := by decide +kernel
theorem d_M_goThrough_44 : decode b_M_goThrough 44 = .ok (.invokevirtual 106, 3) := by decide +kernel
theorem d_M_goThrough_47 : decode b_M_goThrough 47 = .ok (.aload_n 0, 1) := by decide +kernel
theorem d_M_goThrough_48 : decode b_M_goThrough 48 = .ok (.invokevirtual 110, 3) := by decide +kernel
theorem d_M_goThrough_51 : decode b_M_goThrough 51 = .ok (.ifCond .eq 87, 3) := by decide +kernel
theorem d_M_goThrough_54 : decode b_M_goThrough 54 = .ok (.iconst 0, 1) := by decide +kernel
theorem d_M_goThrough_55 : decode b_M_goThrough 55 = .ok (.istore_n 2, 1) := by decide +kernel
theorem d_M_goThrough_56 : decode b_M_goThrough 56 = .ok (.iload_n 2, 1) := by decide +kernel
theorem d_M_goThrough_57 : decode b_M_goThrough 57 = .ok (.bipush 36, 2) := by decide +kernel
theorem d_M_goThrough_59 : decode b_M_goThrough 59 = .ok (.if_icmp .ge 69, 3) := by decide +kernel
theorem d_M_goThrough_62 : decode b_M_goThrough 62 = .ok (.aload_n 0, 1) := by decide +kernel
theorem d_M_goThrough_63 : decode b_M_goThrough 63 = .ok (.getfield 23, 3) := by decide +kernel
theorem d_M_goThrough_66 : decode b_M_goThrough 66 = .ok (.iload_n 2, 1) := by decide +kernel
theorem d_M_goThrough_67 : decode b_M_goThrough 67 = .ok (.aload_n 0, 1) := by decide +kernel
theorem d_M_goThrough_68 : decode b_M_goThrough 68 = .ok (.getfield 103, 3) := by decide +kernel
theorem d_M_goThrough_71 : decode b_M_goThrough 71 = .ok (.ifCond .ne 12, 3) := by decide +kernel
theorem d_M_goThrough_74 : decode b_M_goThrough 74 = .ok (.aload_n 0, 1) := by decide +kernel
theorem d_M_goThrough_75 : decode b_M_goThrough 75 = .ok (.getfield 16, 3) := by decide +kernel
theorem d_M_goThrough_78 : decode b_M_goThrough 78 = .ok (.iload_n 2, 1) := by decide +kernel
theorem d_M_goThrough_79 : decode b_M_goThrough 79 = .ok (.baload, 1) := by decide +kernel
theorem d_M_goThrough_80 : decode b_M_goThrough 80 = .ok (.goto 9, 3) := by decide +kernel
theorem d_M_goThrough_83 : decode b_M_goThrough 83 = .ok (.aload_n 0, 1) := by decide +kernel
theorem d_M_goThrough_84 : decode b_M_goThrough 84 = .ok (.getfield 23, 3) := by decide +kernel
theorem d_M_goThrough_87 : decode b_M_goThrough 87 = .ok (.iload_n 2, 1) := by decide +kernel
theorem d_M_goThrough_88 : decode b_M_goThrough 88 = .ok (.baload, 1) := by decide +kernel
theorem d_M_goThrough_89 : decode b_M_goThrough 89 = .ok (.bastore, 1) := by decide +kernel
theorem d_M_goThrough_90 : decode b_M_goThrough 90 = .ok (.aload_n 0, 1) := by decide +kernel
theorem d_M_goThrough_91 : decode b_M_goThrough 91 = .ok (.getfield 19, 3) := by decide +kernel
theorem d_M_goThrough_94 : decode b_M_goThrough 94 = .ok (.iload_n 2, 1) := by decide +kernel
theorem d_M_goThrough_95 : decode b_M_goThrough 95 = .ok (.aload_n 0, 1) := by decide +kernel
theorem d_M_goThrough_96 : decode b_M_goThrough 96 = .ok (.getfield 16, 3) := by decide +kernel
theorem d_M_goThrough_99 : decode b_M_goThrough 99 = .ok (.iload_n 2, 1) := by decide +kernel
theorem d_M_goThrough_100 : decode b_M_goThrough 100 = .ok (.baload, 1) := by decide +kernel
theorem d_M_goThrough_101 : decode b_M_goThrough 101 = .ok (.ifCond .eq 14, 3) := by decide +kernel
theorem d_M_goThrough_104 : decode b_M_goThrough 104 = .ok (.aload_n 0, 1) := by decide +kernel
theorem d_M_goThrough_105 : decode b_M_goThrough 105 = .ok (.getfield 19, 3) := by decide +kernel
theorem d_M_goThrough_108 : decode b_M_goThrough 108 = .ok (.iload_n 2, 1) := by decide +kernel
theorem d_M_goThrough_109 : decode b_M_goThrough 109 = .ok (.iaload, 1) := by decide +kernel
theorem d_M_goThrough_110 : decode b_M_goThrough 110 = .ok (.iconst 1, 1) := by decide +kernel
theorem d_M_goThrough_111 : decode b_M_goThrough 111 = .ok (.iadd, 1) := by decide +kernel
theorem d_M_goThrough_112 : decode b_M_goThrough 112 = .ok (.goto 9, 3) := by decide +kernel
theorem d_M_goThrough_115 : decode b_M_goThrough 115 = .ok (.aload_n 0, 1) := by decide +kernel
theorem d_M_goThrough_116 : decode b_M_goThrough 116 = .ok (.getfield 19, 3) := by decide +kernel
theorem d_M_goThrough_119 : decode b_M_goThrough 119 = .ok (.iload_n 2, 1) := by decide +kernel
theorem d_M_goThrough_120 : decode b_M_goThrough 120 = .ok (.iaload, 1) := by decide +kernel
theorem d_M_goThrough_121 : decode b_M_goThrough 121 = .ok (.iastore, 1) := by decide +kernel
theorem d_M_goThrough_122 : decode b_M_goThrough 122 = .ok (.iinc 2 1, 3) := by decide +kernel
theorem d_M_goThrough_125 : decode b_M_goThrough 125 = .ok (.goto (-69), 3) := by decide +kernel
theorem d_M_goThrough_128 : decode b_M_goThrough 128 = .ok (.aload_n 0, 1) := by decide +kernel
theorem d_M_goThrough_129 : decode b_M_goThrough 129 = .ok (.dup, 1) := by decide +kernel
theorem d_M_goThrough_130 : decode b_M_goThrough 130 = .ok (.getfield 103, 3) := by decide +kernel
theorem d_M_goThrough_133 : decode b_M_goThrough 133 = .ok (.iconst 1, 1) := by decide +kernel
theorem d_M_goThrough_134 : decode b_M_goThrough 134 = .ok (.iadd, 1) := by decide +kernel
theorem d_M_goThrough_135 : decode b_M_goThrough 135 = .ok (.putfield 103, 3) := by decide +kernel
theorem d_M_goThrough_138 : decode b_M_goThrough 138 = .ok (.iinc 1 1, 3) := by decide +kernel
theorem d_M_goThrough_141 : decode b_M_goThrough 141 = .ok (.goto (-109), 3) := by decide +kernel
theorem d_M_goThrough_144 : decode b_M_goThrough 144 = .ok (.return_, 1) := by decide +kernel
theorem d_M_findPairs_0 : decode b_M_findPairs 0 = .ok (.aload_n 0, 1) := by decide +kernel
theorem d_M_findPairs_1 : decode b_M_findPairs 1 = .ok (.iconst 0, 1) := by decide +kernel
theorem d_M_findPairs_2 : decode b_M_findPairs 2 = .ok (.putfield 93, 3) := by decide +kernel
theorem d_M_findPairs_5 : decode b_M_findPairs 5 = .ok (.iconst 0, 1) := by decide +kernel
theorem d_M_findPairs_6 : decode b_M_findPairs 6 = .ok (.istore_n 1, 1) := by decide +kernel
theorem d_M_findPairs_7 : decode b_M_findPairs 7 = .ok (.iload_n 1, 1) := by decide +kernel
theorem d_M_findPairs_8 : decode b_M_findPairs 8 = .ok (.aload_n 0, 1) := by decide +kernel
theorem d_M_findPairs_9 : decode b_M_findPairs 9 = .ok (.getfield 41, 3) := by decide +kernel
theorem d_M_findPairs_12 : decode b_M_findPairs 12 = .ok (.if_icmp .ge 66, 3) := by decide +kernel
theorem d_M_findPairs_15 : decode b_M_findPairs 15 = .ok (.iload_n 1, 1) := by decide +kernel
theorem d_M_findPairs_16 : decode b_M_findPairs 16 = .ok (.iconst 1, 1) := by decide +kernel
theorem d_M_findPairs_17 : decode b_M_findPairs 17 = .ok (.iadd, 1) := by decide +kernel
theorem d_M_findPairs_18 : decode b_M_findPairs 18 = .ok (.istore_n 2, 1) := by decide +kernel
theorem d_M_findPairs_19 : decode b_M_findPairs 19 = .ok (.iload_n 2, 1) := by decide +kernel
theorem d_M_findPairs_20 : decode b_M_findPairs 20 = .ok (.aload_n 0, 1) := by decide +kernel
theorem d_M_findPairs_21 : decode b_M_findPairs 21 = .ok (.getfield 41, 3) := by decide +kernel
theorem d_M_findPairs_24 : decode b_M_findPairs 24 = .ok (.if_icmp .ge 48, 3) := by decide +kernel
theorem d_M_findPairs_27 : decode b_M_findPairs 27 = .ok (.aload_n 0, 1) := by decide +kernel
theorem d_M_findPairs_28 : decode b_M_findPairs 28 = .ok (.iload_n 1, 1) := by decide +kernel
theorem d_M_findPairs_29 : decode b_M_findPairs 29 = .ok (.iload_n 2, 1) := by decide +kernel
theorem d_M_findPairs_30 : decode b_M_findPairs 30 = .ok (.invokevirtual 53, 3) := by decide +kernel
theorem d_M_findPairs_33 : decode b_M_findPairs 33 = .ok (.ifCond .eq 33, 3) := by decide +kernel
theorem d_M_findPairs_36 : decode b_M_findPairs 36 = .ok (.aload_n 0, 1) := by decide +kernel
theorem d_M_findPairs_37 : decode b_M_findPairs 37 = .ok (.getfield 26, 3) := by decide +kernel
theorem d_M_findPairs_40 : decode b_M_findPairs 40 = .ok (.aload_n 0, 1) := by decide +kernel
theorem d_M_findPairs_41 : decode b_M_findPairs 41 = .ok (.getfield 93, 3) := by decide +kernel
theorem d_M_findPairs_44 : decode b_M_findPairs 44 = .ok (.iload_n 1, 1) := by decide +kernel
theorem d_M_findPairs_45 : decode b_M_findPairs 45 = .ok (.iastore, 1) := by decide +kernel
theorem d_M_findPairs_46 : decode b_M_findPairs 46 = .ok (.aload_n 0, 1) := by decide +kernel
theorem d_M_findPairs_47 : decode b_M_findPairs 47 = .ok (.getfield 29, 3) := by decide +kernel
theorem d_M_findPairs_50 : decode b_M_findPairs 50 = .ok (.aload_n 0, 1) := by decide +kernel
theorem d_M_findPairs_51 : decode b_M_findPairs 51 = .ok (.getfield 93, 3) := by decide +kernel
theorem d_M_findPairs_54 : decode b_M_findPairs 54 = .ok (.iload_n 2, 1) := by decide +kernel
theorem d_M_findPairs_55 : decode b_M_findPairs 55 = .ok (.iastore, 1) := by decide +kernel
theorem d_M_findPairs_56 : decode b_M_findPairs 56 = .ok (.aload_n 0, 1) := by decide +kernel
theorem d_M_findPairs_57 : decode b_M_findPairs 57 = .ok (.dup, 1) := by decide +kernel
theorem d_M_findPairs_58 : decode b_M_findPairs 58 = .ok (.getfield 93, 3) := by decide +kernel
theorem d_M_findPairs_61 : decode b_M_findPairs 61 = .ok (.iconst 1, 1) := by decide +kernel
theorem d_M_findPairs_62 : decode b_M_findPairs 62 = .ok (.iadd, 1) := by decide +kernel
theorem d_M_findPairs_63 : decode b_M_findPairs 63 = .ok (.putfield 93, 3) := by decide +kernel
theorem d_M_findPairs_66 : decode b_M_findPairs 66 = .ok (.iinc 2 1, 3) := by decide +kernel
theorem d_M_findPairs_69 : decode b_M_findPairs 69 = .ok (.goto (-50), 3) := by decide +kernel
theorem d_M_findPairs_72 : decode b_M_findPairs 72 = .ok (.iinc 1 1, 3) := by decide +kernel
theorem d_M_findPairs_75 : decode b_M_findPairs 75 = .ok (.goto (-68), 3) := by decide +kernel
theorem d_M_findPairs_78 : decode b_M_findPairs 78 = .ok (.return_, 1) := by decide +kernel
theorem d_M_direct_0 : decode b_M_direct 0 = .ok (.iconst 0, 1) := by decide +kernel
theorem d_M_direct_1 : decode b_M_direct 1 = .ok (.istore_n 2, 1) := by decide +kernel
theorem d_M_direct_2 : decode b_M_direct 2 = .ok (.iload_n 2, 1) := by decide +kernel
theorem d_M_direct_3 : decode b_M_direct 3 = .ok (.bipush 36, 2) := by decide +kernel
theorem d_M_direct_5 : decode b_M_direct 5 = .ok (.if_icmp .ge 16, 3) := by decide +kernel
theorem d_M_direct_8 : decode b_M_direct 8 = .ok (.aload_n 0, 1) := by decide +kernel
theorem d_M_direct_9 : decode b_M_direct 9 = .ok (.getfield 16, 3) := by decide +kernel
theorem d_M_direct_12 : decode b_M_direct 12 = .ok (.iload_n 2, 1) := by decide +kernel
theorem d_M_direct_13 : decode b_M_direct 13 = .ok (.iconst 0, 1) := by decide +kernel
theorem d_M_direct_14 : decode b_M_direct 14 = .ok (.bastore, 1) := by decide +kernel
theorem d_M_direct_15 : decode b_M_direct 15 = .ok (.iinc 2 1, 3) := by decide +kernel
theorem d_M_direct_18 : decode b_M_direct 18 = .ok (.goto (-16), 3) := by decide +kernel
theorem d_M_direct_21 : decode b_M_direct 21 = .ok (.iconst 0, 1) := by decide +kernel
theorem d_M_direct_22 : decode b_M_direct 22 = .ok (.istore_n 2, 1) := by decide +kernel
theorem d_M_direct_23 : decode b_M_direct 23 = .ok (.iload_n 2, 1) := by decide +kernel
theorem d_M_direct_24 : decode b_M_direct 24 = .ok (.aload_n 0, 1) := by decide +kernel
theorem d_M_direct_25 : decode b_M_direct 25 = .ok (.getfield 93, 3) := by decide +kernel
theorem d_M_direct_28 : decode b_M_direct 28 = .ok (.if_icmp .ge 86, 3) := by decide +kernel
theorem d_M_direct_31 : decode b_M_direct 31 = .ok (.iload_n 1, 1) := by decide +kernel
theorem d_M_direct_32 : decode b_M_direct 32 = .ok (.aload_n 0, 1) := by decide +kernel
theorem d_M_direct_33 : decode b_M_direct 33 = .ok (.getfield 93, 3) := by decide +kernel
theorem d_M_direct_36 : decode b_M_direct 36 = .ok (.iconst 1, 1) := by decide +kernel
theorem d_M_direct_37 : decode b_M_direct 37 = .ok (.isub, 1) := by decide +kernel
theorem d_M_direct_38 : decode b_M_direct 38 = .ok (.iload_n 2, 1) := by decide +kernel
theorem d_M_direct_39 : decode b_M_direct 39 = .ok (.isub, 1) := by decide +kernel
theorem d_M_direct_40 : decode b_M_direct 40 = .ok (.ishr, 1) := by decide +kernel
theorem d_M_direct_41 : decode b_M_direct 41 = .ok (.iconst 1, 1) := by decide +kernel
theorem d_M_direct_42 : decode b_M_direct 42 = .ok (.iand, 1) := by decide +kernel
theorem d_M_direct_43 : decode b_M_direct 43 = .ok (.ifCond .ne 7, 3) := by decide +kernel
theorem d_M_direct_46 : decode b_M_direct 46 = .ok (.iconst 1, 1) := by decide +kernel
theorem d_M_direct_47 : decode b_M_direct 47 = .ok (.goto 4, 3) := by decide +kernel
theorem d_M_direct_50 : decode b_M_direct 50 = .ok (.iconst 0, 1) := by decide +kernel
theorem d_M_direct_51 : decode b_M_direct 51 = .ok (.istore_n 3, 1) := by decide +kernel
theorem d_M_direct_52 : decode b_M_direct 52 = .ok (.iload_n 3, 1) := by decide +kernel
theorem d_M_direct_53 : decode b_M_direct 53 = .ok (.ifCond .eq 12, 3) := by decide +kernel
theorem d_M_direct_56 : decode b_M_direct 56 = .ok (.aload_n 0, 1) := by decide +kernel
theorem d_M_direct_57 : decode b_M_direct 57 = .ok (.getfield 26, 3) := by decide +kernel
theorem d_M_direct_60 : decode b_M_direct 60 = .ok (.iload_n 2, 1) := by decide +kernel
theorem d_M_direct_61 : decode b_M_direct 61 = .ok (.iaload, 1) := by decide +kernel
theorem d_M_direct_62 : decode b_M_direct 62 = .ok (.goto 9, 3) := by decide +kernel
theorem d_M_direct_65 : decode b_M_direct 65 = .ok (.aload_n 0, 1) := by decide +kernel
theorem d_M_direct_66 : decode b_M_direct 66 = .ok (.getfield 29, 3) := by decide +kernel
theorem d_M_direct_69 : decode b_M_direct 69 = .ok (.iload_n 2, 1) := by decide +kernel
theorem d_M_direct_70 : decode b_M_direct 70 = .ok (.iaload, 1) := by decide +kernel
theorem d_M_direct_71 : decode b_M_direct 71 = .ok (.istore 4, 2) := by decide +kernel
theorem d_M_direct_73 : decode b_M_direct 73 = .ok (.iload_n 3, 1) := by decide +kernel
theorem d_M_direct_74 : decode b_M_direct 74 = .ok (.ifCond .eq 12, 3) := by decide +kernel
theorem d_M_direct_77 : decode b_M_direct 77 = .ok (.aload_n 0, 1) := by decide +kernel
theorem d_M_direct_78 : decode b_M_direct 78 = .ok (.getfield 29, 3) := by decide +kernel
theorem d_M_direct_81 : decode b_M_direct 81 = .ok (.iload_n 2, 1) := by decide +kernel
theorem d_M_direct_82 : decode b_M_direct 82 = .ok (.iaload, 1) := by decide +kernel
theorem d_M_direct_83 : decode b_M_direct 83 = .ok (.goto 9, 3) := by decide +kernel
theorem d_M_direct_86 : decode b_M_direct 86 = .ok (.aload_n 0, 1) := by decide +kernel
theorem d_M_direct_87 : decode b_M_direct 87 = .ok (.getfield 26, 3) := by decide +kernel
theorem d_M_direct_90 : decode b_M_direct 90 = .ok (.iload_n 2, 1) := by decide +kernel
theorem d_M_direct_91 : decode b_M_direct 91 = .ok (.iaload, 1) := by decide +kernel
theorem d_M_direct_92 : decode b_M_direct 92 = .ok (.istore 5, 2) := by decide +kernel
theorem d_M_direct_94 : decode b_M_direct 94 = .ok (.aload_n 0, 1) := by decide +kernel
theorem d_M_direct_95 : decode b_M_direct 95 = .ok (.getfield 16, 3) := by decide +kernel
theorem d_M_direct_98 : decode b_M_direct 98 = .ok (.bipush 6, 2) := by decide +kernel
theorem d_M_direct_100 : decode b_M_direct 100 = .ok (.iload 4, 2) := by decide +kernel
theorem d_M_direct_102 : decode b_M_direct 102 = .ok (.imul, 1) := by decide +kernel
theorem d_M_direct_103 : decode b_M_direct 103 = .ok (.iload 5, 2) := by decide +kernel
theorem d_M_direct_105 : decode b_M_direct 105 = .ok (.iadd, 1) := by decide +kernel
theorem d_M_direct_106 : decode b_M_direct 106 = .ok (.iconst 1, 1) := by decide +kernel
theorem d_M_direct_107 : decode b_M_direct 107 = .ok (.bastore, 1) := by decide +kernel
theorem d_M_direct_108 : decode b_M_direct 108 = .ok (.iinc 2 1, 3) := by decide +kernel
theorem d_M_direct_111 : decode b_M_direct 111 = .ok (.goto (-88), 3) := by decide +kernel
theorem d_M_direct_114 : decode b_M_direct 114 = .ok (.return_, 1) := by decide +kernel
theorem d_M_isMember_0 : decode b_M_isMember 0 = .ok (.iconst 0, 1) := by decide +kernel
theorem d_M_isMember_1 : decode b_M_isMember 1 = .ok (.istore_n 1, 1) := by decide +kernel
theorem d_M_isMember_2 : decode b_M_isMember 2 = .ok (.iload_n 1, 1) := by decide +kernel
theorem d_M_isMember_3 : decode b_M_isMember 3 = .ok (.bipush 36, 2) := by decide +kernel
theorem d_M_isMember_5 : decode b_M_isMember 5 = .ok (.if_icmp .ge 29, 3) := by decide +kernel
theorem d_M_isMember_8 : decode b_M_isMember 8 = .ok (.aload_n 0, 1) := by decide +kernel
theorem d_M_isMember_9 : decode b_M_isMember 9 = .ok (.getfield 13, 3) := by decide +kernel
theorem d_M_isMember_12 : decode b_M_isMember 12 = .ok (.iload_n 1, 1) := by decide +kernel
theorem d_M_isMember_13 : decode b_M_isMember 13 = .ok (.baload, 1) := by decide +kernel
theorem d_M_isMember_14 : decode b_M_isMember 14 = .ok (.ifCond .eq 14, 3) := by decide +kernel
theorem d_M_isMember_17 : decode b_M_isMember 17 = .ok (.aload_n 0, 1) := by decide +kernel
theorem d_M_isMember_18 : decode b_M_isMember 18 = .ok (.getfield 16, 3) := by decide +kernel
theorem d_M_isMember_21 : decode b_M_isMember 21 = .ok (.iload_n 1, 1) := by decide +kernel
theorem d_M_isMember_22 : decode b_M_isMember 22 = .ok (.baload, 1) := by decide +kernel
theorem d_M_isMember_23 : decode b_M_isMember 23 = .ok (.ifCond .ne 5, 3) := by decide +kernel
theorem d_M_isMember_26 : decode b_M_isMember 26 = .ok (.iconst 0, 1) := by decide +kernel
theorem d_M_isMember_27 : decode b_M_isMember 27 = .ok (.ireturn, 1) := by decide +kernel
theorem d_M_isMember_28 : decode b_M_isMember 28 = .ok (.iinc 1 1, 3) := by decide +kernel
theorem d_M_isMember_31 : decode b_M_isMember 31 = .ok (.goto (-29), 3) := by decide +kernel
theorem d_M_isMember_34 : decode b_M_isMember 34 = .ok (.iconst 0, 1) := by decide +kernel
theorem d_M_isMember_35 : decode b_M_isMember 35 = .ok (.istore_n 1, 1) := by decide +kernel
theorem d_M_isMember_36 : decode b_M_isMember 36 = .ok (.iload_n 1, 1) := by decide +kernel
theorem d_M_isMember_37 : decode b_M_isMember 37 = .ok (.aload_n 0, 1) := by decide +kernel
theorem d_M_isMember_38 : decode b_M_isMember 38 = .ok (.getfield 41, 3) := by decide +kernel
theorem d_M_isMember_41 : decode b_M_isMember 41 = .ok (.if_icmp .ge 68, 3) := by decide +kernel
theorem d_M_isMember_44 : decode b_M_isMember 44 = .ok (.iconst 0, 1) := by decide +kernel
theorem d_M_isMember_45 : decode b_M_isMember 45 = .ok (.istore_n 2, 1) := by decide +kernel
theorem d_M_isMember_46 : decode b_M_isMember 46 = .ok (.iload_n 2, 1) := by decide +kernel
theorem d_M_isMember_47 : decode b_M_isMember 47 = .ok (.aload_n 0, 1) := by decide +kernel
theorem d_M_isMember_48 : decode b_M_isMember 48 = .ok (.getfield 41, 3) := by decide +kernel
theorem d_M_isMember_51 : decode b_M_isMember 51 = .ok (.if_icmp .ge 52, 3) := by decide +kernel
theorem d_M_isMember_54 : decode b_M_isMember 54 = .ok (.iload_n 2, 1) := by decide +kernel
theorem d_M_isMember_55 : decode b_M_isMember 55 = .ok (.iconst 1, 1) := by decide +kernel
theorem d_M_isMember_56 : decode b_M_isMember 56 = .ok (.iadd, 1) := by decide +kernel
theorem d_M_isMember_57 : decode b_M_isMember 57 = .ok (.istore_n 3, 1) := by decide +kernel
theorem d_M_isMember_58 : decode b_M_isMember 58 = .ok (.iload_n 3, 1) := by decide +kernel
theorem d_M_isMember_59 : decode b_M_isMember 59 = .ok (.aload_n 0, 1) := by decide +kernel
theorem d_M_isMember_60 : decode b_M_isMember 60 = .ok (.getfield 41, 3) := by decide +kernel
theorem d_M_isMember_63 : decode b_M_isMember 63 = .ok (.if_icmp .ge 34, 3) := by decide +kernel
theorem d_M_isMember_66 : decode b_M_isMember 66 = .ok (.aload_n 0, 1) := by decide +kernel
theorem d_M_isMember_67 : decode b_M_isMember 67 = .ok (.getfield 7, 3) := by decide +kernel
theorem d_M_isMember_70 : decode b_M_isMember 70 = .ok (.iload_n 2, 1) := by decide +kernel
theorem d_M_isMember_71 : decode b_M_isMember 71 = .ok (.iload_n 1, 1) := by decide +kernel
theorem d_M_isMember_72 : decode b_M_isMember 72 = .ok (.iload_n 3, 1) := by decide +kernel
theorem d_M_isMember_73 : decode b_M_isMember 73 = .ok (.invokestatic 70, 3) := by decide +kernel
theorem d_M_isMember_76 : decode b_M_isMember 76 = .ok (.aload_n 0, 1) := by decide +kernel
theorem d_M_isMember_77 : decode b_M_isMember 77 = .ok (.getfield 16, 3) := by decide +kernel
theorem d_M_isMember_80 : decode b_M_isMember 80 = .ok (.iload_n 2, 1) := by decide +kernel
theorem d_M_isMember_81 : decode b_M_isMember 81 = .ok (.iload_n 1, 1) := by decide +kernel
theorem d_M_isMember_82 : decode b_M_isMember 82 = .ok (.iload_n 3, 1) := by decide +kernel
theorem d_M_isMember_83 : decode b_M_isMember 83 = .ok (.invokestatic 70, 3) := by decide +kernel
theorem d_M_isMember_86 : decode b_M_isMember 86 = .ok (.if_icmp .eq 5, 3) := by decide +kernel
theorem d_M_isMember_89 : decode b_M_isMember 89 = .ok (.iconst 0, 1) := by decide +kernel
theorem d_M_isMember_90 : decode b_M_isMember 90 = .ok (.ireturn, 1) := by decide +kernel
theorem d_M_isMember_91 : decode b_M_isMember 91 = .ok (.iinc 3 1, 3) := by decide +kernel
theorem d_M_isMember_94 : decode b_M_isMember 94 = .ok (.goto (-36), 3) := by decide +kernel
theorem d_M_isMember_97 : decode b_M_isMember 97 = .ok (.iinc 2 1, 3) := by decide +kernel
theorem d_M_isMember_100 : decode b_M_isMember 100 = .ok (.goto (-54), 3) := by decide +kernel
theorem d_M_isMember_103 : decode b_M_isMember 103 = .ok (.iinc 1 1, 3) := by decide +kernel
theorem d_M_isMember_106 : decode b_M_isMember 106 = .ok (.goto (-70), 3) := by decide +kernel
theorem d_M_isMember_109 : decode b_M_isMember 109 = .ok (.aload_n 0, 1) := by decide +kernel
theorem d_M_isMember_110 : decode b_M_isMember 110 = .ok (.invokevirtual 96, 3) := by decide +kernel
theorem d_M_isMember_113 : decode b_M_isMember 113 = .ok (.ifCond .ne 7, 3) := by decide +kernel
theorem d_M_isMember_116 : decode b_M_isMember 116 = .ok (.iconst 1, 1) := by decide +kernel
theorem d_M_isMember_117 : decode b_M_isMember 117 = .ok (.goto 4, 3) := by decide +kernel
theorem d_M_isMember_120 : decode b_M_isMember 120 = .ok (.iconst 0, 1) := by decide +kernel
theorem d_M_isMember_121 : decode b_M_isMember 121 = .ok (.ireturn, 1) := by decide +kernel
theorem d_M_hasRing_0 : decode b_M_hasRing 0 = .ok (.iconst 1, 1) := by decide +kernel
theorem d_M_hasRing_1 : decode b_M_hasRing 1 = .ok (.aload_n 0, 1) := by decide +kernel
theorem d_M_hasRing_2 : decode b_M_hasRing 2 = .ok (.getfield 41, 3) := by decide +kernel
theorem d_M_hasRing_5 : decode b_M_hasRing 5 = .ok (.ishl, 1) := by decide +kernel
theorem d_M_hasRing_6 : decode b_M_hasRing 6 = .ok (.iconst 1, 1) := by decide +kernel
theorem d_M_hasRing_7 : decode b_M_hasRing 7 = .ok (.isub, 1) := by decide +kernel
theorem d_M_hasRing_8 : decode b_M_hasRing 8 = .ok (.istore_n 1, 1) := by decide +kernel
theorem d_M_hasRing_9 : decode b_M_hasRing 9 = .ok (.iconst 0, 1) := by decide +kernel
theorem d_M_hasRing_10 : decode b_M_hasRing 10 = .ok (.istore_n 2, 1) := by decide +kernel
theorem d_M_hasRing_11 : decode b_M_hasRing 11 = .ok (.iload_n 2, 1) := by decide +kernel
theorem d_M_hasRing_12 : decode b_M_hasRing 12 = .ok (.bipush 6, 2) := by decide +kernel
theorem d_M_hasRing_14 : decode b_M_hasRing 14 = .ok (.if_icmp .ge 100, 3) := by decide +kernel
theorem d_M_hasRing_17 : decode b_M_hasRing 17 = .ok (.iconst 0, 1) := by decide +kernel
theorem d_M_hasRing_18 : decode b_M_hasRing 18 = .ok (.istore_n 3, 1) := by decide +kernel
theorem d_M_hasRing_19 : decode b_M_hasRing 19 = .ok (.iload_n 3, 1) := by decide +kernel
theorem d_M_hasRing_20 : decode b_M_hasRing 20 = .ok (.aload_n 0, 1) := by decide +kernel
theorem d_M_hasRing_21 : decode b_M_hasRing 21 = .ok (.getfield 41, 3) := by decide +kernel
theorem d_M_hasRing_24 : decode b_M_hasRing 24 = .ok (.if_icmp .ge 84, 3) := by decide +kernel
theorem d_M_hasRing_27 : decode b_M_hasRing 27 = .ok (.iconst 1, 1) := by decide +kernel
theorem d_M_hasRing_28 : decode b_M_hasRing 28 = .ok (.istore 4, 2) := by decide +kernel
theorem d_M_hasRing_30 : decode b_M_hasRing 30 = .ok (.iconst 0, 1) := by decide +kernel
theorem d_M_hasRing_31 : decode b_M_hasRing 31 = .ok (.istore 5, 2) := by decide +kernel
theorem d_M_hasRing_33 : decode b_M_hasRing 33 = .ok (.iload 5, 2) := by decide +kernel
theorem d_M_hasRing_35 : decode b_M_hasRing 35 = .ok (.aload_n 0, 1) := by decide +kernel
theorem d_M_hasRing_36 : decode b_M_hasRing 36 = .ok (.getfield 41, 3) := by decide +kernel
theorem d_M_hasRing_39 : decode b_M_hasRing 39 = .ok (.if_icmp .ge 46, 3) := by decide +kernel
theorem d_M_hasRing_42 : decode b_M_hasRing 42 = .ok (.iload 4, 2) := by decide +kernel
theorem d_M_hasRing_44 : decode b_M_hasRing 44 = .ok (.ifCond .eq 32, 3) := by decide +kernel
theorem d_M_hasRing_47 : decode b_M_hasRing 47 = .ok (.aload_n 0, 1) := by decide +kernel
theorem d_M_hasRing_48 : decode b_M_hasRing 48 = .ok (.getfield 16, 3) := by decide +kernel
theorem d_M_hasRing_51 : decode b_M_hasRing 51 = .ok (.bipush 6, 2) := by decide +kernel
theorem d_M_hasRing_53 : decode b_M_hasRing 53 = .ok (.iload 5, 2) := by decide +kernel
theorem d_M_hasRing_55 : decode b_M_hasRing 55 = .ok (.imul, 1) := by decide +kernel
theorem d_M_hasRing_56 : decode b_M_hasRing 56 = .ok (.iload_n 3, 1) := by decide +kernel
theorem d_M_hasRing_57 : decode b_M_hasRing 57 = .ok (.iadd, 1) := by decide +kernel
theorem d_M_hasRing_58 : decode b_M_hasRing 58 = .ok (.baload, 1) := by decide +kernel
theorem d_M_hasRing_59 : decode b_M_hasRing 59 = .ok (.ifCond .eq 13, 3) := by decide +kernel
theorem d_M_hasRing_62 : decode b_M_hasRing 62 = .ok (.iload_n 1, 1) := by decide +kernel
theorem d_M_hasRing_63 : decode b_M_hasRing 63 = .ok (.iload 5, 2) := by decide +kernel
theorem d_M_hasRing_65 : decode b_M_hasRing 65 = .ok (.ishr, 1) := by decide +kernel
theorem d_M_hasRing_66 : decode b_M_hasRing 66 = .ok (.iconst 1, 1) := by decide +kernel
theorem d_M_hasRing_67 : decode b_M_hasRing 67 = .ok (.iand, 1) := by decide +kernel
theorem d_M_hasRing_68 : decode b_M_hasRing 68 = .ok (.iconst 1, 1) := by decide +kernel
theorem d_M_hasRing_69 : decode b_M_hasRing 69 = .ok (.if_icmp .eq 7, 3) := by decide +kernel
theorem d_M_hasRing_72 : decode b_M_hasRing 72 = .ok (.iconst 1, 1) := by decide +kernel
theorem d_M_hasRing_73 : decode b_M_hasRing 73 = .ok (.goto 4, 3) := by decide +kernel
theorem d_M_hasRing_76 : decode b_M_hasRing 76 = .ok (.iconst 0, 1) := by decide +kernel
theorem d_M_hasRing_77 : decode b_M_hasRing 77 = .ok (.istore 4, 2) := by decide +kernel
theorem d_M_hasRing_79 : decode b_M_hasRing 79 = .ok (.iinc 5 1, 3) := by decide +kernel
theorem d_M_hasRing_82 : decode b_M_hasRing 82 = .ok (.goto (-49), 3) := by decide +kernel
theorem d_M_hasRing_85 : decode b_M_hasRing 85 = .ok (.iload 4, 2) := by decide +kernel
theorem d_M_hasRing_87 : decode b_M_hasRing 87 = .ok (.ifCond .eq 13, 3) := by decide +kernel
theorem d_M_hasRing_90 : decode b_M_hasRing 90 = .ok (.iload_n 1, 1) := by decide +kernel
theorem d_M_hasRing_91 : decode b_M_hasRing 91 = .ok (.iconst 1, 1) := by decide +kernel
theorem d_M_hasRing_92 : decode b_M_hasRing 92 = .ok (.iload_n 3, 1) := by decide +kernel
theorem d_M_hasRing_93 : decode b_M_hasRing 93 = .ok (.ishl, 1) := by decide +kernel
theorem d_M_hasRing_94 : decode b_M_hasRing 94 = .ok (.iconst (-1), 1) := by decide +kernel
theorem d_M_hasRing_95 : decode b_M_hasRing 95 = .ok (.ixor, 1) := by decide +kernel
theorem d_M_hasRing_96 : decode b_M_hasRing 96 = .ok (.iand, 1) := by decide +kernel
theorem d_M_hasRing_97 : decode b_M_hasRing 97 = .ok (.goto 4, 3) := by decide +kernel
theorem d_M_hasRing_100 : decode b_M_hasRing 100 = .ok (.iload_n 1, 1) := by decide +kernel
theorem d_M_hasRing_101 : decode b_M_hasRing 101 = .ok (.istore_n 1, 1) := by decide +kernel
theorem d_M_hasRing_102 : decode b_M_hasRing 102 = .ok (.iinc 3 1, 3) := by decide +kernel
theorem d_M_hasRing_105 : decode b_M_hasRing 105 = .ok (.goto (-86), 3) := by decide +kernel
theorem d_M_hasRing_108 : decode b_M_hasRing 108 = .ok (.iinc 2 1, 3) := by decide +kernel
theorem d_M_hasRing_111 : decode b_M_hasRing 111 = .ok (.goto (-100), 3) := by decide +kernel
theorem d_M_hasRing_114 : decode b_M_hasRing 114 = .ok (.iload_n 1, 1) := by decide +kernel
theorem d_M_hasRing_115 : decode b_M_hasRing 115 = .ok (.ifCond .eq 7, 3) := by decide +kernel
theorem d_M_hasRing_118 : decode b_M_hasRing 118 = .ok (.iconst 1, 1) := by decide +kernel
theorem d_M_hasRing_119 : decode b_M_hasRing 119 = .ok (.goto 4, 3) := by decide +kernel
theorem d_M_hasRing_122 : decode b_M_hasRing 122 = .ok (.iconst 0, 1) := by decide +kernel
theorem d_M_hasRing_123 : decode b_M_hasRing 123 = .ok (.ireturn, 1) := by decide +kernel
theorem d_M_loose_0 : decode b_M_loose 0 = .ok (.aload_n 0, 1) := by decide +kernel
theorem d_M_loose_1 : decode b_M_loose 1 = .ok (.invokevirtual 113, 3) := by decide +kernel
theorem d_M_loose_4 : decode b_M_loose 4 = .ok (.iconst 0, 1) := by decide +kernel
theorem d_M_loose_5 : decode b_M_loose 5 = .ok (.istore_n 1, 1) := by decide +kernel
theorem d_M_loose_6 : decode b_M_loose 6 = .ok (.iconst 0, 1) := by decide +kernel
theorem d_M_loose_7 : decode b_M_loose 7 = .ok (.istore_n 2, 1) := by decide +kernel
theorem d_M_loose_8 : decode b_M_loose 8 = .ok (.iload_n 2, 1) := by decide +kernel
theorem d_M_loose_9 : decode b_M_loose 9 = .ok (.aload_n 0, 1) := by decide +kernel
theorem d_M_loose_10 : decode b_M_loose 10 = .ok (.getfield 93, 3) := by decide +kernel
theorem d_M_loose_13 : decode b_M_loose 13 = .ok (.if_icmp .ge 51, 3) := by decide +kernel
theorem d_M_loose_16 : decode b_M_loose 16 = .ok (.aload_n 0, 1) := by decide +kernel
theorem d_M_loose_17 : decode b_M_loose 17 = .ok (.getfield 19, 3) := by decide +kernel
theorem d_M_loose_20 : decode b_M_loose 20 = .ok (.bipush 6, 2) := by decide +kernel
theorem d_M_loose_22 : decode b_M_loose 22 = .ok (.aload_n 0, 1) := by decide +kernel
theorem d_M_loose_23 : decode b_M_loose 23 = .ok (.getfield 26, 3) := by decide +kernel
theorem d_M_loose_26 : decode b_M_loose 26 = .ok (.iload_n 2, 1) := by decide +kernel
theorem d_M_loose_27 : decode b_M_loose 27 = .ok (.iaload, 1) := by decide +kernel
theorem d_M_loose_28 : decode b_M_loose 28 = .ok (.imul, 1) := by decide +kernel
theorem d_M_loose_29 : decode b_M_loose 29 = .ok (.aload_n 0, 1) := by decide +kernel
theorem d_M_loose_30 : decode b_M_loose 30 = .ok (.getfield 29, 3) := by decide +kernel
theorem d_M_loose_33 : decode b_M_loose 33 = .ok (.iload_n 2, 1) := by decide +kernel
theorem d_M_loose_34 : decode b_M_loose 34 = .ok (.iaload, 1) := by decide +kernel
theorem d_M_loose_35 : decode b_M_loose 35 = .ok (.iadd, 1) := by decide +kernel
theorem d_M_loose_36 : decode b_M_loose 36 = .ok (.iaload, 1) := by decide +kernel
theorem d_M_loose_37 : decode b_M_loose 37 = .ok (.istore_n 3, 1) := by decide +kernel
theorem d_M_loose_38 : decode b_M_loose 38 = .ok (.iload_n 3, 1) := by decide +kernel
theorem d_M_loose_39 : decode b_M_loose 39 = .ok (.ifCond .le 17, 3) := by decide +kernel
theorem d_M_loose_42 : decode b_M_loose 42 = .ok (.iload_n 3, 1) := by decide +kernel
theorem d_M_loose_43 : decode b_M_loose 43 = .ok (.aload_n 0, 1) := by decide +kernel
theorem d_M_loose_44 : decode b_M_loose 44 = .ok (.getfield 103, 3) := by decide +kernel
theorem d_M_loose_47 : decode b_M_loose 47 = .ok (.if_icmp .ge 9, 3) := by decide +kernel
theorem d_M_loose_50 : decode b_M_loose 50 = .ok (.iload_n 1, 1) := by decide +kernel
theorem d_M_loose_51 : decode b_M_loose 51 = .ok (.iconst 1, 1) := by decide +kernel
theorem d_M_loose_52 : decode b_M_loose 52 = .ok (.iadd, 1) := by decide +kernel
theorem d_M_loose_53 : decode b_M_loose 53 = .ok (.goto 4, 3) := by decide +kernel
theorem d_M_loose_56 : decode b_M_loose 56 = .ok (.iload_n 1, 1) := by decide +kernel
theorem d_M_loose_57 : decode b_M_loose 57 = .ok (.istore_n 1, 1) := by decide +kernel
theorem d_M_loose_58 : decode b_M_loose 58 = .ok (.iinc 2 1, 3) := by decide +kernel
theorem d_M_loose_61 : decode b_M_loose 61 = .ok (.goto (-53), 3) := by decide +kernel
theorem d_M_loose_64 : decode b_M_loose 64 = .ok (.iload_n 1, 1) := by decide +kernel
theorem d_M_loose_65 : decode b_M_loose 65 = .ok (.ireturn, 1) := by decide +kernel
theorem d_M_know_0 : decode b_M_know 0 = .ok (.aload_n 0, 1) := by decide +kernel
theorem d_M_know_1 : decode b_M_know 1 = .ok (.iload_n 1, 1) := by decide +kernel
theorem d_M_know_2 : decode b_M_know 2 = .ok (.iload_n 2, 1) := by decide +kernel
theorem d_M_know_3 : decode b_M_know 3 = .ok (.invokevirtual 49, 3) := by decide +kernel
theorem d_M_know_6 : decode b_M_know 6 = .ok (.ifCond .ne 5, 3) := by decide +kernel
theorem d_M_know_9 : decode b_M_know 9 = .ok (.iconst 0, 1) := by decide +kernel
theorem d_M_know_10 : decode b_M_know 10 = .ok (.ireturn, 1) := by decide +kernel
theorem d_M_know_11 : decode b_M_know 11 = .ok (.aload_n 0, 1) := by decide +kernel
theorem d_M_know_12 : decode b_M_know 12 = .ok (.invokevirtual 113, 3) := by decide +kernel
theorem d_M_know_15 : decode b_M_know 15 = .ok (.aload_n 0, 1) := by decide +kernel
theorem d_M_know_16 : decode b_M_know 16 = .ok (.getfield 19, 3) := by decide +kernel
theorem d_M_know_19 : decode b_M_know 19 = .ok (.bipush 6, 2) := by decide +kernel
theorem d_M_know_21 : decode b_M_know 21 = .ok (.iload_n 1, 1) := by decide +kernel
theorem d_M_know_22 : decode b_M_know 22 = .ok (.imul, 1) := by decide +kernel
theorem d_M_know_23 : decode b_M_know 23 = .ok (.iload_n 2, 1) := by decide +kernel
theorem d_M_know_24 : decode b_M_know 24 = .ok (.iadd, 1) := by decide +kernel
theorem d_M_know_25 : decode b_M_know 25 = .ok (.iaload, 1) := by decide +kernel
theorem d_M_know_26 : decode b_M_know 26 = .ok (.ifCond .ne 5, 3) := by decide +kernel
theorem d_M_know_29 : decode b_M_know 29 = .ok (.iconst 0, 1) := by decide +kernel
theorem d_M_know_30 : decode b_M_know 30 = .ok (.ireturn, 1) := by decide +kernel
theorem d_M_know_31 : decode b_M_know 31 = .ok (.aload_n 0, 1) := by decide +kernel
theorem d_M_know_32 : decode b_M_know 32 = .ok (.getfield 13, 3) := by decide +kernel
theorem d_M_know_35 : decode b_M_know 35 = .ok (.bipush 6, 2) := by decide +kernel
theorem d_M_know_37 : decode b_M_know 37 = .ok (.iload_n 1, 1) := by decide +kernel
theorem d_M_know_38 : decode b_M_know 38 = .ok (.imul, 1) := by decide +kernel
theorem d_M_know_39 : decode b_M_know 39 = .ok (.iload_n 2, 1) := by decide +kernel
theorem d_M_know_40 : decode b_M_know 40 = .ok (.iadd, 1) := by decide +kernel
theorem d_M_know_41 : decode b_M_know 41 = .ok (.iconst 1, 1) := by decide +kernel
theorem d_M_know_42 : decode b_M_know 42 = .ok (.bastore, 1) := by decide +kernel
theorem d_M_know_43 : decode b_M_know 43 = .ok (.iconst 1, 1) := by decide +kernel
theorem d_M_know_44 : decode b_M_know 44 = .ok (.ireturn, 1) := by decide +kernel
theorem d_M_forget_0 : decode b_M_forget 0 = .ok (.iconst 0, 1) := by decide +kernel
theorem d_M_forget_1 : decode b_M_forget 1 = .ok (.istore_n 1, 1) := by decide +kernel
theorem d_M_forget_2 : decode b_M_forget 2 = .ok (.iconst 0, 1) := by decide +kernel
theorem d_M_forget_3 : decode b_M_forget 3 = .ok (.istore_n 2, 1) := by decide +kernel
theorem d_M_forget_4 : decode b_M_forget 4 = .ok (.iload_n 2, 1) := by decide +kernel
theorem d_M_forget_5 : decode b_M_forget 5 = .ok (.bipush 36, 2) := by decide +kernel
theorem d_M_forget_7 : decode b_M_forget 7 = .ok (.if_icmp .ge 26, 3) := by decide +kernel
theorem d_M_forget_10 : decode b_M_forget 10 = .ok (.aload_n 0, 1) := by decide +kernel
theorem d_M_forget_11 : decode b_M_forget 11 = .ok (.getfield 13, 3) := by decide +kernel
theorem d_M_forget_14 : decode b_M_forget 14 = .ok (.iload_n 2, 1) := by decide +kernel
theorem d_M_forget_15 : decode b_M_forget 15 = .ok (.baload, 1) := by decide +kernel
theorem d_M_forget_16 : decode b_M_forget 16 = .ok (.ifCond .eq 9, 3) := by decide +kernel
theorem d_M_forget_19 : decode b_M_forget 19 = .ok (.iload_n 1, 1) := by decide +kernel
theorem d_M_forget_20 : decode b_M_forget 20 = .ok (.iconst 1, 1) := by decide +kernel
theorem d_M_forget_21 : decode b_M_forget 21 = .ok (.iadd, 1) := by decide +kernel
theorem d_M_forget_22 : decode b_M_forget 22 = .ok (.goto 4, 3) := by decide +kernel
theorem d_M_forget_25 : decode b_M_forget 25 = .ok (.iload_n 1, 1) := by decide +kernel
theorem d_M_forget_26 : decode b_M_forget 26 = .ok (.istore_n 1, 1) := by decide +kernel
theorem d_M_forget_27 : decode b_M_forget 27 = .ok (.iinc 2 1, 3) := by decide +kernel
theorem d_M_forget_30 : decode b_M_forget 30 = .ok (.goto (-26), 3) := by decide +kernel
theorem d_M_forget_33 : decode b_M_forget 33 = .ok (.aload_n 0, 1) := by decide +kernel
theorem d_M_forget_34 : decode b_M_forget 34 = .ok (.invokevirtual 64, 3) := by decide +kernel
theorem d_M_forget_37 : decode b_M_forget 37 = .ok (.iload_n 1, 1) := by decide +kernel
theorem d_M_forget_38 : decode b_M_forget 38 = .ok (.ireturn, 1) := by decide +kernel
theorem d_M_members_0 : decode b_M_members 0 = .ok (.aload_n 0, 1) := by decide +kernel
theorem d_M_members_1 : decode b_M_members 1 = .ok (.invokevirtual 113, 3) := by decide +kernel
theorem d_M_members_4 : decode b_M_members 4 = .ok (.aload_n 0, 1) := by decide +kernel
theorem d_M_members_5 : decode b_M_members 5 = .ok (.getfield 103, 3) := by decide +kernel
theorem d_M_members_8 : decode b_M_members 8 = .ok (.ireturn, 1) := by decide +kernel
theorem d_M_first_0 : decode b_M_first 0 = .ok (.aload_n 0, 1) := by decide +kernel
theorem d_M_first_1 : decode b_M_first 1 = .ok (.iload_n 1, 1) := by decide +kernel
theorem d_M_first_2 : decode b_M_first 2 = .ok (.iload_n 2, 1) := by decide +kernel
theorem d_M_first_3 : decode b_M_first 3 = .ok (.invokevirtual 49, 3) := by decide +kernel
theorem d_M_first_6 : decode b_M_first 6 = .ok (.ifCond .ne 5, 3) := by decide +kernel
theorem d_M_first_9 : decode b_M_first 9 = .ok (.iconst 0, 1) := by decide +kernel
theorem d_M_first_10 : decode b_M_first 10 = .ok (.ireturn, 1) := by decide +kernel
theorem d_M_first_11 : decode b_M_first 11 = .ok (.aload_n 0, 1) := by decide +kernel
theorem d_M_first_12 : decode b_M_first 12 = .ok (.invokevirtual 113, 3) := by decide +kernel
theorem d_M_first_15 : decode b_M_first 15 = .ok (.aload_n 0, 1) := by decide +kernel
theorem d_M_first_16 : decode b_M_first 16 = .ok (.getfield 23, 3) := by decide +kernel
theorem d_M_first_19 : decode b_M_first 19 = .ok (.bipush 6, 2) := by decide +kernel
theorem d_M_first_21 : decode b_M_first 21 = .ok (.iload_n 1, 1) := by decide +kernel
theorem d_M_first_22 : decode b_M_first 22 = .ok (.imul, 1) := by decide +kernel
theorem d_M_first_23 : decode b_M_first 23 = .ok (.iload_n 2, 1) := by decide +kernel
theorem d_M_first_24 : decode b_M_first 24 = .ok (.iadd, 1) := by decide +kernel
theorem d_M_first_25 : decode b_M_first 25 = .ok (.baload, 1) := by decide +kernel
theorem d_M_first_26 : decode b_M_first 26 = .ok (.ireturn, 1) := by decide +kernel
theorem d_M_turned_0 : decode b_M_turned 0 = .ok (.aload_n 0, 1) := by decide +kernel
theorem d_M_turned_1 : decode b_M_turned 1 = .ok (.invokevirtual 113, 3) := by decide +kernel
theorem d_M_turned_4 : decode b_M_turned 4 = .ok (.iconst 0, 1) := by decide +kernel
theorem d_M_turned_5 : decode b_M_turned 5 = .ok (.istore_n 1, 1) := by decide +kernel
theorem d_M_turned_6 : decode b_M_turned 6 = .ok (.iconst 0, 1) := by decide +kernel
theorem d_M_turned_7 : decode b_M_turned 7 = .ok (.istore_n 2, 1) := by decide +kernel
theorem d_M_turned_8 : decode b_M_turned 8 = .ok (.iload_n 2, 1) := by decide +kernel
theorem d_M_turned_9 : decode b_M_turned 9 = .ok (.aload_n 0, 1) := by decide +kernel
theorem d_M_turned_10 : decode b_M_turned 10 = .ok (.getfield 41, 3) := by decide +kernel
theorem d_M_turned_13 : decode b_M_turned 13 = .ok (.if_icmp .ge 61, 3) := by decide +kernel
theorem d_M_turned_16 : decode b_M_turned 16 = .ok (.iconst 0, 1) := by decide +kernel
theorem d_M_turned_17 : decode b_M_turned 17 = .ok (.istore_n 3, 1) := by decide +kernel
theorem d_M_turned_18 : decode b_M_turned 18 = .ok (.iload_n 3, 1) := by decide +kernel
theorem d_M_turned_19 : decode b_M_turned 19 = .ok (.aload_n 0, 1) := by decide +kernel
theorem d_M_turned_20 : decode b_M_turned 20 = .ok (.getfield 41, 3) := by decide +kernel
theorem d_M_turned_23 : decode b_M_turned 23 = .ok (.if_icmp .ge 45, 3) := by decide +kernel
theorem d_M_turned_26 : decode b_M_turned 26 = .ok (.aload_n 0, 1) := by decide +kernel
theorem d_M_turned_27 : decode b_M_turned 27 = .ok (.getfield 7, 3) := by decide +kernel
theorem d_M_turned_30 : decode b_M_turned 30 = .ok (.bipush 6, 2) := by decide +kernel
theorem d_M_turned_32 : decode b_M_turned 32 = .ok (.iload_n 2, 1) := by decide +kernel
theorem d_M_turned_33 : decode b_M_turned 33 = .ok (.imul, 1) := by decide +kernel
theorem d_M_turned_34 : decode b_M_turned 34 = .ok (.iload_n 3, 1) := by decide +kernel
theorem d_M_turned_35 : decode b_M_turned 35 = .ok (.iadd, 1) := by decide +kernel
theorem d_M_turned_36 : decode b_M_turned 36 = .ok (.baload, 1) := by decide +kernel
theorem d_M_turned_37 : decode b_M_turned 37 = .ok (.ifCond .eq 23, 3) := by decide +kernel
theorem d_M_turned_40 : decode b_M_turned 40 = .ok (.aload_n 0, 1) := by decide +kernel
theorem d_M_turned_41 : decode b_M_turned 41 = .ok (.getfield 23, 3) := by decide +kernel
theorem d_M_turned_44 : decode b_M_turned 44 = .ok (.bipush 6, 2) := by decide +kernel
theorem d_M_turned_46 : decode b_M_turned 46 = .ok (.iload_n 3, 1) := by decide +kernel
theorem d_M_turned_47 : decode b_M_turned 47 = .ok (.imul, 1) := by decide +kernel
theorem d_M_turned_48 : decode b_M_turned 48 = .ok (.iload_n 2, 1) := by decide +kernel
theorem d_M_turned_49 : decode b_M_turned 49 = .ok (.iadd, 1) := by decide +kernel
theorem d_M_turned_50 : decode b_M_turned 50 = .ok (.baload, 1) := by decide +kernel
theorem d_M_turned_51 : decode b_M_turned 51 = .ok (.ifCond .eq 9, 3) := by decide +kernel
theorem d_M_turned_54 : decode b_M_turned 54 = .ok (.iload_n 1, 1) := by decide +kernel
theorem d_M_turned_55 : decode b_M_turned 55 = .ok (.iconst 1, 1) := by decide +kernel
theorem d_M_turned_56 : decode b_M_turned 56 = .ok (.iadd, 1) := by decide +kernel
theorem d_M_turned_57 : decode b_M_turned 57 = .ok (.goto 4, 3) := by decide +kernel
theorem d_M_turned_60 : decode b_M_turned 60 = .ok (.iload_n 1, 1) := by decide +kernel
theorem d_M_turned_61 : decode b_M_turned 61 = .ok (.istore_n 1, 1) := by decide +kernel
theorem d_M_turned_62 : decode b_M_turned 62 = .ok (.iinc 3 1, 3) := by decide +kernel
theorem d_M_turned_65 : decode b_M_turned 65 = .ok (.goto (-47), 3) := by decide +kernel
theorem d_M_turned_68 : decode b_M_turned 68 = .ok (.iinc 2 1, 3) := by decide +kernel
theorem d_M_turned_71 : decode b_M_turned 71 = .ok (.goto (-63), 3) := by decide +kernel
theorem d_M_turned_74 : decode b_M_turned 74 = .ok (.iload_n 1, 1) := by decide +kernel
theorem d_M_turned_75 : decode b_M_turned 75 = .ok (.ireturn, 1) := by decide +kernel
end
section
/-! own rows: contracts that only read (vz_B), contracts that write their own cells (vz_Bw), their calls -/
/-- the one link to a nest mate: Graph calls ArrowClasses.holds -/
abbrev nW : Cond := .methodLinkNest "ArrowClasses$Graph" 20 ⟨"ArrowClasses", "holds", "(II)Z"⟩ "ArrowClasses"
abbrev vz_B (D : va_G) (cl : List vw_C) (ws : va_W) (tys : List (ClassId × FieldType)) : State → Prop := fun U => va_P D cl ws U.heap ∧ va_K D cl tys U ∧ va_Nw nW U
abbrev vz_Bw (D : va_G) (cl : List vw_C) (ws : va_W) (tys : List (ClassId × FieldType)) (sz : Nat) : State → Prop := fun U => U.heap.size = sz ∧ va_P D cl ws U.heap ∧ va_K D cl tys U ∧ va_D (fun _ => True) ws ∧ va_Nw nW U
section VZ
variable {p : Program} {l : Launch} {e : Env} {R : Room} {s : State} {m : MethodId} {args : Array Value} {below : List Frame} {meth : Method} {c : Code} {H : Heap} {locs : List Loc} {cells slots : Nat} {Q : State → Prop}
variable {pc : Nat} {ls : Array Slot} {rest st0 : List Value} {a : Array Value} {A0 : Nat → Prop} {H0 : Heap} {D : va_G} {cl : List vw_C} {tys : List (ClassId × FieldType)} {ws wc wr w1 : va_W} {As : List Value} {b : Nat}
theorem vz_top {x y : Int32} (h : x = y) (k : W p l e R s m args below meth c H locs cells slots Q (F0 m pc ls (.int y :: rest))) : W p l e R s m args below meth c H locs cells slots Q (F0 m pc ls (.int x :: rest)) := by
  subst h; exact k
theorem vz_top2 {x y : Int32} {v : Value} (h : x = y) (k : W p l e R s m args below meth c H locs cells slots Q (F0 m pc ls (v :: .int y :: rest))) : W p l e R s m args below meth c H locs cells slots Q (F0 m pc ls (v :: .int x :: rest)) := by
  subst h; exact k
theorem vz_inc (i : Nat) : nI i + Int32.ofInt 1 = nI (i + 1) := by
  rw [← nI_1]; rfl
theorem vz_nz {v : Int32} (h : v = 0 ∨ v = 1) : narrow .boolean (.int v) = .int v := by
  rcases h with rfl | rfl <;> rfl
/-- a call that only reads and answers r -/
theorem vz_ro {r : Int32} (hr : va_Run p l e R s m args below meth c H locs cells slots 0 0 (F0 m pc ls st0) rest (QcRead r a) (fun _ => False))
    (kk : W p l e R s m args below meth c H locs cells slots Q (F0 m (pc + 3) ls (.int r :: rest))) : W p l e R s m args below meth c H locs cells slots Q (F0 m pc ls st0) := by
  intro T hT X
  obtain ⟨v, st₀, t, T', L, h0, X', hL, e1, -, ⟨hv, hh⟩, st⟩ := hr T hT X
  cases hv
  obtain ⟨t2, a1, b1⟩ := kk T' (by rw [e1, hh, h0]) (Stand.forget X' (fun q h => (hL q h).elim))
  exact ⟨t2, st t2 a1, b1⟩
/-- a call that writes its own cells (wc, then w1); the rest (wr) stays -/
theorem vz_rv (hr : va_Run p l e R s m args below meth c H locs cells slots 0 0 (F0 m pc ls st0) rest (va_Qv (fun _ : Unit => True) (fun (_ : Unit) t => va_P D cl w1 t.heap ∧ va_K D cl tys t ∧ va_D (va_A wc H.size) w1) (va_A wc H.size) a) (va_A wc H.size))
    (hP : va_P D cl ws H) (hD : va_D A0 ws) (hS : va_S A0 H0 H locs) (hA : ∀ q, H0.size ≤ q → A0 q) (isC isR : List Nat) (hC : isC.map (fun i => ws[i]?) = wc.map some) (hR : isR.map (fun i => ws[i]?) = wr.map some) (hn : va_nd isR = true) (hdis : ∀ i ∈ isR, i ∉ isC)
    (kk : ∀ (H1 : Heap) (locs1 : List Loc), va_P D cl (wr ++ w1) H1 → va_D A0 (wr ++ w1) → va_S A0 H0 H1 locs1 → W p l e R s m args below meth c H1 locs1 cells slots Q (F0 m (pc + 3) ls rest)) : W p l e R s m args below meth c H locs cells slots Q (F0 m pc ls st0) := by
  have hF := va_free (wc := wc) hD hS hA isC hC
  refine va_callv hr hS (fun q _ h => hF q h) hF (fun u t H1 locs1 ht hvm hw hB hz1 hk1 hS1 => ?_)
  obtain ⟨hP1, hK1, hD1⟩ := hB
  rw [ht] at hP1
  obtain ⟨hP2, hD2⟩ := va_join (wr := wr) (w1 := w1) hP hD isC isR hC hR hn hdis hk1 hF hP1 hD1
  exact kk H1 locs1 hP2 hD2 hS1
theorem vz_ri {r0 : Int32} (hr : va_Run p l e R s m args below meth c H locs cells slots 0 0 (F0 m pc ls st0) rest (va_Qi (fun (r : Int32) (_ : Unit) => r = r0) (fun (_ : Unit) t => va_P D cl w1 t.heap ∧ va_K D cl tys t ∧ va_D (va_A wc H.size) w1) (va_A wc H.size) a) (va_A wc H.size))
    (hP : va_P D cl ws H) (hD : va_D A0 ws) (hS : va_S A0 H0 H locs) (hA : ∀ q, H0.size ≤ q → A0 q) (isC isR : List Nat) (hC : isC.map (fun i => ws[i]?) = wc.map some) (hR : isR.map (fun i => ws[i]?) = wr.map some) (hn : va_nd isR = true) (hdis : ∀ i ∈ isR, i ∉ isC)
    (kk : ∀ (H1 : Heap) (locs1 : List Loc), va_P D cl (wr ++ w1) H1 → va_D A0 (wr ++ w1) → va_S A0 H0 H1 locs1 → W p l e R s m args below meth c H1 locs1 cells slots Q (F0 m (pc + 3) ls (.int r0 :: rest))) : W p l e R s m args below meth c H locs cells slots Q (F0 m pc ls st0) := by
  have hF := va_free (wc := wc) hD hS hA isC hC
  refine va_calli hr hS (fun q _ h => hF q h) hF (fun r u t H1 locs1 ht hvm hw hB hz1 hk1 hS1 => ?_)
  obtain ⟨hP1, hK1, hD1⟩ := hB
  rw [ht] at hP1
  obtain ⟨hP2, hD2⟩ := va_join (wr := wr) (w1 := w1) hP hD isC isR hC hR hn hdis hk1 hF hP1 hD1
  have hw : r = r0 := hw
  subst hw
  exact kk H1 locs1 hP2 hD2 hS1
/-- what a call wants of the world: a receiver, the callee's cells cut out -/
theorem vz_pv {q0 ci : Nat} {q : vw_C} {fs : List Value} (hN : va_Nw nW s) (hK : va_K D cl tys s) (hP : va_P D cl ws H) (is : List Nat) (hs : is.filterMap (fun i => ws[i]?) = wc) (hc : cl[ci]? = some q) (he : ws[q0]? = some (b, .inr (ci, fs))) : PreV s H q.1 b (va_Pc (.ref b :: As) (vz_B D cl wc tys)) As :=
  ⟨fun a U g mk h => ⟨h.1, h.2.1, va_K.moved (u := U) (U := U.calling g mk a) (Vm.Alike.refl U.vm) h.2.2.1, va_Nw.same rfl (rfl : U.vm = (U.calling g mk a).vm) h.2.2.2⟩, va_recv hK hP hc he, fun U hU hW => ⟨rfl, by rw [hU]; exact hP.sub is hs, va_K.moved hW.alike hK, va_Nw.warmM hW hN⟩⟩
theorem vz_ps (hN : va_Nw nW s) (hK : va_K D cl tys s) (hP : va_P D cl ws H) (is : List Nat) (hs : is.filterMap (fun i => ws[i]?) = wc) : PreS s H (va_Pc As (vz_B D cl wc tys)) As :=
  ⟨fun a U g mk h => ⟨h.1, h.2.1, va_K.moved (u := U) (U := U.calling g mk a) (Vm.Alike.refl U.vm) h.2.2.1, va_Nw.same rfl (rfl : U.vm = (U.calling g mk a).vm) h.2.2.2⟩, fun U hU hW => ⟨rfl, by rw [hU]; exact hP.sub is hs, va_K.moved hW.alike hK, va_Nw.warmM hW hN⟩⟩
theorem vz_pvw {q0 ci : Nat} {q : vw_C} {fs : List Value} (hN : va_Nw nW s) (hK : va_K D cl tys s) (hP : va_P D cl ws H) (hD : va_D A0 ws) (is : List Nat) (hs : is.filterMap (fun i => ws[i]?) = wc) (hn : va_nd is = true) (hs2 : is.map (fun i => ws[i]?) = wc.map some) (hc : cl[ci]? = some q) (he : ws[q0]? = some (b, .inr (ci, fs))) : PreV s H q.1 b (va_Pc (.ref b :: As) (vz_Bw D cl wc tys H.size)) As :=
  ⟨fun a U g mk h => ⟨h.1, h.2.1, h.2.2.1, va_K.moved (u := U) (U := U.calling g mk a) (Vm.Alike.refl U.vm) h.2.2.2.1, h.2.2.2.2.1, va_Nw.same rfl (rfl : U.vm = (U.calling g mk a).vm) h.2.2.2.2.2⟩, va_recv hK hP hc he, fun U hU hW => ⟨rfl, by rw [hU], by rw [hU]; exact hP.sub is hs, va_K.moved hW.alike hK, (hD.sub is hn hs2).weaken (fun _ _ _ _ => trivial), va_Nw.warmM hW hN⟩⟩
end VZ
/-- two array classes of one kind are one -/
theorem vz_sameI {D : va_G} {cl : List vw_C} {tys : List (ClassId × FieldType)} {U : State} {x y : ClassId} {i j : Nat} (h : va_K D cl tys U) (hi : tys[i]? = some (x, .int)) (hj : tys[j]? = some (y, .int)) : x = y := by
  have h1 : U.vm.findClass ("[" ++ FieldType.int.toString) = some x := (h.2 i _ hi).2
  have h2 : U.vm.findClass ("[" ++ FieldType.int.toString) = some y := (h.2 j _ hj).2
  rw [h1] at h2
  exact Option.some.inj h2
theorem vz_sameZ {D : va_G} {cl : List vw_C} {tys : List (ClassId × FieldType)} {U : State} {x y : ClassId} {i j : Nat} (h : va_K D cl tys U) (hi : tys[i]? = some (x, .boolean)) (hj : tys[j]? = some (y, .boolean)) : x = y := by
  have h1 : U.vm.findClass ("[" ++ FieldType.boolean.toString) = some x := (h.2 i _ hi).2
  have h2 : U.vm.findClass ("[" ++ FieldType.boolean.toString) = some y := (h.2 j _ hj).2
  rw [h1] at h2
  exact Option.some.inj h2
/-! words of a call out of vzB -/
section VZW
variable {R : Room} {s : State} {args : Array Value} {own C : String} {index : Nat} {y : MethodName} {bytes : ByteArray} {maxL n : Nat} {ret : Option FieldType} {rm : Room}
theorem vz_cwV (hT : ∀ w ∈ vzB, w.before args s = true) (wl : Cond.methodLink own index y ∈ vzB) (wi : Cond.instanceMethod y ∈ vzB) (we : Cond.selects C y y ∈ vzB) (wn : Cond.initialized C ∈ vzB) (wc : Cond.code y bytes maxL ret ∈ vzB)
    (hd : y.cls = C ∧ y.cls ≠ "java/lang/invoke/MethodHandle" ∧ y.cls ≠ "java/lang/invoke/VarHandle" ∧ (parseMethodDescriptor y.desc).map (fun d => d.parameters.length) = some n) (hR : rm.frames + 1 ≤ R.frames ∧ 8 + (maxL + 11) + rm.locals ≤ R.locals) :
    CallW R s args own C index y bytes maxL ret (Cond.code y bytes maxL ret :: vzB) rm rm.cells rm.slots n :=
  cwV n hT (goodIn_c wl rfl (goodIn_c wi rfl (goodIn_c we rfl (goodIn_c wn rfl (goodIn_c wc rfl gd_B))))) rfl rfl rfl hd hR
theorem vz_cwS (hT : ∀ w ∈ vzB, w.before args s = true) (wl : Cond.methodLink own index y ∈ vzB) (wi : Cond.static y ∈ vzB) (wn : Cond.initialized y.cls ∈ vzB) (wc : Cond.code y bytes maxL ret ∈ vzB)
    (hd : y.cls ≠ "java/lang/invoke/MethodHandle" ∧ y.cls ≠ "java/lang/invoke/VarHandle" ∧ (parseMethodDescriptor y.desc).map (fun d => d.parameters.length) = some n) (hR : rm.frames + 1 ≤ R.frames ∧ 8 + (maxL + 11) + rm.locals ≤ R.locals) :
    CallB R s args own index y bytes maxL ret (Cond.code y bytes maxL ret :: vzB) rm rm.cells rm.slots n ∧ (Cond.static y).before args s = true :=
  va_cwS n hT (goodIn_c wl rfl (goodIn_c wi rfl (goodIn_c wn rfl (goodIn_c wc rfl gd_B)))) rfl rfl rfl hd hR
theorem vz_cwI (hT : ∀ w ∈ vzB, w.before args s = true) (wl : Cond.methodLink own index y ∈ vzB) (wi : Cond.instanceMethod y ∈ vzB) (wn : Cond.initialized y.cls ∈ vzB) (wc : Cond.code y bytes maxL none ∈ vzB) (hy1 : y.name = "<init>")
    (hd : y.cls ≠ "java/lang/invoke/MethodHandle" ∧ y.cls ≠ "java/lang/invoke/VarHandle" ∧ (parseMethodDescriptor y.desc).map (fun d => d.parameters.length) = some n) (hR : rm.frames + 1 ≤ R.frames ∧ 8 + (maxL + 11) + rm.locals ≤ R.locals) :
    CallB R s args own index y bytes maxL none (Cond.code y bytes maxL none :: vzB) rm rm.cells rm.slots n ∧ y.name = "<init>" ∧ (Cond.instanceMethod y).before args s = true :=
  cwI n hT (goodIn_c wc rfl gd_B) rfl rfl rfl (hT _ wn) (hT _ wl) (hT _ wi) hy1 hd hR
theorem vz_cwN {host : String} (hT : ∀ w ∈ vzB, w.before args s = true) (hl : va_Nw (.methodLinkNest own index y host) s) (wi : Cond.static y ∈ vzB) (wn : Cond.initialized y.cls ∈ vzB) (wc : Cond.code y bytes maxL ret ∈ vzB)
    (hd : y.cls ≠ "java/lang/invoke/MethodHandle" ∧ y.cls ≠ "java/lang/invoke/VarHandle" ∧ (parseMethodDescriptor y.desc).map (fun d => d.parameters.length) = some n) (hR : rm.frames + 1 ≤ R.frames ∧ 8 + (maxL + 11) + rm.locals ≤ R.locals) :
    va_CN R s args own index y host bytes maxL ret (Cond.code y bytes maxL ret :: vzB) rm rm.cells rm.slots n ∧ (Cond.static y).before args s = true ∧ True :=
  ⟨va_cnB n hT (goodIn_c wc rfl gd_B) rfl rfl rfl hl (hT _ wn) hd hR, hT _ wi, trivial⟩
end VZW
end
section
/-! Int32 by its bits (the first rows began as kit/laws/BITS.to-paste, family bt) -/
def bt (x : Int32) (i : Nat) : Bool := x.toBitVec.getLsbD i
theorem b_ext {x y : Int32} (h : ∀ i, i < 32 → bt x i = bt y i) : x = y := Int32.toBitVec_inj.mp (BitVec.eq_of_getLsbD_eq (fun i hi => h i hi))
theorem b_or (x y : Int32) (i : Nat) : bt (x ||| y) i = (bt x i || bt y i) := by unfold bt; rw [Int32.toBitVec_or, BitVec.getLsbD_or]
theorem b_and (x y : Int32) (i : Nat) : bt (x &&& y) i = (bt x i && bt y i) := by unfold bt; rw [Int32.toBitVec_and, BitVec.getLsbD_and]
theorem b_xor (x y : Int32) (i : Nat) : bt (x ^^^ y) i = (bt x i ^^ bt y i) := by unfold bt; rw [Int32.toBitVec_xor, BitVec.getLsbD_xor]
theorem b_big {x : Int32} {i : Nat} (h : 32 ≤ i) : bt x i = false := BitVec.getLsbD_of_ge _ _ h
theorem b_m1 : ∀ i, i < 32 → bt (-1) i = true := by decide +kernel
theorem b_0 (i : Nat) : bt 0 i = false := BitVec.getLsbD_zero
theorem s_l : ∀ n, n < 32 → ((nI n &&& 31).toBitVec.smod 32).toNat = n := by decide +kernel
theorem b_shl (n : Nat) (hn : n < 32) (x : Int32) {i : Nat} (hi : i < 32) : bt (x <<< (nI n &&& 31)) i = (decide (n ≤ i) && bt x (i - n)) := by
  unfold bt
  rw [Int32.toBitVec_shiftLeft]
  show (x.toBitVec <<< ((nI n &&& 31).toBitVec.smod 32).toNat).getLsbD i = _
  rw [s_l n hn, BitVec.getLsbD_shiftLeft]
  rcases Nat.lt_or_ge i n with h | h
  · simp [h, Nat.not_le.mpr h]
  · simp [hi, h, Nat.not_lt.mpr h]
theorem b_sshr (n : Nat) (hn : n < 32) (x : Int32) {i : Nat} (hi : i < 32) : bt (x >>> (nI n &&& 31)) i = if n + i < 32 then bt x (n + i) else bt x 31 := by
  unfold bt
  rw [Int32.toBitVec_shiftRight]
  show (x.toBitVec.sshiftRight ((nI n &&& 31).toBitVec.smod 32).toNat).getLsbD i = _
  rw [s_l n hn, BitVec.getLsbD_sshiftRight, BitVec.msb_eq_getLsbD_last]
  simp [hi]
theorem b_1 : ∀ j, j < 32 → bt 1 j = decide (j = 0) := by decide +kernel
theorem b_lt {x : Int32} {i : Nat} (h : bt x i = true) : i < 32 := by
  rcases Nat.lt_or_ge i 32 with h2 | h2
  · exact h2
  · rw [b_big h2] at h; cases h
theorem b_low (x : Int32) : x &&& 1 = if bt x 0 = true then 1 else 0 := by
  apply b_ext
  intro j hj
  rw [b_and, b_1 j hj]
  by_cases h0 : j = 0
  · subst h0
    cases bt x 0
    · rw [if_neg (by decide), b_0]; rfl
    · rw [if_pos rfl, b_1 0 (by decide)]; rfl
  · rw [decide_eq_false h0, Bool.and_false]
    cases bt x 0
    · rw [if_neg (by decide), b_0]
    · rw [if_pos rfl, b_1 j hj, decide_eq_false h0]
/-- the bit test of both sides -/
theorem b_at (x : Int32) {i : Nat} (hi : i < 32) : (x >>> (nI i &&& 31)) &&& 1 = if bt x i = true then 1 else 0 := by
  rw [b_low, b_sshr i hi x (by omega), if_pos (show i + 0 < 32 by omega), Nat.add_zero]
theorem b_at0 (x : Int32) {i : Nat} (hi : i < 32) : ((x >>> (nI i &&& 31)) &&& 1 = 0) ↔ bt x i = false := by
  rw [b_at x hi]
  cases bt x i
  · exact ⟨fun _ => rfl, fun _ => if_neg (by decide)⟩
  · rw [if_pos rfl]
    exact ⟨fun h => absurd h (by decide), fun h => by cases h⟩
theorem b_at1 (x : Int32) {i : Nat} (hi : i < 32) : ((x >>> (nI i &&& 31)) &&& 1 = 1) ↔ bt x i = true := by
  rw [b_at x hi]
  cases bt x i
  · rw [if_neg (by decide)]
    exact ⟨fun h => absurd h (by decide), fun h => by cases h⟩
  · exact ⟨fun _ => rfl, fun _ => if_pos rfl⟩
theorem b_one {n : Nat} (hn : n < 32) (i : Nat) : bt ((1 : Int32) <<< (nI n &&& 31)) i = decide (i = n) := by
  rcases Nat.lt_or_ge i 32 with hi | hi
  · rw [b_shl n hn 1 hi]
    rcases Nat.lt_or_ge i n with h | h
    · rw [decide_eq_false (by omega), decide_eq_false (by omega), Bool.false_and]
    · rw [decide_eq_true h, b_1 _ (by omega), Bool.true_and]
      exact decide_eq_decide.mpr (by omega)
  · rw [b_big hi, decide_eq_false (by omega)]
theorem b_not (x : Int32) {i : Nat} (hi : i < 32) : bt (x ^^^ (-1)) i = !bt x i := by
  rw [b_xor, b_m1 i hi, Bool.xor_true]
theorem b_eq0 {x : Int32} : x = 0 ↔ ∀ i, bt x i = false := by
  constructor
  · intro h i; rw [h]; exact b_0 i
  · intro h; exact b_ext (fun i _ => by rw [h i, b_0])
theorem b_ext' {x y : Int32} (h : ∀ i, bt x i = bt y i) : x = y := b_ext (fun i _ => h i)
theorem b_eq {x y : Int32} : x = y ↔ ∀ i, bt x i = bt y i := ⟨fun h i => by rw [h], b_ext'⟩
/-! small numbers -/
theorem vz_p64 {n : Nat} (h : n ≤ 6) : 2 ^ n ≤ 64 := by
  have : 2 ^ n ≤ 2 ^ 6 := Nat.pow_le_pow_right (by decide) h
  exact this
theorem vz_p512 {n : Nat} (h : n ≤ 9) : 2 ^ n ≤ 512 := by
  have : 2 ^ n ≤ 2 ^ 9 := Nat.pow_le_pow_right (by decide) h
  exact this
theorem vz_pow_all : ∀ n, n < 31 → (1 : Int32) <<< (nI n &&& 31) = nI (2 ^ n) := by decide +kernel
theorem vz_pow {n : Nat} (h : n ≤ 9) : (1 : Int32) <<< (nI n &&& 31) = nI (2 ^ n) := vz_pow_all n (by omega)
theorem vz_sub1 {n : Nat} (h : 1 ≤ n) : nI n - 1 = nI (n - 1) := pk_sub (b := 1) h
theorem vz_dec {n : Nat} (h : 1 ≤ n) : nI n + Int32.ofInt (-1) = nI (n - 1) := by
  obtain ⟨k, rfl⟩ : ∃ k, n = k + 1 := ⟨n - 1, by omega⟩
  exact pk_m1 k
theorem vz_in6 {n : Nat} {x : Int32} (hn : n ≤ 6) (h : vp_in x n) : vp_in x 6 := by
  rw [vp_in_iff] at h ⊢
  omega
/-- a place in a table of 6 times 6 -/
theorem vz_ixN (i j : Nat) : 6 * nI i + nI j = nI (6 * i + j) := by
  rw [show (6 : Int32) = nI 6 from rfl, pk_mul, nI_add]
theorem vz_ix {n : Nat} {x y : Int32} (hn : n ≤ 6) (hx : vp_in x n) (hy : vp_in y n) : vp_in (6 * x + y) 36 := by
  obtain ⟨i, hi, rfl⟩ := vp_in_of hx (by omega)
  obtain ⟨j, hj, rfl⟩ := vp_in_of hy (by omega)
  rw [vz_ixN]
  exact vp_in_nI (by omega) (by omega)
theorem vz_ixC {i j : Nat} (hi : i < 6) (hj : j < 6) : (6 * nI i + nI j).toNatClampNeg = 6 * i + j := by
  rw [vz_ixN, nI_clamp (by omega)]
end
section
abbrev rm_J_bitCount : Room := { frames := 0, cells := 0, slots := 0, locals := 0 }
abbrev rm_A_holds : Room := { frames := 0, cells := 0, slots := 0, locals := 0 }
abbrev rm_G_has : Room := { frames := 1, cells := 0, slots := 0, locals := 21 }
abbrev rm_G_joins : Room := { frames := 2, cells := 0, slots := 0, locals := 43 }
abbrev rm_G_put : Room := { frames := 0, cells := 0, slots := 0, locals := 0 }
abbrev rm_G_take : Room := { frames := 0, cells := 0, slots := 0, locals := 0 }
abbrev rm_G_empty : Room := { frames := 0, cells := 0, slots := 0, locals := 0 }
abbrev rm_G_size : Room := { frames := 1, cells := 0, slots := 0, locals := 20 }
abbrev rm_G_reachOf : Room := { frames := 1, cells := 0, slots := 0, locals := 21 }
abbrev rm_G_hasRing : Room := { frames := 0, cells := 0, slots := 0, locals := 0 }
abbrev rm_G_strangers : Room := { frames := 1, cells := 0, slots := 0, locals := 21 }
abbrev rm_G_collidesLike : Room := { frames := 2, cells := 0, slots := 0, locals := 43 }
abbrev rm_G_openFrom : Room := { frames := 1, cells := 0, slots := 0, locals := 21 }
abbrev rm_K_listPair : Room := { frames := 2, cells := 0, slots := 0, locals := 43 }
abbrev rm_K_restart : Room := { frames := 3, cells := 0, slots := 0, locals := 66 }
abbrev rm_K_bitAt : Room := { frames := 0, cells := 0, slots := 0, locals := 0 }
abbrev rm_K_bitOf : Room := { frames := 1, cells := 0, slots := 0, locals := 30 }
abbrev rm_K_isMember : Room := { frames := 3, cells := 0, slots := 0, locals := 66 }
abbrev rm_K_gather : Room := { frames := 4, cells := 0, slots := 0, locals := 88 }
abbrev rm_K_size : Room := { frames := 5, cells := 0, slots := 0, locals := 109 }
abbrev rm_K_someHas : Room := { frames := 5, cells := 0, slots := 0, locals := 109 }
abbrev rm_K_firstHas : Room := { frames := 5, cells := 0, slots := 0, locals := 109 }
abbrev rm_K_loosePairs : Room := { frames := 5, cells := 0, slots := 0, locals := 109 }
abbrev rm_K_turnedInFirst : Room := { frames := 5, cells := 0, slots := 0, locals := 109 }
abbrev rm_K_fix : Room := { frames := 2, cells := 0, slots := 0, locals := 53 }
abbrev rm_K_unfix : Room := { frames := 1, cells := 0, slots := 0, locals := 20 }
abbrev rm_A_isNode : Room := { frames := 0, cells := 0, slots := 0, locals := 0 }
abbrev rm_A_isPair : Room := { frames := 1, cells := 0, slots := 0, locals := 21 }
abbrev rm_A_drawn : Room := { frames := 2, cells := 0, slots := 0, locals := 43 }
abbrev rm_A_parents : Room := { frames := 1, cells := 0, slots := 0, locals := 21 }
abbrev rm_A_reached : Room := { frames := 2, cells := 0, slots := 0, locals := 45 }
abbrev rm_A_around : Room := { frames := 2, cells := 0, slots := 0, locals := 43 }
abbrev rm_A_collisions : Room := { frames := 2, cells := 0, slots := 0, locals := 43 }
abbrev rm_A_covered : Room := { frames := 3, cells := 0, slots := 0, locals := 65 }
abbrev rm_A_separated : Room := { frames := 2, cells := 0, slots := 0, locals := 51 }
abbrev rm_A_separator : Room := { frames := 3, cells := 0, slots := 0, locals := 74 }
abbrev rm_A_separationsBy : Room := { frames := 2, cells := 0, slots := 0, locals := 51 }
abbrev rm_A_separations : Room := { frames := 3, cells := 0, slots := 0, locals := 75 }
abbrev rm_A_noteChange : Room := { frames := 4, cells := 0, slots := 0, locals := 88 }
abbrev rm_A_arrow : Room := { frames := 5, cells := 0, slots := 0, locals := 108 }
abbrev rm_A_erase : Room := { frames := 5, cells := 0, slots := 0, locals := 108 }
abbrev rm_A_turn : Room := { frames := 5, cells := 0, slots := 0, locals := 108 }
abbrev rm_A_edge : Room := { frames := 6, cells := 0, slots := 0, locals := 132 }
abbrev rm_A_loose : Room := { frames := 6, cells := 0, slots := 0, locals := 129 }
abbrev rm_A_members : Room := { frames := 6, cells := 0, slots := 0, locals := 129 }
abbrev rm_A_first : Room := { frames := 6, cells := 0, slots := 0, locals := 132 }
abbrev rm_A_turned : Room := { frames := 6, cells := 0, slots := 0, locals := 129 }
abbrev rm_A_know : Room := { frames := 6, cells := 0, slots := 0, locals := 132 }
abbrev rm_A_forget : Room := { frames := 2, cells := 0, slots := 0, locals := 41 }
abbrev rm_M_isNode : Room := { frames := 0, cells := 0, slots := 0, locals := 0 }
abbrev rm_M_areNodes : Room := { frames := 1, cells := 0, slots := 0, locals := 21 }
abbrev rm_M_joined : Room := { frames := 0, cells := 0, slots := 0, locals := 0 }
abbrev rm_M_arrows : Room := { frames := 0, cells := 0, slots := 0, locals := 0 }
abbrev rm_M_forgetAll : Room := { frames := 0, cells := 0, slots := 0, locals := 0 }
abbrev rm_M_reach : Room := { frames := 0, cells := 0, slots := 0, locals := 0 }
abbrev rm_M_arrow : Room := { frames := 2, cells := 0, slots := 0, locals := 43 }
abbrev rm_M_erase : Room := { frames := 2, cells := 0, slots := 0, locals := 43 }
abbrev rm_M_turn : Room := { frames := 2, cells := 0, slots := 0, locals := 43 }
abbrev rm_M_drawn : Room := { frames := 2, cells := 0, slots := 0, locals := 43 }
abbrev rm_M_parents : Room := { frames := 1, cells := 0, slots := 0, locals := 21 }
abbrev rm_M_reached : Room := { frames := 1, cells := 0, slots := 0, locals := 25 }
abbrev rm_M_around : Room := { frames := 2, cells := 0, slots := 0, locals := 44 }
abbrev rm_M_collides : Room := { frames := 0, cells := 0, slots := 0, locals := 0 }
abbrev rm_M_collisions : Room := { frames := 1, cells := 0, slots := 0, locals := 23 }
abbrev rm_M_covered : Room := { frames := 3, cells := 0, slots := 0, locals := 65 }
abbrev rm_M_size : Room := { frames := 0, cells := 0, slots := 0, locals := 0 }
abbrev rm_M_blocked : Room := { frames := 0, cells := 0, slots := 0, locals := 0 }
abbrev rm_M_onPath : Room := { frames := 0, cells := 0, slots := 0, locals := 0 }
abbrev rm_M_findPairs : Room := { frames := 1, cells := 0, slots := 0, locals := 22 }
abbrev rm_M_direct : Room := { frames := 0, cells := 0, slots := 0, locals := 0 }
abbrev rm_M_hasRing : Room := { frames := 0, cells := 0, slots := 0, locals := 0 }
abbrev rm_M_isMember : Room := { frames := 1, cells := 0, slots := 0, locals := 25 }
abbrev rm_M_goThrough : Room := { frames := 2, cells := 0, slots := 0, locals := 48 }
abbrev rm_M_edge : Room := { frames := 3, cells := 0, slots := 0, locals := 70 }
abbrev rm_M_loose : Room := { frames := 3, cells := 0, slots := 0, locals := 70 }
abbrev rm_M_know : Room := { frames := 3, cells := 0, slots := 0, locals := 70 }
abbrev rm_M_forget : Room := { frames := 1, cells := 0, slots := 0, locals := 21 }
abbrev rm_M_members : Room := { frames := 3, cells := 0, slots := 0, locals := 70 }
abbrev rm_M_first : Room := { frames := 3, cells := 0, slots := 0, locals := 70 }
abbrev rm_M_turned : Room := { frames := 3, cells := 0, slots := 0, locals := 70 }
abbrev rm_M_allBlocked : Room := { frames := 1, cells := 0, slots := 0, locals := 25 }
abbrev rm_M_separated : Room := { frames := 2, cells := 0, slots := 0, locals := 51 }
abbrev rm_M_separator : Room := { frames := 3, cells := 0, slots := 0, locals := 74 }
abbrev rm_M_separations : Room := { frames := 3, cells := 0, slots := 0, locals := 74 }
end
section
def bitCount (x : Int32) : Int32 :=
  (((((((x - (((x.toUInt32 >>> ((1 : Int32).toUInt32 &&& Int32.toUInt32 31)).toInt32) &&& 1431655765)) &&& 858993459) + ((((x - (((x.toUInt32 >>> ((1 : Int32).toUInt32 &&& Int32.toUInt32 31)).toInt32) &&& 1431655765)).toUInt32 >>> ((2 : Int32).toUInt32 &&& Int32.toUInt32 31)).toInt32) &&& 858993459)) + (((((x - (((x.toUInt32 >>> ((1 : Int32).toUInt32 &&& Int32.toUInt32 31)).toInt32) &&& 1431655765)) &&& 858993459) + ((((x - (((x.toUInt32 >>> ((1 : Int32).toUInt32 &&& Int32.toUInt32 31)).toInt32) &&& 1431655765)).toUInt32 >>> ((2 : Int32).toUInt32 &&& Int32.toUInt32 31)).toInt32) &&& 858993459)).toUInt32 >>> ((4 : Int32).toUInt32 &&& Int32.toUInt32 31)).toInt32)) &&& 252645135) + (((((((x - (((x.toUInt32 >>> ((1 : Int32).toUInt32 &&& Int32.toUInt32 31)).toInt32) &&& 1431655765)) &&& 858993459) + ((((x - (((x.toUInt32 >>> ((1 : Int32).toUInt32 &&& Int32.toUInt32 31)).toInt32) &&& 1431655765)).toUInt32 >>> ((2 : Int32).toUInt32 &&& Int32.toUInt32 31)).toInt32) &&& 858993459)) + (((((x - (((x.toUInt32 >>> ((1 : Int32).toUInt32 &&& Int32.toUInt32 31)).toInt32) &&& 1431655765)) &&& 858993459) + ((((x - (((x.toUInt32 >>> ((1 : Int32).toUInt32 &&& Int32.toUInt32 31)).toInt32) &&& 1431655765)).toUInt32 >>> ((2 : Int32).toUInt32 &&& Int32.toUInt32 31)).toInt32) &&& 858993459)).toUInt32 >>> ((4 : Int32).toUInt32 &&& Int32.toUInt32 31)).toInt32)) &&& 252645135).toUInt32 >>> ((8 : Int32).toUInt32 &&& Int32.toUInt32 31)).toInt32)) + ((((((((x - (((x.toUInt32 >>> ((1 : Int32).toUInt32 &&& Int32.toUInt32 31)).toInt32) &&& 1431655765)) &&& 858993459) + ((((x - (((x.toUInt32 >>> ((1 : Int32).toUInt32 &&& Int32.toUInt32 31)).toInt32) &&& 1431655765)).toUInt32 >>> ((2 : Int32).toUInt32 &&& Int32.toUInt32 31)).toInt32) &&& 858993459)) + (((((x - (((x.toUInt32 >>> ((1 : Int32).toUInt32 &&& Int32.toUInt32 31)).toInt32) &&& 1431655765)) &&& 858993459) + ((((x - (((x.toUInt32 >>> ((1 : Int32).toUInt32 &&& Int32.toUInt32 31)).toInt32) &&& 1431655765)).toUInt32 >>> ((2 : Int32).toUInt32 &&& Int32.toUInt32 31)).toInt32) &&& 858993459)).toUInt32 >>> ((4 : Int32).toUInt32 &&& Int32.toUInt32 31)).toInt32)) &&& 252645135) + (((((((x - (((x.toUInt32 >>> ((1 : Int32).toUInt32 &&& Int32.toUInt32 31)).toInt32) &&& 1431655765)) &&& 858993459) + ((((x - (((x.toUInt32 >>> ((1 : Int32).toUInt32 &&& Int32.toUInt32 31)).toInt32) &&& 1431655765)).toUInt32 >>> ((2 : Int32).toUInt32 &&& Int32.toUInt32 31)).toInt32) &&& 858993459)) + (((((x - (((x.toUInt32 >>> ((1 : Int32).toUInt32 &&& Int32.toUInt32 31)).toInt32) &&& 1431655765)) &&& 858993459) + ((((x - (((x.toUInt32 >>> ((1 : Int32).toUInt32 &&& Int32.toUInt32 31)).toInt32) &&& 1431655765)).toUInt32 >>> ((2 : Int32).toUInt32 &&& Int32.toUInt32 31)).toInt32) &&& 858993459)).toUInt32 >>> ((4 : Int32).toUInt32 &&& Int32.toUInt32 31)).toInt32)) &&& 252645135).toUInt32 >>> ((8 : Int32).toUInt32 &&& Int32.toUInt32 31)).toInt32)).toUInt32 >>> ((16 : Int32).toUInt32 &&& Int32.toUInt32 31)).toInt32)) &&& 63
def hHolds (set : Int32) (v : Int32) : Int32 :=
  if ((set >>> (v &&& 31)) &&& 1) = 0 then (0) else (1)
def gHas (fp : Nat → Int32) (u : Int32) (v : Int32) : Int32 :=
  (hHolds (fp v.toNatClampNeg) u)
def gJoins (fp : Nat → Int32) (u : Int32) (v : Int32) : Int32 :=
  if (gHas fp u v) = 0 then (if (gHas fp v u) = 0 then (0) else (1)) else (1)
def gPut (fp : Nat → Int32) (fc : Nat → Int32) (u : Int32) (v : Int32) : (Nat → Int32) × (Nat → Int32) :=
  (upd fp v.toNatClampNeg ((fp v.toNatClampNeg) ||| (1 <<< (u &&& 31))), upd fc u.toNatClampNeg ((fc u.toNatClampNeg) ||| (1 <<< (v &&& 31))))
def gTake (fp : Nat → Int32) (fc : Nat → Int32) (u : Int32) (v : Int32) : (Nat → Int32) × (Nat → Int32) :=
  (upd fp v.toNatClampNeg ((fp v.toNatClampNeg) &&& ((1 <<< (u &&& 31)) ^^^ (-1))), upd fc u.toNatClampNeg ((fc u.toNatClampNeg) &&& ((1 <<< (v &&& 31)) ^^^ (-1))))
def gEmpty_L2 (n : Nat) (fp : Nat → Int32) (fc : Nat → Int32) : Nat → Nat → (Nat → Int32) → (Nat → Int32) → (Nat → Int32) × (Nat → Int32)
  | 0, i_2, q_2, r_2 => (q_2, r_2)
  | k_2 + 1, i_2, q_2, r_2 => gEmpty_L2 n fp fc k_2 (i_2 + 1) (upd q_2 (nI i_2).toNatClampNeg 0) (upd r_2 (nI i_2).toNatClampNeg 0)
def gEmpty (n : Nat) (fp : Nat → Int32) (fc : Nat → Int32) : (Nat → Int32) × (Nat → Int32) :=
  gEmpty_L2 n fp fc n 0 fp fc
def gSize_L4 (n : Nat) (fp : Nat → Int32) : Nat → Nat → Int32 → Int32
  | 0, i_4, acc_4 => acc_4
  | k_4 + 1, i_4, acc_4 => gSize_L4 n fp k_4 (i_4 + 1) (acc_4 + (bitCount (fp (nI i_4).toNatClampNeg)))
def gSize (n : Nat) (fp : Nat → Int32) : Int32 :=
  gSize_L4 n fp n 0 0
def gReach_L17 (n : Nat) (fc : Nat → Int32) (u : Int32) (i_6 : Nat) (fo_6 : Int32) (kk : (Int32) → Int32) : Nat → Nat → Int32 → Int32
  | 0, i_17, fo_17 => kk fo_17
  | k_17 + 1, i_17, fo_17 => if (hHolds fo_17 (nI i_17)) = 0 then (gReach_L17 n fc u i_6 fo_6 kk k_17 (i_17 + 1) fo_17) else (gReach_L17 n fc u i_6 fo_6 kk k_17 (i_17 + 1) (fo_17 ||| (fc (nI i_17).toNatClampNeg)))
def gReach_L6 (n : Nat) (fc : Nat → Int32) (u : Int32) : Nat → Nat → Int32 → Int32
  | 0, i_6, fo_6 => fo_6
  | k_6 + 1, i_6, fo_6 => gReach_L17 n fc u i_6 fo_6 (fun w0 => gReach_L6 n fc u k_6 (i_6 + 1) w0) n 0 fo_6
def gReach (n : Nat) (fc : Nat → Int32) (u : Int32) : Int32 :=
  gReach_L6 n fc u (n - 1) 1 (1 <<< (u &&& 31))
def gRing_L25 (n : Nat) (fp : Nat → Int32) (i_11 : Nat) (le_11 : Int32) (kk : (Int32) → Int32) : Nat → Nat → Int32 → Int32
  | 0, i_25, le_25 => kk le_25
  | k_25 + 1, i_25, le_25 => if ((fp (nI i_25).toNatClampNeg) &&& le_25) = 0 then (gRing_L25 n fp i_11 le_11 kk k_25 (i_25 + 1) (le_25 &&& ((1 <<< ((nI i_25) &&& 31)) ^^^ (-1)))) else (gRing_L25 n fp i_11 le_11 kk k_25 (i_25 + 1) le_25)
def gRing_L11 (n : Nat) (fp : Nat → Int32) : Nat → Nat → Int32 → Int32
  | 0, i_11, le_11 => if le_11 = 0 then (0) else (1)
  | k_11 + 1, i_11, le_11 => if le_11 = 0 then (0) else (gRing_L25 n fp i_11 le_11 (fun w0 => gRing_L11 n fp k_11 (i_11 + 1) w0) n 0 le_11)
def gRing (n : Nat) (fp : Nat → Int32) : Int32 :=
  gRing_L11 n fp n 0 ((1 <<< ((nI n) &&& 31)) - 1)
def gStr (fp : Nat → Int32) (fc : Nat → Int32) (a : Int32) (b : Int32) : Int32 :=
  if (hHolds (fp b.toNatClampNeg) a) = 0 then (0) else ((fp b.toNatClampNeg) &&& ((((fp a.toNatClampNeg) ||| (fc a.toNatClampNeg)) ||| (1 <<< (a &&& 31))) ^^^ (-1)))
def gLike_L12 (n : Nat) (fp : Nat → Int32) (fc : Nat → Int32) (fp2 : Nat → Int32) (fc2 : Nat → Int32) (i_2 : Nat) (kk : Unit → Int32) : Nat → Nat → Int32
  | 0, i_12 => kk ()
  | k_12 + 1, i_12 => if (gStr fp fc (nI i_12) (nI i_2)) = (gStr fp2 fc2 (nI i_12) (nI i_2)) then (gLike_L12 n fp fc fp2 fc2 i_2 kk k_12 (i_12 + 1)) else (0)
def gLike_L2 (n : Nat) (fp : Nat → Int32) (fc : Nat → Int32) (fp2 : Nat → Int32) (fc2 : Nat → Int32) : Nat → Nat → Int32
  | 0, i_2 => 1
  | k_2 + 1, i_2 => gLike_L12 n fp fc fp2 fc2 i_2 (fun (_ : Unit) => gLike_L2 n fp fc fp2 fc2 k_2 (i_2 + 1)) n 0
def gLike (n : Nat) (fp : Nat → Int32) (fc : Nat → Int32) (fp2 : Nat → Int32) (fc2 : Nat → Int32) : Int32 :=
  gLike_L2 n fp fc fp2 fc2 n 0
def gOpen_L47 (n : Nat) (fp : Nat → Int32) (fc : Nat → Int32) (x : Int32) (set : Int32) (i_21 : Nat) (ag_21 : Int32) (al_21 : Int32) (gr_21 : Int32) (kk : (Int32) → (Int32) → (Int32) → Int32) : Nat → Nat → Int32 → Int32 → Int32
  | 0, i_47, ag_47, al_47 => if ag_47 = ag_21 then (if al_47 = al_21 then (kk ag_47 al_47 0) else (kk ag_47 al_47 1)) else (kk ag_47 al_47 1)
  | k_47 + 1, i_47, ag_47, al_47 => if (hHolds set (nI i_47)) = 0 then (if (hHolds (ag_47 ||| al_47) (nI i_47)) = 0 then (if (hHolds ag_47 (nI i_47)) = 0 then (gOpen_L47 n fp fc x set i_21 ag_21 al_21 gr_21 kk k_47 (i_47 + 1) ag_47 al_47) else (gOpen_L47 n fp fc x set i_21 ag_21 al_21 gr_21 kk k_47 (i_47 + 1) (ag_47 ||| (fp (nI i_47).toNatClampNeg)) al_47)) else (if (hHolds ag_47 (nI i_47)) = 0 then (gOpen_L47 n fp fc x set i_21 ag_21 al_21 gr_21 kk k_47 (i_47 + 1) ag_47 (al_47 ||| (fc (nI i_47).toNatClampNeg))) else (gOpen_L47 n fp fc x set i_21 ag_21 al_21 gr_21 kk k_47 (i_47 + 1) (ag_47 ||| (fp (nI i_47).toNatClampNeg)) (al_47 ||| (fc (nI i_47).toNatClampNeg))))) else (if (hHolds al_47 (nI i_47)) = 0 then (gOpen_L47 n fp fc x set i_21 ag_21 al_21 gr_21 kk k_47 (i_47 + 1) ag_47 al_47) else (gOpen_L47 n fp fc x set i_21 ag_21 al_21 gr_21 kk k_47 (i_47 + 1) (ag_47 ||| (fp (nI i_47).toNatClampNeg)) al_47))
def gOpen_L21 (n : Nat) (fp : Nat → Int32) (fc : Nat → Int32) (x : Int32) (set : Int32) : Nat → Nat → Int32 → Int32 → Int32 → Int32
  | 0, i_21, ag_21, al_21, gr_21 => ag_21 ||| al_21
  | k_21 + 1, i_21, ag_21, al_21, gr_21 => if gr_21 = 0 then (ag_21 ||| al_21) else (gOpen_L47 n fp fc x set i_21 ag_21 al_21 gr_21 (fun w0 w1 w2 => gOpen_L21 n fp fc x set k_21 (i_21 + 1) w0 w1 w2) n 0 ag_21 al_21)
def gOpen (n : Nat) (fp : Nat → Int32) (fc : Nat → Int32) (x : Int32) (set : Int32) : Int32 :=
  gOpen_L21 n fp fc x set (2 * n + 1) 0 (fp x.toNatClampNeg) (fc x.toNatClampNeg) 1
def kList (fp : Nat → Int32) (fc : Nat → Int32) (fl : Nat → Int32) (fh : Nat → Int32) (P : Nat) (dc : Int32) (cb : Int32) (u : Int32) (v : Int32) : (Nat → Int32) × (Nat → Int32) × Int32 × Int32 :=
  if ((gStr fp fc u v) ||| (gStr fp fc v u)) = 0 then (if (gHas fp v u) = 0 then ((upd fl (nI P).toNatClampNeg u, upd fh (nI P).toNatClampNeg v, (2 * dc) + 0, (2 * cb) + 0)) else ((upd fl (nI P).toNatClampNeg u, upd fh (nI P).toNatClampNeg v, (2 * dc) + 1, (2 * cb) + 0))) else (if (gHas fp v u) = 0 then ((upd fl (nI P).toNatClampNeg u, upd fh (nI P).toNatClampNeg v, (2 * dc) + 0, (2 * cb) + 1)) else ((upd fl (nI P).toNatClampNeg u, upd fh (nI P).toNatClampNeg v, (2 * dc) + 1, (2 * cb) + 1)))
def kRestart_L47 (n : Nat) (fp : Nat → Int32) (fc : Nat → Int32) (fl : Nat → Int32) (fh : Nat → Int32) (i_32 : Nat) (P_32 : Nat) (dc_32 : Int32) (cb_32 : Int32) (fl_32 : Nat → Int32) (fh_32 : Nat → Int32) (kk : (Nat) → (Int32) → (Int32) → (Nat → Int32) → (Nat → Int32) → Nat × Int32 × Int32 × (Nat → Int32) × (Nat → Int32)) : Nat → Nat → Nat → Int32 → Int32 → (Nat → Int32) → (Nat → Int32) → Nat × Int32 × Int32 × (Nat → Int32) × (Nat → Int32)
  | 0, i_47, P_47, dc_47, cb_47, fl_47, fh_47 => kk P_47 dc_47 cb_47 fl_47 fh_47
  | k_47 + 1, i_47, P_47, dc_47, cb_47, fl_47, fh_47 => if (gJoins fp (nI i_32) (nI i_47)) = 0 then (kRestart_L47 n fp fc fl fh i_32 P_32 dc_32 cb_32 fl_32 fh_32 kk k_47 (i_47 + 1) P_47 dc_47 cb_47 fl_47 fh_47) else (if (9 : Int32) ≤ (nI P_47) then (kRestart_L47 n fp fc fl fh i_32 P_32 dc_32 cb_32 fl_32 fh_32 kk k_47 (i_47 + 1) P_47 dc_47 cb_47 fl_47 fh_47) else (kRestart_L47 n fp fc fl fh i_32 P_32 dc_32 cb_32 fl_32 fh_32 kk k_47 (i_47 + 1) (P_47 + 1) ((kList fp fc fl_47 fh_47 P_47 dc_47 cb_47 (nI i_32) (nI i_47)).2.2.1) ((kList fp fc fl_47 fh_47 P_47 dc_47 cb_47 (nI i_32) (nI i_47)).2.2.2) ((kList fp fc fl_47 fh_47 P_47 dc_47 cb_47 (nI i_32) (nI i_47)).1) ((kList fp fc fl_47 fh_47 P_47 dc_47 cb_47 (nI i_32) (nI i_47)).2.1)))
def kRestart_L32 (n : Nat) (fp : Nat → Int32) (fc : Nat → Int32) (fl : Nat → Int32) (fh : Nat → Int32) : Nat → Nat → Nat → Int32 → Int32 → (Nat → Int32) → (Nat → Int32) → Nat × Int32 × Int32 × (Nat → Int32) × (Nat → Int32)
  | 0, i_32, P_32, dc_32, cb_32, fl_32, fh_32 => (P_32, dc_32, cb_32, fl_32, fh_32)
  | k_32 + 1, i_32, P_32, dc_32, cb_32, fl_32, fh_32 => kRestart_L47 n fp fc fl fh i_32 P_32 dc_32 cb_32 fl_32 fh_32 (fun w0 w1 w2 w3 w4 => kRestart_L32 n fp fc fl fh k_32 (i_32 + 1) w0 w1 w2 w3 w4) (n - (i_32 + 1)) (i_32 + 1) P_32 dc_32 cb_32 fl_32 fh_32
def kRestart (n : Nat) (fp : Nat → Int32) (fc : Nat → Int32) (fl : Nat → Int32) (fh : Nat → Int32) : Nat × Int32 × Int32 × (Nat → Int32) × (Nat → Int32) :=
  kRestart_L32 n fp fc fl fh n 0 0 0 0 fl fh
def kBitAt (P : Nat) (i : Int32) : Int32 :=
  1 <<< ((((nI P) - 1) - i) &&& 31)
def kBitOf_L2 (fl : Nat → Int32) (fh : Nat → Int32) (P : Nat) (u : Int32) (v : Int32) : Nat → Nat → Int32
  | 0, i_2 => 0
  | k_2 + 1, i_2 => if (fl (nI i_2).toNatClampNeg) = (if v < u then v else u) then (if (fh (nI i_2).toNatClampNeg) = (if u < v then v else u) then ((kBitAt P (nI i_2))) else (kBitOf_L2 fl fh P u v k_2 (i_2 + 1))) else (kBitOf_L2 fl fh P u v k_2 (i_2 + 1))
def kBitOf (fl : Nat → Int32) (fh : Nat → Int32) (P : Nat) (u : Int32) (v : Int32) : Int32 :=
  kBitOf_L2 fl fh P u v P 0
def kMember_L40 (n : Nat) (fp : Nat → Int32) (fc : Nat → Int32) (fq : Nat → Int32) (fd : Nat → Int32) (fl : Nat → Int32) (fh : Nat → Int32) (P : Nat) (dc : Int32) (cb : Int32) (kb : Int32) (kc : Int32) (code : Int32) : Nat → Nat → (Nat → Int32) → (Nat → Int32) → Int32 × (Nat → Int32) × (Nat → Int32)
  | 0, i_40, fq_40, fd_40 => if (gLike n fq_40 fd_40 fp fc) = 0 then ((0, fq_40, fd_40)) else (if (gRing n fq_40) = 0 then ((1, fq_40, fd_40)) else ((0, fq_40, fd_40)))
  | k_40 + 1, i_40, fq_40, fd_40 => if (code &&& (kBitAt P (nI i_40))) = 0 then (kMember_L40 n fp fc fq fd fl fh P dc cb kb kc code k_40 (i_40 + 1) ((gPut fq_40 fd_40 (fl (nI i_40).toNatClampNeg) (fh (nI i_40).toNatClampNeg)).1) ((gPut fq_40 fd_40 (fl (nI i_40).toNatClampNeg) (fh (nI i_40).toNatClampNeg)).2)) else (kMember_L40 n fp fc fq fd fl fh P dc cb kb kc code k_40 (i_40 + 1) ((gPut fq_40 fd_40 (fh (nI i_40).toNatClampNeg) (fl (nI i_40).toNatClampNeg)).1) ((gPut fq_40 fd_40 (fh (nI i_40).toNatClampNeg) (fl (nI i_40).toNatClampNeg)).2))
def kMember (n : Nat) (fp : Nat → Int32) (fc : Nat → Int32) (fq : Nat → Int32) (fd : Nat → Int32) (fl : Nat → Int32) (fh : Nat → Int32) (P : Nat) (dc : Int32) (cb : Int32) (kb : Int32) (kc : Int32) (code : Int32) : Int32 × (Nat → Int32) × (Nat → Int32) :=
  if (code &&& kb) = kc then (if ((code ^^^ dc) &&& cb) = 0 then (kMember_L40 n fp fc fq fd fl fh P dc cb kb kc code P 0 ((gEmpty n fq fd).1) ((gEmpty n fq fd).2)) else ((0, fq, fd))) else ((0, fq, fd))
def kGather_L25 (n : Nat) (fp : Nat → Int32) (fc : Nat → Int32) (fq : Nat → Int32) (fd : Nat → Int32) (fl : Nat → Int32) (fh : Nat → Int32) (P : Nat) (dc : Int32) (cb : Int32) (kb : Int32) (kc : Int32) (ga : Int32) (ct : Int32) (fi : Int32) (sf : Int32) (af : Int32) : Nat → Nat → Int32 → Int32 → Int32 → Int32 → (Nat → Int32) → (Nat → Int32) → Int32 × Int32 × Int32 × Int32 × Int32 × (Nat → Int32) × (Nat → Int32)
  | 0, i_25, ct_25, fi_25, sf_25, af_25, fq_25, fd_25 => (1, ct_25, fi_25, sf_25, af_25, fq_25, fd_25)
  | k_25 + 1, i_25, ct_25, fi_25, sf_25, af_25, fq_25, fd_25 => if ((kMember n fp fc fq_25 fd_25 fl fh P dc cb kb kc (nI i_25)).1) = 0 then (kGather_L25 n fp fc fq fd fl fh P dc cb kb kc ga ct fi sf af k_25 (i_25 + 1) ct_25 fi_25 sf_25 af_25 ((kMember n fp fc fq_25 fd_25 fl fh P dc cb kb kc (nI i_25)).2.1) ((kMember n fp fc fq_25 fd_25 fl fh P dc cb kb kc (nI i_25)).2.2)) else (if ct_25 = 0 then (kGather_L25 n fp fc fq fd fl fh P dc cb kb kc ga ct fi sf af k_25 (i_25 + 1) (ct_25 + 1) (nI i_25) (sf_25 ||| (nI i_25)) (af_25 &&& (nI i_25)) ((kMember n fp fc fq_25 fd_25 fl fh P dc cb kb kc (nI i_25)).2.1) ((kMember n fp fc fq_25 fd_25 fl fh P dc cb kb kc (nI i_25)).2.2)) else (kGather_L25 n fp fc fq fd fl fh P dc cb kb kc ga ct fi sf af k_25 (i_25 + 1) (ct_25 + 1) fi_25 (sf_25 ||| (nI i_25)) (af_25 &&& (nI i_25)) ((kMember n fp fc fq_25 fd_25 fl fh P dc cb kb kc (nI i_25)).2.1) ((kMember n fp fc fq_25 fd_25 fl fh P dc cb kb kc (nI i_25)).2.2)))
def kGather (n : Nat) (fp : Nat → Int32) (fc : Nat → Int32) (fq : Nat → Int32) (fd : Nat → Int32) (fl : Nat → Int32) (fh : Nat → Int32) (P : Nat) (dc : Int32) (cb : Int32) (kb : Int32) (kc : Int32) (ga : Int32) (ct : Int32) (fi : Int32) (sf : Int32) (af : Int32) : Int32 × Int32 × Int32 × Int32 × Int32 × (Nat → Int32) × (Nat → Int32) :=
  if ga = 0 then (kGather_L25 n fp fc fq fd fl fh P dc cb kb kc ga ct fi sf af (2 ^ P) 0 0 fi 0 (-1) fq fd) else ((ga, ct, fi, sf, af, fq, fd))
def kSize (n : Nat) (fp : Nat → Int32) (fc : Nat → Int32) (fq : Nat → Int32) (fd : Nat → Int32) (fl : Nat → Int32) (fh : Nat → Int32) (P : Nat) (dc : Int32) (cb : Int32) (kb : Int32) (kc : Int32) (ga : Int32) (ct : Int32) (fi : Int32) (sf : Int32) (af : Int32) : Int32 × Int32 × Int32 × Int32 × Int32 × Int32 × (Nat → Int32) × (Nat → Int32) :=
  ((kGather n fp fc fq fd fl fh P dc cb kb kc ga ct fi sf af).2.1, (kGather n fp fc fq fd fl fh P dc cb kb kc ga ct fi sf af).1, (kGather n fp fc fq fd fl fh P dc cb kb kc ga ct fi sf af).2.1, (kGather n fp fc fq fd fl fh P dc cb kb kc ga ct fi sf af).2.2.1, (kGather n fp fc fq fd fl fh P dc cb kb kc ga ct fi sf af).2.2.2.1, (kGather n fp fc fq fd fl fh P dc cb kb kc ga ct fi sf af).2.2.2.2.1, (kGather n fp fc fq fd fl fh P dc cb kb kc ga ct fi sf af).2.2.2.2.2.1, (kGather n fp fc fq fd fl fh P dc cb kb kc ga ct fi sf af).2.2.2.2.2.2)
def kSome (n : Nat) (fp : Nat → Int32) (fc : Nat → Int32) (fq : Nat → Int32) (fd : Nat → Int32) (fl : Nat → Int32) (fh : Nat → Int32) (P : Nat) (dc : Int32) (cb : Int32) (kb : Int32) (kc : Int32) (ga : Int32) (ct : Int32) (fi : Int32) (sf : Int32) (af : Int32) (u : Int32) (v : Int32) : Int32 × Int32 × Int32 × Int32 × Int32 × Int32 × (Nat → Int32) × (Nat → Int32) :=
  if v ≤ u then (if ((kBitOf fl fh P u v) &&& ((kGather n fp fc fq fd fl fh P dc cb kb kc ga ct fi sf af).2.2.2.1)) = 0 then ((0, (kGather n fp fc fq fd fl fh P dc cb kb kc ga ct fi sf af).1, (kGather n fp fc fq fd fl fh P dc cb kb kc ga ct fi sf af).2.1, (kGather n fp fc fq fd fl fh P dc cb kb kc ga ct fi sf af).2.2.1, (kGather n fp fc fq fd fl fh P dc cb kb kc ga ct fi sf af).2.2.2.1, (kGather n fp fc fq fd fl fh P dc cb kb kc ga ct fi sf af).2.2.2.2.1, (kGather n fp fc fq fd fl fh P dc cb kb kc ga ct fi sf af).2.2.2.2.2.1, (kGather n fp fc fq fd fl fh P dc cb kb kc ga ct fi sf af).2.2.2.2.2.2)) else ((1, (kGather n fp fc fq fd fl fh P dc cb kb kc ga ct fi sf af).1, (kGather n fp fc fq fd fl fh P dc cb kb kc ga ct fi sf af).2.1, (kGather n fp fc fq fd fl fh P dc cb kb kc ga ct fi sf af).2.2.1, (kGather n fp fc fq fd fl fh P dc cb kb kc ga ct fi sf af).2.2.2.1, (kGather n fp fc fq fd fl fh P dc cb kb kc ga ct fi sf af).2.2.2.2.1, (kGather n fp fc fq fd fl fh P dc cb kb kc ga ct fi sf af).2.2.2.2.2.1, (kGather n fp fc fq fd fl fh P dc cb kb kc ga ct fi sf af).2.2.2.2.2.2))) else (if ((kBitOf fl fh P u v) &&& (((kGather n fp fc fq fd fl fh P dc cb kb kc ga ct fi sf af).2.2.2.2.1) ^^^ (-1))) = 0 then ((0, (kGather n fp fc fq fd fl fh P dc cb kb kc ga ct fi sf af).1, (kGather n fp fc fq fd fl fh P dc cb kb kc ga ct fi sf af).2.1, (kGather n fp fc fq fd fl fh P dc cb kb kc ga ct fi sf af).2.2.1, (kGather n fp fc fq fd fl fh P dc cb kb kc ga ct fi sf af).2.2.2.1, (kGather n fp fc fq fd fl fh P dc cb kb kc ga ct fi sf af).2.2.2.2.1, (kGather n fp fc fq fd fl fh P dc cb kb kc ga ct fi sf af).2.2.2.2.2.1, (kGather n fp fc fq fd fl fh P dc cb kb kc ga ct fi sf af).2.2.2.2.2.2)) else ((1, (kGather n fp fc fq fd fl fh P dc cb kb kc ga ct fi sf af).1, (kGather n fp fc fq fd fl fh P dc cb kb kc ga ct fi sf af).2.1, (kGather n fp fc fq fd fl fh P dc cb kb kc ga ct fi sf af).2.2.1, (kGather n fp fc fq fd fl fh P dc cb kb kc ga ct fi sf af).2.2.2.1, (kGather n fp fc fq fd fl fh P dc cb kb kc ga ct fi sf af).2.2.2.2.1, (kGather n fp fc fq fd fl fh P dc cb kb kc ga ct fi sf af).2.2.2.2.2.1, (kGather n fp fc fq fd fl fh P dc cb kb kc ga ct fi sf af).2.2.2.2.2.2)))
def kFirst (n : Nat) (fp : Nat → Int32) (fc : Nat → Int32) (fq : Nat → Int32) (fd : Nat → Int32) (fl : Nat → Int32) (fh : Nat → Int32) (P : Nat) (dc : Int32) (cb : Int32) (kb : Int32) (kc : Int32) (ga : Int32) (ct : Int32) (fi : Int32) (sf : Int32) (af : Int32) (u : Int32) (v : Int32) : Int32 × Int32 × Int32 × Int32 × Int32 × Int32 × (Nat → Int32) × (Nat → Int32) :=
  if v ≤ u then (if ((kBitOf fl fh P u v) &&& ((kGather n fp fc fq fd fl fh P dc cb kb kc ga ct fi sf af).2.2.1)) = 0 then ((0, (kGather n fp fc fq fd fl fh P dc cb kb kc ga ct fi sf af).1, (kGather n fp fc fq fd fl fh P dc cb kb kc ga ct fi sf af).2.1, (kGather n fp fc fq fd fl fh P dc cb kb kc ga ct fi sf af).2.2.1, (kGather n fp fc fq fd fl fh P dc cb kb kc ga ct fi sf af).2.2.2.1, (kGather n fp fc fq fd fl fh P dc cb kb kc ga ct fi sf af).2.2.2.2.1, (kGather n fp fc fq fd fl fh P dc cb kb kc ga ct fi sf af).2.2.2.2.2.1, (kGather n fp fc fq fd fl fh P dc cb kb kc ga ct fi sf af).2.2.2.2.2.2)) else ((1, (kGather n fp fc fq fd fl fh P dc cb kb kc ga ct fi sf af).1, (kGather n fp fc fq fd fl fh P dc cb kb kc ga ct fi sf af).2.1, (kGather n fp fc fq fd fl fh P dc cb kb kc ga ct fi sf af).2.2.1, (kGather n fp fc fq fd fl fh P dc cb kb kc ga ct fi sf af).2.2.2.1, (kGather n fp fc fq fd fl fh P dc cb kb kc ga ct fi sf af).2.2.2.2.1, (kGather n fp fc fq fd fl fh P dc cb kb kc ga ct fi sf af).2.2.2.2.2.1, (kGather n fp fc fq fd fl fh P dc cb kb kc ga ct fi sf af).2.2.2.2.2.2))) else (if ((kBitOf fl fh P u v) &&& (((kGather n fp fc fq fd fl fh P dc cb kb kc ga ct fi sf af).2.2.1) ^^^ (-1))) = 0 then ((0, (kGather n fp fc fq fd fl fh P dc cb kb kc ga ct fi sf af).1, (kGather n fp fc fq fd fl fh P dc cb kb kc ga ct fi sf af).2.1, (kGather n fp fc fq fd fl fh P dc cb kb kc ga ct fi sf af).2.2.1, (kGather n fp fc fq fd fl fh P dc cb kb kc ga ct fi sf af).2.2.2.1, (kGather n fp fc fq fd fl fh P dc cb kb kc ga ct fi sf af).2.2.2.2.1, (kGather n fp fc fq fd fl fh P dc cb kb kc ga ct fi sf af).2.2.2.2.2.1, (kGather n fp fc fq fd fl fh P dc cb kb kc ga ct fi sf af).2.2.2.2.2.2)) else ((1, (kGather n fp fc fq fd fl fh P dc cb kb kc ga ct fi sf af).1, (kGather n fp fc fq fd fl fh P dc cb kb kc ga ct fi sf af).2.1, (kGather n fp fc fq fd fl fh P dc cb kb kc ga ct fi sf af).2.2.1, (kGather n fp fc fq fd fl fh P dc cb kb kc ga ct fi sf af).2.2.2.1, (kGather n fp fc fq fd fl fh P dc cb kb kc ga ct fi sf af).2.2.2.2.1, (kGather n fp fc fq fd fl fh P dc cb kb kc ga ct fi sf af).2.2.2.2.2.1, (kGather n fp fc fq fd fl fh P dc cb kb kc ga ct fi sf af).2.2.2.2.2.2)))
def kLoose (n : Nat) (fp : Nat → Int32) (fc : Nat → Int32) (fq : Nat → Int32) (fd : Nat → Int32) (fl : Nat → Int32) (fh : Nat → Int32) (P : Nat) (dc : Int32) (cb : Int32) (kb : Int32) (kc : Int32) (ga : Int32) (ct : Int32) (fi : Int32) (sf : Int32) (af : Int32) : Int32 × Int32 × Int32 × Int32 × Int32 × Int32 × (Nat → Int32) × (Nat → Int32) :=
  ((bitCount (((kGather n fp fc fq fd fl fh P dc cb kb kc ga ct fi sf af).2.2.2.1) &&& (((kGather n fp fc fq fd fl fh P dc cb kb kc ga ct fi sf af).2.2.2.2.1) ^^^ (-1)))), (kGather n fp fc fq fd fl fh P dc cb kb kc ga ct fi sf af).1, (kGather n fp fc fq fd fl fh P dc cb kb kc ga ct fi sf af).2.1, (kGather n fp fc fq fd fl fh P dc cb kb kc ga ct fi sf af).2.2.1, (kGather n fp fc fq fd fl fh P dc cb kb kc ga ct fi sf af).2.2.2.1, (kGather n fp fc fq fd fl fh P dc cb kb kc ga ct fi sf af).2.2.2.2.1, (kGather n fp fc fq fd fl fh P dc cb kb kc ga ct fi sf af).2.2.2.2.2.1, (kGather n fp fc fq fd fl fh P dc cb kb kc ga ct fi sf af).2.2.2.2.2.2)
def kTurned (n : Nat) (fp : Nat → Int32) (fc : Nat → Int32) (fq : Nat → Int32) (fd : Nat → Int32) (fl : Nat → Int32) (fh : Nat → Int32) (P : Nat) (dc : Int32) (cb : Int32) (kb : Int32) (kc : Int32) (ga : Int32) (ct : Int32) (fi : Int32) (sf : Int32) (af : Int32) : Int32 × Int32 × Int32 × Int32 × Int32 × Int32 × (Nat → Int32) × (Nat → Int32) :=
  ((bitCount (((kGather n fp fc fq fd fl fh P dc cb kb kc ga ct fi sf af).2.2.1) ^^^ dc)), (kGather n fp fc fq fd fl fh P dc cb kb kc ga ct fi sf af).1, (kGather n fp fc fq fd fl fh P dc cb kb kc ga ct fi sf af).2.1, (kGather n fp fc fq fd fl fh P dc cb kb kc ga ct fi sf af).2.2.1, (kGather n fp fc fq fd fl fh P dc cb kb kc ga ct fi sf af).2.2.2.1, (kGather n fp fc fq fd fl fh P dc cb kb kc ga ct fi sf af).2.2.2.2.1, (kGather n fp fc fq fd fl fh P dc cb kb kc ga ct fi sf af).2.2.2.2.2.1, (kGather n fp fc fq fd fl fh P dc cb kb kc ga ct fi sf af).2.2.2.2.2.2)
def kFix (fl : Nat → Int32) (fh : Nat → Int32) (P : Nat) (kb : Int32) (kc : Int32) (u : Int32) (v : Int32) : Int32 × Int32 :=
  if u ≤ v then ((kb ||| (kBitOf fl fh P u v), kc)) else ((kb ||| (kBitOf fl fh P u v), kc ||| (kBitOf fl fh P u v)))
def kUnfix (kb : Int32) : Int32 :=
  (bitCount kb)
def xNode (n : Nat) (v : Int32) : Int32 :=
  if v < 0 then (0) else (if (nI n) ≤ v then (0) else (1))
def xPair (n : Nat) (u : Int32) (v : Int32) : Int32 :=
  if (xNode n u) = 0 then (0) else (if (xNode n v) = 0 then (0) else (if u = v then (0) else (1)))
def xDrawn (n : Nat) (fp : Nat → Int32) (u : Int32) (v : Int32) : Int32 :=
  if (xPair n u v) = 0 then (0) else (if (gHas fp u v) = 0 then (0) else (1))
def xParents (n : Nat) (fp : Nat → Int32) (v : Int32) : Int32 :=
  if (xNode n v) = 0 then (-1) else (fp v.toNatClampNeg)
def xReached (n : Nat) (fc : Nat → Int32) (u : Int32) : Int32 :=
  if (xNode n u) = 0 then (-1) else ((gReach n fc u))
def xAround_L32 (n : Nat) (fp : Nat → Int32) (fc : Nat → Int32) (u : Int32) : Nat → Nat → Int32 → Int32
  | 0, i_32, fo_32 => fo_32 &&& ((1 <<< (u &&& 31)) ^^^ (-1))
  | k_32 + 1, i_32, fo_32 => if (gHas fp u (nI i_32)) = 0 then (xAround_L32 n fp fc u k_32 (i_32 + 1) fo_32) else (xAround_L32 n fp fc u k_32 (i_32 + 1) (fo_32 ||| (fp (nI i_32).toNatClampNeg)))
def xAround (n : Nat) (fp : Nat → Int32) (fc : Nat → Int32) (u : Int32) : Int32 :=
  if (xNode n u) = 0 then (-1) else (xAround_L32 n fp fc u n 0 ((fp u.toNatClampNeg) ||| (fc u.toNatClampNeg)))
def xColl_L14 (n : Nat) (fp : Nat → Int32) (fc : Nat → Int32) (i_4 : Nat) (e_4 : Int32) (kk : (Int32) → Int32) : Nat → Nat → Int32 → Int32
  | 0, i_14, e_14 => kk e_14
  | k_14 + 1, i_14, e_14 => xColl_L14 n fp fc i_4 e_4 kk k_14 (i_14 + 1) (e_14 + (bitCount (gStr fp fc (nI i_14) (nI i_4))))
def xColl_L4 (n : Nat) (fp : Nat → Int32) (fc : Nat → Int32) : Nat → Nat → Int32 → Int32
  | 0, i_4, e_4 => e_4 / 2
  | k_4 + 1, i_4, e_4 => xColl_L14 n fp fc i_4 e_4 (fun w0 => xColl_L4 n fp fc k_4 (i_4 + 1) w0) n 0 e_4
def xColl (n : Nat) (fp : Nat → Int32) (fc : Nat → Int32) : Int32 :=
  xColl_L4 n fp fc n 0 0
def xCov (n : Nat) (fp : Nat → Int32) (u : Int32) (v : Int32) : Int32 :=
  if (xDrawn n fp u v) = 0 then (0) else (if (fp v.toNatClampNeg) = ((fp u.toNatClampNeg) ||| (1 <<< (u &&& 31))) then (1) else (0))
def xSep (n : Nat) (fp : Nat → Int32) (fc : Nat → Int32) (x0 : Int32) (y0 : Int32) (set : Int32) : Int32 :=
  if (xPair n x0 y0) = 0 then (0) else (if set < 0 then (0) else (if (1 <<< ((nI n) &&& 31)) ≤ set then (0) else (if (hHolds set x0) = 0 then (if (hHolds set y0) = 0 then (if (hHolds (gOpen n fp fc x0 set) y0) = 0 then (1) else (0)) else (0)) else (0))))
def xSepr_L11 (n : Nat) (fp : Nat → Int32) (fc : Nat → Int32) (x0 : Int32) (y0 : Int32) : Nat → Nat → Int32 → Int32 → Int32
  | 0, i_11, be_11, bs_11 => be_11
  | k_11 + 1, i_11, be_11, bs_11 => if bs_11 ≤ (bitCount (nI i_11)) then (xSepr_L11 n fp fc x0 y0 k_11 (i_11 + 1) be_11 bs_11) else (if (xSep n fp fc x0 y0 (nI i_11)) = 0 then (xSepr_L11 n fp fc x0 y0 k_11 (i_11 + 1) be_11 bs_11) else (xSepr_L11 n fp fc x0 y0 k_11 (i_11 + 1) (nI i_11) (bitCount (nI i_11))))
def xSepr (n : Nat) (fp : Nat → Int32) (fc : Nat → Int32) (x0 : Int32) (y0 : Int32) : Int32 :=
  xSepr_L11 n fp fc x0 y0 (2 ^ n) 0 (-1) (nI n)
def xSepBy_L4 (n : Nat) (fp : Nat → Int32) (fc : Nat → Int32) (set : Int32) : Nat → Nat → Int32 → Int32
  | 0, i_4, co_4 => co_4
  | k_4 + 1, i_4, co_4 => if (hHolds set (nI i_4)) = 0 then (xSepBy_L4 n fp fc set k_4 (i_4 + 1) (co_4 + (bitCount ((((1 <<< ((nI n) &&& 31)) - (2 <<< ((nI i_4) &&& 31))) &&& (set ^^^ (-1))) &&& ((gOpen n fp fc (nI i_4) set) ^^^ (-1)))))) else (xSepBy_L4 n fp fc set k_4 (i_4 + 1) co_4)
def xSepBy (n : Nat) (fp : Nat → Int32) (fc : Nat → Int32) (set : Int32) : Int32 :=
  xSepBy_L4 n fp fc set n 0 0
def xSeps_L12 (n : Nat) (fp : Nat → Int32) (fc : Nat → Int32) (sc : Int32) : Nat → Nat → Int32 → Int32 × Int32
  | 0, i_12, co_12 => (co_12, co_12)
  | k_12 + 1, i_12, co_12 => xSeps_L12 n fp fc sc k_12 (i_12 + 1) (co_12 + (xSepBy n fp fc (nI i_12)))
def xSeps (n : Nat) (fp : Nat → Int32) (fc : Nat → Int32) (sc : Int32) : Int32 × Int32 :=
  if sc = (-1) then (xSeps_L12 n fp fc sc (2 ^ n) 0 0) else ((sc, sc))
def xNote (n : Nat) (fp : Nat → Int32) (fc : Nat → Int32) (fl : Nat → Int32) (fh : Nat → Int32) : Nat × Int32 × Int32 × (Nat → Int32) × (Nat → Int32) :=
  (((kRestart n fp fc fl fh).1), (kRestart n fp fc fl fh).2.1, (kRestart n fp fc fl fh).2.2.1, (kRestart n fp fc fl fh).2.2.2.1, (kRestart n fp fc fl fh).2.2.2.2)
def xArrow (n : Nat) (fp : Nat → Int32) (fc : Nat → Int32) (fl : Nat → Int32) (fh : Nat → Int32) (P : Nat) (dc : Int32) (cb : Int32) (kb : Int32) (kc : Int32) (ga : Int32) (sc : Int32) (u : Int32) (v : Int32) : Int32 × (Nat → Int32) × (Nat → Int32) × Int32 × Nat × Int32 × Int32 × Int32 × Int32 × Int32 × (Nat → Int32) × (Nat → Int32) :=
  if (xPair n u v) = 0 then ((0, fp, fc, sc, P, dc, cb, kb, kc, ga, fl, fh)) else (if (gJoins fp u v) = 0 then (if (gSize n fp) < 9 then (if (hHolds (gReach n fc v) u) = 0 then ((1, (gPut fp fc u v).1, (gPut fp fc u v).2, (-1), ((xNote n ((gPut fp fc u v).1) ((gPut fp fc u v).2) fl fh).1), (xNote n ((gPut fp fc u v).1) ((gPut fp fc u v).2) fl fh).2.1, (xNote n ((gPut fp fc u v).1) ((gPut fp fc u v).2) fl fh).2.2.1, 0, 0, 0, (xNote n ((gPut fp fc u v).1) ((gPut fp fc u v).2) fl fh).2.2.2.1, (xNote n ((gPut fp fc u v).1) ((gPut fp fc u v).2) fl fh).2.2.2.2)) else ((0, fp, fc, sc, P, dc, cb, kb, kc, ga, fl, fh))) else ((0, fp, fc, sc, P, dc, cb, kb, kc, ga, fl, fh))) else ((0, fp, fc, sc, P, dc, cb, kb, kc, ga, fl, fh)))
def xErase (n : Nat) (fp : Nat → Int32) (fc : Nat → Int32) (fl : Nat → Int32) (fh : Nat → Int32) (P : Nat) (dc : Int32) (cb : Int32) (kb : Int32) (kc : Int32) (ga : Int32) (sc : Int32) (u : Int32) (v : Int32) : Int32 × (Nat → Int32) × (Nat → Int32) × Int32 × Nat × Int32 × Int32 × Int32 × Int32 × Int32 × (Nat → Int32) × (Nat → Int32) :=
  if (xPair n u v) = 0 then ((0, fp, fc, sc, P, dc, cb, kb, kc, ga, fl, fh)) else (if (gHas fp u v) = 0 then ((0, fp, fc, sc, P, dc, cb, kb, kc, ga, fl, fh)) else ((1, (gTake fp fc u v).1, (gTake fp fc u v).2, (-1), ((xNote n ((gTake fp fc u v).1) ((gTake fp fc u v).2) fl fh).1), (xNote n ((gTake fp fc u v).1) ((gTake fp fc u v).2) fl fh).2.1, (xNote n ((gTake fp fc u v).1) ((gTake fp fc u v).2) fl fh).2.2.1, 0, 0, 0, (xNote n ((gTake fp fc u v).1) ((gTake fp fc u v).2) fl fh).2.2.2.1, (xNote n ((gTake fp fc u v).1) ((gTake fp fc u v).2) fl fh).2.2.2.2)))
def xTurn (n : Nat) (fp : Nat → Int32) (fc : Nat → Int32) (fl : Nat → Int32) (fh : Nat → Int32) (P : Nat) (dc : Int32) (cb : Int32) (kb : Int32) (kc : Int32) (ga : Int32) (sc : Int32) (u : Int32) (v : Int32) : Int32 × (Nat → Int32) × (Nat → Int32) × Int32 × Nat × Int32 × Int32 × Int32 × Int32 × Int32 × (Nat → Int32) × (Nat → Int32) :=
  if (xPair n u v) = 0 then ((0, fp, fc, sc, P, dc, cb, kb, kc, ga, fl, fh)) else (if (gHas fp u v) = 0 then ((0, fp, fc, sc, P, dc, cb, kb, kc, ga, fl, fh)) else (if (hHolds (gReach n ((gTake fp fc u v).2) u) v) = 0 then ((1, (gPut ((gTake fp fc u v).1) ((gTake fp fc u v).2) v u).1, (gPut ((gTake fp fc u v).1) ((gTake fp fc u v).2) v u).2, (-1), ((xNote n ((gPut ((gTake fp fc u v).1) ((gTake fp fc u v).2) v u).1) ((gPut ((gTake fp fc u v).1) ((gTake fp fc u v).2) v u).2) fl fh).1), (xNote n ((gPut ((gTake fp fc u v).1) ((gTake fp fc u v).2) v u).1) ((gPut ((gTake fp fc u v).1) ((gTake fp fc u v).2) v u).2) fl fh).2.1, (xNote n ((gPut ((gTake fp fc u v).1) ((gTake fp fc u v).2) v u).1) ((gPut ((gTake fp fc u v).1) ((gTake fp fc u v).2) v u).2) fl fh).2.2.1, 0, 0, 0, (xNote n ((gPut ((gTake fp fc u v).1) ((gTake fp fc u v).2) v u).1) ((gPut ((gTake fp fc u v).1) ((gTake fp fc u v).2) v u).2) fl fh).2.2.2.1, (xNote n ((gPut ((gTake fp fc u v).1) ((gTake fp fc u v).2) v u).1) ((gPut ((gTake fp fc u v).1) ((gTake fp fc u v).2) v u).2) fl fh).2.2.2.2)) else ((0, (gPut ((gTake fp fc u v).1) ((gTake fp fc u v).2) u v).1, (gPut ((gTake fp fc u v).1) ((gTake fp fc u v).2) u v).2, sc, P, dc, cb, kb, kc, ga, fl, fh))))
def xEdge (n : Nat) (fp : Nat → Int32) (fc : Nat → Int32) (fq : Nat → Int32) (fd : Nat → Int32) (fl : Nat → Int32) (fh : Nat → Int32) (P : Nat) (dc : Int32) (cb : Int32) (kb : Int32) (kc : Int32) (ga : Int32) (ct : Int32) (fi : Int32) (sf : Int32) (af : Int32) (u : Int32) (v : Int32) : Int32 × Int32 × Int32 × Int32 × Int32 × Int32 × (Nat → Int32) × (Nat → Int32) :=
  if (xPair n u v) = 0 then ((0, ga, ct, fi, sf, af, fq, fd)) else (if (gJoins fp u v) = 0 then ((0, ga, ct, fi, sf, af, fq, fd)) else (if ((kSome n fp fc fq fd fl fh P dc cb kb kc ga ct fi sf af v u).1) = 0 then ((1, (kSome n fp fc fq fd fl fh P dc cb kb kc ga ct fi sf af v u).2.1, (kSome n fp fc fq fd fl fh P dc cb kb kc ga ct fi sf af v u).2.2.1, (kSome n fp fc fq fd fl fh P dc cb kb kc ga ct fi sf af v u).2.2.2.1, (kSome n fp fc fq fd fl fh P dc cb kb kc ga ct fi sf af v u).2.2.2.2.1, (kSome n fp fc fq fd fl fh P dc cb kb kc ga ct fi sf af v u).2.2.2.2.2.1, (kSome n fp fc fq fd fl fh P dc cb kb kc ga ct fi sf af v u).2.2.2.2.2.2.1, (kSome n fp fc fq fd fl fh P dc cb kb kc ga ct fi sf af v u).2.2.2.2.2.2.2)) else (if ((kSome n fp fc ((kSome n fp fc fq fd fl fh P dc cb kb kc ga ct fi sf af v u).2.2.2.2.2.2.1) ((kSome n fp fc fq fd fl fh P dc cb kb kc ga ct fi sf af v u).2.2.2.2.2.2.2) fl fh P dc cb kb kc ((kSome n fp fc fq fd fl fh P dc cb kb kc ga ct fi sf af v u).2.1) ((kSome n fp fc fq fd fl fh P dc cb kb kc ga ct fi sf af v u).2.2.1) ((kSome n fp fc fq fd fl fh P dc cb kb kc ga ct fi sf af v u).2.2.2.1) ((kSome n fp fc fq fd fl fh P dc cb kb kc ga ct fi sf af v u).2.2.2.2.1) ((kSome n fp fc fq fd fl fh P dc cb kb kc ga ct fi sf af v u).2.2.2.2.2.1) u v).1) = 0 then ((2, (kSome n fp fc ((kSome n fp fc fq fd fl fh P dc cb kb kc ga ct fi sf af v u).2.2.2.2.2.2.1) ((kSome n fp fc fq fd fl fh P dc cb kb kc ga ct fi sf af v u).2.2.2.2.2.2.2) fl fh P dc cb kb kc ((kSome n fp fc fq fd fl fh P dc cb kb kc ga ct fi sf af v u).2.1) ((kSome n fp fc fq fd fl fh P dc cb kb kc ga ct fi sf af v u).2.2.1) ((kSome n fp fc fq fd fl fh P dc cb kb kc ga ct fi sf af v u).2.2.2.1) ((kSome n fp fc fq fd fl fh P dc cb kb kc ga ct fi sf af v u).2.2.2.2.1) ((kSome n fp fc fq fd fl fh P dc cb kb kc ga ct fi sf af v u).2.2.2.2.2.1) u v).2.1, (kSome n fp fc ((kSome n fp fc fq fd fl fh P dc cb kb kc ga ct fi sf af v u).2.2.2.2.2.2.1) ((kSome n fp fc fq fd fl fh P dc cb kb kc ga ct fi sf af v u).2.2.2.2.2.2.2) fl fh P dc cb kb kc ((kSome n fp fc fq fd fl fh P dc cb kb kc ga ct fi sf af v u).2.1) ((kSome n fp fc fq fd fl fh P dc cb kb kc ga ct fi sf af v u).2.2.1) ((kSome n fp fc fq fd fl fh P dc cb kb kc ga ct fi sf af v u).2.2.2.1) ((kSome n fp fc fq fd fl fh P dc cb kb kc ga ct fi sf af v u).2.2.2.2.1) ((kSome n fp fc fq fd fl fh P dc cb kb kc ga ct fi sf af v u).2.2.2.2.2.1) u v).2.2.1, (kSome n fp fc ((kSome n fp fc fq fd fl fh P dc cb kb kc ga ct fi sf af v u).2.2.2.2.2.2.1) ((kSome n fp fc fq fd fl fh P dc cb kb kc ga ct fi sf af v u).2.2.2.2.2.2.2) fl fh P dc cb kb kc ((kSome n fp fc fq fd fl fh P dc cb kb kc ga ct fi sf af v u).2.1) ((kSome n fp fc fq fd fl fh P dc cb kb kc ga ct fi sf af v u).2.2.1) ((kSome n fp fc fq fd fl fh P dc cb kb kc ga ct fi sf af v u).2.2.2.1) ((kSome n fp fc fq fd fl fh P dc cb kb kc ga ct fi sf af v u).2.2.2.2.1) ((kSome n fp fc fq fd fl fh P dc cb kb kc ga ct fi sf af v u).2.2.2.2.2.1) u v).2.2.2.1, (kSome n fp fc ((kSome n fp fc fq fd fl fh P dc cb kb kc ga ct fi sf af v u).2.2.2.2.2.2.1) ((kSome n fp fc fq fd fl fh P dc cb kb kc ga ct fi sf af v u).2.2.2.2.2.2.2) fl fh P dc cb kb kc ((kSome n fp fc fq fd fl fh P dc cb kb kc ga ct fi sf af v u).2.1) ((kSome n fp fc fq fd fl fh P dc cb kb kc ga ct fi sf af v u).2.2.1) ((kSome n fp fc fq fd fl fh P dc cb kb kc ga ct fi sf af v u).2.2.2.1) ((kSome n fp fc fq fd fl fh P dc cb kb kc ga ct fi sf af v u).2.2.2.2.1) ((kSome n fp fc fq fd fl fh P dc cb kb kc ga ct fi sf af v u).2.2.2.2.2.1) u v).2.2.2.2.1, (kSome n fp fc ((kSome n fp fc fq fd fl fh P dc cb kb kc ga ct fi sf af v u).2.2.2.2.2.2.1) ((kSome n fp fc fq fd fl fh P dc cb kb kc ga ct fi sf af v u).2.2.2.2.2.2.2) fl fh P dc cb kb kc ((kSome n fp fc fq fd fl fh P dc cb kb kc ga ct fi sf af v u).2.1) ((kSome n fp fc fq fd fl fh P dc cb kb kc ga ct fi sf af v u).2.2.1) ((kSome n fp fc fq fd fl fh P dc cb kb kc ga ct fi sf af v u).2.2.2.1) ((kSome n fp fc fq fd fl fh P dc cb kb kc ga ct fi sf af v u).2.2.2.2.1) ((kSome n fp fc fq fd fl fh P dc cb kb kc ga ct fi sf af v u).2.2.2.2.2.1) u v).2.2.2.2.2.1, (kSome n fp fc ((kSome n fp fc fq fd fl fh P dc cb kb kc ga ct fi sf af v u).2.2.2.2.2.2.1) ((kSome n fp fc fq fd fl fh P dc cb kb kc ga ct fi sf af v u).2.2.2.2.2.2.2) fl fh P dc cb kb kc ((kSome n fp fc fq fd fl fh P dc cb kb kc ga ct fi sf af v u).2.1) ((kSome n fp fc fq fd fl fh P dc cb kb kc ga ct fi sf af v u).2.2.1) ((kSome n fp fc fq fd fl fh P dc cb kb kc ga ct fi sf af v u).2.2.2.1) ((kSome n fp fc fq fd fl fh P dc cb kb kc ga ct fi sf af v u).2.2.2.2.1) ((kSome n fp fc fq fd fl fh P dc cb kb kc ga ct fi sf af v u).2.2.2.2.2.1) u v).2.2.2.2.2.2.1, (kSome n fp fc ((kSome n fp fc fq fd fl fh P dc cb kb kc ga ct fi sf af v u).2.2.2.2.2.2.1) ((kSome n fp fc fq fd fl fh P dc cb kb kc ga ct fi sf af v u).2.2.2.2.2.2.2) fl fh P dc cb kb kc ((kSome n fp fc fq fd fl fh P dc cb kb kc ga ct fi sf af v u).2.1) ((kSome n fp fc fq fd fl fh P dc cb kb kc ga ct fi sf af v u).2.2.1) ((kSome n fp fc fq fd fl fh P dc cb kb kc ga ct fi sf af v u).2.2.2.1) ((kSome n fp fc fq fd fl fh P dc cb kb kc ga ct fi sf af v u).2.2.2.2.1) ((kSome n fp fc fq fd fl fh P dc cb kb kc ga ct fi sf af v u).2.2.2.2.2.1) u v).2.2.2.2.2.2.2)) else ((3, (kSome n fp fc ((kSome n fp fc fq fd fl fh P dc cb kb kc ga ct fi sf af v u).2.2.2.2.2.2.1) ((kSome n fp fc fq fd fl fh P dc cb kb kc ga ct fi sf af v u).2.2.2.2.2.2.2) fl fh P dc cb kb kc ((kSome n fp fc fq fd fl fh P dc cb kb kc ga ct fi sf af v u).2.1) ((kSome n fp fc fq fd fl fh P dc cb kb kc ga ct fi sf af v u).2.2.1) ((kSome n fp fc fq fd fl fh P dc cb kb kc ga ct fi sf af v u).2.2.2.1) ((kSome n fp fc fq fd fl fh P dc cb kb kc ga ct fi sf af v u).2.2.2.2.1) ((kSome n fp fc fq fd fl fh P dc cb kb kc ga ct fi sf af v u).2.2.2.2.2.1) u v).2.1, (kSome n fp fc ((kSome n fp fc fq fd fl fh P dc cb kb kc ga ct fi sf af v u).2.2.2.2.2.2.1) ((kSome n fp fc fq fd fl fh P dc cb kb kc ga ct fi sf af v u).2.2.2.2.2.2.2) fl fh P dc cb kb kc ((kSome n fp fc fq fd fl fh P dc cb kb kc ga ct fi sf af v u).2.1) ((kSome n fp fc fq fd fl fh P dc cb kb kc ga ct fi sf af v u).2.2.1) ((kSome n fp fc fq fd fl fh P dc cb kb kc ga ct fi sf af v u).2.2.2.1) ((kSome n fp fc fq fd fl fh P dc cb kb kc ga ct fi sf af v u).2.2.2.2.1) ((kSome n fp fc fq fd fl fh P dc cb kb kc ga ct fi sf af v u).2.2.2.2.2.1) u v).2.2.1, (kSome n fp fc ((kSome n fp fc fq fd fl fh P dc cb kb kc ga ct fi sf af v u).2.2.2.2.2.2.1) ((kSome n fp fc fq fd fl fh P dc cb kb kc ga ct fi sf af v u).2.2.2.2.2.2.2) fl fh P dc cb kb kc ((kSome n fp fc fq fd fl fh P dc cb kb kc ga ct fi sf af v u).2.1) ((kSome n fp fc fq fd fl fh P dc cb kb kc ga ct fi sf af v u).2.2.1) ((kSome n fp fc fq fd fl fh P dc cb kb kc ga ct fi sf af v u).2.2.2.1) ((kSome n fp fc fq fd fl fh P dc cb kb kc ga ct fi sf af v u).2.2.2.2.1) ((kSome n fp fc fq fd fl fh P dc cb kb kc ga ct fi sf af v u).2.2.2.2.2.1) u v).2.2.2.1, (kSome n fp fc ((kSome n fp fc fq fd fl fh P dc cb kb kc ga ct fi sf af v u).2.2.2.2.2.2.1) ((kSome n fp fc fq fd fl fh P dc cb kb kc ga ct fi sf af v u).2.2.2.2.2.2.2) fl fh P dc cb kb kc ((kSome n fp fc fq fd fl fh P dc cb kb kc ga ct fi sf af v u).2.1) ((kSome n fp fc fq fd fl fh P dc cb kb kc ga ct fi sf af v u).2.2.1) ((kSome n fp fc fq fd fl fh P dc cb kb kc ga ct fi sf af v u).2.2.2.1) ((kSome n fp fc fq fd fl fh P dc cb kb kc ga ct fi sf af v u).2.2.2.2.1) ((kSome n fp fc fq fd fl fh P dc cb kb kc ga ct fi sf af v u).2.2.2.2.2.1) u v).2.2.2.2.1, (kSome n fp fc ((kSome n fp fc fq fd fl fh P dc cb kb kc ga ct fi sf af v u).2.2.2.2.2.2.1) ((kSome n fp fc fq fd fl fh P dc cb kb kc ga ct fi sf af v u).2.2.2.2.2.2.2) fl fh P dc cb kb kc ((kSome n fp fc fq fd fl fh P dc cb kb kc ga ct fi sf af v u).2.1) ((kSome n fp fc fq fd fl fh P dc cb kb kc ga ct fi sf af v u).2.2.1) ((kSome n fp fc fq fd fl fh P dc cb kb kc ga ct fi sf af v u).2.2.2.1) ((kSome n fp fc fq fd fl fh P dc cb kb kc ga ct fi sf af v u).2.2.2.2.1) ((kSome n fp fc fq fd fl fh P dc cb kb kc ga ct fi sf af v u).2.2.2.2.2.1) u v).2.2.2.2.2.1, (kSome n fp fc ((kSome n fp fc fq fd fl fh P dc cb kb kc ga ct fi sf af v u).2.2.2.2.2.2.1) ((kSome n fp fc fq fd fl fh P dc cb kb kc ga ct fi sf af v u).2.2.2.2.2.2.2) fl fh P dc cb kb kc ((kSome n fp fc fq fd fl fh P dc cb kb kc ga ct fi sf af v u).2.1) ((kSome n fp fc fq fd fl fh P dc cb kb kc ga ct fi sf af v u).2.2.1) ((kSome n fp fc fq fd fl fh P dc cb kb kc ga ct fi sf af v u).2.2.2.1) ((kSome n fp fc fq fd fl fh P dc cb kb kc ga ct fi sf af v u).2.2.2.2.1) ((kSome n fp fc fq fd fl fh P dc cb kb kc ga ct fi sf af v u).2.2.2.2.2.1) u v).2.2.2.2.2.2.1, (kSome n fp fc ((kSome n fp fc fq fd fl fh P dc cb kb kc ga ct fi sf af v u).2.2.2.2.2.2.1) ((kSome n fp fc fq fd fl fh P dc cb kb kc ga ct fi sf af v u).2.2.2.2.2.2.2) fl fh P dc cb kb kc ((kSome n fp fc fq fd fl fh P dc cb kb kc ga ct fi sf af v u).2.1) ((kSome n fp fc fq fd fl fh P dc cb kb kc ga ct fi sf af v u).2.2.1) ((kSome n fp fc fq fd fl fh P dc cb kb kc ga ct fi sf af v u).2.2.2.1) ((kSome n fp fc fq fd fl fh P dc cb kb kc ga ct fi sf af v u).2.2.2.2.1) ((kSome n fp fc fq fd fl fh P dc cb kb kc ga ct fi sf af v u).2.2.2.2.2.1) u v).2.2.2.2.2.2.2)))))
def xLoose (n : Nat) (fp : Nat → Int32) (fc : Nat → Int32) (fq : Nat → Int32) (fd : Nat → Int32) (fl : Nat → Int32) (fh : Nat → Int32) (P : Nat) (dc : Int32) (cb : Int32) (kb : Int32) (kc : Int32) (ga : Int32) (ct : Int32) (fi : Int32) (sf : Int32) (af : Int32) : Int32 × Int32 × Int32 × Int32 × Int32 × Int32 × (Nat → Int32) × (Nat → Int32) :=
  ((kLoose n fp fc fq fd fl fh P dc cb kb kc ga ct fi sf af).1, (kLoose n fp fc fq fd fl fh P dc cb kb kc ga ct fi sf af).2.1, (kLoose n fp fc fq fd fl fh P dc cb kb kc ga ct fi sf af).2.2.1, (kLoose n fp fc fq fd fl fh P dc cb kb kc ga ct fi sf af).2.2.2.1, (kLoose n fp fc fq fd fl fh P dc cb kb kc ga ct fi sf af).2.2.2.2.1, (kLoose n fp fc fq fd fl fh P dc cb kb kc ga ct fi sf af).2.2.2.2.2.1, (kLoose n fp fc fq fd fl fh P dc cb kb kc ga ct fi sf af).2.2.2.2.2.2.1, (kLoose n fp fc fq fd fl fh P dc cb kb kc ga ct fi sf af).2.2.2.2.2.2.2)
def xMembers (n : Nat) (fp : Nat → Int32) (fc : Nat → Int32) (fq : Nat → Int32) (fd : Nat → Int32) (fl : Nat → Int32) (fh : Nat → Int32) (P : Nat) (dc : Int32) (cb : Int32) (kb : Int32) (kc : Int32) (ga : Int32) (ct : Int32) (fi : Int32) (sf : Int32) (af : Int32) : Int32 × Int32 × Int32 × Int32 × Int32 × Int32 × (Nat → Int32) × (Nat → Int32) :=
  ((kSize n fp fc fq fd fl fh P dc cb kb kc ga ct fi sf af).1, (kSize n fp fc fq fd fl fh P dc cb kb kc ga ct fi sf af).2.1, (kSize n fp fc fq fd fl fh P dc cb kb kc ga ct fi sf af).2.2.1, (kSize n fp fc fq fd fl fh P dc cb kb kc ga ct fi sf af).2.2.2.1, (kSize n fp fc fq fd fl fh P dc cb kb kc ga ct fi sf af).2.2.2.2.1, (kSize n fp fc fq fd fl fh P dc cb kb kc ga ct fi sf af).2.2.2.2.2.1, (kSize n fp fc fq fd fl fh P dc cb kb kc ga ct fi sf af).2.2.2.2.2.2.1, (kSize n fp fc fq fd fl fh P dc cb kb kc ga ct fi sf af).2.2.2.2.2.2.2)
def xFirst (n : Nat) (fp : Nat → Int32) (fc : Nat → Int32) (fq : Nat → Int32) (fd : Nat → Int32) (fl : Nat → Int32) (fh : Nat → Int32) (P : Nat) (dc : Int32) (cb : Int32) (kb : Int32) (kc : Int32) (ga : Int32) (ct : Int32) (fi : Int32) (sf : Int32) (af : Int32) (u : Int32) (v : Int32) : Int32 × Int32 × Int32 × Int32 × Int32 × Int32 × (Nat → Int32) × (Nat → Int32) :=
  if (xPair n u v) = 0 then ((0, ga, ct, fi, sf, af, fq, fd)) else (if ((kFirst n fp fc fq fd fl fh P dc cb kb kc ga ct fi sf af u v).1) = 0 then ((0, (kFirst n fp fc fq fd fl fh P dc cb kb kc ga ct fi sf af u v).2.1, (kFirst n fp fc fq fd fl fh P dc cb kb kc ga ct fi sf af u v).2.2.1, (kFirst n fp fc fq fd fl fh P dc cb kb kc ga ct fi sf af u v).2.2.2.1, (kFirst n fp fc fq fd fl fh P dc cb kb kc ga ct fi sf af u v).2.2.2.2.1, (kFirst n fp fc fq fd fl fh P dc cb kb kc ga ct fi sf af u v).2.2.2.2.2.1, (kFirst n fp fc fq fd fl fh P dc cb kb kc ga ct fi sf af u v).2.2.2.2.2.2.1, (kFirst n fp fc fq fd fl fh P dc cb kb kc ga ct fi sf af u v).2.2.2.2.2.2.2)) else ((1, (kFirst n fp fc fq fd fl fh P dc cb kb kc ga ct fi sf af u v).2.1, (kFirst n fp fc fq fd fl fh P dc cb kb kc ga ct fi sf af u v).2.2.1, (kFirst n fp fc fq fd fl fh P dc cb kb kc ga ct fi sf af u v).2.2.2.1, (kFirst n fp fc fq fd fl fh P dc cb kb kc ga ct fi sf af u v).2.2.2.2.1, (kFirst n fp fc fq fd fl fh P dc cb kb kc ga ct fi sf af u v).2.2.2.2.2.1, (kFirst n fp fc fq fd fl fh P dc cb kb kc ga ct fi sf af u v).2.2.2.2.2.2.1, (kFirst n fp fc fq fd fl fh P dc cb kb kc ga ct fi sf af u v).2.2.2.2.2.2.2)))
def xTurned (n : Nat) (fp : Nat → Int32) (fc : Nat → Int32) (fq : Nat → Int32) (fd : Nat → Int32) (fl : Nat → Int32) (fh : Nat → Int32) (P : Nat) (dc : Int32) (cb : Int32) (kb : Int32) (kc : Int32) (ga : Int32) (ct : Int32) (fi : Int32) (sf : Int32) (af : Int32) : Int32 × Int32 × Int32 × Int32 × Int32 × Int32 × (Nat → Int32) × (Nat → Int32) :=
  ((kTurned n fp fc fq fd fl fh P dc cb kb kc ga ct fi sf af).1, (kTurned n fp fc fq fd fl fh P dc cb kb kc ga ct fi sf af).2.1, (kTurned n fp fc fq fd fl fh P dc cb kb kc ga ct fi sf af).2.2.1, (kTurned n fp fc fq fd fl fh P dc cb kb kc ga ct fi sf af).2.2.2.1, (kTurned n fp fc fq fd fl fh P dc cb kb kc ga ct fi sf af).2.2.2.2.1, (kTurned n fp fc fq fd fl fh P dc cb kb kc ga ct fi sf af).2.2.2.2.2.1, (kTurned n fp fc fq fd fl fh P dc cb kb kc ga ct fi sf af).2.2.2.2.2.2.1, (kTurned n fp fc fq fd fl fh P dc cb kb kc ga ct fi sf af).2.2.2.2.2.2.2)
def xKnow (n : Nat) (fp : Nat → Int32) (fc : Nat → Int32) (fq : Nat → Int32) (fd : Nat → Int32) (fl : Nat → Int32) (fh : Nat → Int32) (P : Nat) (dc : Int32) (cb : Int32) (kb : Int32) (kc : Int32) (ga : Int32) (ct : Int32) (fi : Int32) (sf : Int32) (af : Int32) (u : Int32) (v : Int32) : Int32 × Int32 × Int32 × Int32 × Int32 × Int32 × Int32 × Int32 × (Nat → Int32) × (Nat → Int32) :=
  if (xPair n u v) = 0 then ((0, kb, kc, ga, ct, fi, sf, af, fq, fd)) else (if ((kSome n fp fc fq fd fl fh P dc cb kb kc ga ct fi sf af u v).1) = 0 then ((0, kb, kc, (kSome n fp fc fq fd fl fh P dc cb kb kc ga ct fi sf af u v).2.1, (kSome n fp fc fq fd fl fh P dc cb kb kc ga ct fi sf af u v).2.2.1, (kSome n fp fc fq fd fl fh P dc cb kb kc ga ct fi sf af u v).2.2.2.1, (kSome n fp fc fq fd fl fh P dc cb kb kc ga ct fi sf af u v).2.2.2.2.1, (kSome n fp fc fq fd fl fh P dc cb kb kc ga ct fi sf af u v).2.2.2.2.2.1, (kSome n fp fc fq fd fl fh P dc cb kb kc ga ct fi sf af u v).2.2.2.2.2.2.1, (kSome n fp fc fq fd fl fh P dc cb kb kc ga ct fi sf af u v).2.2.2.2.2.2.2)) else ((1, (kFix fl fh P kb kc u v).1, (kFix fl fh P kb kc u v).2, 0, (kSome n fp fc fq fd fl fh P dc cb kb kc ga ct fi sf af u v).2.2.1, (kSome n fp fc fq fd fl fh P dc cb kb kc ga ct fi sf af u v).2.2.2.1, (kSome n fp fc fq fd fl fh P dc cb kb kc ga ct fi sf af u v).2.2.2.2.1, (kSome n fp fc fq fd fl fh P dc cb kb kc ga ct fi sf af u v).2.2.2.2.2.1, (kSome n fp fc fq fd fl fh P dc cb kb kc ga ct fi sf af u v).2.2.2.2.2.2.1, (kSome n fp fc fq fd fl fh P dc cb kb kc ga ct fi sf af u v).2.2.2.2.2.2.2)))
def xForget (kb : Int32) : Int32 :=
  (kUnfix kb)
end
section
def mNode (n : Nat) (u : Int32) : Int32 :=
  if u < 0 then (0) else (if (nI n) ≤ u then (0) else (1))
def mPair (n : Nat) (u : Int32) (v : Int32) : Int32 :=
  if (mNode n u) = 0 then (0) else (if (mNode n v) = 0 then (0) else (if u = v then (0) else (1)))
def mJoin (mh : Nat → Int32) (u : Int32) (v : Int32) : Int32 :=
  if (mh ((6 * u) + v).toNatClampNeg) = 0 then (if (mh ((6 * v) + u).toNatClampNeg) = 0 then (0) else (1)) else (1)
def mArrows_L4 (mh : Nat → Int32) : Nat → Nat → Int32 → Int32
  | 0, i_4, c_4 => c_4
  | k_4 + 1, i_4, c_4 => if (mh (nI i_4).toNatClampNeg) = 0 then (mArrows_L4 mh k_4 (i_4 + 1) c_4) else (mArrows_L4 mh k_4 (i_4 + 1) (c_4 + 1))
def mArrows (mh : Nat → Int32) : Int32 :=
  mArrows_L4 mh 36 0 0
def mForgetAll_L2 (mk : Nat → Int32) : Nat → Nat → (Nat → Int32) → (Nat → Int32)
  | 0, i_2, mk_2 => mk_2
  | k_2 + 1, i_2, mk_2 => mForgetAll_L2 mk k_2 (i_2 + 1) (upd mk_2 (nI i_2).toNatClampNeg (vp_nar .boolean 0))
def mForgetAll (mk : Nat → Int32) : (Nat → Int32) :=
  mForgetAll_L2 mk 36 0 mk
def mReach_L27 (n : Nat) (mh : Nat → Int32) (u : Int32) (i_6 : Nat) (st_6 : Int32) (i_15 : Nat) (st_15 : Int32) (kk : (Int32) → Int32) : Nat → Nat → Int32 → Int32
  | 0, i_27, st_27 => kk st_27
  | k_27 + 1, i_27, st_27 => if ((st_27 >>> ((nI i_15) &&& 31)) &&& 1) = 1 then (if (mh ((6 * (nI i_15)) + (nI i_27)).toNatClampNeg) = 0 then (mReach_L27 n mh u i_6 st_6 i_15 st_15 kk k_27 (i_27 + 1) st_27) else (mReach_L27 n mh u i_6 st_6 i_15 st_15 kk k_27 (i_27 + 1) (st_27 ||| (1 <<< ((nI i_27) &&& 31))))) else (kk st_27)
def mReach_L15 (n : Nat) (mh : Nat → Int32) (u : Int32) (i_6 : Nat) (st_6 : Int32) (kk : (Int32) → Int32) : Nat → Nat → Int32 → Int32
  | 0, i_15, st_15 => kk st_15
  | k_15 + 1, i_15, st_15 => mReach_L27 n mh u i_6 st_6 i_15 st_15 (fun w0 => mReach_L15 n mh u i_6 st_6 kk k_15 (i_15 + 1) w0) n 0 st_15
def mReach_L6 (n : Nat) (mh : Nat → Int32) (u : Int32) : Nat → Nat → Int32 → Int32
  | 0, i_6, st_6 => st_6
  | k_6 + 1, i_6, st_6 => mReach_L15 n mh u i_6 st_6 (fun w0 => mReach_L6 n mh u k_6 (i_6 + 1) w0) n 0 st_6
def mReach (n : Nat) (mh : Nat → Int32) (u : Int32) : Int32 :=
  mReach_L6 n mh u 6 0 (1 <<< (u &&& 31))
def mArrow (n : Nat) (mh : Nat → Int32) (mk : Nat → Int32) (u : Int32) (v : Int32) : Int32 × (Nat → Int32) × (Nat → Int32) :=
  if (mPair n u v) = 0 then ((0, mh, mk)) else (if (mJoin mh u v) = 0 then (if (9 : Int32) ≤ (mArrows mh) then ((0, mh, mk)) else (if (((mReach n mh v) >>> (u &&& 31)) &&& 1) = 1 then ((0, mh, mk)) else ((1, upd mh ((6 * u) + v).toNatClampNeg (vp_nar .boolean 1), (mForgetAll mk))))) else ((0, mh, mk)))
def mErase (n : Nat) (mh : Nat → Int32) (mk : Nat → Int32) (u : Int32) (v : Int32) : Int32 × (Nat → Int32) × (Nat → Int32) :=
  if (mPair n u v) = 0 then ((0, mh, mk)) else (if (mh ((6 * u) + v).toNatClampNeg) = 0 then ((0, mh, mk)) else ((1, upd mh ((6 * u) + v).toNatClampNeg (vp_nar .boolean 0), (mForgetAll mk))))
def mTurn (n : Nat) (mh : Nat → Int32) (mk : Nat → Int32) (u : Int32) (v : Int32) : Int32 × (Nat → Int32) × (Nat → Int32) :=
  if (mPair n u v) = 0 then ((0, mh, mk)) else (if (mh ((6 * u) + v).toNatClampNeg) = 0 then ((0, mh, mk)) else (if (((mReach n (upd mh ((6 * u) + v).toNatClampNeg (vp_nar .boolean 0)) u) >>> (v &&& 31)) &&& 1) = 1 then ((0, upd (upd mh ((6 * u) + v).toNatClampNeg (vp_nar .boolean 0)) ((6 * u) + v).toNatClampNeg (vp_nar .boolean 1), mk)) else ((1, upd (upd mh ((6 * u) + v).toNatClampNeg (vp_nar .boolean 0)) ((6 * v) + u).toNatClampNeg (vp_nar .boolean 1), (mForgetAll mk)))))
def mDrawn (n : Nat) (mh : Nat → Int32) (u : Int32) (v : Int32) : Int32 :=
  if (mPair n u v) = 0 then (0) else (if (mh ((6 * u) + v).toNatClampNeg) = 0 then (0) else (1))
def mParents_L14 (n : Nat) (mh : Nat → Int32) (v : Int32) : Nat → Nat → Int32 → Int32
  | 0, i_14, st_14 => st_14
  | k_14 + 1, i_14, st_14 => if (mh ((6 * (nI i_14)) + v).toNatClampNeg) = 0 then (mParents_L14 n mh v k_14 (i_14 + 1) st_14) else (mParents_L14 n mh v k_14 (i_14 + 1) (st_14 + (1 <<< ((nI i_14) &&& 31))))
def mParents (n : Nat) (mh : Nat → Int32) (v : Int32) : Int32 :=
  if (mNode n v) = 0 then (-1) else (mParents_L14 n mh v n 0 0)
def mReached (n : Nat) (mh : Nat → Int32) (u : Int32) : Int32 :=
  if (mNode n u) = 0 then (-1) else ((mReach n mh u))
def mAround_L18 (n : Nat) (mh : Nat → Int32) (u : Int32) : Nat → Nat → Int32 → Int32
  | 0, i_18, st_18 => st_18 &&& ((1 <<< (u &&& 31)) ^^^ (-1))
  | k_18 + 1, i_18, st_18 => if (mh ((6 * u) + (nI i_18)).toNatClampNeg) = 0 then (mAround_L18 n mh u k_18 (i_18 + 1) st_18) else (mAround_L18 n mh u k_18 (i_18 + 1) ((st_18 ||| (1 <<< ((nI i_18) &&& 31))) ||| (mParents n mh (nI i_18))))
def mAround (n : Nat) (mh : Nat → Int32) (u : Int32) : Int32 :=
  if (mNode n u) = 0 then (-1) else (mAround_L18 n mh u n 0 (mParents n mh u))
def mColl1 (fg : Nat → Int32) (a : Int32) (b : Int32) (d : Int32) : Int32 :=
  if (fg ((6 * a) + b).toNatClampNeg) = 0 then (0) else (if (fg ((6 * d) + b).toNatClampNeg) = 0 then (0) else (if (fg ((6 * a) + d).toNatClampNeg) = 0 then (if (fg ((6 * d) + a).toNatClampNeg) = 0 then (1) else (0)) else (0)))
def mColl_L27 (n : Nat) (mh : Nat → Int32) (i_4 : Nat) (c_4 : Int32) (i_14 : Nat) (c_14 : Int32) (kk : (Int32) → Int32) : Nat → Nat → Int32 → Int32
  | 0, i_27, c_27 => kk c_27
  | k_27 + 1, i_27, c_27 => if (mColl1 mh (nI i_14) (nI i_4) (nI i_27)) = 0 then (mColl_L27 n mh i_4 c_4 i_14 c_14 kk k_27 (i_27 + 1) c_27) else (mColl_L27 n mh i_4 c_4 i_14 c_14 kk k_27 (i_27 + 1) (c_27 + 1))
def mColl_L14 (n : Nat) (mh : Nat → Int32) (i_4 : Nat) (c_4 : Int32) (kk : (Int32) → Int32) : Nat → Nat → Int32 → Int32
  | 0, i_14, c_14 => kk c_14
  | k_14 + 1, i_14, c_14 => mColl_L27 n mh i_4 c_4 i_14 c_14 (fun w0 => mColl_L14 n mh i_4 c_4 kk k_14 (i_14 + 1) w0) (n - (i_14 + 1)) (i_14 + 1) c_14
def mColl_L4 (n : Nat) (mh : Nat → Int32) : Nat → Nat → Int32 → Int32
  | 0, i_4, c_4 => c_4
  | k_4 + 1, i_4, c_4 => mColl_L14 n mh i_4 c_4 (fun w0 => mColl_L4 n mh k_4 (i_4 + 1) w0) n 0 c_4
def mColl (n : Nat) (mh : Nat → Int32) : Int32 :=
  mColl_L4 n mh n 0 0
def mCov (n : Nat) (mh : Nat → Int32) (u : Int32) (v : Int32) : Int32 :=
  if (mDrawn n mh u v) = 0 then (0) else (if (mParents n mh v) = ((mParents n mh u) ||| (1 <<< (u &&& 31))) then (1) else (0))
def mSize_L4 (set : Int32) : Nat → Nat → Int32 → Int32
  | 0, i_4, c_4 => c_4
  | k_4 + 1, i_4, c_4 => mSize_L4 set k_4 (i_4 + 1) (c_4 + ((set >>> ((nI i_4) &&& 31)) &&& 1))
def mSize (set : Int32) : Int32 :=
  mSize_L4 set 6 0 0
def mBlocked_L2 (mh : Nat → Int32) (mp : Nat → Int32) (mr : Nat → Int32) (M : Nat) (set : Int32) : Nat → Nat → Int32
  | 0, i_2 => 0
  | k_2 + 1, i_2 => if (mh ((6 * (mp ((nI i_2) - 1).toNatClampNeg)) + (mp (nI i_2).toNatClampNeg)).toNatClampNeg) = 0 then (if ((set >>> ((mp (nI i_2).toNatClampNeg) &&& 31)) &&& 1) = 1 then (1) else (mBlocked_L2 mh mp mr M set k_2 (i_2 + 1))) else (if (mh ((6 * (mp ((nI i_2) + 1).toNatClampNeg)) + (mp (nI i_2).toNatClampNeg)).toNatClampNeg) = 0 then (if ((set >>> ((mp (nI i_2).toNatClampNeg) &&& 31)) &&& 1) = 1 then (1) else (mBlocked_L2 mh mp mr M set k_2 (i_2 + 1))) else (if ((mr (mp (nI i_2).toNatClampNeg).toNatClampNeg) &&& set) = 0 then (1) else (mBlocked_L2 mh mp mr M set k_2 (i_2 + 1))))
def mBlocked (mh : Nat → Int32) (mp : Nat → Int32) (mr : Nat → Int32) (M : Nat) (set : Int32) : Int32 :=
  mBlocked_L2 mh mp mr M set ((M - 1) - 1) 1
def mOnPath_L5 (mp : Nat → Int32) (v : Int32) (M : Nat) : Nat → Nat → Int32 → Int32
  | 0, i_5, f_5 => f_5
  | k_5 + 1, i_5, f_5 => if f_5 = 0 then (if (mp (nI i_5).toNatClampNeg) = v then (mOnPath_L5 mp v M k_5 (i_5 + 1) 1) else (mOnPath_L5 mp v M k_5 (i_5 + 1) 0)) else (mOnPath_L5 mp v M k_5 (i_5 + 1) 1)
def mOnPath (mp : Nat → Int32) (v : Int32) (M : Nat) : Int32 :=
  mOnPath_L5 mp v M M 0 0
def mFind_L19 (n : Nat) (mh : Nat → Int32) (ml : Nat → Int32) (mg : Nat → Int32) (i_7 : Nat) (Q_7 : Nat) (ml_7 : Nat → Int32) (mg_7 : Nat → Int32) (kk : (Nat) → (Nat → Int32) → (Nat → Int32) → Nat × (Nat → Int32) × (Nat → Int32)) : Nat → Nat → Nat → (Nat → Int32) → (Nat → Int32) → Nat × (Nat → Int32) × (Nat → Int32)
  | 0, i_19, Q_19, ml_19, mg_19 => kk Q_19 ml_19 mg_19
  | k_19 + 1, i_19, Q_19, ml_19, mg_19 => if (mJoin mh (nI i_7) (nI i_19)) = 0 then (mFind_L19 n mh ml mg i_7 Q_7 ml_7 mg_7 kk k_19 (i_19 + 1) Q_19 ml_19 mg_19) else (mFind_L19 n mh ml mg i_7 Q_7 ml_7 mg_7 kk k_19 (i_19 + 1) (Q_19 + 1) (upd ml_19 (nI Q_19).toNatClampNeg (nI i_7)) (upd mg_19 (nI Q_19).toNatClampNeg (nI i_19)))
def mFind_L7 (n : Nat) (mh : Nat → Int32) (ml : Nat → Int32) (mg : Nat → Int32) : Nat → Nat → Nat → (Nat → Int32) → (Nat → Int32) → Nat × (Nat → Int32) × (Nat → Int32)
  | 0, i_7, Q_7, ml_7, mg_7 => (Q_7, ml_7, mg_7)
  | k_7 + 1, i_7, Q_7, ml_7, mg_7 => mFind_L19 n mh ml mg i_7 Q_7 ml_7 mg_7 (fun w0 w1 w2 => mFind_L7 n mh ml mg k_7 (i_7 + 1) w0 w1 w2) (n - (i_7 + 1)) (i_7 + 1) Q_7 ml_7 mg_7
def mFind (n : Nat) (mh : Nat → Int32) (ml : Nat → Int32) (mg : Nat → Int32) : Nat × (Nat → Int32) × (Nat → Int32) :=
  mFind_L7 n mh ml mg n 0 0 ml mg
def mDirect_L23 (mt : Nat → Int32) (ml : Nat → Int32) (mg : Nat → Int32) (Q : Nat) (way : Int32) (i_2 : Nat) (mt_2 : Nat → Int32) : Nat → Nat → (Nat → Int32) → (Nat → Int32)
  | 0, i_23, mt_23 => mt_23
  | k_23 + 1, i_23, mt_23 => if ((way >>> ((((nI Q) - 1) - (nI i_23)) &&& 31)) &&& 1) = 0 then (mDirect_L23 mt ml mg Q way i_2 mt_2 k_23 (i_23 + 1) (upd mt_23 ((6 * (ml (nI i_23).toNatClampNeg)) + (mg (nI i_23).toNatClampNeg)).toNatClampNeg (vp_nar .boolean 1))) else (mDirect_L23 mt ml mg Q way i_2 mt_2 k_23 (i_23 + 1) (upd mt_23 ((6 * (mg (nI i_23).toNatClampNeg)) + (ml (nI i_23).toNatClampNeg)).toNatClampNeg (vp_nar .boolean 1)))
def mDirect_L2 (mt : Nat → Int32) (ml : Nat → Int32) (mg : Nat → Int32) (Q : Nat) (way : Int32) : Nat → Nat → (Nat → Int32) → (Nat → Int32)
  | 0, i_2, mt_2 => mDirect_L23 mt ml mg Q way i_2 mt_2 Q 0 mt_2
  | k_2 + 1, i_2, mt_2 => mDirect_L2 mt ml mg Q way k_2 (i_2 + 1) (upd mt_2 (nI i_2).toNatClampNeg (vp_nar .boolean 0))
def mDirect (mt : Nat → Int32) (ml : Nat → Int32) (mg : Nat → Int32) (Q : Nat) (way : Int32) : (Nat → Int32) :=
  mDirect_L2 mt ml mg Q way 36 0 mt
def mRing_L33 (n : Nat) (mt : Nat → Int32) (i_11 : Nat) (le_11 : Int32) (i_19 : Nat) (le_19 : Int32) (kk : (Int32) → Int32) : Nat → Nat → Int32 → Int32
  | 0, i_33, ba_33 => if ba_33 = 0 then (kk le_19) else (kk (le_19 &&& ((1 <<< ((nI i_19) &&& 31)) ^^^ (-1))))
  | k_33 + 1, i_33, ba_33 => if ba_33 = 0 then (mRing_L33 n mt i_11 le_11 i_19 le_19 kk k_33 (i_33 + 1) 0) else (if (mt ((6 * (nI i_33)) + (nI i_19)).toNatClampNeg) = 0 then (mRing_L33 n mt i_11 le_11 i_19 le_19 kk k_33 (i_33 + 1) 1) else (if ((le_19 >>> ((nI i_33) &&& 31)) &&& 1) = 1 then (mRing_L33 n mt i_11 le_11 i_19 le_19 kk k_33 (i_33 + 1) 0) else (mRing_L33 n mt i_11 le_11 i_19 le_19 kk k_33 (i_33 + 1) 1)))
def mRing_L19 (n : Nat) (mt : Nat → Int32) (i_11 : Nat) (le_11 : Int32) (kk : (Int32) → Int32) : Nat → Nat → Int32 → Int32
  | 0, i_19, le_19 => kk le_19
  | k_19 + 1, i_19, le_19 => mRing_L33 n mt i_11 le_11 i_19 le_19 (fun w0 => mRing_L19 n mt i_11 le_11 kk k_19 (i_19 + 1) w0) n 0 1
def mRing_L11 (n : Nat) (mt : Nat → Int32) : Nat → Nat → Int32 → Int32
  | 0, i_11, le_11 => if le_11 = 0 then (0) else (1)
  | k_11 + 1, i_11, le_11 => mRing_L19 n mt i_11 le_11 (fun w0 => mRing_L11 n mt k_11 (i_11 + 1) w0) n 0 le_11
def mRing (n : Nat) (mt : Nat → Int32) : Int32 :=
  mRing_L11 n mt 6 0 ((1 <<< ((nI n) &&& 31)) - 1)
def mMember_L58 (n : Nat) (mh : Nat → Int32) (mk : Nat → Int32) (mt : Nat → Int32) (i_2 : Nat) (i_36 : Nat) (i_46 : Nat) (kk : Unit → Int32) : Nat → Nat → Int32
  | 0, i_58 => kk ()
  | k_58 + 1, i_58 => if (mColl1 mh (nI i_46) (nI i_36) (nI i_58)) = (mColl1 mt (nI i_46) (nI i_36) (nI i_58)) then (mMember_L58 n mh mk mt i_2 i_36 i_46 kk k_58 (i_58 + 1)) else (0)
def mMember_L46 (n : Nat) (mh : Nat → Int32) (mk : Nat → Int32) (mt : Nat → Int32) (i_2 : Nat) (i_36 : Nat) (kk : Unit → Int32) : Nat → Nat → Int32
  | 0, i_46 => kk ()
  | k_46 + 1, i_46 => mMember_L58 n mh mk mt i_2 i_36 i_46 (fun (_ : Unit) => mMember_L46 n mh mk mt i_2 i_36 kk k_46 (i_46 + 1)) (n - (i_46 + 1)) (i_46 + 1)
def mMember_L36 (n : Nat) (mh : Nat → Int32) (mk : Nat → Int32) (mt : Nat → Int32) (i_2 : Nat) : Nat → Nat → Int32
  | 0, i_36 => if (mRing n mt) = 0 then (1) else (0)
  | k_36 + 1, i_36 => mMember_L46 n mh mk mt i_2 i_36 (fun (_ : Unit) => mMember_L36 n mh mk mt i_2 k_36 (i_36 + 1)) n 0
def mMember_L2 (n : Nat) (mh : Nat → Int32) (mk : Nat → Int32) (mt : Nat → Int32) : Nat → Nat → Int32
  | 0, i_2 => mMember_L36 n mh mk mt i_2 n 0
  | k_2 + 1, i_2 => if (mk (nI i_2).toNatClampNeg) = 0 then (mMember_L2 n mh mk mt k_2 (i_2 + 1)) else (if (mt (nI i_2).toNatClampNeg) = 0 then (0) else (mMember_L2 n mh mk mt k_2 (i_2 + 1)))
def mMember (n : Nat) (mh : Nat → Int32) (mk : Nat → Int32) (mt : Nat → Int32) : Int32 :=
  mMember_L2 n mh mk mt 36 0
def mGo_L56 (n : Nat) (mh : Nat → Int32) (mk : Nat → Int32) (mt : Nat → Int32) (mv : Nat → Int32) (mb : Nat → Int32) (ml : Nat → Int32) (mg : Nat → Int32) (mc : Int32) (Q : Nat) (i_11 : Nat) (mv_11 : Nat → Int32) (i_32 : Nat) (mc_32 : Int32) (mv_32 : Nat → Int32) (mb_32 : Nat → Int32) (mt_32 : Nat → Int32) (kk : (Int32) → (Nat → Int32) → (Nat → Int32) → (Nat → Int32) → Nat × (Nat → Int32) × (Nat → Int32) × Int32 × (Nat → Int32) × (Nat → Int32) × (Nat → Int32)) : Nat → Nat → (Nat → Int32) → (Nat → Int32) → Nat × (Nat → Int32) × (Nat → Int32) × Int32 × (Nat → Int32) × (Nat → Int32) × (Nat → Int32)
  | 0, i_56, mv_56, mb_56 => kk (mc_32 + 1) mv_56 mb_56 (mDirect mt_32 ((mFind n mh ml mg).2.1) ((mFind n mh ml mg).2.2) ((mFind n mh ml mg).1) (nI i_32))
  | k_56 + 1, i_56, mv_56, mb_56 => if mc_32 = 0 then (if ((mDirect mt_32 ((mFind n mh ml mg).2.1) ((mFind n mh ml mg).2.2) ((mFind n mh ml mg).1) (nI i_32)) (nI i_56).toNatClampNeg) = 0 then (mGo_L56 n mh mk mt mv mb ml mg mc Q i_11 mv_11 i_32 mc_32 mv_32 mb_32 mt_32 kk k_56 (i_56 + 1) (upd mv_56 (nI i_56).toNatClampNeg (mv_56 (nI i_56).toNatClampNeg)) (upd mb_56 (nI i_56).toNatClampNeg (vp_nar .boolean ((mDirect mt_32 ((mFind n mh ml mg).2.1) ((mFind n mh ml mg).2.2) ((mFind n mh ml mg).1) (nI i_32)) (nI i_56).toNatClampNeg)))) else (mGo_L56 n mh mk mt mv mb ml mg mc Q i_11 mv_11 i_32 mc_32 mv_32 mb_32 mt_32 kk k_56 (i_56 + 1) (upd mv_56 (nI i_56).toNatClampNeg ((mv_56 (nI i_56).toNatClampNeg) + 1)) (upd mb_56 (nI i_56).toNatClampNeg (vp_nar .boolean ((mDirect mt_32 ((mFind n mh ml mg).2.1) ((mFind n mh ml mg).2.2) ((mFind n mh ml mg).1) (nI i_32)) (nI i_56).toNatClampNeg))))) else (if ((mDirect mt_32 ((mFind n mh ml mg).2.1) ((mFind n mh ml mg).2.2) ((mFind n mh ml mg).1) (nI i_32)) (nI i_56).toNatClampNeg) = 0 then (mGo_L56 n mh mk mt mv mb ml mg mc Q i_11 mv_11 i_32 mc_32 mv_32 mb_32 mt_32 kk k_56 (i_56 + 1) (upd mv_56 (nI i_56).toNatClampNeg (mv_56 (nI i_56).toNatClampNeg)) (upd mb_56 (nI i_56).toNatClampNeg (vp_nar .boolean (mb_56 (nI i_56).toNatClampNeg)))) else (mGo_L56 n mh mk mt mv mb ml mg mc Q i_11 mv_11 i_32 mc_32 mv_32 mb_32 mt_32 kk k_56 (i_56 + 1) (upd mv_56 (nI i_56).toNatClampNeg ((mv_56 (nI i_56).toNatClampNeg) + 1)) (upd mb_56 (nI i_56).toNatClampNeg (vp_nar .boolean (mb_56 (nI i_56).toNatClampNeg)))))
def mGo_L32 (n : Nat) (mh : Nat → Int32) (mk : Nat → Int32) (mt : Nat → Int32) (mv : Nat → Int32) (mb : Nat → Int32) (ml : Nat → Int32) (mg : Nat → Int32) (mc : Int32) (Q : Nat) (i_11 : Nat) (mv_11 : Nat → Int32) : Nat → Nat → Int32 → (Nat → Int32) → (Nat → Int32) → (Nat → Int32) → Nat × (Nat → Int32) × (Nat → Int32) × Int32 × (Nat → Int32) × (Nat → Int32) × (Nat → Int32)
  | 0, i_32, mc_32, mv_32, mb_32, mt_32 => (((mFind n mh ml mg).1), (mFind n mh ml mg).2.1, (mFind n mh ml mg).2.2, mc_32, mv_32, mt_32, mb_32)
  | k_32 + 1, i_32, mc_32, mv_32, mb_32, mt_32 => if (mMember n mh mk (mDirect mt_32 ((mFind n mh ml mg).2.1) ((mFind n mh ml mg).2.2) ((mFind n mh ml mg).1) (nI i_32))) = 0 then (mGo_L32 n mh mk mt mv mb ml mg mc Q i_11 mv_11 k_32 (i_32 + 1) mc_32 mv_32 mb_32 (mDirect mt_32 ((mFind n mh ml mg).2.1) ((mFind n mh ml mg).2.2) ((mFind n mh ml mg).1) (nI i_32))) else (mGo_L56 n mh mk mt mv mb ml mg mc Q i_11 mv_11 i_32 mc_32 mv_32 mb_32 mt_32 (fun w0 w1 w2 w3 => mGo_L32 n mh mk mt mv mb ml mg mc Q i_11 mv_11 k_32 (i_32 + 1) w0 w1 w2 w3) 36 0 mv_32 mb_32)
def mGo_L11 (n : Nat) (mh : Nat → Int32) (mk : Nat → Int32) (mt : Nat → Int32) (mv : Nat → Int32) (mb : Nat → Int32) (ml : Nat → Int32) (mg : Nat → Int32) (mc : Int32) (Q : Nat) : Nat → Nat → (Nat → Int32) → Nat × (Nat → Int32) × (Nat → Int32) × Int32 × (Nat → Int32) × (Nat → Int32) × (Nat → Int32)
  | 0, i_11, mv_11 => mGo_L32 n mh mk mt mv mb ml mg mc Q i_11 mv_11 (2 ^ (mFind n mh ml mg).1) 0 0 mv_11 mb mt
  | k_11 + 1, i_11, mv_11 => mGo_L11 n mh mk mt mv mb ml mg mc Q k_11 (i_11 + 1) (upd mv_11 (nI i_11).toNatClampNeg 0)
def mGo (n : Nat) (mh : Nat → Int32) (mk : Nat → Int32) (mt : Nat → Int32) (mv : Nat → Int32) (mb : Nat → Int32) (ml : Nat → Int32) (mg : Nat → Int32) (mc : Int32) (Q : Nat) : Nat × (Nat → Int32) × (Nat → Int32) × Int32 × (Nat → Int32) × (Nat → Int32) × (Nat → Int32) :=
  mGo_L11 n mh mk mt mv mb ml mg mc Q 36 0 mv
def mEdge (n : Nat) (mh : Nat → Int32) (mk : Nat → Int32) (mt : Nat → Int32) (mv : Nat → Int32) (mb : Nat → Int32) (ml : Nat → Int32) (mg : Nat → Int32) (mc : Int32) (Q : Nat) (u : Int32) (v : Int32) : Int32 × Nat × (Nat → Int32) × (Nat → Int32) × Int32 × (Nat → Int32) × (Nat → Int32) × (Nat → Int32) :=
  if (mPair n u v) = 0 then ((0, Q, ml, mg, mc, mv, mt, mb)) else (if (mJoin mh u v) = 0 then ((0, Q, ml, mg, mc, mv, mt, mb)) else (if (((mGo n mh mk mt mv mb ml mg mc Q).2.2.2.2.1) ((6 * u) + v).toNatClampNeg) = ((mGo n mh mk mt mv mb ml mg mc Q).2.2.2.1) then ((1, ((mGo n mh mk mt mv mb ml mg mc Q).1), (mGo n mh mk mt mv mb ml mg mc Q).2.1, (mGo n mh mk mt mv mb ml mg mc Q).2.2.1, (mGo n mh mk mt mv mb ml mg mc Q).2.2.2.1, (mGo n mh mk mt mv mb ml mg mc Q).2.2.2.2.1, (mGo n mh mk mt mv mb ml mg mc Q).2.2.2.2.2.1, (mGo n mh mk mt mv mb ml mg mc Q).2.2.2.2.2.2)) else (if (((mGo n mh mk mt mv mb ml mg mc Q).2.2.2.2.1) ((6 * v) + u).toNatClampNeg) = ((mGo n mh mk mt mv mb ml mg mc Q).2.2.2.1) then ((2, ((mGo n mh mk mt mv mb ml mg mc Q).1), (mGo n mh mk mt mv mb ml mg mc Q).2.1, (mGo n mh mk mt mv mb ml mg mc Q).2.2.1, (mGo n mh mk mt mv mb ml mg mc Q).2.2.2.1, (mGo n mh mk mt mv mb ml mg mc Q).2.2.2.2.1, (mGo n mh mk mt mv mb ml mg mc Q).2.2.2.2.2.1, (mGo n mh mk mt mv mb ml mg mc Q).2.2.2.2.2.2)) else ((3, ((mGo n mh mk mt mv mb ml mg mc Q).1), (mGo n mh mk mt mv mb ml mg mc Q).2.1, (mGo n mh mk mt mv mb ml mg mc Q).2.2.1, (mGo n mh mk mt mv mb ml mg mc Q).2.2.2.1, (mGo n mh mk mt mv mb ml mg mc Q).2.2.2.2.1, (mGo n mh mk mt mv mb ml mg mc Q).2.2.2.2.2.1, (mGo n mh mk mt mv mb ml mg mc Q).2.2.2.2.2.2)))))
def mLoose_L8 (n : Nat) (mh : Nat → Int32) (mk : Nat → Int32) (mt : Nat → Int32) (mv : Nat → Int32) (mb : Nat → Int32) (ml : Nat → Int32) (mg : Nat → Int32) (mc : Int32) (Q : Nat) : Nat → Nat → Int32 → Int32 × Nat × (Nat → Int32) × (Nat → Int32) × Int32 × (Nat → Int32) × (Nat → Int32) × (Nat → Int32)
  | 0, i_8, c_8 => (c_8, ((mGo n mh mk mt mv mb ml mg mc Q).1), (mGo n mh mk mt mv mb ml mg mc Q).2.1, (mGo n mh mk mt mv mb ml mg mc Q).2.2.1, (mGo n mh mk mt mv mb ml mg mc Q).2.2.2.1, (mGo n mh mk mt mv mb ml mg mc Q).2.2.2.2.1, (mGo n mh mk mt mv mb ml mg mc Q).2.2.2.2.2.1, (mGo n mh mk mt mv mb ml mg mc Q).2.2.2.2.2.2)
  | k_8 + 1, i_8, c_8 => if (((mGo n mh mk mt mv mb ml mg mc Q).2.2.2.2.1) ((6 * (((mGo n mh mk mt mv mb ml mg mc Q).2.1) (nI i_8).toNatClampNeg)) + (((mGo n mh mk mt mv mb ml mg mc Q).2.2.1) (nI i_8).toNatClampNeg)).toNatClampNeg) ≤ 0 then (mLoose_L8 n mh mk mt mv mb ml mg mc Q k_8 (i_8 + 1) c_8) else (if ((mGo n mh mk mt mv mb ml mg mc Q).2.2.2.1) ≤ (((mGo n mh mk mt mv mb ml mg mc Q).2.2.2.2.1) ((6 * (((mGo n mh mk mt mv mb ml mg mc Q).2.1) (nI i_8).toNatClampNeg)) + (((mGo n mh mk mt mv mb ml mg mc Q).2.2.1) (nI i_8).toNatClampNeg)).toNatClampNeg) then (mLoose_L8 n mh mk mt mv mb ml mg mc Q k_8 (i_8 + 1) c_8) else (mLoose_L8 n mh mk mt mv mb ml mg mc Q k_8 (i_8 + 1) (c_8 + 1)))
def mLoose (n : Nat) (mh : Nat → Int32) (mk : Nat → Int32) (mt : Nat → Int32) (mv : Nat → Int32) (mb : Nat → Int32) (ml : Nat → Int32) (mg : Nat → Int32) (mc : Int32) (Q : Nat) : Int32 × Nat × (Nat → Int32) × (Nat → Int32) × Int32 × (Nat → Int32) × (Nat → Int32) × (Nat → Int32) :=
  mLoose_L8 n mh mk mt mv mb ml mg mc Q ((mGo n mh mk mt mv mb ml mg mc Q).1) 0 0
def mKnow (n : Nat) (mh : Nat → Int32) (mk : Nat → Int32) (mt : Nat → Int32) (mv : Nat → Int32) (mb : Nat → Int32) (ml : Nat → Int32) (mg : Nat → Int32) (mc : Int32) (Q : Nat) (u : Int32) (v : Int32) : Int32 × (Nat → Int32) × Nat × (Nat → Int32) × (Nat → Int32) × Int32 × (Nat → Int32) × (Nat → Int32) × (Nat → Int32) :=
  if (mPair n u v) = 0 then ((0, mk, Q, ml, mg, mc, mv, mt, mb)) else (if (((mGo n mh mk mt mv mb ml mg mc Q).2.2.2.2.1) ((6 * u) + v).toNatClampNeg) = 0 then ((0, mk, ((mGo n mh mk mt mv mb ml mg mc Q).1), (mGo n mh mk mt mv mb ml mg mc Q).2.1, (mGo n mh mk mt mv mb ml mg mc Q).2.2.1, (mGo n mh mk mt mv mb ml mg mc Q).2.2.2.1, (mGo n mh mk mt mv mb ml mg mc Q).2.2.2.2.1, (mGo n mh mk mt mv mb ml mg mc Q).2.2.2.2.2.1, (mGo n mh mk mt mv mb ml mg mc Q).2.2.2.2.2.2)) else ((1, upd mk ((6 * u) + v).toNatClampNeg (vp_nar .boolean 1), ((mGo n mh mk mt mv mb ml mg mc Q).1), (mGo n mh mk mt mv mb ml mg mc Q).2.1, (mGo n mh mk mt mv mb ml mg mc Q).2.2.1, (mGo n mh mk mt mv mb ml mg mc Q).2.2.2.1, (mGo n mh mk mt mv mb ml mg mc Q).2.2.2.2.1, (mGo n mh mk mt mv mb ml mg mc Q).2.2.2.2.2.1, (mGo n mh mk mt mv mb ml mg mc Q).2.2.2.2.2.2)))
def mForget_L4 (mk : Nat → Int32) : Nat → Nat → Int32 → Int32 × (Nat → Int32)
  | 0, i_4, c_4 => (c_4, (mForgetAll mk))
  | k_4 + 1, i_4, c_4 => if (mk (nI i_4).toNatClampNeg) = 0 then (mForget_L4 mk k_4 (i_4 + 1) c_4) else (mForget_L4 mk k_4 (i_4 + 1) (c_4 + 1))
def mForget (mk : Nat → Int32) : Int32 × (Nat → Int32) :=
  mForget_L4 mk 36 0 0
def mMembers (n : Nat) (mh : Nat → Int32) (mk : Nat → Int32) (mt : Nat → Int32) (mv : Nat → Int32) (mb : Nat → Int32) (ml : Nat → Int32) (mg : Nat → Int32) (mc : Int32) (Q : Nat) : Int32 × Nat × (Nat → Int32) × (Nat → Int32) × Int32 × (Nat → Int32) × (Nat → Int32) × (Nat → Int32) :=
  ((mGo n mh mk mt mv mb ml mg mc Q).2.2.2.1, ((mGo n mh mk mt mv mb ml mg mc Q).1), (mGo n mh mk mt mv mb ml mg mc Q).2.1, (mGo n mh mk mt mv mb ml mg mc Q).2.2.1, (mGo n mh mk mt mv mb ml mg mc Q).2.2.2.1, (mGo n mh mk mt mv mb ml mg mc Q).2.2.2.2.1, (mGo n mh mk mt mv mb ml mg mc Q).2.2.2.2.2.1, (mGo n mh mk mt mv mb ml mg mc Q).2.2.2.2.2.2)
def mFirst (n : Nat) (mh : Nat → Int32) (mk : Nat → Int32) (mt : Nat → Int32) (mv : Nat → Int32) (mb : Nat → Int32) (ml : Nat → Int32) (mg : Nat → Int32) (mc : Int32) (Q : Nat) (u : Int32) (v : Int32) : Int32 × Nat × (Nat → Int32) × (Nat → Int32) × Int32 × (Nat → Int32) × (Nat → Int32) × (Nat → Int32) :=
  if (mPair n u v) = 0 then ((0, Q, ml, mg, mc, mv, mt, mb)) else ((((mGo n mh mk mt mv mb ml mg mc Q).2.2.2.2.2.2) ((6 * u) + v).toNatClampNeg, ((mGo n mh mk mt mv mb ml mg mc Q).1), (mGo n mh mk mt mv mb ml mg mc Q).2.1, (mGo n mh mk mt mv mb ml mg mc Q).2.2.1, (mGo n mh mk mt mv mb ml mg mc Q).2.2.2.1, (mGo n mh mk mt mv mb ml mg mc Q).2.2.2.2.1, (mGo n mh mk mt mv mb ml mg mc Q).2.2.2.2.2.1, (mGo n mh mk mt mv mb ml mg mc Q).2.2.2.2.2.2))
def mTurned_L18 (n : Nat) (mh : Nat → Int32) (mk : Nat → Int32) (mt : Nat → Int32) (mv : Nat → Int32) (mb : Nat → Int32) (ml : Nat → Int32) (mg : Nat → Int32) (mc : Int32) (Q : Nat) (i_8 : Nat) (c_8 : Int32) (kk : (Int32) → Int32 × Nat × (Nat → Int32) × (Nat → Int32) × Int32 × (Nat → Int32) × (Nat → Int32) × (Nat → Int32)) : Nat → Nat → Int32 → Int32 × Nat × (Nat → Int32) × (Nat → Int32) × Int32 × (Nat → Int32) × (Nat → Int32) × (Nat → Int32)
  | 0, i_18, c_18 => kk c_18
  | k_18 + 1, i_18, c_18 => if (mh ((6 * (nI i_8)) + (nI i_18)).toNatClampNeg) = 0 then (mTurned_L18 n mh mk mt mv mb ml mg mc Q i_8 c_8 kk k_18 (i_18 + 1) c_18) else (if (((mGo n mh mk mt mv mb ml mg mc Q).2.2.2.2.2.2) ((6 * (nI i_18)) + (nI i_8)).toNatClampNeg) = 0 then (mTurned_L18 n mh mk mt mv mb ml mg mc Q i_8 c_8 kk k_18 (i_18 + 1) c_18) else (mTurned_L18 n mh mk mt mv mb ml mg mc Q i_8 c_8 kk k_18 (i_18 + 1) (c_18 + 1)))
def mTurned_L8 (n : Nat) (mh : Nat → Int32) (mk : Nat → Int32) (mt : Nat → Int32) (mv : Nat → Int32) (mb : Nat → Int32) (ml : Nat → Int32) (mg : Nat → Int32) (mc : Int32) (Q : Nat) : Nat → Nat → Int32 → Int32 × Nat × (Nat → Int32) × (Nat → Int32) × Int32 × (Nat → Int32) × (Nat → Int32) × (Nat → Int32)
  | 0, i_8, c_8 => (c_8, ((mGo n mh mk mt mv mb ml mg mc Q).1), (mGo n mh mk mt mv mb ml mg mc Q).2.1, (mGo n mh mk mt mv mb ml mg mc Q).2.2.1, (mGo n mh mk mt mv mb ml mg mc Q).2.2.2.1, (mGo n mh mk mt mv mb ml mg mc Q).2.2.2.2.1, (mGo n mh mk mt mv mb ml mg mc Q).2.2.2.2.2.1, (mGo n mh mk mt mv mb ml mg mc Q).2.2.2.2.2.2)
  | k_8 + 1, i_8, c_8 => mTurned_L18 n mh mk mt mv mb ml mg mc Q i_8 c_8 (fun w0 => mTurned_L8 n mh mk mt mv mb ml mg mc Q k_8 (i_8 + 1) w0) n 0 c_8
def mTurned (n : Nat) (mh : Nat → Int32) (mk : Nat → Int32) (mt : Nat → Int32) (mv : Nat → Int32) (mb : Nat → Int32) (ml : Nat → Int32) (mg : Nat → Int32) (mc : Int32) (Q : Nat) : Int32 × Nat × (Nat → Int32) × (Nat → Int32) × Int32 × (Nat → Int32) × (Nat → Int32) × (Nat → Int32) :=
  mTurned_L8 n mh mk mt mv mb ml mg mc Q n 0 0
def mAll_L48 (n : Nat) (mh : Nat → Int32) (mp : Nat → Int32) (mx : Nat → Int32) (mr : Nat → Int32) (x0 : Int32) (y0 : Int32) (set : Int32) (K : Nat) (i_3 : Nat) (mr_3 : Nat → Int32) : Nat → Nat → (Nat → Int32) → (Nat → Int32) → Option (Int32 × (Nat → Int32) × (Nat → Int32) × (Nat → Int32))
  | 0, M_48, mp_48, mx_48 => none
  | k_48 + 1, M_48, mp_48, mx_48 => if (nI M_48) ≤ 0 then (some (1, mp_48, mx_48, mr_3)) else (if (mx_48 ((nI M_48) - 1).toNatClampNeg) = (nI n) then (if (mp_48 ((nI M_48) - 1).toNatClampNeg) = y0 then (if (mBlocked mh mp_48 mr_3 M_48 set) = 0 then (some (0, mp_48, mx_48, mr_3)) else (mAll_L48 n mh mp mx mr x0 y0 set K i_3 mr_3 k_48 (M_48 - 1) mp_48 mx_48)) else (mAll_L48 n mh mp mx mr x0 y0 set K i_3 mr_3 k_48 (M_48 - 1) mp_48 mx_48)) else (if (mp_48 ((nI M_48) - 1).toNatClampNeg) = y0 then (if (mBlocked mh mp_48 mr_3 M_48 set) = 0 then (some (0, mp_48, mx_48, mr_3)) else (mAll_L48 n mh mp mx mr x0 y0 set K i_3 mr_3 k_48 (M_48 - 1) mp_48 mx_48)) else (if (mJoin mh (mp_48 ((nI M_48) - 1).toNatClampNeg) (mx_48 ((nI M_48) - 1).toNatClampNeg)) = 0 then (mAll_L48 n mh mp mx mr x0 y0 set K i_3 mr_3 k_48 M_48 mp_48 (upd mx_48 ((nI M_48) - 1).toNatClampNeg ((mx_48 ((nI M_48) - 1).toNatClampNeg) + 1))) else (if (mOnPath mp_48 (mx_48 ((nI M_48) - 1).toNatClampNeg) M_48) = 0 then (mAll_L48 n mh mp mx mr x0 y0 set K i_3 mr_3 k_48 (M_48 + 1) (upd mp_48 (nI M_48).toNatClampNeg (mx_48 ((nI M_48) - 1).toNatClampNeg)) (upd (upd mx_48 ((nI M_48) - 1).toNatClampNeg ((mx_48 ((nI M_48) - 1).toNatClampNeg) + 1)) (nI M_48).toNatClampNeg 0)) else (mAll_L48 n mh mp mx mr x0 y0 set K i_3 mr_3 k_48 M_48 mp_48 (upd mx_48 ((nI M_48) - 1).toNatClampNeg ((mx_48 ((nI M_48) - 1).toNatClampNeg) + 1)))))))
def mAll_L3 (n : Nat) (mh : Nat → Int32) (mp : Nat → Int32) (mx : Nat → Int32) (mr : Nat → Int32) (x0 : Int32) (y0 : Int32) (set : Int32) (K : Nat) : Nat → Nat → (Nat → Int32) → Option (Int32 × (Nat → Int32) × (Nat → Int32) × (Nat → Int32))
  | 0, i_3, mr_3 => mAll_L48 n mh mp mx mr x0 y0 set K i_3 mr_3 K 1 (upd mp (0 : Int32).toNatClampNeg x0) (upd mx (0 : Int32).toNatClampNeg 0)
  | k_3 + 1, i_3, mr_3 => mAll_L3 n mh mp mx mr x0 y0 set K k_3 (i_3 + 1) (upd mr_3 (nI i_3).toNatClampNeg (mReach n mh (nI i_3)))
def mAll (n : Nat) (mh : Nat → Int32) (mp : Nat → Int32) (mx : Nat → Int32) (mr : Nat → Int32) (x0 : Int32) (y0 : Int32) (set : Int32) (K : Nat) : Option (Int32 × (Nat → Int32) × (Nat → Int32) × (Nat → Int32)) :=
  mAll_L3 n mh mp mx mr x0 y0 set K n 0 mr
noncomputable def mAllT (n : Nat) (mh mp mx mr : Nat → Int32) (x0 y0 set : Int32) : Int32 × (Nat → Int32) × (Nat → Int32) × (Nat → Int32) := Classical.epsilon (fun rr => ∃ K, mAll n mh mp mx mr x0 y0 set K = some rr)
noncomputable def mSep (n : Nat) (mh : Nat → Int32) (mp : Nat → Int32) (mx : Nat → Int32) (mr : Nat → Int32) (x0 : Int32) (y0 : Int32) (set : Int32) : Int32 × (Nat → Int32) × (Nat → Int32) × (Nat → Int32) :=
  if (mPair n x0 y0) = 0 then ((0, mp, mx, mr)) else (if set < 0 then ((0, mp, mx, mr)) else (if (1 <<< ((nI n) &&& 31)) ≤ set then ((0, mp, mx, mr)) else (if ((set >>> (x0 &&& 31)) &&& 1) = 1 then ((0, mp, mx, mr)) else (if ((set >>> (y0 &&& 31)) &&& 1) = 1 then ((0, mp, mx, mr)) else (((mAllT n mh mp mx mr x0 y0 set).1, (mAllT n mh mp mx mr x0 y0 set).2.1, (mAllT n mh mp mx mr x0 y0 set).2.2.1, (mAllT n mh mp mx mr x0 y0 set).2.2.2))))))
noncomputable def mSepr_L24 (n : Nat) (mh : Nat → Int32) (mp : Nat → Int32) (mx : Nat → Int32) (mr : Nat → Int32) (x0 : Int32) (y0 : Int32) (i_13 : Nat) (mp_13 : Nat → Int32) (mx_13 : Nat → Int32) (mr_13 : Nat → Int32) (kk : (Nat → Int32) → (Nat → Int32) → (Nat → Int32) → Int32 × (Nat → Int32) × (Nat → Int32) × (Nat → Int32)) : Nat → Nat → (Nat → Int32) → (Nat → Int32) → (Nat → Int32) → Int32 × (Nat → Int32) × (Nat → Int32) × (Nat → Int32)
  | 0, i_24, mp_24, mx_24, mr_24 => kk mp_24 mx_24 mr_24
  | k_24 + 1, i_24, mp_24, mx_24, mr_24 => if (mSize (nI i_24)) = (nI i_13) then (if ((mSep n mh mp_24 mx_24 mr_24 x0 y0 (nI i_24)).1) = 0 then (mSepr_L24 n mh mp mx mr x0 y0 i_13 mp_13 mx_13 mr_13 kk k_24 (i_24 + 1) ((mSep n mh mp_24 mx_24 mr_24 x0 y0 (nI i_24)).2.1) ((mSep n mh mp_24 mx_24 mr_24 x0 y0 (nI i_24)).2.2.1) ((mSep n mh mp_24 mx_24 mr_24 x0 y0 (nI i_24)).2.2.2)) else ((nI i_24, (mSep n mh mp_24 mx_24 mr_24 x0 y0 (nI i_24)).2.1, (mSep n mh mp_24 mx_24 mr_24 x0 y0 (nI i_24)).2.2.1, (mSep n mh mp_24 mx_24 mr_24 x0 y0 (nI i_24)).2.2.2))) else (mSepr_L24 n mh mp mx mr x0 y0 i_13 mp_13 mx_13 mr_13 kk k_24 (i_24 + 1) mp_24 mx_24 mr_24)
noncomputable def mSepr_L13 (n : Nat) (mh : Nat → Int32) (mp : Nat → Int32) (mx : Nat → Int32) (mr : Nat → Int32) (x0 : Int32) (y0 : Int32) : Nat → Nat → (Nat → Int32) → (Nat → Int32) → (Nat → Int32) → Int32 × (Nat → Int32) × (Nat → Int32) × (Nat → Int32)
  | 0, i_13, mp_13, mx_13, mr_13 => (-1, mp_13, mx_13, mr_13)
  | k_13 + 1, i_13, mp_13, mx_13, mr_13 => mSepr_L24 n mh mp mx mr x0 y0 i_13 mp_13 mx_13 mr_13 (fun w0 w1 w2 => mSepr_L13 n mh mp mx mr x0 y0 k_13 (i_13 + 1) w0 w1 w2) (2 ^ n) 0 mp_13 mx_13 mr_13
noncomputable def mSepr (n : Nat) (mh : Nat → Int32) (mp : Nat → Int32) (mx : Nat → Int32) (mr : Nat → Int32) (x0 : Int32) (y0 : Int32) : Int32 × (Nat → Int32) × (Nat → Int32) × (Nat → Int32) :=
  if (mPair n x0 y0) = 0 then ((-1, mp, mx, mr)) else (mSepr_L13 n mh mp mx mr x0 y0 (n + 1) 0 mp mx mr)
noncomputable def mSeps_L27 (n : Nat) (mh : Nat → Int32) (mp : Nat → Int32) (mx : Nat → Int32) (mr : Nat → Int32) (i_4 : Nat) (c_4 : Int32) (mp_4 : Nat → Int32) (mx_4 : Nat → Int32) (mr_4 : Nat → Int32) (i_16 : Nat) (c_16 : Int32) (mp_16 : Nat → Int32) (mx_16 : Nat → Int32) (mr_16 : Nat → Int32) (kk : (Int32) → (Nat → Int32) → (Nat → Int32) → (Nat → Int32) → Int32 × (Nat → Int32) × (Nat → Int32) × (Nat → Int32)) : Nat → Nat → Int32 → (Nat → Int32) → (Nat → Int32) → (Nat → Int32) → Int32 × (Nat → Int32) × (Nat → Int32) × (Nat → Int32)
  | 0, i_27, c_27, mp_27, mx_27, mr_27 => kk c_27 mp_27 mx_27 mr_27
  | k_27 + 1, i_27, c_27, mp_27, mx_27, mr_27 => if ((mSep n mh mp_27 mx_27 mr_27 (nI i_4) (nI i_16) (nI i_27)).1) = 0 then (mSeps_L27 n mh mp mx mr i_4 c_4 mp_4 mx_4 mr_4 i_16 c_16 mp_16 mx_16 mr_16 kk k_27 (i_27 + 1) c_27 ((mSep n mh mp_27 mx_27 mr_27 (nI i_4) (nI i_16) (nI i_27)).2.1) ((mSep n mh mp_27 mx_27 mr_27 (nI i_4) (nI i_16) (nI i_27)).2.2.1) ((mSep n mh mp_27 mx_27 mr_27 (nI i_4) (nI i_16) (nI i_27)).2.2.2)) else (mSeps_L27 n mh mp mx mr i_4 c_4 mp_4 mx_4 mr_4 i_16 c_16 mp_16 mx_16 mr_16 kk k_27 (i_27 + 1) (c_27 + 1) ((mSep n mh mp_27 mx_27 mr_27 (nI i_4) (nI i_16) (nI i_27)).2.1) ((mSep n mh mp_27 mx_27 mr_27 (nI i_4) (nI i_16) (nI i_27)).2.2.1) ((mSep n mh mp_27 mx_27 mr_27 (nI i_4) (nI i_16) (nI i_27)).2.2.2))
noncomputable def mSeps_L16 (n : Nat) (mh : Nat → Int32) (mp : Nat → Int32) (mx : Nat → Int32) (mr : Nat → Int32) (i_4 : Nat) (c_4 : Int32) (mp_4 : Nat → Int32) (mx_4 : Nat → Int32) (mr_4 : Nat → Int32) (kk : (Int32) → (Nat → Int32) → (Nat → Int32) → (Nat → Int32) → Int32 × (Nat → Int32) × (Nat → Int32) × (Nat → Int32)) : Nat → Nat → Int32 → (Nat → Int32) → (Nat → Int32) → (Nat → Int32) → Int32 × (Nat → Int32) × (Nat → Int32) × (Nat → Int32)
  | 0, i_16, c_16, mp_16, mx_16, mr_16 => kk c_16 mp_16 mx_16 mr_16
  | k_16 + 1, i_16, c_16, mp_16, mx_16, mr_16 => mSeps_L27 n mh mp mx mr i_4 c_4 mp_4 mx_4 mr_4 i_16 c_16 mp_16 mx_16 mr_16 (fun w0 w1 w2 w3 => mSeps_L16 n mh mp mx mr i_4 c_4 mp_4 mx_4 mr_4 kk k_16 (i_16 + 1) w0 w1 w2 w3) (2 ^ n) 0 c_16 mp_16 mx_16 mr_16
noncomputable def mSeps_L4 (n : Nat) (mh : Nat → Int32) (mp : Nat → Int32) (mx : Nat → Int32) (mr : Nat → Int32) : Nat → Nat → Int32 → (Nat → Int32) → (Nat → Int32) → (Nat → Int32) → Int32 × (Nat → Int32) × (Nat → Int32) × (Nat → Int32)
  | 0, i_4, c_4, mp_4, mx_4, mr_4 => (c_4, mp_4, mx_4, mr_4)
  | k_4 + 1, i_4, c_4, mp_4, mx_4, mr_4 => mSeps_L16 n mh mp mx mr i_4 c_4 mp_4 mx_4 mr_4 (fun w0 w1 w2 w3 => mSeps_L4 n mh mp mx mr k_4 (i_4 + 1) w0 w1 w2 w3) (n - (i_4 + 1)) (i_4 + 1) c_4 mp_4 mx_4 mr_4
noncomputable def mSeps (n : Nat) (mh : Nat → Int32) (mp : Nat → Int32) (mx : Nat → Int32) (mr : Nat → Int32) : Int32 × (Nat → Int32) × (Nat → Int32) × (Nat → Int32) :=
  mSeps_L4 n mh mp mx mr n 0 0 mp mx mr
end
section
/-! what the walks need of the pure functions -/
theorem hz_holds (a b : Int32) : hHolds a b = 0 ∨ hHolds a b = 1 := by
  unfold hHolds
  by_cases h : (a >>> (b &&& 31)) &&& 1 = 0
  · rw [if_pos h]; exact Or.inl rfl
  · rw [if_neg h]; exact Or.inr rfl
theorem xNode_in {n : Nat} {v : Int32} (hn : n ≤ 6) (h : ¬ xNode n v = 0) : vp_in v n := by
  unfold xNode at h
  rcases pk_ix v (n := n) (by omega) with a | a | ⟨j, hj, rfl⟩
  · rw [if_pos a] at h; exact absurd rfl h
  · by_cases b : v < 0
    · rw [if_pos b] at h; exact absurd rfl h
    · rw [if_neg b, if_pos a] at h; exact absurd rfl h
  · exact vp_in_nI hj (by omega)
theorem xPair_in {n : Nat} {u v : Int32} (hn : n ≤ 6) (h : ¬ xPair n u v = 0) : vp_in u n ∧ vp_in v n ∧ u ≠ v := by
  unfold xPair at h
  by_cases a : xNode n u = 0
  · rw [if_pos a] at h; exact absurd rfl h
  · by_cases b : xNode n v = 0
    · rw [if_neg a, if_pos b] at h; exact absurd rfl h
    · by_cases c : u = v
      · rw [if_neg a, if_neg b, if_pos c] at h; exact absurd rfl h
      · exact ⟨xNode_in hn a, xNode_in hn b, c⟩
theorem xDrawn_in {n : Nat} {fp : Nat → Int32} {u v : Int32} (hn : n ≤ 6) (h : ¬ xDrawn n fp u v = 0) : vp_in u n ∧ vp_in v n ∧ u ≠ v := by
  refine xPair_in hn (fun a => ?_)
  unfold xDrawn at h
  rw [if_pos a] at h; exact absurd rfl h
end
section
/-! what the reference's walks need of the pure functions -/
theorem mNode_in {n : Nat} {v : Int32} (hn : n ≤ 6) (h : ¬ mNode n v = 0) : vp_in v n := xNode_in hn h
theorem mPair_in {n : Nat} {u v : Int32} (hn : n ≤ 6) (h : ¬ mPair n u v = 0) : vp_in u n ∧ vp_in v n ∧ u ≠ v := xPair_in hn h
/-! the joined pairs, as the reference goes through them -/
def plI (mh : Nat → Int32) (u : Nat) : Nat → Nat → List (Nat × Nat)
  | 0, _ => []
  | k + 1, i => if mJoin mh (nI u) (nI i) = 0 then plI mh u k (i + 1) else (u, i) :: plI mh u k (i + 1)
def plO (mh : Nat → Int32) (n : Nat) : Nat → Nat → List (Nat × Nat)
  | 0, _ => []
  | k + 1, i => plI mh i (n - (i + 1)) (i + 1) ++ plO mh n k (i + 1)
def jcI (mh : Nat → Int32) (u : Nat) : Nat → Nat → Nat
  | 0, _ => 0
  | k + 1, i => (if mJoin mh (nI u) (nI i) = 0 then 0 else 1) + jcI mh u k (i + 1)
def jcO (mh : Nat → Int32) (n : Nat) : Nat → Nat → Nat
  | 0, _ => 0
  | k + 1, i => jcI mh i (n - (i + 1)) (i + 1) + jcO mh n k (i + 1)
theorem plI_len (mh : Nat → Int32) (u : Nat) : ∀ k i, (plI mh u k i).length = jcI mh u k i
  | 0, _ => rfl
  | k + 1, i => by
    rw [plI, jcI]
    by_cases h : mJoin mh (nI u) (nI i) = 0
    · rw [if_pos h, if_pos h, plI_len mh u k (i + 1)]; omega
    · rw [if_neg h, if_neg h, List.length_cons, plI_len mh u k (i + 1)]; omega
theorem plO_len (mh : Nat → Int32) (n : Nat) : ∀ k i, (plO mh n k i).length = jcO mh n k i
  | 0, _ => rfl
  | k + 1, i => by rw [plO, jcO, List.length_append, plI_len, plO_len mh n k (i + 1)]
/-- a table with the numbers of a list laid in from place q on -/
def layA (f : Nat → Int32) (q : Nat) : List Nat → Nat → Int32
  | [] => f
  | a :: l => layA (upd f q (nI a)) (q + 1) l
theorem layA_app (l2 : List Nat) : ∀ (l1 : List Nat) (f : Nat → Int32) (q : Nat), layA f q (l1 ++ l2) = layA (layA f q l1) (q + l1.length) l2
  | [], f, q => rfl
  | a :: l1, f, q => by
    show layA (upd f q (nI a)) (q + 1) (l1 ++ l2) = layA (layA (upd f q (nI a)) (q + 1) l1) (q + (l1.length + 1)) l2
    rw [layA_app l2 l1, Nat.add_assoc, Nat.add_comm 1]
theorem layA_lo : ∀ (l : List Nat) (f : Nat → Int32) (q j : Nat), j < q → layA f q l j = f j
  | [], _, _, _, _ => rfl
  | a :: l, f, q, j, h => by
    show layA (upd f q (nI a)) (q + 1) l j = f j
    rw [layA_lo l _ (q + 1) j (by omega), pk_un (by omega)]
theorem layA_at : ∀ (l : List Nat) (f : Nat → Int32) (q j : Nat) (h : j < l.length), layA f q l (q + j) = nI l[j]
  | [], _, _, _, h => by cases h
  | a :: l, f, q, 0, _ => by
    show layA (upd f q (nI a)) (q + 1) l q = nI a
    rw [layA_lo l _ (q + 1) q (by omega), pk_us]
  | a :: l, f, q, j + 1, h => by
    have hj : j < l.length := by rw [List.length_cons] at h; omega
    show layA (upd f q (nI a)) (q + 1) l (q + (j + 1)) = nI l[j]
    rw [show q + (j + 1) = q + 1 + j by omega]
    exact layA_at l _ (q + 1) j hj
theorem mFind_L19_eq {n : Nat} (mh ml mg : Nat → Int32) (u Q7 : Nat) (l7 g7 : Nat → Int32) (kk : Nat → (Nat → Int32) → (Nat → Int32) → Nat × (Nat → Int32) × (Nat → Int32)) : ∀ (k i Q : Nat) (l g : Nat → Int32), Q + jcI mh u k i ≤ 9 →
    mFind_L19 n mh ml mg u Q7 l7 g7 kk k i Q l g = kk (Q + (plI mh u k i).length) (layA l Q ((plI mh u k i).map Prod.fst)) (layA g Q ((plI mh u k i).map Prod.snd))
  | 0, i, Q, l, g, _ => rfl
  | k + 1, i, Q, l, g, h => by
    rw [mFind_L19, plI]
    rw [jcI] at h
    by_cases c : mJoin mh (nI u) (nI i) = 0
    · rw [if_pos c] at h
      rw [if_pos c, if_pos c]
      exact mFind_L19_eq mh ml mg u Q7 l7 g7 kk k (i + 1) Q l g (by omega)
    · rw [if_neg c] at h
      rw [if_neg c, if_neg c, nI_clamp (by omega), mFind_L19_eq mh ml mg u Q7 l7 g7 kk k (i + 1) (Q + 1) _ _ (by omega), List.length_cons, List.map_cons, List.map_cons, Nat.add_assoc, Nat.add_comm 1]
      rfl
theorem mFind_L7_eq {n : Nat} (mh ml mg : Nat → Int32) : ∀ (k i Q : Nat) (l g : Nat → Int32), Q + jcO mh n k i ≤ 9 →
    mFind_L7 n mh ml mg k i Q l g = (Q + (plO mh n k i).length, layA l Q ((plO mh n k i).map Prod.fst), layA g Q ((plO mh n k i).map Prod.snd))
  | 0, i, Q, l, g, _ => rfl
  | k + 1, i, Q, l, g, h => by
    rw [jcO] at h
    rw [mFind_L7, mFind_L19_eq mh ml mg i Q l g _ _ _ Q l g (by omega), plO]
    have hl := plI_len mh i (n - (i + 1)) (i + 1)
    rw [mFind_L7_eq mh ml mg k (i + 1) _ _ _ (by omega), List.length_append, List.map_append, List.map_append, layA_app, layA_app, List.length_map, List.length_map, Nat.add_assoc]
theorem mFind_eq {n : Nat} {mh ml mg : Nat → Int32} (hJ : jcO mh n n 0 ≤ 9) : mFind n mh ml mg = ((plO mh n n 0).length, layA ml 0 ((plO mh n n 0).map Prod.fst), layA mg 0 ((plO mh n n 0).map Prod.snd)) := by
  rw [mFind, mFind_L7_eq mh ml mg n 0 0 ml mg (by omega), Nat.zero_add]
theorem plI_mem (mh : Nat → Int32) (u : Nat) : ∀ k i (q : Nat × Nat), q ∈ plI mh u k i → q.1 = u ∧ i ≤ q.2 ∧ q.2 < i + k ∧ ¬ mJoin mh (nI q.1) (nI q.2) = 0
  | 0, _, _, h => by cases h
  | k + 1, i, q, h => by
    rw [plI] at h
    by_cases c : mJoin mh (nI u) (nI i) = 0
    · rw [if_pos c] at h
      have := plI_mem mh u k (i + 1) q h
      exact ⟨this.1, by omega, by omega, this.2.2.2⟩
    · rw [if_neg c] at h
      rcases List.mem_cons.mp h with h | h
      · subst h; exact ⟨rfl, by show i ≤ i; omega, by show i < _; omega, c⟩
      · have := plI_mem mh u k (i + 1) q h
        exact ⟨this.1, by omega, by omega, this.2.2.2⟩
theorem plO_mem (mh : Nat → Int32) (n : Nat) : ∀ k i (q : Nat × Nat), q ∈ plO mh n k i → i ≤ q.1 ∧ q.1 < i + k ∧ q.1 < q.2 ∧ q.2 < n ∧ ¬ mJoin mh (nI q.1) (nI q.2) = 0
  | 0, _, _, h => by cases h
  | k + 1, i, q, h => by
    rw [plO] at h
    rcases List.mem_append.mp h with h | h
    · have := plI_mem mh i _ _ q h
      exact ⟨by omega, by omega, by omega, by omega, this.2.2.2⟩
    · have := plO_mem mh n k (i + 1) q h
      exact ⟨by omega, by omega, by omega, by omega, this.2.2.2.2⟩
theorem mFind_le {n : Nat} {mh ml mg : Nat → Int32} (_hn : n ≤ 6) (hJ : jcO mh n n 0 ≤ 9) : (mFind n mh ml mg).1 ≤ 9 := by
  rw [mFind_eq hJ, plO_len]; exact hJ
theorem mFind_lo {n : Nat} {mh ml mg : Nat → Int32} (hn : n ≤ 6) (hJ : jcO mh n n 0 ≤ 9) : ∀ j, j < (mFind n mh ml mg).1 → vp_in ((mFind n mh ml mg).2.1 j) n := by
  rw [mFind_eq hJ]
  intro j hj
  have hj : j < (plO mh n n 0).length := hj
  show vp_in (layA ml 0 ((plO mh n n 0).map Prod.fst) j) n
  have := layA_at ((plO mh n n 0).map Prod.fst) ml 0 j (by rw [List.length_map]; exact hj)
  rw [Nat.zero_add] at this
  rw [this, List.getElem_map]
  have hm := plO_mem mh n n 0 _ (List.getElem_mem hj)
  exact vp_in_nI (by omega) (by omega)
theorem mFind_hi {n : Nat} {mh ml mg : Nat → Int32} (hn : n ≤ 6) (hJ : jcO mh n n 0 ≤ 9) : ∀ j, j < (mFind n mh ml mg).1 → vp_in ((mFind n mh ml mg).2.2 j) n := by
  rw [mFind_eq hJ]
  intro j hj
  have hj : j < (plO mh n n 0).length := hj
  show vp_in (layA mg 0 ((plO mh n n 0).map Prod.snd) j) n
  have := layA_at ((plO mh n n 0).map Prod.snd) mg 0 j (by rw [List.length_map]; exact hj)
  rw [Nat.zero_add] at this
  rw [this, List.getElem_map]
  have hm := plO_mem mh n n 0 _ (List.getElem_mem hj)
  exact vp_in_nI (by omega) (by omega)
/-! goThrough keeps what findPairs found; best holds 0 and 1 -/
def is01 (f : Nat → Int32) : Prop := ∀ j, f j = 0 ∨ f j = 1
theorem nar01 (x : Int32) : vp_nar .boolean x = 0 ∨ vp_nar .boolean x = 1 := by
  show x &&& 1 = 0 ∨ x &&& 1 = 1
  rw [b_low]
  split
  · exact Or.inr rfl
  · exact Or.inl rfl
theorem is01_upd {f : Nat → Int32} {k : Nat} {x : Int32} (h : is01 f) (hx : x = 0 ∨ x = 1) : is01 (upd f k x) := fun j => by
  unfold upd
  split
  · exact hx
  · exact h j
theorem mGo_L56_pr {n : Nat} {mh mk mt mv mb ml mg : Nat → Int32} {mc : Int32} {Q j11 : Nat} {v11 : Nat → Int32} {i32 : Nat} {mc32 : Int32} {mv32 mb32 mt32 : Nat → Int32} {kk : Int32 → (Nat → Int32) → (Nat → Int32) → (Nat → Int32) → Nat × (Nat → Int32) × (Nat → Int32) × Int32 × (Nat → Int32) × (Nat → Int32) × (Nat → Int32)}
    {Pr : Nat × (Nat → Int32) × (Nat → Int32) × Int32 × (Nat → Int32) × (Nat → Int32) × (Nat → Int32) → Prop} (hk : ∀ a v b t, is01 b → Pr (kk a v b t)) : ∀ (k i : Nat) (v b : Nat → Int32), is01 b → Pr (mGo_L56 n mh mk mt mv mb ml mg mc Q j11 v11 i32 mc32 mv32 mb32 mt32 kk k i v b)
  | 0, i, v, b, hb => hk _ _ _ _ hb
  | k + 1, i, v, b, hb => by
    rw [mGo_L56]
    split
    · split
      · exact mGo_L56_pr hk k (i + 1) _ _ (is01_upd hb (nar01 _))
      · exact mGo_L56_pr hk k (i + 1) _ _ (is01_upd hb (nar01 _))
    · split
      · exact mGo_L56_pr hk k (i + 1) _ _ (is01_upd hb (nar01 _))
      · exact mGo_L56_pr hk k (i + 1) _ _ (is01_upd hb (nar01 _))
theorem mGo_L32_pr {n : Nat} {mh mk mt mv mb ml mg : Nat → Int32} {mc : Int32} {Q j11 : Nat} {v11 : Nat → Int32} {Pr : Nat × (Nat → Int32) × (Nat → Int32) × Int32 × (Nat → Int32) × (Nat → Int32) × (Nat → Int32) → Prop}
    (hk : ∀ a v b t, is01 b → Pr ((mFind n mh ml mg).1, (mFind n mh ml mg).2.1, (mFind n mh ml mg).2.2, a, v, t, b)) : ∀ (k i : Nat) (a : Int32) (v b t : Nat → Int32), is01 b → Pr (mGo_L32 n mh mk mt mv mb ml mg mc Q j11 v11 k i a v b t)
  | 0, i, a, v, b, t, hb => hk a v b t hb
  | k + 1, i, a, v, b, t, hb => by
    rw [mGo_L32]
    split
    · exact mGo_L32_pr hk k (i + 1) _ _ _ _ hb
    · exact mGo_L56_pr (fun a v b t hb => mGo_L32_pr hk k (i + 1) a v b t hb) 36 0 _ _ hb
theorem mGo_L11_pr {n : Nat} {mh mk mt mv mb ml mg : Nat → Int32} {mc : Int32} {Q : Nat} {Pr : Nat × (Nat → Int32) × (Nat → Int32) × Int32 × (Nat → Int32) × (Nat → Int32) × (Nat → Int32) → Prop} (hb : is01 mb)
    (hk : ∀ a v b t, is01 b → Pr ((mFind n mh ml mg).1, (mFind n mh ml mg).2.1, (mFind n mh ml mg).2.2, a, v, t, b)) : ∀ (k i : Nat) (v : Nat → Int32), Pr (mGo_L11 n mh mk mt mv mb ml mg mc Q k i v)
  | 0, i, v => mGo_L32_pr hk _ 0 _ _ _ _ hb
  | k + 1, i, v => mGo_L11_pr hb hk k (i + 1) _
theorem mGo_pr {n : Nat} {mh mk mt mv mb ml mg : Nat → Int32} {mc : Int32} {Q : Nat} (hb : is01 mb) {Pr : Nat × (Nat → Int32) × (Nat → Int32) × Int32 × (Nat → Int32) × (Nat → Int32) × (Nat → Int32) → Prop}
    (hk : ∀ a v b t, is01 b → Pr ((mFind n mh ml mg).1, (mFind n mh ml mg).2.1, (mFind n mh ml mg).2.2, a, v, t, b)) : Pr (mGo n mh mk mt mv mb ml mg mc Q) := mGo_L11_pr hb hk 36 0 mv
theorem mGo_le {n : Nat} {mh mk mt mv mb ml mg : Nat → Int32} {mc : Int32} {Q : Nat} (hb : is01 mb) (hn : n ≤ 6) (hJ : jcO mh n n 0 ≤ 9) : (mGo n mh mk mt mv mb ml mg mc Q).1 ≤ 9 := mGo_pr (Pr := fun r => r.1 ≤ 9) hb (fun _ _ _ _ _ => mFind_le hn hJ)
theorem mGo_lo {n : Nat} {mh mk mt mv mb ml mg : Nat → Int32} {mc : Int32} {Q : Nat} (hb : is01 mb) (hn : n ≤ 6) (hJ : jcO mh n n 0 ≤ 9) : ∀ j, j < (mGo n mh mk mt mv mb ml mg mc Q).1 → vp_in ((mGo n mh mk mt mv mb ml mg mc Q).2.1 j) n := mGo_pr (Pr := fun r => ∀ j, j < r.1 → vp_in (r.2.1 j) n) hb (fun _ _ _ _ _ => mFind_lo hn hJ)
theorem mGo_hi {n : Nat} {mh mk mt mv mb ml mg : Nat → Int32} {mc : Int32} {Q : Nat} (hb : is01 mb) (hn : n ≤ 6) (hJ : jcO mh n n 0 ≤ 9) : ∀ j, j < (mGo n mh mk mt mv mb ml mg mc Q).1 → vp_in ((mGo n mh mk mt mv mb ml mg mc Q).2.2.1 j) n := mGo_pr (Pr := fun r => ∀ j, j < r.1 → vp_in (r.2.2.1 j) n) hb (fun _ _ _ _ _ => mFind_hi hn hJ)
theorem mGo_b {n : Nat} {mh mk mt mv mb ml mg : Nat → Int32} {mc : Int32} {Q : Nat} (hb : is01 mb) : is01 (mGo n mh mk mt mv mb ml mg mc Q).2.2.2.2.2.2 := mGo_pr (Pr := fun r => is01 r.2.2.2.2.2.2) hb (fun _ _ _ _ h => h)
/-! the stack of the reference's search for paths -/
def dInv (n : Nat) (x0 : Int32) (M : Nat) (mp mx : Nat → Int32) : Prop :=
  M ≤ n ∧ (∀ j, j < M → ∃ a, a < n ∧ mp j = nI a) ∧ (∀ i j, i < j → j < M → mp i ≠ mp j) ∧ (∀ j, j < M → ∃ b, b ≤ n ∧ mx j = nI b) ∧ (0 < M → mp 0 = x0)
theorem cl0 : (0 : Int32).toNatClampNeg = 0 := by decide
theorem dInv_0 {n : Nat} {x0 : Int32} {mp mx : Nat → Int32} (hn : n ≤ 6) (h : vp_in x0 n) : dInv n x0 1 (upd mp (0 : Int32).toNatClampNeg x0) (upd mx (0 : Int32).toNatClampNeg 0) := by
  obtain ⟨a, ha, rfl⟩ := vp_in_of h (by omega)
  rw [cl0]
  refine ⟨by omega, fun j hj => ?_, fun i j h1 h2 => by omega, fun j hj => ?_, fun _ => pk_us⟩
  · have : j = 0 := by omega
    subst this
    exact ⟨a, ha, pk_us⟩
  · have : j = 0 := by omega
    subst this
    exact ⟨0, by omega, pk_us⟩
theorem dInv_M1 {n : Nat} {x0 : Int32} {M : Nat} {mp mx : Nat → Int32} (hn : n ≤ 6) (h : dInv n x0 M mp mx) (hM : ¬ nI M ≤ 0) : 1 ≤ M := by
  rcases Nat.eq_zero_or_pos M with e | e
  · subst e; exact absurd (by decide) hM
  · exact e
theorem dInv_ix {M : Nat} (h1 : 1 ≤ M) (h6 : M ≤ 6) : (nI M - 1).toNatClampNeg = M - 1 := by rw [vz_sub1 h1, nI_clamp (by omega)]
theorem dInv_pa {n : Nat} {x0 : Int32} {M : Nat} {mp mx : Nat → Int32} (hn : n ≤ 6) (h : dInv n x0 M mp mx) : ∀ j, j < M → vp_in (mp j) n := fun j hj => by
  obtain ⟨a, ha, e⟩ := h.2.1 j hj
  rw [e]; exact vp_in_nI ha (by omega)
theorem dInv_at {n : Nat} {x0 : Int32} {M : Nat} {mp mx : Nat → Int32} (hn : n ≤ 6) (h : dInv n x0 M mp mx) (h1 : 1 ≤ M) : vp_in (mp (nI M - 1).toNatClampNeg) n := by
  rw [dInv_ix h1 (Nat.le_trans h.1 hn)]
  exact dInv_pa hn h _ (by omega)
theorem dInv_v {n : Nat} {x0 : Int32} {M : Nat} {mp mx : Nat → Int32} (hn : n ≤ 6) (h : dInv n x0 M mp mx) (h1 : 1 ≤ M) (hv : ¬ mx (nI M - 1).toNatClampNeg = nI n) : vp_in (mx (nI M - 1).toNatClampNeg) n := by
  rw [dInv_ix h1 (Nat.le_trans h.1 hn)] at hv ⊢
  obtain ⟨b, hb, e⟩ := h.2.2.2.1 (M - 1) (by omega)
  rw [e] at hv ⊢
  refine vp_in_nI ?_ (by omega)
  rcases Nat.lt_or_ge b n with h2 | h2
  · exact h2
  · exact absurd (by rw [show b = n by omega]) hv
theorem dInv_2 {n : Nat} {x0 y0 : Int32} {M : Nat} {mp mx : Nat → Int32} (hn : n ≤ 6) (h : dInv n x0 M mp mx) (h1 : 1 ≤ M) (hxy : x0 ≠ y0) (he : mp (nI M - 1).toNatClampNeg = y0) : 2 ≤ M := by
  rw [dInv_ix h1 (Nat.le_trans h.1 hn)] at he
  rcases Nat.lt_or_ge M 2 with h2 | h2
  · exfalso
    have e : M = 1 := by omega
    subst e
    exact hxy ((h.2.2.2.2 (by omega)).symm.trans he)
  · exact h2
theorem mOnPath_L5_eq (mp : Nat → Int32) (v : Int32) (M : Nat) : ∀ (k i : Nat) (f : Int32), i + k ≤ 6 → (mOnPath_L5 mp v M k i f = 0 ↔ f = 0 ∧ ∀ j, i ≤ j → j < i + k → ¬ mp j = v)
  | 0, i, f, _ => ⟨fun h => ⟨h, fun j h1 h2 => by omega⟩, fun h => h.1⟩
  | k + 1, i, f, h => by
    rw [mOnPath_L5, nI_clamp (by omega)]
    by_cases a : f = 0
    · rw [if_pos a]
      by_cases b : mp i = v
      · rw [if_pos b, mOnPath_L5_eq mp v M k (i + 1) 1 (by omega)]
        exact ⟨fun h => absurd h.1 (by decide), fun h => absurd b (h.2 i (by omega) (by omega))⟩
      · rw [if_neg b, mOnPath_L5_eq mp v M k (i + 1) 0 (by omega)]
        refine ⟨fun h => ⟨a, fun j h1 h2 => ?_⟩, fun h => ⟨rfl, fun j h1 h2 => h.2 j (by omega) (by omega)⟩⟩
        by_cases c : j = i
        · subst c; exact b
        · exact h.2 j (by omega) (by omega)
    · rw [if_neg a, mOnPath_L5_eq mp v M k (i + 1) 1 (by omega)]
      exact ⟨fun h => absurd h.1 (by decide), fun h => absurd h.1 a⟩
theorem mOnPath_eq {mp : Nat → Int32} {v : Int32} {M : Nat} (hM : M ≤ 6) : mOnPath mp v M = 0 ↔ ∀ j, j < M → ¬ mp j = v := by
  rw [mOnPath, mOnPath_L5_eq mp v M M 0 0 (by omega)]
  exact ⟨fun h j hj => h.2 j (by omega) (by omega), fun h => ⟨rfl, fun j _ hj => h j (by omega)⟩⟩
/-- different numbers below n are at most n many -/
theorem pigeon : ∀ (n M : Nat) (f : Nat → Nat), (∀ j, j < M → f j < n) → (∀ i j, i < j → j < M → f i ≠ f j) → M ≤ n
  | 0, M, f, h, _ => by
    rcases Nat.eq_zero_or_pos M with e | e
    · omega
    · have := h 0 e; omega
  | n + 1, M, f, h, hd => by
    by_cases c : ∃ t, t < M ∧ f t = n
    · obtain ⟨t, ht, e⟩ := c
      have := pigeon n (M - 1) (fun j => if j < t then f j else f (j + 1)) (fun j hj => by
        show (if j < t then f j else f (j + 1)) < n
        split
        · have h1 := h j (by omega)
          have h2 := hd j t (by omega) ht
          omega
        · have h1 := h (j + 1) (by omega)
          have h2 := hd t (j + 1) (by omega) (by omega)
          omega) (fun i j hij hj => by
        show (if i < t then f i else f (i + 1)) ≠ (if j < t then f j else f (j + 1))
        by_cases a : i < t
        · by_cases b : j < t
          · rw [if_pos a, if_pos b]; exact hd i j hij (by omega)
          · rw [if_pos a, if_neg b]; exact hd i (j + 1) (by omega) (by omega)
        · rw [if_neg a, if_neg (by omega)]; exact hd (i + 1) (j + 1) (by omega) (by omega))
      omega
    · have := pigeon n M f (fun j hj => by
        have h1 := h j hj
        rcases Nat.lt_or_ge (f j) n with h2 | h2
        · exact h2
        · exact absurd ⟨j, hj, by omega⟩ c) hd
      omega
theorem dInv_lt {n : Nat} {x0 : Int32} {M : Nat} {mp mx : Nat → Int32} {v : Int32} (hn : n ≤ 6) (h : dInv n x0 M mp mx) (hv : vp_in v n) (ho : mOnPath mp v M = 0) : M < n := by
  obtain ⟨b, hb, rfl⟩ := vp_in_of hv (by omega)
  have hM := h.1
  rw [mOnPath_eq (by omega)] at ho
  have := pigeon n (M + 1) (fun j => if j < M then (mp j).toNatClampNeg else b) (fun j hj => by
    show (if j < M then (mp j).toNatClampNeg else b) < n
    split
    · rename_i h2
      obtain ⟨a, ha, e⟩ := h.2.1 j h2
      rw [e, nI_clamp (by omega)]; exact ha
    · exact hb) (fun i j hij hj => by
    show (if i < M then (mp i).toNatClampNeg else b) ≠ (if j < M then (mp j).toNatClampNeg else b)
    obtain ⟨a, ha, e⟩ := h.2.1 i (by omega)
    rw [if_pos (by omega), e, nI_clamp (by omega)]
    by_cases c : j < M
    · obtain ⟨a2, ha2, e2⟩ := h.2.1 j c
      rw [if_pos c, e2, nI_clamp (by omega)]
      intro q
      exact h.2.2.1 i j hij c (by rw [e, e2, q])
    · rw [if_neg c]
      intro q
      exact ho i (by omega) (by rw [e, q]))
  omega
theorem dInv_pop {n : Nat} {x0 : Int32} {M : Nat} {mp mx : Nat → Int32} (h : dInv n x0 M mp mx) : dInv n x0 (M - 1) mp mx :=
  ⟨by have := h.1; omega, fun j hj => h.2.1 j (by omega), fun i j h1 h2 => h.2.2.1 i j h1 (by omega), fun j hj => h.2.2.2.1 j (by omega), fun hM => h.2.2.2.2 (by omega)⟩
theorem dInv_next {n : Nat} {x0 : Int32} {M : Nat} {mp mx : Nat → Int32} (hn : n ≤ 6) (h : dInv n x0 M mp mx) (h1 : 1 ≤ M) (hv : ¬ mx (nI M - 1).toNatClampNeg = nI n) : dInv n x0 M mp (upd mx (nI M - 1).toNatClampNeg (mx (nI M - 1).toNatClampNeg + 1)) := by
  rw [dInv_ix h1 (Nat.le_trans h.1 hn)] at hv ⊢
  refine ⟨h.1, h.2.1, h.2.2.1, fun j hj => ?_, h.2.2.2.2⟩
  by_cases c : j = M - 1
  · subst c
    obtain ⟨b, hb, e⟩ := h.2.2.2.1 (M - 1) (by omega)
    rw [pk_us, e, nI_1]
    refine ⟨b + 1, ?_, rfl⟩
    rw [e] at hv
    rcases Nat.lt_or_ge b n with h2 | h2
    · omega
    · exact absurd (by rw [show b = n by omega]) hv
  · rw [pk_un c]; exact h.2.2.2.1 j hj
theorem dInv_push {n : Nat} {x0 : Int32} {M : Nat} {mp mx : Nat → Int32} (hn : n ≤ 6) (h : dInv n x0 M mp mx) (h1 : 1 ≤ M) (hv : ¬ mx (nI M - 1).toNatClampNeg = nI n) (ho : mOnPath mp (mx (nI M - 1).toNatClampNeg) M = 0) :
    dInv n x0 (M + 1) (upd mp (nI M).toNatClampNeg (mx (nI M - 1).toNatClampNeg)) (upd (upd mx (nI M - 1).toNatClampNeg (mx (nI M - 1).toNatClampNeg + 1)) (nI M).toNatClampNeg 0) := by
  have hvn := dInv_v hn h h1 hv
  have hlt := dInv_lt hn h hvn ho
  have hx := dInv_next hn h h1 hv
  generalize upd mx (nI M - 1).toNatClampNeg (mx (nI M - 1).toNatClampNeg + 1) = mx2 at hx ⊢
  generalize mx (nI M - 1).toNatClampNeg = v at hvn ho ⊢
  have hM := h.1
  rw [nI_clamp (by omega)]
  rw [mOnPath_eq (by omega)] at ho
  obtain ⟨b, hb, rfl⟩ := vp_in_of hvn (by omega)
  refine ⟨by omega, fun j hj => ?_, fun i j hij hj => ?_, fun j hj => ?_, fun _ => ?_⟩
  · by_cases c : j = M
    · subst c; rw [pk_us]; exact ⟨b, hb, rfl⟩
    · rw [pk_un c]; exact h.2.1 j (by omega)
  · rw [pk_un (f := mp) (show i ≠ M by omega)]
    by_cases c : j = M
    · subst c; rw [pk_us]; exact ho i hij
    · rw [pk_un c]; exact h.2.2.1 i j hij (by omega)
  · by_cases c : j = M
    · subst c; rw [pk_us]; exact ⟨0, by omega, rfl⟩
    · rw [pk_un c]; exact hx.2.2.2.1 j (by omega)
  · rw [pk_un (show (0 : Nat) ≠ M by omega)]; exact h.2.2.2.2 (by omega)
end
section
/-! ways and paths: an open way (nodes may come twice) gives an open way in which they don't -/
def dp_R (G : Nat → Nat → Prop) : Nat → Nat → Nat → Prop
  | 0, u, w => u = w
  | k + 1, u, w => ∃ v, G u v ∧ dp_R G k v w
def dp_Reach (G : Nat → Nat → Prop) (u w : Nat) : Prop := ∃ k, dp_R G k u w
theorem dp_R_trans {G : Nat → Nat → Prop} : ∀ (a : Nat) {b u v w : Nat}, dp_R G a u v → dp_R G b v w → dp_R G (a + b) u w
  | 0, b, u, v, w, h1, h2 => by
    have h1 : u = v := h1
    subst h1
    rw [Nat.zero_add]; exact h2
  | a + 1, b, u, v, w, h1, h2 => by
    obtain ⟨z, hz, h1⟩ := h1
    rw [Nat.add_right_comm]
    exact ⟨z, hz, dp_R_trans a h1 h2⟩
theorem dp_Reach_refl (G : Nat → Nat → Prop) (u : Nat) : dp_Reach G u u := ⟨0, rfl⟩
theorem dp_Reach_trans {G : Nat → Nat → Prop} {u v w : Nat} (h1 : dp_Reach G u v) (h2 : dp_Reach G v w) : dp_Reach G u w := by
  obtain ⟨a, h1⟩ := h1
  obtain ⟨b, h2⟩ := h2
  exact ⟨a + b, dp_R_trans a h1 h2⟩
theorem dp_Reach_one {G : Nat → Nat → Prop} {u v : Nat} (h : G u v) : dp_Reach G u v := ⟨1, v, h, rfl⟩
theorem dp_Reach_snoc {G : Nat → Nat → Prop} {u v w : Nat} (h1 : dp_Reach G u v) (h2 : G v w) : dp_Reach G u w := dp_Reach_trans h1 (dp_Reach_one h2)
theorem dp_Reach_cons {G : Nat → Nat → Prop} {u v w : Nat} (h1 : G u v) (h2 : dp_Reach G v w) : dp_Reach G u w := dp_Reach_trans (dp_Reach_one h1) h2
/-- the set is reached -/
def dp_RS (G : Nat → Nat → Prop) (S : Nat → Prop) (u : Nat) : Prop := ∃ w, S w ∧ dp_Reach G u w
/-- a node between two others on a way lets through -/
def dp_ok (G : Nat → Nat → Prop) (S : Nat → Prop) (a b c : Nat) : Prop := (G a b → G c b → dp_RS G S b) ∧ (¬ (G a b ∧ G c b) → ¬ S b)
/-- an open way of m steps -/
def dp_way (G : Nat → Nat → Prop) (S : Nat → Prop) (w : Nat → Nat) (m : Nat) : Prop := (∀ t, t < m → G (w t) (w (t + 1)) ∨ G (w (t + 1)) (w t)) ∧ ∀ t, t + 1 < m → dp_ok G S (w t) (w (t + 1)) (w (t + 2))
theorem dp_down {G : Nat → Nat → Prop} (w : Nat → Nat) (i : Nat) : ∀ (d : Nat), (∀ s, s < d → G (w (i + s)) (w (i + s + 1))) → dp_Reach G (w i) (w (i + d))
  | 0, _ => dp_Reach_refl _ _
  | d + 1, h => dp_Reach_snoc (dp_down w i d (fun s hs => h s (by omega))) (h d (by omega))
/-- a round that leaves along an arrow and comes back against one: its node reaches the set -/
theorem dp_round {G : Nat → Nat → Prop} {S : Nat → Prop} {w : Nat → Nat} {m i j : Nat} (hG : ∀ a b, G a b → ¬ G b a) (hw : dp_way G S w m) (hj : i + 2 ≤ j) (hm : j < m + 1) (he : w i = w j) (h1 : G (w i) (w (i + 1))) (h2 : G (w j) (w (j - 1))) : dp_RS G S (w i) := by
  have hex : ∃ d, ¬ G (w (i + d)) (w (i + d + 1)) := ⟨j - 1 - i, by
    rw [show i + (j - 1 - i) = j - 1 by omega, show j - 1 + 1 = j by omega]
    exact fun h => hG _ _ h h2⟩
  obtain ⟨d, hd, hl⟩ := pk_least (fun d => ¬ G (w (i + d)) (w (i + d + 1))) hex
  have hdj : d ≤ j - 1 - i := by
    rcases Nat.lt_or_ge (j - 1 - i) d with h | h
    · exfalso
      have := hl _ h
      apply this
      show ¬ G (w (i + (j - 1 - i))) (w (i + (j - 1 - i) + 1))
      rw [show i + (j - 1 - i) = j - 1 by omega, show j - 1 + 1 = j by omega]
      exact fun h => hG _ _ h h2
    · exact h
  have hd0 : d ≠ 0 := by
    intro h
    subst h
    exact hd h1
  have hup : ∀ s, s < d → G (w (i + s)) (w (i + s + 1)) := fun s hs => Classical.not_not.mp (hl s hs)
  have hre : dp_Reach G (w i) (w (i + d)) := dp_down w i d hup
  have ha := hw.1 (i + d) (by omega)
  have hb : G (w (i + d + 1)) (w (i + d)) := ha.resolve_left hd
  have hin : G (w (i + d - 1)) (w (i + d)) := by
    have := hup (d - 1) (by omega)
    rw [show i + (d - 1) = i + d - 1 by omega, show i + d - 1 + 1 = i + d by omega] at this
    exact this
  have hok := hw.2 (i + d - 1) (by omega)
  rw [show i + d - 1 + 1 = i + d by omega, show i + d - 1 + 2 = i + d + 1 by omega] at hok
  obtain ⟨z, hz, hr⟩ := hok.1 hin hb
  exact ⟨z, hz, dp_Reach_trans hre hr⟩
/-- a way without the part between i and j -/
def dp_cut (w : Nat → Nat) (i j : Nat) : Nat → Nat := fun t => if t ≤ i then w t else w (t + (j - i))
theorem dp_cut_way {G : Nat → Nat → Prop} {S : Nat → Prop} {w : Nat → Nat} {m i j : Nat} (hG : ∀ a b, G a b → ¬ G b a) (hw : dp_way G S w m) (hij : i < j) (hm : j ≤ m) (he : w i = w j) : dp_way G S (dp_cut w i j) (m - (j - i)) := by
  have lo : ∀ t, t ≤ i → dp_cut w i j t = w t := fun t h => if_pos h
  have hi : ∀ t, i ≤ t → dp_cut w i j t = w (t + (j - i)) := fun t h => by
    rcases Nat.lt_or_ge i t with h2 | h2
    · exact if_neg (by omega)
    · have : t = i := by omega
      subst this
      rw [lo t (Nat.le_refl _), he, show t + (j - t) = j by omega]
  have hij2 : i + 2 ≤ j := by
    rcases Nat.lt_or_ge j (i + 2) with h | h
    · exfalso
      have e : j = i + 1 := by omega
      subst e
      have := hw.1 i (by omega)
      rw [← he] at this
      rcases this with h | h <;> exact hG _ _ h h
    · exact h
  refine ⟨fun t ht => ?_, fun t ht => ?_⟩
  · rcases Nat.lt_or_ge t i with h | h
    · rw [lo t (by omega), lo (t + 1) (by omega)]
      exact hw.1 t (by omega)
    · rw [hi t h, hi (t + 1) (by omega), show t + 1 + (j - i) = t + (j - i) + 1 by omega]
      exact hw.1 _ (by omega)
  · rcases Nat.lt_or_ge (t + 1) i with h | h
    · rw [lo t (by omega), lo (t + 1) (by omega), lo (t + 2) (by omega)]
      exact hw.2 t (by omega)
    · rcases Nat.lt_or_ge i (t + 1) with h2 | h2
      · rw [hi t (by omega), hi (t + 1) (by omega), hi (t + 2) (by omega), show t + 1 + (j - i) = t + (j - i) + 1 by omega, show t + 2 + (j - i) = t + (j - i) + 2 by omega]
        exact hw.2 _ (by omega)
      · have e : i = t + 1 := by omega
        subst e
        rw [lo t (by omega), lo (t + 1) (by omega), hi (t + 2) (by omega), show t + 2 + (j - (t + 1)) = j + 1 by omega]
        have o1 := hw.2 t (by omega)
        have o2 := hw.2 (j - 1) (by omega)
        rw [show j - 1 + 1 = j by omega, show j - 1 + 2 = j + 1 by omega, ← he] at o2
        have a1 := hw.1 (t + 1) (by omega)
        have a2 := hw.1 (j - 1) (by omega)
        rw [show j - 1 + 1 = j by omega, ← he] at a2
        refine ⟨fun g1 g2 => ?_, fun g => ?_⟩
        · rcases a1 with a1 | a1
          · rcases a2 with a2 | a2
            · exact o2.1 a2 g2
            · exact dp_round hG hw hij2 (by omega) he a1 (by rw [← he]; exact a2)
          · exact o1.1 g1 a1
        · rcases Classical.em (G (w t) (w (t + 1))) with g1 | g1
          · exact o2.2 (fun q => g ⟨g1, q.2⟩)
          · exact o1.2 (fun q => g1 q.1)
/-- an open way from x to another node y gives one without a node twice -/
theorem dp_simple {G : Nat → Nat → Prop} {S : Nat → Prop} (hG : ∀ a b, G a b → ¬ G b a) {x y : Nat} {w : Nat → Nat} {m : Nat} (hw : dp_way G S w m) (h0 : w 0 = x) (h1 : w m = y) :
    ∃ (v : Nat → Nat) (k : Nat), dp_way G S v k ∧ v 0 = x ∧ v k = y ∧ ∀ i j, i < j → j ≤ k → v i ≠ v j := by
  obtain ⟨k, ⟨v, hv, e0, e1⟩, hl⟩ := pk_least (fun k => ∃ v : Nat → Nat, dp_way G S v k ∧ v 0 = x ∧ v k = y) ⟨m, w, hw, h0, h1⟩
  refine ⟨v, k, hv, e0, e1, fun i j hij hj he => ?_⟩
  refine hl (k - (j - i)) (by omega) ⟨dp_cut v i j, dp_cut_way hG hv hij hj he, ?_, ?_⟩
  · show (if 0 ≤ i then v 0 else _) = x
    rw [if_pos (Nat.zero_le _)]; exact e0
  · show (if k - (j - i) ≤ i then v (k - (j - i)) else v (k - (j - i) + (j - i))) = y
    rcases Nat.lt_or_ge i (k - (j - i)) with h | h
    · rw [if_neg (by omega), show k - (j - i) + (j - i) = k by omega]; exact e1
    · rw [if_pos h, show k - (j - i) = i by omega, he, show j = k by omega]; exact e1
/-- the rules by which open ways are followed, one node at a time -/
def dp_closed (G : Nat → Nat → Prop) (S A B : Nat → Prop) : Prop :=
  (∀ v c, ¬ S v → (A v ∨ B v) → G v c → B c) ∧ (∀ v q, ¬ S v → A v → G q v → A q) ∧ ∀ v q, S v → B v → G q v → A q
theorem dp_bounce {G : Nat → Nat → Prop} {S A B : Nat → Prop} (hc : dp_closed G S A B) : ∀ (k : Nat) (v z q : Nat), dp_R G k v z → S z → B v → G q v → A q
  | 0, v, z, q, h, hz, hB, hq => by
    have h : v = z := h
    subst h
    exact hc.2.2 v q hz hB hq
  | k + 1, v, z, q, h, hz, hB, hq => by
    rcases Classical.em (S v) with hv | hv
    · exact hc.2.2 v q hv hB hq
    · obtain ⟨c, hvc, h⟩ := h
      exact hc.2.1 v q hv (dp_bounce hc k c z v h hz (hc.1 v c hv (Or.inr hB) hvc) hvc) hq
/-- every open way stays inside what the rules give -/
theorem dp_inside {G : Nat → Nat → Prop} {S A B : Nat → Prop} (hG : ∀ a b, G a b → ¬ G b a) (hc : dp_closed G S A B) {w : Nat → Nat} {m : Nat} (hw : dp_way G S w m) (hA : ∀ q, G q (w 0) → A q) (hB : ∀ c, G (w 0) c → B c) :
    ∀ t, t < m → (G (w t) (w (t + 1)) → B (w (t + 1))) ∧ (G (w (t + 1)) (w t) → A (w (t + 1)))
  | 0, _ => ⟨fun h => hB _ h, fun h => hA _ h⟩
  | t + 1, ht => by
    have ih := dp_inside hG hc hw hA hB t (by omega)
    have ok := hw.2 t (by omega)
    have ad := hw.1 t (by omega)
    rcases Classical.em (G (w t) (w (t + 1)) ∧ G (w (t + 2)) (w (t + 1))) with hcol | hcol
    · obtain ⟨z, hz, k, hk⟩ := ok.1 hcol.1 hcol.2
      exact ⟨fun h => absurd hcol.2 (hG _ _ h), fun h => dp_bounce hc k _ z _ hk hz (ih.1 hcol.1) h⟩
    · have hs := ok.2 hcol
      refine ⟨fun h => hc.1 _ _ hs ?_ h, fun h => hc.2.1 _ _ hs ?_ h⟩
      · rcases ad with ad | ad
        · exact Or.inr (ih.1 ad)
        · exact Or.inl (ih.2 ad)
      · rcases ad with ad | ad
        · exact absurd ⟨ad, h⟩ hcol
        · exact ih.2 ad
/-- an open way from x that comes to q against an arrow, or to c along one -/
def dp_A (G : Nat → Nat → Prop) (S : Nat → Prop) (x q : Nat) : Prop := ∃ (w : Nat → Nat) (m : Nat), dp_way G S w (m + 1) ∧ w 0 = x ∧ w (m + 1) = q ∧ G q (w m)
def dp_B (G : Nat → Nat → Prop) (S : Nat → Prop) (x c : Nat) : Prop := ∃ (w : Nat → Nat) (m : Nat), dp_way G S w (m + 1) ∧ w 0 = x ∧ w (m + 1) = c ∧ G (w m) c
def dp_ap (w : Nat → Nat) (m z : Nat) : Nat → Nat := fun t => if t ≤ m then w t else z
theorem dp_ap_way {G : Nat → Nat → Prop} {S : Nat → Prop} {w : Nat → Nat} {m z : Nat} (hw : dp_way G S w (m + 1)) (ha : G (w (m + 1)) z ∨ G z (w (m + 1))) (ho : dp_ok G S (w m) (w (m + 1)) z) : dp_way G S (dp_ap w (m + 1) z) (m + 2) := by
  have lo : ∀ t, t ≤ m + 1 → dp_ap w (m + 1) z t = w t := fun t h => if_pos h
  have hi : dp_ap w (m + 1) z (m + 2) = z := if_neg (by omega)
  refine ⟨fun t ht => ?_, fun t ht => ?_⟩
  · rcases Nat.lt_or_ge t (m + 1) with h | h
    · rw [lo t (by omega), lo (t + 1) (by omega)]
      exact hw.1 t h
    · have e : t = m + 1 := by omega
      subst e
      rw [lo _ (by omega), hi]
      exact ha
  · rcases Nat.lt_or_ge t m with h | h
    · rw [lo t (by omega), lo (t + 1) (by omega), lo (t + 2) (by omega)]
      exact hw.2 t (by omega)
    · have e : t = m := by omega
      subst e
      rw [lo t (by omega), lo (t + 1) (by omega), hi]
      exact ho
theorem dp_ap_A {G : Nat → Nat → Prop} {S : Nat → Prop} {x v q : Nat} {w : Nat → Nat} {m : Nat} (hw : dp_way G S w (m + 1)) (h0 : w 0 = x) (h1 : w (m + 1) = v) (hg : G q v) (ho : dp_ok G S (w m) v q) : dp_A G S x q := by
  subst h1
  refine ⟨dp_ap w (m + 1) q, m + 1, dp_ap_way hw (Or.inr hg) ho, ?_, if_neg (by omega), ?_⟩
  · exact (if_pos (Nat.zero_le _)).trans h0
  · rw [show dp_ap w (m + 1) q (m + 1) = w (m + 1) from if_pos (Nat.le_refl _)]; exact hg
theorem dp_ap_B {G : Nat → Nat → Prop} {S : Nat → Prop} {x v c : Nat} {w : Nat → Nat} {m : Nat} (hw : dp_way G S w (m + 1)) (h0 : w 0 = x) (h1 : w (m + 1) = v) (hg : G v c) (ho : dp_ok G S (w m) v c) : dp_B G S x c := by
  subst h1
  refine ⟨dp_ap w (m + 1) c, m + 1, dp_ap_way hw (Or.inl hg) ho, ?_, if_neg (by omega), ?_⟩
  · exact (if_pos (Nat.zero_le _)).trans h0
  · rw [show dp_ap w (m + 1) c (m + 1) = w (m + 1) from if_pos (Nat.le_refl _)]; exact hg
theorem dp_AB_closed {G : Nat → Nat → Prop} {S : Nat → Prop} (hG : ∀ a b, G a b → ¬ G b a) (x : Nat) : dp_closed G S (dp_A G S x) (dp_B G S x) := by
  refine ⟨fun v c hs hv hg => ?_, fun v q hs hv hg => ?_, fun v q hs hv hg => ?_⟩
  · rcases hv with ⟨w, m, hw, h0, h1, h2⟩ | ⟨w, m, hw, h0, h1, h2⟩
    · exact dp_ap_B hw h0 h1 hg ⟨fun _ g2 => absurd g2 (hG _ _ hg), fun _ => hs⟩
    · exact dp_ap_B hw h0 h1 hg ⟨fun _ g2 => absurd g2 (hG _ _ hg), fun _ => hs⟩
  · obtain ⟨w, m, hw, h0, h1, h2⟩ := hv
    exact dp_ap_A hw h0 h1 hg ⟨fun g1 _ => absurd g1 (hG _ _ h2), fun _ => hs⟩
  · obtain ⟨w, m, hw, h0, h1, h2⟩ := hv
    exact dp_ap_A hw h0 h1 hg ⟨fun _ _ => ⟨v, hs, dp_Reach_refl G v⟩, fun g => absurd ⟨h2, hg⟩ g⟩
theorem dp_A0 {G : Nat → Nat → Prop} {S : Nat → Prop} {x q : Nat} (h : G q x) : dp_A G S x q := by
  refine ⟨fun t => if t = 0 then x else q, 0, ⟨fun t ht => ?_, fun t ht => by omega⟩, if_pos rfl, if_neg (by omega), ?_⟩
  · have e : t = 0 := by omega
    subst e
    exact Or.inr h
  · exact h
theorem dp_B0 {G : Nat → Nat → Prop} {S : Nat → Prop} {x c : Nat} (h : G x c) : dp_B G S x c := by
  refine ⟨fun t => if t = 0 then x else c, 0, ⟨fun t ht => ?_, fun t ht => by omega⟩, if_pos rfl, if_neg (by omega), ?_⟩
  · have e : t = 0 := by omega
    subst e
    exact Or.inl h
  · exact h
/-- THE THEOREM: what the rules give (A, B: closed, from x, and nothing but ends of open ways) holds y just when some open path of different nodes goes from x to y -/
theorem dp_main {G : Nat → Nat → Prop} {S A B : Nat → Prop} (hG : ∀ a b, G a b → ¬ G b a) {x y : Nat} (hxy : x ≠ y) (hc : dp_closed G S A B) (hA : ∀ q, G q x → A q) (hB : ∀ c, G x c → B c) (sA : ∀ q, A q → dp_A G S x q) (sB : ∀ c, B c → dp_B G S x c) :
    (A y ∨ B y) ↔ ∃ (v : Nat → Nat) (k : Nat), dp_way G S v k ∧ v 0 = x ∧ v k = y ∧ ∀ i j, i < j → j ≤ k → v i ≠ v j := by
  constructor
  · intro h
    rcases h with h | h
    · obtain ⟨w, m, hw, h0, h1, -⟩ := sA y h
      exact dp_simple hG hw h0 h1
    · obtain ⟨w, m, hw, h0, h1, -⟩ := sB y h
      exact dp_simple hG hw h0 h1
  · intro ⟨v, k, hv, h0, h1, _⟩
    cases k with
    | zero => exact absurd (h0.symm.trans h1) hxy
    | succ k =>
      have h := dp_inside hG hc hv (by rw [h0]; exact hA) (by rw [h0]; exact hB) k (by omega)
      rw [h1] at h
      rcases hv.1 k (by omega) with g | g
      · exact Or.inr (h.1 (by rw [h1] at g; exact g))
      · exact Or.inl (h.2 (by rw [h1] at g; exact g))
end
section
/-! counting below n; doing a thing again until it stays -/
def cb (f : Nat → Bool) : Nat → Nat
  | 0 => 0
  | n + 1 => cb f n + (if f n = true then 1 else 0)
theorem cb_le (f : Nat → Bool) : ∀ n, cb f n ≤ n
  | 0 => Nat.le_refl 0
  | n + 1 => by
    have := cb_le f n
    unfold cb
    split <;> omega
theorem cb_mono {f g : Nat → Bool} : ∀ n, (∀ i, i < n → f i = true → g i = true) → cb f n ≤ cb g n
  | 0, _ => Nat.le_refl 0
  | n + 1, h => by
    have ih := cb_mono n (fun i hi => h i (by omega))
    unfold cb
    by_cases a : f n = true
    · rw [if_pos a, if_pos (h n (by omega) a)]; omega
    · rw [if_neg a]; omega
theorem cb_lt {f g : Nat → Bool} : ∀ n, (∀ i, i < n → f i = true → g i = true) → (∃ i, i < n ∧ f i = false ∧ g i = true) → cb f n < cb g n
  | 0, _, h => by obtain ⟨i, hi, _⟩ := h; omega
  | n + 1, h, hx => by
    have hm := cb_mono n (fun i hi => h i (by omega))
    obtain ⟨i, hi, h1, h2⟩ := hx
    unfold cb
    by_cases a : i = n
    · subst a
      rw [if_pos h2, if_neg (by rw [h1]; decide)]; omega
    · have ih := cb_lt n (fun i hi => h i (by omega)) ⟨i, by omega, h1, h2⟩
      by_cases b : f n = true
      · rw [if_pos b, if_pos (h n (by omega) b)]; omega
      · rw [if_neg b]; omega
theorem cb_pos {f : Nat → Bool} : ∀ n i, i < n → f i = true → 1 ≤ cb f n
  | 0, i, hi, _ => by omega
  | n + 1, i, hi, h => by
    unfold cb
    by_cases a : i = n
    · subst a; rw [if_pos h]; omega
    · have := cb_pos n i (by omega) h; omega
theorem cb_full {f : Nat → Bool} : ∀ n, n ≤ cb f n → ∀ i, i < n → f i = true
  | 0, _, i, hi => by omega
  | n + 1, h, i, hi => by
    unfold cb at h
    have hl := cb_le f n
    by_cases a : f n = true
    · rw [if_pos a] at h
      by_cases b : i = n
      · subst b; exact a
      · exact cb_full n (by omega) i (by omega)
    · rw [if_neg a] at h; omega
theorem cb_congr {f g : Nat → Bool} : ∀ n, (∀ i, i < n → f i = g i) → cb f n = cb g n
  | 0, _ => rfl
  | n + 1, h => by
    unfold cb
    rw [cb_congr n (fun i hi => h i (by omega)), h n (by omega)]
def itN {α : Type} (T : α → α) : Nat → α → α
  | 0, f => f
  | k + 1, f => itN T k (T f)
theorem itN_fixed {α : Type} {T : α → α} {f : α} (h : T f = f) : ∀ k, itN T k f = f
  | 0 => rfl
  | k + 1 => by
    show itN T k (T f) = f
    rw [h]; exact itN_fixed h k
theorem itN_add {α : Type} (T : α → α) : ∀ (a b : Nat) (f : α), itN T (a + b) f = itN T b (itN T a f)
  | 0, b, f => by rw [Nat.zero_add]; rfl
  | a + 1, b, f => by
    rw [Nat.add_right_comm]
    show itN T (a + b) (T f) = _
    rw [itN_add T a b]; rfl
theorem itN_inv {α : Type} {T : α → α} {I : α → Prop} (hI : ∀ f, I f → I (T f)) : ∀ (k : Nat) (f : α), I f → I (itN T k f)
  | 0, _, h => h
  | k + 1, f, h => itN_inv hI k (T f) (hI f h)
/-- what grows while it moves, and can't grow above N, stays in the end -/
theorem itN_stays {α : Type} {T : α → α} {I : α → Prop} {μ : α → Nat} {N : Nat} (hI : ∀ f, I f → I (T f)) (hN : ∀ f, I f → μ f ≤ N) (hT : ∀ f, I f → T f ≠ f → μ f < μ (T f)) :
    ∀ (k : Nat) (f : α), I f → N ≤ μ f + k → T (itN T k f) = itN T k f
  | 0, f, h, hk => by
    show T f = f
    refine Classical.byContradiction (fun a => ?_)
    have h1 := hT f h a
    have h2 := hN _ (hI f h)
    omega
  | k + 1, f, h, hk => by
    show T (itN T k (T f)) = itN T k (T f)
    by_cases a : T f = f
    · rw [a, itN_fixed a, a]
    · exact itN_stays hI hN hT k (T f) (hI f h) (by have := hT f h a; omega)
end
section
/-! what a node reaches: class and reference -/
theorem hH0 (s : Int32) {i : Nat} (hi : i < 32) : hHolds s (nI i) = 0 ↔ bt s i = false := by
  unfold hHolds
  rw [← b_at0 s hi]
  by_cases h : (s >>> (nI i &&& 31)) &&& 1 = 0
  · rw [if_pos h]; exact ⟨fun _ => h, fun _ => rfl⟩
  · rw [if_neg h]; exact ⟨fun a => absurd a (by decide), fun a => absurd a h⟩
theorem hHt {s : Int32} {i : Nat} (hi : i < 32) (h : bt s i = true) : ¬ hHolds s (nI i) = 0 := fun a => by
  rw [(hH0 s hi).mp a] at h; cases h
theorem hHf {s : Int32} {i : Nat} (hi : i < 32) (h : ¬ bt s i = true) : hHolds s (nI i) = 0 := (hH0 s hi).mpr (by simpa using h)
theorem reach_of_sweep {T : Int32 → Int32} {G : Nat → Nat → Prop} {n u k : Nat} (hn : n ≤ 6) (hG : ∀ a b, G a b → a < n ∧ b < n) (h1 : ∀ f w, bt f w = true → bt (T f) w = true)
    (h2 : ∀ (X : Nat → Prop), (∀ a b, X a → G a b → X b) → ∀ f, (∀ w, bt f w = true → X w) → ∀ w, bt (T f) w = true → X w) (h3 : ∀ f, T f = f → ∀ a b, bt f a = true → G a b → bt f b = true) (hk : n ≤ k + 1) (hu : u < n) (w : Nat) :
    bt (itN T k ((1 : Int32) <<< (nI u &&& 31))) w = true ↔ dp_Reach G u w := by
  have h0 : ∀ w, bt ((1 : Int32) <<< (nI u &&& 31)) w = true ↔ w = u := fun w => by rw [b_one (by omega)]; exact decide_eq_true_iff
  have hI : ∀ f, (∀ w, bt f w = true → w < n) → ∀ w, bt (T f) w = true → w < n := fun f hf => h2 (fun w => w < n) (fun a b _ h => (hG a b h).2) f hf
  have hst : T (itN T k ((1 : Int32) <<< (nI u &&& 31))) = itN T k ((1 : Int32) <<< (nI u &&& 31)) := by
    refine itN_stays (I := fun f => ∀ w, bt f w = true → w < n) (μ := fun f => cb (bt f) n) (N := n) hI (fun f _ => cb_le _ _) (fun f hf hne => ?_) k _ (fun w h => by rw [(h0 w).mp h]; exact hu) ?_
    · refine cb_lt n (fun i _ h => h1 f i h) ?_
      refine Classical.byContradiction (fun hno => hne (b_ext' (fun i => ?_)))
      rcases hb : bt f i with _ | _
      · rcases hc : bt (T f) i with _ | _
        · rfl
        · exact absurd ⟨i, hI f hf i hc, hb, hc⟩ hno
      · exact h1 f i hb
    · have := cb_pos (f := bt ((1 : Int32) <<< (nI u &&& 31))) n u hu ((h0 u).mpr rfl)
      show n ≤ cb (bt ((1 : Int32) <<< (nI u &&& 31))) n + k
      omega
  constructor
  · intro h
    exact itN_inv (I := fun f => ∀ w, bt f w = true → dp_Reach G u w) (fun f hf => h2 (dp_Reach G u) (fun a b ha hb => dp_Reach_snoc ha hb) f hf) k _ (fun w h => by rw [(h0 w).mp h]; exact dp_Reach_refl G u) w h
  · intro ⟨d, hd⟩
    have hu' : bt (itN T k ((1 : Int32) <<< (nI u &&& 31))) u = true := itN_inv (I := fun f => bt f u = true) (fun f hf => h1 f u hf) k _ ((h0 u).mpr rfl)
    generalize itN T k ((1 : Int32) <<< (nI u &&& 31)) = f at hst hu' ⊢
    clear h0 hu
    induction d generalizing u with
    | zero => have hd : u = w := hd; rw [← hd]; exact hu'
    | succ d ih =>
      obtain ⟨z, hz, hd⟩ := hd
      exact ih hd (h3 f hst u z hu' hz)
/-! the class -/
def swC (fc : Nat → Int32) : Nat → Nat → Int32 → Int32
  | 0, _, f => f
  | k + 1, i, f => swC fc k (i + 1) (if bt f i = true then f ||| fc i else f)
theorem gReach_L17_eq (n : Nat) (fc : Nat → Int32) (u : Int32) (a : Nat) (b : Int32) (kk : Int32 → Int32) : ∀ (k i : Nat) (f : Int32), i + k ≤ 32 → gReach_L17 n fc u a b kk k i f = kk (swC fc k i f)
  | 0, _, _, _ => rfl
  | k + 1, i, f, h => by
    rw [gReach_L17, swC]
    by_cases c : bt f i = true
    · rw [if_neg (hHt (by omega) c), if_pos c, nI_clamp (by omega)]
      exact gReach_L17_eq n fc u a b kk k (i + 1) _ (by omega)
    · rw [if_pos (hHf (by omega) c), if_neg c]
      exact gReach_L17_eq n fc u a b kk k (i + 1) _ (by omega)
theorem gReach_L6_eq {n : Nat} (hn : n ≤ 6) (fc : Nat → Int32) (u : Int32) : ∀ (k i : Nat) (f : Int32), gReach_L6 n fc u k i f = itN (swC fc n 0) k f
  | 0, _, _ => rfl
  | k + 1, i, f => by
    rw [gReach_L6, gReach_L17_eq n fc u i f _ n 0 f (by omega)]
    exact gReach_L6_eq hn fc u k (i + 1) _
theorem swC_up (fc : Nat → Int32) : ∀ (k i : Nat) (f : Int32) (w : Nat), bt f w = true → bt (swC fc k i f) w = true
  | 0, _, _, _, h => h
  | k + 1, i, f, w, h => by
    rw [swC]
    refine swC_up fc k (i + 1) _ w ?_
    split
    · rw [b_or, h]; rfl
    · exact h
theorem swC_in (fc : Nat → Int32) (X : Nat → Prop) : ∀ (k i : Nat) (f : Int32), (∀ a b, i ≤ a → a < i + k → X a → bt (fc a) b = true → X b) → (∀ w, bt f w = true → X w) → ∀ w, bt (swC fc k i f) w = true → X w
  | 0, _, _, _, h => h
  | k + 1, i, f, hX, h => by
    rw [swC]
    refine swC_in fc X k (i + 1) _ (fun a b h1 h2 => hX a b (by omega) (by omega)) (fun w hw => ?_)
    by_cases c : bt f i = true
    · rw [if_pos c, b_or, Bool.or_eq_true] at hw
      rcases hw with hw | hw
      · exact h w hw
      · exact hX i w (by omega) (by omega) (h i c) hw
    · rw [if_neg c] at hw; exact h w hw
theorem swC_cl (fc : Nat → Int32) : ∀ (k i : Nat) (f : Int32), swC fc k i f = f → ∀ a b, i ≤ a → a < i + k → bt f a = true → bt (fc a) b = true → bt f b = true
  | 0, _, _, _, a, b, h1, h2 => by omega
  | k + 1, i, f, h, a, b, h1, h2 => by
    rw [swC] at h
    by_cases c : bt f i = true
    · rw [if_pos c] at h
      have e : f ||| fc i = f := b_ext' (fun j => by
        rcases hj : bt f j with _ | _
        · rcases hk : bt (f ||| fc i) j with _ | _
          · rfl
          · have := swC_up fc k (i + 1) _ j hk
            rw [h, hj] at this; exact this.symm
        · rw [b_or, hj]; rfl)
      intro ha hb
      by_cases d : a = i
      · subst d
        rw [← e, b_or, hb, Bool.or_true]
      · rw [e] at h
        exact swC_cl fc k (i + 1) f h a b (by omega) (by omega) ha hb
    · rw [if_neg c] at h
      intro ha hb
      by_cases d : a = i
      · subst d; exact absurd ha c
      · exact swC_cl fc k (i + 1) f h a b (by omega) (by omega) ha hb
theorem gReach_spec {n u : Nat} {fc : Nat → Int32} {G : Nat → Nat → Prop} (hn : n ≤ 6) (hu : u < n) (hG : ∀ a b, G a b → a < n ∧ b < n) (hc : ∀ a b, a < n → (bt (fc a) b = true ↔ G a b)) (w : Nat) : bt (gReach n fc (nI u)) w = true ↔ dp_Reach G u w := by
  rw [gReach, gReach_L6_eq hn]
  refine reach_of_sweep hn hG (fun f w h => swC_up fc n 0 f w h) (fun X hX f hf => swC_in fc X n 0 f (fun a b _ h2 ha hb => hX a b ha ((hc a b (by omega)).mp hb)) hf) (fun f hf a b ha hb => swC_cl fc n 0 f hf a b (by omega) (by have := (hG a b hb).1; omega) ha ((hc a b (hG a b hb).1).mpr hb)) (by omega) hu w
/-! the reference -/
def swB (mh : Nat → Int32) (a : Nat) : Nat → Nat → Int32 → Int32
  | 0, _, f => f
  | k + 1, j, f => swB mh a k (j + 1) (if mh (6 * a + j) = 0 then f else f ||| (1 : Int32) <<< (nI j &&& 31))
def swM (mh : Nat → Int32) (n : Nat) : Nat → Nat → Int32 → Int32
  | 0, _, f => f
  | k + 1, a, f => swM mh n k (a + 1) (if bt f a = true then swB mh a n 0 f else f)
theorem swB_bt (mh : Nat → Int32) (a : Nat) : ∀ (k j : Nat) (f : Int32) (w : Nat), j + k ≤ 32 → (bt (swB mh a k j f) w = true ↔ bt f w = true ∨ (j ≤ w ∧ w < j + k ∧ ¬ mh (6 * a + w) = 0))
  | 0, j, f, w, _ => ⟨fun h => Or.inl h, fun h => h.elim id (fun h => by omega)⟩
  | k + 1, j, f, w, h => by
    rw [swB, swB_bt mh a k (j + 1) _ w (by omega)]
    by_cases c : mh (6 * a + j) = 0
    · rw [if_pos c]
      constructor
      · rintro (h | h)
        · exact Or.inl h
        · exact Or.inr ⟨by omega, by omega, h.2.2⟩
      · rintro (h | h)
        · exact Or.inl h
        · refine Or.inr ⟨?_, by omega, h.2.2⟩
          rcases Nat.lt_or_ge j w with h2 | h2
          · exact h2
          · have : w = j := by omega
            subst this
            exact absurd c h.2.2
    · rw [if_neg c, b_or, Bool.or_eq_true, b_one (by omega), decide_eq_true_iff]
      constructor
      · rintro ((h | h) | h)
        · exact Or.inl h
        · subst h; exact Or.inr ⟨by omega, by omega, c⟩
        · exact Or.inr ⟨by omega, by omega, h.2.2⟩
      · rintro (h | h)
        · exact Or.inl (Or.inl h)
        · by_cases d : w = j
          · exact Or.inl (Or.inr d)
          · exact Or.inr ⟨by omega, by omega, h.2.2⟩
theorem mReach_L27_eq {n : Nat} (hn : n ≤ 6) (mh : Nat → Int32) (u : Int32) (i6 : Nat) (s6 : Int32) {a : Nat} (ha : a < 6) (s15 : Int32) (kk : Int32 → Int32) : ∀ (k j : Nat) (f : Int32), j + k ≤ 6 → mReach_L27 n mh u i6 s6 a s15 kk k j f = kk (if bt f a = true then swB mh a k j f else f)
  | 0, j, f, _ => by
    rw [mReach_L27, swB]
    split <;> rfl
  | k + 1, j, f, h => by
    rw [mReach_L27]
    by_cases c : bt f a = true
    · rw [if_pos ((b_at1 f (by omega)).mpr c), if_pos c, vz_ixC ha (by omega), swB]
      by_cases d : mh (6 * a + j) = 0
      · rw [if_pos d, if_pos d, mReach_L27_eq hn mh u i6 s6 ha s15 kk k (j + 1) f (by omega), if_pos c]
      · rw [if_neg d, if_neg d, mReach_L27_eq hn mh u i6 s6 ha s15 kk k (j + 1) _ (by omega), if_pos (by rw [b_or, c]; rfl)]
    · rw [if_neg (fun e => c ((b_at1 f (by omega)).mp e)), if_neg c]
theorem mReach_L15_eq {n : Nat} (hn : n ≤ 6) (mh : Nat → Int32) (u : Int32) (i6 : Nat) (s6 : Int32) (kk : Int32 → Int32) : ∀ (k a : Nat) (f : Int32), a + k ≤ 6 → mReach_L15 n mh u i6 s6 kk k a f = kk (swM mh n k a f)
  | 0, _, _, _ => rfl
  | k + 1, a, f, h => by
    rw [mReach_L15, mReach_L27_eq hn mh u i6 s6 (by omega) f _ n 0 f (by omega), swM]
    exact mReach_L15_eq hn mh u i6 s6 kk k (a + 1) _ (by omega)
theorem mReach_L6_eq {n : Nat} (hn : n ≤ 6) (mh : Nat → Int32) (u : Int32) : ∀ (k i : Nat) (f : Int32), mReach_L6 n mh u k i f = itN (swM mh n n 0) k f
  | 0, _, _ => rfl
  | k + 1, i, f => by
    rw [mReach_L6, mReach_L15_eq hn mh u i f _ n 0 f (by omega)]
    exact mReach_L6_eq hn mh u k (i + 1) _
theorem swM_up {n : Nat} (hn : n ≤ 6) (mh : Nat → Int32) : ∀ (k a : Nat) (f : Int32) (w : Nat), bt f w = true → bt (swM mh n k a f) w = true
  | 0, _, _, _, h => h
  | k + 1, a, f, w, h => by
    rw [swM]
    refine swM_up hn mh k (a + 1) _ w ?_
    split
    · exact (swB_bt mh a n 0 f w (by omega)).mpr (Or.inl h)
    · exact h
theorem swM_in {n : Nat} (hn : n ≤ 6) (mh : Nat → Int32) (X : Nat → Prop) : ∀ (k a : Nat) (f : Int32), (∀ x b, a ≤ x → x < a + k → b < n → X x → ¬ mh (6 * x + b) = 0 → X b) → (∀ w, bt f w = true → X w) → ∀ w, bt (swM mh n k a f) w = true → X w
  | 0, _, _, _, h => h
  | k + 1, a, f, hX, h => by
    rw [swM]
    refine swM_in hn mh X k (a + 1) _ (fun x b h1 h2 => hX x b (by omega) (by omega)) (fun w hw => ?_)
    by_cases c : bt f a = true
    · rw [if_pos c, swB_bt mh a n 0 f w (by omega)] at hw
      rcases hw with hw | hw
      · exact h w hw
      · exact hX a w (by omega) (by omega) (by omega) (h a c) hw.2.2
    · rw [if_neg c] at hw; exact h w hw
theorem swM_cl {n : Nat} (hn : n ≤ 6) (mh : Nat → Int32) : ∀ (k a : Nat) (f : Int32), swM mh n k a f = f → ∀ x b, a ≤ x → x < a + k → b < n → bt f x = true → ¬ mh (6 * x + b) = 0 → bt f b = true
  | 0, _, _, _, x, b, h1, h2 => by omega
  | k + 1, a, f, h, x, b, h1, h2 => by
    rw [swM] at h
    intro hbn hx hb
    by_cases c : bt f a = true
    · rw [if_pos c] at h
      have e : swB mh a n 0 f = f := b_ext' (fun j => by
        rcases hj : bt f j with _ | _
        · rcases hk : bt (swB mh a n 0 f) j with _ | _
          · rfl
          · have := swM_up hn mh k (a + 1) _ j hk
            rw [h, hj] at this; exact this.symm
        · exact (swB_bt mh a n 0 f j (by omega)).mpr (Or.inl hj))
      by_cases d : x = a
      · subst d
        rw [← e]
        exact (swB_bt mh x n 0 f b (by omega)).mpr (Or.inr ⟨by omega, by omega, hb⟩)
      · rw [e] at h
        exact swM_cl hn mh k (a + 1) f h x b (by omega) (by omega) hbn hx hb
    · rw [if_neg c] at h
      by_cases d : x = a
      · subst d; exact absurd hx c
      · exact swM_cl hn mh k (a + 1) f h x b (by omega) (by omega) hbn hx hb
theorem mReach_spec {n u : Nat} {mh : Nat → Int32} {G : Nat → Nat → Prop} (hn : n ≤ 6) (hu : u < n) (hG : ∀ a b, G a b → a < n ∧ b < n) (hc : ∀ a b, a < n → b < n → (¬ mh (6 * a + b) = 0 ↔ G a b)) (w : Nat) : bt (mReach n mh (nI u)) w = true ↔ dp_Reach G u w := by
  rw [mReach, mReach_L6_eq hn]
  refine reach_of_sweep hn hG (fun f w h => swM_up hn mh n 0 f w h) (fun X hX f hf => swM_in hn mh X n 0 f (fun a b _ h2 hb ha hg => hX a b ha ((hc a b (by omega) hb).mp hg)) hf) (fun f hf a b ha hb => swM_cl hn mh n 0 f hf a b (by omega) (by have := (hG a b hb).1; omega) (hG a b hb).2 ha ((hc a b (hG a b hb).1 (hG a b hb).2).mpr hb)) (by omega) hu w
end
section
/-! rings: class and reference do the same sweep, n times or six times; and where there is an order there is none -/
def swR (fp : Nat → Int32) : Nat → Nat → Int32 → Int32
  | 0, _, l => l
  | k + 1, i, l => swR fp k (i + 1) (if fp i &&& l = 0 then l &&& ((1 : Int32) <<< (nI i &&& 31) ^^^ (-1)) else l)
theorem b_clr (l : Int32) {i : Nat} (hi : i < 32) (w : Nat) : bt (l &&& ((1 : Int32) <<< (nI i &&& 31) ^^^ (-1))) w = true ↔ bt l w = true ∧ w ≠ i := by
  rcases Nat.lt_or_ge w 32 with hw | hw
  · rw [b_and, b_not _ hw, b_one hi]
    by_cases h : w = i
    · rw [decide_eq_true h]; simp [h]
    · rw [decide_eq_false h]; simp [h]
  · rw [b_big hw, b_big hw]; simp
theorem swR_dn (fp : Nat → Int32) : ∀ (k i : Nat) (l : Int32) (w : Nat), i + k ≤ 32 → bt (swR fp k i l) w = true → bt l w = true
  | 0, _, _, _, _, h => h
  | k + 1, i, l, w, hk, h => by
    rw [swR] at h
    have := swR_dn fp k (i + 1) _ w (by omega) h
    by_cases c : fp i &&& l = 0
    · rw [if_pos c, b_clr l (by omega)] at this; exact this.1
    · rw [if_neg c] at this; exact this
theorem swR_cl (fp : Nat → Int32) : ∀ (k i : Nat) (l : Int32), i + k ≤ 32 → swR fp k i l = l → ∀ v, i ≤ v → v < i + k → bt l v = true → ¬ fp v &&& l = 0
  | 0, _, _, _, _, v, h1, h2 => by omega
  | k + 1, i, l, hk, h, v, h1, h2 => by
    rw [swR] at h
    intro hv
    by_cases c : fp i &&& l = 0
    · rw [if_pos c] at h
      have e : l &&& ((1 : Int32) <<< (nI i &&& 31) ^^^ (-1)) = l := b_ext' (fun j => by
        rcases hj : bt l j with _ | _
        · rw [b_and, hj, Bool.false_and]
        · have hb : bt (swR fp k (i + 1) (l &&& ((1 : Int32) <<< (nI i &&& 31) ^^^ (-1)))) j = true := by rw [h]; exact hj
          exact swR_dn fp k (i + 1) _ j (by omega) hb)
      by_cases d : v = i
      · subst d
        rw [← e] at hv
        exact absurd rfl ((b_clr l (by omega) v).mp hv).2
      · rw [e] at h
        exact swR_cl fp k (i + 1) l (by omega) h v (by omega) (by omega) hv
    · rw [if_neg c] at h
      by_cases d : v = i
      · subst d; exact c
      · exact swR_cl fp k (i + 1) l (by omega) h v (by omega) (by omega) hv
theorem swR_stays {n : Nat} (hn : n ≤ 6) (fp : Nat → Int32) (l : Int32) (hl : ∀ w, bt l w = true → w < n) : swR fp n 0 (itN (swR fp n 0) n l) = itN (swR fp n 0) n l := by
  refine itN_stays (I := fun f => ∀ w, bt f w = true → w < n) (μ := fun f => n - cb (bt f) n) (N := n) (fun f hf w h => hf w (swR_dn fp n 0 f w (by omega) h)) (fun f _ => by omega) (fun f hf hne => ?_) n l hl (by omega)
  have h1 : cb (bt (swR fp n 0 f)) n < cb (bt f) n := by
    refine cb_lt n (fun i _ h => swR_dn fp n 0 f i (by omega) h) ?_
    refine Classical.byContradiction (fun hno => hne (b_ext' (fun i => ?_)))
    rcases hb : bt (swR fp n 0 f) i with _ | _
    · rcases hc : bt f i with _ | _
      · rfl
      · exact absurd ⟨i, hf i hc, hb, hc⟩ hno
    · exact (swR_dn fp n 0 f i (by omega) hb).symm
  have h2 := cb_le (bt f) n
  show n - cb (bt f) n < n - cb (bt (swR fp n 0 f)) n
  omega
/-- all nodes -/
theorem full_bt {n : Nat} (hn : n ≤ 6) : ∀ w, bt ((1 : Int32) <<< (nI n &&& 31) - 1) w = true ↔ w < n := by
  intro w
  rcases Nat.lt_or_ge w 32 with hw | hw
  · have : ∀ m, m ≤ 6 → ∀ j, j < 32 → (bt ((1 : Int32) <<< (nI m &&& 31) - 1) j = true ↔ j < m) := by decide +kernel
    exact this n hn w hw
  · rw [b_big hw]; constructor
    · intro h; cases h
    · intro h; omega
theorem gRing_L25_eq (n : Nat) (fp : Nat → Int32) (a : Nat) (b : Int32) (kk : Int32 → Int32) : ∀ (k i : Nat) (l : Int32), i + k ≤ 32 → gRing_L25 n fp a b kk k i l = kk (swR fp k i l)
  | 0, _, _, _ => rfl
  | k + 1, i, l, h => by
    rw [gRing_L25, swR, nI_clamp (by omega)]
    by_cases c : fp i &&& l = 0
    · rw [if_pos c, if_pos c]
      exact gRing_L25_eq n fp a b kk k (i + 1) _ (by omega)
    · rw [if_neg c, if_neg c]
      exact gRing_L25_eq n fp a b kk k (i + 1) _ (by omega)
theorem swR_0 (fp : Nat → Int32) : ∀ (k i : Nat), i + k ≤ 32 → swR fp k i 0 = 0 := fun k i h => b_eq0.mpr (fun w => by
  rcases hb : bt (swR fp k i 0) w with _ | _
  · rfl
  · have := swR_dn fp k i 0 w h hb
    rw [b_0] at this; cases this)
theorem gRing_L11_eq {n : Nat} (hn : n ≤ 6) (fp : Nat → Int32) : ∀ (k i : Nat) (l : Int32), gRing_L11 n fp k i l = if itN (swR fp n 0) k l = 0 then 0 else 1
  | 0, _, _ => rfl
  | k + 1, i, l => by
    rw [gRing_L11]
    by_cases c : l = 0
    · rw [if_pos c, c, itN_fixed (swR_0 fp n 0 (by omega)), if_pos rfl]
    · rw [if_neg c, gRing_L25_eq n fp i l _ n 0 l (by omega)]
      exact gRing_L11_eq hn fp k (i + 1) _
/-- the reference's inner loop: is v bare? -/
def brv (mt : Nat → Int32) (v : Nat) (l : Int32) : Nat → Nat → Bool
  | 0, _ => false
  | k + 1, i => (decide (¬ mt (6 * i + v) = 0) && bt l i) || brv mt v l k (i + 1)
theorem brv_iff (mt : Nat → Int32) (v : Nat) (l : Int32) : ∀ k i, brv mt v l k i = true ↔ ∃ u, i ≤ u ∧ u < i + k ∧ ¬ mt (6 * u + v) = 0 ∧ bt l u = true
  | 0, i => ⟨fun h => (by cases h), fun ⟨u, h1, h2, _⟩ => (by omega)⟩
  | k + 1, i => by
    rw [brv, Bool.or_eq_true, Bool.and_eq_true, decide_eq_true_iff, brv_iff mt v l k (i + 1)]
    constructor
    · rintro (h | ⟨u, h1, h2, h3⟩)
      · exact ⟨i, by omega, by omega, h⟩
      · exact ⟨u, by omega, by omega, h3⟩
    · rintro ⟨u, h1, h2, h3⟩
      by_cases c : u = i
      · subst c; exact Or.inl h3
      · exact Or.inr ⟨u, by omega, by omega, h3⟩
theorem mRing_L33_eq {n : Nat} (hn : n ≤ 6) (mt : Nat → Int32) (a : Nat) (b : Int32) {v : Nat} (hv : v < 6) (l : Int32) (kk : Int32 → Int32) : ∀ (k i : Nat) (ba : Int32), i + k ≤ 6 →
    mRing_L33 n mt a b v l kk k i ba = kk (if ba = 0 ∨ brv mt v l k i = true then l else l &&& ((1 : Int32) <<< (nI v &&& 31) ^^^ (-1)))
  | 0, i, ba, _ => by
    rw [mRing_L33]
    by_cases c : ba = 0
    · rw [if_pos c, if_pos (Or.inl c)]
    · rw [if_neg c, if_neg]
      rintro (h | h)
      · exact c h
      · cases h
  | k + 1, i, ba, h => by
    rw [mRing_L33, brv]
    by_cases c : ba = 0
    · rw [if_pos c, mRing_L33_eq hn mt a b hv l kk k (i + 1) 0 (by omega), if_pos (Or.inl rfl), if_pos (Or.inl c)]
    · rw [if_neg c, vz_ixC (by omega) hv]
      by_cases d : mt (6 * i + v) = 0
      · rw [if_pos d, mRing_L33_eq hn mt a b hv l kk k (i + 1) 1 (by omega), decide_eq_false (fun z => z d), Bool.false_and, Bool.false_or]
        by_cases f : brv mt v l k (i + 1) = true
        · rw [if_pos (Or.inr f), if_pos (Or.inr f)]
        · rw [if_neg (fun z => z.elim (by decide) f), if_neg (fun z => z.elim c f)]
      · rw [if_neg d, decide_eq_true d, Bool.true_and]
        by_cases f : bt l i = true
        · rw [if_pos ((b_at1 l (by omega)).mpr f), mRing_L33_eq hn mt a b hv l kk k (i + 1) 0 (by omega), if_pos (Or.inl rfl), f, Bool.true_or, if_pos (Or.inr rfl)]
        · rw [if_neg (fun e => f ((b_at1 l (by omega)).mp e)), mRing_L33_eq hn mt a b hv l kk k (i + 1) 1 (by omega)]
          have f2 : bt l i = false := by simpa using f
          rw [f2, Bool.false_or]
          by_cases g : brv mt v l k (i + 1) = true
          · rw [if_pos (Or.inr g), if_pos (Or.inr g)]
          · rw [if_neg (fun z => z.elim (by decide) g), if_neg (fun z => z.elim c g)]
/-- masks of parents that say what the table says -/
def maskOf (n : Nat) (fp mt : Nat → Int32) : Prop := ∀ v, v < n → ∀ u, bt (fp v) u = true ↔ u < n ∧ ¬ mt (6 * u + v) = 0
theorem mRing_L19_eq {n : Nat} (hn : n ≤ 6) {fp mt : Nat → Int32} (hm : maskOf n fp mt) (a : Nat) (b : Int32) (kk : Int32 → Int32) : ∀ (k v : Nat) (l : Int32), v + k ≤ n → mRing_L19 n mt a b kk k v l = kk (swR fp k v l)
  | 0, _, _, _ => rfl
  | k + 1, v, l, h => by
    rw [mRing_L19, mRing_L33_eq hn mt a b (by omega) l _ n 0 1 (by omega), swR]
    have e : (if (1 : Int32) = 0 ∨ brv mt v l n 0 = true then l else l &&& ((1 : Int32) <<< (nI v &&& 31) ^^^ (-1))) = if fp v &&& l = 0 then l &&& ((1 : Int32) <<< (nI v &&& 31) ^^^ (-1)) else l := by
      by_cases c : fp v &&& l = 0
      · rw [if_pos c, if_neg]
        rintro (e | e)
        · exact absurd e (by decide)
        · obtain ⟨u, _, h2, h3, h4⟩ := (brv_iff mt v l n 0).mp e
          have := b_eq0.mp c u
          rw [b_and, (hm v (by omega) u).mpr ⟨by omega, h3⟩, h4] at this
          cases this
      · rw [if_neg c, if_pos]
        refine Or.inr ((brv_iff mt v l n 0).mpr (Classical.byContradiction (fun hno => c (b_eq0.mpr (fun u => ?_)))))
        rw [b_and]
        rcases h1 : bt (fp v) u with _ | _
        · rfl
        · rcases h2 : bt l u with _ | _
          · rfl
          · have := (hm v (by omega) u).mp h1
            exact absurd ⟨u, by omega, by omega, this.2, h2⟩ hno
    rw [e]
    exact mRing_L19_eq hn hm a b kk k (v + 1) _ (by omega)
theorem mRing_L11_eq {n : Nat} (hn : n ≤ 6) {fp mt : Nat → Int32} (hm : maskOf n fp mt) : ∀ (k i : Nat) (l : Int32), mRing_L11 n mt k i l = if itN (swR fp n 0) k l = 0 then 0 else 1
  | 0, _, _ => rfl
  | k + 1, i, l => by
    rw [mRing_L11, mRing_L19_eq hn hm i l _ n 0 l (by omega)]
    exact mRing_L11_eq hn hm k (i + 1) _
theorem ring_same {n : Nat} (hn : n ≤ 6) {fp mt : Nat → Int32} (hm : maskOf n fp mt) : gRing n fp = mRing n mt := by
  rw [gRing, mRing, gRing_L11_eq hn, mRing_L11_eq hn hm]
  have hs := swR_stays hn fp ((1 : Int32) <<< (nI n &&& 31) - 1) (fun w h => (full_bt hn w).mp h)
  rw [show (6 : Nat) = n + (6 - n) by omega, itN_add, itN_fixed hs]
/-- where an order goes through all arrows there is no ring -/
theorem ring_none {n : Nat} (hn : n ≤ 6) {fp : Nat → Int32} (rk : Nat → Nat) (hr : ∀ v u, v < n → bt (fp v) u = true → rk u < rk v) : gRing n fp = 0 := by
  rw [gRing, gRing_L11_eq hn]
  have hs := swR_stays hn fp ((1 : Int32) <<< (nI n &&& 31) - 1) (fun w h => (full_bt hn w).mp h)
  have hb : ∀ w, bt (itN (swR fp n 0) n ((1 : Int32) <<< (nI n &&& 31) - 1)) w = true → w < n :=
    itN_inv (I := fun f => ∀ w, bt f w = true → w < n) (fun f hf w h => hf w (swR_dn fp n 0 f w (by omega) h)) n _ (fun w h => (full_bt hn w).mp h)
  generalize itN (swR fp n 0) n ((1 : Int32) <<< (nI n &&& 31) - 1) = f at hs hb ⊢
  refine if_pos (Classical.byContradiction (fun hne => ?_))
  have hex : ∃ k, ∃ v, bt f v = true ∧ rk v = k := by
    refine Classical.byContradiction (fun hno => hne (b_eq0.mpr (fun w => ?_)))
    rcases hw : bt f w with _ | _
    · rfl
    · exact absurd ⟨rk w, w, hw, rfl⟩ hno
  obtain ⟨k, ⟨v, hv, hk⟩, hl⟩ := pk_least _ hex
  refine swR_cl fp n 0 f (by omega) hs v (by omega) (by have := hb v hv; omega) hv (b_eq0.mpr (fun u => ?_))
  rw [b_and]
  rcases h1 : bt (fp v) u with _ | _
  · rfl
  · rcases h2 : bt f u with _ | _
    · rfl
    · exact absurd ⟨u, h2, rfl⟩ (hl (rk u) (by have := hr v u (hb v hv) h1; omega))
end
section
/-! the class's openFrom: the ends of open ways -/
def stO (fp fc : Nat → Int32) (set : Int32) (v : Nat) (q : Int32 × Int32) : Int32 × Int32 :=
  if bt set v = true then (if bt q.2 v = true then (q.1 ||| fp v, q.2) else q)
  else ((if bt q.1 v = true then q.1 ||| fp v else q.1), (if bt q.1 v = true ∨ bt q.2 v = true then q.2 ||| fc v else q.2))
def swO (fp fc : Nat → Int32) (set : Int32) : Nat → Nat → Int32 × Int32 → Int32 × Int32
  | 0, _, q => q
  | k + 1, i, q => swO fp fc set k (i + 1) (stO fp fc set i q)
theorem stO_up (fp fc : Nat → Int32) (set : Int32) (v : Nat) (q : Int32 × Int32) (w : Nat) : (bt q.1 w = true → bt (stO fp fc set v q).1 w = true) ∧ (bt q.2 w = true → bt (stO fp fc set v q).2 w = true) := by
  unfold stO
  by_cases a : bt set v = true
  · rw [if_pos a]
    by_cases b : bt q.2 v = true
    · rw [if_pos b]; exact ⟨fun h => by show bt (q.1 ||| fp v) w = true; rw [b_or, h]; rfl, fun h => h⟩
    · rw [if_neg b]; exact ⟨fun h => h, fun h => h⟩
  · rw [if_neg a]
    refine ⟨fun h => ?_, fun h => ?_⟩
    · show bt (if bt q.1 v = true then q.1 ||| fp v else q.1) w = true
      split
      · rw [b_or, h]; rfl
      · exact h
    · show bt (if bt q.1 v = true ∨ bt q.2 v = true then q.2 ||| fc v else q.2) w = true
      split
      · rw [b_or, h]; rfl
      · exact h
theorem swO_up (fp fc : Nat → Int32) (set : Int32) : ∀ (k i : Nat) (q : Int32 × Int32) (w : Nat), (bt q.1 w = true → bt (swO fp fc set k i q).1 w = true) ∧ (bt q.2 w = true → bt (swO fp fc set k i q).2 w = true)
  | 0, _, _, _ => ⟨fun h => h, fun h => h⟩
  | k + 1, i, q, w => by
    have h1 := stO_up fp fc set i q w
    have h2 := swO_up fp fc set k (i + 1) (stO fp fc set i q) w
    exact ⟨fun h => h2.1 (h1.1 h), fun h => h2.2 (h1.2 h)⟩
theorem swO_in {fp fc : Nat → Int32} {set : Int32} {n : Nat} {G : Nat → Nat → Prop} {X Y : Nat → Prop} (hp : ∀ v u, v < n → bt (fp v) u = true → G u v) (hc : ∀ u v, u < n → bt (fc u) v = true → G u v)
    (hcl : dp_closed G (fun v => bt set v = true) X Y) : ∀ (k i : Nat) (q : Int32 × Int32), i + k ≤ n → (∀ w, bt q.1 w = true → X w) → (∀ w, bt q.2 w = true → Y w) → (∀ w, bt (swO fp fc set k i q).1 w = true → X w) ∧ (∀ w, bt (swO fp fc set k i q).2 w = true → Y w)
  | 0, _, _, _, h1, h2 => ⟨h1, h2⟩
  | k + 1, i, q, hk, h1, h2 => by
    refine swO_in hp hc hcl k (i + 1) (stO fp fc set i q) (by omega) (fun w h => ?_) (fun w h => ?_)
    · unfold stO at h
      by_cases a : bt set i = true
      · rw [if_pos a] at h
        by_cases b : bt q.2 i = true
        · rw [if_pos b] at h
          have h : bt (q.1 ||| fp i) w = true := h
          rw [b_or, Bool.or_eq_true] at h
          rcases h with h | h
          · exact h1 w h
          · exact hcl.2.2 i w a (h2 i b) (hp i w (by omega) h)
        · rw [if_neg b] at h; exact h1 w h
      · rw [if_neg a] at h
        have h : bt (if bt q.1 i = true then q.1 ||| fp i else q.1) w = true := h
        by_cases b : bt q.1 i = true
        · rw [if_pos b, b_or, Bool.or_eq_true] at h
          rcases h with h | h
          · exact h1 w h
          · exact hcl.2.1 i w a (h1 i b) (hp i w (by omega) h)
        · rw [if_neg b] at h; exact h1 w h
    · unfold stO at h
      by_cases a : bt set i = true
      · rw [if_pos a] at h
        by_cases b : bt q.2 i = true
        · rw [if_pos b] at h; exact h2 w h
        · rw [if_neg b] at h; exact h2 w h
      · rw [if_neg a] at h
        have h : bt (if bt q.1 i = true ∨ bt q.2 i = true then q.2 ||| fc i else q.2) w = true := h
        by_cases b : bt q.1 i = true ∨ bt q.2 i = true
        · rw [if_pos b, b_or, Bool.or_eq_true] at h
          rcases h with h | h
          · exact h2 w h
          · exact hcl.1 i w a (b.imp (h1 i) (h2 i)) (hc i w (by omega) h)
        · rw [if_neg b] at h; exact h2 w h
theorem b_le_ext {x y : Int32} (h1 : ∀ w, bt x w = true → bt y w = true) (h2 : ∀ w, bt y w = true → bt x w = true) : x = y := b_ext' (fun i => by
  rcases a : bt x i with _ | _
  · rcases b : bt y i with _ | _
    · rfl
    · rw [h2 i b] at a; cases a
  · exact (h1 i a).symm)
theorem swO_cl (fp fc : Nat → Int32) (set : Int32) : ∀ (k i : Nat) (q : Int32 × Int32), swO fp fc set k i q = q → ∀ v, i ≤ v → v < i + k → stO fp fc set v q = q
  | 0, _, _, _, v, h1, h2 => by omega
  | k + 1, i, q, h, v, h1, h2 => by
    have h : swO fp fc set k (i + 1) (stO fp fc set i q) = q := h
    have e : stO fp fc set i q = q := by
      apply Prod.ext
      · refine b_le_ext (fun w hw => ?_) (fun w hw => (stO_up fp fc set i q w).1 hw)
        have := (swO_up fp fc set k (i + 1) (stO fp fc set i q) w).1 hw
        rw [h] at this; exact this
      · refine b_le_ext (fun w hw => ?_) (fun w hw => (stO_up fp fc set i q w).2 hw)
        have := (swO_up fp fc set k (i + 1) (stO fp fc set i q) w).2 hw
        rw [h] at this; exact this
    by_cases d : v = i
    · subst d; exact e
    · rw [e] at h
      exact swO_cl fp fc set k (i + 1) q h v (by omega) (by omega)
theorem stO_rules {fp fc : Nat → Int32} {set : Int32} {v : Nat} {q : Int32 × Int32} (h : stO fp fc set v q = q) :
    (¬ bt set v = true → (bt q.1 v = true ∨ bt q.2 v = true) → ∀ c, bt (fc v) c = true → bt q.2 c = true) ∧ (¬ bt set v = true → bt q.1 v = true → ∀ p, bt (fp v) p = true → bt q.1 p = true) ∧ (bt set v = true → bt q.2 v = true → ∀ p, bt (fp v) p = true → bt q.1 p = true) := by
  unfold stO at h
  refine ⟨fun a b c hc => ?_, fun a b p hp => ?_, fun a b p hp => ?_⟩
  · rw [if_neg a] at h
    have h2 := congrArg Prod.snd h
    have h2 : (if bt q.1 v = true ∨ bt q.2 v = true then q.2 ||| fc v else q.2) = q.2 := h2
    rw [if_pos b] at h2
    rw [← h2, b_or, hc, Bool.or_true]
  · rw [if_neg a] at h
    have h2 := congrArg Prod.fst h
    have h2 : (if bt q.1 v = true then q.1 ||| fp v else q.1) = q.1 := h2
    rw [if_pos b] at h2
    rw [← h2, b_or, hp, Bool.or_true]
  · rw [if_pos a, if_pos b] at h
    have h2 : q.1 ||| fp v = q.1 := congrArg Prod.fst h
    rw [← h2, b_or, hp, Bool.or_true]
theorem gOpen_L47_eq (n : Nat) (fp fc : Nat → Int32) (x set : Int32) (i1 : Nat) (ag0 al0 gr0 : Int32) (kk : Int32 → Int32 → Int32 → Int32) : ∀ (k i : Nat) (q : Int32 × Int32), i + k ≤ 32 →
    gOpen_L47 n fp fc x set i1 ag0 al0 gr0 kk k i q.1 q.2 = kk (swO fp fc set k i q).1 (swO fp fc set k i q).2 (if swO fp fc set k i q = (ag0, al0) then 0 else 1)
  | 0, i, q, _ => by
    rw [gOpen_L47, swO]
    by_cases a : q.1 = ag0
    · rw [if_pos a]
      by_cases b : q.2 = al0
      · rw [if_pos b, if_pos (Prod.ext a b)]
      · rw [if_neg b, if_neg (fun h => b (by rw [h]))]
    · rw [if_neg a, if_neg (fun h => a (by rw [h]))]
  | k + 1, i, q, h => by
    have ih := gOpen_L47_eq n fp fc x set i1 ag0 al0 gr0 kk k (i + 1) (stO fp fc set i q) (by omega)
    rw [swO, ← ih, gOpen_L47, nI_clamp (by omega)]
    unfold stO
    by_cases a : bt set i = true
    · rw [if_neg (hHt (by omega) a), if_pos a]
      by_cases b : bt q.2 i = true
      · rw [if_neg (hHt (by omega) b), if_pos b]
      · rw [if_pos (hHf (by omega) b), if_neg b]
    · rw [if_pos (hHf (by omega) a), if_neg a]
      by_cases b : bt q.1 i = true
      · have hor : bt (q.1 ||| q.2) i = true := by rw [b_or, b]; rfl
        rw [if_neg (hHt (by omega) hor), if_neg (hHt (by omega) b), if_pos b, if_pos (Or.inl b)]
      · by_cases c : bt q.2 i = true
        · have hor : bt (q.1 ||| q.2) i = true := by rw [b_or, c, Bool.or_true]
          rw [if_neg (hHt (by omega) hor), if_pos (hHf (by omega) b), if_neg b, if_pos (Or.inr c)]
        · have hor : ¬ bt (q.1 ||| q.2) i = true := by
            rw [b_or, Bool.or_eq_true]
            exact fun h => h.elim b c
          rw [if_pos (hHf (by omega) hor), if_pos (hHf (by omega) b), if_neg b, if_neg (fun h => h.elim b c)]
theorem gOpen_L21_0 (n : Nat) (fp fc : Nat → Int32) (x set : Int32) : ∀ (k i : Nat) (q : Int32 × Int32), gOpen_L21 n fp fc x set k i q.1 q.2 0 = q.1 ||| q.2
  | 0, _, _ => rfl
  | k + 1, i, q => by rw [gOpen_L21, if_pos rfl]
theorem gOpen_L21_eq {n : Nat} (hn : n ≤ 6) (fp fc : Nat → Int32) (x set : Int32) : ∀ (k i : Nat) (q : Int32 × Int32), gOpen_L21 n fp fc x set k i q.1 q.2 1 = (itN (swO fp fc set n 0) k q).1 ||| (itN (swO fp fc set n 0) k q).2
  | 0, _, _ => rfl
  | k + 1, i, q => by
    rw [gOpen_L21, if_neg (by decide), gOpen_L47_eq n fp fc x set i q.1 q.2 1 _ n 0 q (by omega)]
    by_cases a : swO fp fc set n 0 q = (q.1, q.2)
    · rw [if_pos a]
      have a2 : swO fp fc set n 0 q = q := a
      rw [itN_fixed a2]
      show gOpen_L21 n fp fc x set k (i + 1) (swO fp fc set n 0 q).1 (swO fp fc set n 0 q).2 0 = _
      rw [gOpen_L21_0, a2]
    · rw [if_neg a]
      exact gOpen_L21_eq hn fp fc x set k (i + 1) (swO fp fc set n 0 q)
theorem gOpen_spec {n x y : Nat} {fp fc : Nat → Int32} {set : Int32} {G : Nat → Nat → Prop} (hn : n ≤ 6) (hx : x < n) (hxy : x ≠ y) (hG : ∀ a b, G a b → a < n ∧ b < n) (hA : ∀ a b, G a b → ¬ G b a)
    (hp : ∀ v u, v < n → (bt (fp v) u = true ↔ G u v)) (hc : ∀ u v, u < n → (bt (fc u) v = true ↔ G u v)) :
    bt (gOpen n fp fc (nI x) set) y = true ↔ ∃ (v : Nat → Nat) (k : Nat), dp_way G (fun v => bt set v = true) v k ∧ v 0 = x ∧ v k = y ∧ ∀ i j, i < j → j ≤ k → v i ≠ v j := by
  have e : gOpen n fp fc (nI x) set = (itN (swO fp fc set n 0) (2 * n + 1) (fp x, fc x)).1 ||| (itN (swO fp fc set n 0) (2 * n + 1) (fp x, fc x)).2 := by
    rw [gOpen, nI_clamp (by omega)]
    exact gOpen_L21_eq hn fp fc (nI x) set (2 * n + 1) 0 (fp x, fc x)
  have hcN : dp_closed G (fun v => bt set v = true) (fun w => w < n) (fun w => w < n) := ⟨fun v c _ _ h => (hG v c h).2, fun v q _ _ h => (hG q v h).1, fun v q _ _ h => (hG q v h).1⟩
  have hT : ∀ q : Int32 × Int32, ((∀ w, bt q.1 w = true → w < n) ∧ ∀ w, bt q.2 w = true → w < n) → (∀ w, bt (swO fp fc set n 0 q).1 w = true → w < n) ∧ ∀ w, bt (swO fp fc set n 0 q).2 w = true → w < n :=
    fun q hq => swO_in (fun v u h h2 => (hp v u h).mp h2) (fun u v h h2 => (hc u v h).mp h2) hcN n 0 q (by omega) hq.1 hq.2
  have h0 : (∀ w, bt (fp x) w = true → w < n) ∧ ∀ w, bt (fc x) w = true → w < n := ⟨fun w h => (hG w x ((hp x w hx).mp h)).1, fun w h => (hG x w ((hc x w hx).mp h)).2⟩
  have hst : swO fp fc set n 0 (itN (swO fp fc set n 0) (2 * n + 1) (fp x, fc x)) = itN (swO fp fc set n 0) (2 * n + 1) (fp x, fc x) := by
    refine itN_stays (I := fun q : Int32 × Int32 => (∀ w, bt q.1 w = true → w < n) ∧ ∀ w, bt q.2 w = true → w < n) (μ := fun q => cb (bt q.1) n + cb (bt q.2) n) (N := 2 * n) hT (fun q _ => ?_) (fun q hq hne => ?_) (2 * n + 1) (fp x, fc x) h0 (by omega)
    · have h1 := cb_le (bt q.1) n
      have h2 := cb_le (bt q.2) n
      show cb (bt q.1) n + cb (bt q.2) n ≤ 2 * n
      omega
    · have m1 := cb_mono (f := bt q.1) (g := bt (swO fp fc set n 0 q).1) n (fun i _ h => (swO_up fp fc set n 0 q i).1 h)
      have m2 := cb_mono (f := bt q.2) (g := bt (swO fp fc set n 0 q).2) n (fun i _ h => (swO_up fp fc set n 0 q i).2 h)
      show cb (bt q.1) n + cb (bt q.2) n < cb (bt (swO fp fc set n 0 q).1) n + cb (bt (swO fp fc set n 0 q).2) n
      by_cases d1 : (swO fp fc set n 0 q).1 = q.1
      · have d2 : ¬ (swO fp fc set n 0 q).2 = q.2 := fun d2 => hne (Prod.ext d1 d2)
        have := cb_lt (f := bt q.2) (g := bt (swO fp fc set n 0 q).2) n (fun i _ h => (swO_up fp fc set n 0 q i).2 h) (Classical.byContradiction (fun hno => d2 (b_le_ext (fun w hw => by
          rcases hb : bt q.2 w with _ | _
          · exact absurd ⟨w, (hT q hq).2 w hw, hb, hw⟩ hno
          · rfl) (fun w hw => (swO_up fp fc set n 0 q w).2 hw))))
        omega
      · have := cb_lt (f := bt q.1) (g := bt (swO fp fc set n 0 q).1) n (fun i _ h => (swO_up fp fc set n 0 q i).1 h) (Classical.byContradiction (fun hno => d1 (b_le_ext (fun w hw => by
          rcases hb : bt q.1 w with _ | _
          · exact absurd ⟨w, (hT q hq).1 w hw, hb, hw⟩ hno
          · rfl) (fun w hw => (swO_up fp fc set n 0 q w).1 hw))))
        omega
  have hbnd := itN_inv (I := fun q : Int32 × Int32 => (∀ w, bt q.1 w = true → w < n) ∧ ∀ w, bt q.2 w = true → w < n) hT (2 * n + 1) (fp x, fc x) h0
  have hsnd := itN_inv (I := fun q : Int32 × Int32 => (∀ w, bt q.1 w = true → dp_A G (fun v => bt set v = true) x w) ∧ ∀ w, bt q.2 w = true → dp_B G (fun v => bt set v = true) x w)
    (fun q hq => swO_in (fun v u h h2 => (hp v u h).mp h2) (fun u v h h2 => (hc u v h).mp h2) (dp_AB_closed hA x) n 0 q (by omega) hq.1 hq.2) (2 * n + 1) (fp x, fc x) ⟨fun w h => dp_A0 ((hp x w hx).mp h), fun w h => dp_B0 ((hc x w hx).mp h)⟩
  have hup := itN_inv (I := fun q : Int32 × Int32 => (∀ w, bt (fp x) w = true → bt q.1 w = true) ∧ ∀ w, bt (fc x) w = true → bt q.2 w = true)
    (fun q hq => ⟨fun w h => (swO_up fp fc set n 0 q w).1 (hq.1 w h), fun w h => (swO_up fp fc set n 0 q w).2 (hq.2 w h)⟩) (2 * n + 1) (fp x, fc x) ⟨fun _ h => h, fun _ h => h⟩
  rw [e]
  generalize itN (swO fp fc set n 0) (2 * n + 1) (fp x, fc x) = q at hst hbnd hsnd hup ⊢
  rw [b_or, Bool.or_eq_true]
  have hcl : dp_closed G (fun v => bt set v = true) (fun w => bt q.1 w = true) (fun w => bt q.2 w = true) := by
    have hr : ∀ v, v < n → stO fp fc set v q = q := fun v hv => swO_cl fp fc set n 0 q hst v (by omega) (by omega)
    refine ⟨fun v c a b g => ?_, fun v p a b g => ?_, fun v p a b g => ?_⟩
    · exact (stO_rules (hr v (hG v c g).1)).1 a b c ((hc v c (hG v c g).1).mpr g)
    · exact (stO_rules (hr v (hG p v g).2)).2.1 a b p ((hp v p (hG p v g).2).mpr g)
    · exact (stO_rules (hr v (hG p v g).2)).2.2 a b p ((hp v p (hG p v g).2).mpr g)
  exact dp_main hA hxy hcl (fun p g => hup.1 p ((hp x p hx).mpr g)) (fun c g => hup.2 c ((hc x c hx).mpr g)) hsnd.1 hsnd.2
end
section
/-! the reference's search for open paths -/
/-- the graph of a table of 6 times 6 -/
def gM (n : Nat) (mh : Nat → Int32) : Nat → Nat → Prop := fun a b => a < n ∧ b < n ∧ ¬ mh (6 * a + b) = 0
theorem mJoin_eq {n : Nat} {mh : Nat → Int32} (hn : n ≤ 6) {a b : Nat} (ha : a < n) (hb : b < n) : mJoin mh (nI a) (nI b) = 0 ↔ ¬ (gM n mh a b ∨ gM n mh b a) := by
  unfold mJoin gM
  rw [vz_ixC (by omega) (by omega), vz_ixC (by omega) (by omega)]
  by_cases h1 : mh (6 * a + b) = 0
  · rw [if_pos h1]
    by_cases h2 : mh (6 * b + a) = 0
    · rw [if_pos h2]
      exact ⟨fun _ => fun q => q.elim (fun z => z.2.2 h1) (fun z => z.2.2 h2), fun _ => rfl⟩
    · rw [if_neg h2]
      exact ⟨fun q => absurd q (by decide), fun q => absurd (Or.inr ⟨hb, ha, h2⟩) q⟩
  · rw [if_neg h1]
    exact ⟨fun q => absurd q (by decide), fun q => absurd (Or.inl ⟨ha, hb, h1⟩) q⟩
section DF
variable {n : Nat} {mh mp0 mx0 mr0 : Nat → Int32} {x y : Nat} {set : Int32} {K0 i3 : Nat} {r3 : Nat → Int32}
/-- the loop of allBlocked -/
abbrev dD (n : Nat) (mh mp0 mx0 mr0 : Nat → Int32) (x y : Nat) (set : Int32) (K0 i3 : Nat) (r3 : Nat → Int32) (k M : Nat) (p q : Nat → Int32) := mAll_L48 n mh mp0 mx0 mr0 (nI x) (nI y) set K0 i3 r3 k M p q
theorem dD_s {k M : Nat} {p q : Nat → Int32} (h1 : 1 ≤ M) (h6 : M ≤ 6) : dD n mh mp0 mx0 mr0 x y set K0 i3 r3 (k + 1) M p q =
    if q (M - 1) = nI n then (if p (M - 1) = nI y then (if mBlocked mh p r3 M set = 0 then some (0, p, q, r3) else dD n mh mp0 mx0 mr0 x y set K0 i3 r3 k (M - 1) p q) else dD n mh mp0 mx0 mr0 x y set K0 i3 r3 k (M - 1) p q)
    else (if p (M - 1) = nI y then (if mBlocked mh p r3 M set = 0 then some (0, p, q, r3) else dD n mh mp0 mx0 mr0 x y set K0 i3 r3 k (M - 1) p q)
      else (if mJoin mh (p (M - 1)) (q (M - 1)) = 0 then dD n mh mp0 mx0 mr0 x y set K0 i3 r3 k M p (upd q (M - 1) (q (M - 1) + 1))
        else (if mOnPath p (q (M - 1)) M = 0 then dD n mh mp0 mx0 mr0 x y set K0 i3 r3 k (M + 1) (upd p M (q (M - 1))) (upd (upd q (M - 1) (q (M - 1) + 1)) M 0)
          else dD n mh mp0 mx0 mr0 x y set K0 i3 r3 k M p (upd q (M - 1) (q (M - 1) + 1))))) := by
  have hM : ¬ nI M ≤ 0 := by
    rw [← nI_0, nI_leI (by omega) (by omega)]; omega
  show mAll_L48 n mh mp0 mx0 mr0 (nI x) (nI y) set K0 i3 r3 (k + 1) M p q = _
  rw [mAll_L48, if_neg hM, dInv_ix h1 h6, nI_clamp (show M < 2 ^ 31 by omega)]
/-- an open path of different nodes from x to y, of m steps -/
def dGood (n : Nat) (mh : Nat → Int32) (x y : Nat) (set : Int32) (w : Nat → Nat) (m : Nat) : Prop :=
  dp_way (gM n mh) (fun v => bt set v = true) w m ∧ w 0 = x ∧ w m = y ∧ ∀ i j, i < j → j ≤ m → w i ≠ w j
def dfE (n : Nat) (mh : Nat → Int32) (x y : Nat) (set : Int32) (M j : Nat) (v : Nat → Nat) : Prop :=
  ∃ (w : Nat → Nat) (m : Nat), M ≤ m ∧ (∀ t, t < M → w t = v t) ∧ j ≤ w M ∧ dGood n mh x y set w m
def dfH (n : Nat) (mh : Nat → Int32) (x y : Nat) (M j : Nat) (p q : Nat → Int32) (v : Nat → Nat) : Prop :=
  1 ≤ M ∧ M ≤ n ∧ (∀ t, t < M → v t < n ∧ p t = nI (v t)) ∧ (∀ s t, s < t → t < M → v s ≠ v t) ∧ (∀ t, t + 1 < M → gM n mh (v t) (v (t + 1)) ∨ gM n mh (v (t + 1)) (v t)) ∧ v 0 = x ∧ v (M - 1) ≠ y ∧ q (M - 1) = nI j
def dfC (n : Nat) (mh mp0 mx0 mr0 : Nat → Int32) (x y : Nat) (set : Int32) (K0 i3 : Nat) (r3 : Nat → Int32) (M j : Nat) (p q : Nat → Int32) (v : Nat → Nat) : Prop :=
  (dfE n mh x y set M j v → ∃ (k : Nat) (r : Int32 × (Nat → Int32) × (Nat → Int32) × (Nat → Int32)), r.1 = 0 ∧ ∀ k', dD n mh mp0 mx0 mr0 x y set K0 i3 r3 (k + k') M p q = some r) ∧
  (¬ dfE n mh x y set M j v → ∃ (k : Nat) (p' q' : Nat → Int32), (∀ t, t < M - 1 → p' t = p t ∧ q' t = q t) ∧ ∀ k', dD n mh mp0 mx0 mr0 x y set K0 i3 r3 (k + k') M p q = dD n mh mp0 mx0 mr0 x y set K0 i3 r3 k' (M - 1) p' q')
/-- a path on the stack lets through just when blocked says no -/
theorem mBlocked_L2_eq (hn : n ≤ 6) (hr : ∀ c, c < n → ∀ w, bt (r3 c) w = true ↔ dp_Reach (gM n mh) c w) {p : Nat → Int32} {v : Nat → Nat} {M : Nat} (hM : M ≤ 6) (hv : ∀ t, t < M → v t < n ∧ p t = nI (v t)) : ∀ (k i : Nat), 1 ≤ i → i + k + 1 = M →
    (mBlocked_L2 mh p r3 M set k i = 0 ↔ ∀ t, i ≤ t → t < i + k → dp_ok (gM n mh) (fun v => bt set v = true) (v (t - 1)) (v t) (v (t + 1)))
  | 0, i, _, _ => ⟨fun _ t h1 h2 => by omega, fun _ => rfl⟩
  | k + 1, i, h1, hk => by
    have ih := mBlocked_L2_eq hn hr hM hv k (i + 1) (by omega) (by omega)
    have e0 : p (nI i - 1).toNatClampNeg = nI (v (i - 1)) := by rw [vz_sub1 h1, nI_clamp (by omega)]; exact (hv (i - 1) (by omega)).2
    have e1 : p (nI i).toNatClampNeg = nI (v i) := by rw [nI_clamp (by omega)]; exact (hv i (by omega)).2
    have e2 : p (nI i + 1).toNatClampNeg = nI (v (i + 1)) := by rw [nI_1, nI_clamp (by omega)]; exact (hv (i + 1) (by omega)).2
    have b0 := (hv (i - 1) (by omega)).1
    have b1 := (hv i (by omega)).1
    have b2 := (hv (i + 1) (by omega)).1
    rw [mBlocked_L2, e0, e1, e2, vz_ixC (by omega) (by omega), vz_ixC (by omega) (by omega), nI_clamp (show v i < 2 ^ 31 by omega)]
    have split : (∀ t, i ≤ t → t < i + (k + 1) → dp_ok (gM n mh) (fun v => bt set v = true) (v (t - 1)) (v t) (v (t + 1))) ↔ dp_ok (gM n mh) (fun v => bt set v = true) (v (i - 1)) (v i) (v (i + 1)) ∧ ∀ t, i + 1 ≤ t → t < i + 1 + k → dp_ok (gM n mh) (fun v => bt set v = true) (v (t - 1)) (v t) (v (t + 1)) := by
      constructor
      · intro h
        exact ⟨h i (by omega) (by omega), fun t a b => h t (by omega) (by omega)⟩
      · intro h t a b
        by_cases c : t = i
        · subst c; exact h.1
        · exact h.2 t (by omega) (by omega)
    have non : ¬ (gM n mh (v (i - 1)) (v i) ∧ gM n mh (v (i + 1)) (v i)) → ((if (set >>> (nI (v i) &&& 31)) &&& 1 = 1 then (1 : Int32) else mBlocked_L2 mh p r3 M set k (i + 1)) = 0 ↔ dp_ok (gM n mh) (fun v => bt set v = true) (v (i - 1)) (v i) (v (i + 1)) ∧ ∀ t, i + 1 ≤ t → t < i + 1 + k → dp_ok (gM n mh) (fun v => bt set v = true) (v (t - 1)) (v t) (v (t + 1))) := by
      intro hno
      by_cases c : (set >>> (nI (v i) &&& 31)) &&& 1 = 1
      · rw [if_pos c]
        refine ⟨fun z => absurd z (by decide), fun z => absurd ((b_at1 set (by omega)).mp c) (z.1.2 hno)⟩
      · rw [if_neg c, ih]
        exact ⟨fun z => ⟨⟨fun g1 g2 => absurd ⟨g1, g2⟩ hno, fun _ q => c ((b_at1 set (by omega)).mpr q)⟩, z⟩, fun z => z.2⟩
    rw [split]
    by_cases c1 : mh (6 * v (i - 1) + v i) = 0
    · rw [if_pos c1]
      exact non (fun q => q.1.2.2 c1)
    · rw [if_neg c1]
      by_cases c2 : mh (6 * v (i + 1) + v i) = 0
      · rw [if_pos c2]
        exact non (fun q => q.2.2.2 c2)
      · rw [if_neg c2]
        have col : gM n mh (v (i - 1)) (v i) ∧ gM n mh (v (i + 1)) (v i) := ⟨⟨b0, b1, c1⟩, ⟨b2, b1, c2⟩⟩
        by_cases c : r3 (v i) &&& set = 0
        · rw [if_pos c]
          refine ⟨fun z => absurd z (by decide), fun z => ?_⟩
          obtain ⟨w, hw, hre⟩ := z.1.1 col.1 col.2
          have := b_eq0.mp c w
          rw [b_and, (hr (v i) b1 w).mpr hre, hw] at this
          cases this
        · rw [if_neg c, ih]
          refine ⟨fun z => ⟨⟨fun _ _ => ?_, fun q => absurd col q⟩, z⟩, fun z => z.2⟩
          refine Classical.byContradiction (fun hno => c (b_eq0.mpr (fun w => ?_)))
          rw [b_and]
          rcases a1 : bt (r3 (v i)) w with _ | _
          · rfl
          · rcases a2 : bt set w with _ | _
            · rfl
            · exact absurd ⟨w, a2, (hr (v i) b1 w).mp a1⟩ hno
theorem mBlocked_eq (hn : n ≤ 6) (hr : ∀ c, c < n → ∀ w, bt (r3 c) w = true ↔ dp_Reach (gM n mh) c w) {p : Nat → Int32} {v : Nat → Nat} {M : Nat} (hM2 : 2 ≤ M) (hM : M ≤ 6) (hv : ∀ t, t < M → v t < n ∧ p t = nI (v t)) :
    mBlocked mh p r3 M set = 0 ↔ ∀ t, t + 1 < M - 1 → dp_ok (gM n mh) (fun v => bt set v = true) (v t) (v (t + 1)) (v (t + 2)) := by
  rw [mBlocked, mBlocked_L2_eq hn hr hM hv (M - 1 - 1) 1 (by omega) (by omega)]
  constructor
  · intro h t ht
    have := h (t + 1) (by omega) (by omega)
    rw [show t + 1 - 1 = t by omega] at this
    exact this
  · intro h t h1 h2
    have := h (t - 1) (by omega)
    rw [show t - 1 + 1 = t by omega, show t - 1 + 2 = t + 1 by omega] at this
    exact this
theorem dfE_le {M j : Nat} {v : Nat → Nat} (h : dfE n mh x y set M (j + 1) v) : dfE n mh x y set M j v := by
  obtain ⟨w, m, h1, h2, h3, h4⟩ := h
  exact ⟨w, m, h1, h2, by omega, h4⟩
theorem dfC_step {M j c : Nat} {p q pA qA : Nat → Int32} {v : Nat → Nat} (hs : ∀ k', dD n mh mp0 mx0 mr0 x y set K0 i3 r3 (c + k') M p q = dD n mh mp0 mx0 mr0 x y set K0 i3 r3 k' M pA qA) (hag : ∀ t, t < M - 1 → pA t = p t ∧ qA t = q t)
    (hE : dfE n mh x y set M j v → dfE n mh x y set M (j + 1) v) (C : dfC n mh mp0 mx0 mr0 x y set K0 i3 r3 M (j + 1) pA qA v) : dfC n mh mp0 mx0 mr0 x y set K0 i3 r3 M j p q v := by
  refine ⟨fun h => ?_, fun h => ?_⟩
  · obtain ⟨k, r, h0, hk⟩ := C.1 (hE h)
    exact ⟨c + k, r, h0, fun k' => by rw [Nat.add_assoc, hs]; exact hk k'⟩
  · obtain ⟨k, p', q', ha, hk⟩ := C.2 (fun h' => h (dfE_le h'))
    exact ⟨c + k, p', q', fun t ht => ⟨(ha t ht).1.trans (hag t ht).1, (ha t ht).2.trans (hag t ht).2⟩, fun k' => by rw [Nat.add_assoc, hs]; exact hk k'⟩
/-- one frame of the stack, all its neighbours from j on -/
theorem dfs_in (hn : n ≤ 6) (hyn : y < n) (hr : ∀ c, c < n → ∀ w, bt (r3 c) w = true ↔ dp_Reach (gM n mh) c w) {M : Nat} (hpush : M + 1 ≤ n → ∀ p q v, dfH n mh x y (M + 1) 0 p q v → dfC n mh mp0 mx0 mr0 x y set K0 i3 r3 (M + 1) 0 p q v) :
    ∀ (d j : Nat), j + d = n → ∀ p q v, dfH n mh x y M j p q v → dfC n mh mp0 mx0 mr0 x y set K0 i3 r3 M j p q v
  | 0, j, hj, p, q, v, H => by
    obtain ⟨h1, hMn, hv, hd, ha, h0, hy, hq⟩ := H
    have hjn : j = n := by omega
    subst hjn
    have hpy : ¬ p (M - 1) = nI y := by
      rw [(hv (M - 1) (by omega)).2]
      have b := (hv (M - 1) (by omega)).1
      exact fun e => hy ((nI_eq (by omega) (by omega)).mp e)
    refine ⟨fun ⟨w, m, hm, hw, hge, hg⟩ => ?_, fun _ => ⟨1, p, q, fun _ _ => ⟨rfl, rfl⟩, fun k' => ?_⟩⟩
    · exfalso
      have := hg.1.1 (M - 1) (by omega)
      rw [show M - 1 + 1 = M by omega] at this
      rcases this with g | g
      · have := g.2.1; omega
      · have := g.1; omega
    · rw [Nat.add_comm, dD_s h1 (by omega), if_pos hq, if_neg hpy]
  | d + 1, j, hj, p, q, v, H => by
    have IH := dfs_in hn hyn hr hpush d (j + 1) (by omega)
    obtain ⟨h1, hMn, hv, hd, ha, h0, hy, hq⟩ := H
    have bV := (hv (M - 1) (by omega)).1
    have pV := (hv (M - 1) (by omega)).2
    have hpy : ¬ p (M - 1) = nI y := by
      rw [pV]
      exact fun e => hy ((nI_eq (by omega) (by omega)).mp e)
    have hqn : ¬ q (M - 1) = nI n := by
      rw [hq]
      exact fun e => absurd ((nI_eq (by omega) (by omega)).mp e) (by omega)
    have hq1 : upd q (M - 1) (q (M - 1) + 1) (M - 1) = nI (j + 1) := by rw [pk_us, hq, nI_1]
    have hqlo : ∀ t, t < M - 1 → upd q (M - 1) (q (M - 1) + 1) t = q t := fun t ht => pk_un (by omega)
    -- the neighbour j is passed over
    have over : (∀ k', dD n mh mp0 mx0 mr0 x y set K0 i3 r3 (1 + k') M p q = dD n mh mp0 mx0 mr0 x y set K0 i3 r3 k' M p (upd q (M - 1) (q (M - 1) + 1))) → (∀ (w : Nat → Nat) (m : Nat), M ≤ m → (∀ t, t < M → w t = v t) → w M = j → ¬ dGood n mh x y set w m) → dfC n mh mp0 mx0 mr0 x y set K0 i3 r3 M j p q v := by
      intro hs hno
      refine dfC_step hs (fun t ht => ⟨rfl, hqlo t ht⟩) (fun ⟨w, m, e1, e2, e3, e4⟩ => ?_) (IH p _ v ⟨h1, hMn, hv, hd, ha, h0, hy, hq1⟩)
      by_cases c : w M = j
      · exact absurd e4 (hno w m e1 e2 c)
      · exact ⟨w, m, e1, e2, by omega, e4⟩
    by_cases cJ : mJoin mh (p (M - 1)) (q (M - 1)) = 0
    · refine over (fun k' => by rw [Nat.add_comm, dD_s h1 (by omega), if_neg hqn, if_neg hpy, if_pos cJ]) (fun w m e1 e2 e3 hg => ?_)
      rw [pV, hq, mJoin_eq hn bV (by omega)] at cJ
      have := hg.1.1 (M - 1) (by omega)
      rw [show M - 1 + 1 = M by omega, e3, e2 (M - 1) (by omega)] at this
      exact cJ this
    · by_cases cO : mOnPath p (q (M - 1)) M = 0
      · -- pushed
        have hno : ∀ t, t < M → v t ≠ j := by
          rw [mOnPath_eq (by omega)] at cO
          intro t ht e
          apply cO t ht
          rw [hq, (hv t ht).2, e]
        have hMlt : M < n := by
          have := pigeon n (M + 1) (fun t => if t < M then v t else j) (fun t ht => by
            show (if t < M then v t else j) < n
            split
            · exact (hv t (by assumption)).1
            · omega) (fun s t hst ht => by
            show (if s < M then v s else j) ≠ (if t < M then v t else j)
            rw [if_pos (by omega)]
            by_cases c : t < M
            · rw [if_pos c]; exact hd s t hst c
            · rw [if_neg c]; exact hno s (by omega))
          omega
        have adjV : gM n mh (v (M - 1)) j ∨ gM n mh j (v (M - 1)) := by
          rw [pV, hq, mJoin_eq hn bV (by omega)] at cJ
          exact Classical.not_not.mp cJ
        have hs1 : ∀ k', dD n mh mp0 mx0 mr0 x y set K0 i3 r3 (1 + k') M p q = dD n mh mp0 mx0 mr0 x y set K0 i3 r3 k' (M + 1) (upd p M (q (M - 1))) (upd (upd q (M - 1) (q (M - 1) + 1)) M 0) := fun k' => by
          rw [Nat.add_comm, dD_s h1 (by omega), if_neg hqn, if_neg hpy, if_neg cJ, if_pos cO]
        -- the new stack
        have hv2 : ∀ t, t < M + 1 → (if t = M then j else v t) < n ∧ upd p M (q (M - 1)) t = nI (if t = M then j else v t) := fun t ht => by
          by_cases c : t = M
          · subst c
            rw [if_pos rfl, pk_us]; exact ⟨by omega, hq⟩
          · rw [if_neg c, pk_un c]; exact hv t (by omega)
        have hd2 : ∀ s t, s < t → t < M + 1 → (if s = M then j else v s) ≠ (if t = M then j else v t) := fun s t hst ht => by
          rw [if_neg (show s ≠ M by omega)]
          by_cases c : t = M
          · rw [if_pos c]; exact hno s (by omega)
          · rw [if_neg c]; exact hd s t hst (by omega)
        have ha2 : ∀ t, t + 1 < M + 1 → gM n mh (if t = M then j else v t) (if t + 1 = M then j else v (t + 1)) ∨ gM n mh (if t + 1 = M then j else v (t + 1)) (if t = M then j else v t) := fun t ht => by
          rw [if_neg (show t ≠ M by omega)]
          by_cases c : t + 1 = M
          · rw [if_pos c, show t = M - 1 by omega]; exact adjV
          · rw [if_neg c]; exact ha t (by omega)
        have q2lo : ∀ t, t < M → upd (upd q (M - 1) (q (M - 1) + 1)) M 0 t = upd q (M - 1) (q (M - 1) + 1) t := fun t ht => pk_un (by omega)
        by_cases cy : j = y
        · -- the path has come to y
          have hp2 : upd p M (q (M - 1)) M = nI y := by rw [pk_us, hq, cy]
          have hq2 : ¬ upd (upd q (M - 1) (q (M - 1) + 1)) M 0 M = nI n := by
            rw [pk_us, ← nI_0]
            exact fun e => absurd ((nI_eq (by omega) (by omega)).mp e) (by omega)
          have hs2 : ∀ k', dD n mh mp0 mx0 mr0 x y set K0 i3 r3 (2 + k') M p q = if mBlocked mh (upd p M (q (M - 1))) r3 (M + 1) set = 0 then some (0, upd p M (q (M - 1)), upd (upd q (M - 1) (q (M - 1) + 1)) M 0, r3) else dD n mh mp0 mx0 mr0 x y set K0 i3 r3 k' M (upd p M (q (M - 1))) (upd (upd q (M - 1) (q (M - 1) + 1)) M 0) := fun k' => by
            rw [show 2 + k' = 1 + (k' + 1) by omega, hs1, dD_s (show 1 ≤ M + 1 by omega) (by omega), Nat.add_sub_cancel, if_neg hq2, if_pos hp2]
          have bl := mBlocked_eq (set := set) hn hr (show 2 ≤ M + 1 by omega) (by omega) hv2
          by_cases cb : mBlocked mh (upd p M (q (M - 1))) r3 (M + 1) set = 0
          · have hE : dfE n mh x y set M j v := by
              refine ⟨fun t => if t = M then j else v t, M, Nat.le_refl _, fun t ht => if_neg (by omega), ?_, ⟨fun t ht => ha2 t (by omega), fun t ht => ?_⟩, ?_, ?_, fun i k hik hk => hd2 i k hik (by omega)⟩
              · show j ≤ (if M = M then j else v M)
                rw [if_pos rfl]; exact Nat.le_refl _
              · exact bl.mp cb t (by omega)
              · show (if 0 = M then j else v 0) = x
                rw [if_neg (by omega)]; exact h0
              · show (if M = M then j else v M) = y
                rw [if_pos rfl]; exact cy
            refine ⟨fun _ => ⟨2, (0, upd p M (q (M - 1)), upd (upd q (M - 1) (q (M - 1) + 1)) M 0, r3), rfl, fun k' => by rw [hs2, if_pos cb]⟩, fun hne => absurd hE hne⟩
          · refine dfC_step (c := 2) (fun k' => by rw [hs2, if_neg cb]) (fun t ht => ⟨pk_un (by omega), (q2lo t (by omega)).trans (hqlo t ht)⟩) (fun ⟨w, m, e1, e2, e3, e4⟩ => ?_)
              (IH (upd p M (q (M - 1))) (upd (upd q (M - 1) (q (M - 1) + 1)) M 0) v ⟨h1, hMn, fun t ht => ⟨(hv t ht).1, by rw [pk_un (by omega)]; exact (hv t ht).2⟩, hd, ha, h0, hy, by rw [q2lo _ (by omega)]; exact hq1⟩)
            by_cases c : w M = j
            · exfalso
              have hmM : m = M := by
                rcases Nat.lt_or_ge M m with g | g
                · exact absurd (c.trans (cy.trans e4.2.2.1.symm)) (e4.2.2.2 M m g (Nat.le_refl _))
                · omega
              subst hmM
              have ew : ∀ t, t < m + 1 → w t = (if t = m then j else v t) := fun t ht => by
                by_cases g : t = m
                · rw [if_pos g, g]; exact c
                · rw [if_neg g]; exact e2 t (by omega)
              refine cb (bl.mpr (fun t ht => ?_))
              have := e4.1.2 t (by omega)
              rw [ew t (by omega), ew (t + 1) (by omega), ew (t + 2) (by omega)] at this
              exact this
            · exact ⟨w, m, e1, e2, by omega, e4⟩
        · have C' := hpush (by omega) (upd p M (q (M - 1))) (upd (upd q (M - 1) (q (M - 1) + 1)) M 0) (fun t => if t = M then j else v t) ⟨by omega, by omega, hv2, hd2, ha2, by
            show (if 0 = M then j else v 0) = x
            rw [if_neg (by omega)]; exact h0, by
            show (if M + 1 - 1 = M then j else v (M + 1 - 1)) ≠ y
            rw [if_pos (by omega)]; exact cy, by
            rw [Nat.add_sub_cancel, pk_us]; exact nI_0.symm⟩
          by_cases cE : dfE n mh x y set (M + 1) 0 (fun t => if t = M then j else v t)
          · obtain ⟨k, r, hr0, hk⟩ := C'.1 cE
            refine ⟨fun _ => ⟨1 + k, r, hr0, fun k' => by rw [Nat.add_assoc, hs1]; exact hk k'⟩, fun hne => ?_⟩
            exfalso
            obtain ⟨w, m, e1, e2, e3, e4⟩ := cE
            refine hne ⟨w, m, by omega, fun t ht => ?_, ?_, e4⟩
            · rw [e2 t (by omega)]; exact if_neg (by omega)
            · rw [e2 M (by omega)]
              show j ≤ (if M = M then j else v M)
              rw [if_pos rfl]; exact Nat.le_refl _
          · obtain ⟨k, p', q', hag, hk⟩ := C'.2 cE
            rw [Nat.add_sub_cancel] at hag hk
            refine dfC_step (c := 1 + k) (fun k' => by rw [Nat.add_assoc, hs1]; exact hk k') (fun t ht => ⟨(hag t (by omega)).1.trans (pk_un (by omega)), (hag t (by omega)).2.trans ((q2lo t (by omega)).trans (hqlo t ht))⟩) (fun ⟨w, m, e1, e2, e3, e4⟩ => ?_)
              (IH p' q' v ⟨h1, hMn, fun t ht => ⟨(hv t ht).1, by rw [(hag t ht).1, pk_un (by omega)]; exact (hv t ht).2⟩, hd, ha, h0, hy, by rw [(hag (M - 1) (by omega)).2, q2lo _ (by omega)]; exact hq1⟩)
            by_cases c : w M = j
            · exfalso
              have hmM : M + 1 ≤ m := by
                rcases Nat.lt_or_ge M m with g | g
                · exact g
                · have : m = M := by omega
                  subst this
                  exact absurd (c.symm.trans e4.2.2.1) cy
              refine cE ⟨w, m, hmM, fun t ht => ?_, Nat.zero_le _, e4⟩
              show w t = (if t = M then j else v t)
              by_cases g : t = M
              · rw [if_pos g, g]; exact c
              · rw [if_neg g]; exact e2 t (by omega)
            · exact ⟨w, m, e1, e2, by omega, e4⟩
      · refine over (fun k' => by rw [Nat.add_comm, dD_s h1 (by omega), if_neg hqn, if_neg hpy, if_neg cJ, if_neg cO]) (fun w m e1 e2 e3 hg => cO ?_)
        rw [mOnPath_eq (by omega)]
        intro t ht e
        rw [hq, (hv t ht).2] at e
        have hvt := (hv t ht).1
        have e5 : v t = j := (nI_eq (by omega) (by omega)).mp e
        exact hg.2.2.2 t M ht e1 (by rw [e2 t ht, e5, e3])
theorem dfs_out (hn : n ≤ 6) (hyn : y < n) (hr : ∀ c, c < n → ∀ w, bt (r3 c) w = true ↔ dp_Reach (gM n mh) c w) : ∀ (e M : Nat), M + e = n → ∀ p q v, dfH n mh x y M 0 p q v → dfC n mh mp0 mx0 mr0 x y set K0 i3 r3 M 0 p q v
  | 0, M, h => dfs_in hn hyn hr (fun h2 => absurd h2 (by omega)) n 0 (by omega)
  | e + 1, M, h => dfs_in hn hyn hr (fun _ => dfs_out hn hyn hr e (M + 1) (by omega)) n 0 (by omega)
theorem dD_mono : ∀ (k d M : Nat) (p q : Nat → Int32) (r : Int32 × (Nat → Int32) × (Nat → Int32) × (Nat → Int32)), dD n mh mp0 mx0 mr0 x y set K0 i3 r3 k M p q = some r → dD n mh mp0 mx0 mr0 x y set K0 i3 r3 (k + d) M p q = some r
  | 0, d, M, p, q, r, h => by cases h
  | k + 1, d, M, p, q, r, h => by
    rw [Nat.add_right_comm]
    have h : mAll_L48 n mh mp0 mx0 mr0 (nI x) (nI y) set K0 i3 r3 (k + 1) M p q = some r := h
    show mAll_L48 n mh mp0 mx0 mr0 (nI x) (nI y) set K0 i3 r3 (k + d + 1) M p q = some r
    rw [mAll_L48] at h ⊢
    by_cases c1 : nI M ≤ 0
    · rw [if_pos c1] at h ⊢; exact h
    · rw [if_neg c1] at h ⊢
      by_cases c2 : q (nI M - 1).toNatClampNeg = nI n
      · rw [if_pos c2] at h ⊢
        by_cases c3 : p (nI M - 1).toNatClampNeg = nI y
        · rw [if_pos c3] at h ⊢
          by_cases c4 : mBlocked mh p r3 M set = 0
          · rw [if_pos c4] at h ⊢; exact h
          · rw [if_neg c4] at h ⊢; exact dD_mono k d _ _ _ r h
        · rw [if_neg c3] at h ⊢; exact dD_mono k d _ _ _ r h
      · rw [if_neg c2] at h ⊢
        by_cases c3 : p (nI M - 1).toNatClampNeg = nI y
        · rw [if_pos c3] at h ⊢
          by_cases c4 : mBlocked mh p r3 M set = 0
          · rw [if_pos c4] at h ⊢; exact h
          · rw [if_neg c4] at h ⊢; exact dD_mono k d _ _ _ r h
        · rw [if_neg c3] at h ⊢
          by_cases c5 : mJoin mh (p (nI M - 1).toNatClampNeg) (q (nI M - 1).toNatClampNeg) = 0
          · rw [if_pos c5] at h ⊢; exact dD_mono k d _ _ _ r h
          · rw [if_neg c5] at h ⊢
            by_cases c6 : mOnPath p (q (nI M - 1).toNatClampNeg) M = 0
            · rw [if_pos c6] at h ⊢; exact dD_mono k d _ _ _ r h
            · rw [if_neg c6] at h ⊢; exact dD_mono k d _ _ _ r h
theorem dD_K (K1 : Nat) : ∀ (k M : Nat) (p q : Nat → Int32), dD n mh mp0 mx0 mr0 x y set K0 i3 r3 k M p q = dD n mh mp0 mx0 mr0 x y set K1 i3 r3 k M p q
  | 0, _, _, _ => rfl
  | k + 1, M, p, q => by
    show mAll_L48 n mh mp0 mx0 mr0 (nI x) (nI y) set K0 i3 r3 (k + 1) M p q = mAll_L48 n mh mp0 mx0 mr0 (nI x) (nI y) set K1 i3 r3 (k + 1) M p q
    have ih : ∀ (M : Nat) (p q : Nat → Int32), mAll_L48 n mh mp0 mx0 mr0 (nI x) (nI y) set K0 i3 r3 k M p q = mAll_L48 n mh mp0 mx0 mr0 (nI x) (nI y) set K1 i3 r3 k M p q := dD_K K1 k
    rw [mAll_L48, mAll_L48]
    simp only [ih]
end DF
/-- the table of reached sets -/
def frR (n : Nat) (mh : Nat → Int32) : Nat → Nat → (Nat → Int32) → Nat → Int32
  | 0, _, r => r
  | k + 1, i, r => frR n mh k (i + 1) (upd r i (mReach n mh (nI i)))
theorem frR_lo (n : Nat) (mh : Nat → Int32) : ∀ (k i : Nat) (r : Nat → Int32) (v : Nat), v < i → frR n mh k i r v = r v
  | 0, _, _, _, _ => rfl
  | k + 1, i, r, v, h => by
    rw [frR, frR_lo n mh k (i + 1) _ v (by omega), pk_un (by omega)]
theorem frR_at (n : Nat) (mh : Nat → Int32) : ∀ (k i : Nat) (r : Nat → Int32) (v : Nat), i ≤ v → v < i + k → frR n mh k i r v = mReach n mh (nI v)
  | 0, _, _, _, h1, h2 => by omega
  | k + 1, i, r, v, h1, h2 => by
    rw [frR]
    by_cases c : v = i
    · subst c; rw [frR_lo n mh k (v + 1) _ v (by omega), pk_us]
    · exact frR_at n mh k (i + 1) _ v (by omega) (by omega)
theorem mAll_L3_eq (n : Nat) (mh mp mx mr : Nat → Int32) (x0 y0 set : Int32) (K : Nat) : ∀ (k i : Nat) (r : Nat → Int32), i + k ≤ 6 → mAll_L3 n mh mp mx mr x0 y0 set K k i r = mAll_L48 n mh mp mx mr x0 y0 set K (i + k) (frR n mh k i r) K 1 (upd mp 0 x0) (upd mx 0 0)
  | 0, i, r, _ => by
    rw [mAll_L3, cl0]; rfl
  | k + 1, i, r, h => by
    rw [mAll_L3, nI_clamp (by omega), mAll_L3_eq n mh mp mx mr x0 y0 set K k (i + 1) _ (by omega), frR, show i + 1 + k = i + (k + 1) by omega]
theorem mAll_spec {n : Nat} (hn : n ≤ 6) (mh mp mx mr : Nat → Int32) {x y : Nat} (hx : x < n) (hy : y < n) (hxy : x ≠ y) (set : Int32) :
    ∃ (K : Nat) (r : Int32 × (Nat → Int32) × (Nat → Int32) × (Nat → Int32)), mAll n mh mp mx mr (nI x) (nI y) set K = some r ∧ (r.1 = 0 ∨ r.1 = 1) ∧ (r.1 = 0 ↔ ∃ w m, dGood n mh x y set w m) ∧ ∀ K' r', mAll n mh mp mx mr (nI x) (nI y) set K' = some r' → r' = r := by
  have eA : ∀ K, mAll n mh mp mx mr (nI x) (nI y) set K = dD n mh mp mx mr x y set 0 n (frR n mh n 0 mr) K 1 (upd mp 0 (nI x)) (upd mx 0 0) := fun K => by
    rw [mAll, mAll_L3_eq n mh mp mx mr _ _ set K n 0 mr (by omega), Nat.zero_add]
    exact dD_K 0 K 1 _ _
  have hr : ∀ c, c < n → ∀ w, bt (frR n mh n 0 mr c) w = true ↔ dp_Reach (gM n mh) c w := fun c hc w => by
    rw [frR_at n mh n 0 mr c (by omega) (by omega)]
    exact mReach_spec hn hc (fun a b h => ⟨h.1, h.2.1⟩) (fun a b ha hb => ⟨fun h => ⟨ha, hb, h⟩, fun h => h.2.2⟩) w
  have hH : dfH n mh x y 1 0 (upd mp 0 (nI x)) (upd mx 0 0) (fun _ => x) := ⟨Nat.le_refl _, by omega, fun t ht => by
    have : t = 0 := by omega
    subst this
    exact ⟨hx, pk_us⟩, fun s t h1 h2 => by omega, fun t h => by omega, rfl, hxy, by rw [Nat.sub_self, pk_us]; exact nI_0.symm⟩
  have hE : dfE n mh x y set 1 0 (fun _ => x) ↔ ∃ w m, dGood n mh x y set w m := by
    constructor
    · intro ⟨w, m, _, _, _, h⟩; exact ⟨w, m, h⟩
    · intro ⟨w, m, h⟩
      refine ⟨w, m, ?_, fun t ht => ?_, Nat.zero_le _, h⟩
      · rcases Nat.eq_zero_or_pos m with e | e
        · subst e; exact absurd (h.2.1.symm.trans h.2.2.1) hxy
        · exact e
      · have : t = 0 := by omega
        subst this; exact h.2.1
  have hC := dfs_out (mp0 := mp) (mx0 := mx) (mr0 := mr) (set := set) (K0 := 0) (i3 := n) hn hy hr (n - 1) 1 (by omega) _ _ _ hH
  have uniq : ∀ K r, mAll n mh mp mx mr (nI x) (nI y) set K = some r → ∀ K' r', mAll n mh mp mx mr (nI x) (nI y) set K' = some r' → r' = r := fun K r h K' r' h' => by
    rw [eA] at h h'
    have a := dD_mono K K' _ _ _ _ h
    have b := dD_mono K' K _ _ _ _ h'
    rw [Nat.add_comm, a] at b
    exact (Option.some.inj b).symm
  by_cases c : dfE n mh x y set 1 0 (fun _ => x)
  · obtain ⟨k, r, h0, hk⟩ := hC.1 c
    have h := hk 0
    rw [Nat.add_zero] at h
    have h2 : mAll n mh mp mx mr (nI x) (nI y) set k = some r := by rw [eA]; exact h
    exact ⟨k, r, h2, Or.inl h0, ⟨fun _ => hE.mp c, fun _ => h0⟩, uniq k r h2⟩
  · obtain ⟨k, p', q', _, hk⟩ := hC.2 c
    have h := hk 1
    have h3 : dD n mh mp mx mr x y set 0 n (frR n mh n 0 mr) 1 (1 - 1) p' q' = some (1, p', q', frR n mh n 0 mr) := by
      show mAll_L48 n mh mp mx mr (nI x) (nI y) set 0 n (frR n mh n 0 mr) (0 + 1) 0 p' q' = _
      rw [mAll_L48, if_pos (by decide)]
    rw [h3] at h
    have h2 : mAll n mh mp mx mr (nI x) (nI y) set (k + 1) = some (1, p', q', frR n mh n 0 mr) := by rw [eA]; exact h
    exact ⟨k + 1, _, h2, Or.inr rfl, ⟨fun e => absurd (show (1 : Int32) = 0 from e) (by decide), fun e => absurd (hE.mpr e) c⟩, uniq _ _ h2⟩
theorem mAllT_spec {n : Nat} (hn : n ≤ 6) (mh mp mx mr : Nat → Int32) {x y : Nat} (hx : x < n) (hy : y < n) (hxy : x ≠ y) (set : Int32) :
    (∃ K, mAll n mh mp mx mr (nI x) (nI y) set K = some (mAllT n mh mp mx mr (nI x) (nI y) set)) ∧ ((mAllT n mh mp mx mr (nI x) (nI y) set).1 = 0 ∨ (mAllT n mh mp mx mr (nI x) (nI y) set).1 = 1) ∧ ((mAllT n mh mp mx mr (nI x) (nI y) set).1 = 0 ↔ ∃ w m, dGood n mh x y set w m) := by
  obtain ⟨K, r, h1, h2, h3, h4⟩ := mAll_spec hn mh mp mx mr hx hy hxy set
  have hs : ∃ K, mAll n mh mp mx mr (nI x) (nI y) set K = some (mAllT n mh mp mx mr (nI x) (nI y) set) := Classical.epsilon_spec (p := fun rr => ∃ K, mAll n mh mp mx mr (nI x) (nI y) set K = some rr) ⟨r, K, h1⟩
  obtain ⟨K', h5⟩ := hs
  have e := h4 K' _ h5
  rw [e]
  rw [e] at h5
  exact ⟨⟨K', h5⟩, h2, h3⟩
end
section
/-! class and reference hold the same graph: the answers that change nothing -/
def gRel (n : Nat) (fp fc mh : Nat → Int32) : Prop :=
  (∀ a b, a < 6 → b < 6 → ¬ mh (6 * a + b) = 0 → a < n ∧ b < n ∧ a ≠ b ∧ mh (6 * b + a) = 0) ∧ (∀ v, v < n → ∀ u, bt (fp v) u = true ↔ u < n ∧ ¬ mh (6 * u + v) = 0) ∧ (∀ u, u < n → ∀ v, bt (fc u) v = true ↔ v < n ∧ ¬ mh (6 * u + v) = 0) ∧ is01 mh
section RL
variable {n : Nat} {fp fc mh : Nat → Int32}
theorem gRel.anti (hn : n ≤ 6) (h : gRel n fp fc mh) (a b : Nat) (g : gM n mh a b) : ¬ gM n mh b a := fun g2 => g2.2.2 (h.1 a b (by have := g.1; omega) (by have := g.2.1; omega) g.2.2).2.2.2
theorem gRel.hasP (hn : n ≤ 6) (h : gRel n fp fc mh) {a b : Nat} (ha : a < n) (hb : b < n) : gHas fp (nI a) (nI b) = 0 ↔ mh (6 * a + b) = 0 := by
  unfold gHas
  rw [nI_clamp (by omega), hH0 _ (by omega)]
  have := h.2.1 b hb a
  constructor
  · intro h1
    refine Classical.byContradiction (fun h2 => ?_)
    rw [this.mpr ⟨ha, h2⟩] at h1; cases h1
  · intro h1
    rcases h2 : bt (fp b) a with _ | _
    · rfl
    · exact absurd h1 (this.mp h2).2
theorem gRel.joinP (hn : n ≤ 6) (h : gRel n fp fc mh) {a b : Nat} (ha : a < n) (hb : b < n) : gJoins fp (nI a) (nI b) = 0 ↔ mJoin mh (nI a) (nI b) = 0 := by
  unfold gJoins mJoin
  rw [vz_ixC (by omega) (by omega), vz_ixC (by omega) (by omega)]
  by_cases c : mh (6 * a + b) = 0
  · rw [if_pos ((h.hasP hn ha hb).mpr c), if_pos c]
    by_cases d : mh (6 * b + a) = 0
    · rw [if_pos ((h.hasP hn hb ha).mpr d), if_pos d]
    · rw [if_neg (fun e => d ((h.hasP hn hb ha).mp e)), if_neg d]
  · rw [if_neg (fun e => c ((h.hasP hn ha hb).mp e)), if_neg c]
theorem pair_cases (hn : n ≤ 6) (u v : Int32) : (xPair n u v = 0 ∧ mPair n u v = 0) ∨ (¬ xPair n u v = 0 ∧ ¬ mPair n u v = 0 ∧ ∃ a b, a < n ∧ b < n ∧ a ≠ b ∧ u = nI a ∧ v = nI b) := by
  by_cases h : xPair n u v = 0
  · exact Or.inl ⟨h, h⟩
  · obtain ⟨h1, h2, h3⟩ := xPair_in hn h
    obtain ⟨a, ha, rfl⟩ := vp_in_of h1 (by omega)
    obtain ⟨b, hb, rfl⟩ := vp_in_of h2 (by omega)
    exact Or.inr ⟨h, h, a, b, ha, hb, fun e => h3 (by rw [e]), rfl, rfl⟩
theorem node_cases (hn : n ≤ 6) (u : Int32) : (xNode n u = 0 ∧ mNode n u = 0) ∨ (¬ xNode n u = 0 ∧ ¬ mNode n u = 0 ∧ ∃ a, a < n ∧ u = nI a) := by
  by_cases h : xNode n u = 0
  · exact Or.inl ⟨h, h⟩
  · obtain ⟨a, ha, rfl⟩ := vp_in_of (xNode_in hn h) (by omega)
    exact Or.inr ⟨h, h, a, ha, rfl⟩
theorem xNode_nI (hn : n ≤ 6) {a : Nat} (ha : a < n) : ¬ xNode n (nI a) = 0 := by
  unfold xNode
  rw [if_neg (nI_pos (by omega)), if_neg (nI_ge ha (by omega))]
  decide
theorem xPair_nI (hn : n ≤ 6) {a b : Nat} (ha : a < n) (hb : b < n) (hab : a ≠ b) : ¬ xPair n (nI a) (nI b) = 0 := by
  unfold xPair
  rw [if_neg (xNode_nI hn ha), if_neg (xNode_nI hn hb), if_neg (fun e => hab ((nI_eq (by omega) (by omega)).mp e))]
  decide
theorem eq_drawn (hn : n ≤ 6) (h : gRel n fp fc mh) (u v : Int32) : xDrawn n fp u v = mDrawn n mh u v := by
  unfold xDrawn mDrawn
  rcases pair_cases hn u v with ⟨h1, h2⟩ | ⟨h1, h2, a, b, ha, hb, hab, rfl, rfl⟩
  · rw [if_pos h1, if_pos h2]
  · rw [if_neg h1, if_neg h2, vz_ixC (by omega) (by omega)]
    by_cases c : mh (6 * a + b) = 0
    · rw [if_pos ((h.hasP hn ha hb).mpr c), if_pos c]
    · rw [if_neg (fun e => c ((h.hasP hn ha hb).mp e)), if_neg c]
/-- adding a bit that isn't there -/
theorem add_bit {x : Int32} {i : Nat} (hi : i < 32) (h : bt x i = false) : x + (1 : Int32) <<< (nI i &&& 31) = x ||| (1 : Int32) <<< (nI i &&& 31) := by
  apply Int32.toBitVec_inj.mp
  rw [Int32.toBitVec_add, Int32.toBitVec_or]
  apply BitVec.add_eq_or_of_and_eq_zero
  apply BitVec.eq_of_getLsbD_eq
  intro j hj
  rw [BitVec.getLsbD_and]
  show (bt x j && bt ((1 : Int32) <<< (nI i &&& 31)) j) = _
  rw [b_one hi, BitVec.getLsbD_zero]
  by_cases c : j = i
  · rw [c, h]; rfl
  · rw [decide_eq_false c, Bool.and_false]
theorem mParents_L14_bt (hn : n ≤ 6) {v : Nat} (hv : v < 6) : ∀ (k i : Nat) (st : Int32), i + k ≤ 6 → (∀ w, bt st w = true → w < i) → ∀ w, bt (mParents_L14 n mh (nI v) k i st) w = true ↔ bt st w = true ∨ (i ≤ w ∧ w < i + k ∧ ¬ mh (6 * w + v) = 0)
  | 0, i, st, _, _, w => ⟨fun h => Or.inl h, fun h => h.elim id (fun h => by omega)⟩
  | k + 1, i, st, hk, hs, w => by
    rw [mParents_L14, vz_ixC (by omega) hv]
    have hbi : bt st i = false := by
      rcases hb : bt st i with _ | _
      · rfl
      · exact absurd (hs i hb) (by omega)
    by_cases c : mh (6 * i + v) = 0
    · rw [if_pos c, mParents_L14_bt hn hv k (i + 1) st (by omega) (fun w h => by have := hs w h; omega) w]
      constructor
      · rintro (h | h)
        · exact Or.inl h
        · exact Or.inr ⟨by omega, by omega, h.2.2⟩
      · rintro (h | h)
        · exact Or.inl h
        · refine Or.inr ⟨?_, by omega, h.2.2⟩
          by_cases d : w = i
          · rw [d] at h; exact absurd c h.2.2
          · omega
    · rw [if_neg c, add_bit (by omega) hbi, mParents_L14_bt hn hv k (i + 1) _ (by omega) (fun w h => ?_) w]
      · rw [b_or, Bool.or_eq_true, b_one (by omega), decide_eq_true_iff]
        constructor
        · rintro ((h | h) | h)
          · exact Or.inl h
          · rw [h]; exact Or.inr ⟨by omega, by omega, c⟩
          · exact Or.inr ⟨by omega, by omega, h.2.2⟩
        · rintro (h | h)
          · exact Or.inl (Or.inl h)
          · by_cases d : w = i
            · exact Or.inl (Or.inr d)
            · exact Or.inr ⟨by omega, by omega, h.2.2⟩
      · rw [b_or, Bool.or_eq_true, b_one (by omega), decide_eq_true_iff] at h
        rcases h with h | h
        · have := hs w h; omega
        · omega
theorem b_iff {x y : Int32} (h : ∀ w, bt x w = true ↔ bt y w = true) : x = y := b_le_ext (fun w => (h w).mp) (fun w => (h w).mpr)
theorem par_nI (hn : n ≤ 6) (h : gRel n fp fc mh) {v : Nat} (hv : v < n) : mParents n mh (nI v) = fp v := by
  unfold mParents
  rw [if_neg (show ¬ mNode n (nI v) = 0 from xNode_nI hn hv)]
  refine b_iff (fun w => ?_)
  rw [mParents_L14_bt hn (by omega) n 0 0 (by omega) (fun w h => by rw [b_0] at h; cases h) w, h.2.1 v hv w, b_0]
  constructor
  · rintro (h | h)
    · cases h
    · exact ⟨by omega, h.2.2⟩
  · intro h; exact Or.inr ⟨by omega, by omega, h.2⟩
theorem eq_parents (hn : n ≤ 6) (h : gRel n fp fc mh) (v : Int32) : xParents n fp v = mParents n mh v := by
  rcases node_cases hn v with ⟨h1, h2⟩ | ⟨h1, h2, a, ha, rfl⟩
  · unfold xParents mParents; rw [if_pos h1, if_pos h2]
  · rw [par_nI hn h ha]
    unfold xParents
    rw [if_neg h1, nI_clamp (by omega)]
theorem gRel.gC (h : gRel n fp fc mh) : ∀ u v, u < n → (bt (fc u) v = true ↔ gM n mh u v) := fun u v hu => ⟨fun q => ⟨hu, ((h.2.2.1 u hu v).mp q).1, ((h.2.2.1 u hu v).mp q).2⟩, fun q => (h.2.2.1 u hu v).mpr ⟨q.2.1, q.2.2⟩⟩
theorem gRel.gP (h : gRel n fp fc mh) : ∀ v u, v < n → (bt (fp v) u = true ↔ gM n mh u v) := fun v u hv => ⟨fun q => ⟨((h.2.1 v hv u).mp q).1, hv, ((h.2.1 v hv u).mp q).2⟩, fun q => (h.2.1 v hv u).mpr ⟨q.1, q.2.2⟩⟩
theorem gM_in : ∀ a b, gM n mh a b → a < n ∧ b < n := fun _ _ h => ⟨h.1, h.2.1⟩
theorem reach_nI (hn : n ≤ 6) (h : gRel n fp fc mh) {u : Nat} (hu : u < n) : gReach n fc (nI u) = mReach n mh (nI u) := b_iff (fun w => by
  rw [gReach_spec hn hu gM_in h.gC w, mReach_spec hn hu gM_in (fun a b ha hb => ⟨fun q => ⟨ha, hb, q⟩, fun q => q.2.2⟩) w])
theorem eq_reached (hn : n ≤ 6) (h : gRel n fp fc mh) (u : Int32) : xReached n fc u = mReached n mh u := by
  unfold xReached mReached
  rcases node_cases hn u with ⟨h1, h2⟩ | ⟨h1, h2, a, ha, rfl⟩
  · rw [if_pos h1, if_pos h2]
  · rw [if_neg h1, if_neg h2, reach_nI hn h ha]
theorem eq_covered (hn : n ≤ 6) (h : gRel n fp fc mh) (u v : Int32) : xCov n fp u v = mCov n mh u v := by
  unfold xCov mCov
  rw [eq_drawn hn h]
  by_cases c : mDrawn n mh u v = 0
  · rw [if_pos c, if_pos c]
  · rw [if_neg c, if_neg c]
    have hp : ¬ mPair n u v = 0 := fun e => c (by unfold mDrawn; rw [if_pos e])
    obtain ⟨h1, h2, -⟩ := mPair_in hn hp
    obtain ⟨a, ha, rfl⟩ := vp_in_of h1 (by omega)
    obtain ⟨b, hb, rfl⟩ := vp_in_of h2 (by omega)
    rw [par_nI hn h ha, par_nI hn h hb, nI_clamp (by omega), nI_clamp (by omega)]
theorem xAround_bt (hn : n ≤ 6) (h : gRel n fp fc mh) {u : Nat} (hu : u < n) : ∀ (k i : Nat) (f : Int32), i + k ≤ n → ∀ w, bt (xAround_L32 n fp fc (nI u) k i f) w = true ↔ (bt f w = true ∨ ∃ c, i ≤ c ∧ c < i + k ∧ gM n mh u c ∧ gM n mh w c) ∧ w ≠ u
  | 0, i, f, _, w => by
    rw [xAround_L32, b_clr f (by omega)]
    exact ⟨fun q => ⟨Or.inl q.1, q.2⟩, fun q => ⟨q.1.elim id (fun ⟨c, h1, h2, _⟩ => by omega), q.2⟩⟩
  | k + 1, i, f, hk, w => by
    rw [xAround_L32]
    by_cases c : mh (6 * u + i) = 0
    · rw [if_pos ((h.hasP hn hu (by omega)).mpr c), xAround_bt hn h hu k (i + 1) f (by omega) w]
      refine and_congr_left (fun _ => or_congr_right ⟨fun ⟨d, h1, h2, h3⟩ => ⟨d, by omega, by omega, h3⟩, fun ⟨d, h1, h2, h3⟩ => ⟨d, ?_, by omega, h3⟩⟩)
      by_cases e : d = i
      · rw [e] at h3; exact absurd c h3.1.2.2
      · omega
    · rw [if_neg (fun e => c ((h.hasP hn hu (by omega)).mp e)), xAround_bt hn h hu k (i + 1) _ (by omega) w, nI_clamp (by omega), b_or, Bool.or_eq_true, h.gP i w (by omega)]
      refine and_congr_left (fun _ => ?_)
      constructor
      · rintro ((q | q) | ⟨d, h1, h2, h3⟩)
        · exact Or.inl q
        · exact Or.inr ⟨i, by omega, by omega, ⟨hu, by omega, c⟩, q⟩
        · exact Or.inr ⟨d, by omega, by omega, h3⟩
      · rintro (q | ⟨d, h1, h2, h3⟩)
        · exact Or.inl (Or.inl q)
        · by_cases e : d = i
          · rw [e] at h3; exact Or.inl (Or.inr h3.2)
          · exact Or.inr ⟨d, by omega, by omega, h3⟩
theorem mAround_bt (hn : n ≤ 6) (h : gRel n fp fc mh) {u : Nat} (hu : u < n) : ∀ (k i : Nat) (f : Int32), i + k ≤ n → ∀ w, bt (mAround_L18 n mh (nI u) k i f) w = true ↔ (bt f w = true ∨ ∃ c, i ≤ c ∧ c < i + k ∧ gM n mh u c ∧ (w = c ∨ gM n mh w c)) ∧ w ≠ u
  | 0, i, f, _, w => by
    rw [mAround_L18, b_clr f (by omega)]
    exact ⟨fun q => ⟨Or.inl q.1, q.2⟩, fun q => ⟨q.1.elim id (fun ⟨c, h1, h2, _⟩ => by omega), q.2⟩⟩
  | k + 1, i, f, hk, w => by
    rw [mAround_L18, vz_ixC (by omega) (by omega)]
    by_cases c : mh (6 * u + i) = 0
    · rw [if_pos c, mAround_bt hn h hu k (i + 1) f (by omega) w]
      refine and_congr_left (fun _ => or_congr_right ⟨fun ⟨d, h1, h2, h3⟩ => ⟨d, by omega, by omega, h3⟩, fun ⟨d, h1, h2, h3⟩ => ⟨d, ?_, by omega, h3⟩⟩)
      by_cases e : d = i
      · rw [e] at h3; exact absurd c h3.1.2.2
      · omega
    · rw [if_neg c, mAround_bt hn h hu k (i + 1) _ (by omega) w, par_nI hn h (by omega), b_or, b_or, Bool.or_eq_true, Bool.or_eq_true, h.gP i w (by omega), b_one (by omega), decide_eq_true_iff]
      refine and_congr_left (fun _ => ?_)
      constructor
      · rintro (((q | q) | q) | ⟨d, h1, h2, h3⟩)
        · exact Or.inl q
        · exact Or.inr ⟨i, by omega, by omega, ⟨hu, by omega, c⟩, Or.inl q⟩
        · exact Or.inr ⟨i, by omega, by omega, ⟨hu, by omega, c⟩, Or.inr q⟩
        · exact Or.inr ⟨d, by omega, by omega, h3⟩
      · rintro (q | ⟨d, h1, h2, h3⟩)
        · exact Or.inl (Or.inl (Or.inl q))
        · by_cases e : d = i
          · rw [e] at h3
            rcases h3.2 with g | g
            · exact Or.inl (Or.inl (Or.inr g))
            · exact Or.inl (Or.inr g)
          · exact Or.inr ⟨d, by omega, by omega, h3⟩
theorem eq_around (hn : n ≤ 6) (h : gRel n fp fc mh) (u : Int32) : xAround n fp fc u = mAround n mh u := by
  unfold xAround mAround
  rcases node_cases hn u with ⟨h1, h2⟩ | ⟨h1, h2, a, ha, rfl⟩
  · rw [if_pos h1, if_pos h2]
  · rw [if_neg h1, if_neg h2, par_nI hn h ha, nI_clamp (by omega)]
    refine b_iff (fun w => ?_)
    rw [xAround_bt hn h ha n 0 _ (by omega) w, mAround_bt hn h ha n 0 _ (by omega) w, b_or, Bool.or_eq_true]
    refine and_congr_left (fun _ => ?_)
    constructor
    · rintro ((q | q) | ⟨c, h1, h2, h3⟩)
      · exact Or.inl q
      · have g := (h.gC a w ha).mp q
        exact Or.inr ⟨w, by omega, by have := g.2.1; omega, g, Or.inl rfl⟩
      · exact Or.inr ⟨c, h1, h2, h3.1, Or.inr h3.2⟩
    · rintro (q | ⟨c, h1, h2, h3, h4⟩)
      · exact Or.inl (Or.inl q)
      · rcases h4 with e | e
        · rw [← e] at h3; exact Or.inl (Or.inr ((h.gC a w ha).mpr h3))
        · exact Or.inr ⟨c, h1, h2, h3, e⟩
/-- SEPARATED -/
theorem eq_separated (hn : n ≤ 6) (h : gRel n fp fc mh) (mp mx mr : Nat → Int32) (x0 y0 set : Int32) : xSep n fp fc x0 y0 set = (mSep n mh mp mx mr x0 y0 set).1 := by
  unfold xSep mSep
  rcases pair_cases hn x0 y0 with ⟨h1, h2⟩ | ⟨h1, h2, a, b, ha, hb, hab, rfl, rfl⟩
  · rw [if_pos h1, if_pos h2]
  · rw [if_neg h1, if_neg h2]
    by_cases c1 : set < 0
    · rw [if_pos c1, if_pos c1]
    · rw [if_neg c1, if_neg c1]
      by_cases c2 : (1 : Int32) <<< (nI n &&& 31) ≤ set
      · rw [if_pos c2, if_pos c2]
      · rw [if_neg c2, if_neg c2]
        by_cases c3 : bt set a = true
        · rw [if_neg (hHt (by omega) c3), if_pos ((b_at1 set (by omega)).mpr c3)]
        · rw [if_pos (hHf (by omega) c3), if_neg (fun e => c3 ((b_at1 set (by omega)).mp e))]
          by_cases c4 : bt set b = true
          · rw [if_neg (hHt (by omega) c4), if_pos ((b_at1 set (by omega)).mpr c4)]
          · rw [if_pos (hHf (by omega) c4), if_neg (fun e => c4 ((b_at1 set (by omega)).mp e))]
            obtain ⟨-, h01, hiff⟩ := mAllT_spec hn mh mp mx mr ha hb hab set
            have ho := gOpen_spec (set := set) hn ha hab gM_in (h.anti hn) h.gP h.gC
            show _ = (mAllT n mh mp mx mr (nI a) (nI b) set).1
            by_cases c5 : bt (gOpen n fp fc (nI a) set) b = true
            · rw [if_neg (hHt (by omega) c5)]
              exact (hiff.mpr (by
                obtain ⟨w, m, e1, e2, e3, e4⟩ := ho.mp c5
                exact ⟨w, m, e1, e2, e3, e4⟩)).symm
            · rw [if_pos (hHf (by omega) c5)]
              rcases h01 with e | e
              · obtain ⟨w, m, e1, e2, e3, e4⟩ := hiff.mp e
                exact absurd (ho.mpr ⟨w, m, e1, e2, e3, e4⟩) c5
              · exact e.symm
end RL
end
section
/-! sums; bit counts -/
def sm (f : Nat → Nat) : Nat → Nat → Nat
  | 0, _ => 0
  | k + 1, i => f i + sm f k (i + 1)
theorem sm_top (f : Nat → Nat) : ∀ k i, sm f (k + 1) i = sm f k i + f (i + k)
  | 0, i => by
    show f i + 0 = 0 + f (i + 0)
    rw [Nat.add_zero, Nat.add_zero, Nat.zero_add]
  | k + 1, i => by
    show f i + sm f (k + 1) (i + 1) = f i + sm f k (i + 1) + f (i + (k + 1))
    rw [sm_top f k (i + 1), show i + 1 + k = i + (k + 1) by omega]; omega
theorem sm_congr {f g : Nat → Nat} : ∀ k i, (∀ t, i ≤ t → t < i + k → f t = g t) → sm f k i = sm g k i
  | 0, _, _ => rfl
  | k + 1, i, h => by
    show f i + _ = g i + _
    rw [h i (by omega) (by omega), sm_congr k (i + 1) (fun t h1 h2 => h t (by omega) (by omega))]
theorem sm_add (f g : Nat → Nat) : ∀ k i, sm (fun t => f t + g t) k i = sm f k i + sm g k i
  | 0, _ => rfl
  | k + 1, i => by
    show f i + g i + _ = f i + _ + (g i + _)
    rw [sm_add f g k (i + 1)]; omega
theorem sm_0 : ∀ k i, sm (fun _ => 0) k i = 0
  | 0, _ => rfl
  | k + 1, i => by show 0 + _ = 0; rw [sm_0 k (i + 1)]
theorem sm_swap (g : Nat → Nat → Nat) (k2 i2 : Nat) : ∀ k1 i1, sm (fun a => sm (fun b => g a b) k2 i2) k1 i1 = sm (fun b => sm (fun a => g a b) k1 i1) k2 i2
  | 0, i1 => (sm_0 k2 i2).symm
  | k1 + 1, i1 => by
    show sm (fun b => g i1 b) k2 i2 + sm (fun a => sm (fun b => g a b) k2 i2) k1 (i1 + 1) = sm (fun b => g i1 b + sm (fun a => g a b) k1 (i1 + 1)) k2 i2
    rw [sm_swap g k2 i2 k1 (i1 + 1), sm_add]
theorem sm_le {f : Nat → Nat} {c : Nat} (h : ∀ t, f t ≤ c) : ∀ k i, sm f k i ≤ k * c
  | 0, _ => by show 0 ≤ _; omega
  | k + 1, i => by
    have h1 := h i
    have h2 := sm_le h k (i + 1)
    have e : (k + 1) * c = k * c + c := Nat.succ_mul k c
    show f i + sm f k (i + 1) ≤ (k + 1) * c
    omega
theorem cb_sm (f : Nat → Bool) : ∀ n, cb f n = sm (fun t => if f t = true then 1 else 0) n 0
  | 0 => rfl
  | n + 1 => by
    rw [sm_top, cb, cb_sm f n, Nat.zero_add]
/-- the sum from u + 1 on -/
theorem sm_above (f : Nat → Nat) (u : Nat) : ∀ n, u < n → sm (fun t => if u < t then f t else 0) n 0 = sm f (n - (u + 1)) (u + 1)
  | 0, h => by omega
  | n + 1, h => by
    rw [sm_top, Nat.zero_add]
    by_cases c : u < n
    · rw [sm_above f u n c, if_pos c, show n + 1 - (u + 1) = (n - (u + 1)) + 1 by omega, sm_top, show u + 1 + (n - (u + 1)) = n by omega]
    · have e : n = u := by omega
      subst e
      rw [if_neg c, Nat.sub_self]
      show _ + 0 = 0
      rw [sm_congr n 0 (fun t _ ht => if_neg (show ¬ n < t by omega)), sm_0]
/-- a sum over all pairs is twice the sum over the rising ones -/
theorem sm_sym (g : Nat → Nat → Nat) (hs : ∀ a b, g a b = g b a) (h0 : ∀ a, g a a = 0) : ∀ n, sm (fun a => sm (fun b => g a b) n 0) n 0 = 2 * sm (fun a => sm (fun b => g a b) (n - (a + 1)) (a + 1)) n 0
  | 0 => rfl
  | n + 1 => by
    have ih := sm_sym g hs h0 n
    have e1 : sm (fun a => sm (fun b => g a b) (n + 1) 0) (n + 1) 0 = sm (fun a => sm (fun b => g a b) n 0) n 0 + sm (fun a => g a n) n 0 + sm (fun b => g n b) n 0 := by
      rw [sm_top, Nat.zero_add]
      have : sm (fun a => sm (fun b => g a b) (n + 1) 0) n 0 = sm (fun a => sm (fun b => g a b) n 0) n 0 + sm (fun a => g a n) n 0 := by
        rw [← sm_add]
        exact sm_congr n 0 (fun t _ _ => by rw [sm_top, Nat.zero_add])
      rw [this, sm_top, Nat.zero_add, h0]
      omega
    have e2 : sm (fun b => g n b) n 0 = sm (fun a => g a n) n 0 := sm_congr n 0 (fun t _ _ => hs n t)
    have e3 : sm (fun a => sm (fun b => g a b) (n + 1 - (a + 1)) (a + 1)) (n + 1) 0 = sm (fun a => sm (fun b => g a b) (n - (a + 1)) (a + 1)) n 0 + sm (fun a => g a n) n 0 := by
      rw [sm_top, Nat.zero_add, Nat.sub_self]
      show sm (fun a => sm (fun b => g a b) (n + 1 - (a + 1)) (a + 1)) n 0 + 0 = _
      rw [Nat.add_zero, ← sm_add]
      refine sm_congr n 0 (fun t _ ht => ?_)
      rw [show n + 1 - (t + 1) = (n - (t + 1)) + 1 by omega, sm_top, show t + 1 + (n - (t + 1)) = n by omega]
    rw [e1, e2, e3, ih]; omega
/-- numbers below 512 by their bits -/
theorem of_bits {x : Int32} {m : Nat} (hm : m ≤ 9) (h : ∀ w, bt x w = true → w < m) : ∃ k, k < 2 ^ m ∧ x = nI k := by
  refine ⟨x.toBitVec.toNat, Nat.lt_pow_two_of_testBit _ (fun i hi => ?_), ?_⟩
  · rcases hb : x.toBitVec.toNat.testBit i with _ | _
    · rfl
    · have : bt x i = true := by
        unfold bt
        rw [BitVec.getLsbD]
        exact hb
      have := h i this; omega
  · apply Int32.toBitVec_inj.1
    show x.toBitVec = BitVec.ofNat 32 x.toBitVec.toNat
    simp
theorem bc_all : ∀ k, k < 512 → bitCount (nI k) = nI (cb (bt (nI k)) 9) := by decide +kernel
theorem ms_all : ∀ k, k < 64 → mSize (nI k) = nI (cb (bt (nI k)) 9) := by decide +kernel
theorem cb_ge (f : Nat → Bool) : ∀ (n d : Nat), (∀ i, n ≤ i → f i = false) → cb f (n + d) = cb f n
  | n, 0, _ => rfl
  | n, d + 1, h => by
    show cb f (n + d) + (if f (n + d) = true then 1 else 0) = _
    rw [cb_ge f n d h, if_neg (by rw [h (n + d) (by omega)]; decide), Nat.add_zero]
theorem bc_eq {x : Int32} {m : Nat} (hm : m ≤ 9) (h : ∀ w, bt x w = true → w < m) : bitCount x = nI (cb (bt x) m) := by
  obtain ⟨k, hk, rfl⟩ := of_bits hm h
  have h2 := vz_p512 hm
  rw [bc_all k (by omega)]
  congr 1
  rw [show 9 = m + (9 - m) by omega]
  exact cb_ge _ m (9 - m) (fun i hi => by
    rcases hb : bt (nI k) i with _ | _
    · rfl
    · have := h i hb; omega)
end
section
/-! separator and separations -/
section SP
variable {n : Nat} {fp fc mh : Nat → Int32}
/-- is the pair separated by set number i? -/
def sepB (n : Nat) (fp fc : Nat → Int32) (x0 y0 : Int32) (i : Nat) : Bool := decide (¬ xSep n fp fc x0 y0 (nI i) = 0)
def pcn (i : Nat) : Nat := cb (bt (nI i)) 9
theorem sepB_size (hn : n ≤ 6) {x0 y0 : Int32} {i : Nat} (hi : i < 2 ^ n) (h : sepB n fp fc x0 y0 i = true) : pcn i < n := by
  have h := of_decide_eq_true h
  rcases pair_cases hn x0 y0 with ⟨h1, h2⟩ | ⟨h1, h2, a, b, ha, hb, hab, rfl, rfl⟩
  · exact absurd (by unfold xSep; rw [if_pos h1]) h
  · have hna : bt (nI i) a = false := by
      rcases hb : bt (nI i) a with _ | _
      · rfl
      · refine absurd ?_ h
        unfold xSep
        rw [if_neg h1]
        by_cases c1 : nI i < 0
        · rw [if_pos c1]
        · rw [if_neg c1]
          by_cases c2 : (1 : Int32) <<< (nI n &&& 31) ≤ nI i
          · rw [if_pos c2]
          · rw [if_neg c2, if_neg (hHt (by omega) hb)]
    have hbit : ∀ w, bt (nI i) w = true → w < n := fun w hw => by
      have h64 := vz_p64 hn
      have e : bt (nI i) w = i.testBit w := by
        unfold bt
        show (BitVec.ofNat 32 i).getLsbD w = _
        rw [BitVec.getLsbD_ofNat]
        have := b_lt hw
        simp [this]
      rw [e] at hw
      rcases Nat.lt_or_ge w n with q | q
      · exact q
      · have : i < 2 ^ w := Nat.lt_of_lt_of_le hi (Nat.pow_le_pow_right (by decide) q)
        rw [Nat.testBit_lt_two_pow this] at hw; cases hw
    have h1 : pcn i = cb (bt (nI i)) n := by
      unfold pcn
      rw [show 9 = n + (9 - n) by omega]
      exact cb_ge _ n (9 - n) (fun j hj => by
        rcases hc : bt (nI i) j with _ | _
        · rfl
        · have := hbit j hc; omega)
    rw [h1]
    have h2 := cb_lt (f := bt (nI i)) (g := fun _ => true) n (fun _ _ _ => rfl) ⟨a, ha, hna, rfl⟩
    have h3 := cb_le (fun _ => true) n
    omega
/-- the best so far -/
def bestOf (S : Nat → Bool) (i : Nat) (be bs : Int32) (n : Nat) : Prop :=
  (be = -1 ∧ bs = nI n ∧ ∀ j, j < i → S j = false) ∨ ∃ j, j < i ∧ be = nI j ∧ bs = nI (pcn j) ∧ S j = true ∧ ∀ j', j' < i → S j' = true → pcn j < pcn j' ∨ (pcn j = pcn j' ∧ j ≤ j')
theorem xSepr_best (hn : n ≤ 6) (x0 y0 : Int32) : ∀ (k i : Nat) (be bs : Int32), i + k = 2 ^ n → bestOf (sepB n fp fc x0 y0) i be bs n → ∃ be' bs', xSepr_L11 n fp fc x0 y0 k i be bs = be' ∧ bestOf (sepB n fp fc x0 y0) (2 ^ n) be' bs' n
  | 0, i, be, bs, hk, h => ⟨be, bs, rfl, by rw [← hk]; exact h⟩
  | k + 1, i, be, bs, hk, h => by
    have h64 := vz_p64 hn
    have ebc : bitCount (nI i) = nI (pcn i) := bc_all i (by omega)
    have hp9 : pcn i ≤ 9 := cb_le _ _
    rw [xSepr_L11, ebc]
    have keep : (sepB n fp fc x0 y0 i = true → ∃ j, j < i ∧ be = nI j ∧ bs = nI (pcn j) ∧ sepB n fp fc x0 y0 j = true ∧ pcn j ≤ pcn i ∧ ∀ j', j' < i → sepB n fp fc x0 y0 j' = true → pcn j < pcn j' ∨ (pcn j = pcn j' ∧ j ≤ j')) → bestOf (sepB n fp fc x0 y0) (i + 1) be bs n := fun hyp => by
      rcases hs : sepB n fp fc x0 y0 i with _ | _
      · rcases h with ⟨h1, h2, h3⟩ | ⟨j, h1, h2, h3, h4, h5⟩
        · refine Or.inl ⟨h1, h2, fun j hj => ?_⟩
          by_cases c : j = i
          · rw [c]; exact hs
          · exact h3 j (by omega)
        · refine Or.inr ⟨j, by omega, h2, h3, h4, fun j' hj' hs' => ?_⟩
          by_cases c : j' = i
          · rw [c, hs] at hs'; cases hs'
          · exact h5 j' (by omega) hs'
      · obtain ⟨j, h1, h2, h3, h4, h5, h6⟩ := hyp hs
        refine Or.inr ⟨j, by omega, h2, h3, h4, fun j' hj' hs' => ?_⟩
        by_cases c : j' = i
        · rw [c]
          rcases Nat.lt_or_ge (pcn j) (pcn i) with q | q
          · exact Or.inl q
          · exact Or.inr ⟨by omega, by omega⟩
        · exact h6 j' (by omega) hs'
    by_cases c1 : bs ≤ nI (pcn i)
    · rw [if_pos c1]
      refine xSepr_best hn x0 y0 k (i + 1) be bs (by omega) (keep (fun hs => ?_))
      rcases h with ⟨h1, h2, h3⟩ | ⟨j, h1, h2, h3, h4, h5⟩
      · exfalso
        have := sepB_size hn (show i < 2 ^ n by omega) hs
        rw [h2, nI_leI (by omega) (by omega)] at c1
        omega
      · have hj9 : pcn j ≤ 9 := cb_le _ _
        rw [h3, nI_leI (by omega) (by omega)] at c1
        exact ⟨j, h1, h2, h3, h4, c1, h5⟩
    · rw [if_neg c1]
      by_cases c2 : xSep n fp fc x0 y0 (nI i) = 0
      · rw [if_pos c2]
        refine xSepr_best hn x0 y0 k (i + 1) be bs (by omega) (keep (fun hs => absurd c2 (of_decide_eq_true hs)))
      · rw [if_neg c2]
        refine xSepr_best hn x0 y0 k (i + 1) (nI i) (nI (pcn i)) (by omega) (Or.inr ⟨i, by omega, rfl, rfl, decide_eq_true c2, fun j' hj' hs' => ?_⟩)
        by_cases c : j' = i
        · rw [c]; exact Or.inr ⟨rfl, Nat.le_refl _⟩
        · rcases h with ⟨h1, h2, h3⟩ | ⟨j, h1, h2, h3, h4, h5⟩
          · rw [h3 j' (by omega)] at hs'; cases hs'
          · have hj9 : pcn j ≤ 9 := cb_le _ _
            rw [h3, nI_leI (by omega) (by omega)] at c1
            have := h5 j' (by omega) hs'
            left; omega
theorem mSep_1 (hn : n ≤ 6) (h : gRel n fp fc mh) (mp mx mr : Nat → Int32) (x0 y0 : Int32) (i : Nat) : (mSep n mh mp mx mr x0 y0 (nI i)).1 = 0 ↔ sepB n fp fc x0 y0 i = false := by
  rw [← eq_separated hn h mp mx mr x0 y0 (nI i)]
  unfold sepB
  rw [decide_eq_false_iff_not]
  exact Classical.not_not.symm
theorem mSepr_in (hn : n ≤ 6) (h : gRel n fp fc mh) (mp mx mr : Nat → Int32) (x0 y0 : Int32) {many : Nat} (hm : many ≤ 9) (p13 x13 r13 : Nat → Int32) (kk : (Nat → Int32) → (Nat → Int32) → (Nat → Int32) → Int32 × (Nat → Int32) × (Nat → Int32) × (Nat → Int32)) : ∀ (k i : Nat) (p x r : Nat → Int32), i + k = 2 ^ n →
    (∀ j0, i ≤ j0 → j0 < 2 ^ n → pcn j0 = many → sepB n fp fc x0 y0 j0 = true → (∀ j, i ≤ j → j < j0 → pcn j = many → sepB n fp fc x0 y0 j = false) → (mSepr_L24 n mh mp mx mr x0 y0 many p13 x13 r13 kk k i p x r).1 = nI j0) ∧
    ((∀ j, i ≤ j → j < 2 ^ n → pcn j = many → sepB n fp fc x0 y0 j = false) → ∃ p' x' r', mSepr_L24 n mh mp mx mr x0 y0 many p13 x13 r13 kk k i p x r = kk p' x' r')
  | 0, i, p, x, r, hk => ⟨fun j0 h1 h2 => by omega, fun _ => ⟨p, x, r, rfl⟩⟩
  | k + 1, i, p, x, r, hk => by
    have h64 := vz_p64 hn
    have ems : mSize (nI i) = nI (pcn i) := ms_all i (by omega)
    have hp9 : pcn i ≤ 9 := cb_le _ _
    rw [mSepr_L24, ems]
    by_cases c1 : pcn i = many
    · rw [if_pos (by rw [c1])]
      by_cases c2 : (mSep n mh p x r x0 y0 (nI i)).1 = 0
      · rw [if_pos c2]
        have ih := mSepr_in hn h mp mx mr x0 y0 hm p13 x13 r13 kk k (i + 1) (mSep n mh p x r x0 y0 (nI i)).2.1 (mSep n mh p x r x0 y0 (nI i)).2.2.1 (mSep n mh p x r x0 y0 (nI i)).2.2.2 (by omega)
        have hs := (mSep_1 hn h p x r x0 y0 i).mp c2
        refine ⟨fun j0 h1 h2 h3 h4 h5 => ih.1 j0 ?_ h2 h3 h4 (fun j a b => h5 j (by omega) b), fun hno => ih.2 (fun j a b => hno j (by omega) b)⟩
        by_cases c : j0 = i
        · rw [c, hs] at h4; cases h4
        · omega
      · rw [if_neg c2]
        have hs : sepB n fp fc x0 y0 i = true := by
          rcases q : sepB n fp fc x0 y0 i with _ | _
          · exact absurd ((mSep_1 hn h p x r x0 y0 i).mpr q) c2
          · rfl
        refine ⟨fun j0 h1 h2 h3 h4 h5 => ?_, fun hno => ?_⟩
        · by_cases c : j0 = i
          · rw [c]
          · have := h5 i (by omega) (by omega) c1
            rw [hs] at this; cases this
        · have := hno i (by omega) (by omega) c1
          rw [hs] at this; cases this
    · rw [if_neg (fun e => c1 ((nI_eq (by omega) (by omega)).mp e))]
      have ih := mSepr_in hn h mp mx mr x0 y0 hm p13 x13 r13 kk k (i + 1) p x r (by omega)
      refine ⟨fun j0 h1 h2 h3 h4 h5 => ih.1 j0 ?_ h2 h3 h4 (fun j a b => h5 j (by omega) b), fun hno => ih.2 (fun j a b => hno j (by omega) b)⟩
      by_cases c : j0 = i
      · rw [c] at h3; exact absurd h3 c1
      · omega
theorem mSepr_out (hn : n ≤ 6) (h : gRel n fp fc mh) (mp mx mr : Nat → Int32) (x0 y0 : Int32) : ∀ (k i : Nat) (p x r : Nat → Int32), i + k = n + 1 →
    (∀ j0, j0 < 2 ^ n → i ≤ pcn j0 → pcn j0 ≤ n → sepB n fp fc x0 y0 j0 = true → (∀ j, j < 2 ^ n → i ≤ pcn j → sepB n fp fc x0 y0 j = true → pcn j0 < pcn j ∨ (pcn j0 = pcn j ∧ j0 ≤ j)) → (mSepr_L13 n mh mp mx mr x0 y0 k i p x r).1 = nI j0) ∧
    ((∀ j, j < 2 ^ n → i ≤ pcn j → sepB n fp fc x0 y0 j = false) → (mSepr_L13 n mh mp mx mr x0 y0 k i p x r).1 = -1)
  | 0, i, p, x, r, hk => ⟨fun j0 h1 h2 h3 => by omega, fun _ => rfl⟩
  | k + 1, i, p, x, r, hk => by
    rw [mSepr_L13]
    have hin := mSepr_in hn h mp mx mr x0 y0 (show i ≤ 9 by omega) p x r (fun w0 w1 w2 => mSepr_L13 n mh mp mx mr x0 y0 k (i + 1) w0 w1 w2) (2 ^ n) 0 p x r (by omega)
    refine ⟨fun j0 h1 h2 h3 h4 h5 => ?_, fun hno => ?_⟩
    · by_cases c : pcn j0 = i
      · refine hin.1 j0 (by omega) h1 c h4 (fun j _ hj hp => ?_)
        rcases q : sepB n fp fc x0 y0 j with _ | _
        · rfl
        · have := h5 j (by omega) (by omega) q; omega
      · obtain ⟨p', x', r', e⟩ := hin.2 (fun j _ hj hp => by
          rcases q : sepB n fp fc x0 y0 j with _ | _
          · rfl
          · have := h5 j hj (by omega) q; omega)
        rw [e]
        exact (mSepr_out hn h mp mx mr x0 y0 k (i + 1) p' x' r' (by omega)).1 j0 h1 (by omega) h3 h4 (fun j a b => h5 j a (by omega))
    · obtain ⟨p', x', r', e⟩ := hin.2 (fun j _ hj hp => hno j hj (by omega))
      rw [e]
      exact (mSepr_out hn h mp mx mr x0 y0 k (i + 1) p' x' r' (by omega)).2 (fun j a b => hno j a (by omega))
theorem eq_separator (hn : n ≤ 6) (h : gRel n fp fc mh) (mp mx mr : Nat → Int32) (x0 y0 : Int32) : xSepr n fp fc x0 y0 = (mSepr n mh mp mx mr x0 y0).1 := by
  obtain ⟨be, bs, e, hb⟩ := xSepr_best (fp := fp) (fc := fc) hn x0 y0 (2 ^ n) 0 (-1) (nI n) (by omega) (Or.inl ⟨rfl, rfl, fun j hj => by omega⟩)
  unfold xSepr mSepr
  rw [e]
  have ho := mSepr_out hn h mp mx mr x0 y0 (n + 1) 0 mp mx mr (by omega)
  by_cases c : mPair n x0 y0 = 0
  · rw [if_pos c]
    rcases hb with ⟨h1, _, _⟩ | ⟨j, h1, h2, h3, h4, h5⟩
    · exact h1
    · refine absurd ?_ (of_decide_eq_true h4)
      unfold xSep
      rw [if_pos (show xPair n x0 y0 = 0 from c)]
  · rw [if_neg c]
    rcases hb with ⟨h1, h2, h3⟩ | ⟨j, h1, h2, h3, h4, h5⟩
    · rw [h1]; exact (ho.2 (fun j hj _ => h3 j hj)).symm
    · rw [h2]
      exact (ho.1 j h1 (by omega) (by have := sepB_size hn h1 h4; omega) h4 (fun j' a _ b => h5 j' a b)).symm
end SP
end
section
/-! separations, collisions, arrows: counted alike -/
section CT
variable {n : Nat} {fp fc mh : Nat → Int32}
def gSep (n : Nat) (fp fc : Nat → Int32) (u w s : Nat) : Nat := if sepB n fp fc (nI u) (nI w) s = true then 1 else 0
theorem nI_bt {k : Nat} (hk : k < 2 ^ 31) (w : Nat) : bt (nI k) w = k.testBit w := by
  rcases Nat.lt_or_ge w 32 with h | h
  · unfold bt
    show (BitVec.ofNat 32 k).getLsbD w = _
    rw [BitVec.getLsbD_ofNat]
    simp [h]
  · rw [b_big h]
    have : k < 2 ^ w := Nat.lt_of_lt_of_le hk (Nat.pow_le_pow_right (by decide) (by omega))
    exact (Nat.testBit_lt_two_pow this).symm
theorem nI_bt_lt {k m w : Nat} (hm : m ≤ 9) (hk : k < 2 ^ m) (h : bt (nI k) w = true) : w < m := by
  have h5 := vz_p512 hm
  rw [nI_bt (by omega)] at h
  rcases Nat.lt_or_ge w m with q | q
  · exact q
  · have : k < 2 ^ w := Nat.lt_of_lt_of_le hk (Nat.pow_le_pow_right (by decide) q)
    rw [Nat.testBit_lt_two_pow this] at h; cases h
theorem above_bt : ∀ m, m ≤ 6 → ∀ u, u < 6 → ∀ w, w < 32 → u < m → (bt ((1 : Int32) <<< (nI m &&& 31) - (2 : Int32) <<< (nI u &&& 31)) w = true ↔ u < w ∧ w < m) := by decide +kernel
theorem above_bt' (hn : n ≤ 6) {u : Nat} (hu : u < n) (w : Nat) : bt ((1 : Int32) <<< (nI n &&& 31) - (2 : Int32) <<< (nI u &&& 31)) w = true ↔ u < w ∧ w < n := by
  rcases Nat.lt_or_ge w 32 with h | h
  · exact above_bt n hn u (by omega) w h hu
  · rw [b_big h]
    exact ⟨fun q => (by cases q), fun q => (by omega)⟩
theorem sepB_iff (hn : n ≤ 6) {u w s : Nat} (hu : u < n) (hw : w < n) (huw : u ≠ w) (hs : s < 2 ^ n) : sepB n fp fc (nI u) (nI w) s = true ↔ ¬ bt (nI s) u = true ∧ ¬ bt (nI s) w = true ∧ ¬ bt (gOpen n fp fc (nI u) (nI s)) w = true := by
  have h64 := vz_p64 hn
  unfold sepB
  rw [decide_eq_true_iff]
  unfold xSep
  rw [if_neg (xPair_nI hn hu hw huw), if_neg (nI_pos (by omega)), if_neg (by rw [vz_pow (by omega), nI_leI (by omega) (by omega)]; omega)]
  by_cases c3 : bt (nI s) u = true
  · rw [if_neg (hHt (by omega) c3)]
    exact ⟨fun q => absurd rfl q, fun q => absurd c3 q.1⟩
  · rw [if_pos (hHf (by omega) c3)]
    by_cases c4 : bt (nI s) w = true
    · rw [if_neg (hHt (by omega) c4)]
      exact ⟨fun q => absurd rfl q, fun q => absurd c4 q.2.1⟩
    · rw [if_pos (hHf (by omega) c4)]
      by_cases c5 : bt (gOpen n fp fc (nI u) (nI s)) w = true
      · rw [if_neg (hHt (by omega) c5)]
        exact ⟨fun q => absurd rfl q, fun q => absurd c5 q.2.2⟩
      · rw [if_pos (hHf (by omega) c5)]
        exact ⟨fun _ => ⟨c3, c4, c5⟩, fun _ => by decide⟩
theorem xSepBy_eq (hn : n ≤ 6) {s : Nat} (hs : s < 2 ^ n) : ∀ (k i c : Nat), i + k ≤ n → xSepBy_L4 n fp fc (nI s) k i (nI c) = nI (c + sm (fun u => sm (fun w => gSep n fp fc u w s) (n - (u + 1)) (u + 1)) k i)
  | 0, i, c, _ => rfl
  | k + 1, i, c, hk => by
    have h64 := vz_p64 hn
    rw [xSepBy_L4]
    by_cases c1 : bt (nI s) i = true
    · rw [if_neg (hHt (by omega) c1), xSepBy_eq hn hs k (i + 1) c (by omega)]
      congr 1
      show _ = c + (sm (fun w => gSep n fp fc i w s) (n - (i + 1)) (i + 1) + sm (fun u => sm (fun w => gSep n fp fc u w s) (n - (u + 1)) (u + 1)) k (i + 1))
      rw [sm_congr (g := fun _ => 0) (n - (i + 1)) (i + 1) (fun t h1 h2 => ?_), sm_0]
      · omega
      · unfold gSep
        rw [if_neg (fun q => ((sepB_iff hn (by omega) (by omega) (by omega) hs).mp q).1 c1)]
    · rw [if_pos (hHf (by omega) c1)]
      have hb : ∀ w, bt ((((1 : Int32) <<< (nI n &&& 31) - (2 : Int32) <<< (nI i &&& 31)) &&& (nI s ^^^ (-1))) &&& ((gOpen n fp fc (nI i) (nI s)) ^^^ (-1))) w = true ↔ (i < w ∧ w < n) ∧ ¬ bt (nI s) w = true ∧ ¬ bt (gOpen n fp fc (nI i) (nI s)) w = true := fun w => by
        rw [b_and, b_and, Bool.and_eq_true, Bool.and_eq_true, above_bt' hn (by omega)]
        rcases Nat.lt_or_ge w 32 with hw | hw
        · rw [b_not _ hw, b_not _ hw]
          simp only [Bool.not_eq_true', Bool.not_eq_true]
          constructor
          · intro q; exact ⟨q.1.1, q.1.2, q.2⟩
          · intro q; exact ⟨⟨q.1, q.2.1⟩, q.2.2⟩
        · constructor
          · intro q; omega
          · intro q; omega
      rw [bc_eq (m := n) (by omega) (fun w q => ((hb w).mp q).1.2), nI_add, xSepBy_eq hn hs k (i + 1) _ (by omega)]
      congr 1
      show _ = c + (sm (fun w => gSep n fp fc i w s) (n - (i + 1)) (i + 1) + sm (fun u => sm (fun w => gSep n fp fc u w s) (n - (u + 1)) (u + 1)) k (i + 1))
      rw [cb_sm, ← sm_above _ i n (by omega)]
      have e : sm (fun t => if bt ((((1 : Int32) <<< (nI n &&& 31) - (2 : Int32) <<< (nI i &&& 31)) &&& (nI s ^^^ (-1))) &&& ((gOpen n fp fc (nI i) (nI s)) ^^^ (-1))) t = true then 1 else 0) n 0 = sm (fun t => if i < t then gSep n fp fc i t s else 0) n 0 := by
        refine sm_congr n 0 (fun t _ ht => ?_)
        by_cases c2 : i < t
        · rw [if_pos c2]
          unfold gSep
          by_cases c3 : sepB n fp fc (nI i) (nI t) s = true
          · rw [if_pos c3, if_pos]
            have := (sepB_iff hn (by omega) (by omega) (by omega) hs).mp c3
            exact (hb t).mpr ⟨⟨c2, by omega⟩, this.2⟩
          · rw [if_neg c3, if_neg]
            intro q
            have := (hb t).mp q
            exact c3 ((sepB_iff hn (by omega) (by omega) (by omega) hs).mpr ⟨c1, this.2⟩)
        · rw [if_neg c2, if_neg (fun q => c2 ((hb t).mp q).1.1)]
      rw [e]; omega
theorem xSeps_L12_eq (hn : n ≤ 6) (sc : Int32) : ∀ (k i c : Nat), i + k ≤ 2 ^ n → xSeps_L12 n fp fc sc k i (nI c) = (nI (c + sm (fun s => sm (fun u => sm (fun w => gSep n fp fc u w s) (n - (u + 1)) (u + 1)) n 0) k i), nI (c + sm (fun s => sm (fun u => sm (fun w => gSep n fp fc u w s) (n - (u + 1)) (u + 1)) n 0) k i))
  | 0, i, c, _ => rfl
  | k + 1, i, c, hk => by
    rw [xSeps_L12, xSepBy, ← nI_0, xSepBy_eq hn (by omega) n 0 0 (by omega), nI_add, xSeps_L12_eq hn sc k (i + 1) _ (by omega)]
    show _ = (nI (c + (sm (fun u => sm (fun w => gSep n fp fc u w i) (n - (u + 1)) (u + 1)) n 0 + _)), nI (c + (sm (fun u => sm (fun w => gSep n fp fc u w i) (n - (u + 1)) (u + 1)) n 0 + _)))
    rw [Nat.zero_add, Nat.add_assoc]
theorem mSeps_L27_eq (hn : n ≤ 6) (h : gRel n fp fc mh) (mp mx mr : Nat → Int32) (a : Nat) (c4 : Int32) (p4 x4 r4 : Nat → Int32) (b : Nat) (c16 : Int32) (p16 x16 r16 : Nat → Int32) (kk : Int32 → (Nat → Int32) → (Nat → Int32) → (Nat → Int32) → Int32 × (Nat → Int32) × (Nat → Int32) × (Nat → Int32)) : ∀ (k i c : Nat) (p x r : Nat → Int32),
    ∃ p' x' r', mSeps_L27 n mh mp mx mr a c4 p4 x4 r4 b c16 p16 x16 r16 kk k i (nI c) p x r = kk (nI (c + sm (fun s => gSep n fp fc a b s) k i)) p' x' r'
  | 0, i, c, p, x, r => ⟨p, x, r, rfl⟩
  | k + 1, i, c, p, x, r => by
    rw [mSeps_L27]
    by_cases c1 : (mSep n mh p x r (nI a) (nI b) (nI i)).1 = 0
    · rw [if_pos c1]
      obtain ⟨p', x', r', e⟩ := mSeps_L27_eq hn h mp mx mr a c4 p4 x4 r4 b c16 p16 x16 r16 kk k (i + 1) c (mSep n mh p x r (nI a) (nI b) (nI i)).2.1 (mSep n mh p x r (nI a) (nI b) (nI i)).2.2.1 (mSep n mh p x r (nI a) (nI b) (nI i)).2.2.2
      refine ⟨p', x', r', ?_⟩
      rw [e]
      have : gSep n fp fc a b i = 0 := by unfold gSep; rw [if_neg (by rw [(mSep_1 hn h p x r (nI a) (nI b) i).mp c1]; decide)]
      show _ = kk (nI (c + (gSep n fp fc a b i + _))) p' x' r'
      rw [this, Nat.zero_add]
    · rw [if_neg c1, nI_1]
      obtain ⟨p', x', r', e⟩ := mSeps_L27_eq hn h mp mx mr a c4 p4 x4 r4 b c16 p16 x16 r16 kk k (i + 1) (c + 1) (mSep n mh p x r (nI a) (nI b) (nI i)).2.1 (mSep n mh p x r (nI a) (nI b) (nI i)).2.2.1 (mSep n mh p x r (nI a) (nI b) (nI i)).2.2.2
      refine ⟨p', x', r', ?_⟩
      rw [e]
      have : gSep n fp fc a b i = 1 := by
        unfold gSep
        rw [if_pos]
        rcases q : sepB n fp fc (nI a) (nI b) i with _ | _
        · exact absurd ((mSep_1 hn h p x r (nI a) (nI b) i).mpr q) c1
        · rfl
      show _ = kk (nI (c + (gSep n fp fc a b i + _))) p' x' r'
      rw [this, Nat.add_assoc]
theorem mSeps_L16_eq (hn : n ≤ 6) (h : gRel n fp fc mh) (mp mx mr : Nat → Int32) (a : Nat) (c4 : Int32) (p4 x4 r4 : Nat → Int32) (kk : Int32 → (Nat → Int32) → (Nat → Int32) → (Nat → Int32) → Int32 × (Nat → Int32) × (Nat → Int32) × (Nat → Int32)) : ∀ (k i c : Nat) (p x r : Nat → Int32),
    ∃ p' x' r', mSeps_L16 n mh mp mx mr a c4 p4 x4 r4 kk k i (nI c) p x r = kk (nI (c + sm (fun b => sm (fun s => gSep n fp fc a b s) (2 ^ n) 0) k i)) p' x' r'
  | 0, i, c, p, x, r => ⟨p, x, r, rfl⟩
  | k + 1, i, c, p, x, r => by
    rw [mSeps_L16]
    obtain ⟨p1, x1, r1, e1⟩ := mSeps_L27_eq hn h mp mx mr a c4 p4 x4 r4 i (nI c) p x r (fun w0 w1 w2 w3 => mSeps_L16 n mh mp mx mr a c4 p4 x4 r4 kk k (i + 1) w0 w1 w2 w3) (2 ^ n) 0 c p x r
    rw [e1]
    obtain ⟨p', x', r', e⟩ := mSeps_L16_eq hn h mp mx mr a c4 p4 x4 r4 kk k (i + 1) (c + sm (fun s => gSep n fp fc a i s) (2 ^ n) 0) p1 x1 r1
    refine ⟨p', x', r', ?_⟩
    rw [e]
    show _ = kk (nI (c + (sm (fun s => gSep n fp fc a i s) (2 ^ n) 0 + _))) p' x' r'
    rw [Nat.add_assoc]
theorem mSeps_L4_eq (hn : n ≤ 6) (h : gRel n fp fc mh) (mp mx mr : Nat → Int32) : ∀ (k i c : Nat) (p x r : Nat → Int32),
    (mSeps_L4 n mh mp mx mr k i (nI c) p x r).1 = nI (c + sm (fun a => sm (fun b => sm (fun s => gSep n fp fc a b s) (2 ^ n) 0) (n - (a + 1)) (a + 1)) k i)
  | 0, i, c, p, x, r => rfl
  | k + 1, i, c, p, x, r => by
    rw [mSeps_L4]
    obtain ⟨p1, x1, r1, e1⟩ := mSeps_L16_eq hn h mp mx mr i (nI c) p x r (fun w0 w1 w2 w3 => mSeps_L4 n mh mp mx mr k (i + 1) w0 w1 w2 w3) (n - (i + 1)) (i + 1) c p x r
    rw [e1, mSeps_L4_eq hn h mp mx mr k (i + 1) _ p1 x1 r1]
    show _ = nI (c + (sm (fun b => sm (fun s => gSep n fp fc i b s) (2 ^ n) 0) (n - (i + 1)) (i + 1) + _))
    rw [Nat.add_assoc]
theorem eq_separations (hn : n ≤ 6) (h : gRel n fp fc mh) (mp mx mr : Nat → Int32) : (xSeps n fp fc (-1)).1 = (mSeps n mh mp mx mr).1 := by
  unfold xSeps mSeps
  rw [if_pos rfl, ← nI_0, xSeps_L12_eq hn (-1) (2 ^ n) 0 0 (by omega), mSeps_L4_eq hn h mp mx mr n 0 0 mp mx mr]
  have e : sm (fun s => sm (fun u => sm (fun w => gSep n fp fc u w s) (n - (u + 1)) (u + 1)) n 0) (2 ^ n) 0 = sm (fun a => sm (fun b => sm (fun s => gSep n fp fc a b s) (2 ^ n) 0) (n - (a + 1)) (a + 1)) n 0 :=
    (sm_swap (fun s u => sm (fun w => gSep n fp fc u w s) (n - (u + 1)) (u + 1)) n 0 (2 ^ n) 0).trans (sm_congr n 0 (fun u _ _ => sm_swap (fun s w => gSep n fp fc u w s) (n - (u + 1)) (u + 1) (2 ^ n) 0))
  rw [e]
/-! collisions -/
def kP (mh : Nat → Int32) (a b c : Nat) : Prop := ¬ mh (6 * a + c) = 0 ∧ ¬ mh (6 * b + c) = 0 ∧ mh (6 * a + b) = 0 ∧ mh (6 * b + a) = 0
theorem mColl1_eq {a b c : Nat} (ha : a < 6) (hb : b < 6) (hc : c < 6) : (mColl1 mh (nI a) (nI c) (nI b) = 0 ∧ ¬ kP mh a b c) ∨ (mColl1 mh (nI a) (nI c) (nI b) = 1 ∧ kP mh a b c) := by
  unfold mColl1 kP
  rw [vz_ixC ha hc, vz_ixC hb hc, vz_ixC ha hb, vz_ixC hb ha]
  by_cases c1 : mh (6 * a + c) = 0
  · rw [if_pos c1]; exact Or.inl ⟨rfl, fun q => q.1 c1⟩
  · rw [if_neg c1]
    by_cases c2 : mh (6 * b + c) = 0
    · rw [if_pos c2]; exact Or.inl ⟨rfl, fun q => q.2.1 c2⟩
    · rw [if_neg c2]
      by_cases c3 : mh (6 * a + b) = 0
      · rw [if_pos c3]
        by_cases c4 : mh (6 * b + a) = 0
        · rw [if_pos c4]; exact Or.inr ⟨rfl, c1, c2, c3, c4⟩
        · rw [if_neg c4]; exact Or.inl ⟨rfl, fun q => c4 q.2.2.2⟩
      · rw [if_neg c3]; exact Or.inl ⟨rfl, fun q => c3 q.2.2.1⟩
/-- masks that say what the table says -/
def mskR (n : Nat) (fp fc mh : Nat → Int32) : Prop := (∀ v, v < n → ∀ u, bt (fp v) u = true ↔ u < n ∧ ¬ mh (6 * u + v) = 0) ∧ ∀ u, u < n → ∀ v, bt (fc u) v = true ↔ v < n ∧ ¬ mh (6 * u + v) = 0
theorem gRel.msk (h : gRel n fp fc mh) : mskR n fp fc mh := ⟨h.2.1, h.2.2.1⟩
theorem gStr_bt (hn : n ≤ 6) (h : mskR n fp fc mh) {a c : Nat} (ha : a < n) (hc : c < n) (b : Nat) : bt (gStr fp fc (nI a) (nI c)) b = true ↔ b < n ∧ b ≠ a ∧ kP mh a b c := by
  unfold gStr kP
  rw [nI_clamp (by omega), nI_clamp (by omega)]
  have hac := h.1 c hc a
  have hbc := h.1 c hc b
  have hba := h.1 a ha b
  have hab := h.2 a ha b
  by_cases c1 : bt (fp c) a = true
  · rw [if_neg (hHt (by omega) c1)]
    rcases Nat.lt_or_ge b 32 with hb | hb
    · rw [b_and, b_not _ hb, b_or, b_or, b_one (by omega), Bool.and_eq_true, Bool.not_eq_true', Bool.or_eq_false_iff, Bool.or_eq_false_iff, decide_eq_false_iff_not]
      have n1 : bt (fp a) b = false ↔ ¬ (b < n ∧ ¬ mh (6 * b + a) = 0) := by rw [← hba, Bool.not_eq_true]
      have n2 : bt (fc a) b = false ↔ ¬ (b < n ∧ ¬ mh (6 * a + b) = 0) := by rw [← hab, Bool.not_eq_true]
      rw [hbc, n1, n2]
      have hk := (hac.mp c1).2
      constructor
      · rintro ⟨⟨q1, q2⟩, ⟨q3, q4⟩, q5⟩
        exact ⟨q1, q5, hk, q2, Classical.not_not.mp (fun z => q4 ⟨q1, z⟩), Classical.not_not.mp (fun z => q3 ⟨q1, z⟩)⟩
      · rintro ⟨q1, q2, _, q3, q4, q5⟩
        exact ⟨⟨q1, q3⟩, ⟨fun z => z.2 q5, fun z => z.2 q4⟩, q2⟩
    · rw [b_big hb]
      exact ⟨fun q => (by cases q), fun q => (by omega)⟩
  · rw [if_pos (hHf (by omega) c1), b_0]
    exact ⟨fun q => (by cases q), fun q => absurd (hac.mpr ⟨ha, q.2.2.1⟩) c1⟩
noncomputable def kN (mh : Nat → Int32) (n a b c : Nat) : Nat := if bt (gStr mh mh 0 0) 99 = true then 0 else if (a < n ∧ b < n ∧ a ≠ b) ∧ mColl1 mh (nI a) (nI c) (nI b) = 1 then 1 else 0
theorem kN_eq {a b c : Nat} (hn : n ≤ 6) (ha : a < n) (hb : b < n) (hab : a ≠ b) (hc : c < n) : (kP mh a b c → kN mh n a b c = 1) ∧ (¬ kP mh a b c → kN mh n a b c = 0) := by
  unfold kN
  rw [b_big (show 32 ≤ 99 by decide), if_neg (by decide)]
  rcases mColl1_eq (mh := mh) (show a < 6 by omega) (show b < 6 by omega) (show c < 6 by omega) with ⟨e, hk⟩ | ⟨e, hk⟩
  · exact ⟨fun q => absurd q hk, fun _ => if_neg (fun z => by rw [e] at z; exact absurd z.2 (by decide))⟩
  · exact ⟨fun _ => if_pos ⟨⟨ha, hb, hab⟩, e⟩, fun q => absurd hk q⟩
theorem kP_sym {a b c : Nat} : kP mh a b c ↔ kP mh b a c := ⟨fun h => ⟨h.2.1, h.1, h.2.2.2, h.2.2.1⟩, fun h => ⟨h.2.1, h.1, h.2.2.2, h.2.2.1⟩⟩
theorem kN_out {a b c : Nat} (h : ¬ (a < n ∧ b < n ∧ a ≠ b)) : kN mh n a b c = 0 := by
  unfold kN
  rw [b_big (show 32 ≤ 99 by decide), if_neg (by decide), if_neg (fun z => h z.1)]
theorem kN_sym (hn : n ≤ 6) {c : Nat} (hc : c < n) (a b : Nat) : kN mh n a b c = kN mh n b a c := by
  by_cases h : a < n ∧ b < n ∧ a ≠ b
  · by_cases k : kP mh a b c
    · rw [(kN_eq hn h.1 h.2.1 h.2.2 hc).1 k, (kN_eq hn h.2.1 h.1 (Ne.symm h.2.2) hc).1 (kP_sym.mp k)]
    · rw [(kN_eq hn h.1 h.2.1 h.2.2 hc).2 k, (kN_eq hn h.2.1 h.1 (Ne.symm h.2.2) hc).2 (fun q => k (kP_sym.mp q))]
  · rw [kN_out h, kN_out (fun q => h ⟨q.2.1, q.1, Ne.symm q.2.2⟩)]
theorem xColl_L14_eq (hn : n ≤ 6) (h : mskR n fp fc mh) {c : Nat} (hc : c < n) (e4 : Int32) (kk : Int32 → Int32) : ∀ (k i e : Nat), i + k ≤ n → xColl_L14 n fp fc c e4 kk k i (nI e) = kk (nI (e + sm (fun a => sm (fun b => kN mh n a b c) n 0) k i))
  | 0, i, e, _ => rfl
  | k + 1, i, e, hk => by
    rw [xColl_L14, bc_eq (m := n) (by omega) (fun w q => ((gStr_bt hn h (by omega) hc w).mp q).1), nI_add, xColl_L14_eq hn h hc e4 kk k (i + 1) _ (by omega)]
    have e2 : sm (fun t => if bt (gStr fp fc (nI i) (nI c)) t = true then 1 else 0) n 0 = sm (fun b => kN mh n i b c) n 0 := by
      refine sm_congr n 0 (fun t _ ht => ?_)
      by_cases q : bt (gStr fp fc (nI i) (nI c)) t = true
      · rw [if_pos q]
        have := (gStr_bt hn h (by omega) hc t).mp q
        exact ((kN_eq hn (by omega) (by omega) (Ne.symm this.2.1) hc).1 this.2.2).symm
      · rw [if_neg q]
        by_cases r : i < n ∧ t < n ∧ i ≠ t
        · exact ((kN_eq hn r.1 r.2.1 r.2.2 hc).2 (fun z => q ((gStr_bt hn h (by omega) hc t).mpr ⟨r.2.1, Ne.symm r.2.2, z⟩))).symm
        · exact (kN_out r).symm
    show _ = kk (nI (e + (sm (fun b => kN mh n i b c) n 0 + _)))
    rw [cb_sm, e2, Nat.add_assoc]
theorem xColl_L4_eq (hn : n ≤ 6) (h : mskR n fp fc mh) : ∀ (k i e : Nat), i + k ≤ n → xColl_L4 n fp fc k i (nI e) = nI (e + sm (fun c => sm (fun a => sm (fun b => kN mh n a b c) n 0) n 0) k i) / 2
  | 0, i, e, _ => rfl
  | k + 1, i, e, hk => by
    rw [xColl_L4, xColl_L14_eq hn h (by omega) (nI e) _ n 0 e (by omega), xColl_L4_eq hn h k (i + 1) _ (by omega)]
    show _ = nI (e + (sm (fun a => sm (fun b => kN mh n a b i) n 0) n 0 + _)) / 2
    rw [Nat.add_assoc]
theorem mColl_L27_eq (hn : n ≤ 6) {c : Nat} (hc : c < n) (c4 : Int32) {a : Nat} (ha : a < n) (c14 : Int32) (kk : Int32 → Int32) : ∀ (k i e : Nat), a < i → i + k ≤ n → mColl_L27 n mh c c4 a c14 kk k i (nI e) = kk (nI (e + sm (fun b => kN mh n a b c) k i))
  | 0, i, e, _, _ => rfl
  | k + 1, i, e, hi, hk => by
    rw [mColl_L27]
    rcases mColl1_eq (mh := mh) (show a < 6 by omega) (show i < 6 by omega) (show c < 6 by omega) with ⟨q, hq⟩ | ⟨q, hq⟩
    · rw [if_pos q, mColl_L27_eq hn hc c4 ha c14 kk k (i + 1) e (by omega) (by omega)]
      show _ = kk (nI (e + (kN mh n a i c + _)))
      rw [(kN_eq hn ha (by omega) (by omega) hc).2 hq, Nat.zero_add]
    · rw [if_neg (by rw [q]; decide), nI_1, mColl_L27_eq hn hc c4 ha c14 kk k (i + 1) (e + 1) (by omega) (by omega)]
      show _ = kk (nI (e + (kN mh n a i c + _)))
      rw [(kN_eq hn ha (by omega) (by omega) hc).1 hq, Nat.add_assoc]
theorem mColl_L14_eq (hn : n ≤ 6) {c : Nat} (hc : c < n) (c4 : Int32) (kk : Int32 → Int32) : ∀ (k i e : Nat), i + k ≤ n → mColl_L14 n mh c c4 kk k i (nI e) = kk (nI (e + sm (fun a => sm (fun b => kN mh n a b c) (n - (a + 1)) (a + 1)) k i))
  | 0, i, e, _ => rfl
  | k + 1, i, e, hk => by
    rw [mColl_L14, mColl_L27_eq hn hc c4 (by omega) (nI e) _ (n - (i + 1)) (i + 1) e (by omega) (by omega), mColl_L14_eq hn hc c4 kk k (i + 1) _ (by omega)]
    show _ = kk (nI (e + (sm (fun b => kN mh n i b c) (n - (i + 1)) (i + 1) + _)))
    rw [Nat.add_assoc]
theorem mColl_L4_eq (hn : n ≤ 6) : ∀ (k i e : Nat), i + k ≤ n → mColl_L4 n mh k i (nI e) = nI (e + sm (fun c => sm (fun a => sm (fun b => kN mh n a b c) (n - (a + 1)) (a + 1)) n 0) k i)
  | 0, i, e, _ => rfl
  | k + 1, i, e, hk => by
    rw [mColl_L4, mColl_L14_eq hn (by omega) (nI e) _ n 0 e (by omega), mColl_L4_eq hn k (i + 1) _ (by omega)]
    show _ = nI (e + (sm (fun a => sm (fun b => kN mh n a b i) (n - (a + 1)) (a + 1)) n 0 + _))
    rw [Nat.add_assoc]
theorem sm_2 (f : Nat → Nat) : ∀ k i, sm (fun t => 2 * f t) k i = 2 * sm f k i
  | 0, _ => rfl
  | k + 1, i => by
    show 2 * f i + _ = 2 * (f i + _)
    rw [sm_2 f k (i + 1)]; omega
theorem kN_le (a b c : Nat) : kN mh n a b c ≤ 1 := by
  unfold kN
  split
  · omega
  · split <;> omega
theorem eq_collisions (hn : n ≤ 6) (h : mskR n fp fc mh) : xColl n fp fc = mColl n mh := by
  unfold xColl mColl
  rw [← nI_0, xColl_L4_eq hn h n 0 0 (by omega), mColl_L4_eq hn n 0 0 (by omega), Nat.zero_add, Nat.zero_add]
  have e : sm (fun c => sm (fun a => sm (fun b => kN mh n a b c) n 0) n 0) n 0 = 2 * sm (fun c => sm (fun a => sm (fun b => kN mh n a b c) (n - (a + 1)) (a + 1)) n 0) n 0 := by
    rw [← sm_2]
    exact sm_congr n 0 (fun c _ hc => sm_sym (fun a b => kN mh n a b c) (fun a b => kN_sym hn (by omega) a b) (fun a => kN_out (fun q => q.2.2 rfl)) n)
  have hb : sm (fun c => sm (fun a => sm (fun b => kN mh n a b c) (n - (a + 1)) (a + 1)) n 0) n 0 ≤ 216 := by
    have h1 : ∀ a c, sm (fun b => kN mh n a b c) (n - (a + 1)) (a + 1) ≤ 6 := fun a c => by
      have := sm_le (f := fun b => kN mh n a b c) (c := 1) (fun t => kN_le a t c) (n - (a + 1)) (a + 1)
      omega
    have h2 : ∀ c, sm (fun a => sm (fun b => kN mh n a b c) (n - (a + 1)) (a + 1)) n 0 ≤ 36 := fun c => by
      have := sm_le (c := 6) (fun t => h1 t c) n 0
      omega
    have := sm_le (c := 36) h2 n 0
    omega
  rw [e, show (2 : Int32) = nI 2 from rfl, pk_div (by omega) (by decide) (by decide)]
  congr 1
  omega
end CT
end
section
/-! arrow, erase, turn keep the relation -/
section CH
variable {n : Nat} {fp fc mh : Nat → Int32}
theorem nar1 : vp_nar .boolean 1 = 1 := by decide
theorem nar0 : vp_nar .boolean 0 = 0 := by decide
theorem ix_inj {a b c d : Nat} (hb : b < 6) (hd : d < 6) : 6 * a + b = 6 * c + d ↔ a = c ∧ b = d := by omega
theorem msk_put (hn : n ≤ 6) (h : mskR n fp fc mh) {a b : Nat} (ha : a < n) (hb : b < n) : mskR n (gPut fp fc (nI a) (nI b)).1 (gPut fp fc (nI a) (nI b)).2 (upd mh (6 * a + b) 1) := by
  unfold gPut
  rw [nI_clamp (show a < 2 ^ 31 by omega), nI_clamp (show b < 2 ^ 31 by omega)]
  refine ⟨fun v hv u => ?_, fun u hu v => ?_⟩
  · show bt (upd fp b (fp b ||| _) v) u = true ↔ _
    by_cases c : v = b
    · subst c
      rw [pk_us, b_or, Bool.or_eq_true, h.1 v hv u, b_one (by omega), decide_eq_true_iff]
      by_cases d : u = a
      · subst d
        rw [pk_us]
        exact ⟨fun _ => ⟨ha, by decide⟩, fun _ => Or.inr rfl⟩
      · rw [pk_un (show 6 * u + v ≠ 6 * a + v by omega)]
        exact ⟨fun q => q.elim id (fun z => absurd z d), Or.inl⟩
    · rw [pk_un c, h.1 v hv u]
      constructor
      · intro q
        rw [pk_un (by omega)]; exact q
      · intro q
        rw [pk_un (by omega)] at q; exact q
  · show bt (upd fc a (fc a ||| _) u) v = true ↔ _
    by_cases c : u = a
    · subst c
      rw [pk_us, b_or, Bool.or_eq_true, h.2 u hu v, b_one (by omega), decide_eq_true_iff]
      by_cases d : v = b
      · subst d
        rw [pk_us]
        exact ⟨fun _ => ⟨hb, by decide⟩, fun _ => Or.inr rfl⟩
      · rw [pk_un (show 6 * u + v ≠ 6 * u + b by omega)]
        exact ⟨fun q => q.elim id (fun z => absurd z d), Or.inl⟩
    · rw [pk_un c, h.2 u hu v]
      constructor
      · intro q
        rw [pk_un (by omega)]; exact q
      · intro q
        rw [pk_un (by omega)] at q; exact q
theorem msk_take (hn : n ≤ 6) (h : mskR n fp fc mh) {a b : Nat} (ha : a < n) (hb : b < n) : mskR n (gTake fp fc (nI a) (nI b)).1 (gTake fp fc (nI a) (nI b)).2 (upd mh (6 * a + b) 0) := by
  unfold gTake
  rw [nI_clamp (show a < 2 ^ 31 by omega), nI_clamp (show b < 2 ^ 31 by omega)]
  refine ⟨fun v hv u => ?_, fun u hu v => ?_⟩
  · show bt (upd fp b (fp b &&& _) v) u = true ↔ _
    by_cases c : v = b
    · subst c
      rw [pk_us, b_clr _ (by omega), h.1 v hv u]
      by_cases d : u = a
      · subst d
        rw [pk_us]
        exact ⟨fun q => absurd rfl q.2, fun q => absurd rfl q.2⟩
      · rw [pk_un (show 6 * u + v ≠ 6 * a + v by omega)]
        exact ⟨fun q => q.1, fun q => ⟨q, d⟩⟩
    · rw [pk_un c, h.1 v hv u]
      constructor
      · intro q
        rw [pk_un (by omega)]; exact q
      · intro q
        rw [pk_un (by omega)] at q; exact q
  · show bt (upd fc a (fc a &&& _) u) v = true ↔ _
    by_cases c : u = a
    · subst c
      rw [pk_us, b_clr _ (by omega), h.2 u hu v]
      by_cases d : v = b
      · subst d
        rw [pk_us]
        exact ⟨fun q => absurd rfl q.2, fun q => absurd rfl q.2⟩
      · rw [pk_un (show 6 * u + v ≠ 6 * u + b by omega)]
        exact ⟨fun q => q.1, fun q => ⟨q, d⟩⟩
    · rw [pk_un c, h.2 u hu v]
      constructor
      · intro q
        rw [pk_un (by omega)]; exact q
      · intro q
        rw [pk_un (by omega)] at q; exact q
theorem gRel_put (hn : n ≤ 6) (h : gRel n fp fc mh) {a b : Nat} (ha : a < n) (hb : b < n) (hab : a ≠ b) (h2 : mh (6 * b + a) = 0) : gRel n (gPut fp fc (nI a) (nI b)).1 (gPut fp fc (nI a) (nI b)).2 (upd mh (6 * a + b) 1) := by
  have hm := msk_put hn h.msk ha hb
  refine ⟨fun x y hx hy hne => ?_, hm.1, hm.2, is01_upd h.2.2.2 (Or.inr rfl)⟩
  by_cases c : x = a ∧ y = b
  · obtain ⟨rfl, rfl⟩ := c
    exact ⟨ha, hb, hab, by rw [pk_un (by omega)]; exact h2⟩
  · rw [pk_un (by omega)] at hne
    obtain ⟨q1, q2, q3, q4⟩ := h.1 x y hx hy hne
    refine ⟨q1, q2, q3, ?_⟩
    by_cases d : y = a ∧ x = b
    · obtain ⟨rfl, rfl⟩ := d
      exact absurd h2 hne
    · rw [pk_un (by omega)]; exact q4
theorem gRel_take (hn : n ≤ 6) (h : gRel n fp fc mh) {a b : Nat} (ha : a < n) (hb : b < n) : gRel n (gTake fp fc (nI a) (nI b)).1 (gTake fp fc (nI a) (nI b)).2 (upd mh (6 * a + b) 0) := by
  have hm := msk_take hn h.msk ha hb
  refine ⟨fun x y hx hy hne => ?_, hm.1, hm.2, is01_upd h.2.2.2 (Or.inl rfl)⟩
  by_cases c : x = a ∧ y = b
  · obtain ⟨rfl, rfl⟩ := c
    rw [pk_us] at hne; exact absurd rfl hne
  · rw [pk_un (by omega)] at hne
    obtain ⟨q1, q2, q3, q4⟩ := h.1 x y hx hy hne
    refine ⟨q1, q2, q3, ?_⟩
    by_cases d : y = a ∧ x = b
    · obtain ⟨rfl, rfl⟩ := d
      exact pk_us
    · rw [pk_un (by omega)]; exact q4
/-! an order through all arrows -/
def hasRank (n : Nat) (mh : Nat → Int32) : Prop := ∃ rk : Nat → Nat, ∀ a b, gM n mh a b → rk a < rk b
theorem rank_sub {mh2 : Nat → Int32} (h : hasRank n mh) (hs : ∀ a b, gM n mh2 a b → gM n mh a b) : hasRank n mh2 := by
  obtain ⟨rk, hr⟩ := h
  exact ⟨rk, fun a b g => hr a b (hs a b g)⟩
theorem rank_add {mh2 : Nat → Int32} {u v : Nat} (h : hasRank n mh) (hno : ¬ dp_Reach (gM n mh) v u) (hs : ∀ a b, gM n mh2 a b → gM n mh a b ∨ (a = u ∧ b = v)) : hasRank n mh2 := by
  obtain ⟨rk, hr⟩ := h
  refine ⟨fun w => @ite Nat (dp_Reach (gM n mh) v w) (Classical.propDecidable _) (rk w + rk u + 1) (rk w), fun a b g => ?_⟩
  show @ite Nat (dp_Reach (gM n mh) v a) (Classical.propDecidable _) (rk a + rk u + 1) (rk a) < @ite Nat (dp_Reach (gM n mh) v b) (Classical.propDecidable _) (rk b + rk u + 1) (rk b)
  rcases hs a b g with g | ⟨rfl, rfl⟩
  · have hlt := hr a b g
    by_cases c : dp_Reach (gM n mh) v a
    · rw [if_pos c, if_pos (dp_Reach_snoc c g)]; omega
    · rw [if_neg c]
      by_cases d : dp_Reach (gM n mh) v b
      · rw [if_pos d]; omega
      · rw [if_neg d]; exact hlt
  · rw [if_neg hno, if_pos (dp_Reach_refl _ _)]; omega
theorem gM_put {a b x y : Nat} (hb : b < 6) (hn : n ≤ 6) (g : gM n (upd mh (6 * a + b) 1) x y) : gM n mh x y ∨ (x = a ∧ y = b) := by
  by_cases c : x = a ∧ y = b
  · exact Or.inr c
  · refine Or.inl ⟨g.1, g.2.1, ?_⟩
    have h3 := g.2.2
    have := g.2.1
    rw [pk_un (by omega)] at h3; exact h3
theorem gM_take {a b x y : Nat} (g : gM n (upd mh (6 * a + b) 0) x y) : gM n mh x y := by
  refine ⟨g.1, g.2.1, ?_⟩
  have h3 := g.2.2
  by_cases c : 6 * x + y = 6 * a + b
  · rw [c, pk_us] at h3; exact absurd rfl h3
  · rw [pk_un c] at h3; exact h3
/-! how many arrows -/
def iA (mh : Nat → Int32) (k : Nat) : Nat := if mh k = 0 then 0 else 1
def cntA (mh : Nat → Int32) : Nat := sm (iA mh) 36 0
theorem sm_upd (f : Nat → Nat) (j c : Nat) : ∀ m, j < m → sm (fun k => if k = j then c else f k) m 0 + f j = sm f m 0 + c
  | 0, h => by omega
  | m + 1, h => by
    rw [sm_top, sm_top, Nat.zero_add]
    by_cases d : j = m
    · subst d
      rw [if_pos rfl, sm_congr (g := f) j 0 (fun t _ ht => if_neg (by omega))]; omega
    · rw [if_neg (fun e => d e.symm)]
      have := sm_upd f j c m (by omega)
      omega
theorem cnt_upd {j : Nat} (hj : j < 36) (v : Int32) : cntA (upd mh j v) + iA mh j = cntA mh + (if v = 0 then 0 else 1) := by
  have e : sm (iA (upd mh j v)) 36 0 = sm (fun k => if k = j then (if v = 0 then 0 else 1) else iA mh k) 36 0 := by
    refine sm_congr 36 0 (fun t _ _ => ?_)
    show iA (upd mh j v) t = if t = j then (if v = 0 then 0 else 1) else iA mh t
    unfold iA
    by_cases c : t = j
    · rw [if_pos c, c, pk_us]
    · rw [if_neg c, pk_un c]
  unfold cntA
  rw [e]
  exact sm_upd (iA mh) j (if v = 0 then 0 else 1) 36 hj
theorem mArrows_L4_eq : ∀ (k i c : Nat), i + k ≤ 36 → mArrows_L4 mh k i (nI c) = nI (c + sm (iA mh) k i)
  | 0, i, c, _ => rfl
  | k + 1, i, c, h => by
    rw [mArrows_L4, nI_clamp (by omega)]
    show _ = nI (c + (iA mh i + _))
    unfold iA
    by_cases d : mh i = 0
    · rw [if_pos d, if_pos d, mArrows_L4_eq k (i + 1) c (by omega), Nat.zero_add]; rfl
    · rw [if_neg d, if_neg d, nI_1, mArrows_L4_eq k (i + 1) (c + 1) (by omega), Nat.add_assoc]; rfl
theorem mArrows_eq : mArrows mh = nI (cntA mh) := by
  rw [mArrows, ← nI_0, mArrows_L4_eq 36 0 0 (by omega), Nat.zero_add]; rfl
theorem sm_cut (f : Nat → Nat) : ∀ d, (∀ t, n ≤ t → t < n + d → f t = 0) → sm f (n + d) 0 = sm f n 0
  | 0, _ => rfl
  | d + 1, h => by
    show sm f (n + d + 1) 0 = _
    rw [sm_top, Nat.zero_add, sm_cut f d (fun t h1 h2 => h t h1 (by omega)), h (n + d) (by omega) (by omega), Nat.add_zero]
theorem sm_36 (f : Nat → Nat) : sm f 36 0 = sm (fun a => sm (fun b => f (6 * a + b)) 6 0) 6 0 := by
  simp only [sm]
  simp only [Nat.reduceMul, Nat.reduceAdd, Nat.add_zero]
  omega
theorem cnt_nn (hn : n ≤ 6) (h : gRel n fp fc mh) : cntA mh = sm (fun a => sm (fun b => iA mh (6 * a + b)) n 0) n 0 := by
  unfold cntA
  rw [sm_36]
  obtain ⟨d, hd⟩ : ∃ d, 6 = n + d := ⟨6 - n, by omega⟩
  have z : ∀ a b, a < 6 → b < 6 → (n ≤ a ∨ n ≤ b) → iA mh (6 * a + b) = 0 := fun a b ha hb hor => by
    unfold iA
    by_cases c : mh (6 * a + b) = 0
    · rw [if_pos c]
    · have := h.1 a b ha hb c; omega
  have e1 : sm (fun a => sm (fun b => iA mh (6 * a + b)) 6 0) 6 0 = sm (fun a => sm (fun b => iA mh (6 * a + b)) n 0) 6 0 := by
    refine sm_congr 6 0 (fun a _ ha => ?_)
    have := sm_cut (n := n) (fun b => iA mh (6 * a + b)) d (fun t h1 h2 => z a t (by omega) (by omega) (Or.inr h1))
    rw [← hd] at this; exact this
  rw [e1]
  have := sm_cut (n := n) (fun a => sm (fun b => iA mh (6 * a + b)) n 0) d (fun t h1 h2 => by
    rw [sm_congr (g := fun _ => 0) n 0 (fun b _ hb => z t b (by omega) (by omega) (Or.inl h1)), sm_0])
  rw [← hd] at this; exact this
theorem gSize_L4_eq (hn : n ≤ 6) (h : gRel n fp fc mh) : ∀ (k i c : Nat), i + k ≤ n → gSize_L4 n fp k i (nI c) = nI (c + sm (fun v => sm (fun u => iA mh (6 * u + v)) n 0) k i)
  | 0, i, c, _ => rfl
  | k + 1, i, c, hk => by
    rw [gSize_L4, nI_clamp (by omega), bc_eq (m := n) (by omega) (fun w q => ((h.2.1 i (by omega) w).mp q).1), nI_add, gSize_L4_eq hn h k (i + 1) _ (by omega)]
    show _ = nI (c + (sm (fun u => iA mh (6 * u + i)) n 0 + _))
    have e : cb (bt (fp i)) n = sm (fun u => iA mh (6 * u + i)) n 0 := by
      rw [cb_sm]
      refine sm_congr n 0 (fun t _ ht => ?_)
      unfold iA
      by_cases q : mh (6 * t + i) = 0
      · rw [if_pos q, if_neg (fun z => ((h.2.1 i (by omega) t).mp z).2 q)]
      · rw [if_neg q, if_pos ((h.2.1 i (by omega) t).mpr ⟨by omega, q⟩)]
    rw [e, Nat.add_assoc]
theorem gSize_eq (hn : n ≤ 6) (h : gRel n fp fc mh) : gSize n fp = nI (cntA mh) := by
  rw [gSize, ← nI_0, gSize_L4_eq hn h n 0 0 (by omega), Nat.zero_add, cnt_nn hn h, sm_swap (fun a b => iA mh (6 * a + b)) n 0 n 0]
theorem jcI_sm (u : Nat) : ∀ k i, jcI mh u k i = sm (fun b => if mJoin mh (nI u) (nI b) = 0 then 0 else 1) k i
  | 0, _ => rfl
  | k + 1, i => by
    rw [jcI, jcI_sm u k (i + 1)]; rfl
theorem jcO_sm : ∀ k i, jcO mh n k i = sm (fun a => jcI mh a (n - (a + 1)) (a + 1)) k i
  | 0, _ => rfl
  | k + 1, i => by
    rw [jcO, jcO_sm k (i + 1)]; rfl
def jG (n : Nat) (mh : Nat → Int32) (a b : Nat) : Nat := if a < n ∧ b < n then iA mh (6 * a + b) + iA mh (6 * b + a) else 0
theorem jcO_cnt (hn : n ≤ 6) (h : gRel n fp fc mh) : jcO mh n n 0 = cntA mh := by
  have e1 : jcO mh n n 0 = sm (fun a => sm (fun b => jG n mh a b) (n - (a + 1)) (a + 1)) n 0 := by
    rw [jcO_sm]
    refine sm_congr n 0 (fun a _ ha => ?_)
    rw [jcI_sm]
    refine sm_congr _ _ (fun b h1 h2 => ?_)
    unfold jG
    rw [if_pos (show a < n ∧ b < n from ⟨by omega, by omega⟩)]
    have hj := mJoin_eq (mh := mh) hn (show a < n by omega) (show b < n by omega)
    unfold iA
    by_cases c1 : mh (6 * a + b) = 0
    · by_cases c2 : mh (6 * b + a) = 0
      · rw [if_pos c1, if_pos c2, if_pos (hj.mpr (fun q => q.elim (fun z => z.2.2 c1) (fun z => z.2.2 c2)))]
      · rw [if_pos c1, if_neg c2, if_neg (fun q => hj.mp q (Or.inr ⟨by omega, by omega, c2⟩))]
    · rw [if_neg c1, if_pos (h.1 a b (by omega) (by omega) c1).2.2.2, if_neg (fun q => hj.mp q (Or.inl ⟨by omega, by omega, c1⟩))]
  have e2 := sm_sym (jG n mh) (fun a b => by
    unfold jG
    by_cases c : a < n ∧ b < n
    · rw [if_pos c, if_pos ⟨c.2, c.1⟩, Nat.add_comm]
    · rw [if_neg c, if_neg (fun q => c ⟨q.2, q.1⟩)]) (fun a => by
    unfold jG
    by_cases c : a < n ∧ a < n
    · rw [if_pos c]
      unfold iA
      by_cases d : mh (6 * a + a) = 0
      · rw [if_pos d]
      · exact absurd rfl (h.1 a a (by omega) (by omega) d).2.2.1
    · rw [if_neg c]) n
  have e3 : sm (fun a => sm (fun b => jG n mh a b) n 0) n 0 = cntA mh + cntA mh := by
    have : sm (fun a => sm (fun b => jG n mh a b) n 0) n 0 = sm (fun a => sm (fun b => iA mh (6 * a + b)) n 0 + sm (fun b => iA mh (6 * b + a)) n 0) n 0 := by
      refine sm_congr n 0 (fun a _ ha => ?_)
      rw [← sm_add]
      refine sm_congr n 0 (fun b _ hb => ?_)
      unfold jG
      rw [if_pos (show a < n ∧ b < n from ⟨by omega, by omega⟩)]
    rw [this, sm_add, cnt_nn hn h, ← sm_swap (fun b a => iA mh (6 * b + a)) n 0 n 0]
  omega
end CH
end
section
/-! the pairs: class and reference list them alike -/
def accB (f : Nat × Nat → Nat) : Nat → List (Nat × Nat) → Nat
  | D, [] => D
  | D, q :: l => accB f (2 * D + f q) l
theorem accB_app (f : Nat × Nat → Nat) (l2 : List (Nat × Nat)) : ∀ (l1 : List (Nat × Nat)) (D : Nat), accB f D (l1 ++ l2) = accB f (accB f D l1) l2
  | [], _ => rfl
  | q :: l1, D => accB_app f l2 l1 (2 * D + f q)
theorem accB_lt (f : Nat × Nat → Nat) (hf : ∀ q, f q ≤ 1) : ∀ (l : List (Nat × Nat)) (D m : Nat), D < 2 ^ m → accB f D l < 2 ^ (m + l.length)
  | [], D, m, h => h
  | q :: l, D, m, h => by
    have hq := hf q
    have := accB_lt f hf l (2 * D + f q) (m + 1) (by rw [Nat.pow_succ]; omega)
    rw [List.length_cons, show m + (l.length + 1) = m + 1 + l.length by omega]
    exact this
theorem accB_hi (f : Nat × Nat → Nat) (hf : ∀ q, f q ≤ 1) : ∀ (l : List (Nat × Nat)) (D t : Nat), (accB f D l).testBit (l.length + t) = D.testBit t
  | [], D, t => by show D.testBit (0 + t) = _; rw [Nat.zero_add]
  | q :: l, D, t => by
    have hq := hf q
    show (accB f (2 * D + f q) l).testBit (l.length + 1 + t) = _
    rw [show l.length + 1 + t = l.length + (t + 1) by omega, accB_hi f hf l (2 * D + f q) (t + 1), Nat.testBit_succ, show (2 * D + f q) / 2 = D by omega]
theorem accB_at (f : Nat × Nat → Nat) (hf : ∀ q, f q ≤ 1) : ∀ (l : List (Nat × Nat)) (D j : Nat), j < l.length → (accB f D l).testBit (l.length - 1 - j) = decide (f (l.getD j (0, 0)) = 1)
  | [], D, j, h => by cases h
  | q :: l, D, 0, _ => by
    have hq := hf q
    show (accB f (2 * D + f q) l).testBit (l.length + 1 - 1 - 0) = decide (f q = 1)
    rw [show l.length + 1 - 1 - 0 = l.length + 0 by omega, accB_hi f hf l _ 0, Nat.testBit_zero]
    have : (2 * D + f q) % 2 = f q := by omega
    rw [this]
  | q :: l, D, j + 1, h => by
    have h2 : j < l.length := by rw [List.length_cons] at h; omega
    show (accB f (2 * D + f q) l).testBit (l.length + 1 - 1 - (j + 1)) = decide (f (l.getD j (0, 0)) = 1)
    rw [show l.length + 1 - 1 - (j + 1) = l.length - 1 - j by omega]
    exact accB_at f hf l _ j h2
section PR
variable {n : Nat} {fp fc mh : Nat → Int32}
def fallN (mh : Nat → Int32) (q : Nat × Nat) : Nat := if mh (6 * q.2 + q.1) = 0 then 0 else 1
def colN (fp fc : Nat → Int32) (q : Nat × Nat) : Nat := if (gStr fp fc (nI q.1) (nI q.2)) ||| (gStr fp fc (nI q.2) (nI q.1)) = 0 then 0 else 1
theorem fallN_le (q : Nat × Nat) : fallN mh q ≤ 1 := by unfold fallN; split <;> omega
theorem colN_le (q : Nat × Nat) : colN fp fc q ≤ 1 := by unfold colN; split <;> omega
theorem dbl (D b : Nat) : 2 * nI D + nI b = nI (2 * D + b) := by
  rw [show (2 : Int32) = nI 2 from rfl, pk_mul, nI_add]
theorem kList_eq (hn : n ≤ 6) (h : gRel n fp fc mh) {u v : Nat} (hu : u < n) (hv : v < n) (fl fh : Nat → Int32) {P : Nat} (hP : P < 9) (D C : Nat) :
    kList fp fc fl fh P (nI D) (nI C) (nI u) (nI v) = (upd fl P (nI u), upd fh P (nI v), nI (2 * D + fallN mh (u, v)), nI (2 * C + colN fp fc (u, v))) := by
  unfold kList fallN colN
  rw [nI_clamp (by omega)]
  have hf := h.hasP hn hv hu
  have e0 : ∀ D, 2 * nI D + 0 = nI (2 * D + 0) := fun D => dbl D 0
  have e1 : ∀ D, 2 * nI D + 1 = nI (2 * D + 1) := fun D => dbl D 1
  by_cases c1 : (gStr fp fc (nI u) (nI v)) ||| (gStr fp fc (nI v) (nI u)) = 0
  · rw [if_pos c1]
    by_cases c2 : mh (6 * v + u) = 0
    · rw [if_pos (hf.mpr c2), e0, e0]
      show _ = (_, _, nI (2 * D + if mh (6 * v + u) = 0 then 0 else 1), nI (2 * C + if _ then 0 else 1))
      rw [if_pos c2, if_pos c1]
    · rw [if_neg (fun q => c2 (hf.mp q)), e0, e1]
      show _ = (_, _, nI (2 * D + if mh (6 * v + u) = 0 then 0 else 1), nI (2 * C + if _ then 0 else 1))
      rw [if_neg c2, if_pos c1]
  · rw [if_neg c1]
    by_cases c2 : mh (6 * v + u) = 0
    · rw [if_pos (hf.mpr c2), e0, e1]
      show _ = (_, _, nI (2 * D + if mh (6 * v + u) = 0 then 0 else 1), nI (2 * C + if _ then 0 else 1))
      rw [if_pos c2, if_neg c1]
    · rw [if_neg (fun q => c2 (hf.mp q)), e1, e1]
      show _ = (_, _, nI (2 * D + if mh (6 * v + u) = 0 then 0 else 1), nI (2 * C + if _ then 0 else 1))
      rw [if_neg c2, if_neg c1]
theorem kRestart_L47_eq (hn : n ≤ 6) (h : gRel n fp fc mh) (fl fh : Nat → Int32) {u : Nat} (hu : u < n) (P0 : Nat) (d0 c0 : Int32) (l0 g0 : Nat → Int32) (kk : Nat → Int32 → Int32 → (Nat → Int32) → (Nat → Int32) → Nat × Int32 × Int32 × (Nat → Int32) × (Nat → Int32)) : ∀ (k i P D C : Nat) (l g : Nat → Int32), i + k ≤ n → P + jcI mh u k i ≤ 9 →
    kRestart_L47 n fp fc fl fh u P0 d0 c0 l0 g0 kk k i P (nI D) (nI C) l g = kk (P + (plI mh u k i).length) (nI (accB (fallN mh) D (plI mh u k i))) (nI (accB (colN fp fc) C (plI mh u k i))) (layA l P ((plI mh u k i).map Prod.fst)) (layA g P ((plI mh u k i).map Prod.snd))
  | 0, i, P, D, C, l, g, _, _ => rfl
  | k + 1, i, P, D, C, l, g, hk, h9 => by
    rw [kRestart_L47, plI]
    rw [jcI] at h9
    have hj := h.joinP hn hu (show i < n by omega)
    by_cases c : mJoin mh (nI u) (nI i) = 0
    · rw [if_pos c] at h9
      rw [if_pos (hj.mpr c), if_pos c]
      exact kRestart_L47_eq hn h fl fh hu P0 d0 c0 l0 g0 kk k (i + 1) P D C l g (by omega) (by omega)
    · rw [if_neg c] at h9
      rw [if_neg (fun q => c (hj.mp q)), if_neg c, if_neg (by rw [show (9 : Int32) = nI 9 from rfl, nI_leI (by omega) (by omega)]; omega), kList_eq hn h hu (by omega) l g (by omega) D C]
      rw [kRestart_L47_eq hn h fl fh hu P0 d0 c0 l0 g0 kk k (i + 1) (P + 1) _ _ _ _ (by omega) (by omega), List.length_cons, List.map_cons, List.map_cons, Nat.add_assoc, Nat.add_comm 1]
      rfl
theorem kRestart_L32_eq (hn : n ≤ 6) (h : gRel n fp fc mh) (fl fh : Nat → Int32) : ∀ (k i P D C : Nat) (l g : Nat → Int32), i + k ≤ n → P + jcO mh n k i ≤ 9 →
    kRestart_L32 n fp fc fl fh k i P (nI D) (nI C) l g = (P + (plO mh n k i).length, nI (accB (fallN mh) D (plO mh n k i)), nI (accB (colN fp fc) C (plO mh n k i)), layA l P ((plO mh n k i).map Prod.fst), layA g P ((plO mh n k i).map Prod.snd))
  | 0, i, P, D, C, l, g, _, _ => rfl
  | k + 1, i, P, D, C, l, g, hk, h9 => by
    rw [jcO] at h9
    have hl := plI_len mh i (n - (i + 1)) (i + 1)
    rw [kRestart_L32, kRestart_L47_eq hn h fl fh (by omega) P (nI D) (nI C) l g _ (n - (i + 1)) (i + 1) P D C l g (by omega) (by omega), plO]
    rw [kRestart_L32_eq hn h fl fh k (i + 1) _ _ _ _ _ (by omega) (by omega), List.length_append, List.map_append, List.map_append, layA_app, layA_app, List.length_map, List.length_map, Nat.add_assoc, accB_app, accB_app]
theorem kRestart_eq (hn : n ≤ 6) (h : gRel n fp fc mh) (hJ : jcO mh n n 0 ≤ 9) (fl fh : Nat → Int32) : kRestart n fp fc fl fh = ((plO mh n n 0).length, nI (accB (fallN mh) 0 (plO mh n n 0)), nI (accB (colN fp fc) 0 (plO mh n n 0)), layA fl 0 ((plO mh n n 0).map Prod.fst), layA fh 0 ((plO mh n n 0).map Prod.snd)) := by
  rw [kRestart]
  show kRestart_L32 n fp fc fl fh n 0 0 (nI 0) (nI 0) fl fh = _
  rw [kRestart_L32_eq hn h fl fh n 0 0 0 0 fl fh (by omega) (by omega), Nat.zero_add]
/-- the pairs that the class holds -/
def pRel (n : Nat) (fp fc mh : Nat → Int32) (P : Nat) (dc cb : Int32) (fl fh : Nat → Int32) : Prop :=
  P = (plO mh n n 0).length ∧ P ≤ 9 ∧ dc = nI (accB (fallN mh) 0 (plO mh n n 0)) ∧ cb = nI (accB (colN fp fc) 0 (plO mh n n 0)) ∧ ∀ j, j < P → fl j = nI ((plO mh n n 0).getD j (0, 0)).1 ∧ fh j = nI ((plO mh n n 0).getD j (0, 0)).2
theorem lay_get (L : List (Nat × Nat)) (f : Nat → Int32) {j : Nat} (hj : j < L.length) : layA f 0 (L.map Prod.fst) j = nI (L.getD j (0, 0)).1 := by
  have := layA_at (L.map Prod.fst) f 0 j (by rw [List.length_map]; exact hj)
  rw [Nat.zero_add] at this
  rw [this, List.getElem_map, List.getD_eq_getElem?_getD, List.getElem?_eq_getElem hj]; rfl
theorem lay_get2 (L : List (Nat × Nat)) (f : Nat → Int32) {j : Nat} (hj : j < L.length) : layA f 0 (L.map Prod.snd) j = nI (L.getD j (0, 0)).2 := by
  have := layA_at (L.map Prod.snd) f 0 j (by rw [List.length_map]; exact hj)
  rw [Nat.zero_add] at this
  rw [this, List.getElem_map, List.getD_eq_getElem?_getD, List.getElem?_eq_getElem hj]; rfl
theorem restart_pRel (hn : n ≤ 6) (h : gRel n fp fc mh) (hJ : jcO mh n n 0 ≤ 9) (fl fh : Nat → Int32) : pRel n fp fc mh (kRestart n fp fc fl fh).1 (kRestart n fp fc fl fh).2.1 (kRestart n fp fc fl fh).2.2.1 (kRestart n fp fc fl fh).2.2.2.1 (kRestart n fp fc fl fh).2.2.2.2 := by
  rw [kRestart_eq hn h hJ]
  exact ⟨rfl, by rw [plO_len]; exact hJ, rfl, rfl, fun j hj => ⟨lay_get _ fl hj, lay_get2 _ fh hj⟩⟩
/-! the list of pairs -/
theorem pl_mem {j : Nat} (hj : j < (plO mh n n 0).length) : ((plO mh n n 0).getD j (0, 0)).1 < ((plO mh n n 0).getD j (0, 0)).2 ∧ ((plO mh n n 0).getD j (0, 0)).2 < n ∧ ¬ mJoin mh (nI ((plO mh n n 0).getD j (0, 0)).1) (nI ((plO mh n n 0).getD j (0, 0)).2) = 0 := by
  have : (plO mh n n 0).getD j (0, 0) ∈ plO mh n n 0 := by
    rw [List.getD_eq_getElem?_getD, List.getElem?_eq_getElem hj]
    exact List.getElem_mem hj
  have := plO_mem mh n n 0 _ this
  exact ⟨this.2.2.1, this.2.2.2.1, this.2.2.2.2⟩
theorem plI_all (u : Nat) : ∀ k i v, i ≤ v → v < i + k → ¬ mJoin mh (nI u) (nI v) = 0 → (u, v) ∈ plI mh u k i
  | 0, i, v, h1, h2, _ => by omega
  | k + 1, i, v, h1, h2, hj => by
    rw [plI]
    by_cases c : v = i
    · subst c
      rw [if_neg hj]; exact List.mem_cons_self
    · have := plI_all u k (i + 1) v (by omega) (by omega) hj
      by_cases d : mJoin mh (nI u) (nI i) = 0
      · rw [if_pos d]; exact this
      · rw [if_neg d]; exact List.mem_cons_of_mem _ this
theorem plO_all : ∀ k i u v, i ≤ u → u < i + k → u < v → v < n → ¬ mJoin mh (nI u) (nI v) = 0 → (u, v) ∈ plO mh n k i
  | 0, i, u, v, h1, h2, _, _, _ => by omega
  | k + 1, i, u, v, h1, h2, h3, h4, hj => by
    rw [plO]
    by_cases c : u = i
    · subst c
      exact List.mem_append_left _ (plI_all u _ _ v (by omega) (by omega) hj)
    · exact List.mem_append_right _ (plO_all k (i + 1) u v (by omega) (by omega) h3 h4 hj)
theorem pl_find {u v : Nat} (huv : u < v) (hv : v < n) (hj : ¬ mJoin mh (nI u) (nI v) = 0) : ∃ j, j < (plO mh n n 0).length ∧ (plO mh n n 0).getD j (0, 0) = (u, v) := by
  obtain ⟨j, hj1, hj2⟩ := List.getElem_of_mem (plO_all (mh := mh) (n := n) n 0 u v (by omega) (by omega) huv hv hj)
  exact ⟨j, hj1, by rw [List.getD_eq_getElem?_getD, List.getElem?_eq_getElem hj1]; exact hj2⟩
def lexR (p q : Nat × Nat) : Prop := p.1 < q.1 ∨ (p.1 = q.1 ∧ p.2 < q.2)
theorem plI_pw (u : Nat) : ∀ k i, (plI mh u k i).Pairwise lexR
  | 0, _ => List.Pairwise.nil
  | k + 1, i => by
    rw [plI]
    by_cases d : mJoin mh (nI u) (nI i) = 0
    · rw [if_pos d]; exact plI_pw u k (i + 1)
    · rw [if_neg d]
      refine List.pairwise_cons.mpr ⟨fun q hq => ?_, plI_pw u k (i + 1)⟩
      have := plI_mem mh u k (i + 1) q hq
      exact Or.inr ⟨this.1.symm, by show i < q.2; omega⟩
theorem plO_pw : ∀ k i, (plO mh n k i).Pairwise lexR
  | 0, _ => List.Pairwise.nil
  | k + 1, i => by
    rw [plO]
    refine List.pairwise_append.mpr ⟨plI_pw i _ _, plO_pw k (i + 1), fun p hp q hq => ?_⟩
    have h1 := plI_mem mh i _ _ p hp
    have h2 := plO_mem mh n k (i + 1) q hq
    exact Or.inl (by omega)
theorem pl_inj {i j : Nat} (hi : i < (plO mh n n 0).length) (hj : j < (plO mh n n 0).length) (he : (plO mh n n 0).getD i (0, 0) = (plO mh n n 0).getD j (0, 0)) : i = j := by
  have hp := List.pairwise_iff_getElem.mp (plO_pw (mh := mh) (n := n) n 0)
  rw [List.getD_eq_getElem?_getD, List.getElem?_eq_getElem hi, List.getD_eq_getElem?_getD, List.getElem?_eq_getElem hj] at he
  have he : (plO mh n n 0)[i] = (plO mh n n 0)[j] := he
  rcases Nat.lt_trichotomy i j with h | h | h
  · have := hp i j hi hj h
    rw [he] at this
    rcases this with q | q <;> omega
  · exact h
  · have := hp j i hj hi h
    rw [he] at this
    rcases this with q | q <;> omega
end PR
end
section
/-! codes: which way each pair goes; members of class and reference -/
def ixq (b : Bool) (q : Nat × Nat) : Nat := if b = true then 6 * q.2 + q.1 else 6 * q.1 + q.2
def tbl (w P : Nat) : Nat → List (Nat × Nat) → (Nat → Int32) → Nat → Int32
  | _, [], t => t
  | j, q :: l, t => tbl w P (j + 1) l (upd t (ixq (w.testBit (P - 1 - j)) q) 1)
theorem tbl_ne (w P : Nat) : ∀ (l : List (Nat × Nat)) (j : Nat) (t : Nat → Int32) (x : Nat), ¬ tbl w P j l t x = 0 ↔ ¬ t x = 0 ∨ ∃ i, i < l.length ∧ x = ixq (w.testBit (P - 1 - (j + i))) (l.getD i (0, 0))
  | [], j, t, x => ⟨fun h => Or.inl h, fun h => h.elim id (fun ⟨i, hi, _⟩ => by cases hi)⟩
  | q :: l, j, t, x => by
    show ¬ tbl w P (j + 1) l (upd t (ixq (w.testBit (P - 1 - j)) q) 1) x = 0 ↔ _
    rw [tbl_ne w P l (j + 1)]
    by_cases c : x = ixq (w.testBit (P - 1 - j)) q
    · constructor
      · intro _
        exact Or.inr ⟨0, by rw [List.length_cons]; omega, c⟩
      · intro _
        rw [← c, pk_us]; exact Or.inl (by decide)
    · rw [pk_un c]
      constructor
      · rintro (h | ⟨i, hi, e⟩)
        · exact Or.inl h
        · refine Or.inr ⟨i + 1, by rw [List.length_cons]; omega, ?_⟩
          rw [show j + (i + 1) = j + 1 + i by omega]; exact e
      · rintro (h | ⟨i, hi, e⟩)
        · exact Or.inl h
        · cases i with
          | zero => exact absurd e c
          | succ i =>
            refine Or.inr ⟨i, by rw [List.length_cons] at hi; omega, ?_⟩
            rw [show j + (i + 1) = j + 1 + i by omega] at e; exact e
theorem tbl_01 (w P : Nat) : ∀ (l : List (Nat × Nat)) (j : Nat) (t : Nat → Int32), is01 t → is01 (tbl w P j l t)
  | [], _, _, h => h
  | q :: l, j, t, h => tbl_01 w P l (j + 1) _ (is01_upd h (Or.inr rfl))
section CD
variable {n : Nat} {fp fc mh : Nat → Int32}
/-- the table of code w -/
def tW (n : Nat) (mh : Nat → Int32) (w : Nat) : Nat → Int32 := tbl w (plO mh n n 0).length 0 (plO mh n n 0) (fun _ => 0)
theorem tW_ne (w x : Nat) : ¬ tW n mh w x = 0 ↔ ∃ i, i < (plO mh n n 0).length ∧ x = ixq (w.testBit ((plO mh n n 0).length - 1 - i)) ((plO mh n n 0).getD i (0, 0)) := by
  unfold tW
  rw [tbl_ne]
  constructor
  · rintro (h | ⟨i, hi, e⟩)
    · exact absurd rfl h
    · rw [Nat.zero_add] at e; exact ⟨i, hi, e⟩
  · rintro ⟨i, hi, e⟩
    exact Or.inr ⟨i, hi, by rw [Nat.zero_add]; exact e⟩
theorem tW_01 (w : Nat) : is01 (tW n mh w) := tbl_01 w _ _ 0 _ (fun _ => Or.inl rfl)
/-- the pair number j in the table -/
theorem tW_up (hn : n ≤ 6) (w : Nat) {j u v : Nat} (hj : j < (plO mh n n 0).length) (e : (plO mh n n 0).getD j (0, 0) = (u, v)) : (¬ tW n mh w (6 * u + v) = 0 ↔ w.testBit ((plO mh n n 0).length - 1 - j) = false) ∧ (¬ tW n mh w (6 * v + u) = 0 ↔ w.testBit ((plO mh n n 0).length - 1 - j) = true) := by
  have hm := pl_mem hj
  rw [e] at hm
  have hm1 : u < v := hm.1
  have hm2 : v < n := hm.2.1
  constructor
  · rw [tW_ne]
    constructor
    · rintro ⟨i, hi, hx⟩
      have hi2 := pl_mem hi
      unfold ixq at hx
      by_cases c : w.testBit ((plO mh n n 0).length - 1 - i) = true
      · rw [if_pos c] at hx
        omega
      · rw [if_neg c] at hx
        have : (plO mh n n 0).getD i (0, 0) = (plO mh n n 0).getD j (0, 0) := by
          rw [e]; exact Prod.ext (by show _ = u; omega) (by show _ = v; omega)
        rw [← pl_inj hi hj this]
        simpa using c
    · intro h
      refine ⟨j, hj, ?_⟩
      rw [h, e]; rfl
  · rw [tW_ne]
    constructor
    · rintro ⟨i, hi, hx⟩
      have hi2 := pl_mem hi
      unfold ixq at hx
      by_cases c : w.testBit ((plO mh n n 0).length - 1 - i) = true
      · rw [if_pos c] at hx
        have : (plO mh n n 0).getD i (0, 0) = (plO mh n n 0).getD j (0, 0) := by
          rw [e]; exact Prod.ext (by show _ = u; omega) (by show _ = v; omega)
        rw [← pl_inj hi hj this]
        exact c
      · rw [if_neg c] at hx
        omega
    · intro h
      refine ⟨j, hj, ?_⟩
      rw [h, e]; rfl
theorem tW_in (hn : n ≤ 6) (w : Nat) {a b : Nat} (ha : a < 6) (hb : b < 6) (h : ¬ tW n mh w (6 * a + b) = 0) : a < n ∧ b < n ∧ a ≠ b ∧ ¬ mJoin mh (nI a) (nI b) = 0 := by
  obtain ⟨i, hi, hx⟩ := (tW_ne w _).mp h
  have hm := pl_mem hi
  unfold ixq at hx
  by_cases c : w.testBit ((plO mh n n 0).length - 1 - i) = true
  · rw [if_pos c] at hx
    have e1 : a = ((plO mh n n 0).getD i (0, 0)).2 := by omega
    have e2 : b = ((plO mh n n 0).getD i (0, 0)).1 := by omega
    refine ⟨by omega, by omega, by omega, ?_⟩
    rw [e1, e2, mJoin_eq hn (by omega) (by omega)]
    have := hm.2.2
    rw [mJoin_eq hn (by omega) (by omega)] at this
    exact fun q => this (fun z => q z.symm)
  · rw [if_neg c] at hx
    have e1 : a = ((plO mh n n 0).getD i (0, 0)).1 := by omega
    have e2 : b = ((plO mh n n 0).getD i (0, 0)).2 := by omega
    refine ⟨by omega, by omega, by omega, ?_⟩
    rw [e1, e2]; exact hm.2.2
/-! the reference's direct -/
theorem drop_cons {L : List (Nat × Nat)} {i : Nat} (h : i < L.length) : L.drop i = L.getD i (0, 0) :: L.drop (i + 1) := by
  rw [List.drop_eq_getElem_cons h, List.getD_eq_getElem?_getD, List.getElem?_eq_getElem h]; rfl
theorem sub_ix {P i : Nat} (h : i < P) : nI P - 1 - nI i = nI (P - 1 - i) := by
  rw [vz_sub1 (by omega), pk_sub (by omega)]
theorem mDirect_L23_eq {mt ml mg : Nat → Int32} {L : List (Nat × Nat)} (hL : L.length ≤ 9) (hm : ∀ j, j < L.length → (L.getD j (0, 0)).1 < 6 ∧ (L.getD j (0, 0)).2 < 6) (hl : ∀ j, j < L.length → ml j = nI (L.getD j (0, 0)).1 ∧ mg j = nI (L.getD j (0, 0)).2) {w : Nat} (hw : w < 2 ^ 31) (i2 : Nat) (t2 : Nat → Int32) : ∀ (k i : Nat) (t : Nat → Int32), i + k = L.length →
    mDirect_L23 mt ml mg L.length (nI w) i2 t2 k i t = tbl w L.length i (L.drop i) t
  | 0, i, t, h => by
    rw [mDirect_L23, List.drop_eq_nil_of_le (by omega)]; rfl
  | k + 1, i, t, h => by
    have hi : i < L.length := by omega
    rw [mDirect_L23, drop_cons hi, nI_clamp (by omega), (hl i hi).1, (hl i hi).2, vz_ixC (hm i hi).1 (hm i hi).2, vz_ixC (hm i hi).2 (hm i hi).1, nar1, sub_ix hi]
    have hb := b_at0 (nI w) (show L.length - 1 - i < 32 by omega)
    rw [nI_bt hw] at hb
    show _ = tbl w L.length (i + 1) (L.drop (i + 1)) (upd t (ixq (w.testBit (L.length - 1 - i)) (L.getD i (0, 0))) 1)
    unfold ixq
    by_cases c : w.testBit (L.length - 1 - i) = true
    · rw [if_neg (fun q => by rw [hb.mp q] at c; cases c), if_pos c]
      exact mDirect_L23_eq hL hm hl hw i2 t2 k (i + 1) _ (by omega)
    · have c2 : w.testBit (L.length - 1 - i) = false := by simpa using c
      rw [if_pos (hb.mpr c2), if_neg c]
      exact mDirect_L23_eq hL hm hl hw i2 t2 k (i + 1) _ (by omega)
theorem mDirect_L2_eq {mt ml mg : Nat → Int32} {Q : Nat} {way : Int32} : ∀ (k i : Nat) (t : Nat → Int32), i + k = 36 → (∀ j, j < i → t j = 0) → (∀ j, 36 ≤ j → t j = 0) → ∃ i2, mDirect_L2 mt ml mg Q way k i t = mDirect_L23 mt ml mg Q way i2 (fun _ => 0) Q 0 (fun _ => 0)
  | 0, i, t, h, h0, h36 => by
    have : t = fun _ => 0 := funext (fun j => by
      rcases Nat.lt_or_ge j i with q | q
      · exact h0 j q
      · exact h36 j (by omega))
    subst this
    exact ⟨i, rfl⟩
  | k + 1, i, t, h, h0, h36 => by
    rw [mDirect_L2, nI_clamp (by omega), nar0]
    refine mDirect_L2_eq k (i + 1) _ (by omega) (fun j hj => ?_) (fun j hj => ?_)
    · by_cases c : j = i
      · rw [c, pk_us]
      · rw [pk_un c]; exact h0 j (by omega)
    · rw [pk_un (by omega)]; exact h36 j hj
theorem mDirect_eq (hn : n ≤ 6) {mt ml mg : Nat → Int32} (hP : (plO mh n n 0).length ≤ 9) (hl : ∀ j, j < (plO mh n n 0).length → ml j = nI ((plO mh n n 0).getD j (0, 0)).1 ∧ mg j = nI ((plO mh n n 0).getD j (0, 0)).2) (h36 : ∀ j, 36 ≤ j → mt j = 0) {w : Nat} (hw : w < 2 ^ 31) :
    mDirect mt ml mg (plO mh n n 0).length (nI w) = tW n mh w := by
  obtain ⟨i2, e⟩ := mDirect_L2_eq (ml := ml) (mg := mg) (mt := mt) (Q := (plO mh n n 0).length) (way := nI w) 36 0 mt (by omega) (fun j hj => by omega) h36
  rw [mDirect, e, mDirect_L23_eq hP (fun j hj => by have := pl_mem (mh := mh) hj; omega) hl hw i2 _ _ 0 _ (by omega)]
  rfl
/-! the reference's isMember -/
theorem mMember_L58_eq (hn : n ≤ 6) {mk T : Nat → Int32} (i2 : Nat) {c : Nat} (hc : c < n) {a : Nat} (ha : a < n) (kk : Unit → Int32) : ∀ (k i : Nat), i + k ≤ n → a < i → (mMember_L58 n mh mk T i2 c a kk k i = 0 ↔ kk () = 0 ∨ ¬ ∀ b, i ≤ b → b < i + k → (kP mh a b c ↔ kP T a b c))
  | 0, i, _, _ => ⟨fun h => Or.inl h, fun h => h.elim id (fun q => absurd (fun b h1 h2 => by omega) q)⟩
  | k + 1, i, hk, hi => by
    rw [mMember_L58]
    have m1 := mColl1_eq (mh := mh) (show a < 6 by omega) (show i < 6 by omega) (show c < 6 by omega)
    have m2 := mColl1_eq (mh := T) (show a < 6 by omega) (show i < 6 by omega) (show c < 6 by omega)
    have key : mColl1 mh (nI a) (nI c) (nI i) = mColl1 T (nI a) (nI c) (nI i) ↔ (kP mh a i c ↔ kP T a i c) := by
      rcases m1 with ⟨e1, k1⟩ | ⟨e1, k1⟩ <;> rcases m2 with ⟨e2, k2⟩ | ⟨e2, k2⟩ <;> rw [e1, e2]
      · exact ⟨fun _ => ⟨fun q => absurd q k1, fun q => absurd q k2⟩, fun _ => rfl⟩
      · exact ⟨fun q => absurd q (by decide), fun q => absurd (q.mpr k2) k1⟩
      · exact ⟨fun q => absurd q (by decide), fun q => absurd (q.mp k1) k2⟩
      · exact ⟨fun _ => ⟨fun _ => k2, fun _ => k1⟩, fun _ => rfl⟩
    by_cases c1 : mColl1 mh (nI a) (nI c) (nI i) = mColl1 T (nI a) (nI c) (nI i)
    · rw [if_pos c1, mMember_L58_eq hn i2 hc ha kk k (i + 1) (by omega) (by omega)]
      refine or_congr_right (not_congr ⟨fun h b h1 h2 => ?_, fun h b h1 h2 => h b (by omega) (by omega)⟩)
      by_cases d : b = i
      · rw [d]; exact key.mp c1
      · exact h b (by omega) (by omega)
    · rw [if_neg c1]
      exact ⟨fun _ => Or.inr (fun h => c1 (key.mpr (h i (by omega) (by omega)))), fun _ => rfl⟩
theorem mMember_L46_eq (hn : n ≤ 6) {mk T : Nat → Int32} (i2 : Nat) {c : Nat} (hc : c < n) (kk : Unit → Int32) : ∀ (k i : Nat), i + k ≤ n → (mMember_L46 n mh mk T i2 c kk k i = 0 ↔ kk () = 0 ∨ ¬ ∀ a b, i ≤ a → a < i + k → a < b → b < n → (kP mh a b c ↔ kP T a b c))
  | 0, i, _ => ⟨fun h => Or.inl h, fun h => h.elim id (fun q => absurd (fun a b h1 h2 => by omega) q)⟩
  | k + 1, i, hk => by
    rw [mMember_L46, mMember_L58_eq hn i2 hc (by omega) _ (n - (i + 1)) (i + 1) (by omega) (by omega)]
    show mMember_L46 n mh mk T i2 c kk k (i + 1) = 0 ∨ _ ↔ _
    rw [mMember_L46_eq hn i2 hc kk k (i + 1) (by omega), or_assoc]
    refine or_congr_right ?_
    constructor
    · rintro (h | h)
      · exact fun q => h (fun a b h1 h2 => q a b (by omega) (by omega))
      · exact fun q => h (fun b h1 h2 => q i b (by omega) (by omega) (by omega) (by omega))
    · intro h
      refine Classical.byContradiction (fun hno => h (fun a b h1 h2 h3 h4 => ?_))
      have n1 : ∀ a b, i + 1 ≤ a → a < i + 1 + k → a < b → b < n → (kP mh a b c ↔ kP T a b c) := Classical.byContradiction (fun z => hno (Or.inl z))
      have n2 : ∀ b, i + 1 ≤ b → b < i + 1 + (n - (i + 1)) → (kP mh i b c ↔ kP T i b c) := Classical.byContradiction (fun z => hno (Or.inr z))
      by_cases d : a = i
      · rw [d]; exact n2 b (by omega) (by omega)
      · exact n1 a b (by omega) (by omega) h3 h4
theorem mMember_L36_eq (hn : n ≤ 6) {mk T : Nat → Int32} (i2 : Nat) : ∀ (k i : Nat), i + k ≤ n → (mMember_L36 n mh mk T i2 k i = 0 ↔ ¬ mRing n T = 0 ∨ ¬ ∀ c a b, i ≤ c → c < i + k → a < b → b < n → (kP mh a b c ↔ kP T a b c))
  | 0, i, _ => by
    rw [mMember_L36]
    by_cases c : mRing n T = 0
    · rw [if_pos c]
      exact ⟨fun q => absurd q (by decide), fun q => q.elim (fun z => absurd c z) (fun z => absurd (fun c a b h1 h2 => by omega) z)⟩
    · rw [if_neg c]; exact ⟨fun _ => Or.inl c, fun _ => rfl⟩
  | k + 1, i, hk => by
    rw [mMember_L36, mMember_L46_eq hn i2 (by omega) _ n 0 (by omega)]
    show mMember_L36 n mh mk T i2 k (i + 1) = 0 ∨ _ ↔ _
    rw [mMember_L36_eq hn i2 k (i + 1) (by omega), or_assoc]
    refine or_congr_right ?_
    constructor
    · rintro (h | h)
      · exact fun q => h (fun c a b h1 h2 => q c a b (by omega) (by omega))
      · exact fun q => h (fun a b h1 h2 h3 h4 => q i a b (by omega) (by omega) h3 h4)
    · intro h
      refine Classical.byContradiction (fun hno => h (fun c a b h1 h2 h3 h4 => ?_))
      have n1 : ∀ c a b, i + 1 ≤ c → c < i + 1 + k → a < b → b < n → (kP mh a b c ↔ kP T a b c) := Classical.byContradiction (fun z => hno (Or.inl z))
      have n2 : ∀ a b, 0 ≤ a → a < 0 + n → a < b → b < n → (kP mh a b i ↔ kP T a b i) := Classical.byContradiction (fun z => hno (Or.inr z))
      by_cases d : c = i
      · rw [d]; exact n2 a b (by omega) (by omega) h3 h4
      · exact n1 c a b (by omega) (by omega) h3 h4
theorem mMember_L2_eq (hn : n ≤ 6) {mk T : Nat → Int32} : ∀ (k i : Nat), i + k ≤ 36 → (mMember_L2 n mh mk T k i = 0 ↔ (¬ mRing n T = 0 ∨ ¬ ∀ c a b, c < n → a < b → b < n → (kP mh a b c ↔ kP T a b c)) ∨ ¬ ∀ x, i ≤ x → x < i + k → ¬ mk x = 0 → ¬ T x = 0)
  | 0, i, _ => by
    rw [mMember_L2, mMember_L36_eq hn i n 0 (by omega)]
    constructor
    · rintro (h | h)
      · exact Or.inl (Or.inl h)
      · exact Or.inl (Or.inr (fun q => h (fun c a b _ h2 => q c a b (by omega))))
    · rintro ((h | h) | h)
      · exact Or.inl h
      · exact Or.inr (fun q => h (fun c a b h2 => q c a b (by omega) (by omega)))
      · exact absurd (fun x h1 h2 => by omega) h
  | k + 1, i, hk => by
    rw [mMember_L2, nI_clamp (by omega)]
    have ih := mMember_L2_eq hn (mk := mk) (T := T) k (i + 1) (by omega)
    by_cases c1 : mk i = 0
    · rw [if_pos c1, ih]
      refine or_congr_right (not_congr ⟨fun h x h1 h2 h3 => ?_, fun h x h1 h2 => h x (by omega) (by omega)⟩)
      by_cases d : x = i
      · rw [d] at h3; exact absurd c1 h3
      · exact h x (by omega) (by omega) h3
    · rw [if_neg c1]
      by_cases c2 : T i = 0
      · rw [if_pos c2]
        exact ⟨fun _ => Or.inr (fun h => h i (by omega) (by omega) c1 c2), fun _ => rfl⟩
      · rw [if_neg c2, ih]
        refine or_congr_right (not_congr ⟨fun h x h1 h2 h3 => ?_, fun h x h1 h2 => h x (by omega) (by omega)⟩)
        by_cases d : x = i
        · rw [d]; exact c2
        · exact h x (by omega) (by omega) h3
theorem mMember_eq (hn : n ≤ 6) {mk T : Nat → Int32} : ¬ mMember n mh mk T = 0 ↔ mRing n T = 0 ∧ (∀ c a b, c < n → a < b → b < n → (kP mh a b c ↔ kP T a b c)) ∧ ∀ x, x < 36 → ¬ mk x = 0 → ¬ T x = 0 := by
  rw [mMember, mMember_L2_eq hn 36 0 (by omega)]
  constructor
  · intro h
    refine ⟨Classical.byContradiction (fun z => h (Or.inl (Or.inl z))), Classical.byContradiction (fun z => h (Or.inl (Or.inr z))), ?_⟩
    have := Classical.byContradiction (fun z => h (Or.inr z))
    exact fun x hx => this x (by omega) (by omega)
  · rintro ⟨h1, h2, h3⟩ ((q | q) | q)
    · exact q h1
    · exact q h2
    · exact q (fun x _ hx => h3 x (by omega))
/-! the class's gLike -/
theorem gLike_L12_eq {fq fd : Nat → Int32} (c : Nat) (kk : Unit → Int32) : ∀ (k i : Nat), (gLike_L12 n fq fd fp fc c kk k i = 0 ↔ kk () = 0 ∨ ¬ ∀ a, i ≤ a → a < i + k → gStr fq fd (nI a) (nI c) = gStr fp fc (nI a) (nI c))
  | 0, i => ⟨fun h => Or.inl h, fun h => h.elim id (fun q => absurd (fun b h1 h2 => by omega) q)⟩
  | k + 1, i => by
    rw [gLike_L12]
    by_cases c1 : gStr fq fd (nI i) (nI c) = gStr fp fc (nI i) (nI c)
    · rw [if_pos c1, gLike_L12_eq c kk k (i + 1)]
      refine or_congr_right (not_congr ⟨fun h b h1 h2 => ?_, fun h b h1 h2 => h b (by omega) (by omega)⟩)
      by_cases d : b = i
      · rw [d]; exact c1
      · exact h b (by omega) (by omega)
    · rw [if_neg c1]
      exact ⟨fun _ => Or.inr (fun h => c1 (h i (by omega) (by omega))), fun _ => rfl⟩
theorem gLike_L2_eq {fq fd : Nat → Int32} : ∀ (k i : Nat), (gLike_L2 n fq fd fp fc k i = 0 ↔ ¬ ∀ c a, i ≤ c → c < i + k → a < n → gStr fq fd (nI a) (nI c) = gStr fp fc (nI a) (nI c))
  | 0, i => ⟨fun h => absurd (show (1 : Int32) = 0 from h) (by decide), fun h => absurd (fun c a h1 h2 => by omega) h⟩
  | k + 1, i => by
    rw [gLike_L2, gLike_L12_eq i _ n 0]
    show gLike_L2 n fq fd fp fc k (i + 1) = 0 ∨ _ ↔ _
    rw [gLike_L2_eq k (i + 1)]
    constructor
    · rintro (h | h)
      · exact fun q => h (fun c a h1 h2 => q c a (by omega) (by omega))
      · exact fun q => h (fun a h1 h2 => q i a (by omega) (by omega) (by omega))
    · intro h
      refine Classical.byContradiction (fun hno => h (fun c a h1 h2 h3 => ?_))
      have n1 : ∀ c a, i + 1 ≤ c → c < i + 1 + k → a < n → gStr fq fd (nI a) (nI c) = gStr fp fc (nI a) (nI c) := Classical.byContradiction (fun z => hno (Or.inl z))
      have n2 : ∀ a, 0 ≤ a → a < 0 + n → gStr fq fd (nI a) (nI i) = gStr fp fc (nI a) (nI i) := Classical.byContradiction (fun z => hno (Or.inr z))
      by_cases d : c = i
      · rw [d]; exact n2 a (by omega) (by omega)
      · exact n1 c a (by omega) (by omega) h3
theorem gLike_eq (hn : n ≤ 6) {fq fd T : Nat → Int32} (h1 : mskR n fp fc mh) (h2 : mskR n fq fd T) : ¬ gLike n fq fd fp fc = 0 ↔ ∀ c a b, c < n → a < b → b < n → (kP mh a b c ↔ kP T a b c) := by
  rw [gLike, gLike_L2_eq n 0]
  constructor
  · intro h c a b hc hab hb
    have := Classical.not_not.mp h c a (by omega) (by omega) (by omega)
    have e := b_eq.mp this b
    have q1 := gStr_bt hn h1 (show a < n by omega) hc b
    have q2 := gStr_bt hn h2 (show a < n by omega) hc b
    rw [e] at q2
    constructor
    · intro k; exact (q2.mp (q1.mpr ⟨hb, by omega, k⟩)).2.2
    · intro k; exact (q1.mp (q2.mpr ⟨hb, by omega, k⟩)).2.2
  · intro h q
    refine q (fun c a _ hc ha => b_iff (fun b => ?_))
    rw [gStr_bt hn h1 ha (by omega) b, gStr_bt hn h2 ha (by omega) b]
    refine and_congr_right (fun hb => and_congr_right (fun hba => ?_))
    rcases Nat.lt_or_ge a b with g | g
    · exact (h c a b (by omega) g hb).symm
    · exact (kP_sym.trans ((h c b a (by omega) (by omega) ha).symm)).trans kP_sym
end CD
end
section
/-! a code is a member in the class just when it is in the reference -/
section MB
variable {n : Nat} {fp fc mh : Nat → Int32}
theorem and_bit {x : Int32} {t : Nat} (ht : t < 32) : x &&& (1 : Int32) <<< (nI t &&& 31) = 0 ↔ bt x t = false := by
  rw [b_eq0]
  constructor
  · intro h
    have := h t
    rw [b_and, b_one ht, decide_eq_true rfl, Bool.and_true] at this
    exact this
  · intro h i
    rw [b_and, b_one ht]
    by_cases c : i = t
    · rw [c, h]; rfl
    · rw [decide_eq_false c, Bool.and_false]
theorem gEmpty_L2_eq (fq0 fd0 : Nat → Int32) : ∀ (k i : Nat) (q r : Nat → Int32), i + k ≤ 6 → ∀ v, (i ≤ v → v < i + k → (gEmpty_L2 n fq0 fd0 k i q r).1 v = 0 ∧ (gEmpty_L2 n fq0 fd0 k i q r).2 v = 0) ∧ (v < i → (gEmpty_L2 n fq0 fd0 k i q r).1 v = q v ∧ (gEmpty_L2 n fq0 fd0 k i q r).2 v = r v)
  | 0, i, q, r, _, v => ⟨fun h1 h2 => by omega, fun _ => ⟨rfl, rfl⟩⟩
  | k + 1, i, q, r, h, v => by
    rw [gEmpty_L2, nI_clamp (by omega)]
    have ih := gEmpty_L2_eq fq0 fd0 k (i + 1) (upd q i 0) (upd r i 0) (by omega) v
    refine ⟨fun h1 h2 => ?_, fun h1 => ?_⟩
    · by_cases c : v = i
      · have := ih.2 (by omega)
        rw [c] at this ⊢
        rw [pk_us, pk_us] at this
        exact this
      · exact ih.1 (by omega) (by omega)
    · have := ih.2 (by omega)
      rw [pk_un (by omega), pk_un (by omega)] at this
      exact this
theorem msk_empty (hn : n ≤ 6) (fq fd : Nat → Int32) : mskR n (gEmpty n fq fd).1 (gEmpty n fq fd).2 (fun _ => 0) := by
  have h := gEmpty_L2_eq (n := n) fq fd n 0 fq fd (by omega)
  refine ⟨fun v hv u => ?_, fun u hu v => ?_⟩
  · rw [gEmpty, ((h v).1 (by omega) (by omega)).1, b_0]
    exact ⟨fun q => (by cases q), fun q => absurd rfl q.2⟩
  · rw [gEmpty, ((h u).1 (by omega) (by omega)).2, b_0]
    exact ⟨fun q => (by cases q), fun q => absurd rfl q.2⟩
theorem kMember_L40_eq (hn : n ≤ 6) {fq0 fd0 fl fh : Nat → Int32} {dc cbb kb kc : Int32} {L : List (Nat × Nat)} (hL : L.length ≤ 9) (hm : ∀ j, j < L.length → (L.getD j (0, 0)).1 < n ∧ (L.getD j (0, 0)).2 < n) (hl : ∀ j, j < L.length → fl j = nI (L.getD j (0, 0)).1 ∧ fh j = nI (L.getD j (0, 0)).2) {w : Nat} (hw : w < 2 ^ 31) : ∀ (k i : Nat) (fq fd t : Nat → Int32), i + k = L.length → mskR n fq fd t →
    ∃ fq2 fd2, mskR n fq2 fd2 (tbl w L.length i (L.drop i) t) ∧ kMember_L40 n fp fc fq0 fd0 fl fh L.length dc cbb kb kc (nI w) k i fq fd = (if gLike n fq2 fd2 fp fc = 0 then (0, fq2, fd2) else (if gRing n fq2 = 0 then (1, fq2, fd2) else (0, fq2, fd2)))
  | 0, i, fq, fd, t, h, hr => by
    refine ⟨fq, fd, ?_, ?_⟩
    · rw [List.drop_eq_nil_of_le (by omega)]; exact hr
    · rw [kMember_L40]
  | k + 1, i, fq, fd, t, h, hr => by
    have hi : i < L.length := by omega
    rw [kMember_L40, drop_cons hi, nI_clamp (by omega), (hl i hi).1, (hl i hi).2]
    have hb := and_bit (x := nI w) (show L.length - 1 - i < 32 by omega)
    rw [nI_bt hw] at hb
    unfold kBitAt
    rw [sub_ix hi]
    show ∃ fq2 fd2, mskR n fq2 fd2 (tbl w L.length (i + 1) (L.drop (i + 1)) (upd t (ixq (w.testBit (L.length - 1 - i)) (L.getD i (0, 0))) 1)) ∧ _
    unfold ixq
    by_cases c : w.testBit (L.length - 1 - i) = true
    · rw [if_pos c, if_neg (fun q => by rw [hb.mp q] at c; cases c)]
      exact kMember_L40_eq hn hL hm hl hw k (i + 1) _ _ _ (by omega) (msk_put hn hr (hm i hi).2 (hm i hi).1)
    · have c2 : w.testBit (L.length - 1 - i) = false := by simpa using c
      rw [if_neg c, if_pos (hb.mpr c2)]
      exact kMember_L40_eq hn hL hm hl hw k (i + 1) _ _ _ (by omega) (msk_put hn hr (hm i hi).1 (hm i hi).2)
/-- the same collisions in the drawn graph and in the table of code w -/
def likeW (n : Nat) (mh : Nat → Int32) (w : Nat) : Prop := ∀ c a b, c < n → a < b → b < n → (kP mh a b c ↔ kP (tW n mh w) a b c)
theorem kMember_eq (hn : n ≤ 6) (h : gRel n fp fc mh) {fq fd fl fh : Nat → Int32} {P : Nat} {dc cbb kb kc : Int32} (hp : pRel n fp fc mh P dc cbb fl fh) {w : Nat} (hw : w < 2 ^ 31) :
    ((kMember n fp fc fq fd fl fh P dc cbb kb kc (nI w)).1 = 0 ∨ (kMember n fp fc fq fd fl fh P dc cbb kb kc (nI w)).1 = 1) ∧ (¬ (kMember n fp fc fq fd fl fh P dc cbb kb kc (nI w)).1 = 0 ↔ nI w &&& kb = kc ∧ (nI w ^^^ dc) &&& cbb = 0 ∧ likeW n mh w ∧ mRing n (tW n mh w) = 0) := by
  obtain ⟨rfl, h9, -, -, hl⟩ := hp
  unfold kMember
  by_cases c1 : nI w &&& kb = kc
  · rw [if_pos c1]
    by_cases c2 : (nI w ^^^ dc) &&& cbb = 0
    · rw [if_pos c2]
      obtain ⟨fq2, fd2, hm, e⟩ := kMember_L40_eq (fp := fp) (fc := fc) (fq0 := fq) (fd0 := fd) (dc := dc) (cbb := cbb) (kb := kb) (kc := kc) hn h9 (fun j hj => by have := pl_mem (mh := mh) hj; omega) hl hw (plO mh n n 0).length 0 (gEmpty n fq fd).1 (gEmpty n fq fd).2 (fun _ => 0) (by omega) (msk_empty hn fq fd)
      rw [e]
      have hT : mskR n fq2 fd2 (tW n mh w) := hm
      have hlk := gLike_eq hn h.msk hT
      have hrg := ring_same hn (show maskOf n fq2 (tW n mh w) from hT.1)
      by_cases c3 : gLike n fq2 fd2 fp fc = 0
      · rw [if_pos c3]
        exact ⟨Or.inl rfl, ⟨fun q => absurd rfl q, fun q => absurd c3 (hlk.mpr q.2.2.1)⟩⟩
      · rw [if_neg c3]
        by_cases c4 : gRing n fq2 = 0
        · rw [if_pos c4]
          exact ⟨Or.inr rfl, ⟨fun _ => ⟨c1, c2, hlk.mp c3, by rw [← hrg]; exact c4⟩, fun _ => by show ¬ (1 : Int32) = 0; decide⟩⟩
        · rw [if_neg c4]
          exact ⟨Or.inl rfl, ⟨fun q => absurd rfl q, fun q => absurd (hrg.trans q.2.2.2) c4⟩⟩
    · rw [if_neg c2]
      exact ⟨Or.inl rfl, ⟨fun q => absurd rfl q, fun q => absurd q.2.1 c2⟩⟩
  · rw [if_neg c1]
    exact ⟨Or.inl rfl, ⟨fun q => absurd rfl q, fun q => absurd q.1 c1⟩⟩
/-- what is known -/
def kRel (n : Nat) (mh mk : Nat → Int32) (kb kc : Int32) : Prop :=
  is01 mk ∧ (∀ a b, a < 6 → b < 6 → ¬ mk (6 * a + b) = 0 → a < n ∧ b < n ∧ a ≠ b ∧ ¬ mJoin mh (nI a) (nI b) = 0 ∧ mk (6 * b + a) = 0) ∧
  (∀ j u v, j < (plO mh n n 0).length → (plO mh n n 0).getD j (0, 0) = (u, v) → (bt kb ((plO mh n n 0).length - 1 - j) = true ↔ ¬ mk (6 * u + v) = 0 ∨ ¬ mk (6 * v + u) = 0) ∧ (bt kc ((plO mh n n 0).length - 1 - j) = true ↔ ¬ mk (6 * v + u) = 0)) ∧
  ∀ t, (plO mh n n 0).length ≤ t → bt kb t = false ∧ bt kc t = false
theorem known_eq (hn : n ≤ 6) {mk : Nat → Int32} {kb kc : Int32} (hP : (plO mh n n 0).length ≤ 9) (hk : kRel n mh mk kb kc) {w : Nat} (hw : w < 2 ^ 31) : nI w &&& kb = kc ↔ ∀ x, x < 36 → ¬ mk x = 0 → ¬ tW n mh w x = 0 := by
  constructor
  · intro h x hx hmx
    obtain ⟨a, b, ha, hb, rfl⟩ : ∃ a b, a < 6 ∧ b < 6 ∧ x = 6 * a + b := ⟨x / 6, x % 6, by omega, by omega, by omega⟩
    obtain ⟨h1, h2, h3, h4, h5⟩ := hk.2.1 a b ha hb hmx
    rcases Nat.lt_or_ge a b with g | g
    · obtain ⟨j, hj, e⟩ := pl_find g h2 h4
      have hkj := hk.2.2.1 j a b hj e
      have hbit := b_eq.mp h ((plO mh n n 0).length - 1 - j)
      rw [b_and, hkj.1.mpr (Or.inl hmx), Bool.and_true, nI_bt hw] at hbit
      rw [(tW_up hn w hj e).1, hbit]
      rcases q : bt kc ((plO mh n n 0).length - 1 - j) with _ | _
      · rfl
      · exact absurd h5 (hkj.2.mp q)
    · have h4' : ¬ mJoin mh (nI b) (nI a) = 0 := by
        rw [mJoin_eq hn h2 h1]
        rw [mJoin_eq hn h1 h2] at h4
        exact fun q => h4 (fun z => q z.symm)
      obtain ⟨j, hj, e⟩ := pl_find (show b < a by omega) h1 h4'
      have hkj := hk.2.2.1 j b a hj e
      have hbit := b_eq.mp h ((plO mh n n 0).length - 1 - j)
      rw [b_and, hkj.1.mpr (Or.inr hmx), Bool.and_true, nI_bt hw, hkj.2.mpr hmx] at hbit
      exact (tW_up hn w hj e).2.mpr hbit
  · intro h
    refine b_ext' (fun t => ?_)
    rw [b_and, nI_bt hw]
    rcases Nat.lt_or_ge t (plO mh n n 0).length with ht | ht
    · obtain ⟨j, hj, rfl⟩ : ∃ j, j < (plO mh n n 0).length ∧ t = (plO mh n n 0).length - 1 - j := ⟨(plO mh n n 0).length - 1 - t, by omega, by omega⟩
      obtain ⟨u, v, e⟩ : ∃ u v, (plO mh n n 0).getD j (0, 0) = (u, v) := ⟨_, _, rfl⟩
      have hm := pl_mem hj
      rw [e] at hm
      have hm1 : u < v := hm.1
      have hm2 : v < n := hm.2.1
      have hkj := hk.2.2.1 j u v hj e
      rcases q : bt kb ((plO mh n n 0).length - 1 - j) with _ | _
      · rw [Bool.and_false]
        rcases r : bt kc ((plO mh n n 0).length - 1 - j) with _ | _
        · rfl
        · rw [hkj.1.mpr (Or.inr (hkj.2.mp r))] at q; cases q
      · rw [Bool.and_true]
        by_cases c : mk (6 * v + u) = 0
        · have r : bt kc ((plO mh n n 0).length - 1 - j) = false := by
            rcases r : bt kc ((plO mh n n 0).length - 1 - j) with _ | _
            · rfl
            · exact absurd c (hkj.2.mp r)
          rw [r]
          have hm' : ¬ mk (6 * u + v) = 0 := (hkj.1.mp q).resolve_right (fun z => z c)
          exact (tW_up hn w hj e).1.mp (h (6 * u + v) (by omega) hm')
        · rw [hkj.2.mpr c]
          exact (tW_up hn w hj e).2.mp (h (6 * v + u) (by omega) c)
    · rw [(hk.2.2.2 t ht).1, (hk.2.2.2 t ht).2, Bool.and_false]
/-- an arrow of a collision goes the same way in all that have the same collisions -/
theorem coll_eq (hn : n ≤ 6) (h : gRel n fp fc mh) (hP : (plO mh n n 0).length ≤ 9) {w : Nat} (hw : w < 2 ^ 31) (hl : likeW n mh w) : (nI w ^^^ nI (accB (fallN mh) 0 (plO mh n n 0))) &&& nI (accB (colN fp fc) 0 (plO mh n n 0)) = 0 := by
  have h512 := vz_p512 hP
  have hd := accB_lt (fallN mh) fallN_le (plO mh n n 0) 0 0 (by decide)
  have hc := accB_lt (colN fp fc) colN_le (plO mh n n 0) 0 0 (by decide)
  rw [Nat.zero_add] at hd hc
  refine b_eq0.mpr (fun t => ?_)
  rw [b_and, b_xor, nI_bt hw, nI_bt (by omega), nI_bt (by omega)]
  rcases Nat.lt_or_ge t (plO mh n n 0).length with ht | ht
  · obtain ⟨j, hj, rfl⟩ : ∃ j, j < (plO mh n n 0).length ∧ t = (plO mh n n 0).length - 1 - j := ⟨(plO mh n n 0).length - 1 - t, by omega, by omega⟩
    obtain ⟨u, v, e⟩ : ∃ u v, (plO mh n n 0).getD j (0, 0) = (u, v) := ⟨_, _, rfl⟩
    have hm := pl_mem hj
    rw [e] at hm
    have hm1 : u < v := hm.1
    have hm2 : v < n := hm.2.1
    rw [accB_at _ fallN_le _ 0 j hj, accB_at _ colN_le _ 0 j hj, e]
    by_cases c : colN fp fc (u, v) = 1
    · rw [decide_eq_true c, Bool.and_true]
      unfold colN at c
      have c : (if (gStr fp fc (nI u) (nI v)) ||| (gStr fp fc (nI v) (nI u)) = 0 then 0 else 1) = 1 := c
      by_cases d : (gStr fp fc (nI u) (nI v)) ||| (gStr fp fc (nI v) (nI u)) = 0
      · rw [if_pos d] at c; cases c
      · obtain ⟨b, hb⟩ : ∃ b, bt ((gStr fp fc (nI u) (nI v)) ||| (gStr fp fc (nI v) (nI u))) b = true := Classical.byContradiction (fun hno => d (b_eq0.mpr (fun i => by
          rcases q : bt ((gStr fp fc (nI u) (nI v)) ||| (gStr fp fc (nI v) (nI u))) i with _ | _
          · rfl
          · exact absurd ⟨i, q⟩ hno)))
        rw [b_or, Bool.or_eq_true, gStr_bt hn h.msk (by omega) hm2, gStr_bt hn h.msk hm2 (by omega)] at hb
        rcases hb with ⟨b1, b2, b3⟩ | ⟨b1, b2, b3⟩
        · have hT : kP (tW n mh w) u b v := by
            rcases Nat.lt_or_ge u b with g | g
            · exact (hl v u b hm2 g b1).mp b3
            · exact kP_sym.mp ((hl v b u hm2 (by omega) (by omega)).mp (kP_sym.mp b3))
          rw [(tW_up hn w hj e).1.mp hT.1]
          have : mh (6 * v + u) = 0 := (h.1 u v (by omega) (by omega) b3.1).2.2.2
          have f0 : fallN mh (u, v) = 0 := if_pos this
          rw [f0]; decide
        · have hT : kP (tW n mh w) v b u := by
            rcases Nat.lt_or_ge v b with g | g
            · exact (hl u v b (by omega) g b1).mp b3
            · exact kP_sym.mp ((hl u b v (by omega) (by omega) hm2).mp (kP_sym.mp b3))
          rw [(tW_up hn w hj e).2.mp hT.1]
          have f1 : fallN mh (u, v) = 1 := if_neg b3.1
          rw [f1]; decide
    · rw [decide_eq_false c, Bool.and_false]
  · have : accB (colN fp fc) 0 (plO mh n n 0) < 2 ^ t := Nat.lt_of_lt_of_le hc (Nat.pow_le_pow_right (by decide) ht)
    rw [Nat.testBit_lt_two_pow this, Bool.and_false]
/-- MEMBERS: class and reference -/
theorem member_same (hn : n ≤ 6) (h : gRel n fp fc mh) {fq fd fl fh mk : Nat → Int32} {P : Nat} {dc cbb kb kc : Int32} (hp : pRel n fp fc mh P dc cbb fl fh) (hk : kRel n mh mk kb kc) {w : Nat} (hw : w < 2 ^ 31) :
    (kMember n fp fc fq fd fl fh P dc cbb kb kc (nI w)).1 = 0 ↔ mMember n mh mk (tW n mh w) = 0 := by
  have h1 := (kMember_eq (fq := fq) (fd := fd) (kb := kb) (kc := kc) hn h hp hw).2
  have h2 := mMember_eq (mh := mh) (mk := mk) (T := tW n mh w) hn
  have hP9 : (plO mh n n 0).length ≤ 9 := by rw [← hp.1]; exact hp.2.1
  have hkn := known_eq hn hP9 hk hw
  have hcc := coll_eq hn h hP9 hw
  rw [← hp.2.2.1, ← hp.2.2.2.1] at hcc
  have : ¬ (kMember n fp fc fq fd fl fh P dc cbb kb kc (nI w)).1 = 0 ↔ ¬ mMember n mh mk (tW n mh w) = 0 := by
    rw [h1, h2]
    constructor
    · rintro ⟨a, b, c, d⟩
      exact ⟨d, c, hkn.mp a⟩
    · rintro ⟨a, b, c⟩
      exact ⟨hkn.mpr c, hcc b, b, a⟩
  exact ⟨fun q => Classical.byContradiction (fun z => this.mpr z q), fun q => Classical.byContradiction (fun z => this.mp z q)⟩
/-- the drawn graph is a member while nothing is known -/
theorem drawn_mem (hn : n ≤ 6) (h : gRel n fp fc mh) (hr : hasRank n mh) (hP : (plO mh n n 0).length ≤ 9) {mk : Nat → Int32} (hk : ∀ x, x < 36 → mk x = 0) : accB (fallN mh) 0 (plO mh n n 0) < 2 ^ (plO mh n n 0).length ∧ ¬ mMember n mh mk (tW n mh (accB (fallN mh) 0 (plO mh n n 0))) = 0 := by
  have hd := accB_lt (fallN mh) fallN_le (plO mh n n 0) 0 0 (by decide)
  rw [Nat.zero_add] at hd
  refine ⟨hd, ?_⟩
  have hT : ∀ a b, a < 6 → b < 6 → (¬ tW n mh (accB (fallN mh) 0 (plO mh n n 0)) (6 * a + b) = 0 ↔ ¬ mh (6 * a + b) = 0) := by
    intro a b ha hb
    by_cases hj : a < n ∧ b < n ∧ a ≠ b ∧ ¬ mJoin mh (nI a) (nI b) = 0
    · obtain ⟨h1, h2, h3, h4⟩ := hj
      rcases Nat.lt_or_ge a b with g | g
      · obtain ⟨j, hj, e⟩ := pl_find g h2 h4
        rw [(tW_up hn _ hj e).1, accB_at _ fallN_le _ 0 j hj, e]
        unfold fallN
        show decide ((if mh (6 * b + a) = 0 then 0 else 1) = 1) = false ↔ _
        by_cases c : mh (6 * b + a) = 0
        · rw [if_pos c]
          rw [mJoin_eq hn h1 h2] at h4
          exact ⟨fun _ z => h4 (fun q => q.elim (fun q => q.2.2 z) (fun q => q.2.2 c)), fun _ => by decide⟩
        · rw [if_neg c]
          exact ⟨fun q => absurd q (by decide), fun q => absurd (h.1 a b ha hb q).2.2.2 c⟩
      · have h4' : ¬ mJoin mh (nI b) (nI a) = 0 := by
          rw [mJoin_eq hn h2 h1]
          rw [mJoin_eq hn h1 h2] at h4
          exact fun q => h4 (fun z => q z.symm)
        obtain ⟨j, hj, e⟩ := pl_find (show b < a by omega) h1 h4'
        rw [(tW_up hn _ hj e).2, accB_at _ fallN_le _ 0 j hj, e]
        unfold fallN
        show decide ((if mh (6 * a + b) = 0 then 0 else 1) = 1) = true ↔ _
        by_cases c : mh (6 * a + b) = 0
        · rw [if_pos c]; exact ⟨fun q => absurd q (by decide), fun q => absurd c q⟩
        · rw [if_neg c]; exact ⟨fun _ => c, fun _ => by decide⟩
    · constructor
      · intro q; exact absurd (tW_in hn _ ha hb q) hj
      · intro q
        obtain ⟨h1, h2, h3, h4⟩ := h.1 a b ha hb q
        exact absurd ⟨h1, h2, h3, by rw [mJoin_eq hn h1 h2]; exact fun z => z (Or.inl ⟨h1, h2, q⟩)⟩ hj
  rw [mMember_eq hn]
  have hz : ∀ a b, a < 6 → b < 6 → (tW n mh (accB (fallN mh) 0 (plO mh n n 0)) (6 * a + b) = 0 ↔ mh (6 * a + b) = 0) := fun a b ha hb => ⟨fun q => Classical.byContradiction (fun z => (hT a b ha hb).mpr z q), fun q => Classical.byContradiction (fun z => (hT a b ha hb).mp z q)⟩
  refine ⟨?_, fun c a b hc hab hb => ?_, fun x hx hmx => absurd (hk x hx) hmx⟩
  · have e1 := ring_same hn (show maskOf n fp (tW n mh (accB (fallN mh) 0 (plO mh n n 0))) from fun v hv u => by
      rw [h.2.1 v hv u]
      refine and_congr_right (fun hu => ?_)
      exact (hT u v (by omega) (by omega)).symm)
    rw [← e1]
    obtain ⟨rk, hrk⟩ := hr
    exact ring_none hn rk (fun v u hv q => hrk u v ((h.gP v u hv).mp q))
  · unfold kP
    rw [hz a c (by omega) (by omega), hz b c (by omega) (by omega), hz a b (by omega) (by omega), hz b a (by omega) (by omega)]
end MB
end
section
/-! gather and goThrough -/
section GA
variable {n : Nat} {fp fc mh mk : Nat → Int32}
def memB (n : Nat) (mh mk : Nat → Int32) (w : Nat) : Bool := decide (¬ mMember n mh mk (tW n mh w) = 0)
def GS (M : Nat → Bool) (m : Nat) (ct fi sf af : Int32) : Prop :=
  ct = nI (cb M m) ∧ (∀ w0, w0 < m → M w0 = true → (∀ w, w < w0 → M w = false) → fi = nI w0) ∧ (∀ t, bt sf t = true ↔ ∃ w, w < m ∧ M w = true ∧ w.testBit t = true) ∧ ∀ t, t < 32 → (bt af t = true ↔ ∀ w, w < m → M w = true → w.testBit t = true)
theorem cb_none {M : Nat → Bool} : ∀ m, cb M m = 0 ↔ ∀ w, w < m → M w = false := fun m => by
  constructor
  · intro h w hw
    rcases q : M w with _ | _
    · rfl
    · have := cb_pos m w hw q; omega
  · intro h
    rw [cb_congr (g := fun _ => false) m (fun i hi => h i hi)]
    have : ∀ m, cb (fun _ => false) m = 0 := fun m => by
      induction m with
      | zero => rfl
      | succ m ih => show cb (fun _ => false) m + _ = 0; rw [ih]; rfl
    exact this m
theorem GS_skip {M : Nat → Bool} {i : Nat} {ct fi sf af : Int32} (h : GS M i ct fi sf af) (hm : M i = false) : GS M (i + 1) ct fi sf af := by
  obtain ⟨h1, h2, h3, h4⟩ := h
  refine ⟨?_, fun w0 hw hM hf => ?_, fun t => ?_, fun t ht => ?_⟩
  · rw [h1]
    show _ = nI (cb M i + (if M i = true then 1 else 0))
    rw [if_neg (by rw [hm]; decide), Nat.add_zero]
  · by_cases c : w0 = i
    · rw [c, hm] at hM; cases hM
    · exact h2 w0 (by omega) hM hf
  · rw [h3 t]
    constructor
    · rintro ⟨w, a, b, c⟩; exact ⟨w, by omega, b, c⟩
    · rintro ⟨w, a, b, c⟩
      by_cases d : w = i
      · rw [d, hm] at b; cases b
      · exact ⟨w, by omega, b, c⟩
  · rw [h4 t ht]
    constructor
    · intro q w hw hM
      by_cases d : w = i
      · rw [d, hm] at hM; cases hM
      · exact q w (by omega) hM
    · intro q w hw hM; exact q w (by omega) hM
theorem GS_take {M : Nat → Bool} {i : Nat} {ct fi sf af fi2 : Int32} (hi : i < 512) (h : GS M i ct fi sf af) (hm : M i = true) (hf : (ct = 0 → fi2 = nI i) ∧ (¬ ct = 0 → fi2 = fi)) : GS M (i + 1) (ct + 1) fi2 (sf ||| nI i) (af &&& nI i) := by
  obtain ⟨h1, h2, h3, h4⟩ := h
  have hle := cb_le M i
  refine ⟨?_, fun w0 hw hM hfst => ?_, fun t => ?_, fun t ht => ?_⟩
  · rw [h1, nI_1]
    show _ = nI (cb M i + (if M i = true then 1 else 0))
    rw [if_pos hm]
  · by_cases c : ct = 0
    · rw [h1, ← nI_0, nI_eq (by omega) (by omega), cb_none] at c
      have : w0 = i := by
        rcases Nat.lt_or_ge w0 i with g | g
        · rw [c w0 g] at hM; cases hM
        · omega
      rw [this]
      refine hf.1 ?_
      rw [h1, (cb_none i).mpr c]; rfl
    · rw [hf.2 c]
      rw [h1, ← nI_0, nI_eq (by omega) (by omega), cb_none] at c
      have : w0 ≠ i := fun e => c (fun w hw => hfst w (by omega))
      exact h2 w0 (by omega) hM hfst
  · rw [b_or, Bool.or_eq_true, h3 t, nI_bt (by omega)]
    constructor
    · rintro (⟨w, a, b, c⟩ | c)
      · exact ⟨w, by omega, b, c⟩
      · exact ⟨i, by omega, hm, c⟩
    · rintro ⟨w, a, b, c⟩
      by_cases d : w = i
      · rw [d] at c; exact Or.inr c
      · exact Or.inl ⟨w, by omega, b, c⟩
  · rw [b_and, Bool.and_eq_true, h4 t ht, nI_bt (by omega)]
    constructor
    · rintro ⟨a, b⟩ w hw hM
      by_cases d : w = i
      · rw [d]; exact b
      · exact a w (by omega) hM
    · intro q
      exact ⟨fun w hw hM => q w (by omega) hM, q i (by omega) hm⟩
theorem gather_L25 (hn : n ≤ 6) (h : gRel n fp fc mh) {fq0 fd0 fl fh : Nat → Int32} {P : Nat} {dc cbb kb kc ga0 ct0 fi0 sf0 af0 : Int32} (hp : pRel n fp fc mh P dc cbb fl fh) (hk : kRel n mh mk kb kc) : ∀ (k i : Nat) (ct fi sf af : Int32) (fq fd : Nat → Int32), i + k = 2 ^ P → GS (memB n mh mk) i ct fi sf af →
    ∃ ct' fi' sf' af' fq' fd', kGather_L25 n fp fc fq0 fd0 fl fh P dc cbb kb kc ga0 ct0 fi0 sf0 af0 k i ct fi sf af fq fd = (1, ct', fi', sf', af', fq', fd') ∧ GS (memB n mh mk) (2 ^ P) ct' fi' sf' af'
  | 0, i, ct, fi, sf, af, fq, fd, hi, hg => ⟨ct, fi, sf, af, fq, fd, rfl, by rw [← hi]; exact hg⟩
  | k + 1, i, ct, fi, sf, af, fq, fd, hi, hg => by
    have h512 := vz_p512 hp.2.1
    have hms := member_same (fq := fq) (fd := fd) hn h hp hk (show i < 2 ^ 31 by omega)
    rw [kGather_L25]
    by_cases c : (kMember n fp fc fq fd fl fh P dc cbb kb kc (nI i)).1 = 0
    · rw [if_pos c]
      exact gather_L25 hn h hp hk k (i + 1) _ _ _ _ _ _ (by omega) (GS_skip hg (decide_eq_false (fun q => q (hms.mp c))))
    · rw [if_neg c]
      have hm : memB n mh mk i = true := decide_eq_true (fun q => c (hms.mpr q))
      by_cases d : ct = 0
      · rw [if_pos d]
        exact gather_L25 hn h hp hk k (i + 1) _ _ _ _ _ _ (by omega) (GS_take (by omega) hg hm ⟨fun _ => rfl, fun q => absurd d q⟩)
      · rw [if_neg d]
        exact gather_L25 hn h hp hk k (i + 1) _ _ _ _ _ _ (by omega) (GS_take (by omega) hg hm ⟨fun q => absurd q d, fun _ => rfl⟩)
/-- what gather leaves -/
theorem gather_eq (hn : n ≤ 6) (h : gRel n fp fc mh) {fq fd fl fh : Nat → Int32} {P : Nat} {dc cbb kb kc ga ct fi sf af : Int32} (hp : pRel n fp fc mh P dc cbb fl fh) (hk : kRel n mh mk kb kc) (hga : ga = 0 ∨ (ga = 1 ∧ GS (memB n mh mk) (2 ^ P) ct fi sf af)) :
    ∃ ct' fi' sf' af' fq' fd', kGather n fp fc fq fd fl fh P dc cbb kb kc ga ct fi sf af = (1, ct', fi', sf', af', fq', fd') ∧ GS (memB n mh mk) (2 ^ P) ct' fi' sf' af' := by
  unfold kGather
  by_cases c : ga = 0
  · rw [if_pos c]
    refine gather_L25 hn h hp hk (2 ^ P) 0 0 fi 0 (-1) fq fd (by omega) ⟨rfl, fun w0 hw => by omega, fun t => ?_, fun t ht => ?_⟩
    · rw [b_0]
      exact ⟨fun q => (by cases q), fun ⟨w, hw, _⟩ => (by omega)⟩
    · exact ⟨fun _ w hw => by omega, fun _ => b_m1 t ht⟩
  · rw [if_neg c]
    obtain ⟨e, hg⟩ := hga.resolve_left c
    exact ⟨ct, fi, sf, af, fq, fd, by rw [e], hg⟩
/-! the reference -/
theorem tW_36 (hn : n ≤ 6) (w : Nat) {x : Nat} (hx : 36 ≤ x) : tW n mh w x = 0 := Classical.byContradiction (fun q => by
  obtain ⟨i, hi, e⟩ := (tW_ne w x).mp q
  have := pl_mem hi
  unfold ixq at e
  split at e <;> omega)
theorem nar_id {x : Int32} (h : x = 0 ∨ x = 1) : vp_nar .boolean x = x := by
  rcases h with rfl | rfl
  · exact nar0
  · exact nar1
def MS (n : Nat) (mh : Nat → Int32) (M : Nat → Bool) (m : Nat) (mc : Int32) (mv mb : Nat → Int32) : Prop :=
  mc = nI (cb M m) ∧ (∀ x, x < 36 → mv x = nI (cb (fun w => M w && decide (¬ tW n mh w x = 0)) m)) ∧ ∀ w0, w0 < m → M w0 = true → (∀ w, w < w0 → M w = false) → ∀ x, x < 36 → mb x = tW n mh w0 x
theorem MS_skip {M : Nat → Bool} {i : Nat} {mc : Int32} {mv mb : Nat → Int32} (h : MS n mh M i mc mv mb) (hm : M i = false) : MS n mh M (i + 1) mc mv mb := by
  obtain ⟨h1, h2, h3⟩ := h
  refine ⟨?_, fun x hx => ?_, fun w0 hw hM hf => ?_⟩
  · rw [h1]
    show _ = nI (cb M i + (if M i = true then 1 else 0))
    rw [if_neg (by rw [hm]; decide), Nat.add_zero]
  · rw [h2 x hx]
    show _ = nI (cb _ i + (if (M i && decide (¬ tW n mh i x = 0)) = true then 1 else 0))
    rw [hm, Bool.false_and, if_neg (by decide), Nat.add_zero]
  · by_cases c : w0 = i
    · rw [c, hm] at hM; cases hM
    · exact h3 w0 (by omega) hM hf
theorem MS_take {M : Nat → Bool} {i : Nat} {mc : Int32} {mv mb mv2 mb2 : Nat → Int32} (hi : i < 512) (h : MS n mh M i mc mv mb) (hm : M i = true) (hv : ∀ x, x < 36 → mv2 x = (if tW n mh i x = 0 then mv x else mv x + 1) ∧ mb2 x = (if mc = 0 then tW n mh i x else mb x)) : MS n mh M (i + 1) (mc + 1) mv2 mb2 := by
  obtain ⟨h1, h2, h3⟩ := h
  have hle := cb_le M i
  refine ⟨?_, fun x hx => ?_, fun w0 hw hM hf x hx => ?_⟩
  · rw [h1, nI_1]
    show _ = nI (cb M i + (if M i = true then 1 else 0))
    rw [if_pos hm]
  · rw [(hv x hx).1, h2 x hx]
    show _ = nI (cb _ i + (if (M i && decide (¬ tW n mh i x = 0)) = true then 1 else 0))
    rw [hm, Bool.true_and]
    by_cases c : tW n mh i x = 0
    · rw [if_pos c, if_neg (by rw [decide_eq_true_iff]; exact fun q => q c), Nat.add_zero]
    · rw [if_neg c, if_pos (decide_eq_true c), nI_1]
  · rw [(hv x hx).2]
    by_cases c : mc = 0
    · rw [if_pos c]
      rw [h1, ← nI_0, nI_eq (by omega) (by omega), cb_none] at c
      have : w0 = i := by
        rcases Nat.lt_or_ge w0 i with g | g
        · rw [c w0 g] at hM; cases hM
        · omega
      rw [this]
    · rw [if_neg c]
      rw [h1, ← nI_0, nI_eq (by omega) (by omega), cb_none] at c
      have : w0 ≠ i := fun e => c (fun w hw => hf w (by omega))
      exact h3 w0 (by omega) hM hf x hx
theorem go_L56 {mt mv mb ml mg : Nat → Int32} {mc : Int32} {Q j11 : Nat} {v11 : Nat → Int32} {w : Nat} {mc32 : Int32} {mv32 mb32 mt32 T : Nat → Int32} (hT : mDirect mt32 (mFind n mh ml mg).2.1 (mFind n mh ml mg).2.2 (mFind n mh ml mg).1 (nI w) = T) (hT1 : is01 T) (kk : Int32 → (Nat → Int32) → (Nat → Int32) → (Nat → Int32) → Nat × (Nat → Int32) × (Nat → Int32) × Int32 × (Nat → Int32) × (Nat → Int32) × (Nat → Int32)) : ∀ (k i : Nat) (v b : Nat → Int32), i + k = 36 → is01 b →
    ∃ v' b', mGo_L56 n mh mk mt mv mb ml mg mc Q j11 v11 w mc32 mv32 mb32 mt32 kk k i v b = kk (mc32 + 1) v' b' T ∧ is01 b' ∧ (∀ x, x < i → v' x = v x ∧ b' x = b x) ∧ ∀ x, i ≤ x → x < 36 → v' x = (if T x = 0 then v x else v x + 1) ∧ b' x = (if mc32 = 0 then T x else b x)
  | 0, i, v, b, h, hb => ⟨v, b, by rw [mGo_L56, hT], hb, fun _ _ => ⟨rfl, rfl⟩, fun x h1 h2 => by omega⟩
  | k + 1, i, v, b, h, hb => by
    rw [mGo_L56, hT, nI_clamp (by omega), nar_id (hT1 i), nar_id (hb i)]
    have step : ∀ (vi bi : Int32), (bi = 0 ∨ bi = 1) → vi = (if T i = 0 then v i else v i + 1) → bi = (if mc32 = 0 then T i else b i) → ∃ v' b', mGo_L56 n mh mk mt mv mb ml mg mc Q j11 v11 w mc32 mv32 mb32 mt32 kk k (i + 1) (upd v i vi) (upd b i bi) = kk (mc32 + 1) v' b' T ∧ is01 b' ∧ (∀ x, x < i → v' x = v x ∧ b' x = b x) ∧ ∀ x, i ≤ x → x < 36 → v' x = (if T x = 0 then v x else v x + 1) ∧ b' x = (if mc32 = 0 then T x else b x) := by
      intro vi bi hbi e1 e2
      obtain ⟨v', b', q1, q2, q3, q4⟩ := go_L56 (mt := mt) (mv := mv) (mb := mb) (mc := mc) (Q := Q) (j11 := j11) (v11 := v11) (mc32 := mc32) (mv32 := mv32) (mb32 := mb32) hT hT1 kk k (i + 1) (upd v i vi) (upd b i bi) (by omega) (is01_upd hb hbi)
      refine ⟨v', b', q1, q2, fun x hx => ?_, fun x h1 h2 => ?_⟩
      · have := q3 x (by omega)
        rw [pk_un (by omega), pk_un (by omega)] at this
        exact this
      · by_cases c : x = i
        · have := q3 x (by omega)
          rw [c] at this ⊢
          rw [pk_us, pk_us] at this
          rw [this.1, this.2]
          exact ⟨e1, e2⟩
        · have := q4 x (by omega) h2
          rw [pk_un c, pk_un c] at this
          exact this
    by_cases c1 : mc32 = 0
    · rw [if_pos c1]
      by_cases c2 : T i = 0
      · rw [if_pos c2]
        exact step _ _ (hT1 i) (if_pos c2).symm (if_pos c1).symm
      · rw [if_neg c2]
        exact step _ _ (hT1 i) (if_neg c2).symm (if_pos c1).symm
    · rw [if_neg c1]
      by_cases c2 : T i = 0
      · rw [if_pos c2]
        exact step _ _ (hb i) (if_pos c2).symm (if_neg c1).symm
      · rw [if_neg c2]
        exact step _ _ (hb i) (if_neg c2).symm (if_neg c1).symm
theorem go_L32 (hn : n ≤ 6) (hJ : jcO mh n n 0 ≤ 9) {mt mv mb ml mg : Nat → Int32} {mc : Int32} {Q j11 : Nat} {v11 : Nat → Int32} : ∀ (k i : Nat) (a : Int32) (v b t : Nat → Int32), i + k = 2 ^ (plO mh n n 0).length → MS n mh (memB n mh mk) i a v b → is01 b → (∀ j, 36 ≤ j → t j = 0) →
    ∃ a' v' b' t', mGo_L32 n mh mk mt mv mb ml mg mc Q j11 v11 k i a v b t = ((mFind n mh ml mg).1, (mFind n mh ml mg).2.1, (mFind n mh ml mg).2.2, a', v', t', b') ∧ MS n mh (memB n mh mk) (2 ^ (plO mh n n 0).length) a' v' b' ∧ is01 b' ∧ ∀ j, 36 ≤ j → t' j = 0
  | 0, i, a, v, b, t, hi, hm, hb, ht => ⟨a, v, b, t, rfl, by rw [← hi]; exact hm, hb, ht⟩
  | k + 1, i, a, v, b, t, hi, hm, hb, ht => by
    have h9 : (plO mh n n 0).length ≤ 9 := by rw [plO_len]; exact hJ
    have h512 := vz_p512 h9
    have hT : mDirect t (mFind n mh ml mg).2.1 (mFind n mh ml mg).2.2 (mFind n mh ml mg).1 (nI i) = tW n mh i := by
      rw [mFind_eq hJ]
      exact mDirect_eq hn h9 (fun j hj => ⟨lay_get _ ml hj, lay_get2 _ mg hj⟩) ht (by omega)
    rw [mGo_L32, hT]
    by_cases c : mMember n mh mk (tW n mh i) = 0
    · rw [if_pos c]
      exact go_L32 hn hJ k (i + 1) _ _ _ _ (by omega) (MS_skip hm (decide_eq_false (fun q => q c))) hb (fun j hj => tW_36 hn i hj)
    · rw [if_neg c]
      obtain ⟨v', b', e, h1, h2, h3⟩ := go_L56 (mk := mk) (mt := mt) (mv := mv) (mb := mb) (mc := mc) (Q := Q) (j11 := j11) (v11 := v11) (mc32 := a) (mv32 := v) (mb32 := b) hT (tW_01 i) (fun w0 w1 w2 w3 => mGo_L32 n mh mk mt mv mb ml mg mc Q j11 v11 k (i + 1) w0 w1 w2 w3) 36 0 v b (by omega) hb
      rw [e]
      exact go_L32 hn hJ k (i + 1) _ _ _ _ (by omega) (MS_take (by omega) hm (decide_eq_true c) (fun x hx => h3 x (by omega) hx)) h1 (fun j hj => tW_36 hn i hj)
theorem go_L11 (hn : n ≤ 6) (hJ : jcO mh n n 0 ≤ 9) {mt mv mb ml mg : Nat → Int32} {mc : Int32} {Q : Nat} (hb : is01 mb) (ht : ∀ j, 36 ≤ j → mt j = 0) : ∀ (k i : Nat) (v : Nat → Int32), i + k = 36 → (∀ x, x < i → v x = 0) →
    ∃ a' v' b' t', mGo_L11 n mh mk mt mv mb ml mg mc Q k i v = ((mFind n mh ml mg).1, (mFind n mh ml mg).2.1, (mFind n mh ml mg).2.2, a', v', t', b') ∧ MS n mh (memB n mh mk) (2 ^ (plO mh n n 0).length) a' v' b' ∧ is01 b' ∧ ∀ j, 36 ≤ j → t' j = 0
  | 0, i, v, h, hv => by
    rw [mGo_L11]
    have e : 2 ^ (mFind n mh ml mg).1 = 2 ^ (plO mh n n 0).length := by rw [mFind_eq hJ]
    exact go_L32 hn hJ _ 0 0 v mb mt (by rw [e]; omega) ⟨rfl, fun x hx => hv x (by omega), fun w0 hw => by omega⟩ hb ht
  | k + 1, i, v, h, hv => by
    rw [mGo_L11, nI_clamp (by omega)]
    refine go_L11 hn hJ hb ht k (i + 1) _ (by omega) (fun x hx => ?_)
    by_cases c : x = i
    · rw [c, pk_us]
    · rw [pk_un c]; exact hv x (by omega)
theorem go_eq (hn : n ≤ 6) (hJ : jcO mh n n 0 ≤ 9) {mt mv mb ml mg : Nat → Int32} {mc : Int32} {Q : Nat} (hb : is01 mb) (ht : ∀ j, 36 ≤ j → mt j = 0) :
    ∃ a' v' b' t', mGo n mh mk mt mv mb ml mg mc Q = ((plO mh n n 0).length, layA ml 0 ((plO mh n n 0).map Prod.fst), layA mg 0 ((plO mh n n 0).map Prod.snd), a', v', t', b') ∧ MS n mh (memB n mh mk) (2 ^ (plO mh n n 0).length) a' v' b' ∧ is01 b' ∧ ∀ j, 36 ≤ j → t' j = 0 := by
  obtain ⟨a', v', b', t', e, h1, h2, h3⟩ := go_L11 (mk := mk) (mv := mv) (ml := ml) (mg := mg) (mc := mc) (Q := Q) hn hJ hb ht 36 0 mv (by omega) (fun x hx => by omega)
  refine ⟨a', v', b', t', ?_, h1, h2, h3⟩
  rw [mGo, e, mFind_eq hJ]
end GA
end
section
/-! the answers that look at the members -/
section AN
variable {n : Nat} {fp fc mh mk : Nat → Int32}
theorem kBitOf_L2_eq {fl fh : Nat → Int32} {L : List (Nat × Nat)} (hL : L.length ≤ 9) (hb : ∀ j, j < L.length → (L.getD j (0, 0)).1 < 6 ∧ (L.getD j (0, 0)).2 < 6) (hl : ∀ j, j < L.length → fl j = nI (L.getD j (0, 0)).1 ∧ fh j = nI (L.getD j (0, 0)).2) {u v : Int32} {x y : Nat} (hx : x < 6) (hy : y < 6) (e1 : (if v < u then v else u) = nI x) (e2 : (if u < v then v else u) = nI y) : ∀ (k i : Nat), i + k = L.length →
    (∀ j0, i ≤ j0 → j0 < L.length → L.getD j0 (0, 0) = (x, y) → (∀ j, i ≤ j → j < j0 → L.getD j (0, 0) ≠ (x, y)) → kBitOf_L2 fl fh L.length u v k i = (1 : Int32) <<< (nI (L.length - 1 - j0) &&& 31)) ∧ ((∀ j, i ≤ j → j < L.length → L.getD j (0, 0) ≠ (x, y)) → kBitOf_L2 fl fh L.length u v k i = 0)
  | 0, i, h => ⟨fun j0 h1 h2 => by omega, fun _ => rfl⟩
  | k + 1, i, h => by
    have hi : i < L.length := by omega
    have ih := kBitOf_L2_eq hL hb hl hx hy e1 e2 k (i + 1) (by omega)
    rw [kBitOf_L2, nI_clamp (by omega), (hl i hi).1, (hl i hi).2, e1, e2]
    have q1 : nI (L.getD i (0, 0)).1 = nI x ↔ (L.getD i (0, 0)).1 = x := nI_eq (by have := (hb i hi).1; omega) (by omega)
    have q2 : nI (L.getD i (0, 0)).2 = nI y ↔ (L.getD i (0, 0)).2 = y := nI_eq (by have := (hb i hi).2; omega) (by omega)
    by_cases c : L.getD i (0, 0) = (x, y)
    · rw [if_pos (q1.mpr (by rw [c])), if_pos (q2.mpr (by rw [c]))]
      refine ⟨fun j0 h1 h2 h3 h4 => ?_, fun hno => absurd c (hno i (by omega) hi)⟩
      have : j0 = i := by
        rcases Nat.lt_or_ge i j0 with g | g
        · exact absurd c (h4 i (by omega) g)
        · omega
      rw [this]
      unfold kBitAt
      rw [sub_ix hi]
    · have hno : (if nI (L.getD i (0, 0)).1 = nI x then (if nI (L.getD i (0, 0)).2 = nI y then kBitAt L.length (nI i) else kBitOf_L2 fl fh L.length u v k (i + 1)) else kBitOf_L2 fl fh L.length u v k (i + 1)) = kBitOf_L2 fl fh L.length u v k (i + 1) := by
        by_cases d1 : nI (L.getD i (0, 0)).1 = nI x
        · rw [if_pos d1]
          by_cases d2 : nI (L.getD i (0, 0)).2 = nI y
          · exact absurd (Prod.ext (q1.mp d1) (q2.mp d2)) c
          · rw [if_neg d2]
        · rw [if_neg d1]
      rw [hno]
      refine ⟨fun j0 h1 h2 h3 h4 => ih.1 j0 ?_ h2 h3 (fun j a b => h4 j (by omega) b), fun hno => ih.2 (fun j a b => hno j (by omega) b)⟩
      by_cases d : j0 = i
      · rw [d] at h3; exact absurd h3 c
      · omega
theorem minmax {a b : Nat} (hab : a < b) (hb : b < 6) : (if nI b < nI a then nI b else nI a) = nI a ∧ (if nI a < nI b then nI b else nI a) = nI b ∧ (if nI a < nI b then nI a else nI b) = nI a ∧ (if nI b < nI a then nI a else nI b) = nI b := by
  have h1 : ¬ nI b < nI a := by rw [nI_ltI (by omega) (by omega)]; omega
  have h2 : nI a < nI b := by rw [nI_ltI (by omega) (by omega)]; exact hab
  rw [if_neg h1, if_pos h2, if_pos h2, if_neg h1]
  exact ⟨rfl, rfl, rfl, rfl⟩
/-- the bit of a pair -/
theorem bitOf_eq (hn : n ≤ 6) {fl fh : Nat → Int32} {P : Nat} {dc cbb : Int32} (hp : pRel n fp fc mh P dc cbb fl fh) {a b : Nat} (hab : a < b) (hb : b < n) :
    (∀ j, j < (plO mh n n 0).length → (plO mh n n 0).getD j (0, 0) = (a, b) → kBitOf fl fh P (nI a) (nI b) = (1 : Int32) <<< (nI (P - 1 - j) &&& 31) ∧ kBitOf fl fh P (nI b) (nI a) = (1 : Int32) <<< (nI (P - 1 - j) &&& 31)) ∧
    (mJoin mh (nI a) (nI b) = 0 → kBitOf fl fh P (nI a) (nI b) = 0 ∧ kBitOf fl fh P (nI b) (nI a) = 0) := by
  obtain ⟨rfl, h9, -, -, hl⟩ := hp
  obtain ⟨m1, m2, m3, m4⟩ := minmax hab (show b < 6 by omega)
  have hbd : ∀ j, j < (plO mh n n 0).length → ((plO mh n n 0).getD j (0, 0)).1 < 6 ∧ ((plO mh n n 0).getD j (0, 0)).2 < 6 := fun j hj => by have := pl_mem (mh := mh) hj; omega
  have A := kBitOf_L2_eq h9 hbd hl (show a < 6 by omega) (show b < 6 by omega) m1 m2 (plO mh n n 0).length 0 (by omega)
  have B := kBitOf_L2_eq h9 hbd hl (show a < 6 by omega) (show b < 6 by omega) m3 m4 (plO mh n n 0).length 0 (by omega)
  refine ⟨fun j hj e => ?_, fun hno => ?_⟩
  · have hf : ∀ j', 0 ≤ j' → j' < j → (plO mh n n 0).getD j' (0, 0) ≠ (a, b) := fun j' _ hj' e' => by
      have := pl_inj (show j' < (plO mh n n 0).length by omega) hj (e'.trans e.symm)
      omega
    exact ⟨A.1 j (by omega) hj e hf, B.1 j (by omega) hj e hf⟩
  · have hf : ∀ j', 0 ≤ j' → j' < (plO mh n n 0).length → (plO mh n n 0).getD j' (0, 0) ≠ (a, b) := fun j' _ hj' e' => by
      have := (pl_mem hj').2.2
      rw [e'] at this
      exact this hno
    exact ⟨A.2 hf, B.2 hf⟩
/-- how many members have the arrow from a to b -/
def hvN (n : Nat) (mh mk : Nat → Int32) (m a b : Nat) : Nat := cb (fun w => memB n mh mk w && decide (¬ tW n mh w (6 * a + b) = 0)) m
theorem hv_0 {m a b : Nat} : hvN n mh mk m a b = 0 ↔ ∀ w, w < m → memB n mh mk w = true → tW n mh w (6 * a + b) = 0 := by
  unfold hvN
  rw [cb_none]
  constructor
  · intro h w hw hM
    have := h w hw
    rw [hM, Bool.true_and, decide_eq_false_iff_not] at this
    exact Classical.not_not.mp this
  · intro h w hw
    rcases q : memB n mh mk w with _ | _
    · rfl
    · rw [Bool.true_and, decide_eq_false_iff_not]
      exact fun z => z (h w hw q)
theorem cb_part {f g h : Nat → Bool} : ∀ m, (∀ w, w < m → (f w = true ↔ g w = true ∨ h w = true) ∧ ¬ (g w = true ∧ h w = true)) → cb f m = cb g m + cb h m
  | 0, _ => rfl
  | m + 1, hy => by
    have ih := cb_part m (fun w hw => hy w (by omega))
    have h1 := hy m (by omega)
    show cb f m + _ = (cb g m + _) + (cb h m + _)
    rw [ih]
    by_cases c1 : g m = true
    · have c2 : ¬ h m = true := fun q => h1.2 ⟨c1, q⟩
      rw [if_pos (h1.1.mpr (Or.inl c1)), if_pos c1, if_neg c2]; omega
    · by_cases c2 : h m = true
      · rw [if_pos (h1.1.mpr (Or.inr c2)), if_neg c1, if_pos c2]; omega
      · rw [if_neg (fun q => (h1.1.mp q).elim c1 c2), if_neg c1, if_neg c2]; omega
/-- a joined pair goes one way or the other in each member -/
theorem hv_sum (hn : n ≤ 6) {m j u v : Nat} (hj : j < (plO mh n n 0).length) (e : (plO mh n n 0).getD j (0, 0) = (u, v)) : cb (memB n mh mk) m = hvN n mh mk m u v + hvN n mh mk m v u := by
  unfold hvN
  refine cb_part m (fun w _ => ?_)
  have hup := tW_up hn w hj e
  rw [Bool.and_eq_true, Bool.and_eq_true, decide_eq_true_iff, decide_eq_true_iff, hup.1, hup.2]
  rcases q : w.testBit ((plO mh n n 0).length - 1 - j) with _ | _
  · exact ⟨⟨fun z => Or.inl ⟨z, rfl⟩, fun z => z.elim (fun y => y.1) (fun y => y.1)⟩, fun z => by have := z.2.2; cases this⟩
  · exact ⟨⟨fun z => Or.inr ⟨z, rfl⟩, fun z => z.elim (fun y => y.1) (fun y => y.1)⟩, fun z => by have := z.1.2; cases this⟩
theorem sf_hv (hn : n ≤ 6) {m j u v : Nat} {ct fi sf af : Int32} (hg : GS (memB n mh mk) m ct fi sf af) (hP : (plO mh n n 0).length ≤ 9) (hj : j < (plO mh n n 0).length) (e : (plO mh n n 0).getD j (0, 0) = (u, v)) : (bt sf ((plO mh n n 0).length - 1 - j) = true ↔ ¬ hvN n mh mk m v u = 0) ∧ (bt af ((plO mh n n 0).length - 1 - j) = true ↔ hvN n mh mk m u v = 0) := by
  constructor
  · rw [hg.2.2.1, hv_0]
    constructor
    · rintro ⟨w, h1, h2, h3⟩ q
      exact (tW_up hn w hj e).2.mpr h3 (q w h1 h2)
    · intro q
      refine Classical.byContradiction (fun hno => q (fun w h1 h2 => Classical.byContradiction (fun z => hno ⟨w, h1, h2, (tW_up hn w hj e).2.mp z⟩)))
  · rw [hg.2.2.2 _ (by omega), hv_0]
    constructor
    · intro q w h1 h2
      refine Classical.byContradiction (fun z => ?_)
      have := (tW_up hn w hj e).1.mp z
      rw [q w h1 h2] at this; cases this
    · intro q w h1 h2
      rcases r : w.testBit ((plO mh n n 0).length - 1 - j) with _ | _
      · exact absurd (q w h1 h2) ((tW_up hn w hj e).1.mpr r)
      · rfl
theorem hv_nj (hn : n ≤ 6) {m a b : Nat} (ha : a < 6) (hb : b < 6) (h : mJoin mh (nI a) (nI b) = 0) : hvN n mh mk m a b = 0 := by
  rw [hv_0]
  intro w _ _
  exact Classical.byContradiction (fun z => (tW_in hn w ha hb z).2.2.2 h)
theorem join_sym (hn : n ≤ 6) {a b : Nat} (ha : a < n) (hb : b < n) : mJoin mh (nI a) (nI b) = 0 ↔ mJoin mh (nI b) (nI a) = 0 := by
  rw [mJoin_eq hn ha hb, mJoin_eq hn hb ha]
  exact ⟨fun h q => h q.symm, fun h q => h q.symm⟩
theorem and_one {x : Int32} {t : Nat} (ht : t < 32) : (1 : Int32) <<< (nI t &&& 31) &&& x = 0 ↔ bt x t = false := by
  rw [← and_bit ht]
  have : (1 : Int32) <<< (nI t &&& 31) &&& x = x &&& (1 : Int32) <<< (nI t &&& 31) := b_ext' (fun i => by rw [b_and, b_and, Bool.and_comm])
  rw [this]
/-- someHas -/
theorem some_eq (hn : n ≤ 6) {fq fd fl fh : Nat → Int32} {P : Nat} {dc cbb kb kc ga ct fi sf af ct' fi' sf' af' : Int32} {fq' fd' : Nat → Int32} (hp : pRel n fp fc mh P dc cbb fl fh) (he : kGather n fp fc fq fd fl fh P dc cbb kb kc ga ct fi sf af = (1, ct', fi', sf', af', fq', fd')) (hg : GS (memB n mh mk) (2 ^ P) ct' fi' sf' af') {a b : Nat} (ha : a < n) (hb : b < n) (hab : a ≠ b) :
    ∃ r, kSome n fp fc fq fd fl fh P dc cbb kb kc ga ct fi sf af (nI a) (nI b) = (r, 1, ct', fi', sf', af', fq', fd') ∧ (r = 0 ∨ r = 1) ∧ (r = 0 ↔ hvN n mh mk (2 ^ P) a b = 0) := by
  have hP9 : (plO mh n n 0).length ≤ 9 := by rw [← hp.1]; exact hp.2.1
  have hPe := hp.1
  subst hPe
  unfold kSome
  rw [he]
  show ∃ r, (if nI b ≤ nI a then (if kBitOf fl fh (plO mh n n 0).length (nI a) (nI b) &&& sf' = 0 then (0, 1, ct', fi', sf', af', fq', fd') else (1, 1, ct', fi', sf', af', fq', fd')) else (if kBitOf fl fh (plO mh n n 0).length (nI a) (nI b) &&& (af' ^^^ (-1)) = 0 then (0, 1, ct', fi', sf', af', fq', fd') else (1, 1, ct', fi', sf', af', fq', fd'))) = _ ∧ _
  have pk : ∀ (c : Prop) [Decidable c] (hc : c ↔ hvN n mh mk (2 ^ (plO mh n n 0).length) a b = 0), ∃ r, (if c then ((0 : Int32), (1 : Int32), ct', fi', sf', af', fq', fd') else (1, 1, ct', fi', sf', af', fq', fd')) = (r, 1, ct', fi', sf', af', fq', fd') ∧ (r = 0 ∨ r = 1) ∧ (r = 0 ↔ hvN n mh mk (2 ^ (plO mh n n 0).length) a b = 0) := by
    intro c _ hc
    by_cases q : c
    · rw [if_pos q]; exact ⟨0, rfl, Or.inl rfl, ⟨fun _ => hc.mp q, fun _ => rfl⟩⟩
    · rw [if_neg q]; exact ⟨1, rfl, Or.inr rfl, ⟨fun z => absurd z (by decide), fun z => absurd (hc.mpr z) q⟩⟩
  by_cases c : nI b ≤ nI a
  · rw [if_pos c]
    rw [nI_leI (by omega) (by omega)] at c
    have hlt : b < a := by omega
    refine pk _ ?_
    have hbo := bitOf_eq hn hp hlt ha
    by_cases d : mJoin mh (nI b) (nI a) = 0
    · rw [(hbo.2 d).2]
      have : (0 : Int32) &&& sf' = 0 := b_eq0.mpr (fun i => by rw [b_and, b_0, Bool.false_and])
      exact ⟨fun _ => hv_nj hn (by omega) (by omega) ((join_sym hn ha hb).mpr d), fun _ => this⟩
    · obtain ⟨j, hj, e⟩ := pl_find hlt ha d
      rw [(hbo.1 j hj e).2, and_one (by omega)]
      have := (sf_hv hn hg hP9 hj e).1
      rw [← Bool.not_eq_true]
      exact ⟨fun q => Classical.byContradiction (fun z => q (this.mpr z)), fun q z => this.mp z q⟩
  · rw [if_neg c]
    rw [nI_leI (by omega) (by omega)] at c
    have hlt : a < b := by omega
    refine pk _ ?_
    have hbo := bitOf_eq hn hp hlt hb
    by_cases d : mJoin mh (nI a) (nI b) = 0
    · rw [(hbo.2 d).1]
      have : (0 : Int32) &&& (af' ^^^ (-1)) = 0 := b_eq0.mpr (fun i => by rw [b_and, b_0, Bool.false_and])
      exact ⟨fun _ => hv_nj hn (by omega) (by omega) d, fun _ => this⟩
    · obtain ⟨j, hj, e⟩ := pl_find hlt hb d
      have h3 := (sf_hv hn hg hP9 hj e).2
      rw [(hbo.1 j hj e).1, and_one (by omega), b_not _ (by omega), Bool.not_eq_false']
      exact h3
end AN
end
section
/-! loose, turned, forget, first -/
theorem sm_shift (f : Nat → Nat) : ∀ k i, sm f k (i + 1) = sm (fun t => f (t + 1)) k i
  | 0, _ => rfl
  | k + 1, i => by
    show f (i + 1) + _ = f (i + 1) + _
    rw [sm_shift f k (i + 1)]
theorem sm_rev (f : Nat → Nat) : ∀ P, sm f P 0 = sm (fun j => f (P - 1 - j)) P 0
  | 0 => rfl
  | P + 1 => by
    rw [sm_top, Nat.zero_add, sm_rev f P]
    show _ = f (P + 1 - 1 - 0) + sm (fun j => f (P + 1 - 1 - j)) P 1
    rw [sm_shift, sm_congr (g := fun j => f (P + 1 - 1 - (j + 1))) (f := fun j => f (P - 1 - j)) P 0 (fun t _ ht => by
      show f (P - 1 - t) = f (P + 1 - 1 - (t + 1))
      congr 1; omega), show P + 1 - 1 - 0 = P by omega]
    omega
def lsm (s : Nat → Nat → Nat) : List (Nat × Nat) → Nat
  | [] => 0
  | q :: l => s q.1 q.2 + lsm s l
theorem lsm_app (s : Nat → Nat → Nat) (l2 : List (Nat × Nat)) : ∀ l1, lsm s (l1 ++ l2) = lsm s l1 + lsm s l2
  | [] => by show lsm s l2 = 0 + _; omega
  | q :: l1 => by
    show s q.1 q.2 + lsm s (l1 ++ l2) = s q.1 q.2 + lsm s l1 + _
    rw [lsm_app s l2 l1]; omega
theorem lsm_sm (s : Nat → Nat → Nat) : ∀ l : List (Nat × Nat), lsm s l = sm (fun j => s (l.getD j (0, 0)).1 (l.getD j (0, 0)).2) l.length 0
  | [] => rfl
  | q :: l => by
    show s q.1 q.2 + lsm s l = s q.1 q.2 + sm (fun j => s ((q :: l).getD j (0, 0)).1 ((q :: l).getD j (0, 0)).2) l.length 1
    rw [sm_shift, lsm_sm s l]
    rfl
section S2
variable {n : Nat} {fp fc mh mk : Nat → Int32}
theorem plI_lsm (s : Nat → Nat → Nat) (u : Nat) : ∀ k i, (∀ b, i ≤ b → b < i + k → mJoin mh (nI u) (nI b) = 0 → s u b = 0) → lsm s (plI mh u k i) = sm (fun b => s u b) k i
  | 0, _, _ => rfl
  | k + 1, i, h => by
    rw [plI]
    have ih := plI_lsm s u k (i + 1) (fun b h1 h2 => h b (by omega) (by omega))
    by_cases c : mJoin mh (nI u) (nI i) = 0
    · rw [if_pos c, ih]
      show _ = s u i + _
      rw [h i (by omega) (by omega) c, Nat.zero_add]
    · rw [if_neg c]
      show s u i + lsm s (plI mh u k (i + 1)) = s u i + _
      rw [ih]
theorem plO_lsm (s : Nat → Nat → Nat) : ∀ k i, i + k ≤ n → (∀ a b, a < b → b < n → mJoin mh (nI a) (nI b) = 0 → s a b = 0) → lsm s (plO mh n k i) = sm (fun a => sm (fun b => s a b) (n - (a + 1)) (a + 1)) k i
  | 0, _, _, _ => rfl
  | k + 1, i, hk, h => by
    rw [plO, lsm_app, plI_lsm s i _ _ (fun b h1 h2 hj => h i b (by omega) (by omega) hj), plO_lsm s k (i + 1) (by omega) h]
    rfl
/-- a sum over all pairs, of a thing that only joined ones have, over the list -/
theorem tab_sum (hn : n ≤ 6) (F : Nat → Nat → Nat) (h0 : ∀ a b, ¬ (a < n ∧ b < n ∧ a ≠ b ∧ ¬ mJoin mh (nI a) (nI b) = 0) → F a b = 0) : sm (fun a => sm (fun b => F a b) n 0) n 0 = sm (fun j => F ((plO mh n n 0).getD j (0, 0)).1 ((plO mh n n 0).getD j (0, 0)).2 + F ((plO mh n n 0).getD j (0, 0)).2 ((plO mh n n 0).getD j (0, 0)).1) (plO mh n n 0).length 0 := by
  have e1 := sm_sym (fun a b => F a b + F b a) (fun a b => Nat.add_comm _ _) (fun a => by rw [h0 a a (fun q => q.2.2.1 rfl)]) n
  have e2 : sm (fun a => sm (fun b => F a b + F b a) n 0) n 0 = sm (fun a => sm (fun b => F a b) n 0) n 0 + sm (fun a => sm (fun b => F a b) n 0) n 0 := by
    have : sm (fun a => sm (fun b => F a b + F b a) n 0) n 0 = sm (fun a => sm (fun b => F a b) n 0 + sm (fun b => F b a) n 0) n 0 := sm_congr n 0 (fun a _ _ => sm_add _ _ n 0)
    rw [this, sm_add, ← sm_swap (fun b a => F b a) n 0 n 0]
  have e3 := plO_lsm (n := n) (mh := mh) (fun a b => F a b + F b a) n 0 (by omega) (fun a b hab hb hj => by
    show F a b + F b a = 0
    rw [h0 a b (fun q => q.2.2.2 hj), h0 b a (fun q => q.2.2.2 ((join_sym hn (by omega) hb).mp hj))])
  rw [lsm_sm] at e3
  rw [e3]
  omega
/-- bits of a number by the pairs -/
theorem bits_sum {x : Int32} {P : Nat} (hP : P ≤ 9) (hx : ∀ w, bt x w = true → w < P) (f : Nat → Nat) (hf : ∀ j, j < P → f j = (if bt x (P - 1 - j) = true then 1 else 0)) : bitCount x = nI (sm f P 0) := by
  rw [bc_eq hP hx, cb_sm, sm_rev, sm_congr P 0 (fun j _ hj => (hf j (by omega)).symm)]
theorem mForget_L4_eq : ∀ (k i c : Nat), i + k ≤ 36 → mForget_L4 mk k i (nI c) = (nI (c + sm (iA mk) k i), mForgetAll mk)
  | 0, i, c, _ => rfl
  | k + 1, i, c, h => by
    rw [mForget_L4, nI_clamp (by omega)]
    show _ = (nI (c + (iA mk i + _)), _)
    unfold iA
    by_cases d : mk i = 0
    · rw [if_pos d, if_pos d, mForget_L4_eq k (i + 1) c (by omega), Nat.zero_add]; rfl
    · rw [if_neg d, if_neg d, nI_1, mForget_L4_eq k (i + 1) (c + 1) (by omega), Nat.add_assoc]; rfl
theorem cntK (hn : n ≤ 6) {kb kc : Int32} (hk : kRel n mh mk kb kc) : sm (iA mk) 36 0 = sm (fun a => sm (fun b => (if a < n ∧ b < n then iA mk (6 * a + b) else 0)) n 0) n 0 := by
  rw [sm_36]
  obtain ⟨d, hd⟩ : ∃ d, 6 = n + d := ⟨6 - n, by omega⟩
  have z : ∀ a b, a < 6 → b < 6 → ¬ (a < n ∧ b < n) → iA mk (6 * a + b) = 0 := fun a b ha hb hor => by
    unfold iA
    by_cases c : mk (6 * a + b) = 0
    · rw [if_pos c]
    · have := hk.2.1 a b ha hb c
      exact absurd ⟨this.1, this.2.1⟩ hor
  have e1 : sm (fun a => sm (fun b => iA mk (6 * a + b)) 6 0) 6 0 = sm (fun a => sm (fun b => (if a < n ∧ b < n then iA mk (6 * a + b) else 0)) n 0) 6 0 := by
    refine sm_congr 6 0 (fun a _ ha => ?_)
    have e2 : sm (fun b => iA mk (6 * a + b)) 6 0 = sm (fun b => (if a < n ∧ b < n then iA mk (6 * a + b) else 0)) 6 0 := by
      refine sm_congr 6 0 (fun b _ hb => ?_)
      by_cases c : a < n ∧ b < n
      · rw [if_pos c]
      · rw [if_neg c]; exact z a b (by omega) (by omega) c
    rw [e2]
    have := sm_cut (n := n) (fun b => (if a < n ∧ b < n then iA mk (6 * a + b) else 0)) d (fun t h1 h2 => if_neg (by omega))
    rw [← hd] at this; exact this
  rw [e1]
  have := sm_cut (n := n) (fun a => sm (fun b => (if a < n ∧ b < n then iA mk (6 * a + b) else 0)) n 0) d (fun t h1 h2 => by
    rw [sm_congr (g := fun _ => 0) n 0 (fun b _ hb => if_neg (by omega)), sm_0])
  rw [← hd] at this; exact this
theorem eq_forget (hn : n ≤ 6) {kb kc : Int32} (hP : (plO mh n n 0).length ≤ 9) (hk : kRel n mh mk kb kc) : kUnfix kb = (mForget mk).1 := by
  rw [mForget, ← nI_0, mForget_L4_eq 36 0 0 (by omega), Nat.zero_add, cntK hn hk]
  rw [tab_sum (mh := mh) hn (fun a b => if a < n ∧ b < n then iA mk (6 * a + b) else 0) (fun a b h => by
    show (if a < n ∧ b < n then iA mk (6 * a + b) else 0) = 0
    by_cases c : a < n ∧ b < n
    · rw [if_pos c]
      unfold iA
      by_cases d : mk (6 * a + b) = 0
      · rw [if_pos d]
      · have := hk.2.1 a b (by omega) (by omega) d
        exact absurd ⟨this.1, this.2.1, this.2.2.1, this.2.2.2.1⟩ h
    · rw [if_neg c])]
  refine bits_sum hP (fun w hw => ?_) _ (fun j hj => ?_)
  · rcases Nat.lt_or_ge w (plO mh n n 0).length with g | g
    · exact g
    · rw [(hk.2.2.2 w g).1] at hw; cases hw
  · obtain ⟨u, v, e⟩ : ∃ u v, (plO mh n n 0).getD j (0, 0) = (u, v) := ⟨_, _, rfl⟩
    have hm := pl_mem hj
    rw [e] at hm ⊢
    have hm1 : u < v := hm.1
    have hm2 : v < n := hm.2.1
    have hkj := (hk.2.2.1 j u v hj e).1
    show (if u < n ∧ v < n then iA mk (6 * u + v) else 0) + (if v < n ∧ u < n then iA mk (6 * v + u) else 0) = _
    rw [if_pos (show u < n ∧ v < n from ⟨by omega, hm2⟩), if_pos (show v < n ∧ u < n from ⟨hm2, by omega⟩)]
    unfold iA
    by_cases c1 : mk (6 * u + v) = 0
    · by_cases c2 : mk (6 * v + u) = 0
      · rw [if_pos c1, if_pos c2, if_neg (fun q => (hkj.mp q).elim (fun z => z c1) (fun z => z c2))]
      · rw [if_pos c1, if_neg c2, if_pos (hkj.mpr (Or.inr c2))]
    · rw [if_neg c1, if_pos (hk.2.1 u v (by omega) (by omega) c1).2.2.2.2, if_pos (hkj.mpr (Or.inl c1))]
/-! loose -/
theorem mLoose_L8_eq (hn : n ≤ 6) {mt mv mb ml mg : Nat → Int32} {mc : Int32} {Q : Nat} (hP : (plO mh n n 0).length ≤ 9) {l' g' v' t' b' : Nat → Int32} {a' : Int32} (E : mGo n mh mk mt mv mb ml mg mc Q = ((plO mh n n 0).length, l', g', a', v', t', b')) (hl : ∀ j, j < (plO mh n n 0).length → l' j = nI ((plO mh n n 0).getD j (0, 0)).1 ∧ g' j = nI ((plO mh n n 0).getD j (0, 0)).2) (hm : MS n mh (memB n mh mk) (2 ^ (plO mh n n 0).length) a' v' b') : ∀ (k i c : Nat), i + k = (plO mh n n 0).length →
    mLoose_L8 n mh mk mt mv mb ml mg mc Q k i (nI c) = (nI (c + sm (fun j => if ¬ hvN n mh mk (2 ^ (plO mh n n 0).length) ((plO mh n n 0).getD j (0, 0)).1 ((plO mh n n 0).getD j (0, 0)).2 = 0 ∧ hvN n mh mk (2 ^ (plO mh n n 0).length) ((plO mh n n 0).getD j (0, 0)).1 ((plO mh n n 0).getD j (0, 0)).2 < cb (memB n mh mk) (2 ^ (plO mh n n 0).length) then 1 else 0) k i), (plO mh n n 0).length, l', g', a', v', t', b')
  | 0, i, c, h => by rw [mLoose_L8, E]; rfl
  | k + 1, i, c, h => by
    have hi : i < (plO mh n n 0).length := by omega
    have hpm := pl_mem hi
    have h512 := vz_p512 hP
    have hc := cb_le (memB n mh mk) (2 ^ (plO mh n n 0).length)
    have hh : hvN n mh mk (2 ^ (plO mh n n 0).length) ((plO mh n n 0).getD i (0, 0)).1 ((plO mh n n 0).getD i (0, 0)).2 ≤ 2 ^ (plO mh n n 0).length := cb_le _ _
    have ev : v' (6 * ((plO mh n n 0).getD i (0, 0)).1 + ((plO mh n n 0).getD i (0, 0)).2) = nI (hvN n mh mk (2 ^ (plO mh n n 0).length) ((plO mh n n 0).getD i (0, 0)).1 ((plO mh n n 0).getD i (0, 0)).2) := hm.2.1 _ (by omega)
    rw [mLoose_L8, E]
    show (if v' (6 * (l' (nI i).toNatClampNeg) + g' (nI i).toNatClampNeg).toNatClampNeg ≤ 0 then _ else if a' ≤ v' (6 * (l' (nI i).toNatClampNeg) + g' (nI i).toNatClampNeg).toNatClampNeg then _ else _) = (nI (c + ((if ¬ hvN n mh mk (2 ^ (plO mh n n 0).length) ((plO mh n n 0).getD i (0, 0)).1 ((plO mh n n 0).getD i (0, 0)).2 = 0 ∧ hvN n mh mk (2 ^ (plO mh n n 0).length) ((plO mh n n 0).getD i (0, 0)).1 ((plO mh n n 0).getD i (0, 0)).2 < cb (memB n mh mk) (2 ^ (plO mh n n 0).length) then 1 else 0) + _)), _)
    rw [nI_clamp (show i < 2 ^ 31 by omega), (hl i hi).1, (hl i hi).2, vz_ixC (by omega) (by omega), ev, hm.1]
    have q1 : nI (hvN n mh mk (2 ^ (plO mh n n 0).length) ((plO mh n n 0).getD i (0, 0)).1 ((plO mh n n 0).getD i (0, 0)).2) ≤ 0 ↔ hvN n mh mk (2 ^ (plO mh n n 0).length) ((plO mh n n 0).getD i (0, 0)).1 ((plO mh n n 0).getD i (0, 0)).2 ≤ 0 := by rw [← nI_0]; exact nI_leI (by omega) (by omega)
    have q2 : nI (cb (memB n mh mk) (2 ^ (plO mh n n 0).length)) ≤ nI (hvN n mh mk (2 ^ (plO mh n n 0).length) ((plO mh n n 0).getD i (0, 0)).1 ((plO mh n n 0).getD i (0, 0)).2) ↔ cb (memB n mh mk) (2 ^ (plO mh n n 0).length) ≤ hvN n mh mk (2 ^ (plO mh n n 0).length) ((plO mh n n 0).getD i (0, 0)).1 ((plO mh n n 0).getD i (0, 0)).2 := nI_leI (by omega) (by omega)
    by_cases c1 : hvN n mh mk (2 ^ (plO mh n n 0).length) ((plO mh n n 0).getD i (0, 0)).1 ((plO mh n n 0).getD i (0, 0)).2 ≤ 0
    · rw [if_pos (q1.mpr c1), if_neg (by omega), mLoose_L8_eq hn hP E hl hm k (i + 1) c (by omega), Nat.zero_add, hm.1]
    · rw [if_neg (fun z => c1 (q1.mp z))]
      by_cases c2 : cb (memB n mh mk) (2 ^ (plO mh n n 0).length) ≤ hvN n mh mk (2 ^ (plO mh n n 0).length) ((plO mh n n 0).getD i (0, 0)).1 ((plO mh n n 0).getD i (0, 0)).2
      · rw [if_pos (q2.mpr c2), if_neg (by omega), mLoose_L8_eq hn hP E hl hm k (i + 1) c (by omega), Nat.zero_add, hm.1]
      · rw [if_neg (fun z => c2 (q2.mp z)), if_pos (by omega), nI_1, mLoose_L8_eq hn hP E hl hm k (i + 1) (c + 1) (by omega), Nat.add_assoc, hm.1]
theorem sf_lt {m : Nat} {ct fi sf af : Int32} {P : Nat} (hm : m ≤ 2 ^ P) (hg : GS (memB n mh mk) m ct fi sf af) (t : Nat) (h : bt sf t = true) : t < P := by
  obtain ⟨w, h1, _, h3⟩ := (hg.2.2.1 t).mp h
  rcases Nat.lt_or_ge t P with q | q
  · exact q
  · have : w < 2 ^ t := Nat.lt_of_lt_of_le (by omega) (Nat.pow_le_pow_right (by decide) q)
    rw [Nat.testBit_lt_two_pow this] at h3; cases h3
theorem eq_loose (hn : n ≤ 6) {ct fi sf af : Int32} (hP : (plO mh n n 0).length ≤ 9) (hg : GS (memB n mh mk) (2 ^ (plO mh n n 0).length) ct fi sf af) : bitCount (sf &&& (af ^^^ (-1))) = nI (sm (fun j => if ¬ hvN n mh mk (2 ^ (plO mh n n 0).length) ((plO mh n n 0).getD j (0, 0)).1 ((plO mh n n 0).getD j (0, 0)).2 = 0 ∧ hvN n mh mk (2 ^ (plO mh n n 0).length) ((plO mh n n 0).getD j (0, 0)).1 ((plO mh n n 0).getD j (0, 0)).2 < cb (memB n mh mk) (2 ^ (plO mh n n 0).length) then 1 else 0) (plO mh n n 0).length 0) := by
  refine bits_sum hP (fun w hw => ?_) _ (fun j hj => ?_)
  · rw [b_and, Bool.and_eq_true] at hw
    exact sf_lt (Nat.le_refl _) hg w hw.1
  · obtain ⟨u, v, e⟩ : ∃ u v, (plO mh n n 0).getD j (0, 0) = (u, v) := ⟨_, _, rfl⟩
    rw [e]
    have hs := sf_hv hn hg hP hj e
    have hsum := hv_sum (mk := mk) hn (m := 2 ^ (plO mh n n 0).length) hj e
    rw [b_and, b_not _ (by omega)]
    show (if ¬ hvN n mh mk (2 ^ (plO mh n n 0).length) u v = 0 ∧ hvN n mh mk (2 ^ (plO mh n n 0).length) u v < cb (memB n mh mk) (2 ^ (plO mh n n 0).length) then 1 else 0) = _
    by_cases c : ¬ hvN n mh mk (2 ^ (plO mh n n 0).length) u v = 0 ∧ hvN n mh mk (2 ^ (plO mh n n 0).length) u v < cb (memB n mh mk) (2 ^ (plO mh n n 0).length)
    · rw [if_pos c, if_pos]
      have h2 : bt af ((plO mh n n 0).length - 1 - j) = false := by
        rcases q : bt af ((plO mh n n 0).length - 1 - j) with _ | _
        · rfl
        · exact absurd (hs.2.mp q) c.1
      rw [hs.1.mpr (by omega), h2]; rfl
    · rw [if_neg c, if_neg]
      intro q
      rw [Bool.and_eq_true, Bool.not_eq_true'] at q
      have h1 := hs.1.mp q.1
      have h2 : ¬ hvN n mh mk (2 ^ (plO mh n n 0).length) u v = 0 := fun z => by
        rw [hs.2.mpr z] at q; exact absurd q.2 (by decide)
      exact c ⟨h2, by omega⟩
/-! turned -/
def gT (n : Nat) (mh b' : Nat → Int32) (u v : Nat) : Nat := if (u < n ∧ v < n) ∧ ¬ mh (6 * u + v) = 0 ∧ ¬ b' (6 * v + u) = 0 then 1 else 0
theorem mTurned_L18_eq (hn : n ≤ 6) {mt mv mb ml mg : Nat → Int32} {mc : Int32} {Q : Nat} {R : Nat × (Nat → Int32) × (Nat → Int32) × Int32 × (Nat → Int32) × (Nat → Int32) × (Nat → Int32)} (E : mGo n mh mk mt mv mb ml mg mc Q = R) {u : Nat} (hu : u < n) (c8 : Int32) (kk : Int32 → Int32 × Nat × (Nat → Int32) × (Nat → Int32) × Int32 × (Nat → Int32) × (Nat → Int32) × (Nat → Int32)) : ∀ (k i c : Nat), i + k ≤ n →
    mTurned_L18 n mh mk mt mv mb ml mg mc Q u c8 kk k i (nI c) = kk (nI (c + sm (fun v => gT n mh R.2.2.2.2.2.2 u v) k i))
  | 0, i, c, _ => rfl
  | k + 1, i, c, h => by
    rw [mTurned_L18, E, vz_ixC (by omega) (by omega), vz_ixC (by omega) (by omega)]
    show _ = kk (nI (c + (gT n mh R.2.2.2.2.2.2 u i + _)))
    unfold gT
    by_cases c1 : mh (6 * u + i) = 0
    · rw [if_pos c1, if_neg (fun q => q.2.1 c1), mTurned_L18_eq hn E hu c8 kk k (i + 1) c (by omega), Nat.zero_add]; rfl
    · rw [if_neg c1]
      by_cases c2 : R.2.2.2.2.2.2 (6 * i + u) = 0
      · rw [if_pos c2, if_neg (fun q => q.2.2 c2), mTurned_L18_eq hn E hu c8 kk k (i + 1) c (by omega), Nat.zero_add]; rfl
      · rw [if_neg c2, if_pos ⟨⟨hu, by omega⟩, c1, c2⟩, nI_1, mTurned_L18_eq hn E hu c8 kk k (i + 1) (c + 1) (by omega), Nat.add_assoc]; rfl
theorem mTurned_L8_eq (hn : n ≤ 6) {mt mv mb ml mg : Nat → Int32} {mc : Int32} {Q : Nat} {R : Nat × (Nat → Int32) × (Nat → Int32) × Int32 × (Nat → Int32) × (Nat → Int32) × (Nat → Int32)} (E : mGo n mh mk mt mv mb ml mg mc Q = R) : ∀ (k i c : Nat), i + k ≤ n →
    mTurned_L8 n mh mk mt mv mb ml mg mc Q k i (nI c) = (nI (c + sm (fun u => sm (fun v => gT n mh R.2.2.2.2.2.2 u v) n 0) k i), R)
  | 0, i, c, _ => by rw [mTurned_L8, E]; rfl
  | k + 1, i, c, h => by
    rw [mTurned_L8, mTurned_L18_eq hn E (by omega) (nI c) _ n 0 c (by omega), mTurned_L8_eq hn E k (i + 1) _ (by omega)]
    show _ = (nI (c + (sm (fun v => gT n mh R.2.2.2.2.2.2 i v) n 0 + _)), R)
    rw [Nat.add_assoc]
theorem eq_turned (hn : n ≤ 6) (h : gRel n fp fc mh) (hP : (plO mh n n 0).length ≤ 9) {b' : Nat → Int32} {w0 : Nat} (hw : w0 < 2 ^ (plO mh n n 0).length) (hb : ∀ x, x < 36 → b' x = tW n mh w0 x) : bitCount (nI w0 ^^^ nI (accB (fallN mh) 0 (plO mh n n 0))) = nI (sm (fun u => sm (fun v => gT n mh b' u v) n 0) n 0) := by
  have h512 := vz_p512 hP
  have hd := accB_lt (fallN mh) fallN_le (plO mh n n 0) 0 0 (by decide)
  rw [Nat.zero_add] at hd
  rw [tab_sum (mh := mh) hn (gT n mh b') (fun a b hno => by
    unfold gT
    refine if_neg (fun q => hno ?_)
    obtain ⟨h1, h2, h3, h4⟩ := h.1 a b (by omega) (by omega) q.2.1
    exact ⟨h1, h2, h3, by rw [mJoin_eq hn h1 h2]; exact fun z => z (Or.inl ⟨h1, h2, q.2.1⟩)⟩)]
  refine bits_sum hP (fun w hw2 => ?_) _ (fun j hj => ?_)
  · rw [b_xor, nI_bt (by omega), nI_bt (by omega)] at hw2
    rcases Nat.lt_or_ge w (plO mh n n 0).length with g | g
    · exact g
    · have p := Nat.pow_le_pow_right (n := 2) (by decide) g
      rw [Nat.testBit_lt_two_pow (by omega), Nat.testBit_lt_two_pow (by omega)] at hw2
      cases hw2
  · obtain ⟨u, v, e⟩ : ∃ u v, (plO mh n n 0).getD j (0, 0) = (u, v) := ⟨_, _, rfl⟩
    have hm := pl_mem hj
    rw [e] at hm ⊢
    have hm1 : u < v := hm.1
    have hm2 : v < n := hm.2.1
    have hmj := hm.2.2
    have hmj : ¬ mJoin mh (nI u) (nI v) = 0 := hmj
    rw [mJoin_eq hn (by omega) hm2] at hmj
    rw [b_xor, nI_bt (by omega), nI_bt (by omega), accB_at _ fallN_le _ 0 j hj, e]
    show gT n mh b' u v + gT n mh b' v u = _
    unfold gT fallN
    rw [hb (6 * v + u) (by omega), hb (6 * u + v) (by omega)]
    have hup := tW_up hn w0 hj e
    show _ = if (w0.testBit ((plO mh n n 0).length - 1 - j) ^^ decide ((if mh (6 * v + u) = 0 then 0 else 1) = 1)) = true then 1 else 0
    rcases q : w0.testBit ((plO mh n n 0).length - 1 - j) with _ | _
    · have t2 : tW n mh w0 (6 * v + u) = 0 := Classical.byContradiction (fun z => by rw [hup.2.mp z] at q; cases q)
      rw [if_neg (fun z => z.2.2 t2)]
      by_cases c : mh (6 * v + u) = 0
      · rw [if_neg (fun z => z.2.1 c), if_pos c]; rfl
      · rw [if_pos ⟨⟨hm2, by omega⟩, c, hup.1.mpr q⟩, if_neg c]; rfl
    · have t1 : tW n mh w0 (6 * u + v) = 0 := Classical.byContradiction (fun z => by rw [hup.1.mp z] at q; cases q)
      rw [if_neg (show ¬ ((v < n ∧ u < n) ∧ ¬ mh (6 * v + u) = 0 ∧ ¬ tW n mh w0 (6 * u + v) = 0) from fun z => z.2.2 t1)]
      by_cases c : mh (6 * v + u) = 0
      · have c1 : ¬ mh (6 * u + v) = 0 := fun z => hmj (fun y => y.elim (fun y => y.2.2 z) (fun y => y.2.2 c))
        rw [if_pos ⟨⟨by omega, hm2⟩, c1, hup.2.mpr q⟩, if_pos c]; rfl
      · have c1 : mh (6 * u + v) = 0 := (h.1 v u (by omega) (by omega) c).2.2.2
        rw [if_neg (fun z => z.2.1 c1), if_neg c]; rfl
end S2
end
section
/-! THE RELATION between the class's state and the reference's; every call keeps it and answers alike -/
def RelA (n : Nat) (fp fc fl fh : Nat → Int32) (P : Nat) (dc cbb kb kc ga ct fi sf af sc : Int32) (mh mk mt mb : Nat → Int32) : Prop :=
  2 ≤ n ∧ n ≤ 6 ∧ gRel n fp fc mh ∧ hasRank n mh ∧ jcO mh n n 0 ≤ 9 ∧ pRel n fp fc mh P dc cbb fl fh ∧ kRel n mh mk kb kc ∧ (∃ w, w < 2 ^ P ∧ memB n mh mk w = true) ∧ (ga = 0 ∨ (ga = 1 ∧ GS (memB n mh mk) (2 ^ P) ct fi sf af)) ∧ (sc = -1 ∨ sc = (xSeps n fp fc (-1)).1) ∧ is01 mb ∧ ∀ j, 36 ≤ j → mt j = 0
section RA
variable {n : Nat} {fp fc fl fh : Nat → Int32} {P : Nat} {dc cbb kb kc ga ct fi sf af sc : Int32} {mh mk mt mb : Nat → Int32}
theorem RelA.vin (h : RelA n fp fc fl fh P dc cbb kb kc ga ct fi sf af sc mh mk mt mb) : P ≤ 9 ∧ (∀ j, j < P → vp_in (fl j) n) ∧ ∀ j, j < P → vp_in (fh j) n := by
  obtain ⟨h2, h6, -, -, -, hp, -⟩ := h
  refine ⟨hp.2.1, fun j hj => ?_, fun j hj => ?_⟩
  · have hj2 : j < (plO mh n n 0).length := by rw [← hp.1]; exact hj
    rw [(hp.2.2.2.2 j hj).1]
    have := pl_mem hj2
    exact vp_in_nI (by omega) (by omega)
  · have hj2 : j < (plO mh n n 0).length := by rw [← hp.1]; exact hj
    rw [(hp.2.2.2.2 j hj).2]
    have := pl_mem hj2
    exact vp_in_nI (by omega) (by omega)
theorem forgetAll_0 : ∀ (k i : Nat) (f : Nat → Int32), i + k = 36 → (∀ x, x < i → f x = 0) → ∀ x, x < 36 → mForgetAll_L2 mk k i f x = 0
  | 0, i, f, h, hf, x, hx => hf x (by omega)
  | k + 1, i, f, h, hf, x, hx => by
    rw [mForgetAll_L2, nI_clamp (by omega), nar0]
    refine forgetAll_0 k (i + 1) _ (by omega) (fun y hy => ?_) x hx
    by_cases c : y = i
    · rw [c, pk_us]
    · rw [pk_un c]; exact hf y (by omega)
theorem forgetAll_01 : ∀ (k i : Nat) (f : Nat → Int32), is01 f → is01 (mForgetAll_L2 mk k i f)
  | 0, _, _, h => h
  | k + 1, i, f, h => forgetAll_01 k (i + 1) _ (is01_upd h (by rw [nar0]; exact Or.inl rfl))
/-- nothing is known -/
theorem kRel_none {mh2 : Nat → Int32} (hn : n ≤ 6) (hk : is01 mk) : kRel n mh2 (mForgetAll mk) 0 0 := by
  have z : ∀ x, x < 36 → mForgetAll mk x = 0 := fun x hx => forgetAll_0 36 0 mk (by omega) (fun y hy => by omega) x hx
  refine ⟨forgetAll_01 36 0 mk hk, fun a b ha hb q => absurd (z _ (by omega)) q, fun j u v hj e => ?_, fun t _ => ⟨b_0 t, b_0 t⟩⟩
  have hm := pl_mem hj
  rw [e] at hm
  rw [b_0]
  have z1 := z (6 * u + v)
  have z2 := z (6 * v + u)
  have hm1 : u < v := hm.1
  have hm2 : v < n := hm.2.1
  rw [z1 (by omega), z2 (by omega)]
  exact ⟨⟨fun q => (by cases q), fun q => q.elim (fun y => absurd rfl y) (fun y => absurd rfl y)⟩, ⟨fun q => (by cases q), fun q => absurd rfl q⟩⟩
/-- the state behind a change of the graph -/
theorem RelA_new (hn2 : 2 ≤ n) (hn : n ≤ 6) {fp' fc' mh' : Nat → Int32} (hg : gRel n fp' fc' mh') (hr : hasRank n mh') (hJ : jcO mh' n n 0 ≤ 9) (hk : is01 mk) (hb : is01 mb) (ht : ∀ j, 36 ≤ j → mt j = 0) (ct fi sf af : Int32) :
    RelA n fp' fc' (xNote n fp' fc' fl fh).2.2.2.1 (xNote n fp' fc' fl fh).2.2.2.2 (xNote n fp' fc' fl fh).1 (xNote n fp' fc' fl fh).2.1 (xNote n fp' fc' fl fh).2.2.1 0 0 0 ct fi sf af (-1) mh' (mForgetAll mk) mt mb := by
  have hp : pRel n fp' fc' mh' (xNote n fp' fc' fl fh).1 (xNote n fp' fc' fl fh).2.1 (xNote n fp' fc' fl fh).2.2.1 (xNote n fp' fc' fl fh).2.2.2.1 (xNote n fp' fc' fl fh).2.2.2.2 := restart_pRel hn hg hJ fl fh
  have h9 : (plO mh' n n 0).length ≤ 9 := by rw [plO_len]; exact hJ
  refine ⟨hn2, hn, hg, hr, hJ, hp, kRel_none hn hk, ?_, Or.inl rfl, Or.inl rfl, hb, ht⟩
  have := drawn_mem (mk := mForgetAll mk) hn hg hr h9 (fun x hx => forgetAll_0 36 0 mk (by omega) (fun y hy => by omega) x hx)
  exact ⟨_, by rw [hp.1]; exact this.1, decide_eq_true this.2⟩
end RA
end
section
/-! the calls that change the graph -/
section CA
variable {n : Nat} {fp fc fl fh : Nat → Int32} {P : Nat} {dc cbb kb kc ga ct fi sf af sc : Int32} {mh mk mt mb : Nat → Int32}
theorem cntA_le : cntA mh ≤ 36 := by
  have := sm_le (f := iA mh) (c := 1) (fun t => by unfold iA; split <;> omega) 36 0
  unfold cntA
  omega
theorem T_arrow (h : RelA n fp fc fl fh P dc cbb kb kc ga ct fi sf af sc mh mk mt mb) (u v : Int32) :
    (xArrow n fp fc fl fh P dc cbb kb kc ga sc u v).1 = (mArrow n mh mk u v).1 ∧
    RelA n (xArrow n fp fc fl fh P dc cbb kb kc ga sc u v).2.1 (xArrow n fp fc fl fh P dc cbb kb kc ga sc u v).2.2.1 (xArrow n fp fc fl fh P dc cbb kb kc ga sc u v).2.2.2.2.2.2.2.2.2.2.1 (xArrow n fp fc fl fh P dc cbb kb kc ga sc u v).2.2.2.2.2.2.2.2.2.2.2 (xArrow n fp fc fl fh P dc cbb kb kc ga sc u v).2.2.2.2.1 (xArrow n fp fc fl fh P dc cbb kb kc ga sc u v).2.2.2.2.2.1 (xArrow n fp fc fl fh P dc cbb kb kc ga sc u v).2.2.2.2.2.2.1 (xArrow n fp fc fl fh P dc cbb kb kc ga sc u v).2.2.2.2.2.2.2.1 (xArrow n fp fc fl fh P dc cbb kb kc ga sc u v).2.2.2.2.2.2.2.2.1 (xArrow n fp fc fl fh P dc cbb kb kc ga sc u v).2.2.2.2.2.2.2.2.2.1 ct fi sf af (xArrow n fp fc fl fh P dc cbb kb kc ga sc u v).2.2.2.1 (mArrow n mh mk u v).2.1 (mArrow n mh mk u v).2.2 mt mb := by
  have h0 := h
  obtain ⟨hn2, hn, hg, hr, hJ, hp, hk, hw, hga, hsc, hb, ht⟩ := h
  unfold xArrow mArrow
  rcases pair_cases hn u v with ⟨h1, h2⟩ | ⟨h1, h2, a, b, ha, hb', hab, rfl, rfl⟩
  · rw [if_pos h1, if_pos h2]; exact ⟨rfl, h0⟩
  · rw [if_neg h1, if_neg h2]
    have hj := hg.joinP hn ha hb'
    by_cases c1 : mJoin mh (nI a) (nI b) = 0
    · rw [if_pos (hj.mpr c1), if_pos c1, gSize_eq hn hg, mArrows_eq]
      have hc := cntA_le (mh := mh)
      by_cases c2 : cntA mh < 9
      · rw [if_pos (show nI (cntA mh) < 9 by rw [show (9 : Int32) = nI 9 from rfl, nI_ltI (by omega) (by omega)]; exact c2), if_neg (show ¬ (9 : Int32) ≤ nI (cntA mh) by rw [show (9 : Int32) = nI 9 from rfl, nI_leI (by omega) (by omega)]; omega), reach_nI hn hg hb']
        by_cases c3 : bt (mReach n mh (nI b)) a = true
        · rw [if_neg (hHt (by omega) c3), if_pos ((b_at1 _ (by omega)).mpr c3)]; exact ⟨rfl, h0⟩
        · rw [if_pos (hHf (by omega) c3), if_neg (fun q => c3 ((b_at1 _ (by omega)).mp q)), vz_ixC (by omega) (by omega), nar1]
          have cj := (mJoin_eq hn ha hb').mp c1
          have z1 : mh (6 * a + b) = 0 := Classical.byContradiction (fun z => cj (Or.inl ⟨ha, hb', z⟩))
          have z2 : mh (6 * b + a) = 0 := Classical.byContradiction (fun z => cj (Or.inr ⟨hb', ha, z⟩))
          have hg' := gRel_put hn hg ha hb' hab z2
          have hno : ¬ dp_Reach (gM n mh) b a := fun q => c3 ((mReach_spec hn hb' gM_in (fun x y hx hy => ⟨fun z => ⟨hx, hy, z⟩, fun z => z.2.2⟩) a).mpr q)
          have hr' : hasRank n (upd mh (6 * a + b) 1) := rank_add hr hno (fun x y g => gM_put (by omega) hn g)
          have hcu := cnt_upd (mh := mh) (j := 6 * a + b) (by omega) 1
          have hJ' : jcO (upd mh (6 * a + b) 1) n n 0 ≤ 9 := by
            rw [jcO_cnt hn hg']
            rw [if_neg (by decide)] at hcu
            omega
          exact ⟨rfl, RelA_new hn2 hn hg' hr' hJ' hk.1 hb ht ct fi sf af⟩
      · rw [if_neg (show ¬ nI (cntA mh) < 9 by rw [show (9 : Int32) = nI 9 from rfl, nI_ltI (by omega) (by omega)]; exact c2), if_pos (show (9 : Int32) ≤ nI (cntA mh) by rw [show (9 : Int32) = nI 9 from rfl, nI_leI (by omega) (by omega)]; omega)]
        exact ⟨rfl, h0⟩
    · rw [if_neg (fun q => c1 (hj.mp q)), if_neg c1]; exact ⟨rfl, h0⟩
theorem T_erase (h : RelA n fp fc fl fh P dc cbb kb kc ga ct fi sf af sc mh mk mt mb) (u v : Int32) :
    (xErase n fp fc fl fh P dc cbb kb kc ga sc u v).1 = (mErase n mh mk u v).1 ∧
    RelA n (xErase n fp fc fl fh P dc cbb kb kc ga sc u v).2.1 (xErase n fp fc fl fh P dc cbb kb kc ga sc u v).2.2.1 (xErase n fp fc fl fh P dc cbb kb kc ga sc u v).2.2.2.2.2.2.2.2.2.2.1 (xErase n fp fc fl fh P dc cbb kb kc ga sc u v).2.2.2.2.2.2.2.2.2.2.2 (xErase n fp fc fl fh P dc cbb kb kc ga sc u v).2.2.2.2.1 (xErase n fp fc fl fh P dc cbb kb kc ga sc u v).2.2.2.2.2.1 (xErase n fp fc fl fh P dc cbb kb kc ga sc u v).2.2.2.2.2.2.1 (xErase n fp fc fl fh P dc cbb kb kc ga sc u v).2.2.2.2.2.2.2.1 (xErase n fp fc fl fh P dc cbb kb kc ga sc u v).2.2.2.2.2.2.2.2.1 (xErase n fp fc fl fh P dc cbb kb kc ga sc u v).2.2.2.2.2.2.2.2.2.1 ct fi sf af (xErase n fp fc fl fh P dc cbb kb kc ga sc u v).2.2.2.1 (mErase n mh mk u v).2.1 (mErase n mh mk u v).2.2 mt mb := by
  have h0 := h
  obtain ⟨hn2, hn, hg, hr, hJ, hp, hk, hw, hga, hsc, hb, ht⟩ := h
  unfold xErase mErase
  rcases pair_cases hn u v with ⟨h1, h2⟩ | ⟨h1, h2, a, b, ha, hb', hab, rfl, rfl⟩
  · rw [if_pos h1, if_pos h2]; exact ⟨rfl, h0⟩
  · rw [if_neg h1, if_neg h2, vz_ixC (by omega) (by omega), nar0]
    have hh := hg.hasP hn ha hb'
    by_cases c : mh (6 * a + b) = 0
    · rw [if_pos (hh.mpr c), if_pos c]; exact ⟨rfl, h0⟩
    · rw [if_neg (fun q => c (hh.mp q)), if_neg c]
      have hg' := gRel_take hn hg ha hb'
      have hr' : hasRank n (upd mh (6 * a + b) 0) := rank_sub hr (fun x y g => gM_take g)
      have hcu := cnt_upd (mh := mh) (j := 6 * a + b) (by omega) 0
      rw [if_pos rfl] at hcu
      have hJ' : jcO (upd mh (6 * a + b) 0) n n 0 ≤ 9 := by
        rw [jcO_cnt hn hg'] at *
        rw [jcO_cnt hn hg] at hJ
        omega
      exact ⟨rfl, RelA_new hn2 hn hg' hr' hJ' hk.1 hb ht ct fi sf af⟩
theorem put_take (hn : n ≤ 6) (hg : gRel n fp fc mh) {a b : Nat} (ha : a < n) (hb : b < n) (hab : ¬ mh (6 * a + b) = 0) : gPut (gTake fp fc (nI a) (nI b)).1 (gTake fp fc (nI a) (nI b)).2 (nI a) (nI b) = (fp, fc) ∧ upd (upd mh (6 * a + b) 0) (6 * a + b) 1 = mh := by
  have hm1 := msk_take hn hg.msk ha hb
  refine ⟨?_, funext (fun x => ?_)⟩
  · unfold gPut gTake
    rw [nI_clamp (show a < 2 ^ 31 by omega), nI_clamp (show b < 2 ^ 31 by omega)]
    apply Prod.ext
    · show upd (upd fp b (fp b &&& ((1 : Int32) <<< (nI a &&& 31) ^^^ (-1)))) b (upd fp b (fp b &&& ((1 : Int32) <<< (nI a &&& 31) ^^^ (-1))) b ||| (1 : Int32) <<< (nI a &&& 31)) = fp
      funext x
      by_cases c : x = b
      · rw [c, pk_us, pk_us]
        refine b_iff (fun w => ?_)
        rw [b_or, Bool.or_eq_true, b_clr _ (by omega), b_one (by omega), decide_eq_true_iff]
        constructor
        · rintro (q | q)
          · exact q.1
          · rw [q]; exact (hg.2.1 b hb a).mpr ⟨ha, hab⟩
        · intro q
          by_cases d : w = a
          · exact Or.inr d
          · exact Or.inl ⟨q, d⟩
      · rw [pk_un c, pk_un c]
    · show upd (upd fc a (fc a &&& ((1 : Int32) <<< (nI b &&& 31) ^^^ (-1)))) a (upd fc a (fc a &&& ((1 : Int32) <<< (nI b &&& 31) ^^^ (-1))) a ||| (1 : Int32) <<< (nI b &&& 31)) = fc
      funext x
      by_cases c : x = a
      · rw [c, pk_us, pk_us]
        refine b_iff (fun w => ?_)
        rw [b_or, Bool.or_eq_true, b_clr _ (by omega), b_one (by omega), decide_eq_true_iff]
        constructor
        · rintro (q | q)
          · exact q.1
          · rw [q]; exact (hg.2.2.1 a ha b).mpr ⟨hb, hab⟩
        · intro q
          by_cases d : w = b
          · exact Or.inr d
          · exact Or.inl ⟨q, d⟩
      · rw [pk_un c, pk_un c]
  · by_cases c : x = 6 * a + b
    · rw [c, pk_us]
      rcases hg.2.2.2 (6 * a + b) with q | q
      · exact absurd q hab
      · exact q.symm
    · rw [pk_un c, pk_un c]
theorem T_turn (h : RelA n fp fc fl fh P dc cbb kb kc ga ct fi sf af sc mh mk mt mb) (u v : Int32) :
    (xTurn n fp fc fl fh P dc cbb kb kc ga sc u v).1 = (mTurn n mh mk u v).1 ∧
    RelA n (xTurn n fp fc fl fh P dc cbb kb kc ga sc u v).2.1 (xTurn n fp fc fl fh P dc cbb kb kc ga sc u v).2.2.1 (xTurn n fp fc fl fh P dc cbb kb kc ga sc u v).2.2.2.2.2.2.2.2.2.2.1 (xTurn n fp fc fl fh P dc cbb kb kc ga sc u v).2.2.2.2.2.2.2.2.2.2.2 (xTurn n fp fc fl fh P dc cbb kb kc ga sc u v).2.2.2.2.1 (xTurn n fp fc fl fh P dc cbb kb kc ga sc u v).2.2.2.2.2.1 (xTurn n fp fc fl fh P dc cbb kb kc ga sc u v).2.2.2.2.2.2.1 (xTurn n fp fc fl fh P dc cbb kb kc ga sc u v).2.2.2.2.2.2.2.1 (xTurn n fp fc fl fh P dc cbb kb kc ga sc u v).2.2.2.2.2.2.2.2.1 (xTurn n fp fc fl fh P dc cbb kb kc ga sc u v).2.2.2.2.2.2.2.2.2.1 ct fi sf af (xTurn n fp fc fl fh P dc cbb kb kc ga sc u v).2.2.2.1 (mTurn n mh mk u v).2.1 (mTurn n mh mk u v).2.2 mt mb := by
  have h0 := h
  obtain ⟨hn2, hn, hg, hr, hJ, hp, hk, hw, hga, hsc, hb, ht⟩ := h
  unfold xTurn mTurn
  rcases pair_cases hn u v with ⟨h1, h2⟩ | ⟨h1, h2, a, b, ha, hb', hab, rfl, rfl⟩
  · rw [if_pos h1, if_pos h2]; exact ⟨rfl, h0⟩
  · rw [if_neg h1, if_neg h2, vz_ixC (by omega) (by omega), vz_ixC (by omega) (by omega), nar0, nar1]
    have hh := hg.hasP hn ha hb'
    by_cases c : mh (6 * a + b) = 0
    · rw [if_pos (hh.mpr c), if_pos c]; exact ⟨rfl, h0⟩
    · rw [if_neg (fun q => c (hh.mp q)), if_neg c]
      have hg' := gRel_take hn hg ha hb'
      rw [reach_nI hn hg' ha]
      by_cases c3 : bt (mReach n (upd mh (6 * a + b) 0) (nI a)) b = true
      · rw [if_neg (hHt (by omega) c3), if_pos ((b_at1 _ (by omega)).mpr c3), (put_take hn hg ha hb' c).1, (put_take hn hg ha hb' c).2]; exact ⟨rfl, h0⟩
      · rw [if_pos (hHf (by omega) c3), if_neg (fun q => c3 ((b_at1 _ (by omega)).mp q))]
        have z : mh (6 * b + a) = 0 := (hg.1 a b (by omega) (by omega) c).2.2.2
        have hg2 := gRel_put hn hg' hb' ha (Ne.symm hab) (by rw [pk_us])
        have hno : ¬ dp_Reach (gM n (upd mh (6 * a + b) 0)) a b := fun q => c3 ((mReach_spec hn ha gM_in (fun x y hx hy => ⟨fun z => ⟨hx, hy, z⟩, fun z => z.2.2⟩) b).mpr q)
        have hr' : hasRank n (upd mh (6 * a + b) 0) := rank_sub hr (fun x y g => gM_take g)
        have hr2 : hasRank n (upd (upd mh (6 * a + b) 0) (6 * b + a) 1) := rank_add hr' hno (fun x y g => gM_put (by omega) hn g)
        have hc1 := cnt_upd (mh := mh) (j := 6 * a + b) (by omega) 0
        have hc2 := cnt_upd (mh := upd mh (6 * a + b) 0) (j := 6 * b + a) (by omega) 1
        rw [if_pos rfl] at hc1
        rw [if_neg (by decide)] at hc2
        have hi : iA mh (6 * a + b) = 1 := if_neg c
        have hJ' : jcO (upd (upd mh (6 * a + b) 0) (6 * b + a) 1) n n 0 ≤ 9 := by
          rw [jcO_cnt hn hg2]
          rw [jcO_cnt hn hg] at hJ
          omega
        exact ⟨rfl, RelA_new hn2 hn hg2 hr2 hJ' hk.1 hb ht ct fi sf af⟩
theorem T_seps (h : RelA n fp fc fl fh P dc cbb kb kc ga ct fi sf af sc mh mk mt mb) (mp mx mr : Nat → Int32) :
    (xSeps n fp fc sc).1 = (mSeps n mh mp mx mr).1 ∧ RelA n fp fc fl fh P dc cbb kb kc ga ct fi sf af (xSeps n fp fc sc).2 mh mk mt mb := by
  obtain ⟨hn2, hn, hg, hr, hJ, hp, hk, hw, hga, hsc, hb, ht⟩ := h
  have e := eq_separations hn hg mp mx mr
  have e12 : (xSeps n fp fc (-1)).2 = (xSeps n fp fc (-1)).1 := by
    unfold xSeps
    rw [if_pos rfl, ← nI_0, xSeps_L12_eq hn (-1) (2 ^ n) 0 0 (by omega)]
  by_cases c : sc = -1
  · subst c
    exact ⟨e, hn2, hn, hg, hr, hJ, hp, hk, hw, hga, Or.inr e12, hb, ht⟩
  · have hs := hsc.resolve_left c
    have e3 : xSeps n fp fc sc = (sc, sc) := by unfold xSeps; rw [if_neg c]
    rw [e3]
    exact ⟨by rw [← e]; exact hs, hn2, hn, hg, hr, hJ, hp, hk, hw, hga, Or.inr hs, hb, ht⟩
end CA
end
section
/-! the calls that look at the members -/
section QU
variable {n : Nat} {fp fc fl fh : Nat → Int32} {P : Nat} {dc cbb kb kc ga ct fi sf af sc : Int32} {mh mk mt mb : Nat → Int32}
/-- both sides have gone through the codes -/
theorem both (h : RelA n fp fc fl fh P dc cbb kb kc ga ct fi sf af sc mh mk mt mb) (fq fd mv ml mg : Nat → Int32) (mc : Int32) (Q : Nat) :
    ∃ ct' fi' sf' af' fq' fd' a' v' b' t', kGather n fp fc fq fd fl fh P dc cbb kb kc ga ct fi sf af = (1, ct', fi', sf', af', fq', fd') ∧ GS (memB n mh mk) (2 ^ P) ct' fi' sf' af' ∧
      mGo n mh mk mt mv mb ml mg mc Q = (P, layA ml 0 ((plO mh n n 0).map Prod.fst), layA mg 0 ((plO mh n n 0).map Prod.snd), a', v', t', b') ∧ MS n mh (memB n mh mk) (2 ^ P) a' v' b' ∧
      RelA n fp fc fl fh P dc cbb kb kc 1 ct' fi' sf' af' sc mh mk t' b' := by
  obtain ⟨hn2, hn, hg, hr, hJ, hp, hk, hw, hga, hsc, hb, ht⟩ := h
  obtain ⟨ct', fi', sf', af', fq', fd', e1, g1⟩ := gather_eq (fq := fq) (fd := fd) hn hg hp hk hga
  obtain ⟨a', v', b', t', e2, m2, b2, t2⟩ := go_eq (mk := mk) (mv := mv) (ml := ml) (mg := mg) (mc := mc) (Q := Q) hn hJ hb ht
  rw [← hp.1] at e2 m2
  exact ⟨ct', fi', sf', af', fq', fd', a', v', b', t', e1, g1, e2, m2, hn2, hn, hg, hr, hJ, hp, hk, hw, Or.inr ⟨rfl, g1⟩, hsc, b2, t2⟩
theorem first_ex (h : RelA n fp fc fl fh P dc cbb kb kc ga ct fi sf af sc mh mk mt mb) : ∃ w0, w0 < 2 ^ P ∧ memB n mh mk w0 = true ∧ ∀ w, w < w0 → memB n mh mk w = false := by
  obtain ⟨hn2, hn, hg, hr, hJ, hp, hk, ⟨w, hw, hM⟩, hga, hsc, hb, ht⟩ := h
  obtain ⟨w0, h1, h2⟩ := pk_least (fun w => memB n mh mk w = true) ⟨w, hM⟩
  refine ⟨w0, ?_, h1, fun x hx => by simpa using h2 x hx⟩
  rcases Nat.lt_or_ge w w0 with g | g
  · exact absurd hM (h2 w g)
  · omega
theorem T_members (h : RelA n fp fc fl fh P dc cbb kb kc ga ct fi sf af sc mh mk mt mb) (fq fd mv ml mg : Nat → Int32) (mc : Int32) (Q : Nat) :
    ∃ r ct' fi' sf' af' fq' fd' l' g' a' v' b' t', xMembers n fp fc fq fd fl fh P dc cbb kb kc ga ct fi sf af = (r, 1, ct', fi', sf', af', fq', fd') ∧ mMembers n mh mk mt mv mb ml mg mc Q = (r, P, l', g', a', v', t', b') ∧ RelA n fp fc fl fh P dc cbb kb kc 1 ct' fi' sf' af' sc mh mk t' b' := by
  obtain ⟨ct', fi', sf', af', fq', fd', a', v', b', t', e1, g1, e2, m2, hR⟩ := both h fq fd mv ml mg mc Q
  refine ⟨ct', ct', fi', sf', af', fq', fd', (layA ml 0 ((plO mh n n 0).map Prod.fst)), (layA mg 0 ((plO mh n n 0).map Prod.snd)), a', v', b', t', ?_, ?_, hR⟩
  · unfold xMembers kSize
    rw [e1]
  · unfold mMembers
    rw [e2, g1.1, ← m2.1]
theorem T_loose (h : RelA n fp fc fl fh P dc cbb kb kc ga ct fi sf af sc mh mk mt mb) (fq fd mv ml mg : Nat → Int32) (mc : Int32) (Q : Nat) :
    ∃ r ct' fi' sf' af' fq' fd' l' g' a' v' b' t', xLoose n fp fc fq fd fl fh P dc cbb kb kc ga ct fi sf af = (r, 1, ct', fi', sf', af', fq', fd') ∧ mLoose n mh mk mt mv mb ml mg mc Q = (r, P, l', g', a', v', t', b') ∧ RelA n fp fc fl fh P dc cbb kb kc 1 ct' fi' sf' af' sc mh mk t' b' := by
  obtain ⟨ct', fi', sf', af', fq', fd', a', v', b', t', e1, g1, e2, m2, hR⟩ := both h fq fd mv ml mg mc Q
  have hn : n ≤ 6 := h.2.1
  have hp : pRel n fp fc mh P dc cbb fl fh := hR.2.2.2.2.2.1
  have hPe := hp.1
  have h9 := hp.2.1
  refine ⟨bitCount (sf' &&& (af' ^^^ (-1))), ct', fi', sf', af', fq', fd', layA ml 0 ((plO mh n n 0).map Prod.fst), layA mg 0 ((plO mh n n 0).map Prod.snd), a', v', b', t', ?_, ?_, hR⟩
  · unfold xLoose kLoose
    rw [e1]
  · subst hPe
    unfold mLoose
    rw [e2, ← nI_0]
    show mLoose_L8 n mh mk mt mv mb ml mg mc Q (plO mh n n 0).length 0 (nI 0) = _
    rw [mLoose_L8_eq hn h9 e2 (fun j hj => ⟨lay_get _ ml hj, lay_get2 _ mg hj⟩) m2 _ 0 0 (by omega), Nat.zero_add]
    show _ = (bitCount (sf' &&& (af' ^^^ (-1))), _)
    rw [eq_loose hn h9 g1]
theorem T_turned (h : RelA n fp fc fl fh P dc cbb kb kc ga ct fi sf af sc mh mk mt mb) (fq fd mv ml mg : Nat → Int32) (mc : Int32) (Q : Nat) :
    ∃ r ct' fi' sf' af' fq' fd' l' g' a' v' b' t', xTurned n fp fc fq fd fl fh P dc cbb kb kc ga ct fi sf af = (r, 1, ct', fi', sf', af', fq', fd') ∧ mTurned n mh mk mt mv mb ml mg mc Q = (r, P, l', g', a', v', t', b') ∧ RelA n fp fc fl fh P dc cbb kb kc 1 ct' fi' sf' af' sc mh mk t' b' := by
  obtain ⟨ct', fi', sf', af', fq', fd', a', v', b', t', e1, g1, e2, m2, hR⟩ := both h fq fd mv ml mg mc Q
  have hn : n ≤ 6 := h.2.1
  have hg : gRel n fp fc mh := h.2.2.1
  have hp : pRel n fp fc mh P dc cbb fl fh := hR.2.2.2.2.2.1
  have hPe := hp.1
  have h9 := hp.2.1
  obtain ⟨w0, hw1, hw2, hw3⟩ := first_ex h
  have ef := g1.2.1 w0 hw1 hw2 hw3
  have eb := m2.2.2 w0 hw1 hw2 hw3
  refine ⟨bitCount (fi' ^^^ dc), ct', fi', sf', af', fq', fd', layA ml 0 ((plO mh n n 0).map Prod.fst), layA mg 0 ((plO mh n n 0).map Prod.snd), a', v', b', t', ?_, ?_, hR⟩
  · unfold xTurned kTurned
    rw [e1]
  · unfold mTurned
    rw [← nI_0, mTurned_L8_eq hn e2 n 0 0 (by omega), Nat.zero_add, ef, hp.2.2.1]
    subst hPe
    rw [eq_turned hn hg h9 hw1 eb]
theorem T_first (h : RelA n fp fc fl fh P dc cbb kb kc ga ct fi sf af sc mh mk mt mb) (fq fd mv ml mg : Nat → Int32) (mc : Int32) (Q : Nat) (u v : Int32) :
    ∃ r ga' ct' fi' sf' af' fq' fd' Q' l' g' a' v' b' t', xFirst n fp fc fq fd fl fh P dc cbb kb kc ga ct fi sf af u v = (r, ga', ct', fi', sf', af', fq', fd') ∧ mFirst n mh mk mt mv mb ml mg mc Q u v = (r, Q', l', g', a', v', t', b') ∧ RelA n fp fc fl fh P dc cbb kb kc ga' ct' fi' sf' af' sc mh mk t' b' := by
  obtain ⟨ct', fi', sf', af', fq', fd', a', v', b', t', e1, g1, e2, m2, hR⟩ := both h fq fd mv ml mg mc Q
  have hn : n ≤ 6 := h.2.1
  have hp : pRel n fp fc mh P dc cbb fl fh := hR.2.2.2.2.2.1
  unfold xFirst mFirst
  rcases pair_cases hn u v with ⟨h1, h2⟩ | ⟨h1, h2, a, b, ha, hb, hab, rfl, rfl⟩
  · rw [if_pos h1, if_pos h2]
    exact ⟨0, ga, ct, fi, sf, af, fq, fd, Q, ml, mg, mc, mv, mb, mt, rfl, rfl, h⟩
  · rw [if_neg h1, if_neg h2, e2, vz_ixC (by omega) (by omega)]
    obtain ⟨w0, hw1, hw2, hw3⟩ := first_ex h
    have ef := g1.2.1 w0 hw1 hw2 hw3
    have eb := m2.2.2 w0 hw1 hw2 hw3
    have h512 := vz_p512 hp.2.1
    have e01 := hR.2.2.2.2.2.2.2.2.2.2.1 (6 * a + b)
    have h9 := hp.2.1
    have key : ∃ r, kFirst n fp fc fq fd fl fh P dc cbb kb kc ga ct fi sf af (nI a) (nI b) = (r, 1, ct', fi', sf', af', fq', fd') ∧ (r = 0 ∨ r = 1) ∧ (r = 0 ↔ tW n mh w0 (6 * a + b) = 0) := by
      unfold kFirst
      rw [e1]
      have pk : ∀ (c : Prop) [Decidable c] (hc : c ↔ tW n mh w0 (6 * a + b) = 0), ∃ r, (if c then ((0 : Int32), (1 : Int32), ct', fi', sf', af', fq', fd') else (1, 1, ct', fi', sf', af', fq', fd')) = (r, 1, ct', fi', sf', af', fq', fd') ∧ (r = 0 ∨ r = 1) ∧ (r = 0 ↔ tW n mh w0 (6 * a + b) = 0) := by
        intro c _ hc
        by_cases q : c
        · rw [if_pos q]; exact ⟨0, rfl, Or.inl rfl, ⟨fun _ => hc.mp q, fun _ => rfl⟩⟩
        · rw [if_neg q]; exact ⟨1, rfl, Or.inr rfl, ⟨fun z => absurd z (by decide), fun z => absurd (hc.mpr z) q⟩⟩
      have hPe := hp.1
      by_cases c : nI b ≤ nI a
      · rw [if_pos c]
        rw [nI_leI (by omega) (by omega)] at c
        have hlt : b < a := by omega
        refine pk _ ?_
        have hbo := bitOf_eq hn hp hlt ha
        show kBitOf fl fh P (nI a) (nI b) &&& fi' = 0 ↔ _
        by_cases d : mJoin mh (nI b) (nI a) = 0
        · rw [(hbo.2 d).2]
          exact ⟨fun _ => Classical.byContradiction (fun z => (tW_in hn w0 (by omega) (by omega) z).2.2.2 ((join_sym hn ha hb).mpr d)), fun _ => b_eq0.mpr (fun i => by rw [b_and, b_0, Bool.false_and])⟩
        · obtain ⟨j, hj, e⟩ := pl_find hlt ha d
          have hup := (tW_up hn w0 hj e).2
          rw [(hbo.1 j hj e).2, and_one (by omega), ef, nI_bt (by omega), ← Bool.not_eq_true, hPe, ← hup]
          exact Classical.not_not
      · rw [if_neg c]
        rw [nI_leI (by omega) (by omega)] at c
        have hlt : a < b := by omega
        refine pk _ ?_
        have hbo := bitOf_eq hn hp hlt hb
        show kBitOf fl fh P (nI a) (nI b) &&& (fi' ^^^ (-1)) = 0 ↔ _
        by_cases d : mJoin mh (nI a) (nI b) = 0
        · rw [(hbo.2 d).1]
          exact ⟨fun _ => Classical.byContradiction (fun z => (tW_in hn w0 (by omega) (by omega) z).2.2.2 d), fun _ => b_eq0.mpr (fun i => by rw [b_and, b_0, Bool.false_and])⟩
        · obtain ⟨j, hj, e⟩ := pl_find hlt hb d
          have hup := (tW_up hn w0 hj e).1
          rw [(hbo.1 j hj e).1, and_one (by omega), b_not _ (by omega), Bool.not_eq_false', ef, nI_bt (by omega), hPe]
          constructor
          · intro q
            exact Classical.byContradiction (fun z => by rw [hup.mp z] at q; cases q)
          · intro q
            rcases r : w0.testBit ((plO mh n n 0).length - 1 - j) with _ | _
            · exact absurd q (hup.mpr r)
            · rfl
    obtain ⟨r, k1, k2, k3⟩ := key
    rw [k1]
    have eb1 : b' (6 * a + b) = tW n mh w0 (6 * a + b) := eb _ (by omega)
    refine ⟨b' (6 * a + b), 1, ct', fi', sf', af', fq', fd', P, (layA ml 0 ((plO mh n n 0).map Prod.fst)), (layA mg 0 ((plO mh n n 0).map Prod.snd)), a', v', b', t', ?_, rfl, hR⟩
    show (if r = 0 then ((0 : Int32), (1 : Int32), ct', fi', sf', af', fq', fd') else (1, 1, ct', fi', sf', af', fq', fd')) = _
    by_cases c : r = 0
    · rw [if_pos c, eb1, k3.mp c]
    · rw [if_neg c]
      have : ¬ b' (6 * a + b) = 0 := fun z => c (k3.mpr (by rw [← eb1]; exact z))
      rw [e01.resolve_left this]
theorem T_forget (h : RelA n fp fc fl fh P dc cbb kb kc ga ct fi sf af sc mh mk mt mb) : xForget kb = (mForget mk).1 ∧ RelA n fp fc fl fh P dc cbb 0 0 0 ct fi sf af sc mh (mForget mk).2 mt mb := by
  obtain ⟨hn2, hn, hg, hr, hJ, hp, hk, hw, hga, hsc, hb, ht⟩ := h
  have h9 : (plO mh n n 0).length ≤ 9 := by rw [← hp.1]; exact hp.2.1
  have e2 : (mForget mk).2 = mForgetAll mk := by
    rw [mForget, ← nI_0, mForget_L4_eq 36 0 0 (by omega)]
  rw [e2]
  refine ⟨eq_forget hn h9 hk, hn2, hn, hg, hr, hJ, hp, kRel_none hn hk.1, ?_, Or.inl rfl, hsc, hb, ht⟩
  have := drawn_mem (mk := mForgetAll mk) hn hg hr h9 (fun x hx => forgetAll_0 36 0 mk (by omega) (fun y hy => by omega) x hx)
  exact ⟨_, by rw [hp.1]; exact this.1, decide_eq_true this.2⟩
theorem T_edge (h : RelA n fp fc fl fh P dc cbb kb kc ga ct fi sf af sc mh mk mt mb) (fq fd mv ml mg : Nat → Int32) (mc : Int32) (Q : Nat) (u v : Int32) :
    ∃ r ga' ct' fi' sf' af' fq' fd' Q' l' g' a' v' b' t', xEdge n fp fc fq fd fl fh P dc cbb kb kc ga ct fi sf af u v = (r, ga', ct', fi', sf', af', fq', fd') ∧ mEdge n mh mk mt mv mb ml mg mc Q u v = (r, Q', l', g', a', v', t', b') ∧ RelA n fp fc fl fh P dc cbb kb kc ga' ct' fi' sf' af' sc mh mk t' b' := by
  obtain ⟨ct', fi', sf', af', fq', fd', a', v', b', t', e1, g1, e2, m2, hR⟩ := both h fq fd mv ml mg mc Q
  have hn : n ≤ 6 := h.2.1
  have hg : gRel n fp fc mh := h.2.2.1
  have hp : pRel n fp fc mh P dc cbb fl fh := hR.2.2.2.2.2.1
  have hPe := hp.1
  have h512 := vz_p512 hp.2.1
  unfold xEdge mEdge
  rcases pair_cases hn u v with ⟨h1, h2⟩ | ⟨h1, h2, a, b, ha, hb, hab, rfl, rfl⟩
  · rw [if_pos h1, if_pos h2]
    exact ⟨0, ga, ct, fi, sf, af, fq, fd, Q, ml, mg, mc, mv, mb, mt, rfl, rfl, h⟩
  · rw [if_neg h1, if_neg h2]
    have hj := hg.joinP hn ha hb
    by_cases c1 : mJoin mh (nI a) (nI b) = 0
    · rw [if_pos (hj.mpr c1), if_pos c1]
      exact ⟨0, ga, ct, fi, sf, af, fq, fd, Q, ml, mg, mc, mv, mb, mt, rfl, rfl, h⟩
    · rw [if_neg (fun q => c1 (hj.mp q)), if_neg c1, e2, vz_ixC (by omega) (by omega), vz_ixC (by omega) (by omega)]
      obtain ⟨r1, s1, s2, s3⟩ := some_eq (mk := mk) (fq := fq) (fd := fd) (kb := kb) (kc := kc) (ga := ga) (ct := ct) (fi := fi) (sf := sf) (af := af) hn hp e1 g1 hb ha (Ne.symm hab)
      have e1' : kGather n fp fc fq' fd' fl fh P dc cbb kb kc 1 ct' fi' sf' af' = (1, ct', fi', sf', af', fq', fd') := by
        unfold kGather; rw [if_neg (by decide)]
      obtain ⟨r2, q1, q2, q3⟩ := some_eq (mk := mk) hn hp e1' g1 ha hb hab
      rw [s1]
      have hv1 : v' (6 * a + b) = nI (hvN n mh mk (2 ^ P) a b) := m2.2.1 _ (by omega)
      have hv2 : v' (6 * b + a) = nI (hvN n mh mk (2 ^ P) b a) := m2.2.1 _ (by omega)
      have l1 : hvN n mh mk (2 ^ P) a b ≤ 2 ^ P := cb_le _ _
      have l2 : hvN n mh mk (2 ^ P) b a ≤ 2 ^ P := cb_le _ _
      have l3 := cb_le (memB n mh mk) (2 ^ P)
      have hsum : cb (memB n mh mk) (2 ^ P) = hvN n mh mk (2 ^ P) a b + hvN n mh mk (2 ^ P) b a := by
        rcases Nat.lt_or_ge a b with g | g
        · obtain ⟨j, hj, e⟩ := pl_find g hb c1
          exact hv_sum hn hj e
        · obtain ⟨j, hj, e⟩ := pl_find (show b < a by omega) ha (fun q => c1 ((join_sym hn ha hb).mpr q))
          rw [hv_sum (mk := mk) hn hj e, Nat.add_comm]
      show ∃ r ga' ct'' fi'' sf'' af'' fq'' fd'' Q' l' g' a'' v'' b'' t'', (if r1 = 0 then ((1 : Int32), (1 : Int32), ct', fi', sf', af', fq', fd') else _) = (r, ga', ct'', fi'', sf'', af'', fq'', fd'') ∧ (if v' (6 * a + b) = a' then ((1 : Int32), P, (layA ml 0 ((plO mh n n 0).map Prod.fst)), (layA mg 0 ((plO mh n n 0).map Prod.snd)), a', v', t', b') else (if v' (6 * b + a) = a' then (2, P, (layA ml 0 ((plO mh n n 0).map Prod.fst)), (layA mg 0 ((plO mh n n 0).map Prod.snd)), a', v', t', b') else (3, P, (layA ml 0 ((plO mh n n 0).map Prod.fst)), (layA mg 0 ((plO mh n n 0).map Prod.snd)), a', v', t', b'))) = (r, Q', l', g', a'', v'', t'', b'') ∧ _
      rw [hv1, hv2, m2.1]
      have w1 : nI (hvN n mh mk (2 ^ P) a b) = nI (cb (memB n mh mk) (2 ^ P)) ↔ r1 = 0 := by
        rw [nI_eq (by omega) (by omega), s3]; omega
      by_cases d1 : r1 = 0
      · rw [if_pos d1, if_pos (w1.mpr d1)]
        exact ⟨1, 1, ct', fi', sf', af', fq', fd', P, (layA ml 0 ((plO mh n n 0).map Prod.fst)), (layA mg 0 ((plO mh n n 0).map Prod.snd)), (nI (cb (memB n mh mk) (2 ^ P))), v', b', t', rfl, rfl, hR⟩
      · rw [if_neg d1, if_neg (fun z => d1 (w1.mp z))]
        rw [q1]
        have w2 : nI (hvN n mh mk (2 ^ P) b a) = nI (cb (memB n mh mk) (2 ^ P)) ↔ r2 = 0 := by
          rw [nI_eq (by omega) (by omega), q3]; omega
        by_cases d2 : r2 = 0
        · rw [if_pos (w2.mpr d2)]
          refine ⟨2, 1, ct', fi', sf', af', fq', fd', P, (layA ml 0 ((plO mh n n 0).map Prod.fst)), (layA mg 0 ((plO mh n n 0).map Prod.snd)), (nI (cb (memB n mh mk) (2 ^ P))), v', b', t', ?_, rfl, hR⟩
          show (if r2 = 0 then ((2 : Int32), (1 : Int32), ct', fi', sf', af', fq', fd') else _) = _
          rw [if_pos d2]
        · rw [if_neg (fun z => d2 (w2.mp z))]
          refine ⟨3, 1, ct', fi', sf', af', fq', fd', P, (layA ml 0 ((plO mh n n 0).map Prod.fst)), (layA mg 0 ((plO mh n n 0).map Prod.snd)), (nI (cb (memB n mh mk) (2 ^ P))), v', b', t', ?_, rfl, hR⟩
          show (if r2 = 0 then ((2 : Int32), (1 : Int32), ct', fi', sf', af', fq', fd') else (3, 1, ct', fi', sf', af', fq', fd')) = _
          rw [if_neg d2]
theorem T_know (h : RelA n fp fc fl fh P dc cbb kb kc ga ct fi sf af sc mh mk mt mb) (fq fd mv ml mg : Nat → Int32) (mc : Int32) (Q : Nat) (u v : Int32) :
    ∃ r kb' kc' ga' ct' fi' sf' af' fq' fd' mk' Q' l' g' a' v' b' t', xKnow n fp fc fq fd fl fh P dc cbb kb kc ga ct fi sf af u v = (r, kb', kc', ga', ct', fi', sf', af', fq', fd') ∧ mKnow n mh mk mt mv mb ml mg mc Q u v = (r, mk', Q', l', g', a', v', t', b') ∧ RelA n fp fc fl fh P dc cbb kb' kc' ga' ct' fi' sf' af' sc mh mk' t' b' := by
  obtain ⟨ct', fi', sf', af', fq', fd', a', v', b', t', e1, g1, e2, m2, hR⟩ := both h fq fd mv ml mg mc Q
  have hn : n ≤ 6 := h.2.1
  have hp : pRel n fp fc mh P dc cbb fl fh := hR.2.2.2.2.2.1
  have hk : kRel n mh mk kb kc := hR.2.2.2.2.2.2.1
  have hPe := hp.1
  have h9 := hp.2.1
  have h512 := vz_p512 hp.2.1
  unfold xKnow mKnow
  rcases pair_cases hn u v with ⟨h1, h2⟩ | ⟨h1, h2, a, b, ha, hb, hab, rfl, rfl⟩
  · rw [if_pos h1, if_pos h2]
    exact ⟨0, kb, kc, ga, ct, fi, sf, af, fq, fd, mk, Q, ml, mg, mc, mv, mb, mt, rfl, rfl, h⟩
  · rw [if_neg h1, if_neg h2, e2, vz_ixC (by omega) (by omega), nar1]
    obtain ⟨r1, s1, s2, s3⟩ := some_eq (mk := mk) (fq := fq) (fd := fd) (kb := kb) (kc := kc) (ga := ga) (ct := ct) (fi := fi) (sf := sf) (af := af) hn hp e1 g1 ha hb hab
    have hv1 : v' (6 * a + b) = nI (hvN n mh mk (2 ^ P) a b) := m2.2.1 _ (by omega)
    have l1 : hvN n mh mk (2 ^ P) a b ≤ 2 ^ P := cb_le _ _
    have w1 : v' (6 * a + b) = 0 ↔ r1 = 0 := by
      rw [hv1, ← nI_0, nI_eq (by omega) (by omega), nI_0, s3]
    rw [s1]
    show ∃ r kb' kc' ga' ct'' fi'' sf'' af'' fq'' fd'' mk' Q' l' g' a'' v'' b'' t'', (if r1 = 0 then ((0 : Int32), kb, kc, (1 : Int32), ct', fi', sf', af', fq', fd') else (1, (kFix fl fh P kb kc (nI a) (nI b)).1, (kFix fl fh P kb kc (nI a) (nI b)).2, 0, ct', fi', sf', af', fq', fd')) = (r, kb', kc', ga', ct'', fi'', sf'', af'', fq'', fd'') ∧ (if v' (6 * a + b) = 0 then ((0 : Int32), mk, P, (layA ml 0 ((plO mh n n 0).map Prod.fst)), (layA mg 0 ((plO mh n n 0).map Prod.snd)), a', v', t', b') else (1, upd mk (6 * a + b) 1, P, (layA ml 0 ((plO mh n n 0).map Prod.fst)), (layA mg 0 ((plO mh n n 0).map Prod.snd)), a', v', t', b')) = (r, mk', Q', l', g', a'', v'', t'', b'') ∧ _
    by_cases d1 : r1 = 0
    · rw [if_pos d1, if_pos (w1.mpr d1)]
      exact ⟨0, kb, kc, 1, ct', fi', sf', af', fq', fd', mk, P, (layA ml 0 ((plO mh n n 0).map Prod.fst)), (layA mg 0 ((plO mh n n 0).map Prod.snd)), a', v', b', t', rfl, rfl, hR⟩
    · rw [if_neg d1, if_neg (fun z => d1 (w1.mp z))]
      refine ⟨1, (kFix fl fh P kb kc (nI a) (nI b)).1, (kFix fl fh P kb kc (nI a) (nI b)).2, 0, ct', fi', sf', af', fq', fd', upd mk (6 * a + b) 1, P, (layA ml 0 ((plO mh n n 0).map Prod.fst)), (layA mg 0 ((plO mh n n 0).map Prod.snd)), a', v', b', t', rfl, rfl, ?_⟩
      obtain ⟨w, hw1, hw2, hw3⟩ : ∃ w, w < 2 ^ P ∧ memB n mh mk w = true ∧ ¬ tW n mh w (6 * a + b) = 0 := Classical.byContradiction (fun hno => d1 (s3.mpr (hv_0.mpr (fun w q1 q2 => Classical.byContradiction (fun z => hno ⟨w, q1, q2, z⟩)))))
      have hmem := (mMember_eq hn).mp (of_decide_eq_true hw2)
      have hj := (tW_in hn w (by omega) (by omega) hw3).2.2.2
      -- the pair
      obtain ⟨x, y, j0, hxy, hj0, e0, hor⟩ : ∃ x y j0, x < y ∧ j0 < (plO mh n n 0).length ∧ (plO mh n n 0).getD j0 (0, 0) = (x, y) ∧ ((x = a ∧ y = b) ∨ (x = b ∧ y = a)) := by
        rcases Nat.lt_or_ge a b with g | g
        · obtain ⟨j, q1, q2⟩ := pl_find g hb hj
          exact ⟨a, b, j, g, q1, q2, Or.inl ⟨rfl, rfl⟩⟩
        · obtain ⟨j, q1, q2⟩ := pl_find (show b < a by omega) ha (fun q => hj ((join_sym hn ha hb).mpr q))
          exact ⟨b, a, j, by omega, q1, q2, Or.inr ⟨rfl, rfl⟩⟩
      have hup := tW_up hn w hj0 e0
      have hm0 : mk (6 * b + a) = 0 := Classical.byContradiction (fun z => by
        have zT := hmem.2.2 (6 * b + a) (by omega) z
        rcases hor with ⟨rfl, rfl⟩ | ⟨rfl, rfl⟩
        · have q1 := hup.1.mp hw3
          rw [hup.2.mp zT] at q1; cases q1
        · have q1 := hup.2.mp hw3
          rw [hup.1.mp zT] at q1; cases q1)
      have hxn : x < n ∧ y < n := by rcases hor with ⟨rfl, rfl⟩ | ⟨rfl, rfl⟩ <;> exact ⟨by assumption, by assumption⟩
      have hbit : kBitOf fl fh P (nI a) (nI b) = (1 : Int32) <<< (nI (P - 1 - j0) &&& 31) := by
        have := (bitOf_eq hn hp hxy hxn.2).1 j0 hj0 e0
        rcases hor with ⟨rfl, rfl⟩ | ⟨rfl, rfl⟩
        · exact this.1
        · exact this.2
      have hbt : ∀ (z : Int32) (t : Nat), bt (z ||| kBitOf fl fh P (nI a) (nI b)) t = true ↔ bt z t = true ∨ t = P - 1 - j0 := fun z t => by
        rw [b_or, Bool.or_eq_true, hbit, b_one (by omega), decide_eq_true_iff]
      have hkf1 : (kFix fl fh P kb kc (nI a) (nI b)).1 = kb ||| kBitOf fl fh P (nI a) (nI b) := by
        unfold kFix; split <;> rfl
      have hkf2 : ∀ t, bt (kFix fl fh P kb kc (nI a) (nI b)).2 t = true ↔ bt kc t = true ∨ (b < a ∧ t = P - 1 - j0) := fun t => by
        unfold kFix
        by_cases c : nI a ≤ nI b
        · rw [if_pos c]
          rw [nI_leI (by omega) (by omega)] at c
          exact ⟨Or.inl, fun q => q.elim id (fun z => by omega)⟩
        · rw [if_neg c]
          rw [nI_leI (by omega) (by omega)] at c
          show bt (kc ||| kBitOf fl fh P (nI a) (nI b)) t = true ↔ _
          rw [hbt]
          exact ⟨fun q => q.imp id (fun z => ⟨by omega, z⟩), fun q => q.imp id (fun z => z.2)⟩
      have hupd : ∀ p q, p < 6 → q < 6 → (¬ upd mk (6 * a + b) 1 (6 * p + q) = 0 ↔ ¬ mk (6 * p + q) = 0 ∨ (p = a ∧ q = b)) := fun p q hp1 hq1 => by
        by_cases c : p = a ∧ q = b
        · rw [c.1, c.2, pk_us]
          exact ⟨fun _ => Or.inr ⟨rfl, rfl⟩, fun _ => by decide⟩
        · rw [pk_un (by omega)]
          exact ⟨Or.inl, fun z => z.elim id (fun z => absurd z c)⟩
      have hk' : kRel n mh (upd mk (6 * a + b) 1) (kFix fl fh P kb kc (nI a) (nI b)).1 (kFix fl fh P kb kc (nI a) (nI b)).2 := by
        refine ⟨is01_upd hk.1 (Or.inr rfl), fun p q hp1 hq1 hne => ?_, fun j p q hjj ej => ?_, fun t ht => ?_⟩
        · by_cases c : p = a ∧ q = b
          · obtain ⟨rfl, rfl⟩ := c
            exact ⟨ha, hb, hab, hj, by rw [pk_un (by omega)]; exact hm0⟩
          · have hne2 := ((hupd p q hp1 hq1).mp hne).resolve_right c
            obtain ⟨k1, k2, k3, k4, k5⟩ := hk.2.1 p q hp1 hq1 hne2
            refine ⟨k1, k2, k3, k4, Classical.byContradiction (fun z => ?_)⟩
            rcases (hupd q p hq1 hp1).mp z with z | z
            · exact z k5
            · rw [z.1, z.2] at hne2; exact hne2 hm0
        · have hpm := pl_mem hjj
          rw [ej] at hpm
          have hp1 : p < q := hpm.1
          have hp2 : q < n := hpm.2.1
          have ho := hk.2.2.1 j p q hjj ej
          have ejj : (plO mh n n 0).length - 1 - j = P - 1 - j0 ↔ ((p = a ∧ q = b) ∨ (q = a ∧ p = b)) := by
            rw [hPe]
            constructor
            · intro z
              have : j = j0 := by omega
              rw [this, e0] at ej
              have e3 : x = p := congrArg Prod.fst ej
              have e4 : y = q := congrArg Prod.snd ej
              rcases hor with ⟨r1, r2⟩ | ⟨r1, r2⟩
              · exact Or.inl ⟨by omega, by omega⟩
              · exact Or.inr ⟨by omega, by omega⟩
            · intro z
              have : j = j0 := pl_inj hjj hj0 (by
                rw [ej, e0]
                rcases hor with ⟨r1, r2⟩ | ⟨r1, r2⟩ <;> rcases z with ⟨z1, z2⟩ | ⟨z1, z2⟩
                · rw [z1, z2, r1, r2]
                · omega
                · omega
                · rw [z1, z2, r1, r2])
              rw [this]
          constructor
          · rw [hkf1, hbt, ho.1, hupd p q (by omega) (by omega), hupd q p (by omega) (by omega), ejj]
            constructor
            · rintro ((z | z) | (z | z))
              · exact Or.inl (Or.inl z)
              · exact Or.inr (Or.inl z)
              · exact Or.inl (Or.inr z)
              · exact Or.inr (Or.inr z)
            · rintro ((z | z) | (z | z))
              · exact Or.inl (Or.inl z)
              · exact Or.inr (Or.inl z)
              · exact Or.inl (Or.inr z)
              · exact Or.inr (Or.inr z)
          · rw [hkf2, ho.2, hupd q p (by omega) (by omega), ejj]
            refine or_congr_right ⟨fun z => ?_, fun z => ⟨by omega, Or.inr z⟩⟩
            rcases z.2 with z2 | z2
            · omega
            · exact z2
        · have old := hk.2.2.2 t ht
          constructor
          · rcases q : bt (kFix fl fh P kb kc (nI a) (nI b)).1 t with _ | _
            · rfl
            · rw [hkf1, hbt, old.1] at q
              rcases q with q | q
              · cases q
              · omega
          · rcases q : bt (kFix fl fh P kb kc (nI a) (nI b)).2 t with _ | _
            · rfl
            · rw [hkf2, old.2] at q
              rcases q with q | q
              · cases q
              · omega
      obtain ⟨hn2, hn, hg, hr, hJ, hp, -, -, -, hsc, hb2, ht2⟩ := hR
      refine ⟨hn2, hn, hg, hr, hJ, hp, hk', ⟨w, hw1, decide_eq_true ((mMember_eq hn).mpr ⟨hmem.1, hmem.2.1, fun z hz hne => ?_⟩)⟩, Or.inl rfl, hsc, hb2, ht2⟩
      by_cases c : z = 6 * a + b
      · rw [c]; exact hw3
      · rw [pk_un c] at hne
        exact hmem.2.2 z hz hne
end QU
end
