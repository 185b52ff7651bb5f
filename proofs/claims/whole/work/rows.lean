section
-- ===== PART A: goes FIRST, ahead of the names: the tables' words, and 'selects' of the private methods out of them =====
/-- a private method of a class that the tables say can be made, by its rows of tables_1 -/
def lw_okq (q : MethodName × Nat) : Prop := (q.1.cls ≠ "java/lang/invoke/MethodHandle" ∧ q.1.cls ≠ "java/lang/invoke/VarHandle") ∧ Cond.instantiable q.1.cls q.2 ∈ tables_1 ∧ Cond.privateMethod q.1 ∈ tables_1 ∧ Cond.instanceMethod q.1 ∈ tables_1
theorem lw_p0 : lw_okq (⟨"ArrowClasses", "isPair", "(II)Z"⟩, 4) := ⟨⟨by decide +kernel, by decide +kernel⟩, List.mem_of_getElem? (i := 8) (by decide +kernel), List.mem_of_getElem? (i := 103) (by decide +kernel), List.mem_of_getElem? (i := 104) (by decide +kernel)⟩
theorem lw_p1 : lw_okq (⟨"ArrowClasses", "isNode", "(I)Z"⟩, 4) := ⟨⟨by decide +kernel, by decide +kernel⟩, List.mem_of_getElem? (i := 8) (by decide +kernel), List.mem_of_getElem? (i := 107) (by decide +kernel), List.mem_of_getElem? (i := 108) (by decide +kernel)⟩
theorem lw_p2 : lw_okq (⟨"ArrowClasses", "noteChange", "()V"⟩, 4) := ⟨⟨by decide +kernel, by decide +kernel⟩, List.mem_of_getElem? (i := 8) (by decide +kernel), List.mem_of_getElem? (i := 141) (by decide +kernel), List.mem_of_getElem? (i := 142) (by decide +kernel)⟩
theorem lw_p3 : lw_okq (⟨"ArrowClasses$Kindred", "listPair", "(II)V"⟩, 14) := ⟨⟨by decide +kernel, by decide +kernel⟩, List.mem_of_getElem? (i := 16) (by decide +kernel), List.mem_of_getElem? (i := 150) (by decide +kernel), List.mem_of_getElem? (i := 151) (by decide +kernel)⟩
theorem lw_p4 : lw_okq (⟨"ArrowClasses", "separationsBy", "(I)I"⟩, 4) := ⟨⟨by decide +kernel, by decide +kernel⟩, List.mem_of_getElem? (i := 8) (by decide +kernel), List.mem_of_getElem? (i := 216) (by decide +kernel), List.mem_of_getElem? (i := 217) (by decide +kernel)⟩
theorem lw_p5 : lw_okq (⟨"ArrowClasses$Kindred", "gather", "()V"⟩, 14) := ⟨⟨by decide +kernel, by decide +kernel⟩, List.mem_of_getElem? (i := 16) (by decide +kernel), List.mem_of_getElem? (i := 228) (by decide +kernel), List.mem_of_getElem? (i := 229) (by decide +kernel)⟩
theorem lw_p6 : lw_okq (⟨"ArrowClasses$Kindred", "isMember", "(I)Z"⟩, 14) := ⟨⟨by decide +kernel, by decide +kernel⟩, List.mem_of_getElem? (i := 16) (by decide +kernel), List.mem_of_getElem? (i := 232) (by decide +kernel), List.mem_of_getElem? (i := 233) (by decide +kernel)⟩
theorem lw_p7 : lw_okq (⟨"ArrowClasses$Kindred", "bitAt", "(I)I"⟩, 14) := ⟨⟨by decide +kernel, by decide +kernel⟩, List.mem_of_getElem? (i := 16) (by decide +kernel), List.mem_of_getElem? (i := 240) (by decide +kernel), List.mem_of_getElem? (i := 241) (by decide +kernel)⟩
theorem lw_p8 : lw_okq (⟨"ArrowClasses$Kindred", "bitOf", "(II)I"⟩, 14) := ⟨⟨by decide +kernel, by decide +kernel⟩, List.mem_of_getElem? (i := 16) (by decide +kernel), List.mem_of_getElem? (i := 254) (by decide +kernel), List.mem_of_getElem? (i := 255) (by decide +kernel)⟩
theorem lw_p9 : lw_okq (⟨"ArrowClassesModel", "areNodes", "(II)Z"⟩, 13) := ⟨⟨by decide +kernel, by decide +kernel⟩, List.mem_of_getElem? (i := 316) (by decide +kernel), List.mem_of_getElem? (i := 367) (by decide +kernel), List.mem_of_getElem? (i := 368) (by decide +kernel)⟩
theorem lw_p10 : lw_okq (⟨"ArrowClassesModel", "isNode", "(I)Z"⟩, 13) := ⟨⟨by decide +kernel, by decide +kernel⟩, List.mem_of_getElem? (i := 316) (by decide +kernel), List.mem_of_getElem? (i := 371) (by decide +kernel), List.mem_of_getElem? (i := 372) (by decide +kernel)⟩
theorem lw_p11 : lw_okq (⟨"ArrowClassesModel", "joined", "(II)Z"⟩, 13) := ⟨⟨by decide +kernel, by decide +kernel⟩, List.mem_of_getElem? (i := 316) (by decide +kernel), List.mem_of_getElem? (i := 375) (by decide +kernel), List.mem_of_getElem? (i := 376) (by decide +kernel)⟩
theorem lw_p12 : lw_okq (⟨"ArrowClassesModel", "arrows", "()I"⟩, 13) := ⟨⟨by decide +kernel, by decide +kernel⟩, List.mem_of_getElem? (i := 316) (by decide +kernel), List.mem_of_getElem? (i := 379) (by decide +kernel), List.mem_of_getElem? (i := 380) (by decide +kernel)⟩
theorem lw_p13 : lw_okq (⟨"ArrowClassesModel", "reach", "(I)I"⟩, 13) := ⟨⟨by decide +kernel, by decide +kernel⟩, List.mem_of_getElem? (i := 316) (by decide +kernel), List.mem_of_getElem? (i := 383) (by decide +kernel), List.mem_of_getElem? (i := 384) (by decide +kernel)⟩
theorem lw_p14 : lw_okq (⟨"ArrowClassesModel", "forgetAll", "()V"⟩, 13) := ⟨⟨by decide +kernel, by decide +kernel⟩, List.mem_of_getElem? (i := 316) (by decide +kernel), List.mem_of_getElem? (i := 387) (by decide +kernel), List.mem_of_getElem? (i := 388) (by decide +kernel)⟩
theorem lw_p15 : lw_okq (⟨"ArrowClassesModel", "allBlocked", "(III)Z"⟩, 13) := ⟨⟨by decide +kernel, by decide +kernel⟩, List.mem_of_getElem? (i := 316) (by decide +kernel), List.mem_of_getElem? (i := 432) (by decide +kernel), List.mem_of_getElem? (i := 433) (by decide +kernel)⟩
def lw_privs_1 : List (MethodName × Nat) := [(⟨"ArrowClasses", "isPair", "(II)Z"⟩, 4), (⟨"ArrowClasses", "isNode", "(I)Z"⟩, 4), (⟨"ArrowClasses", "noteChange", "()V"⟩, 4), (⟨"ArrowClasses$Kindred", "listPair", "(II)V"⟩, 14), (⟨"ArrowClasses", "separationsBy", "(I)I"⟩, 4), (⟨"ArrowClasses$Kindred", "gather", "()V"⟩, 14), (⟨"ArrowClasses$Kindred", "isMember", "(I)Z"⟩, 14), (⟨"ArrowClasses$Kindred", "bitAt", "(I)I"⟩, 14), (⟨"ArrowClasses$Kindred", "bitOf", "(II)I"⟩, 14), (⟨"ArrowClassesModel", "areNodes", "(II)Z"⟩, 13), (⟨"ArrowClassesModel", "isNode", "(I)Z"⟩, 13), (⟨"ArrowClassesModel", "joined", "(II)Z"⟩, 13), (⟨"ArrowClassesModel", "arrows", "()I"⟩, 13), (⟨"ArrowClassesModel", "reach", "(I)I"⟩, 13), (⟨"ArrowClassesModel", "forgetAll", "()V"⟩, 13), (⟨"ArrowClassesModel", "allBlocked", "(III)Z"⟩, 13)]
theorem lw_r1 : ∀ q ∈ lw_privs_1, lw_okq q := List.forall_mem_cons.mpr ⟨lw_p0, List.forall_mem_cons.mpr ⟨lw_p1, List.forall_mem_cons.mpr ⟨lw_p2, List.forall_mem_cons.mpr ⟨lw_p3, List.forall_mem_cons.mpr ⟨lw_p4, List.forall_mem_cons.mpr ⟨lw_p5, List.forall_mem_cons.mpr ⟨lw_p6, List.forall_mem_cons.mpr ⟨lw_p7, List.forall_mem_cons.mpr ⟨lw_p8, List.forall_mem_cons.mpr ⟨lw_p9, List.forall_mem_cons.mpr ⟨lw_p10, List.forall_mem_cons.mpr ⟨lw_p11, List.forall_mem_cons.mpr ⟨lw_p12, List.forall_mem_cons.mpr ⟨lw_p13, List.forall_mem_cons.mpr ⟨lw_p14, List.forall_mem_cons.mpr ⟨lw_p15, fun _ h => absurd h List.not_mem_nil⟩⟩⟩⟩⟩⟩⟩⟩⟩⟩⟩⟩⟩⟩⟩⟩
theorem lw_p16 : lw_okq (⟨"ArrowClassesModel", "blocked", "(II)Z"⟩, 13) := ⟨⟨by decide +kernel, by decide +kernel⟩, List.mem_of_getElem? (i := 316) (by decide +kernel), List.mem_of_getElem? (i := 436) (by decide +kernel), List.mem_of_getElem? (i := 437) (by decide +kernel)⟩
theorem lw_p17 : lw_okq (⟨"ArrowClassesModel", "onPath", "(II)Z"⟩, 13) := ⟨⟨by decide +kernel, by decide +kernel⟩, List.mem_of_getElem? (i := 316) (by decide +kernel), List.mem_of_getElem? (i := 440) (by decide +kernel), List.mem_of_getElem? (i := 441) (by decide +kernel)⟩
theorem lw_p18 : lw_okq (⟨"ArrowClassesModel", "goThrough", "()V"⟩, 13) := ⟨⟨by decide +kernel, by decide +kernel⟩, List.mem_of_getElem? (i := 316) (by decide +kernel), List.mem_of_getElem? (i := 460) (by decide +kernel), List.mem_of_getElem? (i := 461) (by decide +kernel)⟩
theorem lw_p19 : lw_okq (⟨"ArrowClassesModel", "findPairs", "()V"⟩, 13) := ⟨⟨by decide +kernel, by decide +kernel⟩, List.mem_of_getElem? (i := 316) (by decide +kernel), List.mem_of_getElem? (i := 464) (by decide +kernel), List.mem_of_getElem? (i := 465) (by decide +kernel)⟩
theorem lw_p20 : lw_okq (⟨"ArrowClassesModel", "direct", "(I)V"⟩, 13) := ⟨⟨by decide +kernel, by decide +kernel⟩, List.mem_of_getElem? (i := 316) (by decide +kernel), List.mem_of_getElem? (i := 468) (by decide +kernel), List.mem_of_getElem? (i := 469) (by decide +kernel)⟩
theorem lw_p21 : lw_okq (⟨"ArrowClassesModel", "isMember", "()Z"⟩, 13) := ⟨⟨by decide +kernel, by decide +kernel⟩, List.mem_of_getElem? (i := 316) (by decide +kernel), List.mem_of_getElem? (i := 472) (by decide +kernel), List.mem_of_getElem? (i := 473) (by decide +kernel)⟩
theorem lw_p22 : lw_okq (⟨"ArrowClassesModel", "hasRing", "()Z"⟩, 13) := ⟨⟨by decide +kernel, by decide +kernel⟩, List.mem_of_getElem? (i := 316) (by decide +kernel), List.mem_of_getElem? (i := 476) (by decide +kernel), List.mem_of_getElem? (i := 477) (by decide +kernel)⟩
def lw_privs_2 : List (MethodName × Nat) := [(⟨"ArrowClassesModel", "blocked", "(II)Z"⟩, 13), (⟨"ArrowClassesModel", "onPath", "(II)Z"⟩, 13), (⟨"ArrowClassesModel", "goThrough", "()V"⟩, 13), (⟨"ArrowClassesModel", "findPairs", "()V"⟩, 13), (⟨"ArrowClassesModel", "direct", "(I)V"⟩, 13), (⟨"ArrowClassesModel", "isMember", "()Z"⟩, 13), (⟨"ArrowClassesModel", "hasRing", "()Z"⟩, 13)]
theorem lw_r2 : ∀ q ∈ lw_privs_2, lw_okq q := List.forall_mem_cons.mpr ⟨lw_p16, List.forall_mem_cons.mpr ⟨lw_p17, List.forall_mem_cons.mpr ⟨lw_p18, List.forall_mem_cons.mpr ⟨lw_p19, List.forall_mem_cons.mpr ⟨lw_p20, List.forall_mem_cons.mpr ⟨lw_p21, List.forall_mem_cons.mpr ⟨lw_p22, fun _ h => absurd h List.not_mem_nil⟩⟩⟩⟩⟩⟩⟩
def lw_privs : List (MethodName × Nat) := lw_privs_1 ++ (lw_privs_2)
def lw_tbl : List Cond := k2_sels lw_privs ++ tables_1
theorem lw_privs_ok : ∀ q ∈ lw_privs, lw_okq q := by
  show ∀ q ∈ lw_privs_1 ++ (lw_privs_2), lw_okq q
  exact List.forall_mem_append.mpr ⟨lw_r1, lw_r2⟩
end
section
/-! names: classes, fields, methods; by program out of the Statement and javap -/
theorem goodIn_sub2 {big ws : List Cond} (hm : ∀ {w : Cond}, w ∈ ws → w ∈ big) (h : ws.all goodWord = true) : GoodIn big ws := fun w hw => ⟨hm hw, good_of_word (List.all_eq_true.mp h w hw)⟩
theorem goodIn_app2 {big a b : List Cond} (ha : GoodIn big a) (hb : GoodIn big b) : GoodIn big (a ++ b) := fun w h => (List.mem_append.mp h).elim (ha w) (hb w)
theorem goodIn_c {big ws : List Cond} {w : Cond} (h : w ∈ big) (hg : goodWord w = true) (hw : GoodIn big ws) : GoodIn big (w :: ws) := fun v hv => by
  rcases List.mem_cons.mp hv with e | e
  · rw [e]; exact ⟨h, good_of_word hg⟩
  · exact hw v e
def TG : u_T := fun k => match k with
  | 0 => ("ArrowClasses$Graph", "nodes", "I", true)
  | 1 => ("ArrowClasses$Graph", "parents", "[I", true)
  | _ => ("ArrowClasses$Graph", "children", "[I", true)
def tyG : Nat → FieldType := fun k => match k with
  | 0 => .int
  | 1 => .array .int
  | _ => .array .int
theorem nmG : ∀ a, a < 3 → ∀ b, b < 3 → a ≠ b → (TG a).2.1 ≠ (TG b).2.1 := by decide +kernel
theorem okG : ∀ k, k < 3 → parseFieldDescriptor (TG k).2.2.1 = some (tyG k) := by decide +kernel
def TK : u_T := fun k => match k with
  | 0 => ("ArrowClasses$Kindred", "drawn", "LArrowClasses$Graph;", true)
  | 1 => ("ArrowClasses$Kindred", "tried", "LArrowClasses$Graph;", true)
  | 2 => ("ArrowClasses$Kindred", "lows", "[I", true)
  | 3 => ("ArrowClasses$Kindred", "highs", "[I", true)
  | 4 => ("ArrowClasses$Kindred", "pairs", "I", false)
  | 5 => ("ArrowClasses$Kindred", "drawnCode", "I", false)
  | 6 => ("ArrowClasses$Kindred", "collidingBits", "I", false)
  | 7 => ("ArrowClasses$Kindred", "knownBits", "I", false)
  | 8 => ("ArrowClasses$Kindred", "knownCode", "I", false)
  | 9 => ("ArrowClasses$Kindred", "gathered", "Z", false)
  | 10 => ("ArrowClasses$Kindred", "count", "I", false)
  | 11 => ("ArrowClasses$Kindred", "firstCode", "I", false)
  | 12 => ("ArrowClasses$Kindred", "someFalling", "I", false)
  | _ => ("ArrowClasses$Kindred", "allFalling", "I", false)
def tyK : Nat → FieldType := fun k => match k with
  | 0 => .object "ArrowClasses$Graph"
  | 1 => .object "ArrowClasses$Graph"
  | 2 => .array .int
  | 3 => .array .int
  | 4 => .int
  | 5 => .int
  | 6 => .int
  | 7 => .int
  | 8 => .int
  | 9 => .boolean
  | 10 => .int
  | 11 => .int
  | 12 => .int
  | _ => .int
theorem nmK : ∀ a, a < 14 → ∀ b, b < 14 → a ≠ b → (TK a).2.1 ≠ (TK b).2.1 := by decide +kernel
theorem okK : ∀ k, k < 14 → parseFieldDescriptor (TK k).2.2.1 = some (tyK k) := by decide +kernel
def TA : u_T := fun k => match k with
  | 0 => ("ArrowClasses", "nodes", "I", true)
  | 1 => ("ArrowClasses", "kindred", "LArrowClasses$Kindred;", true)
  | 2 => ("ArrowClasses", "graph", "LArrowClasses$Graph;", true)
  | _ => ("ArrowClasses", "separationCount", "I", false)
def tyA : Nat → FieldType := fun k => match k with
  | 0 => .int
  | 1 => .object "ArrowClasses$Kindred"
  | 2 => .object "ArrowClasses$Graph"
  | _ => .int
theorem nmA : ∀ a, a < 4 → ∀ b, b < 4 → a ≠ b → (TA a).2.1 ≠ (TA b).2.1 := by decide +kernel
theorem okA : ∀ k, k < 4 → parseFieldDescriptor (TA k).2.2.1 = some (tyA k) := by decide +kernel
def TM : u_T := fun k => match k with
  | 0 => ("ArrowClassesModel", "nodes", "I", false)
  | 1 => ("ArrowClassesModel", "has", "[Z", false)
  | 2 => ("ArrowClassesModel", "known", "[Z", false)
  | 3 => ("ArrowClassesModel", "tried", "[Z", false)
  | 4 => ("ArrowClassesModel", "count", "I", false)
  | 5 => ("ArrowClassesModel", "having", "[I", false)
  | 6 => ("ArrowClassesModel", "best", "[Z", false)
  | 7 => ("ArrowClassesModel", "pairs", "I", false)
  | 8 => ("ArrowClassesModel", "low", "[I", false)
  | 9 => ("ArrowClassesModel", "high", "[I", false)
  | 10 => ("ArrowClassesModel", "path", "[I", false)
  | 11 => ("ArrowClassesModel", "next", "[I", false)
  | _ => ("ArrowClassesModel", "reaches", "[I", false)
def tyM : Nat → FieldType := fun k => match k with
  | 0 => .int
  | 1 => .array .boolean
  | 2 => .array .boolean
  | 3 => .array .boolean
  | 4 => .int
  | 5 => .array .int
  | 6 => .array .boolean
  | 7 => .int
  | 8 => .array .int
  | 9 => .array .int
  | 10 => .array .int
  | 11 => .array .int
  | _ => .array .int
theorem nmM : ∀ a, a < 13 → ∀ b, b < 13 → a ≠ b → (TM a).2.1 ≠ (TM b).2.1 := by decide +kernel
theorem okM : ∀ k, k < 13 → parseFieldDescriptor (TM k).2.2.1 = some (tyM k) := by decide +kernel
abbrev vwCl : List vw_C := [("ArrowClasses$Graph", TG, 3), ("ArrowClasses$Kindred", TK, 14), ("ArrowClasses", TA, 4), ("ArrowClassesModel", TM, 13)]
/-- the words of the tables that every method takes -/
def vzB_0 : List Cond := [.initialized "ArrowClassesLaw", .initialized "ArrowClasses", .initialized "ArrowClasses$Kindred", .initialized "ArrowClasses$Graph", .initialized "ArrowClassesModel", .initialized "java/lang/Integer", .initialized "java/lang/Math", .classLink "ArrowClassesLaw" 7 "ArrowClasses", .instantiable "ArrowClasses" 4, .methodLink "ArrowClassesLaw" 15 ⟨"ArrowClasses", "<init>", "(I)V"⟩, .instanceMethod ⟨"ArrowClasses", "<init>", "(I)V"⟩, .code ⟨"ArrowClasses", "<init>", "(I)V"⟩ prog_1_method_1_code 2 none, .methodLink "ArrowClasses" 1 ⟨"java/lang/Object", "<init>", "()V"⟩, .instanceMethod ⟨"java/lang/Object", "<init>", "()V"⟩, .code ⟨"java/lang/Object", "<init>", "()V"⟩ object_method_1_code 1 none, .classLink "ArrowClasses" 13 "ArrowClasses$Kindred", .instantiable "ArrowClasses$Kindred" 14, .methodLink "ArrowClasses" 15 ⟨"ArrowClasses$Kindred", "<init>", "(I)V"⟩, .instanceMethod ⟨"ArrowClasses$Kindred", "<init>", "(I)V"⟩, .code ⟨"ArrowClasses$Kindred", "<init>", "(I)V"⟩ prog_3_method_1_code 2 none, .methodLink "ArrowClasses$Kindred" 3 ⟨"java/lang/Object", "<init>", "()V"⟩, .classLink "ArrowClasses$Kindred" 9 "ArrowClasses$Graph", .instantiable "ArrowClasses$Graph" 3, .methodLink "ArrowClasses$Kindred" 11 ⟨"ArrowClasses$Graph", "<init>", "(I)V"⟩, .instanceMethod ⟨"ArrowClasses$Graph", "<init>", "(I)V"⟩, .code ⟨"ArrowClasses$Graph", "<init>", "(I)V"⟩ prog_2_method_1_code 2 none, .methodLink "ArrowClasses$Graph" 1 ⟨"java/lang/Object", "<init>", "()V"⟩, .fieldLink "ArrowClasses$Graph" 7 "ArrowClasses$Graph" "nodes" "I", .fieldLink "ArrowClasses$Kindred" 50 "ArrowClasses$Graph" "nodes" "I", .fieldLink "ArrowClasses$Graph" 13 "ArrowClasses$Graph" "parents" "[I", .fieldLink "ArrowClasses" 69 "ArrowClasses$Graph" "parents" "[I", .fieldLink "ArrowClasses$Graph" 17 "ArrowClasses$Graph" "children" "[I", .fieldLink "ArrowClasses" 73 "ArrowClasses$Graph" "children" "[I", .laysFinal "ArrowClasses$Graph" "ArrowClasses$Graph" "nodes" "I", .laysFinal "ArrowClasses$Graph" "ArrowClasses$Graph" "parents" "[I", .laysFinal "ArrowClasses$Graph" "ArrowClasses$Graph" "children" "[I", .arrayClass .int, .fieldLink "ArrowClasses$Kindred" 14 "ArrowClasses$Kindred" "drawn" "LArrowClasses$Graph;", .fieldLink "ArrowClasses" 22 "ArrowClasses$Kindred" "drawn" "LArrowClasses$Graph;", .fieldLink "ArrowClasses$Kindred" 20 "ArrowClasses$Kindred" "tried" "LArrowClasses$Graph;"]
def vzB_1 : List Cond := [.fieldLink "ArrowClasses$Kindred" 23 "ArrowClasses$Kindred" "lows" "[I", .fieldLink "ArrowClasses$Kindred" 27 "ArrowClasses$Kindred" "highs" "[I", .fieldLink "ArrowClasses$Kindred" 30 "ArrowClasses$Kindred" "pairs" "I", .fieldLink "ArrowClasses$Kindred" 34 "ArrowClasses$Kindred" "drawnCode" "I", .fieldLink "ArrowClasses$Kindred" 37 "ArrowClasses$Kindred" "collidingBits" "I", .fieldLink "ArrowClasses$Kindred" 40 "ArrowClasses$Kindred" "knownBits" "I", .fieldLink "ArrowClasses$Kindred" 43 "ArrowClasses$Kindred" "knownCode" "I", .fieldLink "ArrowClasses$Kindred" 46 "ArrowClasses$Kindred" "gathered" "Z", .fieldLink "ArrowClasses$Kindred" 71 "ArrowClasses$Kindred" "count" "I", .fieldLink "ArrowClasses$Kindred" 83 "ArrowClasses$Kindred" "firstCode" "I", .fieldLink "ArrowClasses$Kindred" 80 "ArrowClasses$Kindred" "someFalling" "I", .fieldLink "ArrowClasses$Kindred" 77 "ArrowClasses$Kindred" "allFalling" "I", .laysFinal "ArrowClasses$Kindred" "ArrowClasses$Kindred" "drawn" "LArrowClasses$Graph;", .laysFinal "ArrowClasses$Kindred" "ArrowClasses$Kindred" "tried" "LArrowClasses$Graph;", .laysFinal "ArrowClasses$Kindred" "ArrowClasses$Kindred" "lows" "[I", .laysFinal "ArrowClasses$Kindred" "ArrowClasses$Kindred" "highs" "[I", .lays "ArrowClasses$Kindred" "ArrowClasses$Kindred" "pairs" "I", .lays "ArrowClasses$Kindred" "ArrowClasses$Kindred" "drawnCode" "I", .lays "ArrowClasses$Kindred" "ArrowClasses$Kindred" "collidingBits" "I", .lays "ArrowClasses$Kindred" "ArrowClasses$Kindred" "knownBits" "I", .lays "ArrowClasses$Kindred" "ArrowClasses$Kindred" "knownCode" "I", .lays "ArrowClasses$Kindred" "ArrowClasses$Kindred" "gathered" "Z", .lays "ArrowClasses$Kindred" "ArrowClasses$Kindred" "count" "I", .lays "ArrowClasses$Kindred" "ArrowClasses$Kindred" "firstCode" "I", .lays "ArrowClasses$Kindred" "ArrowClasses$Kindred" "someFalling" "I", .lays "ArrowClasses$Kindred" "ArrowClasses$Kindred" "allFalling" "I", .fieldLink "ArrowClasses" 9 "ArrowClasses" "nodes" "I", .fieldLink "ArrowClasses" 18 "ArrowClasses" "kindred" "LArrowClasses$Kindred;", .fieldLink "ArrowClasses" 26 "ArrowClasses" "graph" "LArrowClasses$Graph;", .fieldLink "ArrowClasses" 29 "ArrowClasses" "separationCount" "I", .laysFinal "ArrowClasses" "ArrowClasses" "nodes" "I", .laysFinal "ArrowClasses" "ArrowClasses" "kindred" "LArrowClasses$Kindred;", .laysFinal "ArrowClasses" "ArrowClasses" "graph" "LArrowClasses$Graph;", .lays "ArrowClasses" "ArrowClasses" "separationCount" "I", .methodLink "ArrowClassesLaw" 21 ⟨"ArrowClasses", "arrow", "(II)Z"⟩, .instanceMethod ⟨"ArrowClasses", "arrow", "(II)Z"⟩, .selects "ArrowClasses" ⟨"ArrowClasses", "arrow", "(II)Z"⟩ ⟨"ArrowClasses", "arrow", "(II)Z"⟩, .code ⟨"ArrowClasses", "arrow", "(II)Z"⟩ prog_1_method_2_code 3 (some .boolean), .methodLink "ArrowClasses" 32 ⟨"ArrowClasses", "isPair", "(II)Z"⟩, .selects "ArrowClasses" ⟨"ArrowClasses", "isPair", "(II)Z"⟩ ⟨"ArrowClasses", "isPair", "(II)Z"⟩]
def vzB_2 : List Cond := [.instanceMethod ⟨"ArrowClasses", "isPair", "(II)Z"⟩, .code ⟨"ArrowClasses", "isPair", "(II)Z"⟩ prog_1_method_22_code 3 (some .boolean), .methodLink "ArrowClasses" 65 ⟨"ArrowClasses", "isNode", "(I)Z"⟩, .selects "ArrowClasses" ⟨"ArrowClasses", "isNode", "(I)Z"⟩ ⟨"ArrowClasses", "isNode", "(I)Z"⟩, .instanceMethod ⟨"ArrowClasses", "isNode", "(I)Z"⟩, .code ⟨"ArrowClasses", "isNode", "(I)Z"⟩ prog_1_method_21_code 2 (some .boolean), .methodLink "ArrowClasses" 36 ⟨"ArrowClasses$Graph", "joins", "(II)Z"⟩, .instanceMethod ⟨"ArrowClasses$Graph", "joins", "(II)Z"⟩, .selects "ArrowClasses$Graph" ⟨"ArrowClasses$Graph", "joins", "(II)Z"⟩ ⟨"ArrowClasses$Graph", "joins", "(II)Z"⟩, .code ⟨"ArrowClasses$Graph", "joins", "(II)Z"⟩ prog_2_method_3_code 3 (some .boolean), .methodLink "ArrowClasses$Graph" 26 ⟨"ArrowClasses$Graph", "has", "(II)Z"⟩, .instanceMethod ⟨"ArrowClasses$Graph", "has", "(II)Z"⟩, .selects "ArrowClasses$Graph" ⟨"ArrowClasses$Graph", "has", "(II)Z"⟩ ⟨"ArrowClasses$Graph", "has", "(II)Z"⟩, .code ⟨"ArrowClasses$Graph", "has", "(II)Z"⟩ prog_2_method_2_code 3 (some .boolean), .static ⟨"ArrowClasses", "holds", "(II)Z"⟩, .code ⟨"ArrowClasses", "holds", "(II)Z"⟩ prog_1_method_25_code 2 (some .boolean), .methodLink "ArrowClasses" 41 ⟨"ArrowClasses$Graph", "size", "()I"⟩, .instanceMethod ⟨"ArrowClasses$Graph", "size", "()I"⟩, .selects "ArrowClasses$Graph" ⟨"ArrowClasses$Graph", "size", "()I"⟩ ⟨"ArrowClasses$Graph", "size", "()I"⟩, .code ⟨"ArrowClasses$Graph", "size", "()I"⟩ prog_2_method_7_code 3 (some .int), .methodLink "ArrowClasses$Graph" 29 ⟨"java/lang/Integer", "bitCount", "(I)I"⟩, .static ⟨"java/lang/Integer", "bitCount", "(I)I"⟩, .code ⟨"java/lang/Integer", "bitCount", "(I)I"⟩ prog_6_method_49_code 1 (some .int), .constant "java/lang/Integer" 265 1431655765, .constant "java/lang/Integer" 266 858993459, .constant "java/lang/Integer" 267 252645135, .methodLink "ArrowClasses" 45 ⟨"ArrowClasses$Graph", "reachOf", "(I)I"⟩, .instanceMethod ⟨"ArrowClasses$Graph", "reachOf", "(I)I"⟩, .selects "ArrowClasses$Graph" ⟨"ArrowClasses$Graph", "reachOf", "(I)I"⟩ ⟨"ArrowClasses$Graph", "reachOf", "(I)I"⟩, .code ⟨"ArrowClasses$Graph", "reachOf", "(I)I"⟩ prog_2_method_8_code 5 (some .int), .methodLink "ArrowClasses" 49 ⟨"ArrowClasses", "holds", "(II)Z"⟩, .methodLink "ArrowClasses" 52 ⟨"ArrowClasses$Graph", "put", "(II)V"⟩, .instanceMethod ⟨"ArrowClasses$Graph", "put", "(II)V"⟩, .selects "ArrowClasses$Graph" ⟨"ArrowClasses$Graph", "put", "(II)V"⟩ ⟨"ArrowClasses$Graph", "put", "(II)V"⟩, .code ⟨"ArrowClasses$Graph", "put", "(II)V"⟩ prog_2_method_4_code 3 none, .methodLink "ArrowClasses" 56 ⟨"ArrowClasses", "noteChange", "()V"⟩, .selects "ArrowClasses" ⟨"ArrowClasses", "noteChange", "()V"⟩ ⟨"ArrowClasses", "noteChange", "()V"⟩, .instanceMethod ⟨"ArrowClasses", "noteChange", "()V"⟩, .code ⟨"ArrowClasses", "noteChange", "()V"⟩ prog_1_method_23_code 1 none, .methodLink "ArrowClasses" 116 ⟨"ArrowClasses$Kindred", "restart", "()V"⟩]
def vzB_3 : List Cond := [.instanceMethod ⟨"ArrowClasses$Kindred", "restart", "()V"⟩, .selects "ArrowClasses$Kindred" ⟨"ArrowClasses$Kindred", "restart", "()V"⟩ ⟨"ArrowClasses$Kindred", "restart", "()V"⟩, .code ⟨"ArrowClasses$Kindred", "restart", "()V"⟩ prog_3_method_2_code 3 none, .methodLink "ArrowClasses$Kindred" 53 ⟨"ArrowClasses$Graph", "joins", "(II)Z"⟩, .methodLink "ArrowClasses$Kindred" 57 ⟨"ArrowClasses$Kindred", "listPair", "(II)V"⟩, .selects "ArrowClasses$Kindred" ⟨"ArrowClasses$Kindred", "listPair", "(II)V"⟩ ⟨"ArrowClasses$Kindred", "listPair", "(II)V"⟩, .instanceMethod ⟨"ArrowClasses$Kindred", "listPair", "(II)V"⟩, .code ⟨"ArrowClasses$Kindred", "listPair", "(II)V"⟩ prog_3_method_3_code 4 none, .methodLink "ArrowClasses$Kindred" 61 ⟨"ArrowClasses$Graph", "strangers", "(II)I"⟩, .instanceMethod ⟨"ArrowClasses$Graph", "strangers", "(II)I"⟩, .selects "ArrowClasses$Graph" ⟨"ArrowClasses$Graph", "strangers", "(II)I"⟩ ⟨"ArrowClasses$Graph", "strangers", "(II)I"⟩, .code ⟨"ArrowClasses$Graph", "strangers", "(II)I"⟩ prog_2_method_10_code 3 (some .int), .methodLink "ArrowClasses$Kindred" 65 ⟨"ArrowClasses$Graph", "has", "(II)Z"⟩, .methodLink "ArrowClassesLaw" 26 ⟨"ArrowClasses", "erase", "(II)Z"⟩, .instanceMethod ⟨"ArrowClasses", "erase", "(II)Z"⟩, .selects "ArrowClasses" ⟨"ArrowClasses", "erase", "(II)Z"⟩ ⟨"ArrowClasses", "erase", "(II)Z"⟩, .code ⟨"ArrowClasses", "erase", "(II)Z"⟩ prog_1_method_3_code 3 (some .boolean), .methodLink "ArrowClasses" 59 ⟨"ArrowClasses$Graph", "has", "(II)Z"⟩, .methodLink "ArrowClasses" 62 ⟨"ArrowClasses$Graph", "take", "(II)V"⟩, .instanceMethod ⟨"ArrowClasses$Graph", "take", "(II)V"⟩, .selects "ArrowClasses$Graph" ⟨"ArrowClasses$Graph", "take", "(II)V"⟩ ⟨"ArrowClasses$Graph", "take", "(II)V"⟩, .code ⟨"ArrowClasses$Graph", "take", "(II)V"⟩ prog_2_method_5_code 3 none, .methodLink "ArrowClassesLaw" 30 ⟨"ArrowClasses", "turn", "(II)Z"⟩, .instanceMethod ⟨"ArrowClasses", "turn", "(II)Z"⟩, .selects "ArrowClasses" ⟨"ArrowClasses", "turn", "(II)Z"⟩ ⟨"ArrowClasses", "turn", "(II)Z"⟩, .code ⟨"ArrowClasses", "turn", "(II)Z"⟩ prog_1_method_4_code 3 (some .boolean), .methodLink "ArrowClassesLaw" 34 ⟨"ArrowClasses", "drawn", "(II)Z"⟩, .instanceMethod ⟨"ArrowClasses", "drawn", "(II)Z"⟩, .selects "ArrowClasses" ⟨"ArrowClasses", "drawn", "(II)Z"⟩ ⟨"ArrowClasses", "drawn", "(II)Z"⟩, .code ⟨"ArrowClasses", "drawn", "(II)Z"⟩ prog_1_method_5_code 3 (some .boolean), .methodLink "ArrowClassesLaw" 38 ⟨"ArrowClasses", "parents", "(I)I"⟩, .instanceMethod ⟨"ArrowClasses", "parents", "(I)I"⟩, .selects "ArrowClasses" ⟨"ArrowClasses", "parents", "(I)I"⟩ ⟨"ArrowClasses", "parents", "(I)I"⟩, .code ⟨"ArrowClasses", "parents", "(I)I"⟩ prog_1_method_6_code 2 (some .int), .methodLink "ArrowClassesLaw" 43 ⟨"ArrowClasses", "reached", "(I)I"⟩, .instanceMethod ⟨"ArrowClasses", "reached", "(I)I"⟩, .selects "ArrowClasses" ⟨"ArrowClasses", "reached", "(I)I"⟩ ⟨"ArrowClasses", "reached", "(I)I"⟩, .code ⟨"ArrowClasses", "reached", "(I)I"⟩ prog_1_method_7_code 2 (some .int), .methodLink "ArrowClassesLaw" 47 ⟨"ArrowClasses", "around", "(I)I"⟩, .instanceMethod ⟨"ArrowClasses", "around", "(I)I"⟩]
def vzB_4 : List Cond := [.selects "ArrowClasses" ⟨"ArrowClasses", "around", "(I)I"⟩ ⟨"ArrowClasses", "around", "(I)I"⟩, .code ⟨"ArrowClasses", "around", "(I)I"⟩ prog_1_method_8_code 4 (some .int), .methodLink "ArrowClassesLaw" 51 ⟨"ArrowClasses", "collisions", "()I"⟩, .instanceMethod ⟨"ArrowClasses", "collisions", "()I"⟩, .selects "ArrowClasses" ⟨"ArrowClasses", "collisions", "()I"⟩ ⟨"ArrowClasses", "collisions", "()I"⟩, .code ⟨"ArrowClasses", "collisions", "()I"⟩ prog_1_method_9_code 4 (some .int), .methodLink "ArrowClasses" 76 ⟨"ArrowClasses$Graph", "strangers", "(II)I"⟩, .methodLink "ArrowClasses" 80 ⟨"java/lang/Integer", "bitCount", "(I)I"⟩, .methodLink "ArrowClassesLaw" 56 ⟨"ArrowClasses", "covered", "(II)Z"⟩, .instanceMethod ⟨"ArrowClasses", "covered", "(II)Z"⟩, .selects "ArrowClasses" ⟨"ArrowClasses", "covered", "(II)Z"⟩ ⟨"ArrowClasses", "covered", "(II)Z"⟩, .code ⟨"ArrowClasses", "covered", "(II)Z"⟩ prog_1_method_10_code 3 (some .boolean), .methodLink "ArrowClasses" 85 ⟨"ArrowClasses", "drawn", "(II)Z"⟩, .methodLink "ArrowClassesLaw" 60 ⟨"ArrowClasses", "separated", "(III)Z"⟩, .instanceMethod ⟨"ArrowClasses", "separated", "(III)Z"⟩, .selects "ArrowClasses" ⟨"ArrowClasses", "separated", "(III)Z"⟩ ⟨"ArrowClasses", "separated", "(III)Z"⟩, .code ⟨"ArrowClasses", "separated", "(III)Z"⟩ prog_1_method_11_code 4 (some .boolean), .methodLink "ArrowClasses" 87 ⟨"ArrowClasses$Graph", "openFrom", "(II)I"⟩, .instanceMethod ⟨"ArrowClasses$Graph", "openFrom", "(II)I"⟩, .selects "ArrowClasses$Graph" ⟨"ArrowClasses$Graph", "openFrom", "(II)I"⟩ ⟨"ArrowClasses$Graph", "openFrom", "(II)I"⟩, .code ⟨"ArrowClasses$Graph", "openFrom", "(II)I"⟩ prog_2_method_12_code 11 (some .int), .methodLink "ArrowClassesLaw" 65 ⟨"ArrowClasses", "separator", "(II)I"⟩, .instanceMethod ⟨"ArrowClasses", "separator", "(II)I"⟩, .selects "ArrowClasses" ⟨"ArrowClasses", "separator", "(II)I"⟩ ⟨"ArrowClasses", "separator", "(II)I"⟩, .code ⟨"ArrowClasses", "separator", "(II)I"⟩ prog_1_method_12_code 7 (some .int), .methodLink "ArrowClasses" 90 ⟨"ArrowClasses", "separated", "(III)Z"⟩, .methodLink "ArrowClassesLaw" 70 ⟨"ArrowClasses", "separations", "()I"⟩, .instanceMethod ⟨"ArrowClasses", "separations", "()I"⟩, .selects "ArrowClasses" ⟨"ArrowClasses", "separations", "()I"⟩ ⟨"ArrowClasses", "separations", "()I"⟩, .code ⟨"ArrowClasses", "separations", "()I"⟩ prog_1_method_13_code 3 (some .int), .methodLink "ArrowClasses" 94 ⟨"ArrowClasses", "separationsBy", "(I)I"⟩, .selects "ArrowClasses" ⟨"ArrowClasses", "separationsBy", "(I)I"⟩ ⟨"ArrowClasses", "separationsBy", "(I)I"⟩, .instanceMethod ⟨"ArrowClasses", "separationsBy", "(I)I"⟩, .code ⟨"ArrowClasses", "separationsBy", "(I)I"⟩ prog_1_method_24_code 5 (some .int), .methodLink "ArrowClassesLaw" 74 ⟨"ArrowClasses", "edge", "(II)I"⟩, .instanceMethod ⟨"ArrowClasses", "edge", "(II)I"⟩, .selects "ArrowClasses" ⟨"ArrowClasses", "edge", "(II)I"⟩ ⟨"ArrowClasses", "edge", "(II)I"⟩, .code ⟨"ArrowClasses", "edge", "(II)I"⟩ prog_1_method_14_code 3 (some .int), .methodLink "ArrowClasses" 97 ⟨"ArrowClasses$Kindred", "someHas", "(II)Z"⟩, .instanceMethod ⟨"ArrowClasses$Kindred", "someHas", "(II)Z"⟩]
def vzB_5 : List Cond := [.selects "ArrowClasses$Kindred" ⟨"ArrowClasses$Kindred", "someHas", "(II)Z"⟩ ⟨"ArrowClasses$Kindred", "someHas", "(II)Z"⟩, .code ⟨"ArrowClasses$Kindred", "someHas", "(II)Z"⟩ prog_3_method_5_code 4 (some .boolean), .methodLink "ArrowClasses$Kindred" 68 ⟨"ArrowClasses$Kindred", "gather", "()V"⟩, .selects "ArrowClasses$Kindred" ⟨"ArrowClasses$Kindred", "gather", "()V"⟩ ⟨"ArrowClasses$Kindred", "gather", "()V"⟩, .instanceMethod ⟨"ArrowClasses$Kindred", "gather", "()V"⟩, .code ⟨"ArrowClasses$Kindred", "gather", "()V"⟩ prog_3_method_13_code 2 none, .methodLink "ArrowClasses$Kindred" 103 ⟨"ArrowClasses$Kindred", "isMember", "(I)Z"⟩, .selects "ArrowClasses$Kindred" ⟨"ArrowClasses$Kindred", "isMember", "(I)Z"⟩ ⟨"ArrowClasses$Kindred", "isMember", "(I)Z"⟩, .instanceMethod ⟨"ArrowClasses$Kindred", "isMember", "(I)Z"⟩, .code ⟨"ArrowClasses$Kindred", "isMember", "(I)Z"⟩ prog_3_method_14_code 3 (some .boolean), .methodLink "ArrowClasses$Kindred" 107 ⟨"ArrowClasses$Graph", "empty", "()V"⟩, .instanceMethod ⟨"ArrowClasses$Graph", "empty", "()V"⟩, .selects "ArrowClasses$Graph" ⟨"ArrowClasses$Graph", "empty", "()V"⟩ ⟨"ArrowClasses$Graph", "empty", "()V"⟩, .code ⟨"ArrowClasses$Graph", "empty", "()V"⟩ prog_2_method_6_code 2 none, .methodLink "ArrowClasses$Kindred" 100 ⟨"ArrowClasses$Kindred", "bitAt", "(I)I"⟩, .selects "ArrowClasses$Kindred" ⟨"ArrowClasses$Kindred", "bitAt", "(I)I"⟩ ⟨"ArrowClasses$Kindred", "bitAt", "(I)I"⟩, .instanceMethod ⟨"ArrowClasses$Kindred", "bitAt", "(I)I"⟩, .code ⟨"ArrowClasses$Kindred", "bitAt", "(I)I"⟩ prog_3_method_12_code 2 (some .int), .methodLink "ArrowClasses$Kindred" 110 ⟨"ArrowClasses$Graph", "put", "(II)V"⟩, .methodLink "ArrowClasses$Kindred" 113 ⟨"ArrowClasses$Graph", "collidesLike", "(LArrowClasses$Graph;)Z"⟩, .instanceMethod ⟨"ArrowClasses$Graph", "collidesLike", "(LArrowClasses$Graph;)Z"⟩, .selects "ArrowClasses$Graph" ⟨"ArrowClasses$Graph", "collidesLike", "(LArrowClasses$Graph;)Z"⟩ ⟨"ArrowClasses$Graph", "collidesLike", "(LArrowClasses$Graph;)Z"⟩, .code ⟨"ArrowClasses$Graph", "collidesLike", "(LArrowClasses$Graph;)Z"⟩ prog_2_method_11_code 4 (some .boolean), .methodLink "ArrowClasses$Graph" 35 ⟨"ArrowClasses$Graph", "strangers", "(II)I"⟩, .methodLink "ArrowClasses$Kindred" 117 ⟨"ArrowClasses$Graph", "hasRing", "()Z"⟩, .instanceMethod ⟨"ArrowClasses$Graph", "hasRing", "()Z"⟩, .selects "ArrowClasses$Graph" ⟨"ArrowClasses$Graph", "hasRing", "()Z"⟩ ⟨"ArrowClasses$Graph", "hasRing", "()Z"⟩, .code ⟨"ArrowClasses$Graph", "hasRing", "()Z"⟩ prog_2_method_9_code 4 (some .boolean), .methodLink "ArrowClasses$Kindred" 74 ⟨"ArrowClasses$Kindred", "bitOf", "(II)I"⟩, .selects "ArrowClasses$Kindred" ⟨"ArrowClasses$Kindred", "bitOf", "(II)I"⟩ ⟨"ArrowClasses$Kindred", "bitOf", "(II)I"⟩, .instanceMethod ⟨"ArrowClasses$Kindred", "bitOf", "(II)I"⟩, .code ⟨"ArrowClasses$Kindred", "bitOf", "(II)I"⟩ prog_3_method_11_code 4 (some .int), .methodLink "ArrowClasses$Kindred" 92 ⟨"java/lang/Math", "min", "(II)I"⟩, .static ⟨"java/lang/Math", "min", "(II)I"⟩, .code ⟨"java/lang/Math", "min", "(II)I"⟩ prog_7_method_69_code 2 (some .int), .methodLink "ArrowClasses$Kindred" 97 ⟨"java/lang/Math", "max", "(II)I"⟩, .static ⟨"java/lang/Math", "max", "(II)I"⟩, .code ⟨"java/lang/Math", "max", "(II)I"⟩ prog_7_method_65_code 2 (some .int), .methodLink "ArrowClassesLaw" 78 ⟨"ArrowClasses", "loose", "()I"⟩, .instanceMethod ⟨"ArrowClasses", "loose", "()I"⟩]
def vzB_6 : List Cond := [.selects "ArrowClasses" ⟨"ArrowClasses", "loose", "()I"⟩ ⟨"ArrowClasses", "loose", "()I"⟩, .code ⟨"ArrowClasses", "loose", "()I"⟩ prog_1_method_15_code 1 (some .int), .methodLink "ArrowClasses" 100 ⟨"ArrowClasses$Kindred", "loosePairs", "()I"⟩, .instanceMethod ⟨"ArrowClasses$Kindred", "loosePairs", "()I"⟩, .selects "ArrowClasses$Kindred" ⟨"ArrowClasses$Kindred", "loosePairs", "()I"⟩ ⟨"ArrowClasses$Kindred", "loosePairs", "()I"⟩, .code ⟨"ArrowClasses$Kindred", "loosePairs", "()I"⟩ prog_3_method_7_code 1 (some .int), .methodLink "ArrowClasses$Kindred" 86 ⟨"java/lang/Integer", "bitCount", "(I)I"⟩, .methodLink "ArrowClassesLaw" 82 ⟨"ArrowClasses", "know", "(II)Z"⟩, .instanceMethod ⟨"ArrowClasses", "know", "(II)Z"⟩, .selects "ArrowClasses" ⟨"ArrowClasses", "know", "(II)Z"⟩ ⟨"ArrowClasses", "know", "(II)Z"⟩, .code ⟨"ArrowClasses", "know", "(II)Z"⟩ prog_1_method_16_code 3 (some .boolean), .methodLink "ArrowClasses" 103 ⟨"ArrowClasses$Kindred", "fix", "(II)V"⟩, .instanceMethod ⟨"ArrowClasses$Kindred", "fix", "(II)V"⟩, .selects "ArrowClasses$Kindred" ⟨"ArrowClasses$Kindred", "fix", "(II)V"⟩ ⟨"ArrowClasses$Kindred", "fix", "(II)V"⟩, .code ⟨"ArrowClasses$Kindred", "fix", "(II)V"⟩ prog_3_method_9_code 4 none, .methodLink "ArrowClassesLaw" 86 ⟨"ArrowClasses", "forget", "()I"⟩, .instanceMethod ⟨"ArrowClasses", "forget", "()I"⟩, .selects "ArrowClasses" ⟨"ArrowClasses", "forget", "()I"⟩ ⟨"ArrowClasses", "forget", "()I"⟩, .code ⟨"ArrowClasses", "forget", "()I"⟩ prog_1_method_17_code 1 (some .int), .methodLink "ArrowClasses" 106 ⟨"ArrowClasses$Kindred", "unfix", "()I"⟩, .instanceMethod ⟨"ArrowClasses$Kindred", "unfix", "()I"⟩, .selects "ArrowClasses$Kindred" ⟨"ArrowClasses$Kindred", "unfix", "()I"⟩ ⟨"ArrowClasses$Kindred", "unfix", "()I"⟩, .code ⟨"ArrowClasses$Kindred", "unfix", "()I"⟩ prog_3_method_10_code 2 (some .int), .methodLink "ArrowClassesLaw" 90 ⟨"ArrowClasses", "members", "()I"⟩, .instanceMethod ⟨"ArrowClasses", "members", "()I"⟩, .selects "ArrowClasses" ⟨"ArrowClasses", "members", "()I"⟩ ⟨"ArrowClasses", "members", "()I"⟩, .code ⟨"ArrowClasses", "members", "()I"⟩ prog_1_method_18_code 1 (some .int), .methodLink "ArrowClasses" 109 ⟨"ArrowClasses$Kindred", "size", "()I"⟩, .instanceMethod ⟨"ArrowClasses$Kindred", "size", "()I"⟩, .selects "ArrowClasses$Kindred" ⟨"ArrowClasses$Kindred", "size", "()I"⟩ ⟨"ArrowClasses$Kindred", "size", "()I"⟩, .code ⟨"ArrowClasses$Kindred", "size", "()I"⟩ prog_3_method_4_code 1 (some .int), .methodLink "ArrowClassesLaw" 94 ⟨"ArrowClasses", "first", "(II)Z"⟩, .instanceMethod ⟨"ArrowClasses", "first", "(II)Z"⟩, .selects "ArrowClasses" ⟨"ArrowClasses", "first", "(II)Z"⟩ ⟨"ArrowClasses", "first", "(II)Z"⟩, .code ⟨"ArrowClasses", "first", "(II)Z"⟩ prog_1_method_19_code 3 (some .boolean), .methodLink "ArrowClasses" 110 ⟨"ArrowClasses$Kindred", "firstHas", "(II)Z"⟩, .instanceMethod ⟨"ArrowClasses$Kindred", "firstHas", "(II)Z"⟩, .selects "ArrowClasses$Kindred" ⟨"ArrowClasses$Kindred", "firstHas", "(II)Z"⟩ ⟨"ArrowClasses$Kindred", "firstHas", "(II)Z"⟩, .code ⟨"ArrowClasses$Kindred", "firstHas", "(II)Z"⟩ prog_3_method_6_code 4 (some .boolean), .methodLink "ArrowClassesLaw" 98 ⟨"ArrowClasses", "turned", "()I"⟩]
def vzB_7 : List Cond := [.instanceMethod ⟨"ArrowClasses", "turned", "()I"⟩, .selects "ArrowClasses" ⟨"ArrowClasses", "turned", "()I"⟩ ⟨"ArrowClasses", "turned", "()I"⟩, .code ⟨"ArrowClasses", "turned", "()I"⟩ prog_1_method_20_code 1 (some .int), .methodLink "ArrowClasses" 113 ⟨"ArrowClasses$Kindred", "turnedInFirst", "()I"⟩, .instanceMethod ⟨"ArrowClasses$Kindred", "turnedInFirst", "()I"⟩, .selects "ArrowClasses$Kindred" ⟨"ArrowClasses$Kindred", "turnedInFirst", "()I"⟩ ⟨"ArrowClasses$Kindred", "turnedInFirst", "()I"⟩, .code ⟨"ArrowClasses$Kindred", "turnedInFirst", "()I"⟩ prog_3_method_8_code 1 (some .int), .methodLink "ArrowClassesLaw" 9 ⟨"ArrowClassesLaw", "cell", "([II)I"⟩, .static ⟨"ArrowClassesLaw", "cell", "([II)I"⟩, .code ⟨"ArrowClassesLaw", "cell", "([II)I"⟩ method_2_code 2 (some .int), .classLink "ArrowClassesLaw" 18 "ArrowClassesModel", .instantiable "ArrowClassesModel" 13, .methodLink "ArrowClassesLaw" 20 ⟨"ArrowClassesModel", "<init>", "(I)V"⟩, .instanceMethod ⟨"ArrowClassesModel", "<init>", "(I)V"⟩, .code ⟨"ArrowClassesModel", "<init>", "(I)V"⟩ prog_5_method_1_code 2 none, .methodLink "ArrowClassesModel" 1 ⟨"java/lang/Object", "<init>", "()V"⟩, .fieldLink "ArrowClassesModel" 41 "ArrowClassesModel" "nodes" "I", .fieldLink "ArrowClassesModel" 7 "ArrowClassesModel" "has" "[Z", .fieldLink "ArrowClassesModel" 13 "ArrowClassesModel" "known" "[Z", .fieldLink "ArrowClassesModel" 16 "ArrowClassesModel" "tried" "[Z", .fieldLink "ArrowClassesModel" 103 "ArrowClassesModel" "count" "I", .fieldLink "ArrowClassesModel" 19 "ArrowClassesModel" "having" "[I", .fieldLink "ArrowClassesModel" 23 "ArrowClassesModel" "best" "[Z", .fieldLink "ArrowClassesModel" 93 "ArrowClassesModel" "pairs" "I", .fieldLink "ArrowClassesModel" 26 "ArrowClassesModel" "low" "[I", .fieldLink "ArrowClassesModel" 29 "ArrowClassesModel" "high" "[I", .fieldLink "ArrowClassesModel" 32 "ArrowClassesModel" "path" "[I", .fieldLink "ArrowClassesModel" 35 "ArrowClassesModel" "next" "[I", .fieldLink "ArrowClassesModel" 38 "ArrowClassesModel" "reaches" "[I", .lays "ArrowClassesModel" "ArrowClassesModel" "nodes" "I", .lays "ArrowClassesModel" "ArrowClassesModel" "has" "[Z", .lays "ArrowClassesModel" "ArrowClassesModel" "known" "[Z", .lays "ArrowClassesModel" "ArrowClassesModel" "tried" "[Z", .lays "ArrowClassesModel" "ArrowClassesModel" "count" "I", .lays "ArrowClassesModel" "ArrowClassesModel" "having" "[I", .lays "ArrowClassesModel" "ArrowClassesModel" "best" "[Z", .lays "ArrowClassesModel" "ArrowClassesModel" "pairs" "I", .lays "ArrowClassesModel" "ArrowClassesModel" "low" "[I", .lays "ArrowClassesModel" "ArrowClassesModel" "high" "[I", .lays "ArrowClassesModel" "ArrowClassesModel" "path" "[I"]
def vzB_8 : List Cond := [.lays "ArrowClassesModel" "ArrowClassesModel" "next" "[I", .lays "ArrowClassesModel" "ArrowClassesModel" "reaches" "[I", .arrayClass .boolean, .methodLink "ArrowClassesLaw" 25 ⟨"ArrowClassesModel", "arrow", "(II)Z"⟩, .instanceMethod ⟨"ArrowClassesModel", "arrow", "(II)Z"⟩, .selects "ArrowClassesModel" ⟨"ArrowClassesModel", "arrow", "(II)Z"⟩ ⟨"ArrowClassesModel", "arrow", "(II)Z"⟩, .code ⟨"ArrowClassesModel", "arrow", "(II)Z"⟩ prog_5_method_8_code 3 (some .boolean), .methodLink "ArrowClassesModel" 49 ⟨"ArrowClassesModel", "areNodes", "(II)Z"⟩, .selects "ArrowClassesModel" ⟨"ArrowClassesModel", "areNodes", "(II)Z"⟩ ⟨"ArrowClassesModel", "areNodes", "(II)Z"⟩, .instanceMethod ⟨"ArrowClassesModel", "areNodes", "(II)Z"⟩, .code ⟨"ArrowClassesModel", "areNodes", "(II)Z"⟩ prog_5_method_3_code 3 (some .boolean), .methodLink "ArrowClassesModel" 45 ⟨"ArrowClassesModel", "isNode", "(I)Z"⟩, .selects "ArrowClassesModel" ⟨"ArrowClassesModel", "isNode", "(I)Z"⟩ ⟨"ArrowClassesModel", "isNode", "(I)Z"⟩, .instanceMethod ⟨"ArrowClassesModel", "isNode", "(I)Z"⟩, .code ⟨"ArrowClassesModel", "isNode", "(I)Z"⟩ prog_5_method_2_code 2 (some .boolean), .methodLink "ArrowClassesModel" 53 ⟨"ArrowClassesModel", "joined", "(II)Z"⟩, .selects "ArrowClassesModel" ⟨"ArrowClassesModel", "joined", "(II)Z"⟩ ⟨"ArrowClassesModel", "joined", "(II)Z"⟩, .instanceMethod ⟨"ArrowClassesModel", "joined", "(II)Z"⟩, .code ⟨"ArrowClassesModel", "joined", "(II)Z"⟩ prog_5_method_4_code 3 (some .boolean), .methodLink "ArrowClassesModel" 56 ⟨"ArrowClassesModel", "arrows", "()I"⟩, .selects "ArrowClassesModel" ⟨"ArrowClassesModel", "arrows", "()I"⟩ ⟨"ArrowClassesModel", "arrows", "()I"⟩, .instanceMethod ⟨"ArrowClassesModel", "arrows", "()I"⟩, .code ⟨"ArrowClassesModel", "arrows", "()I"⟩ prog_5_method_5_code 3 (some .int), .methodLink "ArrowClassesModel" 60 ⟨"ArrowClassesModel", "reach", "(I)I"⟩, .selects "ArrowClassesModel" ⟨"ArrowClassesModel", "reach", "(I)I"⟩ ⟨"ArrowClassesModel", "reach", "(I)I"⟩, .instanceMethod ⟨"ArrowClassesModel", "reach", "(I)I"⟩, .code ⟨"ArrowClassesModel", "reach", "(I)I"⟩ prog_5_method_7_code 6 (some .int), .methodLink "ArrowClassesModel" 64 ⟨"ArrowClassesModel", "forgetAll", "()V"⟩, .selects "ArrowClassesModel" ⟨"ArrowClassesModel", "forgetAll", "()V"⟩ ⟨"ArrowClassesModel", "forgetAll", "()V"⟩, .instanceMethod ⟨"ArrowClassesModel", "forgetAll", "()V"⟩, .code ⟨"ArrowClassesModel", "forgetAll", "()V"⟩ prog_5_method_6_code 2 none, .methodLink "ArrowClassesLaw" 29 ⟨"ArrowClassesModel", "erase", "(II)Z"⟩, .instanceMethod ⟨"ArrowClassesModel", "erase", "(II)Z"⟩, .selects "ArrowClassesModel" ⟨"ArrowClassesModel", "erase", "(II)Z"⟩ ⟨"ArrowClassesModel", "erase", "(II)Z"⟩, .code ⟨"ArrowClassesModel", "erase", "(II)Z"⟩ prog_5_method_9_code 3 (some .boolean), .methodLink "ArrowClassesLaw" 33 ⟨"ArrowClassesModel", "turn", "(II)Z"⟩, .instanceMethod ⟨"ArrowClassesModel", "turn", "(II)Z"⟩, .selects "ArrowClassesModel" ⟨"ArrowClassesModel", "turn", "(II)Z"⟩ ⟨"ArrowClassesModel", "turn", "(II)Z"⟩, .code ⟨"ArrowClassesModel", "turn", "(II)Z"⟩ prog_5_method_10_code 3 (some .boolean), .methodLink "ArrowClassesLaw" 37 ⟨"ArrowClassesModel", "drawn", "(II)Z"⟩]
def vzB_9 : List Cond := [.instanceMethod ⟨"ArrowClassesModel", "drawn", "(II)Z"⟩, .selects "ArrowClassesModel" ⟨"ArrowClassesModel", "drawn", "(II)Z"⟩ ⟨"ArrowClassesModel", "drawn", "(II)Z"⟩, .code ⟨"ArrowClassesModel", "drawn", "(II)Z"⟩ prog_5_method_11_code 3 (some .boolean), .methodLink "ArrowClassesLaw" 42 ⟨"ArrowClassesModel", "parents", "(I)I"⟩, .instanceMethod ⟨"ArrowClassesModel", "parents", "(I)I"⟩, .selects "ArrowClassesModel" ⟨"ArrowClassesModel", "parents", "(I)I"⟩ ⟨"ArrowClassesModel", "parents", "(I)I"⟩, .code ⟨"ArrowClassesModel", "parents", "(I)I"⟩ prog_5_method_12_code 4 (some .int), .methodLink "ArrowClassesLaw" 46 ⟨"ArrowClassesModel", "reached", "(I)I"⟩, .instanceMethod ⟨"ArrowClassesModel", "reached", "(I)I"⟩, .selects "ArrowClassesModel" ⟨"ArrowClassesModel", "reached", "(I)I"⟩ ⟨"ArrowClassesModel", "reached", "(I)I"⟩, .code ⟨"ArrowClassesModel", "reached", "(I)I"⟩ prog_5_method_13_code 2 (some .int), .methodLink "ArrowClassesLaw" 50 ⟨"ArrowClassesModel", "around", "(I)I"⟩, .instanceMethod ⟨"ArrowClassesModel", "around", "(I)I"⟩, .selects "ArrowClassesModel" ⟨"ArrowClassesModel", "around", "(I)I"⟩ ⟨"ArrowClassesModel", "around", "(I)I"⟩, .code ⟨"ArrowClassesModel", "around", "(I)I"⟩ prog_5_method_14_code 4 (some .int), .methodLink "ArrowClassesModel" 67 ⟨"ArrowClassesModel", "parents", "(I)I"⟩, .methodLink "ArrowClassesLaw" 55 ⟨"ArrowClassesModel", "collisions", "()I"⟩, .instanceMethod ⟨"ArrowClassesModel", "collisions", "()I"⟩, .selects "ArrowClassesModel" ⟨"ArrowClassesModel", "collisions", "()I"⟩ ⟨"ArrowClassesModel", "collisions", "()I"⟩, .code ⟨"ArrowClassesModel", "collisions", "()I"⟩ prog_5_method_16_code 5 (some .int), .methodLink "ArrowClassesModel" 70 ⟨"ArrowClassesModel", "collides", "([ZIII)Z"⟩, .static ⟨"ArrowClassesModel", "collides", "([ZIII)Z"⟩, .code ⟨"ArrowClassesModel", "collides", "([ZIII)Z"⟩ prog_5_method_15_code 4 (some .boolean), .methodLink "ArrowClassesLaw" 59 ⟨"ArrowClassesModel", "covered", "(II)Z"⟩, .instanceMethod ⟨"ArrowClassesModel", "covered", "(II)Z"⟩, .selects "ArrowClassesModel" ⟨"ArrowClassesModel", "covered", "(II)Z"⟩ ⟨"ArrowClassesModel", "covered", "(II)Z"⟩, .code ⟨"ArrowClassesModel", "covered", "(II)Z"⟩ prog_5_method_17_code 3 (some .boolean), .methodLink "ArrowClassesModel" 74 ⟨"ArrowClassesModel", "drawn", "(II)Z"⟩, .methodLink "ArrowClassesLaw" 64 ⟨"ArrowClassesModel", "separated", "(III)Z"⟩, .instanceMethod ⟨"ArrowClassesModel", "separated", "(III)Z"⟩, .selects "ArrowClassesModel" ⟨"ArrowClassesModel", "separated", "(III)Z"⟩ ⟨"ArrowClassesModel", "separated", "(III)Z"⟩, .code ⟨"ArrowClassesModel", "separated", "(III)Z"⟩ prog_5_method_21_code 4 (some .boolean), .methodLink "ArrowClassesModel" 83 ⟨"ArrowClassesModel", "allBlocked", "(III)Z"⟩, .selects "ArrowClassesModel" ⟨"ArrowClassesModel", "allBlocked", "(III)Z"⟩ ⟨"ArrowClassesModel", "allBlocked", "(III)Z"⟩, .instanceMethod ⟨"ArrowClassesModel", "allBlocked", "(III)Z"⟩, .code ⟨"ArrowClassesModel", "allBlocked", "(III)Z"⟩ prog_5_method_20_code 7 (some .boolean), .methodLink "ArrowClassesModel" 77 ⟨"ArrowClassesModel", "blocked", "(II)Z"⟩, .selects "ArrowClassesModel" ⟨"ArrowClassesModel", "blocked", "(II)Z"⟩ ⟨"ArrowClassesModel", "blocked", "(II)Z"⟩, .instanceMethod ⟨"ArrowClassesModel", "blocked", "(II)Z"⟩, .code ⟨"ArrowClassesModel", "blocked", "(II)Z"⟩ prog_5_method_18_code 6 (some .boolean)]
def vzB_10 : List Cond := [.methodLink "ArrowClassesModel" 80 ⟨"ArrowClassesModel", "onPath", "(II)Z"⟩, .selects "ArrowClassesModel" ⟨"ArrowClassesModel", "onPath", "(II)Z"⟩ ⟨"ArrowClassesModel", "onPath", "(II)Z"⟩, .instanceMethod ⟨"ArrowClassesModel", "onPath", "(II)Z"⟩, .code ⟨"ArrowClassesModel", "onPath", "(II)Z"⟩ prog_5_method_19_code 5 (some .boolean), .methodLink "ArrowClassesLaw" 69 ⟨"ArrowClassesModel", "separator", "(II)I"⟩, .instanceMethod ⟨"ArrowClassesModel", "separator", "(II)I"⟩, .selects "ArrowClassesModel" ⟨"ArrowClassesModel", "separator", "(II)I"⟩ ⟨"ArrowClassesModel", "separator", "(II)I"⟩, .code ⟨"ArrowClassesModel", "separator", "(II)I"⟩ prog_5_method_23_code 5 (some .int), .methodLink "ArrowClassesModel" 87 ⟨"ArrowClassesModel", "size", "(I)I"⟩, .static ⟨"ArrowClassesModel", "size", "(I)I"⟩, .code ⟨"ArrowClassesModel", "size", "(I)I"⟩ prog_5_method_22_code 3 (some .int), .methodLink "ArrowClassesModel" 90 ⟨"ArrowClassesModel", "separated", "(III)Z"⟩, .methodLink "ArrowClassesLaw" 73 ⟨"ArrowClassesModel", "separations", "()I"⟩, .instanceMethod ⟨"ArrowClassesModel", "separations", "()I"⟩, .selects "ArrowClassesModel" ⟨"ArrowClassesModel", "separations", "()I"⟩ ⟨"ArrowClassesModel", "separations", "()I"⟩, .code ⟨"ArrowClassesModel", "separations", "()I"⟩ prog_5_method_24_code 5 (some .int), .methodLink "ArrowClassesLaw" 77 ⟨"ArrowClassesModel", "edge", "(II)I"⟩, .instanceMethod ⟨"ArrowClassesModel", "edge", "(II)I"⟩, .selects "ArrowClassesModel" ⟨"ArrowClassesModel", "edge", "(II)I"⟩ ⟨"ArrowClassesModel", "edge", "(II)I"⟩, .code ⟨"ArrowClassesModel", "edge", "(II)I"⟩ prog_5_method_30_code 3 (some .int), .methodLink "ArrowClassesModel" 113 ⟨"ArrowClassesModel", "goThrough", "()V"⟩, .selects "ArrowClassesModel" ⟨"ArrowClassesModel", "goThrough", "()V"⟩ ⟨"ArrowClassesModel", "goThrough", "()V"⟩, .instanceMethod ⟨"ArrowClassesModel", "goThrough", "()V"⟩, .code ⟨"ArrowClassesModel", "goThrough", "()V"⟩ prog_5_method_29_code 3 none, .methodLink "ArrowClassesModel" 100 ⟨"ArrowClassesModel", "findPairs", "()V"⟩, .selects "ArrowClassesModel" ⟨"ArrowClassesModel", "findPairs", "()V"⟩ ⟨"ArrowClassesModel", "findPairs", "()V"⟩, .instanceMethod ⟨"ArrowClassesModel", "findPairs", "()V"⟩, .code ⟨"ArrowClassesModel", "findPairs", "()V"⟩ prog_5_method_25_code 3 none, .methodLink "ArrowClassesModel" 106 ⟨"ArrowClassesModel", "direct", "(I)V"⟩, .selects "ArrowClassesModel" ⟨"ArrowClassesModel", "direct", "(I)V"⟩ ⟨"ArrowClassesModel", "direct", "(I)V"⟩, .instanceMethod ⟨"ArrowClassesModel", "direct", "(I)V"⟩, .code ⟨"ArrowClassesModel", "direct", "(I)V"⟩ prog_5_method_26_code 6 none, .methodLink "ArrowClassesModel" 110 ⟨"ArrowClassesModel", "isMember", "()Z"⟩, .selects "ArrowClassesModel" ⟨"ArrowClassesModel", "isMember", "()Z"⟩ ⟨"ArrowClassesModel", "isMember", "()Z"⟩, .instanceMethod ⟨"ArrowClassesModel", "isMember", "()Z"⟩, .code ⟨"ArrowClassesModel", "isMember", "()Z"⟩ prog_5_method_28_code 4 (some .boolean), .methodLink "ArrowClassesModel" 96 ⟨"ArrowClassesModel", "hasRing", "()Z"⟩, .selects "ArrowClassesModel" ⟨"ArrowClassesModel", "hasRing", "()Z"⟩ ⟨"ArrowClassesModel", "hasRing", "()Z"⟩, .instanceMethod ⟨"ArrowClassesModel", "hasRing", "()Z"⟩, .code ⟨"ArrowClassesModel", "hasRing", "()Z"⟩ prog_5_method_27_code 6 (some .boolean)]
def vzB_11 : List Cond := [.methodLink "ArrowClassesLaw" 81 ⟨"ArrowClassesModel", "loose", "()I"⟩, .instanceMethod ⟨"ArrowClassesModel", "loose", "()I"⟩, .selects "ArrowClassesModel" ⟨"ArrowClassesModel", "loose", "()I"⟩ ⟨"ArrowClassesModel", "loose", "()I"⟩, .code ⟨"ArrowClassesModel", "loose", "()I"⟩ prog_5_method_31_code 4 (some .int), .methodLink "ArrowClassesLaw" 85 ⟨"ArrowClassesModel", "know", "(II)Z"⟩, .instanceMethod ⟨"ArrowClassesModel", "know", "(II)Z"⟩, .selects "ArrowClassesModel" ⟨"ArrowClassesModel", "know", "(II)Z"⟩ ⟨"ArrowClassesModel", "know", "(II)Z"⟩, .code ⟨"ArrowClassesModel", "know", "(II)Z"⟩ prog_5_method_32_code 3 (some .boolean), .methodLink "ArrowClassesLaw" 89 ⟨"ArrowClassesModel", "forget", "()I"⟩, .instanceMethod ⟨"ArrowClassesModel", "forget", "()I"⟩, .selects "ArrowClassesModel" ⟨"ArrowClassesModel", "forget", "()I"⟩ ⟨"ArrowClassesModel", "forget", "()I"⟩, .code ⟨"ArrowClassesModel", "forget", "()I"⟩ prog_5_method_33_code 3 (some .int), .methodLink "ArrowClassesLaw" 93 ⟨"ArrowClassesModel", "members", "()I"⟩, .instanceMethod ⟨"ArrowClassesModel", "members", "()I"⟩, .selects "ArrowClassesModel" ⟨"ArrowClassesModel", "members", "()I"⟩ ⟨"ArrowClassesModel", "members", "()I"⟩, .code ⟨"ArrowClassesModel", "members", "()I"⟩ prog_5_method_34_code 1 (some .int), .methodLink "ArrowClassesLaw" 97 ⟨"ArrowClassesModel", "first", "(II)Z"⟩, .instanceMethod ⟨"ArrowClassesModel", "first", "(II)Z"⟩, .selects "ArrowClassesModel" ⟨"ArrowClassesModel", "first", "(II)Z"⟩ ⟨"ArrowClassesModel", "first", "(II)Z"⟩, .code ⟨"ArrowClassesModel", "first", "(II)Z"⟩ prog_5_method_35_code 3 (some .boolean), .methodLink "ArrowClassesLaw" 101 ⟨"ArrowClassesModel", "turned", "()I"⟩, .instanceMethod ⟨"ArrowClassesModel", "turned", "()I"⟩, .selects "ArrowClassesModel" ⟨"ArrowClassesModel", "turned", "()I"⟩ ⟨"ArrowClassesModel", "turned", "()I"⟩, .code ⟨"ArrowClassesModel", "turned", "()I"⟩ prog_5_method_36_code 4 (some .int)]
def vzB : List Cond := vzB_0 ++ (vzB_1 ++ (vzB_2 ++ (vzB_3 ++ (vzB_4 ++ (vzB_5 ++ (vzB_6 ++ (vzB_7 ++ (vzB_8 ++ (vzB_9 ++ (vzB_10 ++ (vzB_11)))))))))))
theorem vzB_in0 {w : Cond} (h : w ∈ vzB_0) : w ∈ vzB := List.mem_append_left _ h
theorem vzB_in1 {w : Cond} (h : w ∈ vzB_1) : w ∈ vzB := List.mem_append_right _ (List.mem_append_left _ h)
theorem vzB_in2 {w : Cond} (h : w ∈ vzB_2) : w ∈ vzB := List.mem_append_right _ (List.mem_append_right _ (List.mem_append_left _ h))
theorem vzB_in3 {w : Cond} (h : w ∈ vzB_3) : w ∈ vzB := List.mem_append_right _ (List.mem_append_right _ (List.mem_append_right _ (List.mem_append_left _ h)))
theorem vzB_in4 {w : Cond} (h : w ∈ vzB_4) : w ∈ vzB := List.mem_append_right _ (List.mem_append_right _ (List.mem_append_right _ (List.mem_append_right _ (List.mem_append_left _ h))))
theorem vzB_in5 {w : Cond} (h : w ∈ vzB_5) : w ∈ vzB := List.mem_append_right _ (List.mem_append_right _ (List.mem_append_right _ (List.mem_append_right _ (List.mem_append_right _ (List.mem_append_left _ h)))))
theorem vzB_in6 {w : Cond} (h : w ∈ vzB_6) : w ∈ vzB := List.mem_append_right _ (List.mem_append_right _ (List.mem_append_right _ (List.mem_append_right _ (List.mem_append_right _ (List.mem_append_right _ (List.mem_append_left _ h))))))
theorem vzB_in7 {w : Cond} (h : w ∈ vzB_7) : w ∈ vzB := List.mem_append_right _ (List.mem_append_right _ (List.mem_append_right _ (List.mem_append_right _ (List.mem_append_right _ (List.mem_append_right _ (List.mem_append_right _ (List.mem_append_left _ h)))))))
theorem vzB_in8 {w : Cond} (h : w ∈ vzB_8) : w ∈ vzB := List.mem_append_right _ (List.mem_append_right _ (List.mem_append_right _ (List.mem_append_right _ (List.mem_append_right _ (List.mem_append_right _ (List.mem_append_right _ (List.mem_append_right _ (List.mem_append_left _ h))))))))
theorem vzB_in9 {w : Cond} (h : w ∈ vzB_9) : w ∈ vzB := List.mem_append_right _ (List.mem_append_right _ (List.mem_append_right _ (List.mem_append_right _ (List.mem_append_right _ (List.mem_append_right _ (List.mem_append_right _ (List.mem_append_right _ (List.mem_append_right _ (List.mem_append_left _ h)))))))))
theorem vzB_in10 {w : Cond} (h : w ∈ vzB_10) : w ∈ vzB := List.mem_append_right _ (List.mem_append_right _ (List.mem_append_right _ (List.mem_append_right _ (List.mem_append_right _ (List.mem_append_right _ (List.mem_append_right _ (List.mem_append_right _ (List.mem_append_right _ (List.mem_append_right _ (List.mem_append_left _ h))))))))))
theorem vzB_in11 {w : Cond} (h : w ∈ vzB_11) : w ∈ vzB := List.mem_append_right _ (List.mem_append_right _ (List.mem_append_right _ (List.mem_append_right _ (List.mem_append_right _ (List.mem_append_right _ (List.mem_append_right _ (List.mem_append_right _ (List.mem_append_right _ (List.mem_append_right _ (List.mem_append_right _ (h)))))))))))
theorem wd_ini_L : (.initialized "ArrowClassesLaw" : Cond) ∈ vzB := vzB_in0 (List.mem_of_getElem? (i := 0) rfl)
theorem wd_ini_A : (.initialized "ArrowClasses" : Cond) ∈ vzB := vzB_in0 (List.mem_of_getElem? (i := 1) rfl)
theorem wd_ini_K : (.initialized "ArrowClasses$Kindred" : Cond) ∈ vzB := vzB_in0 (List.mem_of_getElem? (i := 2) rfl)
theorem wd_ini_G : (.initialized "ArrowClasses$Graph" : Cond) ∈ vzB := vzB_in0 (List.mem_of_getElem? (i := 3) rfl)
theorem wd_ini_M : (.initialized "ArrowClassesModel" : Cond) ∈ vzB := vzB_in0 (List.mem_of_getElem? (i := 4) rfl)
theorem wd_ini_J : (.initialized "java/lang/Integer" : Cond) ∈ vzB := vzB_in0 (List.mem_of_getElem? (i := 5) rfl)
theorem wd_ini_H : (.initialized "java/lang/Math" : Cond) ∈ vzB := vzB_in0 (List.mem_of_getElem? (i := 6) rfl)
theorem wd_cl_L_7 : (.classLink "ArrowClassesLaw" 7 "ArrowClasses" : Cond) ∈ vzB := vzB_in0 (List.mem_of_getElem? (i := 7) rfl)
theorem wd_new_A : (.instantiable "ArrowClasses" 4 : Cond) ∈ vzB := vzB_in0 (List.mem_of_getElem? (i := 8) rfl)
theorem wd_link_L_15 : (.methodLink "ArrowClassesLaw" 15 ⟨"ArrowClasses", "<init>", "(I)V"⟩ : Cond) ∈ vzB := vzB_in0 (List.mem_of_getElem? (i := 9) rfl)
theorem wd_inst_A_init : (.instanceMethod ⟨"ArrowClasses", "<init>", "(I)V"⟩ : Cond) ∈ vzB := vzB_in0 (List.mem_of_getElem? (i := 10) rfl)
theorem wd_code_A_init : (.code ⟨"ArrowClasses", "<init>", "(I)V"⟩ prog_1_method_1_code 2 none : Cond) ∈ vzB := vzB_in0 (List.mem_of_getElem? (i := 11) rfl)
theorem wd_link_A_1 : (.methodLink "ArrowClasses" 1 ⟨"java/lang/Object", "<init>", "()V"⟩ : Cond) ∈ vzB := vzB_in0 (List.mem_of_getElem? (i := 12) rfl)
theorem wd_inst_O_init : (.instanceMethod ⟨"java/lang/Object", "<init>", "()V"⟩ : Cond) ∈ vzB := vzB_in0 (List.mem_of_getElem? (i := 13) rfl)
theorem wd_code_O_init : (.code ⟨"java/lang/Object", "<init>", "()V"⟩ object_method_1_code 1 none : Cond) ∈ vzB := vzB_in0 (List.mem_of_getElem? (i := 14) rfl)
theorem wd_cl_A_13 : (.classLink "ArrowClasses" 13 "ArrowClasses$Kindred" : Cond) ∈ vzB := vzB_in0 (List.mem_of_getElem? (i := 15) rfl)
theorem wd_new_K : (.instantiable "ArrowClasses$Kindred" 14 : Cond) ∈ vzB := vzB_in0 (List.mem_of_getElem? (i := 16) rfl)
theorem wd_link_A_15 : (.methodLink "ArrowClasses" 15 ⟨"ArrowClasses$Kindred", "<init>", "(I)V"⟩ : Cond) ∈ vzB := vzB_in0 (List.mem_of_getElem? (i := 17) rfl)
theorem wd_inst_K_init : (.instanceMethod ⟨"ArrowClasses$Kindred", "<init>", "(I)V"⟩ : Cond) ∈ vzB := vzB_in0 (List.mem_of_getElem? (i := 18) rfl)
theorem wd_code_K_init : (.code ⟨"ArrowClasses$Kindred", "<init>", "(I)V"⟩ prog_3_method_1_code 2 none : Cond) ∈ vzB := vzB_in0 (List.mem_of_getElem? (i := 19) rfl)
theorem wd_link_K_3 : (.methodLink "ArrowClasses$Kindred" 3 ⟨"java/lang/Object", "<init>", "()V"⟩ : Cond) ∈ vzB := vzB_in0 (List.mem_of_getElem? (i := 20) rfl)
theorem wd_cl_K_9 : (.classLink "ArrowClasses$Kindred" 9 "ArrowClasses$Graph" : Cond) ∈ vzB := vzB_in0 (List.mem_of_getElem? (i := 21) rfl)
theorem wd_new_G : (.instantiable "ArrowClasses$Graph" 3 : Cond) ∈ vzB := vzB_in0 (List.mem_of_getElem? (i := 22) rfl)
theorem wd_link_K_11 : (.methodLink "ArrowClasses$Kindred" 11 ⟨"ArrowClasses$Graph", "<init>", "(I)V"⟩ : Cond) ∈ vzB := vzB_in0 (List.mem_of_getElem? (i := 23) rfl)
theorem wd_inst_G_init : (.instanceMethod ⟨"ArrowClasses$Graph", "<init>", "(I)V"⟩ : Cond) ∈ vzB := vzB_in0 (List.mem_of_getElem? (i := 24) rfl)
theorem wd_code_G_init : (.code ⟨"ArrowClasses$Graph", "<init>", "(I)V"⟩ prog_2_method_1_code 2 none : Cond) ∈ vzB := vzB_in0 (List.mem_of_getElem? (i := 25) rfl)
theorem wd_link_G_1 : (.methodLink "ArrowClasses$Graph" 1 ⟨"java/lang/Object", "<init>", "()V"⟩ : Cond) ∈ vzB := vzB_in0 (List.mem_of_getElem? (i := 26) rfl)
theorem wd_fld_G_7 : (.fieldLink "ArrowClasses$Graph" 7 "ArrowClasses$Graph" "nodes" "I" : Cond) ∈ vzB := vzB_in0 (List.mem_of_getElem? (i := 27) rfl)
theorem wd_fld_K_50 : (.fieldLink "ArrowClasses$Kindred" 50 "ArrowClasses$Graph" "nodes" "I" : Cond) ∈ vzB := vzB_in0 (List.mem_of_getElem? (i := 28) rfl)
theorem wd_fld_G_13 : (.fieldLink "ArrowClasses$Graph" 13 "ArrowClasses$Graph" "parents" "[I" : Cond) ∈ vzB := vzB_in0 (List.mem_of_getElem? (i := 29) rfl)
theorem wd_fld_A_69 : (.fieldLink "ArrowClasses" 69 "ArrowClasses$Graph" "parents" "[I" : Cond) ∈ vzB := vzB_in0 (List.mem_of_getElem? (i := 30) rfl)
theorem wd_fld_G_17 : (.fieldLink "ArrowClasses$Graph" 17 "ArrowClasses$Graph" "children" "[I" : Cond) ∈ vzB := vzB_in0 (List.mem_of_getElem? (i := 31) rfl)
theorem wd_fld_A_73 : (.fieldLink "ArrowClasses" 73 "ArrowClasses$Graph" "children" "[I" : Cond) ∈ vzB := vzB_in0 (List.mem_of_getElem? (i := 32) rfl)
theorem wd_lay_G_nodes : (.laysFinal "ArrowClasses$Graph" "ArrowClasses$Graph" "nodes" "I" : Cond) ∈ vzB := vzB_in0 (List.mem_of_getElem? (i := 33) rfl)
theorem wd_lay_G_parents : (.laysFinal "ArrowClasses$Graph" "ArrowClasses$Graph" "parents" "[I" : Cond) ∈ vzB := vzB_in0 (List.mem_of_getElem? (i := 34) rfl)
theorem wd_lay_G_children : (.laysFinal "ArrowClasses$Graph" "ArrowClasses$Graph" "children" "[I" : Cond) ∈ vzB := vzB_in0 (List.mem_of_getElem? (i := 35) rfl)
theorem wd_arr_int : (.arrayClass .int : Cond) ∈ vzB := vzB_in0 (List.mem_of_getElem? (i := 36) rfl)
theorem wd_fld_K_14 : (.fieldLink "ArrowClasses$Kindred" 14 "ArrowClasses$Kindred" "drawn" "LArrowClasses$Graph;" : Cond) ∈ vzB := vzB_in0 (List.mem_of_getElem? (i := 37) rfl)
theorem wd_fld_A_22 : (.fieldLink "ArrowClasses" 22 "ArrowClasses$Kindred" "drawn" "LArrowClasses$Graph;" : Cond) ∈ vzB := vzB_in0 (List.mem_of_getElem? (i := 38) rfl)
theorem wd_fld_K_20 : (.fieldLink "ArrowClasses$Kindred" 20 "ArrowClasses$Kindred" "tried" "LArrowClasses$Graph;" : Cond) ∈ vzB := vzB_in0 (List.mem_of_getElem? (i := 39) rfl)
theorem wd_fld_K_23 : (.fieldLink "ArrowClasses$Kindred" 23 "ArrowClasses$Kindred" "lows" "[I" : Cond) ∈ vzB := vzB_in1 (List.mem_of_getElem? (i := 0) rfl)
theorem wd_fld_K_27 : (.fieldLink "ArrowClasses$Kindred" 27 "ArrowClasses$Kindred" "highs" "[I" : Cond) ∈ vzB := vzB_in1 (List.mem_of_getElem? (i := 1) rfl)
theorem wd_fld_K_30 : (.fieldLink "ArrowClasses$Kindred" 30 "ArrowClasses$Kindred" "pairs" "I" : Cond) ∈ vzB := vzB_in1 (List.mem_of_getElem? (i := 2) rfl)
theorem wd_fld_K_34 : (.fieldLink "ArrowClasses$Kindred" 34 "ArrowClasses$Kindred" "drawnCode" "I" : Cond) ∈ vzB := vzB_in1 (List.mem_of_getElem? (i := 3) rfl)
theorem wd_fld_K_37 : (.fieldLink "ArrowClasses$Kindred" 37 "ArrowClasses$Kindred" "collidingBits" "I" : Cond) ∈ vzB := vzB_in1 (List.mem_of_getElem? (i := 4) rfl)
theorem wd_fld_K_40 : (.fieldLink "ArrowClasses$Kindred" 40 "ArrowClasses$Kindred" "knownBits" "I" : Cond) ∈ vzB := vzB_in1 (List.mem_of_getElem? (i := 5) rfl)
theorem wd_fld_K_43 : (.fieldLink "ArrowClasses$Kindred" 43 "ArrowClasses$Kindred" "knownCode" "I" : Cond) ∈ vzB := vzB_in1 (List.mem_of_getElem? (i := 6) rfl)
theorem wd_fld_K_46 : (.fieldLink "ArrowClasses$Kindred" 46 "ArrowClasses$Kindred" "gathered" "Z" : Cond) ∈ vzB := vzB_in1 (List.mem_of_getElem? (i := 7) rfl)
theorem wd_fld_K_71 : (.fieldLink "ArrowClasses$Kindred" 71 "ArrowClasses$Kindred" "count" "I" : Cond) ∈ vzB := vzB_in1 (List.mem_of_getElem? (i := 8) rfl)
theorem wd_fld_K_83 : (.fieldLink "ArrowClasses$Kindred" 83 "ArrowClasses$Kindred" "firstCode" "I" : Cond) ∈ vzB := vzB_in1 (List.mem_of_getElem? (i := 9) rfl)
theorem wd_fld_K_80 : (.fieldLink "ArrowClasses$Kindred" 80 "ArrowClasses$Kindred" "someFalling" "I" : Cond) ∈ vzB := vzB_in1 (List.mem_of_getElem? (i := 10) rfl)
theorem wd_fld_K_77 : (.fieldLink "ArrowClasses$Kindred" 77 "ArrowClasses$Kindred" "allFalling" "I" : Cond) ∈ vzB := vzB_in1 (List.mem_of_getElem? (i := 11) rfl)
theorem wd_lay_K_drawn : (.laysFinal "ArrowClasses$Kindred" "ArrowClasses$Kindred" "drawn" "LArrowClasses$Graph;" : Cond) ∈ vzB := vzB_in1 (List.mem_of_getElem? (i := 12) rfl)
theorem wd_lay_K_tried : (.laysFinal "ArrowClasses$Kindred" "ArrowClasses$Kindred" "tried" "LArrowClasses$Graph;" : Cond) ∈ vzB := vzB_in1 (List.mem_of_getElem? (i := 13) rfl)
theorem wd_lay_K_lows : (.laysFinal "ArrowClasses$Kindred" "ArrowClasses$Kindred" "lows" "[I" : Cond) ∈ vzB := vzB_in1 (List.mem_of_getElem? (i := 14) rfl)
theorem wd_lay_K_highs : (.laysFinal "ArrowClasses$Kindred" "ArrowClasses$Kindred" "highs" "[I" : Cond) ∈ vzB := vzB_in1 (List.mem_of_getElem? (i := 15) rfl)
theorem wd_lay_K_pairs : (.lays "ArrowClasses$Kindred" "ArrowClasses$Kindred" "pairs" "I" : Cond) ∈ vzB := vzB_in1 (List.mem_of_getElem? (i := 16) rfl)
theorem wd_lay_K_drawnCode : (.lays "ArrowClasses$Kindred" "ArrowClasses$Kindred" "drawnCode" "I" : Cond) ∈ vzB := vzB_in1 (List.mem_of_getElem? (i := 17) rfl)
theorem wd_lay_K_collidingBits : (.lays "ArrowClasses$Kindred" "ArrowClasses$Kindred" "collidingBits" "I" : Cond) ∈ vzB := vzB_in1 (List.mem_of_getElem? (i := 18) rfl)
theorem wd_lay_K_knownBits : (.lays "ArrowClasses$Kindred" "ArrowClasses$Kindred" "knownBits" "I" : Cond) ∈ vzB := vzB_in1 (List.mem_of_getElem? (i := 19) rfl)
theorem wd_lay_K_knownCode : (.lays "ArrowClasses$Kindred" "ArrowClasses$Kindred" "knownCode" "I" : Cond) ∈ vzB := vzB_in1 (List.mem_of_getElem? (i := 20) rfl)
theorem wd_lay_K_gathered : (.lays "ArrowClasses$Kindred" "ArrowClasses$Kindred" "gathered" "Z" : Cond) ∈ vzB := vzB_in1 (List.mem_of_getElem? (i := 21) rfl)
theorem wd_lay_K_count : (.lays "ArrowClasses$Kindred" "ArrowClasses$Kindred" "count" "I" : Cond) ∈ vzB := vzB_in1 (List.mem_of_getElem? (i := 22) rfl)
theorem wd_lay_K_firstCode : (.lays "ArrowClasses$Kindred" "ArrowClasses$Kindred" "firstCode" "I" : Cond) ∈ vzB := vzB_in1 (List.mem_of_getElem? (i := 23) rfl)
theorem wd_lay_K_someFalling : (.lays "ArrowClasses$Kindred" "ArrowClasses$Kindred" "someFalling" "I" : Cond) ∈ vzB := vzB_in1 (List.mem_of_getElem? (i := 24) rfl)
theorem wd_lay_K_allFalling : (.lays "ArrowClasses$Kindred" "ArrowClasses$Kindred" "allFalling" "I" : Cond) ∈ vzB := vzB_in1 (List.mem_of_getElem? (i := 25) rfl)
theorem wd_fld_A_9 : (.fieldLink "ArrowClasses" 9 "ArrowClasses" "nodes" "I" : Cond) ∈ vzB := vzB_in1 (List.mem_of_getElem? (i := 26) rfl)
theorem wd_fld_A_18 : (.fieldLink "ArrowClasses" 18 "ArrowClasses" "kindred" "LArrowClasses$Kindred;" : Cond) ∈ vzB := vzB_in1 (List.mem_of_getElem? (i := 27) rfl)
theorem wd_fld_A_26 : (.fieldLink "ArrowClasses" 26 "ArrowClasses" "graph" "LArrowClasses$Graph;" : Cond) ∈ vzB := vzB_in1 (List.mem_of_getElem? (i := 28) rfl)
theorem wd_fld_A_29 : (.fieldLink "ArrowClasses" 29 "ArrowClasses" "separationCount" "I" : Cond) ∈ vzB := vzB_in1 (List.mem_of_getElem? (i := 29) rfl)
theorem wd_lay_A_nodes : (.laysFinal "ArrowClasses" "ArrowClasses" "nodes" "I" : Cond) ∈ vzB := vzB_in1 (List.mem_of_getElem? (i := 30) rfl)
theorem wd_lay_A_kindred : (.laysFinal "ArrowClasses" "ArrowClasses" "kindred" "LArrowClasses$Kindred;" : Cond) ∈ vzB := vzB_in1 (List.mem_of_getElem? (i := 31) rfl)
theorem wd_lay_A_graph : (.laysFinal "ArrowClasses" "ArrowClasses" "graph" "LArrowClasses$Graph;" : Cond) ∈ vzB := vzB_in1 (List.mem_of_getElem? (i := 32) rfl)
theorem wd_lay_A_separationCount : (.lays "ArrowClasses" "ArrowClasses" "separationCount" "I" : Cond) ∈ vzB := vzB_in1 (List.mem_of_getElem? (i := 33) rfl)
theorem wd_link_L_21 : (.methodLink "ArrowClassesLaw" 21 ⟨"ArrowClasses", "arrow", "(II)Z"⟩ : Cond) ∈ vzB := vzB_in1 (List.mem_of_getElem? (i := 34) rfl)
theorem wd_inst_A_arrow : (.instanceMethod ⟨"ArrowClasses", "arrow", "(II)Z"⟩ : Cond) ∈ vzB := vzB_in1 (List.mem_of_getElem? (i := 35) rfl)
theorem wd_sel_A_arrow : (.selects "ArrowClasses" ⟨"ArrowClasses", "arrow", "(II)Z"⟩ ⟨"ArrowClasses", "arrow", "(II)Z"⟩ : Cond) ∈ vzB := vzB_in1 (List.mem_of_getElem? (i := 36) rfl)
theorem wd_code_A_arrow : (.code ⟨"ArrowClasses", "arrow", "(II)Z"⟩ prog_1_method_2_code 3 (some .boolean) : Cond) ∈ vzB := vzB_in1 (List.mem_of_getElem? (i := 37) rfl)
theorem wd_link_A_32 : (.methodLink "ArrowClasses" 32 ⟨"ArrowClasses", "isPair", "(II)Z"⟩ : Cond) ∈ vzB := vzB_in1 (List.mem_of_getElem? (i := 38) rfl)
theorem wd_sel_A_isPair : (.selects "ArrowClasses" ⟨"ArrowClasses", "isPair", "(II)Z"⟩ ⟨"ArrowClasses", "isPair", "(II)Z"⟩ : Cond) ∈ vzB := vzB_in1 (List.mem_of_getElem? (i := 39) rfl)
theorem wd_inst_A_isPair : (.instanceMethod ⟨"ArrowClasses", "isPair", "(II)Z"⟩ : Cond) ∈ vzB := vzB_in2 (List.mem_of_getElem? (i := 0) rfl)
theorem wd_code_A_isPair : (.code ⟨"ArrowClasses", "isPair", "(II)Z"⟩ prog_1_method_22_code 3 (some .boolean) : Cond) ∈ vzB := vzB_in2 (List.mem_of_getElem? (i := 1) rfl)
theorem wd_link_A_65 : (.methodLink "ArrowClasses" 65 ⟨"ArrowClasses", "isNode", "(I)Z"⟩ : Cond) ∈ vzB := vzB_in2 (List.mem_of_getElem? (i := 2) rfl)
theorem wd_sel_A_isNode : (.selects "ArrowClasses" ⟨"ArrowClasses", "isNode", "(I)Z"⟩ ⟨"ArrowClasses", "isNode", "(I)Z"⟩ : Cond) ∈ vzB := vzB_in2 (List.mem_of_getElem? (i := 3) rfl)
theorem wd_inst_A_isNode : (.instanceMethod ⟨"ArrowClasses", "isNode", "(I)Z"⟩ : Cond) ∈ vzB := vzB_in2 (List.mem_of_getElem? (i := 4) rfl)
theorem wd_code_A_isNode : (.code ⟨"ArrowClasses", "isNode", "(I)Z"⟩ prog_1_method_21_code 2 (some .boolean) : Cond) ∈ vzB := vzB_in2 (List.mem_of_getElem? (i := 5) rfl)
theorem wd_link_A_36 : (.methodLink "ArrowClasses" 36 ⟨"ArrowClasses$Graph", "joins", "(II)Z"⟩ : Cond) ∈ vzB := vzB_in2 (List.mem_of_getElem? (i := 6) rfl)
theorem wd_inst_G_joins : (.instanceMethod ⟨"ArrowClasses$Graph", "joins", "(II)Z"⟩ : Cond) ∈ vzB := vzB_in2 (List.mem_of_getElem? (i := 7) rfl)
theorem wd_sel_G_joins : (.selects "ArrowClasses$Graph" ⟨"ArrowClasses$Graph", "joins", "(II)Z"⟩ ⟨"ArrowClasses$Graph", "joins", "(II)Z"⟩ : Cond) ∈ vzB := vzB_in2 (List.mem_of_getElem? (i := 8) rfl)
theorem wd_code_G_joins : (.code ⟨"ArrowClasses$Graph", "joins", "(II)Z"⟩ prog_2_method_3_code 3 (some .boolean) : Cond) ∈ vzB := vzB_in2 (List.mem_of_getElem? (i := 9) rfl)
theorem wd_link_G_26 : (.methodLink "ArrowClasses$Graph" 26 ⟨"ArrowClasses$Graph", "has", "(II)Z"⟩ : Cond) ∈ vzB := vzB_in2 (List.mem_of_getElem? (i := 10) rfl)
theorem wd_inst_G_has : (.instanceMethod ⟨"ArrowClasses$Graph", "has", "(II)Z"⟩ : Cond) ∈ vzB := vzB_in2 (List.mem_of_getElem? (i := 11) rfl)
theorem wd_sel_G_has : (.selects "ArrowClasses$Graph" ⟨"ArrowClasses$Graph", "has", "(II)Z"⟩ ⟨"ArrowClasses$Graph", "has", "(II)Z"⟩ : Cond) ∈ vzB := vzB_in2 (List.mem_of_getElem? (i := 12) rfl)
theorem wd_code_G_has : (.code ⟨"ArrowClasses$Graph", "has", "(II)Z"⟩ prog_2_method_2_code 3 (some .boolean) : Cond) ∈ vzB := vzB_in2 (List.mem_of_getElem? (i := 13) rfl)
theorem wd_stat_A_holds : (.static ⟨"ArrowClasses", "holds", "(II)Z"⟩ : Cond) ∈ vzB := vzB_in2 (List.mem_of_getElem? (i := 14) rfl)
theorem wd_code_A_holds : (.code ⟨"ArrowClasses", "holds", "(II)Z"⟩ prog_1_method_25_code 2 (some .boolean) : Cond) ∈ vzB := vzB_in2 (List.mem_of_getElem? (i := 15) rfl)
theorem wd_link_A_41 : (.methodLink "ArrowClasses" 41 ⟨"ArrowClasses$Graph", "size", "()I"⟩ : Cond) ∈ vzB := vzB_in2 (List.mem_of_getElem? (i := 16) rfl)
theorem wd_inst_G_size : (.instanceMethod ⟨"ArrowClasses$Graph", "size", "()I"⟩ : Cond) ∈ vzB := vzB_in2 (List.mem_of_getElem? (i := 17) rfl)
theorem wd_sel_G_size : (.selects "ArrowClasses$Graph" ⟨"ArrowClasses$Graph", "size", "()I"⟩ ⟨"ArrowClasses$Graph", "size", "()I"⟩ : Cond) ∈ vzB := vzB_in2 (List.mem_of_getElem? (i := 18) rfl)
theorem wd_code_G_size : (.code ⟨"ArrowClasses$Graph", "size", "()I"⟩ prog_2_method_7_code 3 (some .int) : Cond) ∈ vzB := vzB_in2 (List.mem_of_getElem? (i := 19) rfl)
theorem wd_link_G_29 : (.methodLink "ArrowClasses$Graph" 29 ⟨"java/lang/Integer", "bitCount", "(I)I"⟩ : Cond) ∈ vzB := vzB_in2 (List.mem_of_getElem? (i := 20) rfl)
theorem wd_stat_J_bitCount : (.static ⟨"java/lang/Integer", "bitCount", "(I)I"⟩ : Cond) ∈ vzB := vzB_in2 (List.mem_of_getElem? (i := 21) rfl)
theorem wd_code_J_bitCount : (.code ⟨"java/lang/Integer", "bitCount", "(I)I"⟩ prog_6_method_49_code 1 (some .int) : Cond) ∈ vzB := vzB_in2 (List.mem_of_getElem? (i := 22) rfl)
theorem wd_con_265 : (.constant "java/lang/Integer" 265 1431655765 : Cond) ∈ vzB := vzB_in2 (List.mem_of_getElem? (i := 23) rfl)
theorem wd_con_266 : (.constant "java/lang/Integer" 266 858993459 : Cond) ∈ vzB := vzB_in2 (List.mem_of_getElem? (i := 24) rfl)
theorem wd_con_267 : (.constant "java/lang/Integer" 267 252645135 : Cond) ∈ vzB := vzB_in2 (List.mem_of_getElem? (i := 25) rfl)
theorem wd_link_A_45 : (.methodLink "ArrowClasses" 45 ⟨"ArrowClasses$Graph", "reachOf", "(I)I"⟩ : Cond) ∈ vzB := vzB_in2 (List.mem_of_getElem? (i := 26) rfl)
theorem wd_inst_G_reachOf : (.instanceMethod ⟨"ArrowClasses$Graph", "reachOf", "(I)I"⟩ : Cond) ∈ vzB := vzB_in2 (List.mem_of_getElem? (i := 27) rfl)
theorem wd_sel_G_reachOf : (.selects "ArrowClasses$Graph" ⟨"ArrowClasses$Graph", "reachOf", "(I)I"⟩ ⟨"ArrowClasses$Graph", "reachOf", "(I)I"⟩ : Cond) ∈ vzB := vzB_in2 (List.mem_of_getElem? (i := 28) rfl)
theorem wd_code_G_reachOf : (.code ⟨"ArrowClasses$Graph", "reachOf", "(I)I"⟩ prog_2_method_8_code 5 (some .int) : Cond) ∈ vzB := vzB_in2 (List.mem_of_getElem? (i := 29) rfl)
theorem wd_link_A_49 : (.methodLink "ArrowClasses" 49 ⟨"ArrowClasses", "holds", "(II)Z"⟩ : Cond) ∈ vzB := vzB_in2 (List.mem_of_getElem? (i := 30) rfl)
theorem wd_link_A_52 : (.methodLink "ArrowClasses" 52 ⟨"ArrowClasses$Graph", "put", "(II)V"⟩ : Cond) ∈ vzB := vzB_in2 (List.mem_of_getElem? (i := 31) rfl)
theorem wd_inst_G_put : (.instanceMethod ⟨"ArrowClasses$Graph", "put", "(II)V"⟩ : Cond) ∈ vzB := vzB_in2 (List.mem_of_getElem? (i := 32) rfl)
theorem wd_sel_G_put : (.selects "ArrowClasses$Graph" ⟨"ArrowClasses$Graph", "put", "(II)V"⟩ ⟨"ArrowClasses$Graph", "put", "(II)V"⟩ : Cond) ∈ vzB := vzB_in2 (List.mem_of_getElem? (i := 33) rfl)
theorem wd_code_G_put : (.code ⟨"ArrowClasses$Graph", "put", "(II)V"⟩ prog_2_method_4_code 3 none : Cond) ∈ vzB := vzB_in2 (List.mem_of_getElem? (i := 34) rfl)
theorem wd_link_A_56 : (.methodLink "ArrowClasses" 56 ⟨"ArrowClasses", "noteChange", "()V"⟩ : Cond) ∈ vzB := vzB_in2 (List.mem_of_getElem? (i := 35) rfl)
theorem wd_sel_A_noteChange : (.selects "ArrowClasses" ⟨"ArrowClasses", "noteChange", "()V"⟩ ⟨"ArrowClasses", "noteChange", "()V"⟩ : Cond) ∈ vzB := vzB_in2 (List.mem_of_getElem? (i := 36) rfl)
theorem wd_inst_A_noteChange : (.instanceMethod ⟨"ArrowClasses", "noteChange", "()V"⟩ : Cond) ∈ vzB := vzB_in2 (List.mem_of_getElem? (i := 37) rfl)
theorem wd_code_A_noteChange : (.code ⟨"ArrowClasses", "noteChange", "()V"⟩ prog_1_method_23_code 1 none : Cond) ∈ vzB := vzB_in2 (List.mem_of_getElem? (i := 38) rfl)
theorem wd_link_A_116 : (.methodLink "ArrowClasses" 116 ⟨"ArrowClasses$Kindred", "restart", "()V"⟩ : Cond) ∈ vzB := vzB_in2 (List.mem_of_getElem? (i := 39) rfl)
theorem wd_inst_K_restart : (.instanceMethod ⟨"ArrowClasses$Kindred", "restart", "()V"⟩ : Cond) ∈ vzB := vzB_in3 (List.mem_of_getElem? (i := 0) rfl)
theorem wd_sel_K_restart : (.selects "ArrowClasses$Kindred" ⟨"ArrowClasses$Kindred", "restart", "()V"⟩ ⟨"ArrowClasses$Kindred", "restart", "()V"⟩ : Cond) ∈ vzB := vzB_in3 (List.mem_of_getElem? (i := 1) rfl)
theorem wd_code_K_restart : (.code ⟨"ArrowClasses$Kindred", "restart", "()V"⟩ prog_3_method_2_code 3 none : Cond) ∈ vzB := vzB_in3 (List.mem_of_getElem? (i := 2) rfl)
theorem wd_link_K_53 : (.methodLink "ArrowClasses$Kindred" 53 ⟨"ArrowClasses$Graph", "joins", "(II)Z"⟩ : Cond) ∈ vzB := vzB_in3 (List.mem_of_getElem? (i := 3) rfl)
theorem wd_link_K_57 : (.methodLink "ArrowClasses$Kindred" 57 ⟨"ArrowClasses$Kindred", "listPair", "(II)V"⟩ : Cond) ∈ vzB := vzB_in3 (List.mem_of_getElem? (i := 4) rfl)
theorem wd_sel_K_listPair : (.selects "ArrowClasses$Kindred" ⟨"ArrowClasses$Kindred", "listPair", "(II)V"⟩ ⟨"ArrowClasses$Kindred", "listPair", "(II)V"⟩ : Cond) ∈ vzB := vzB_in3 (List.mem_of_getElem? (i := 5) rfl)
theorem wd_inst_K_listPair : (.instanceMethod ⟨"ArrowClasses$Kindred", "listPair", "(II)V"⟩ : Cond) ∈ vzB := vzB_in3 (List.mem_of_getElem? (i := 6) rfl)
theorem wd_code_K_listPair : (.code ⟨"ArrowClasses$Kindred", "listPair", "(II)V"⟩ prog_3_method_3_code 4 none : Cond) ∈ vzB := vzB_in3 (List.mem_of_getElem? (i := 7) rfl)
theorem wd_link_K_61 : (.methodLink "ArrowClasses$Kindred" 61 ⟨"ArrowClasses$Graph", "strangers", "(II)I"⟩ : Cond) ∈ vzB := vzB_in3 (List.mem_of_getElem? (i := 8) rfl)
theorem wd_inst_G_strangers : (.instanceMethod ⟨"ArrowClasses$Graph", "strangers", "(II)I"⟩ : Cond) ∈ vzB := vzB_in3 (List.mem_of_getElem? (i := 9) rfl)
theorem wd_sel_G_strangers : (.selects "ArrowClasses$Graph" ⟨"ArrowClasses$Graph", "strangers", "(II)I"⟩ ⟨"ArrowClasses$Graph", "strangers", "(II)I"⟩ : Cond) ∈ vzB := vzB_in3 (List.mem_of_getElem? (i := 10) rfl)
theorem wd_code_G_strangers : (.code ⟨"ArrowClasses$Graph", "strangers", "(II)I"⟩ prog_2_method_10_code 3 (some .int) : Cond) ∈ vzB := vzB_in3 (List.mem_of_getElem? (i := 11) rfl)
theorem wd_link_K_65 : (.methodLink "ArrowClasses$Kindred" 65 ⟨"ArrowClasses$Graph", "has", "(II)Z"⟩ : Cond) ∈ vzB := vzB_in3 (List.mem_of_getElem? (i := 12) rfl)
theorem wd_link_L_26 : (.methodLink "ArrowClassesLaw" 26 ⟨"ArrowClasses", "erase", "(II)Z"⟩ : Cond) ∈ vzB := vzB_in3 (List.mem_of_getElem? (i := 13) rfl)
theorem wd_inst_A_erase : (.instanceMethod ⟨"ArrowClasses", "erase", "(II)Z"⟩ : Cond) ∈ vzB := vzB_in3 (List.mem_of_getElem? (i := 14) rfl)
theorem wd_sel_A_erase : (.selects "ArrowClasses" ⟨"ArrowClasses", "erase", "(II)Z"⟩ ⟨"ArrowClasses", "erase", "(II)Z"⟩ : Cond) ∈ vzB := vzB_in3 (List.mem_of_getElem? (i := 15) rfl)
theorem wd_code_A_erase : (.code ⟨"ArrowClasses", "erase", "(II)Z"⟩ prog_1_method_3_code 3 (some .boolean) : Cond) ∈ vzB := vzB_in3 (List.mem_of_getElem? (i := 16) rfl)
theorem wd_link_A_59 : (.methodLink "ArrowClasses" 59 ⟨"ArrowClasses$Graph", "has", "(II)Z"⟩ : Cond) ∈ vzB := vzB_in3 (List.mem_of_getElem? (i := 17) rfl)
theorem wd_link_A_62 : (.methodLink "ArrowClasses" 62 ⟨"ArrowClasses$Graph", "take", "(II)V"⟩ : Cond) ∈ vzB := vzB_in3 (List.mem_of_getElem? (i := 18) rfl)
theorem wd_inst_G_take : (.instanceMethod ⟨"ArrowClasses$Graph", "take", "(II)V"⟩ : Cond) ∈ vzB := vzB_in3 (List.mem_of_getElem? (i := 19) rfl)
theorem wd_sel_G_take : (.selects "ArrowClasses$Graph" ⟨"ArrowClasses$Graph", "take", "(II)V"⟩ ⟨"ArrowClasses$Graph", "take", "(II)V"⟩ : Cond) ∈ vzB := vzB_in3 (List.mem_of_getElem? (i := 20) rfl)
theorem wd_code_G_take : (.code ⟨"ArrowClasses$Graph", "take", "(II)V"⟩ prog_2_method_5_code 3 none : Cond) ∈ vzB := vzB_in3 (List.mem_of_getElem? (i := 21) rfl)
theorem wd_link_L_30 : (.methodLink "ArrowClassesLaw" 30 ⟨"ArrowClasses", "turn", "(II)Z"⟩ : Cond) ∈ vzB := vzB_in3 (List.mem_of_getElem? (i := 22) rfl)
theorem wd_inst_A_turn : (.instanceMethod ⟨"ArrowClasses", "turn", "(II)Z"⟩ : Cond) ∈ vzB := vzB_in3 (List.mem_of_getElem? (i := 23) rfl)
theorem wd_sel_A_turn : (.selects "ArrowClasses" ⟨"ArrowClasses", "turn", "(II)Z"⟩ ⟨"ArrowClasses", "turn", "(II)Z"⟩ : Cond) ∈ vzB := vzB_in3 (List.mem_of_getElem? (i := 24) rfl)
theorem wd_code_A_turn : (.code ⟨"ArrowClasses", "turn", "(II)Z"⟩ prog_1_method_4_code 3 (some .boolean) : Cond) ∈ vzB := vzB_in3 (List.mem_of_getElem? (i := 25) rfl)
theorem wd_link_L_34 : (.methodLink "ArrowClassesLaw" 34 ⟨"ArrowClasses", "drawn", "(II)Z"⟩ : Cond) ∈ vzB := vzB_in3 (List.mem_of_getElem? (i := 26) rfl)
theorem wd_inst_A_drawn : (.instanceMethod ⟨"ArrowClasses", "drawn", "(II)Z"⟩ : Cond) ∈ vzB := vzB_in3 (List.mem_of_getElem? (i := 27) rfl)
theorem wd_sel_A_drawn : (.selects "ArrowClasses" ⟨"ArrowClasses", "drawn", "(II)Z"⟩ ⟨"ArrowClasses", "drawn", "(II)Z"⟩ : Cond) ∈ vzB := vzB_in3 (List.mem_of_getElem? (i := 28) rfl)
theorem wd_code_A_drawn : (.code ⟨"ArrowClasses", "drawn", "(II)Z"⟩ prog_1_method_5_code 3 (some .boolean) : Cond) ∈ vzB := vzB_in3 (List.mem_of_getElem? (i := 29) rfl)
theorem wd_link_L_38 : (.methodLink "ArrowClassesLaw" 38 ⟨"ArrowClasses", "parents", "(I)I"⟩ : Cond) ∈ vzB := vzB_in3 (List.mem_of_getElem? (i := 30) rfl)
theorem wd_inst_A_parents : (.instanceMethod ⟨"ArrowClasses", "parents", "(I)I"⟩ : Cond) ∈ vzB := vzB_in3 (List.mem_of_getElem? (i := 31) rfl)
theorem wd_sel_A_parents : (.selects "ArrowClasses" ⟨"ArrowClasses", "parents", "(I)I"⟩ ⟨"ArrowClasses", "parents", "(I)I"⟩ : Cond) ∈ vzB := vzB_in3 (List.mem_of_getElem? (i := 32) rfl)
theorem wd_code_A_parents : (.code ⟨"ArrowClasses", "parents", "(I)I"⟩ prog_1_method_6_code 2 (some .int) : Cond) ∈ vzB := vzB_in3 (List.mem_of_getElem? (i := 33) rfl)
theorem wd_link_L_43 : (.methodLink "ArrowClassesLaw" 43 ⟨"ArrowClasses", "reached", "(I)I"⟩ : Cond) ∈ vzB := vzB_in3 (List.mem_of_getElem? (i := 34) rfl)
theorem wd_inst_A_reached : (.instanceMethod ⟨"ArrowClasses", "reached", "(I)I"⟩ : Cond) ∈ vzB := vzB_in3 (List.mem_of_getElem? (i := 35) rfl)
theorem wd_sel_A_reached : (.selects "ArrowClasses" ⟨"ArrowClasses", "reached", "(I)I"⟩ ⟨"ArrowClasses", "reached", "(I)I"⟩ : Cond) ∈ vzB := vzB_in3 (List.mem_of_getElem? (i := 36) rfl)
theorem wd_code_A_reached : (.code ⟨"ArrowClasses", "reached", "(I)I"⟩ prog_1_method_7_code 2 (some .int) : Cond) ∈ vzB := vzB_in3 (List.mem_of_getElem? (i := 37) rfl)
theorem wd_link_L_47 : (.methodLink "ArrowClassesLaw" 47 ⟨"ArrowClasses", "around", "(I)I"⟩ : Cond) ∈ vzB := vzB_in3 (List.mem_of_getElem? (i := 38) rfl)
theorem wd_inst_A_around : (.instanceMethod ⟨"ArrowClasses", "around", "(I)I"⟩ : Cond) ∈ vzB := vzB_in3 (List.mem_of_getElem? (i := 39) rfl)
theorem wd_sel_A_around : (.selects "ArrowClasses" ⟨"ArrowClasses", "around", "(I)I"⟩ ⟨"ArrowClasses", "around", "(I)I"⟩ : Cond) ∈ vzB := vzB_in4 (List.mem_of_getElem? (i := 0) rfl)
theorem wd_code_A_around : (.code ⟨"ArrowClasses", "around", "(I)I"⟩ prog_1_method_8_code 4 (some .int) : Cond) ∈ vzB := vzB_in4 (List.mem_of_getElem? (i := 1) rfl)
theorem wd_link_L_51 : (.methodLink "ArrowClassesLaw" 51 ⟨"ArrowClasses", "collisions", "()I"⟩ : Cond) ∈ vzB := vzB_in4 (List.mem_of_getElem? (i := 2) rfl)
theorem wd_inst_A_collisions : (.instanceMethod ⟨"ArrowClasses", "collisions", "()I"⟩ : Cond) ∈ vzB := vzB_in4 (List.mem_of_getElem? (i := 3) rfl)
theorem wd_sel_A_collisions : (.selects "ArrowClasses" ⟨"ArrowClasses", "collisions", "()I"⟩ ⟨"ArrowClasses", "collisions", "()I"⟩ : Cond) ∈ vzB := vzB_in4 (List.mem_of_getElem? (i := 4) rfl)
theorem wd_code_A_collisions : (.code ⟨"ArrowClasses", "collisions", "()I"⟩ prog_1_method_9_code 4 (some .int) : Cond) ∈ vzB := vzB_in4 (List.mem_of_getElem? (i := 5) rfl)
theorem wd_link_A_76 : (.methodLink "ArrowClasses" 76 ⟨"ArrowClasses$Graph", "strangers", "(II)I"⟩ : Cond) ∈ vzB := vzB_in4 (List.mem_of_getElem? (i := 6) rfl)
theorem wd_link_A_80 : (.methodLink "ArrowClasses" 80 ⟨"java/lang/Integer", "bitCount", "(I)I"⟩ : Cond) ∈ vzB := vzB_in4 (List.mem_of_getElem? (i := 7) rfl)
theorem wd_link_L_56 : (.methodLink "ArrowClassesLaw" 56 ⟨"ArrowClasses", "covered", "(II)Z"⟩ : Cond) ∈ vzB := vzB_in4 (List.mem_of_getElem? (i := 8) rfl)
theorem wd_inst_A_covered : (.instanceMethod ⟨"ArrowClasses", "covered", "(II)Z"⟩ : Cond) ∈ vzB := vzB_in4 (List.mem_of_getElem? (i := 9) rfl)
theorem wd_sel_A_covered : (.selects "ArrowClasses" ⟨"ArrowClasses", "covered", "(II)Z"⟩ ⟨"ArrowClasses", "covered", "(II)Z"⟩ : Cond) ∈ vzB := vzB_in4 (List.mem_of_getElem? (i := 10) rfl)
theorem wd_code_A_covered : (.code ⟨"ArrowClasses", "covered", "(II)Z"⟩ prog_1_method_10_code 3 (some .boolean) : Cond) ∈ vzB := vzB_in4 (List.mem_of_getElem? (i := 11) rfl)
theorem wd_link_A_85 : (.methodLink "ArrowClasses" 85 ⟨"ArrowClasses", "drawn", "(II)Z"⟩ : Cond) ∈ vzB := vzB_in4 (List.mem_of_getElem? (i := 12) rfl)
theorem wd_link_L_60 : (.methodLink "ArrowClassesLaw" 60 ⟨"ArrowClasses", "separated", "(III)Z"⟩ : Cond) ∈ vzB := vzB_in4 (List.mem_of_getElem? (i := 13) rfl)
theorem wd_inst_A_separated : (.instanceMethod ⟨"ArrowClasses", "separated", "(III)Z"⟩ : Cond) ∈ vzB := vzB_in4 (List.mem_of_getElem? (i := 14) rfl)
theorem wd_sel_A_separated : (.selects "ArrowClasses" ⟨"ArrowClasses", "separated", "(III)Z"⟩ ⟨"ArrowClasses", "separated", "(III)Z"⟩ : Cond) ∈ vzB := vzB_in4 (List.mem_of_getElem? (i := 15) rfl)
theorem wd_code_A_separated : (.code ⟨"ArrowClasses", "separated", "(III)Z"⟩ prog_1_method_11_code 4 (some .boolean) : Cond) ∈ vzB := vzB_in4 (List.mem_of_getElem? (i := 16) rfl)
theorem wd_link_A_87 : (.methodLink "ArrowClasses" 87 ⟨"ArrowClasses$Graph", "openFrom", "(II)I"⟩ : Cond) ∈ vzB := vzB_in4 (List.mem_of_getElem? (i := 17) rfl)
theorem wd_inst_G_openFrom : (.instanceMethod ⟨"ArrowClasses$Graph", "openFrom", "(II)I"⟩ : Cond) ∈ vzB := vzB_in4 (List.mem_of_getElem? (i := 18) rfl)
theorem wd_sel_G_openFrom : (.selects "ArrowClasses$Graph" ⟨"ArrowClasses$Graph", "openFrom", "(II)I"⟩ ⟨"ArrowClasses$Graph", "openFrom", "(II)I"⟩ : Cond) ∈ vzB := vzB_in4 (List.mem_of_getElem? (i := 19) rfl)
theorem wd_code_G_openFrom : (.code ⟨"ArrowClasses$Graph", "openFrom", "(II)I"⟩ prog_2_method_12_code 11 (some .int) : Cond) ∈ vzB := vzB_in4 (List.mem_of_getElem? (i := 20) rfl)
theorem wd_link_L_65 : (.methodLink "ArrowClassesLaw" 65 ⟨"ArrowClasses", "separator", "(II)I"⟩ : Cond) ∈ vzB := vzB_in4 (List.mem_of_getElem? (i := 21) rfl)
theorem wd_inst_A_separator : (.instanceMethod ⟨"ArrowClasses", "separator", "(II)I"⟩ : Cond) ∈ vzB := vzB_in4 (List.mem_of_getElem? (i := 22) rfl)
theorem wd_sel_A_separator : (.selects "ArrowClasses" ⟨"ArrowClasses", "separator", "(II)I"⟩ ⟨"ArrowClasses", "separator", "(II)I"⟩ : Cond) ∈ vzB := vzB_in4 (List.mem_of_getElem? (i := 23) rfl)
theorem wd_code_A_separator : (.code ⟨"ArrowClasses", "separator", "(II)I"⟩ prog_1_method_12_code 7 (some .int) : Cond) ∈ vzB := vzB_in4 (List.mem_of_getElem? (i := 24) rfl)
theorem wd_link_A_90 : (.methodLink "ArrowClasses" 90 ⟨"ArrowClasses", "separated", "(III)Z"⟩ : Cond) ∈ vzB := vzB_in4 (List.mem_of_getElem? (i := 25) rfl)
theorem wd_link_L_70 : (.methodLink "ArrowClassesLaw" 70 ⟨"ArrowClasses", "separations", "()I"⟩ : Cond) ∈ vzB := vzB_in4 (List.mem_of_getElem? (i := 26) rfl)
theorem wd_inst_A_separations : (.instanceMethod ⟨"ArrowClasses", "separations", "()I"⟩ : Cond) ∈ vzB := vzB_in4 (List.mem_of_getElem? (i := 27) rfl)
theorem wd_sel_A_separations : (.selects "ArrowClasses" ⟨"ArrowClasses", "separations", "()I"⟩ ⟨"ArrowClasses", "separations", "()I"⟩ : Cond) ∈ vzB := vzB_in4 (List.mem_of_getElem? (i := 28) rfl)
theorem wd_code_A_separations : (.code ⟨"ArrowClasses", "separations", "()I"⟩ prog_1_method_13_code 3 (some .int) : Cond) ∈ vzB := vzB_in4 (List.mem_of_getElem? (i := 29) rfl)
theorem wd_link_A_94 : (.methodLink "ArrowClasses" 94 ⟨"ArrowClasses", "separationsBy", "(I)I"⟩ : Cond) ∈ vzB := vzB_in4 (List.mem_of_getElem? (i := 30) rfl)
theorem wd_sel_A_separationsBy : (.selects "ArrowClasses" ⟨"ArrowClasses", "separationsBy", "(I)I"⟩ ⟨"ArrowClasses", "separationsBy", "(I)I"⟩ : Cond) ∈ vzB := vzB_in4 (List.mem_of_getElem? (i := 31) rfl)
theorem wd_inst_A_separationsBy : (.instanceMethod ⟨"ArrowClasses", "separationsBy", "(I)I"⟩ : Cond) ∈ vzB := vzB_in4 (List.mem_of_getElem? (i := 32) rfl)
theorem wd_code_A_separationsBy : (.code ⟨"ArrowClasses", "separationsBy", "(I)I"⟩ prog_1_method_24_code 5 (some .int) : Cond) ∈ vzB := vzB_in4 (List.mem_of_getElem? (i := 33) rfl)
theorem wd_link_L_74 : (.methodLink "ArrowClassesLaw" 74 ⟨"ArrowClasses", "edge", "(II)I"⟩ : Cond) ∈ vzB := vzB_in4 (List.mem_of_getElem? (i := 34) rfl)
theorem wd_inst_A_edge : (.instanceMethod ⟨"ArrowClasses", "edge", "(II)I"⟩ : Cond) ∈ vzB := vzB_in4 (List.mem_of_getElem? (i := 35) rfl)
theorem wd_sel_A_edge : (.selects "ArrowClasses" ⟨"ArrowClasses", "edge", "(II)I"⟩ ⟨"ArrowClasses", "edge", "(II)I"⟩ : Cond) ∈ vzB := vzB_in4 (List.mem_of_getElem? (i := 36) rfl)
theorem wd_code_A_edge : (.code ⟨"ArrowClasses", "edge", "(II)I"⟩ prog_1_method_14_code 3 (some .int) : Cond) ∈ vzB := vzB_in4 (List.mem_of_getElem? (i := 37) rfl)
theorem wd_link_A_97 : (.methodLink "ArrowClasses" 97 ⟨"ArrowClasses$Kindred", "someHas", "(II)Z"⟩ : Cond) ∈ vzB := vzB_in4 (List.mem_of_getElem? (i := 38) rfl)
theorem wd_inst_K_someHas : (.instanceMethod ⟨"ArrowClasses$Kindred", "someHas", "(II)Z"⟩ : Cond) ∈ vzB := vzB_in4 (List.mem_of_getElem? (i := 39) rfl)
theorem wd_sel_K_someHas : (.selects "ArrowClasses$Kindred" ⟨"ArrowClasses$Kindred", "someHas", "(II)Z"⟩ ⟨"ArrowClasses$Kindred", "someHas", "(II)Z"⟩ : Cond) ∈ vzB := vzB_in5 (List.mem_of_getElem? (i := 0) rfl)
theorem wd_code_K_someHas : (.code ⟨"ArrowClasses$Kindred", "someHas", "(II)Z"⟩ prog_3_method_5_code 4 (some .boolean) : Cond) ∈ vzB := vzB_in5 (List.mem_of_getElem? (i := 1) rfl)
theorem wd_link_K_68 : (.methodLink "ArrowClasses$Kindred" 68 ⟨"ArrowClasses$Kindred", "gather", "()V"⟩ : Cond) ∈ vzB := vzB_in5 (List.mem_of_getElem? (i := 2) rfl)
theorem wd_sel_K_gather : (.selects "ArrowClasses$Kindred" ⟨"ArrowClasses$Kindred", "gather", "()V"⟩ ⟨"ArrowClasses$Kindred", "gather", "()V"⟩ : Cond) ∈ vzB := vzB_in5 (List.mem_of_getElem? (i := 3) rfl)
theorem wd_inst_K_gather : (.instanceMethod ⟨"ArrowClasses$Kindred", "gather", "()V"⟩ : Cond) ∈ vzB := vzB_in5 (List.mem_of_getElem? (i := 4) rfl)
theorem wd_code_K_gather : (.code ⟨"ArrowClasses$Kindred", "gather", "()V"⟩ prog_3_method_13_code 2 none : Cond) ∈ vzB := vzB_in5 (List.mem_of_getElem? (i := 5) rfl)
theorem wd_link_K_103 : (.methodLink "ArrowClasses$Kindred" 103 ⟨"ArrowClasses$Kindred", "isMember", "(I)Z"⟩ : Cond) ∈ vzB := vzB_in5 (List.mem_of_getElem? (i := 6) rfl)
theorem wd_sel_K_isMember : (.selects "ArrowClasses$Kindred" ⟨"ArrowClasses$Kindred", "isMember", "(I)Z"⟩ ⟨"ArrowClasses$Kindred", "isMember", "(I)Z"⟩ : Cond) ∈ vzB := vzB_in5 (List.mem_of_getElem? (i := 7) rfl)
theorem wd_inst_K_isMember : (.instanceMethod ⟨"ArrowClasses$Kindred", "isMember", "(I)Z"⟩ : Cond) ∈ vzB := vzB_in5 (List.mem_of_getElem? (i := 8) rfl)
theorem wd_code_K_isMember : (.code ⟨"ArrowClasses$Kindred", "isMember", "(I)Z"⟩ prog_3_method_14_code 3 (some .boolean) : Cond) ∈ vzB := vzB_in5 (List.mem_of_getElem? (i := 9) rfl)
theorem wd_link_K_107 : (.methodLink "ArrowClasses$Kindred" 107 ⟨"ArrowClasses$Graph", "empty", "()V"⟩ : Cond) ∈ vzB := vzB_in5 (List.mem_of_getElem? (i := 10) rfl)
theorem wd_inst_G_empty : (.instanceMethod ⟨"ArrowClasses$Graph", "empty", "()V"⟩ : Cond) ∈ vzB := vzB_in5 (List.mem_of_getElem? (i := 11) rfl)
theorem wd_sel_G_empty : (.selects "ArrowClasses$Graph" ⟨"ArrowClasses$Graph", "empty", "()V"⟩ ⟨"ArrowClasses$Graph", "empty", "()V"⟩ : Cond) ∈ vzB := vzB_in5 (List.mem_of_getElem? (i := 12) rfl)
theorem wd_code_G_empty : (.code ⟨"ArrowClasses$Graph", "empty", "()V"⟩ prog_2_method_6_code 2 none : Cond) ∈ vzB := vzB_in5 (List.mem_of_getElem? (i := 13) rfl)
theorem wd_link_K_100 : (.methodLink "ArrowClasses$Kindred" 100 ⟨"ArrowClasses$Kindred", "bitAt", "(I)I"⟩ : Cond) ∈ vzB := vzB_in5 (List.mem_of_getElem? (i := 14) rfl)
theorem wd_sel_K_bitAt : (.selects "ArrowClasses$Kindred" ⟨"ArrowClasses$Kindred", "bitAt", "(I)I"⟩ ⟨"ArrowClasses$Kindred", "bitAt", "(I)I"⟩ : Cond) ∈ vzB := vzB_in5 (List.mem_of_getElem? (i := 15) rfl)
theorem wd_inst_K_bitAt : (.instanceMethod ⟨"ArrowClasses$Kindred", "bitAt", "(I)I"⟩ : Cond) ∈ vzB := vzB_in5 (List.mem_of_getElem? (i := 16) rfl)
theorem wd_code_K_bitAt : (.code ⟨"ArrowClasses$Kindred", "bitAt", "(I)I"⟩ prog_3_method_12_code 2 (some .int) : Cond) ∈ vzB := vzB_in5 (List.mem_of_getElem? (i := 17) rfl)
theorem wd_link_K_110 : (.methodLink "ArrowClasses$Kindred" 110 ⟨"ArrowClasses$Graph", "put", "(II)V"⟩ : Cond) ∈ vzB := vzB_in5 (List.mem_of_getElem? (i := 18) rfl)
theorem wd_link_K_113 : (.methodLink "ArrowClasses$Kindred" 113 ⟨"ArrowClasses$Graph", "collidesLike", "(LArrowClasses$Graph;)Z"⟩ : Cond) ∈ vzB := vzB_in5 (List.mem_of_getElem? (i := 19) rfl)
theorem wd_inst_G_collidesLike : (.instanceMethod ⟨"ArrowClasses$Graph", "collidesLike", "(LArrowClasses$Graph;)Z"⟩ : Cond) ∈ vzB := vzB_in5 (List.mem_of_getElem? (i := 20) rfl)
theorem wd_sel_G_collidesLike : (.selects "ArrowClasses$Graph" ⟨"ArrowClasses$Graph", "collidesLike", "(LArrowClasses$Graph;)Z"⟩ ⟨"ArrowClasses$Graph", "collidesLike", "(LArrowClasses$Graph;)Z"⟩ : Cond) ∈ vzB := vzB_in5 (List.mem_of_getElem? (i := 21) rfl)
theorem wd_code_G_collidesLike : (.code ⟨"ArrowClasses$Graph", "collidesLike", "(LArrowClasses$Graph;)Z"⟩ prog_2_method_11_code 4 (some .boolean) : Cond) ∈ vzB := vzB_in5 (List.mem_of_getElem? (i := 22) rfl)
theorem wd_link_G_35 : (.methodLink "ArrowClasses$Graph" 35 ⟨"ArrowClasses$Graph", "strangers", "(II)I"⟩ : Cond) ∈ vzB := vzB_in5 (List.mem_of_getElem? (i := 23) rfl)
theorem wd_link_K_117 : (.methodLink "ArrowClasses$Kindred" 117 ⟨"ArrowClasses$Graph", "hasRing", "()Z"⟩ : Cond) ∈ vzB := vzB_in5 (List.mem_of_getElem? (i := 24) rfl)
theorem wd_inst_G_hasRing : (.instanceMethod ⟨"ArrowClasses$Graph", "hasRing", "()Z"⟩ : Cond) ∈ vzB := vzB_in5 (List.mem_of_getElem? (i := 25) rfl)
theorem wd_sel_G_hasRing : (.selects "ArrowClasses$Graph" ⟨"ArrowClasses$Graph", "hasRing", "()Z"⟩ ⟨"ArrowClasses$Graph", "hasRing", "()Z"⟩ : Cond) ∈ vzB := vzB_in5 (List.mem_of_getElem? (i := 26) rfl)
theorem wd_code_G_hasRing : (.code ⟨"ArrowClasses$Graph", "hasRing", "()Z"⟩ prog_2_method_9_code 4 (some .boolean) : Cond) ∈ vzB := vzB_in5 (List.mem_of_getElem? (i := 27) rfl)
theorem wd_link_K_74 : (.methodLink "ArrowClasses$Kindred" 74 ⟨"ArrowClasses$Kindred", "bitOf", "(II)I"⟩ : Cond) ∈ vzB := vzB_in5 (List.mem_of_getElem? (i := 28) rfl)
theorem wd_sel_K_bitOf : (.selects "ArrowClasses$Kindred" ⟨"ArrowClasses$Kindred", "bitOf", "(II)I"⟩ ⟨"ArrowClasses$Kindred", "bitOf", "(II)I"⟩ : Cond) ∈ vzB := vzB_in5 (List.mem_of_getElem? (i := 29) rfl)
theorem wd_inst_K_bitOf : (.instanceMethod ⟨"ArrowClasses$Kindred", "bitOf", "(II)I"⟩ : Cond) ∈ vzB := vzB_in5 (List.mem_of_getElem? (i := 30) rfl)
theorem wd_code_K_bitOf : (.code ⟨"ArrowClasses$Kindred", "bitOf", "(II)I"⟩ prog_3_method_11_code 4 (some .int) : Cond) ∈ vzB := vzB_in5 (List.mem_of_getElem? (i := 31) rfl)
theorem wd_link_K_92 : (.methodLink "ArrowClasses$Kindred" 92 ⟨"java/lang/Math", "min", "(II)I"⟩ : Cond) ∈ vzB := vzB_in5 (List.mem_of_getElem? (i := 32) rfl)
theorem wd_stat_H_min : (.static ⟨"java/lang/Math", "min", "(II)I"⟩ : Cond) ∈ vzB := vzB_in5 (List.mem_of_getElem? (i := 33) rfl)
theorem wd_code_H_min : (.code ⟨"java/lang/Math", "min", "(II)I"⟩ prog_7_method_69_code 2 (some .int) : Cond) ∈ vzB := vzB_in5 (List.mem_of_getElem? (i := 34) rfl)
theorem wd_link_K_97 : (.methodLink "ArrowClasses$Kindred" 97 ⟨"java/lang/Math", "max", "(II)I"⟩ : Cond) ∈ vzB := vzB_in5 (List.mem_of_getElem? (i := 35) rfl)
theorem wd_stat_H_max : (.static ⟨"java/lang/Math", "max", "(II)I"⟩ : Cond) ∈ vzB := vzB_in5 (List.mem_of_getElem? (i := 36) rfl)
theorem wd_code_H_max : (.code ⟨"java/lang/Math", "max", "(II)I"⟩ prog_7_method_65_code 2 (some .int) : Cond) ∈ vzB := vzB_in5 (List.mem_of_getElem? (i := 37) rfl)
theorem wd_link_L_78 : (.methodLink "ArrowClassesLaw" 78 ⟨"ArrowClasses", "loose", "()I"⟩ : Cond) ∈ vzB := vzB_in5 (List.mem_of_getElem? (i := 38) rfl)
theorem wd_inst_A_loose : (.instanceMethod ⟨"ArrowClasses", "loose", "()I"⟩ : Cond) ∈ vzB := vzB_in5 (List.mem_of_getElem? (i := 39) rfl)
theorem wd_sel_A_loose : (.selects "ArrowClasses" ⟨"ArrowClasses", "loose", "()I"⟩ ⟨"ArrowClasses", "loose", "()I"⟩ : Cond) ∈ vzB := vzB_in6 (List.mem_of_getElem? (i := 0) rfl)
theorem wd_code_A_loose : (.code ⟨"ArrowClasses", "loose", "()I"⟩ prog_1_method_15_code 1 (some .int) : Cond) ∈ vzB := vzB_in6 (List.mem_of_getElem? (i := 1) rfl)
theorem wd_link_A_100 : (.methodLink "ArrowClasses" 100 ⟨"ArrowClasses$Kindred", "loosePairs", "()I"⟩ : Cond) ∈ vzB := vzB_in6 (List.mem_of_getElem? (i := 2) rfl)
theorem wd_inst_K_loosePairs : (.instanceMethod ⟨"ArrowClasses$Kindred", "loosePairs", "()I"⟩ : Cond) ∈ vzB := vzB_in6 (List.mem_of_getElem? (i := 3) rfl)
theorem wd_sel_K_loosePairs : (.selects "ArrowClasses$Kindred" ⟨"ArrowClasses$Kindred", "loosePairs", "()I"⟩ ⟨"ArrowClasses$Kindred", "loosePairs", "()I"⟩ : Cond) ∈ vzB := vzB_in6 (List.mem_of_getElem? (i := 4) rfl)
theorem wd_code_K_loosePairs : (.code ⟨"ArrowClasses$Kindred", "loosePairs", "()I"⟩ prog_3_method_7_code 1 (some .int) : Cond) ∈ vzB := vzB_in6 (List.mem_of_getElem? (i := 5) rfl)
theorem wd_link_K_86 : (.methodLink "ArrowClasses$Kindred" 86 ⟨"java/lang/Integer", "bitCount", "(I)I"⟩ : Cond) ∈ vzB := vzB_in6 (List.mem_of_getElem? (i := 6) rfl)
theorem wd_link_L_82 : (.methodLink "ArrowClassesLaw" 82 ⟨"ArrowClasses", "know", "(II)Z"⟩ : Cond) ∈ vzB := vzB_in6 (List.mem_of_getElem? (i := 7) rfl)
theorem wd_inst_A_know : (.instanceMethod ⟨"ArrowClasses", "know", "(II)Z"⟩ : Cond) ∈ vzB := vzB_in6 (List.mem_of_getElem? (i := 8) rfl)
theorem wd_sel_A_know : (.selects "ArrowClasses" ⟨"ArrowClasses", "know", "(II)Z"⟩ ⟨"ArrowClasses", "know", "(II)Z"⟩ : Cond) ∈ vzB := vzB_in6 (List.mem_of_getElem? (i := 9) rfl)
theorem wd_code_A_know : (.code ⟨"ArrowClasses", "know", "(II)Z"⟩ prog_1_method_16_code 3 (some .boolean) : Cond) ∈ vzB := vzB_in6 (List.mem_of_getElem? (i := 10) rfl)
theorem wd_link_A_103 : (.methodLink "ArrowClasses" 103 ⟨"ArrowClasses$Kindred", "fix", "(II)V"⟩ : Cond) ∈ vzB := vzB_in6 (List.mem_of_getElem? (i := 11) rfl)
theorem wd_inst_K_fix : (.instanceMethod ⟨"ArrowClasses$Kindred", "fix", "(II)V"⟩ : Cond) ∈ vzB := vzB_in6 (List.mem_of_getElem? (i := 12) rfl)
theorem wd_sel_K_fix : (.selects "ArrowClasses$Kindred" ⟨"ArrowClasses$Kindred", "fix", "(II)V"⟩ ⟨"ArrowClasses$Kindred", "fix", "(II)V"⟩ : Cond) ∈ vzB := vzB_in6 (List.mem_of_getElem? (i := 13) rfl)
theorem wd_code_K_fix : (.code ⟨"ArrowClasses$Kindred", "fix", "(II)V"⟩ prog_3_method_9_code 4 none : Cond) ∈ vzB := vzB_in6 (List.mem_of_getElem? (i := 14) rfl)
theorem wd_link_L_86 : (.methodLink "ArrowClassesLaw" 86 ⟨"ArrowClasses", "forget", "()I"⟩ : Cond) ∈ vzB := vzB_in6 (List.mem_of_getElem? (i := 15) rfl)
theorem wd_inst_A_forget : (.instanceMethod ⟨"ArrowClasses", "forget", "()I"⟩ : Cond) ∈ vzB := vzB_in6 (List.mem_of_getElem? (i := 16) rfl)
theorem wd_sel_A_forget : (.selects "ArrowClasses" ⟨"ArrowClasses", "forget", "()I"⟩ ⟨"ArrowClasses", "forget", "()I"⟩ : Cond) ∈ vzB := vzB_in6 (List.mem_of_getElem? (i := 17) rfl)
theorem wd_code_A_forget : (.code ⟨"ArrowClasses", "forget", "()I"⟩ prog_1_method_17_code 1 (some .int) : Cond) ∈ vzB := vzB_in6 (List.mem_of_getElem? (i := 18) rfl)
theorem wd_link_A_106 : (.methodLink "ArrowClasses" 106 ⟨"ArrowClasses$Kindred", "unfix", "()I"⟩ : Cond) ∈ vzB := vzB_in6 (List.mem_of_getElem? (i := 19) rfl)
theorem wd_inst_K_unfix : (.instanceMethod ⟨"ArrowClasses$Kindred", "unfix", "()I"⟩ : Cond) ∈ vzB := vzB_in6 (List.mem_of_getElem? (i := 20) rfl)
theorem wd_sel_K_unfix : (.selects "ArrowClasses$Kindred" ⟨"ArrowClasses$Kindred", "unfix", "()I"⟩ ⟨"ArrowClasses$Kindred", "unfix", "()I"⟩ : Cond) ∈ vzB := vzB_in6 (List.mem_of_getElem? (i := 21) rfl)
theorem wd_code_K_unfix : (.code ⟨"ArrowClasses$Kindred", "unfix", "()I"⟩ prog_3_method_10_code 2 (some .int) : Cond) ∈ vzB := vzB_in6 (List.mem_of_getElem? (i := 22) rfl)
theorem wd_link_L_90 : (.methodLink "ArrowClassesLaw" 90 ⟨"ArrowClasses", "members", "()I"⟩ : Cond) ∈ vzB := vzB_in6 (List.mem_of_getElem? (i := 23) rfl)
theorem wd_inst_A_members : (.instanceMethod ⟨"ArrowClasses", "members", "()I"⟩ : Cond) ∈ vzB := vzB_in6 (List.mem_of_getElem? (i := 24) rfl)
theorem wd_sel_A_members : (.selects "ArrowClasses" ⟨"ArrowClasses", "members", "()I"⟩ ⟨"ArrowClasses", "members", "()I"⟩ : Cond) ∈ vzB := vzB_in6 (List.mem_of_getElem? (i := 25) rfl)
theorem wd_code_A_members : (.code ⟨"ArrowClasses", "members", "()I"⟩ prog_1_method_18_code 1 (some .int) : Cond) ∈ vzB := vzB_in6 (List.mem_of_getElem? (i := 26) rfl)
theorem wd_link_A_109 : (.methodLink "ArrowClasses" 109 ⟨"ArrowClasses$Kindred", "size", "()I"⟩ : Cond) ∈ vzB := vzB_in6 (List.mem_of_getElem? (i := 27) rfl)
theorem wd_inst_K_size : (.instanceMethod ⟨"ArrowClasses$Kindred", "size", "()I"⟩ : Cond) ∈ vzB := vzB_in6 (List.mem_of_getElem? (i := 28) rfl)
theorem wd_sel_K_size : (.selects "ArrowClasses$Kindred" ⟨"ArrowClasses$Kindred", "size", "()I"⟩ ⟨"ArrowClasses$Kindred", "size", "()I"⟩ : Cond) ∈ vzB := vzB_in6 (List.mem_of_getElem? (i := 29) rfl)
theorem wd_code_K_size : (.code ⟨"ArrowClasses$Kindred", "size", "()I"⟩ prog_3_method_4_code 1 (some .int) : Cond) ∈ vzB := vzB_in6 (List.mem_of_getElem? (i := 30) rfl)
theorem wd_link_L_94 : (.methodLink "ArrowClassesLaw" 94 ⟨"ArrowClasses", "first", "(II)Z"⟩ : Cond) ∈ vzB := vzB_in6 (List.mem_of_getElem? (i := 31) rfl)
theorem wd_inst_A_first : (.instanceMethod ⟨"ArrowClasses", "first", "(II)Z"⟩ : Cond) ∈ vzB := vzB_in6 (List.mem_of_getElem? (i := 32) rfl)
theorem wd_sel_A_first : (.selects "ArrowClasses" ⟨"ArrowClasses", "first", "(II)Z"⟩ ⟨"ArrowClasses", "first", "(II)Z"⟩ : Cond) ∈ vzB := vzB_in6 (List.mem_of_getElem? (i := 33) rfl)
theorem wd_code_A_first : (.code ⟨"ArrowClasses", "first", "(II)Z"⟩ prog_1_method_19_code 3 (some .boolean) : Cond) ∈ vzB := vzB_in6 (List.mem_of_getElem? (i := 34) rfl)
theorem wd_link_A_110 : (.methodLink "ArrowClasses" 110 ⟨"ArrowClasses$Kindred", "firstHas", "(II)Z"⟩ : Cond) ∈ vzB := vzB_in6 (List.mem_of_getElem? (i := 35) rfl)
theorem wd_inst_K_firstHas : (.instanceMethod ⟨"ArrowClasses$Kindred", "firstHas", "(II)Z"⟩ : Cond) ∈ vzB := vzB_in6 (List.mem_of_getElem? (i := 36) rfl)
theorem wd_sel_K_firstHas : (.selects "ArrowClasses$Kindred" ⟨"ArrowClasses$Kindred", "firstHas", "(II)Z"⟩ ⟨"ArrowClasses$Kindred", "firstHas", "(II)Z"⟩ : Cond) ∈ vzB := vzB_in6 (List.mem_of_getElem? (i := 37) rfl)
theorem wd_code_K_firstHas : (.code ⟨"ArrowClasses$Kindred", "firstHas", "(II)Z"⟩ prog_3_method_6_code 4 (some .boolean) : Cond) ∈ vzB := vzB_in6 (List.mem_of_getElem? (i := 38) rfl)
theorem wd_link_L_98 : (.methodLink "ArrowClassesLaw" 98 ⟨"ArrowClasses", "turned", "()I"⟩ : Cond) ∈ vzB := vzB_in6 (List.mem_of_getElem? (i := 39) rfl)
theorem wd_inst_A_turned : (.instanceMethod ⟨"ArrowClasses", "turned", "()I"⟩ : Cond) ∈ vzB := vzB_in7 (List.mem_of_getElem? (i := 0) rfl)
theorem wd_sel_A_turned : (.selects "ArrowClasses" ⟨"ArrowClasses", "turned", "()I"⟩ ⟨"ArrowClasses", "turned", "()I"⟩ : Cond) ∈ vzB := vzB_in7 (List.mem_of_getElem? (i := 1) rfl)
theorem wd_code_A_turned : (.code ⟨"ArrowClasses", "turned", "()I"⟩ prog_1_method_20_code 1 (some .int) : Cond) ∈ vzB := vzB_in7 (List.mem_of_getElem? (i := 2) rfl)
theorem wd_link_A_113 : (.methodLink "ArrowClasses" 113 ⟨"ArrowClasses$Kindred", "turnedInFirst", "()I"⟩ : Cond) ∈ vzB := vzB_in7 (List.mem_of_getElem? (i := 3) rfl)
theorem wd_inst_K_turnedInFirst : (.instanceMethod ⟨"ArrowClasses$Kindred", "turnedInFirst", "()I"⟩ : Cond) ∈ vzB := vzB_in7 (List.mem_of_getElem? (i := 4) rfl)
theorem wd_sel_K_turnedInFirst : (.selects "ArrowClasses$Kindred" ⟨"ArrowClasses$Kindred", "turnedInFirst", "()I"⟩ ⟨"ArrowClasses$Kindred", "turnedInFirst", "()I"⟩ : Cond) ∈ vzB := vzB_in7 (List.mem_of_getElem? (i := 5) rfl)
theorem wd_code_K_turnedInFirst : (.code ⟨"ArrowClasses$Kindred", "turnedInFirst", "()I"⟩ prog_3_method_8_code 1 (some .int) : Cond) ∈ vzB := vzB_in7 (List.mem_of_getElem? (i := 6) rfl)
theorem wd_link_L_9 : (.methodLink "ArrowClassesLaw" 9 ⟨"ArrowClassesLaw", "cell", "([II)I"⟩ : Cond) ∈ vzB := vzB_in7 (List.mem_of_getElem? (i := 7) rfl)
theorem wd_stat_L_cell : (.static ⟨"ArrowClassesLaw", "cell", "([II)I"⟩ : Cond) ∈ vzB := vzB_in7 (List.mem_of_getElem? (i := 8) rfl)
theorem wd_code_L_cell : (.code ⟨"ArrowClassesLaw", "cell", "([II)I"⟩ method_2_code 2 (some .int) : Cond) ∈ vzB := vzB_in7 (List.mem_of_getElem? (i := 9) rfl)
theorem wd_cl_L_18 : (.classLink "ArrowClassesLaw" 18 "ArrowClassesModel" : Cond) ∈ vzB := vzB_in7 (List.mem_of_getElem? (i := 10) rfl)
theorem wd_new_M : (.instantiable "ArrowClassesModel" 13 : Cond) ∈ vzB := vzB_in7 (List.mem_of_getElem? (i := 11) rfl)
theorem wd_link_L_20 : (.methodLink "ArrowClassesLaw" 20 ⟨"ArrowClassesModel", "<init>", "(I)V"⟩ : Cond) ∈ vzB := vzB_in7 (List.mem_of_getElem? (i := 12) rfl)
theorem wd_inst_M_init : (.instanceMethod ⟨"ArrowClassesModel", "<init>", "(I)V"⟩ : Cond) ∈ vzB := vzB_in7 (List.mem_of_getElem? (i := 13) rfl)
theorem wd_code_M_init : (.code ⟨"ArrowClassesModel", "<init>", "(I)V"⟩ prog_5_method_1_code 2 none : Cond) ∈ vzB := vzB_in7 (List.mem_of_getElem? (i := 14) rfl)
theorem wd_link_M_1 : (.methodLink "ArrowClassesModel" 1 ⟨"java/lang/Object", "<init>", "()V"⟩ : Cond) ∈ vzB := vzB_in7 (List.mem_of_getElem? (i := 15) rfl)
theorem wd_fld_M_41 : (.fieldLink "ArrowClassesModel" 41 "ArrowClassesModel" "nodes" "I" : Cond) ∈ vzB := vzB_in7 (List.mem_of_getElem? (i := 16) rfl)
theorem wd_fld_M_7 : (.fieldLink "ArrowClassesModel" 7 "ArrowClassesModel" "has" "[Z" : Cond) ∈ vzB := vzB_in7 (List.mem_of_getElem? (i := 17) rfl)
theorem wd_fld_M_13 : (.fieldLink "ArrowClassesModel" 13 "ArrowClassesModel" "known" "[Z" : Cond) ∈ vzB := vzB_in7 (List.mem_of_getElem? (i := 18) rfl)
theorem wd_fld_M_16 : (.fieldLink "ArrowClassesModel" 16 "ArrowClassesModel" "tried" "[Z" : Cond) ∈ vzB := vzB_in7 (List.mem_of_getElem? (i := 19) rfl)
theorem wd_fld_M_103 : (.fieldLink "ArrowClassesModel" 103 "ArrowClassesModel" "count" "I" : Cond) ∈ vzB := vzB_in7 (List.mem_of_getElem? (i := 20) rfl)
theorem wd_fld_M_19 : (.fieldLink "ArrowClassesModel" 19 "ArrowClassesModel" "having" "[I" : Cond) ∈ vzB := vzB_in7 (List.mem_of_getElem? (i := 21) rfl)
theorem wd_fld_M_23 : (.fieldLink "ArrowClassesModel" 23 "ArrowClassesModel" "best" "[Z" : Cond) ∈ vzB := vzB_in7 (List.mem_of_getElem? (i := 22) rfl)
theorem wd_fld_M_93 : (.fieldLink "ArrowClassesModel" 93 "ArrowClassesModel" "pairs" "I" : Cond) ∈ vzB := vzB_in7 (List.mem_of_getElem? (i := 23) rfl)
theorem wd_fld_M_26 : (.fieldLink "ArrowClassesModel" 26 "ArrowClassesModel" "low" "[I" : Cond) ∈ vzB := vzB_in7 (List.mem_of_getElem? (i := 24) rfl)
theorem wd_fld_M_29 : (.fieldLink "ArrowClassesModel" 29 "ArrowClassesModel" "high" "[I" : Cond) ∈ vzB := vzB_in7 (List.mem_of_getElem? (i := 25) rfl)
theorem wd_fld_M_32 : (.fieldLink "ArrowClassesModel" 32 "ArrowClassesModel" "path" "[I" : Cond) ∈ vzB := vzB_in7 (List.mem_of_getElem? (i := 26) rfl)
theorem wd_fld_M_35 : (.fieldLink "ArrowClassesModel" 35 "ArrowClassesModel" "next" "[I" : Cond) ∈ vzB := vzB_in7 (List.mem_of_getElem? (i := 27) rfl)
theorem wd_fld_M_38 : (.fieldLink "ArrowClassesModel" 38 "ArrowClassesModel" "reaches" "[I" : Cond) ∈ vzB := vzB_in7 (List.mem_of_getElem? (i := 28) rfl)
theorem wd_lay_M_nodes : (.lays "ArrowClassesModel" "ArrowClassesModel" "nodes" "I" : Cond) ∈ vzB := vzB_in7 (List.mem_of_getElem? (i := 29) rfl)
theorem wd_lay_M_has : (.lays "ArrowClassesModel" "ArrowClassesModel" "has" "[Z" : Cond) ∈ vzB := vzB_in7 (List.mem_of_getElem? (i := 30) rfl)
theorem wd_lay_M_known : (.lays "ArrowClassesModel" "ArrowClassesModel" "known" "[Z" : Cond) ∈ vzB := vzB_in7 (List.mem_of_getElem? (i := 31) rfl)
theorem wd_lay_M_tried : (.lays "ArrowClassesModel" "ArrowClassesModel" "tried" "[Z" : Cond) ∈ vzB := vzB_in7 (List.mem_of_getElem? (i := 32) rfl)
theorem wd_lay_M_count : (.lays "ArrowClassesModel" "ArrowClassesModel" "count" "I" : Cond) ∈ vzB := vzB_in7 (List.mem_of_getElem? (i := 33) rfl)
theorem wd_lay_M_having : (.lays "ArrowClassesModel" "ArrowClassesModel" "having" "[I" : Cond) ∈ vzB := vzB_in7 (List.mem_of_getElem? (i := 34) rfl)
theorem wd_lay_M_best : (.lays "ArrowClassesModel" "ArrowClassesModel" "best" "[Z" : Cond) ∈ vzB := vzB_in7 (List.mem_of_getElem? (i := 35) rfl)
theorem wd_lay_M_pairs : (.lays "ArrowClassesModel" "ArrowClassesModel" "pairs" "I" : Cond) ∈ vzB := vzB_in7 (List.mem_of_getElem? (i := 36) rfl)
theorem wd_lay_M_low : (.lays "ArrowClassesModel" "ArrowClassesModel" "low" "[I" : Cond) ∈ vzB := vzB_in7 (List.mem_of_getElem? (i := 37) rfl)
theorem wd_lay_M_high : (.lays "ArrowClassesModel" "ArrowClassesModel" "high" "[I" : Cond) ∈ vzB := vzB_in7 (List.mem_of_getElem? (i := 38) rfl)
theorem wd_lay_M_path : (.lays "ArrowClassesModel" "ArrowClassesModel" "path" "[I" : Cond) ∈ vzB := vzB_in7 (List.mem_of_getElem? (i := 39) rfl)
theorem wd_lay_M_next : (.lays "ArrowClassesModel" "ArrowClassesModel" "next" "[I" : Cond) ∈ vzB := vzB_in8 (List.mem_of_getElem? (i := 0) rfl)
theorem wd_lay_M_reaches : (.lays "ArrowClassesModel" "ArrowClassesModel" "reaches" "[I" : Cond) ∈ vzB := vzB_in8 (List.mem_of_getElem? (i := 1) rfl)
theorem wd_arr_boolean : (.arrayClass .boolean : Cond) ∈ vzB := vzB_in8 (List.mem_of_getElem? (i := 2) rfl)
theorem wd_link_L_25 : (.methodLink "ArrowClassesLaw" 25 ⟨"ArrowClassesModel", "arrow", "(II)Z"⟩ : Cond) ∈ vzB := vzB_in8 (List.mem_of_getElem? (i := 3) rfl)
theorem wd_inst_M_arrow : (.instanceMethod ⟨"ArrowClassesModel", "arrow", "(II)Z"⟩ : Cond) ∈ vzB := vzB_in8 (List.mem_of_getElem? (i := 4) rfl)
theorem wd_sel_M_arrow : (.selects "ArrowClassesModel" ⟨"ArrowClassesModel", "arrow", "(II)Z"⟩ ⟨"ArrowClassesModel", "arrow", "(II)Z"⟩ : Cond) ∈ vzB := vzB_in8 (List.mem_of_getElem? (i := 5) rfl)
theorem wd_code_M_arrow : (.code ⟨"ArrowClassesModel", "arrow", "(II)Z"⟩ prog_5_method_8_code 3 (some .boolean) : Cond) ∈ vzB := vzB_in8 (List.mem_of_getElem? (i := 6) rfl)
theorem wd_link_M_49 : (.methodLink "ArrowClassesModel" 49 ⟨"ArrowClassesModel", "areNodes", "(II)Z"⟩ : Cond) ∈ vzB := vzB_in8 (List.mem_of_getElem? (i := 7) rfl)
theorem wd_sel_M_areNodes : (.selects "ArrowClassesModel" ⟨"ArrowClassesModel", "areNodes", "(II)Z"⟩ ⟨"ArrowClassesModel", "areNodes", "(II)Z"⟩ : Cond) ∈ vzB := vzB_in8 (List.mem_of_getElem? (i := 8) rfl)
theorem wd_inst_M_areNodes : (.instanceMethod ⟨"ArrowClassesModel", "areNodes", "(II)Z"⟩ : Cond) ∈ vzB := vzB_in8 (List.mem_of_getElem? (i := 9) rfl)
theorem wd_code_M_areNodes : (.code ⟨"ArrowClassesModel", "areNodes", "(II)Z"⟩ prog_5_method_3_code 3 (some .boolean) : Cond) ∈ vzB := vzB_in8 (List.mem_of_getElem? (i := 10) rfl)
theorem wd_link_M_45 : (.methodLink "ArrowClassesModel" 45 ⟨"ArrowClassesModel", "isNode", "(I)Z"⟩ : Cond) ∈ vzB := vzB_in8 (List.mem_of_getElem? (i := 11) rfl)
theorem wd_sel_M_isNode : (.selects "ArrowClassesModel" ⟨"ArrowClassesModel", "isNode", "(I)Z"⟩ ⟨"ArrowClassesModel", "isNode", "(I)Z"⟩ : Cond) ∈ vzB := vzB_in8 (List.mem_of_getElem? (i := 12) rfl)
theorem wd_inst_M_isNode : (.instanceMethod ⟨"ArrowClassesModel", "isNode", "(I)Z"⟩ : Cond) ∈ vzB := vzB_in8 (List.mem_of_getElem? (i := 13) rfl)
theorem wd_code_M_isNode : (.code ⟨"ArrowClassesModel", "isNode", "(I)Z"⟩ prog_5_method_2_code 2 (some .boolean) : Cond) ∈ vzB := vzB_in8 (List.mem_of_getElem? (i := 14) rfl)
theorem wd_link_M_53 : (.methodLink "ArrowClassesModel" 53 ⟨"ArrowClassesModel", "joined", "(II)Z"⟩ : Cond) ∈ vzB := vzB_in8 (List.mem_of_getElem? (i := 15) rfl)
theorem wd_sel_M_joined : (.selects "ArrowClassesModel" ⟨"ArrowClassesModel", "joined", "(II)Z"⟩ ⟨"ArrowClassesModel", "joined", "(II)Z"⟩ : Cond) ∈ vzB := vzB_in8 (List.mem_of_getElem? (i := 16) rfl)
theorem wd_inst_M_joined : (.instanceMethod ⟨"ArrowClassesModel", "joined", "(II)Z"⟩ : Cond) ∈ vzB := vzB_in8 (List.mem_of_getElem? (i := 17) rfl)
theorem wd_code_M_joined : (.code ⟨"ArrowClassesModel", "joined", "(II)Z"⟩ prog_5_method_4_code 3 (some .boolean) : Cond) ∈ vzB := vzB_in8 (List.mem_of_getElem? (i := 18) rfl)
theorem wd_link_M_56 : (.methodLink "ArrowClassesModel" 56 ⟨"ArrowClassesModel", "arrows", "()I"⟩ : Cond) ∈ vzB := vzB_in8 (List.mem_of_getElem? (i := 19) rfl)
theorem wd_sel_M_arrows : (.selects "ArrowClassesModel" ⟨"ArrowClassesModel", "arrows", "()I"⟩ ⟨"ArrowClassesModel", "arrows", "()I"⟩ : Cond) ∈ vzB := vzB_in8 (List.mem_of_getElem? (i := 20) rfl)
theorem wd_inst_M_arrows : (.instanceMethod ⟨"ArrowClassesModel", "arrows", "()I"⟩ : Cond) ∈ vzB := vzB_in8 (List.mem_of_getElem? (i := 21) rfl)
theorem wd_code_M_arrows : (.code ⟨"ArrowClassesModel", "arrows", "()I"⟩ prog_5_method_5_code 3 (some .int) : Cond) ∈ vzB := vzB_in8 (List.mem_of_getElem? (i := 22) rfl)
theorem wd_link_M_60 : (.methodLink "ArrowClassesModel" 60 ⟨"ArrowClassesModel", "reach", "(I)I"⟩ : Cond) ∈ vzB := vzB_in8 (List.mem_of_getElem? (i := 23) rfl)
theorem wd_sel_M_reach : (.selects "ArrowClassesModel" ⟨"ArrowClassesModel", "reach", "(I)I"⟩ ⟨"ArrowClassesModel", "reach", "(I)I"⟩ : Cond) ∈ vzB := vzB_in8 (List.mem_of_getElem? (i := 24) rfl)
theorem wd_inst_M_reach : (.instanceMethod ⟨"ArrowClassesModel", "reach", "(I)I"⟩ : Cond) ∈ vzB := vzB_in8 (List.mem_of_getElem? (i := 25) rfl)
theorem wd_code_M_reach : (.code ⟨"ArrowClassesModel", "reach", "(I)I"⟩ prog_5_method_7_code 6 (some .int) : Cond) ∈ vzB := vzB_in8 (List.mem_of_getElem? (i := 26) rfl)
theorem wd_link_M_64 : (.methodLink "ArrowClassesModel" 64 ⟨"ArrowClassesModel", "forgetAll", "()V"⟩ : Cond) ∈ vzB := vzB_in8 (List.mem_of_getElem? (i := 27) rfl)
theorem wd_sel_M_forgetAll : (.selects "ArrowClassesModel" ⟨"ArrowClassesModel", "forgetAll", "()V"⟩ ⟨"ArrowClassesModel", "forgetAll", "()V"⟩ : Cond) ∈ vzB := vzB_in8 (List.mem_of_getElem? (i := 28) rfl)
theorem wd_inst_M_forgetAll : (.instanceMethod ⟨"ArrowClassesModel", "forgetAll", "()V"⟩ : Cond) ∈ vzB := vzB_in8 (List.mem_of_getElem? (i := 29) rfl)
theorem wd_code_M_forgetAll : (.code ⟨"ArrowClassesModel", "forgetAll", "()V"⟩ prog_5_method_6_code 2 none : Cond) ∈ vzB := vzB_in8 (List.mem_of_getElem? (i := 30) rfl)
theorem wd_link_L_29 : (.methodLink "ArrowClassesLaw" 29 ⟨"ArrowClassesModel", "erase", "(II)Z"⟩ : Cond) ∈ vzB := vzB_in8 (List.mem_of_getElem? (i := 31) rfl)
theorem wd_inst_M_erase : (.instanceMethod ⟨"ArrowClassesModel", "erase", "(II)Z"⟩ : Cond) ∈ vzB := vzB_in8 (List.mem_of_getElem? (i := 32) rfl)
theorem wd_sel_M_erase : (.selects "ArrowClassesModel" ⟨"ArrowClassesModel", "erase", "(II)Z"⟩ ⟨"ArrowClassesModel", "erase", "(II)Z"⟩ : Cond) ∈ vzB := vzB_in8 (List.mem_of_getElem? (i := 33) rfl)
theorem wd_code_M_erase : (.code ⟨"ArrowClassesModel", "erase", "(II)Z"⟩ prog_5_method_9_code 3 (some .boolean) : Cond) ∈ vzB := vzB_in8 (List.mem_of_getElem? (i := 34) rfl)
theorem wd_link_L_33 : (.methodLink "ArrowClassesLaw" 33 ⟨"ArrowClassesModel", "turn", "(II)Z"⟩ : Cond) ∈ vzB := vzB_in8 (List.mem_of_getElem? (i := 35) rfl)
theorem wd_inst_M_turn : (.instanceMethod ⟨"ArrowClassesModel", "turn", "(II)Z"⟩ : Cond) ∈ vzB := vzB_in8 (List.mem_of_getElem? (i := 36) rfl)
theorem wd_sel_M_turn : (.selects "ArrowClassesModel" ⟨"ArrowClassesModel", "turn", "(II)Z"⟩ ⟨"ArrowClassesModel", "turn", "(II)Z"⟩ : Cond) ∈ vzB := vzB_in8 (List.mem_of_getElem? (i := 37) rfl)
theorem wd_code_M_turn : (.code ⟨"ArrowClassesModel", "turn", "(II)Z"⟩ prog_5_method_10_code 3 (some .boolean) : Cond) ∈ vzB := vzB_in8 (List.mem_of_getElem? (i := 38) rfl)
theorem wd_link_L_37 : (.methodLink "ArrowClassesLaw" 37 ⟨"ArrowClassesModel", "drawn", "(II)Z"⟩ : Cond) ∈ vzB := vzB_in8 (List.mem_of_getElem? (i := 39) rfl)
theorem wd_inst_M_drawn : (.instanceMethod ⟨"ArrowClassesModel", "drawn", "(II)Z"⟩ : Cond) ∈ vzB := vzB_in9 (List.mem_of_getElem? (i := 0) rfl)
theorem wd_sel_M_drawn : (.selects "ArrowClassesModel" ⟨"ArrowClassesModel", "drawn", "(II)Z"⟩ ⟨"ArrowClassesModel", "drawn", "(II)Z"⟩ : Cond) ∈ vzB := vzB_in9 (List.mem_of_getElem? (i := 1) rfl)
theorem wd_code_M_drawn : (.code ⟨"ArrowClassesModel", "drawn", "(II)Z"⟩ prog_5_method_11_code 3 (some .boolean) : Cond) ∈ vzB := vzB_in9 (List.mem_of_getElem? (i := 2) rfl)
theorem wd_link_L_42 : (.methodLink "ArrowClassesLaw" 42 ⟨"ArrowClassesModel", "parents", "(I)I"⟩ : Cond) ∈ vzB := vzB_in9 (List.mem_of_getElem? (i := 3) rfl)
theorem wd_inst_M_parents : (.instanceMethod ⟨"ArrowClassesModel", "parents", "(I)I"⟩ : Cond) ∈ vzB := vzB_in9 (List.mem_of_getElem? (i := 4) rfl)
theorem wd_sel_M_parents : (.selects "ArrowClassesModel" ⟨"ArrowClassesModel", "parents", "(I)I"⟩ ⟨"ArrowClassesModel", "parents", "(I)I"⟩ : Cond) ∈ vzB := vzB_in9 (List.mem_of_getElem? (i := 5) rfl)
theorem wd_code_M_parents : (.code ⟨"ArrowClassesModel", "parents", "(I)I"⟩ prog_5_method_12_code 4 (some .int) : Cond) ∈ vzB := vzB_in9 (List.mem_of_getElem? (i := 6) rfl)
theorem wd_link_L_46 : (.methodLink "ArrowClassesLaw" 46 ⟨"ArrowClassesModel", "reached", "(I)I"⟩ : Cond) ∈ vzB := vzB_in9 (List.mem_of_getElem? (i := 7) rfl)
theorem wd_inst_M_reached : (.instanceMethod ⟨"ArrowClassesModel", "reached", "(I)I"⟩ : Cond) ∈ vzB := vzB_in9 (List.mem_of_getElem? (i := 8) rfl)
theorem wd_sel_M_reached : (.selects "ArrowClassesModel" ⟨"ArrowClassesModel", "reached", "(I)I"⟩ ⟨"ArrowClassesModel", "reached", "(I)I"⟩ : Cond) ∈ vzB := vzB_in9 (List.mem_of_getElem? (i := 9) rfl)
theorem wd_code_M_reached : (.code ⟨"ArrowClassesModel", "reached", "(I)I"⟩ prog_5_method_13_code 2 (some .int) : Cond) ∈ vzB := vzB_in9 (List.mem_of_getElem? (i := 10) rfl)
theorem wd_link_L_50 : (.methodLink "ArrowClassesLaw" 50 ⟨"ArrowClassesModel", "around", "(I)I"⟩ : Cond) ∈ vzB := vzB_in9 (List.mem_of_getElem? (i := 11) rfl)
theorem wd_inst_M_around : (.instanceMethod ⟨"ArrowClassesModel", "around", "(I)I"⟩ : Cond) ∈ vzB := vzB_in9 (List.mem_of_getElem? (i := 12) rfl)
theorem wd_sel_M_around : (.selects "ArrowClassesModel" ⟨"ArrowClassesModel", "around", "(I)I"⟩ ⟨"ArrowClassesModel", "around", "(I)I"⟩ : Cond) ∈ vzB := vzB_in9 (List.mem_of_getElem? (i := 13) rfl)
theorem wd_code_M_around : (.code ⟨"ArrowClassesModel", "around", "(I)I"⟩ prog_5_method_14_code 4 (some .int) : Cond) ∈ vzB := vzB_in9 (List.mem_of_getElem? (i := 14) rfl)
theorem wd_link_M_67 : (.methodLink "ArrowClassesModel" 67 ⟨"ArrowClassesModel", "parents", "(I)I"⟩ : Cond) ∈ vzB := vzB_in9 (List.mem_of_getElem? (i := 15) rfl)
theorem wd_link_L_55 : (.methodLink "ArrowClassesLaw" 55 ⟨"ArrowClassesModel", "collisions", "()I"⟩ : Cond) ∈ vzB := vzB_in9 (List.mem_of_getElem? (i := 16) rfl)
theorem wd_inst_M_collisions : (.instanceMethod ⟨"ArrowClassesModel", "collisions", "()I"⟩ : Cond) ∈ vzB := vzB_in9 (List.mem_of_getElem? (i := 17) rfl)
theorem wd_sel_M_collisions : (.selects "ArrowClassesModel" ⟨"ArrowClassesModel", "collisions", "()I"⟩ ⟨"ArrowClassesModel", "collisions", "()I"⟩ : Cond) ∈ vzB := vzB_in9 (List.mem_of_getElem? (i := 18) rfl)
theorem wd_code_M_collisions : (.code ⟨"ArrowClassesModel", "collisions", "()I"⟩ prog_5_method_16_code 5 (some .int) : Cond) ∈ vzB := vzB_in9 (List.mem_of_getElem? (i := 19) rfl)
theorem wd_link_M_70 : (.methodLink "ArrowClassesModel" 70 ⟨"ArrowClassesModel", "collides", "([ZIII)Z"⟩ : Cond) ∈ vzB := vzB_in9 (List.mem_of_getElem? (i := 20) rfl)
theorem wd_stat_M_collides : (.static ⟨"ArrowClassesModel", "collides", "([ZIII)Z"⟩ : Cond) ∈ vzB := vzB_in9 (List.mem_of_getElem? (i := 21) rfl)
theorem wd_code_M_collides : (.code ⟨"ArrowClassesModel", "collides", "([ZIII)Z"⟩ prog_5_method_15_code 4 (some .boolean) : Cond) ∈ vzB := vzB_in9 (List.mem_of_getElem? (i := 22) rfl)
theorem wd_link_L_59 : (.methodLink "ArrowClassesLaw" 59 ⟨"ArrowClassesModel", "covered", "(II)Z"⟩ : Cond) ∈ vzB := vzB_in9 (List.mem_of_getElem? (i := 23) rfl)
theorem wd_inst_M_covered : (.instanceMethod ⟨"ArrowClassesModel", "covered", "(II)Z"⟩ : Cond) ∈ vzB := vzB_in9 (List.mem_of_getElem? (i := 24) rfl)
theorem wd_sel_M_covered : (.selects "ArrowClassesModel" ⟨"ArrowClassesModel", "covered", "(II)Z"⟩ ⟨"ArrowClassesModel", "covered", "(II)Z"⟩ : Cond) ∈ vzB := vzB_in9 (List.mem_of_getElem? (i := 25) rfl)
theorem wd_code_M_covered : (.code ⟨"ArrowClassesModel", "covered", "(II)Z"⟩ prog_5_method_17_code 3 (some .boolean) : Cond) ∈ vzB := vzB_in9 (List.mem_of_getElem? (i := 26) rfl)
theorem wd_link_M_74 : (.methodLink "ArrowClassesModel" 74 ⟨"ArrowClassesModel", "drawn", "(II)Z"⟩ : Cond) ∈ vzB := vzB_in9 (List.mem_of_getElem? (i := 27) rfl)
theorem wd_link_L_64 : (.methodLink "ArrowClassesLaw" 64 ⟨"ArrowClassesModel", "separated", "(III)Z"⟩ : Cond) ∈ vzB := vzB_in9 (List.mem_of_getElem? (i := 28) rfl)
theorem wd_inst_M_separated : (.instanceMethod ⟨"ArrowClassesModel", "separated", "(III)Z"⟩ : Cond) ∈ vzB := vzB_in9 (List.mem_of_getElem? (i := 29) rfl)
theorem wd_sel_M_separated : (.selects "ArrowClassesModel" ⟨"ArrowClassesModel", "separated", "(III)Z"⟩ ⟨"ArrowClassesModel", "separated", "(III)Z"⟩ : Cond) ∈ vzB := vzB_in9 (List.mem_of_getElem? (i := 30) rfl)
theorem wd_code_M_separated : (.code ⟨"ArrowClassesModel", "separated", "(III)Z"⟩ prog_5_method_21_code 4 (some .boolean) : Cond) ∈ vzB := vzB_in9 (List.mem_of_getElem? (i := 31) rfl)
theorem wd_link_M_83 : (.methodLink "ArrowClassesModel" 83 ⟨"ArrowClassesModel", "allBlocked", "(III)Z"⟩ : Cond) ∈ vzB := vzB_in9 (List.mem_of_getElem? (i := 32) rfl)
theorem wd_sel_M_allBlocked : (.selects "ArrowClassesModel" ⟨"ArrowClassesModel", "allBlocked", "(III)Z"⟩ ⟨"ArrowClassesModel", "allBlocked", "(III)Z"⟩ : Cond) ∈ vzB := vzB_in9 (List.mem_of_getElem? (i := 33) rfl)
theorem wd_inst_M_allBlocked : (.instanceMethod ⟨"ArrowClassesModel", "allBlocked", "(III)Z"⟩ : Cond) ∈ vzB := vzB_in9 (List.mem_of_getElem? (i := 34) rfl)
theorem wd_code_M_allBlocked : (.code ⟨"ArrowClassesModel", "allBlocked", "(III)Z"⟩ prog_5_method_20_code 7 (some .boolean) : Cond) ∈ vzB := vzB_in9 (List.mem_of_getElem? (i := 35) rfl)
theorem wd_link_M_77 : (.methodLink "ArrowClassesModel" 77 ⟨"ArrowClassesModel", "blocked", "(II)Z"⟩ : Cond) ∈ vzB := vzB_in9 (List.mem_of_getElem? (i := 36) rfl)
theorem wd_sel_M_blocked : (.selects "ArrowClassesModel" ⟨"ArrowClassesModel", "blocked", "(II)Z"⟩ ⟨"ArrowClassesModel", "blocked", "(II)Z"⟩ : Cond) ∈ vzB := vzB_in9 (List.mem_of_getElem? (i := 37) rfl)
theorem wd_inst_M_blocked : (.instanceMethod ⟨"ArrowClassesModel", "blocked", "(II)Z"⟩ : Cond) ∈ vzB := vzB_in9 (List.mem_of_getElem? (i := 38) rfl)
theorem wd_code_M_blocked : (.code ⟨"ArrowClassesModel", "blocked", "(II)Z"⟩ prog_5_method_18_code 6 (some .boolean) : Cond) ∈ vzB := vzB_in9 (List.mem_of_getElem? (i := 39) rfl)
theorem wd_link_M_80 : (.methodLink "ArrowClassesModel" 80 ⟨"ArrowClassesModel", "onPath", "(II)Z"⟩ : Cond) ∈ vzB := vzB_in10 (List.mem_of_getElem? (i := 0) rfl)
theorem wd_sel_M_onPath : (.selects "ArrowClassesModel" ⟨"ArrowClassesModel", "onPath", "(II)Z"⟩ ⟨"ArrowClassesModel", "onPath", "(II)Z"⟩ : Cond) ∈ vzB := vzB_in10 (List.mem_of_getElem? (i := 1) rfl)
theorem wd_inst_M_onPath : (.instanceMethod ⟨"ArrowClassesModel", "onPath", "(II)Z"⟩ : Cond) ∈ vzB := vzB_in10 (List.mem_of_getElem? (i := 2) rfl)
theorem wd_code_M_onPath : (.code ⟨"ArrowClassesModel", "onPath", "(II)Z"⟩ prog_5_method_19_code 5 (some .boolean) : Cond) ∈ vzB := vzB_in10 (List.mem_of_getElem? (i := 3) rfl)
theorem wd_link_L_69 : (.methodLink "ArrowClassesLaw" 69 ⟨"ArrowClassesModel", "separator", "(II)I"⟩ : Cond) ∈ vzB := vzB_in10 (List.mem_of_getElem? (i := 4) rfl)
theorem wd_inst_M_separator : (.instanceMethod ⟨"ArrowClassesModel", "separator", "(II)I"⟩ : Cond) ∈ vzB := vzB_in10 (List.mem_of_getElem? (i := 5) rfl)
theorem wd_sel_M_separator : (.selects "ArrowClassesModel" ⟨"ArrowClassesModel", "separator", "(II)I"⟩ ⟨"ArrowClassesModel", "separator", "(II)I"⟩ : Cond) ∈ vzB := vzB_in10 (List.mem_of_getElem? (i := 6) rfl)
theorem wd_code_M_separator : (.code ⟨"ArrowClassesModel", "separator", "(II)I"⟩ prog_5_method_23_code 5 (some .int) : Cond) ∈ vzB := vzB_in10 (List.mem_of_getElem? (i := 7) rfl)
theorem wd_link_M_87 : (.methodLink "ArrowClassesModel" 87 ⟨"ArrowClassesModel", "size", "(I)I"⟩ : Cond) ∈ vzB := vzB_in10 (List.mem_of_getElem? (i := 8) rfl)
theorem wd_stat_M_size : (.static ⟨"ArrowClassesModel", "size", "(I)I"⟩ : Cond) ∈ vzB := vzB_in10 (List.mem_of_getElem? (i := 9) rfl)
theorem wd_code_M_size : (.code ⟨"ArrowClassesModel", "size", "(I)I"⟩ prog_5_method_22_code 3 (some .int) : Cond) ∈ vzB := vzB_in10 (List.mem_of_getElem? (i := 10) rfl)
theorem wd_link_M_90 : (.methodLink "ArrowClassesModel" 90 ⟨"ArrowClassesModel", "separated", "(III)Z"⟩ : Cond) ∈ vzB := vzB_in10 (List.mem_of_getElem? (i := 11) rfl)
theorem wd_link_L_73 : (.methodLink "ArrowClassesLaw" 73 ⟨"ArrowClassesModel", "separations", "()I"⟩ : Cond) ∈ vzB := vzB_in10 (List.mem_of_getElem? (i := 12) rfl)
theorem wd_inst_M_separations : (.instanceMethod ⟨"ArrowClassesModel", "separations", "()I"⟩ : Cond) ∈ vzB := vzB_in10 (List.mem_of_getElem? (i := 13) rfl)
theorem wd_sel_M_separations : (.selects "ArrowClassesModel" ⟨"ArrowClassesModel", "separations", "()I"⟩ ⟨"ArrowClassesModel", "separations", "()I"⟩ : Cond) ∈ vzB := vzB_in10 (List.mem_of_getElem? (i := 14) rfl)
theorem wd_code_M_separations : (.code ⟨"ArrowClassesModel", "separations", "()I"⟩ prog_5_method_24_code 5 (some .int) : Cond) ∈ vzB := vzB_in10 (List.mem_of_getElem? (i := 15) rfl)
theorem wd_link_L_77 : (.methodLink "ArrowClassesLaw" 77 ⟨"ArrowClassesModel", "edge", "(II)I"⟩ : Cond) ∈ vzB := vzB_in10 (List.mem_of_getElem? (i := 16) rfl)
theorem wd_inst_M_edge : (.instanceMethod ⟨"ArrowClassesModel", "edge", "(II)I"⟩ : Cond) ∈ vzB := vzB_in10 (List.mem_of_getElem? (i := 17) rfl)
theorem wd_sel_M_edge : (.selects "ArrowClassesModel" ⟨"ArrowClassesModel", "edge", "(II)I"⟩ ⟨"ArrowClassesModel", "edge", "(II)I"⟩ : Cond) ∈ vzB := vzB_in10 (List.mem_of_getElem? (i := 18) rfl)
theorem wd_code_M_edge : (.code ⟨"ArrowClassesModel", "edge", "(II)I"⟩ prog_5_method_30_code 3 (some .int) : Cond) ∈ vzB := vzB_in10 (List.mem_of_getElem? (i := 19) rfl)
theorem wd_link_M_113 : (.methodLink "ArrowClassesModel" 113 ⟨"ArrowClassesModel", "goThrough", "()V"⟩ : Cond) ∈ vzB := vzB_in10 (List.mem_of_getElem? (i := 20) rfl)
theorem wd_sel_M_goThrough : (.selects "ArrowClassesModel" ⟨"ArrowClassesModel", "goThrough", "()V"⟩ ⟨"ArrowClassesModel", "goThrough", "()V"⟩ : Cond) ∈ vzB := vzB_in10 (List.mem_of_getElem? (i := 21) rfl)
theorem wd_inst_M_goThrough : (.instanceMethod ⟨"ArrowClassesModel", "goThrough", "()V"⟩ : Cond) ∈ vzB := vzB_in10 (List.mem_of_getElem? (i := 22) rfl)
theorem wd_code_M_goThrough : (.code ⟨"ArrowClassesModel", "goThrough", "()V"⟩ prog_5_method_29_code 3 none : Cond) ∈ vzB := vzB_in10 (List.mem_of_getElem? (i := 23) rfl)
theorem wd_link_M_100 : (.methodLink "ArrowClassesModel" 100 ⟨"ArrowClassesModel", "findPairs", "()V"⟩ : Cond) ∈ vzB := vzB_in10 (List.mem_of_getElem? (i := 24) rfl)
theorem wd_sel_M_findPairs : (.selects "ArrowClassesModel" ⟨"ArrowClassesModel", "findPairs", "()V"⟩ ⟨"ArrowClassesModel", "findPairs", "()V"⟩ : Cond) ∈ vzB := vzB_in10 (List.mem_of_getElem? (i := 25) rfl)
theorem wd_inst_M_findPairs : (.instanceMethod ⟨"ArrowClassesModel", "findPairs", "()V"⟩ : Cond) ∈ vzB := vzB_in10 (List.mem_of_getElem? (i := 26) rfl)
theorem wd_code_M_findPairs : (.code ⟨"ArrowClassesModel", "findPairs", "()V"⟩ prog_5_method_25_code 3 none : Cond) ∈ vzB := vzB_in10 (List.mem_of_getElem? (i := 27) rfl)
theorem wd_link_M_106 : (.methodLink "ArrowClassesModel" 106 ⟨"ArrowClassesModel", "direct", "(I)V"⟩ : Cond) ∈ vzB := vzB_in10 (List.mem_of_getElem? (i := 28) rfl)
theorem wd_sel_M_direct : (.selects "ArrowClassesModel" ⟨"ArrowClassesModel", "direct", "(I)V"⟩ ⟨"ArrowClassesModel", "direct", "(I)V"⟩ : Cond) ∈ vzB := vzB_in10 (List.mem_of_getElem? (i := 29) rfl)
theorem wd_inst_M_direct : (.instanceMethod ⟨"ArrowClassesModel", "direct", "(I)V"⟩ : Cond) ∈ vzB := vzB_in10 (List.mem_of_getElem? (i := 30) rfl)
theorem wd_code_M_direct : (.code ⟨"ArrowClassesModel", "direct", "(I)V"⟩ prog_5_method_26_code 6 none : Cond) ∈ vzB := vzB_in10 (List.mem_of_getElem? (i := 31) rfl)
theorem wd_link_M_110 : (.methodLink "ArrowClassesModel" 110 ⟨"ArrowClassesModel", "isMember", "()Z"⟩ : Cond) ∈ vzB := vzB_in10 (List.mem_of_getElem? (i := 32) rfl)
theorem wd_sel_M_isMember : (.selects "ArrowClassesModel" ⟨"ArrowClassesModel", "isMember", "()Z"⟩ ⟨"ArrowClassesModel", "isMember", "()Z"⟩ : Cond) ∈ vzB := vzB_in10 (List.mem_of_getElem? (i := 33) rfl)
theorem wd_inst_M_isMember : (.instanceMethod ⟨"ArrowClassesModel", "isMember", "()Z"⟩ : Cond) ∈ vzB := vzB_in10 (List.mem_of_getElem? (i := 34) rfl)
theorem wd_code_M_isMember : (.code ⟨"ArrowClassesModel", "isMember", "()Z"⟩ prog_5_method_28_code 4 (some .boolean) : Cond) ∈ vzB := vzB_in10 (List.mem_of_getElem? (i := 35) rfl)
theorem wd_link_M_96 : (.methodLink "ArrowClassesModel" 96 ⟨"ArrowClassesModel", "hasRing", "()Z"⟩ : Cond) ∈ vzB := vzB_in10 (List.mem_of_getElem? (i := 36) rfl)
theorem wd_sel_M_hasRing : (.selects "ArrowClassesModel" ⟨"ArrowClassesModel", "hasRing", "()Z"⟩ ⟨"ArrowClassesModel", "hasRing", "()Z"⟩ : Cond) ∈ vzB := vzB_in10 (List.mem_of_getElem? (i := 37) rfl)
theorem wd_inst_M_hasRing : (.instanceMethod ⟨"ArrowClassesModel", "hasRing", "()Z"⟩ : Cond) ∈ vzB := vzB_in10 (List.mem_of_getElem? (i := 38) rfl)
theorem wd_code_M_hasRing : (.code ⟨"ArrowClassesModel", "hasRing", "()Z"⟩ prog_5_method_27_code 6 (some .boolean) : Cond) ∈ vzB := vzB_in10 (List.mem_of_getElem? (i := 39) rfl)
theorem wd_link_L_81 : (.methodLink "ArrowClassesLaw" 81 ⟨"ArrowClassesModel", "loose", "()I"⟩ : Cond) ∈ vzB := vzB_in11 (List.mem_of_getElem? (i := 0) rfl)
theorem wd_inst_M_loose : (.instanceMethod ⟨"ArrowClassesModel", "loose", "()I"⟩ : Cond) ∈ vzB := vzB_in11 (List.mem_of_getElem? (i := 1) rfl)
theorem wd_sel_M_loose : (.selects "ArrowClassesModel" ⟨"ArrowClassesModel", "loose", "()I"⟩ ⟨"ArrowClassesModel", "loose", "()I"⟩ : Cond) ∈ vzB := vzB_in11 (List.mem_of_getElem? (i := 2) rfl)
theorem wd_code_M_loose : (.code ⟨"ArrowClassesModel", "loose", "()I"⟩ prog_5_method_31_code 4 (some .int) : Cond) ∈ vzB := vzB_in11 (List.mem_of_getElem? (i := 3) rfl)
theorem wd_link_L_85 : (.methodLink "ArrowClassesLaw" 85 ⟨"ArrowClassesModel", "know", "(II)Z"⟩ : Cond) ∈ vzB := vzB_in11 (List.mem_of_getElem? (i := 4) rfl)
theorem wd_inst_M_know : (.instanceMethod ⟨"ArrowClassesModel", "know", "(II)Z"⟩ : Cond) ∈ vzB := vzB_in11 (List.mem_of_getElem? (i := 5) rfl)
theorem wd_sel_M_know : (.selects "ArrowClassesModel" ⟨"ArrowClassesModel", "know", "(II)Z"⟩ ⟨"ArrowClassesModel", "know", "(II)Z"⟩ : Cond) ∈ vzB := vzB_in11 (List.mem_of_getElem? (i := 6) rfl)
theorem wd_code_M_know : (.code ⟨"ArrowClassesModel", "know", "(II)Z"⟩ prog_5_method_32_code 3 (some .boolean) : Cond) ∈ vzB := vzB_in11 (List.mem_of_getElem? (i := 7) rfl)
theorem wd_link_L_89 : (.methodLink "ArrowClassesLaw" 89 ⟨"ArrowClassesModel", "forget", "()I"⟩ : Cond) ∈ vzB := vzB_in11 (List.mem_of_getElem? (i := 8) rfl)
theorem wd_inst_M_forget : (.instanceMethod ⟨"ArrowClassesModel", "forget", "()I"⟩ : Cond) ∈ vzB := vzB_in11 (List.mem_of_getElem? (i := 9) rfl)
theorem wd_sel_M_forget : (.selects "ArrowClassesModel" ⟨"ArrowClassesModel", "forget", "()I"⟩ ⟨"ArrowClassesModel", "forget", "()I"⟩ : Cond) ∈ vzB := vzB_in11 (List.mem_of_getElem? (i := 10) rfl)
theorem wd_code_M_forget : (.code ⟨"ArrowClassesModel", "forget", "()I"⟩ prog_5_method_33_code 3 (some .int) : Cond) ∈ vzB := vzB_in11 (List.mem_of_getElem? (i := 11) rfl)
theorem wd_link_L_93 : (.methodLink "ArrowClassesLaw" 93 ⟨"ArrowClassesModel", "members", "()I"⟩ : Cond) ∈ vzB := vzB_in11 (List.mem_of_getElem? (i := 12) rfl)
theorem wd_inst_M_members : (.instanceMethod ⟨"ArrowClassesModel", "members", "()I"⟩ : Cond) ∈ vzB := vzB_in11 (List.mem_of_getElem? (i := 13) rfl)
theorem wd_sel_M_members : (.selects "ArrowClassesModel" ⟨"ArrowClassesModel", "members", "()I"⟩ ⟨"ArrowClassesModel", "members", "()I"⟩ : Cond) ∈ vzB := vzB_in11 (List.mem_of_getElem? (i := 14) rfl)
theorem wd_code_M_members : (.code ⟨"ArrowClassesModel", "members", "()I"⟩ prog_5_method_34_code 1 (some .int) : Cond) ∈ vzB := vzB_in11 (List.mem_of_getElem? (i := 15) rfl)
theorem wd_link_L_97 : (.methodLink "ArrowClassesLaw" 97 ⟨"ArrowClassesModel", "first", "(II)Z"⟩ : Cond) ∈ vzB := vzB_in11 (List.mem_of_getElem? (i := 16) rfl)
theorem wd_inst_M_first : (.instanceMethod ⟨"ArrowClassesModel", "first", "(II)Z"⟩ : Cond) ∈ vzB := vzB_in11 (List.mem_of_getElem? (i := 17) rfl)
theorem wd_sel_M_first : (.selects "ArrowClassesModel" ⟨"ArrowClassesModel", "first", "(II)Z"⟩ ⟨"ArrowClassesModel", "first", "(II)Z"⟩ : Cond) ∈ vzB := vzB_in11 (List.mem_of_getElem? (i := 18) rfl)
theorem wd_code_M_first : (.code ⟨"ArrowClassesModel", "first", "(II)Z"⟩ prog_5_method_35_code 3 (some .boolean) : Cond) ∈ vzB := vzB_in11 (List.mem_of_getElem? (i := 19) rfl)
theorem wd_link_L_101 : (.methodLink "ArrowClassesLaw" 101 ⟨"ArrowClassesModel", "turned", "()I"⟩ : Cond) ∈ vzB := vzB_in11 (List.mem_of_getElem? (i := 20) rfl)
theorem wd_inst_M_turned : (.instanceMethod ⟨"ArrowClassesModel", "turned", "()I"⟩ : Cond) ∈ vzB := vzB_in11 (List.mem_of_getElem? (i := 21) rfl)
theorem wd_sel_M_turned : (.selects "ArrowClassesModel" ⟨"ArrowClassesModel", "turned", "()I"⟩ ⟨"ArrowClassesModel", "turned", "()I"⟩ : Cond) ∈ vzB := vzB_in11 (List.mem_of_getElem? (i := 22) rfl)
theorem wd_code_M_turned : (.code ⟨"ArrowClassesModel", "turned", "()I"⟩ prog_5_method_36_code 4 (some .int) : Cond) ∈ vzB := vzB_in11 (List.mem_of_getElem? (i := 23) rfl)
theorem gd_0 : vzB_0.all goodWord = true := by decide +kernel
theorem gd_1 : vzB_1.all goodWord = true := by decide +kernel
theorem gd_2 : vzB_2.all goodWord = true := by decide +kernel
theorem gd_3 : vzB_3.all goodWord = true := by decide +kernel
theorem gd_4 : vzB_4.all goodWord = true := by decide +kernel
theorem gd_5 : vzB_5.all goodWord = true := by decide +kernel
theorem gd_6 : vzB_6.all goodWord = true := by decide +kernel
theorem gd_7 : vzB_7.all goodWord = true := by decide +kernel
theorem gd_8 : vzB_8.all goodWord = true := by decide +kernel
theorem gd_9 : vzB_9.all goodWord = true := by decide +kernel
theorem gd_10 : vzB_10.all goodWord = true := by decide +kernel
theorem gd_11 : vzB_11.all goodWord = true := by decide +kernel
theorem gd_B : GoodIn vzB vzB := goodIn_app2 (goodIn_sub2 vzB_in0 gd_0) (goodIn_app2 (goodIn_sub2 vzB_in1 gd_1) (goodIn_app2 (goodIn_sub2 vzB_in2 gd_2) (goodIn_app2 (goodIn_sub2 vzB_in3 gd_3) (goodIn_app2 (goodIn_sub2 vzB_in4 gd_4) (goodIn_app2 (goodIn_sub2 vzB_in5 gd_5) (goodIn_app2 (goodIn_sub2 vzB_in6 gd_6) (goodIn_app2 (goodIn_sub2 vzB_in7 gd_7) (goodIn_app2 (goodIn_sub2 vzB_in8 gd_8) (goodIn_app2 (goodIn_sub2 vzB_in9 gd_9) (goodIn_app2 (goodIn_sub2 vzB_in10 gd_10) (goodIn_sub2 vzB_in11 gd_11)))))))))))
theorem inG : ∀ w ∈ u_ws "ArrowClasses$Graph" TG 3, w ∈ vzB := List.forall_mem_cons.mpr ⟨wd_lay_G_nodes, List.forall_mem_cons.mpr ⟨wd_lay_G_parents, List.forall_mem_cons.mpr ⟨wd_lay_G_children, fun _ h => absurd h List.not_mem_nil⟩⟩⟩
theorem inK : ∀ w ∈ u_ws "ArrowClasses$Kindred" TK 14, w ∈ vzB := List.forall_mem_cons.mpr ⟨wd_lay_K_drawn, List.forall_mem_cons.mpr ⟨wd_lay_K_tried, List.forall_mem_cons.mpr ⟨wd_lay_K_lows, List.forall_mem_cons.mpr ⟨wd_lay_K_highs, List.forall_mem_cons.mpr ⟨wd_lay_K_pairs, List.forall_mem_cons.mpr ⟨wd_lay_K_drawnCode, List.forall_mem_cons.mpr ⟨wd_lay_K_collidingBits, List.forall_mem_cons.mpr ⟨wd_lay_K_knownBits, List.forall_mem_cons.mpr ⟨wd_lay_K_knownCode, List.forall_mem_cons.mpr ⟨wd_lay_K_gathered, List.forall_mem_cons.mpr ⟨wd_lay_K_count, List.forall_mem_cons.mpr ⟨wd_lay_K_firstCode, List.forall_mem_cons.mpr ⟨wd_lay_K_someFalling, List.forall_mem_cons.mpr ⟨wd_lay_K_allFalling, fun _ h => absurd h List.not_mem_nil⟩⟩⟩⟩⟩⟩⟩⟩⟩⟩⟩⟩⟩⟩
theorem inA : ∀ w ∈ u_ws "ArrowClasses" TA 4, w ∈ vzB := List.forall_mem_cons.mpr ⟨wd_lay_A_nodes, List.forall_mem_cons.mpr ⟨wd_lay_A_kindred, List.forall_mem_cons.mpr ⟨wd_lay_A_graph, List.forall_mem_cons.mpr ⟨wd_lay_A_separationCount, fun _ h => absurd h List.not_mem_nil⟩⟩⟩⟩
theorem inM : ∀ w ∈ u_ws "ArrowClassesModel" TM 13, w ∈ vzB := List.forall_mem_cons.mpr ⟨wd_lay_M_nodes, List.forall_mem_cons.mpr ⟨wd_lay_M_has, List.forall_mem_cons.mpr ⟨wd_lay_M_known, List.forall_mem_cons.mpr ⟨wd_lay_M_tried, List.forall_mem_cons.mpr ⟨wd_lay_M_count, List.forall_mem_cons.mpr ⟨wd_lay_M_having, List.forall_mem_cons.mpr ⟨wd_lay_M_best, List.forall_mem_cons.mpr ⟨wd_lay_M_pairs, List.forall_mem_cons.mpr ⟨wd_lay_M_low, List.forall_mem_cons.mpr ⟨wd_lay_M_high, List.forall_mem_cons.mpr ⟨wd_lay_M_path, List.forall_mem_cons.mpr ⟨wd_lay_M_next, List.forall_mem_cons.mpr ⟨wd_lay_M_reaches, fun _ h => absurd h List.not_mem_nil⟩⟩⟩⟩⟩⟩⟩⟩⟩⟩⟩⟩⟩
abbrev b_A_init : ByteArray := prog_1_method_1_code
abbrev y_A_init : MethodName := ⟨"ArrowClasses", "<init>", "(I)V"⟩
abbrev w_A_init : List Cond := .code y_A_init b_A_init 2 none :: vzB
abbrev b_K_init : ByteArray := prog_3_method_1_code
abbrev y_K_init : MethodName := ⟨"ArrowClasses$Kindred", "<init>", "(I)V"⟩
abbrev w_K_init : List Cond := .code y_K_init b_K_init 2 none :: vzB
abbrev b_G_init : ByteArray := prog_2_method_1_code
abbrev y_G_init : MethodName := ⟨"ArrowClasses$Graph", "<init>", "(I)V"⟩
abbrev w_G_init : List Cond := .code y_G_init b_G_init 2 none :: vzB
abbrev b_A_arrow : ByteArray := prog_1_method_2_code
abbrev y_A_arrow : MethodName := ⟨"ArrowClasses", "arrow", "(II)Z"⟩
abbrev w_A_arrow : List Cond := .code y_A_arrow b_A_arrow 3 (some .boolean) :: vzB
abbrev b_A_isPair : ByteArray := prog_1_method_22_code
abbrev y_A_isPair : MethodName := ⟨"ArrowClasses", "isPair", "(II)Z"⟩
abbrev w_A_isPair : List Cond := .code y_A_isPair b_A_isPair 3 (some .boolean) :: vzB
abbrev b_A_isNode : ByteArray := prog_1_method_21_code
abbrev y_A_isNode : MethodName := ⟨"ArrowClasses", "isNode", "(I)Z"⟩
abbrev w_A_isNode : List Cond := .code y_A_isNode b_A_isNode 2 (some .boolean) :: vzB
abbrev b_G_joins : ByteArray := prog_2_method_3_code
abbrev y_G_joins : MethodName := ⟨"ArrowClasses$Graph", "joins", "(II)Z"⟩
abbrev w_G_joins : List Cond := .code y_G_joins b_G_joins 3 (some .boolean) :: vzB
abbrev b_G_has : ByteArray := prog_2_method_2_code
abbrev y_G_has : MethodName := ⟨"ArrowClasses$Graph", "has", "(II)Z"⟩
abbrev w_G_has : List Cond := .code y_G_has b_G_has 3 (some .boolean) :: vzB
abbrev b_A_holds : ByteArray := prog_1_method_25_code
abbrev y_A_holds : MethodName := ⟨"ArrowClasses", "holds", "(II)Z"⟩
abbrev w_A_holds : List Cond := .code y_A_holds b_A_holds 2 (some .boolean) :: vzB
abbrev b_G_size : ByteArray := prog_2_method_7_code
abbrev y_G_size : MethodName := ⟨"ArrowClasses$Graph", "size", "()I"⟩
abbrev w_G_size : List Cond := .code y_G_size b_G_size 3 (some .int) :: vzB
abbrev b_J_bitCount : ByteArray := prog_6_method_49_code
abbrev y_J_bitCount : MethodName := ⟨"java/lang/Integer", "bitCount", "(I)I"⟩
abbrev w_J_bitCount : List Cond := .code y_J_bitCount b_J_bitCount 1 (some .int) :: vzB
abbrev b_G_reachOf : ByteArray := prog_2_method_8_code
abbrev y_G_reachOf : MethodName := ⟨"ArrowClasses$Graph", "reachOf", "(I)I"⟩
abbrev w_G_reachOf : List Cond := .code y_G_reachOf b_G_reachOf 5 (some .int) :: vzB
abbrev b_G_put : ByteArray := prog_2_method_4_code
abbrev y_G_put : MethodName := ⟨"ArrowClasses$Graph", "put", "(II)V"⟩
abbrev w_G_put : List Cond := .code y_G_put b_G_put 3 none :: vzB
abbrev b_A_noteChange : ByteArray := prog_1_method_23_code
abbrev y_A_noteChange : MethodName := ⟨"ArrowClasses", "noteChange", "()V"⟩
abbrev w_A_noteChange : List Cond := .code y_A_noteChange b_A_noteChange 1 none :: vzB
abbrev b_K_restart : ByteArray := prog_3_method_2_code
abbrev y_K_restart : MethodName := ⟨"ArrowClasses$Kindred", "restart", "()V"⟩
abbrev w_K_restart : List Cond := .code y_K_restart b_K_restart 3 none :: vzB
abbrev b_K_listPair : ByteArray := prog_3_method_3_code
abbrev y_K_listPair : MethodName := ⟨"ArrowClasses$Kindred", "listPair", "(II)V"⟩
abbrev w_K_listPair : List Cond := .code y_K_listPair b_K_listPair 4 none :: vzB
abbrev b_G_strangers : ByteArray := prog_2_method_10_code
abbrev y_G_strangers : MethodName := ⟨"ArrowClasses$Graph", "strangers", "(II)I"⟩
abbrev w_G_strangers : List Cond := .code y_G_strangers b_G_strangers 3 (some .int) :: vzB
abbrev b_A_erase : ByteArray := prog_1_method_3_code
abbrev y_A_erase : MethodName := ⟨"ArrowClasses", "erase", "(II)Z"⟩
abbrev w_A_erase : List Cond := .code y_A_erase b_A_erase 3 (some .boolean) :: vzB
abbrev b_G_take : ByteArray := prog_2_method_5_code
abbrev y_G_take : MethodName := ⟨"ArrowClasses$Graph", "take", "(II)V"⟩
abbrev w_G_take : List Cond := .code y_G_take b_G_take 3 none :: vzB
abbrev b_A_turn : ByteArray := prog_1_method_4_code
abbrev y_A_turn : MethodName := ⟨"ArrowClasses", "turn", "(II)Z"⟩
abbrev w_A_turn : List Cond := .code y_A_turn b_A_turn 3 (some .boolean) :: vzB
abbrev b_A_drawn : ByteArray := prog_1_method_5_code
abbrev y_A_drawn : MethodName := ⟨"ArrowClasses", "drawn", "(II)Z"⟩
abbrev w_A_drawn : List Cond := .code y_A_drawn b_A_drawn 3 (some .boolean) :: vzB
abbrev b_A_parents : ByteArray := prog_1_method_6_code
abbrev y_A_parents : MethodName := ⟨"ArrowClasses", "parents", "(I)I"⟩
abbrev w_A_parents : List Cond := .code y_A_parents b_A_parents 2 (some .int) :: vzB
abbrev b_A_reached : ByteArray := prog_1_method_7_code
abbrev y_A_reached : MethodName := ⟨"ArrowClasses", "reached", "(I)I"⟩
abbrev w_A_reached : List Cond := .code y_A_reached b_A_reached 2 (some .int) :: vzB
abbrev b_A_around : ByteArray := prog_1_method_8_code
abbrev y_A_around : MethodName := ⟨"ArrowClasses", "around", "(I)I"⟩
abbrev w_A_around : List Cond := .code y_A_around b_A_around 4 (some .int) :: vzB
abbrev b_A_collisions : ByteArray := prog_1_method_9_code
abbrev y_A_collisions : MethodName := ⟨"ArrowClasses", "collisions", "()I"⟩
abbrev w_A_collisions : List Cond := .code y_A_collisions b_A_collisions 4 (some .int) :: vzB
abbrev b_A_covered : ByteArray := prog_1_method_10_code
abbrev y_A_covered : MethodName := ⟨"ArrowClasses", "covered", "(II)Z"⟩
abbrev w_A_covered : List Cond := .code y_A_covered b_A_covered 3 (some .boolean) :: vzB
abbrev b_A_separated : ByteArray := prog_1_method_11_code
abbrev y_A_separated : MethodName := ⟨"ArrowClasses", "separated", "(III)Z"⟩
abbrev w_A_separated : List Cond := .code y_A_separated b_A_separated 4 (some .boolean) :: vzB
abbrev b_G_openFrom : ByteArray := prog_2_method_12_code
abbrev y_G_openFrom : MethodName := ⟨"ArrowClasses$Graph", "openFrom", "(II)I"⟩
abbrev w_G_openFrom : List Cond := .code y_G_openFrom b_G_openFrom 11 (some .int) :: vzB
abbrev b_A_separator : ByteArray := prog_1_method_12_code
abbrev y_A_separator : MethodName := ⟨"ArrowClasses", "separator", "(II)I"⟩
abbrev w_A_separator : List Cond := .code y_A_separator b_A_separator 7 (some .int) :: vzB
abbrev b_A_separations : ByteArray := prog_1_method_13_code
abbrev y_A_separations : MethodName := ⟨"ArrowClasses", "separations", "()I"⟩
abbrev w_A_separations : List Cond := .code y_A_separations b_A_separations 3 (some .int) :: vzB
abbrev b_A_separationsBy : ByteArray := prog_1_method_24_code
abbrev y_A_separationsBy : MethodName := ⟨"ArrowClasses", "separationsBy", "(I)I"⟩
abbrev w_A_separationsBy : List Cond := .code y_A_separationsBy b_A_separationsBy 5 (some .int) :: vzB
abbrev b_A_edge : ByteArray := prog_1_method_14_code
abbrev y_A_edge : MethodName := ⟨"ArrowClasses", "edge", "(II)I"⟩
abbrev w_A_edge : List Cond := .code y_A_edge b_A_edge 3 (some .int) :: vzB
abbrev b_K_someHas : ByteArray := prog_3_method_5_code
abbrev y_K_someHas : MethodName := ⟨"ArrowClasses$Kindred", "someHas", "(II)Z"⟩
abbrev w_K_someHas : List Cond := .code y_K_someHas b_K_someHas 4 (some .boolean) :: vzB
abbrev b_K_gather : ByteArray := prog_3_method_13_code
abbrev y_K_gather : MethodName := ⟨"ArrowClasses$Kindred", "gather", "()V"⟩
abbrev w_K_gather : List Cond := .code y_K_gather b_K_gather 2 none :: vzB
abbrev b_K_isMember : ByteArray := prog_3_method_14_code
abbrev y_K_isMember : MethodName := ⟨"ArrowClasses$Kindred", "isMember", "(I)Z"⟩
abbrev w_K_isMember : List Cond := .code y_K_isMember b_K_isMember 3 (some .boolean) :: vzB
abbrev b_G_empty : ByteArray := prog_2_method_6_code
abbrev y_G_empty : MethodName := ⟨"ArrowClasses$Graph", "empty", "()V"⟩
abbrev w_G_empty : List Cond := .code y_G_empty b_G_empty 2 none :: vzB
abbrev b_K_bitAt : ByteArray := prog_3_method_12_code
abbrev y_K_bitAt : MethodName := ⟨"ArrowClasses$Kindred", "bitAt", "(I)I"⟩
abbrev w_K_bitAt : List Cond := .code y_K_bitAt b_K_bitAt 2 (some .int) :: vzB
abbrev b_G_collidesLike : ByteArray := prog_2_method_11_code
abbrev y_G_collidesLike : MethodName := ⟨"ArrowClasses$Graph", "collidesLike", "(LArrowClasses$Graph;)Z"⟩
abbrev w_G_collidesLike : List Cond := .code y_G_collidesLike b_G_collidesLike 4 (some .boolean) :: vzB
abbrev b_G_hasRing : ByteArray := prog_2_method_9_code
abbrev y_G_hasRing : MethodName := ⟨"ArrowClasses$Graph", "hasRing", "()Z"⟩
abbrev w_G_hasRing : List Cond := .code y_G_hasRing b_G_hasRing 4 (some .boolean) :: vzB
abbrev b_K_bitOf : ByteArray := prog_3_method_11_code
abbrev y_K_bitOf : MethodName := ⟨"ArrowClasses$Kindred", "bitOf", "(II)I"⟩
abbrev w_K_bitOf : List Cond := .code y_K_bitOf b_K_bitOf 4 (some .int) :: vzB
abbrev b_A_loose : ByteArray := prog_1_method_15_code
abbrev y_A_loose : MethodName := ⟨"ArrowClasses", "loose", "()I"⟩
abbrev w_A_loose : List Cond := .code y_A_loose b_A_loose 1 (some .int) :: vzB
abbrev b_K_loosePairs : ByteArray := prog_3_method_7_code
abbrev y_K_loosePairs : MethodName := ⟨"ArrowClasses$Kindred", "loosePairs", "()I"⟩
abbrev w_K_loosePairs : List Cond := .code y_K_loosePairs b_K_loosePairs 1 (some .int) :: vzB
abbrev b_A_know : ByteArray := prog_1_method_16_code
abbrev y_A_know : MethodName := ⟨"ArrowClasses", "know", "(II)Z"⟩
abbrev w_A_know : List Cond := .code y_A_know b_A_know 3 (some .boolean) :: vzB
abbrev b_K_fix : ByteArray := prog_3_method_9_code
abbrev y_K_fix : MethodName := ⟨"ArrowClasses$Kindred", "fix", "(II)V"⟩
abbrev w_K_fix : List Cond := .code y_K_fix b_K_fix 4 none :: vzB
abbrev b_A_forget : ByteArray := prog_1_method_17_code
abbrev y_A_forget : MethodName := ⟨"ArrowClasses", "forget", "()I"⟩
abbrev w_A_forget : List Cond := .code y_A_forget b_A_forget 1 (some .int) :: vzB
abbrev b_K_unfix : ByteArray := prog_3_method_10_code
abbrev y_K_unfix : MethodName := ⟨"ArrowClasses$Kindred", "unfix", "()I"⟩
abbrev w_K_unfix : List Cond := .code y_K_unfix b_K_unfix 2 (some .int) :: vzB
abbrev b_A_members : ByteArray := prog_1_method_18_code
abbrev y_A_members : MethodName := ⟨"ArrowClasses", "members", "()I"⟩
abbrev w_A_members : List Cond := .code y_A_members b_A_members 1 (some .int) :: vzB
abbrev b_K_size : ByteArray := prog_3_method_4_code
abbrev y_K_size : MethodName := ⟨"ArrowClasses$Kindred", "size", "()I"⟩
abbrev w_K_size : List Cond := .code y_K_size b_K_size 1 (some .int) :: vzB
abbrev b_A_first : ByteArray := prog_1_method_19_code
abbrev y_A_first : MethodName := ⟨"ArrowClasses", "first", "(II)Z"⟩
abbrev w_A_first : List Cond := .code y_A_first b_A_first 3 (some .boolean) :: vzB
abbrev b_K_firstHas : ByteArray := prog_3_method_6_code
abbrev y_K_firstHas : MethodName := ⟨"ArrowClasses$Kindred", "firstHas", "(II)Z"⟩
abbrev w_K_firstHas : List Cond := .code y_K_firstHas b_K_firstHas 4 (some .boolean) :: vzB
abbrev b_A_turned : ByteArray := prog_1_method_20_code
abbrev y_A_turned : MethodName := ⟨"ArrowClasses", "turned", "()I"⟩
abbrev w_A_turned : List Cond := .code y_A_turned b_A_turned 1 (some .int) :: vzB
abbrev b_K_turnedInFirst : ByteArray := prog_3_method_8_code
abbrev y_K_turnedInFirst : MethodName := ⟨"ArrowClasses$Kindred", "turnedInFirst", "()I"⟩
abbrev w_K_turnedInFirst : List Cond := .code y_K_turnedInFirst b_K_turnedInFirst 1 (some .int) :: vzB
abbrev b_L_cell : ByteArray := method_2_code
abbrev y_L_cell : MethodName := ⟨"ArrowClassesLaw", "cell", "([II)I"⟩
abbrev w_L_cell : List Cond := .code y_L_cell b_L_cell 2 (some .int) :: vzB
abbrev b_M_init : ByteArray := prog_5_method_1_code
abbrev y_M_init : MethodName := ⟨"ArrowClassesModel", "<init>", "(I)V"⟩
abbrev w_M_init : List Cond := .code y_M_init b_M_init 2 none :: vzB
abbrev b_M_arrow : ByteArray := prog_5_method_8_code
abbrev y_M_arrow : MethodName := ⟨"ArrowClassesModel", "arrow", "(II)Z"⟩
abbrev w_M_arrow : List Cond := .code y_M_arrow b_M_arrow 3 (some .boolean) :: vzB
abbrev b_M_areNodes : ByteArray := prog_5_method_3_code
abbrev y_M_areNodes : MethodName := ⟨"ArrowClassesModel", "areNodes", "(II)Z"⟩
abbrev w_M_areNodes : List Cond := .code y_M_areNodes b_M_areNodes 3 (some .boolean) :: vzB
abbrev b_M_isNode : ByteArray := prog_5_method_2_code
abbrev y_M_isNode : MethodName := ⟨"ArrowClassesModel", "isNode", "(I)Z"⟩
abbrev w_M_isNode : List Cond := .code y_M_isNode b_M_isNode 2 (some .boolean) :: vzB
abbrev b_M_joined : ByteArray := prog_5_method_4_code
abbrev y_M_joined : MethodName := ⟨"ArrowClassesModel", "joined", "(II)Z"⟩
abbrev w_M_joined : List Cond := .code y_M_joined b_M_joined 3 (some .boolean) :: vzB
abbrev b_M_arrows : ByteArray := prog_5_method_5_code
abbrev y_M_arrows : MethodName := ⟨"ArrowClassesModel", "arrows", "()I"⟩
abbrev w_M_arrows : List Cond := .code y_M_arrows b_M_arrows 3 (some .int) :: vzB
abbrev b_M_reach : ByteArray := prog_5_method_7_code
abbrev y_M_reach : MethodName := ⟨"ArrowClassesModel", "reach", "(I)I"⟩
abbrev w_M_reach : List Cond := .code y_M_reach b_M_reach 6 (some .int) :: vzB
abbrev b_M_forgetAll : ByteArray := prog_5_method_6_code
abbrev y_M_forgetAll : MethodName := ⟨"ArrowClassesModel", "forgetAll", "()V"⟩
abbrev w_M_forgetAll : List Cond := .code y_M_forgetAll b_M_forgetAll 2 none :: vzB
abbrev b_M_erase : ByteArray := prog_5_method_9_code
abbrev y_M_erase : MethodName := ⟨"ArrowClassesModel", "erase", "(II)Z"⟩
abbrev w_M_erase : List Cond := .code y_M_erase b_M_erase 3 (some .boolean) :: vzB
abbrev b_M_turn : ByteArray := prog_5_method_10_code
abbrev y_M_turn : MethodName := ⟨"ArrowClassesModel", "turn", "(II)Z"⟩
abbrev w_M_turn : List Cond := .code y_M_turn b_M_turn 3 (some .boolean) :: vzB
abbrev b_M_drawn : ByteArray := prog_5_method_11_code
abbrev y_M_drawn : MethodName := ⟨"ArrowClassesModel", "drawn", "(II)Z"⟩
abbrev w_M_drawn : List Cond := .code y_M_drawn b_M_drawn 3 (some .boolean) :: vzB
abbrev b_M_parents : ByteArray := prog_5_method_12_code
abbrev y_M_parents : MethodName := ⟨"ArrowClassesModel", "parents", "(I)I"⟩
abbrev w_M_parents : List Cond := .code y_M_parents b_M_parents 4 (some .int) :: vzB
abbrev b_M_reached : ByteArray := prog_5_method_13_code
abbrev y_M_reached : MethodName := ⟨"ArrowClassesModel", "reached", "(I)I"⟩
abbrev w_M_reached : List Cond := .code y_M_reached b_M_reached 2 (some .int) :: vzB
abbrev b_M_around : ByteArray := prog_5_method_14_code
abbrev y_M_around : MethodName := ⟨"ArrowClassesModel", "around", "(I)I"⟩
abbrev w_M_around : List Cond := .code y_M_around b_M_around 4 (some .int) :: vzB
abbrev b_M_collisions : ByteArray := prog_5_method_16_code
abbrev y_M_collisions : MethodName := ⟨"ArrowClassesModel", "collisions", "()I"⟩
abbrev w_M_collisions : List Cond := .code y_M_collisions b_M_collisions 5 (some .int) :: vzB
abbrev b_M_collides : ByteArray := prog_5_method_15_code
abbrev y_M_collides : MethodName := ⟨"ArrowClassesModel", "collides", "([ZIII)Z"⟩
abbrev w_M_collides : List Cond := .code y_M_collides b_M_collides 4 (some .boolean) :: vzB
abbrev b_M_covered : ByteArray := prog_5_method_17_code
abbrev y_M_covered : MethodName := ⟨"ArrowClassesModel", "covered", "(II)Z"⟩
abbrev w_M_covered : List Cond := .code y_M_covered b_M_covered 3 (some .boolean) :: vzB
abbrev b_M_separated : ByteArray := prog_5_method_21_code
abbrev y_M_separated : MethodName := ⟨"ArrowClassesModel", "separated", "(III)Z"⟩
abbrev w_M_separated : List Cond := .code y_M_separated b_M_separated 4 (some .boolean) :: vzB
abbrev b_M_allBlocked : ByteArray := prog_5_method_20_code
abbrev y_M_allBlocked : MethodName := ⟨"ArrowClassesModel", "allBlocked", "(III)Z"⟩
abbrev w_M_allBlocked : List Cond := .code y_M_allBlocked b_M_allBlocked 7 (some .boolean) :: vzB
abbrev b_M_blocked : ByteArray := prog_5_method_18_code
abbrev y_M_blocked : MethodName := ⟨"ArrowClassesModel", "blocked", "(II)Z"⟩
abbrev w_M_blocked : List Cond := .code y_M_blocked b_M_blocked 6 (some .boolean) :: vzB
abbrev b_M_onPath : ByteArray := prog_5_method_19_code
abbrev y_M_onPath : MethodName := ⟨"ArrowClassesModel", "onPath", "(II)Z"⟩
abbrev w_M_onPath : List Cond := .code y_M_onPath b_M_onPath 5 (some .boolean) :: vzB
abbrev b_M_separator : ByteArray := prog_5_method_23_code
abbrev y_M_separator : MethodName := ⟨"ArrowClassesModel", "separator", "(II)I"⟩
abbrev w_M_separator : List Cond := .code y_M_separator b_M_separator 5 (some .int) :: vzB
abbrev b_M_size : ByteArray := prog_5_method_22_code
abbrev y_M_size : MethodName := ⟨"ArrowClassesModel", "size", "(I)I"⟩
abbrev w_M_size : List Cond := .code y_M_size b_M_size 3 (some .int) :: vzB
abbrev b_M_separations : ByteArray := prog_5_method_24_code
abbrev y_M_separations : MethodName := ⟨"ArrowClassesModel", "separations", "()I"⟩
abbrev w_M_separations : List Cond := .code y_M_separations b_M_separations 5 (some .int) :: vzB
abbrev b_M_edge : ByteArray := prog_5_method_30_code
abbrev y_M_edge : MethodName := ⟨"ArrowClassesModel", "edge", "(II)I"⟩
abbrev w_M_edge : List Cond := .code y_M_edge b_M_edge 3 (some .int) :: vzB
abbrev b_M_goThrough : ByteArray := prog_5_method_29_code
abbrev y_M_goThrough : MethodName := ⟨"ArrowClassesModel", "goThrough", "()V"⟩
abbrev w_M_goThrough : List Cond := .code y_M_goThrough b_M_goThrough 3 none :: vzB
abbrev b_M_findPairs : ByteArray := prog_5_method_25_code
abbrev y_M_findPairs : MethodName := ⟨"ArrowClassesModel", "findPairs", "()V"⟩
abbrev w_M_findPairs : List Cond := .code y_M_findPairs b_M_findPairs 3 none :: vzB
abbrev b_M_direct : ByteArray := prog_5_method_26_code
abbrev y_M_direct : MethodName := ⟨"ArrowClassesModel", "direct", "(I)V"⟩
abbrev w_M_direct : List Cond := .code y_M_direct b_M_direct 6 none :: vzB
abbrev b_M_isMember : ByteArray := prog_5_method_28_code
abbrev y_M_isMember : MethodName := ⟨"ArrowClassesModel", "isMember", "()Z"⟩
abbrev w_M_isMember : List Cond := .code y_M_isMember b_M_isMember 4 (some .boolean) :: vzB
abbrev b_M_hasRing : ByteArray := prog_5_method_27_code
abbrev y_M_hasRing : MethodName := ⟨"ArrowClassesModel", "hasRing", "()Z"⟩
abbrev w_M_hasRing : List Cond := .code y_M_hasRing b_M_hasRing 6 (some .boolean) :: vzB
abbrev b_M_loose : ByteArray := prog_5_method_31_code
abbrev y_M_loose : MethodName := ⟨"ArrowClassesModel", "loose", "()I"⟩
abbrev w_M_loose : List Cond := .code y_M_loose b_M_loose 4 (some .int) :: vzB
abbrev b_M_know : ByteArray := prog_5_method_32_code
abbrev y_M_know : MethodName := ⟨"ArrowClassesModel", "know", "(II)Z"⟩
abbrev w_M_know : List Cond := .code y_M_know b_M_know 3 (some .boolean) :: vzB
abbrev b_M_forget : ByteArray := prog_5_method_33_code
abbrev y_M_forget : MethodName := ⟨"ArrowClassesModel", "forget", "()I"⟩
abbrev w_M_forget : List Cond := .code y_M_forget b_M_forget 3 (some .int) :: vzB
abbrev b_M_members : ByteArray := prog_5_method_34_code
abbrev y_M_members : MethodName := ⟨"ArrowClassesModel", "members", "()I"⟩
abbrev w_M_members : List Cond := .code y_M_members b_M_members 1 (some .int) :: vzB
abbrev b_M_first : ByteArray := prog_5_method_35_code
abbrev y_M_first : MethodName := ⟨"ArrowClassesModel", "first", "(II)Z"⟩
abbrev w_M_first : List Cond := .code y_M_first b_M_first 3 (some .boolean) :: vzB
abbrev b_M_turned : ByteArray := prog_5_method_36_code
abbrev y_M_turned : MethodName := ⟨"ArrowClassesModel", "turned", "()I"⟩
abbrev w_M_turned : List Cond := .code y_M_turned b_M_turned 4 (some .int) :: vzB
end
section
/-! own rows: contracts that only read (vz_B), contracts that write their own cells (vz_Bw), their calls -/
/-- the one link to a nest mate: Graph calls ArrowClasses.holds -/
abbrev nW : Cond := .methodLinkNest "ArrowClasses$Graph" 20 ⟨"ArrowClasses", "holds", "(II)Z"⟩ "ArrowClasses"
abbrev vz_B (D : va_G) (cl : List vw_C) (ws : va_W) (tys : List (ClassId × FieldType)) : State → Prop := fun U => va_P D cl ws U.heap ∧ va_K D cl tys U ∧ va_Nw nW U
abbrev vz_Bw (D : va_G) (cl : List vw_C) (ws : va_W) (tys : List (ClassId × FieldType)) (sz : Nat) : State → Prop := fun U => U.heap.size = sz ∧ va_P D cl ws U.heap ∧ va_K D cl tys U ∧ va_D (fun _ => True) ws ∧ va_Nw nW U
section VZ
variable {p : Program} {l : Launch} {e : Env} {R : Room} {s : State} {m : MethodId} {args : Array Value} {below : List Frame} {meth : Method} {c : Code} {H : Heap} {locs : List Loc} {cells slots : Nat} {Q : State → Prop}
variable {pc : Nat} {ls : Array Slot} {rest st0 : List Value} {a : Array Value} {A0 : Nat → Prop} {H0 : Heap} {D : va_G} {cl : List vw_C} {tys : List (ClassId × FieldType)} {ws wc wr w1 : va_W} {As : List Value} {b : Nat}
theorem vz_top {x y : Int32} (h : x = y) (k : W p l e R s m args below meth c H locs cells slots Q (F0 m pc ls (.int y :: rest))) : W p l e R s m args below meth c H locs cells slots Q (F0 m pc ls (.int x :: rest)) := by
  subst h; exact k
theorem vz_top2 {x y : Int32} {v : Value} (h : x = y) (k : W p l e R s m args below meth c H locs cells slots Q (F0 m pc ls (v :: .int y :: rest))) : W p l e R s m args below meth c H locs cells slots Q (F0 m pc ls (v :: .int x :: rest)) := by
  subst h; exact k
theorem vz_inc (i : Nat) : nI i + Int32.ofInt 1 = nI (i + 1) := by
  rw [← nI_1]; rfl
theorem vz_nz {v : Int32} (h : v = 0 ∨ v = 1) : narrow .boolean (.int v) = .int v := by
  rcases h with rfl | rfl <;> rfl
/-- a call that only reads and answers r -/
theorem vz_ro {r : Int32} (hr : va_Run p l e R s m args below meth c H locs cells slots 0 0 (F0 m pc ls st0) rest (QcRead r a) (fun _ => False))
    (kk : W p l e R s m args below meth c H locs cells slots Q (F0 m (pc + 3) ls (.int r :: rest))) : W p l e R s m args below meth c H locs cells slots Q (F0 m pc ls st0) := by
  intro T hT X
  obtain ⟨v, st₀, t, T', L, h0, X', hL, e1, -, ⟨hv, hh⟩, st⟩ := hr T hT X
  cases hv
  obtain ⟨t2, a1, b1⟩ := kk T' (by rw [e1, hh, h0]) (Stand.forget X' (fun q h => (hL q h).elim))
  exact ⟨t2, st t2 a1, b1⟩
/-- a call that writes its own cells (wc, then w1); the rest (wr) stays -/
theorem vz_rv (hr : va_Run p l e R s m args below meth c H locs cells slots 0 0 (F0 m pc ls st0) rest (va_Qv (fun _ : Unit => True) (fun (_ : Unit) t => va_P D cl w1 t.heap ∧ va_K D cl tys t ∧ va_D (va_A wc H.size) w1) (va_A wc H.size) a) (va_A wc H.size))
    (hP : va_P D cl ws H) (hD : va_D A0 ws) (hS : va_S A0 H0 H locs) (hA : ∀ q, H0.size ≤ q → A0 q) (isC isR : List Nat) (hC : isC.map (fun i => ws[i]?) = wc.map some) (hR : isR.map (fun i => ws[i]?) = wr.map some) (hn : va_nd isR = true) (hdis : ∀ i ∈ isR, i ∉ isC)
    (kk : ∀ (H1 : Heap) (locs1 : List Loc), va_P D cl (wr ++ w1) H1 → va_D A0 (wr ++ w1) → va_S A0 H0 H1 locs1 → W p l e R s m args below meth c H1 locs1 cells slots Q (F0 m (pc + 3) ls rest)) : W p l e R s m args below meth c H locs cells slots Q (F0 m pc ls st0) := by
  have hF := va_free (wc := wc) hD hS hA isC hC
  refine va_callv hr hS (fun q _ h => hF q h) hF (fun u t H1 locs1 ht hvm hw hB hz1 hk1 hS1 => ?_)
  obtain ⟨hP1, hK1, hD1⟩ := hB
  rw [ht] at hP1
  obtain ⟨hP2, hD2⟩ := va_join (wr := wr) (w1 := w1) hP hD isC isR hC hR hn hdis hk1 hF hP1 hD1
  exact kk H1 locs1 hP2 hD2 hS1
theorem vz_ri {r0 : Int32} (hr : va_Run p l e R s m args below meth c H locs cells slots 0 0 (F0 m pc ls st0) rest (va_Qi (fun (r : Int32) (_ : Unit) => r = r0) (fun (_ : Unit) t => va_P D cl w1 t.heap ∧ va_K D cl tys t ∧ va_D (va_A wc H.size) w1) (va_A wc H.size) a) (va_A wc H.size))
    (hP : va_P D cl ws H) (hD : va_D A0 ws) (hS : va_S A0 H0 H locs) (hA : ∀ q, H0.size ≤ q → A0 q) (isC isR : List Nat) (hC : isC.map (fun i => ws[i]?) = wc.map some) (hR : isR.map (fun i => ws[i]?) = wr.map some) (hn : va_nd isR = true) (hdis : ∀ i ∈ isR, i ∉ isC)
    (kk : ∀ (H1 : Heap) (locs1 : List Loc), va_P D cl (wr ++ w1) H1 → va_D A0 (wr ++ w1) → va_S A0 H0 H1 locs1 → W p l e R s m args below meth c H1 locs1 cells slots Q (F0 m (pc + 3) ls (.int r0 :: rest))) : W p l e R s m args below meth c H locs cells slots Q (F0 m pc ls st0) := by
  have hF := va_free (wc := wc) hD hS hA isC hC
  refine va_calli hr hS (fun q _ h => hF q h) hF (fun r u t H1 locs1 ht hvm hw hB hz1 hk1 hS1 => ?_)
  obtain ⟨hP1, hK1, hD1⟩ := hB
  rw [ht] at hP1
  obtain ⟨hP2, hD2⟩ := va_join (wr := wr) (w1 := w1) hP hD isC isR hC hR hn hdis hk1 hF hP1 hD1
  have hw : r = r0 := hw
  subst hw
  exact kk H1 locs1 hP2 hD2 hS1
/-- what a call wants of the world: a receiver, the callee's cells cut out -/
theorem vz_pv {q0 ci : Nat} {q : vw_C} {fs : List Value} (hN : va_Nw nW s) (hK : va_K D cl tys s) (hP : va_P D cl ws H) (is : List Nat) (hs : is.filterMap (fun i => ws[i]?) = wc) (hc : cl[ci]? = some q) (he : ws[q0]? = some (b, .inr (ci, fs))) : PreV s H q.1 b (va_Pc (.ref b :: As) (vz_B D cl wc tys)) As :=
  ⟨fun a U g mk h => ⟨h.1, h.2.1, va_K.moved (u := U) (U := U.calling g mk a) (Vm.Alike.refl U.vm) h.2.2.1, va_Nw.same rfl (rfl : U.vm = (U.calling g mk a).vm) h.2.2.2⟩, va_recv hK hP hc he, fun U hU hW => ⟨rfl, by rw [hU]; exact hP.sub is hs, va_K.moved hW.alike hK, va_Nw.warmM hW hN⟩⟩
theorem vz_ps (hN : va_Nw nW s) (hK : va_K D cl tys s) (hP : va_P D cl ws H) (is : List Nat) (hs : is.filterMap (fun i => ws[i]?) = wc) : PreS s H (va_Pc As (vz_B D cl wc tys)) As :=
  ⟨fun a U g mk h => ⟨h.1, h.2.1, va_K.moved (u := U) (U := U.calling g mk a) (Vm.Alike.refl U.vm) h.2.2.1, va_Nw.same rfl (rfl : U.vm = (U.calling g mk a).vm) h.2.2.2⟩, fun U hU hW => ⟨rfl, by rw [hU]; exact hP.sub is hs, va_K.moved hW.alike hK, va_Nw.warmM hW hN⟩⟩
theorem vz_pvw {q0 ci : Nat} {q : vw_C} {fs : List Value} (hN : va_Nw nW s) (hK : va_K D cl tys s) (hP : va_P D cl ws H) (hD : va_D A0 ws) (is : List Nat) (hs : is.filterMap (fun i => ws[i]?) = wc) (hn : va_nd is = true) (hs2 : is.map (fun i => ws[i]?) = wc.map some) (hc : cl[ci]? = some q) (he : ws[q0]? = some (b, .inr (ci, fs))) : PreV s H q.1 b (va_Pc (.ref b :: As) (vz_Bw D cl wc tys H.size)) As :=
  ⟨fun a U g mk h => ⟨h.1, h.2.1, h.2.2.1, va_K.moved (u := U) (U := U.calling g mk a) (Vm.Alike.refl U.vm) h.2.2.2.1, h.2.2.2.2.1, va_Nw.same rfl (rfl : U.vm = (U.calling g mk a).vm) h.2.2.2.2.2⟩, va_recv hK hP hc he, fun U hU hW => ⟨rfl, by rw [hU], by rw [hU]; exact hP.sub is hs, va_K.moved hW.alike hK, (hD.sub is hn hs2).weaken (fun _ _ _ _ => trivial), va_Nw.warmM hW hN⟩⟩
end VZ
/-- two array classes of one kind are one -/
theorem vz_sameI {D : va_G} {cl : List vw_C} {tys : List (ClassId × FieldType)} {U : State} {x y : ClassId} {i j : Nat} (h : va_K D cl tys U) (hi : tys[i]? = some (x, .int)) (hj : tys[j]? = some (y, .int)) : x = y := by
  have h1 : U.vm.findClass ("[" ++ FieldType.int.toString) = some x := (h.2 i _ hi).2
  have h2 : U.vm.findClass ("[" ++ FieldType.int.toString) = some y := (h.2 j _ hj).2
  rw [h1] at h2
  exact Option.some.inj h2
theorem vz_sameZ {D : va_G} {cl : List vw_C} {tys : List (ClassId × FieldType)} {U : State} {x y : ClassId} {i j : Nat} (h : va_K D cl tys U) (hi : tys[i]? = some (x, .boolean)) (hj : tys[j]? = some (y, .boolean)) : x = y := by
  have h1 : U.vm.findClass ("[" ++ FieldType.boolean.toString) = some x := (h.2 i _ hi).2
  have h2 : U.vm.findClass ("[" ++ FieldType.boolean.toString) = some y := (h.2 j _ hj).2
  rw [h1] at h2
  exact Option.some.inj h2
/-! words of a call out of vzB -/
section VZW
variable {R : Room} {s : State} {args : Array Value} {own C : String} {index : Nat} {y : MethodName} {bytes : ByteArray} {maxL n : Nat} {ret : Option FieldType} {rm : Room}
theorem vz_cwV (hT : ∀ w ∈ vzB, w.before args s = true) (wl : Cond.methodLink own index y ∈ vzB) (wi : Cond.instanceMethod y ∈ vzB) (we : Cond.selects C y y ∈ vzB) (wn : Cond.initialized C ∈ vzB) (wc : Cond.code y bytes maxL ret ∈ vzB)
    (hd : y.cls = C ∧ y.cls ≠ "java/lang/invoke/MethodHandle" ∧ y.cls ≠ "java/lang/invoke/VarHandle" ∧ (parseMethodDescriptor y.desc).map (fun d => d.parameters.length) = some n) (hR : rm.frames + 1 ≤ R.frames ∧ 8 + (maxL + 11) + rm.locals ≤ R.locals) :
    CallW R s args own C index y bytes maxL ret (Cond.code y bytes maxL ret :: vzB) rm rm.cells rm.slots n :=
  cwV n hT (goodIn_c wl rfl (goodIn_c wi rfl (goodIn_c we rfl (goodIn_c wn rfl (goodIn_c wc rfl gd_B))))) rfl rfl rfl hd hR
theorem vz_cwS (hT : ∀ w ∈ vzB, w.before args s = true) (wl : Cond.methodLink own index y ∈ vzB) (wi : Cond.static y ∈ vzB) (wn : Cond.initialized y.cls ∈ vzB) (wc : Cond.code y bytes maxL ret ∈ vzB)
    (hd : y.cls ≠ "java/lang/invoke/MethodHandle" ∧ y.cls ≠ "java/lang/invoke/VarHandle" ∧ (parseMethodDescriptor y.desc).map (fun d => d.parameters.length) = some n) (hR : rm.frames + 1 ≤ R.frames ∧ 8 + (maxL + 11) + rm.locals ≤ R.locals) :
    CallB R s args own index y bytes maxL ret (Cond.code y bytes maxL ret :: vzB) rm rm.cells rm.slots n ∧ (Cond.static y).before args s = true :=
  va_cwS n hT (goodIn_c wl rfl (goodIn_c wi rfl (goodIn_c wn rfl (goodIn_c wc rfl gd_B)))) rfl rfl rfl hd hR
theorem vz_cwI (hT : ∀ w ∈ vzB, w.before args s = true) (wl : Cond.methodLink own index y ∈ vzB) (wi : Cond.instanceMethod y ∈ vzB) (wn : Cond.initialized y.cls ∈ vzB) (wc : Cond.code y bytes maxL none ∈ vzB) (hy1 : y.name = "<init>")
    (hd : y.cls ≠ "java/lang/invoke/MethodHandle" ∧ y.cls ≠ "java/lang/invoke/VarHandle" ∧ (parseMethodDescriptor y.desc).map (fun d => d.parameters.length) = some n) (hR : rm.frames + 1 ≤ R.frames ∧ 8 + (maxL + 11) + rm.locals ≤ R.locals) :
    CallB R s args own index y bytes maxL none (Cond.code y bytes maxL none :: vzB) rm rm.cells rm.slots n ∧ y.name = "<init>" ∧ (Cond.instanceMethod y).before args s = true :=
  cwI n hT (goodIn_c wc rfl gd_B) rfl rfl rfl (hT _ wn) (hT _ wl) (hT _ wi) hy1 hd hR
theorem vz_cwN {host : String} (hT : ∀ w ∈ vzB, w.before args s = true) (hl : va_Nw (.methodLinkNest own index y host) s) (wi : Cond.static y ∈ vzB) (wn : Cond.initialized y.cls ∈ vzB) (wc : Cond.code y bytes maxL ret ∈ vzB)
    (hd : y.cls ≠ "java/lang/invoke/MethodHandle" ∧ y.cls ≠ "java/lang/invoke/VarHandle" ∧ (parseMethodDescriptor y.desc).map (fun d => d.parameters.length) = some n) (hR : rm.frames + 1 ≤ R.frames ∧ 8 + (maxL + 11) + rm.locals ≤ R.locals) :
    va_CN R s args own index y host bytes maxL ret (Cond.code y bytes maxL ret :: vzB) rm rm.cells rm.slots n ∧ (Cond.static y).before args s = true ∧ True :=
  ⟨va_cnB n hT (goodIn_c wc rfl gd_B) rfl rfl rfl hl (hT _ wn) hd hR, hT _ wi, trivial⟩
end VZW
end
section
/-! Int32 by its bits (the first rows began as kit/laws/BITS.to-paste, family bt) -/
def bt (x : Int32) (i : Nat) : Bool := x.toBitVec.getLsbD i
theorem b_ext {x y : Int32} (h : ∀ i, i < 32 → bt x i = bt y i) : x = y := Int32.toBitVec_inj.mp (BitVec.eq_of_getLsbD_eq (fun i hi => h i hi))
theorem b_or (x y : Int32) (i : Nat) : bt (x ||| y) i = (bt x i || bt y i) := by unfold bt; rw [Int32.toBitVec_or, BitVec.getLsbD_or]
theorem b_and (x y : Int32) (i : Nat) : bt (x &&& y) i = (bt x i && bt y i) := by unfold bt; rw [Int32.toBitVec_and, BitVec.getLsbD_and]
theorem b_xor (x y : Int32) (i : Nat) : bt (x ^^^ y) i = (bt x i ^^ bt y i) := by unfold bt; rw [Int32.toBitVec_xor, BitVec.getLsbD_xor]
theorem b_big {x : Int32} {i : Nat} (h : 32 ≤ i) : bt x i = false := BitVec.getLsbD_of_ge _ _ h
theorem b_m1 : ∀ i, i < 32 → bt (-1) i = true := by decide +kernel
theorem b_0 (i : Nat) : bt 0 i = false := BitVec.getLsbD_zero
theorem s_l : ∀ n, n < 32 → ((nI n &&& 31).toBitVec.smod 32).toNat = n := by decide +kernel
theorem b_shl (n : Nat) (hn : n < 32) (x : Int32) {i : Nat} (hi : i < 32) : bt (x <<< (nI n &&& 31)) i = (decide (n ≤ i) && bt x (i - n)) := by
  unfold bt
  rw [Int32.toBitVec_shiftLeft]
  show (x.toBitVec <<< ((nI n &&& 31).toBitVec.smod 32).toNat).getLsbD i = _
  rw [s_l n hn, BitVec.getLsbD_shiftLeft]
  rcases Nat.lt_or_ge i n with h | h
  · simp [h, Nat.not_le.mpr h]
  · simp [hi, h, Nat.not_lt.mpr h]
theorem b_sshr (n : Nat) (hn : n < 32) (x : Int32) {i : Nat} (hi : i < 32) : bt (x >>> (nI n &&& 31)) i = if n + i < 32 then bt x (n + i) else bt x 31 := by
  unfold bt
  rw [Int32.toBitVec_shiftRight]
  show (x.toBitVec.sshiftRight ((nI n &&& 31).toBitVec.smod 32).toNat).getLsbD i = _
  rw [s_l n hn, BitVec.getLsbD_sshiftRight, BitVec.msb_eq_getLsbD_last]
  simp [hi]
theorem b_1 : ∀ j, j < 32 → bt 1 j = decide (j = 0) := by decide +kernel
theorem b_lt {x : Int32} {i : Nat} (h : bt x i = true) : i < 32 := by
  rcases Nat.lt_or_ge i 32 with h2 | h2
  · exact h2
  · rw [b_big h2] at h; cases h
theorem b_low (x : Int32) : x &&& 1 = if bt x 0 = true then 1 else 0 := by
  apply b_ext
  intro j hj
  rw [b_and, b_1 j hj]
  by_cases h0 : j = 0
  · subst h0
    cases bt x 0
    · rw [if_neg (by decide), b_0]; rfl
    · rw [if_pos rfl, b_1 0 (by decide)]; rfl
  · rw [decide_eq_false h0, Bool.and_false]
    cases bt x 0
    · rw [if_neg (by decide), b_0]
    · rw [if_pos rfl, b_1 j hj, decide_eq_false h0]
/-- the bit test of both sides -/
theorem b_at (x : Int32) {i : Nat} (hi : i < 32) : (x >>> (nI i &&& 31)) &&& 1 = if bt x i = true then 1 else 0 := by
  rw [b_low, b_sshr i hi x (by omega), if_pos (show i + 0 < 32 by omega), Nat.add_zero]
theorem b_at0 (x : Int32) {i : Nat} (hi : i < 32) : ((x >>> (nI i &&& 31)) &&& 1 = 0) ↔ bt x i = false := by
  rw [b_at x hi]
  cases bt x i
  · exact ⟨fun _ => rfl, fun _ => if_neg (by decide)⟩
  · rw [if_pos rfl]
    exact ⟨fun h => absurd h (by decide), fun h => by cases h⟩
theorem b_at1 (x : Int32) {i : Nat} (hi : i < 32) : ((x >>> (nI i &&& 31)) &&& 1 = 1) ↔ bt x i = true := by
  rw [b_at x hi]
  cases bt x i
  · rw [if_neg (by decide)]
    exact ⟨fun h => absurd h (by decide), fun h => by cases h⟩
  · exact ⟨fun _ => rfl, fun _ => if_pos rfl⟩
theorem b_one {n : Nat} (hn : n < 32) (i : Nat) : bt ((1 : Int32) <<< (nI n &&& 31)) i = decide (i = n) := by
  rcases Nat.lt_or_ge i 32 with hi | hi
  · rw [b_shl n hn 1 hi]
    rcases Nat.lt_or_ge i n with h | h
    · rw [decide_eq_false (by omega), decide_eq_false (by omega), Bool.false_and]
    · rw [decide_eq_true h, b_1 _ (by omega), Bool.true_and]
      exact decide_eq_decide.mpr (by omega)
  · rw [b_big hi, decide_eq_false (by omega)]
theorem b_not (x : Int32) {i : Nat} (hi : i < 32) : bt (x ^^^ (-1)) i = !bt x i := by
  rw [b_xor, b_m1 i hi, Bool.xor_true]
theorem b_eq0 {x : Int32} : x = 0 ↔ ∀ i, bt x i = false := by
  constructor
  · intro h i; rw [h]; exact b_0 i
  · intro h; exact b_ext (fun i _ => by rw [h i, b_0])
theorem b_ext' {x y : Int32} (h : ∀ i, bt x i = bt y i) : x = y := b_ext (fun i _ => h i)
theorem b_eq {x y : Int32} : x = y ↔ ∀ i, bt x i = bt y i := ⟨fun h i => by rw [h], b_ext'⟩
/-! small numbers -/
theorem vz_p64 {n : Nat} (h : n ≤ 6) : 2 ^ n ≤ 64 := by
  have : 2 ^ n ≤ 2 ^ 6 := Nat.pow_le_pow_right (by decide) h
  exact this
theorem vz_p512 {n : Nat} (h : n ≤ 9) : 2 ^ n ≤ 512 := by
  have : 2 ^ n ≤ 2 ^ 9 := Nat.pow_le_pow_right (by decide) h
  exact this
theorem vz_pow_all : ∀ n, n < 31 → (1 : Int32) <<< (nI n &&& 31) = nI (2 ^ n) := by decide +kernel
theorem vz_pow {n : Nat} (h : n ≤ 9) : (1 : Int32) <<< (nI n &&& 31) = nI (2 ^ n) := vz_pow_all n (by omega)
theorem vz_sub1 {n : Nat} (h : 1 ≤ n) : nI n - 1 = nI (n - 1) := pk_sub (b := 1) h
theorem vz_dec {n : Nat} (h : 1 ≤ n) : nI n + Int32.ofInt (-1) = nI (n - 1) := by
  obtain ⟨k, rfl⟩ : ∃ k, n = k + 1 := ⟨n - 1, by omega⟩
  exact pk_m1 k
theorem vz_in6 {n : Nat} {x : Int32} (hn : n ≤ 6) (h : vp_in x n) : vp_in x 6 := by
  rw [vp_in_iff] at h ⊢
  omega
/-- a place in a table of 6 times 6 -/
theorem vz_ixN (i j : Nat) : 6 * nI i + nI j = nI (6 * i + j) := by
  rw [show (6 : Int32) = nI 6 from rfl, pk_mul, nI_add]
theorem vz_ix {n : Nat} {x y : Int32} (hn : n ≤ 6) (hx : vp_in x n) (hy : vp_in y n) : vp_in (6 * x + y) 36 := by
  obtain ⟨i, hi, rfl⟩ := vp_in_of hx (by omega)
  obtain ⟨j, hj, rfl⟩ := vp_in_of hy (by omega)
  rw [vz_ixN]
  exact vp_in_nI (by omega) (by omega)
theorem vz_ixC {i j : Nat} (hi : i < 6) (hj : j < 6) : (6 * nI i + nI j).toNatClampNeg = 6 * i + j := by
  rw [vz_ixN, nI_clamp (by omega)]
end
section
/-! ways and paths: an open way (nodes may come twice) gives an open way in which they don't -/
def dp_R (G : Nat → Nat → Prop) : Nat → Nat → Nat → Prop
  | 0, u, w => u = w
  | k + 1, u, w => ∃ v, G u v ∧ dp_R G k v w
def dp_Reach (G : Nat → Nat → Prop) (u w : Nat) : Prop := ∃ k, dp_R G k u w
theorem dp_R_trans {G : Nat → Nat → Prop} : ∀ (a : Nat) {b u v w : Nat}, dp_R G a u v → dp_R G b v w → dp_R G (a + b) u w
  | 0, b, u, v, w, h1, h2 => by
    have h1 : u = v := h1
    subst h1
    rw [Nat.zero_add]; exact h2
  | a + 1, b, u, v, w, h1, h2 => by
    obtain ⟨z, hz, h1⟩ := h1
    rw [Nat.add_right_comm]
    exact ⟨z, hz, dp_R_trans a h1 h2⟩
theorem dp_Reach_refl (G : Nat → Nat → Prop) (u : Nat) : dp_Reach G u u := ⟨0, rfl⟩
theorem dp_Reach_trans {G : Nat → Nat → Prop} {u v w : Nat} (h1 : dp_Reach G u v) (h2 : dp_Reach G v w) : dp_Reach G u w := by
  obtain ⟨a, h1⟩ := h1
  obtain ⟨b, h2⟩ := h2
  exact ⟨a + b, dp_R_trans a h1 h2⟩
theorem dp_Reach_one {G : Nat → Nat → Prop} {u v : Nat} (h : G u v) : dp_Reach G u v := ⟨1, v, h, rfl⟩
theorem dp_Reach_snoc {G : Nat → Nat → Prop} {u v w : Nat} (h1 : dp_Reach G u v) (h2 : G v w) : dp_Reach G u w := dp_Reach_trans h1 (dp_Reach_one h2)
theorem dp_Reach_cons {G : Nat → Nat → Prop} {u v w : Nat} (h1 : G u v) (h2 : dp_Reach G v w) : dp_Reach G u w := dp_Reach_trans (dp_Reach_one h1) h2
/-- the set is reached -/
def dp_RS (G : Nat → Nat → Prop) (S : Nat → Prop) (u : Nat) : Prop := ∃ w, S w ∧ dp_Reach G u w
/-- a node between two others on a way lets through -/
def dp_ok (G : Nat → Nat → Prop) (S : Nat → Prop) (a b c : Nat) : Prop := (G a b → G c b → dp_RS G S b) ∧ (¬ (G a b ∧ G c b) → ¬ S b)
/-- an open way of m steps -/
def dp_way (G : Nat → Nat → Prop) (S : Nat → Prop) (w : Nat → Nat) (m : Nat) : Prop := (∀ t, t < m → G (w t) (w (t + 1)) ∨ G (w (t + 1)) (w t)) ∧ ∀ t, t + 1 < m → dp_ok G S (w t) (w (t + 1)) (w (t + 2))
theorem dp_down {G : Nat → Nat → Prop} (w : Nat → Nat) (i : Nat) : ∀ (d : Nat), (∀ s, s < d → G (w (i + s)) (w (i + s + 1))) → dp_Reach G (w i) (w (i + d))
  | 0, _ => dp_Reach_refl _ _
  | d + 1, h => dp_Reach_snoc (dp_down w i d (fun s hs => h s (by omega))) (h d (by omega))
/-- a round that leaves along an arrow and comes back against one: its node reaches the set -/
theorem dp_round {G : Nat → Nat → Prop} {S : Nat → Prop} {w : Nat → Nat} {m i j : Nat} (hG : ∀ a b, G a b → ¬ G b a) (hw : dp_way G S w m) (hj : i + 2 ≤ j) (hm : j < m + 1) (he : w i = w j) (h1 : G (w i) (w (i + 1))) (h2 : G (w j) (w (j - 1))) : dp_RS G S (w i) := by
  have hex : ∃ d, ¬ G (w (i + d)) (w (i + d + 1)) := ⟨j - 1 - i, by
    rw [show i + (j - 1 - i) = j - 1 by omega, show j - 1 + 1 = j by omega]
    exact fun h => hG _ _ h h2⟩
  obtain ⟨d, hd, hl⟩ := pk_least (fun d => ¬ G (w (i + d)) (w (i + d + 1))) hex
  have hdj : d ≤ j - 1 - i := by
    rcases Nat.lt_or_ge (j - 1 - i) d with h | h
    · exfalso
      have := hl _ h
      apply this
      show ¬ G (w (i + (j - 1 - i))) (w (i + (j - 1 - i) + 1))
      rw [show i + (j - 1 - i) = j - 1 by omega, show j - 1 + 1 = j by omega]
      exact fun h => hG _ _ h h2
    · exact h
  have hd0 : d ≠ 0 := by
    intro h
    subst h
    exact hd h1
  have hup : ∀ s, s < d → G (w (i + s)) (w (i + s + 1)) := fun s hs => Classical.not_not.mp (hl s hs)
  have hre : dp_Reach G (w i) (w (i + d)) := dp_down w i d hup
  have ha := hw.1 (i + d) (by omega)
  have hb : G (w (i + d + 1)) (w (i + d)) := ha.resolve_left hd
  have hin : G (w (i + d - 1)) (w (i + d)) := by
    have := hup (d - 1) (by omega)
    rw [show i + (d - 1) = i + d - 1 by omega, show i + d - 1 + 1 = i + d by omega] at this
    exact this
  have hok := hw.2 (i + d - 1) (by omega)
  rw [show i + d - 1 + 1 = i + d by omega, show i + d - 1 + 2 = i + d + 1 by omega] at hok
  obtain ⟨z, hz, hr⟩ := hok.1 hin hb
  exact ⟨z, hz, dp_Reach_trans hre hr⟩
/-- a way without the part between i and j -/
def dp_cut (w : Nat → Nat) (i j : Nat) : Nat → Nat := fun t => if t ≤ i then w t else w (t + (j - i))
theorem dp_cut_way {G : Nat → Nat → Prop} {S : Nat → Prop} {w : Nat → Nat} {m i j : Nat} (hG : ∀ a b, G a b → ¬ G b a) (hw : dp_way G S w m) (hij : i < j) (hm : j ≤ m) (he : w i = w j) : dp_way G S (dp_cut w i j) (m - (j - i)) := by
  have lo : ∀ t, t ≤ i → dp_cut w i j t = w t := fun t h => if_pos h
  have hi : ∀ t, i ≤ t → dp_cut w i j t = w (t + (j - i)) := fun t h => by
    rcases Nat.lt_or_ge i t with h2 | h2
    · exact if_neg (by omega)
    · have : t = i := by omega
      subst this
      rw [lo t (Nat.le_refl _), he, show t + (j - t) = j by omega]
  have hij2 : i + 2 ≤ j := by
    rcases Nat.lt_or_ge j (i + 2) with h | h
    · exfalso
      have e : j = i + 1 := by omega
      subst e
      have := hw.1 i (by omega)
      rw [← he] at this
      rcases this with h | h <;> exact hG _ _ h h
    · exact h
  refine ⟨fun t ht => ?_, fun t ht => ?_⟩
  · rcases Nat.lt_or_ge t i with h | h
    · rw [lo t (by omega), lo (t + 1) (by omega)]
      exact hw.1 t (by omega)
    · rw [hi t h, hi (t + 1) (by omega), show t + 1 + (j - i) = t + (j - i) + 1 by omega]
      exact hw.1 _ (by omega)
  · rcases Nat.lt_or_ge (t + 1) i with h | h
    · rw [lo t (by omega), lo (t + 1) (by omega), lo (t + 2) (by omega)]
      exact hw.2 t (by omega)
    · rcases Nat.lt_or_ge i (t + 1) with h2 | h2
      · rw [hi t (by omega), hi (t + 1) (by omega), hi (t + 2) (by omega), show t + 1 + (j - i) = t + (j - i) + 1 by omega, show t + 2 + (j - i) = t + (j - i) + 2 by omega]
        exact hw.2 _ (by omega)
      · have e : i = t + 1 := by omega
        subst e
        rw [lo t (by omega), lo (t + 1) (by omega), hi (t + 2) (by omega), show t + 2 + (j - (t + 1)) = j + 1 by omega]
        have o1 := hw.2 t (by omega)
        have o2 := hw.2 (j - 1) (by omega)
        rw [show j - 1 + 1 = j by omega, show j - 1 + 2 = j + 1 by omega, ← he] at o2
        have a1 := hw.1 (t + 1) (by omega)
        have a2 := hw.1 (j - 1) (by omega)
        rw [show j - 1 + 1 = j by omega, ← he] at a2
        refine ⟨fun g1 g2 => ?_, fun g => ?_⟩
        · rcases a1 with a1 | a1
          · rcases a2 with a2 | a2
            · exact o2.1 a2 g2
            · exact dp_round hG hw hij2 (by omega) he a1 (by rw [← he]; exact a2)
          · exact o1.1 g1 a1
        · rcases Classical.em (G (w t) (w (t + 1))) with g1 | g1
          · exact o2.2 (fun q => g ⟨g1, q.2⟩)
          · exact o1.2 (fun q => g1 q.1)
/-- an open way from x to another node y gives one without a node twice -/
theorem dp_simple {G : Nat → Nat → Prop} {S : Nat → Prop} (hG : ∀ a b, G a b → ¬ G b a) {x y : Nat} {w : Nat → Nat} {m : Nat} (hw : dp_way G S w m) (h0 : w 0 = x) (h1 : w m = y) :
    ∃ (v : Nat → Nat) (k : Nat), dp_way G S v k ∧ v 0 = x ∧ v k = y ∧ ∀ i j, i < j → j ≤ k → v i ≠ v j := by
  obtain ⟨k, ⟨v, hv, e0, e1⟩, hl⟩ := pk_least (fun k => ∃ v : Nat → Nat, dp_way G S v k ∧ v 0 = x ∧ v k = y) ⟨m, w, hw, h0, h1⟩
  refine ⟨v, k, hv, e0, e1, fun i j hij hj he => ?_⟩
  refine hl (k - (j - i)) (by omega) ⟨dp_cut v i j, dp_cut_way hG hv hij hj he, ?_, ?_⟩
  · show (if 0 ≤ i then v 0 else _) = x
    rw [if_pos (Nat.zero_le _)]; exact e0
  · show (if k - (j - i) ≤ i then v (k - (j - i)) else v (k - (j - i) + (j - i))) = y
    rcases Nat.lt_or_ge i (k - (j - i)) with h | h
    · rw [if_neg (by omega), show k - (j - i) + (j - i) = k by omega]; exact e1
    · rw [if_pos h, show k - (j - i) = i by omega, he, show j = k by omega]; exact e1
/-- the rules by which open ways are followed, one node at a time -/
def dp_closed (G : Nat → Nat → Prop) (S A B : Nat → Prop) : Prop :=
  (∀ v c, ¬ S v → (A v ∨ B v) → G v c → B c) ∧ (∀ v q, ¬ S v → A v → G q v → A q) ∧ ∀ v q, S v → B v → G q v → A q
theorem dp_bounce {G : Nat → Nat → Prop} {S A B : Nat → Prop} (hc : dp_closed G S A B) : ∀ (k : Nat) (v z q : Nat), dp_R G k v z → S z → B v → G q v → A q
  | 0, v, z, q, h, hz, hB, hq => by
    have h : v = z := h
    subst h
    exact hc.2.2 v q hz hB hq
  | k + 1, v, z, q, h, hz, hB, hq => by
    rcases Classical.em (S v) with hv | hv
    · exact hc.2.2 v q hv hB hq
    · obtain ⟨c, hvc, h⟩ := h
      exact hc.2.1 v q hv (dp_bounce hc k c z v h hz (hc.1 v c hv (Or.inr hB) hvc) hvc) hq
/-- every open way stays inside what the rules give -/
theorem dp_inside {G : Nat → Nat → Prop} {S A B : Nat → Prop} (hG : ∀ a b, G a b → ¬ G b a) (hc : dp_closed G S A B) {w : Nat → Nat} {m : Nat} (hw : dp_way G S w m) (hA : ∀ q, G q (w 0) → A q) (hB : ∀ c, G (w 0) c → B c) :
    ∀ t, t < m → (G (w t) (w (t + 1)) → B (w (t + 1))) ∧ (G (w (t + 1)) (w t) → A (w (t + 1)))
  | 0, _ => ⟨fun h => hB _ h, fun h => hA _ h⟩
  | t + 1, ht => by
    have ih := dp_inside hG hc hw hA hB t (by omega)
    have ok := hw.2 t (by omega)
    have ad := hw.1 t (by omega)
    rcases Classical.em (G (w t) (w (t + 1)) ∧ G (w (t + 2)) (w (t + 1))) with hcol | hcol
    · obtain ⟨z, hz, k, hk⟩ := ok.1 hcol.1 hcol.2
      exact ⟨fun h => absurd hcol.2 (hG _ _ h), fun h => dp_bounce hc k _ z _ hk hz (ih.1 hcol.1) h⟩
    · have hs := ok.2 hcol
      refine ⟨fun h => hc.1 _ _ hs ?_ h, fun h => hc.2.1 _ _ hs ?_ h⟩
      · rcases ad with ad | ad
        · exact Or.inr (ih.1 ad)
        · exact Or.inl (ih.2 ad)
      · rcases ad with ad | ad
        · exact absurd ⟨ad, h⟩ hcol
        · exact ih.2 ad
/-- an open way from x that comes to q against an arrow, or to c along one -/
def dp_A (G : Nat → Nat → Prop) (S : Nat → Prop) (x q : Nat) : Prop := ∃ (w : Nat → Nat) (m : Nat), dp_way G S w (m + 1) ∧ w 0 = x ∧ w (m + 1) = q ∧ G q (w m)
def dp_B (G : Nat → Nat → Prop) (S : Nat → Prop) (x c : Nat) : Prop := ∃ (w : Nat → Nat) (m : Nat), dp_way G S w (m + 1) ∧ w 0 = x ∧ w (m + 1) = c ∧ G (w m) c
def dp_ap (w : Nat → Nat) (m z : Nat) : Nat → Nat := fun t => if t ≤ m then w t else z
theorem dp_ap_way {G : Nat → Nat → Prop} {S : Nat → Prop} {w : Nat → Nat} {m z : Nat} (hw : dp_way G S w (m + 1)) (ha : G (w (m + 1)) z ∨ G z (w (m + 1))) (ho : dp_ok G S (w m) (w (m + 1)) z) : dp_way G S (dp_ap w (m + 1) z) (m + 2) := by
  have lo : ∀ t, t ≤ m + 1 → dp_ap w (m + 1) z t = w t := fun t h => if_pos h
  have hi : dp_ap w (m + 1) z (m + 2) = z := if_neg (by omega)
  refine ⟨fun t ht => ?_, fun t ht => ?_⟩
  · rcases Nat.lt_or_ge t (m + 1) with h | h
    · rw [lo t (by omega), lo (t + 1) (by omega)]
      exact hw.1 t h
    · have e : t = m + 1 := by omega
      subst e
      rw [lo _ (by omega), hi]
      exact ha
  · rcases Nat.lt_or_ge t m with h | h
    · rw [lo t (by omega), lo (t + 1) (by omega), lo (t + 2) (by omega)]
      exact hw.2 t (by omega)
    · have e : t = m := by omega
      subst e
      rw [lo t (by omega), lo (t + 1) (by omega), hi]
      exact ho
theorem dp_ap_A {G : Nat → Nat → Prop} {S : Nat → Prop} {x v q : Nat} {w : Nat → Nat} {m : Nat} (hw : dp_way G S w (m + 1)) (h0 : w 0 = x) (h1 : w (m + 1) = v) (hg : G q v) (ho : dp_ok G S (w m) v q) : dp_A G S x q := by
  subst h1
  refine ⟨dp_ap w (m + 1) q, m + 1, dp_ap_way hw (Or.inr hg) ho, ?_, if_neg (by omega), ?_⟩
  · exact (if_pos (Nat.zero_le _)).trans h0
  · rw [show dp_ap w (m + 1) q (m + 1) = w (m + 1) from if_pos (Nat.le_refl _)]; exact hg
theorem dp_ap_B {G : Nat → Nat → Prop} {S : Nat → Prop} {x v c : Nat} {w : Nat → Nat} {m : Nat} (hw : dp_way G S w (m + 1)) (h0 : w 0 = x) (h1 : w (m + 1) = v) (hg : G v c) (ho : dp_ok G S (w m) v c) : dp_B G S x c := by
  subst h1
  refine ⟨dp_ap w (m + 1) c, m + 1, dp_ap_way hw (Or.inl hg) ho, ?_, if_neg (by omega), ?_⟩
  · exact (if_pos (Nat.zero_le _)).trans h0
  · rw [show dp_ap w (m + 1) c (m + 1) = w (m + 1) from if_pos (Nat.le_refl _)]; exact hg
theorem dp_AB_closed {G : Nat → Nat → Prop} {S : Nat → Prop} (hG : ∀ a b, G a b → ¬ G b a) (x : Nat) : dp_closed G S (dp_A G S x) (dp_B G S x) := by
  refine ⟨fun v c hs hv hg => ?_, fun v q hs hv hg => ?_, fun v q hs hv hg => ?_⟩
  · rcases hv with ⟨w, m, hw, h0, h1, h2⟩ | ⟨w, m, hw, h0, h1, h2⟩
    · exact dp_ap_B hw h0 h1 hg ⟨fun _ g2 => absurd g2 (hG _ _ hg), fun _ => hs⟩
    · exact dp_ap_B hw h0 h1 hg ⟨fun _ g2 => absurd g2 (hG _ _ hg), fun _ => hs⟩
  · obtain ⟨w, m, hw, h0, h1, h2⟩ := hv
    exact dp_ap_A hw h0 h1 hg ⟨fun g1 _ => absurd g1 (hG _ _ h2), fun _ => hs⟩
  · obtain ⟨w, m, hw, h0, h1, h2⟩ := hv
    exact dp_ap_A hw h0 h1 hg ⟨fun _ _ => ⟨v, hs, dp_Reach_refl G v⟩, fun g => absurd ⟨h2, hg⟩ g⟩
theorem dp_A0 {G : Nat → Nat → Prop} {S : Nat → Prop} {x q : Nat} (h : G q x) : dp_A G S x q := by
  refine ⟨fun t => if t = 0 then x else q, 0, ⟨fun t ht => ?_, fun t ht => by omega⟩, if_pos rfl, if_neg (by omega), ?_⟩
  · have e : t = 0 := by omega
    subst e
    exact Or.inr h
  · exact h
theorem dp_B0 {G : Nat → Nat → Prop} {S : Nat → Prop} {x c : Nat} (h : G x c) : dp_B G S x c := by
  refine ⟨fun t => if t = 0 then x else c, 0, ⟨fun t ht => ?_, fun t ht => by omega⟩, if_pos rfl, if_neg (by omega), ?_⟩
  · have e : t = 0 := by omega
    subst e
    exact Or.inl h
  · exact h
/-- THE THEOREM: what the rules give (A, B: closed, from x, and nothing but ends of open ways) holds y just when some open path of different nodes goes from x to y -/
theorem dp_main {G : Nat → Nat → Prop} {S A B : Nat → Prop} (hG : ∀ a b, G a b → ¬ G b a) {x y : Nat} (hxy : x ≠ y) (hc : dp_closed G S A B) (hA : ∀ q, G q x → A q) (hB : ∀ c, G x c → B c) (sA : ∀ q, A q → dp_A G S x q) (sB : ∀ c, B c → dp_B G S x c) :
    (A y ∨ B y) ↔ ∃ (v : Nat → Nat) (k : Nat), dp_way G S v k ∧ v 0 = x ∧ v k = y ∧ ∀ i j, i < j → j ≤ k → v i ≠ v j := by
  constructor
  · intro h
    rcases h with h | h
    · obtain ⟨w, m, hw, h0, h1, -⟩ := sA y h
      exact dp_simple hG hw h0 h1
    · obtain ⟨w, m, hw, h0, h1, -⟩ := sB y h
      exact dp_simple hG hw h0 h1
  · intro ⟨v, k, hv, h0, h1, _⟩
    cases k with
    | zero => exact absurd (h0.symm.trans h1) hxy
    | succ k =>
      have h := dp_inside hG hc hv (by rw [h0]; exact hA) (by rw [h0]; exact hB) k (by omega)
      rw [h1] at h
      rcases hv.1 k (by omega) with g | g
      · exact Or.inr (h.1 (by rw [h1] at g; exact g))
      · exact Or.inl (h.2 (by rw [h1] at g; exact g))
end
section
/-! counting below n; doing a thing again until it stays -/
def cb (f : Nat → Bool) : Nat → Nat
  | 0 => 0
  | n + 1 => cb f n + (if f n = true then 1 else 0)
theorem cb_le (f : Nat → Bool) : ∀ n, cb f n ≤ n
  | 0 => Nat.le_refl 0
  | n + 1 => by
    have := cb_le f n
    unfold cb
    split <;> omega
theorem cb_mono {f g : Nat → Bool} : ∀ n, (∀ i, i < n → f i = true → g i = true) → cb f n ≤ cb g n
  | 0, _ => Nat.le_refl 0
  | n + 1, h => by
    have ih := cb_mono n (fun i hi => h i (by omega))
    unfold cb
    by_cases a : f n = true
    · rw [if_pos a, if_pos (h n (by omega) a)]; omega
    · rw [if_neg a]; omega
theorem cb_lt {f g : Nat → Bool} : ∀ n, (∀ i, i < n → f i = true → g i = true) → (∃ i, i < n ∧ f i = false ∧ g i = true) → cb f n < cb g n
  | 0, _, h => by obtain ⟨i, hi, _⟩ := h; omega
  | n + 1, h, hx => by
    have hm := cb_mono n (fun i hi => h i (by omega))
    obtain ⟨i, hi, h1, h2⟩ := hx
    unfold cb
    by_cases a : i = n
    · subst a
      rw [if_pos h2, if_neg (by rw [h1]; decide)]; omega
    · have ih := cb_lt n (fun i hi => h i (by omega)) ⟨i, by omega, h1, h2⟩
      by_cases b : f n = true
      · rw [if_pos b, if_pos (h n (by omega) b)]; omega
      · rw [if_neg b]; omega
theorem cb_pos {f : Nat → Bool} : ∀ n i, i < n → f i = true → 1 ≤ cb f n
  | 0, i, hi, _ => by omega
  | n + 1, i, hi, h => by
    unfold cb
    by_cases a : i = n
    · subst a; rw [if_pos h]; omega
    · have := cb_pos n i (by omega) h; omega
theorem cb_full {f : Nat → Bool} : ∀ n, n ≤ cb f n → ∀ i, i < n → f i = true
  | 0, _, i, hi => by omega
  | n + 1, h, i, hi => by
    unfold cb at h
    have hl := cb_le f n
    by_cases a : f n = true
    · rw [if_pos a] at h
      by_cases b : i = n
      · subst b; exact a
      · exact cb_full n (by omega) i (by omega)
    · rw [if_neg a] at h; omega
theorem cb_congr {f g : Nat → Bool} : ∀ n, (∀ i, i < n → f i = g i) → cb f n = cb g n
  | 0, _ => rfl
  | n + 1, h => by
    unfold cb
    rw [cb_congr n (fun i hi => h i (by omega)), h n (by omega)]
def itN {α : Type} (T : α → α) : Nat → α → α
  | 0, f => f
  | k + 1, f => itN T k (T f)
theorem itN_fixed {α : Type} {T : α → α} {f : α} (h : T f = f) : ∀ k, itN T k f = f
  | 0 => rfl
  | k + 1 => by
    show itN T k (T f) = f
    rw [h]; exact itN_fixed h k
theorem itN_add {α : Type} (T : α → α) : ∀ (a b : Nat) (f : α), itN T (a + b) f = itN T b (itN T a f)
  | 0, b, f => by rw [Nat.zero_add]; rfl
  | a + 1, b, f => by
    rw [Nat.add_right_comm]
    show itN T (a + b) (T f) = _
    rw [itN_add T a b]; rfl
theorem itN_inv {α : Type} {T : α → α} {I : α → Prop} (hI : ∀ f, I f → I (T f)) : ∀ (k : Nat) (f : α), I f → I (itN T k f)
  | 0, _, h => h
  | k + 1, f, h => itN_inv hI k (T f) (hI f h)
/-- what grows while it moves, and can't grow above N, stays in the end -/
theorem itN_stays {α : Type} {T : α → α} {I : α → Prop} {μ : α → Nat} {N : Nat} (hI : ∀ f, I f → I (T f)) (hN : ∀ f, I f → μ f ≤ N) (hT : ∀ f, I f → T f ≠ f → μ f < μ (T f)) :
    ∀ (k : Nat) (f : α), I f → N ≤ μ f + k → T (itN T k f) = itN T k f
  | 0, f, h, hk => by
    show T f = f
    refine Classical.byContradiction (fun a => ?_)
    have h1 := hT f h a
    have h2 := hN _ (hI f h)
    omega
  | k + 1, f, h, hk => by
    show T (itN T k (T f)) = itN T k (T f)
    by_cases a : T f = f
    · rw [a, itN_fixed a, a]
    · exact itN_stays hI hN hT k (T f) (hI f h) (by have := hT f h a; omega)
end
