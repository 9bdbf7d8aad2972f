section
-- ===== PART A: goes FIRST, ahead of the names: the tables' words, and 'selects' of the private methods out of them =====
/-- a private method of a class that the tables say can be made, by its rows of tables_1 -/
def lw_okq (q : MethodName × Nat) : Prop := (q.1.cls ≠ "java/lang/invoke/MethodHandle" ∧ q.1.cls ≠ "java/lang/invoke/VarHandle") ∧ Cond.instantiable q.1.cls q.2 ∈ tables_1 ∧ Cond.privateMethod q.1 ∈ tables_1 ∧ Cond.instanceMethod q.1 ∈ tables_1
theorem lw_p0 : lw_okq (⟨"TrimCodes", "setWeight", "(II)V"⟩, 6) := ⟨⟨by decide +kernel, by decide +kernel⟩, List.mem_of_getElem? (i := 5) (by decide +kernel), List.mem_of_getElem? (i := 47) (by decide +kernel), List.mem_of_getElem? (i := 48) (by decide +kernel)⟩
theorem lw_p1 : lw_okq (⟨"TrimCodes", "sortWeights", "()V"⟩, 6) := ⟨⟨by decide +kernel, by decide +kernel⟩, List.mem_of_getElem? (i := 5) (by decide +kernel), List.mem_of_getElem? (i := 56) (by decide +kernel), List.mem_of_getElem? (i := 57) (by decide +kernel)⟩
theorem lw_p2 : lw_okq (⟨"TrimCodes", "insertSorted", "(IJ)V"⟩, 6) := ⟨⟨by decide +kernel, by decide +kernel⟩, List.mem_of_getElem? (i := 5) (by decide +kernel), List.mem_of_getElem? (i := 60) (by decide +kernel), List.mem_of_getElem? (i := 61) (by decide +kernel)⟩
theorem lw_p3 : lw_okq (⟨"TrimCodes", "pairCoins", "(I)I"⟩, 6) := ⟨⟨by decide +kernel, by decide +kernel⟩, List.mem_of_getElem? (i := 5) (by decide +kernel), List.mem_of_getElem? (i := 64) (by decide +kernel), List.mem_of_getElem? (i := 65) (by decide +kernel)⟩
theorem lw_p4 : lw_okq (⟨"TrimCodes", "mergeLettersAndPairs", "(I)I"⟩, 6) := ⟨⟨by decide +kernel, by decide +kernel⟩, List.mem_of_getElem? (i := 5) (by decide +kernel), List.mem_of_getElem? (i := 71) (by decide +kernel), List.mem_of_getElem? (i := 72) (by decide +kernel)⟩
theorem lw_p5 : lw_okq (⟨"TrimCodes", "costOfCheapest", "(I)J"⟩, 6) := ⟨⟨by decide +kernel, by decide +kernel⟩, List.mem_of_getElem? (i := 5) (by decide +kernel), List.mem_of_getElem? (i := 79) (by decide +kernel), List.mem_of_getElem? (i := 80) (by decide +kernel)⟩
def lw_privs_1 : List (MethodName × Nat) := [(⟨"TrimCodes", "setWeight", "(II)V"⟩, 6), (⟨"TrimCodes", "sortWeights", "()V"⟩, 6), (⟨"TrimCodes", "insertSorted", "(IJ)V"⟩, 6), (⟨"TrimCodes", "pairCoins", "(I)I"⟩, 6), (⟨"TrimCodes", "mergeLettersAndPairs", "(I)I"⟩, 6), (⟨"TrimCodes", "costOfCheapest", "(I)J"⟩, 6)]
theorem lw_r1 : ∀ q ∈ lw_privs_1, lw_okq q := List.forall_mem_cons.mpr ⟨lw_p0, List.forall_mem_cons.mpr ⟨lw_p1, List.forall_mem_cons.mpr ⟨lw_p2, List.forall_mem_cons.mpr ⟨lw_p3, List.forall_mem_cons.mpr ⟨lw_p4, List.forall_mem_cons.mpr ⟨lw_p5, fun _ h => absurd h List.not_mem_nil⟩⟩⟩⟩⟩⟩
def lw_privs : List (MethodName × Nat) := lw_privs_1
def lw_tbl : List Cond := k2_sels lw_privs ++ tables_1
theorem lw_privs_ok : ∀ q ∈ lw_privs, lw_okq q := lw_r1
/-! ===== BEGIN words of one list among another's, by their places ===== -/
theorem goodIn_r {big : List Cond} (ws : List Cond) (ps : List Nat) (hp : ws = ps.filterMap (fun i => big[i]?)) (h : ws.all goodWord = true) : GoodIn big ws := by
  intro w hw
  have h1 := List.all_eq_true.mp h w hw
  rw [hp] at hw
  obtain ⟨i, -, hi⟩ := List.mem_filterMap.mp hw
  have hm : w ∈ big := by first | exact List.mem_of_getElem? hi | exact List.getElem?_mem hi
  exact ⟨hm, good_of_word h1⟩
theorem goodIn_app {big a b : List Cond} (ha : GoodIn big a) (hb : GoodIn big b) : GoodIn big (a ++ b) := fun w h => (List.mem_append.mp h).elim (ha w) (hb w)
theorem goodIn_ca {big a b : List Cond} {c : Cond} (ha : GoodIn big (c :: a)) (hb : GoodIn big b) : GoodIn big (c :: (a ++ b)) := fun w h => (List.mem_cons.mp h).elim (fun e => ha w (List.mem_cons.mpr (Or.inl e))) (fun h => (List.mem_append.mp h).elim (fun h => ha w (List.mem_cons.mpr (Or.inr h))) (hb w))
theorem goodIn_sub {big ws : List Cond} (hm : ∀ w ∈ ws, w ∈ big) (h : ws.all goodWord = true) : GoodIn big ws := fun w hw => ⟨hm w hw, good_of_word (List.all_eq_true.mp h w hw)⟩
/-! ===== END ===== -/

/-! ===== BEGIN printed: names, fields, word lists, decode rows ===== -/
def RX0 : String := "TrimCodes"
def TX0 : u_T := fun k => match k with
  | 0 => ("TrimCodes", "weights", "[I", true)
  | 1 => ("TrimCodes", "letterCount", "I", false)
  | 2 => ("TrimCodes", "lengthLimit", "I", false)
  | 3 => ("TrimCodes", "sortedWeights", "[J", true)
  | 4 => ("TrimCodes", "coins", "[J", true)
  | _ => ("TrimCodes", "pairs", "[J", true)
def tyX0 : Nat → FieldType := fun k => match k with
  | 0 => .array .int
  | 1 => .int
  | 2 => .int
  | 3 => .array .long
  | 4 => .array .long
  | _ => .array .long
abbrev wsX00 : List Cond := u_ws RX0 TX0 6
theorem nmX0 : ∀ a, a < 6 → ∀ b, b < 6 → a ≠ b → (TX0 a).2.1 ≠ (TX0 b).2.1 := by decide +kernel
theorem tyX0_ok : ∀ k, k < 6 → parseFieldDescriptor (TX0 k).2.2.1 = some (tyX0 k) := by decide +kernel
abbrev cX0_init : ByteArray := prog_1_method_1_code
def yX0_init : MethodName := ⟨RX0, "<init>", "()V"⟩
abbrev cX0_letters : ByteArray := prog_1_method_2_code
def yX0_letters : MethodName := ⟨RX0, "letters", "(I)V"⟩
abbrev cX0_limit : ByteArray := prog_1_method_3_code
def yX0_limit : MethodName := ⟨RX0, "limit", "(I)V"⟩
abbrev cX0_weight : ByteArray := prog_1_method_4_code
def yX0_weight : MethodName := ⟨RX0, "weight", "(IIIII)V"⟩
abbrev cX0_least : ByteArray := prog_1_method_5_code
def yX0_least : MethodName := ⟨RX0, "least", "()J"⟩
abbrev cX0_setWeight : ByteArray := prog_1_method_6_code
def yX0_setWeight : MethodName := ⟨RX0, "setWeight", "(II)V"⟩
abbrev cX0_sortWeights : ByteArray := prog_1_method_7_code
def yX0_sortWeights : MethodName := ⟨RX0, "sortWeights", "()V"⟩
abbrev cX0_insertSorted : ByteArray := prog_1_method_8_code
def yX0_insertSorted : MethodName := ⟨RX0, "insertSorted", "(IJ)V"⟩
abbrev cX0_pairCoins : ByteArray := prog_1_method_9_code
def yX0_pairCoins : MethodName := ⟨RX0, "pairCoins", "(I)I"⟩
abbrev cX0_mergeLettersAndPairs : ByteArray := prog_1_method_10_code
def yX0_mergeLettersAndPairs : MethodName := ⟨RX0, "mergeLettersAndPairs", "(I)I"⟩
abbrev cX0_costAt : ByteArray := prog_1_method_11_code
def yX0_costAt : MethodName := ⟨RX0, "costAt", "([JII)J"⟩
abbrev cX0_costOfCheapest : ByteArray := prog_1_method_12_code
def yX0_costOfCheapest : MethodName := ⟨RX0, "costOfCheapest", "(I)J"⟩
def RX1 : String := "TrimCodesModel"
def TX1 : u_T := fun k => match k with
  | 0 => ("TrimCodesModel", "weight", "[I", true)
  | 1 => ("TrimCodesModel", "n", "I", false)
  | 2 => ("TrimCodesModel", "limit", "I", false)
  | 3 => ("TrimCodesModel", "best", "[J", true)
  | 4 => ("TrimCodesModel", "next", "[J", true)
  | _ => ("TrimCodesModel", "order", "[I", true)
def tyX1 : Nat → FieldType := fun k => match k with
  | 0 => .array .int
  | 1 => .int
  | 2 => .int
  | 3 => .array .long
  | 4 => .array .long
  | _ => .array .int
abbrev wsX10 : List Cond := u_ws RX1 TX1 6
theorem nmX1 : ∀ a, a < 6 → ∀ b, b < 6 → a ≠ b → (TX1 a).2.1 ≠ (TX1 b).2.1 := by decide +kernel
theorem tyX1_ok : ∀ k, k < 6 → parseFieldDescriptor (TX1 k).2.2.1 = some (tyX1 k) := by decide +kernel
abbrev cX1_init : ByteArray := prog_3_method_1_code
def yX1_init : MethodName := ⟨RX1, "<init>", "()V"⟩
abbrev cX1_letters : ByteArray := prog_3_method_2_code
def yX1_letters : MethodName := ⟨RX1, "letters", "(I)V"⟩
abbrev cX1_limit : ByteArray := prog_3_method_3_code
def yX1_limit : MethodName := ⟨RX1, "limit", "(I)V"⟩
abbrev cX1_weight : ByteArray := prog_3_method_4_code
def yX1_weight : MethodName := ⟨RX1, "weight", "(IIIII)V"⟩
abbrev cX1_least : ByteArray := prog_3_method_5_code
def yX1_least : MethodName := ⟨RX1, "least", "()J"⟩
def RJ9 : String := "java/lang/Math"
def TJ9 : u_T := fun k => match k with
  | _ => ("", "", "", false)
def tyJ9 : Nat → FieldType := fun k => match k with
  | _ => .int
abbrev wsJ90 : List Cond := u_ws RJ9 TJ9 0
theorem nmJ9 : ∀ a, a < 0 → ∀ b, b < 0 → a ≠ b → (TJ9 a).2.1 ≠ (TJ9 b).2.1 := by decide +kernel
theorem tyJ9_ok : ∀ k, k < 0 → parseFieldDescriptor (TJ9 k).2.2.1 = some (tyJ9 k) := by decide +kernel
abbrev cJ9_min_7cf53 : ByteArray := prog_4_method_69_code
def yJ9_min_7cf53 : MethodName := ⟨RJ9, "min", "(II)I"⟩
def RL : String := "TrimCodesLaw"
abbrev cL_law : ByteArray := code
def yL_law : MethodName := ⟨RL, "law", "([I)Z"⟩
def wsX0_init : List Cond := .code yX0_init cX0_init 1 none :: ([.methodLink RX0 1 objectInit, .instanceMethod objectInit, .code objectInit ⟨#[0xb1]⟩ 1 none, .arrayClass .int, .fieldLink RX0 9 "TrimCodes" "weights" "[I", .fieldLink RX0 13 "TrimCodes" "letterCount" "I", .fieldLink RX0 17 "TrimCodes" "lengthLimit" "I", .arrayClass .long, .fieldLink RX0 20 "TrimCodes" "sortedWeights" "[J", .fieldLink RX0 24 "TrimCodes" "coins" "[J", .fieldLink RX0 27 "TrimCodes" "pairs" "[J"] ++ wsX00)
def wsX0_letters : List Cond := .code yX0_letters cX0_letters 2 none :: ([.constant RX0 30 (2147483647), .fieldLink RX0 13 "TrimCodes" "letterCount" "I"] ++ wsX00)
def wsX0_limit : List Cond := .code yX0_limit cX0_limit 2 none :: ([.constant RX0 30 (2147483647), .fieldLink RX0 17 "TrimCodes" "lengthLimit" "I"] ++ wsX00)
def wsX0_setWeight : List Cond := .code yX0_setWeight cX0_setWeight 4 none :: ([.fieldLink RX0 9 "TrimCodes" "weights" "[I", .constant RX0 30 (2147483647)] ++ wsX00)
def wsX0_weight : List Cond := .code yX0_weight cX0_weight 6 none :: ([.methodLink RX0 31 yX0_setWeight, .instanceMethod yX0_setWeight, .selects RX0 yX0_setWeight yX0_setWeight, .initialized RX0, .code yX0_setWeight cX0_setWeight 4 none, .fieldLink RX0 9 "TrimCodes" "weights" "[I", .constant RX0 30 (2147483647)] ++ wsX00)
def wsX0_insertSorted : List Cond := .code yX0_insertSorted cX0_insertSorted 5 none :: ([.fieldLink RX0 20 "TrimCodes" "sortedWeights" "[J"] ++ wsX00)
def wsX0_sortWeights : List Cond := .code yX0_sortWeights cX0_sortWeights 2 none :: ([.fieldLink RX0 13 "TrimCodes" "letterCount" "I", .fieldLink RX0 9 "TrimCodes" "weights" "[I", .methodLink RX0 51 yX0_insertSorted, .instanceMethod yX0_insertSorted, .selects RX0 yX0_insertSorted yX0_insertSorted, .initialized RX0, .code yX0_insertSorted cX0_insertSorted 5 none, .fieldLink RX0 20 "TrimCodes" "sortedWeights" "[J"] ++ wsX00)
def wsX0_pairCoins : List Cond := .code yX0_pairCoins cX0_pairCoins 4 (some .int) :: ([.fieldLink RX0 27 "TrimCodes" "pairs" "[J", .methodLink RX0 55 Lib.Math.min.name, .static Lib.Math.min.name, .initialized "java/lang/Math", .code Lib.Math.min.name Lib.Math.min.code 2 (some .int), .fieldLink RX0 24 "TrimCodes" "coins" "[J"] ++ wsX00)
def wsX0_costAt : List Cond := .code yX0_costAt cX0_costAt 3 (some .long) :: ([.constantLong RX0 65 (9223372036854775807)])
def wsX0_mergeLettersAndPairs : List Cond := .code yX0_mergeLettersAndPairs cX0_mergeLettersAndPairs 10 (some .int) :: ([.fieldLink RX0 13 "TrimCodes" "letterCount" "I", .fieldLink RX0 24 "TrimCodes" "coins" "[J", .methodLink RX0 55 Lib.Math.min.name, .static Lib.Math.min.name, .initialized "java/lang/Math", .code Lib.Math.min.name Lib.Math.min.code 2 (some .int), .fieldLink RX0 20 "TrimCodes" "sortedWeights" "[J", .fieldLink RX0 27 "TrimCodes" "pairs" "[J", .methodLink RX0 61 yX0_costAt, .static yX0_costAt, .initialized RX0, .code yX0_costAt cX0_costAt 3 (some .long), .constantLong RX0 65 (9223372036854775807)] ++ wsX00)
def wsX0_costOfCheapest : List Cond := .code yX0_costOfCheapest cX0_costOfCheapest 5 (some .long) :: ([.fieldLink RX0 24 "TrimCodes" "coins" "[J"] ++ wsX00)
def wsX0_least_r1 : List Cond := [Cond.fieldLink RX0 17 "TrimCodes" "lengthLimit" "I", Cond.fieldLink RX0 13 "TrimCodes" "letterCount" "I", Cond.constantLong RX0 35 (-1), Cond.methodLink RX0 37 yX0_sortWeights, Cond.instanceMethod yX0_sortWeights, Cond.selects RX0 yX0_sortWeights yX0_sortWeights, Cond.initialized RX0, Cond.code yX0_sortWeights cX0_sortWeights 2 none, Cond.fieldLink RX0 9 "TrimCodes" "weights" "[I", Cond.methodLink RX0 51 yX0_insertSorted, Cond.instanceMethod yX0_insertSorted, Cond.selects RX0 yX0_insertSorted yX0_insertSorted, Cond.code yX0_insertSorted cX0_insertSorted 5 none, Cond.fieldLink RX0 20 "TrimCodes" "sortedWeights" "[J", Cond.methodLink RX0 40 yX0_pairCoins, Cond.instanceMethod yX0_pairCoins, Cond.selects RX0 yX0_pairCoins yX0_pairCoins, Cond.code yX0_pairCoins cX0_pairCoins 4 (some .int), Cond.fieldLink RX0 27 "TrimCodes" "pairs" "[J", Cond.methodLink RX0 55 Lib.Math.min.name, Cond.static Lib.Math.min.name, Cond.initialized "java/lang/Math", Cond.code Lib.Math.min.name Lib.Math.min.code 2 (some .int), Cond.fieldLink RX0 24 "TrimCodes" "coins" "[J"]
def wsX0_least_r2 : List Cond := [Cond.methodLink RX0 44 yX0_mergeLettersAndPairs, Cond.instanceMethod yX0_mergeLettersAndPairs, Cond.selects RX0 yX0_mergeLettersAndPairs yX0_mergeLettersAndPairs, Cond.code yX0_mergeLettersAndPairs cX0_mergeLettersAndPairs 10 (some .int), Cond.methodLink RX0 61 yX0_costAt, Cond.static yX0_costAt, Cond.code yX0_costAt cX0_costAt 3 (some .long), Cond.constantLong RX0 65 (9223372036854775807), Cond.methodLink RX0 47 yX0_costOfCheapest, Cond.instanceMethod yX0_costOfCheapest, Cond.selects RX0 yX0_costOfCheapest yX0_costOfCheapest, Cond.code yX0_costOfCheapest cX0_costOfCheapest 5 (some .long)]
def wsX0_least : List Cond := .code yX0_least cX0_least 4 (some .long) :: ((wsX0_least_r1 ++ wsX0_least_r2) ++ wsX00)
def wsX1_init : List Cond := .code yX1_init cX1_init 1 none :: ([.methodLink RX1 1 objectInit, .instanceMethod objectInit, .code objectInit ⟨#[0xb1]⟩ 1 none, .arrayClass .int, .fieldLink RX1 7 "TrimCodesModel" "weight" "[I", .fieldLink RX1 13 "TrimCodesModel" "n" "I", .fieldLink RX1 17 "TrimCodesModel" "limit" "I", .arrayClass .long, .fieldLink RX1 20 "TrimCodesModel" "best" "[J", .fieldLink RX1 24 "TrimCodesModel" "next" "[J", .fieldLink RX1 27 "TrimCodesModel" "order" "[I"] ++ wsX10)
def wsX1_letters : List Cond := .code yX1_letters cX1_letters 2 none :: ([.constant RX1 30 (2147483647), .fieldLink RX1 13 "TrimCodesModel" "n" "I"] ++ wsX10)
def wsX1_limit : List Cond := .code yX1_limit cX1_limit 2 none :: ([.constant RX1 30 (2147483647), .fieldLink RX1 17 "TrimCodesModel" "limit" "I"] ++ wsX10)
def wsX1_weight : List Cond := .code yX1_weight cX1_weight 7 none :: ([.fieldLink RX1 7 "TrimCodesModel" "weight" "[I", .constant RX1 30 (2147483647)] ++ wsX10)
def wsX1_least : List Cond := .code yX1_least cX1_least 13 (some .long) :: ([.fieldLink RX1 17 "TrimCodesModel" "limit" "I", .fieldLink RX1 13 "TrimCodesModel" "n" "I", .constantLong RX1 31 (-1), .fieldLink RX1 7 "TrimCodesModel" "weight" "[I", .fieldLink RX1 27 "TrimCodesModel" "order" "[I", .fieldLink RX1 20 "TrimCodesModel" "best" "[J", .fieldLink RX1 24 "TrimCodesModel" "next" "[J"] ++ wsX10)
def wsJ9_min_7cf53 : List Cond := .code yJ9_min_7cf53 cJ9_min_7cf53 2 (some .int) :: ([])
def wsL_law_r1 : List Cond := [Cond.classLink RL 7 RX0, Cond.instantiable RX0 6, Cond.initialized RX0, Cond.classLink RL 10 RX1, Cond.instantiable RX1 6, Cond.initialized RX1, Cond.methodLink RL 9 yX0_init, Cond.instanceMethod yX0_init, Cond.code yX0_init cX0_init 1 none, Cond.methodLink RX0 1 objectInit, Cond.instanceMethod objectInit, Cond.code objectInit ⟨#[0xb1]⟩ 1 none, Cond.arrayClass .int, Cond.fieldLink RX0 9 "TrimCodes" "weights" "[I", Cond.fieldLink RX0 13 "TrimCodes" "letterCount" "I", Cond.fieldLink RX0 17 "TrimCodes" "lengthLimit" "I", Cond.arrayClass .long, Cond.fieldLink RX0 20 "TrimCodes" "sortedWeights" "[J", Cond.fieldLink RX0 24 "TrimCodes" "coins" "[J", Cond.fieldLink RX0 27 "TrimCodes" "pairs" "[J", Cond.methodLink RL 12 yX1_init, Cond.instanceMethod yX1_init, Cond.code yX1_init cX1_init 1 none, Cond.methodLink RX1 1 objectInit]
def wsL_law_r2 : List Cond := [Cond.fieldLink RX1 7 "TrimCodesModel" "weight" "[I", Cond.fieldLink RX1 13 "TrimCodesModel" "n" "I", Cond.fieldLink RX1 17 "TrimCodesModel" "limit" "I", Cond.fieldLink RX1 20 "TrimCodesModel" "best" "[J", Cond.fieldLink RX1 24 "TrimCodesModel" "next" "[J", Cond.fieldLink RX1 27 "TrimCodesModel" "order" "[I", Cond.methodLink RL 13 yX0_letters, Cond.instanceMethod yX0_letters, Cond.selects RX0 yX0_letters yX0_letters, Cond.code yX0_letters cX0_letters 2 none, Cond.constant RX0 30 (2147483647), Cond.methodLink RL 17 yX1_letters, Cond.instanceMethod yX1_letters, Cond.selects RX1 yX1_letters yX1_letters, Cond.code yX1_letters cX1_letters 2 none, Cond.constant RX1 30 (2147483647), Cond.methodLink RL 18 yX0_limit, Cond.instanceMethod yX0_limit, Cond.selects RX0 yX0_limit yX0_limit, Cond.code yX0_limit cX0_limit 2 none, Cond.methodLink RL 21 yX1_limit, Cond.instanceMethod yX1_limit, Cond.selects RX1 yX1_limit yX1_limit, Cond.code yX1_limit cX1_limit 2 none]
def wsL_law_r3 : List Cond := [Cond.methodLink RL 22 yX0_weight, Cond.instanceMethod yX0_weight, Cond.selects RX0 yX0_weight yX0_weight, Cond.code yX0_weight cX0_weight 6 none, Cond.methodLink RX0 31 yX0_setWeight, Cond.instanceMethod yX0_setWeight, Cond.selects RX0 yX0_setWeight yX0_setWeight, Cond.code yX0_setWeight cX0_setWeight 4 none, Cond.methodLink RL 26 yX1_weight, Cond.instanceMethod yX1_weight, Cond.selects RX1 yX1_weight yX1_weight, Cond.code yX1_weight cX1_weight 7 none, Cond.methodLink RL 27 yX0_least, Cond.instanceMethod yX0_least, Cond.selects RX0 yX0_least yX0_least, Cond.code yX0_least cX0_least 4 (some .long), Cond.constantLong RX0 35 (-1), Cond.methodLink RX0 37 yX0_sortWeights, Cond.instanceMethod yX0_sortWeights, Cond.selects RX0 yX0_sortWeights yX0_sortWeights, Cond.code yX0_sortWeights cX0_sortWeights 2 none, Cond.methodLink RX0 51 yX0_insertSorted, Cond.instanceMethod yX0_insertSorted, Cond.selects RX0 yX0_insertSorted yX0_insertSorted]
def wsL_law_r4 : List Cond := [Cond.code yX0_insertSorted cX0_insertSorted 5 none, Cond.methodLink RX0 40 yX0_pairCoins, Cond.instanceMethod yX0_pairCoins, Cond.selects RX0 yX0_pairCoins yX0_pairCoins, Cond.code yX0_pairCoins cX0_pairCoins 4 (some .int), Cond.methodLink RX0 55 Lib.Math.min.name, Cond.static Lib.Math.min.name, Cond.initialized "java/lang/Math", Cond.code Lib.Math.min.name Lib.Math.min.code 2 (some .int), Cond.methodLink RX0 44 yX0_mergeLettersAndPairs, Cond.instanceMethod yX0_mergeLettersAndPairs, Cond.selects RX0 yX0_mergeLettersAndPairs yX0_mergeLettersAndPairs, Cond.code yX0_mergeLettersAndPairs cX0_mergeLettersAndPairs 10 (some .int), Cond.methodLink RX0 61 yX0_costAt, Cond.static yX0_costAt, Cond.code yX0_costAt cX0_costAt 3 (some .long), Cond.constantLong RX0 65 (9223372036854775807), Cond.methodLink RX0 47 yX0_costOfCheapest, Cond.instanceMethod yX0_costOfCheapest, Cond.selects RX0 yX0_costOfCheapest yX0_costOfCheapest, Cond.code yX0_costOfCheapest cX0_costOfCheapest 5 (some .long), Cond.methodLink RL 31 yX1_least, Cond.instanceMethod yX1_least, Cond.selects RX1 yX1_least yX1_least]
def wsL_law_r5 : List Cond := [Cond.code yX1_least cX1_least 13 (some .long), Cond.constantLong RX1 31 (-1)]
def wsL_law : List Cond := (wsL_law_r1 ++ (wsL_law_r2 ++ (wsL_law_r3 ++ (wsL_law_r4 ++ wsL_law_r5)))) ++ wsX00 ++ wsX10 ++ ([] : List Cond)
set_option maxRecDepth 20000 in
theorem wsL_law_in : ∀ w ∈ wsL_law, w ∈ lw_tbl := fun w h => (goodIn_p wsL_law [14, 17, 92, 42, 116, 47, 121, 51, 55, 125, 59, 64, 68, 72, 75, 79, 82, 87, 129] (by decide +kernel) (by decide +kernel) w h).1
theorem inlX0 : ∀ w ∈ wsX00, w ∈ wsL_law := fun _ h => List.mem_append_left _ (List.mem_append_left _ (List.mem_append_right _ h))
theorem inX0 : ∀ w ∈ wsX00, w ∈ lw_tbl := fun w h => wsL_law_in w (inlX0 w h)
theorem inlX1 : ∀ w ∈ wsX10, w ∈ wsL_law := fun _ h => List.mem_append_left _ (List.mem_append_right _ h)
theorem inX1 : ∀ w ∈ wsX10, w ∈ lw_tbl := fun w h => wsL_law_in w (inlX1 w h)
theorem inJ9 : ∀ w ∈ wsJ90, w ∈ lw_tbl := by decide +kernel
theorem dX0_init_0 : decode cX0_init 0 = .ok (.aload_n 0, 1) := by decide +kernel
theorem dX0_init_1 : decode cX0_init 1 = .ok (.invokespecial 1, 3) := by decide +kernel
theorem dX0_init_4 : decode cX0_init 4 = .ok (.aload_n 0, 1) := by decide +kernel
theorem dX0_init_5 : decode cX0_init 5 = .ok (.bipush 32, 2) := by decide +kernel
theorem dX0_init_7 : decode cX0_init 7 = .ok (.newarray .int, 2) := by decide +kernel
theorem dX0_init_9 : decode cX0_init 9 = .ok (.putfield 9, 3) := by decide +kernel
theorem dX0_init_12 : decode cX0_init 12 = .ok (.aload_n 0, 1) := by decide +kernel
theorem dX0_init_13 : decode cX0_init 13 = .ok (.iconst 2, 1) := by decide +kernel
theorem dX0_init_14 : decode cX0_init 14 = .ok (.putfield 13, 3) := by decide +kernel
theorem dX0_init_17 : decode cX0_init 17 = .ok (.aload_n 0, 1) := by decide +kernel
theorem dX0_init_18 : decode cX0_init 18 = .ok (.iconst 5, 1) := by decide +kernel
theorem dX0_init_19 : decode cX0_init 19 = .ok (.putfield 17, 3) := by decide +kernel
theorem dX0_init_22 : decode cX0_init 22 = .ok (.aload_n 0, 1) := by decide +kernel
theorem dX0_init_23 : decode cX0_init 23 = .ok (.bipush 16, 2) := by decide +kernel
theorem dX0_init_25 : decode cX0_init 25 = .ok (.newarray .long, 2) := by decide +kernel
theorem dX0_init_27 : decode cX0_init 27 = .ok (.putfield 20, 3) := by decide +kernel
theorem dX0_init_30 : decode cX0_init 30 = .ok (.aload_n 0, 1) := by decide +kernel
theorem dX0_init_31 : decode cX0_init 31 = .ok (.bipush 32, 2) := by decide +kernel
theorem dX0_init_33 : decode cX0_init 33 = .ok (.newarray .long, 2) := by decide +kernel
theorem dX0_init_35 : decode cX0_init 35 = .ok (.putfield 24, 3) := by decide +kernel
theorem dX0_init_38 : decode cX0_init 38 = .ok (.aload_n 0, 1) := by decide +kernel
theorem dX0_init_39 : decode cX0_init 39 = .ok (.bipush 16, 2) := by decide +kernel
theorem dX0_init_41 : decode cX0_init 41 = .ok (.newarray .long, 2) := by decide +kernel
theorem dX0_init_43 : decode cX0_init 43 = .ok (.putfield 27, 3) := by decide +kernel
theorem dX0_init_46 : decode cX0_init 46 = .ok (.return_, 1) := by decide +kernel
theorem dX0_letters_0 : decode cX0_letters 0 = .ok (.aload_n 0, 1) := by decide +kernel
theorem dX0_letters_1 : decode cX0_letters 1 = .ok (.iconst 2, 1) := by decide +kernel
theorem dX0_letters_2 : decode cX0_letters 2 = .ok (.iload_n 1, 1) := by decide +kernel
theorem dX0_letters_3 : decode cX0_letters 3 = .ok (.ldc 30, 2) := by decide +kernel
theorem dX0_letters_5 : decode cX0_letters 5 = .ok (.iand, 1) := by decide +kernel
theorem dX0_letters_6 : decode cX0_letters 6 = .ok (.bipush 15, 2) := by decide +kernel
theorem dX0_letters_8 : decode cX0_letters 8 = .ok (.irem, 1) := by decide +kernel
theorem dX0_letters_9 : decode cX0_letters 9 = .ok (.iadd, 1) := by decide +kernel
theorem dX0_letters_10 : decode cX0_letters 10 = .ok (.putfield 13, 3) := by decide +kernel
theorem dX0_letters_13 : decode cX0_letters 13 = .ok (.return_, 1) := by decide +kernel
theorem dX0_limit_0 : decode cX0_limit 0 = .ok (.aload_n 0, 1) := by decide +kernel
theorem dX0_limit_1 : decode cX0_limit 1 = .ok (.iload_n 1, 1) := by decide +kernel
theorem dX0_limit_2 : decode cX0_limit 2 = .ok (.ldc 30, 2) := by decide +kernel
theorem dX0_limit_4 : decode cX0_limit 4 = .ok (.iand, 1) := by decide +kernel
theorem dX0_limit_5 : decode cX0_limit 5 = .ok (.bipush 16, 2) := by decide +kernel
theorem dX0_limit_7 : decode cX0_limit 7 = .ok (.irem, 1) := by decide +kernel
theorem dX0_limit_8 : decode cX0_limit 8 = .ok (.putfield 17, 3) := by decide +kernel
theorem dX0_limit_11 : decode cX0_limit 11 = .ok (.return_, 1) := by decide +kernel
set_option maxRecDepth 20000 in
theorem ggX0_weight_X0_setWeight : GoodIn wsX0_weight wsX0_setWeight := goodIn_r _ [5, 6, 7, 8, 9, 10, 11, 12, 13] (by decide +kernel) (by decide +kernel)
set_option maxRecDepth 20000 in
theorem gX0_weight_X0_setWeight : GoodIn wsX0_weight (wsV RX0 31 RX0 yX0_setWeight wsX0_setWeight) := goodIn_app (goodIn_of _ (by decide +kernel)) ggX0_weight_X0_setWeight
theorem dX0_weight_0 : decode cX0_weight 0 = .ok (.aload_n 0, 1) := by decide +kernel
theorem dX0_weight_1 : decode cX0_weight 1 = .ok (.iload_n 1, 1) := by decide +kernel
theorem dX0_weight_2 : decode cX0_weight 2 = .ok (.iload_n 2, 1) := by decide +kernel
theorem dX0_weight_3 : decode cX0_weight 3 = .ok (.invokevirtual 31, 3) := by decide +kernel
theorem dX0_weight_6 : decode cX0_weight 6 = .ok (.aload_n 0, 1) := by decide +kernel
theorem dX0_weight_7 : decode cX0_weight 7 = .ok (.iload_n 1, 1) := by decide +kernel
theorem dX0_weight_8 : decode cX0_weight 8 = .ok (.iconst 1, 1) := by decide +kernel
theorem dX0_weight_9 : decode cX0_weight 9 = .ok (.iadd, 1) := by decide +kernel
theorem dX0_weight_10 : decode cX0_weight 10 = .ok (.iload_n 3, 1) := by decide +kernel
theorem dX0_weight_11 : decode cX0_weight 11 = .ok (.invokevirtual 31, 3) := by decide +kernel
theorem dX0_weight_14 : decode cX0_weight 14 = .ok (.aload_n 0, 1) := by decide +kernel
theorem dX0_weight_15 : decode cX0_weight 15 = .ok (.iload_n 1, 1) := by decide +kernel
theorem dX0_weight_16 : decode cX0_weight 16 = .ok (.iconst 2, 1) := by decide +kernel
theorem dX0_weight_17 : decode cX0_weight 17 = .ok (.iadd, 1) := by decide +kernel
theorem dX0_weight_18 : decode cX0_weight 18 = .ok (.iload 4, 2) := by decide +kernel
theorem dX0_weight_20 : decode cX0_weight 20 = .ok (.invokevirtual 31, 3) := by decide +kernel
theorem dX0_weight_23 : decode cX0_weight 23 = .ok (.aload_n 0, 1) := by decide +kernel
theorem dX0_weight_24 : decode cX0_weight 24 = .ok (.iload_n 1, 1) := by decide +kernel
theorem dX0_weight_25 : decode cX0_weight 25 = .ok (.iconst 3, 1) := by decide +kernel
theorem dX0_weight_26 : decode cX0_weight 26 = .ok (.iadd, 1) := by decide +kernel
theorem dX0_weight_27 : decode cX0_weight 27 = .ok (.iload 5, 2) := by decide +kernel
theorem dX0_weight_29 : decode cX0_weight 29 = .ok (.invokevirtual 31, 3) := by decide +kernel
theorem dX0_weight_32 : decode cX0_weight 32 = .ok (.return_, 1) := by decide +kernel
set_option maxRecDepth 20000 in
theorem ggX0_least_X0_sortWeights : GoodIn wsX0_least wsX0_sortWeights := goodIn_r _ [8, 2, 9, 10, 11, 12, 7, 13, 14, 37, 38, 39, 40, 41, 42] (by decide +kernel) (by decide +kernel)
set_option maxRecDepth 20000 in
theorem gX0_least_X0_sortWeights : GoodIn wsX0_least (wsV RX0 37 RX0 yX0_sortWeights wsX0_sortWeights) := goodIn_app (goodIn_of _ (by decide +kernel)) ggX0_least_X0_sortWeights
set_option maxRecDepth 20000 in
theorem ggX0_least_X0_pairCoins : GoodIn wsX0_least wsX0_pairCoins := goodIn_r _ [18, 19, 20, 21, 22, 23, 24, 37, 38, 39, 40, 41, 42] (by decide +kernel) (by decide +kernel)
set_option maxRecDepth 20000 in
theorem gX0_least_X0_pairCoins : GoodIn wsX0_least (wsV RX0 40 RX0 yX0_pairCoins wsX0_pairCoins) := goodIn_app (goodIn_of _ (by decide +kernel)) ggX0_least_X0_pairCoins
set_option maxRecDepth 20000 in
theorem ggX0_least_X0_mergeLettersAndPairs : GoodIn wsX0_least wsX0_mergeLettersAndPairs := goodIn_r _ [28, 2, 24, 20, 21, 22, 23, 14, 19, 29, 30, 7, 31, 32, 37, 38, 39, 40, 41, 42] (by decide +kernel) (by decide +kernel)
set_option maxRecDepth 20000 in
theorem gX0_least_X0_mergeLettersAndPairs : GoodIn wsX0_least (wsV RX0 44 RX0 yX0_mergeLettersAndPairs wsX0_mergeLettersAndPairs) := goodIn_app (goodIn_of _ (by decide +kernel)) ggX0_least_X0_mergeLettersAndPairs
set_option maxRecDepth 20000 in
theorem ggX0_least_X0_costOfCheapest : GoodIn wsX0_least wsX0_costOfCheapest := goodIn_r _ [36, 24, 37, 38, 39, 40, 41, 42] (by decide +kernel) (by decide +kernel)
set_option maxRecDepth 20000 in
theorem gX0_least_X0_costOfCheapest : GoodIn wsX0_least (wsV RX0 47 RX0 yX0_costOfCheapest wsX0_costOfCheapest) := goodIn_app (goodIn_of _ (by decide +kernel)) ggX0_least_X0_costOfCheapest
theorem dX0_least_0 : decode cX0_least 0 = .ok (.iconst 1, 1) := by decide +kernel
theorem dX0_least_1 : decode cX0_least 1 = .ok (.aload_n 0, 1) := by decide +kernel
theorem dX0_least_2 : decode cX0_least 2 = .ok (.getfield 17, 3) := by decide +kernel
theorem dX0_least_5 : decode cX0_least 5 = .ok (.ishl, 1) := by decide +kernel
theorem dX0_least_6 : decode cX0_least 6 = .ok (.aload_n 0, 1) := by decide +kernel
theorem dX0_least_7 : decode cX0_least 7 = .ok (.getfield 13, 3) := by decide +kernel
theorem dX0_least_10 : decode cX0_least 10 = .ok (.if_icmp .ge 7, 3) := by decide +kernel
theorem dX0_least_13 : decode cX0_least 13 = .ok (.ldc2_w 35, 3) := by decide +kernel
theorem dX0_least_16 : decode cX0_least 16 = .ok (.lreturn, 1) := by decide +kernel
theorem dX0_least_17 : decode cX0_least 17 = .ok (.aload_n 0, 1) := by decide +kernel
theorem dX0_least_18 : decode cX0_least 18 = .ok (.invokevirtual 37, 3) := by decide +kernel
theorem dX0_least_21 : decode cX0_least 21 = .ok (.iconst 0, 1) := by decide +kernel
theorem dX0_least_22 : decode cX0_least 22 = .ok (.istore_n 1, 1) := by decide +kernel
theorem dX0_least_23 : decode cX0_least 23 = .ok (.aload_n 0, 1) := by decide +kernel
theorem dX0_least_24 : decode cX0_least 24 = .ok (.getfield 17, 3) := by decide +kernel
theorem dX0_least_27 : decode cX0_least 27 = .ok (.istore_n 2, 1) := by decide +kernel
theorem dX0_least_28 : decode cX0_least 28 = .ok (.iload_n 2, 1) := by decide +kernel
theorem dX0_least_29 : decode cX0_least 29 = .ok (.ifCond .le 21, 3) := by decide +kernel
theorem dX0_least_32 : decode cX0_least 32 = .ok (.aload_n 0, 1) := by decide +kernel
theorem dX0_least_33 : decode cX0_least 33 = .ok (.iload_n 1, 1) := by decide +kernel
theorem dX0_least_34 : decode cX0_least 34 = .ok (.invokevirtual 40, 3) := by decide +kernel
theorem dX0_least_37 : decode cX0_least 37 = .ok (.istore_n 3, 1) := by decide +kernel
theorem dX0_least_38 : decode cX0_least 38 = .ok (.aload_n 0, 1) := by decide +kernel
theorem dX0_least_39 : decode cX0_least 39 = .ok (.iload_n 3, 1) := by decide +kernel
theorem dX0_least_40 : decode cX0_least 40 = .ok (.invokevirtual 44, 3) := by decide +kernel
theorem dX0_least_43 : decode cX0_least 43 = .ok (.istore_n 1, 1) := by decide +kernel
theorem dX0_least_44 : decode cX0_least 44 = .ok (.iinc 2 (-1), 3) := by decide +kernel
theorem dX0_least_47 : decode cX0_least 47 = .ok (.goto (-19), 3) := by decide +kernel
theorem dX0_least_50 : decode cX0_least 50 = .ok (.aload_n 0, 1) := by decide +kernel
theorem dX0_least_51 : decode cX0_least 51 = .ok (.iconst 2, 1) := by decide +kernel
theorem dX0_least_52 : decode cX0_least 52 = .ok (.aload_n 0, 1) := by decide +kernel
theorem dX0_least_53 : decode cX0_least 53 = .ok (.getfield 13, 3) := by decide +kernel
theorem dX0_least_56 : decode cX0_least 56 = .ok (.imul, 1) := by decide +kernel
theorem dX0_least_57 : decode cX0_least 57 = .ok (.iconst 2, 1) := by decide +kernel
theorem dX0_least_58 : decode cX0_least 58 = .ok (.isub, 1) := by decide +kernel
theorem dX0_least_59 : decode cX0_least 59 = .ok (.invokevirtual 47, 3) := by decide +kernel
theorem dX0_least_62 : decode cX0_least 62 = .ok (.lreturn, 1) := by decide +kernel
theorem dX0_setWeight_0 : decode cX0_setWeight 0 = .ok (.iload_n 1, 1) := by decide +kernel
theorem dX0_setWeight_1 : decode cX0_setWeight 1 = .ok (.bipush 31, 2) := by decide +kernel
theorem dX0_setWeight_3 : decode cX0_setWeight 3 = .ok (.iand, 1) := by decide +kernel
theorem dX0_setWeight_4 : decode cX0_setWeight 4 = .ok (.istore_n 3, 1) := by decide +kernel
theorem dX0_setWeight_5 : decode cX0_setWeight 5 = .ok (.iload_n 3, 1) := by decide +kernel
theorem dX0_setWeight_6 : decode cX0_setWeight 6 = .ok (.aload_n 0, 1) := by decide +kernel
theorem dX0_setWeight_7 : decode cX0_setWeight 7 = .ok (.getfield 9, 3) := by decide +kernel
theorem dX0_setWeight_10 : decode cX0_setWeight 10 = .ok (.arraylength, 1) := by decide +kernel
theorem dX0_setWeight_11 : decode cX0_setWeight 11 = .ok (.if_icmp .ge 13, 3) := by decide +kernel
theorem dX0_setWeight_14 : decode cX0_setWeight 14 = .ok (.aload_n 0, 1) := by decide +kernel
theorem dX0_setWeight_15 : decode cX0_setWeight 15 = .ok (.getfield 9, 3) := by decide +kernel
theorem dX0_setWeight_18 : decode cX0_setWeight 18 = .ok (.iload_n 3, 1) := by decide +kernel
theorem dX0_setWeight_19 : decode cX0_setWeight 19 = .ok (.iload_n 2, 1) := by decide +kernel
theorem dX0_setWeight_20 : decode cX0_setWeight 20 = .ok (.ldc 30, 2) := by decide +kernel
theorem dX0_setWeight_22 : decode cX0_setWeight 22 = .ok (.iand, 1) := by decide +kernel
theorem dX0_setWeight_23 : decode cX0_setWeight 23 = .ok (.iastore, 1) := by decide +kernel
theorem dX0_setWeight_24 : decode cX0_setWeight 24 = .ok (.return_, 1) := by decide +kernel
set_option maxRecDepth 20000 in
theorem ggX0_sortWeights_X0_insertSorted : GoodIn wsX0_sortWeights wsX0_insertSorted := goodIn_r _ [7, 8, 9, 10, 11, 12, 13, 14] (by decide +kernel) (by decide +kernel)
set_option maxRecDepth 20000 in
theorem gX0_sortWeights_X0_insertSorted : GoodIn wsX0_sortWeights (wsV RX0 51 RX0 yX0_insertSorted wsX0_insertSorted) := goodIn_app (goodIn_of _ (by decide +kernel)) ggX0_sortWeights_X0_insertSorted
theorem dX0_sortWeights_0 : decode cX0_sortWeights 0 = .ok (.iconst 0, 1) := by decide +kernel
theorem dX0_sortWeights_1 : decode cX0_sortWeights 1 = .ok (.istore_n 1, 1) := by decide +kernel
theorem dX0_sortWeights_2 : decode cX0_sortWeights 2 = .ok (.iload_n 1, 1) := by decide +kernel
theorem dX0_sortWeights_3 : decode cX0_sortWeights 3 = .ok (.aload_n 0, 1) := by decide +kernel
theorem dX0_sortWeights_4 : decode cX0_sortWeights 4 = .ok (.getfield 13, 3) := by decide +kernel
theorem dX0_sortWeights_7 : decode cX0_sortWeights 7 = .ok (.if_icmp .ge 30, 3) := by decide +kernel
theorem dX0_sortWeights_10 : decode cX0_sortWeights 10 = .ok (.iload_n 1, 1) := by decide +kernel
theorem dX0_sortWeights_11 : decode cX0_sortWeights 11 = .ok (.aload_n 0, 1) := by decide +kernel
theorem dX0_sortWeights_12 : decode cX0_sortWeights 12 = .ok (.getfield 9, 3) := by decide +kernel
theorem dX0_sortWeights_15 : decode cX0_sortWeights 15 = .ok (.arraylength, 1) := by decide +kernel
theorem dX0_sortWeights_16 : decode cX0_sortWeights 16 = .ok (.if_icmp .ge 21, 3) := by decide +kernel
theorem dX0_sortWeights_19 : decode cX0_sortWeights 19 = .ok (.aload_n 0, 1) := by decide +kernel
theorem dX0_sortWeights_20 : decode cX0_sortWeights 20 = .ok (.iload_n 1, 1) := by decide +kernel
theorem dX0_sortWeights_21 : decode cX0_sortWeights 21 = .ok (.aload_n 0, 1) := by decide +kernel
theorem dX0_sortWeights_22 : decode cX0_sortWeights 22 = .ok (.getfield 9, 3) := by decide +kernel
theorem dX0_sortWeights_25 : decode cX0_sortWeights 25 = .ok (.iload_n 1, 1) := by decide +kernel
theorem dX0_sortWeights_26 : decode cX0_sortWeights 26 = .ok (.iaload, 1) := by decide +kernel
theorem dX0_sortWeights_27 : decode cX0_sortWeights 27 = .ok (.i2l, 1) := by decide +kernel
theorem dX0_sortWeights_28 : decode cX0_sortWeights 28 = .ok (.invokevirtual 51, 3) := by decide +kernel
theorem dX0_sortWeights_31 : decode cX0_sortWeights 31 = .ok (.iinc 1 1, 3) := by decide +kernel
theorem dX0_sortWeights_34 : decode cX0_sortWeights 34 = .ok (.goto (-32), 3) := by decide +kernel
theorem dX0_sortWeights_37 : decode cX0_sortWeights 37 = .ok (.return_, 1) := by decide +kernel
theorem dX0_insertSorted_0 : decode cX0_insertSorted 0 = .ok (.iload_n 1, 1) := by decide +kernel
theorem dX0_insertSorted_1 : decode cX0_insertSorted 1 = .ok (.aload_n 0, 1) := by decide +kernel
theorem dX0_insertSorted_2 : decode cX0_insertSorted 2 = .ok (.getfield 20, 3) := by decide +kernel
theorem dX0_insertSorted_5 : decode cX0_insertSorted 5 = .ok (.arraylength, 1) := by decide +kernel
theorem dX0_insertSorted_6 : decode cX0_insertSorted 6 = .ok (.if_icmp .lt 4, 3) := by decide +kernel
theorem dX0_insertSorted_9 : decode cX0_insertSorted 9 = .ok (.return_, 1) := by decide +kernel
theorem dX0_insertSorted_10 : decode cX0_insertSorted 10 = .ok (.iload_n 1, 1) := by decide +kernel
theorem dX0_insertSorted_11 : decode cX0_insertSorted 11 = .ok (.istore 4, 2) := by decide +kernel
theorem dX0_insertSorted_13 : decode cX0_insertSorted 13 = .ok (.iload 4, 2) := by decide +kernel
theorem dX0_insertSorted_15 : decode cX0_insertSorted 15 = .ok (.ifCond .le 39, 3) := by decide +kernel
theorem dX0_insertSorted_18 : decode cX0_insertSorted 18 = .ok (.aload_n 0, 1) := by decide +kernel
theorem dX0_insertSorted_19 : decode cX0_insertSorted 19 = .ok (.getfield 20, 3) := by decide +kernel
theorem dX0_insertSorted_22 : decode cX0_insertSorted 22 = .ok (.iload 4, 2) := by decide +kernel
theorem dX0_insertSorted_24 : decode cX0_insertSorted 24 = .ok (.iconst 1, 1) := by decide +kernel
theorem dX0_insertSorted_25 : decode cX0_insertSorted 25 = .ok (.isub, 1) := by decide +kernel
theorem dX0_insertSorted_26 : decode cX0_insertSorted 26 = .ok (.laload, 1) := by decide +kernel
theorem dX0_insertSorted_27 : decode cX0_insertSorted 27 = .ok (.lload_n 2, 1) := by decide +kernel
theorem dX0_insertSorted_28 : decode cX0_insertSorted 28 = .ok (.lcmp, 1) := by decide +kernel
theorem dX0_insertSorted_29 : decode cX0_insertSorted 29 = .ok (.ifCond .le 25, 3) := by decide +kernel
theorem dX0_insertSorted_32 : decode cX0_insertSorted 32 = .ok (.aload_n 0, 1) := by decide +kernel
theorem dX0_insertSorted_33 : decode cX0_insertSorted 33 = .ok (.getfield 20, 3) := by decide +kernel
theorem dX0_insertSorted_36 : decode cX0_insertSorted 36 = .ok (.iload 4, 2) := by decide +kernel
theorem dX0_insertSorted_38 : decode cX0_insertSorted 38 = .ok (.aload_n 0, 1) := by decide +kernel
theorem dX0_insertSorted_39 : decode cX0_insertSorted 39 = .ok (.getfield 20, 3) := by decide +kernel
theorem dX0_insertSorted_42 : decode cX0_insertSorted 42 = .ok (.iload 4, 2) := by decide +kernel
theorem dX0_insertSorted_44 : decode cX0_insertSorted 44 = .ok (.iconst 1, 1) := by decide +kernel
theorem dX0_insertSorted_45 : decode cX0_insertSorted 45 = .ok (.isub, 1) := by decide +kernel
theorem dX0_insertSorted_46 : decode cX0_insertSorted 46 = .ok (.laload, 1) := by decide +kernel
theorem dX0_insertSorted_47 : decode cX0_insertSorted 47 = .ok (.lastore, 1) := by decide +kernel
theorem dX0_insertSorted_48 : decode cX0_insertSorted 48 = .ok (.iinc 4 (-1), 3) := by decide +kernel
theorem dX0_insertSorted_51 : decode cX0_insertSorted 51 = .ok (.goto (-38), 3) := by decide +kernel
theorem dX0_insertSorted_54 : decode cX0_insertSorted 54 = .ok (.aload_n 0, 1) := by decide +kernel
theorem dX0_insertSorted_55 : decode cX0_insertSorted 55 = .ok (.getfield 20, 3) := by decide +kernel
theorem dX0_insertSorted_58 : decode cX0_insertSorted 58 = .ok (.iload 4, 2) := by decide +kernel
theorem dX0_insertSorted_60 : decode cX0_insertSorted 60 = .ok (.lload_n 2, 1) := by decide +kernel
theorem dX0_insertSorted_61 : decode cX0_insertSorted 61 = .ok (.lastore, 1) := by decide +kernel
theorem dX0_insertSorted_62 : decode cX0_insertSorted 62 = .ok (.return_, 1) := by decide +kernel
theorem dX0_pairCoins_0 : decode cX0_pairCoins 0 = .ok (.iload_n 1, 1) := by decide +kernel
theorem dX0_pairCoins_1 : decode cX0_pairCoins 1 = .ok (.iconst 2, 1) := by decide +kernel
theorem dX0_pairCoins_2 : decode cX0_pairCoins 2 = .ok (.idiv, 1) := by decide +kernel
theorem dX0_pairCoins_3 : decode cX0_pairCoins 3 = .ok (.aload_n 0, 1) := by decide +kernel
theorem dX0_pairCoins_4 : decode cX0_pairCoins 4 = .ok (.getfield 27, 3) := by decide +kernel
theorem dX0_pairCoins_7 : decode cX0_pairCoins 7 = .ok (.arraylength, 1) := by decide +kernel
theorem dX0_pairCoins_8 : decode cX0_pairCoins 8 = .ok (.invokestatic 55, 3) := by decide +kernel
theorem dX0_pairCoins_11 : decode cX0_pairCoins 11 = .ok (.istore_n 2, 1) := by decide +kernel
theorem dX0_pairCoins_12 : decode cX0_pairCoins 12 = .ok (.iconst 0, 1) := by decide +kernel
theorem dX0_pairCoins_13 : decode cX0_pairCoins 13 = .ok (.istore_n 3, 1) := by decide +kernel
theorem dX0_pairCoins_14 : decode cX0_pairCoins 14 = .ok (.iload_n 3, 1) := by decide +kernel
theorem dX0_pairCoins_15 : decode cX0_pairCoins 15 = .ok (.iload_n 2, 1) := by decide +kernel
theorem dX0_pairCoins_16 : decode cX0_pairCoins 16 = .ok (.if_icmp .ge 47, 3) := by decide +kernel
theorem dX0_pairCoins_19 : decode cX0_pairCoins 19 = .ok (.iconst 2, 1) := by decide +kernel
theorem dX0_pairCoins_20 : decode cX0_pairCoins 20 = .ok (.iload_n 3, 1) := by decide +kernel
theorem dX0_pairCoins_21 : decode cX0_pairCoins 21 = .ok (.imul, 1) := by decide +kernel
theorem dX0_pairCoins_22 : decode cX0_pairCoins 22 = .ok (.iconst 1, 1) := by decide +kernel
theorem dX0_pairCoins_23 : decode cX0_pairCoins 23 = .ok (.iadd, 1) := by decide +kernel
theorem dX0_pairCoins_24 : decode cX0_pairCoins 24 = .ok (.aload_n 0, 1) := by decide +kernel
theorem dX0_pairCoins_25 : decode cX0_pairCoins 25 = .ok (.getfield 24, 3) := by decide +kernel
theorem dX0_pairCoins_28 : decode cX0_pairCoins 28 = .ok (.arraylength, 1) := by decide +kernel
theorem dX0_pairCoins_29 : decode cX0_pairCoins 29 = .ok (.if_icmp .ge 34, 3) := by decide +kernel
theorem dX0_pairCoins_32 : decode cX0_pairCoins 32 = .ok (.aload_n 0, 1) := by decide +kernel
theorem dX0_pairCoins_33 : decode cX0_pairCoins 33 = .ok (.getfield 27, 3) := by decide +kernel
theorem dX0_pairCoins_36 : decode cX0_pairCoins 36 = .ok (.iload_n 3, 1) := by decide +kernel
theorem dX0_pairCoins_37 : decode cX0_pairCoins 37 = .ok (.aload_n 0, 1) := by decide +kernel
theorem dX0_pairCoins_38 : decode cX0_pairCoins 38 = .ok (.getfield 24, 3) := by decide +kernel
theorem dX0_pairCoins_41 : decode cX0_pairCoins 41 = .ok (.iconst 2, 1) := by decide +kernel
theorem dX0_pairCoins_42 : decode cX0_pairCoins 42 = .ok (.iload_n 3, 1) := by decide +kernel
theorem dX0_pairCoins_43 : decode cX0_pairCoins 43 = .ok (.imul, 1) := by decide +kernel
theorem dX0_pairCoins_44 : decode cX0_pairCoins 44 = .ok (.laload, 1) := by decide +kernel
theorem dX0_pairCoins_45 : decode cX0_pairCoins 45 = .ok (.aload_n 0, 1) := by decide +kernel
theorem dX0_pairCoins_46 : decode cX0_pairCoins 46 = .ok (.getfield 24, 3) := by decide +kernel
theorem dX0_pairCoins_49 : decode cX0_pairCoins 49 = .ok (.iconst 2, 1) := by decide +kernel
theorem dX0_pairCoins_50 : decode cX0_pairCoins 50 = .ok (.iload_n 3, 1) := by decide +kernel
theorem dX0_pairCoins_51 : decode cX0_pairCoins 51 = .ok (.imul, 1) := by decide +kernel
theorem dX0_pairCoins_52 : decode cX0_pairCoins 52 = .ok (.iconst 1, 1) := by decide +kernel
theorem dX0_pairCoins_53 : decode cX0_pairCoins 53 = .ok (.iadd, 1) := by decide +kernel
theorem dX0_pairCoins_54 : decode cX0_pairCoins 54 = .ok (.laload, 1) := by decide +kernel
theorem dX0_pairCoins_55 : decode cX0_pairCoins 55 = .ok (.ladd, 1) := by decide +kernel
theorem dX0_pairCoins_56 : decode cX0_pairCoins 56 = .ok (.lastore, 1) := by decide +kernel
theorem dX0_pairCoins_57 : decode cX0_pairCoins 57 = .ok (.iinc 3 1, 3) := by decide +kernel
theorem dX0_pairCoins_60 : decode cX0_pairCoins 60 = .ok (.goto (-46), 3) := by decide +kernel
theorem dX0_pairCoins_63 : decode cX0_pairCoins 63 = .ok (.iload_n 2, 1) := by decide +kernel
theorem dX0_pairCoins_64 : decode cX0_pairCoins 64 = .ok (.ireturn, 1) := by decide +kernel
set_option maxRecDepth 20000 in
theorem ggX0_mergeLettersAndPairs_X0_costAt : GoodIn wsX0_mergeLettersAndPairs wsX0_costAt := goodIn_r _ [12, 13] (by decide +kernel) (by decide +kernel)
set_option maxRecDepth 20000 in
theorem gX0_mergeLettersAndPairs_X0_costAt : GoodIn wsX0_mergeLettersAndPairs (va_wsS RX0 61 yX0_costAt wsX0_costAt) := goodIn_app (goodIn_of _ (by decide +kernel)) ggX0_mergeLettersAndPairs_X0_costAt
theorem dX0_mergeLettersAndPairs_0 : decode cX0_mergeLettersAndPairs 0 = .ok (.aload_n 0, 1) := by decide +kernel
theorem dX0_mergeLettersAndPairs_1 : decode cX0_mergeLettersAndPairs 1 = .ok (.getfield 13, 3) := by decide +kernel
theorem dX0_mergeLettersAndPairs_4 : decode cX0_mergeLettersAndPairs 4 = .ok (.iload_n 1, 1) := by decide +kernel
theorem dX0_mergeLettersAndPairs_5 : decode cX0_mergeLettersAndPairs 5 = .ok (.iadd, 1) := by decide +kernel
theorem dX0_mergeLettersAndPairs_6 : decode cX0_mergeLettersAndPairs 6 = .ok (.aload_n 0, 1) := by decide +kernel
theorem dX0_mergeLettersAndPairs_7 : decode cX0_mergeLettersAndPairs 7 = .ok (.getfield 24, 3) := by decide +kernel
theorem dX0_mergeLettersAndPairs_10 : decode cX0_mergeLettersAndPairs 10 = .ok (.arraylength, 1) := by decide +kernel
theorem dX0_mergeLettersAndPairs_11 : decode cX0_mergeLettersAndPairs 11 = .ok (.invokestatic 55, 3) := by decide +kernel
theorem dX0_mergeLettersAndPairs_14 : decode cX0_mergeLettersAndPairs 14 = .ok (.istore_n 2, 1) := by decide +kernel
theorem dX0_mergeLettersAndPairs_15 : decode cX0_mergeLettersAndPairs 15 = .ok (.iconst 0, 1) := by decide +kernel
theorem dX0_mergeLettersAndPairs_16 : decode cX0_mergeLettersAndPairs 16 = .ok (.istore_n 3, 1) := by decide +kernel
theorem dX0_mergeLettersAndPairs_17 : decode cX0_mergeLettersAndPairs 17 = .ok (.iconst 0, 1) := by decide +kernel
theorem dX0_mergeLettersAndPairs_18 : decode cX0_mergeLettersAndPairs 18 = .ok (.istore 4, 2) := by decide +kernel
theorem dX0_mergeLettersAndPairs_20 : decode cX0_mergeLettersAndPairs 20 = .ok (.iconst 0, 1) := by decide +kernel
theorem dX0_mergeLettersAndPairs_21 : decode cX0_mergeLettersAndPairs 21 = .ok (.istore 5, 2) := by decide +kernel
theorem dX0_mergeLettersAndPairs_23 : decode cX0_mergeLettersAndPairs 23 = .ok (.iload 5, 2) := by decide +kernel
theorem dX0_mergeLettersAndPairs_25 : decode cX0_mergeLettersAndPairs 25 = .ok (.iload_n 2, 1) := by decide +kernel
theorem dX0_mergeLettersAndPairs_26 : decode cX0_mergeLettersAndPairs 26 = .ok (.if_icmp .ge 70, 3) := by decide +kernel
theorem dX0_mergeLettersAndPairs_29 : decode cX0_mergeLettersAndPairs 29 = .ok (.aload_n 0, 1) := by decide +kernel
theorem dX0_mergeLettersAndPairs_30 : decode cX0_mergeLettersAndPairs 30 = .ok (.getfield 20, 3) := by decide +kernel
theorem dX0_mergeLettersAndPairs_33 : decode cX0_mergeLettersAndPairs 33 = .ok (.iload_n 3, 1) := by decide +kernel
theorem dX0_mergeLettersAndPairs_34 : decode cX0_mergeLettersAndPairs 34 = .ok (.aload_n 0, 1) := by decide +kernel
theorem dX0_mergeLettersAndPairs_35 : decode cX0_mergeLettersAndPairs 35 = .ok (.getfield 13, 3) := by decide +kernel
theorem dX0_mergeLettersAndPairs_38 : decode cX0_mergeLettersAndPairs 38 = .ok (.invokestatic 61, 3) := by decide +kernel
theorem dX0_mergeLettersAndPairs_41 : decode cX0_mergeLettersAndPairs 41 = .ok (.lstore 6, 2) := by decide +kernel
theorem dX0_mergeLettersAndPairs_43 : decode cX0_mergeLettersAndPairs 43 = .ok (.aload_n 0, 1) := by decide +kernel
theorem dX0_mergeLettersAndPairs_44 : decode cX0_mergeLettersAndPairs 44 = .ok (.getfield 27, 3) := by decide +kernel
theorem dX0_mergeLettersAndPairs_47 : decode cX0_mergeLettersAndPairs 47 = .ok (.iload 4, 2) := by decide +kernel
theorem dX0_mergeLettersAndPairs_49 : decode cX0_mergeLettersAndPairs 49 = .ok (.iload_n 1, 1) := by decide +kernel
theorem dX0_mergeLettersAndPairs_50 : decode cX0_mergeLettersAndPairs 50 = .ok (.invokestatic 61, 3) := by decide +kernel
theorem dX0_mergeLettersAndPairs_53 : decode cX0_mergeLettersAndPairs 53 = .ok (.lstore 8, 2) := by decide +kernel
theorem dX0_mergeLettersAndPairs_55 : decode cX0_mergeLettersAndPairs 55 = .ok (.lload 6, 2) := by decide +kernel
theorem dX0_mergeLettersAndPairs_57 : decode cX0_mergeLettersAndPairs 57 = .ok (.lload 8, 2) := by decide +kernel
theorem dX0_mergeLettersAndPairs_59 : decode cX0_mergeLettersAndPairs 59 = .ok (.lcmp, 1) := by decide +kernel
theorem dX0_mergeLettersAndPairs_60 : decode cX0_mergeLettersAndPairs 60 = .ok (.ifCond .gt 18, 3) := by decide +kernel
theorem dX0_mergeLettersAndPairs_63 : decode cX0_mergeLettersAndPairs 63 = .ok (.aload_n 0, 1) := by decide +kernel
theorem dX0_mergeLettersAndPairs_64 : decode cX0_mergeLettersAndPairs 64 = .ok (.getfield 24, 3) := by decide +kernel
theorem dX0_mergeLettersAndPairs_67 : decode cX0_mergeLettersAndPairs 67 = .ok (.iload 5, 2) := by decide +kernel
theorem dX0_mergeLettersAndPairs_69 : decode cX0_mergeLettersAndPairs 69 = .ok (.lload 6, 2) := by decide +kernel
theorem dX0_mergeLettersAndPairs_71 : decode cX0_mergeLettersAndPairs 71 = .ok (.lastore, 1) := by decide +kernel
theorem dX0_mergeLettersAndPairs_72 : decode cX0_mergeLettersAndPairs 72 = .ok (.iinc 3 1, 3) := by decide +kernel
theorem dX0_mergeLettersAndPairs_75 : decode cX0_mergeLettersAndPairs 75 = .ok (.goto 15, 3) := by decide +kernel
theorem dX0_mergeLettersAndPairs_78 : decode cX0_mergeLettersAndPairs 78 = .ok (.aload_n 0, 1) := by decide +kernel
theorem dX0_mergeLettersAndPairs_79 : decode cX0_mergeLettersAndPairs 79 = .ok (.getfield 24, 3) := by decide +kernel
theorem dX0_mergeLettersAndPairs_82 : decode cX0_mergeLettersAndPairs 82 = .ok (.iload 5, 2) := by decide +kernel
theorem dX0_mergeLettersAndPairs_84 : decode cX0_mergeLettersAndPairs 84 = .ok (.lload 8, 2) := by decide +kernel
theorem dX0_mergeLettersAndPairs_86 : decode cX0_mergeLettersAndPairs 86 = .ok (.lastore, 1) := by decide +kernel
theorem dX0_mergeLettersAndPairs_87 : decode cX0_mergeLettersAndPairs 87 = .ok (.iinc 4 1, 3) := by decide +kernel
theorem dX0_mergeLettersAndPairs_90 : decode cX0_mergeLettersAndPairs 90 = .ok (.iinc 5 1, 3) := by decide +kernel
theorem dX0_mergeLettersAndPairs_93 : decode cX0_mergeLettersAndPairs 93 = .ok (.goto (-70), 3) := by decide +kernel
theorem dX0_mergeLettersAndPairs_96 : decode cX0_mergeLettersAndPairs 96 = .ok (.iload_n 2, 1) := by decide +kernel
theorem dX0_mergeLettersAndPairs_97 : decode cX0_mergeLettersAndPairs 97 = .ok (.ireturn, 1) := by decide +kernel
theorem dX0_costAt_0 : decode cX0_costAt 0 = .ok (.iload_n 1, 1) := by decide +kernel
theorem dX0_costAt_1 : decode cX0_costAt 1 = .ok (.ifCond .lt 14, 3) := by decide +kernel
theorem dX0_costAt_4 : decode cX0_costAt 4 = .ok (.iload_n 1, 1) := by decide +kernel
theorem dX0_costAt_5 : decode cX0_costAt 5 = .ok (.iload_n 2, 1) := by decide +kernel
theorem dX0_costAt_6 : decode cX0_costAt 6 = .ok (.if_icmp .ge 9, 3) := by decide +kernel
theorem dX0_costAt_9 : decode cX0_costAt 9 = .ok (.iload_n 1, 1) := by decide +kernel
theorem dX0_costAt_10 : decode cX0_costAt 10 = .ok (.aload_n 0, 1) := by decide +kernel
theorem dX0_costAt_11 : decode cX0_costAt 11 = .ok (.arraylength, 1) := by decide +kernel
theorem dX0_costAt_12 : decode cX0_costAt 12 = .ok (.if_icmp .lt 7, 3) := by decide +kernel
theorem dX0_costAt_15 : decode cX0_costAt 15 = .ok (.ldc2_w 65, 3) := by decide +kernel
theorem dX0_costAt_18 : decode cX0_costAt 18 = .ok (.lreturn, 1) := by decide +kernel
theorem dX0_costAt_19 : decode cX0_costAt 19 = .ok (.aload_n 0, 1) := by decide +kernel
theorem dX0_costAt_20 : decode cX0_costAt 20 = .ok (.iload_n 1, 1) := by decide +kernel
theorem dX0_costAt_21 : decode cX0_costAt 21 = .ok (.laload, 1) := by decide +kernel
theorem dX0_costAt_22 : decode cX0_costAt 22 = .ok (.lreturn, 1) := by decide +kernel
theorem dX0_costOfCheapest_0 : decode cX0_costOfCheapest 0 = .ok (.lconst 0, 1) := by decide +kernel
theorem dX0_costOfCheapest_1 : decode cX0_costOfCheapest 1 = .ok (.lstore_n 2, 1) := by decide +kernel
theorem dX0_costOfCheapest_2 : decode cX0_costOfCheapest 2 = .ok (.iconst 0, 1) := by decide +kernel
theorem dX0_costOfCheapest_3 : decode cX0_costOfCheapest 3 = .ok (.istore 4, 2) := by decide +kernel
theorem dX0_costOfCheapest_5 : decode cX0_costOfCheapest 5 = .ok (.iload 4, 2) := by decide +kernel
theorem dX0_costOfCheapest_7 : decode cX0_costOfCheapest 7 = .ok (.iload_n 1, 1) := by decide +kernel
theorem dX0_costOfCheapest_8 : decode cX0_costOfCheapest 8 = .ok (.if_icmp .ge 29, 3) := by decide +kernel
theorem dX0_costOfCheapest_11 : decode cX0_costOfCheapest 11 = .ok (.iload 4, 2) := by decide +kernel
theorem dX0_costOfCheapest_13 : decode cX0_costOfCheapest 13 = .ok (.aload_n 0, 1) := by decide +kernel
theorem dX0_costOfCheapest_14 : decode cX0_costOfCheapest 14 = .ok (.getfield 24, 3) := by decide +kernel
theorem dX0_costOfCheapest_17 : decode cX0_costOfCheapest 17 = .ok (.arraylength, 1) := by decide +kernel
theorem dX0_costOfCheapest_18 : decode cX0_costOfCheapest 18 = .ok (.if_icmp .ge 19, 3) := by decide +kernel
theorem dX0_costOfCheapest_21 : decode cX0_costOfCheapest 21 = .ok (.lload_n 2, 1) := by decide +kernel
theorem dX0_costOfCheapest_22 : decode cX0_costOfCheapest 22 = .ok (.aload_n 0, 1) := by decide +kernel
theorem dX0_costOfCheapest_23 : decode cX0_costOfCheapest 23 = .ok (.getfield 24, 3) := by decide +kernel
theorem dX0_costOfCheapest_26 : decode cX0_costOfCheapest 26 = .ok (.iload 4, 2) := by decide +kernel
theorem dX0_costOfCheapest_28 : decode cX0_costOfCheapest 28 = .ok (.laload, 1) := by decide +kernel
theorem dX0_costOfCheapest_29 : decode cX0_costOfCheapest 29 = .ok (.ladd, 1) := by decide +kernel
theorem dX0_costOfCheapest_30 : decode cX0_costOfCheapest 30 = .ok (.lstore_n 2, 1) := by decide +kernel
theorem dX0_costOfCheapest_31 : decode cX0_costOfCheapest 31 = .ok (.iinc 4 1, 3) := by decide +kernel
theorem dX0_costOfCheapest_34 : decode cX0_costOfCheapest 34 = .ok (.goto (-29), 3) := by decide +kernel
theorem dX0_costOfCheapest_37 : decode cX0_costOfCheapest 37 = .ok (.lload_n 2, 1) := by decide +kernel
theorem dX0_costOfCheapest_38 : decode cX0_costOfCheapest 38 = .ok (.lreturn, 1) := by decide +kernel
theorem dX1_init_0 : decode cX1_init 0 = .ok (.aload_n 0, 1) := by decide +kernel
theorem dX1_init_1 : decode cX1_init 1 = .ok (.invokespecial 1, 3) := by decide +kernel
theorem dX1_init_4 : decode cX1_init 4 = .ok (.aload_n 0, 1) := by decide +kernel
theorem dX1_init_5 : decode cX1_init 5 = .ok (.bipush 32, 2) := by decide +kernel
theorem dX1_init_7 : decode cX1_init 7 = .ok (.newarray .int, 2) := by decide +kernel
theorem dX1_init_9 : decode cX1_init 9 = .ok (.putfield 7, 3) := by decide +kernel
theorem dX1_init_12 : decode cX1_init 12 = .ok (.aload_n 0, 1) := by decide +kernel
theorem dX1_init_13 : decode cX1_init 13 = .ok (.iconst 2, 1) := by decide +kernel
theorem dX1_init_14 : decode cX1_init 14 = .ok (.putfield 13, 3) := by decide +kernel
theorem dX1_init_17 : decode cX1_init 17 = .ok (.aload_n 0, 1) := by decide +kernel
theorem dX1_init_18 : decode cX1_init 18 = .ok (.iconst 5, 1) := by decide +kernel
theorem dX1_init_19 : decode cX1_init 19 = .ok (.putfield 17, 3) := by decide +kernel
theorem dX1_init_22 : decode cX1_init 22 = .ok (.aload_n 0, 1) := by decide +kernel
theorem dX1_init_23 : decode cX1_init 23 = .ok (.sipush 289, 3) := by decide +kernel
theorem dX1_init_26 : decode cX1_init 26 = .ok (.newarray .long, 2) := by decide +kernel
theorem dX1_init_28 : decode cX1_init 28 = .ok (.putfield 20, 3) := by decide +kernel
theorem dX1_init_31 : decode cX1_init 31 = .ok (.aload_n 0, 1) := by decide +kernel
theorem dX1_init_32 : decode cX1_init 32 = .ok (.sipush 289, 3) := by decide +kernel
theorem dX1_init_35 : decode cX1_init 35 = .ok (.newarray .long, 2) := by decide +kernel
theorem dX1_init_37 : decode cX1_init 37 = .ok (.putfield 24, 3) := by decide +kernel
theorem dX1_init_40 : decode cX1_init 40 = .ok (.aload_n 0, 1) := by decide +kernel
theorem dX1_init_41 : decode cX1_init 41 = .ok (.bipush 32, 2) := by decide +kernel
theorem dX1_init_43 : decode cX1_init 43 = .ok (.newarray .int, 2) := by decide +kernel
theorem dX1_init_45 : decode cX1_init 45 = .ok (.putfield 27, 3) := by decide +kernel
theorem dX1_init_48 : decode cX1_init 48 = .ok (.return_, 1) := by decide +kernel
theorem dX1_letters_0 : decode cX1_letters 0 = .ok (.aload_n 0, 1) := by decide +kernel
theorem dX1_letters_1 : decode cX1_letters 1 = .ok (.iconst 2, 1) := by decide +kernel
theorem dX1_letters_2 : decode cX1_letters 2 = .ok (.iload_n 1, 1) := by decide +kernel
theorem dX1_letters_3 : decode cX1_letters 3 = .ok (.ldc 30, 2) := by decide +kernel
theorem dX1_letters_5 : decode cX1_letters 5 = .ok (.iand, 1) := by decide +kernel
theorem dX1_letters_6 : decode cX1_letters 6 = .ok (.bipush 15, 2) := by decide +kernel
theorem dX1_letters_8 : decode cX1_letters 8 = .ok (.irem, 1) := by decide +kernel
theorem dX1_letters_9 : decode cX1_letters 9 = .ok (.iadd, 1) := by decide +kernel
theorem dX1_letters_10 : decode cX1_letters 10 = .ok (.putfield 13, 3) := by decide +kernel
theorem dX1_letters_13 : decode cX1_letters 13 = .ok (.return_, 1) := by decide +kernel
theorem dX1_limit_0 : decode cX1_limit 0 = .ok (.aload_n 0, 1) := by decide +kernel
theorem dX1_limit_1 : decode cX1_limit 1 = .ok (.iload_n 1, 1) := by decide +kernel
theorem dX1_limit_2 : decode cX1_limit 2 = .ok (.ldc 30, 2) := by decide +kernel
theorem dX1_limit_4 : decode cX1_limit 4 = .ok (.iand, 1) := by decide +kernel
theorem dX1_limit_5 : decode cX1_limit 5 = .ok (.bipush 16, 2) := by decide +kernel
theorem dX1_limit_7 : decode cX1_limit 7 = .ok (.irem, 1) := by decide +kernel
theorem dX1_limit_8 : decode cX1_limit 8 = .ok (.putfield 17, 3) := by decide +kernel
theorem dX1_limit_11 : decode cX1_limit 11 = .ok (.return_, 1) := by decide +kernel
theorem dX1_weight_0 : decode cX1_weight 0 = .ok (.iconst 0, 1) := by decide +kernel
theorem dX1_weight_1 : decode cX1_weight 1 = .ok (.istore 6, 2) := by decide +kernel
theorem dX1_weight_3 : decode cX1_weight 3 = .ok (.iload 6, 2) := by decide +kernel
theorem dX1_weight_5 : decode cX1_weight 5 = .ok (.iconst 4, 1) := by decide +kernel
theorem dX1_weight_6 : decode cX1_weight 6 = .ok (.if_icmp .ge 56, 3) := by decide +kernel
theorem dX1_weight_9 : decode cX1_weight 9 = .ok (.aload_n 0, 1) := by decide +kernel
theorem dX1_weight_10 : decode cX1_weight 10 = .ok (.getfield 7, 3) := by decide +kernel
theorem dX1_weight_13 : decode cX1_weight 13 = .ok (.iload_n 1, 1) := by decide +kernel
theorem dX1_weight_14 : decode cX1_weight 14 = .ok (.iload 6, 2) := by decide +kernel
theorem dX1_weight_16 : decode cX1_weight 16 = .ok (.iadd, 1) := by decide +kernel
theorem dX1_weight_17 : decode cX1_weight 17 = .ok (.bipush 31, 2) := by decide +kernel
theorem dX1_weight_19 : decode cX1_weight 19 = .ok (.iand, 1) := by decide +kernel
theorem dX1_weight_20 : decode cX1_weight 20 = .ok (.iload 6, 2) := by decide +kernel
theorem dX1_weight_22 : decode cX1_weight 22 = .ok (.ifCond .ne 7, 3) := by decide +kernel
theorem dX1_weight_25 : decode cX1_weight 25 = .ok (.iload_n 2, 1) := by decide +kernel
theorem dX1_weight_26 : decode cX1_weight 26 = .ok (.goto 26, 3) := by decide +kernel
theorem dX1_weight_29 : decode cX1_weight 29 = .ok (.iload 6, 2) := by decide +kernel
theorem dX1_weight_31 : decode cX1_weight 31 = .ok (.iconst 1, 1) := by decide +kernel
theorem dX1_weight_32 : decode cX1_weight 32 = .ok (.if_icmp .ne 7, 3) := by decide +kernel
theorem dX1_weight_35 : decode cX1_weight 35 = .ok (.iload_n 3, 1) := by decide +kernel
theorem dX1_weight_36 : decode cX1_weight 36 = .ok (.goto 16, 3) := by decide +kernel
theorem dX1_weight_39 : decode cX1_weight 39 = .ok (.iload 6, 2) := by decide +kernel
theorem dX1_weight_41 : decode cX1_weight 41 = .ok (.iconst 2, 1) := by decide +kernel
theorem dX1_weight_42 : decode cX1_weight 42 = .ok (.if_icmp .ne 8, 3) := by decide +kernel
theorem dX1_weight_45 : decode cX1_weight 45 = .ok (.iload 4, 2) := by decide +kernel
theorem dX1_weight_47 : decode cX1_weight 47 = .ok (.goto 5, 3) := by decide +kernel
theorem dX1_weight_50 : decode cX1_weight 50 = .ok (.iload 5, 2) := by decide +kernel
theorem dX1_weight_52 : decode cX1_weight 52 = .ok (.ldc 30, 2) := by decide +kernel
theorem dX1_weight_54 : decode cX1_weight 54 = .ok (.iand, 1) := by decide +kernel
theorem dX1_weight_55 : decode cX1_weight 55 = .ok (.iastore, 1) := by decide +kernel
theorem dX1_weight_56 : decode cX1_weight 56 = .ok (.iinc 6 1, 3) := by decide +kernel
theorem dX1_weight_59 : decode cX1_weight 59 = .ok (.goto (-56), 3) := by decide +kernel
theorem dX1_weight_62 : decode cX1_weight 62 = .ok (.return_, 1) := by decide +kernel
theorem dX1_least_0 : decode cX1_least 0 = .ok (.iconst 1, 1) := by decide +kernel
theorem dX1_least_1 : decode cX1_least 1 = .ok (.aload_n 0, 1) := by decide +kernel
theorem dX1_least_2 : decode cX1_least 2 = .ok (.getfield 17, 3) := by decide +kernel
theorem dX1_least_5 : decode cX1_least 5 = .ok (.ishl, 1) := by decide +kernel
theorem dX1_least_6 : decode cX1_least 6 = .ok (.aload_n 0, 1) := by decide +kernel
theorem dX1_least_7 : decode cX1_least 7 = .ok (.getfield 13, 3) := by decide +kernel
theorem dX1_least_10 : decode cX1_least 10 = .ok (.if_icmp .ge 7, 3) := by decide +kernel
theorem dX1_least_13 : decode cX1_least 13 = .ok (.ldc2_w 31, 3) := by decide +kernel
theorem dX1_least_16 : decode cX1_least 16 = .ok (.lreturn, 1) := by decide +kernel
theorem dX1_least_17 : decode cX1_least 17 = .ok (.iconst 0, 1) := by decide +kernel
theorem dX1_least_18 : decode cX1_least 18 = .ok (.istore_n 1, 1) := by decide +kernel
theorem dX1_least_19 : decode cX1_least 19 = .ok (.iload_n 1, 1) := by decide +kernel
theorem dX1_least_20 : decode cX1_least 20 = .ok (.aload_n 0, 1) := by decide +kernel
theorem dX1_least_21 : decode cX1_least 21 = .ok (.getfield 13, 3) := by decide +kernel
theorem dX1_least_24 : decode cX1_least 24 = .ok (.if_icmp .ge 65, 3) := by decide +kernel
theorem dX1_least_27 : decode cX1_least 27 = .ok (.iload_n 1, 1) := by decide +kernel
theorem dX1_least_28 : decode cX1_least 28 = .ok (.istore_n 2, 1) := by decide +kernel
theorem dX1_least_29 : decode cX1_least 29 = .ok (.iload_n 2, 1) := by decide +kernel
theorem dX1_least_30 : decode cX1_least 30 = .ok (.ifCond .le 46, 3) := by decide +kernel
theorem dX1_least_33 : decode cX1_least 33 = .ok (.aload_n 0, 1) := by decide +kernel
theorem dX1_least_34 : decode cX1_least 34 = .ok (.getfield 7, 3) := by decide +kernel
theorem dX1_least_37 : decode cX1_least 37 = .ok (.aload_n 0, 1) := by decide +kernel
theorem dX1_least_38 : decode cX1_least 38 = .ok (.getfield 27, 3) := by decide +kernel
theorem dX1_least_41 : decode cX1_least 41 = .ok (.iload_n 2, 1) := by decide +kernel
theorem dX1_least_42 : decode cX1_least 42 = .ok (.iconst 1, 1) := by decide +kernel
theorem dX1_least_43 : decode cX1_least 43 = .ok (.isub, 1) := by decide +kernel
theorem dX1_least_44 : decode cX1_least 44 = .ok (.iaload, 1) := by decide +kernel
theorem dX1_least_45 : decode cX1_least 45 = .ok (.iaload, 1) := by decide +kernel
theorem dX1_least_46 : decode cX1_least 46 = .ok (.aload_n 0, 1) := by decide +kernel
theorem dX1_least_47 : decode cX1_least 47 = .ok (.getfield 7, 3) := by decide +kernel
theorem dX1_least_50 : decode cX1_least 50 = .ok (.iload_n 1, 1) := by decide +kernel
theorem dX1_least_51 : decode cX1_least 51 = .ok (.iaload, 1) := by decide +kernel
theorem dX1_least_52 : decode cX1_least 52 = .ok (.if_icmp .ge 24, 3) := by decide +kernel
theorem dX1_least_55 : decode cX1_least 55 = .ok (.aload_n 0, 1) := by decide +kernel
theorem dX1_least_56 : decode cX1_least 56 = .ok (.getfield 27, 3) := by decide +kernel
theorem dX1_least_59 : decode cX1_least 59 = .ok (.iload_n 2, 1) := by decide +kernel
theorem dX1_least_60 : decode cX1_least 60 = .ok (.aload_n 0, 1) := by decide +kernel
theorem dX1_least_61 : decode cX1_least 61 = .ok (.getfield 27, 3) := by decide +kernel
theorem dX1_least_64 : decode cX1_least 64 = .ok (.iload_n 2, 1) := by decide +kernel
theorem dX1_least_65 : decode cX1_least 65 = .ok (.iconst 1, 1) := by decide +kernel
theorem dX1_least_66 : decode cX1_least 66 = .ok (.isub, 1) := by decide +kernel
theorem dX1_least_67 : decode cX1_least 67 = .ok (.iaload, 1) := by decide +kernel
theorem dX1_least_68 : decode cX1_least 68 = .ok (.iastore, 1) := by decide +kernel
theorem dX1_least_69 : decode cX1_least 69 = .ok (.iload_n 2, 1) := by decide +kernel
theorem dX1_least_70 : decode cX1_least 70 = .ok (.iconst 1, 1) := by decide +kernel
theorem dX1_least_71 : decode cX1_least 71 = .ok (.isub, 1) := by decide +kernel
theorem dX1_least_72 : decode cX1_least 72 = .ok (.istore_n 2, 1) := by decide +kernel
theorem dX1_least_73 : decode cX1_least 73 = .ok (.goto (-44), 3) := by decide +kernel
theorem dX1_least_76 : decode cX1_least 76 = .ok (.aload_n 0, 1) := by decide +kernel
theorem dX1_least_77 : decode cX1_least 77 = .ok (.getfield 27, 3) := by decide +kernel
theorem dX1_least_80 : decode cX1_least 80 = .ok (.iload_n 2, 1) := by decide +kernel
theorem dX1_least_81 : decode cX1_least 81 = .ok (.iload_n 1, 1) := by decide +kernel
theorem dX1_least_82 : decode cX1_least 82 = .ok (.iastore, 1) := by decide +kernel
theorem dX1_least_83 : decode cX1_least 83 = .ok (.iinc 1 1, 3) := by decide +kernel
theorem dX1_least_86 : decode cX1_least 86 = .ok (.goto (-67), 3) := by decide +kernel
theorem dX1_least_89 : decode cX1_least 89 = .ok (.iconst 0, 1) := by decide +kernel
theorem dX1_least_90 : decode cX1_least 90 = .ok (.istore_n 1, 1) := by decide +kernel
theorem dX1_least_91 : decode cX1_least 91 = .ok (.iload_n 1, 1) := by decide +kernel
theorem dX1_least_92 : decode cX1_least 92 = .ok (.sipush 289, 3) := by decide +kernel
theorem dX1_least_95 : decode cX1_least 95 = .ok (.if_icmp .ge 18, 3) := by decide +kernel
theorem dX1_least_98 : decode cX1_least 98 = .ok (.aload_n 0, 1) := by decide +kernel
theorem dX1_least_99 : decode cX1_least 99 = .ok (.getfield 20, 3) := by decide +kernel
theorem dX1_least_102 : decode cX1_least 102 = .ok (.iload_n 1, 1) := by decide +kernel
theorem dX1_least_103 : decode cX1_least 103 = .ok (.ldc2_w 31, 3) := by decide +kernel
theorem dX1_least_106 : decode cX1_least 106 = .ok (.lastore, 1) := by decide +kernel
theorem dX1_least_107 : decode cX1_least 107 = .ok (.iinc 1 1, 3) := by decide +kernel
theorem dX1_least_110 : decode cX1_least 110 = .ok (.goto (-19), 3) := by decide +kernel
theorem dX1_least_113 : decode cX1_least 113 = .ok (.aload_n 0, 1) := by decide +kernel
theorem dX1_least_114 : decode cX1_least 114 = .ok (.getfield 20, 3) := by decide +kernel
theorem dX1_least_117 : decode cX1_least 117 = .ok (.iconst 1, 1) := by decide +kernel
theorem dX1_least_118 : decode cX1_least 118 = .ok (.lconst 0, 1) := by decide +kernel
theorem dX1_least_119 : decode cX1_least 119 = .ok (.lastore, 1) := by decide +kernel
theorem dX1_least_120 : decode cX1_least 120 = .ok (.ldc2_w 31, 3) := by decide +kernel
theorem dX1_least_123 : decode cX1_least 123 = .ok (.lstore_n 1, 1) := by decide +kernel
theorem dX1_least_124 : decode cX1_least 124 = .ok (.iconst 0, 1) := by decide +kernel
theorem dX1_least_125 : decode cX1_least 125 = .ok (.istore_n 3, 1) := by decide +kernel
theorem dX1_least_126 : decode cX1_least 126 = .ok (.iload_n 3, 1) := by decide +kernel
theorem dX1_least_127 : decode cX1_least 127 = .ok (.aload_n 0, 1) := by decide +kernel
theorem dX1_least_128 : decode cX1_least 128 = .ok (.getfield 17, 3) := by decide +kernel
theorem dX1_least_131 : decode cX1_least 131 = .ok (.if_icmp .gt 316, 3) := by decide +kernel
theorem dX1_least_134 : decode cX1_least 134 = .ok (.iconst 0, 1) := by decide +kernel
theorem dX1_least_135 : decode cX1_least 135 = .ok (.istore 4, 2) := by decide +kernel
theorem dX1_least_137 : decode cX1_least 137 = .ok (.iload 4, 2) := by decide +kernel
theorem dX1_least_139 : decode cX1_least 139 = .ok (.sipush 289, 3) := by decide +kernel
theorem dX1_least_142 : decode cX1_least 142 = .ok (.if_icmp .ge 19, 3) := by decide +kernel
theorem dX1_least_145 : decode cX1_least 145 = .ok (.aload_n 0, 1) := by decide +kernel
theorem dX1_least_146 : decode cX1_least 146 = .ok (.getfield 24, 3) := by decide +kernel
theorem dX1_least_149 : decode cX1_least 149 = .ok (.iload 4, 2) := by decide +kernel
theorem dX1_least_151 : decode cX1_least 151 = .ok (.ldc2_w 31, 3) := by decide +kernel
theorem dX1_least_154 : decode cX1_least 154 = .ok (.lastore, 1) := by decide +kernel
theorem dX1_least_155 : decode cX1_least 155 = .ok (.iinc 4 1, 3) := by decide +kernel
theorem dX1_least_158 : decode cX1_least 158 = .ok (.goto (-21), 3) := by decide +kernel
theorem dX1_least_161 : decode cX1_least 161 = .ok (.iconst 0, 1) := by decide +kernel
theorem dX1_least_162 : decode cX1_least 162 = .ok (.istore 4, 2) := by decide +kernel
theorem dX1_least_164 : decode cX1_least 164 = .ok (.iload 4, 2) := by decide +kernel
theorem dX1_least_166 : decode cX1_least 166 = .ok (.aload_n 0, 1) := by decide +kernel
theorem dX1_least_167 : decode cX1_least 167 = .ok (.getfield 13, 3) := by decide +kernel
theorem dX1_least_170 : decode cX1_least 170 = .ok (.if_icmp .gt 240, 3) := by decide +kernel
theorem dX1_least_173 : decode cX1_least 173 = .ok (.iconst 0, 1) := by decide +kernel
theorem dX1_least_174 : decode cX1_least 174 = .ok (.istore 5, 2) := by decide +kernel
theorem dX1_least_176 : decode cX1_least 176 = .ok (.iload 5, 2) := by decide +kernel
theorem dX1_least_178 : decode cX1_least 178 = .ok (.bipush 16, 2) := by decide +kernel
theorem dX1_least_180 : decode cX1_least 180 = .ok (.if_icmp .gt 224, 3) := by decide +kernel
theorem dX1_least_183 : decode cX1_least 183 = .ok (.aload_n 0, 1) := by decide +kernel
theorem dX1_least_184 : decode cX1_least 184 = .ok (.getfield 20, 3) := by decide +kernel
theorem dX1_least_187 : decode cX1_least 187 = .ok (.bipush 17, 2) := by decide +kernel
theorem dX1_least_189 : decode cX1_least 189 = .ok (.iload 4, 2) := by decide +kernel
theorem dX1_least_191 : decode cX1_least 191 = .ok (.imul, 1) := by decide +kernel
theorem dX1_least_192 : decode cX1_least 192 = .ok (.iload 5, 2) := by decide +kernel
theorem dX1_least_194 : decode cX1_least 194 = .ok (.iadd, 1) := by decide +kernel
theorem dX1_least_195 : decode cX1_least 195 = .ok (.laload, 1) := by decide +kernel
theorem dX1_least_196 : decode cX1_least 196 = .ok (.lstore 6, 2) := by decide +kernel
theorem dX1_least_198 : decode cX1_least 198 = .ok (.lload 6, 2) := by decide +kernel
theorem dX1_least_200 : decode cX1_least 200 = .ok (.lconst 0, 1) := by decide +kernel
theorem dX1_least_201 : decode cX1_least 201 = .ok (.lcmp, 1) := by decide +kernel
theorem dX1_least_202 : decode cX1_least 202 = .ok (.ifCond .lt 196, 3) := by decide +kernel
theorem dX1_least_205 : decode cX1_least 205 = .ok (.lconst 0, 1) := by decide +kernel
theorem dX1_least_206 : decode cX1_least 206 = .ok (.lstore 8, 2) := by decide +kernel
theorem dX1_least_208 : decode cX1_least 208 = .ok (.iconst 0, 1) := by decide +kernel
theorem dX1_least_209 : decode cX1_least 209 = .ok (.istore 10, 2) := by decide +kernel
theorem dX1_least_211 : decode cX1_least 211 = .ok (.iload 10, 2) := by decide +kernel
theorem dX1_least_213 : decode cX1_least 213 = .ok (.iload 5, 2) := by decide +kernel
theorem dX1_least_215 : decode cX1_least 215 = .ok (.if_icmp .gt 183, 3) := by decide +kernel
theorem dX1_least_218 : decode cX1_least 218 = .ok (.iload 4, 2) := by decide +kernel
theorem dX1_least_220 : decode cX1_least 220 = .ok (.iload 10, 2) := by decide +kernel
theorem dX1_least_222 : decode cX1_least 222 = .ok (.iadd, 1) := by decide +kernel
theorem dX1_least_223 : decode cX1_least 223 = .ok (.aload_n 0, 1) := by decide +kernel
theorem dX1_least_224 : decode cX1_least 224 = .ok (.getfield 13, 3) := by decide +kernel
theorem dX1_least_227 : decode cX1_least 227 = .ok (.if_icmp .gt 171, 3) := by decide +kernel
theorem dX1_least_230 : decode cX1_least 230 = .ok (.iload 10, 2) := by decide +kernel
theorem dX1_least_232 : decode cX1_least 232 = .ok (.ifCond .le 29, 3) := by decide +kernel
theorem dX1_least_235 : decode cX1_least 235 = .ok (.lload 8, 2) := by decide +kernel
theorem dX1_least_237 : decode cX1_least 237 = .ok (.aload_n 0, 1) := by decide +kernel
theorem dX1_least_238 : decode cX1_least 238 = .ok (.getfield 7, 3) := by decide +kernel
theorem dX1_least_241 : decode cX1_least 241 = .ok (.aload_n 0, 1) := by decide +kernel
theorem dX1_least_242 : decode cX1_least 242 = .ok (.getfield 27, 3) := by decide +kernel
theorem dX1_least_245 : decode cX1_least 245 = .ok (.iload 4, 2) := by decide +kernel
theorem dX1_least_247 : decode cX1_least 247 = .ok (.iload 10, 2) := by decide +kernel
theorem dX1_least_249 : decode cX1_least 249 = .ok (.iadd, 1) := by decide +kernel
theorem dX1_least_250 : decode cX1_least 250 = .ok (.iconst 1, 1) := by decide +kernel
theorem dX1_least_251 : decode cX1_least 251 = .ok (.isub, 1) := by decide +kernel
theorem dX1_least_252 : decode cX1_least 252 = .ok (.iaload, 1) := by decide +kernel
theorem dX1_least_253 : decode cX1_least 253 = .ok (.iaload, 1) := by decide +kernel
theorem dX1_least_254 : decode cX1_least 254 = .ok (.i2l, 1) := by decide +kernel
theorem dX1_least_255 : decode cX1_least 255 = .ok (.iload_n 3, 1) := by decide +kernel
theorem dX1_least_256 : decode cX1_least 256 = .ok (.i2l, 1) := by decide +kernel
theorem dX1_least_257 : decode cX1_least 257 = .ok (.lmul, 1) := by decide +kernel
theorem dX1_least_258 : decode cX1_least 258 = .ok (.ladd, 1) := by decide +kernel
theorem dX1_least_259 : decode cX1_least 259 = .ok (.lstore 8, 2) := by decide +kernel
theorem dX1_least_261 : decode cX1_least 261 = .ok (.iload 4, 2) := by decide +kernel
theorem dX1_least_263 : decode cX1_least 263 = .ok (.iload 10, 2) := by decide +kernel
theorem dX1_least_265 : decode cX1_least 265 = .ok (.iadd, 1) := by decide +kernel
theorem dX1_least_266 : decode cX1_least 266 = .ok (.aload_n 0, 1) := by decide +kernel
theorem dX1_least_267 : decode cX1_least 267 = .ok (.getfield 13, 3) := by decide +kernel
theorem dX1_least_270 : decode cX1_least 270 = .ok (.if_icmp .ne 28, 3) := by decide +kernel
theorem dX1_least_273 : decode cX1_least 273 = .ok (.lload_n 1, 1) := by decide +kernel
theorem dX1_least_274 : decode cX1_least 274 = .ok (.lconst 0, 1) := by decide +kernel
theorem dX1_least_275 : decode cX1_least 275 = .ok (.lcmp, 1) := by decide +kernel
theorem dX1_least_276 : decode cX1_least 276 = .ok (.ifCond .lt 13, 3) := by decide +kernel
theorem dX1_least_279 : decode cX1_least 279 = .ok (.lload 6, 2) := by decide +kernel
theorem dX1_least_281 : decode cX1_least 281 = .ok (.lload 8, 2) := by decide +kernel
theorem dX1_least_283 : decode cX1_least 283 = .ok (.ladd, 1) := by decide +kernel
theorem dX1_least_284 : decode cX1_least 284 = .ok (.lload_n 1, 1) := by decide +kernel
theorem dX1_least_285 : decode cX1_least 285 = .ok (.lcmp, 1) := by decide +kernel
theorem dX1_least_286 : decode cX1_least 286 = .ok (.ifCond .ge 106, 3) := by decide +kernel
theorem dX1_least_289 : decode cX1_least 289 = .ok (.lload 6, 2) := by decide +kernel
theorem dX1_least_291 : decode cX1_least 291 = .ok (.lload 8, 2) := by decide +kernel
theorem dX1_least_293 : decode cX1_least 293 = .ok (.ladd, 1) := by decide +kernel
theorem dX1_least_294 : decode cX1_least 294 = .ok (.lstore_n 1, 1) := by decide +kernel
theorem dX1_least_295 : decode cX1_least 295 = .ok (.goto 97, 3) := by decide +kernel
theorem dX1_least_298 : decode cX1_least 298 = .ok (.iconst 2, 1) := by decide +kernel
theorem dX1_least_299 : decode cX1_least 299 = .ok (.iload 5, 2) := by decide +kernel
theorem dX1_least_301 : decode cX1_least 301 = .ok (.iload 10, 2) := by decide +kernel
theorem dX1_least_303 : decode cX1_least 303 = .ok (.isub, 1) := by decide +kernel
theorem dX1_least_304 : decode cX1_least 304 = .ok (.imul, 1) := by decide +kernel
theorem dX1_least_305 : decode cX1_least 305 = .ok (.istore 11, 2) := by decide +kernel
theorem dX1_least_307 : decode cX1_least 307 = .ok (.iload 11, 2) := by decide +kernel
theorem dX1_least_309 : decode cX1_least 309 = .ok (.aload_n 0, 1) := by decide +kernel
theorem dX1_least_310 : decode cX1_least 310 = .ok (.getfield 13, 3) := by decide +kernel
theorem dX1_least_313 : decode cX1_least 313 = .ok (.iload 4, 2) := by decide +kernel
theorem dX1_least_315 : decode cX1_least 315 = .ok (.isub, 1) := by decide +kernel
theorem dX1_least_316 : decode cX1_least 316 = .ok (.iload 10, 2) := by decide +kernel
theorem dX1_least_318 : decode cX1_least 318 = .ok (.isub, 1) := by decide +kernel
theorem dX1_least_319 : decode cX1_least 319 = .ok (.if_icmp .le 15, 3) := by decide +kernel
theorem dX1_least_322 : decode cX1_least 322 = .ok (.aload_n 0, 1) := by decide +kernel
theorem dX1_least_323 : decode cX1_least 323 = .ok (.getfield 13, 3) := by decide +kernel
theorem dX1_least_326 : decode cX1_least 326 = .ok (.iload 4, 2) := by decide +kernel
theorem dX1_least_328 : decode cX1_least 328 = .ok (.isub, 1) := by decide +kernel
theorem dX1_least_329 : decode cX1_least 329 = .ok (.iload 10, 2) := by decide +kernel
theorem dX1_least_331 : decode cX1_least 331 = .ok (.isub, 1) := by decide +kernel
theorem dX1_least_332 : decode cX1_least 332 = .ok (.istore 11, 2) := by decide +kernel
theorem dX1_least_334 : decode cX1_least 334 = .ok (.bipush 17, 2) := by decide +kernel
theorem dX1_least_336 : decode cX1_least 336 = .ok (.iload 4, 2) := by decide +kernel
theorem dX1_least_338 : decode cX1_least 338 = .ok (.iload 10, 2) := by decide +kernel
theorem dX1_least_340 : decode cX1_least 340 = .ok (.iadd, 1) := by decide +kernel
theorem dX1_least_341 : decode cX1_least 341 = .ok (.imul, 1) := by decide +kernel
theorem dX1_least_342 : decode cX1_least 342 = .ok (.iload 11, 2) := by decide +kernel
theorem dX1_least_344 : decode cX1_least 344 = .ok (.iadd, 1) := by decide +kernel
theorem dX1_least_345 : decode cX1_least 345 = .ok (.istore 12, 2) := by decide +kernel
theorem dX1_least_347 : decode cX1_least 347 = .ok (.iload 11, 2) := by decide +kernel
theorem dX1_least_349 : decode cX1_least 349 = .ok (.ifCond .le 43, 3) := by decide +kernel
theorem dX1_least_352 : decode cX1_least 352 = .ok (.aload_n 0, 1) := by decide +kernel
theorem dX1_least_353 : decode cX1_least 353 = .ok (.getfield 24, 3) := by decide +kernel
theorem dX1_least_356 : decode cX1_least 356 = .ok (.iload 12, 2) := by decide +kernel
theorem dX1_least_358 : decode cX1_least 358 = .ok (.laload, 1) := by decide +kernel
theorem dX1_least_359 : decode cX1_least 359 = .ok (.lconst 0, 1) := by decide +kernel
theorem dX1_least_360 : decode cX1_least 360 = .ok (.lcmp, 1) := by decide +kernel
theorem dX1_least_361 : decode cX1_least 361 = .ok (.ifCond .lt 19, 3) := by decide +kernel
theorem dX1_least_364 : decode cX1_least 364 = .ok (.lload 6, 2) := by decide +kernel
theorem dX1_least_366 : decode cX1_least 366 = .ok (.lload 8, 2) := by decide +kernel
theorem dX1_least_368 : decode cX1_least 368 = .ok (.ladd, 1) := by decide +kernel
theorem dX1_least_369 : decode cX1_least 369 = .ok (.aload_n 0, 1) := by decide +kernel
theorem dX1_least_370 : decode cX1_least 370 = .ok (.getfield 24, 3) := by decide +kernel
theorem dX1_least_373 : decode cX1_least 373 = .ok (.iload 12, 2) := by decide +kernel
theorem dX1_least_375 : decode cX1_least 375 = .ok (.laload, 1) := by decide +kernel
theorem dX1_least_376 : decode cX1_least 376 = .ok (.lcmp, 1) := by decide +kernel
theorem dX1_least_377 : decode cX1_least 377 = .ok (.ifCond .ge 15, 3) := by decide +kernel
theorem dX1_least_380 : decode cX1_least 380 = .ok (.aload_n 0, 1) := by decide +kernel
theorem dX1_least_381 : decode cX1_least 381 = .ok (.getfield 24, 3) := by decide +kernel
theorem dX1_least_384 : decode cX1_least 384 = .ok (.iload 12, 2) := by decide +kernel
theorem dX1_least_386 : decode cX1_least 386 = .ok (.lload 6, 2) := by decide +kernel
theorem dX1_least_388 : decode cX1_least 388 = .ok (.lload 8, 2) := by decide +kernel
theorem dX1_least_390 : decode cX1_least 390 = .ok (.ladd, 1) := by decide +kernel
theorem dX1_least_391 : decode cX1_least 391 = .ok (.lastore, 1) := by decide +kernel
theorem dX1_least_392 : decode cX1_least 392 = .ok (.iinc 10 1, 3) := by decide +kernel
theorem dX1_least_395 : decode cX1_least 395 = .ok (.goto (-184), 3) := by decide +kernel
theorem dX1_least_398 : decode cX1_least 398 = .ok (.iinc 5 1, 3) := by decide +kernel
theorem dX1_least_401 : decode cX1_least 401 = .ok (.goto (-225), 3) := by decide +kernel
theorem dX1_least_404 : decode cX1_least 404 = .ok (.iinc 4 1, 3) := by decide +kernel
theorem dX1_least_407 : decode cX1_least 407 = .ok (.goto (-243), 3) := by decide +kernel
theorem dX1_least_410 : decode cX1_least 410 = .ok (.iconst 0, 1) := by decide +kernel
theorem dX1_least_411 : decode cX1_least 411 = .ok (.istore 4, 2) := by decide +kernel
theorem dX1_least_413 : decode cX1_least 413 = .ok (.iload 4, 2) := by decide +kernel
theorem dX1_least_415 : decode cX1_least 415 = .ok (.sipush 289, 3) := by decide +kernel
theorem dX1_least_418 : decode cX1_least 418 = .ok (.if_icmp .ge 23, 3) := by decide +kernel
theorem dX1_least_421 : decode cX1_least 421 = .ok (.aload_n 0, 1) := by decide +kernel
theorem dX1_least_422 : decode cX1_least 422 = .ok (.getfield 20, 3) := by decide +kernel
theorem dX1_least_425 : decode cX1_least 425 = .ok (.iload 4, 2) := by decide +kernel
theorem dX1_least_427 : decode cX1_least 427 = .ok (.aload_n 0, 1) := by decide +kernel
theorem dX1_least_428 : decode cX1_least 428 = .ok (.getfield 24, 3) := by decide +kernel
theorem dX1_least_431 : decode cX1_least 431 = .ok (.iload 4, 2) := by decide +kernel
theorem dX1_least_433 : decode cX1_least 433 = .ok (.laload, 1) := by decide +kernel
theorem dX1_least_434 : decode cX1_least 434 = .ok (.lastore, 1) := by decide +kernel
theorem dX1_least_435 : decode cX1_least 435 = .ok (.iinc 4 1, 3) := by decide +kernel
theorem dX1_least_438 : decode cX1_least 438 = .ok (.goto (-25), 3) := by decide +kernel
theorem dX1_least_441 : decode cX1_least 441 = .ok (.iinc 3 1, 3) := by decide +kernel
theorem dX1_least_444 : decode cX1_least 444 = .ok (.goto (-318), 3) := by decide +kernel
theorem dX1_least_447 : decode cX1_least 447 = .ok (.lload_n 1, 1) := by decide +kernel
theorem dX1_least_448 : decode cX1_least 448 = .ok (.lreturn, 1) := by decide +kernel
theorem dJ9_min_7cf53_0 : decode cJ9_min_7cf53 0 = .ok (.iload_n 0, 1) := by decide +kernel
theorem dJ9_min_7cf53_1 : decode cJ9_min_7cf53 1 = .ok (.iload_n 1, 1) := by decide +kernel
theorem dJ9_min_7cf53_2 : decode cJ9_min_7cf53 2 = .ok (.if_icmp .gt 7, 3) := by decide +kernel
theorem dJ9_min_7cf53_5 : decode cJ9_min_7cf53 5 = .ok (.iload_n 0, 1) := by decide +kernel
theorem dJ9_min_7cf53_6 : decode cJ9_min_7cf53 6 = .ok (.goto 4, 3) := by decide +kernel
theorem dJ9_min_7cf53_9 : decode cJ9_min_7cf53 9 = .ok (.iload_n 1, 1) := by decide +kernel
theorem dJ9_min_7cf53_10 : decode cJ9_min_7cf53 10 = .ok (.ireturn, 1) := by decide +kernel
set_option maxRecDepth 20000 in
theorem ggL_law_X0_init : GoodIn wsL_law wsX0_init := goodIn_r _ [8, 9, 10, 11, 12, 13, 14, 15, 16, 17, 18, 19, 98, 99, 100, 101, 102, 103] (by decide +kernel) (by decide +kernel)
set_option maxRecDepth 20000 in
theorem gL_law_X0_init : GoodIn wsL_law (wsX0_init) := ggL_law_X0_init
set_option maxRecDepth 20000 in
theorem ggL_law_X1_init : GoodIn wsL_law wsX1_init := goodIn_r _ [22, 23, 10, 11, 12, 24, 25, 26, 16, 27, 28, 29, 104, 105, 106, 107, 108, 109] (by decide +kernel) (by decide +kernel)
set_option maxRecDepth 20000 in
theorem gL_law_X1_init : GoodIn wsL_law (wsX1_init) := ggL_law_X1_init
set_option maxRecDepth 20000 in
theorem ggL_law_X0_letters : GoodIn wsL_law wsX0_letters := goodIn_r _ [33, 34, 14, 98, 99, 100, 101, 102, 103] (by decide +kernel) (by decide +kernel)
set_option maxRecDepth 20000 in
theorem gL_law_X0_letters : GoodIn wsL_law (wsV RL 13 RX0 yX0_letters wsX0_letters) := goodIn_app (goodIn_of _ (by decide +kernel)) ggL_law_X0_letters
set_option maxRecDepth 20000 in
theorem ggL_law_X1_letters : GoodIn wsL_law wsX1_letters := goodIn_r _ [38, 39, 25, 104, 105, 106, 107, 108, 109] (by decide +kernel) (by decide +kernel)
set_option maxRecDepth 20000 in
theorem gL_law_X1_letters : GoodIn wsL_law (wsV RL 17 RX1 yX1_letters wsX1_letters) := goodIn_app (goodIn_of _ (by decide +kernel)) ggL_law_X1_letters
set_option maxRecDepth 20000 in
theorem ggL_law_X0_limit : GoodIn wsL_law wsX0_limit := goodIn_r _ [43, 34, 15, 98, 99, 100, 101, 102, 103] (by decide +kernel) (by decide +kernel)
set_option maxRecDepth 20000 in
theorem gL_law_X0_limit : GoodIn wsL_law (wsV RL 18 RX0 yX0_limit wsX0_limit) := goodIn_app (goodIn_of _ (by decide +kernel)) ggL_law_X0_limit
set_option maxRecDepth 20000 in
theorem ggL_law_X1_limit : GoodIn wsL_law wsX1_limit := goodIn_r _ [47, 39, 26, 104, 105, 106, 107, 108, 109] (by decide +kernel) (by decide +kernel)
set_option maxRecDepth 20000 in
theorem gL_law_X1_limit : GoodIn wsL_law (wsV RL 21 RX1 yX1_limit wsX1_limit) := goodIn_app (goodIn_of _ (by decide +kernel)) ggL_law_X1_limit
set_option maxRecDepth 20000 in
theorem ggL_law_X0_weight : GoodIn wsL_law wsX0_weight := goodIn_r _ [51, 52, 53, 54, 2, 55, 13, 34, 98, 99, 100, 101, 102, 103] (by decide +kernel) (by decide +kernel)
set_option maxRecDepth 20000 in
theorem gL_law_X0_weight : GoodIn wsL_law (wsV RL 22 RX0 yX0_weight wsX0_weight) := goodIn_app (goodIn_of _ (by decide +kernel)) ggL_law_X0_weight
set_option maxRecDepth 20000 in
theorem ggL_law_X1_weight : GoodIn wsL_law wsX1_weight := goodIn_r _ [59, 24, 39, 104, 105, 106, 107, 108, 109] (by decide +kernel) (by decide +kernel)
set_option maxRecDepth 20000 in
theorem gL_law_X1_weight : GoodIn wsL_law (wsV RL 26 RX1 yX1_weight wsX1_weight) := goodIn_app (goodIn_of _ (by decide +kernel)) ggL_law_X1_weight
set_option maxRecDepth 20000 in
theorem ggL_law_X0_least : GoodIn wsL_law wsX0_least := goodIn_r _ [63, 15, 14, 64, 65, 66, 67, 2, 68, 13, 69, 70, 71, 72, 17, 73, 74, 75, 76, 19, 77, 78, 79, 80, 18, 81, 82, 83, 84, 85, 86, 87, 88, 89, 90, 91, 92, 98, 99, 100, 101, 102, 103] (by decide +kernel) (by decide +kernel)
set_option maxRecDepth 20000 in
theorem gL_law_X0_least : GoodIn wsL_law (wsV RL 27 RX0 yX0_least wsX0_least) := goodIn_app (goodIn_of _ (by decide +kernel)) ggL_law_X0_least
set_option maxRecDepth 20000 in
theorem ggL_law_X1_least : GoodIn wsL_law wsX1_least := goodIn_r _ [96, 26, 25, 97, 24, 29, 27, 28, 104, 105, 106, 107, 108, 109] (by decide +kernel) (by decide +kernel)
set_option maxRecDepth 20000 in
theorem gL_law_X1_least : GoodIn wsL_law (wsV RL 31 RX1 yX1_least wsX1_least) := goodIn_app (goodIn_of _ (by decide +kernel)) ggL_law_X1_least
theorem dL_law_0 : decode cL_law 0 = .ok (.new 7, 3) := by decide +kernel
theorem dL_law_3 : decode cL_law 3 = .ok (.dup, 1) := by decide +kernel
theorem dL_law_4 : decode cL_law 4 = .ok (.invokespecial 9, 3) := by decide +kernel
theorem dL_law_7 : decode cL_law 7 = .ok (.astore_n 1, 1) := by decide +kernel
theorem dL_law_8 : decode cL_law 8 = .ok (.new 10, 3) := by decide +kernel
theorem dL_law_11 : decode cL_law 11 = .ok (.dup, 1) := by decide +kernel
theorem dL_law_12 : decode cL_law 12 = .ok (.invokespecial 12, 3) := by decide +kernel
theorem dL_law_15 : decode cL_law 15 = .ok (.astore_n 2, 1) := by decide +kernel
theorem dL_law_16 : decode cL_law 16 = .ok (.iconst 0, 1) := by decide +kernel
theorem dL_law_17 : decode cL_law 17 = .ok (.istore_n 3, 1) := by decide +kernel
theorem dL_law_18 : decode cL_law 18 = .ok (.iload_n 3, 1) := by decide +kernel
theorem dL_law_19 : decode cL_law 19 = .ok (.aload_n 0, 1) := by decide +kernel
theorem dL_law_20 : decode cL_law 20 = .ok (.arraylength, 1) := by decide +kernel
theorem dL_law_21 : decode cL_law 21 = .ok (.bipush 6, 2) := by decide +kernel
theorem dL_law_23 : decode cL_law 23 = .ok (.isub, 1) := by decide +kernel
theorem dL_law_24 : decode cL_law 24 = .ok (.if_icmp .gt 163, 3) := by decide +kernel
theorem dL_law_27 : decode cL_law 27 = .ok (.aload_n 0, 1) := by decide +kernel
theorem dL_law_28 : decode cL_law 28 = .ok (.iload_n 3, 1) := by decide +kernel
theorem dL_law_29 : decode cL_law 29 = .ok (.iaload, 1) := by decide +kernel
theorem dL_law_30 : decode cL_law 30 = .ok (.iconst 3, 1) := by decide +kernel
theorem dL_law_31 : decode cL_law 31 = .ok (.iand, 1) := by decide +kernel
theorem dL_law_32 : decode cL_law 32 = .ok (.tableswitch 149 0 3 #[32, 53, 74, 135], 32) := by decide +kernel
theorem dL_law_64 : decode cL_law 64 = .ok (.aload_n 1, 1) := by decide +kernel
theorem dL_law_65 : decode cL_law 65 = .ok (.aload_n 0, 1) := by decide +kernel
theorem dL_law_66 : decode cL_law 66 = .ok (.iload_n 3, 1) := by decide +kernel
theorem dL_law_67 : decode cL_law 67 = .ok (.iconst 1, 1) := by decide +kernel
theorem dL_law_68 : decode cL_law 68 = .ok (.iadd, 1) := by decide +kernel
theorem dL_law_69 : decode cL_law 69 = .ok (.iaload, 1) := by decide +kernel
theorem dL_law_70 : decode cL_law 70 = .ok (.invokevirtual 13, 3) := by decide +kernel
theorem dL_law_73 : decode cL_law 73 = .ok (.aload_n 2, 1) := by decide +kernel
theorem dL_law_74 : decode cL_law 74 = .ok (.aload_n 0, 1) := by decide +kernel
theorem dL_law_75 : decode cL_law 75 = .ok (.iload_n 3, 1) := by decide +kernel
theorem dL_law_76 : decode cL_law 76 = .ok (.iconst 1, 1) := by decide +kernel
theorem dL_law_77 : decode cL_law 77 = .ok (.iadd, 1) := by decide +kernel
theorem dL_law_78 : decode cL_law 78 = .ok (.iaload, 1) := by decide +kernel
theorem dL_law_79 : decode cL_law 79 = .ok (.invokevirtual 17, 3) := by decide +kernel
theorem dL_law_82 : decode cL_law 82 = .ok (.goto 99, 3) := by decide +kernel
theorem dL_law_85 : decode cL_law 85 = .ok (.aload_n 1, 1) := by decide +kernel
theorem dL_law_86 : decode cL_law 86 = .ok (.aload_n 0, 1) := by decide +kernel
theorem dL_law_87 : decode cL_law 87 = .ok (.iload_n 3, 1) := by decide +kernel
theorem dL_law_88 : decode cL_law 88 = .ok (.iconst 1, 1) := by decide +kernel
theorem dL_law_89 : decode cL_law 89 = .ok (.iadd, 1) := by decide +kernel
theorem dL_law_90 : decode cL_law 90 = .ok (.iaload, 1) := by decide +kernel
theorem dL_law_91 : decode cL_law 91 = .ok (.invokevirtual 18, 3) := by decide +kernel
theorem dL_law_94 : decode cL_law 94 = .ok (.aload_n 2, 1) := by decide +kernel
theorem dL_law_95 : decode cL_law 95 = .ok (.aload_n 0, 1) := by decide +kernel
theorem dL_law_96 : decode cL_law 96 = .ok (.iload_n 3, 1) := by decide +kernel
theorem dL_law_97 : decode cL_law 97 = .ok (.iconst 1, 1) := by decide +kernel
theorem dL_law_98 : decode cL_law 98 = .ok (.iadd, 1) := by decide +kernel
theorem dL_law_99 : decode cL_law 99 = .ok (.iaload, 1) := by decide +kernel
theorem dL_law_100 : decode cL_law 100 = .ok (.invokevirtual 21, 3) := by decide +kernel
theorem dL_law_103 : decode cL_law 103 = .ok (.goto 78, 3) := by decide +kernel
theorem dL_law_106 : decode cL_law 106 = .ok (.aload_n 1, 1) := by decide +kernel
theorem dL_law_107 : decode cL_law 107 = .ok (.aload_n 0, 1) := by decide +kernel
theorem dL_law_108 : decode cL_law 108 = .ok (.iload_n 3, 1) := by decide +kernel
theorem dL_law_109 : decode cL_law 109 = .ok (.iconst 1, 1) := by decide +kernel
theorem dL_law_110 : decode cL_law 110 = .ok (.iadd, 1) := by decide +kernel
theorem dL_law_111 : decode cL_law 111 = .ok (.iaload, 1) := by decide +kernel
theorem dL_law_112 : decode cL_law 112 = .ok (.aload_n 0, 1) := by decide +kernel
theorem dL_law_113 : decode cL_law 113 = .ok (.iload_n 3, 1) := by decide +kernel
theorem dL_law_114 : decode cL_law 114 = .ok (.iconst 2, 1) := by decide +kernel
theorem dL_law_115 : decode cL_law 115 = .ok (.iadd, 1) := by decide +kernel
theorem dL_law_116 : decode cL_law 116 = .ok (.iaload, 1) := by decide +kernel
theorem dL_law_117 : decode cL_law 117 = .ok (.aload_n 0, 1) := by decide +kernel
theorem dL_law_118 : decode cL_law 118 = .ok (.iload_n 3, 1) := by decide +kernel
theorem dL_law_119 : decode cL_law 119 = .ok (.iconst 3, 1) := by decide +kernel
theorem dL_law_120 : decode cL_law 120 = .ok (.iadd, 1) := by decide +kernel
theorem dL_law_121 : decode cL_law 121 = .ok (.iaload, 1) := by decide +kernel
theorem dL_law_122 : decode cL_law 122 = .ok (.aload_n 0, 1) := by decide +kernel
theorem dL_law_123 : decode cL_law 123 = .ok (.iload_n 3, 1) := by decide +kernel
theorem dL_law_124 : decode cL_law 124 = .ok (.iconst 4, 1) := by decide +kernel
theorem dL_law_125 : decode cL_law 125 = .ok (.iadd, 1) := by decide +kernel
theorem dL_law_126 : decode cL_law 126 = .ok (.iaload, 1) := by decide +kernel
theorem dL_law_127 : decode cL_law 127 = .ok (.aload_n 0, 1) := by decide +kernel
theorem dL_law_128 : decode cL_law 128 = .ok (.iload_n 3, 1) := by decide +kernel
theorem dL_law_129 : decode cL_law 129 = .ok (.iconst 5, 1) := by decide +kernel
theorem dL_law_130 : decode cL_law 130 = .ok (.iadd, 1) := by decide +kernel
theorem dL_law_131 : decode cL_law 131 = .ok (.iaload, 1) := by decide +kernel
theorem dL_law_132 : decode cL_law 132 = .ok (.invokevirtual 22, 3) := by decide +kernel
theorem dL_law_135 : decode cL_law 135 = .ok (.aload_n 2, 1) := by decide +kernel
theorem dL_law_136 : decode cL_law 136 = .ok (.aload_n 0, 1) := by decide +kernel
theorem dL_law_137 : decode cL_law 137 = .ok (.iload_n 3, 1) := by decide +kernel
theorem dL_law_138 : decode cL_law 138 = .ok (.iconst 1, 1) := by decide +kernel
theorem dL_law_139 : decode cL_law 139 = .ok (.iadd, 1) := by decide +kernel
theorem dL_law_140 : decode cL_law 140 = .ok (.iaload, 1) := by decide +kernel
theorem dL_law_141 : decode cL_law 141 = .ok (.aload_n 0, 1) := by decide +kernel
theorem dL_law_142 : decode cL_law 142 = .ok (.iload_n 3, 1) := by decide +kernel
theorem dL_law_143 : decode cL_law 143 = .ok (.iconst 2, 1) := by decide +kernel
theorem dL_law_144 : decode cL_law 144 = .ok (.iadd, 1) := by decide +kernel
theorem dL_law_145 : decode cL_law 145 = .ok (.iaload, 1) := by decide +kernel
theorem dL_law_146 : decode cL_law 146 = .ok (.aload_n 0, 1) := by decide +kernel
theorem dL_law_147 : decode cL_law 147 = .ok (.iload_n 3, 1) := by decide +kernel
theorem dL_law_148 : decode cL_law 148 = .ok (.iconst 3, 1) := by decide +kernel
theorem dL_law_149 : decode cL_law 149 = .ok (.iadd, 1) := by decide +kernel
theorem dL_law_150 : decode cL_law 150 = .ok (.iaload, 1) := by decide +kernel
theorem dL_law_151 : decode cL_law 151 = .ok (.aload_n 0, 1) := by decide +kernel
theorem dL_law_152 : decode cL_law 152 = .ok (.iload_n 3, 1) := by decide +kernel
theorem dL_law_153 : decode cL_law 153 = .ok (.iconst 4, 1) := by decide +kernel
theorem dL_law_154 : decode cL_law 154 = .ok (.iadd, 1) := by decide +kernel
theorem dL_law_155 : decode cL_law 155 = .ok (.iaload, 1) := by decide +kernel
theorem dL_law_156 : decode cL_law 156 = .ok (.aload_n 0, 1) := by decide +kernel
theorem dL_law_157 : decode cL_law 157 = .ok (.iload_n 3, 1) := by decide +kernel
theorem dL_law_158 : decode cL_law 158 = .ok (.iconst 5, 1) := by decide +kernel
theorem dL_law_159 : decode cL_law 159 = .ok (.iadd, 1) := by decide +kernel
theorem dL_law_160 : decode cL_law 160 = .ok (.iaload, 1) := by decide +kernel
theorem dL_law_161 : decode cL_law 161 = .ok (.invokevirtual 26, 3) := by decide +kernel
theorem dL_law_164 : decode cL_law 164 = .ok (.goto 17, 3) := by decide +kernel
theorem dL_law_167 : decode cL_law 167 = .ok (.aload_n 1, 1) := by decide +kernel
theorem dL_law_168 : decode cL_law 168 = .ok (.invokevirtual 27, 3) := by decide +kernel
theorem dL_law_171 : decode cL_law 171 = .ok (.aload_n 2, 1) := by decide +kernel
theorem dL_law_172 : decode cL_law 172 = .ok (.invokevirtual 31, 3) := by decide +kernel
theorem dL_law_175 : decode cL_law 175 = .ok (.lcmp, 1) := by decide +kernel
theorem dL_law_176 : decode cL_law 176 = .ok (.ifCond .eq 5, 3) := by decide +kernel
theorem dL_law_179 : decode cL_law 179 = .ok (.iconst 0, 1) := by decide +kernel
theorem dL_law_180 : decode cL_law 180 = .ok (.ireturn, 1) := by decide +kernel
theorem dL_law_181 : decode cL_law 181 = .ok (.iinc 3 6, 3) := by decide +kernel
theorem dL_law_184 : decode cL_law 184 = .ok (.goto (-166), 3) := by decide +kernel
theorem dL_law_187 : decode cL_law 187 = .ok (.iconst 1, 1) := by decide +kernel
theorem dL_law_188 : decode cL_law 188 = .ok (.ireturn, 1) := by decide +kernel
abbrev vwCl : List vw_C := [(RX0, TX0, 6), (RX1, TX1, 6)]
end
section
/-! PURE MATHEMATICS over Nat: rows, level sequences, package-merge's rows, the depth-by-depth table -/
section
/-- the sum of f over [0, m) -/
def tc_sum (f : Nat → Nat) : Nat → Nat
  | 0 => 0
  | m + 1 => tc_sum f m + f m
/-- what a sequence of counts costs: for each depth the sum of that many lightest weights -/
def tc_cost (f : Nat → Nat) : List Nat → Nat
  | [] => 0
  | a :: as => tc_sum f a + tc_cost f as
/-- the sequence takes up m coins of the topmost depth -/
def tc_need : Nat → List Nat → Prop
  | m, [] => m = 0
  | m, a :: as => tc_need (2 * (m - a)) as
def tc_all (n : Nat) : List Nat → Prop
  | [] => True
  | a :: as => a ≤ n ∧ tc_all n as
def tc_desc : Nat → List Nat → Prop
  | _, [] => True
  | r, a :: as => a ≤ r ∧ tc_desc a as
def tc_cnt (n : Nat) : Nat → Nat
  | 0 => 0
  | t + 1 => n + tc_cnt n t / 2
def tc_asc (f : Nat → Nat) (m : Nat) : Prop := ∀ i j, i ≤ j → j < m → f i ≤ f j
def tc_dsc (f : Nat → Nat) (m : Nat) : Prop := ∀ i j, i ≤ j → j < m → f j ≤ f i
def tc_up (f : Nat → Nat) (k x : Nat) : Nat → Nat := fun j => if j = k then x else f j
theorem tc_sum_congr {f g : Nat → Nat} : ∀ {m : Nat}, (∀ i, i < m → f i = g i) → tc_sum f m = tc_sum g m
  | 0, _ => rfl
  | m + 1, h => by
    have h1 := tc_sum_congr (f := f) (g := g) (m := m) (fun i hi => h i (by omega))
    have h2 := h m (by omega)
    show tc_sum f m + f m = tc_sum g m + g m
    omega
theorem tc_sum_mono (f : Nat → Nat) {a : Nat} : ∀ {b : Nat}, a ≤ b → tc_sum f a ≤ tc_sum f b
  | 0, h => by
    have : a = 0 := by omega
    subst this; exact Nat.le_refl _
  | b + 1, h => by
    by_cases hb : a = b + 1
    · subst hb; exact Nat.le_refl _
    · have h1 := tc_sum_mono f (a := a) (b := b) (by omega)
      show tc_sum f a ≤ tc_sum f b + f b
      omega
theorem tc_sum_le (f : Nat → Nat) (M : Nat) : ∀ (m : Nat), (∀ i, i < m → f i ≤ M) → tc_sum f m ≤ m * M
  | 0, _ => Nat.zero_le _
  | m + 1, h => by
    have h1 := tc_sum_le f M m (fun i hi => h i (by omega))
    have h2 := h m (by omega)
    show tc_sum f m + f m ≤ (m + 1) * M
    rw [Nat.succ_mul]
    omega
theorem tc_cost_app (f : Nat → Nat) : ∀ (as bs : List Nat), tc_cost f (as ++ bs) = tc_cost f as + tc_cost f bs
  | [], bs => by simp [tc_cost]
  | a :: as, bs => by
    have h := tc_cost_app f as bs
    show tc_sum f a + tc_cost f (as ++ bs) = tc_sum f a + tc_cost f as + tc_cost f bs
    omega
theorem tc_all_app {n : Nat} : ∀ {as bs : List Nat}, tc_all n as → tc_all n bs → tc_all n (as ++ bs)
  | [], _, _, hb => hb
  | _ :: _, _, ha, hb => ⟨ha.1, tc_all_app ha.2 hb⟩
theorem tc_all_w {n n' : Nat} (h : n ≤ n') : ∀ {as : List Nat}, tc_all n as → tc_all n' as
  | [], _ => trivial
  | _ :: _, ha => ⟨Nat.le_trans ha.1 h, tc_all_w h ha.2⟩
theorem tc_desc_all : ∀ {as : List Nat} {r : Nat}, tc_desc r as → tc_all r as
  | [], _, _ => trivial
  | a :: as, r, h => ⟨h.1, tc_all_w h.1 (tc_desc_all h.2)⟩
theorem tc_need_mono : ∀ {as : List Nat} {m m' : Nat}, m' ≤ m → tc_need m as → tc_need m' as
  | [], m, m', h, hn => by
    have hn : m = 0 := hn
    show m' = 0
    omega
  | a :: as, m, m', h, hn => tc_need_mono (as := as) (m := 2 * (m - a)) (by omega) hn
theorem tc_need_zero : ∀ (k : Nat), tc_need 0 (List.replicate k 0)
  | 0 => rfl
  | k + 1 => by
    show tc_need (2 * (0 - 0)) (List.replicate k 0)
    exact tc_need_zero k
theorem tc_cost_zero (f : Nat → Nat) : ∀ (k : Nat), tc_cost f (List.replicate k 0) = 0
  | 0 => rfl
  | k + 1 => by
    show 0 + tc_cost f (List.replicate k 0) = 0
    rw [tc_cost_zero f k]
theorem tc_all_zero (n : Nat) : ∀ (k : Nat), tc_all n (List.replicate k 0)
  | 0 => trivial
  | k + 1 => ⟨Nat.zero_le _, tc_all_zero n k⟩
/-- sequences whose counts are at most a never take up 2a coins or more -/
theorem tc_need_no {a : Nat} : ∀ {as : List Nat} {m : Nat}, tc_all a as → 2 * a ≤ m → 0 < m → ¬ tc_need m as
  | [], m, _, _, h0, hn => by
    have hn : m = 0 := hn
    omega
  | b :: bs, m, hall, h2, h0, hn => by
    have hb : b ≤ a := hall.1
    exact tc_need_no (as := bs) (m := 2 * (m - b)) hall.2 (by omega) (by omega) hn
/-- what can be taken up at all -/
theorem tc_need_cnt {n : Nat} : ∀ {as : List Nat} {m : Nat}, tc_all n as → tc_need m as → m ≤ tc_cnt n as.length
  | [], m, _, hn => by
    have hn : m = 0 := hn
    omega
  | a :: as, m, hall, hn => by
    have h1 : 2 * (m - a) ≤ tc_cnt n as.length := tc_need_cnt (as := as) hall.2 hn
    have ha : a ≤ n := hall.1
    show m ≤ n + tc_cnt n as.length / 2
    omega
theorem tc_cnt_lt {n : Nat} (hn : 0 < n) : ∀ t, tc_cnt n t < 2 * n
  | 0 => by show 0 < 2 * n; omega
  | t + 1 => by
    have h := tc_cnt_lt hn t
    show n + tc_cnt n t / 2 < 2 * n
    omega
theorem tc_cnt_room {n : Nat} : ∀ (t k : Nat), 2 * n ≤ k * 2 ^ t → 2 * n ≤ tc_cnt n t + k
  | 0, k, h => by
    have h : 2 * n ≤ k := by simpa using h
    show 2 * n ≤ 0 + k
    omega
  | t + 1, k, h => by
    have h1 := tc_cnt_room t (2 * k) (by
      have e : 2 * k * 2 ^ t = k * 2 ^ (t + 1) := by
        rw [Nat.pow_succ, Nat.mul_comm 2 k, Nat.mul_assoc, Nat.mul_comm 2 (2 ^ t)]
      rw [e]; exact h)
    show 2 * n ≤ n + tc_cnt n t / 2 + k
    omega
/-! sorting a sequence so that it falls -/
theorem tc_ins_seq (s : Nat → Nat) : ∀ (bs : List Nat) (r a : Nat), tc_desc r bs → a ≤ r → ∃ cs : List Nat, cs.length = bs.length + 1 ∧ tc_desc r cs ∧ tc_cost s cs = tc_sum s a + tc_cost s bs ∧ ∀ m, tc_need m (a :: bs) → tc_need m cs
  | [], r, a, _, ha => ⟨[a], rfl, ⟨ha, trivial⟩, rfl, fun _ h => h⟩
  | b :: bs, r, a, hd, ha => by
    by_cases h : b ≤ a
    · exact ⟨a :: b :: bs, rfl, ⟨ha, h, hd.2⟩, rfl, fun _ h => h⟩
    · obtain ⟨cs, h1, h2, h3, h4⟩ := tc_ins_seq s bs b a hd.2 (by omega)
      refine ⟨b :: cs, by simp [h1], ⟨hd.1, h2⟩, ?_, fun m hm => ?_⟩
      · show tc_sum s b + tc_cost s cs = tc_sum s a + (tc_sum s b + tc_cost s bs)
        omega
      · show tc_need (2 * (m - b)) cs
        refine h4 _ ?_
        show tc_need (2 * (2 * (m - b) - a)) bs
        have hm : tc_need (2 * (2 * (m - a) - b)) bs := hm
        exact tc_need_mono (by omega) hm
theorem tc_sort_seq (s : Nat → Nat) (n : Nat) : ∀ (as : List Nat), tc_all n as → ∃ bs : List Nat, bs.length = as.length ∧ tc_desc n bs ∧ tc_cost s bs = tc_cost s as ∧ ∀ m, tc_need m as → tc_need m bs
  | [], _ => ⟨[], rfl, trivial, rfl, fun _ h => h⟩
  | a :: as, h => by
    obtain ⟨bs, h1, h2, h3, h4⟩ := tc_sort_seq s n as h.2
    obtain ⟨cs, g1, g2, g3, g4⟩ := tc_ins_seq s bs n a h2 h.1
    refine ⟨cs, by simp [g1, h1], g2, ?_, fun m hm => g4 m (h4 _ hm)⟩
    show tc_cost s cs = tc_sum s a + tc_cost s as
    omega
/-! package-merge's rows -/
/-- a row of the level t: it rises, and each sum of its first m coins is the least cost of a sequence that takes up m -/
def tc_lev (s : Nat → Nat) (n t : Nat) (C : Nat → Nat) : Prop :=
  tc_asc C (tc_cnt n t) ∧
  (∀ m, m ≤ tc_cnt n t → ∃ as : List Nat, as.length = t ∧ tc_all n as ∧ tc_need m as ∧ tc_sum C m = tc_cost s as) ∧
  (∀ m (as : List Nat), m ≤ tc_cnt n t → as.length = t → tc_all n as → tc_need m as → tc_sum C m ≤ tc_cost s as)
theorem tc_lev_0 (s : Nat → Nat) (n : Nat) (C : Nat → Nat) : tc_lev s n 0 C := by
  refine ⟨fun i j _ hj => absurd hj (Nat.not_lt_zero _), fun m hm => ?_, fun m as hm _ _ _ => ?_⟩
  · have hm : m ≤ 0 := hm
    have : m = 0 := by omega
    subst this
    exact ⟨[], rfl, trivial, rfl, rfl⟩
  · have hm : m ≤ 0 := hm
    have : m = 0 := by omega
    subst this
    exact Nat.zero_le _
/-- what is taken of two rising rows is no dearer than what is left -/
def tc_ok (s B : Nat → Nat) (n q x y : Nat) : Prop := (0 < x → y < q → s (x - 1) ≤ B y) ∧ (0 < y → x < n → B (y - 1) ≤ s x)
theorem tc_ok_sym {s B : Nat → Nat} {n q x y : Nat} (h : tc_ok s B n q x y) : tc_ok B s q n y x := ⟨h.2, h.1⟩
theorem tc_min_up {s B : Nat → Nat} {n q x y : Nat} (hs : tc_asc s n) (hB : tc_asc B q) (hok : tc_ok s B n q x y) (hy : y ≤ q) : ∀ k, k ≤ y → x + k ≤ n → tc_sum s x + tc_sum B y ≤ tc_sum s (x + k) + tc_sum B (y - k)
  | 0, _, _ => Nat.le_refl _
  | k + 1, hk, hx => by
    have h1 := tc_min_up hs hB hok hy k (by omega) (by omega)
    have h2 : B (y - 1) ≤ s x := hok.2 (by omega) (by omega)
    have h3 : s x ≤ s (x + k) := hs x (x + k) (by omega) (by omega)
    have h4 : B (y - k - 1) ≤ B (y - 1) := hB _ _ (by omega) (by omega)
    have e1 : tc_sum s (x + (k + 1)) = tc_sum s (x + k) + s (x + k) := rfl
    have e2 : tc_sum B (y - k) = tc_sum B (y - k - 1) + B (y - k - 1) := by
      have : y - k = (y - k - 1) + 1 := by omega
      rw [this]; rfl
    have e3 : y - (k + 1) = y - k - 1 := by omega
    rw [e1, e3]
    omega
theorem tc_min {s B : Nat → Nat} {n q x y x' y' : Nat} (hs : tc_asc s n) (hB : tc_asc B q) (hok : tc_ok s B n q x y) (hx : x ≤ n) (hy : y ≤ q) (he : x' + y' = x + y) (hx' : x' ≤ n) (hy' : y' ≤ q) : tc_sum s x + tc_sum B y ≤ tc_sum s x' + tc_sum B y' := by
  by_cases h : x ≤ x'
  · have h1 := tc_min_up hs hB hok hy (x' - x) (by omega) (by omega)
    have e1 : x + (x' - x) = x' := by omega
    have e2 : y - (x' - x) = y' := by omega
    rw [e1, e2] at h1
    exact h1
  · have h1 := tc_min_up hB hs (tc_ok_sym hok) hx (x - x') (by omega) (by omega)
    have e1 : y + (x - x') = y' := by omega
    have e2 : x - (x - x') = x' := by omega
    rw [e1, e2] at h1
    omega
/-- the merge at its i-th coin -/
def tc_mi (s B : Nat → Nat) (n q i x y : Nat) (C : Nat → Nat) : Prop :=
  x + y = i ∧ x ≤ n ∧ y ≤ q ∧ tc_ok s B n q x y ∧ tc_asc C i ∧ (0 < i → x < n → C (i - 1) ≤ s x) ∧ (0 < i → y < q → C (i - 1) ≤ B y) ∧
  ∀ m, m ≤ i → ∃ x' y', x' + y' = m ∧ x' ≤ n ∧ y' ≤ q ∧ tc_ok s B n q x' y' ∧ tc_sum C m = tc_sum s x' + tc_sum B y' ∧ (m = i → x' = x ∧ y' = y)
theorem tc_mi_0 (s B : Nat → Nat) (n q : Nat) (C : Nat → Nat) : tc_mi s B n q 0 0 0 C := by
  refine ⟨rfl, Nat.zero_le _, Nat.zero_le _, ⟨fun h => by omega, fun h => by omega⟩, fun i j _ hj => by omega, fun h => by omega, fun h => by omega, fun m hm => ?_⟩
  have : m = 0 := by omega
  subst this
  exact ⟨0, 0, rfl, Nat.zero_le _, Nat.zero_le _, ⟨fun h => by omega, fun h => by omega⟩, rfl, fun _ => ⟨rfl, rfl⟩⟩
theorem tc_up_at (f : Nat → Nat) (k x : Nat) : tc_up f k x k = x := by simp [tc_up]
theorem tc_up_ne (f : Nat → Nat) {k j : Nat} (x : Nat) (h : j ≠ k) : tc_up f k x j = f j := by simp [tc_up, h]
theorem tc_sum_up (f : Nat → Nat) (k x : Nat) {m : Nat} (h : m ≤ k) : tc_sum (tc_up f k x) m = tc_sum f m := tc_sum_congr (fun i hi => tc_up_ne f x (by omega))
theorem tc_asc_up {C : Nat → Nat} {i z : Nat} (h : tc_asc C i) (hl : 0 < i → C (i - 1) ≤ z) : tc_asc (tc_up C i z) (i + 1) := by
  intro a b hab hb
  by_cases hbi : b = i
  · subst hbi
    rw [tc_up_at]
    by_cases hai : a = b
    · subst hai; rw [tc_up_at]; exact Nat.le_refl _
    · rw [tc_up_ne _ _ hai]
      exact Nat.le_trans (h a (b - 1) (by omega) (by omega)) (hl (by omega))
  · rw [tc_up_ne _ _ hbi, tc_up_ne _ _ (by omega)]
    exact h a b hab (by omega)
theorem tc_mi_l {s B : Nat → Nat} {n q i x y : Nat} {C : Nat → Nat} (hs : tc_asc s n) (h : tc_mi s B n q i x y C) (hx : x < n) (hle : y < q → s x ≤ B y) : tc_mi s B n q (i + 1) (x + 1) y (tc_up C i (s x)) := by
  obtain ⟨h1, h2, h3, h4, h5, h6, h7, h8⟩ := h
  have hok : tc_ok s B n q (x + 1) y := ⟨fun _ hy => hle hy, fun hy hx1 => Nat.le_trans (h4.2 hy hx) (hs x (x + 1) (by omega) hx1)⟩
  refine ⟨by omega, hx, h3, hok, tc_asc_up h5 (fun h0 => h6 h0 hx), fun _ hx1 => ?_, fun _ hy => ?_, fun m hm => ?_⟩
  · show tc_up C i (s x) i ≤ _
    rw [tc_up_at]; exact hs x (x + 1) (by omega) hx1
  · show tc_up C i (s x) i ≤ _
    rw [tc_up_at]; exact hle hy
  · by_cases hmi : m = i + 1
    · subst hmi
      obtain ⟨x', y', g1, g2, g3, g4, g5, g6⟩ := h8 i (Nat.le_refl _)
      obtain ⟨rfl, rfl⟩ := g6 rfl
      refine ⟨x' + 1, y', by omega, hx, h3, hok, ?_, fun _ => ⟨rfl, rfl⟩⟩
      show tc_sum (tc_up C i (s x')) i + tc_up C i (s x') i = tc_sum s x' + s x' + tc_sum B y'
      rw [tc_sum_up _ _ _ (Nat.le_refl _), tc_up_at]
      omega
    · obtain ⟨x', y', g1, g2, g3, g4, g5, g6⟩ := h8 m (by omega)
      exact ⟨x', y', g1, g2, g3, g4, by rw [tc_sum_up _ _ _ (by omega)]; exact g5, fun h => absurd h hmi⟩
theorem tc_mi_r {s B : Nat → Nat} {n q i x y : Nat} {C : Nat → Nat} (hB : tc_asc B q) (h : tc_mi s B n q i x y C) (hy : y < q) (hle : x < n → B y ≤ s x) : tc_mi s B n q (i + 1) x (y + 1) (tc_up C i (B y)) := by
  obtain ⟨h1, h2, h3, h4, h5, h6, h7, h8⟩ := h
  have hok : tc_ok s B n q x (y + 1) := ⟨fun hx hy1 => Nat.le_trans (h4.1 hx hy) (hB y (y + 1) (by omega) hy1), fun _ hx => hle hx⟩
  refine ⟨by omega, h2, hy, hok, tc_asc_up h5 (fun h0 => h7 h0 hy), fun _ hx => ?_, fun _ hy1 => ?_, fun m hm => ?_⟩
  · show tc_up C i (B y) i ≤ _
    rw [tc_up_at]; exact hle hx
  · show tc_up C i (B y) i ≤ _
    rw [tc_up_at]; exact hB y (y + 1) (by omega) hy1
  · by_cases hmi : m = i + 1
    · subst hmi
      obtain ⟨x', y', g1, g2, g3, g4, g5, g6⟩ := h8 i (Nat.le_refl _)
      obtain ⟨rfl, rfl⟩ := g6 rfl
      refine ⟨x', y' + 1, by omega, h2, hy, hok, ?_, fun _ => ⟨rfl, rfl⟩⟩
      show tc_sum (tc_up C i (B y')) i + tc_up C i (B y') i = tc_sum s x' + (tc_sum B y' + B y')
      rw [tc_sum_up _ _ _ (Nat.le_refl _), tc_up_at]
      omega
    · obtain ⟨x', y', g1, g2, g3, g4, g5, g6⟩ := h8 m (by omega)
      exact ⟨x', y', g1, g2, g3, g4, by rw [tc_sum_up _ _ _ (by omega)]; exact g5, fun h => absurd h hmi⟩
/-- the pairs of a row -/
def tc_pr (C : Nat → Nat) : Nat → Nat := fun i => C (2 * i) + C (2 * i + 1)
theorem tc_pr_sum (C : Nat → Nat) : ∀ y, tc_sum (tc_pr C) y = tc_sum C (2 * y)
  | 0 => rfl
  | y + 1 => by
    have h := tc_pr_sum C y
    show tc_sum (tc_pr C) y + (C (2 * y) + C (2 * y + 1)) = tc_sum C (2 * y) + C (2 * y) + C (2 * y + 1)
    omega
theorem tc_pr_asc {C : Nat → Nat} {m q : Nat} (h : tc_asc C m) (hq : 2 * q ≤ m) : tc_asc (tc_pr C) q := by
  intro i j hij hj
  have h1 := h (2 * i) (2 * j) (by omega) (by omega)
  have h2 := h (2 * i + 1) (2 * j + 1) (by omega) (by omega)
  show C (2 * i) + C (2 * i + 1) ≤ C (2 * j) + C (2 * j + 1)
  omega
theorem tc_lev_s {s C C' : Nat → Nat} {n t x y : Nat} (hs : tc_asc s n) (hC : tc_lev s n t C) (h : tc_mi s (tc_pr C) n (tc_cnt n t / 2) (tc_cnt n (t + 1)) x y C') : tc_lev s n (t + 1) C' := by
  obtain ⟨c1, c2, c3⟩ := hC
  obtain ⟨-, -, -, -, h5, -, -, h8⟩ := h
  have hB : tc_asc (tc_pr C) (tc_cnt n t / 2) := tc_pr_asc c1 (by omega)
  refine ⟨h5, fun m hm => ?_, fun m as hm hlen hall hn => ?_⟩
  · obtain ⟨x', y', g1, g2, g3, g4, g5, -⟩ := h8 m hm
    obtain ⟨as, a1, a2, a3, a4⟩ := c2 (2 * y') (by omega)
    refine ⟨x' :: as, by simp [a1], ⟨g2, a2⟩, ?_, ?_⟩
    · show tc_need (2 * (m - x')) as
      have e : 2 * (m - x') = 2 * y' := by omega
      rw [e]; exact a3
    · rw [g5, tc_pr_sum, a4]; rfl
  · obtain ⟨x', y', g1, g2, g3, g4, g5, -⟩ := h8 m hm
    cases as with
    | nil => simp at hlen
    | cons a as =>
      have hlen : as.length = t := by simpa using hlen
      have ha : a ≤ n := hall.1
      have hn : tc_need (2 * (m - a)) as := hn
      have hcap := tc_need_cnt hall.2 hn
      rw [hlen] at hcap
      rw [g5]
      show _ ≤ tc_sum s a + tc_cost s as
      by_cases hma : m ≤ a
      · have h1 := tc_min hs hB g4 g2 g3 (x' := m) (y' := 0) (by omega) (by omega) (by omega)
        have h2 := tc_sum_mono s hma
        have e0 : tc_sum (tc_pr C) 0 = 0 := rfl
        omega
      · have h1 := tc_min hs hB g4 g2 g3 (x' := a) (y' := m - a) (by omega) ha (by omega)
        have h2 := c3 (2 * (m - a)) as hcap hlen hall.2 hn
        rw [tc_pr_sum C (m - a)] at h1
        omega
end
end
section
/-! PURE MATHEMATICS, second part: the depth-by-depth table, that both values are one, rows sorted by insertion -/
section
/-- the sum of v over [j, j + a) -/
def tc_hv (v : Nat → Nat) (j : Nat) : Nat → Nat
  | 0 => 0
  | a + 1 => tc_hv v j a + v (j + a)
/-- at depth d the table holds: j letters have their codes, k places are open, it has cost c -/
def tc_rch (v : Nat → Nat) (n : Nat) : Nat → Nat → Nat → Nat → Prop
  | 0, j, k, c => j = 0 ∧ k = 1 ∧ c = 0
  | d + 1, j, k, c => ∃ j0 k0 a c0, tc_rch v n d j0 k0 c0 ∧ j0 ≤ n ∧ k0 ≤ 16 ∧ a ≤ k0 ∧ j = j0 + a ∧ j < n ∧ k = min (2 * (k0 - a)) (n - j) ∧ 0 < k ∧ c = c0 + tc_hv v j0 a * d
/-- at depth d the last letters get their codes -/
def tc_fin (v : Nat → Nat) (n d c : Nat) : Prop := ∃ j k a c0, tc_rch v n d j k c0 ∧ j ≤ n ∧ k ≤ 16 ∧ a ≤ k ∧ j + a = n ∧ c = c0 + tc_hv v j a * d
theorem tc_hv_sum {s v : Nat → Nat} {n : Nat} (hv : ∀ i, i < n → v i = s (n - 1 - i)) : ∀ (j a : Nat), j + a ≤ n → tc_hv v j a + tc_sum s (n - (j + a)) = tc_sum s (n - j)
  | j, 0, _ => by
    show 0 + tc_sum s (n - (j + 0)) = _
    rw [Nat.add_zero, Nat.zero_add]
  | j, a + 1, h => by
    have h1 := tc_hv_sum hv j a (by omega)
    have e : n - (j + a) = (n - (j + (a + 1))) + 1 := by omega
    rw [e] at h1
    have h2 := hv (j + a) (by omega)
    have e2 : n - 1 - (j + a) = n - (j + (a + 1)) := by omega
    rw [e2] at h2
    have e3 : tc_sum s (n - (j + (a + 1)) + 1) = tc_sum s (n - (j + (a + 1))) + s (n - (j + (a + 1))) := rfl
    rw [e3] at h1
    show tc_hv v j a + v (j + a) + tc_sum s (n - (j + (a + 1))) = _
    omega
theorem tc_hv_le {v : Nat → Nat} {n M : Nat} (hv : ∀ i, i < n → v i ≤ M) : ∀ (j a : Nat), j + a ≤ n → tc_hv v j a ≤ a * M
  | _, 0, _ => Nat.zero_le _
  | j, a + 1, h => by
    have h1 := tc_hv_le hv j a (by omega)
    have h2 := hv (j + a) (by omega)
    show tc_hv v j a + v (j + a) ≤ (a + 1) * M
    rw [Nat.succ_mul]; omega
theorem tc_rch_j {v : Nat → Nat} {n : Nat} (hn : 0 < n) : ∀ {d j k c : Nat}, tc_rch v n d j k c → j < n ∧ 0 < k ∧ (k ≤ n - j)
  | 0, j, k, c, h => by
    obtain ⟨rfl, rfl, rfl⟩ := h
    omega
  | d + 1, j, k, c, h => by
    obtain ⟨j0, k0, a, c0, -, -, -, -, -, h1, h2, h3, -⟩ := h
    omega
theorem tc_rch_le {v : Nat → Nat} {n M D : Nat} (hv : ∀ i, i < n → v i ≤ M) : ∀ {d j k c : Nat}, d ≤ D + 1 → tc_rch v n d j k c → c ≤ j * (M * D)
  | 0, j, k, c, _, h => by
    obtain ⟨rfl, rfl, rfl⟩ := h
    exact Nat.zero_le _
  | d + 1, j, k, c, hd, h => by
    obtain ⟨j0, k0, a, c0, h0, -, -, -, rfl, h1, -, -, rfl⟩ := h
    have g1 := tc_rch_le hv (D := D) (by omega) h0
    have g2 := tc_hv_le hv j0 a (by omega)
    have g3 : tc_hv v j0 a * d ≤ a * M * D := Nat.mul_le_mul g2 (by omega)
    have e : (j0 + a) * (M * D) = j0 * (M * D) + a * M * D := by rw [Nat.add_mul, Nat.mul_assoc a M D]
    omega
/-- a way through the table is a sequence -/
theorem tc_path {s v : Nat → Nat} {n : Nat} (hv : ∀ i, i < n → v i = s (n - 1 - i)) : ∀ {d j k c : Nat}, tc_rch v n d j k c → ∃ bs : List Nat, bs.length = d ∧ tc_all n bs ∧ (∀ rest, tc_need (2 * (n - j - k)) rest → tc_need (2 * n - 2) (bs ++ rest)) ∧ c + d * tc_sum s (n - j) = tc_cost s bs
  | 0, j, k, c, h => by
    obtain ⟨rfl, rfl, rfl⟩ := h
    refine ⟨[], rfl, trivial, fun rest hr => ?_, by simp [tc_cost]⟩
    have e : 2 * (n - 0 - 1) = 2 * n - 2 := by omega
    rw [e] at hr
    exact hr
  | d + 1, j, k, c, h => by
    obtain ⟨j0, k0, a, c0, h0, -, -, ha, rfl, h1, rfl, -, rfl⟩ := h
    obtain ⟨bs, b1, b2, b3, b4⟩ := tc_path hv h0
    refine ⟨bs ++ [n - (j0 + a)], by simp [b1], tc_all_app b2 ⟨by omega, trivial⟩, fun rest hr => ?_, ?_⟩
    · rw [List.append_assoc]
      refine b3 _ ?_
      show tc_need (2 * (2 * (n - j0 - k0) - (n - (j0 + a)))) rest
      have e : 2 * (n - j0 - k0) - (n - (j0 + a)) = n - (j0 + a) - min (2 * (k0 - a)) (n - (j0 + a)) := by omega
      rw [e]; exact hr
    · rw [tc_cost_app, ← b4]
      have g := tc_hv_sum hv j0 a (by omega)
      rw [← g]
      show c0 + tc_hv v j0 a * d + (d + 1) * tc_sum s (n - (j0 + a)) = c0 + d * (tc_hv v j0 a + tc_sum s (n - (j0 + a))) + (tc_sum s (n - (j0 + a)) + 0)
      rw [Nat.mul_add, Nat.succ_mul, Nat.mul_comm d (tc_hv v j0 a)]
      omega
theorem tc_fin_seq {s v : Nat → Nat} {n : Nat} (hv : ∀ i, i < n → v i = s (n - 1 - i)) {d L c : Nat} (hd : d ≤ L) (h : tc_fin v n d c) : ∃ as : List Nat, as.length = L ∧ tc_all n as ∧ tc_need (2 * n - 2) as ∧ tc_cost s as = c := by
  obtain ⟨j, k, a, c0, h0, -, -, ha, hj, rfl⟩ := h
  obtain ⟨bs, b1, b2, b3, b4⟩ := tc_path hv h0
  refine ⟨bs ++ List.replicate (L - d) 0, by simp [b1]; omega, tc_all_app b2 (tc_all_zero n _), b3 _ ?_, ?_⟩
  · have e : 2 * (n - j - k) = 0 := by omega
    rw [e]; exact tc_need_zero _
  · rw [tc_cost_app, tc_cost_zero, ← b4]
    have g := tc_hv_sum hv j a (by omega)
    have e : n - (j + a) = 0 := by omega
    rw [e] at g
    have g : tc_hv v j a = tc_sum s (n - j) := g
    rw [← g, Nat.mul_comm (tc_hv v j a) d]
    omega
/-- a falling sequence is a way through the table -/
theorem tc_way {s v : Nat → Nat} {n : Nat} (hn16 : n ≤ 16) (hv : ∀ i, i < n → v i = s (n - 1 - i)) : ∀ (as : List Nat) (d j k c : Nat), tc_rch v n d j k c → j < n → 0 < k → k ≤ 16 → tc_desc (n - j) as → tc_need (2 * (n - j - k)) as → ∃ d' c', d' ≤ d + as.length ∧ tc_fin v n d' c' ∧ c' ≤ c + d * tc_sum s (n - j) + tc_cost s as
  | [], d, j, k, c, h0, hj, hk, hk16, _, hn => by
    have hn : 2 * (n - j - k) = 0 := hn
    refine ⟨d, c + tc_hv v j (n - j) * d, by omega, ⟨j, k, n - j, c, h0, by omega, hk16, by omega, by omega, rfl⟩, ?_⟩
    have g := tc_hv_sum hv j (n - j) (by omega)
    have e : n - (j + (n - j)) = 0 := by omega
    rw [e] at g
    have g : tc_hv v j (n - j) = tc_sum s (n - j) := g
    rw [← g, Nat.mul_comm (tc_hv v j (n - j)) d]
    show _ ≤ _ + 0
    omega
  | a1 :: rest, d, j, k, c, h0, hj, hk, hk16, hd, hn => by
    have hn : tc_need (2 * (2 * (n - j - k) - a1)) rest := hn
    have har : a1 ≤ n - j := hd.1
    have hall : tc_all a1 rest := tc_desc_all hd.2
    have ht : n - j - k ≤ a1 := by
      refine Nat.le_of_not_lt (fun h => ?_)
      exact tc_need_no hall (by omega) (by omega) hn
    by_cases h0a : a1 = 0
    · subst h0a
      refine ⟨d, c + tc_hv v j (n - j) * d, by omega, ⟨j, k, n - j, c, h0, by omega, hk16, by omega, by omega, rfl⟩, ?_⟩
      have g := tc_hv_sum hv j (n - j) (by omega)
      have e : n - (j + (n - j)) = 0 := by omega
      rw [e] at g
      have g : tc_hv v j (n - j) = tc_sum s (n - j) := g
      rw [← g, Nat.mul_comm (tc_hv v j (n - j)) d]
      omega
    · have hk' : 0 < min (2 * (k - (n - j - a1))) a1 := by
        refine Nat.pos_of_ne_zero (fun h => ?_)
        exact tc_need_no hall (m := 2 * (2 * (n - j - k) - a1)) (by omega) (by omega) hn
      have e1 : n - (j + (n - j - a1)) = a1 := by omega
      have hst : tc_rch v n (d + 1) (j + (n - j - a1)) (min (2 * (k - (n - j - a1))) a1) (c + tc_hv v j (n - j - a1) * d) :=
        ⟨j, k, n - j - a1, c, h0, by omega, hk16, by omega, rfl, by omega, by rw [e1], hk', rfl⟩
      have hneed : tc_need (2 * (n - (j + (n - j - a1)) - min (2 * (k - (n - j - a1))) a1)) rest := by
        have e : n - (j + (n - j - a1)) - min (2 * (k - (n - j - a1))) a1 = 2 * (n - j - k) - a1 := by omega
        rw [e]; exact hn
      obtain ⟨d', c', w1, w2, w3⟩ := tc_way hn16 hv rest (d + 1) _ _ _ hst (by omega) hk' (by omega) (by rw [e1]; exact hd.2) hneed
      refine ⟨d', c', by simp only [List.length_cons]; omega, w2, Nat.le_trans w3 ?_⟩
      have g := tc_hv_sum hv j (n - j - a1) (by omega)
      rw [e1] at g
      rw [e1, ← g]
      show c + tc_hv v j (n - j - a1) * d + (d + 1) * tc_sum s a1 + tc_cost s rest ≤ c + d * (tc_hv v j (n - j - a1) + tc_sum s a1) + (tc_sum s a1 + tc_cost s rest)
      rw [Nat.mul_add, Nat.succ_mul, Nat.mul_comm d (tc_hv v j (n - j - a1))]
      omega
/-- what the table can answer -/
def tc_ans (v : Nat → Nat) (n D c : Nat) : Prop := ∃ d, d < D ∧ tc_fin v n d c
/-- BOTH VALUES ARE ONE: package-merge's sum is the table's least answer -/
theorem tc_same {s v C : Nat → Nat} {n L : Nat} (h2 : 2 ≤ n) (h16 : n ≤ 16) (hL : n ≤ 2 ^ L) (hv : ∀ i, i < n → v i = s (n - 1 - i)) (hC : tc_lev s n L C) :
    tc_ans v n (L + 1) (tc_sum C (2 * n - 2)) ∧ ∀ c, tc_ans v n (L + 1) c → tc_sum C (2 * n - 2) ≤ c := by
  have hroom := tc_cnt_room (n := n) L 2 (by omega)
  have hle : ∀ c, tc_ans v n (L + 1) c → tc_sum C (2 * n - 2) ≤ c := by
    intro c hc
    obtain ⟨d, hd, hf⟩ := hc
    obtain ⟨as, a1, a2, a3, a4⟩ := tc_fin_seq hv (L := L) (by omega) hf
    rw [← a4]
    exact hC.2.2 _ as (by omega) a1 a2 a3
  refine ⟨?_, hle⟩
  obtain ⟨as, a1, a2, a3, a4⟩ := hC.2.1 (2 * n - 2) (by omega)
  obtain ⟨bs, b1, b2, b3, b4⟩ := tc_sort_seq s n as a2
  have hb := b4 _ a3
  obtain ⟨d', c', w1, w2, w3⟩ := tc_way h16 hv bs 0 0 1 0 ⟨rfl, rfl, rfl⟩ (by omega) (by omega) (by omega) (by rw [Nat.sub_zero]; exact b2) (by
    have e : 2 * (n - 0 - 1) = 2 * n - 2 := by omega
    rw [e]; exact hb)
  have hc' : tc_ans v n (L + 1) c' := ⟨d', by omega, w2⟩
  have g1 := hle c' hc'
  have g2 : c' ≤ tc_sum C (2 * n - 2) := by rw [a4, ← b3]; omega
  have e : c' = tc_sum C (2 * n - 2) := by omega
  rw [← e]; exact hc'
/-! rows sorted by insertion -/
def tc_ins (f : Nat → Nat) (p x : Nat) : Nat → Nat := fun j => if j < p then f j else if j = p then x else f (j - 1)
theorem tc_ins_lt {f : Nat → Nat} {p x j : Nat} (h : j < p) : tc_ins f p x j = f j := by simp [tc_ins, h]
theorem tc_ins_eq {f : Nat → Nat} {p x : Nat} : tc_ins f p x p = x := by simp [tc_ins]
theorem tc_ins_gt {f : Nat → Nat} {p x j : Nat} (h : p < j) : tc_ins f p x j = f (j - 1) := by
  have h1 : ¬ j < p := by omega
  have h2 : ¬ j = p := by omega
  simp [tc_ins, h1, h2]
def tc_row (f : Nat → Nat) (i : Nat) : List Nat := (List.range i).map f
theorem tc_row_s (f : Nat → Nat) (i : Nat) : tc_row f (i + 1) = tc_row f i ++ [f i] := by simp [tc_row, List.range_succ]
theorem tc_row_congr {f g : Nat → Nat} {i : Nat} (h : ∀ j, j < i → f j = g j) : tc_row f i = tc_row g i := by
  unfold tc_row
  exact List.map_congr_left (fun j hj => h j (List.mem_range.mp hj))
theorem tc_ins_perm (f : Nat → Nat) (p x : Nat) : ∀ (k : Nat), (tc_row (tc_ins f p x) (p + k + 1)).Perm (x :: tc_row f (p + k))
  | 0 => by
    rw [Nat.add_zero, tc_row_s, tc_ins_eq, tc_row_congr (g := f) (fun j hj => tc_ins_lt hj)]
    exact List.perm_append_comm (l₁ := tc_row f p) (l₂ := [x])
  | k + 1 => by
    have h := tc_ins_perm f p x k
    rw [tc_row_s, tc_ins_gt (by omega)]
    have e : p + (k + 1) - 1 + 1 = p + (k + 1) := by omega
    have e2 : tc_row f (p + (k + 1)) = tc_row f (p + k) ++ [f (p + k)] := tc_row_s f (p + k)
    have e3 : p + (k + 1) + 1 - 1 = p + (k + 1) := by omega
    have e4 : p + (k + 1) - 1 = p + k := by omega
    have e5 : f (p + (k + 1) - 1) = f (p + k) := by rw [e4]
    rw [e2, e5]
    exact h.append_right [f (p + k)]
theorem tc_ins_asc {f : Nat → Nat} {i p x : Nat} (h : tc_asc f i) (hp : p ≤ i) (h1 : 0 < p → f (p - 1) ≤ x) (h2 : p < i → x ≤ f p) : tc_asc (tc_ins f p x) (i + 1) := by
  intro a b hab hb
  by_cases hbp : b < p
  · rw [tc_ins_lt hbp, tc_ins_lt (by omega)]
    exact h a b hab (by omega)
  · by_cases hbe : b = p
    · subst hbe
      rw [tc_ins_eq]
      by_cases hae : a = b
      · subst hae; rw [tc_ins_eq]; exact Nat.le_refl _
      · rw [tc_ins_lt (by omega)]
        exact Nat.le_trans (h a (b - 1) (by omega) (by omega)) (h1 (by omega))
    · rw [tc_ins_gt (j := b) (by omega)]
      by_cases hap : a < p
      · rw [tc_ins_lt hap]
        exact h a (b - 1) (by omega) (by omega)
      · by_cases hae : a = p
        · subst hae
          rw [tc_ins_eq]
          exact Nat.le_trans (h2 (by omega)) (h a (b - 1) (by omega) (by omega))
        · rw [tc_ins_gt (j := a) (by omega)]
          exact h (a - 1) (b - 1) (by omega) (by omega)
theorem tc_ins_dsc {f : Nat → Nat} {i p x : Nat} (h : tc_dsc f i) (hp : p ≤ i) (h1 : 0 < p → x ≤ f (p - 1)) (h2 : p < i → f p ≤ x) : tc_dsc (tc_ins f p x) (i + 1) := by
  intro a b hab hb
  by_cases hbp : b < p
  · rw [tc_ins_lt hbp, tc_ins_lt (by omega)]
    exact h a b hab (by omega)
  · by_cases hbe : b = p
    · subst hbe
      rw [tc_ins_eq]
      by_cases hae : a = b
      · subst hae; rw [tc_ins_eq]; exact Nat.le_refl _
      · rw [tc_ins_lt (by omega)]
        exact Nat.le_trans (h1 (by omega)) (h a (b - 1) (by omega) (by omega))
    · rw [tc_ins_gt (j := b) (by omega)]
      by_cases hap : a < p
      · rw [tc_ins_lt hap]
        exact h a (b - 1) (by omega) (by omega)
      · by_cases hae : a = p
        · subst hae
          rw [tc_ins_eq]
          exact Nat.le_trans (h a (b - 1) (by omega) (by omega)) (h2 (by omega))
        · rw [tc_ins_gt (j := a) (by omega)]
          exact h (a - 1) (b - 1) (by omega) (by omega)
/-- the row s holds the first i of w, rising -/
def tc_srt (w s : Nat → Nat) (i : Nat) : Prop := tc_asc s i ∧ (tc_row s i).Perm (tc_row w i)
/-- the row o holds places of w, by falling weights -/
def tc_ord (w o : Nat → Nat) (i : Nat) : Prop := tc_dsc (fun j => w (o j)) i ∧ (tc_row (fun j => w (o j)) i).Perm (tc_row w i) ∧ ∀ j, j < i → o j < i
theorem tc_srt_0 (w s : Nat → Nat) : tc_srt w s 0 := ⟨fun i j _ hj => by omega, by simp [tc_row]⟩
theorem tc_ord_0 (w o : Nat → Nat) : tc_ord w o 0 := ⟨fun i j _ hj => by omega, by simp [tc_row], fun j hj => by omega⟩
theorem tc_perm_s {f g : Nat → Nat} {i : Nat} {l : List Nat} (h1 : l.Perm (g i :: tc_row f i)) (h2 : (tc_row f i).Perm (tc_row g i)) : l.Perm (tc_row g (i + 1)) := by
  rw [tc_row_s]
  exact (h1.trans (h2.cons _)).trans (List.perm_append_comm (l₁ := [g i]) (l₂ := tc_row g i))
theorem tc_srt_s {w s s' : Nat → Nat} {i p : Nat} (h : tc_srt w s i) (hp : p ≤ i) (h1 : 0 < p → s (p - 1) ≤ w i) (h2 : p < i → w i ≤ s p) (hs' : ∀ j, j < i + 1 → s' j = tc_ins s p (w i) j) : tc_srt w s' (i + 1) := by
  refine ⟨fun a b hab hb => ?_, ?_⟩
  · rw [hs' a (by omega), hs' b hb]
    exact tc_ins_asc h.1 hp h1 h2 a b hab hb
  · rw [tc_row_congr hs']
    have g := tc_ins_perm s p (w i) (i - p)
    have e : p + (i - p) = i := by omega
    rw [e] at g
    exact tc_perm_s g h.2
theorem tc_ord_s {w o o' : Nat → Nat} {i p : Nat} (h : tc_ord w o i) (hp : p ≤ i) (h1 : 0 < p → w i ≤ w (o (p - 1))) (h2 : p < i → w (o p) ≤ w i) (ho' : ∀ j, j < i + 1 → o' j = tc_ins o p i j) : tc_ord w o' (i + 1) := by
  have hc : ∀ j, j < i + 1 → w (o' j) = tc_ins (fun j => w (o j)) p (w i) j := by
    intro j hj
    rw [ho' j hj]
    by_cases hjp : j < p
    · rw [tc_ins_lt hjp, tc_ins_lt hjp]
    · by_cases hje : j = p
      · subst hje; rw [tc_ins_eq, tc_ins_eq]
      · rw [tc_ins_gt (by omega), tc_ins_gt (by omega)]
  refine ⟨fun a b hab hb => ?_, ?_, fun j hj => ?_⟩
  · show w (o' b) ≤ w (o' a)
    rw [hc a (by omega), hc b hb]
    exact tc_ins_dsc h.1 hp h1 h2 a b hab hb
  · rw [tc_row_congr hc]
    have g := tc_ins_perm (fun j => w (o j)) p (w i) (i - p)
    have e : p + (i - p) = i := by omega
    rw [e] at g
    exact tc_perm_s g h.2.1
  · rw [ho' j hj]
    by_cases hjp : j < p
    · rw [tc_ins_lt hjp]
      have := h.2.2 j (by omega)
      omega
    · by_cases hje : j = p
      · subst hje; rw [tc_ins_eq]; omega
      · rw [tc_ins_gt (by omega)]
        have := h.2.2 (j - 1) (by omega)
        omega
theorem tc_uniq : ∀ (l1 l2 : List Nat), l1.Perm l2 → l1.Pairwise (fun a b => a ≤ b) → l2.Pairwise (fun a b => a ≤ b) → l1 = l2
  | [], l2, h, _, _ => (List.nil_perm.mp h).symm
  | a :: l1, [], h, _, _ => absurd h.length_eq (by simp)
  | a :: l1, b :: l2, h, h1, h2 => by
    have e1 := List.pairwise_cons.mp h1
    have e2 := List.pairwise_cons.mp h2
    have m1 : a ∈ b :: l2 := h.mem_iff.mp List.mem_cons_self
    have m2 : b ∈ a :: l1 := h.mem_iff.mpr List.mem_cons_self
    have hab : a = b := by
      rcases List.mem_cons.mp m1 with q | q
      · exact q
      · rcases List.mem_cons.mp m2 with r | r
        · exact r.symm
        · have := e2.1 a q
          have := e1.1 b r
          omega
    subst hab
    rw [tc_uniq l1 l2 h.cons_inv e1.2 e2.2]
theorem tc_row_pw {f : Nat → Nat} {i : Nat} (h : tc_asc f i) : (tc_row f i).Pairwise (fun a b => a ≤ b) := by
  refine List.pairwise_iff_getElem.mpr (fun a b ha hb hab => ?_)
  have hb' : b < i := by simpa [tc_row] using hb
  simp only [tc_row, List.getElem_map, List.getElem_range]
  exact h a b (by omega) hb'
/-- the falling row is the rising one, read from its end -/
theorem tc_link {w s o : Nat → Nat} {n : Nat} (h1 : tc_srt w s n) (h2 : tc_ord w o n) : ∀ i, i < n → w (o i) = s (n - 1 - i) := by
  have hasc : tc_asc (fun i => w (o (n - 1 - i))) n := fun a b hab hb => h2.1 (n - 1 - b) (n - 1 - a) (by omega) (by omega)
  have hrev : tc_row (fun i => w (o (n - 1 - i))) n = (tc_row (fun i => w (o i)) n).reverse := by
    refine List.ext_getElem (by simp [tc_row]) (fun k hk1 hk2 => ?_)
    have hk : k < n := by simpa [tc_row] using hk1
    simp [tc_row, List.getElem_reverse]
  have hperm : (tc_row s n).Perm (tc_row (fun i => w (o (n - 1 - i))) n) := by
    rw [hrev]
    exact (h1.2.trans h2.2.1.symm).trans (List.reverse_perm _).symm
  have he := tc_uniq _ _ hperm (tc_row_pw h1.1) (tc_row_pw hasc)
  intro i hi
  have h3 : (tc_row s n)[n - 1 - i]? = (tc_row (fun i => w (o (n - 1 - i))) n)[n - 1 - i]? := by rw [he]
  have hlt : n - 1 - i < n := by omega
  simp [tc_row, hlt] at h3
  have e : n - 1 - (n - 1 - i) = i := by omega
  rw [e] at h3
  exact h3.symm
end
end
section
/-! WRAPPERS over the kit's rows: numbers as nI and lN -/
section
variable {p : Program} {l : Launch} {e : Env} {R : Room} {s : State} {m : MethodId} {args : Array Value} {below : List Frame} {meth : Method} {c : Code} {H : Heap} {locs : List Loc} {cells slots : Nat} {Q : State → Prop}
variable {cc : ByteArray} {pc : Nat} {ls : Array Slot} {rest : List Value}
theorem tw_i {x : Int32} (y : Int32) (h : x = y) (k : W p l e R s m args below meth c H locs cells slots Q (F0 m pc ls (.int y :: rest))) : W p l e R s m args below meth c H locs cells slots Q (F0 m pc ls (.int x :: rest)) := by subst h; exact k
theorem tw_l {x : Int64} (y : Int64) (h : x = y) (k : W p l e R s m args below meth c H locs cells slots Q (F0 m pc ls (.long y :: rest))) : W p l e R s m args below meth c H locs cells slots Q (F0 m pc ls (.long x :: rest)) := by subst h; exact k
theorem tw_icmp_lt (hexec : p.tables.exec = Jvm.exec) (hb : c.code = cc) (a b : Nat) {off : Int} {tgt : Nat} (hdg : decode cc pc = .ok (.if_icmp .lt off, 3)) (ht : (pc : Int) + off = (tgt : Int)) (ha : a < 2 ^ 31) (hb2 : b < 2 ^ 31)
    (kt : a < b → W p l e R s m args below meth c H locs cells slots Q (F0 m tgt ls rest)) (kf : b ≤ a → W p l e R s m args below meth c H locs cells slots Q (F0 m (pc + 3) ls rest)) : W p l e R s m args below meth c H locs cells slots Q (F0 m pc ls (.int (nI b) :: .int (nI a) :: rest)) :=
  lv_icmp_lt hexec hb hdg ht (fun h => kt ((nI_ltI ha hb2).mp h)) (fun h => kf (Nat.le_of_not_lt (fun q => h ((nI_ltI ha hb2).mpr q))))
theorem tw_icmp_ge (hexec : p.tables.exec = Jvm.exec) (hb : c.code = cc) (a b : Nat) {off : Int} {tgt : Nat} (hdg : decode cc pc = .ok (.if_icmp .ge off, 3)) (ht : (pc : Int) + off = (tgt : Int)) (ha : a < 2 ^ 31) (hb2 : b < 2 ^ 31)
    (kt : b ≤ a → W p l e R s m args below meth c H locs cells slots Q (F0 m tgt ls rest)) (kf : a < b → W p l e R s m args below meth c H locs cells slots Q (F0 m (pc + 3) ls rest)) : W p l e R s m args below meth c H locs cells slots Q (F0 m pc ls (.int (nI b) :: .int (nI a) :: rest)) :=
  lv_icmp_ge hexec hb hdg ht (fun h => kt ((nI_leI hb2 ha).mp h)) (fun h => kf (Nat.lt_of_not_le (fun q => h ((nI_leI hb2 ha).mpr q))))
theorem tw_icmp_gt (hexec : p.tables.exec = Jvm.exec) (hb : c.code = cc) (a b : Nat) {off : Int} {tgt : Nat} (hdg : decode cc pc = .ok (.if_icmp .gt off, 3)) (ht : (pc : Int) + off = (tgt : Int)) (ha : a < 2 ^ 31) (hb2 : b < 2 ^ 31)
    (kt : b < a → W p l e R s m args below meth c H locs cells slots Q (F0 m tgt ls rest)) (kf : a ≤ b → W p l e R s m args below meth c H locs cells slots Q (F0 m (pc + 3) ls rest)) : W p l e R s m args below meth c H locs cells slots Q (F0 m pc ls (.int (nI b) :: .int (nI a) :: rest)) :=
  lv_icmp_gt hexec hb hdg ht (fun h => kt ((nI_ltI hb2 ha).mp h)) (fun h => kf (Nat.le_of_not_lt (fun q => h ((nI_ltI hb2 ha).mpr q))))
theorem tw_icmp_le (hexec : p.tables.exec = Jvm.exec) (hb : c.code = cc) (a b : Nat) {off : Int} {tgt : Nat} (hdg : decode cc pc = .ok (.if_icmp .le off, 3)) (ht : (pc : Int) + off = (tgt : Int)) (ha : a < 2 ^ 31) (hb2 : b < 2 ^ 31)
    (kt : a ≤ b → W p l e R s m args below meth c H locs cells slots Q (F0 m tgt ls rest)) (kf : b < a → W p l e R s m args below meth c H locs cells slots Q (F0 m (pc + 3) ls rest)) : W p l e R s m args below meth c H locs cells slots Q (F0 m pc ls (.int (nI b) :: .int (nI a) :: rest)) :=
  lv_icmp_le hexec hb hdg ht (fun h => kt ((nI_leI ha hb2).mp h)) (fun h => kf (Nat.lt_of_not_le (fun q => h ((nI_leI ha hb2).mpr q))))
theorem tw_icmp_eq (hexec : p.tables.exec = Jvm.exec) (hb : c.code = cc) (a b : Nat) {off : Int} {tgt : Nat} (hdg : decode cc pc = .ok (.if_icmp .eq off, 3)) (ht : (pc : Int) + off = (tgt : Int)) (ha : a < 2 ^ 31) (hb2 : b < 2 ^ 31)
    (kt : a = b → W p l e R s m args below meth c H locs cells slots Q (F0 m tgt ls rest)) (kf : a ≠ b → W p l e R s m args below meth c H locs cells slots Q (F0 m (pc + 3) ls rest)) : W p l e R s m args below meth c H locs cells slots Q (F0 m pc ls (.int (nI b) :: .int (nI a) :: rest)) :=
  lv_icmp_eq hexec hb hdg ht (fun h => kt ((nI_eq ha hb2).mp h)) (fun h => kf (fun q => h ((nI_eq ha hb2).mpr q)))
theorem tw_icmp_ne (hexec : p.tables.exec = Jvm.exec) (hb : c.code = cc) (a b : Nat) {off : Int} {tgt : Nat} (hdg : decode cc pc = .ok (.if_icmp .ne off, 3)) (ht : (pc : Int) + off = (tgt : Int)) (ha : a < 2 ^ 31) (hb2 : b < 2 ^ 31)
    (kt : a ≠ b → W p l e R s m args below meth c H locs cells slots Q (F0 m tgt ls rest)) (kf : a = b → W p l e R s m args below meth c H locs cells slots Q (F0 m (pc + 3) ls rest)) : W p l e R s m args below meth c H locs cells slots Q (F0 m pc ls (.int (nI b) :: .int (nI a) :: rest)) :=
  lv_icmp_ne hexec hb hdg ht (fun h => kt (fun q => h ((nI_eq ha hb2).mpr q))) (fun h => kf ((nI_eq ha hb2).mp h))
theorem tw_if_le (hexec : p.tables.exec = Jvm.exec) (hb : c.code = cc) (a : Nat) {off : Int} {tgt : Nat} (hdg : decode cc pc = .ok (.ifCond .le off, 3)) (ht : (pc : Int) + off = (tgt : Int)) (ha : a < 2 ^ 31)
    (kt : a = 0 → W p l e R s m args below meth c H locs cells slots Q (F0 m tgt ls rest)) (kf : 0 < a → W p l e R s m args below meth c H locs cells slots Q (F0 m (pc + 3) ls rest)) : W p l e R s m args below meth c H locs cells slots Q (F0 m pc ls (.int (nI a) :: rest)) :=
  lv_if_le hexec hb hdg ht (fun h => kt (Nat.le_zero.mp ((nI_leI (b := 0) ha (by decide)).mp h))) (fun h => kf (Nat.pos_of_ne_zero (fun q => h (by rw [q]; decide))))
theorem tw_if_ne (hexec : p.tables.exec = Jvm.exec) (hb : c.code = cc) (a : Nat) {off : Int} {tgt : Nat} (hdg : decode cc pc = .ok (.ifCond .ne off, 3)) (ht : (pc : Int) + off = (tgt : Int)) (ha : a < 2 ^ 31)
    (kt : a ≠ 0 → W p l e R s m args below meth c H locs cells slots Q (F0 m tgt ls rest)) (kf : a = 0 → W p l e R s m args below meth c H locs cells slots Q (F0 m (pc + 3) ls rest)) : W p l e R s m args below meth c H locs cells slots Q (F0 m pc ls (.int (nI a) :: rest)) :=
  lv_if_ne hexec hb hdg ht (fun h => kt (fun q => h (by rw [q]; rfl))) (fun h => kf ((nI_eq (b := 0) ha (by decide)).mp h))
theorem tw_if_lt (hexec : p.tables.exec = Jvm.exec) (hb : c.code = cc) (a : Nat) {off : Int} {tgt : Nat} (hdg : decode cc pc = .ok (.ifCond .lt off, 3)) (ht : (pc : Int) + off = (tgt : Int)) (ha : a < 2 ^ 31)
    (kf : W p l e R s m args below meth c H locs cells slots Q (F0 m (pc + 3) ls rest)) : W p l e R s m args below meth c H locs cells slots Q (F0 m pc ls (.int (nI a) :: rest)) :=
  lv_if_lt hexec hb hdg ht (fun h => absurd h (nI_pos ha)) (fun _ => kf)
theorem tw_lif_le (hexec : p.tables.exec = Jvm.exec) (hb : c.code = cc) {x y : Int64} {off : Int} {tgt : Nat} (hd1 : decode cc pc = .ok (.lcmp, 1)) (hdg : decode cc (pc + 1) = .ok (.ifCond .le off, 3)) (ht : ((pc + 1 : Nat) : Int) + off = (tgt : Int))
    (kt : x ≤ y → W p l e R s m args below meth c H locs cells slots Q (F0 m tgt ls rest)) (kf : ¬ x ≤ y → W p l e R s m args below meth c H locs cells slots Q (F0 m (pc + 4) ls rest)) : W p l e R s m args below meth c H locs cells slots Q (F0 m pc ls (.long y :: .long x :: rest)) :=
  W.lcmp hexec hb hd1 (lv_if_le hexec hb hdg ht (fun h => kt ((lg_cmp_le x y).mp h)) (fun h => kf (fun q => h ((lg_cmp_le x y).mpr q))))
theorem tw_lif_gt (hexec : p.tables.exec = Jvm.exec) (hb : c.code = cc) {x y : Int64} {off : Int} {tgt : Nat} (hd1 : decode cc pc = .ok (.lcmp, 1)) (hdg : decode cc (pc + 1) = .ok (.ifCond .gt off, 3)) (ht : ((pc + 1 : Nat) : Int) + off = (tgt : Int))
    (kt : y < x → W p l e R s m args below meth c H locs cells slots Q (F0 m tgt ls rest)) (kf : ¬ y < x → W p l e R s m args below meth c H locs cells slots Q (F0 m (pc + 4) ls rest)) : W p l e R s m args below meth c H locs cells slots Q (F0 m pc ls (.long y :: .long x :: rest)) :=
  W.lcmp hexec hb hd1 (lv_if_gt hexec hb hdg ht (fun h => kt ((lg_cmp_gt x y).mp h)) (fun h => kf (fun q => h ((lg_cmp_gt x y).mpr q))))
theorem tw_lif_lt (hexec : p.tables.exec = Jvm.exec) (hb : c.code = cc) {x y : Int64} {off : Int} {tgt : Nat} (hd1 : decode cc pc = .ok (.lcmp, 1)) (hdg : decode cc (pc + 1) = .ok (.ifCond .lt off, 3)) (ht : ((pc + 1 : Nat) : Int) + off = (tgt : Int))
    (kt : x < y → W p l e R s m args below meth c H locs cells slots Q (F0 m tgt ls rest)) (kf : ¬ x < y → W p l e R s m args below meth c H locs cells slots Q (F0 m (pc + 4) ls rest)) : W p l e R s m args below meth c H locs cells slots Q (F0 m pc ls (.long y :: .long x :: rest)) :=
  W.lcmp hexec hb hd1 (lv_if_lt hexec hb hdg ht (fun h => kt ((lg_cmp_lt x y).mp h)) (fun h => kf (fun q => h ((lg_cmp_lt x y).mpr q))))
theorem tw_lif_ge (hexec : p.tables.exec = Jvm.exec) (hb : c.code = cc) {x y : Int64} {off : Int} {tgt : Nat} (hd1 : decode cc pc = .ok (.lcmp, 1)) (hdg : decode cc (pc + 1) = .ok (.ifCond .ge off, 3)) (ht : ((pc + 1 : Nat) : Int) + off = (tgt : Int))
    (kt : y ≤ x → W p l e R s m args below meth c H locs cells slots Q (F0 m tgt ls rest)) (kf : ¬ y ≤ x → W p l e R s m args below meth c H locs cells slots Q (F0 m (pc + 4) ls rest)) : W p l e R s m args below meth c H locs cells slots Q (F0 m pc ls (.long y :: .long x :: rest)) :=
  W.lcmp hexec hb hd1 (lv_if_ge hexec hb hdg ht (fun h => kt ((lg_cmp_ge x y).mp h)) (fun h => kf (fun q => h ((lg_cmp_ge x y).mpr q))))
theorem tw_lif_eq (hexec : p.tables.exec = Jvm.exec) (hb : c.code = cc) {x y : Int64} {off : Int} {tgt : Nat} (hd1 : decode cc pc = .ok (.lcmp, 1)) (hdg : decode cc (pc + 1) = .ok (.ifCond .eq off, 3)) (ht : ((pc + 1 : Nat) : Int) + off = (tgt : Int))
    (kt : x = y → W p l e R s m args below meth c H locs cells slots Q (F0 m tgt ls rest)) (kf : ¬ x = y → W p l e R s m args below meth c H locs cells slots Q (F0 m (pc + 4) ls rest)) : W p l e R s m args below meth c H locs cells slots Q (F0 m pc ls (.long y :: .long x :: rest)) :=
  W.lcmp hexec hb hd1 (lv_if_eq hexec hb hdg ht (fun h => kt ((lg_cmp_eq x y).mp h)) (fun h => kf (fun q => h ((lg_cmp_eq x y).mpr q))))
end
theorem tn_cl {n : Nat} (h : n < 2 ^ 31) : (nI n).toNatClampNeg = n := nI_clamp h
theorem tn_m1 {n : Nat} (h : 0 < n) : nI n + Int32.ofInt (-1) = nI (n - 1) := by
  have e : n = (n - 1) + 1 := by omega
  rw [e]
  exact pk_m1 (n - 1)
theorem tn_p1 (n : Nat) : nI n + Int32.ofInt 1 = nI (n + 1) := nI_1 n
theorem tn_p6 (n : Nat) : nI n + Int32.ofInt 6 = nI (n + 6) := nI_add n 6
theorem tn_lt {a b : Nat} (ha : a < 2 ^ 62) (hb : b < 2 ^ 62) : lN a < lN b ↔ a < b := pk_lLT (by omega) (by omega)
theorem tn_le {a b : Nat} (ha : a < 2 ^ 62) (hb : b < 2 ^ 62) : lN a ≤ lN b ↔ a ≤ b := pk_lLE (by omega) (by omega)
theorem tn_max {a : Nat} (h : a < 2 ^ 62) : ¬ (9223372036854775807 : Int64) ≤ lN a := by
  intro q
  have e : (9223372036854775807 : Int64) = lN 9223372036854775807 := by decide
  rw [e] at q
  have := (pk_lLE (a := 9223372036854775807) (b := a) (by decide) (by omega)).mp q
  omega
theorem tn_max' {a : Nat} (h : a < 2 ^ 62) : lN a ≤ (9223372036854775807 : Int64) := by
  have e : (9223372036854775807 : Int64) = lN 9223372036854775807 := by decide
  rw [e]
  exact (pk_lLE (a := a) (b := 9223372036854775807) (by omega) (by decide)).mpr (by omega)
theorem tn_neg {a : Nat} (h : a < 2 ^ 62) : ¬ lN a < 0 := by
  intro q
  have := (pk_lLT (a := a) (b := 0) (by omega) (by decide)).mp q
  omega
theorem tn_m : (-1 : Int64) < 0 := by decide
theorem tn_mask (x : Int32) : ∃ j : Nat, j < 2 ^ 31 ∧ x &&& 2147483647 = nI j := pk_andE x 31 (by decide)
theorem tn_min {a b : Nat} (ha : a < 2 ^ 31) (hb : b < 2 ^ 31) : (if nI a < nI b then nI a else nI b) = nI (min b a) := by
  by_cases h : a < b
  · rw [if_pos ((nI_ltI ha hb).mpr h), Nat.min_eq_right (by omega)]
  · rw [if_neg (fun q => h ((nI_ltI ha hb).mp q)), Nat.min_eq_left (by omega)]
theorem tn_rem {a : Nat} (d : Nat) (ha : a < 2 ^ 31) (h0 : 0 < d) (hd : d < 2 ^ 31) : nI a - nI a / nI d * nI d = nI (a % d) := pk_rem ha h0 hd
theorem tn_shl {k : Nat} (h : k < 16) : nI 1 <<< (nI k &&& 31) = nI (2 ^ k) := by
  have g : ∀ k : Fin 16, nI 1 <<< (nI k.1 &&& 31) = nI (2 ^ k.1) := by decide +kernel
  exact g ⟨k, h⟩
theorem tn_in {n : Nat} (N : Nat) (h : n < N) (hN : N ≤ 1000) : vp_in (nI n) N := vp_in_nI h (by omega)
theorem tn_i2l {n : Nat} (h : n < 2 ^ 31) : (nI n).toInt64 = lN n := nI_l h
end
section
/-- a number without its highest bit; a place out of the lowest five bits -/
def tn_k (x : Int32) : Nat := x.toBitVec.toNat % 2 ^ 31
theorem tn_k_lt (x : Int32) : tn_k x < 2 ^ 31 := Nat.mod_lt _ (by decide)
theorem tn_k_and (x : Int32) : x &&& 2147483647 = nI (tn_k x) := pk_and x 31 (by decide)
def tn_p (x : Int32) : Nat := x.toBitVec.toNat % 2 ^ 5
theorem tn_p_lt (x : Int32) : tn_p x < 32 := Nat.mod_lt _ (by decide)
theorem tn_p_and (x : Int32) : x &&& nI 31 = nI (tn_p x) := pk_and x 5 (by decide)
/-- the row of weights behind weight(i, a, b, c, d) -/
def tn_wt (f : Nat → Int32) (i a b c d : Int32) : Nat → Int32 := upd (upd (upd (upd f (tn_p i) (nI (tn_k a))) (tn_p (i + nI 1)) (nI (tn_k b))) (tn_p (i + nI 2)) (nI (tn_k c))) (tn_p (i + nI 3)) (nI (tn_k d))
theorem hinX0_letters : ∀ w ∈ wsX00, w ∈ wsX0_letters := by decide +kernel
theorem hinX0_limit : ∀ w ∈ wsX00, w ∈ wsX0_limit := by decide +kernel
theorem hinX0_setWeight : ∀ w ∈ wsX00, w ∈ wsX0_setWeight := by decide +kernel
theorem hinX0_init : ∀ w ∈ wsX00, w ∈ wsX0_init := by decide +kernel
theorem mmX0_letters_0 : Cond.constant RX0 30 (2147483647) ∈ wsX0_letters := by decide +kernel
theorem mmX0_letters_1 : Cond.fieldLink RX0 13 "TrimCodes" "letterCount" "I" ∈ wsX0_letters := by decide +kernel
theorem mmX0_limit_0 : Cond.constant RX0 30 (2147483647) ∈ wsX0_limit := by decide +kernel
theorem mmX0_limit_1 : Cond.fieldLink RX0 17 "TrimCodes" "lengthLimit" "I" ∈ wsX0_limit := by decide +kernel
theorem mmX0_setWeight_0 : Cond.fieldLink RX0 9 "TrimCodes" "weights" "[I" ∈ wsX0_setWeight := by decide +kernel
theorem mmX0_setWeight_1 : Cond.constant RX0 30 (2147483647) ∈ wsX0_setWeight := by decide +kernel
theorem mmX0_init_0 : Cond.methodLink RX0 1 objectInit ∈ wsX0_init := by decide +kernel
theorem mmX0_init_1 : Cond.instanceMethod objectInit ∈ wsX0_init := by decide +kernel
theorem mmX0_init_2 : Cond.arrayClass .int ∈ wsX0_init := by decide +kernel
theorem mmX0_init_3 : Cond.fieldLink RX0 9 "TrimCodes" "weights" "[I" ∈ wsX0_init := by decide +kernel
theorem mmX0_init_4 : Cond.fieldLink RX0 13 "TrimCodes" "letterCount" "I" ∈ wsX0_init := by decide +kernel
theorem mmX0_init_5 : Cond.fieldLink RX0 17 "TrimCodes" "lengthLimit" "I" ∈ wsX0_init := by decide +kernel
theorem mmX0_init_6 : Cond.arrayClass .long ∈ wsX0_init := by decide +kernel
theorem mmX0_init_7 : Cond.fieldLink RX0 20 "TrimCodes" "sortedWeights" "[J" ∈ wsX0_init := by decide +kernel
theorem mmX0_init_8 : Cond.fieldLink RX0 24 "TrimCodes" "coins" "[J" ∈ wsX0_init := by decide +kernel
theorem mmX0_init_9 : Cond.fieldLink RX0 27 "TrimCodes" "pairs" "[J" ∈ wsX0_init := by decide +kernel
set_option maxHeartbeats 4000000 in
set_option maxRecDepth 100000 in
/-- letters(k) -/
theorem c_X0_letters (l : Launch) (dC : Nat → ClassId) (dI : Nat → Nat → Nat) (h0 a1 a3 a4 a5 : Nat) (c1 c3 c4 c5 : ClassId) (n lim : Int32) (fw : Nat → Int32) (fs fc fp : Nat → Int64) (sz : Nat) (p0 : Int32) : Met l yX0_letters wsX0_letters ({ frames := 0, cells := 0, slots := 0, locals := 0 }) (va_Pc [.ref h0, .int p0] (fun U => U.heap.size = sz ∧ va_P (dC, dI) vwCl [(h0, .inr (0, [.ref a1, .int n, .int lim, .ref a3, .ref a4, .ref a5])), (a1, .inl (c1, 32, .inl fw)), (a3, .inl (c3, 16, .inr (.inl fs))), (a4, .inl (c4, 32, .inr (.inl fc))), (a5, .inl (c5, 16, .inr (.inl fp)))] U.heap ∧ va_K (dC, dI) vwCl [(c1, .int), (c3, .long), (c4, .long), (c5, .long)] U ∧ va_D (fun _ => True) [(h0, .inr (0, [.ref a1, .int n, .int lim, .ref a3, .ref a4, .ref a5])), (a1, .inl (c1, 32, .inl fw)), (a3, .inl (c3, 16, .inr (.inl fs))), (a4, .inl (c4, 32, .inr (.inl fc))), (a5, .inl (c5, 16, .inr (.inl fp)))])) (va_Qv (fun u : Int32 => u = nI (2 + tn_k p0 % 15)) (fun (u : Int32) (t : State) => va_P (dC, dI) vwCl [(h0, .inr (0, [.ref a1, .int u, .int lim, .ref a3, .ref a4, .ref a5])), (a1, .inl (c1, 32, .inl fw)), (a3, .inl (c3, 16, .inr (.inl fs))), (a4, .inl (c4, 32, .inr (.inl fc))), (a5, .inl (c5, 16, .inr (.inl fp)))] t.heap ∧ va_K (dC, dI) vwCl [(c1, .int), (c3, .long), (c4, .long), (c5, .long)] t ∧ va_D (va_A [(h0, .inr (0, [.ref a1, .int n, .int lim, .ref a3, .ref a4, .ref a5])), (a1, .inl (c1, 32, .inl fw)), (a3, .inl (c3, 16, .inr (.inl fs))), (a4, .inl (c4, 32, .inr (.inl fc))), (a5, .inl (c5, 16, .inr (.inl fp)))] sz) [(h0, .inr (0, [.ref a1, .int u, .int lim, .ref a3, .ref a4, .ref a5])), (a1, .inl (c1, 32, .inl fw)), (a3, .inl (c3, 16, .inr (.inl fs))), (a4, .inl (c4, 32, .inr (.inl fc))), (a5, .inl (c5, 16, .inr (.inl fp)))]) (va_A [(h0, .inr (0, [.ref a1, .int n, .int lim, .ref a3, .ref a4, .ref a5])), (a1, .inl (c1, 32, .inl fw)), (a3, .inl (c3, 16, .inr (.inl fs))), (a4, .inl (c4, 32, .inr (.inl fc))), (a5, .inl (c5, 16, .inr (.inl fp)))] sz)) 0 0 (va_A [(h0, .inr (0, [.ref a1, .int n, .int lim, .ref a3, .ref a4, .ref a5])), (a1, .inl (c1, 32, .inl fw)), (a3, .inl (c3, 16, .inr (.inl fs))), (a4, .inl (c4, 32, .inr (.inl fc))), (a5, .inl (c5, 16, .inr (.inl fp)))] sz) := by
  refine Met.ofW (cc := cX0_letters) (maxL := 2) (ret := none) (by decide) rfl ?_
  intro p e s m args below meth c s₁ B hml hv
  obtain ⟨rfl, hsz, hP, hK, hD0⟩ := hv
  have hx := B.exec
  have hb := B.bytes
  have hr := B.returns
  have hts := atoms_spec (ws := wsX0_letters) B.pre
  have hown : s.vm.findClass RX0 = some m.cls := findClass_of_methodNamed B.named
  have hlocks := B.notSynchronized
  subst hsz
  have hD := hD0.self (sz := s.heap.size)
  generalize hAe : va_A [(h0, .inr (0, [.ref a1, .int n, .int lim, .ref a3, .ref a4, .ref a5])), (a1, .inl (c1, 32, .inl fw)), (a3, .inl (c3, 16, .inr (.inl fs))), (a4, .inl (c4, 32, .inr (.inl fc))), (a5, .inl (c5, 16, .inr (.inl fp)))] s.heap.size = A at hD ⊢
  have hA : ∀ q : Nat, s.heap.size ≤ q → A q := fun q h => by rw [← hAe]; exact Or.inr h
  have hS : va_S A s.heap s.heap [] := va_S.rf
  have hP : va_P (dC, dI) vwCl [(h0, .inr (0, [.ref a1, .int n, .int lim, .ref a3, .ref a4, .ref a5])), (a1, .inl (c1, 32, .inl fw)), (a3, .inl (c3, 16, .inr (.inl fs))), (a4, .inl (c4, 32, .inr (.inl fc))), (a5, .inl (c5, 16, .inr (.inl fp)))] s.heap := hP
  have hl := lv_entry ([.ref h0, .int p0]) (n := 2) (Nat.le_of_ble_eq_true rfl)
  rw [lg_entry_eq]
  generalize (lg_sl ([.ref h0, .int p0]) ++ List.replicate (2 - (lg_sl ([.ref h0, .int p0])).length) Slot.unset).toArray = ls at hl ⊢
  have hl : lv_has ls 2 [(0, .ref h0), (1, .int p0)] := hl
  refine lv_aload_n hx hb dX0_letters_0 rfl (lv_at hl 0 rfl) ?_
  refine lv_iconst (v := nI 2) hx hb dX0_letters_1 (by decide) ?_
  refine lv_iload_n hx hb dX0_letters_2 rfl (lv_at hl 1 rfl) ?_
  refine lv_ldc hx hb hown (hts _ mmX0_letters_0) dX0_letters_3 ?_
  refine lv_iand hx hb dX0_letters_5 ?_
  refine tw_i (nI (tn_k p0)) (tn_k_and p0) ?_
  refine lv_bipush (v := nI 15) hx hb dX0_letters_6 (by decide) ?_
  refine lv_irem hx hb dX0_letters_8 (by decide) ?_
  refine tw_i (nI (tn_k p0 % 15)) (tn_rem 15 (tn_k_lt p0) (by decide) (by decide)) ?_
  refine lv_iadd hx hb dX0_letters_9 ?_
  refine tw_i (nI (2 + (tn_k p0 % 15))) (nI_add _ _) ?_
  refine va_put (D := (dC, dI)) (ci := 0) (v := .int (nI (2 + (tn_k p0 % 15)))) (ty := .int) (C := RX0) (T := TX0) (N := 6) hx hb hts hinX0_letters tyX0 tyX0_ok nmX0 hown hK hP hD hS 0 rfl rfl 1 (by decide) (hts _ mmX0_letters_1) (fun _ h9 => h9) rfl (by decide +kernel) rfl rfl (Nat.le_of_ble_eq_true rfl) dX0_letters_10 (fun H locs hP hD hS => ?_)
  have hP : va_P (dC, dI) vwCl [(h0, .inr (0, [.ref a1, .int (nI (2 + (tn_k p0 % 15))), .int lim, .ref a3, .ref a4, .ref a5])), (a1, .inl (c1, 32, .inl fw)), (a3, .inl (c3, 16, .inr (.inl fs))), (a4, .inl (c4, 32, .inr (.inl fc))), (a5, .inl (c5, 16, .inr (.inl fp)))] H := hP
  have hD : va_D A [(h0, .inr (0, [.ref a1, .int (nI (2 + (tn_k p0 % 15))), .int lim, .ref a3, .ref a4, .ref a5])), (a1, .inl (c1, 32, .inl fw)), (a3, .inl (c3, 16, .inr (.inl fs))), (a4, .inl (c4, 32, .inr (.inl fc))), (a5, .inl (c5, 16, .inr (.inl fp)))] := hD
  exact W.vret hx hb hr (fun t ht hW => ⟨⟨nI (2 + tn_k p0 % 15), rfl, rfl, by rw [ht]; exact hP, va_K.moved hW.alike hK, hD⟩, hS.F ht⟩) hS.2.2 dX0_letters_13
set_option maxHeartbeats 4000000 in
set_option maxRecDepth 100000 in
/-- limit(k) -/
theorem c_X0_limit (l : Launch) (dC : Nat → ClassId) (dI : Nat → Nat → Nat) (h0 a1 a3 a4 a5 : Nat) (c1 c3 c4 c5 : ClassId) (n lim : Int32) (fw : Nat → Int32) (fs fc fp : Nat → Int64) (sz : Nat) (p0 : Int32) : Met l yX0_limit wsX0_limit ({ frames := 0, cells := 0, slots := 0, locals := 0 }) (va_Pc [.ref h0, .int p0] (fun U => U.heap.size = sz ∧ va_P (dC, dI) vwCl [(h0, .inr (0, [.ref a1, .int n, .int lim, .ref a3, .ref a4, .ref a5])), (a1, .inl (c1, 32, .inl fw)), (a3, .inl (c3, 16, .inr (.inl fs))), (a4, .inl (c4, 32, .inr (.inl fc))), (a5, .inl (c5, 16, .inr (.inl fp)))] U.heap ∧ va_K (dC, dI) vwCl [(c1, .int), (c3, .long), (c4, .long), (c5, .long)] U ∧ va_D (fun _ => True) [(h0, .inr (0, [.ref a1, .int n, .int lim, .ref a3, .ref a4, .ref a5])), (a1, .inl (c1, 32, .inl fw)), (a3, .inl (c3, 16, .inr (.inl fs))), (a4, .inl (c4, 32, .inr (.inl fc))), (a5, .inl (c5, 16, .inr (.inl fp)))])) (va_Qv (fun u : Int32 => u = nI (tn_k p0 % 16)) (fun (u : Int32) (t : State) => va_P (dC, dI) vwCl [(h0, .inr (0, [.ref a1, .int n, .int u, .ref a3, .ref a4, .ref a5])), (a1, .inl (c1, 32, .inl fw)), (a3, .inl (c3, 16, .inr (.inl fs))), (a4, .inl (c4, 32, .inr (.inl fc))), (a5, .inl (c5, 16, .inr (.inl fp)))] t.heap ∧ va_K (dC, dI) vwCl [(c1, .int), (c3, .long), (c4, .long), (c5, .long)] t ∧ va_D (va_A [(h0, .inr (0, [.ref a1, .int n, .int lim, .ref a3, .ref a4, .ref a5])), (a1, .inl (c1, 32, .inl fw)), (a3, .inl (c3, 16, .inr (.inl fs))), (a4, .inl (c4, 32, .inr (.inl fc))), (a5, .inl (c5, 16, .inr (.inl fp)))] sz) [(h0, .inr (0, [.ref a1, .int n, .int u, .ref a3, .ref a4, .ref a5])), (a1, .inl (c1, 32, .inl fw)), (a3, .inl (c3, 16, .inr (.inl fs))), (a4, .inl (c4, 32, .inr (.inl fc))), (a5, .inl (c5, 16, .inr (.inl fp)))]) (va_A [(h0, .inr (0, [.ref a1, .int n, .int lim, .ref a3, .ref a4, .ref a5])), (a1, .inl (c1, 32, .inl fw)), (a3, .inl (c3, 16, .inr (.inl fs))), (a4, .inl (c4, 32, .inr (.inl fc))), (a5, .inl (c5, 16, .inr (.inl fp)))] sz)) 0 0 (va_A [(h0, .inr (0, [.ref a1, .int n, .int lim, .ref a3, .ref a4, .ref a5])), (a1, .inl (c1, 32, .inl fw)), (a3, .inl (c3, 16, .inr (.inl fs))), (a4, .inl (c4, 32, .inr (.inl fc))), (a5, .inl (c5, 16, .inr (.inl fp)))] sz) := by
  refine Met.ofW (cc := cX0_limit) (maxL := 2) (ret := none) (by decide) rfl ?_
  intro p e s m args below meth c s₁ B hml hv
  obtain ⟨rfl, hsz, hP, hK, hD0⟩ := hv
  have hx := B.exec
  have hb := B.bytes
  have hr := B.returns
  have hts := atoms_spec (ws := wsX0_limit) B.pre
  have hown : s.vm.findClass RX0 = some m.cls := findClass_of_methodNamed B.named
  have hlocks := B.notSynchronized
  subst hsz
  have hD := hD0.self (sz := s.heap.size)
  generalize hAe : va_A [(h0, .inr (0, [.ref a1, .int n, .int lim, .ref a3, .ref a4, .ref a5])), (a1, .inl (c1, 32, .inl fw)), (a3, .inl (c3, 16, .inr (.inl fs))), (a4, .inl (c4, 32, .inr (.inl fc))), (a5, .inl (c5, 16, .inr (.inl fp)))] s.heap.size = A at hD ⊢
  have hA : ∀ q : Nat, s.heap.size ≤ q → A q := fun q h => by rw [← hAe]; exact Or.inr h
  have hS : va_S A s.heap s.heap [] := va_S.rf
  have hP : va_P (dC, dI) vwCl [(h0, .inr (0, [.ref a1, .int n, .int lim, .ref a3, .ref a4, .ref a5])), (a1, .inl (c1, 32, .inl fw)), (a3, .inl (c3, 16, .inr (.inl fs))), (a4, .inl (c4, 32, .inr (.inl fc))), (a5, .inl (c5, 16, .inr (.inl fp)))] s.heap := hP
  have hl := lv_entry ([.ref h0, .int p0]) (n := 2) (Nat.le_of_ble_eq_true rfl)
  rw [lg_entry_eq]
  generalize (lg_sl ([.ref h0, .int p0]) ++ List.replicate (2 - (lg_sl ([.ref h0, .int p0])).length) Slot.unset).toArray = ls at hl ⊢
  have hl : lv_has ls 2 [(0, .ref h0), (1, .int p0)] := hl
  refine lv_aload_n hx hb dX0_limit_0 rfl (lv_at hl 0 rfl) ?_
  refine lv_iload_n hx hb dX0_limit_1 rfl (lv_at hl 1 rfl) ?_
  refine lv_ldc hx hb hown (hts _ mmX0_limit_0) dX0_limit_2 ?_
  refine lv_iand hx hb dX0_limit_4 ?_
  refine tw_i (nI (tn_k p0)) (tn_k_and p0) ?_
  refine lv_bipush (v := nI 16) hx hb dX0_limit_5 (by decide) ?_
  refine lv_irem hx hb dX0_limit_7 (by decide) ?_
  refine tw_i (nI (tn_k p0 % 16)) (tn_rem 16 (tn_k_lt p0) (by decide) (by decide)) ?_
  refine va_put (D := (dC, dI)) (ci := 0) (v := .int (nI (tn_k p0 % 16))) (ty := .int) (C := RX0) (T := TX0) (N := 6) hx hb hts hinX0_limit tyX0 tyX0_ok nmX0 hown hK hP hD hS 0 rfl rfl 2 (by decide) (hts _ mmX0_limit_1) (fun _ h9 => h9) rfl (by decide +kernel) rfl rfl (Nat.le_of_ble_eq_true rfl) dX0_limit_8 (fun H locs hP hD hS => ?_)
  have hP : va_P (dC, dI) vwCl [(h0, .inr (0, [.ref a1, .int n, .int (nI (tn_k p0 % 16)), .ref a3, .ref a4, .ref a5])), (a1, .inl (c1, 32, .inl fw)), (a3, .inl (c3, 16, .inr (.inl fs))), (a4, .inl (c4, 32, .inr (.inl fc))), (a5, .inl (c5, 16, .inr (.inl fp)))] H := hP
  have hD : va_D A [(h0, .inr (0, [.ref a1, .int n, .int (nI (tn_k p0 % 16)), .ref a3, .ref a4, .ref a5])), (a1, .inl (c1, 32, .inl fw)), (a3, .inl (c3, 16, .inr (.inl fs))), (a4, .inl (c4, 32, .inr (.inl fc))), (a5, .inl (c5, 16, .inr (.inl fp)))] := hD
  exact W.vret hx hb hr (fun t ht hW => ⟨⟨nI (tn_k p0 % 16), rfl, rfl, by rw [ht]; exact hP, va_K.moved hW.alike hK, hD⟩, hS.F ht⟩) hS.2.2 dX0_limit_11
set_option maxHeartbeats 4000000 in
set_option maxRecDepth 100000 in
/-- setWeight(i, value) -/
theorem c_X0_setWeight (l : Launch) (dC : Nat → ClassId) (dI : Nat → Nat → Nat) (h0 a1 a3 a4 a5 : Nat) (c1 c3 c4 c5 : ClassId) (n lim : Int32) (fw : Nat → Int32) (fs fc fp : Nat → Int64) (sz : Nat) (p0 p1 : Int32) : Met l yX0_setWeight wsX0_setWeight ({ frames := 0, cells := 0, slots := 0, locals := 0 }) (va_Pc [.ref h0, .int p0, .int p1] (fun U => U.heap.size = sz ∧ va_P (dC, dI) vwCl [(h0, .inr (0, [.ref a1, .int n, .int lim, .ref a3, .ref a4, .ref a5])), (a1, .inl (c1, 32, .inl fw)), (a3, .inl (c3, 16, .inr (.inl fs))), (a4, .inl (c4, 32, .inr (.inl fc))), (a5, .inl (c5, 16, .inr (.inl fp)))] U.heap ∧ va_K (dC, dI) vwCl [(c1, .int), (c3, .long), (c4, .long), (c5, .long)] U ∧ va_D (fun _ => True) [(h0, .inr (0, [.ref a1, .int n, .int lim, .ref a3, .ref a4, .ref a5])), (a1, .inl (c1, 32, .inl fw)), (a3, .inl (c3, 16, .inr (.inl fs))), (a4, .inl (c4, 32, .inr (.inl fc))), (a5, .inl (c5, 16, .inr (.inl fp)))])) (va_Qv (fun u : Nat → Int32 => u = upd fw (tn_p p0) (nI (tn_k p1))) (fun (u : Nat → Int32) (t : State) => va_P (dC, dI) vwCl [(h0, .inr (0, [.ref a1, .int n, .int lim, .ref a3, .ref a4, .ref a5])), (a1, .inl (c1, 32, .inl u)), (a3, .inl (c3, 16, .inr (.inl fs))), (a4, .inl (c4, 32, .inr (.inl fc))), (a5, .inl (c5, 16, .inr (.inl fp)))] t.heap ∧ va_K (dC, dI) vwCl [(c1, .int), (c3, .long), (c4, .long), (c5, .long)] t ∧ va_D (va_A [(h0, .inr (0, [.ref a1, .int n, .int lim, .ref a3, .ref a4, .ref a5])), (a1, .inl (c1, 32, .inl fw)), (a3, .inl (c3, 16, .inr (.inl fs))), (a4, .inl (c4, 32, .inr (.inl fc))), (a5, .inl (c5, 16, .inr (.inl fp)))] sz) [(h0, .inr (0, [.ref a1, .int n, .int lim, .ref a3, .ref a4, .ref a5])), (a1, .inl (c1, 32, .inl u)), (a3, .inl (c3, 16, .inr (.inl fs))), (a4, .inl (c4, 32, .inr (.inl fc))), (a5, .inl (c5, 16, .inr (.inl fp)))]) (va_A [(h0, .inr (0, [.ref a1, .int n, .int lim, .ref a3, .ref a4, .ref a5])), (a1, .inl (c1, 32, .inl fw)), (a3, .inl (c3, 16, .inr (.inl fs))), (a4, .inl (c4, 32, .inr (.inl fc))), (a5, .inl (c5, 16, .inr (.inl fp)))] sz)) 0 0 (va_A [(h0, .inr (0, [.ref a1, .int n, .int lim, .ref a3, .ref a4, .ref a5])), (a1, .inl (c1, 32, .inl fw)), (a3, .inl (c3, 16, .inr (.inl fs))), (a4, .inl (c4, 32, .inr (.inl fc))), (a5, .inl (c5, 16, .inr (.inl fp)))] sz) := by
  refine Met.ofW (cc := cX0_setWeight) (maxL := 4) (ret := none) (by decide) rfl ?_
  intro p e s m args below meth c s₁ B hml hv
  obtain ⟨rfl, hsz, hP, hK, hD0⟩ := hv
  have hx := B.exec
  have hb := B.bytes
  have hr := B.returns
  have hts := atoms_spec (ws := wsX0_setWeight) B.pre
  have hown : s.vm.findClass RX0 = some m.cls := findClass_of_methodNamed B.named
  have hlocks := B.notSynchronized
  subst hsz
  have hD := hD0.self (sz := s.heap.size)
  generalize hAe : va_A [(h0, .inr (0, [.ref a1, .int n, .int lim, .ref a3, .ref a4, .ref a5])), (a1, .inl (c1, 32, .inl fw)), (a3, .inl (c3, 16, .inr (.inl fs))), (a4, .inl (c4, 32, .inr (.inl fc))), (a5, .inl (c5, 16, .inr (.inl fp)))] s.heap.size = A at hD ⊢
  have hA : ∀ q : Nat, s.heap.size ≤ q → A q := fun q h => by rw [← hAe]; exact Or.inr h
  have hS : va_S A s.heap s.heap [] := va_S.rf
  have hP : va_P (dC, dI) vwCl [(h0, .inr (0, [.ref a1, .int n, .int lim, .ref a3, .ref a4, .ref a5])), (a1, .inl (c1, 32, .inl fw)), (a3, .inl (c3, 16, .inr (.inl fs))), (a4, .inl (c4, 32, .inr (.inl fc))), (a5, .inl (c5, 16, .inr (.inl fp)))] s.heap := hP
  have hl := lv_entry ([.ref h0, .int p0, .int p1]) (n := 4) (Nat.le_of_ble_eq_true rfl)
  rw [lg_entry_eq]
  generalize (lg_sl ([.ref h0, .int p0, .int p1]) ++ List.replicate (4 - (lg_sl ([.ref h0, .int p0, .int p1])).length) Slot.unset).toArray = ls at hl ⊢
  have hl : lv_has ls 4 [(0, .ref h0), (1, .int p0), (2, .int p1)] := hl
  have hlt := tn_p_lt p0
  refine lv_iload_n hx hb dX0_setWeight_0 rfl (lv_at hl 1 rfl) ?_
  refine lv_bipush (v := nI 31) hx hb dX0_setWeight_1 (by decide) ?_
  refine lv_iand hx hb dX0_setWeight_3 ?_
  refine tw_i (nI (tn_p p0)) (tn_p_and p0) ?_
  refine lv_istore_n (lv' := [(3, .int (nI (tn_p p0))), (0, .ref h0), (1, .int p0), (2, .int p1)]) hx hb dX0_setWeight_4 rfl hl (by decide) rfl (fun ls hl => ?_)
  refine lv_iload_n hx hb dX0_setWeight_5 rfl (lv_at hl 0 rfl) ?_
  refine lv_aload_n hx hb dX0_setWeight_6 rfl (lv_at hl 1 rfl) ?_
  refine va_get (D := (dC, dI)) (ci := 0) (v := .ref a1) (C := RX0) (T := TX0) (N := 6) hx hb hts hinX0_setWeight hown hK hP 0 rfl rfl 0 (by decide) (hts _ mmX0_setWeight_0) (fun _ h9 => h9) rfl dX0_setWeight_7 ?_
  refine va_alen hx hb hK hP 1 0 rfl rfl (v := nI 32) rfl dX0_setWeight_10 ?_
  refine tw_icmp_ge hx hb (tn_p p0) 32 (tgt := 24) dX0_setWeight_11 (by decide) (by omega) (by decide) (fun hc => ?_) (fun hc => ?_)
  · exact absurd hc (by omega)
  · refine lv_aload_n hx hb dX0_setWeight_14 rfl (lv_at hl 1 rfl) ?_
    refine va_get (D := (dC, dI)) (ci := 0) (v := .ref a1) (C := RX0) (T := TX0) (N := 6) hx hb hts hinX0_setWeight hown hK hP 0 rfl rfl 0 (by decide) (hts _ mmX0_setWeight_0) (fun _ h9 => h9) rfl dX0_setWeight_15 ?_
    refine lv_iload_n hx hb dX0_setWeight_18 rfl (lv_at hl 0 rfl) ?_
    refine lv_iload_n hx hb dX0_setWeight_19 rfl (lv_at hl 3 rfl) ?_
    refine lv_ldc hx hb hown (hts _ mmX0_setWeight_1) dX0_setWeight_20 ?_
    refine lv_iand hx hb dX0_setWeight_22 ?_
    refine tw_i (nI (tn_k p1)) (tn_k_and p1) ?_
    refine va_iast hx hb hK hP hD hS 1 0 rfl rfl (tn_in 32 (by omega) (by decide)) dX0_setWeight_23 (fun H locs hP hD hS => ?_)
    rw [tn_cl (show tn_p p0 < 2 ^ 31 by omega)] at hP hD
    have hP : va_P (dC, dI) vwCl [(h0, .inr (0, [.ref a1, .int n, .int lim, .ref a3, .ref a4, .ref a5])), (a1, .inl (c1, 32, .inl (upd fw (tn_p p0) (nI (tn_k p1))))), (a3, .inl (c3, 16, .inr (.inl fs))), (a4, .inl (c4, 32, .inr (.inl fc))), (a5, .inl (c5, 16, .inr (.inl fp)))] H := hP
    have hD : va_D A [(h0, .inr (0, [.ref a1, .int n, .int lim, .ref a3, .ref a4, .ref a5])), (a1, .inl (c1, 32, .inl (upd fw (tn_p p0) (nI (tn_k p1))))), (a3, .inl (c3, 16, .inr (.inl fs))), (a4, .inl (c4, 32, .inr (.inl fc))), (a5, .inl (c5, 16, .inr (.inl fp)))] := hD
    exact W.vret hx hb hr (fun t ht hW => ⟨⟨upd fw (tn_p p0) (nI (tn_k p1)), rfl, rfl, by rw [ht]; exact hP, va_K.moved hW.alike hK, hD⟩, hS.F ht⟩) hS.2.2 dX0_setWeight_24
set_option maxHeartbeats 4000000 in
set_option maxRecDepth 100000 in
/-- weight(i, a, b, c, d) -/
theorem c_X0_weight (l : Launch) (dC : Nat → ClassId) (dI : Nat → Nat → Nat) (h0 a1 a3 a4 a5 : Nat) (c1 c3 c4 c5 : ClassId) (n lim : Int32) (fw : Nat → Int32) (fs fc fp : Nat → Int64) (sz : Nat) (p0 p1 p2 p3 p4 : Int32) : Met l yX0_weight wsX0_weight ({ frames := 1, cells := 0, slots := 0, locals := 23 }) (va_Pc [.ref h0, .int p0, .int p1, .int p2, .int p3, .int p4] (fun U => U.heap.size = sz ∧ va_P (dC, dI) vwCl [(h0, .inr (0, [.ref a1, .int n, .int lim, .ref a3, .ref a4, .ref a5])), (a1, .inl (c1, 32, .inl fw)), (a3, .inl (c3, 16, .inr (.inl fs))), (a4, .inl (c4, 32, .inr (.inl fc))), (a5, .inl (c5, 16, .inr (.inl fp)))] U.heap ∧ va_K (dC, dI) vwCl [(c1, .int), (c3, .long), (c4, .long), (c5, .long)] U ∧ va_D (fun _ => True) [(h0, .inr (0, [.ref a1, .int n, .int lim, .ref a3, .ref a4, .ref a5])), (a1, .inl (c1, 32, .inl fw)), (a3, .inl (c3, 16, .inr (.inl fs))), (a4, .inl (c4, 32, .inr (.inl fc))), (a5, .inl (c5, 16, .inr (.inl fp)))])) (va_Qv (fun u : Nat → Int32 => u = tn_wt fw p0 p1 p2 p3 p4) (fun (u : Nat → Int32) (t : State) => va_P (dC, dI) vwCl [(h0, .inr (0, [.ref a1, .int n, .int lim, .ref a3, .ref a4, .ref a5])), (a1, .inl (c1, 32, .inl u)), (a3, .inl (c3, 16, .inr (.inl fs))), (a4, .inl (c4, 32, .inr (.inl fc))), (a5, .inl (c5, 16, .inr (.inl fp)))] t.heap ∧ va_K (dC, dI) vwCl [(c1, .int), (c3, .long), (c4, .long), (c5, .long)] t ∧ va_D (va_A [(h0, .inr (0, [.ref a1, .int n, .int lim, .ref a3, .ref a4, .ref a5])), (a1, .inl (c1, 32, .inl fw)), (a3, .inl (c3, 16, .inr (.inl fs))), (a4, .inl (c4, 32, .inr (.inl fc))), (a5, .inl (c5, 16, .inr (.inl fp)))] sz) [(h0, .inr (0, [.ref a1, .int n, .int lim, .ref a3, .ref a4, .ref a5])), (a1, .inl (c1, 32, .inl u)), (a3, .inl (c3, 16, .inr (.inl fs))), (a4, .inl (c4, 32, .inr (.inl fc))), (a5, .inl (c5, 16, .inr (.inl fp)))]) (va_A [(h0, .inr (0, [.ref a1, .int n, .int lim, .ref a3, .ref a4, .ref a5])), (a1, .inl (c1, 32, .inl fw)), (a3, .inl (c3, 16, .inr (.inl fs))), (a4, .inl (c4, 32, .inr (.inl fc))), (a5, .inl (c5, 16, .inr (.inl fp)))] sz)) 0 0 (va_A [(h0, .inr (0, [.ref a1, .int n, .int lim, .ref a3, .ref a4, .ref a5])), (a1, .inl (c1, 32, .inl fw)), (a3, .inl (c3, 16, .inr (.inl fs))), (a4, .inl (c4, 32, .inr (.inl fc))), (a5, .inl (c5, 16, .inr (.inl fp)))] sz) := by
  refine Met.ofW (cc := cX0_weight) (maxL := 6) (ret := none) (by decide) rfl ?_
  intro p e s m args below meth c s₁ B hml hv
  obtain ⟨rfl, hsz, hP, hK, hD0⟩ := hv
  have hx := B.exec
  have hb := B.bytes
  have hr := B.returns
  have hts := atoms_spec (ws := wsX0_weight) B.pre
  have hown : s.vm.findClass RX0 = some m.cls := findClass_of_methodNamed B.named
  have hlocks := B.notSynchronized
  subst hsz
  have hD := hD0.self (sz := s.heap.size)
  generalize hAe : va_A [(h0, .inr (0, [.ref a1, .int n, .int lim, .ref a3, .ref a4, .ref a5])), (a1, .inl (c1, 32, .inl fw)), (a3, .inl (c3, 16, .inr (.inl fs))), (a4, .inl (c4, 32, .inr (.inl fc))), (a5, .inl (c5, 16, .inr (.inl fp)))] s.heap.size = A at hD ⊢
  have hA : ∀ q : Nat, s.heap.size ≤ q → A q := fun q h => by rw [← hAe]; exact Or.inr h
  have hS : va_S A s.heap s.heap [] := va_S.rf
  have hP : va_P (dC, dI) vwCl [(h0, .inr (0, [.ref a1, .int n, .int lim, .ref a3, .ref a4, .ref a5])), (a1, .inl (c1, 32, .inl fw)), (a3, .inl (c3, 16, .inr (.inl fs))), (a4, .inl (c4, 32, .inr (.inl fc))), (a5, .inl (c5, 16, .inr (.inl fp)))] s.heap := hP
  have hl := lv_entry ([.ref h0, .int p0, .int p1, .int p2, .int p3, .int p4]) (n := 6) (Nat.le_of_ble_eq_true rfl)
  rw [lg_entry_eq]
  generalize (lg_sl ([.ref h0, .int p0, .int p1, .int p2, .int p3, .int p4]) ++ List.replicate (6 - (lg_sl ([.ref h0, .int p0, .int p1, .int p2, .int p3, .int p4])).length) Slot.unset).toArray = ls at hl ⊢
  have hl : lv_has ls 6 [(0, .ref h0), (1, .int p0), (2, .int p1), (3, .int p2), (4, .int p3), (5, .int p4)] := hl
  refine lv_aload_n hx hb dX0_weight_0 rfl (lv_at hl 0 rfl) ?_
  refine lv_iload_n hx hb dX0_weight_1 rfl (lv_at hl 1 rfl) ?_
  refine lv_iload_n hx hb dX0_weight_2 rfl (lv_at hl 2 rfl) ?_
  have hFc := va_free (wc := [(h0, .inr (0, [.ref a1, .int n, .int lim, .ref a3, .ref a4, .ref a5])), (a1, .inl (c1, 32, .inl fw)), (a3, .inl (c3, 16, .inr (.inl fs))), (a4, .inl (c4, 32, .inr (.inl fc))), (a5, .inl (c5, 16, .inr (.inl fp)))]) hD hS hA [0, 1, 2, 3, 4] rfl
  refine va_callv (va_runV (As := [.int p0, .int p1]) (rest := []) ⟨hx, hb, hml, hown, hts⟩ (c_X0_setWeight l dC dI h0 a1 a3 a4 a5 c1 c3 c4 c5 n lim fw fs fc fp s.heap.size p0 p1) (cwV 2 hts gX0_weight_X0_setWeight rfl rfl rfl (by decide +kernel) ⟨Nat.le_of_ble_eq_true rfl, Nat.le_of_ble_eq_true rfl⟩) ⟨fun a U g mk q => by obtain ⟨q0, q1, qP, qK, qD⟩ := q; exact ⟨q0, q1, qP, va_K.moved (u := U) (U := U.calling g mk a) (Vm.Alike.refl U.vm) qK, qD⟩, va_recv hK hP (ci := 0) (q0 := 0) rfl rfl, fun U hU hW => ⟨rfl, by rw [hU], by rw [hU]; exact hP, va_K.moved hW.alike hK, hD.weaken (fun _ _ _ _ => trivial)⟩⟩ rfl rfl hl.1 rfl (lv_room (Nat.le_of_ble_eq_true rfl)) dX0_weight_3 ⟨(Nat.zero_le _), (Nat.zero_le _)⟩) hS (fun q _ h => hFc q h) hFc (fun u t H1 locs ht hvm hw hB hz1 hk1 hS => ?_)
  obtain ⟨f0, ef0⟩ : ∃ z, z = u := ⟨_, rfl⟩
  rw [← ef0] at hw hB
  obtain ⟨hP1, hK1, hD1⟩ := hB
  rw [ht] at hP1
  have hK1 := va_K.moved hvm.symm hK1
  obtain ⟨hP, hD⟩ := va_join (wr := []) (w1 := [(h0, .inr (0, [.ref a1, .int n, .int lim, .ref a3, .ref a4, .ref a5])), (a1, .inl (c1, 32, .inl f0)), (a3, .inl (c3, 16, .inr (.inl fs))), (a4, .inl (c4, 32, .inr (.inl fc))), (a5, .inl (c5, 16, .inr (.inl fp)))]) hP hD [0, 1, 2, 3, 4] [] rfl rfl (by decide) (by decide) hk1 hFc hP1 hD1
  generalize H1 = H at hP hS ⊢
  have hP : va_P (dC, dI) vwCl [(h0, .inr (0, [.ref a1, .int n, .int lim, .ref a3, .ref a4, .ref a5])), (a1, .inl (c1, 32, .inl f0)), (a3, .inl (c3, 16, .inr (.inl fs))), (a4, .inl (c4, 32, .inr (.inl fc))), (a5, .inl (c5, 16, .inr (.inl fp)))] H := hP
  have hD : va_D A [(h0, .inr (0, [.ref a1, .int n, .int lim, .ref a3, .ref a4, .ref a5])), (a1, .inl (c1, 32, .inl f0)), (a3, .inl (c3, 16, .inr (.inl fs))), (a4, .inl (c4, 32, .inr (.inl fc))), (a5, .inl (c5, 16, .inr (.inl fp)))] := hD
  have ef0 := hw
  refine lv_aload_n hx hb dX0_weight_6 rfl (lv_at hl 0 rfl) ?_
  refine lv_iload_n hx hb dX0_weight_7 rfl (lv_at hl 1 rfl) ?_
  refine lv_iconst (v := nI 1) hx hb dX0_weight_8 (by decide) ?_
  refine lv_iadd hx hb dX0_weight_9 ?_
  refine tw_i (p0 + nI 1) (rfl) ?_
  refine lv_iload_n hx hb dX0_weight_10 rfl (lv_at hl 3 rfl) ?_
  have hFc := va_free (wc := [(h0, .inr (0, [.ref a1, .int n, .int lim, .ref a3, .ref a4, .ref a5])), (a1, .inl (c1, 32, .inl f0)), (a3, .inl (c3, 16, .inr (.inl fs))), (a4, .inl (c4, 32, .inr (.inl fc))), (a5, .inl (c5, 16, .inr (.inl fp)))]) hD hS hA [0, 1, 2, 3, 4] rfl
  refine va_callv (va_runV (As := [.int (p0 + nI 1), .int p2]) (rest := []) ⟨hx, hb, hml, hown, hts⟩ (c_X0_setWeight l dC dI h0 a1 a3 a4 a5 c1 c3 c4 c5 n lim f0 fs fc fp H.size (p0 + nI 1) p2) (cwV 2 hts gX0_weight_X0_setWeight rfl rfl rfl (by decide +kernel) ⟨Nat.le_of_ble_eq_true rfl, Nat.le_of_ble_eq_true rfl⟩) ⟨fun a U g mk q => by obtain ⟨q0, q1, qP, qK, qD⟩ := q; exact ⟨q0, q1, qP, va_K.moved (u := U) (U := U.calling g mk a) (Vm.Alike.refl U.vm) qK, qD⟩, va_recv hK hP (ci := 0) (q0 := 0) rfl rfl, fun U hU hW => ⟨rfl, by rw [hU], by rw [hU]; exact hP, va_K.moved hW.alike hK, hD.weaken (fun _ _ _ _ => trivial)⟩⟩ rfl rfl hl.1 rfl (lv_room (Nat.le_of_ble_eq_true rfl)) dX0_weight_11 ⟨(Nat.zero_le _), (Nat.zero_le _)⟩) hS (fun q _ h => hFc q h) hFc (fun u t H1 locs ht hvm hw hB hz1 hk1 hS => ?_)
  obtain ⟨f1, ef1⟩ : ∃ z, z = u := ⟨_, rfl⟩
  rw [← ef1] at hw hB
  obtain ⟨hP1, hK1, hD1⟩ := hB
  rw [ht] at hP1
  have hK1 := va_K.moved hvm.symm hK1
  obtain ⟨hP, hD⟩ := va_join (wr := []) (w1 := [(h0, .inr (0, [.ref a1, .int n, .int lim, .ref a3, .ref a4, .ref a5])), (a1, .inl (c1, 32, .inl f1)), (a3, .inl (c3, 16, .inr (.inl fs))), (a4, .inl (c4, 32, .inr (.inl fc))), (a5, .inl (c5, 16, .inr (.inl fp)))]) hP hD [0, 1, 2, 3, 4] [] rfl rfl (by decide) (by decide) hk1 hFc hP1 hD1
  generalize H1 = H at hP hS ⊢
  have hP : va_P (dC, dI) vwCl [(h0, .inr (0, [.ref a1, .int n, .int lim, .ref a3, .ref a4, .ref a5])), (a1, .inl (c1, 32, .inl f1)), (a3, .inl (c3, 16, .inr (.inl fs))), (a4, .inl (c4, 32, .inr (.inl fc))), (a5, .inl (c5, 16, .inr (.inl fp)))] H := hP
  have hD : va_D A [(h0, .inr (0, [.ref a1, .int n, .int lim, .ref a3, .ref a4, .ref a5])), (a1, .inl (c1, 32, .inl f1)), (a3, .inl (c3, 16, .inr (.inl fs))), (a4, .inl (c4, 32, .inr (.inl fc))), (a5, .inl (c5, 16, .inr (.inl fp)))] := hD
  have ef1 := hw
  refine lv_aload_n hx hb dX0_weight_14 rfl (lv_at hl 0 rfl) ?_
  refine lv_iload_n hx hb dX0_weight_15 rfl (lv_at hl 1 rfl) ?_
  refine lv_iconst (v := nI 2) hx hb dX0_weight_16 (by decide) ?_
  refine lv_iadd hx hb dX0_weight_17 ?_
  refine tw_i (p0 + nI 2) (rfl) ?_
  refine lv_iload hx hb dX0_weight_18 (lv_at hl 4 rfl) ?_
  have hFc := va_free (wc := [(h0, .inr (0, [.ref a1, .int n, .int lim, .ref a3, .ref a4, .ref a5])), (a1, .inl (c1, 32, .inl f1)), (a3, .inl (c3, 16, .inr (.inl fs))), (a4, .inl (c4, 32, .inr (.inl fc))), (a5, .inl (c5, 16, .inr (.inl fp)))]) hD hS hA [0, 1, 2, 3, 4] rfl
  refine va_callv (va_runV (As := [.int (p0 + nI 2), .int p3]) (rest := []) ⟨hx, hb, hml, hown, hts⟩ (c_X0_setWeight l dC dI h0 a1 a3 a4 a5 c1 c3 c4 c5 n lim f1 fs fc fp H.size (p0 + nI 2) p3) (cwV 2 hts gX0_weight_X0_setWeight rfl rfl rfl (by decide +kernel) ⟨Nat.le_of_ble_eq_true rfl, Nat.le_of_ble_eq_true rfl⟩) ⟨fun a U g mk q => by obtain ⟨q0, q1, qP, qK, qD⟩ := q; exact ⟨q0, q1, qP, va_K.moved (u := U) (U := U.calling g mk a) (Vm.Alike.refl U.vm) qK, qD⟩, va_recv hK hP (ci := 0) (q0 := 0) rfl rfl, fun U hU hW => ⟨rfl, by rw [hU], by rw [hU]; exact hP, va_K.moved hW.alike hK, hD.weaken (fun _ _ _ _ => trivial)⟩⟩ rfl rfl hl.1 rfl (lv_room (Nat.le_of_ble_eq_true rfl)) dX0_weight_20 ⟨(Nat.zero_le _), (Nat.zero_le _)⟩) hS (fun q _ h => hFc q h) hFc (fun u t H1 locs ht hvm hw hB hz1 hk1 hS => ?_)
  obtain ⟨f2, ef2⟩ : ∃ z, z = u := ⟨_, rfl⟩
  rw [← ef2] at hw hB
  obtain ⟨hP1, hK1, hD1⟩ := hB
  rw [ht] at hP1
  have hK1 := va_K.moved hvm.symm hK1
  obtain ⟨hP, hD⟩ := va_join (wr := []) (w1 := [(h0, .inr (0, [.ref a1, .int n, .int lim, .ref a3, .ref a4, .ref a5])), (a1, .inl (c1, 32, .inl f2)), (a3, .inl (c3, 16, .inr (.inl fs))), (a4, .inl (c4, 32, .inr (.inl fc))), (a5, .inl (c5, 16, .inr (.inl fp)))]) hP hD [0, 1, 2, 3, 4] [] rfl rfl (by decide) (by decide) hk1 hFc hP1 hD1
  generalize H1 = H at hP hS ⊢
  have hP : va_P (dC, dI) vwCl [(h0, .inr (0, [.ref a1, .int n, .int lim, .ref a3, .ref a4, .ref a5])), (a1, .inl (c1, 32, .inl f2)), (a3, .inl (c3, 16, .inr (.inl fs))), (a4, .inl (c4, 32, .inr (.inl fc))), (a5, .inl (c5, 16, .inr (.inl fp)))] H := hP
  have hD : va_D A [(h0, .inr (0, [.ref a1, .int n, .int lim, .ref a3, .ref a4, .ref a5])), (a1, .inl (c1, 32, .inl f2)), (a3, .inl (c3, 16, .inr (.inl fs))), (a4, .inl (c4, 32, .inr (.inl fc))), (a5, .inl (c5, 16, .inr (.inl fp)))] := hD
  have ef2 := hw
  refine lv_aload_n hx hb dX0_weight_23 rfl (lv_at hl 0 rfl) ?_
  refine lv_iload_n hx hb dX0_weight_24 rfl (lv_at hl 1 rfl) ?_
  refine lv_iconst (v := nI 3) hx hb dX0_weight_25 (by decide) ?_
  refine lv_iadd hx hb dX0_weight_26 ?_
  refine tw_i (p0 + nI 3) (rfl) ?_
  refine lv_iload hx hb dX0_weight_27 (lv_at hl 5 rfl) ?_
  have hFc := va_free (wc := [(h0, .inr (0, [.ref a1, .int n, .int lim, .ref a3, .ref a4, .ref a5])), (a1, .inl (c1, 32, .inl f2)), (a3, .inl (c3, 16, .inr (.inl fs))), (a4, .inl (c4, 32, .inr (.inl fc))), (a5, .inl (c5, 16, .inr (.inl fp)))]) hD hS hA [0, 1, 2, 3, 4] rfl
  refine va_callv (va_runV (As := [.int (p0 + nI 3), .int p4]) (rest := []) ⟨hx, hb, hml, hown, hts⟩ (c_X0_setWeight l dC dI h0 a1 a3 a4 a5 c1 c3 c4 c5 n lim f2 fs fc fp H.size (p0 + nI 3) p4) (cwV 2 hts gX0_weight_X0_setWeight rfl rfl rfl (by decide +kernel) ⟨Nat.le_of_ble_eq_true rfl, Nat.le_of_ble_eq_true rfl⟩) ⟨fun a U g mk q => by obtain ⟨q0, q1, qP, qK, qD⟩ := q; exact ⟨q0, q1, qP, va_K.moved (u := U) (U := U.calling g mk a) (Vm.Alike.refl U.vm) qK, qD⟩, va_recv hK hP (ci := 0) (q0 := 0) rfl rfl, fun U hU hW => ⟨rfl, by rw [hU], by rw [hU]; exact hP, va_K.moved hW.alike hK, hD.weaken (fun _ _ _ _ => trivial)⟩⟩ rfl rfl hl.1 rfl (lv_room (Nat.le_of_ble_eq_true rfl)) dX0_weight_29 ⟨(Nat.zero_le _), (Nat.zero_le _)⟩) hS (fun q _ h => hFc q h) hFc (fun u t H1 locs ht hvm hw hB hz1 hk1 hS => ?_)
  obtain ⟨f3, ef3⟩ : ∃ z, z = u := ⟨_, rfl⟩
  rw [← ef3] at hw hB
  obtain ⟨hP1, hK1, hD1⟩ := hB
  rw [ht] at hP1
  have hK1 := va_K.moved hvm.symm hK1
  obtain ⟨hP, hD⟩ := va_join (wr := []) (w1 := [(h0, .inr (0, [.ref a1, .int n, .int lim, .ref a3, .ref a4, .ref a5])), (a1, .inl (c1, 32, .inl f3)), (a3, .inl (c3, 16, .inr (.inl fs))), (a4, .inl (c4, 32, .inr (.inl fc))), (a5, .inl (c5, 16, .inr (.inl fp)))]) hP hD [0, 1, 2, 3, 4] [] rfl rfl (by decide) (by decide) hk1 hFc hP1 hD1
  generalize H1 = H at hP hS ⊢
  have hP : va_P (dC, dI) vwCl [(h0, .inr (0, [.ref a1, .int n, .int lim, .ref a3, .ref a4, .ref a5])), (a1, .inl (c1, 32, .inl f3)), (a3, .inl (c3, 16, .inr (.inl fs))), (a4, .inl (c4, 32, .inr (.inl fc))), (a5, .inl (c5, 16, .inr (.inl fp)))] H := hP
  have hD : va_D A [(h0, .inr (0, [.ref a1, .int n, .int lim, .ref a3, .ref a4, .ref a5])), (a1, .inl (c1, 32, .inl f3)), (a3, .inl (c3, 16, .inr (.inl fs))), (a4, .inl (c4, 32, .inr (.inl fc))), (a5, .inl (c5, 16, .inr (.inl fp)))] := hD
  have ef3 := hw
  exact W.vret hx hb hr (fun t ht hW => ⟨⟨f3, rfl, by rw [ef3, ef2, ef1, ef0]; rfl, by rw [ht]; exact hP, va_K.moved hW.alike hK, hD⟩, hS.F ht⟩) hS.2.2 dX0_weight_32
set_option maxHeartbeats 4000000 in
set_option maxRecDepth 100000 in
/-- TrimCodes() -/
theorem c_X0_init (l : Launch) (dC : Nat → ClassId) (dI : Nat → Nat → Nat) (h0 : Nat) (sz : Nat)  : Met l yX0_init wsX0_init ({ frames := 1, cells := 4, slots := 96, locals := 12 }) (va_Pc [.ref h0] (fun U => U.heap.size = sz ∧ va_P (dC, dI) vwCl [(h0, .inr (0, [.null, .int 0, .int 0, .null, .null, .null]))] U.heap ∧ va_K (dC, dI) vwCl [] U ∧ va_D (fun _ => True) [(h0, .inr (0, [.null, .int 0, .int 0, .null, .null, .null]))])) (va_Qv (fun _ : Unit => True) (fun (_ : Unit) (t : State) => ∃ (a1 a3 a4 a5 : Nat) (c1 c3 c4 c5 : ClassId), va_P (dC, dI) vwCl [(h0, .inr (0, [.ref a1, .int (nI 2), .int (nI 5), .ref a3, .ref a4, .ref a5])), (a1, .inl (c1, 32, .inl (fun _ => 0))), (a3, .inl (c3, 16, .inr (.inl (fun _ => 0)))), (a4, .inl (c4, 32, .inr (.inl (fun _ => 0)))), (a5, .inl (c5, 16, .inr (.inl (fun _ => 0))))] t.heap ∧ va_K (dC, dI) vwCl [(c1, .int), (c3, .long), (c4, .long), (c5, .long)] t ∧ va_D (va_A [(h0, .inr (0, [.null, .int 0, .int 0, .null, .null, .null]))] sz) [(h0, .inr (0, [.ref a1, .int (nI 2), .int (nI 5), .ref a3, .ref a4, .ref a5])), (a1, .inl (c1, 32, .inl (fun _ => 0))), (a3, .inl (c3, 16, .inr (.inl (fun _ => 0)))), (a4, .inl (c4, 32, .inr (.inl (fun _ => 0)))), (a5, .inl (c5, 16, .inr (.inl (fun _ => 0))))]) (va_A [(h0, .inr (0, [.null, .int 0, .int 0, .null, .null, .null]))] sz)) 4 96 (va_A [(h0, .inr (0, [.null, .int 0, .int 0, .null, .null, .null]))] sz) := by
  refine Met.ofW (cc := cX0_init) (maxL := 1) (ret := none) (by decide) rfl ?_
  intro p e s m args below meth c s₁ B hml hv
  obtain ⟨rfl, hsz, hP, hK, hD0⟩ := hv
  have hx := B.exec
  have hb := B.bytes
  have hr := B.returns
  have hts := atoms_spec (ws := wsX0_init) B.pre
  have hown : s.vm.findClass RX0 = some m.cls := findClass_of_methodNamed B.named
  have hlocks := B.notSynchronized
  have hin2 : meth.name = "<init>" := (name_of_methodNamed B.named B.method).1
  subst hsz
  have hD := hD0.self (sz := s.heap.size)
  generalize hAe : va_A [(h0, .inr (0, [.null, .int 0, .int 0, .null, .null, .null]))] s.heap.size = A at hD ⊢
  have hA : ∀ q : Nat, s.heap.size ≤ q → A q := fun q h => by rw [← hAe]; exact Or.inr h
  have hS : va_S A s.heap s.heap [] := va_S.rf
  have hP : va_P (dC, dI) vwCl [(h0, .inr (0, [.null, .int 0, .int 0, .null, .null, .null]))] s.heap := hP
  have hl := lv_entry ([.ref h0]) (n := 1) (Nat.le_of_ble_eq_true rfl)
  rw [lg_entry_eq]
  generalize (lg_sl ([.ref h0]) ++ List.replicate (1 - (lg_sl ([.ref h0])).length) Slot.unset).toArray = ls at hl ⊢
  have hl : lv_has ls 1 [(0, .ref h0)] := hl
  refine lv_aload_n hx hb dX0_init_0 rfl (lv_at hl 0 rfl) ?_
  refine W.objInit hx hb hown (hts (.methodLink RX0 1 objectInit) mmX0_init_0) (hts (.instanceMethod objectInit) mmX0_init_1) (hts _ (List.mem_cons_of_mem _ (List.mem_append_left _ (List.mem_of_getElem? (i := 2) rfl)))) rfl (by rw [hml]; exact hl.1) rfl dX0_init_1 (Nat.le_of_ble_eq_true rfl) (Nat.le_of_ble_eq_true rfl) ?_
  refine W.eq (g2 := F0 m 4 ls []) rfl ?_
  refine lv_aload_n hx hb dX0_init_4 rfl (lv_at hl 0 rfl) ?_
  refine lv_bipush (v := nI 32) hx hb dX0_init_5 (by decide) ?_
  refine va_newa hx hb (atype := .int) (hts (.arrayClass .int) mmX0_init_2) (ty := .int) rfl hK hP hD hS hA (n := nI 32) (N' := 32) (a0 := (32, .inl (fun _ => 0))) (fun cA => rfl) (by decide) (tn_cl (by decide)) (Nat.le_of_ble_eq_true rfl) (Nat.le_of_ble_eq_true rfl) (Nat.le_of_ble_eq_true rfl) dX0_init_7 (fun a1 c1 H hK hP hD hS => ?_)
  have hP : va_P (dC, dI) vwCl [(h0, .inr (0, [.null, .int 0, .int 0, .null, .null, .null])), (a1, .inl (c1, 32, .inl (fun _ => 0)))] H := hP
  have hD : va_D A [(h0, .inr (0, [.null, .int 0, .int 0, .null, .null, .null])), (a1, .inl (c1, 32, .inl (fun _ => 0)))] := hD
  have hK : va_K (dC, dI) vwCl [(c1, .int)] s := hK
  refine W.widen (k := 1) (n := 32) (Nat.le_of_ble_eq_true rfl) (Nat.le_of_ble_eq_true rfl) ?_
  refine va_putF (D := (dC, dI)) (ci := 0) (v := .ref a1) (ty := .array .int) (C := RX0) (T := TX0) (N := 6) hx hb hts hinX0_init tyX0 tyX0_ok nmX0 hown hK hP hD hS 0 rfl rfl 0 (by decide) (hts _ mmX0_init_3) (fun _ h9 => h9) rfl hin2 rfl (by decide +kernel) rfl rfl (Nat.le_of_ble_eq_true rfl) dX0_init_9 (fun H locs hP hD hS => ?_)
  have hP : va_P (dC, dI) vwCl [(h0, .inr (0, [.ref a1, .int 0, .int 0, .null, .null, .null])), (a1, .inl (c1, 32, .inl (fun _ => 0)))] H := hP
  have hD : va_D A [(h0, .inr (0, [.ref a1, .int 0, .int 0, .null, .null, .null])), (a1, .inl (c1, 32, .inl (fun _ => 0)))] := hD
  refine lv_aload_n hx hb dX0_init_12 rfl (lv_at hl 0 rfl) ?_
  refine lv_iconst (v := nI 2) hx hb dX0_init_13 (by decide) ?_
  refine va_put (D := (dC, dI)) (ci := 0) (v := .int (nI 2)) (ty := .int) (C := RX0) (T := TX0) (N := 6) hx hb hts hinX0_init tyX0 tyX0_ok nmX0 hown hK hP hD hS 0 rfl rfl 1 (by decide) (hts _ mmX0_init_4) (fun _ h9 => h9) rfl (by decide +kernel) rfl rfl (Nat.le_of_ble_eq_true rfl) dX0_init_14 (fun H locs hP hD hS => ?_)
  have hP : va_P (dC, dI) vwCl [(h0, .inr (0, [.ref a1, .int (nI 2), .int 0, .null, .null, .null])), (a1, .inl (c1, 32, .inl (fun _ => 0)))] H := hP
  have hD : va_D A [(h0, .inr (0, [.ref a1, .int (nI 2), .int 0, .null, .null, .null])), (a1, .inl (c1, 32, .inl (fun _ => 0)))] := hD
  refine lv_aload_n hx hb dX0_init_17 rfl (lv_at hl 0 rfl) ?_
  refine lv_iconst (v := nI 5) hx hb dX0_init_18 (by decide) ?_
  refine va_put (D := (dC, dI)) (ci := 0) (v := .int (nI 5)) (ty := .int) (C := RX0) (T := TX0) (N := 6) hx hb hts hinX0_init tyX0 tyX0_ok nmX0 hown hK hP hD hS 0 rfl rfl 2 (by decide) (hts _ mmX0_init_5) (fun _ h9 => h9) rfl (by decide +kernel) rfl rfl (Nat.le_of_ble_eq_true rfl) dX0_init_19 (fun H locs hP hD hS => ?_)
  have hP : va_P (dC, dI) vwCl [(h0, .inr (0, [.ref a1, .int (nI 2), .int (nI 5), .null, .null, .null])), (a1, .inl (c1, 32, .inl (fun _ => 0)))] H := hP
  have hD : va_D A [(h0, .inr (0, [.ref a1, .int (nI 2), .int (nI 5), .null, .null, .null])), (a1, .inl (c1, 32, .inl (fun _ => 0)))] := hD
  refine lv_aload_n hx hb dX0_init_22 rfl (lv_at hl 0 rfl) ?_
  refine lv_bipush (v := nI 16) hx hb dX0_init_23 (by decide) ?_
  refine va_newa hx hb (atype := .long) (hts (.arrayClass .long) mmX0_init_6) (ty := .long) rfl hK hP hD hS hA (n := nI 16) (N' := 16) (a0 := (16, .inr (.inl (fun _ => 0)))) (fun cA => rfl) (by decide) (tn_cl (by decide)) (Nat.le_of_ble_eq_true rfl) (Nat.le_of_ble_eq_true rfl) (Nat.le_of_ble_eq_true rfl) dX0_init_25 (fun a3 c3 H hK hP hD hS => ?_)
  have hP : va_P (dC, dI) vwCl [(h0, .inr (0, [.ref a1, .int (nI 2), .int (nI 5), .null, .null, .null])), (a1, .inl (c1, 32, .inl (fun _ => 0))), (a3, .inl (c3, 16, .inr (.inl (fun _ => 0))))] H := hP
  have hD : va_D A [(h0, .inr (0, [.ref a1, .int (nI 2), .int (nI 5), .null, .null, .null])), (a1, .inl (c1, 32, .inl (fun _ => 0))), (a3, .inl (c3, 16, .inr (.inl (fun _ => 0))))] := hD
  have hK : va_K (dC, dI) vwCl [(c1, .int), (c3, .long)] s := hK
  refine W.widen (k := 2) (n := 48) (Nat.le_of_ble_eq_true rfl) (Nat.le_of_ble_eq_true rfl) ?_
  refine va_putF (D := (dC, dI)) (ci := 0) (v := .ref a3) (ty := .array .long) (C := RX0) (T := TX0) (N := 6) hx hb hts hinX0_init tyX0 tyX0_ok nmX0 hown hK hP hD hS 0 rfl rfl 3 (by decide) (hts _ mmX0_init_7) (fun _ h9 => h9) rfl hin2 rfl (by decide +kernel) rfl rfl (Nat.le_of_ble_eq_true rfl) dX0_init_27 (fun H locs hP hD hS => ?_)
  have hP : va_P (dC, dI) vwCl [(h0, .inr (0, [.ref a1, .int (nI 2), .int (nI 5), .ref a3, .null, .null])), (a1, .inl (c1, 32, .inl (fun _ => 0))), (a3, .inl (c3, 16, .inr (.inl (fun _ => 0))))] H := hP
  have hD : va_D A [(h0, .inr (0, [.ref a1, .int (nI 2), .int (nI 5), .ref a3, .null, .null])), (a1, .inl (c1, 32, .inl (fun _ => 0))), (a3, .inl (c3, 16, .inr (.inl (fun _ => 0))))] := hD
  refine lv_aload_n hx hb dX0_init_30 rfl (lv_at hl 0 rfl) ?_
  refine lv_bipush (v := nI 32) hx hb dX0_init_31 (by decide) ?_
  refine va_newa hx hb (atype := .long) (hts (.arrayClass .long) mmX0_init_6) (ty := .long) rfl hK hP hD hS hA (n := nI 32) (N' := 32) (a0 := (32, .inr (.inl (fun _ => 0)))) (fun cA => rfl) (by decide) (tn_cl (by decide)) (Nat.le_of_ble_eq_true rfl) (Nat.le_of_ble_eq_true rfl) (Nat.le_of_ble_eq_true rfl) dX0_init_33 (fun a4 c4 H hK hP hD hS => ?_)
  have hP : va_P (dC, dI) vwCl [(h0, .inr (0, [.ref a1, .int (nI 2), .int (nI 5), .ref a3, .null, .null])), (a1, .inl (c1, 32, .inl (fun _ => 0))), (a3, .inl (c3, 16, .inr (.inl (fun _ => 0)))), (a4, .inl (c4, 32, .inr (.inl (fun _ => 0))))] H := hP
  have hD : va_D A [(h0, .inr (0, [.ref a1, .int (nI 2), .int (nI 5), .ref a3, .null, .null])), (a1, .inl (c1, 32, .inl (fun _ => 0))), (a3, .inl (c3, 16, .inr (.inl (fun _ => 0)))), (a4, .inl (c4, 32, .inr (.inl (fun _ => 0))))] := hD
  have hK : va_K (dC, dI) vwCl [(c1, .int), (c3, .long), (c4, .long)] s := hK
  refine W.widen (k := 3) (n := 80) (Nat.le_of_ble_eq_true rfl) (Nat.le_of_ble_eq_true rfl) ?_
  refine va_putF (D := (dC, dI)) (ci := 0) (v := .ref a4) (ty := .array .long) (C := RX0) (T := TX0) (N := 6) hx hb hts hinX0_init tyX0 tyX0_ok nmX0 hown hK hP hD hS 0 rfl rfl 4 (by decide) (hts _ mmX0_init_8) (fun _ h9 => h9) rfl hin2 rfl (by decide +kernel) rfl rfl (Nat.le_of_ble_eq_true rfl) dX0_init_35 (fun H locs hP hD hS => ?_)
  have hP : va_P (dC, dI) vwCl [(h0, .inr (0, [.ref a1, .int (nI 2), .int (nI 5), .ref a3, .ref a4, .null])), (a1, .inl (c1, 32, .inl (fun _ => 0))), (a3, .inl (c3, 16, .inr (.inl (fun _ => 0)))), (a4, .inl (c4, 32, .inr (.inl (fun _ => 0))))] H := hP
  have hD : va_D A [(h0, .inr (0, [.ref a1, .int (nI 2), .int (nI 5), .ref a3, .ref a4, .null])), (a1, .inl (c1, 32, .inl (fun _ => 0))), (a3, .inl (c3, 16, .inr (.inl (fun _ => 0)))), (a4, .inl (c4, 32, .inr (.inl (fun _ => 0))))] := hD
  refine lv_aload_n hx hb dX0_init_38 rfl (lv_at hl 0 rfl) ?_
  refine lv_bipush (v := nI 16) hx hb dX0_init_39 (by decide) ?_
  refine va_newa hx hb (atype := .long) (hts (.arrayClass .long) mmX0_init_6) (ty := .long) rfl hK hP hD hS hA (n := nI 16) (N' := 16) (a0 := (16, .inr (.inl (fun _ => 0)))) (fun cA => rfl) (by decide) (tn_cl (by decide)) (Nat.le_of_ble_eq_true rfl) (Nat.le_of_ble_eq_true rfl) (Nat.le_of_ble_eq_true rfl) dX0_init_41 (fun a5 c5 H hK hP hD hS => ?_)
  have hP : va_P (dC, dI) vwCl [(h0, .inr (0, [.ref a1, .int (nI 2), .int (nI 5), .ref a3, .ref a4, .null])), (a1, .inl (c1, 32, .inl (fun _ => 0))), (a3, .inl (c3, 16, .inr (.inl (fun _ => 0)))), (a4, .inl (c4, 32, .inr (.inl (fun _ => 0)))), (a5, .inl (c5, 16, .inr (.inl (fun _ => 0))))] H := hP
  have hD : va_D A [(h0, .inr (0, [.ref a1, .int (nI 2), .int (nI 5), .ref a3, .ref a4, .null])), (a1, .inl (c1, 32, .inl (fun _ => 0))), (a3, .inl (c3, 16, .inr (.inl (fun _ => 0)))), (a4, .inl (c4, 32, .inr (.inl (fun _ => 0)))), (a5, .inl (c5, 16, .inr (.inl (fun _ => 0))))] := hD
  have hK : va_K (dC, dI) vwCl [(c1, .int), (c3, .long), (c4, .long), (c5, .long)] s := hK
  refine W.widen (k := 4) (n := 96) (Nat.le_of_ble_eq_true rfl) (Nat.le_of_ble_eq_true rfl) ?_
  refine va_putF (D := (dC, dI)) (ci := 0) (v := .ref a5) (ty := .array .long) (C := RX0) (T := TX0) (N := 6) hx hb hts hinX0_init tyX0 tyX0_ok nmX0 hown hK hP hD hS 0 rfl rfl 5 (by decide) (hts _ mmX0_init_9) (fun _ h9 => h9) rfl hin2 rfl (by decide +kernel) rfl rfl (Nat.le_of_ble_eq_true rfl) dX0_init_43 (fun H locs hP hD hS => ?_)
  have hP : va_P (dC, dI) vwCl [(h0, .inr (0, [.ref a1, .int (nI 2), .int (nI 5), .ref a3, .ref a4, .ref a5])), (a1, .inl (c1, 32, .inl (fun _ => 0))), (a3, .inl (c3, 16, .inr (.inl (fun _ => 0)))), (a4, .inl (c4, 32, .inr (.inl (fun _ => 0)))), (a5, .inl (c5, 16, .inr (.inl (fun _ => 0))))] H := hP
  have hD : va_D A [(h0, .inr (0, [.ref a1, .int (nI 2), .int (nI 5), .ref a3, .ref a4, .ref a5])), (a1, .inl (c1, 32, .inl (fun _ => 0))), (a3, .inl (c3, 16, .inr (.inl (fun _ => 0)))), (a4, .inl (c4, 32, .inr (.inl (fun _ => 0)))), (a5, .inl (c5, 16, .inr (.inl (fun _ => 0))))] := hD
  exact W.vret hx hb hr (fun t ht hW => ⟨⟨(), rfl, trivial, a1, a3, a4, a5, c1, c3, c4, c5, by rw [ht]; exact hP, va_K.moved hW.alike hK, hD⟩, hS.F ht⟩) hS.2.2 dX0_init_46
end
section
theorem hinX0_insertSorted : ∀ w ∈ wsX00, w ∈ wsX0_insertSorted := by decide +kernel
theorem hinX0_sortWeights : ∀ w ∈ wsX00, w ∈ wsX0_sortWeights := by decide +kernel
theorem mmX0_insertSorted_0 : Cond.fieldLink RX0 20 "TrimCodes" "sortedWeights" "[J" ∈ wsX0_insertSorted := by decide +kernel
theorem mmX0_sortWeights_0 : Cond.fieldLink RX0 13 "TrimCodes" "letterCount" "I" ∈ wsX0_sortWeights := by decide +kernel
theorem mmX0_sortWeights_1 : Cond.fieldLink RX0 9 "TrimCodes" "weights" "[I" ∈ wsX0_sortWeights := by decide +kernel
set_option maxHeartbeats 4000000 in
set_option maxRecDepth 100000 in
/-- the place of a new weight is sought from above -/
theorem lp_X0_insertSorted {p : Program} {l : Launch} {e : Env} {R : Room} {s : State} {m : MethodId} {args : Array Value} {below : List Frame} {meth : Method} {c : Code} {Q : State → Prop} {A : Nat → Prop} {dC : Nat → ClassId} {dI : Nat → Nat → Nat} (hx : p.tables.exec = Jvm.exec) (hb : c.code = cX0_insertSorted) (hml : c.maxLocals = 5) (hown : s.vm.findClass RX0 = some m.cls) (hts : ∀ w ∈ wsX0_insertSorted, w.before args s = true) (hA : ∀ q : Nat, s.heap.size ≤ q → A q)  (h0 a1 a3 a4 a5 : Nat) (c1 c3 c4 c5 : ClassId) (n lim : Int32) (fw : Nat → Int32) (fc fp : Nat → Int64) (i x : Nat) (ss : Nat → Nat) (hi : i < 16) (hss : ∀ j, j < i → ss j < 2 ^ 31) (hxx : x < 2 ^ 31) (hK : va_K (dC, dI) vwCl [(c1, .int), (c3, .long), (c4, .long), (c5, .long)] s) (K : ∀ (pl : Nat) (g : Nat → Int64) (H : Heap) (locs : List Loc) (ls : Array Slot), pl ≤ i → (∀ j, j < pl → g j = lN (ss j)) → (∀ j, pl < j → j < i + 1 → g j = lN (ss (j - 1))) → (pl < i → x ≤ ss pl) → (0 < pl → ss (pl - 1) ≤ x) → va_P (dC, dI) vwCl [(h0, .inr (0, [.ref a1, .int n, .int lim, .ref a3, .ref a4, .ref a5])), (a1, .inl (c1, 32, .inl fw)), (a3, .inl (c3, 16, .inr (.inl g))), (a4, .inl (c4, 32, .inr (.inl fc))), (a5, .inl (c5, 16, .inr (.inl fp)))] H → va_D A [(h0, .inr (0, [.ref a1, .int n, .int lim, .ref a3, .ref a4, .ref a5])), (a1, .inl (c1, 32, .inl fw)), (a3, .inl (c3, 16, .inr (.inl g))), (a4, .inl (c4, 32, .inr (.inl fc))), (a5, .inl (c5, 16, .inr (.inl fp)))] → va_S A s.heap H locs → lv_has ls 5 [(4, .int (nI pl)), (0, .ref h0), (1, .int (nI i)), (2, .long (lN x))] → W p l e R s m args below meth c H locs 0 0 Q (F0 m 54 ls [])) :
    ∀ (fu : Nat) (pl : Nat) (g : Nat → Int64) (H : Heap) (locs : List Loc) (ls : Array Slot), pl < fu → pl ≤ i → (∀ j, j < pl → g j = lN (ss j)) → (∀ j, pl < j → j < i + 1 → g j = lN (ss (j - 1))) → (pl < i → x ≤ ss pl) → va_P (dC, dI) vwCl [(h0, .inr (0, [.ref a1, .int n, .int lim, .ref a3, .ref a4, .ref a5])), (a1, .inl (c1, 32, .inl fw)), (a3, .inl (c3, 16, .inr (.inl g))), (a4, .inl (c4, 32, .inr (.inl fc))), (a5, .inl (c5, 16, .inr (.inl fp)))] H → va_D A [(h0, .inr (0, [.ref a1, .int n, .int lim, .ref a3, .ref a4, .ref a5])), (a1, .inl (c1, 32, .inl fw)), (a3, .inl (c3, 16, .inr (.inl g))), (a4, .inl (c4, 32, .inr (.inl fc))), (a5, .inl (c5, 16, .inr (.inl fp)))] → va_S A s.heap H locs → lv_has ls 5 [(4, .int (nI pl)), (0, .ref h0), (1, .int (nI i)), (2, .long (lN x))] → W p l e R s m args below meth c H locs 0 0 Q (F0 m 13 ls []) := by
  intro fu
  induction fu with
  | zero =>
    intro pl g H locs ls hfu
    exact absurd hfu (Nat.not_lt_zero _)
  | succ fu ih =>
    intro pl g H locs ls hfu hpl hlo hhi hup hP hD hS hl
    refine lv_iload hx hb dX0_insertSorted_13 (lv_at hl 0 rfl) ?_
    refine tw_if_le hx hb pl (tgt := 54) dX0_insertSorted_15 (by decide) (by omega) (fun h0p => ?_) (fun h0p => ?_)
    · exact K pl g H locs ls hpl hlo hhi hup (fun q => absurd q (by omega)) hP hD hS hl
    · refine lv_aload_n hx hb dX0_insertSorted_18 rfl (lv_at hl 1 rfl) ?_
      refine va_get (D := (dC, dI)) (ci := 0) (v := .ref a3) (C := RX0) (T := TX0) (N := 6) hx hb hts hinX0_insertSorted hown hK hP 0 rfl rfl 3 (by decide) (hts _ mmX0_insertSorted_0) (fun _ h9 => h9) rfl dX0_insertSorted_19 ?_
      refine lv_iload hx hb dX0_insertSorted_22 (lv_at hl 0 rfl) ?_
      refine lv_iconst (v := nI 1) hx hb dX0_insertSorted_24 (by decide) ?_
      refine lv_isub hx hb dX0_insertSorted_25 ?_
      refine tw_i (nI (pl - 1)) (pk_sub (by omega)) ?_
      refine va_lald hx hb hK hP 2 1 rfl rfl (tn_in 16 (by omega) (by decide)) dX0_insertSorted_26 ?_
      refine tw_l (g (pl - 1)) (congrArg g (tn_cl (by omega))) ?_
      refine tw_l (lN (ss (pl - 1))) (hlo (pl - 1) (by omega)) ?_
      refine lv_lload_n hx hb dX0_insertSorted_27 rfl (lv_at hl 3 rfl) ?_
      have hb1 := hss (pl - 1) (by omega)
      refine tw_lif_le hx hb (tgt := 54) dX0_insertSorted_28 dX0_insertSorted_29 (by decide) (fun hc => ?_) (fun hc => ?_)
      · exact K pl g H locs ls hpl hlo hhi hup (fun _ => (tn_le (by omega) (by omega)).mp hc) hP hD hS hl
      · have hc2 : x < ss (pl - 1) := Nat.lt_of_not_le (fun q => hc ((tn_le (by omega) (by omega)).mpr q))
        refine lv_aload_n hx hb dX0_insertSorted_32 rfl (lv_at hl 1 rfl) ?_
        refine va_get (D := (dC, dI)) (ci := 0) (v := .ref a3) (C := RX0) (T := TX0) (N := 6) hx hb hts hinX0_insertSorted hown hK hP 0 rfl rfl 3 (by decide) (hts _ mmX0_insertSorted_0) (fun _ h9 => h9) rfl dX0_insertSorted_33 ?_
        refine lv_iload hx hb dX0_insertSorted_36 (lv_at hl 0 rfl) ?_
        refine lv_aload_n hx hb dX0_insertSorted_38 rfl (lv_at hl 1 rfl) ?_
        refine va_get (D := (dC, dI)) (ci := 0) (v := .ref a3) (C := RX0) (T := TX0) (N := 6) hx hb hts hinX0_insertSorted hown hK hP 0 rfl rfl 3 (by decide) (hts _ mmX0_insertSorted_0) (fun _ h9 => h9) rfl dX0_insertSorted_39 ?_
        refine lv_iload hx hb dX0_insertSorted_42 (lv_at hl 0 rfl) ?_
        refine lv_iconst (v := nI 1) hx hb dX0_insertSorted_44 (by decide) ?_
        refine lv_isub hx hb dX0_insertSorted_45 ?_
        refine tw_i (nI (pl - 1)) (pk_sub (by omega)) ?_
        refine va_lald hx hb hK hP 2 1 rfl rfl (tn_in 16 (by omega) (by decide)) dX0_insertSorted_46 ?_
        refine tw_l (g (pl - 1)) (congrArg g (tn_cl (by omega))) ?_
        refine tw_l (lN (ss (pl - 1))) (hlo (pl - 1) (by omega)) ?_
        refine va_last hx hb hK hP hD hS 2 1 rfl rfl (tn_in 16 (by omega) (by decide)) dX0_insertSorted_47 (fun H locs hP hD hS => ?_)
        rw [tn_cl (show pl < 2 ^ 31 by omega)] at hP hD
        have hP : va_P (dC, dI) vwCl [(h0, .inr (0, [.ref a1, .int n, .int lim, .ref a3, .ref a4, .ref a5])), (a1, .inl (c1, 32, .inl fw)), (a3, .inl (c3, 16, .inr (.inl (vp_updL g pl (lN (ss (pl - 1))))))), (a4, .inl (c4, 32, .inr (.inl fc))), (a5, .inl (c5, 16, .inr (.inl fp)))] H := hP
        have hD : va_D A [(h0, .inr (0, [.ref a1, .int n, .int lim, .ref a3, .ref a4, .ref a5])), (a1, .inl (c1, 32, .inl fw)), (a3, .inl (c3, 16, .inr (.inl (vp_updL g pl (lN (ss (pl - 1))))))), (a4, .inl (c4, 32, .inr (.inl fc))), (a5, .inl (c5, 16, .inr (.inl fp)))] := hD
        refine lv_iinc (v := nI (pl - 1)) (lv' := [(4, .int (nI (pl - 1))), (0, .ref h0), (1, .int (nI i)), (2, .long (lN x))]) hx hb dX0_insertSorted_48 hl (k := 0) rfl (tn_m1 (by omega)) (by decide) rfl (fun ls hl => ?_)
        refine lv_goto (tgt := 13) hx hb dX0_insertSorted_51 (by decide) ?_
        exact ih (pl - 1) _ H locs ls (by omega) (by omega) (fun j hj => by rw [pk_uLn (by omega)]; exact hlo j (by omega)) (fun j hj1 hj2 => by
          by_cases hjp : j = pl
          · subst hjp; rw [pk_uLs]
          · rw [pk_uLn hjp]; exact hhi j (by omega) hj2) (fun _ => by omega) hP hD hS (lv_sub hl [0, 1, 2, 3] rfl)
set_option maxHeartbeats 4000000 in
set_option maxRecDepth 100000 in
/-- insertSorted(i, x): x is put into the rising row of the first i -/
theorem c_X0_insertSorted (l : Launch) (dC : Nat → ClassId) (dI : Nat → Nat → Nat) (h0 a1 a3 a4 a5 : Nat) (c1 c3 c4 c5 : ClassId) (n lim : Int32) (fw : Nat → Int32) (fs fc fp : Nat → Int64) (sz : Nat) (i x : Nat) (ss : Nat → Nat) (hfs : ∀ j, j < i → fs j = lN (ss j)) (hi : i < 16) (hss : ∀ j, j < i → ss j < 2 ^ 31) (hxx : x < 2 ^ 31) : Met l yX0_insertSorted wsX0_insertSorted ({ frames := 0, cells := 0, slots := 0, locals := 0 }) (va_Pc [.ref h0, .int (nI i), .long (lN x)] (fun U => U.heap.size = sz ∧ va_P (dC, dI) vwCl [(h0, .inr (0, [.ref a1, .int n, .int lim, .ref a3, .ref a4, .ref a5])), (a1, .inl (c1, 32, .inl fw)), (a3, .inl (c3, 16, .inr (.inl fs))), (a4, .inl (c4, 32, .inr (.inl fc))), (a5, .inl (c5, 16, .inr (.inl fp)))] U.heap ∧ va_K (dC, dI) vwCl [(c1, .int), (c3, .long), (c4, .long), (c5, .long)] U ∧ va_D (fun _ => True) [(h0, .inr (0, [.ref a1, .int n, .int lim, .ref a3, .ref a4, .ref a5])), (a1, .inl (c1, 32, .inl fw)), (a3, .inl (c3, 16, .inr (.inl fs))), (a4, .inl (c4, 32, .inr (.inl fc))), (a5, .inl (c5, 16, .inr (.inl fp)))])) (va_Qv (fun u : Nat → Int64 => ∃ pl : Nat, pl ≤ i ∧ (0 < pl → ss (pl - 1) ≤ x) ∧ (pl < i → x ≤ ss pl) ∧ ∀ j, j < i + 1 → u j = lN (tc_ins ss pl x j)) (fun (u : Nat → Int64) (t : State) => va_P (dC, dI) vwCl [(h0, .inr (0, [.ref a1, .int n, .int lim, .ref a3, .ref a4, .ref a5])), (a1, .inl (c1, 32, .inl fw)), (a3, .inl (c3, 16, .inr (.inl u))), (a4, .inl (c4, 32, .inr (.inl fc))), (a5, .inl (c5, 16, .inr (.inl fp)))] t.heap ∧ va_K (dC, dI) vwCl [(c1, .int), (c3, .long), (c4, .long), (c5, .long)] t ∧ va_D (va_A [(h0, .inr (0, [.ref a1, .int n, .int lim, .ref a3, .ref a4, .ref a5])), (a1, .inl (c1, 32, .inl fw)), (a3, .inl (c3, 16, .inr (.inl fs))), (a4, .inl (c4, 32, .inr (.inl fc))), (a5, .inl (c5, 16, .inr (.inl fp)))] sz) [(h0, .inr (0, [.ref a1, .int n, .int lim, .ref a3, .ref a4, .ref a5])), (a1, .inl (c1, 32, .inl fw)), (a3, .inl (c3, 16, .inr (.inl u))), (a4, .inl (c4, 32, .inr (.inl fc))), (a5, .inl (c5, 16, .inr (.inl fp)))]) (va_A [(h0, .inr (0, [.ref a1, .int n, .int lim, .ref a3, .ref a4, .ref a5])), (a1, .inl (c1, 32, .inl fw)), (a3, .inl (c3, 16, .inr (.inl fs))), (a4, .inl (c4, 32, .inr (.inl fc))), (a5, .inl (c5, 16, .inr (.inl fp)))] sz)) 0 0 (va_A [(h0, .inr (0, [.ref a1, .int n, .int lim, .ref a3, .ref a4, .ref a5])), (a1, .inl (c1, 32, .inl fw)), (a3, .inl (c3, 16, .inr (.inl fs))), (a4, .inl (c4, 32, .inr (.inl fc))), (a5, .inl (c5, 16, .inr (.inl fp)))] sz) := by
  refine Met.ofW (cc := cX0_insertSorted) (maxL := 5) (ret := none) (by decide) rfl ?_
  intro p e s m args below meth c s₁ B hml hv
  obtain ⟨rfl, hsz, hP, hK, hD0⟩ := hv
  have hx := B.exec
  have hb := B.bytes
  have hr := B.returns
  have hts := atoms_spec (ws := wsX0_insertSorted) B.pre
  have hown : s.vm.findClass RX0 = some m.cls := findClass_of_methodNamed B.named
  have hlocks := B.notSynchronized
  subst hsz
  have hD := hD0.self (sz := s.heap.size)
  generalize hAe : va_A [(h0, .inr (0, [.ref a1, .int n, .int lim, .ref a3, .ref a4, .ref a5])), (a1, .inl (c1, 32, .inl fw)), (a3, .inl (c3, 16, .inr (.inl fs))), (a4, .inl (c4, 32, .inr (.inl fc))), (a5, .inl (c5, 16, .inr (.inl fp)))] s.heap.size = A at hD ⊢
  have hA : ∀ q : Nat, s.heap.size ≤ q → A q := fun q h => by rw [← hAe]; exact Or.inr h
  have hS : va_S A s.heap s.heap [] := va_S.rf
  have hP : va_P (dC, dI) vwCl [(h0, .inr (0, [.ref a1, .int n, .int lim, .ref a3, .ref a4, .ref a5])), (a1, .inl (c1, 32, .inl fw)), (a3, .inl (c3, 16, .inr (.inl fs))), (a4, .inl (c4, 32, .inr (.inl fc))), (a5, .inl (c5, 16, .inr (.inl fp)))] s.heap := hP
  have hl := lv_entry ([.ref h0, .int (nI i), .long (lN x)]) (n := 5) (Nat.le_of_ble_eq_true rfl)
  rw [lg_entry_eq]
  generalize (lg_sl ([.ref h0, .int (nI i), .long (lN x)]) ++ List.replicate (5 - (lg_sl ([.ref h0, .int (nI i), .long (lN x)])).length) Slot.unset).toArray = ls at hl ⊢
  have hl : lv_has ls 5 [(0, .ref h0), (1, .int (nI i)), (2, .long (lN x))] := hl
  refine lv_iload_n hx hb dX0_insertSorted_0 rfl (lv_at hl 1 rfl) ?_
  refine lv_aload_n hx hb dX0_insertSorted_1 rfl (lv_at hl 0 rfl) ?_
  refine va_get (D := (dC, dI)) (ci := 0) (v := .ref a3) (C := RX0) (T := TX0) (N := 6) hx hb hts hinX0_insertSorted hown hK hP 0 rfl rfl 3 (by decide) (hts _ mmX0_insertSorted_0) (fun _ h9 => h9) rfl dX0_insertSorted_2 ?_
  refine va_alen hx hb hK hP 2 1 rfl rfl (v := nI 16) rfl dX0_insertSorted_5 ?_
  refine tw_icmp_lt hx hb i 16 (tgt := 10) dX0_insertSorted_6 (by decide) (by omega) (by omega) (fun hc => ?_) (fun hc => ?_)
  · refine lv_iload_n hx hb dX0_insertSorted_10 rfl (lv_at hl 1 rfl) ?_
    refine lv_istore (lv' := [(4, .int (nI i)), (0, .ref h0), (1, .int (nI i)), (2, .long (lN x))]) hx hb dX0_insertSorted_11 hl (by decide) rfl (fun ls hl => ?_)
    refine lp_X0_insertSorted hx hb hml hown hts hA h0 a1 a3 a4 a5 c1 c3 c4 c5 n lim fw fc fp i x ss hi hss hxx hK ?_ (i + 1) i fs s.heap [] ls (by omega) (Nat.le_refl _) hfs (fun j h1 h2 => absurd h1 (by omega)) (fun h => absurd h (by omega)) hP hD hS (lv_sub hl [0, 1, 2, 3] rfl)
    intro pl g H locs ls hpl hlo hhi hup hdn hP hD hS hl
    refine lv_aload_n hx hb dX0_insertSorted_54 rfl (lv_at hl 1 rfl) ?_
    refine va_get (D := (dC, dI)) (ci := 0) (v := .ref a3) (C := RX0) (T := TX0) (N := 6) hx hb hts hinX0_insertSorted hown hK hP 0 rfl rfl 3 (by decide) (hts _ mmX0_insertSorted_0) (fun _ h9 => h9) rfl dX0_insertSorted_55 ?_
    refine lv_iload hx hb dX0_insertSorted_58 (lv_at hl 0 rfl) ?_
    refine lv_lload_n hx hb dX0_insertSorted_60 rfl (lv_at hl 3 rfl) ?_
    refine va_last hx hb hK hP hD hS 2 1 rfl rfl (tn_in 16 (by omega) (by decide)) dX0_insertSorted_61 (fun H locs hP hD hS => ?_)
    rw [tn_cl (show pl < 2 ^ 31 by omega)] at hP hD
    have hP : va_P (dC, dI) vwCl [(h0, .inr (0, [.ref a1, .int n, .int lim, .ref a3, .ref a4, .ref a5])), (a1, .inl (c1, 32, .inl fw)), (a3, .inl (c3, 16, .inr (.inl (vp_updL g pl (lN x))))), (a4, .inl (c4, 32, .inr (.inl fc))), (a5, .inl (c5, 16, .inr (.inl fp)))] H := hP
    have hD : va_D A [(h0, .inr (0, [.ref a1, .int n, .int lim, .ref a3, .ref a4, .ref a5])), (a1, .inl (c1, 32, .inl fw)), (a3, .inl (c3, 16, .inr (.inl (vp_updL g pl (lN x))))), (a4, .inl (c4, 32, .inr (.inl fc))), (a5, .inl (c5, 16, .inr (.inl fp)))] := hD
    exact W.vret hx hb hr (fun t ht hW => ⟨⟨vp_updL g pl (lN x), rfl, ⟨pl, hpl, hdn, hup, fun j hj => by
      by_cases h1 : j < pl
      · rw [pk_uLn (by omega), tc_ins_lt h1]; exact hlo j h1
      · by_cases h2 : j = pl
        · subst h2; rw [pk_uLs, tc_ins_eq]
        · rw [pk_uLn h2, tc_ins_gt (by omega)]; exact hhi j (by omega) hj⟩, by rw [ht]; exact hP, va_K.moved hW.alike hK, hD⟩, hS.F ht⟩) hS.2.2 dX0_insertSorted_62
  · exact absurd hc (by omega)
set_option maxHeartbeats 4000000 in
set_option maxRecDepth 100000 in
/-- the first i weights stand sorted -/
theorem lp_X0_sortWeights {p : Program} {l : Launch} {e : Env} {R : Room} {s : State} {m : MethodId} {args : Array Value} {below : List Frame} {meth : Method} {c : Code} {Q : State → Prop} {A : Nat → Prop} {dC : Nat → ClassId} {dI : Nat → Nat → Nat} (hx : p.tables.exec = Jvm.exec) (hb : c.code = cX0_sortWeights) (hml : c.maxLocals = 2) (hown : s.vm.findClass RX0 = some m.cls) (hts : ∀ w ∈ wsX0_sortWeights, w.before args s = true) (hA : ∀ q : Nat, s.heap.size ≤ q → A q) (hfr : 1 ≤ R.frames) (hlo : 24 ≤ R.locals) (h0 a1 a3 a4 a5 : Nat) (c1 c3 c4 c5 : ClassId) (lim : Int32) (fw : Nat → Int32) (fc fp : Nat → Int64) (nn : Nat) (w : Nat → Nat) (hn16 : nn ≤ 16) (hfw : ∀ j, j < 32 → fw j = nI (w j)) (hw31 : ∀ j, w j < 2 ^ 31) (hK : va_K (dC, dI) vwCl [(c1, .int), (c3, .long), (c4, .long), (c5, .long)] s) (K : ∀ (ss : Nat → Nat) (g : Nat → Int64) (H : Heap) (locs : List Loc) (ls : Array Slot), tc_srt w ss nn → (∀ j, j < nn → g j = lN (ss j) ∧ ss j < 2 ^ 31) → va_P (dC, dI) vwCl [(h0, .inr (0, [.ref a1, .int (nI nn), .int lim, .ref a3, .ref a4, .ref a5])), (a1, .inl (c1, 32, .inl fw)), (a3, .inl (c3, 16, .inr (.inl g))), (a4, .inl (c4, 32, .inr (.inl fc))), (a5, .inl (c5, 16, .inr (.inl fp)))] H → va_D A [(h0, .inr (0, [.ref a1, .int (nI nn), .int lim, .ref a3, .ref a4, .ref a5])), (a1, .inl (c1, 32, .inl fw)), (a3, .inl (c3, 16, .inr (.inl g))), (a4, .inl (c4, 32, .inr (.inl fc))), (a5, .inl (c5, 16, .inr (.inl fp)))] → va_S A s.heap H locs → lv_has ls 2 [(0, .ref h0)] → W p l e R s m args below meth c H locs 0 0 Q (F0 m 37 ls [])) :
    ∀ (fu : Nat) (i : Nat) (ss : Nat → Nat) (g : Nat → Int64) (H : Heap) (locs : List Loc) (ls : Array Slot), (nn - i) < fu → i ≤ nn → tc_srt w ss i → (∀ j, j < i → g j = lN (ss j) ∧ ss j < 2 ^ 31) → va_P (dC, dI) vwCl [(h0, .inr (0, [.ref a1, .int (nI nn), .int lim, .ref a3, .ref a4, .ref a5])), (a1, .inl (c1, 32, .inl fw)), (a3, .inl (c3, 16, .inr (.inl g))), (a4, .inl (c4, 32, .inr (.inl fc))), (a5, .inl (c5, 16, .inr (.inl fp)))] H → va_D A [(h0, .inr (0, [.ref a1, .int (nI nn), .int lim, .ref a3, .ref a4, .ref a5])), (a1, .inl (c1, 32, .inl fw)), (a3, .inl (c3, 16, .inr (.inl g))), (a4, .inl (c4, 32, .inr (.inl fc))), (a5, .inl (c5, 16, .inr (.inl fp)))] → va_S A s.heap H locs → lv_has ls 2 [(1, .int (nI i)), (0, .ref h0)] → W p l e R s m args below meth c H locs 0 0 Q (F0 m 2 ls []) := by
  intro fu
  induction fu with
  | zero =>
    intro i ss g H locs ls hfu
    exact absurd hfu (Nat.not_lt_zero _)
  | succ fu ih =>
    intro i ss g H locs ls hfu hi hst hg hP hD hS hl
    refine lv_iload_n hx hb dX0_sortWeights_2 rfl (lv_at hl 0 rfl) ?_
    refine lv_aload_n hx hb dX0_sortWeights_3 rfl (lv_at hl 1 rfl) ?_
    refine va_get (D := (dC, dI)) (ci := 0) (v := .int (nI nn)) (C := RX0) (T := TX0) (N := 6) hx hb hts hinX0_sortWeights hown hK hP 0 rfl rfl 1 (by decide) (hts _ mmX0_sortWeights_0) (fun _ h9 => h9) rfl dX0_sortWeights_4 ?_
    refine tw_icmp_ge hx hb i nn (tgt := 37) dX0_sortWeights_7 (by decide) (by omega) (by omega) (fun hc => ?_) (fun hc => ?_)
    · have e : i = nn := by omega
      subst e
      exact K ss g H locs ls hst hg hP hD hS (lv_sub hl [1] rfl)
    · refine lv_iload_n hx hb dX0_sortWeights_10 rfl (lv_at hl 0 rfl) ?_
      refine lv_aload_n hx hb dX0_sortWeights_11 rfl (lv_at hl 1 rfl) ?_
      refine va_get (D := (dC, dI)) (ci := 0) (v := .ref a1) (C := RX0) (T := TX0) (N := 6) hx hb hts hinX0_sortWeights hown hK hP 0 rfl rfl 0 (by decide) (hts _ mmX0_sortWeights_1) (fun _ h9 => h9) rfl dX0_sortWeights_12 ?_
      refine va_alen hx hb hK hP 1 0 rfl rfl (v := nI 32) rfl dX0_sortWeights_15 ?_
      refine tw_icmp_ge hx hb i 32 (tgt := 37) dX0_sortWeights_16 (by decide) (by omega) (by omega) (fun hc2 => ?_) (fun hc2 => ?_)
      · exact absurd hc2 (by omega)
      · refine lv_aload_n hx hb dX0_sortWeights_19 rfl (lv_at hl 1 rfl) ?_
        refine lv_iload_n hx hb dX0_sortWeights_20 rfl (lv_at hl 0 rfl) ?_
        refine lv_aload_n hx hb dX0_sortWeights_21 rfl (lv_at hl 1 rfl) ?_
        refine va_get (D := (dC, dI)) (ci := 0) (v := .ref a1) (C := RX0) (T := TX0) (N := 6) hx hb hts hinX0_sortWeights hown hK hP 0 rfl rfl 0 (by decide) (hts _ mmX0_sortWeights_1) (fun _ h9 => h9) rfl dX0_sortWeights_22 ?_
        refine lv_iload_n hx hb dX0_sortWeights_25 rfl (lv_at hl 0 rfl) ?_
        refine va_iald hx hb hK hP 1 0 rfl rfl (tn_in 32 (by omega) (by decide)) dX0_sortWeights_26 ?_
        refine tw_i (fw i) (congrArg fw (tn_cl (by omega))) ?_
        refine tw_i (nI (w i)) (hfw i (by omega)) ?_
        refine lv_i2l (v := lN (w i)) hx hb dX0_sortWeights_27 (tn_i2l (hw31 i)) ?_
        have hPc := hP.sub (ws' := [(h0, .inr (0, [.ref a1, .int (nI nn), .int lim, .ref a3, .ref a4, .ref a5])), (a1, .inl (c1, 32, .inl fw)), (a3, .inl (c3, 16, .inr (.inl g))), (a4, .inl (c4, 32, .inr (.inl fc))), (a5, .inl (c5, 16, .inr (.inl fp)))]) [0, 1, 2, 3, 4] rfl
        have hDc := hD.sub (ws' := [(h0, .inr (0, [.ref a1, .int (nI nn), .int lim, .ref a3, .ref a4, .ref a5])), (a1, .inl (c1, 32, .inl fw)), (a3, .inl (c3, 16, .inr (.inl g))), (a4, .inl (c4, 32, .inr (.inl fc))), (a5, .inl (c5, 16, .inr (.inl fp)))]) [0, 1, 2, 3, 4] (by decide) rfl
        have hKc := hK.sub (tys' := [(c1, .int), (c3, .long), (c4, .long), (c5, .long)]) [0, 1, 2, 3] rfl
        have hFc := va_free (wc := [(h0, .inr (0, [.ref a1, .int (nI nn), .int lim, .ref a3, .ref a4, .ref a5])), (a1, .inl (c1, 32, .inl fw)), (a3, .inl (c3, 16, .inr (.inl g))), (a4, .inl (c4, 32, .inr (.inl fc))), (a5, .inl (c5, 16, .inr (.inl fp)))]) hD hS hA [0, 1, 2, 3, 4] rfl
        refine va_callv (va_runV (As := [.int (nI i), .long (lN (w i))]) (rest := []) ⟨hx, hb, hml, hown, hts⟩ (c_X0_insertSorted l dC dI h0 a1 a3 a4 a5 c1 c3 c4 c5 (nI nn) lim fw g fc fp H.size i (w i) ss (fun j hj => (hg j hj).1) (by omega) (fun j hj => (hg j hj).2) (hw31 i)) (cwV 2 hts gX0_sortWeights_X0_insertSorted rfl rfl rfl (by decide +kernel) ⟨hfr, hlo⟩) ⟨fun a U g mk q => by obtain ⟨q0, q1, qP, qK, qD⟩ := q; exact ⟨q0, q1, qP, va_K.moved (u := U) (U := U.calling g mk a) (Vm.Alike.refl U.vm) qK, qD⟩, va_recv hKc hPc (ci := 0) (q0 := 0) rfl rfl, fun U hU hW => ⟨rfl, by rw [hU], by rw [hU]; exact hPc, va_K.moved hW.alike hKc, hDc.weaken (fun _ _ _ _ => trivial)⟩⟩ rfl rfl hl.1 rfl (lv_room (Nat.le_of_ble_eq_true rfl)) dX0_sortWeights_28 ⟨(Nat.zero_le _), (Nat.zero_le _)⟩) hS (fun q _ h => hFc q h) hFc (fun u t H1 locs ht hvm hw hB hz1 hk1 hS => ?_)
        obtain ⟨g2, hg2⟩ : ∃ z, z = u := ⟨_, rfl⟩
        rw [← hg2] at hw hB
        obtain ⟨hP1, hK1, hD1⟩ := hB
        rw [ht] at hP1
        have hK1 := va_K.moved hvm.symm hK1
        obtain ⟨hP, hD⟩ := va_join (wr := []) (w1 := [(h0, .inr (0, [.ref a1, .int (nI nn), .int lim, .ref a3, .ref a4, .ref a5])), (a1, .inl (c1, 32, .inl fw)), (a3, .inl (c3, 16, .inr (.inl g2))), (a4, .inl (c4, 32, .inr (.inl fc))), (a5, .inl (c5, 16, .inr (.inl fp)))]) hP hD [0, 1, 2, 3, 4] [] rfl rfl (by decide) (by decide) hk1 hFc hP1 hD1
        generalize H1 = H at hP hS ⊢
        have hP : va_P (dC, dI) vwCl [(h0, .inr (0, [.ref a1, .int (nI nn), .int lim, .ref a3, .ref a4, .ref a5])), (a1, .inl (c1, 32, .inl fw)), (a3, .inl (c3, 16, .inr (.inl g2))), (a4, .inl (c4, 32, .inr (.inl fc))), (a5, .inl (c5, 16, .inr (.inl fp)))] H := hP
        have hD : va_D A [(h0, .inr (0, [.ref a1, .int (nI nn), .int lim, .ref a3, .ref a4, .ref a5])), (a1, .inl (c1, 32, .inl fw)), (a3, .inl (c3, 16, .inr (.inl g2))), (a4, .inl (c4, 32, .inr (.inl fc))), (a5, .inl (c5, 16, .inr (.inl fp)))] := hD
        obtain ⟨pl, w1, w2, w3, w4⟩ := hw
        refine lv_iinc (v := nI (i + 1)) (lv' := [(1, .int (nI (i + 1))), (0, .ref h0)]) hx hb dX0_sortWeights_31 hl (k := 0) rfl (tn_p1 _) (by decide) rfl (fun ls hl => ?_)
        refine lv_goto (tgt := 2) hx hb dX0_sortWeights_34 (by decide) ?_
        exact ih (i + 1) (tc_ins ss pl (w i)) g2 H locs ls (by omega) (by omega) (tc_srt_s hst w1 w2 w3 (fun _ _ => rfl)) (fun j hj => ⟨w4 j hj, by
          by_cases h1 : j < pl
          · rw [tc_ins_lt h1]; exact (hg j (by omega)).2
          · by_cases h2 : j = pl
            · subst h2; rw [tc_ins_eq]; exact hw31 i
            · rw [tc_ins_gt (by omega)]; exact (hg (j - 1) (by omega)).2⟩) hP hD hS (lv_sub hl [0, 1] rfl)
set_option maxHeartbeats 4000000 in
set_option maxRecDepth 100000 in
/-- sortWeights() -/
theorem c_X0_sortWeights (l : Launch) (dC : Nat → ClassId) (dI : Nat → Nat → Nat) (h0 a1 a3 a4 a5 : Nat) (c1 c3 c4 c5 : ClassId) (lim : Int32) (fw : Nat → Int32) (fs fc fp : Nat → Int64) (sz : Nat) (nn : Nat) (w : Nat → Nat) (hn16 : nn ≤ 16) (hfw : ∀ j, j < 32 → fw j = nI (w j)) (hw31 : ∀ j, w j < 2 ^ 31) : Met l yX0_sortWeights wsX0_sortWeights ({ frames := 1, cells := 0, slots := 0, locals := 24 }) (va_Pc [.ref h0] (fun U => U.heap.size = sz ∧ va_P (dC, dI) vwCl [(h0, .inr (0, [.ref a1, .int (nI nn), .int lim, .ref a3, .ref a4, .ref a5])), (a1, .inl (c1, 32, .inl fw)), (a3, .inl (c3, 16, .inr (.inl fs))), (a4, .inl (c4, 32, .inr (.inl fc))), (a5, .inl (c5, 16, .inr (.inl fp)))] U.heap ∧ va_K (dC, dI) vwCl [(c1, .int), (c3, .long), (c4, .long), (c5, .long)] U ∧ va_D (fun _ => True) [(h0, .inr (0, [.ref a1, .int (nI nn), .int lim, .ref a3, .ref a4, .ref a5])), (a1, .inl (c1, 32, .inl fw)), (a3, .inl (c3, 16, .inr (.inl fs))), (a4, .inl (c4, 32, .inr (.inl fc))), (a5, .inl (c5, 16, .inr (.inl fp)))])) (va_Qv (fun u : Nat → Int64 => ∃ ss : Nat → Nat, tc_srt w ss nn ∧ ∀ j, j < nn → u j = lN (ss j) ∧ ss j < 2 ^ 31) (fun (u : Nat → Int64) (t : State) => va_P (dC, dI) vwCl [(h0, .inr (0, [.ref a1, .int (nI nn), .int lim, .ref a3, .ref a4, .ref a5])), (a1, .inl (c1, 32, .inl fw)), (a3, .inl (c3, 16, .inr (.inl u))), (a4, .inl (c4, 32, .inr (.inl fc))), (a5, .inl (c5, 16, .inr (.inl fp)))] t.heap ∧ va_K (dC, dI) vwCl [(c1, .int), (c3, .long), (c4, .long), (c5, .long)] t ∧ va_D (va_A [(h0, .inr (0, [.ref a1, .int (nI nn), .int lim, .ref a3, .ref a4, .ref a5])), (a1, .inl (c1, 32, .inl fw)), (a3, .inl (c3, 16, .inr (.inl fs))), (a4, .inl (c4, 32, .inr (.inl fc))), (a5, .inl (c5, 16, .inr (.inl fp)))] sz) [(h0, .inr (0, [.ref a1, .int (nI nn), .int lim, .ref a3, .ref a4, .ref a5])), (a1, .inl (c1, 32, .inl fw)), (a3, .inl (c3, 16, .inr (.inl u))), (a4, .inl (c4, 32, .inr (.inl fc))), (a5, .inl (c5, 16, .inr (.inl fp)))]) (va_A [(h0, .inr (0, [.ref a1, .int (nI nn), .int lim, .ref a3, .ref a4, .ref a5])), (a1, .inl (c1, 32, .inl fw)), (a3, .inl (c3, 16, .inr (.inl fs))), (a4, .inl (c4, 32, .inr (.inl fc))), (a5, .inl (c5, 16, .inr (.inl fp)))] sz)) 0 0 (va_A [(h0, .inr (0, [.ref a1, .int (nI nn), .int lim, .ref a3, .ref a4, .ref a5])), (a1, .inl (c1, 32, .inl fw)), (a3, .inl (c3, 16, .inr (.inl fs))), (a4, .inl (c4, 32, .inr (.inl fc))), (a5, .inl (c5, 16, .inr (.inl fp)))] sz) := by
  refine Met.ofW (cc := cX0_sortWeights) (maxL := 2) (ret := none) (by decide) rfl ?_
  intro p e s m args below meth c s₁ B hml hv
  obtain ⟨rfl, hsz, hP, hK, hD0⟩ := hv
  have hx := B.exec
  have hb := B.bytes
  have hr := B.returns
  have hts := atoms_spec (ws := wsX0_sortWeights) B.pre
  have hown : s.vm.findClass RX0 = some m.cls := findClass_of_methodNamed B.named
  have hlocks := B.notSynchronized
  subst hsz
  have hD := hD0.self (sz := s.heap.size)
  generalize hAe : va_A [(h0, .inr (0, [.ref a1, .int (nI nn), .int lim, .ref a3, .ref a4, .ref a5])), (a1, .inl (c1, 32, .inl fw)), (a3, .inl (c3, 16, .inr (.inl fs))), (a4, .inl (c4, 32, .inr (.inl fc))), (a5, .inl (c5, 16, .inr (.inl fp)))] s.heap.size = A at hD ⊢
  have hA : ∀ q : Nat, s.heap.size ≤ q → A q := fun q h => by rw [← hAe]; exact Or.inr h
  have hS : va_S A s.heap s.heap [] := va_S.rf
  have hP : va_P (dC, dI) vwCl [(h0, .inr (0, [.ref a1, .int (nI nn), .int lim, .ref a3, .ref a4, .ref a5])), (a1, .inl (c1, 32, .inl fw)), (a3, .inl (c3, 16, .inr (.inl fs))), (a4, .inl (c4, 32, .inr (.inl fc))), (a5, .inl (c5, 16, .inr (.inl fp)))] s.heap := hP
  have hl := lv_entry ([.ref h0]) (n := 2) (Nat.le_of_ble_eq_true rfl)
  rw [lg_entry_eq]
  generalize (lg_sl ([.ref h0]) ++ List.replicate (2 - (lg_sl ([.ref h0])).length) Slot.unset).toArray = ls at hl ⊢
  have hl : lv_has ls 2 [(0, .ref h0)] := hl
  refine lv_iconst (v := nI 0) hx hb dX0_sortWeights_0 (by decide) ?_
  refine lv_istore_n (lv' := [(1, .int (nI 0)), (0, .ref h0)]) hx hb dX0_sortWeights_1 rfl hl (by decide) rfl (fun ls hl => ?_)
  refine lp_X0_sortWeights hx hb hml hown hts hA (Nat.le_of_ble_eq_true rfl) (Nat.le_of_ble_eq_true rfl) h0 a1 a3 a4 a5 c1 c3 c4 c5 lim fw fc fp nn w hn16 hfw hw31 hK ?_ (nn + 1) 0 (fun _ => 0) fs s.heap [] ls (by omega) (Nat.zero_le _) (tc_srt_0 _ _) (fun j hj => absurd hj (Nat.not_lt_zero _)) hP hD hS hl
  intro ss g H locs ls hst hg hP hD hS hl
  exact W.vret hx hb hr (fun t ht hW => ⟨⟨g, rfl, ⟨ss, hst, hg⟩, by rw [ht]; exact hP, va_K.moved hW.alike hK, hD⟩, hS.F ht⟩) hS.2.2 dX0_sortWeights_37
end
section
theorem hinX0_pairCoins : ∀ w ∈ wsX00, w ∈ wsX0_pairCoins := by decide +kernel
theorem hinX0_mergeLettersAndPairs : ∀ w ∈ wsX00, w ∈ wsX0_mergeLettersAndPairs := by decide +kernel
theorem hinX0_costOfCheapest : ∀ w ∈ wsX00, w ∈ wsX0_costOfCheapest := by decide +kernel
theorem mmX0_pairCoins_0 : Cond.fieldLink RX0 24 "TrimCodes" "coins" "[J" ∈ wsX0_pairCoins := by decide +kernel
theorem mmX0_pairCoins_1 : Cond.fieldLink RX0 27 "TrimCodes" "pairs" "[J" ∈ wsX0_pairCoins := by decide +kernel
theorem mmX0_pairCoins_2 : Cond.methodLink RX0 55 Lib.Math.min.name ∈ wsX0_pairCoins := by decide +kernel
theorem mmX0_pairCoins_3 : Cond.static Lib.Math.min.name ∈ wsX0_pairCoins := by decide +kernel
theorem mmX0_pairCoins_4 : Cond.initialized "java/lang/Math" ∈ wsX0_pairCoins := by decide +kernel
theorem mmX0_pairCoins_5 : Cond.code Lib.Math.min.name Lib.Math.min.code 2 (some .int) ∈ wsX0_pairCoins := by decide +kernel
theorem mmX0_costAt_0 : Cond.constantLong RX0 65 (9223372036854775807) ∈ wsX0_costAt := by decide +kernel
theorem mmX0_mergeLettersAndPairs_0 : Cond.fieldLink RX0 20 "TrimCodes" "sortedWeights" "[J" ∈ wsX0_mergeLettersAndPairs := by decide +kernel
theorem mmX0_mergeLettersAndPairs_1 : Cond.fieldLink RX0 13 "TrimCodes" "letterCount" "I" ∈ wsX0_mergeLettersAndPairs := by decide +kernel
theorem mmX0_mergeLettersAndPairs_2 : Cond.fieldLink RX0 27 "TrimCodes" "pairs" "[J" ∈ wsX0_mergeLettersAndPairs := by decide +kernel
theorem mmX0_mergeLettersAndPairs_3 : Cond.fieldLink RX0 24 "TrimCodes" "coins" "[J" ∈ wsX0_mergeLettersAndPairs := by decide +kernel
theorem mmX0_mergeLettersAndPairs_4 : Cond.methodLink RX0 55 Lib.Math.min.name ∈ wsX0_mergeLettersAndPairs := by decide +kernel
theorem mmX0_mergeLettersAndPairs_5 : Cond.static Lib.Math.min.name ∈ wsX0_mergeLettersAndPairs := by decide +kernel
theorem mmX0_mergeLettersAndPairs_6 : Cond.initialized "java/lang/Math" ∈ wsX0_mergeLettersAndPairs := by decide +kernel
theorem mmX0_mergeLettersAndPairs_7 : Cond.code Lib.Math.min.name Lib.Math.min.code 2 (some .int) ∈ wsX0_mergeLettersAndPairs := by decide +kernel
theorem mmX0_costOfCheapest_0 : Cond.fieldLink RX0 24 "TrimCodes" "coins" "[J" ∈ wsX0_costOfCheapest := by decide +kernel
set_option maxHeartbeats 4000000 in
set_option maxRecDepth 100000 in
/-- the first i pairs stand -/
theorem lp_X0_pairCoins {p : Program} {l : Launch} {e : Env} {R : Room} {s : State} {m : MethodId} {args : Array Value} {below : List Frame} {meth : Method} {c : Code} {Q : State → Prop} {A : Nat → Prop} {dC : Nat → ClassId} {dI : Nat → Nat → Nat} (hx : p.tables.exec = Jvm.exec) (hb : c.code = cX0_pairCoins) (hml : c.maxLocals = 4) (hown : s.vm.findClass RX0 = some m.cls) (hts : ∀ w ∈ wsX0_pairCoins, w.before args s = true) (hA : ∀ q : Nat, s.heap.size ≤ q → A q)  (h0 a1 a3 a4 a5 : Nat) (c1 c3 c4 c5 : ClassId) (n lim : Int32) (fw : Nat → Int32) (fs fc : Nat → Int64) (q : Nat) (C : Nat → Nat) (hq : q ≤ 16) (hfc : ∀ j, j < 2 * q → fc j = lN (C j)) (hK : va_K (dC, dI) vwCl [(c1, .int), (c3, .long), (c4, .long), (c5, .long)] s) (K : ∀ (g : Nat → Int64) (H : Heap) (locs : List Loc) (ls : Array Slot), (∀ j, j < q → g j = lN (tc_pr C j)) → va_P (dC, dI) vwCl [(h0, .inr (0, [.ref a1, .int n, .int lim, .ref a3, .ref a4, .ref a5])), (a1, .inl (c1, 32, .inl fw)), (a3, .inl (c3, 16, .inr (.inl fs))), (a4, .inl (c4, 32, .inr (.inl fc))), (a5, .inl (c5, 16, .inr (.inl g)))] H → va_D A [(h0, .inr (0, [.ref a1, .int n, .int lim, .ref a3, .ref a4, .ref a5])), (a1, .inl (c1, 32, .inl fw)), (a3, .inl (c3, 16, .inr (.inl fs))), (a4, .inl (c4, 32, .inr (.inl fc))), (a5, .inl (c5, 16, .inr (.inl g)))] → va_S A s.heap H locs → lv_has ls 4 [(2, .int (nI q)), (0, .ref h0)] → W p l e R s m args below meth c H locs 0 0 Q (F0 m 63 ls [])) :
    ∀ (fu : Nat) (i : Nat) (g : Nat → Int64) (H : Heap) (locs : List Loc) (ls : Array Slot), (q - i) < fu → i ≤ q → (∀ j, j < i → g j = lN (tc_pr C j)) → va_P (dC, dI) vwCl [(h0, .inr (0, [.ref a1, .int n, .int lim, .ref a3, .ref a4, .ref a5])), (a1, .inl (c1, 32, .inl fw)), (a3, .inl (c3, 16, .inr (.inl fs))), (a4, .inl (c4, 32, .inr (.inl fc))), (a5, .inl (c5, 16, .inr (.inl g)))] H → va_D A [(h0, .inr (0, [.ref a1, .int n, .int lim, .ref a3, .ref a4, .ref a5])), (a1, .inl (c1, 32, .inl fw)), (a3, .inl (c3, 16, .inr (.inl fs))), (a4, .inl (c4, 32, .inr (.inl fc))), (a5, .inl (c5, 16, .inr (.inl g)))] → va_S A s.heap H locs → lv_has ls 4 [(3, .int (nI i)), (2, .int (nI q)), (0, .ref h0)] → W p l e R s m args below meth c H locs 0 0 Q (F0 m 14 ls []) := by
  intro fu
  induction fu with
  | zero =>
    intro i g H locs ls hfu
    exact absurd hfu (Nat.not_lt_zero _)
  | succ fu ih =>
    intro i g H locs ls hfu hi hg hP hD hS hl
    refine lv_iload_n hx hb dX0_pairCoins_14 rfl (lv_at hl 0 rfl) ?_
    refine lv_iload_n hx hb dX0_pairCoins_15 rfl (lv_at hl 1 rfl) ?_
    refine tw_icmp_ge hx hb i q (tgt := 63) dX0_pairCoins_16 (by decide) (by omega) (by omega) (fun hc => ?_) (fun hc => ?_)
    · have e : i = q := by omega
      subst e
      exact K g H locs ls hg hP hD hS (lv_sub hl [1, 2] rfl)
    · refine lv_iconst (v := nI 2) hx hb dX0_pairCoins_19 (by decide) ?_
      refine lv_iload_n hx hb dX0_pairCoins_20 rfl (lv_at hl 0 rfl) ?_
      refine lv_imul hx hb dX0_pairCoins_21 ?_
      refine tw_i (nI (2 * i)) (pk_mul _ _) ?_
      refine lv_iconst (v := nI 1) hx hb dX0_pairCoins_22 (by decide) ?_
      refine lv_iadd hx hb dX0_pairCoins_23 ?_
      refine tw_i (nI ((2 * i) + 1)) (nI_add _ _) ?_
      refine lv_aload_n hx hb dX0_pairCoins_24 rfl (lv_at hl 2 rfl) ?_
      refine va_get (D := (dC, dI)) (ci := 0) (v := .ref a4) (C := RX0) (T := TX0) (N := 6) hx hb hts hinX0_pairCoins hown hK hP 0 rfl rfl 4 (by decide) (hts _ mmX0_pairCoins_0) (fun _ h9 => h9) rfl dX0_pairCoins_25 ?_
      refine va_alen hx hb hK hP 3 2 rfl rfl (v := nI 32) rfl dX0_pairCoins_28 ?_
      refine tw_icmp_ge hx hb ((2 * i) + 1) 32 (tgt := 63) dX0_pairCoins_29 (by decide) (by omega) (by decide) (fun hc2 => ?_) (fun hc2 => ?_)
      · exact absurd hc2 (by omega)
      · refine lv_aload_n hx hb dX0_pairCoins_32 rfl (lv_at hl 2 rfl) ?_
        refine va_get (D := (dC, dI)) (ci := 0) (v := .ref a5) (C := RX0) (T := TX0) (N := 6) hx hb hts hinX0_pairCoins hown hK hP 0 rfl rfl 5 (by decide) (hts _ mmX0_pairCoins_1) (fun _ h9 => h9) rfl dX0_pairCoins_33 ?_
        refine lv_iload_n hx hb dX0_pairCoins_36 rfl (lv_at hl 0 rfl) ?_
        refine lv_aload_n hx hb dX0_pairCoins_37 rfl (lv_at hl 2 rfl) ?_
        refine va_get (D := (dC, dI)) (ci := 0) (v := .ref a4) (C := RX0) (T := TX0) (N := 6) hx hb hts hinX0_pairCoins hown hK hP 0 rfl rfl 4 (by decide) (hts _ mmX0_pairCoins_0) (fun _ h9 => h9) rfl dX0_pairCoins_38 ?_
        refine lv_iconst (v := nI 2) hx hb dX0_pairCoins_41 (by decide) ?_
        refine lv_iload_n hx hb dX0_pairCoins_42 rfl (lv_at hl 0 rfl) ?_
        refine lv_imul hx hb dX0_pairCoins_43 ?_
        refine tw_i (nI (2 * i)) (pk_mul _ _) ?_
        refine va_lald hx hb hK hP 3 2 rfl rfl (tn_in 32 (by omega) (by decide)) dX0_pairCoins_44 ?_
        refine tw_l (fc (2 * i)) (congrArg fc (tn_cl (by omega))) ?_
        refine tw_l (lN (C (2 * i))) (hfc (2 * i) (by omega)) ?_
        refine lv_aload_n hx hb dX0_pairCoins_45 rfl (lv_at hl 2 rfl) ?_
        refine va_get (D := (dC, dI)) (ci := 0) (v := .ref a4) (C := RX0) (T := TX0) (N := 6) hx hb hts hinX0_pairCoins hown hK hP 0 rfl rfl 4 (by decide) (hts _ mmX0_pairCoins_0) (fun _ h9 => h9) rfl dX0_pairCoins_46 ?_
        refine lv_iconst (v := nI 2) hx hb dX0_pairCoins_49 (by decide) ?_
        refine lv_iload_n hx hb dX0_pairCoins_50 rfl (lv_at hl 0 rfl) ?_
        refine lv_imul hx hb dX0_pairCoins_51 ?_
        refine tw_i (nI (2 * i)) (pk_mul _ _) ?_
        refine lv_iconst (v := nI 1) hx hb dX0_pairCoins_52 (by decide) ?_
        refine lv_iadd hx hb dX0_pairCoins_53 ?_
        refine tw_i (nI ((2 * i) + 1)) (nI_add _ _) ?_
        refine va_lald hx hb hK hP 3 2 rfl rfl (tn_in 32 (by omega) (by decide)) dX0_pairCoins_54 ?_
        refine tw_l (fc ((2 * i) + 1)) (congrArg fc (tn_cl (by omega))) ?_
        refine tw_l (lN (C (2 * i + 1))) (hfc (2 * i + 1) (by omega)) ?_
        refine lv_ladd hx hb dX0_pairCoins_55 ?_
        refine tw_l (lN ((C (2 * i)) + (C (2 * i + 1)))) (lN_add _ _) ?_
        refine va_last hx hb hK hP hD hS 4 3 rfl rfl (tn_in 16 (by omega) (by decide)) dX0_pairCoins_56 (fun H locs hP hD hS => ?_)
        rw [tn_cl (show i < 2 ^ 31 by omega)] at hP hD
        have hP : va_P (dC, dI) vwCl [(h0, .inr (0, [.ref a1, .int n, .int lim, .ref a3, .ref a4, .ref a5])), (a1, .inl (c1, 32, .inl fw)), (a3, .inl (c3, 16, .inr (.inl fs))), (a4, .inl (c4, 32, .inr (.inl fc))), (a5, .inl (c5, 16, .inr (.inl (vp_updL g i (lN ((C (2 * i)) + (C (2 * i + 1))))))))] H := hP
        have hD : va_D A [(h0, .inr (0, [.ref a1, .int n, .int lim, .ref a3, .ref a4, .ref a5])), (a1, .inl (c1, 32, .inl fw)), (a3, .inl (c3, 16, .inr (.inl fs))), (a4, .inl (c4, 32, .inr (.inl fc))), (a5, .inl (c5, 16, .inr (.inl (vp_updL g i (lN ((C (2 * i)) + (C (2 * i + 1))))))))] := hD
        refine lv_iinc (v := nI (i + 1)) (lv' := [(3, .int (nI (i + 1))), (2, .int (nI q)), (0, .ref h0)]) hx hb dX0_pairCoins_57 hl (k := 0) rfl (tn_p1 _) (by decide) rfl (fun ls hl => ?_)
        refine lv_goto (tgt := 14) hx hb dX0_pairCoins_60 (by decide) ?_
        exact ih (i + 1) _ H locs ls (by omega) (by omega) (fun j hj => by
          by_cases hji : j = i
          · subst hji; rw [pk_uLs]; rfl
          · rw [pk_uLn hji]; exact hg j (by omega)) hP hD hS (lv_sub hl [0, 1, 2] rfl)
set_option maxHeartbeats 4000000 in
set_option maxRecDepth 100000 in
/-- pairCoins(coinCount) -/
theorem c_X0_pairCoins (l : Launch) (dC : Nat → ClassId) (dI : Nat → Nat → Nat) (h0 a1 a3 a4 a5 : Nat) (c1 c3 c4 c5 : ClassId) (n lim : Int32) (fw : Nat → Int32) (fs fc fp : Nat → Int64) (sz : Nat) (cc : Nat) (C : Nat → Nat) (hcc : cc ≤ 32) (hfc : ∀ j, j < cc → fc j = lN (C j)) : Met l yX0_pairCoins wsX0_pairCoins ({ frames := 1, cells := 0, slots := 0, locals := 13 }) (va_Pc [.ref h0, .int (nI cc)] (fun U => U.heap.size = sz ∧ va_P (dC, dI) vwCl [(h0, .inr (0, [.ref a1, .int n, .int lim, .ref a3, .ref a4, .ref a5])), (a1, .inl (c1, 32, .inl fw)), (a3, .inl (c3, 16, .inr (.inl fs))), (a4, .inl (c4, 32, .inr (.inl fc))), (a5, .inl (c5, 16, .inr (.inl fp)))] U.heap ∧ va_K (dC, dI) vwCl [(c1, .int), (c3, .long), (c4, .long), (c5, .long)] U ∧ va_D (fun _ => True) [(h0, .inr (0, [.ref a1, .int n, .int lim, .ref a3, .ref a4, .ref a5])), (a1, .inl (c1, 32, .inl fw)), (a3, .inl (c3, 16, .inr (.inl fs))), (a4, .inl (c4, 32, .inr (.inl fc))), (a5, .inl (c5, 16, .inr (.inl fp)))])) (va_Qi (fun (r : Int32) (u : Nat → Int64) => r = nI (cc / 2) ∧ ∀ j, j < cc / 2 → u j = lN (tc_pr C j)) (fun (u : Nat → Int64) (t : State) => va_P (dC, dI) vwCl [(h0, .inr (0, [.ref a1, .int n, .int lim, .ref a3, .ref a4, .ref a5])), (a1, .inl (c1, 32, .inl fw)), (a3, .inl (c3, 16, .inr (.inl fs))), (a4, .inl (c4, 32, .inr (.inl fc))), (a5, .inl (c5, 16, .inr (.inl u)))] t.heap ∧ va_K (dC, dI) vwCl [(c1, .int), (c3, .long), (c4, .long), (c5, .long)] t ∧ va_D (va_A [(h0, .inr (0, [.ref a1, .int n, .int lim, .ref a3, .ref a4, .ref a5])), (a1, .inl (c1, 32, .inl fw)), (a3, .inl (c3, 16, .inr (.inl fs))), (a4, .inl (c4, 32, .inr (.inl fc))), (a5, .inl (c5, 16, .inr (.inl fp)))] sz) [(h0, .inr (0, [.ref a1, .int n, .int lim, .ref a3, .ref a4, .ref a5])), (a1, .inl (c1, 32, .inl fw)), (a3, .inl (c3, 16, .inr (.inl fs))), (a4, .inl (c4, 32, .inr (.inl fc))), (a5, .inl (c5, 16, .inr (.inl u)))]) (va_A [(h0, .inr (0, [.ref a1, .int n, .int lim, .ref a3, .ref a4, .ref a5])), (a1, .inl (c1, 32, .inl fw)), (a3, .inl (c3, 16, .inr (.inl fs))), (a4, .inl (c4, 32, .inr (.inl fc))), (a5, .inl (c5, 16, .inr (.inl fp)))] sz)) 0 0 (va_A [(h0, .inr (0, [.ref a1, .int n, .int lim, .ref a3, .ref a4, .ref a5])), (a1, .inl (c1, 32, .inl fw)), (a3, .inl (c3, 16, .inr (.inl fs))), (a4, .inl (c4, 32, .inr (.inl fc))), (a5, .inl (c5, 16, .inr (.inl fp)))] sz) := by
  refine Met.ofW (cc := cX0_pairCoins) (maxL := 4) (ret := (some .int)) (by decide) rfl ?_
  intro p e s m args below meth c s₁ B hml hv
  obtain ⟨rfl, hsz, hP, hK, hD0⟩ := hv
  have hx := B.exec
  have hb := B.bytes
  have hr := B.returns
  have hts := atoms_spec (ws := wsX0_pairCoins) B.pre
  have hown : s.vm.findClass RX0 = some m.cls := findClass_of_methodNamed B.named
  have hlocks := B.notSynchronized
  subst hsz
  have hD := hD0.self (sz := s.heap.size)
  generalize hAe : va_A [(h0, .inr (0, [.ref a1, .int n, .int lim, .ref a3, .ref a4, .ref a5])), (a1, .inl (c1, 32, .inl fw)), (a3, .inl (c3, 16, .inr (.inl fs))), (a4, .inl (c4, 32, .inr (.inl fc))), (a5, .inl (c5, 16, .inr (.inl fp)))] s.heap.size = A at hD ⊢
  have hA : ∀ q : Nat, s.heap.size ≤ q → A q := fun q h => by rw [← hAe]; exact Or.inr h
  have hS : va_S A s.heap s.heap [] := va_S.rf
  have hP : va_P (dC, dI) vwCl [(h0, .inr (0, [.ref a1, .int n, .int lim, .ref a3, .ref a4, .ref a5])), (a1, .inl (c1, 32, .inl fw)), (a3, .inl (c3, 16, .inr (.inl fs))), (a4, .inl (c4, 32, .inr (.inl fc))), (a5, .inl (c5, 16, .inr (.inl fp)))] s.heap := hP
  have hl := lv_entry ([.ref h0, .int (nI cc)]) (n := 4) (Nat.le_of_ble_eq_true rfl)
  rw [lg_entry_eq]
  generalize (lg_sl ([.ref h0, .int (nI cc)]) ++ List.replicate (4 - (lg_sl ([.ref h0, .int (nI cc)])).length) Slot.unset).toArray = ls at hl ⊢
  have hl : lv_has ls 4 [(0, .ref h0), (1, .int (nI cc))] := hl
  refine lv_iload_n hx hb dX0_pairCoins_0 rfl (lv_at hl 1 rfl) ?_
  refine lv_iconst (v := nI 2) hx hb dX0_pairCoins_1 (by decide) ?_
  refine lv_idiv hx hb dX0_pairCoins_2 (by decide) ?_
  refine tw_i (nI (cc / 2)) (pk_div (by omega) (by decide) (by decide)) ?_
  refine lv_aload_n hx hb dX0_pairCoins_3 rfl (lv_at hl 0 rfl) ?_
  refine va_get (D := (dC, dI)) (ci := 0) (v := .ref a5) (C := RX0) (T := TX0) (N := 6) hx hb hts hinX0_pairCoins hown hK hP 0 rfl rfl 5 (by decide) (hts _ mmX0_pairCoins_1) (fun _ h9 => h9) rfl dX0_pairCoins_4 ?_
  refine va_alen hx hb hK hP 4 3 rfl rfl (v := nI 16) rfl dX0_pairCoins_7 ?_
  refine va_mmin hx hb (by rw [hml]; exact hl.1.symm) hown (hts _ mmX0_pairCoins_2) (hts _ mmX0_pairCoins_3) (hts _ mmX0_pairCoins_4) (hts _ mmX0_pairCoins_5) (Nat.le_of_ble_eq_true rfl) (Nat.le_of_ble_eq_true rfl) (Nat.le_of_ble_eq_true rfl) (Nat.le_of_ble_eq_true rfl) dX0_pairCoins_8 ?_
  refine tw_i (nI (cc / 2)) ((tn_min (by decide) (by omega)).trans (congrArg nI (Nat.min_eq_left (by omega)))) ?_
  refine lv_istore_n (lv' := [(2, .int (nI (cc / 2))), (0, .ref h0), (1, .int (nI cc))]) hx hb dX0_pairCoins_11 rfl hl (by decide) rfl (fun ls hl => ?_)
  refine lv_iconst (v := nI 0) hx hb dX0_pairCoins_12 (by decide) ?_
  refine lv_istore_n (lv' := [(3, .int (nI 0)), (2, .int (nI (cc / 2))), (0, .ref h0), (1, .int (nI cc))]) hx hb dX0_pairCoins_13 rfl hl (by decide) rfl (fun ls hl => ?_)
  refine lp_X0_pairCoins hx hb hml hown hts hA h0 a1 a3 a4 a5 c1 c3 c4 c5 n lim fw fs fc (cc / 2) C (by omega) (fun j hj => hfc j (by omega)) hK ?_ (cc / 2 + 1) 0 fp s.heap [] ls (by omega) (Nat.zero_le _) (fun j hj => absurd hj (Nat.not_lt_zero _)) hP hD hS (lv_sub hl [0, 1, 2] rfl)
  intro g H locs ls hg hP hD hS hl
  refine lv_iload_n hx hb dX0_pairCoins_63 rfl (lv_at hl 0 rfl) ?_
  exact W.iret (v := nI (cc / 2)) hx hb hr (fun t ht hW => ⟨⟨nI (cc / 2), g, rfl, ⟨rfl, hg⟩, by rw [ht]; exact hP, va_K.moved hW.alike hK, hD⟩, hS.F ht⟩) hS.2.2 dX0_pairCoins_64
set_option maxHeartbeats 4000000 in
set_option maxRecDepth 100000 in
/-- costAt(row, i, count) -/
theorem c_X0_costAt (l : Launch) (dC : Nat → ClassId) (dI : Nat → Nat → Nat) (a0 : Nat) (c0 : ClassId) (len : Nat) (f : Nat → Int64) (sz : Nat) (i cn : Nat) (hlen : len ≤ 1000) (hcn : cn ≤ len) (hi : i ≤ 1000) : Met l yX0_costAt wsX0_costAt ({ frames := 0, cells := 0, slots := 0, locals := 0 }) (va_Pc [.ref a0, .int (nI i), .int (nI cn)] (fun U => U.heap.size = sz ∧ va_P (dC, dI) vwCl [(a0, .inl (c0, len, .inr (.inl f)))] U.heap ∧ va_K (dC, dI) vwCl [(c0, .long)] U ∧ va_D (fun _ => True) [(a0, .inl (c0, len, .inr (.inl f)))])) (va_Ql (fun (r : Int64) (u : Unit) => r = if i < cn then f i else 9223372036854775807) (fun (u : Unit) (t : State) => va_P (dC, dI) vwCl [(a0, .inl (c0, len, .inr (.inl f)))] t.heap ∧ va_K (dC, dI) vwCl [(c0, .long)] t ∧ va_D (va_A [(a0, .inl (c0, len, .inr (.inl f)))] sz) [(a0, .inl (c0, len, .inr (.inl f)))]) (va_A [(a0, .inl (c0, len, .inr (.inl f)))] sz)) 0 0 (va_A [(a0, .inl (c0, len, .inr (.inl f)))] sz) := by
  refine Met.ofW (cc := cX0_costAt) (maxL := 3) (ret := (some .long)) (by decide) rfl ?_
  intro p e s m args below meth c s₁ B hml hv
  obtain ⟨rfl, hsz, hP, hK, hD0⟩ := hv
  have hx := B.exec
  have hb := B.bytes
  have hr := B.returns
  have hts := atoms_spec (ws := wsX0_costAt) B.pre
  have hown : s.vm.findClass RX0 = some m.cls := findClass_of_methodNamed B.named
  have hlocks := B.notSynchronized
  subst hsz
  have hD := hD0.self (sz := s.heap.size)
  generalize hAe : va_A [(a0, .inl (c0, len, .inr (.inl f)))] s.heap.size = A at hD ⊢
  have hA : ∀ q : Nat, s.heap.size ≤ q → A q := fun q h => by rw [← hAe]; exact Or.inr h
  have hS : va_S A s.heap s.heap [] := va_S.rf
  have hP : va_P (dC, dI) vwCl [(a0, .inl (c0, len, .inr (.inl f)))] s.heap := hP
  have hl := lv_entry ([.ref a0, .int (nI i), .int (nI cn)]) (n := 3) (Nat.le_of_ble_eq_true rfl)
  rw [lg_entry_eq]
  generalize (lg_sl ([.ref a0, .int (nI i), .int (nI cn)]) ++ List.replicate (3 - (lg_sl ([.ref a0, .int (nI i), .int (nI cn)])).length) Slot.unset).toArray = ls at hl ⊢
  have hl : lv_has ls 3 [(0, .ref a0), (1, .int (nI i)), (2, .int (nI cn))] := hl
  refine lv_iload_n hx hb dX0_costAt_0 rfl (lv_at hl 1 rfl) ?_
  refine tw_if_lt hx hb i (tgt := 15) dX0_costAt_1 (by decide) (by omega) ?_
  refine lv_iload_n hx hb dX0_costAt_4 rfl (lv_at hl 1 rfl) ?_
  refine lv_iload_n hx hb dX0_costAt_5 rfl (lv_at hl 2 rfl) ?_
  refine tw_icmp_ge hx hb i cn (tgt := 15) dX0_costAt_6 (by decide) (by omega) (by omega) (fun hc => ?_) (fun hc => ?_)
  · refine lv_ldc2 hx hb hown (hts _ mmX0_costAt_0) dX0_costAt_15 ?_
    refine tw_l (if i < cn then f i else 9223372036854775807) ((if_neg (by omega)).symm) ?_
    exact W.lret (v := if i < cn then f i else 9223372036854775807) hx hb hr (fun t ht hW => ⟨⟨if i < cn then f i else 9223372036854775807, (), rfl, rfl, by rw [ht]; exact hP, va_K.moved hW.alike hK, hD⟩, hS.F ht⟩) hS.2.2 dX0_costAt_18
  · refine lv_iload_n hx hb dX0_costAt_9 rfl (lv_at hl 1 rfl) ?_
    refine lv_aload_n hx hb dX0_costAt_10 rfl (lv_at hl 0 rfl) ?_
    refine va_alen hx hb hK hP 0 0 rfl rfl (v := nI len) rfl dX0_costAt_11 ?_
    refine tw_icmp_lt hx hb i len (tgt := 19) dX0_costAt_12 (by decide) (by omega) (by omega) (fun hc2 => ?_) (fun hc2 => ?_)
    · refine lv_aload_n hx hb dX0_costAt_19 rfl (lv_at hl 0 rfl) ?_
      refine lv_iload_n hx hb dX0_costAt_20 rfl (lv_at hl 1 rfl) ?_
      refine va_lald hx hb hK hP 0 0 rfl rfl (tn_in len (by omega) hlen) dX0_costAt_21 ?_
      refine tw_l (f i) (congrArg f (tn_cl (by omega))) ?_
      refine tw_l (if i < cn then f i else 9223372036854775807) ((if_pos hc).symm) ?_
      exact W.lret (v := if i < cn then f i else 9223372036854775807) hx hb hr (fun t ht hW => ⟨⟨if i < cn then f i else 9223372036854775807, (), rfl, rfl, by rw [ht]; exact hP, va_K.moved hW.alike hK, hD⟩, hS.F ht⟩) hS.2.2 dX0_costAt_22
    · exact absurd hc2 (by omega)
set_option maxHeartbeats 4000000 in
set_option maxRecDepth 100000 in
/-- the first i coins stand -/
theorem lp_X0_mergeLettersAndPairs {p : Program} {l : Launch} {e : Env} {R : Room} {s : State} {m : MethodId} {args : Array Value} {below : List Frame} {meth : Method} {c : Code} {Q : State → Prop} {A : Nat → Prop} {dC : Nat → ClassId} {dI : Nat → Nat → Nat} (hx : p.tables.exec = Jvm.exec) (hb : c.code = cX0_mergeLettersAndPairs) (hml : c.maxLocals = 10) (hown : s.vm.findClass RX0 = some m.cls) (hts : ∀ w ∈ wsX0_mergeLettersAndPairs, w.before args s = true) (hA : ∀ q : Nat, s.heap.size ≤ q → A q) (hfr : 1 ≤ R.frames) (hlo : 22 ≤ R.locals) (h0 a1 a3 a4 a5 : Nat) (c1 c3 c4 c5 : ClassId) (lim : Int32) (fw : Nat → Int32) (fs fp : Nat → Int64) (nn q M : Nat) (ss Bp : Nat → Nat) (hn16 : nn ≤ 16) (hq16 : q ≤ 16) (hnq : nn + q ≤ 32) (hM : M ≤ 2 ^ 61) (hfs : ∀ j, j < nn → fs j = lN (ss j) ∧ ss j < M) (hfp : ∀ j, j < q → fp j = lN (Bp j) ∧ Bp j < M) (hsa : tc_asc ss nn) (hBa : tc_asc Bp q) (hK : va_K (dC, dI) vwCl [(c1, .int), (c3, .long), (c4, .long), (c5, .long)] s) (K : ∀ (x y : Nat) (C : Nat → Nat) (g : Nat → Int64) (H : Heap) (locs : List Loc) (ls : Array Slot), tc_mi ss Bp nn q (nn + q) x y C → (∀ j, j < nn + q → g j = lN (C j) ∧ C j < M) → va_P (dC, dI) vwCl [(h0, .inr (0, [.ref a1, .int (nI nn), .int lim, .ref a3, .ref a4, .ref a5])), (a1, .inl (c1, 32, .inl fw)), (a3, .inl (c3, 16, .inr (.inl fs))), (a4, .inl (c4, 32, .inr (.inl g))), (a5, .inl (c5, 16, .inr (.inl fp)))] H → va_D A [(h0, .inr (0, [.ref a1, .int (nI nn), .int lim, .ref a3, .ref a4, .ref a5])), (a1, .inl (c1, 32, .inl fw)), (a3, .inl (c3, 16, .inr (.inl fs))), (a4, .inl (c4, 32, .inr (.inl g))), (a5, .inl (c5, 16, .inr (.inl fp)))] → va_S A s.heap H locs → lv_has ls 10 [(2, .int (nI (nn + q))), (0, .ref h0)] → W p l e R s m args below meth c H locs 0 0 Q (F0 m 96 ls [])) :
    ∀ (fu : Nat) (i x y : Nat) (C : Nat → Nat) (g : Nat → Int64) (H : Heap) (locs : List Loc) (ls : Array Slot), (nn + q - i) < fu → i ≤ nn + q → tc_mi ss Bp nn q i x y C → (∀ j, j < i → g j = lN (C j) ∧ C j < M) → va_P (dC, dI) vwCl [(h0, .inr (0, [.ref a1, .int (nI nn), .int lim, .ref a3, .ref a4, .ref a5])), (a1, .inl (c1, 32, .inl fw)), (a3, .inl (c3, 16, .inr (.inl fs))), (a4, .inl (c4, 32, .inr (.inl g))), (a5, .inl (c5, 16, .inr (.inl fp)))] H → va_D A [(h0, .inr (0, [.ref a1, .int (nI nn), .int lim, .ref a3, .ref a4, .ref a5])), (a1, .inl (c1, 32, .inl fw)), (a3, .inl (c3, 16, .inr (.inl fs))), (a4, .inl (c4, 32, .inr (.inl g))), (a5, .inl (c5, 16, .inr (.inl fp)))] → va_S A s.heap H locs → lv_has ls 10 [(5, .int (nI i)), (4, .int (nI y)), (3, .int (nI x)), (2, .int (nI (nn + q))), (0, .ref h0), (1, .int (nI q))] → W p l e R s m args below meth c H locs 0 0 Q (F0 m 23 ls []) := by
  intro fu
  induction fu with
  | zero =>
    intro i x y C g H locs ls hfu
    exact absurd hfu (Nat.not_lt_zero _)
  | succ fu ih =>
    intro i x y C g H locs ls hfu hi hmi hg hP hD hS hl
    have hxn : x ≤ nn := hmi.2.1
    have hyq : y ≤ q := hmi.2.2.1
    have hxy : x + y = i := hmi.1
    refine lv_iload hx hb dX0_mergeLettersAndPairs_23 (lv_at hl 0 rfl) ?_
    refine lv_iload_n hx hb dX0_mergeLettersAndPairs_25 rfl (lv_at hl 3 rfl) ?_
    refine tw_icmp_ge hx hb i (nn + q) (tgt := 96) dX0_mergeLettersAndPairs_26 (by decide) (by omega) (by omega) (fun hc => ?_) (fun hc => ?_)
    · have e : i = nn + q := by omega
      rw [e] at hmi hg
      exact K x y C g H locs ls hmi hg hP hD hS (lv_sub hl [3, 4] rfl)
    · refine lv_aload_n hx hb dX0_mergeLettersAndPairs_29 rfl (lv_at hl 4 rfl) ?_
      refine va_get (D := (dC, dI)) (ci := 0) (v := .ref a3) (C := RX0) (T := TX0) (N := 6) hx hb hts hinX0_mergeLettersAndPairs hown hK hP 0 rfl rfl 3 (by decide) (hts _ mmX0_mergeLettersAndPairs_0) (fun _ h9 => h9) rfl dX0_mergeLettersAndPairs_30 ?_
      refine lv_iload_n hx hb dX0_mergeLettersAndPairs_33 rfl (lv_at hl 2 rfl) ?_
      refine lv_aload_n hx hb dX0_mergeLettersAndPairs_34 rfl (lv_at hl 4 rfl) ?_
      refine va_get (D := (dC, dI)) (ci := 0) (v := .int (nI nn)) (C := RX0) (T := TX0) (N := 6) hx hb hts hinX0_mergeLettersAndPairs hown hK hP 0 rfl rfl 1 (by decide) (hts _ mmX0_mergeLettersAndPairs_1) (fun _ h9 => h9) rfl dX0_mergeLettersAndPairs_35 ?_
      have hPc := hP.sub (ws' := [(a3, .inl (c3, 16, .inr (.inl fs)))]) [2] rfl
      have hDc := hD.sub (ws' := [(a3, .inl (c3, 16, .inr (.inl fs)))]) [2] (by decide) rfl
      have hKc := hK.sub (tys' := [(c3, .long)]) [1] rfl
      have hFc := va_free (wc := [(a3, .inl (c3, 16, .inr (.inl fs)))]) hD hS hA [2] rfl
      refine va_calll (va_runS (As := [.ref a3, .int (nI x), .int (nI nn)]) (rest := []) ⟨hx, hb, hml, hown, hts⟩ (c_X0_costAt l dC dI a3 c3 16 fs H.size x nn (by decide) (by omega) (by omega)) (va_cwS 3 hts gX0_mergeLettersAndPairs_X0_costAt rfl rfl rfl (by decide +kernel) ⟨hfr, hlo⟩) ⟨fun a U g mk q => by obtain ⟨q0, q1, qP, qK, qD⟩ := q; exact ⟨q0, q1, qP, va_K.moved (u := U) (U := U.calling g mk a) (Vm.Alike.refl U.vm) qK, qD⟩, fun U hU hW => ⟨rfl, by rw [hU], by rw [hU]; exact hPc, va_K.moved hW.alike hKc, hDc.weaken (fun _ _ _ _ => trivial)⟩⟩ rfl rfl hl.1 rfl (lv_room (Nat.le_of_ble_eq_true rfl)) dX0_mergeLettersAndPairs_38 ⟨(Nat.zero_le _), (Nat.zero_le _)⟩) hS (fun q _ h => hFc q h) hFc (fun r1 u t H1 locs ht hvm hw hB hz1 hk1 hS => ?_)
      obtain ⟨hP1, hK1, hD1⟩ := hB
      rw [ht] at hP1
      have hK1 := va_K.moved hvm.symm hK1
      obtain ⟨hP, hD⟩ := va_join (wr := [(h0, .inr (0, [.ref a1, .int (nI nn), .int lim, .ref a3, .ref a4, .ref a5])), (a1, .inl (c1, 32, .inl fw)), (a4, .inl (c4, 32, .inr (.inl g))), (a5, .inl (c5, 16, .inr (.inl fp)))]) (w1 := [(a3, .inl (c3, 16, .inr (.inl fs)))]) hP hD [2] [0, 1, 3, 4] rfl rfl (by decide) (by decide) hk1 hFc hP1 hD1
      generalize H1 = H at hP hS ⊢
      have hP := hP.sub (ws' := [(h0, .inr (0, [.ref a1, .int (nI nn), .int lim, .ref a3, .ref a4, .ref a5])), (a1, .inl (c1, 32, .inl fw)), (a3, .inl (c3, 16, .inr (.inl fs))), (a4, .inl (c4, 32, .inr (.inl g))), (a5, .inl (c5, 16, .inr (.inl fp)))]) [0, 1, 4, 2, 3] rfl
      have hD := hD.sub (ws' := [(h0, .inr (0, [.ref a1, .int (nI nn), .int lim, .ref a3, .ref a4, .ref a5])), (a1, .inl (c1, 32, .inl fw)), (a3, .inl (c3, 16, .inr (.inl fs))), (a4, .inl (c4, 32, .inr (.inl g))), (a5, .inl (c5, 16, .inr (.inl fp)))]) [0, 1, 4, 2, 3] (by decide) rfl
      subst hw
      refine lv_topl (fun z1 ez1 => ?_)
      refine lv_lstore (lv' := [(6, .long z1), (5, .int (nI i)), (4, .int (nI y)), (3, .int (nI x)), (2, .int (nI (nn + q))), (0, .ref h0), (1, .int (nI q))]) hx hb dX0_mergeLettersAndPairs_41 hl (by decide) rfl (fun ls hl => ?_)
      refine lv_aload_n hx hb dX0_mergeLettersAndPairs_43 rfl (lv_at hl 5 rfl) ?_
      refine va_get (D := (dC, dI)) (ci := 0) (v := .ref a5) (C := RX0) (T := TX0) (N := 6) hx hb hts hinX0_mergeLettersAndPairs hown hK hP 0 rfl rfl 5 (by decide) (hts _ mmX0_mergeLettersAndPairs_2) (fun _ h9 => h9) rfl dX0_mergeLettersAndPairs_44 ?_
      refine lv_iload hx hb dX0_mergeLettersAndPairs_47 (lv_at hl 2 rfl) ?_
      refine lv_iload_n hx hb dX0_mergeLettersAndPairs_49 rfl (lv_at hl 6 rfl) ?_
      have hPc := hP.sub (ws' := [(a5, .inl (c5, 16, .inr (.inl fp)))]) [4] rfl
      have hDc := hD.sub (ws' := [(a5, .inl (c5, 16, .inr (.inl fp)))]) [4] (by decide) rfl
      have hKc := hK.sub (tys' := [(c5, .long)]) [3] rfl
      have hFc := va_free (wc := [(a5, .inl (c5, 16, .inr (.inl fp)))]) hD hS hA [4] rfl
      refine va_calll (va_runS (As := [.ref a5, .int (nI y), .int (nI q)]) (rest := []) ⟨hx, hb, hml, hown, hts⟩ (c_X0_costAt l dC dI a5 c5 16 fp H.size y q (by decide) (by omega) (by omega)) (va_cwS 3 hts gX0_mergeLettersAndPairs_X0_costAt rfl rfl rfl (by decide +kernel) ⟨hfr, hlo⟩) ⟨fun a U g mk q => by obtain ⟨q0, q1, qP, qK, qD⟩ := q; exact ⟨q0, q1, qP, va_K.moved (u := U) (U := U.calling g mk a) (Vm.Alike.refl U.vm) qK, qD⟩, fun U hU hW => ⟨rfl, by rw [hU], by rw [hU]; exact hPc, va_K.moved hW.alike hKc, hDc.weaken (fun _ _ _ _ => trivial)⟩⟩ rfl rfl hl.1 rfl (lv_room (Nat.le_of_ble_eq_true rfl)) dX0_mergeLettersAndPairs_50 ⟨(Nat.zero_le _), (Nat.zero_le _)⟩) hS (fun q _ h => hFc q h) hFc (fun r2 u t H1 locs ht hvm hw hB hz1 hk1 hS => ?_)
      obtain ⟨hP1, hK1, hD1⟩ := hB
      rw [ht] at hP1
      have hK1 := va_K.moved hvm.symm hK1
      obtain ⟨hP, hD⟩ := va_join (wr := [(h0, .inr (0, [.ref a1, .int (nI nn), .int lim, .ref a3, .ref a4, .ref a5])), (a1, .inl (c1, 32, .inl fw)), (a3, .inl (c3, 16, .inr (.inl fs))), (a4, .inl (c4, 32, .inr (.inl g)))]) (w1 := [(a5, .inl (c5, 16, .inr (.inl fp)))]) hP hD [4] [0, 1, 2, 3] rfl rfl (by decide) (by decide) hk1 hFc hP1 hD1
      generalize H1 = H at hP hS ⊢
      have hP : va_P (dC, dI) vwCl [(h0, .inr (0, [.ref a1, .int (nI nn), .int lim, .ref a3, .ref a4, .ref a5])), (a1, .inl (c1, 32, .inl fw)), (a3, .inl (c3, 16, .inr (.inl fs))), (a4, .inl (c4, 32, .inr (.inl g))), (a5, .inl (c5, 16, .inr (.inl fp)))] H := hP
      have hD : va_D A [(h0, .inr (0, [.ref a1, .int (nI nn), .int lim, .ref a3, .ref a4, .ref a5])), (a1, .inl (c1, 32, .inl fw)), (a3, .inl (c3, 16, .inr (.inl fs))), (a4, .inl (c4, 32, .inr (.inl g))), (a5, .inl (c5, 16, .inr (.inl fp)))] := hD
      subst hw
      refine lv_topl (fun z2 ez2 => ?_)
      refine lv_lstore (lv' := [(8, .long z2), (6, .long z1), (5, .int (nI i)), (4, .int (nI y)), (3, .int (nI x)), (2, .int (nI (nn + q))), (0, .ref h0), (1, .int (nI q))]) hx hb dX0_mergeLettersAndPairs_53 hl (by decide) rfl (fun ls hl => ?_)
      refine lv_lload hx hb dX0_mergeLettersAndPairs_55 (lv_at hl 1 rfl) ?_
      refine lv_lload hx hb dX0_mergeLettersAndPairs_57 (lv_at hl 0 rfl) ?_
      refine tw_lif_gt hx hb (tgt := 78) dX0_mergeLettersAndPairs_59 dX0_mergeLettersAndPairs_60 (by decide) (fun hc2 => ?_) (fun hc2 => ?_)
      · have hy : y < q := by
          refine Nat.lt_of_not_le (fun hq => ?_)
          have hxlt : x < nn := by omega
          rw [ez1, ez2, if_pos hxlt, if_neg (by omega), (hfs x hxlt).1] at hc2
          exact Int64.not_lt.mpr (tn_max' (by have := (hfs x hxlt).2; omega)) hc2
        have ez : z2 = lN (Bp y) := by rw [ez2, if_pos hy]; exact (hfp y hy).1
        have hle : x < nn → Bp y ≤ ss x := fun hxlt => by
          rw [ez, ez1, if_pos hxlt, (hfs x hxlt).1] at hc2
          have h1 := (tn_lt (by have := (hfp y hy).2; omega) (by have := (hfs x hxlt).2; omega)).mp hc2
          omega
        subst ez
        refine lv_aload_n hx hb dX0_mergeLettersAndPairs_78 rfl (lv_at hl 6 rfl) ?_
        refine va_get (D := (dC, dI)) (ci := 0) (v := .ref a4) (C := RX0) (T := TX0) (N := 6) hx hb hts hinX0_mergeLettersAndPairs hown hK hP 0 rfl rfl 4 (by decide) (hts _ mmX0_mergeLettersAndPairs_3) (fun _ h9 => h9) rfl dX0_mergeLettersAndPairs_79 ?_
        refine lv_iload hx hb dX0_mergeLettersAndPairs_82 (lv_at hl 2 rfl) ?_
        refine lv_lload hx hb dX0_mergeLettersAndPairs_84 (lv_at hl 0 rfl) ?_
        refine va_last hx hb hK hP hD hS 3 2 rfl rfl (tn_in 32 (by omega) (by decide)) dX0_mergeLettersAndPairs_86 (fun H locs hP hD hS => ?_)
        rw [tn_cl (show i < 2 ^ 31 by omega)] at hP hD
        have hP : va_P (dC, dI) vwCl [(h0, .inr (0, [.ref a1, .int (nI nn), .int lim, .ref a3, .ref a4, .ref a5])), (a1, .inl (c1, 32, .inl fw)), (a3, .inl (c3, 16, .inr (.inl fs))), (a4, .inl (c4, 32, .inr (.inl (vp_updL g i (lN (Bp y)))))), (a5, .inl (c5, 16, .inr (.inl fp)))] H := hP
        have hD : va_D A [(h0, .inr (0, [.ref a1, .int (nI nn), .int lim, .ref a3, .ref a4, .ref a5])), (a1, .inl (c1, 32, .inl fw)), (a3, .inl (c3, 16, .inr (.inl fs))), (a4, .inl (c4, 32, .inr (.inl (vp_updL g i (lN (Bp y)))))), (a5, .inl (c5, 16, .inr (.inl fp)))] := hD
        refine lv_iinc (v := nI (y + 1)) (lv' := [(4, .int (nI (y + 1))), (8, .long (lN (Bp y))), (6, .long z1), (5, .int (nI i)), (3, .int (nI x)), (2, .int (nI (nn + q))), (0, .ref h0), (1, .int (nI q))]) hx hb dX0_mergeLettersAndPairs_87 hl (k := 3) rfl (tn_p1 _) (by decide) rfl (fun ls hl => ?_)
        refine lv_iinc (v := nI (i + 1)) (lv' := [(5, .int (nI (i + 1))), (4, .int (nI (y + 1))), (8, .long (lN (Bp y))), (6, .long z1), (3, .int (nI x)), (2, .int (nI (nn + q))), (0, .ref h0), (1, .int (nI q))]) hx hb dX0_mergeLettersAndPairs_90 hl (k := 3) rfl (tn_p1 _) (by decide) rfl (fun ls hl => ?_)
        refine lv_goto (tgt := 23) hx hb dX0_mergeLettersAndPairs_93 (by decide) ?_
        exact ih (i + 1) x (y + 1) _ _ H locs ls (by omega) (by omega) (tc_mi_r hBa hmi hy hle) (fun j hj => by
          by_cases hji : j = i
          · subst hji; rw [pk_uLs, tc_up_at]; exact ⟨rfl, (hfp y hy).2⟩
          · rw [pk_uLn hji, tc_up_ne _ _ hji]; exact hg j (by omega)) hP hD hS (lv_sub hl [0, 1, 4, 5, 6, 7] rfl)
      · have hx1 : x < nn := by
          refine Nat.lt_of_not_le (fun hq => ?_)
          have hylt : y < q := by omega
          refine hc2 ?_
          rw [ez1, ez2, if_pos hylt, if_neg (by omega), (hfp y hylt).1]
          exact Int64.not_le.mp (tn_max (by have := (hfp y hylt).2; omega))
        have ez : z1 = lN (ss x) := by rw [ez1, if_pos hx1]; exact (hfs x hx1).1
        have hle : y < q → ss x ≤ Bp y := fun hylt => by
          rw [ez, ez2, if_pos hylt, (hfp y hylt).1] at hc2
          exact Nat.le_of_not_lt (fun h1 => hc2 ((tn_lt (by have := (hfp y hylt).2; omega) (by have := (hfs x hx1).2; omega)).mpr h1))
        subst ez
        refine lv_aload_n hx hb dX0_mergeLettersAndPairs_63 rfl (lv_at hl 6 rfl) ?_
        refine va_get (D := (dC, dI)) (ci := 0) (v := .ref a4) (C := RX0) (T := TX0) (N := 6) hx hb hts hinX0_mergeLettersAndPairs hown hK hP 0 rfl rfl 4 (by decide) (hts _ mmX0_mergeLettersAndPairs_3) (fun _ h9 => h9) rfl dX0_mergeLettersAndPairs_64 ?_
        refine lv_iload hx hb dX0_mergeLettersAndPairs_67 (lv_at hl 2 rfl) ?_
        refine lv_lload hx hb dX0_mergeLettersAndPairs_69 (lv_at hl 1 rfl) ?_
        refine va_last hx hb hK hP hD hS 3 2 rfl rfl (tn_in 32 (by omega) (by decide)) dX0_mergeLettersAndPairs_71 (fun H locs hP hD hS => ?_)
        rw [tn_cl (show i < 2 ^ 31 by omega)] at hP hD
        have hP : va_P (dC, dI) vwCl [(h0, .inr (0, [.ref a1, .int (nI nn), .int lim, .ref a3, .ref a4, .ref a5])), (a1, .inl (c1, 32, .inl fw)), (a3, .inl (c3, 16, .inr (.inl fs))), (a4, .inl (c4, 32, .inr (.inl (vp_updL g i (lN (ss x)))))), (a5, .inl (c5, 16, .inr (.inl fp)))] H := hP
        have hD : va_D A [(h0, .inr (0, [.ref a1, .int (nI nn), .int lim, .ref a3, .ref a4, .ref a5])), (a1, .inl (c1, 32, .inl fw)), (a3, .inl (c3, 16, .inr (.inl fs))), (a4, .inl (c4, 32, .inr (.inl (vp_updL g i (lN (ss x)))))), (a5, .inl (c5, 16, .inr (.inl fp)))] := hD
        refine lv_iinc (v := nI (x + 1)) (lv' := [(3, .int (nI (x + 1))), (8, .long z2), (6, .long (lN (ss x))), (5, .int (nI i)), (4, .int (nI y)), (2, .int (nI (nn + q))), (0, .ref h0), (1, .int (nI q))]) hx hb dX0_mergeLettersAndPairs_72 hl (k := 4) rfl (tn_p1 _) (by decide) rfl (fun ls hl => ?_)
        refine lv_goto (tgt := 90) hx hb dX0_mergeLettersAndPairs_75 (by decide) ?_
        refine lv_iinc (v := nI (i + 1)) (lv' := [(5, .int (nI (i + 1))), (3, .int (nI (x + 1))), (8, .long z2), (6, .long (lN (ss x))), (4, .int (nI y)), (2, .int (nI (nn + q))), (0, .ref h0), (1, .int (nI q))]) hx hb dX0_mergeLettersAndPairs_90 hl (k := 3) rfl (tn_p1 _) (by decide) rfl (fun ls hl => ?_)
        refine lv_goto (tgt := 23) hx hb dX0_mergeLettersAndPairs_93 (by decide) ?_
        exact ih (i + 1) (x + 1) y _ _ H locs ls (by omega) (by omega) (tc_mi_l hsa hmi hx1 hle) (fun j hj => by
          by_cases hji : j = i
          · subst hji; rw [pk_uLs, tc_up_at]; exact ⟨rfl, (hfs x hx1).2⟩
          · rw [pk_uLn hji, tc_up_ne _ _ hji]; exact hg j (by omega)) hP hD hS (lv_sub hl [0, 4, 1, 5, 6, 7] rfl)
set_option maxHeartbeats 4000000 in
set_option maxRecDepth 100000 in
/-- mergeLettersAndPairs(pairCount) -/
theorem c_X0_mergeLettersAndPairs (l : Launch) (dC : Nat → ClassId) (dI : Nat → Nat → Nat) (h0 a1 a3 a4 a5 : Nat) (c1 c3 c4 c5 : ClassId) (lim : Int32) (fw : Nat → Int32) (fs fc fp : Nat → Int64) (sz : Nat) (nn q M : Nat) (ss Bp : Nat → Nat) (hn16 : nn ≤ 16) (hq16 : q ≤ 16) (hnq : nn + q ≤ 32) (hM : M ≤ 2 ^ 61) (hfs : ∀ j, j < nn → fs j = lN (ss j) ∧ ss j < M) (hfp : ∀ j, j < q → fp j = lN (Bp j) ∧ Bp j < M) (hsa : tc_asc ss nn) (hBa : tc_asc Bp q) : Met l yX0_mergeLettersAndPairs wsX0_mergeLettersAndPairs ({ frames := 1, cells := 0, slots := 0, locals := 22 }) (va_Pc [.ref h0, .int (nI q)] (fun U => U.heap.size = sz ∧ va_P (dC, dI) vwCl [(h0, .inr (0, [.ref a1, .int (nI nn), .int lim, .ref a3, .ref a4, .ref a5])), (a1, .inl (c1, 32, .inl fw)), (a3, .inl (c3, 16, .inr (.inl fs))), (a4, .inl (c4, 32, .inr (.inl fc))), (a5, .inl (c5, 16, .inr (.inl fp)))] U.heap ∧ va_K (dC, dI) vwCl [(c1, .int), (c3, .long), (c4, .long), (c5, .long)] U ∧ va_D (fun _ => True) [(h0, .inr (0, [.ref a1, .int (nI nn), .int lim, .ref a3, .ref a4, .ref a5])), (a1, .inl (c1, 32, .inl fw)), (a3, .inl (c3, 16, .inr (.inl fs))), (a4, .inl (c4, 32, .inr (.inl fc))), (a5, .inl (c5, 16, .inr (.inl fp)))])) (va_Qi (fun (r : Int32) (u : Nat → Int64) => r = nI (nn + q) ∧ ∃ (x y : Nat) (C : Nat → Nat), tc_mi ss Bp nn q (nn + q) x y C ∧ ∀ j, j < nn + q → u j = lN (C j) ∧ C j < M) (fun (u : Nat → Int64) (t : State) => va_P (dC, dI) vwCl [(h0, .inr (0, [.ref a1, .int (nI nn), .int lim, .ref a3, .ref a4, .ref a5])), (a1, .inl (c1, 32, .inl fw)), (a3, .inl (c3, 16, .inr (.inl fs))), (a4, .inl (c4, 32, .inr (.inl u))), (a5, .inl (c5, 16, .inr (.inl fp)))] t.heap ∧ va_K (dC, dI) vwCl [(c1, .int), (c3, .long), (c4, .long), (c5, .long)] t ∧ va_D (va_A [(h0, .inr (0, [.ref a1, .int (nI nn), .int lim, .ref a3, .ref a4, .ref a5])), (a1, .inl (c1, 32, .inl fw)), (a3, .inl (c3, 16, .inr (.inl fs))), (a4, .inl (c4, 32, .inr (.inl fc))), (a5, .inl (c5, 16, .inr (.inl fp)))] sz) [(h0, .inr (0, [.ref a1, .int (nI nn), .int lim, .ref a3, .ref a4, .ref a5])), (a1, .inl (c1, 32, .inl fw)), (a3, .inl (c3, 16, .inr (.inl fs))), (a4, .inl (c4, 32, .inr (.inl u))), (a5, .inl (c5, 16, .inr (.inl fp)))]) (va_A [(h0, .inr (0, [.ref a1, .int (nI nn), .int lim, .ref a3, .ref a4, .ref a5])), (a1, .inl (c1, 32, .inl fw)), (a3, .inl (c3, 16, .inr (.inl fs))), (a4, .inl (c4, 32, .inr (.inl fc))), (a5, .inl (c5, 16, .inr (.inl fp)))] sz)) 0 0 (va_A [(h0, .inr (0, [.ref a1, .int (nI nn), .int lim, .ref a3, .ref a4, .ref a5])), (a1, .inl (c1, 32, .inl fw)), (a3, .inl (c3, 16, .inr (.inl fs))), (a4, .inl (c4, 32, .inr (.inl fc))), (a5, .inl (c5, 16, .inr (.inl fp)))] sz) := by
  refine Met.ofW (cc := cX0_mergeLettersAndPairs) (maxL := 10) (ret := (some .int)) (by decide) rfl ?_
  intro p e s m args below meth c s₁ B hml hv
  obtain ⟨rfl, hsz, hP, hK, hD0⟩ := hv
  have hx := B.exec
  have hb := B.bytes
  have hr := B.returns
  have hts := atoms_spec (ws := wsX0_mergeLettersAndPairs) B.pre
  have hown : s.vm.findClass RX0 = some m.cls := findClass_of_methodNamed B.named
  have hlocks := B.notSynchronized
  subst hsz
  have hD := hD0.self (sz := s.heap.size)
  generalize hAe : va_A [(h0, .inr (0, [.ref a1, .int (nI nn), .int lim, .ref a3, .ref a4, .ref a5])), (a1, .inl (c1, 32, .inl fw)), (a3, .inl (c3, 16, .inr (.inl fs))), (a4, .inl (c4, 32, .inr (.inl fc))), (a5, .inl (c5, 16, .inr (.inl fp)))] s.heap.size = A at hD ⊢
  have hA : ∀ q : Nat, s.heap.size ≤ q → A q := fun q h => by rw [← hAe]; exact Or.inr h
  have hS : va_S A s.heap s.heap [] := va_S.rf
  have hP : va_P (dC, dI) vwCl [(h0, .inr (0, [.ref a1, .int (nI nn), .int lim, .ref a3, .ref a4, .ref a5])), (a1, .inl (c1, 32, .inl fw)), (a3, .inl (c3, 16, .inr (.inl fs))), (a4, .inl (c4, 32, .inr (.inl fc))), (a5, .inl (c5, 16, .inr (.inl fp)))] s.heap := hP
  have hl := lv_entry ([.ref h0, .int (nI q)]) (n := 10) (Nat.le_of_ble_eq_true rfl)
  rw [lg_entry_eq]
  generalize (lg_sl ([.ref h0, .int (nI q)]) ++ List.replicate (10 - (lg_sl ([.ref h0, .int (nI q)])).length) Slot.unset).toArray = ls at hl ⊢
  have hl : lv_has ls 10 [(0, .ref h0), (1, .int (nI q))] := hl
  refine lv_aload_n hx hb dX0_mergeLettersAndPairs_0 rfl (lv_at hl 0 rfl) ?_
  refine va_get (D := (dC, dI)) (ci := 0) (v := .int (nI nn)) (C := RX0) (T := TX0) (N := 6) hx hb hts hinX0_mergeLettersAndPairs hown hK hP 0 rfl rfl 1 (by decide) (hts _ mmX0_mergeLettersAndPairs_1) (fun _ h9 => h9) rfl dX0_mergeLettersAndPairs_1 ?_
  refine lv_iload_n hx hb dX0_mergeLettersAndPairs_4 rfl (lv_at hl 1 rfl) ?_
  refine lv_iadd hx hb dX0_mergeLettersAndPairs_5 ?_
  refine tw_i (nI (nn + q)) (nI_add _ _) ?_
  refine lv_aload_n hx hb dX0_mergeLettersAndPairs_6 rfl (lv_at hl 0 rfl) ?_
  refine va_get (D := (dC, dI)) (ci := 0) (v := .ref a4) (C := RX0) (T := TX0) (N := 6) hx hb hts hinX0_mergeLettersAndPairs hown hK hP 0 rfl rfl 4 (by decide) (hts _ mmX0_mergeLettersAndPairs_3) (fun _ h9 => h9) rfl dX0_mergeLettersAndPairs_7 ?_
  refine va_alen hx hb hK hP 3 2 rfl rfl (v := nI 32) rfl dX0_mergeLettersAndPairs_10 ?_
  refine va_mmin hx hb (by rw [hml]; exact hl.1.symm) hown (hts _ mmX0_mergeLettersAndPairs_4) (hts _ mmX0_mergeLettersAndPairs_5) (hts _ mmX0_mergeLettersAndPairs_6) (hts _ mmX0_mergeLettersAndPairs_7) (Nat.le_of_ble_eq_true rfl) (Nat.le_of_ble_eq_true rfl) (Nat.le_of_ble_eq_true rfl) (Nat.le_of_ble_eq_true rfl) dX0_mergeLettersAndPairs_11 ?_
  refine tw_i (nI (nn + q)) ((tn_min (by decide) (by omega)).trans (congrArg nI (Nat.min_eq_left (by omega)))) ?_
  refine lv_istore_n (lv' := [(2, .int (nI (nn + q))), (0, .ref h0), (1, .int (nI q))]) hx hb dX0_mergeLettersAndPairs_14 rfl hl (by decide) rfl (fun ls hl => ?_)
  refine lv_iconst (v := nI 0) hx hb dX0_mergeLettersAndPairs_15 (by decide) ?_
  refine lv_istore_n (lv' := [(3, .int (nI 0)), (2, .int (nI (nn + q))), (0, .ref h0), (1, .int (nI q))]) hx hb dX0_mergeLettersAndPairs_16 rfl hl (by decide) rfl (fun ls hl => ?_)
  refine lv_iconst (v := nI 0) hx hb dX0_mergeLettersAndPairs_17 (by decide) ?_
  refine lv_istore (lv' := [(4, .int (nI 0)), (3, .int (nI 0)), (2, .int (nI (nn + q))), (0, .ref h0), (1, .int (nI q))]) hx hb dX0_mergeLettersAndPairs_18 hl (by decide) rfl (fun ls hl => ?_)
  refine lv_iconst (v := nI 0) hx hb dX0_mergeLettersAndPairs_20 (by decide) ?_
  refine lv_istore (lv' := [(5, .int (nI 0)), (4, .int (nI 0)), (3, .int (nI 0)), (2, .int (nI (nn + q))), (0, .ref h0), (1, .int (nI q))]) hx hb dX0_mergeLettersAndPairs_21 hl (by decide) rfl (fun ls hl => ?_)
  refine lp_X0_mergeLettersAndPairs hx hb hml hown hts hA (Nat.le_of_ble_eq_true rfl) (Nat.le_of_ble_eq_true rfl) h0 a1 a3 a4 a5 c1 c3 c4 c5 lim fw fs fp nn q M ss Bp hn16 hq16 hnq hM hfs hfp hsa hBa hK ?_ (nn + q + 1) 0 0 0 (fun _ => 0) fc s.heap [] ls (by omega) (Nat.zero_le _) (tc_mi_0 _ _ _ _ _) (fun j hj => absurd hj (Nat.not_lt_zero _)) hP hD hS (lv_sub hl [0, 1, 2, 3, 4, 5] rfl)
  intro x y C g H locs ls hmi hg hP hD hS hl
  refine lv_iload_n hx hb dX0_mergeLettersAndPairs_96 rfl (lv_at hl 0 rfl) ?_
  exact W.iret (v := nI (nn + q)) hx hb hr (fun t ht hW => ⟨⟨nI (nn + q), g, rfl, ⟨rfl, x, y, C, hmi, hg⟩, by rw [ht]; exact hP, va_K.moved hW.alike hK, hD⟩, hS.F ht⟩) hS.2.2 dX0_mergeLettersAndPairs_97
set_option maxHeartbeats 4000000 in
set_option maxRecDepth 100000 in
/-- the first i coins are added -/
theorem lp_X0_costOfCheapest {p : Program} {l : Launch} {e : Env} {R : Room} {s : State} {m : MethodId} {args : Array Value} {below : List Frame} {meth : Method} {c : Code} {Q : State → Prop} {A : Nat → Prop} {dC : Nat → ClassId} {dI : Nat → Nat → Nat} (hx : p.tables.exec = Jvm.exec) (hb : c.code = cX0_costOfCheapest) (hml : c.maxLocals = 5) (hown : s.vm.findClass RX0 = some m.cls) (hts : ∀ w ∈ wsX0_costOfCheapest, w.before args s = true) (hA : ∀ q : Nat, s.heap.size ≤ q → A q)  (h0 a1 a3 a4 a5 : Nat) (c1 c3 c4 c5 : ClassId) (n lim : Int32) (fw : Nat → Int32) (fs fc fp : Nat → Int64) (q : Nat) (C : Nat → Nat) (hq : q ≤ 32) (hfc : ∀ j, j < q → fc j = lN (C j)) (hK : va_K (dC, dI) vwCl [(c1, .int), (c3, .long), (c4, .long), (c5, .long)] s) (K : ∀ (H : Heap) (locs : List Loc) (ls : Array Slot), va_P (dC, dI) vwCl [(h0, .inr (0, [.ref a1, .int n, .int lim, .ref a3, .ref a4, .ref a5])), (a1, .inl (c1, 32, .inl fw)), (a3, .inl (c3, 16, .inr (.inl fs))), (a4, .inl (c4, 32, .inr (.inl fc))), (a5, .inl (c5, 16, .inr (.inl fp)))] H → va_D A [(h0, .inr (0, [.ref a1, .int n, .int lim, .ref a3, .ref a4, .ref a5])), (a1, .inl (c1, 32, .inl fw)), (a3, .inl (c3, 16, .inr (.inl fs))), (a4, .inl (c4, 32, .inr (.inl fc))), (a5, .inl (c5, 16, .inr (.inl fp)))] → va_S A s.heap H locs → lv_has ls 5 [(2, .long (lN (tc_sum C q))), (0, .ref h0)] → W p l e R s m args below meth c H locs 0 0 Q (F0 m 37 ls [])) :
    ∀ (fu : Nat) (i : Nat) (H : Heap) (locs : List Loc) (ls : Array Slot), (q - i) < fu → i ≤ q → va_P (dC, dI) vwCl [(h0, .inr (0, [.ref a1, .int n, .int lim, .ref a3, .ref a4, .ref a5])), (a1, .inl (c1, 32, .inl fw)), (a3, .inl (c3, 16, .inr (.inl fs))), (a4, .inl (c4, 32, .inr (.inl fc))), (a5, .inl (c5, 16, .inr (.inl fp)))] H → va_D A [(h0, .inr (0, [.ref a1, .int n, .int lim, .ref a3, .ref a4, .ref a5])), (a1, .inl (c1, 32, .inl fw)), (a3, .inl (c3, 16, .inr (.inl fs))), (a4, .inl (c4, 32, .inr (.inl fc))), (a5, .inl (c5, 16, .inr (.inl fp)))] → va_S A s.heap H locs → lv_has ls 5 [(4, .int (nI i)), (2, .long (lN (tc_sum C i))), (0, .ref h0), (1, .int (nI q))] → W p l e R s m args below meth c H locs 0 0 Q (F0 m 5 ls []) := by
  intro fu
  induction fu with
  | zero =>
    intro i H locs ls hfu
    exact absurd hfu (Nat.not_lt_zero _)
  | succ fu ih =>
    intro i H locs ls hfu hi hP hD hS hl
    refine lv_iload hx hb dX0_costOfCheapest_5 (lv_at hl 0 rfl) ?_
    refine lv_iload_n hx hb dX0_costOfCheapest_7 rfl (lv_at hl 3 rfl) ?_
    refine tw_icmp_ge hx hb i q (tgt := 37) dX0_costOfCheapest_8 (by decide) (by omega) (by omega) (fun hc => ?_) (fun hc => ?_)
    · have e : i = q := by omega
      subst e
      exact K H locs ls hP hD hS (lv_sub hl [1, 2] rfl)
    · refine lv_iload hx hb dX0_costOfCheapest_11 (lv_at hl 0 rfl) ?_
      refine lv_aload_n hx hb dX0_costOfCheapest_13 rfl (lv_at hl 2 rfl) ?_
      refine va_get (D := (dC, dI)) (ci := 0) (v := .ref a4) (C := RX0) (T := TX0) (N := 6) hx hb hts hinX0_costOfCheapest hown hK hP 0 rfl rfl 4 (by decide) (hts _ mmX0_costOfCheapest_0) (fun _ h9 => h9) rfl dX0_costOfCheapest_14 ?_
      refine va_alen hx hb hK hP 3 2 rfl rfl (v := nI 32) rfl dX0_costOfCheapest_17 ?_
      refine tw_icmp_ge hx hb i 32 (tgt := 37) dX0_costOfCheapest_18 (by decide) (by omega) (by decide) (fun hc2 => ?_) (fun hc2 => ?_)
      · exact absurd hc2 (by omega)
      · refine lv_lload_n hx hb dX0_costOfCheapest_21 rfl (lv_at hl 1 rfl) ?_
        refine lv_aload_n hx hb dX0_costOfCheapest_22 rfl (lv_at hl 2 rfl) ?_
        refine va_get (D := (dC, dI)) (ci := 0) (v := .ref a4) (C := RX0) (T := TX0) (N := 6) hx hb hts hinX0_costOfCheapest hown hK hP 0 rfl rfl 4 (by decide) (hts _ mmX0_costOfCheapest_0) (fun _ h9 => h9) rfl dX0_costOfCheapest_23 ?_
        refine lv_iload hx hb dX0_costOfCheapest_26 (lv_at hl 0 rfl) ?_
        refine va_lald hx hb hK hP 3 2 rfl rfl (tn_in 32 (by omega) (by decide)) dX0_costOfCheapest_28 ?_
        refine tw_l (fc i) (congrArg fc (tn_cl (by omega))) ?_
        refine tw_l (lN (C i)) (hfc i (by omega)) ?_
        refine lv_ladd hx hb dX0_costOfCheapest_29 ?_
        refine tw_l (lN ((tc_sum C i) + (C i))) (lN_add _ _) ?_
        refine lv_lstore_n (lv' := [(2, .long (lN ((tc_sum C i) + (C i)))), (4, .int (nI i)), (0, .ref h0), (1, .int (nI q))]) hx hb dX0_costOfCheapest_30 rfl hl (by decide) rfl (fun ls hl => ?_)
        refine lv_iinc (v := nI (i + 1)) (lv' := [(4, .int (nI (i + 1))), (2, .long (lN ((tc_sum C i) + (C i)))), (0, .ref h0), (1, .int (nI q))]) hx hb dX0_costOfCheapest_31 hl (k := 1) rfl (tn_p1 _) (by decide) rfl (fun ls hl => ?_)
        refine lv_goto (tgt := 5) hx hb dX0_costOfCheapest_34 (by decide) ?_
        exact ih (i + 1) H locs ls (by omega) (by omega) hP hD hS (lv_sub hl [0, 1, 2, 3] rfl)
set_option maxHeartbeats 4000000 in
set_option maxRecDepth 100000 in
/-- costOfCheapest(count) -/
theorem c_X0_costOfCheapest (l : Launch) (dC : Nat → ClassId) (dI : Nat → Nat → Nat) (h0 a1 a3 a4 a5 : Nat) (c1 c3 c4 c5 : ClassId) (n lim : Int32) (fw : Nat → Int32) (fs fc fp : Nat → Int64) (sz : Nat) (q : Nat) (C : Nat → Nat) (hq : q ≤ 32) (hfc : ∀ j, j < q → fc j = lN (C j)) : Met l yX0_costOfCheapest wsX0_costOfCheapest ({ frames := 0, cells := 0, slots := 0, locals := 0 }) (va_Pc [.ref h0, .int (nI q)] (fun U => U.heap.size = sz ∧ va_P (dC, dI) vwCl [(h0, .inr (0, [.ref a1, .int n, .int lim, .ref a3, .ref a4, .ref a5])), (a1, .inl (c1, 32, .inl fw)), (a3, .inl (c3, 16, .inr (.inl fs))), (a4, .inl (c4, 32, .inr (.inl fc))), (a5, .inl (c5, 16, .inr (.inl fp)))] U.heap ∧ va_K (dC, dI) vwCl [(c1, .int), (c3, .long), (c4, .long), (c5, .long)] U ∧ va_D (fun _ => True) [(h0, .inr (0, [.ref a1, .int n, .int lim, .ref a3, .ref a4, .ref a5])), (a1, .inl (c1, 32, .inl fw)), (a3, .inl (c3, 16, .inr (.inl fs))), (a4, .inl (c4, 32, .inr (.inl fc))), (a5, .inl (c5, 16, .inr (.inl fp)))])) (va_Ql (fun (r : Int64) (u : Unit) => r = lN (tc_sum C q)) (fun (u : Unit) (t : State) => va_P (dC, dI) vwCl [(h0, .inr (0, [.ref a1, .int n, .int lim, .ref a3, .ref a4, .ref a5])), (a1, .inl (c1, 32, .inl fw)), (a3, .inl (c3, 16, .inr (.inl fs))), (a4, .inl (c4, 32, .inr (.inl fc))), (a5, .inl (c5, 16, .inr (.inl fp)))] t.heap ∧ va_K (dC, dI) vwCl [(c1, .int), (c3, .long), (c4, .long), (c5, .long)] t ∧ va_D (va_A [(h0, .inr (0, [.ref a1, .int n, .int lim, .ref a3, .ref a4, .ref a5])), (a1, .inl (c1, 32, .inl fw)), (a3, .inl (c3, 16, .inr (.inl fs))), (a4, .inl (c4, 32, .inr (.inl fc))), (a5, .inl (c5, 16, .inr (.inl fp)))] sz) [(h0, .inr (0, [.ref a1, .int n, .int lim, .ref a3, .ref a4, .ref a5])), (a1, .inl (c1, 32, .inl fw)), (a3, .inl (c3, 16, .inr (.inl fs))), (a4, .inl (c4, 32, .inr (.inl fc))), (a5, .inl (c5, 16, .inr (.inl fp)))]) (va_A [(h0, .inr (0, [.ref a1, .int n, .int lim, .ref a3, .ref a4, .ref a5])), (a1, .inl (c1, 32, .inl fw)), (a3, .inl (c3, 16, .inr (.inl fs))), (a4, .inl (c4, 32, .inr (.inl fc))), (a5, .inl (c5, 16, .inr (.inl fp)))] sz)) 0 0 (va_A [(h0, .inr (0, [.ref a1, .int n, .int lim, .ref a3, .ref a4, .ref a5])), (a1, .inl (c1, 32, .inl fw)), (a3, .inl (c3, 16, .inr (.inl fs))), (a4, .inl (c4, 32, .inr (.inl fc))), (a5, .inl (c5, 16, .inr (.inl fp)))] sz) := by
  refine Met.ofW (cc := cX0_costOfCheapest) (maxL := 5) (ret := (some .long)) (by decide) rfl ?_
  intro p e s m args below meth c s₁ B hml hv
  obtain ⟨rfl, hsz, hP, hK, hD0⟩ := hv
  have hx := B.exec
  have hb := B.bytes
  have hr := B.returns
  have hts := atoms_spec (ws := wsX0_costOfCheapest) B.pre
  have hown : s.vm.findClass RX0 = some m.cls := findClass_of_methodNamed B.named
  have hlocks := B.notSynchronized
  subst hsz
  have hD := hD0.self (sz := s.heap.size)
  generalize hAe : va_A [(h0, .inr (0, [.ref a1, .int n, .int lim, .ref a3, .ref a4, .ref a5])), (a1, .inl (c1, 32, .inl fw)), (a3, .inl (c3, 16, .inr (.inl fs))), (a4, .inl (c4, 32, .inr (.inl fc))), (a5, .inl (c5, 16, .inr (.inl fp)))] s.heap.size = A at hD ⊢
  have hA : ∀ q : Nat, s.heap.size ≤ q → A q := fun q h => by rw [← hAe]; exact Or.inr h
  have hS : va_S A s.heap s.heap [] := va_S.rf
  have hP : va_P (dC, dI) vwCl [(h0, .inr (0, [.ref a1, .int n, .int lim, .ref a3, .ref a4, .ref a5])), (a1, .inl (c1, 32, .inl fw)), (a3, .inl (c3, 16, .inr (.inl fs))), (a4, .inl (c4, 32, .inr (.inl fc))), (a5, .inl (c5, 16, .inr (.inl fp)))] s.heap := hP
  have hl := lv_entry ([.ref h0, .int (nI q)]) (n := 5) (Nat.le_of_ble_eq_true rfl)
  rw [lg_entry_eq]
  generalize (lg_sl ([.ref h0, .int (nI q)]) ++ List.replicate (5 - (lg_sl ([.ref h0, .int (nI q)])).length) Slot.unset).toArray = ls at hl ⊢
  have hl : lv_has ls 5 [(0, .ref h0), (1, .int (nI q))] := hl
  refine lv_lconst (v := lN 0) hx hb dX0_costOfCheapest_0 (by decide) ?_
  refine lv_lstore_n (lv' := [(2, .long (lN 0)), (0, .ref h0), (1, .int (nI q))]) hx hb dX0_costOfCheapest_1 rfl hl (by decide) rfl (fun ls hl => ?_)
  refine lv_iconst (v := nI 0) hx hb dX0_costOfCheapest_2 (by decide) ?_
  refine lv_istore (lv' := [(4, .int (nI 0)), (2, .long (lN 0)), (0, .ref h0), (1, .int (nI q))]) hx hb dX0_costOfCheapest_3 hl (by decide) rfl (fun ls hl => ?_)
  refine lp_X0_costOfCheapest hx hb hml hown hts hA h0 a1 a3 a4 a5 c1 c3 c4 c5 n lim fw fs fc fp q C hq hfc hK ?_ (q + 1) 0 s.heap [] ls (by omega) (Nat.zero_le _) hP hD hS (lv_sub hl [0, 1, 2, 3] rfl)
  intro H locs ls hP hD hS hl
  refine lv_lload_n hx hb dX0_costOfCheapest_37 rfl (lv_at hl 0 rfl) ?_
  exact W.lret (v := lN (tc_sum C q)) hx hb hr (fun t ht hW => ⟨⟨lN (tc_sum C q), (), rfl, rfl, by rw [ht]; exact hP, va_K.moved hW.alike hK, hD⟩, hS.F ht⟩) hS.2.2 dX0_costOfCheapest_38
end
section
theorem hinX0_least : ∀ w ∈ wsX00, w ∈ wsX0_least := by decide +kernel
theorem mmX0_least_0 : Cond.fieldLink RX0 17 "TrimCodes" "lengthLimit" "I" ∈ wsX0_least := by decide +kernel
theorem mmX0_least_1 : Cond.fieldLink RX0 13 "TrimCodes" "letterCount" "I" ∈ wsX0_least := by decide +kernel
theorem mmX0_least_2 : Cond.constantLong RX0 35 (-1) ∈ wsX0_least := by decide +kernel
set_option maxHeartbeats 4000000 in
set_option maxRecDepth 100000 in
/-- the level t stands -/
theorem lp_X0_least {p : Program} {l : Launch} {e : Env} {R : Room} {s : State} {m : MethodId} {args : Array Value} {below : List Frame} {meth : Method} {c : Code} {Q : State → Prop} {A : Nat → Prop} {dC : Nat → ClassId} {dI : Nat → Nat → Nat} (hx : p.tables.exec = Jvm.exec) (hb : c.code = cX0_least) (hml : c.maxLocals = 4) (hown : s.vm.findClass RX0 = some m.cls) (hts : ∀ w ∈ wsX0_least, w.before args s = true) (hA : ∀ q : Nat, s.heap.size ≤ q → A q) (hfr : 2 ≤ R.frames) (hlo : 51 ≤ R.locals) (h0 a1 a3 a4 a5 : Nat) (c1 c3 c4 c5 : ClassId) (fw : Nat → Int32) (fs : Nat → Int64) (nn li : Nat) (w ss : Nat → Nat) (hn2 : 2 ≤ nn) (hn16 : nn ≤ 16) (hli : li < 16) (hst : tc_srt w ss nn) (hfs : ∀ j, j < nn → fs j = lN (ss j) ∧ ss j < 2 ^ 31) (hK : va_K (dC, dI) vwCl [(c1, .int), (c3, .long), (c4, .long), (c5, .long)] s) (K : ∀ (C : Nat → Nat) (g hh : Nat → Int64) (H : Heap) (locs : List Loc) (ls : Array Slot), tc_lev ss nn li C → (∀ j, j < tc_cnt nn li → g j = lN (C j) ∧ C j < 2 ^ (31 + li)) → va_P (dC, dI) vwCl [(h0, .inr (0, [.ref a1, .int (nI nn), .int (nI li), .ref a3, .ref a4, .ref a5])), (a1, .inl (c1, 32, .inl fw)), (a3, .inl (c3, 16, .inr (.inl fs))), (a4, .inl (c4, 32, .inr (.inl g))), (a5, .inl (c5, 16, .inr (.inl hh)))] H → va_D A [(h0, .inr (0, [.ref a1, .int (nI nn), .int (nI li), .ref a3, .ref a4, .ref a5])), (a1, .inl (c1, 32, .inl fw)), (a3, .inl (c3, 16, .inr (.inl fs))), (a4, .inl (c4, 32, .inr (.inl g))), (a5, .inl (c5, 16, .inr (.inl hh)))] → va_S A s.heap H locs → lv_has ls 4 [(0, .ref h0)] → W p l e R s m args below meth c H locs 0 0 Q (F0 m 50 ls [])) :
    ∀ (fu : Nat) (tt : Nat) (C : Nat → Nat) (g hh : Nat → Int64) (H : Heap) (locs : List Loc) (ls : Array Slot), (li - tt) < fu → tt ≤ li → tc_lev ss nn tt C → (∀ j, j < tc_cnt nn tt → g j = lN (C j) ∧ C j < 2 ^ (31 + tt)) → va_P (dC, dI) vwCl [(h0, .inr (0, [.ref a1, .int (nI nn), .int (nI li), .ref a3, .ref a4, .ref a5])), (a1, .inl (c1, 32, .inl fw)), (a3, .inl (c3, 16, .inr (.inl fs))), (a4, .inl (c4, 32, .inr (.inl g))), (a5, .inl (c5, 16, .inr (.inl hh)))] H → va_D A [(h0, .inr (0, [.ref a1, .int (nI nn), .int (nI li), .ref a3, .ref a4, .ref a5])), (a1, .inl (c1, 32, .inl fw)), (a3, .inl (c3, 16, .inr (.inl fs))), (a4, .inl (c4, 32, .inr (.inl g))), (a5, .inl (c5, 16, .inr (.inl hh)))] → va_S A s.heap H locs → lv_has ls 4 [(1, .int (nI (tc_cnt nn tt))), (2, .int (nI (li - tt))), (0, .ref h0)] → W p l e R s m args below meth c H locs 0 0 Q (F0 m 28 ls []) := by
  intro fu
  induction fu with
  | zero =>
    intro tt C g hh H locs ls hfu
    exact absurd hfu (Nat.not_lt_zero _)
  | succ fu ih =>
    intro tt C g hh H locs ls hfu ht hC hg hP hD hS hl
    have hcn := tc_cnt_lt (n := nn) (by omega) tt
    refine lv_iload_n hx hb dX0_least_28 rfl (lv_at hl 1 rfl) ?_
    refine tw_if_le hx hb (li - tt) (tgt := 50) dX0_least_29 (by decide) (by omega) (fun hc => ?_) (fun hc => ?_)
    · have e : tt = li := by omega
      subst e
      exact K C g hh H locs ls hC hg hP hD hS (lv_sub hl [2] rfl)
    · refine lv_aload_n hx hb dX0_least_32 rfl (lv_at hl 2 rfl) ?_
      refine lv_iload_n hx hb dX0_least_33 rfl (lv_at hl 0 rfl) ?_
      have hPc := hP.sub (ws' := [(h0, .inr (0, [.ref a1, .int (nI nn), .int (nI li), .ref a3, .ref a4, .ref a5])), (a1, .inl (c1, 32, .inl fw)), (a3, .inl (c3, 16, .inr (.inl fs))), (a4, .inl (c4, 32, .inr (.inl g))), (a5, .inl (c5, 16, .inr (.inl hh)))]) [0, 1, 2, 3, 4] rfl
      have hDc := hD.sub (ws' := [(h0, .inr (0, [.ref a1, .int (nI nn), .int (nI li), .ref a3, .ref a4, .ref a5])), (a1, .inl (c1, 32, .inl fw)), (a3, .inl (c3, 16, .inr (.inl fs))), (a4, .inl (c4, 32, .inr (.inl g))), (a5, .inl (c5, 16, .inr (.inl hh)))]) [0, 1, 2, 3, 4] (by decide) rfl
      have hKc := hK.sub (tys' := [(c1, .int), (c3, .long), (c4, .long), (c5, .long)]) [0, 1, 2, 3] rfl
      have hFc := va_free (wc := [(h0, .inr (0, [.ref a1, .int (nI nn), .int (nI li), .ref a3, .ref a4, .ref a5])), (a1, .inl (c1, 32, .inl fw)), (a3, .inl (c3, 16, .inr (.inl fs))), (a4, .inl (c4, 32, .inr (.inl g))), (a5, .inl (c5, 16, .inr (.inl hh)))]) hD hS hA [0, 1, 2, 3, 4] rfl
      refine va_calli (va_runV (As := [.int (nI (tc_cnt nn tt))]) (rest := []) ⟨hx, hb, hml, hown, hts⟩ (c_X0_pairCoins l dC dI h0 a1 a3 a4 a5 c1 c3 c4 c5 (nI nn) (nI li) fw fs g hh H.size (tc_cnt nn tt) C (by omega) (fun j hj => (hg j hj).1)) (cwV 1 hts gX0_least_X0_pairCoins rfl rfl rfl (by decide +kernel) ⟨hfr, Nat.le_trans (Nat.le_of_ble_eq_true rfl) hlo⟩) ⟨fun a U g mk q => by obtain ⟨q0, q1, qP, qK, qD⟩ := q; exact ⟨q0, q1, qP, va_K.moved (u := U) (U := U.calling g mk a) (Vm.Alike.refl U.vm) qK, qD⟩, va_recv hKc hPc (ci := 0) (q0 := 0) rfl rfl, fun U hU hW => ⟨rfl, by rw [hU], by rw [hU]; exact hPc, va_K.moved hW.alike hKc, hDc.weaken (fun _ _ _ _ => trivial)⟩⟩ rfl rfl hl.1 rfl (lv_room (Nat.le_of_ble_eq_true rfl)) dX0_least_34 ⟨(Nat.zero_le _), (Nat.zero_le _)⟩) hS (fun q _ h => hFc q h) hFc (fun r1 u t H1 locs ht hvm hw hB hz1 hk1 hS => ?_)
      obtain ⟨h2, eh2⟩ : ∃ z, z = u := ⟨_, rfl⟩
      rw [← eh2] at hw hB
      obtain ⟨hP1, hK1, hD1⟩ := hB
      rw [ht] at hP1
      have hK1 := va_K.moved hvm.symm hK1
      obtain ⟨hP, hD⟩ := va_join (wr := []) (w1 := [(h0, .inr (0, [.ref a1, .int (nI nn), .int (nI li), .ref a3, .ref a4, .ref a5])), (a1, .inl (c1, 32, .inl fw)), (a3, .inl (c3, 16, .inr (.inl fs))), (a4, .inl (c4, 32, .inr (.inl g))), (a5, .inl (c5, 16, .inr (.inl h2)))]) hP hD [0, 1, 2, 3, 4] [] rfl rfl (by decide) (by decide) hk1 hFc hP1 hD1
      generalize H1 = H at hP hS ⊢
      have hP : va_P (dC, dI) vwCl [(h0, .inr (0, [.ref a1, .int (nI nn), .int (nI li), .ref a3, .ref a4, .ref a5])), (a1, .inl (c1, 32, .inl fw)), (a3, .inl (c3, 16, .inr (.inl fs))), (a4, .inl (c4, 32, .inr (.inl g))), (a5, .inl (c5, 16, .inr (.inl h2)))] H := hP
      have hD : va_D A [(h0, .inr (0, [.ref a1, .int (nI nn), .int (nI li), .ref a3, .ref a4, .ref a5])), (a1, .inl (c1, 32, .inl fw)), (a3, .inl (c3, 16, .inr (.inl fs))), (a4, .inl (c4, 32, .inr (.inl g))), (a5, .inl (c5, 16, .inr (.inl h2)))] := hD
      obtain ⟨hr1, hu1⟩ := hw
      subst hr1
      refine lv_istore_n (lv' := [(3, .int (nI (tc_cnt nn tt / 2))), (1, .int (nI (tc_cnt nn tt))), (2, .int (nI (li - tt))), (0, .ref h0)]) hx hb dX0_least_37 rfl hl (by decide) rfl (fun ls hl => ?_)
      refine lv_aload_n hx hb dX0_least_38 rfl (lv_at hl 3 rfl) ?_
      refine lv_iload_n hx hb dX0_least_39 rfl (lv_at hl 0 rfl) ?_
      have hpw : (2 : Nat) ^ (31 + (tt + 1)) = 2 * 2 ^ (31 + tt) := by rw [show 31 + (tt + 1) = (31 + tt) + 1 by omega, Nat.pow_succ, Nat.mul_comm]
      have hpl : (2 : Nat) ^ 31 ≤ 2 ^ (31 + tt) := Nat.pow_le_pow_right (by decide) (by omega)
      have hpm : (2 : Nat) ^ (31 + (tt + 1)) ≤ 2 ^ 61 := Nat.pow_le_pow_right (by decide) (by omega)
      have hPc := hP.sub (ws' := [(h0, .inr (0, [.ref a1, .int (nI nn), .int (nI li), .ref a3, .ref a4, .ref a5])), (a1, .inl (c1, 32, .inl fw)), (a3, .inl (c3, 16, .inr (.inl fs))), (a4, .inl (c4, 32, .inr (.inl g))), (a5, .inl (c5, 16, .inr (.inl h2)))]) [0, 1, 2, 3, 4] rfl
      have hDc := hD.sub (ws' := [(h0, .inr (0, [.ref a1, .int (nI nn), .int (nI li), .ref a3, .ref a4, .ref a5])), (a1, .inl (c1, 32, .inl fw)), (a3, .inl (c3, 16, .inr (.inl fs))), (a4, .inl (c4, 32, .inr (.inl g))), (a5, .inl (c5, 16, .inr (.inl h2)))]) [0, 1, 2, 3, 4] (by decide) rfl
      have hKc := hK.sub (tys' := [(c1, .int), (c3, .long), (c4, .long), (c5, .long)]) [0, 1, 2, 3] rfl
      have hFc := va_free (wc := [(h0, .inr (0, [.ref a1, .int (nI nn), .int (nI li), .ref a3, .ref a4, .ref a5])), (a1, .inl (c1, 32, .inl fw)), (a3, .inl (c3, 16, .inr (.inl fs))), (a4, .inl (c4, 32, .inr (.inl g))), (a5, .inl (c5, 16, .inr (.inl h2)))]) hD hS hA [0, 1, 2, 3, 4] rfl
      refine va_calli (va_runV (As := [.int (nI (tc_cnt nn tt / 2))]) (rest := []) ⟨hx, hb, hml, hown, hts⟩ (c_X0_mergeLettersAndPairs l dC dI h0 a1 a3 a4 a5 c1 c3 c4 c5 (nI li) fw fs g h2 H.size nn (tc_cnt nn tt / 2) (2 ^ (31 + (tt + 1))) ss (tc_pr C) hn16 (by omega) (by omega) hpm (fun j hj => ⟨(hfs j hj).1, by have := (hfs j hj).2; omega⟩) (fun j hj => ⟨hu1 j hj, by
        have h1 := (hg (2 * j) (by omega)).2
        have h2 := (hg (2 * j + 1) (by omega)).2
        show C (2 * j) + C (2 * j + 1) < _
        omega⟩) hst.1 (tc_pr_asc hC.1 (by omega))) (cwV 1 hts gX0_least_X0_mergeLettersAndPairs rfl rfl rfl (by decide +kernel) ⟨hfr, Nat.le_trans (Nat.le_of_ble_eq_true rfl) hlo⟩) ⟨fun a U g mk q => by obtain ⟨q0, q1, qP, qK, qD⟩ := q; exact ⟨q0, q1, qP, va_K.moved (u := U) (U := U.calling g mk a) (Vm.Alike.refl U.vm) qK, qD⟩, va_recv hKc hPc (ci := 0) (q0 := 0) rfl rfl, fun U hU hW => ⟨rfl, by rw [hU], by rw [hU]; exact hPc, va_K.moved hW.alike hKc, hDc.weaken (fun _ _ _ _ => trivial)⟩⟩ rfl rfl hl.1 rfl (lv_room (Nat.le_of_ble_eq_true rfl)) dX0_least_40 ⟨(Nat.zero_le _), (Nat.zero_le _)⟩) hS (fun q _ h => hFc q h) hFc (fun r2 u t H1 locs ht hvm hw hB hz1 hk1 hS => ?_)
      obtain ⟨g2, eg2⟩ : ∃ z, z = u := ⟨_, rfl⟩
      rw [← eg2] at hw hB
      obtain ⟨hP1, hK1, hD1⟩ := hB
      rw [ht] at hP1
      have hK1 := va_K.moved hvm.symm hK1
      obtain ⟨hP, hD⟩ := va_join (wr := []) (w1 := [(h0, .inr (0, [.ref a1, .int (nI nn), .int (nI li), .ref a3, .ref a4, .ref a5])), (a1, .inl (c1, 32, .inl fw)), (a3, .inl (c3, 16, .inr (.inl fs))), (a4, .inl (c4, 32, .inr (.inl g2))), (a5, .inl (c5, 16, .inr (.inl h2)))]) hP hD [0, 1, 2, 3, 4] [] rfl rfl (by decide) (by decide) hk1 hFc hP1 hD1
      generalize H1 = H at hP hS ⊢
      have hP : va_P (dC, dI) vwCl [(h0, .inr (0, [.ref a1, .int (nI nn), .int (nI li), .ref a3, .ref a4, .ref a5])), (a1, .inl (c1, 32, .inl fw)), (a3, .inl (c3, 16, .inr (.inl fs))), (a4, .inl (c4, 32, .inr (.inl g2))), (a5, .inl (c5, 16, .inr (.inl h2)))] H := hP
      have hD : va_D A [(h0, .inr (0, [.ref a1, .int (nI nn), .int (nI li), .ref a3, .ref a4, .ref a5])), (a1, .inl (c1, 32, .inl fw)), (a3, .inl (c3, 16, .inr (.inl fs))), (a4, .inl (c4, 32, .inr (.inl g2))), (a5, .inl (c5, 16, .inr (.inl h2)))] := hD
      obtain ⟨hr2, x, y, C2, hmi, hg2⟩ := hw
      subst hr2
      refine lv_istore_n (lv' := [(1, .int (nI (nn + tc_cnt nn tt / 2))), (3, .int (nI (tc_cnt nn tt / 2))), (2, .int (nI (li - tt))), (0, .ref h0)]) hx hb dX0_least_43 rfl hl (by decide) rfl (fun ls hl => ?_)
      refine lv_iinc (v := nI ((li - tt) - 1)) (lv' := [(2, .int (nI ((li - tt) - 1))), (1, .int (nI (nn + tc_cnt nn tt / 2))), (3, .int (nI (tc_cnt nn tt / 2))), (0, .ref h0)]) hx hb dX0_least_44 hl (k := 2) rfl (tn_m1 (by omega)) (by decide) rfl (fun ls hl => ?_)
      refine lv_goto (tgt := 28) hx hb dX0_least_47 (by decide) ?_
      have e : li - tt - 1 = li - (tt + 1) := by omega
      rw [e] at hl
      exact ih (tt + 1) C2 g2 h2 H locs ls (by omega) (by omega) (tc_lev_s hst.1 hC hmi) hg2 hP hD hS (lv_sub hl [1, 0, 3] rfl)
set_option maxHeartbeats 4000000 in
set_option maxRecDepth 100000 in
/-- least() -/
theorem c_X0_least (l : Launch) (dC : Nat → ClassId) (dI : Nat → Nat → Nat) (h0 a1 a3 a4 a5 : Nat) (c1 c3 c4 c5 : ClassId) (fw : Nat → Int32) (fs fc fp : Nat → Int64) (sz : Nat) (nn li : Nat) (w : Nat → Nat) (hn2 : 2 ≤ nn) (hn16 : nn ≤ 16) (hli : li < 16) (hfw : ∀ j, j < 32 → fw j = nI (w j)) (hw31 : ∀ j, w j < 2 ^ 31) : Met l yX0_least wsX0_least ({ frames := 2, cells := 0, slots := 0, locals := 51 }) (va_Pc [.ref h0] (fun U => U.heap.size = sz ∧ va_P (dC, dI) vwCl [(h0, .inr (0, [.ref a1, .int (nI nn), .int (nI li), .ref a3, .ref a4, .ref a5])), (a1, .inl (c1, 32, .inl fw)), (a3, .inl (c3, 16, .inr (.inl fs))), (a4, .inl (c4, 32, .inr (.inl fc))), (a5, .inl (c5, 16, .inr (.inl fp)))] U.heap ∧ va_K (dC, dI) vwCl [(c1, .int), (c3, .long), (c4, .long), (c5, .long)] U ∧ va_D (fun _ => True) [(h0, .inr (0, [.ref a1, .int (nI nn), .int (nI li), .ref a3, .ref a4, .ref a5])), (a1, .inl (c1, 32, .inl fw)), (a3, .inl (c3, 16, .inr (.inl fs))), (a4, .inl (c4, 32, .inr (.inl fc))), (a5, .inl (c5, 16, .inr (.inl fp)))])) (va_Ql (fun (r : Int64) (_ : (Nat → Int64) × (Nat → Int64) × (Nat → Int64)) => (2 ^ li < nn ∧ r = -1) ∨ (nn ≤ 2 ^ li ∧ ∃ ss C : Nat → Nat, tc_srt w ss nn ∧ tc_lev ss nn li C ∧ r = lN (tc_sum C (2 * nn - 2)))) (fun (u : (Nat → Int64) × (Nat → Int64) × (Nat → Int64)) (t : State) => va_P (dC, dI) vwCl [(h0, .inr (0, [.ref a1, .int (nI nn), .int (nI li), .ref a3, .ref a4, .ref a5])), (a1, .inl (c1, 32, .inl fw)), (a3, .inl (c3, 16, .inr (.inl (u.1)))), (a4, .inl (c4, 32, .inr (.inl (u.2.1)))), (a5, .inl (c5, 16, .inr (.inl (u.2.2))))] t.heap ∧ va_K (dC, dI) vwCl [(c1, .int), (c3, .long), (c4, .long), (c5, .long)] t ∧ va_D (va_A [(h0, .inr (0, [.ref a1, .int (nI nn), .int (nI li), .ref a3, .ref a4, .ref a5])), (a1, .inl (c1, 32, .inl fw)), (a3, .inl (c3, 16, .inr (.inl fs))), (a4, .inl (c4, 32, .inr (.inl fc))), (a5, .inl (c5, 16, .inr (.inl fp)))] sz) [(h0, .inr (0, [.ref a1, .int (nI nn), .int (nI li), .ref a3, .ref a4, .ref a5])), (a1, .inl (c1, 32, .inl fw)), (a3, .inl (c3, 16, .inr (.inl (u.1)))), (a4, .inl (c4, 32, .inr (.inl (u.2.1)))), (a5, .inl (c5, 16, .inr (.inl (u.2.2))))]) (va_A [(h0, .inr (0, [.ref a1, .int (nI nn), .int (nI li), .ref a3, .ref a4, .ref a5])), (a1, .inl (c1, 32, .inl fw)), (a3, .inl (c3, 16, .inr (.inl fs))), (a4, .inl (c4, 32, .inr (.inl fc))), (a5, .inl (c5, 16, .inr (.inl fp)))] sz)) 0 0 (va_A [(h0, .inr (0, [.ref a1, .int (nI nn), .int (nI li), .ref a3, .ref a4, .ref a5])), (a1, .inl (c1, 32, .inl fw)), (a3, .inl (c3, 16, .inr (.inl fs))), (a4, .inl (c4, 32, .inr (.inl fc))), (a5, .inl (c5, 16, .inr (.inl fp)))] sz) := by
  refine Met.ofW (cc := cX0_least) (maxL := 4) (ret := (some .long)) (by decide) rfl ?_
  intro p e s m args below meth c s₁ B hml hv
  obtain ⟨rfl, hsz, hP, hK, hD0⟩ := hv
  have hx := B.exec
  have hb := B.bytes
  have hr := B.returns
  have hts := atoms_spec (ws := wsX0_least) B.pre
  have hown : s.vm.findClass RX0 = some m.cls := findClass_of_methodNamed B.named
  have hlocks := B.notSynchronized
  subst hsz
  have hD := hD0.self (sz := s.heap.size)
  generalize hAe : va_A [(h0, .inr (0, [.ref a1, .int (nI nn), .int (nI li), .ref a3, .ref a4, .ref a5])), (a1, .inl (c1, 32, .inl fw)), (a3, .inl (c3, 16, .inr (.inl fs))), (a4, .inl (c4, 32, .inr (.inl fc))), (a5, .inl (c5, 16, .inr (.inl fp)))] s.heap.size = A at hD ⊢
  have hA : ∀ q : Nat, s.heap.size ≤ q → A q := fun q h => by rw [← hAe]; exact Or.inr h
  have hS : va_S A s.heap s.heap [] := va_S.rf
  have hP : va_P (dC, dI) vwCl [(h0, .inr (0, [.ref a1, .int (nI nn), .int (nI li), .ref a3, .ref a4, .ref a5])), (a1, .inl (c1, 32, .inl fw)), (a3, .inl (c3, 16, .inr (.inl fs))), (a4, .inl (c4, 32, .inr (.inl fc))), (a5, .inl (c5, 16, .inr (.inl fp)))] s.heap := hP
  have hl := lv_entry ([.ref h0]) (n := 4) (Nat.le_of_ble_eq_true rfl)
  rw [lg_entry_eq]
  generalize (lg_sl ([.ref h0]) ++ List.replicate (4 - (lg_sl ([.ref h0])).length) Slot.unset).toArray = ls at hl ⊢
  have hl : lv_has ls 4 [(0, .ref h0)] := hl
  have hp16 : (2 : Nat) ^ li ≤ 2 ^ 15 := Nat.pow_le_pow_right (by decide) (by omega)
  refine lv_iconst (v := nI 1) hx hb dX0_least_0 (by decide) ?_
  refine lv_aload_n hx hb dX0_least_1 rfl (lv_at hl 0 rfl) ?_
  refine va_get (D := (dC, dI)) (ci := 0) (v := .int (nI li)) (C := RX0) (T := TX0) (N := 6) hx hb hts hinX0_least hown hK hP 0 rfl rfl 2 (by decide) (hts _ mmX0_least_0) (fun _ h9 => h9) rfl dX0_least_2 ?_
  refine lv_ishl hx hb dX0_least_5 ?_
  refine tw_i (nI (2 ^ li)) (tn_shl hli) ?_
  refine lv_aload_n hx hb dX0_least_6 rfl (lv_at hl 0 rfl) ?_
  refine va_get (D := (dC, dI)) (ci := 0) (v := .int (nI nn)) (C := RX0) (T := TX0) (N := 6) hx hb hts hinX0_least hown hK hP 0 rfl rfl 1 (by decide) (hts _ mmX0_least_1) (fun _ h9 => h9) rfl dX0_least_7 ?_
  refine tw_icmp_ge hx hb (2 ^ li) nn (tgt := 17) dX0_least_10 (by decide) (by omega) (by omega) (fun hc => ?_) (fun hc => ?_)
  · refine lv_aload_n hx hb dX0_least_17 rfl (lv_at hl 0 rfl) ?_
    have hPc := hP.sub (ws' := [(h0, .inr (0, [.ref a1, .int (nI nn), .int (nI li), .ref a3, .ref a4, .ref a5])), (a1, .inl (c1, 32, .inl fw)), (a3, .inl (c3, 16, .inr (.inl fs))), (a4, .inl (c4, 32, .inr (.inl fc))), (a5, .inl (c5, 16, .inr (.inl fp)))]) [0, 1, 2, 3, 4] rfl
    have hDc := hD.sub (ws' := [(h0, .inr (0, [.ref a1, .int (nI nn), .int (nI li), .ref a3, .ref a4, .ref a5])), (a1, .inl (c1, 32, .inl fw)), (a3, .inl (c3, 16, .inr (.inl fs))), (a4, .inl (c4, 32, .inr (.inl fc))), (a5, .inl (c5, 16, .inr (.inl fp)))]) [0, 1, 2, 3, 4] (by decide) rfl
    have hKc := hK.sub (tys' := [(c1, .int), (c3, .long), (c4, .long), (c5, .long)]) [0, 1, 2, 3] rfl
    have hFc := va_free (wc := [(h0, .inr (0, [.ref a1, .int (nI nn), .int (nI li), .ref a3, .ref a4, .ref a5])), (a1, .inl (c1, 32, .inl fw)), (a3, .inl (c3, 16, .inr (.inl fs))), (a4, .inl (c4, 32, .inr (.inl fc))), (a5, .inl (c5, 16, .inr (.inl fp)))]) hD hS hA [0, 1, 2, 3, 4] rfl
    refine va_callv (va_runV (As := []) (rest := []) ⟨hx, hb, hml, hown, hts⟩ (c_X0_sortWeights l dC dI h0 a1 a3 a4 a5 c1 c3 c4 c5 (nI li) fw fs fc fp s.heap.size nn w hn16 hfw hw31) (cwV 0 hts gX0_least_X0_sortWeights rfl rfl rfl (by decide +kernel) ⟨Nat.le_of_ble_eq_true rfl, Nat.le_of_ble_eq_true rfl⟩) ⟨fun a U g mk q => by obtain ⟨q0, q1, qP, qK, qD⟩ := q; exact ⟨q0, q1, qP, va_K.moved (u := U) (U := U.calling g mk a) (Vm.Alike.refl U.vm) qK, qD⟩, va_recv hKc hPc (ci := 0) (q0 := 0) rfl rfl, fun U hU hW => ⟨rfl, by rw [hU], by rw [hU]; exact hPc, va_K.moved hW.alike hKc, hDc.weaken (fun _ _ _ _ => trivial)⟩⟩ rfl rfl hl.1 rfl (lv_room (Nat.le_of_ble_eq_true rfl)) dX0_least_18 ⟨(Nat.zero_le _), (Nat.zero_le _)⟩) hS (fun q _ h => hFc q h) hFc (fun u t H1 locs ht hvm hw hB hz1 hk1 hS => ?_)
    obtain ⟨f2, ef2⟩ : ∃ z, z = u := ⟨_, rfl⟩
    rw [← ef2] at hw hB
    obtain ⟨hP1, hK1, hD1⟩ := hB
    rw [ht] at hP1
    have hK1 := va_K.moved hvm.symm hK1
    obtain ⟨hP, hD⟩ := va_join (wr := []) (w1 := [(h0, .inr (0, [.ref a1, .int (nI nn), .int (nI li), .ref a3, .ref a4, .ref a5])), (a1, .inl (c1, 32, .inl fw)), (a3, .inl (c3, 16, .inr (.inl f2))), (a4, .inl (c4, 32, .inr (.inl fc))), (a5, .inl (c5, 16, .inr (.inl fp)))]) hP hD [0, 1, 2, 3, 4] [] rfl rfl (by decide) (by decide) hk1 hFc hP1 hD1
    generalize H1 = H at hP hS ⊢
    have hP : va_P (dC, dI) vwCl [(h0, .inr (0, [.ref a1, .int (nI nn), .int (nI li), .ref a3, .ref a4, .ref a5])), (a1, .inl (c1, 32, .inl fw)), (a3, .inl (c3, 16, .inr (.inl f2))), (a4, .inl (c4, 32, .inr (.inl fc))), (a5, .inl (c5, 16, .inr (.inl fp)))] H := hP
    have hD : va_D A [(h0, .inr (0, [.ref a1, .int (nI nn), .int (nI li), .ref a3, .ref a4, .ref a5])), (a1, .inl (c1, 32, .inl fw)), (a3, .inl (c3, 16, .inr (.inl f2))), (a4, .inl (c4, 32, .inr (.inl fc))), (a5, .inl (c5, 16, .inr (.inl fp)))] := hD
    obtain ⟨ss, hst, hf2⟩ := hw
    refine lv_iconst (v := nI 0) hx hb dX0_least_21 (by decide) ?_
    refine lv_istore_n (lv' := [(1, .int (nI 0)), (0, .ref h0)]) hx hb dX0_least_22 rfl hl (by decide) rfl (fun ls hl => ?_)
    refine lv_aload_n hx hb dX0_least_23 rfl (lv_at hl 1 rfl) ?_
    refine va_get (D := (dC, dI)) (ci := 0) (v := .int (nI li)) (C := RX0) (T := TX0) (N := 6) hx hb hts hinX0_least hown hK hP 0 rfl rfl 2 (by decide) (hts _ mmX0_least_0) (fun _ h9 => h9) rfl dX0_least_24 ?_
    refine lv_istore_n (lv' := [(2, .int (nI li)), (1, .int (nI 0)), (0, .ref h0)]) hx hb dX0_least_27 rfl hl (by decide) rfl (fun ls hl => ?_)
    refine lp_X0_least hx hb hml hown hts hA (Nat.le_of_ble_eq_true rfl) (Nat.le_of_ble_eq_true rfl) h0 a1 a3 a4 a5 c1 c3 c4 c5 fw f2 nn li w ss hn2 hn16 hli hst hf2 hK ?_ (li + 1) 0 (fun _ => 0) fc fp H locs ls (by omega) (Nat.zero_le _) (tc_lev_0 _ _ _) (fun j hj => absurd hj (Nat.not_lt_zero _)) hP hD hS (lv_sub hl [1, 0, 2] rfl)
    intro C g hh H locs ls hC hg hP hD hS hl
    have hroom := tc_cnt_room (n := nn) li 2 (by omega)
    refine lv_aload_n hx hb dX0_least_50 rfl (lv_at hl 0 rfl) ?_
    refine lv_iconst (v := nI 2) hx hb dX0_least_51 (by decide) ?_
    refine lv_aload_n hx hb dX0_least_52 rfl (lv_at hl 0 rfl) ?_
    refine va_get (D := (dC, dI)) (ci := 0) (v := .int (nI nn)) (C := RX0) (T := TX0) (N := 6) hx hb hts hinX0_least hown hK hP 0 rfl rfl 1 (by decide) (hts _ mmX0_least_1) (fun _ h9 => h9) rfl dX0_least_53 ?_
    refine lv_imul hx hb dX0_least_56 ?_
    refine tw_i (nI (2 * nn)) (pk_mul _ _) ?_
    refine lv_iconst (v := nI 2) hx hb dX0_least_57 (by decide) ?_
    refine lv_isub hx hb dX0_least_58 ?_
    refine tw_i (nI ((2 * nn) - 2)) (pk_sub (by omega)) ?_
    have hPc := hP.sub (ws' := [(h0, .inr (0, [.ref a1, .int (nI nn), .int (nI li), .ref a3, .ref a4, .ref a5])), (a1, .inl (c1, 32, .inl fw)), (a3, .inl (c3, 16, .inr (.inl f2))), (a4, .inl (c4, 32, .inr (.inl g))), (a5, .inl (c5, 16, .inr (.inl hh)))]) [0, 1, 2, 3, 4] rfl
    have hDc := hD.sub (ws' := [(h0, .inr (0, [.ref a1, .int (nI nn), .int (nI li), .ref a3, .ref a4, .ref a5])), (a1, .inl (c1, 32, .inl fw)), (a3, .inl (c3, 16, .inr (.inl f2))), (a4, .inl (c4, 32, .inr (.inl g))), (a5, .inl (c5, 16, .inr (.inl hh)))]) [0, 1, 2, 3, 4] (by decide) rfl
    have hKc := hK.sub (tys' := [(c1, .int), (c3, .long), (c4, .long), (c5, .long)]) [0, 1, 2, 3] rfl
    have hFc := va_free (wc := [(h0, .inr (0, [.ref a1, .int (nI nn), .int (nI li), .ref a3, .ref a4, .ref a5])), (a1, .inl (c1, 32, .inl fw)), (a3, .inl (c3, 16, .inr (.inl f2))), (a4, .inl (c4, 32, .inr (.inl g))), (a5, .inl (c5, 16, .inr (.inl hh)))]) hD hS hA [0, 1, 2, 3, 4] rfl
    refine va_calll (va_runV (As := [.int (nI ((2 * nn) - 2))]) (rest := []) ⟨hx, hb, hml, hown, hts⟩ (c_X0_costOfCheapest l dC dI h0 a1 a3 a4 a5 c1 c3 c4 c5 (nI nn) (nI li) fw f2 g hh H.size (2 * nn - 2) C (by omega) (fun j hj => (hg j (by omega)).1)) (cwV 1 hts gX0_least_X0_costOfCheapest rfl rfl rfl (by decide +kernel) ⟨Nat.le_of_ble_eq_true rfl, Nat.le_of_ble_eq_true rfl⟩) ⟨fun a U g mk q => by obtain ⟨q0, q1, qP, qK, qD⟩ := q; exact ⟨q0, q1, qP, va_K.moved (u := U) (U := U.calling g mk a) (Vm.Alike.refl U.vm) qK, qD⟩, va_recv hKc hPc (ci := 0) (q0 := 0) rfl rfl, fun U hU hW => ⟨rfl, by rw [hU], by rw [hU]; exact hPc, va_K.moved hW.alike hKc, hDc.weaken (fun _ _ _ _ => trivial)⟩⟩ rfl rfl hl.1 rfl (lv_room (Nat.le_of_ble_eq_true rfl)) dX0_least_59 ⟨(Nat.zero_le _), (Nat.zero_le _)⟩) hS (fun q _ h => hFc q h) hFc (fun r1 u t H1 locs ht hvm hw hB hz1 hk1 hS => ?_)
    obtain ⟨hP1, hK1, hD1⟩ := hB
    rw [ht] at hP1
    have hK1 := va_K.moved hvm.symm hK1
    obtain ⟨hP, hD⟩ := va_join (wr := []) (w1 := [(h0, .inr (0, [.ref a1, .int (nI nn), .int (nI li), .ref a3, .ref a4, .ref a5])), (a1, .inl (c1, 32, .inl fw)), (a3, .inl (c3, 16, .inr (.inl f2))), (a4, .inl (c4, 32, .inr (.inl g))), (a5, .inl (c5, 16, .inr (.inl hh)))]) hP hD [0, 1, 2, 3, 4] [] rfl rfl (by decide) (by decide) hk1 hFc hP1 hD1
    generalize H1 = H at hP hS ⊢
    have hP : va_P (dC, dI) vwCl [(h0, .inr (0, [.ref a1, .int (nI nn), .int (nI li), .ref a3, .ref a4, .ref a5])), (a1, .inl (c1, 32, .inl fw)), (a3, .inl (c3, 16, .inr (.inl f2))), (a4, .inl (c4, 32, .inr (.inl g))), (a5, .inl (c5, 16, .inr (.inl hh)))] H := hP
    have hD : va_D A [(h0, .inr (0, [.ref a1, .int (nI nn), .int (nI li), .ref a3, .ref a4, .ref a5])), (a1, .inl (c1, 32, .inl fw)), (a3, .inl (c3, 16, .inr (.inl f2))), (a4, .inl (c4, 32, .inr (.inl g))), (a5, .inl (c5, 16, .inr (.inl hh)))] := hD
    subst hw
    exact W.lret (v := lN (tc_sum C (2 * nn - 2))) hx hb hr (fun t ht hW => ⟨⟨lN (tc_sum C (2 * nn - 2)), (f2, g, hh), rfl, Or.inr ⟨hc, ss, C, hst, hC, rfl⟩, by rw [ht]; exact hP, va_K.moved hW.alike hK, hD⟩, hS.F ht⟩) hS.2.2 dX0_least_62
  · refine lv_ldc2 hx hb hown (hts _ mmX0_least_2) dX0_least_13 ?_
    exact W.lret (v := -1) hx hb hr (fun t ht hW => ⟨⟨-1, (fs, fc, fp), rfl, Or.inl ⟨hc, rfl⟩, by rw [ht]; exact hP, va_K.moved hW.alike hK, hD⟩, hS.F ht⟩) hS.2.2 dX0_least_16
end
section
/-! PURE, third part: the table's row, offer by offer -/
section
/-- x is the least of P, or -1 where there is none -/
def tc_mo (P : Nat → Prop) (x : Int64) : Prop := (x = -1 ∧ ∀ c, ¬ P c) ∨ ∃ c, c < 2 ^ 61 ∧ x = lN c ∧ P c ∧ ∀ c', P c' → c ≤ c'
theorem tc_mo_congr {P P' : Nat → Prop} {x : Int64} (h : ∀ c, P c ↔ P' c) (hm : tc_mo P x) : tc_mo P' x := by
  rcases hm with ⟨h1, h2⟩ | ⟨c, h1, h2, h3, h4⟩
  · exact Or.inl ⟨h1, fun c hc => h2 c ((h c).mpr hc)⟩
  · exact Or.inr ⟨c, h1, h2, (h c).mp h3, fun c' hc' => h4 c' ((h c').mpr hc')⟩
theorem tc_mo_none {P : Nat → Prop} (h : ∀ c, ¬ P c) : tc_mo P (-1) := Or.inl ⟨rfl, h⟩
theorem tc_mo_new {P P' : Nat → Prop} {x : Int64} {e : Nat} (hm : tc_mo P x) (he : e < 2 ^ 61) (hq : P' e) (hmin : ∀ c, P' c → e ≤ c) (h : x < 0 ∨ lN e < x) : tc_mo (fun c => P c ∨ P' c) (lN e) := by
  refine Or.inr ⟨e, he, rfl, Or.inr hq, fun c' hc' => ?_⟩
  rcases hc' with hc' | hc'
  · rcases hm with ⟨h1, h2⟩ | ⟨c, h1, h2, h3, h4⟩
    · exact absurd hc' (h2 c')
    · have g := h4 c' hc'
      rcases h with h | h
      · rw [h2] at h; exact absurd h (tn_neg (by omega))
      · rw [h2] at h
        have := (tn_lt (by omega) (by omega)).mp h
        omega
  · exact hmin c' hc'
theorem tc_mo_old {P P' : Nat → Prop} {x : Int64} {e : Nat} (hm : tc_mo P x) (he : e < 2 ^ 61) (hmin : ∀ c, P' c → e ≤ c) (h0 : ¬ x < 0) (h : ¬ lN e < x) : tc_mo (fun c => P c ∨ P' c) x := by
  rcases hm with ⟨h1, h2⟩ | ⟨c, h1, h2, h3, h4⟩
  · rw [h1] at h0; exact absurd tn_m h0
  · refine Or.inr ⟨c, h1, h2, Or.inl h3, fun c' hc' => ?_⟩
    rcases hc' with hc' | hc'
    · exact h4 c' hc'
    · have g := hmin c' hc'
      rw [h2] at h
      have : ¬ e < c := fun q => h ((tn_lt (by omega) (by omega)).mpr q)
      omega
/-- what j letters, k places and a new letters offer: to the next row, and as an answer -/
def tc_of (v : Nat → Nat) (n d j k a j' k' c : Nat) : Prop := ∃ c0, tc_rch v n d j k c0 ∧ a ≤ k ∧ j' = j + a ∧ j' < n ∧ k' = min (2 * (k - a)) (n - j') ∧ 0 < k' ∧ c = c0 + tc_hv v j a * d
def tc_fo (v : Nat → Nat) (n d j k a c : Nat) : Prop := ∃ c0, tc_rch v n d j k c0 ∧ a ≤ k ∧ j + a = n ∧ c = c0 + tc_hv v j a * d
def tc_dn (J K A j k a : Nat) : Prop := j < J ∨ (j = J ∧ (k < K ∨ (k = K ∧ a < A)))
def tc_nx (v : Nat → Nat) (n d J K A j' k' c : Nat) : Prop := ∃ j k a, tc_dn J K A j k a ∧ j ≤ n ∧ k ≤ 16 ∧ tc_of v n d j k a j' k' c
def tc_an (v : Nat → Nat) (n d J K A c : Nat) : Prop := tc_ans v n d c ∨ ∃ j k a, tc_dn J K A j k a ∧ j ≤ n ∧ k ≤ 16 ∧ tc_fo v n d j k a c
/-- the row and the answer once the offers before (J, K, A) are in -/
def tc_st (v : Nat → Nat) (n d J K A : Nat) (g : Nat → Int64) (x : Int64) : Prop :=
  (∀ j' k', j' ≤ n → k' ≤ 16 → tc_mo (tc_nx v n d J K A j' k') (g (17 * j' + k'))) ∧ tc_mo (tc_an v n d J K A) x
theorem tc_st_0 {v : Nat → Nat} {n d : Nat} {g : Nat → Int64} {x : Int64} (hn : n ≤ 16) (hg : ∀ q, q < 289 → g q = -1) (hx : tc_mo (tc_ans v n d) x) : tc_st v n d 0 0 0 g x := by
  refine ⟨fun j' k' hj hk => ?_, tc_mo_congr (fun c => ⟨Or.inl, fun h => ?_⟩) hx⟩
  · rw [hg _ (by omega)]
    refine tc_mo_none (fun c hc => ?_)
    obtain ⟨j, k, a, h1, -⟩ := hc
    unfold tc_dn at h1
    omega
  · rcases h with h | ⟨j, k, a, h1, -⟩
    · exact h
    · unfold tc_dn at h1
      omega
theorem tc_st_re {v : Nat → Nat} {n d J K A J' K' A' : Nat} {g : Nat → Int64} {x : Int64} (h : tc_st v n d J K A g x)
    (h1 : ∀ j k a j' k' c, j ≤ n → k ≤ 16 → tc_of v n d j k a j' k' c → (tc_dn J K A j k a ↔ tc_dn J' K' A' j k a))
    (h2 : ∀ j k a c, j ≤ n → k ≤ 16 → tc_fo v n d j k a c → (tc_dn J K A j k a ↔ tc_dn J' K' A' j k a)) : tc_st v n d J' K' A' g x := by
  refine ⟨fun j' k' hj hk => tc_mo_congr (fun c => ⟨fun q => ?_, fun q => ?_⟩) (h.1 j' k' hj hk), tc_mo_congr (fun c => ⟨fun q => ?_, fun q => ?_⟩) h.2⟩
  · obtain ⟨j, k, a, q1, q2, q3, q4⟩ := q
    exact ⟨j, k, a, (h1 j k a j' k' c q2 q3 q4).mp q1, q2, q3, q4⟩
  · obtain ⟨j, k, a, q1, q2, q3, q4⟩ := q
    exact ⟨j, k, a, (h1 j k a j' k' c q2 q3 q4).mpr q1, q2, q3, q4⟩
  · rcases q with q | ⟨j, k, a, q1, q2, q3, q4⟩
    · exact Or.inl q
    · exact Or.inr ⟨j, k, a, (h2 j k a c q2 q3 q4).mp q1, q2, q3, q4⟩
  · rcases q with q | ⟨j, k, a, q1, q2, q3, q4⟩
    · exact Or.inl q
    · exact Or.inr ⟨j, k, a, (h2 j k a c q2 q3 q4).mpr q1, q2, q3, q4⟩
/-- behind the last offer of (J, K) -/
theorem tc_st_k {v : Nat → Nat} {n d J K A : Nat} {g : Nat → Int64} {x : Int64} (h : tc_st v n d J K A g x) (ho : K < A ∨ n < J + A ∨ ∀ c, ¬ tc_rch v n d J K c) : tc_st v n d J (K + 1) 0 g x := by
  refine tc_st_re h (fun j k a j' k' c _ _ q => ?_) (fun j k a c _ _ q => ?_)
  · obtain ⟨c0, q1, q2, q3, q4, -⟩ := q
    unfold tc_dn
    rcases ho with ho | ho | ho
    · omega
    · omega
    · have : ¬ (j = J ∧ k = K) := fun z => ho c0 (by rw [← z.1, ← z.2]; exact q1)
      omega
  · obtain ⟨c0, q1, q2, q3, -⟩ := q
    unfold tc_dn
    rcases ho with ho | ho | ho
    · omega
    · omega
    · have : ¬ (j = J ∧ k = K) := fun z => ho c0 (by rw [← z.1, ← z.2]; exact q1)
      omega
theorem tc_st_j {v : Nat → Nat} {n d J : Nat} {g : Nat → Int64} {x : Int64} (h : tc_st v n d J 17 0 g x) : tc_st v n d (J + 1) 0 0 g x := by
  refine tc_st_re h (fun j k a j' k' c _ hk q => ?_) (fun j k a c _ hk q => ?_) <;> (unfold tc_dn; omega)
theorem tc_st_end {v : Nat → Nat} {n d : Nat} {g : Nat → Int64} {x : Int64} (h : tc_st v n d (n + 1) 0 0 g x) : (∀ j k, j ≤ n → k ≤ 16 → tc_mo (tc_rch v n (d + 1) j k) (g (17 * j + k))) ∧ tc_mo (tc_ans v n (d + 1)) x := by
  refine ⟨fun j k hj hk => tc_mo_congr (fun c => ⟨fun q => ?_, fun q => ?_⟩) (h.1 j k hj hk), tc_mo_congr (fun c => ⟨fun q => ?_, fun q => ?_⟩) h.2⟩
  · obtain ⟨j0, k0, a, -, q2, q3, c0, g1, g2, g3, g4, g5, g6, g7⟩ := q
    exact ⟨j0, k0, a, c0, g1, q2, q3, g2, g3, g4, g5, g6, g7⟩
  · obtain ⟨j0, k0, a, c0, g1, q2, q3, g2, g3, g4, g5, g6, g7⟩ := q
    exact ⟨j0, k0, a, Or.inl (by omega), q2, q3, c0, g1, g2, g3, g4, g5, g6, g7⟩
  · rcases q with ⟨d', hd', hf⟩ | ⟨j, k, a, -, q2, q3, c0, g1, g2, g3, g4⟩
    · exact ⟨d', by omega, hf⟩
    · exact ⟨d, by omega, j, k, a, c0, g1, q2, q3, g2, g3, g4⟩
  · obtain ⟨d', hd', hf⟩ := q
    by_cases hdd : d' < d
    · exact Or.inl ⟨d', hdd, hf⟩
    · have e : d' = d := by omega
      subst e
      obtain ⟨j, k, a, c0, g1, q2, q3, g2, g3, g4⟩ := hf
      exact Or.inr ⟨j, k, a, Or.inl (by omega), q2, q3, c0, g1, g2, g3, g4⟩
theorem tc_dn_s (J K A j k a : Nat) : tc_dn J K (A + 1) j k a ↔ tc_dn J K A j k a ∨ (j = J ∧ k = K ∧ a = A) := by
  unfold tc_dn
  omega
theorem tc_nx_s (v : Nat → Nat) (n d J K A j' k' c : Nat) (hJ : J ≤ n) (hK : K ≤ 16) : tc_nx v n d J K A j' k' c ∨ tc_of v n d J K A j' k' c ↔ tc_nx v n d J K (A + 1) j' k' c := by
  constructor
  · rintro (⟨j, k, a, h1, h2⟩ | h)
    · exact ⟨j, k, a, (tc_dn_s J K A j k a).mpr (Or.inl h1), h2⟩
    · exact ⟨J, K, A, (tc_dn_s J K A J K A).mpr (Or.inr ⟨rfl, rfl, rfl⟩), hJ, hK, h⟩
  · rintro ⟨j, k, a, h1, h2, h3, h4⟩
    rcases (tc_dn_s J K A j k a).mp h1 with h | ⟨rfl, rfl, rfl⟩
    · exact Or.inl ⟨j, k, a, h, h2, h3, h4⟩
    · exact Or.inr h4
theorem tc_an_s (v : Nat → Nat) (n d J K A c : Nat) (hJ : J ≤ n) (hK : K ≤ 16) : tc_an v n d J K A c ∨ tc_fo v n d J K A c ↔ tc_an v n d J K (A + 1) c := by
  constructor
  · rintro ((h | ⟨j, k, a, h1, h2⟩) | h)
    · exact Or.inl h
    · exact Or.inr ⟨j, k, a, (tc_dn_s J K A j k a).mpr (Or.inl h1), h2⟩
    · exact Or.inr ⟨J, K, A, (tc_dn_s J K A J K A).mpr (Or.inr ⟨rfl, rfl, rfl⟩), hJ, hK, h⟩
  · rintro (h | ⟨j, k, a, h1, h2, h3, h4⟩)
    · exact Or.inl (Or.inl h)
    · rcases (tc_dn_s J K A j k a).mp h1 with h | ⟨rfl, rfl, rfl⟩
      · exact Or.inl (Or.inr ⟨j, k, a, h, h2, h3, h4⟩)
      · exact Or.inr h4
theorem tc_row_keep {v : Nat → Nat} {n d J K A j' k' : Nat} {x : Int64} (hJ : J ≤ n) (hK : K ≤ 16) (hno : ∀ c, ¬ tc_of v n d J K A j' k' c) (h : tc_mo (tc_nx v n d J K A j' k') x) : tc_mo (tc_nx v n d J K (A + 1) j' k') x :=
  tc_mo_congr (fun c => ⟨fun q => (tc_nx_s v n d J K A j' k' c hJ hK).mp (Or.inl q), fun q => ((tc_nx_s v n d J K A j' k' c hJ hK).mpr q).resolve_right (hno c)⟩) h
theorem tc_an_keep {v : Nat → Nat} {n d J K A : Nat} {x : Int64} (hJ : J ≤ n) (hK : K ≤ 16) (hno : ∀ c, ¬ tc_fo v n d J K A c) (h : tc_mo (tc_an v n d J K A) x) : tc_mo (tc_an v n d J K (A + 1)) x :=
  tc_mo_congr (fun c => ⟨fun q => (tc_an_s v n d J K A c hJ hK).mp (Or.inl q), fun q => ((tc_an_s v n d J K A c hJ hK).mpr q).resolve_right (hno c)⟩) h
section
variable {v : Nat → Nat} {n d J K A c0 : Nat} {g : Nat → Int64} {x : Int64}
theorem tc_fo_min (hr : tc_rch v n d J K c0) (hmin : ∀ c, tc_rch v n d J K c → c0 ≤ c) (hA : A ≤ K) (hn : J + A = n) : tc_fo v n d J K A (c0 + tc_hv v J A * d) ∧ ∀ c, tc_fo v n d J K A c → c0 + tc_hv v J A * d ≤ c := by
  refine ⟨⟨c0, hr, hA, hn, rfl⟩, fun c hc => ?_⟩
  obtain ⟨c1, h1, -, -, rfl⟩ := hc
  have := hmin c1 h1
  omega
theorem tc_st_f (h : tc_st v n d J K A g x) (hJ : J ≤ n) (hK : K ≤ 16) (hr : tc_rch v n d J K c0) (hmin : ∀ c, tc_rch v n d J K c → c0 ≤ c) (hA : A ≤ K) (hn : J + A = n) (he : c0 + tc_hv v J A * d < 2 ^ 61) (hx : x < 0 ∨ lN (c0 + tc_hv v J A * d) < x) : tc_st v n d J K (A + 1) g (lN (c0 + tc_hv v J A * d)) := by
  obtain ⟨f1, f2⟩ := tc_fo_min hr hmin hA hn
  refine ⟨fun j' k' hj hk => tc_row_keep hJ hK (fun c q => ?_) (h.1 j' k' hj hk), tc_mo_congr (fun c => tc_an_s v n d J K A c hJ hK) (tc_mo_new h.2 he f1 f2 hx)⟩
  obtain ⟨c1, -, -, q3, q4, -⟩ := q
  omega
theorem tc_st_fk (h : tc_st v n d J K A g x) (hJ : J ≤ n) (hK : K ≤ 16) (hr : tc_rch v n d J K c0) (hmin : ∀ c, tc_rch v n d J K c → c0 ≤ c) (hA : A ≤ K) (hn : J + A = n) (he : c0 + tc_hv v J A * d < 2 ^ 61) (h0 : ¬ x < 0) (hx : ¬ lN (c0 + tc_hv v J A * d) < x) : tc_st v n d J K (A + 1) g x := by
  obtain ⟨f1, f2⟩ := tc_fo_min hr hmin hA hn
  refine ⟨fun j' k' hj hk => tc_row_keep hJ hK (fun c q => ?_) (h.1 j' k' hj hk), tc_mo_congr (fun c => tc_an_s v n d J K A c hJ hK) (tc_mo_old h.2 he f2 h0 hx)⟩
  obtain ⟨c1, -, -, q3, q4, -⟩ := q
  omega
theorem tc_of_min {op : Nat} (hr : tc_rch v n d J K c0) (hmin : ∀ c, tc_rch v n d J K c → c0 ≤ c) (hA : A ≤ K) (hn : J + A < n) (hop : op = min (2 * (K - A)) (n - (J + A))) (h0 : 0 < op) : tc_of v n d J K A (J + A) op (c0 + tc_hv v J A * d) ∧ ∀ c, tc_of v n d J K A (J + A) op c → c0 + tc_hv v J A * d ≤ c := by
  refine ⟨⟨c0, hr, hA, rfl, hn, hop, h0, rfl⟩, fun c hc => ?_⟩
  obtain ⟨c1, h1, -, -, -, -, -, rfl⟩ := hc
  have := hmin c1 h1
  omega
theorem tc_of_no {op j' k' : Nat} (hop : op = min (2 * (K - A)) (n - (J + A))) (hne : ¬ (j' = J + A ∧ k' = op)) : ∀ c, ¬ tc_of v n d J K A j' k' c := by
  rintro c ⟨c1, -, -, q3, -, q5, -⟩
  refine hne ⟨q3, ?_⟩
  rw [q5, hop, q3]
theorem tc_fo_no (hn : J + A < n) : ∀ c, ¬ tc_fo v n d J K A c := by
  rintro c ⟨c1, -, -, q3, -⟩
  omega
theorem tc_st_o {op : Nat} (h : tc_st v n d J K A g x) (hJ : J ≤ n) (hK : K ≤ 16) (hn16 : n ≤ 16) (hr : tc_rch v n d J K c0) (hmin : ∀ c, tc_rch v n d J K c → c0 ≤ c) (hA : A ≤ K) (hn : J + A < n) (hop : op = min (2 * (K - A)) (n - (J + A))) (h0 : 0 < op) (he : c0 + tc_hv v J A * d < 2 ^ 61) (hx : g (17 * (J + A) + op) < 0 ∨ lN (c0 + tc_hv v J A * d) < g (17 * (J + A) + op)) : tc_st v n d J K (A + 1) (vp_updL g (17 * (J + A) + op) (lN (c0 + tc_hv v J A * d))) x := by
  obtain ⟨f1, f2⟩ := tc_of_min hr hmin hA hn hop h0
  refine ⟨fun j' k' hj hk => ?_, tc_an_keep hJ hK (tc_fo_no hn) h.2⟩
  by_cases hne : j' = J + A ∧ k' = op
  · obtain ⟨rfl, rfl⟩ := hne
    rw [pk_uLs]
    exact tc_mo_congr (fun c => tc_nx_s v n d J K A (J + A) k' c hJ hK) (tc_mo_new (h.1 (J + A) k' hj hk) he f1 f2 hx)
  · rw [pk_uLn (by omega)]
    exact tc_row_keep hJ hK (tc_of_no hop hne) (h.1 j' k' hj hk)
theorem tc_st_ok {op : Nat} (h : tc_st v n d J K A g x) (hJ : J ≤ n) (hK : K ≤ 16) (hn16 : n ≤ 16) (hr : tc_rch v n d J K c0) (hmin : ∀ c, tc_rch v n d J K c → c0 ≤ c) (hA : A ≤ K) (hn : J + A < n) (hop : op = min (2 * (K - A)) (n - (J + A))) (h0 : 0 < op) (he : c0 + tc_hv v J A * d < 2 ^ 61) (hx0 : ¬ g (17 * (J + A) + op) < 0) (hx : ¬ lN (c0 + tc_hv v J A * d) < g (17 * (J + A) + op)) : tc_st v n d J K (A + 1) g x := by
  obtain ⟨f1, f2⟩ := tc_of_min hr hmin hA hn hop h0
  refine ⟨fun j' k' hj hk => ?_, tc_an_keep hJ hK (tc_fo_no hn) h.2⟩
  by_cases hne : j' = J + A ∧ k' = op
  · obtain ⟨rfl, rfl⟩ := hne
    exact tc_mo_congr (fun c => tc_nx_s v n d J K A (J + A) k' c hJ hK) (tc_mo_old (h.1 (J + A) k' hj hk) he f2 hx0 hx)
  · exact tc_row_keep hJ hK (tc_of_no hop hne) (h.1 j' k' hj hk)
theorem tc_st_o0 {op : Nat} (h : tc_st v n d J K A g x) (hJ : J ≤ n) (hK : K ≤ 16) (hn : J + A < n) (hop : op = min (2 * (K - A)) (n - (J + A))) (h0 : op = 0) : tc_st v n d J K (A + 1) g x := by
  refine ⟨fun j' k' hj hk => tc_row_keep hJ hK (fun c q => ?_) (h.1 j' k' hj hk), tc_an_keep hJ hK (tc_fo_no hn) h.2⟩
  obtain ⟨c1, -, -, q3, q4, q5, q6, -⟩ := q
  subst q3
  omega
end
theorem tc_e_lt {v : Nat → Nat} {n d j k a c : Nat} (hn : n ≤ 16) (hv : ∀ i, i < n → v i ≤ 2 ^ 31) (hd : d ≤ 15) (hr : tc_rch v n d j k c) (hj : j + a ≤ n) : c + tc_hv v j a * d < 2 ^ 61 := by
  have h1 := tc_rch_le hv (D := 15) (by omega) hr
  have h2 := tc_hv_le hv j a hj
  have h3 : tc_hv v j a * d ≤ a * 2 ^ 31 * 15 := Nat.mul_le_mul h2 hd
  omega
theorem tc_hv_s (v : Nat → Nat) (d j : Nat) {a : Nat} (h : 0 < a) : tc_hv v j (a - 1) * d + v (j + a - 1) * d = tc_hv v j a * d := by
  obtain ⟨b, rfl⟩ : ∃ b, a = b + 1 := ⟨a - 1, by omega⟩
  have e : j + (b + 1) - 1 = j + b := by omega
  rw [e, Nat.add_sub_cancel, ← Nat.add_mul]
  rfl
/-- the table's first row -/
theorem tc_row_0 {v : Nat → Nat} {n : Nat} {g : Nat → Int64} (hn : n ≤ 16) (hg : ∀ q, q < 289 → g q = -1) : ∀ j k, j ≤ n → k ≤ 16 → tc_mo (tc_rch v n 0 j k) (vp_updL g 1 (lN 0) (17 * j + k)) := by
  intro j k hj hk
  by_cases h : j = 0 ∧ k = 1
  · obtain ⟨rfl, rfl⟩ := h
    refine Or.inr ⟨0, by decide, rfl, ⟨rfl, rfl, rfl⟩, fun c' _ => Nat.zero_le _⟩
  · rw [pk_uLn (by omega), hg _ (by omega)]
    refine tc_mo_none (fun c hc => ?_)
    obtain ⟨h1, h2, -⟩ := hc
    exact h ⟨h1, h2⟩
theorem tc_ans_0 (v : Nat → Nat) (n : Nat) : tc_mo (tc_ans v n 0) (-1) := tc_mo_none (fun c hc => by
  obtain ⟨d, hd, -⟩ := hc
  omega)
end
end
section
theorem hinX1_letters : ∀ w ∈ wsX10, w ∈ wsX1_letters := by decide +kernel
theorem hinX1_limit : ∀ w ∈ wsX10, w ∈ wsX1_limit := by decide +kernel
theorem hinX1_weight : ∀ w ∈ wsX10, w ∈ wsX1_weight := by decide +kernel
theorem hinX1_init : ∀ w ∈ wsX10, w ∈ wsX1_init := by decide +kernel
theorem mmX1_letters_0 : Cond.constant RX1 30 (2147483647) ∈ wsX1_letters := by decide +kernel
theorem mmX1_letters_1 : Cond.fieldLink RX1 13 "TrimCodesModel" "n" "I" ∈ wsX1_letters := by decide +kernel
theorem mmX1_limit_0 : Cond.constant RX1 30 (2147483647) ∈ wsX1_limit := by decide +kernel
theorem mmX1_limit_1 : Cond.fieldLink RX1 17 "TrimCodesModel" "limit" "I" ∈ wsX1_limit := by decide +kernel
theorem mmX1_weight_0 : Cond.fieldLink RX1 7 "TrimCodesModel" "weight" "[I" ∈ wsX1_weight := by decide +kernel
theorem mmX1_weight_1 : Cond.constant RX1 30 (2147483647) ∈ wsX1_weight := by decide +kernel
theorem mmX1_init_0 : Cond.methodLink RX1 1 objectInit ∈ wsX1_init := by decide +kernel
theorem mmX1_init_1 : Cond.instanceMethod objectInit ∈ wsX1_init := by decide +kernel
theorem mmX1_init_2 : Cond.arrayClass .int ∈ wsX1_init := by decide +kernel
theorem mmX1_init_3 : Cond.fieldLink RX1 7 "TrimCodesModel" "weight" "[I" ∈ wsX1_init := by decide +kernel
theorem mmX1_init_4 : Cond.fieldLink RX1 13 "TrimCodesModel" "n" "I" ∈ wsX1_init := by decide +kernel
theorem mmX1_init_5 : Cond.fieldLink RX1 17 "TrimCodesModel" "limit" "I" ∈ wsX1_init := by decide +kernel
theorem mmX1_init_6 : Cond.arrayClass .long ∈ wsX1_init := by decide +kernel
theorem mmX1_init_7 : Cond.fieldLink RX1 20 "TrimCodesModel" "best" "[J" ∈ wsX1_init := by decide +kernel
theorem mmX1_init_8 : Cond.fieldLink RX1 24 "TrimCodesModel" "next" "[J" ∈ wsX1_init := by decide +kernel
theorem mmX1_init_9 : Cond.fieldLink RX1 27 "TrimCodesModel" "order" "[I" ∈ wsX1_init := by decide +kernel
set_option maxHeartbeats 4000000 in
set_option maxRecDepth 100000 in
/-- the reference: letters(k) -/
theorem c_X1_letters (l : Launch) (dC : Nat → ClassId) (dI : Nat → Nat → Nat) (h0 b1 b4 b5 b6 : Nat) (d1 d4 d5 d6 : ClassId) (n lim : Int32) (fw : Nat → Int32) (fb fx : Nat → Int64) (fo : Nat → Int32) (sz : Nat) (p0 : Int32) : Met l yX1_letters wsX1_letters ({ frames := 0, cells := 0, slots := 0, locals := 0 }) (va_Pc [.ref h0, .int p0] (fun U => U.heap.size = sz ∧ va_P (dC, dI) vwCl [(h0, .inr (1, [.ref b1, .int n, .int lim, .ref b4, .ref b5, .ref b6])), (b1, .inl (d1, 32, .inl fw)), (b4, .inl (d4, 289, .inr (.inl fb))), (b5, .inl (d5, 289, .inr (.inl fx))), (b6, .inl (d6, 32, .inl fo))] U.heap ∧ va_K (dC, dI) vwCl [(d1, .int), (d4, .long), (d5, .long), (d6, .int)] U ∧ va_D (fun _ => True) [(h0, .inr (1, [.ref b1, .int n, .int lim, .ref b4, .ref b5, .ref b6])), (b1, .inl (d1, 32, .inl fw)), (b4, .inl (d4, 289, .inr (.inl fb))), (b5, .inl (d5, 289, .inr (.inl fx))), (b6, .inl (d6, 32, .inl fo))])) (va_Qv (fun u : Int32 => u = nI (2 + tn_k p0 % 15)) (fun (u : Int32) (t : State) => va_P (dC, dI) vwCl [(h0, .inr (1, [.ref b1, .int u, .int lim, .ref b4, .ref b5, .ref b6])), (b1, .inl (d1, 32, .inl fw)), (b4, .inl (d4, 289, .inr (.inl fb))), (b5, .inl (d5, 289, .inr (.inl fx))), (b6, .inl (d6, 32, .inl fo))] t.heap ∧ va_K (dC, dI) vwCl [(d1, .int), (d4, .long), (d5, .long), (d6, .int)] t ∧ va_D (va_A [(h0, .inr (1, [.ref b1, .int n, .int lim, .ref b4, .ref b5, .ref b6])), (b1, .inl (d1, 32, .inl fw)), (b4, .inl (d4, 289, .inr (.inl fb))), (b5, .inl (d5, 289, .inr (.inl fx))), (b6, .inl (d6, 32, .inl fo))] sz) [(h0, .inr (1, [.ref b1, .int u, .int lim, .ref b4, .ref b5, .ref b6])), (b1, .inl (d1, 32, .inl fw)), (b4, .inl (d4, 289, .inr (.inl fb))), (b5, .inl (d5, 289, .inr (.inl fx))), (b6, .inl (d6, 32, .inl fo))]) (va_A [(h0, .inr (1, [.ref b1, .int n, .int lim, .ref b4, .ref b5, .ref b6])), (b1, .inl (d1, 32, .inl fw)), (b4, .inl (d4, 289, .inr (.inl fb))), (b5, .inl (d5, 289, .inr (.inl fx))), (b6, .inl (d6, 32, .inl fo))] sz)) 0 0 (va_A [(h0, .inr (1, [.ref b1, .int n, .int lim, .ref b4, .ref b5, .ref b6])), (b1, .inl (d1, 32, .inl fw)), (b4, .inl (d4, 289, .inr (.inl fb))), (b5, .inl (d5, 289, .inr (.inl fx))), (b6, .inl (d6, 32, .inl fo))] sz) := by
  refine Met.ofW (cc := cX1_letters) (maxL := 2) (ret := none) (by decide) rfl ?_
  intro p e s m args below meth c s₁ B hml hv
  obtain ⟨rfl, hsz, hP, hK, hD0⟩ := hv
  have hx := B.exec
  have hb := B.bytes
  have hr := B.returns
  have hts := atoms_spec (ws := wsX1_letters) B.pre
  have hown : s.vm.findClass RX1 = some m.cls := findClass_of_methodNamed B.named
  have hlocks := B.notSynchronized
  subst hsz
  have hD := hD0.self (sz := s.heap.size)
  generalize hAe : va_A [(h0, .inr (1, [.ref b1, .int n, .int lim, .ref b4, .ref b5, .ref b6])), (b1, .inl (d1, 32, .inl fw)), (b4, .inl (d4, 289, .inr (.inl fb))), (b5, .inl (d5, 289, .inr (.inl fx))), (b6, .inl (d6, 32, .inl fo))] s.heap.size = A at hD ⊢
  have hA : ∀ q : Nat, s.heap.size ≤ q → A q := fun q h => by rw [← hAe]; exact Or.inr h
  have hS : va_S A s.heap s.heap [] := va_S.rf
  have hP : va_P (dC, dI) vwCl [(h0, .inr (1, [.ref b1, .int n, .int lim, .ref b4, .ref b5, .ref b6])), (b1, .inl (d1, 32, .inl fw)), (b4, .inl (d4, 289, .inr (.inl fb))), (b5, .inl (d5, 289, .inr (.inl fx))), (b6, .inl (d6, 32, .inl fo))] s.heap := hP
  have hl := lv_entry ([.ref h0, .int p0]) (n := 2) (Nat.le_of_ble_eq_true rfl)
  rw [lg_entry_eq]
  generalize (lg_sl ([.ref h0, .int p0]) ++ List.replicate (2 - (lg_sl ([.ref h0, .int p0])).length) Slot.unset).toArray = ls at hl ⊢
  have hl : lv_has ls 2 [(0, .ref h0), (1, .int p0)] := hl
  refine lv_aload_n hx hb dX1_letters_0 rfl (lv_at hl 0 rfl) ?_
  refine lv_iconst (v := nI 2) hx hb dX1_letters_1 (by decide) ?_
  refine lv_iload_n hx hb dX1_letters_2 rfl (lv_at hl 1 rfl) ?_
  refine lv_ldc hx hb hown (hts _ mmX1_letters_0) dX1_letters_3 ?_
  refine lv_iand hx hb dX1_letters_5 ?_
  refine tw_i (nI (tn_k p0)) (tn_k_and p0) ?_
  refine lv_bipush (v := nI 15) hx hb dX1_letters_6 (by decide) ?_
  refine lv_irem hx hb dX1_letters_8 (by decide) ?_
  refine tw_i (nI (tn_k p0 % 15)) (tn_rem 15 (tn_k_lt p0) (by decide) (by decide)) ?_
  refine lv_iadd hx hb dX1_letters_9 ?_
  refine tw_i (nI (2 + (tn_k p0 % 15))) (nI_add _ _) ?_
  refine va_put (D := (dC, dI)) (ci := 1) (v := .int (nI (2 + (tn_k p0 % 15)))) (ty := .int) (C := RX1) (T := TX1) (N := 6) hx hb hts hinX1_letters tyX1 tyX1_ok nmX1 hown hK hP hD hS 0 rfl rfl 1 (by decide) (hts _ mmX1_letters_1) (fun _ h9 => h9) rfl (by decide +kernel) rfl rfl (Nat.le_of_ble_eq_true rfl) dX1_letters_10 (fun H locs hP hD hS => ?_)
  have hP : va_P (dC, dI) vwCl [(h0, .inr (1, [.ref b1, .int (nI (2 + (tn_k p0 % 15))), .int lim, .ref b4, .ref b5, .ref b6])), (b1, .inl (d1, 32, .inl fw)), (b4, .inl (d4, 289, .inr (.inl fb))), (b5, .inl (d5, 289, .inr (.inl fx))), (b6, .inl (d6, 32, .inl fo))] H := hP
  have hD : va_D A [(h0, .inr (1, [.ref b1, .int (nI (2 + (tn_k p0 % 15))), .int lim, .ref b4, .ref b5, .ref b6])), (b1, .inl (d1, 32, .inl fw)), (b4, .inl (d4, 289, .inr (.inl fb))), (b5, .inl (d5, 289, .inr (.inl fx))), (b6, .inl (d6, 32, .inl fo))] := hD
  exact W.vret hx hb hr (fun t ht hW => ⟨⟨nI (2 + tn_k p0 % 15), rfl, rfl, by rw [ht]; exact hP, va_K.moved hW.alike hK, hD⟩, hS.F ht⟩) hS.2.2 dX1_letters_13
set_option maxHeartbeats 4000000 in
set_option maxRecDepth 100000 in
/-- the reference: limit(k) -/
theorem c_X1_limit (l : Launch) (dC : Nat → ClassId) (dI : Nat → Nat → Nat) (h0 b1 b4 b5 b6 : Nat) (d1 d4 d5 d6 : ClassId) (n lim : Int32) (fw : Nat → Int32) (fb fx : Nat → Int64) (fo : Nat → Int32) (sz : Nat) (p0 : Int32) : Met l yX1_limit wsX1_limit ({ frames := 0, cells := 0, slots := 0, locals := 0 }) (va_Pc [.ref h0, .int p0] (fun U => U.heap.size = sz ∧ va_P (dC, dI) vwCl [(h0, .inr (1, [.ref b1, .int n, .int lim, .ref b4, .ref b5, .ref b6])), (b1, .inl (d1, 32, .inl fw)), (b4, .inl (d4, 289, .inr (.inl fb))), (b5, .inl (d5, 289, .inr (.inl fx))), (b6, .inl (d6, 32, .inl fo))] U.heap ∧ va_K (dC, dI) vwCl [(d1, .int), (d4, .long), (d5, .long), (d6, .int)] U ∧ va_D (fun _ => True) [(h0, .inr (1, [.ref b1, .int n, .int lim, .ref b4, .ref b5, .ref b6])), (b1, .inl (d1, 32, .inl fw)), (b4, .inl (d4, 289, .inr (.inl fb))), (b5, .inl (d5, 289, .inr (.inl fx))), (b6, .inl (d6, 32, .inl fo))])) (va_Qv (fun u : Int32 => u = nI (tn_k p0 % 16)) (fun (u : Int32) (t : State) => va_P (dC, dI) vwCl [(h0, .inr (1, [.ref b1, .int n, .int u, .ref b4, .ref b5, .ref b6])), (b1, .inl (d1, 32, .inl fw)), (b4, .inl (d4, 289, .inr (.inl fb))), (b5, .inl (d5, 289, .inr (.inl fx))), (b6, .inl (d6, 32, .inl fo))] t.heap ∧ va_K (dC, dI) vwCl [(d1, .int), (d4, .long), (d5, .long), (d6, .int)] t ∧ va_D (va_A [(h0, .inr (1, [.ref b1, .int n, .int lim, .ref b4, .ref b5, .ref b6])), (b1, .inl (d1, 32, .inl fw)), (b4, .inl (d4, 289, .inr (.inl fb))), (b5, .inl (d5, 289, .inr (.inl fx))), (b6, .inl (d6, 32, .inl fo))] sz) [(h0, .inr (1, [.ref b1, .int n, .int u, .ref b4, .ref b5, .ref b6])), (b1, .inl (d1, 32, .inl fw)), (b4, .inl (d4, 289, .inr (.inl fb))), (b5, .inl (d5, 289, .inr (.inl fx))), (b6, .inl (d6, 32, .inl fo))]) (va_A [(h0, .inr (1, [.ref b1, .int n, .int lim, .ref b4, .ref b5, .ref b6])), (b1, .inl (d1, 32, .inl fw)), (b4, .inl (d4, 289, .inr (.inl fb))), (b5, .inl (d5, 289, .inr (.inl fx))), (b6, .inl (d6, 32, .inl fo))] sz)) 0 0 (va_A [(h0, .inr (1, [.ref b1, .int n, .int lim, .ref b4, .ref b5, .ref b6])), (b1, .inl (d1, 32, .inl fw)), (b4, .inl (d4, 289, .inr (.inl fb))), (b5, .inl (d5, 289, .inr (.inl fx))), (b6, .inl (d6, 32, .inl fo))] sz) := by
  refine Met.ofW (cc := cX1_limit) (maxL := 2) (ret := none) (by decide) rfl ?_
  intro p e s m args below meth c s₁ B hml hv
  obtain ⟨rfl, hsz, hP, hK, hD0⟩ := hv
  have hx := B.exec
  have hb := B.bytes
  have hr := B.returns
  have hts := atoms_spec (ws := wsX1_limit) B.pre
  have hown : s.vm.findClass RX1 = some m.cls := findClass_of_methodNamed B.named
  have hlocks := B.notSynchronized
  subst hsz
  have hD := hD0.self (sz := s.heap.size)
  generalize hAe : va_A [(h0, .inr (1, [.ref b1, .int n, .int lim, .ref b4, .ref b5, .ref b6])), (b1, .inl (d1, 32, .inl fw)), (b4, .inl (d4, 289, .inr (.inl fb))), (b5, .inl (d5, 289, .inr (.inl fx))), (b6, .inl (d6, 32, .inl fo))] s.heap.size = A at hD ⊢
  have hA : ∀ q : Nat, s.heap.size ≤ q → A q := fun q h => by rw [← hAe]; exact Or.inr h
  have hS : va_S A s.heap s.heap [] := va_S.rf
  have hP : va_P (dC, dI) vwCl [(h0, .inr (1, [.ref b1, .int n, .int lim, .ref b4, .ref b5, .ref b6])), (b1, .inl (d1, 32, .inl fw)), (b4, .inl (d4, 289, .inr (.inl fb))), (b5, .inl (d5, 289, .inr (.inl fx))), (b6, .inl (d6, 32, .inl fo))] s.heap := hP
  have hl := lv_entry ([.ref h0, .int p0]) (n := 2) (Nat.le_of_ble_eq_true rfl)
  rw [lg_entry_eq]
  generalize (lg_sl ([.ref h0, .int p0]) ++ List.replicate (2 - (lg_sl ([.ref h0, .int p0])).length) Slot.unset).toArray = ls at hl ⊢
  have hl : lv_has ls 2 [(0, .ref h0), (1, .int p0)] := hl
  refine lv_aload_n hx hb dX1_limit_0 rfl (lv_at hl 0 rfl) ?_
  refine lv_iload_n hx hb dX1_limit_1 rfl (lv_at hl 1 rfl) ?_
  refine lv_ldc hx hb hown (hts _ mmX1_limit_0) dX1_limit_2 ?_
  refine lv_iand hx hb dX1_limit_4 ?_
  refine tw_i (nI (tn_k p0)) (tn_k_and p0) ?_
  refine lv_bipush (v := nI 16) hx hb dX1_limit_5 (by decide) ?_
  refine lv_irem hx hb dX1_limit_7 (by decide) ?_
  refine tw_i (nI (tn_k p0 % 16)) (tn_rem 16 (tn_k_lt p0) (by decide) (by decide)) ?_
  refine va_put (D := (dC, dI)) (ci := 1) (v := .int (nI (tn_k p0 % 16))) (ty := .int) (C := RX1) (T := TX1) (N := 6) hx hb hts hinX1_limit tyX1 tyX1_ok nmX1 hown hK hP hD hS 0 rfl rfl 2 (by decide) (hts _ mmX1_limit_1) (fun _ h9 => h9) rfl (by decide +kernel) rfl rfl (Nat.le_of_ble_eq_true rfl) dX1_limit_8 (fun H locs hP hD hS => ?_)
  have hP : va_P (dC, dI) vwCl [(h0, .inr (1, [.ref b1, .int n, .int (nI (tn_k p0 % 16)), .ref b4, .ref b5, .ref b6])), (b1, .inl (d1, 32, .inl fw)), (b4, .inl (d4, 289, .inr (.inl fb))), (b5, .inl (d5, 289, .inr (.inl fx))), (b6, .inl (d6, 32, .inl fo))] H := hP
  have hD : va_D A [(h0, .inr (1, [.ref b1, .int n, .int (nI (tn_k p0 % 16)), .ref b4, .ref b5, .ref b6])), (b1, .inl (d1, 32, .inl fw)), (b4, .inl (d4, 289, .inr (.inl fb))), (b5, .inl (d5, 289, .inr (.inl fx))), (b6, .inl (d6, 32, .inl fo))] := hD
  exact W.vret hx hb hr (fun t ht hW => ⟨⟨nI (tn_k p0 % 16), rfl, rfl, by rw [ht]; exact hP, va_K.moved hW.alike hK, hD⟩, hS.F ht⟩) hS.2.2 dX1_limit_11
set_option maxHeartbeats 4000000 in
set_option maxRecDepth 100000 in
/-- the reference: weight(i, a, b, c, d) -/
theorem c_X1_weight (l : Launch) (dC : Nat → ClassId) (dI : Nat → Nat → Nat) (h0 b1 b4 b5 b6 : Nat) (d1 d4 d5 d6 : ClassId) (n lim : Int32) (fw : Nat → Int32) (fb fx : Nat → Int64) (fo : Nat → Int32) (sz : Nat) (p0 p1 p2 p3 p4 : Int32) : Met l yX1_weight wsX1_weight ({ frames := 0, cells := 0, slots := 0, locals := 0 }) (va_Pc [.ref h0, .int p0, .int p1, .int p2, .int p3, .int p4] (fun U => U.heap.size = sz ∧ va_P (dC, dI) vwCl [(h0, .inr (1, [.ref b1, .int n, .int lim, .ref b4, .ref b5, .ref b6])), (b1, .inl (d1, 32, .inl fw)), (b4, .inl (d4, 289, .inr (.inl fb))), (b5, .inl (d5, 289, .inr (.inl fx))), (b6, .inl (d6, 32, .inl fo))] U.heap ∧ va_K (dC, dI) vwCl [(d1, .int), (d4, .long), (d5, .long), (d6, .int)] U ∧ va_D (fun _ => True) [(h0, .inr (1, [.ref b1, .int n, .int lim, .ref b4, .ref b5, .ref b6])), (b1, .inl (d1, 32, .inl fw)), (b4, .inl (d4, 289, .inr (.inl fb))), (b5, .inl (d5, 289, .inr (.inl fx))), (b6, .inl (d6, 32, .inl fo))])) (va_Qv (fun u : Nat → Int32 => u = tn_wt fw p0 p1 p2 p3 p4) (fun (u : Nat → Int32) (t : State) => va_P (dC, dI) vwCl [(h0, .inr (1, [.ref b1, .int n, .int lim, .ref b4, .ref b5, .ref b6])), (b1, .inl (d1, 32, .inl u)), (b4, .inl (d4, 289, .inr (.inl fb))), (b5, .inl (d5, 289, .inr (.inl fx))), (b6, .inl (d6, 32, .inl fo))] t.heap ∧ va_K (dC, dI) vwCl [(d1, .int), (d4, .long), (d5, .long), (d6, .int)] t ∧ va_D (va_A [(h0, .inr (1, [.ref b1, .int n, .int lim, .ref b4, .ref b5, .ref b6])), (b1, .inl (d1, 32, .inl fw)), (b4, .inl (d4, 289, .inr (.inl fb))), (b5, .inl (d5, 289, .inr (.inl fx))), (b6, .inl (d6, 32, .inl fo))] sz) [(h0, .inr (1, [.ref b1, .int n, .int lim, .ref b4, .ref b5, .ref b6])), (b1, .inl (d1, 32, .inl u)), (b4, .inl (d4, 289, .inr (.inl fb))), (b5, .inl (d5, 289, .inr (.inl fx))), (b6, .inl (d6, 32, .inl fo))]) (va_A [(h0, .inr (1, [.ref b1, .int n, .int lim, .ref b4, .ref b5, .ref b6])), (b1, .inl (d1, 32, .inl fw)), (b4, .inl (d4, 289, .inr (.inl fb))), (b5, .inl (d5, 289, .inr (.inl fx))), (b6, .inl (d6, 32, .inl fo))] sz)) 0 0 (va_A [(h0, .inr (1, [.ref b1, .int n, .int lim, .ref b4, .ref b5, .ref b6])), (b1, .inl (d1, 32, .inl fw)), (b4, .inl (d4, 289, .inr (.inl fb))), (b5, .inl (d5, 289, .inr (.inl fx))), (b6, .inl (d6, 32, .inl fo))] sz) := by
  refine Met.ofW (cc := cX1_weight) (maxL := 7) (ret := none) (by decide) rfl ?_
  intro p e s m args below meth c s₁ B hml hv
  obtain ⟨rfl, hsz, hP, hK, hD0⟩ := hv
  have hx := B.exec
  have hb := B.bytes
  have hr := B.returns
  have hts := atoms_spec (ws := wsX1_weight) B.pre
  have hown : s.vm.findClass RX1 = some m.cls := findClass_of_methodNamed B.named
  have hlocks := B.notSynchronized
  subst hsz
  have hD := hD0.self (sz := s.heap.size)
  generalize hAe : va_A [(h0, .inr (1, [.ref b1, .int n, .int lim, .ref b4, .ref b5, .ref b6])), (b1, .inl (d1, 32, .inl fw)), (b4, .inl (d4, 289, .inr (.inl fb))), (b5, .inl (d5, 289, .inr (.inl fx))), (b6, .inl (d6, 32, .inl fo))] s.heap.size = A at hD ⊢
  have hA : ∀ q : Nat, s.heap.size ≤ q → A q := fun q h => by rw [← hAe]; exact Or.inr h
  have hS : va_S A s.heap s.heap [] := va_S.rf
  have hP : va_P (dC, dI) vwCl [(h0, .inr (1, [.ref b1, .int n, .int lim, .ref b4, .ref b5, .ref b6])), (b1, .inl (d1, 32, .inl fw)), (b4, .inl (d4, 289, .inr (.inl fb))), (b5, .inl (d5, 289, .inr (.inl fx))), (b6, .inl (d6, 32, .inl fo))] s.heap := hP
  have hl := lv_entry ([.ref h0, .int p0, .int p1, .int p2, .int p3, .int p4]) (n := 7) (Nat.le_of_ble_eq_true rfl)
  rw [lg_entry_eq]
  generalize (lg_sl ([.ref h0, .int p0, .int p1, .int p2, .int p3, .int p4]) ++ List.replicate (7 - (lg_sl ([.ref h0, .int p0, .int p1, .int p2, .int p3, .int p4])).length) Slot.unset).toArray = ls at hl ⊢
  have hl : lv_has ls 7 [(0, .ref h0), (1, .int p0), (2, .int p1), (3, .int p2), (4, .int p3), (5, .int p4)] := hl
  refine lv_iconst (v := nI 0) hx hb dX1_weight_0 (by decide) ?_
  refine lv_istore (lv' := [(6, .int (nI 0)), (0, .ref h0), (1, .int p0), (2, .int p1), (3, .int p2), (4, .int p3), (5, .int p4)]) hx hb dX1_weight_1 hl (by decide) rfl (fun ls hl => ?_)
  refine lv_iload hx hb dX1_weight_3 (lv_at hl 0 rfl) ?_
  refine lv_iconst (v := nI 4) hx hb dX1_weight_5 (by decide) ?_
  refine tw_icmp_ge hx hb 0 4 (tgt := 62) dX1_weight_6 (by decide) (by omega) (by omega) (fun hc => ?_) (fun hc => ?_)
  · exact absurd hc (by omega)
  · refine lv_aload_n hx hb dX1_weight_9 rfl (lv_at hl 1 rfl) ?_
    refine va_get (D := (dC, dI)) (ci := 1) (v := .ref b1) (C := RX1) (T := TX1) (N := 6) hx hb hts hinX1_weight hown hK hP 0 rfl rfl 0 (by decide) (hts _ mmX1_weight_0) (fun _ h9 => h9) rfl dX1_weight_10 ?_
    refine lv_iload_n hx hb dX1_weight_13 rfl (lv_at hl 2 rfl) ?_
    refine lv_iload hx hb dX1_weight_14 (lv_at hl 0 rfl) ?_
    refine lv_iadd hx hb dX1_weight_16 ?_
    refine tw_i (p0) (by rw [nI_0]; exact Int32.add_zero p0) ?_
    refine lv_bipush (v := nI 31) hx hb dX1_weight_17 (by decide) ?_
    refine lv_iand hx hb dX1_weight_19 ?_
    refine tw_i (nI (tn_p p0)) (tn_p_and _) ?_
    have hlt := tn_p_lt p0
    refine lv_iload hx hb dX1_weight_20 (lv_at hl 0 rfl) ?_
    refine tw_if_ne hx hb 0 (tgt := 29) dX1_weight_22 (by decide) (by omega) (fun hc => ?_) (fun hc => ?_)
    · exact absurd hc (by omega)
    · refine lv_iload_n hx hb dX1_weight_25 rfl (lv_at hl 3 rfl) ?_
      refine lv_goto (tgt := 52) hx hb dX1_weight_26 (by decide) ?_
      refine lv_ldc hx hb hown (hts _ mmX1_weight_1) dX1_weight_52 ?_
      refine lv_iand hx hb dX1_weight_54 ?_
      refine tw_i (nI (tn_k p1)) (tn_k_and _) ?_
      refine va_iast hx hb hK hP hD hS 1 0 rfl rfl (tn_in 32 (by omega) (by decide)) dX1_weight_55 (fun H locs hP hD hS => ?_)
      rw [tn_cl (show tn_p p0 < 2 ^ 31 by omega)] at hP hD
      have hP : va_P (dC, dI) vwCl [(h0, .inr (1, [.ref b1, .int n, .int lim, .ref b4, .ref b5, .ref b6])), (b1, .inl (d1, 32, .inl (upd fw (tn_p p0) (nI (tn_k p1))))), (b4, .inl (d4, 289, .inr (.inl fb))), (b5, .inl (d5, 289, .inr (.inl fx))), (b6, .inl (d6, 32, .inl fo))] H := hP
      have hD : va_D A [(h0, .inr (1, [.ref b1, .int n, .int lim, .ref b4, .ref b5, .ref b6])), (b1, .inl (d1, 32, .inl (upd fw (tn_p p0) (nI (tn_k p1))))), (b4, .inl (d4, 289, .inr (.inl fb))), (b5, .inl (d5, 289, .inr (.inl fx))), (b6, .inl (d6, 32, .inl fo))] := hD
      refine lv_iinc (v := nI 1) (lv' := [(6, .int (nI 1)), (0, .ref h0), (1, .int p0), (2, .int p1), (3, .int p2), (4, .int p3), (5, .int p4)]) hx hb dX1_weight_56 hl (k := 0) rfl (tn_p1 _) (by decide) rfl (fun ls hl => ?_)
      refine lv_goto (tgt := 3) hx hb dX1_weight_59 (by decide) ?_
      refine lv_iload hx hb dX1_weight_3 (lv_at hl 0 rfl) ?_
      refine lv_iconst (v := nI 4) hx hb dX1_weight_5 (by decide) ?_
      refine tw_icmp_ge hx hb 1 4 (tgt := 62) dX1_weight_6 (by decide) (by omega) (by omega) (fun hc => ?_) (fun hc => ?_)
      · exact absurd hc (by omega)
      · refine lv_aload_n hx hb dX1_weight_9 rfl (lv_at hl 1 rfl) ?_
        refine va_get (D := (dC, dI)) (ci := 1) (v := .ref b1) (C := RX1) (T := TX1) (N := 6) hx hb hts hinX1_weight hown hK hP 0 rfl rfl 0 (by decide) (hts _ mmX1_weight_0) (fun _ h9 => h9) rfl dX1_weight_10 ?_
        refine lv_iload_n hx hb dX1_weight_13 rfl (lv_at hl 2 rfl) ?_
        refine lv_iload hx hb dX1_weight_14 (lv_at hl 0 rfl) ?_
        refine lv_iadd hx hb dX1_weight_16 ?_
        refine tw_i (p0 + nI 1) (rfl) ?_
        refine lv_bipush (v := nI 31) hx hb dX1_weight_17 (by decide) ?_
        refine lv_iand hx hb dX1_weight_19 ?_
        refine tw_i (nI (tn_p (p0 + nI 1))) (tn_p_and _) ?_
        have hlt := tn_p_lt (p0 + nI 1)
        refine lv_iload hx hb dX1_weight_20 (lv_at hl 0 rfl) ?_
        refine tw_if_ne hx hb 1 (tgt := 29) dX1_weight_22 (by decide) (by omega) (fun hc => ?_) (fun hc => ?_)
        · refine lv_iload hx hb dX1_weight_29 (lv_at hl 0 rfl) ?_
          refine lv_iconst (v := nI 1) hx hb dX1_weight_31 (by decide) ?_
          refine tw_icmp_ne hx hb 1 1 (tgt := 39) dX1_weight_32 (by decide) (by omega) (by omega) (fun hc => ?_) (fun hc => ?_)
          · exact absurd hc (by omega)
          · refine lv_iload_n hx hb dX1_weight_35 rfl (lv_at hl 4 rfl) ?_
            refine lv_goto (tgt := 52) hx hb dX1_weight_36 (by decide) ?_
            refine lv_ldc hx hb hown (hts _ mmX1_weight_1) dX1_weight_52 ?_
            refine lv_iand hx hb dX1_weight_54 ?_
            refine tw_i (nI (tn_k p2)) (tn_k_and _) ?_
            refine va_iast hx hb hK hP hD hS 1 0 rfl rfl (tn_in 32 (by omega) (by decide)) dX1_weight_55 (fun H locs hP hD hS => ?_)
            rw [tn_cl (show tn_p (p0 + nI 1) < 2 ^ 31 by omega)] at hP hD
            have hP : va_P (dC, dI) vwCl [(h0, .inr (1, [.ref b1, .int n, .int lim, .ref b4, .ref b5, .ref b6])), (b1, .inl (d1, 32, .inl (upd (upd fw (tn_p p0) (nI (tn_k p1))) (tn_p (p0 + nI 1)) (nI (tn_k p2))))), (b4, .inl (d4, 289, .inr (.inl fb))), (b5, .inl (d5, 289, .inr (.inl fx))), (b6, .inl (d6, 32, .inl fo))] H := hP
            have hD : va_D A [(h0, .inr (1, [.ref b1, .int n, .int lim, .ref b4, .ref b5, .ref b6])), (b1, .inl (d1, 32, .inl (upd (upd fw (tn_p p0) (nI (tn_k p1))) (tn_p (p0 + nI 1)) (nI (tn_k p2))))), (b4, .inl (d4, 289, .inr (.inl fb))), (b5, .inl (d5, 289, .inr (.inl fx))), (b6, .inl (d6, 32, .inl fo))] := hD
            refine lv_iinc (v := nI 2) (lv' := [(6, .int (nI 2)), (0, .ref h0), (1, .int p0), (2, .int p1), (3, .int p2), (4, .int p3), (5, .int p4)]) hx hb dX1_weight_56 hl (k := 0) rfl (tn_p1 _) (by decide) rfl (fun ls hl => ?_)
            refine lv_goto (tgt := 3) hx hb dX1_weight_59 (by decide) ?_
            refine lv_iload hx hb dX1_weight_3 (lv_at hl 0 rfl) ?_
            refine lv_iconst (v := nI 4) hx hb dX1_weight_5 (by decide) ?_
            refine tw_icmp_ge hx hb 2 4 (tgt := 62) dX1_weight_6 (by decide) (by omega) (by omega) (fun hc => ?_) (fun hc => ?_)
            · exact absurd hc (by omega)
            · refine lv_aload_n hx hb dX1_weight_9 rfl (lv_at hl 1 rfl) ?_
              refine va_get (D := (dC, dI)) (ci := 1) (v := .ref b1) (C := RX1) (T := TX1) (N := 6) hx hb hts hinX1_weight hown hK hP 0 rfl rfl 0 (by decide) (hts _ mmX1_weight_0) (fun _ h9 => h9) rfl dX1_weight_10 ?_
              refine lv_iload_n hx hb dX1_weight_13 rfl (lv_at hl 2 rfl) ?_
              refine lv_iload hx hb dX1_weight_14 (lv_at hl 0 rfl) ?_
              refine lv_iadd hx hb dX1_weight_16 ?_
              refine tw_i (p0 + nI 2) (rfl) ?_
              refine lv_bipush (v := nI 31) hx hb dX1_weight_17 (by decide) ?_
              refine lv_iand hx hb dX1_weight_19 ?_
              refine tw_i (nI (tn_p (p0 + nI 2))) (tn_p_and _) ?_
              have hlt := tn_p_lt (p0 + nI 2)
              refine lv_iload hx hb dX1_weight_20 (lv_at hl 0 rfl) ?_
              refine tw_if_ne hx hb 2 (tgt := 29) dX1_weight_22 (by decide) (by omega) (fun hc => ?_) (fun hc => ?_)
              · refine lv_iload hx hb dX1_weight_29 (lv_at hl 0 rfl) ?_
                refine lv_iconst (v := nI 1) hx hb dX1_weight_31 (by decide) ?_
                refine tw_icmp_ne hx hb 2 1 (tgt := 39) dX1_weight_32 (by decide) (by omega) (by omega) (fun hc => ?_) (fun hc => ?_)
                · refine lv_iload hx hb dX1_weight_39 (lv_at hl 0 rfl) ?_
                  refine lv_iconst (v := nI 2) hx hb dX1_weight_41 (by decide) ?_
                  refine tw_icmp_ne hx hb 2 2 (tgt := 50) dX1_weight_42 (by decide) (by omega) (by omega) (fun hc => ?_) (fun hc => ?_)
                  · exact absurd hc (by omega)
                  · refine lv_iload hx hb dX1_weight_45 (lv_at hl 5 rfl) ?_
                    refine lv_goto (tgt := 52) hx hb dX1_weight_47 (by decide) ?_
                    refine lv_ldc hx hb hown (hts _ mmX1_weight_1) dX1_weight_52 ?_
                    refine lv_iand hx hb dX1_weight_54 ?_
                    refine tw_i (nI (tn_k p3)) (tn_k_and _) ?_
                    refine va_iast hx hb hK hP hD hS 1 0 rfl rfl (tn_in 32 (by omega) (by decide)) dX1_weight_55 (fun H locs hP hD hS => ?_)
                    rw [tn_cl (show tn_p (p0 + nI 2) < 2 ^ 31 by omega)] at hP hD
                    have hP : va_P (dC, dI) vwCl [(h0, .inr (1, [.ref b1, .int n, .int lim, .ref b4, .ref b5, .ref b6])), (b1, .inl (d1, 32, .inl (upd (upd (upd fw (tn_p p0) (nI (tn_k p1))) (tn_p (p0 + nI 1)) (nI (tn_k p2))) (tn_p (p0 + nI 2)) (nI (tn_k p3))))), (b4, .inl (d4, 289, .inr (.inl fb))), (b5, .inl (d5, 289, .inr (.inl fx))), (b6, .inl (d6, 32, .inl fo))] H := hP
                    have hD : va_D A [(h0, .inr (1, [.ref b1, .int n, .int lim, .ref b4, .ref b5, .ref b6])), (b1, .inl (d1, 32, .inl (upd (upd (upd fw (tn_p p0) (nI (tn_k p1))) (tn_p (p0 + nI 1)) (nI (tn_k p2))) (tn_p (p0 + nI 2)) (nI (tn_k p3))))), (b4, .inl (d4, 289, .inr (.inl fb))), (b5, .inl (d5, 289, .inr (.inl fx))), (b6, .inl (d6, 32, .inl fo))] := hD
                    refine lv_iinc (v := nI 3) (lv' := [(6, .int (nI 3)), (0, .ref h0), (1, .int p0), (2, .int p1), (3, .int p2), (4, .int p3), (5, .int p4)]) hx hb dX1_weight_56 hl (k := 0) rfl (tn_p1 _) (by decide) rfl (fun ls hl => ?_)
                    refine lv_goto (tgt := 3) hx hb dX1_weight_59 (by decide) ?_
                    refine lv_iload hx hb dX1_weight_3 (lv_at hl 0 rfl) ?_
                    refine lv_iconst (v := nI 4) hx hb dX1_weight_5 (by decide) ?_
                    refine tw_icmp_ge hx hb 3 4 (tgt := 62) dX1_weight_6 (by decide) (by omega) (by omega) (fun hc => ?_) (fun hc => ?_)
                    · exact absurd hc (by omega)
                    · refine lv_aload_n hx hb dX1_weight_9 rfl (lv_at hl 1 rfl) ?_
                      refine va_get (D := (dC, dI)) (ci := 1) (v := .ref b1) (C := RX1) (T := TX1) (N := 6) hx hb hts hinX1_weight hown hK hP 0 rfl rfl 0 (by decide) (hts _ mmX1_weight_0) (fun _ h9 => h9) rfl dX1_weight_10 ?_
                      refine lv_iload_n hx hb dX1_weight_13 rfl (lv_at hl 2 rfl) ?_
                      refine lv_iload hx hb dX1_weight_14 (lv_at hl 0 rfl) ?_
                      refine lv_iadd hx hb dX1_weight_16 ?_
                      refine tw_i (p0 + nI 3) (rfl) ?_
                      refine lv_bipush (v := nI 31) hx hb dX1_weight_17 (by decide) ?_
                      refine lv_iand hx hb dX1_weight_19 ?_
                      refine tw_i (nI (tn_p (p0 + nI 3))) (tn_p_and _) ?_
                      have hlt := tn_p_lt (p0 + nI 3)
                      refine lv_iload hx hb dX1_weight_20 (lv_at hl 0 rfl) ?_
                      refine tw_if_ne hx hb 3 (tgt := 29) dX1_weight_22 (by decide) (by omega) (fun hc => ?_) (fun hc => ?_)
                      · refine lv_iload hx hb dX1_weight_29 (lv_at hl 0 rfl) ?_
                        refine lv_iconst (v := nI 1) hx hb dX1_weight_31 (by decide) ?_
                        refine tw_icmp_ne hx hb 3 1 (tgt := 39) dX1_weight_32 (by decide) (by omega) (by omega) (fun hc => ?_) (fun hc => ?_)
                        · refine lv_iload hx hb dX1_weight_39 (lv_at hl 0 rfl) ?_
                          refine lv_iconst (v := nI 2) hx hb dX1_weight_41 (by decide) ?_
                          refine tw_icmp_ne hx hb 3 2 (tgt := 50) dX1_weight_42 (by decide) (by omega) (by omega) (fun hc => ?_) (fun hc => ?_)
                          · refine lv_iload hx hb dX1_weight_50 (lv_at hl 6 rfl) ?_
                            refine lv_ldc hx hb hown (hts _ mmX1_weight_1) dX1_weight_52 ?_
                            refine lv_iand hx hb dX1_weight_54 ?_
                            refine tw_i (nI (tn_k p4)) (tn_k_and _) ?_
                            refine va_iast hx hb hK hP hD hS 1 0 rfl rfl (tn_in 32 (by omega) (by decide)) dX1_weight_55 (fun H locs hP hD hS => ?_)
                            rw [tn_cl (show tn_p (p0 + nI 3) < 2 ^ 31 by omega)] at hP hD
                            have hP : va_P (dC, dI) vwCl [(h0, .inr (1, [.ref b1, .int n, .int lim, .ref b4, .ref b5, .ref b6])), (b1, .inl (d1, 32, .inl (upd (upd (upd (upd fw (tn_p p0) (nI (tn_k p1))) (tn_p (p0 + nI 1)) (nI (tn_k p2))) (tn_p (p0 + nI 2)) (nI (tn_k p3))) (tn_p (p0 + nI 3)) (nI (tn_k p4))))), (b4, .inl (d4, 289, .inr (.inl fb))), (b5, .inl (d5, 289, .inr (.inl fx))), (b6, .inl (d6, 32, .inl fo))] H := hP
                            have hD : va_D A [(h0, .inr (1, [.ref b1, .int n, .int lim, .ref b4, .ref b5, .ref b6])), (b1, .inl (d1, 32, .inl (upd (upd (upd (upd fw (tn_p p0) (nI (tn_k p1))) (tn_p (p0 + nI 1)) (nI (tn_k p2))) (tn_p (p0 + nI 2)) (nI (tn_k p3))) (tn_p (p0 + nI 3)) (nI (tn_k p4))))), (b4, .inl (d4, 289, .inr (.inl fb))), (b5, .inl (d5, 289, .inr (.inl fx))), (b6, .inl (d6, 32, .inl fo))] := hD
                            refine lv_iinc (v := nI 4) (lv' := [(6, .int (nI 4)), (0, .ref h0), (1, .int p0), (2, .int p1), (3, .int p2), (4, .int p3), (5, .int p4)]) hx hb dX1_weight_56 hl (k := 0) rfl (tn_p1 _) (by decide) rfl (fun ls hl => ?_)
                            refine lv_goto (tgt := 3) hx hb dX1_weight_59 (by decide) ?_
                            refine lv_iload hx hb dX1_weight_3 (lv_at hl 0 rfl) ?_
                            refine lv_iconst (v := nI 4) hx hb dX1_weight_5 (by decide) ?_
                            refine tw_icmp_ge hx hb 4 4 (tgt := 62) dX1_weight_6 (by decide) (by omega) (by omega) (fun hc => ?_) (fun hc => ?_)
                            · exact W.vret hx hb hr (fun t ht hW => ⟨⟨upd (upd (upd (upd fw (tn_p p0) (nI (tn_k p1))) (tn_p (p0 + nI 1)) (nI (tn_k p2))) (tn_p (p0 + nI 2)) (nI (tn_k p3))) (tn_p (p0 + nI 3)) (nI (tn_k p4)), rfl, rfl, by rw [ht]; exact hP, va_K.moved hW.alike hK, hD⟩, hS.F ht⟩) hS.2.2 dX1_weight_62
                            · exact absurd hc (by omega)
                          · exact absurd hc (by omega)
                        · exact absurd hc (by omega)
                      · exact absurd hc (by omega)
                · exact absurd hc (by omega)
              · exact absurd hc (by omega)
        · exact absurd hc (by omega)
set_option maxHeartbeats 4000000 in
set_option maxRecDepth 100000 in
/-- the reference: TrimCodesModel() -/
theorem c_X1_init (l : Launch) (dC : Nat → ClassId) (dI : Nat → Nat → Nat) (h0 : Nat) (sz : Nat)  : Met l yX1_init wsX1_init ({ frames := 1, cells := 4, slots := 642, locals := 12 }) (va_Pc [.ref h0] (fun U => U.heap.size = sz ∧ va_P (dC, dI) vwCl [(h0, .inr (1, [.null, .int 0, .int 0, .null, .null, .null]))] U.heap ∧ va_K (dC, dI) vwCl [] U ∧ va_D (fun _ => True) [(h0, .inr (1, [.null, .int 0, .int 0, .null, .null, .null]))])) (va_Qv (fun _ : Unit => True) (fun (_ : Unit) (t : State) => ∃ (b1 b4 b5 b6 : Nat) (d1 d4 d5 d6 : ClassId), va_P (dC, dI) vwCl [(h0, .inr (1, [.ref b1, .int (nI 2), .int (nI 5), .ref b4, .ref b5, .ref b6])), (b1, .inl (d1, 32, .inl (fun _ => 0))), (b4, .inl (d4, 289, .inr (.inl (fun _ => 0)))), (b5, .inl (d5, 289, .inr (.inl (fun _ => 0)))), (b6, .inl (d6, 32, .inl (fun _ => 0)))] t.heap ∧ va_K (dC, dI) vwCl [(d1, .int), (d4, .long), (d5, .long), (d6, .int)] t ∧ va_D (va_A [(h0, .inr (1, [.null, .int 0, .int 0, .null, .null, .null]))] sz) [(h0, .inr (1, [.ref b1, .int (nI 2), .int (nI 5), .ref b4, .ref b5, .ref b6])), (b1, .inl (d1, 32, .inl (fun _ => 0))), (b4, .inl (d4, 289, .inr (.inl (fun _ => 0)))), (b5, .inl (d5, 289, .inr (.inl (fun _ => 0)))), (b6, .inl (d6, 32, .inl (fun _ => 0)))]) (va_A [(h0, .inr (1, [.null, .int 0, .int 0, .null, .null, .null]))] sz)) 4 642 (va_A [(h0, .inr (1, [.null, .int 0, .int 0, .null, .null, .null]))] sz) := by
  refine Met.ofW (cc := cX1_init) (maxL := 1) (ret := none) (by decide) rfl ?_
  intro p e s m args below meth c s₁ B hml hv
  obtain ⟨rfl, hsz, hP, hK, hD0⟩ := hv
  have hx := B.exec
  have hb := B.bytes
  have hr := B.returns
  have hts := atoms_spec (ws := wsX1_init) B.pre
  have hown : s.vm.findClass RX1 = some m.cls := findClass_of_methodNamed B.named
  have hlocks := B.notSynchronized
  have hin2 : meth.name = "<init>" := (name_of_methodNamed B.named B.method).1
  subst hsz
  have hD := hD0.self (sz := s.heap.size)
  generalize hAe : va_A [(h0, .inr (1, [.null, .int 0, .int 0, .null, .null, .null]))] s.heap.size = A at hD ⊢
  have hA : ∀ q : Nat, s.heap.size ≤ q → A q := fun q h => by rw [← hAe]; exact Or.inr h
  have hS : va_S A s.heap s.heap [] := va_S.rf
  have hP : va_P (dC, dI) vwCl [(h0, .inr (1, [.null, .int 0, .int 0, .null, .null, .null]))] s.heap := hP
  have hl := lv_entry ([.ref h0]) (n := 1) (Nat.le_of_ble_eq_true rfl)
  rw [lg_entry_eq]
  generalize (lg_sl ([.ref h0]) ++ List.replicate (1 - (lg_sl ([.ref h0])).length) Slot.unset).toArray = ls at hl ⊢
  have hl : lv_has ls 1 [(0, .ref h0)] := hl
  refine lv_aload_n hx hb dX1_init_0 rfl (lv_at hl 0 rfl) ?_
  refine W.objInit hx hb hown (hts (.methodLink RX1 1 objectInit) mmX1_init_0) (hts (.instanceMethod objectInit) mmX1_init_1) (hts _ (List.mem_cons_of_mem _ (List.mem_append_left _ (List.mem_of_getElem? (i := 2) rfl)))) rfl (by rw [hml]; exact hl.1) rfl dX1_init_1 (Nat.le_of_ble_eq_true rfl) (Nat.le_of_ble_eq_true rfl) ?_
  refine W.eq (g2 := F0 m 4 ls []) rfl ?_
  refine lv_aload_n hx hb dX1_init_4 rfl (lv_at hl 0 rfl) ?_
  refine lv_bipush (v := nI 32) hx hb dX1_init_5 (by decide) ?_
  refine va_newa hx hb (atype := .int) (hts (.arrayClass .int) mmX1_init_2) (ty := .int) rfl hK hP hD hS hA (n := nI 32) (N' := 32) (a0 := (32, .inl (fun _ => 0))) (fun cA => rfl) (by decide) (tn_cl (by decide)) (Nat.le_of_ble_eq_true rfl) (Nat.le_of_ble_eq_true rfl) (Nat.le_of_ble_eq_true rfl) dX1_init_7 (fun b1 d1 H hK hP hD hS => ?_)
  have hP : va_P (dC, dI) vwCl [(h0, .inr (1, [.null, .int 0, .int 0, .null, .null, .null])), (b1, .inl (d1, 32, .inl (fun _ => 0)))] H := hP
  have hD : va_D A [(h0, .inr (1, [.null, .int 0, .int 0, .null, .null, .null])), (b1, .inl (d1, 32, .inl (fun _ => 0)))] := hD
  have hK : va_K (dC, dI) vwCl [(d1, .int)] s := hK
  refine W.widen (k := 1) (n := 32) (Nat.le_of_ble_eq_true rfl) (Nat.le_of_ble_eq_true rfl) ?_
  refine va_putF (D := (dC, dI)) (ci := 1) (v := .ref b1) (ty := .array .int) (C := RX1) (T := TX1) (N := 6) hx hb hts hinX1_init tyX1 tyX1_ok nmX1 hown hK hP hD hS 0 rfl rfl 0 (by decide) (hts _ mmX1_init_3) (fun _ h9 => h9) rfl hin2 rfl (by decide +kernel) rfl rfl (Nat.le_of_ble_eq_true rfl) dX1_init_9 (fun H locs hP hD hS => ?_)
  have hP : va_P (dC, dI) vwCl [(h0, .inr (1, [.ref b1, .int 0, .int 0, .null, .null, .null])), (b1, .inl (d1, 32, .inl (fun _ => 0)))] H := hP
  have hD : va_D A [(h0, .inr (1, [.ref b1, .int 0, .int 0, .null, .null, .null])), (b1, .inl (d1, 32, .inl (fun _ => 0)))] := hD
  refine lv_aload_n hx hb dX1_init_12 rfl (lv_at hl 0 rfl) ?_
  refine lv_iconst (v := nI 2) hx hb dX1_init_13 (by decide) ?_
  refine va_put (D := (dC, dI)) (ci := 1) (v := .int (nI 2)) (ty := .int) (C := RX1) (T := TX1) (N := 6) hx hb hts hinX1_init tyX1 tyX1_ok nmX1 hown hK hP hD hS 0 rfl rfl 1 (by decide) (hts _ mmX1_init_4) (fun _ h9 => h9) rfl (by decide +kernel) rfl rfl (Nat.le_of_ble_eq_true rfl) dX1_init_14 (fun H locs hP hD hS => ?_)
  have hP : va_P (dC, dI) vwCl [(h0, .inr (1, [.ref b1, .int (nI 2), .int 0, .null, .null, .null])), (b1, .inl (d1, 32, .inl (fun _ => 0)))] H := hP
  have hD : va_D A [(h0, .inr (1, [.ref b1, .int (nI 2), .int 0, .null, .null, .null])), (b1, .inl (d1, 32, .inl (fun _ => 0)))] := hD
  refine lv_aload_n hx hb dX1_init_17 rfl (lv_at hl 0 rfl) ?_
  refine lv_iconst (v := nI 5) hx hb dX1_init_18 (by decide) ?_
  refine va_put (D := (dC, dI)) (ci := 1) (v := .int (nI 5)) (ty := .int) (C := RX1) (T := TX1) (N := 6) hx hb hts hinX1_init tyX1 tyX1_ok nmX1 hown hK hP hD hS 0 rfl rfl 2 (by decide) (hts _ mmX1_init_5) (fun _ h9 => h9) rfl (by decide +kernel) rfl rfl (Nat.le_of_ble_eq_true rfl) dX1_init_19 (fun H locs hP hD hS => ?_)
  have hP : va_P (dC, dI) vwCl [(h0, .inr (1, [.ref b1, .int (nI 2), .int (nI 5), .null, .null, .null])), (b1, .inl (d1, 32, .inl (fun _ => 0)))] H := hP
  have hD : va_D A [(h0, .inr (1, [.ref b1, .int (nI 2), .int (nI 5), .null, .null, .null])), (b1, .inl (d1, 32, .inl (fun _ => 0)))] := hD
  refine lv_aload_n hx hb dX1_init_22 rfl (lv_at hl 0 rfl) ?_
  refine lv_sipush (v := nI 289) hx hb dX1_init_23 (by decide) ?_
  refine va_newa hx hb (atype := .long) (hts (.arrayClass .long) mmX1_init_6) (ty := .long) rfl hK hP hD hS hA (n := nI 289) (N' := 289) (a0 := (289, .inr (.inl (fun _ => 0)))) (fun cA => rfl) (by decide) (tn_cl (by decide)) (Nat.le_of_ble_eq_true rfl) (Nat.le_of_ble_eq_true rfl) (Nat.le_of_ble_eq_true rfl) dX1_init_26 (fun b4 d4 H hK hP hD hS => ?_)
  have hP : va_P (dC, dI) vwCl [(h0, .inr (1, [.ref b1, .int (nI 2), .int (nI 5), .null, .null, .null])), (b1, .inl (d1, 32, .inl (fun _ => 0))), (b4, .inl (d4, 289, .inr (.inl (fun _ => 0))))] H := hP
  have hD : va_D A [(h0, .inr (1, [.ref b1, .int (nI 2), .int (nI 5), .null, .null, .null])), (b1, .inl (d1, 32, .inl (fun _ => 0))), (b4, .inl (d4, 289, .inr (.inl (fun _ => 0))))] := hD
  have hK : va_K (dC, dI) vwCl [(d1, .int), (d4, .long)] s := hK
  refine W.widen (k := 2) (n := 321) (Nat.le_of_ble_eq_true rfl) (Nat.le_of_ble_eq_true rfl) ?_
  refine va_putF (D := (dC, dI)) (ci := 1) (v := .ref b4) (ty := .array .long) (C := RX1) (T := TX1) (N := 6) hx hb hts hinX1_init tyX1 tyX1_ok nmX1 hown hK hP hD hS 0 rfl rfl 3 (by decide) (hts _ mmX1_init_7) (fun _ h9 => h9) rfl hin2 rfl (by decide +kernel) rfl rfl (Nat.le_of_ble_eq_true rfl) dX1_init_28 (fun H locs hP hD hS => ?_)
  have hP : va_P (dC, dI) vwCl [(h0, .inr (1, [.ref b1, .int (nI 2), .int (nI 5), .ref b4, .null, .null])), (b1, .inl (d1, 32, .inl (fun _ => 0))), (b4, .inl (d4, 289, .inr (.inl (fun _ => 0))))] H := hP
  have hD : va_D A [(h0, .inr (1, [.ref b1, .int (nI 2), .int (nI 5), .ref b4, .null, .null])), (b1, .inl (d1, 32, .inl (fun _ => 0))), (b4, .inl (d4, 289, .inr (.inl (fun _ => 0))))] := hD
  refine lv_aload_n hx hb dX1_init_31 rfl (lv_at hl 0 rfl) ?_
  refine lv_sipush (v := nI 289) hx hb dX1_init_32 (by decide) ?_
  refine va_newa hx hb (atype := .long) (hts (.arrayClass .long) mmX1_init_6) (ty := .long) rfl hK hP hD hS hA (n := nI 289) (N' := 289) (a0 := (289, .inr (.inl (fun _ => 0)))) (fun cA => rfl) (by decide) (tn_cl (by decide)) (Nat.le_of_ble_eq_true rfl) (Nat.le_of_ble_eq_true rfl) (Nat.le_of_ble_eq_true rfl) dX1_init_35 (fun b5 d5 H hK hP hD hS => ?_)
  have hP : va_P (dC, dI) vwCl [(h0, .inr (1, [.ref b1, .int (nI 2), .int (nI 5), .ref b4, .null, .null])), (b1, .inl (d1, 32, .inl (fun _ => 0))), (b4, .inl (d4, 289, .inr (.inl (fun _ => 0)))), (b5, .inl (d5, 289, .inr (.inl (fun _ => 0))))] H := hP
  have hD : va_D A [(h0, .inr (1, [.ref b1, .int (nI 2), .int (nI 5), .ref b4, .null, .null])), (b1, .inl (d1, 32, .inl (fun _ => 0))), (b4, .inl (d4, 289, .inr (.inl (fun _ => 0)))), (b5, .inl (d5, 289, .inr (.inl (fun _ => 0))))] := hD
  have hK : va_K (dC, dI) vwCl [(d1, .int), (d4, .long), (d5, .long)] s := hK
  refine W.widen (k := 3) (n := 610) (Nat.le_of_ble_eq_true rfl) (Nat.le_of_ble_eq_true rfl) ?_
  refine va_putF (D := (dC, dI)) (ci := 1) (v := .ref b5) (ty := .array .long) (C := RX1) (T := TX1) (N := 6) hx hb hts hinX1_init tyX1 tyX1_ok nmX1 hown hK hP hD hS 0 rfl rfl 4 (by decide) (hts _ mmX1_init_8) (fun _ h9 => h9) rfl hin2 rfl (by decide +kernel) rfl rfl (Nat.le_of_ble_eq_true rfl) dX1_init_37 (fun H locs hP hD hS => ?_)
  have hP : va_P (dC, dI) vwCl [(h0, .inr (1, [.ref b1, .int (nI 2), .int (nI 5), .ref b4, .ref b5, .null])), (b1, .inl (d1, 32, .inl (fun _ => 0))), (b4, .inl (d4, 289, .inr (.inl (fun _ => 0)))), (b5, .inl (d5, 289, .inr (.inl (fun _ => 0))))] H := hP
  have hD : va_D A [(h0, .inr (1, [.ref b1, .int (nI 2), .int (nI 5), .ref b4, .ref b5, .null])), (b1, .inl (d1, 32, .inl (fun _ => 0))), (b4, .inl (d4, 289, .inr (.inl (fun _ => 0)))), (b5, .inl (d5, 289, .inr (.inl (fun _ => 0))))] := hD
  refine lv_aload_n hx hb dX1_init_40 rfl (lv_at hl 0 rfl) ?_
  refine lv_bipush (v := nI 32) hx hb dX1_init_41 (by decide) ?_
  refine va_newa hx hb (atype := .int) (hts (.arrayClass .int) mmX1_init_2) (ty := .int) rfl hK hP hD hS hA (n := nI 32) (N' := 32) (a0 := (32, .inl (fun _ => 0))) (fun cA => rfl) (by decide) (tn_cl (by decide)) (Nat.le_of_ble_eq_true rfl) (Nat.le_of_ble_eq_true rfl) (Nat.le_of_ble_eq_true rfl) dX1_init_43 (fun b6 d6 H hK hP hD hS => ?_)
  have hP : va_P (dC, dI) vwCl [(h0, .inr (1, [.ref b1, .int (nI 2), .int (nI 5), .ref b4, .ref b5, .null])), (b1, .inl (d1, 32, .inl (fun _ => 0))), (b4, .inl (d4, 289, .inr (.inl (fun _ => 0)))), (b5, .inl (d5, 289, .inr (.inl (fun _ => 0)))), (b6, .inl (d6, 32, .inl (fun _ => 0)))] H := hP
  have hD : va_D A [(h0, .inr (1, [.ref b1, .int (nI 2), .int (nI 5), .ref b4, .ref b5, .null])), (b1, .inl (d1, 32, .inl (fun _ => 0))), (b4, .inl (d4, 289, .inr (.inl (fun _ => 0)))), (b5, .inl (d5, 289, .inr (.inl (fun _ => 0)))), (b6, .inl (d6, 32, .inl (fun _ => 0)))] := hD
  have hK : va_K (dC, dI) vwCl [(d1, .int), (d4, .long), (d5, .long), (d6, .int)] s := hK
  refine W.widen (k := 4) (n := 642) (Nat.le_of_ble_eq_true rfl) (Nat.le_of_ble_eq_true rfl) ?_
  refine va_putF (D := (dC, dI)) (ci := 1) (v := .ref b6) (ty := .array .int) (C := RX1) (T := TX1) (N := 6) hx hb hts hinX1_init tyX1 tyX1_ok nmX1 hown hK hP hD hS 0 rfl rfl 5 (by decide) (hts _ mmX1_init_9) (fun _ h9 => h9) rfl hin2 rfl (by decide +kernel) rfl rfl (Nat.le_of_ble_eq_true rfl) dX1_init_45 (fun H locs hP hD hS => ?_)
  have hP : va_P (dC, dI) vwCl [(h0, .inr (1, [.ref b1, .int (nI 2), .int (nI 5), .ref b4, .ref b5, .ref b6])), (b1, .inl (d1, 32, .inl (fun _ => 0))), (b4, .inl (d4, 289, .inr (.inl (fun _ => 0)))), (b5, .inl (d5, 289, .inr (.inl (fun _ => 0)))), (b6, .inl (d6, 32, .inl (fun _ => 0)))] H := hP
  have hD : va_D A [(h0, .inr (1, [.ref b1, .int (nI 2), .int (nI 5), .ref b4, .ref b5, .ref b6])), (b1, .inl (d1, 32, .inl (fun _ => 0))), (b4, .inl (d4, 289, .inr (.inl (fun _ => 0)))), (b5, .inl (d5, 289, .inr (.inl (fun _ => 0)))), (b6, .inl (d6, 32, .inl (fun _ => 0)))] := hD
  exact W.vret hx hb hr (fun t ht hW => ⟨⟨(), rfl, trivial, b1, b4, b5, b6, d1, d4, d5, d6, by rw [ht]; exact hP, va_K.moved hW.alike hK, hD⟩, hS.F ht⟩) hS.2.2 dX1_init_48
end
section
theorem hinX1_least : ∀ w ∈ wsX10, w ∈ wsX1_least := by decide +kernel
theorem mmX1_least_0 : Cond.fieldLink RX1 7 "TrimCodesModel" "weight" "[I" ∈ wsX1_least := by decide +kernel
theorem mmX1_least_1 : Cond.fieldLink RX1 27 "TrimCodesModel" "order" "[I" ∈ wsX1_least := by decide +kernel
theorem mmX1_least_2 : Cond.fieldLink RX1 13 "TrimCodesModel" "n" "I" ∈ wsX1_least := by decide +kernel
theorem mmX1_least_3 : Cond.fieldLink RX1 20 "TrimCodesModel" "best" "[J" ∈ wsX1_least := by decide +kernel
theorem mmX1_least_4 : Cond.constantLong RX1 31 (-1) ∈ wsX1_least := by decide +kernel
theorem mmX1_least_5 : Cond.fieldLink RX1 24 "TrimCodesModel" "next" "[J" ∈ wsX1_least := by decide +kernel
theorem mmX1_least_6 : Cond.fieldLink RX1 17 "TrimCodesModel" "limit" "I" ∈ wsX1_least := by decide +kernel
set_option maxHeartbeats 4000000 in
set_option maxRecDepth 100000 in
/-- the reference sorts: the place of the letter i -/
theorem lp_X1_in {p : Program} {l : Launch} {e : Env} {R : Room} {s : State} {m : MethodId} {args : Array Value} {below : List Frame} {meth : Method} {c : Code} {Q : State → Prop} {A : Nat → Prop} {dC : Nat → ClassId} {dI : Nat → Nat → Nat} (hx : p.tables.exec = Jvm.exec) (hb : c.code = cX1_least) (hml : c.maxLocals = 13) (hown : s.vm.findClass RX1 = some m.cls) (hts : ∀ w ∈ wsX1_least, w.before args s = true) (hA : ∀ q : Nat, s.heap.size ≤ q → A q)  (h0 b1 b4 b5 b6 : Nat) (d1 d4 d5 d6 : ClassId) (fw : Nat → Int32) (fb fx : Nat → Int64) (nn li i : Nat) (w o : Nat → Nat) (hi : i < 16) (hfw : ∀ j, j < 32 → fw j = nI (w j)) (hw31 : ∀ j, w j < 2 ^ 31) (hob : ∀ j, j < i → o j < 32) (hK : va_K (dC, dI) vwCl [(d1, .int), (d4, .long), (d5, .long), (d6, .int)] s) (K : ∀ (pl : Nat) (g : Nat → Int32) (H : Heap) (locs : List Loc) (ls : Array Slot), pl ≤ i → (∀ j, j < pl → g j = nI (o j)) → (∀ j, pl < j → j < i + 1 → g j = nI (o (j - 1))) → (pl < i → w (o pl) ≤ w i) → (0 < pl → w i ≤ w (o (pl - 1))) → va_P (dC, dI) vwCl [(h0, .inr (1, [.ref b1, .int (nI nn), .int (nI li), .ref b4, .ref b5, .ref b6])), (b1, .inl (d1, 32, .inl fw)), (b4, .inl (d4, 289, .inr (.inl fb))), (b5, .inl (d5, 289, .inr (.inl fx))), (b6, .inl (d6, 32, .inl g))] H → va_D A [(h0, .inr (1, [.ref b1, .int (nI nn), .int (nI li), .ref b4, .ref b5, .ref b6])), (b1, .inl (d1, 32, .inl fw)), (b4, .inl (d4, 289, .inr (.inl fb))), (b5, .inl (d5, 289, .inr (.inl fx))), (b6, .inl (d6, 32, .inl g))] → va_S A s.heap H locs → lv_has ls 13 [(2, .int (nI pl)), (0, .ref h0), (1, .int (nI i))] → W p l e R s m args below meth c H locs 0 0 Q (F0 m 76 ls [])) :
    ∀ (fu : Nat) (pl : Nat) (g : Nat → Int32) (H : Heap) (locs : List Loc) (ls : Array Slot), pl < fu → pl ≤ i → (∀ j, j < pl → g j = nI (o j)) → (∀ j, pl < j → j < i + 1 → g j = nI (o (j - 1))) → (pl < i → w (o pl) ≤ w i) → va_P (dC, dI) vwCl [(h0, .inr (1, [.ref b1, .int (nI nn), .int (nI li), .ref b4, .ref b5, .ref b6])), (b1, .inl (d1, 32, .inl fw)), (b4, .inl (d4, 289, .inr (.inl fb))), (b5, .inl (d5, 289, .inr (.inl fx))), (b6, .inl (d6, 32, .inl g))] H → va_D A [(h0, .inr (1, [.ref b1, .int (nI nn), .int (nI li), .ref b4, .ref b5, .ref b6])), (b1, .inl (d1, 32, .inl fw)), (b4, .inl (d4, 289, .inr (.inl fb))), (b5, .inl (d5, 289, .inr (.inl fx))), (b6, .inl (d6, 32, .inl g))] → va_S A s.heap H locs → lv_has ls 13 [(2, .int (nI pl)), (0, .ref h0), (1, .int (nI i))] → W p l e R s m args below meth c H locs 0 0 Q (F0 m 29 ls []) := by
  intro fu
  induction fu with
  | zero =>
    intro pl g H locs ls hfu
    exact absurd hfu (Nat.not_lt_zero _)
  | succ fu ih =>
    intro pl g H locs ls hfu hpl hlo hhi hup hP hD hS hl
    refine lv_iload_n hx hb dX1_least_29 rfl (lv_at hl 0 rfl) ?_
    refine tw_if_le hx hb pl (tgt := 76) dX1_least_30 (by decide) (by omega) (fun hc => ?_) (fun hc => ?_)
    · exact K pl g H locs ls hpl hlo hhi hup (fun q => absurd q (by omega)) hP hD hS hl
    · have hob1 := hob (pl - 1) (by omega)
      refine lv_aload_n hx hb dX1_least_33 rfl (lv_at hl 1 rfl) ?_
      refine va_get (D := (dC, dI)) (ci := 1) (v := .ref b1) (C := RX1) (T := TX1) (N := 6) hx hb hts hinX1_least hown hK hP 0 rfl rfl 0 (by decide) (hts _ mmX1_least_0) (fun _ h9 => h9) rfl dX1_least_34 ?_
      refine lv_aload_n hx hb dX1_least_37 rfl (lv_at hl 1 rfl) ?_
      refine va_get (D := (dC, dI)) (ci := 1) (v := .ref b6) (C := RX1) (T := TX1) (N := 6) hx hb hts hinX1_least hown hK hP 0 rfl rfl 5 (by decide) (hts _ mmX1_least_1) (fun _ h9 => h9) rfl dX1_least_38 ?_
      refine lv_iload_n hx hb dX1_least_41 rfl (lv_at hl 0 rfl) ?_
      refine lv_iconst (v := nI 1) hx hb dX1_least_42 (by decide) ?_
      refine lv_isub hx hb dX1_least_43 ?_
      refine tw_i (nI (pl - 1)) (pk_sub (by omega)) ?_
      refine va_iald hx hb hK hP 4 3 rfl rfl (tn_in 32 (by omega) (by decide)) dX1_least_44 ?_
      refine tw_i (g (pl - 1)) (congrArg g (tn_cl (by omega))) ?_
      refine tw_i (nI (o (pl - 1))) (hlo (pl - 1) (by omega)) ?_
      refine va_iald hx hb hK hP 1 0 rfl rfl (tn_in 32 (by omega) (by decide)) dX1_least_45 ?_
      refine tw_i (fw (o (pl - 1))) (congrArg fw (tn_cl (by omega))) ?_
      refine tw_i (nI (w (o (pl - 1)))) (hfw _ hob1) ?_
      refine lv_aload_n hx hb dX1_least_46 rfl (lv_at hl 1 rfl) ?_
      refine va_get (D := (dC, dI)) (ci := 1) (v := .ref b1) (C := RX1) (T := TX1) (N := 6) hx hb hts hinX1_least hown hK hP 0 rfl rfl 0 (by decide) (hts _ mmX1_least_0) (fun _ h9 => h9) rfl dX1_least_47 ?_
      refine lv_iload_n hx hb dX1_least_50 rfl (lv_at hl 2 rfl) ?_
      refine va_iald hx hb hK hP 1 0 rfl rfl (tn_in 32 (by omega) (by decide)) dX1_least_51 ?_
      refine tw_i (fw i) (congrArg fw (tn_cl (by omega))) ?_
      refine tw_i (nI (w i)) (hfw i (by omega)) ?_
      have hw1 := hw31 (o (pl - 1))
      have hw2 := hw31 i
      refine tw_icmp_ge hx hb (w (o (pl - 1))) (w i) (tgt := 76) dX1_least_52 (by decide) (by omega) (by omega) (fun hc2 => ?_) (fun hc2 => ?_)
      · exact K pl g H locs ls hpl hlo hhi hup (fun _ => hc2) hP hD hS hl
      · refine lv_aload_n hx hb dX1_least_55 rfl (lv_at hl 1 rfl) ?_
        refine va_get (D := (dC, dI)) (ci := 1) (v := .ref b6) (C := RX1) (T := TX1) (N := 6) hx hb hts hinX1_least hown hK hP 0 rfl rfl 5 (by decide) (hts _ mmX1_least_1) (fun _ h9 => h9) rfl dX1_least_56 ?_
        refine lv_iload_n hx hb dX1_least_59 rfl (lv_at hl 0 rfl) ?_
        refine lv_aload_n hx hb dX1_least_60 rfl (lv_at hl 1 rfl) ?_
        refine va_get (D := (dC, dI)) (ci := 1) (v := .ref b6) (C := RX1) (T := TX1) (N := 6) hx hb hts hinX1_least hown hK hP 0 rfl rfl 5 (by decide) (hts _ mmX1_least_1) (fun _ h9 => h9) rfl dX1_least_61 ?_
        refine lv_iload_n hx hb dX1_least_64 rfl (lv_at hl 0 rfl) ?_
        refine lv_iconst (v := nI 1) hx hb dX1_least_65 (by decide) ?_
        refine lv_isub hx hb dX1_least_66 ?_
        refine tw_i (nI (pl - 1)) (pk_sub (by omega)) ?_
        refine va_iald hx hb hK hP 4 3 rfl rfl (tn_in 32 (by omega) (by decide)) dX1_least_67 ?_
        refine tw_i (g (pl - 1)) (congrArg g (tn_cl (by omega))) ?_
        refine tw_i (nI (o (pl - 1))) (hlo (pl - 1) (by omega)) ?_
        refine va_iast hx hb hK hP hD hS 4 3 rfl rfl (tn_in 32 (by omega) (by decide)) dX1_least_68 (fun H locs hP hD hS => ?_)
        rw [tn_cl (show pl < 2 ^ 31 by omega)] at hP hD
        have hP : va_P (dC, dI) vwCl [(h0, .inr (1, [.ref b1, .int (nI nn), .int (nI li), .ref b4, .ref b5, .ref b6])), (b1, .inl (d1, 32, .inl fw)), (b4, .inl (d4, 289, .inr (.inl fb))), (b5, .inl (d5, 289, .inr (.inl fx))), (b6, .inl (d6, 32, .inl (upd g pl (nI (o (pl - 1))))))] H := hP
        have hD : va_D A [(h0, .inr (1, [.ref b1, .int (nI nn), .int (nI li), .ref b4, .ref b5, .ref b6])), (b1, .inl (d1, 32, .inl fw)), (b4, .inl (d4, 289, .inr (.inl fb))), (b5, .inl (d5, 289, .inr (.inl fx))), (b6, .inl (d6, 32, .inl (upd g pl (nI (o (pl - 1))))))] := hD
        refine lv_iload_n hx hb dX1_least_69 rfl (lv_at hl 0 rfl) ?_
        refine lv_iconst (v := nI 1) hx hb dX1_least_70 (by decide) ?_
        refine lv_isub hx hb dX1_least_71 ?_
        refine tw_i (nI (pl - 1)) (pk_sub (by omega)) ?_
        refine lv_istore_n (lv' := [(2, .int (nI (pl - 1))), (0, .ref h0), (1, .int (nI i))]) hx hb dX1_least_72 rfl hl (by decide) rfl (fun ls hl => ?_)
        refine lv_goto (tgt := 29) hx hb dX1_least_73 (by decide) ?_
        exact ih (pl - 1) _ H locs ls (by omega) (by omega) (fun j hj => by rw [pk_un (by omega)]; exact hlo j (by omega)) (fun j hj1 hj2 => by
          by_cases hjp : j = pl
          · subst hjp; rw [pk_us]
          · rw [pk_un hjp]; exact hhi j (by omega) hj2) (fun _ => by omega) hP hD hS (lv_sub hl [0, 1, 2] rfl)
set_option maxHeartbeats 4000000 in
set_option maxRecDepth 100000 in
/-- the reference sorts: the first i letters -/
theorem lp_X1_out {p : Program} {l : Launch} {e : Env} {R : Room} {s : State} {m : MethodId} {args : Array Value} {below : List Frame} {meth : Method} {c : Code} {Q : State → Prop} {A : Nat → Prop} {dC : Nat → ClassId} {dI : Nat → Nat → Nat} (hx : p.tables.exec = Jvm.exec) (hb : c.code = cX1_least) (hml : c.maxLocals = 13) (hown : s.vm.findClass RX1 = some m.cls) (hts : ∀ w ∈ wsX1_least, w.before args s = true) (hA : ∀ q : Nat, s.heap.size ≤ q → A q)  (h0 b1 b4 b5 b6 : Nat) (d1 d4 d5 d6 : ClassId) (fw : Nat → Int32) (fb fx : Nat → Int64) (nn li : Nat) (w : Nat → Nat) (hn16 : nn ≤ 16) (hfw : ∀ j, j < 32 → fw j = nI (w j)) (hw31 : ∀ j, w j < 2 ^ 31) (hK : va_K (dC, dI) vwCl [(d1, .int), (d4, .long), (d5, .long), (d6, .int)] s) (K : ∀ (o : Nat → Nat) (g : Nat → Int32) (H : Heap) (locs : List Loc) (ls : Array Slot), tc_ord w o nn → (∀ j, j < nn → g j = nI (o j)) → va_P (dC, dI) vwCl [(h0, .inr (1, [.ref b1, .int (nI nn), .int (nI li), .ref b4, .ref b5, .ref b6])), (b1, .inl (d1, 32, .inl fw)), (b4, .inl (d4, 289, .inr (.inl fb))), (b5, .inl (d5, 289, .inr (.inl fx))), (b6, .inl (d6, 32, .inl g))] H → va_D A [(h0, .inr (1, [.ref b1, .int (nI nn), .int (nI li), .ref b4, .ref b5, .ref b6])), (b1, .inl (d1, 32, .inl fw)), (b4, .inl (d4, 289, .inr (.inl fb))), (b5, .inl (d5, 289, .inr (.inl fx))), (b6, .inl (d6, 32, .inl g))] → va_S A s.heap H locs → lv_has ls 13 [(0, .ref h0)] → W p l e R s m args below meth c H locs 0 0 Q (F0 m 89 ls [])) :
    ∀ (fu : Nat) (i : Nat) (o : Nat → Nat) (g : Nat → Int32) (H : Heap) (locs : List Loc) (ls : Array Slot), (nn - i) < fu → i ≤ nn → tc_ord w o i → (∀ j, j < i → g j = nI (o j)) → va_P (dC, dI) vwCl [(h0, .inr (1, [.ref b1, .int (nI nn), .int (nI li), .ref b4, .ref b5, .ref b6])), (b1, .inl (d1, 32, .inl fw)), (b4, .inl (d4, 289, .inr (.inl fb))), (b5, .inl (d5, 289, .inr (.inl fx))), (b6, .inl (d6, 32, .inl g))] H → va_D A [(h0, .inr (1, [.ref b1, .int (nI nn), .int (nI li), .ref b4, .ref b5, .ref b6])), (b1, .inl (d1, 32, .inl fw)), (b4, .inl (d4, 289, .inr (.inl fb))), (b5, .inl (d5, 289, .inr (.inl fx))), (b6, .inl (d6, 32, .inl g))] → va_S A s.heap H locs → lv_has ls 13 [(1, .int (nI i)), (0, .ref h0)] → W p l e R s m args below meth c H locs 0 0 Q (F0 m 19 ls []) := by
  intro fu
  induction fu with
  | zero =>
    intro i o g H locs ls hfu
    exact absurd hfu (Nat.not_lt_zero _)
  | succ fu ih =>
    intro i o g H locs ls hfu hi hod hg hP hD hS hl
    refine lv_iload_n hx hb dX1_least_19 rfl (lv_at hl 0 rfl) ?_
    refine lv_aload_n hx hb dX1_least_20 rfl (lv_at hl 1 rfl) ?_
    refine va_get (D := (dC, dI)) (ci := 1) (v := .int (nI nn)) (C := RX1) (T := TX1) (N := 6) hx hb hts hinX1_least hown hK hP 0 rfl rfl 1 (by decide) (hts _ mmX1_least_2) (fun _ h9 => h9) rfl dX1_least_21 ?_
    refine tw_icmp_ge hx hb i nn (tgt := 89) dX1_least_24 (by decide) (by omega) (by omega) (fun hc => ?_) (fun hc => ?_)
    · have e : i = nn := by omega
      subst e
      exact K o g H locs ls hod hg hP hD hS (lv_sub hl [1] rfl)
    · refine lv_iload_n hx hb dX1_least_27 rfl (lv_at hl 0 rfl) ?_
      refine lv_istore_n (lv' := [(2, .int (nI i)), (1, .int (nI i)), (0, .ref h0)]) hx hb dX1_least_28 rfl hl (by decide) rfl (fun ls hl => ?_)
      refine lp_X1_in hx hb hml hown hts hA h0 b1 b4 b5 b6 d1 d4 d5 d6 fw fb fx nn li i w o (by omega) hfw hw31 (fun j hj => by have := hod.2.2 j hj; omega) hK ?_ (i + 1) i g H locs ls (by omega) (Nat.le_refl _) hg (fun j h1 h2 => absurd h1 (by omega)) (fun h => absurd h (by omega)) hP hD hS (lv_sub hl [0, 2, 1] rfl)
      intro pl g H locs ls hpl hlo hhi hup hdn hP hD hS hl
      refine lv_aload_n hx hb dX1_least_76 rfl (lv_at hl 1 rfl) ?_
      refine va_get (D := (dC, dI)) (ci := 1) (v := .ref b6) (C := RX1) (T := TX1) (N := 6) hx hb hts hinX1_least hown hK hP 0 rfl rfl 5 (by decide) (hts _ mmX1_least_1) (fun _ h9 => h9) rfl dX1_least_77 ?_
      refine lv_iload_n hx hb dX1_least_80 rfl (lv_at hl 0 rfl) ?_
      refine lv_iload_n hx hb dX1_least_81 rfl (lv_at hl 2 rfl) ?_
      refine va_iast hx hb hK hP hD hS 4 3 rfl rfl (tn_in 32 (by omega) (by decide)) dX1_least_82 (fun H locs hP hD hS => ?_)
      rw [tn_cl (show pl < 2 ^ 31 by omega)] at hP hD
      have hP : va_P (dC, dI) vwCl [(h0, .inr (1, [.ref b1, .int (nI nn), .int (nI li), .ref b4, .ref b5, .ref b6])), (b1, .inl (d1, 32, .inl fw)), (b4, .inl (d4, 289, .inr (.inl fb))), (b5, .inl (d5, 289, .inr (.inl fx))), (b6, .inl (d6, 32, .inl (upd g pl (nI i))))] H := hP
      have hD : va_D A [(h0, .inr (1, [.ref b1, .int (nI nn), .int (nI li), .ref b4, .ref b5, .ref b6])), (b1, .inl (d1, 32, .inl fw)), (b4, .inl (d4, 289, .inr (.inl fb))), (b5, .inl (d5, 289, .inr (.inl fx))), (b6, .inl (d6, 32, .inl (upd g pl (nI i))))] := hD
      refine lv_iinc (v := nI (i + 1)) (lv' := [(1, .int (nI (i + 1))), (2, .int (nI pl)), (0, .ref h0)]) hx hb dX1_least_83 hl (k := 2) rfl (tn_p1 _) (by decide) rfl (fun ls hl => ?_)
      refine lv_goto (tgt := 19) hx hb dX1_least_86 (by decide) ?_
      exact ih (i + 1) (tc_ins o pl i) _ H locs ls (by omega) (by omega) (tc_ord_s hod hpl hdn hup (fun _ _ => rfl)) (fun j hj => by
        by_cases h1 : j < pl
        · rw [pk_un (by omega), tc_ins_lt h1]; exact hlo j h1
        · by_cases h2 : j = pl
          · subst h2; rw [pk_us, tc_ins_eq]
          · rw [pk_un h2, tc_ins_gt (by omega)]; exact hhi j (by omega) hj) hP hD hS (lv_sub hl [0, 2] rfl)
set_option maxHeartbeats 4000000 in
set_option maxRecDepth 100000 in
/-- the reference: best is filled -/
theorem lp_X1_fb {p : Program} {l : Launch} {e : Env} {R : Room} {s : State} {m : MethodId} {args : Array Value} {below : List Frame} {meth : Method} {c : Code} {Q : State → Prop} {A : Nat → Prop} {dC : Nat → ClassId} {dI : Nat → Nat → Nat} (hx : p.tables.exec = Jvm.exec) (hb : c.code = cX1_least) (hml : c.maxLocals = 13) (hown : s.vm.findClass RX1 = some m.cls) (hts : ∀ w ∈ wsX1_least, w.before args s = true) (hA : ∀ q : Nat, s.heap.size ≤ q → A q)  (h0 b1 b4 b5 b6 : Nat) (d1 d4 d5 d6 : ClassId) (fw : Nat → Int32) (fx : Nat → Int64) (fo : Nat → Int32) (nn li : Nat) (hK : va_K (dC, dI) vwCl [(d1, .int), (d4, .long), (d5, .long), (d6, .int)] s) (K : ∀ (g : Nat → Int64) (H : Heap) (locs : List Loc) (ls : Array Slot), (∀ q, q < 289 → g q = -1) → va_P (dC, dI) vwCl [(h0, .inr (1, [.ref b1, .int (nI nn), .int (nI li), .ref b4, .ref b5, .ref b6])), (b1, .inl (d1, 32, .inl fw)), (b4, .inl (d4, 289, .inr (.inl g))), (b5, .inl (d5, 289, .inr (.inl fx))), (b6, .inl (d6, 32, .inl fo))] H → va_D A [(h0, .inr (1, [.ref b1, .int (nI nn), .int (nI li), .ref b4, .ref b5, .ref b6])), (b1, .inl (d1, 32, .inl fw)), (b4, .inl (d4, 289, .inr (.inl g))), (b5, .inl (d5, 289, .inr (.inl fx))), (b6, .inl (d6, 32, .inl fo))] → va_S A s.heap H locs → lv_has ls 13 [(0, .ref h0)] → W p l e R s m args below meth c H locs 0 0 Q (F0 m 113 ls [])) :
    ∀ (fu : Nat) (i : Nat) (g : Nat → Int64) (H : Heap) (locs : List Loc) (ls : Array Slot), (289 - i) < fu → i ≤ 289 → (∀ q, q < i → g q = -1) → va_P (dC, dI) vwCl [(h0, .inr (1, [.ref b1, .int (nI nn), .int (nI li), .ref b4, .ref b5, .ref b6])), (b1, .inl (d1, 32, .inl fw)), (b4, .inl (d4, 289, .inr (.inl g))), (b5, .inl (d5, 289, .inr (.inl fx))), (b6, .inl (d6, 32, .inl fo))] H → va_D A [(h0, .inr (1, [.ref b1, .int (nI nn), .int (nI li), .ref b4, .ref b5, .ref b6])), (b1, .inl (d1, 32, .inl fw)), (b4, .inl (d4, 289, .inr (.inl g))), (b5, .inl (d5, 289, .inr (.inl fx))), (b6, .inl (d6, 32, .inl fo))] → va_S A s.heap H locs → lv_has ls 13 [(1, .int (nI i)), (0, .ref h0)] → W p l e R s m args below meth c H locs 0 0 Q (F0 m 91 ls []) := by
  intro fu
  induction fu with
  | zero =>
    intro i g H locs ls hfu
    exact absurd hfu (Nat.not_lt_zero _)
  | succ fu ih =>
    intro i g H locs ls hfu hi hg hP hD hS hl
    refine lv_iload_n hx hb dX1_least_91 rfl (lv_at hl 0 rfl) ?_
    refine lv_sipush (v := nI 289) hx hb dX1_least_92 (by decide) ?_
    refine tw_icmp_ge hx hb i 289 (tgt := 113) dX1_least_95 (by decide) (by omega) (by decide) (fun hc => ?_) (fun hc => ?_)
    · have e : i = 289 := by omega
      subst e
      exact K g H locs ls hg hP hD hS (lv_sub hl [1] rfl)
    · refine lv_aload_n hx hb dX1_least_98 rfl (lv_at hl 1 rfl) ?_
      refine va_get (D := (dC, dI)) (ci := 1) (v := .ref b4) (C := RX1) (T := TX1) (N := 6) hx hb hts hinX1_least hown hK hP 0 rfl rfl 3 (by decide) (hts _ mmX1_least_3) (fun _ h9 => h9) rfl dX1_least_99 ?_
      refine lv_iload_n hx hb dX1_least_102 rfl (lv_at hl 0 rfl) ?_
      refine lv_ldc2 hx hb hown (hts _ mmX1_least_4) dX1_least_103 ?_
      refine va_last hx hb hK hP hD hS 2 1 rfl rfl (tn_in 289 (by omega) (by decide)) dX1_least_106 (fun H locs hP hD hS => ?_)
      rw [tn_cl (show i < 2 ^ 31 by omega)] at hP hD
      have hP : va_P (dC, dI) vwCl [(h0, .inr (1, [.ref b1, .int (nI nn), .int (nI li), .ref b4, .ref b5, .ref b6])), (b1, .inl (d1, 32, .inl fw)), (b4, .inl (d4, 289, .inr (.inl (vp_updL g i (-1))))), (b5, .inl (d5, 289, .inr (.inl fx))), (b6, .inl (d6, 32, .inl fo))] H := hP
      have hD : va_D A [(h0, .inr (1, [.ref b1, .int (nI nn), .int (nI li), .ref b4, .ref b5, .ref b6])), (b1, .inl (d1, 32, .inl fw)), (b4, .inl (d4, 289, .inr (.inl (vp_updL g i (-1))))), (b5, .inl (d5, 289, .inr (.inl fx))), (b6, .inl (d6, 32, .inl fo))] := hD
      refine lv_iinc (v := nI (i + 1)) (lv' := [(1, .int (nI (i + 1))), (0, .ref h0)]) hx hb dX1_least_107 hl (k := 0) rfl (tn_p1 _) (by decide) rfl (fun ls hl => ?_)
      refine lv_goto (tgt := 91) hx hb dX1_least_110 (by decide) ?_
      exact ih (i + 1) _ H locs ls (by omega) (by omega) (fun q hq => by
        by_cases hqi : q = i
        · subst hqi; rw [pk_uLs]
        · rw [pk_uLn hqi]; exact hg q (by omega)) hP hD hS (lv_sub hl [0, 1] rfl)
set_option maxHeartbeats 4000000 in
set_option maxRecDepth 100000 in
/-- the reference: next is filled -/
theorem lp_X1_fx {p : Program} {l : Launch} {e : Env} {R : Room} {s : State} {m : MethodId} {args : Array Value} {below : List Frame} {meth : Method} {c : Code} {Q : State → Prop} {A : Nat → Prop} {dC : Nat → ClassId} {dI : Nat → Nat → Nat} (hx : p.tables.exec = Jvm.exec) (hb : c.code = cX1_least) (hml : c.maxLocals = 13) (hown : s.vm.findClass RX1 = some m.cls) (hts : ∀ w ∈ wsX1_least, w.before args s = true) (hA : ∀ q : Nat, s.heap.size ≤ q → A q)  (h0 b1 b4 b5 b6 : Nat) (d1 d4 d5 d6 : ClassId) (fw : Nat → Int32) (fb : Nat → Int64) (fo : Nat → Int32) (nn li d : Nat) (x : Int64) (hK : va_K (dC, dI) vwCl [(d1, .int), (d4, .long), (d5, .long), (d6, .int)] s) (K : ∀ (g : Nat → Int64) (H : Heap) (locs : List Loc) (ls : Array Slot), (∀ q, q < 289 → g q = -1) → va_P (dC, dI) vwCl [(h0, .inr (1, [.ref b1, .int (nI nn), .int (nI li), .ref b4, .ref b5, .ref b6])), (b1, .inl (d1, 32, .inl fw)), (b4, .inl (d4, 289, .inr (.inl fb))), (b5, .inl (d5, 289, .inr (.inl g))), (b6, .inl (d6, 32, .inl fo))] H → va_D A [(h0, .inr (1, [.ref b1, .int (nI nn), .int (nI li), .ref b4, .ref b5, .ref b6])), (b1, .inl (d1, 32, .inl fw)), (b4, .inl (d4, 289, .inr (.inl fb))), (b5, .inl (d5, 289, .inr (.inl g))), (b6, .inl (d6, 32, .inl fo))] → va_S A s.heap H locs → lv_has ls 13 [(3, .int (nI d)), (1, .long x), (0, .ref h0)] → W p l e R s m args below meth c H locs 0 0 Q (F0 m 161 ls [])) :
    ∀ (fu : Nat) (i : Nat) (g : Nat → Int64) (H : Heap) (locs : List Loc) (ls : Array Slot), (289 - i) < fu → i ≤ 289 → (∀ q, q < i → g q = -1) → va_P (dC, dI) vwCl [(h0, .inr (1, [.ref b1, .int (nI nn), .int (nI li), .ref b4, .ref b5, .ref b6])), (b1, .inl (d1, 32, .inl fw)), (b4, .inl (d4, 289, .inr (.inl fb))), (b5, .inl (d5, 289, .inr (.inl g))), (b6, .inl (d6, 32, .inl fo))] H → va_D A [(h0, .inr (1, [.ref b1, .int (nI nn), .int (nI li), .ref b4, .ref b5, .ref b6])), (b1, .inl (d1, 32, .inl fw)), (b4, .inl (d4, 289, .inr (.inl fb))), (b5, .inl (d5, 289, .inr (.inl g))), (b6, .inl (d6, 32, .inl fo))] → va_S A s.heap H locs → lv_has ls 13 [(4, .int (nI i)), (3, .int (nI d)), (1, .long x), (0, .ref h0)] → W p l e R s m args below meth c H locs 0 0 Q (F0 m 137 ls []) := by
  intro fu
  induction fu with
  | zero =>
    intro i g H locs ls hfu
    exact absurd hfu (Nat.not_lt_zero _)
  | succ fu ih =>
    intro i g H locs ls hfu hi hg hP hD hS hl
    refine lv_iload hx hb dX1_least_137 (lv_at hl 0 rfl) ?_
    refine lv_sipush (v := nI 289) hx hb dX1_least_139 (by decide) ?_
    refine tw_icmp_ge hx hb i 289 (tgt := 161) dX1_least_142 (by decide) (by omega) (by decide) (fun hc => ?_) (fun hc => ?_)
    · have e : i = 289 := by omega
      subst e
      exact K g H locs ls hg hP hD hS (lv_sub hl [1, 2, 3] rfl)
    · refine lv_aload_n hx hb dX1_least_145 rfl (lv_at hl 3 rfl) ?_
      refine va_get (D := (dC, dI)) (ci := 1) (v := .ref b5) (C := RX1) (T := TX1) (N := 6) hx hb hts hinX1_least hown hK hP 0 rfl rfl 4 (by decide) (hts _ mmX1_least_5) (fun _ h9 => h9) rfl dX1_least_146 ?_
      refine lv_iload hx hb dX1_least_149 (lv_at hl 0 rfl) ?_
      refine lv_ldc2 hx hb hown (hts _ mmX1_least_4) dX1_least_151 ?_
      refine va_last hx hb hK hP hD hS 3 2 rfl rfl (tn_in 289 (by omega) (by decide)) dX1_least_154 (fun H locs hP hD hS => ?_)
      rw [tn_cl (show i < 2 ^ 31 by omega)] at hP hD
      have hP : va_P (dC, dI) vwCl [(h0, .inr (1, [.ref b1, .int (nI nn), .int (nI li), .ref b4, .ref b5, .ref b6])), (b1, .inl (d1, 32, .inl fw)), (b4, .inl (d4, 289, .inr (.inl fb))), (b5, .inl (d5, 289, .inr (.inl (vp_updL g i (-1))))), (b6, .inl (d6, 32, .inl fo))] H := hP
      have hD : va_D A [(h0, .inr (1, [.ref b1, .int (nI nn), .int (nI li), .ref b4, .ref b5, .ref b6])), (b1, .inl (d1, 32, .inl fw)), (b4, .inl (d4, 289, .inr (.inl fb))), (b5, .inl (d5, 289, .inr (.inl (vp_updL g i (-1))))), (b6, .inl (d6, 32, .inl fo))] := hD
      refine lv_iinc (v := nI (i + 1)) (lv' := [(4, .int (nI (i + 1))), (3, .int (nI d)), (1, .long x), (0, .ref h0)]) hx hb dX1_least_155 hl (k := 0) rfl (tn_p1 _) (by decide) rfl (fun ls hl => ?_)
      refine lv_goto (tgt := 137) hx hb dX1_least_158 (by decide) ?_
      exact ih (i + 1) _ H locs ls (by omega) (by omega) (fun q hq => by
        by_cases hqi : q = i
        · subst hqi; rw [pk_uLs]
        · rw [pk_uLn hqi]; exact hg q (by omega)) hP hD hS (lv_sub hl [0, 1, 2, 3] rfl)
set_option maxHeartbeats 4000000 in
set_option maxRecDepth 100000 in
/-- the reference: next becomes best -/
theorem lp_X1_cp {p : Program} {l : Launch} {e : Env} {R : Room} {s : State} {m : MethodId} {args : Array Value} {below : List Frame} {meth : Method} {c : Code} {Q : State → Prop} {A : Nat → Prop} {dC : Nat → ClassId} {dI : Nat → Nat → Nat} (hx : p.tables.exec = Jvm.exec) (hb : c.code = cX1_least) (hml : c.maxLocals = 13) (hown : s.vm.findClass RX1 = some m.cls) (hts : ∀ w ∈ wsX1_least, w.before args s = true) (hA : ∀ q : Nat, s.heap.size ≤ q → A q)  (h0 b1 b4 b5 b6 : Nat) (d1 d4 d5 d6 : ClassId) (fw : Nat → Int32) (fx : Nat → Int64) (fo : Nat → Int32) (nn li d : Nat) (x : Int64) (hK : va_K (dC, dI) vwCl [(d1, .int), (d4, .long), (d5, .long), (d6, .int)] s) (K : ∀ (g : Nat → Int64) (H : Heap) (locs : List Loc) (ls : Array Slot), (∀ q, q < 289 → g q = fx q) → va_P (dC, dI) vwCl [(h0, .inr (1, [.ref b1, .int (nI nn), .int (nI li), .ref b4, .ref b5, .ref b6])), (b1, .inl (d1, 32, .inl fw)), (b4, .inl (d4, 289, .inr (.inl g))), (b5, .inl (d5, 289, .inr (.inl fx))), (b6, .inl (d6, 32, .inl fo))] H → va_D A [(h0, .inr (1, [.ref b1, .int (nI nn), .int (nI li), .ref b4, .ref b5, .ref b6])), (b1, .inl (d1, 32, .inl fw)), (b4, .inl (d4, 289, .inr (.inl g))), (b5, .inl (d5, 289, .inr (.inl fx))), (b6, .inl (d6, 32, .inl fo))] → va_S A s.heap H locs → lv_has ls 13 [(3, .int (nI d)), (1, .long x), (0, .ref h0)] → W p l e R s m args below meth c H locs 0 0 Q (F0 m 441 ls [])) :
    ∀ (fu : Nat) (i : Nat) (g : Nat → Int64) (H : Heap) (locs : List Loc) (ls : Array Slot), (289 - i) < fu → i ≤ 289 → (∀ q, q < i → g q = fx q) → va_P (dC, dI) vwCl [(h0, .inr (1, [.ref b1, .int (nI nn), .int (nI li), .ref b4, .ref b5, .ref b6])), (b1, .inl (d1, 32, .inl fw)), (b4, .inl (d4, 289, .inr (.inl g))), (b5, .inl (d5, 289, .inr (.inl fx))), (b6, .inl (d6, 32, .inl fo))] H → va_D A [(h0, .inr (1, [.ref b1, .int (nI nn), .int (nI li), .ref b4, .ref b5, .ref b6])), (b1, .inl (d1, 32, .inl fw)), (b4, .inl (d4, 289, .inr (.inl g))), (b5, .inl (d5, 289, .inr (.inl fx))), (b6, .inl (d6, 32, .inl fo))] → va_S A s.heap H locs → lv_has ls 13 [(4, .int (nI i)), (3, .int (nI d)), (1, .long x), (0, .ref h0)] → W p l e R s m args below meth c H locs 0 0 Q (F0 m 413 ls []) := by
  intro fu
  induction fu with
  | zero =>
    intro i g H locs ls hfu
    exact absurd hfu (Nat.not_lt_zero _)
  | succ fu ih =>
    intro i g H locs ls hfu hi hg hP hD hS hl
    refine lv_iload hx hb dX1_least_413 (lv_at hl 0 rfl) ?_
    refine lv_sipush (v := nI 289) hx hb dX1_least_415 (by decide) ?_
    refine tw_icmp_ge hx hb i 289 (tgt := 441) dX1_least_418 (by decide) (by omega) (by decide) (fun hc => ?_) (fun hc => ?_)
    · have e : i = 289 := by omega
      subst e
      exact K g H locs ls hg hP hD hS (lv_sub hl [1, 2, 3] rfl)
    · refine lv_aload_n hx hb dX1_least_421 rfl (lv_at hl 3 rfl) ?_
      refine va_get (D := (dC, dI)) (ci := 1) (v := .ref b4) (C := RX1) (T := TX1) (N := 6) hx hb hts hinX1_least hown hK hP 0 rfl rfl 3 (by decide) (hts _ mmX1_least_3) (fun _ h9 => h9) rfl dX1_least_422 ?_
      refine lv_iload hx hb dX1_least_425 (lv_at hl 0 rfl) ?_
      refine lv_aload_n hx hb dX1_least_427 rfl (lv_at hl 3 rfl) ?_
      refine va_get (D := (dC, dI)) (ci := 1) (v := .ref b5) (C := RX1) (T := TX1) (N := 6) hx hb hts hinX1_least hown hK hP 0 rfl rfl 4 (by decide) (hts _ mmX1_least_5) (fun _ h9 => h9) rfl dX1_least_428 ?_
      refine lv_iload hx hb dX1_least_431 (lv_at hl 0 rfl) ?_
      refine va_lald hx hb hK hP 3 2 rfl rfl (tn_in 289 (by omega) (by decide)) dX1_least_433 ?_
      refine tw_l (fx i) (congrArg fx (tn_cl (by omega))) ?_
      refine va_last hx hb hK hP hD hS 2 1 rfl rfl (tn_in 289 (by omega) (by decide)) dX1_least_434 (fun H locs hP hD hS => ?_)
      rw [tn_cl (show i < 2 ^ 31 by omega)] at hP hD
      have hP : va_P (dC, dI) vwCl [(h0, .inr (1, [.ref b1, .int (nI nn), .int (nI li), .ref b4, .ref b5, .ref b6])), (b1, .inl (d1, 32, .inl fw)), (b4, .inl (d4, 289, .inr (.inl (vp_updL g i (fx i))))), (b5, .inl (d5, 289, .inr (.inl fx))), (b6, .inl (d6, 32, .inl fo))] H := hP
      have hD : va_D A [(h0, .inr (1, [.ref b1, .int (nI nn), .int (nI li), .ref b4, .ref b5, .ref b6])), (b1, .inl (d1, 32, .inl fw)), (b4, .inl (d4, 289, .inr (.inl (vp_updL g i (fx i))))), (b5, .inl (d5, 289, .inr (.inl fx))), (b6, .inl (d6, 32, .inl fo))] := hD
      refine lv_iinc (v := nI (i + 1)) (lv' := [(4, .int (nI (i + 1))), (3, .int (nI d)), (1, .long x), (0, .ref h0)]) hx hb dX1_least_435 hl (k := 0) rfl (tn_p1 _) (by decide) rfl (fun ls hl => ?_)
      refine lv_goto (tgt := 413) hx hb dX1_least_438 (by decide) ?_
      exact ih (i + 1) _ H locs ls (by omega) (by omega) (fun q hq => by
        by_cases hqi : q = i
        · subst hqi; rw [pk_uLs]
        · rw [pk_uLn hqi]; exact hg q (by omega)) hP hD hS (lv_sub hl [0, 1, 2, 3] rfl)
set_option maxHeartbeats 4000000 in
set_option maxRecDepth 100000 in
/-- the reference: a letters get their codes -/
theorem lp_X1_a {p : Program} {l : Launch} {e : Env} {R : Room} {s : State} {m : MethodId} {args : Array Value} {below : List Frame} {meth : Method} {c : Code} {Q : State → Prop} {A : Nat → Prop} {dC : Nat → ClassId} {dI : Nat → Nat → Nat} (hx : p.tables.exec = Jvm.exec) (hb : c.code = cX1_least) (hml : c.maxLocals = 13) (hown : s.vm.findClass RX1 = some m.cls) (hts : ∀ w ∈ wsX1_least, w.before args s = true) (hA : ∀ q : Nat, s.heap.size ≤ q → A q)  (h0 b1 b4 b5 b6 : Nat) (d1 d4 d5 d6 : ClassId) (fw : Nat → Int32) (fb : Nat → Int64) (fo : Nat → Int32) (nn li d jj kk c0 : Nat) (w o : Nat → Nat) (hn16 : nn ≤ 16) (hd : d ≤ 15) (hfw : ∀ j, j < 32 → fw j = nI (w j)) (hw31 : ∀ j, w j < 2 ^ 31) (hfo : ∀ j, j < nn → fo j = nI (o j) ∧ o j < 32) (hjj : jj ≤ nn) (hkk : kk ≤ 16) (hrc : tc_rch (fun i => w (o i)) nn d jj kk c0) (hmin : ∀ c1, tc_rch (fun i => w (o i)) nn d jj kk c1 → c0 ≤ c1) (hK : va_K (dC, dI) vwCl [(d1, .int), (d4, .long), (d5, .long), (d6, .int)] s) (K : ∀ (g : Nat → Int64) (x : Int64) (H : Heap) (locs : List Loc) (ls : Array Slot), tc_st (fun i => w (o i)) nn d jj (kk + 1) 0 g x → va_P (dC, dI) vwCl [(h0, .inr (1, [.ref b1, .int (nI nn), .int (nI li), .ref b4, .ref b5, .ref b6])), (b1, .inl (d1, 32, .inl fw)), (b4, .inl (d4, 289, .inr (.inl fb))), (b5, .inl (d5, 289, .inr (.inl g))), (b6, .inl (d6, 32, .inl fo))] H → va_D A [(h0, .inr (1, [.ref b1, .int (nI nn), .int (nI li), .ref b4, .ref b5, .ref b6])), (b1, .inl (d1, 32, .inl fw)), (b4, .inl (d4, 289, .inr (.inl fb))), (b5, .inl (d5, 289, .inr (.inl g))), (b6, .inl (d6, 32, .inl fo))] → va_S A s.heap H locs → lv_has ls 13 [(5, .int (nI kk)), (4, .int (nI jj)), (3, .int (nI d)), (1, .long x), (0, .ref h0)] → W p l e R s m args below meth c H locs 0 0 Q (F0 m 398 ls [])) :
    ∀ (fu : Nat) (a : Nat) (g : Nat → Int64) (x : Int64) (H : Heap) (locs : List Loc) (ls : Array Slot), (kk + 1 - a) < fu → a ≤ kk + 1 → tc_st (fun i => w (o i)) nn d jj kk a g x → va_P (dC, dI) vwCl [(h0, .inr (1, [.ref b1, .int (nI nn), .int (nI li), .ref b4, .ref b5, .ref b6])), (b1, .inl (d1, 32, .inl fw)), (b4, .inl (d4, 289, .inr (.inl fb))), (b5, .inl (d5, 289, .inr (.inl g))), (b6, .inl (d6, 32, .inl fo))] H → va_D A [(h0, .inr (1, [.ref b1, .int (nI nn), .int (nI li), .ref b4, .ref b5, .ref b6])), (b1, .inl (d1, 32, .inl fw)), (b4, .inl (d4, 289, .inr (.inl fb))), (b5, .inl (d5, 289, .inr (.inl g))), (b6, .inl (d6, 32, .inl fo))] → va_S A s.heap H locs → lv_has ls 13 [(10, .int (nI a)), (8, .long (lN (tc_hv (fun i => w (o i)) jj (a - 1) * d))), (6, .long (lN c0)), (5, .int (nI kk)), (4, .int (nI jj)), (3, .int (nI d)), (1, .long x), (0, .ref h0)] → W p l e R s m args below meth c H locs 0 0 Q (F0 m 211 ls []) := by
  intro fu
  induction fu with
  | zero =>
    intro a g x H locs ls hfu
    exact absurd hfu (Nat.not_lt_zero _)
  | succ fu ih =>
    intro a g x H locs ls hfu hab hst hP hD hS hl
    refine lv_iload hx hb dX1_least_211 (lv_at hl 0 rfl) ?_
    refine lv_iload hx hb dX1_least_213 (lv_at hl 3 rfl) ?_
    refine tw_icmp_gt hx hb a kk (tgt := 398) dX1_least_215 (by decide) (by omega) (by omega) (fun hc1 => ?_) (fun hc1 => ?_)
    · exact K g x H locs ls (tc_st_k hst (Or.inl hc1)) hP hD hS (lv_sub hl [3, 4, 5, 6, 7] rfl)
    · refine lv_iload hx hb dX1_least_218 (lv_at hl 4 rfl) ?_
      refine lv_iload hx hb dX1_least_220 (lv_at hl 0 rfl) ?_
      refine lv_iadd hx hb dX1_least_222 ?_
      refine tw_i (nI (jj + a)) (nI_add _ _) ?_
      refine lv_aload_n hx hb dX1_least_223 rfl (lv_at hl 7 rfl) ?_
      refine va_get (D := (dC, dI)) (ci := 1) (v := .int (nI nn)) (C := RX1) (T := TX1) (N := 6) hx hb hts hinX1_least hown hK hP 0 rfl rfl 1 (by decide) (hts _ mmX1_least_2) (fun _ h9 => h9) rfl dX1_least_224 ?_
      refine tw_icmp_gt hx hb (jj + a) nn (tgt := 398) dX1_least_227 (by decide) (by omega) (by omega) (fun hc2 => ?_) (fun hc2 => ?_)
      · exact K g x H locs ls (tc_st_k hst (Or.inr (Or.inl hc2))) hP hD hS (lv_sub hl [3, 4, 5, 6, 7] rfl)
      · have hv31 : ∀ i, i < nn → (fun i => w (o i)) i ≤ 2 ^ 31 := fun i _ => Nat.le_of_lt (hw31 _)
        have he := tc_e_lt hn16 hv31 hd hrc hc2
        have K392 : ∀ (g : Nat → Int64) (x : Int64) (H : Heap) (locs : List Loc) (ls : Array Slot), tc_st (fun i => w (o i)) nn d jj kk (a + 1) g x → va_P (dC, dI) vwCl [(h0, .inr (1, [.ref b1, .int (nI nn), .int (nI li), .ref b4, .ref b5, .ref b6])), (b1, .inl (d1, 32, .inl fw)), (b4, .inl (d4, 289, .inr (.inl fb))), (b5, .inl (d5, 289, .inr (.inl g))), (b6, .inl (d6, 32, .inl fo))] H → va_D A [(h0, .inr (1, [.ref b1, .int (nI nn), .int (nI li), .ref b4, .ref b5, .ref b6])), (b1, .inl (d1, 32, .inl fw)), (b4, .inl (d4, 289, .inr (.inl fb))), (b5, .inl (d5, 289, .inr (.inl g))), (b6, .inl (d6, 32, .inl fo))] → va_S A s.heap H locs → lv_has ls 13 [(10, .int (nI a)), (8, .long (lN (tc_hv (fun i => w (o i)) jj a * d))), (6, .long (lN c0)), (5, .int (nI kk)), (4, .int (nI jj)), (3, .int (nI d)), (1, .long x), (0, .ref h0)] → W p l e R s m args below meth c H locs 0 0 Q (F0 m 392 ls []) := by
          intro g x H locs ls hst hP hD hS hl
          refine lv_iinc (v := nI (a + 1)) (lv' := [(10, .int (nI (a + 1))), (8, .long (lN (tc_hv (fun i => w (o i)) jj a * d))), (6, .long (lN c0)), (5, .int (nI kk)), (4, .int (nI jj)), (3, .int (nI d)), (1, .long x), (0, .ref h0)]) hx hb dX1_least_392 hl (k := 0) rfl (tn_p1 _) (by decide) rfl (fun ls hl => ?_)
          refine lv_goto (tgt := 211) hx hb dX1_least_395 (by decide) ?_
          exact ih (a + 1) g x H locs ls (by omega) (by omega) hst hP hD hS (lv_sub hl [0, 1, 2, 3, 4, 5, 6, 7] rfl)
        have K334 : ∀ (op : Nat) (ls : Array Slot), jj + a < nn → op = min (2 * (kk - a)) (nn - (jj + a)) → lv_has ls 13 [(11, .int (nI op)), (10, .int (nI a)), (8, .long (lN (tc_hv (fun i => w (o i)) jj a * d))), (6, .long (lN c0)), (5, .int (nI kk)), (4, .int (nI jj)), (3, .int (nI d)), (1, .long x), (0, .ref h0)] → W p l e R s m args below meth c H locs 0 0 Q (F0 m 334 ls []) := by
          intro op ls hlt hop hl
          have hop16 : op ≤ 16 := by omega
          refine lv_bipush (v := nI 17) hx hb dX1_least_334 (by decide) ?_
          refine lv_iload hx hb dX1_least_336 (lv_at hl 5 rfl) ?_
          refine lv_iload hx hb dX1_least_338 (lv_at hl 1 rfl) ?_
          refine lv_iadd hx hb dX1_least_340 ?_
          refine tw_i (nI (jj + a)) (nI_add _ _) ?_
          refine lv_imul hx hb dX1_least_341 ?_
          refine tw_i (nI (17 * (jj + a))) (pk_mul _ _) ?_
          refine lv_iload hx hb dX1_least_342 (lv_at hl 0 rfl) ?_
          refine lv_iadd hx hb dX1_least_344 ?_
          refine tw_i (nI ((17 * (jj + a)) + op)) (nI_add _ _) ?_
          refine lv_istore (lv' := [(12, .int (nI ((17 * (jj + a)) + op))), (11, .int (nI op)), (10, .int (nI a)), (8, .long (lN (tc_hv (fun i => w (o i)) jj a * d))), (6, .long (lN c0)), (5, .int (nI kk)), (4, .int (nI jj)), (3, .int (nI d)), (1, .long x), (0, .ref h0)]) hx hb dX1_least_345 hl (by decide) rfl (fun ls hl => ?_)
          refine lv_iload hx hb dX1_least_347 (lv_at hl 1 rfl) ?_
          refine tw_if_le hx hb op (tgt := 392) dX1_least_349 (by decide) (by omega) (fun hc3 => ?_) (fun hc3 => ?_)
          · exact K392 g x H locs ls (tc_st_o0 hst hjj hkk hlt hop hc3) hP hD hS (lv_sub hl [2, 3, 4, 5, 6, 7, 8, 9] rfl)
          · refine lv_aload_n hx hb dX1_least_352 rfl (lv_at hl 9 rfl) ?_
            refine va_get (D := (dC, dI)) (ci := 1) (v := .ref b5) (C := RX1) (T := TX1) (N := 6) hx hb hts hinX1_least hown hK hP 0 rfl rfl 4 (by decide) (hts _ mmX1_least_5) (fun _ h9 => h9) rfl dX1_least_353 ?_
            refine lv_iload hx hb dX1_least_356 (lv_at hl 0 rfl) ?_
            refine va_lald hx hb hK hP 3 2 rfl rfl (tn_in 289 (by omega) (by decide)) dX1_least_358 ?_
            refine tw_l (g ((17 * (jj + a)) + op)) (congrArg g (tn_cl (by omega))) ?_
            refine lv_lconst (v := lN 0) hx hb dX1_least_359 (by decide) ?_
            refine tw_lif_lt hx hb (tgt := 380) dX1_least_360 dX1_least_361 (by decide) (fun hc4 => ?_) (fun hc4 => ?_)
            · refine lv_aload_n hx hb dX1_least_380 rfl (lv_at hl 9 rfl) ?_
              refine va_get (D := (dC, dI)) (ci := 1) (v := .ref b5) (C := RX1) (T := TX1) (N := 6) hx hb hts hinX1_least hown hK hP 0 rfl rfl 4 (by decide) (hts _ mmX1_least_5) (fun _ h9 => h9) rfl dX1_least_381 ?_
              refine lv_iload hx hb dX1_least_384 (lv_at hl 0 rfl) ?_
              refine lv_lload hx hb dX1_least_386 (lv_at hl 4 rfl) ?_
              refine lv_lload hx hb dX1_least_388 (lv_at hl 3 rfl) ?_
              refine lv_ladd hx hb dX1_least_390 ?_
              refine tw_l (lN (c0 + (tc_hv (fun i => w (o i)) jj a * d))) (lN_add _ _) ?_
              refine va_last hx hb hK hP hD hS 3 2 rfl rfl (tn_in 289 (by omega) (by decide)) dX1_least_391 (fun H locs hP hD hS => ?_)
              rw [tn_cl (show (17 * (jj + a)) + op < 2 ^ 31 by omega)] at hP hD
              have hP : va_P (dC, dI) vwCl [(h0, .inr (1, [.ref b1, .int (nI nn), .int (nI li), .ref b4, .ref b5, .ref b6])), (b1, .inl (d1, 32, .inl fw)), (b4, .inl (d4, 289, .inr (.inl fb))), (b5, .inl (d5, 289, .inr (.inl (vp_updL g ((17 * (jj + a)) + op) (lN (c0 + (tc_hv (fun i => w (o i)) jj a * d))))))), (b6, .inl (d6, 32, .inl fo))] H := hP
              have hD : va_D A [(h0, .inr (1, [.ref b1, .int (nI nn), .int (nI li), .ref b4, .ref b5, .ref b6])), (b1, .inl (d1, 32, .inl fw)), (b4, .inl (d4, 289, .inr (.inl fb))), (b5, .inl (d5, 289, .inr (.inl (vp_updL g ((17 * (jj + a)) + op) (lN (c0 + (tc_hv (fun i => w (o i)) jj a * d))))))), (b6, .inl (d6, 32, .inl fo))] := hD
              exact K392 _ x H locs ls (tc_st_o hst hjj hkk hn16 hrc hmin hc1 hlt hop hc3 he (Or.inl hc4)) hP hD hS (lv_sub hl [2, 3, 4, 5, 6, 7, 8, 9] rfl)
            · refine lv_lload hx hb dX1_least_364 (lv_at hl 4 rfl) ?_
              refine lv_lload hx hb dX1_least_366 (lv_at hl 3 rfl) ?_
              refine lv_ladd hx hb dX1_least_368 ?_
              refine tw_l (lN (c0 + (tc_hv (fun i => w (o i)) jj a * d))) (lN_add _ _) ?_
              refine lv_aload_n hx hb dX1_least_369 rfl (lv_at hl 9 rfl) ?_
              refine va_get (D := (dC, dI)) (ci := 1) (v := .ref b5) (C := RX1) (T := TX1) (N := 6) hx hb hts hinX1_least hown hK hP 0 rfl rfl 4 (by decide) (hts _ mmX1_least_5) (fun _ h9 => h9) rfl dX1_least_370 ?_
              refine lv_iload hx hb dX1_least_373 (lv_at hl 0 rfl) ?_
              refine va_lald hx hb hK hP 3 2 rfl rfl (tn_in 289 (by omega) (by decide)) dX1_least_375 ?_
              refine tw_l (g ((17 * (jj + a)) + op)) (congrArg g (tn_cl (by omega))) ?_
              refine tw_lif_ge hx hb (tgt := 392) dX1_least_376 dX1_least_377 (by decide) (fun hc5 => ?_) (fun hc5 => ?_)
              · exact K392 g x H locs ls (tc_st_ok hst hjj hkk hn16 hrc hmin hc1 hlt hop hc3 he hc4 (Int64.not_lt.mpr hc5)) hP hD hS (lv_sub hl [2, 3, 4, 5, 6, 7, 8, 9] rfl)
              · refine lv_aload_n hx hb dX1_least_380 rfl (lv_at hl 9 rfl) ?_
                refine va_get (D := (dC, dI)) (ci := 1) (v := .ref b5) (C := RX1) (T := TX1) (N := 6) hx hb hts hinX1_least hown hK hP 0 rfl rfl 4 (by decide) (hts _ mmX1_least_5) (fun _ h9 => h9) rfl dX1_least_381 ?_
                refine lv_iload hx hb dX1_least_384 (lv_at hl 0 rfl) ?_
                refine lv_lload hx hb dX1_least_386 (lv_at hl 4 rfl) ?_
                refine lv_lload hx hb dX1_least_388 (lv_at hl 3 rfl) ?_
                refine lv_ladd hx hb dX1_least_390 ?_
                refine tw_l (lN (c0 + (tc_hv (fun i => w (o i)) jj a * d))) (lN_add _ _) ?_
                refine va_last hx hb hK hP hD hS 3 2 rfl rfl (tn_in 289 (by omega) (by decide)) dX1_least_391 (fun H locs hP hD hS => ?_)
                rw [tn_cl (show (17 * (jj + a)) + op < 2 ^ 31 by omega)] at hP hD
                have hP : va_P (dC, dI) vwCl [(h0, .inr (1, [.ref b1, .int (nI nn), .int (nI li), .ref b4, .ref b5, .ref b6])), (b1, .inl (d1, 32, .inl fw)), (b4, .inl (d4, 289, .inr (.inl fb))), (b5, .inl (d5, 289, .inr (.inl (vp_updL g ((17 * (jj + a)) + op) (lN (c0 + (tc_hv (fun i => w (o i)) jj a * d))))))), (b6, .inl (d6, 32, .inl fo))] H := hP
                have hD : va_D A [(h0, .inr (1, [.ref b1, .int (nI nn), .int (nI li), .ref b4, .ref b5, .ref b6])), (b1, .inl (d1, 32, .inl fw)), (b4, .inl (d4, 289, .inr (.inl fb))), (b5, .inl (d5, 289, .inr (.inl (vp_updL g ((17 * (jj + a)) + op) (lN (c0 + (tc_hv (fun i => w (o i)) jj a * d))))))), (b6, .inl (d6, 32, .inl fo))] := hD
                exact K392 _ x H locs ls (tc_st_o hst hjj hkk hn16 hrc hmin hc1 hlt hop hc3 he (Or.inr (Int64.not_le.mp hc5))) hP hD hS (lv_sub hl [2, 3, 4, 5, 6, 7, 8, 9] rfl)
        have K261 : ∀ (ls : Array Slot), lv_has ls 13 [(8, .long (lN (tc_hv (fun i => w (o i)) jj a * d))), (10, .int (nI a)), (6, .long (lN c0)), (5, .int (nI kk)), (4, .int (nI jj)), (3, .int (nI d)), (1, .long x), (0, .ref h0)] → W p l e R s m args below meth c H locs 0 0 Q (F0 m 261 ls []) := by
          intro ls hl
          refine lv_iload hx hb dX1_least_261 (lv_at hl 4 rfl) ?_
          refine lv_iload hx hb dX1_least_263 (lv_at hl 1 rfl) ?_
          refine lv_iadd hx hb dX1_least_265 ?_
          refine tw_i (nI (jj + a)) (nI_add _ _) ?_
          refine lv_aload_n hx hb dX1_least_266 rfl (lv_at hl 7 rfl) ?_
          refine va_get (D := (dC, dI)) (ci := 1) (v := .int (nI nn)) (C := RX1) (T := TX1) (N := 6) hx hb hts hinX1_least hown hK hP 0 rfl rfl 1 (by decide) (hts _ mmX1_least_2) (fun _ h9 => h9) rfl dX1_least_267 ?_
          refine tw_icmp_ne hx hb (jj + a) nn (tgt := 298) dX1_least_270 (by decide) (by omega) (by omega) (fun hc6 => ?_) (fun hc6 => ?_)
          · have hlt : jj + a < nn := by omega
            refine lv_iconst (v := nI 2) hx hb dX1_least_298 (by decide) ?_
            refine lv_iload hx hb dX1_least_299 (lv_at hl 3 rfl) ?_
            refine lv_iload hx hb dX1_least_301 (lv_at hl 1 rfl) ?_
            refine lv_isub hx hb dX1_least_303 ?_
            refine tw_i (nI (kk - a)) (pk_sub (by omega)) ?_
            refine lv_imul hx hb dX1_least_304 ?_
            refine tw_i (nI (2 * (kk - a))) (pk_mul _ _) ?_
            refine lv_istore (lv' := [(11, .int (nI (2 * (kk - a)))), (8, .long (lN (tc_hv (fun i => w (o i)) jj a * d))), (10, .int (nI a)), (6, .long (lN c0)), (5, .int (nI kk)), (4, .int (nI jj)), (3, .int (nI d)), (1, .long x), (0, .ref h0)]) hx hb dX1_least_305 hl (by decide) rfl (fun ls hl => ?_)
            refine lv_iload hx hb dX1_least_307 (lv_at hl 0 rfl) ?_
            refine lv_aload_n hx hb dX1_least_309 rfl (lv_at hl 8 rfl) ?_
            refine va_get (D := (dC, dI)) (ci := 1) (v := .int (nI nn)) (C := RX1) (T := TX1) (N := 6) hx hb hts hinX1_least hown hK hP 0 rfl rfl 1 (by decide) (hts _ mmX1_least_2) (fun _ h9 => h9) rfl dX1_least_310 ?_
            refine lv_iload hx hb dX1_least_313 (lv_at hl 5 rfl) ?_
            refine lv_isub hx hb dX1_least_315 ?_
            refine tw_i (nI (nn - jj)) (pk_sub (by omega)) ?_
            refine lv_iload hx hb dX1_least_316 (lv_at hl 2 rfl) ?_
            refine lv_isub hx hb dX1_least_318 ?_
            refine tw_i (nI ((nn - jj) - a)) (pk_sub (by omega)) ?_
            refine tw_icmp_le hx hb (2 * (kk - a)) ((nn - jj) - a) (tgt := 334) dX1_least_319 (by decide) (by omega) (by omega) (fun hc7 => ?_) (fun hc7 => ?_)
            · exact K334 (2 * (kk - a)) ls hlt (by omega) (lv_sub hl [0, 2, 1, 3, 4, 5, 6, 7, 8] rfl)
            · refine lv_aload_n hx hb dX1_least_322 rfl (lv_at hl 8 rfl) ?_
              refine va_get (D := (dC, dI)) (ci := 1) (v := .int (nI nn)) (C := RX1) (T := TX1) (N := 6) hx hb hts hinX1_least hown hK hP 0 rfl rfl 1 (by decide) (hts _ mmX1_least_2) (fun _ h9 => h9) rfl dX1_least_323 ?_
              refine lv_iload hx hb dX1_least_326 (lv_at hl 5 rfl) ?_
              refine lv_isub hx hb dX1_least_328 ?_
              refine tw_i (nI (nn - jj)) (pk_sub (by omega)) ?_
              refine lv_iload hx hb dX1_least_329 (lv_at hl 2 rfl) ?_
              refine lv_isub hx hb dX1_least_331 ?_
              refine tw_i (nI ((nn - jj) - a)) (pk_sub (by omega)) ?_
              refine lv_istore (lv' := [(11, .int (nI ((nn - jj) - a))), (8, .long (lN (tc_hv (fun i => w (o i)) jj a * d))), (10, .int (nI a)), (6, .long (lN c0)), (5, .int (nI kk)), (4, .int (nI jj)), (3, .int (nI d)), (1, .long x), (0, .ref h0)]) hx hb dX1_least_332 hl (by decide) rfl (fun ls hl => ?_)
              exact K334 (nn - jj - a) ls hlt (by omega) (lv_sub hl [0, 2, 1, 3, 4, 5, 6, 7, 8] rfl)
          · refine lv_lload_n hx hb dX1_least_273 rfl (lv_at hl 6 rfl) ?_
            refine lv_lconst (v := lN 0) hx hb dX1_least_274 (by decide) ?_
            refine tw_lif_lt hx hb (tgt := 289) dX1_least_275 dX1_least_276 (by decide) (fun hc8 => ?_) (fun hc8 => ?_)
            · refine lv_lload hx hb dX1_least_289 (lv_at hl 2 rfl) ?_
              refine lv_lload hx hb dX1_least_291 (lv_at hl 0 rfl) ?_
              refine lv_ladd hx hb dX1_least_293 ?_
              refine tw_l (lN (c0 + (tc_hv (fun i => w (o i)) jj a * d))) (lN_add _ _) ?_
              refine lv_lstore_n (lv' := [(1, .long (lN (c0 + (tc_hv (fun i => w (o i)) jj a * d)))), (8, .long (lN (tc_hv (fun i => w (o i)) jj a * d))), (10, .int (nI a)), (6, .long (lN c0)), (5, .int (nI kk)), (4, .int (nI jj)), (3, .int (nI d)), (0, .ref h0)]) hx hb dX1_least_294 rfl hl (by decide) rfl (fun ls hl => ?_)
              refine lv_goto (tgt := 392) hx hb dX1_least_295 (by decide) ?_
              exact K392 g _ H locs ls (tc_st_f hst hjj hkk hrc hmin hc1 hc6 he (Or.inl hc8)) hP hD hS (lv_sub hl [2, 1, 3, 4, 5, 6, 0, 7] rfl)
            · refine lv_lload hx hb dX1_least_279 (lv_at hl 2 rfl) ?_
              refine lv_lload hx hb dX1_least_281 (lv_at hl 0 rfl) ?_
              refine lv_ladd hx hb dX1_least_283 ?_
              refine tw_l (lN (c0 + (tc_hv (fun i => w (o i)) jj a * d))) (lN_add _ _) ?_
              refine lv_lload_n hx hb dX1_least_284 rfl (lv_at hl 6 rfl) ?_
              refine tw_lif_ge hx hb (tgt := 392) dX1_least_285 dX1_least_286 (by decide) (fun hc9 => ?_) (fun hc9 => ?_)
              · exact K392 g x H locs ls (tc_st_fk hst hjj hkk hrc hmin hc1 hc6 he hc8 (Int64.not_lt.mpr hc9)) hP hD hS (lv_sub hl [1, 0, 2, 3, 4, 5, 6, 7] rfl)
              · refine lv_lload hx hb dX1_least_289 (lv_at hl 2 rfl) ?_
                refine lv_lload hx hb dX1_least_291 (lv_at hl 0 rfl) ?_
                refine lv_ladd hx hb dX1_least_293 ?_
                refine tw_l (lN (c0 + (tc_hv (fun i => w (o i)) jj a * d))) (lN_add _ _) ?_
                refine lv_lstore_n (lv' := [(1, .long (lN (c0 + (tc_hv (fun i => w (o i)) jj a * d)))), (8, .long (lN (tc_hv (fun i => w (o i)) jj a * d))), (10, .int (nI a)), (6, .long (lN c0)), (5, .int (nI kk)), (4, .int (nI jj)), (3, .int (nI d)), (0, .ref h0)]) hx hb dX1_least_294 rfl hl (by decide) rfl (fun ls hl => ?_)
                refine lv_goto (tgt := 392) hx hb dX1_least_295 (by decide) ?_
                exact K392 g _ H locs ls (tc_st_f hst hjj hkk hrc hmin hc1 hc6 he (Or.inr (Int64.not_le.mp hc9))) hP hD hS (lv_sub hl [2, 1, 3, 4, 5, 6, 0, 7] rfl)
        refine lv_iload hx hb dX1_least_230 (lv_at hl 0 rfl) ?_
        refine tw_if_le hx hb a (tgt := 261) dX1_least_232 (by decide) (by omega) (fun hc10 => ?_) (fun hc10 => ?_)
        · subst hc10
          exact K261 ls (lv_sub hl [1, 0, 2, 3, 4, 5, 6, 7] rfl)
        · have hob := (hfo (jj + a - 1) (by omega)).2
          have hw1 := hw31 (o (jj + a - 1))
          refine lv_lload hx hb dX1_least_235 (lv_at hl 1 rfl) ?_
          refine lv_aload_n hx hb dX1_least_237 rfl (lv_at hl 7 rfl) ?_
          refine va_get (D := (dC, dI)) (ci := 1) (v := .ref b1) (C := RX1) (T := TX1) (N := 6) hx hb hts hinX1_least hown hK hP 0 rfl rfl 0 (by decide) (hts _ mmX1_least_0) (fun _ h9 => h9) rfl dX1_least_238 ?_
          refine lv_aload_n hx hb dX1_least_241 rfl (lv_at hl 7 rfl) ?_
          refine va_get (D := (dC, dI)) (ci := 1) (v := .ref b6) (C := RX1) (T := TX1) (N := 6) hx hb hts hinX1_least hown hK hP 0 rfl rfl 5 (by decide) (hts _ mmX1_least_1) (fun _ h9 => h9) rfl dX1_least_242 ?_
          refine lv_iload hx hb dX1_least_245 (lv_at hl 4 rfl) ?_
          refine lv_iload hx hb dX1_least_247 (lv_at hl 0 rfl) ?_
          refine lv_iadd hx hb dX1_least_249 ?_
          refine tw_i (nI (jj + a)) (nI_add _ _) ?_
          refine lv_iconst (v := nI 1) hx hb dX1_least_250 (by decide) ?_
          refine lv_isub hx hb dX1_least_251 ?_
          refine tw_i (nI ((jj + a) - 1)) (pk_sub (by omega)) ?_
          refine va_iald hx hb hK hP 4 3 rfl rfl (tn_in 32 (by omega) (by decide)) dX1_least_252 ?_
          refine tw_i (fo ((jj + a) - 1)) (congrArg fo (tn_cl (by omega))) ?_
          refine tw_i (nI (o (jj + a - 1))) ((hfo (jj + a - 1) (by omega)).1) ?_
          refine va_iald hx hb hK hP 1 0 rfl rfl (tn_in 32 (by omega) (by decide)) dX1_least_253 ?_
          refine tw_i (fw (o (jj + a - 1))) (congrArg fw (tn_cl (by omega))) ?_
          refine tw_i (nI (w (o (jj + a - 1)))) (hfw _ hob) ?_
          refine lv_i2l (v := lN (w (o (jj + a - 1)))) hx hb dX1_least_254 (tn_i2l (by omega)) ?_
          refine lv_iload_n hx hb dX1_least_255 rfl (lv_at hl 5 rfl) ?_
          refine lv_i2l (v := lN d) hx hb dX1_least_256 (tn_i2l (by omega)) ?_
          refine lv_lmul hx hb dX1_least_257 ?_
          refine tw_l (lN ((w (o (jj + a - 1))) * d)) (lN_mul _ _) ?_
          refine lv_ladd hx hb dX1_least_258 ?_
          refine tw_l (lN ((tc_hv (fun i => w (o i)) jj (a - 1) * d) + ((w (o (jj + a - 1))) * d))) (lN_add _ _) ?_
          refine tw_l (lN (tc_hv (fun i => w (o i)) jj a * d)) (congrArg lN (tc_hv_s (fun i => w (o i)) d jj hc10)) ?_
          refine lv_lstore (lv' := [(8, .long (lN (tc_hv (fun i => w (o i)) jj a * d))), (10, .int (nI a)), (6, .long (lN c0)), (5, .int (nI kk)), (4, .int (nI jj)), (3, .int (nI d)), (1, .long x), (0, .ref h0)]) hx hb dX1_least_259 hl (by decide) rfl (fun ls hl => ?_)
          exact K261 ls (lv_sub hl [0, 1, 2, 3, 4, 5, 6, 7] rfl)
set_option maxHeartbeats 4000000 in
set_option maxRecDepth 100000 in
/-- the reference: k places -/
theorem lp_X1_k {p : Program} {l : Launch} {e : Env} {R : Room} {s : State} {m : MethodId} {args : Array Value} {below : List Frame} {meth : Method} {c : Code} {Q : State → Prop} {A : Nat → Prop} {dC : Nat → ClassId} {dI : Nat → Nat → Nat} (hx : p.tables.exec = Jvm.exec) (hb : c.code = cX1_least) (hml : c.maxLocals = 13) (hown : s.vm.findClass RX1 = some m.cls) (hts : ∀ w ∈ wsX1_least, w.before args s = true) (hA : ∀ q : Nat, s.heap.size ≤ q → A q)  (h0 b1 b4 b5 b6 : Nat) (d1 d4 d5 d6 : ClassId) (fw : Nat → Int32) (fb : Nat → Int64) (fo : Nat → Int32) (nn li d jj : Nat) (w o : Nat → Nat) (hn16 : nn ≤ 16) (hd : d ≤ 15) (hfw : ∀ j, j < 32 → fw j = nI (w j)) (hw31 : ∀ j, w j < 2 ^ 31) (hfo : ∀ j, j < nn → fo j = nI (o j) ∧ o j < 32) (hjj : jj ≤ nn) (hbest : ∀ j k, j ≤ nn → k ≤ 16 → tc_mo (tc_rch (fun i => w (o i)) nn d j k) (fb (17 * j + k))) (hK : va_K (dC, dI) vwCl [(d1, .int), (d4, .long), (d5, .long), (d6, .int)] s) (K : ∀ (g : Nat → Int64) (x : Int64) (H : Heap) (locs : List Loc) (ls : Array Slot), tc_st (fun i => w (o i)) nn d (jj + 1) 0 0 g x → va_P (dC, dI) vwCl [(h0, .inr (1, [.ref b1, .int (nI nn), .int (nI li), .ref b4, .ref b5, .ref b6])), (b1, .inl (d1, 32, .inl fw)), (b4, .inl (d4, 289, .inr (.inl fb))), (b5, .inl (d5, 289, .inr (.inl g))), (b6, .inl (d6, 32, .inl fo))] H → va_D A [(h0, .inr (1, [.ref b1, .int (nI nn), .int (nI li), .ref b4, .ref b5, .ref b6])), (b1, .inl (d1, 32, .inl fw)), (b4, .inl (d4, 289, .inr (.inl fb))), (b5, .inl (d5, 289, .inr (.inl g))), (b6, .inl (d6, 32, .inl fo))] → va_S A s.heap H locs → lv_has ls 13 [(4, .int (nI jj)), (3, .int (nI d)), (1, .long x), (0, .ref h0)] → W p l e R s m args below meth c H locs 0 0 Q (F0 m 404 ls [])) :
    ∀ (fu : Nat) (kk : Nat) (g : Nat → Int64) (x : Int64) (H : Heap) (locs : List Loc) (ls : Array Slot), (17 - kk) < fu → kk ≤ 17 → tc_st (fun i => w (o i)) nn d jj kk 0 g x → va_P (dC, dI) vwCl [(h0, .inr (1, [.ref b1, .int (nI nn), .int (nI li), .ref b4, .ref b5, .ref b6])), (b1, .inl (d1, 32, .inl fw)), (b4, .inl (d4, 289, .inr (.inl fb))), (b5, .inl (d5, 289, .inr (.inl g))), (b6, .inl (d6, 32, .inl fo))] H → va_D A [(h0, .inr (1, [.ref b1, .int (nI nn), .int (nI li), .ref b4, .ref b5, .ref b6])), (b1, .inl (d1, 32, .inl fw)), (b4, .inl (d4, 289, .inr (.inl fb))), (b5, .inl (d5, 289, .inr (.inl g))), (b6, .inl (d6, 32, .inl fo))] → va_S A s.heap H locs → lv_has ls 13 [(5, .int (nI kk)), (4, .int (nI jj)), (3, .int (nI d)), (1, .long x), (0, .ref h0)] → W p l e R s m args below meth c H locs 0 0 Q (F0 m 176 ls []) := by
  intro fu
  induction fu with
  | zero =>
    intro kk g x H locs ls hfu
    exact absurd hfu (Nat.not_lt_zero _)
  | succ fu ih =>
    intro kk g x H locs ls hfu hkk hst hP hD hS hl
    refine lv_iload hx hb dX1_least_176 (lv_at hl 0 rfl) ?_
    refine lv_bipush (v := nI 16) hx hb dX1_least_178 (by decide) ?_
    refine tw_icmp_gt hx hb kk 16 (tgt := 404) dX1_least_180 (by decide) (by omega) (by decide) (fun hc1 => ?_) (fun hc1 => ?_)
    · have e : kk = 17 := by omega
      subst e
      exact K g x H locs ls (tc_st_j hst) hP hD hS (lv_sub hl [1, 2, 3, 4] rfl)
    · have K398 : ∀ (g : Nat → Int64) (x : Int64) (H : Heap) (locs : List Loc) (ls : Array Slot), tc_st (fun i => w (o i)) nn d jj (kk + 1) 0 g x → va_P (dC, dI) vwCl [(h0, .inr (1, [.ref b1, .int (nI nn), .int (nI li), .ref b4, .ref b5, .ref b6])), (b1, .inl (d1, 32, .inl fw)), (b4, .inl (d4, 289, .inr (.inl fb))), (b5, .inl (d5, 289, .inr (.inl g))), (b6, .inl (d6, 32, .inl fo))] H → va_D A [(h0, .inr (1, [.ref b1, .int (nI nn), .int (nI li), .ref b4, .ref b5, .ref b6])), (b1, .inl (d1, 32, .inl fw)), (b4, .inl (d4, 289, .inr (.inl fb))), (b5, .inl (d5, 289, .inr (.inl g))), (b6, .inl (d6, 32, .inl fo))] → va_S A s.heap H locs → lv_has ls 13 [(5, .int (nI kk)), (4, .int (nI jj)), (3, .int (nI d)), (1, .long x), (0, .ref h0)] → W p l e R s m args below meth c H locs 0 0 Q (F0 m 398 ls []) := by
        intro g x H locs ls hst hP hD hS hl
        refine lv_iinc (v := nI (kk + 1)) (lv' := [(5, .int (nI (kk + 1))), (4, .int (nI jj)), (3, .int (nI d)), (1, .long x), (0, .ref h0)]) hx hb dX1_least_398 hl (k := 0) rfl (tn_p1 _) (by decide) rfl (fun ls hl => ?_)
        refine lv_goto (tgt := 176) hx hb dX1_least_401 (by decide) ?_
        exact ih (kk + 1) g x H locs ls (by omega) (by omega) hst hP hD hS (lv_sub hl [0, 1, 2, 3, 4] rfl)
      have hbk := hbest jj kk hjj hc1
      refine lv_aload_n hx hb dX1_least_183 rfl (lv_at hl 4 rfl) ?_
      refine va_get (D := (dC, dI)) (ci := 1) (v := .ref b4) (C := RX1) (T := TX1) (N := 6) hx hb hts hinX1_least hown hK hP 0 rfl rfl 3 (by decide) (hts _ mmX1_least_3) (fun _ h9 => h9) rfl dX1_least_184 ?_
      refine lv_bipush (v := nI 17) hx hb dX1_least_187 (by decide) ?_
      refine lv_iload hx hb dX1_least_189 (lv_at hl 1 rfl) ?_
      refine lv_imul hx hb dX1_least_191 ?_
      refine tw_i (nI (17 * jj)) (pk_mul _ _) ?_
      refine lv_iload hx hb dX1_least_192 (lv_at hl 0 rfl) ?_
      refine lv_iadd hx hb dX1_least_194 ?_
      refine tw_i (nI ((17 * jj) + kk)) (nI_add _ _) ?_
      refine va_lald hx hb hK hP 2 1 rfl rfl (tn_in 289 (by omega) (by decide)) dX1_least_195 ?_
      refine tw_l (fb ((17 * jj) + kk)) (congrArg fb (tn_cl (by omega))) ?_
      obtain ⟨z1, ez1⟩ : ∃ z, z = fb (17 * jj + kk) := ⟨_, rfl⟩
      refine tw_l (z1) (ez1.symm) ?_
      rw [← ez1] at hbk
      refine lv_lstore (lv' := [(6, .long z1), (5, .int (nI kk)), (4, .int (nI jj)), (3, .int (nI d)), (1, .long x), (0, .ref h0)]) hx hb dX1_least_196 hl (by decide) rfl (fun ls hl => ?_)
      refine lv_lload hx hb dX1_least_198 (lv_at hl 0 rfl) ?_
      refine lv_lconst (v := lN 0) hx hb dX1_least_200 (by decide) ?_
      refine tw_lif_lt hx hb (tgt := 398) dX1_least_201 dX1_least_202 (by decide) (fun hc2 => ?_) (fun hc2 => ?_)
      · rcases hbk with ⟨h1, h2⟩ | ⟨c0, h1, h2, h3, h4⟩
        · exact K398 g x H locs ls (tc_st_k hst (Or.inr (Or.inr h2))) hP hD hS (lv_sub hl [1, 2, 3, 4, 5] rfl)
        · rw [h2] at hc2; exact absurd hc2 (tn_neg (by omega))
      · rcases hbk with ⟨h1, h2⟩ | ⟨c0, h1, h2, h3, h4⟩
        · rw [h1] at hc2; exact absurd tn_m hc2
        · subst h2
          refine lv_lconst (v := lN 0) hx hb dX1_least_205 (by decide) ?_
          refine tw_l (lN (tc_hv (fun i => w (o i)) jj (0 - 1) * d)) (by show lN 0 = lN (0 * d); rw [Nat.zero_mul]) ?_
          refine lv_lstore (lv' := [(8, .long (lN (tc_hv (fun i => w (o i)) jj (0 - 1) * d))), (6, .long (lN c0)), (5, .int (nI kk)), (4, .int (nI jj)), (3, .int (nI d)), (1, .long x), (0, .ref h0)]) hx hb dX1_least_206 hl (by decide) rfl (fun ls hl => ?_)
          refine lv_iconst (v := nI 0) hx hb dX1_least_208 (by decide) ?_
          refine lv_istore (lv' := [(10, .int (nI 0)), (8, .long (lN (tc_hv (fun i => w (o i)) jj (0 - 1) * d))), (6, .long (lN c0)), (5, .int (nI kk)), (4, .int (nI jj)), (3, .int (nI d)), (1, .long x), (0, .ref h0)]) hx hb dX1_least_209 hl (by decide) rfl (fun ls hl => ?_)
          exact lp_X1_a hx hb hml hown hts hA h0 b1 b4 b5 b6 d1 d4 d5 d6 fw fb fo nn li d jj kk c0 w o hn16 hd hfw hw31 hfo hjj hc1 h3 h4 hK K398 (kk + 1 + 1) 0 g x H locs ls (by omega) (Nat.zero_le _) hst hP hD hS (lv_sub hl [0, 1, 2, 3, 4, 5, 6, 7] rfl)
set_option maxHeartbeats 4000000 in
set_option maxRecDepth 100000 in
/-- the reference: j letters -/
theorem lp_X1_j {p : Program} {l : Launch} {e : Env} {R : Room} {s : State} {m : MethodId} {args : Array Value} {below : List Frame} {meth : Method} {c : Code} {Q : State → Prop} {A : Nat → Prop} {dC : Nat → ClassId} {dI : Nat → Nat → Nat} (hx : p.tables.exec = Jvm.exec) (hb : c.code = cX1_least) (hml : c.maxLocals = 13) (hown : s.vm.findClass RX1 = some m.cls) (hts : ∀ w ∈ wsX1_least, w.before args s = true) (hA : ∀ q : Nat, s.heap.size ≤ q → A q)  (h0 b1 b4 b5 b6 : Nat) (d1 d4 d5 d6 : ClassId) (fw : Nat → Int32) (fb : Nat → Int64) (fo : Nat → Int32) (nn li d : Nat) (w o : Nat → Nat) (hn16 : nn ≤ 16) (hd : d ≤ 15) (hfw : ∀ j, j < 32 → fw j = nI (w j)) (hw31 : ∀ j, w j < 2 ^ 31) (hfo : ∀ j, j < nn → fo j = nI (o j) ∧ o j < 32) (hbest : ∀ j k, j ≤ nn → k ≤ 16 → tc_mo (tc_rch (fun i => w (o i)) nn d j k) (fb (17 * j + k))) (hK : va_K (dC, dI) vwCl [(d1, .int), (d4, .long), (d5, .long), (d6, .int)] s) (K : ∀ (g : Nat → Int64) (x : Int64) (H : Heap) (locs : List Loc) (ls : Array Slot), tc_st (fun i => w (o i)) nn d (nn + 1) 0 0 g x → va_P (dC, dI) vwCl [(h0, .inr (1, [.ref b1, .int (nI nn), .int (nI li), .ref b4, .ref b5, .ref b6])), (b1, .inl (d1, 32, .inl fw)), (b4, .inl (d4, 289, .inr (.inl fb))), (b5, .inl (d5, 289, .inr (.inl g))), (b6, .inl (d6, 32, .inl fo))] H → va_D A [(h0, .inr (1, [.ref b1, .int (nI nn), .int (nI li), .ref b4, .ref b5, .ref b6])), (b1, .inl (d1, 32, .inl fw)), (b4, .inl (d4, 289, .inr (.inl fb))), (b5, .inl (d5, 289, .inr (.inl g))), (b6, .inl (d6, 32, .inl fo))] → va_S A s.heap H locs → lv_has ls 13 [(3, .int (nI d)), (1, .long x), (0, .ref h0)] → W p l e R s m args below meth c H locs 0 0 Q (F0 m 410 ls [])) :
    ∀ (fu : Nat) (jj : Nat) (g : Nat → Int64) (x : Int64) (H : Heap) (locs : List Loc) (ls : Array Slot), (nn + 1 - jj) < fu → jj ≤ nn + 1 → tc_st (fun i => w (o i)) nn d jj 0 0 g x → va_P (dC, dI) vwCl [(h0, .inr (1, [.ref b1, .int (nI nn), .int (nI li), .ref b4, .ref b5, .ref b6])), (b1, .inl (d1, 32, .inl fw)), (b4, .inl (d4, 289, .inr (.inl fb))), (b5, .inl (d5, 289, .inr (.inl g))), (b6, .inl (d6, 32, .inl fo))] H → va_D A [(h0, .inr (1, [.ref b1, .int (nI nn), .int (nI li), .ref b4, .ref b5, .ref b6])), (b1, .inl (d1, 32, .inl fw)), (b4, .inl (d4, 289, .inr (.inl fb))), (b5, .inl (d5, 289, .inr (.inl g))), (b6, .inl (d6, 32, .inl fo))] → va_S A s.heap H locs → lv_has ls 13 [(4, .int (nI jj)), (3, .int (nI d)), (1, .long x), (0, .ref h0)] → W p l e R s m args below meth c H locs 0 0 Q (F0 m 164 ls []) := by
  intro fu
  induction fu with
  | zero =>
    intro jj g x H locs ls hfu
    exact absurd hfu (Nat.not_lt_zero _)
  | succ fu ih =>
    intro jj g x H locs ls hfu hjj hst hP hD hS hl
    refine lv_iload hx hb dX1_least_164 (lv_at hl 0 rfl) ?_
    refine lv_aload_n hx hb dX1_least_166 rfl (lv_at hl 3 rfl) ?_
    refine va_get (D := (dC, dI)) (ci := 1) (v := .int (nI nn)) (C := RX1) (T := TX1) (N := 6) hx hb hts hinX1_least hown hK hP 0 rfl rfl 1 (by decide) (hts _ mmX1_least_2) (fun _ h9 => h9) rfl dX1_least_167 ?_
    refine tw_icmp_gt hx hb jj nn (tgt := 410) dX1_least_170 (by decide) (by omega) (by omega) (fun hc1 => ?_) (fun hc1 => ?_)
    · have e : jj = nn + 1 := by omega
      subst e
      exact K g x H locs ls hst hP hD hS (lv_sub hl [1, 2, 3] rfl)
    · refine lv_iconst (v := nI 0) hx hb dX1_least_173 (by decide) ?_
      refine lv_istore (lv' := [(5, .int (nI 0)), (4, .int (nI jj)), (3, .int (nI d)), (1, .long x), (0, .ref h0)]) hx hb dX1_least_174 hl (by decide) rfl (fun ls hl => ?_)
      refine lp_X1_k hx hb hml hown hts hA h0 b1 b4 b5 b6 d1 d4 d5 d6 fw fb fo nn li d jj w o hn16 hd hfw hw31 hfo hc1 hbest hK ?_ 18 0 g x H locs ls (by omega) (by omega) hst hP hD hS (lv_sub hl [0, 1, 2, 3, 4] rfl)
      intro g x H locs ls hst hP hD hS hl
      refine lv_iinc (v := nI (jj + 1)) (lv' := [(4, .int (nI (jj + 1))), (3, .int (nI d)), (1, .long x), (0, .ref h0)]) hx hb dX1_least_404 hl (k := 0) rfl (tn_p1 _) (by decide) rfl (fun ls hl => ?_)
      refine lv_goto (tgt := 164) hx hb dX1_least_407 (by decide) ?_
      exact ih (jj + 1) g x H locs ls (by omega) (by omega) hst hP hD hS (lv_sub hl [0, 1, 2, 3] rfl)
set_option maxHeartbeats 4000000 in
set_option maxRecDepth 100000 in
/-- the reference: the depths -/
theorem lp_X1_d {p : Program} {l : Launch} {e : Env} {R : Room} {s : State} {m : MethodId} {args : Array Value} {below : List Frame} {meth : Method} {c : Code} {Q : State → Prop} {A : Nat → Prop} {dC : Nat → ClassId} {dI : Nat → Nat → Nat} (hx : p.tables.exec = Jvm.exec) (hb : c.code = cX1_least) (hml : c.maxLocals = 13) (hown : s.vm.findClass RX1 = some m.cls) (hts : ∀ w ∈ wsX1_least, w.before args s = true) (hA : ∀ q : Nat, s.heap.size ≤ q → A q)  (h0 b1 b4 b5 b6 : Nat) (d1 d4 d5 d6 : ClassId) (fw : Nat → Int32) (fo : Nat → Int32) (nn li : Nat) (w o : Nat → Nat) (hn16 : nn ≤ 16) (hli : li ≤ 15) (hfw : ∀ j, j < 32 → fw j = nI (w j)) (hw31 : ∀ j, w j < 2 ^ 31) (hfo : ∀ j, j < nn → fo j = nI (o j) ∧ o j < 32) (hK : va_K (dC, dI) vwCl [(d1, .int), (d4, .long), (d5, .long), (d6, .int)] s) (K : ∀ (fb fx : Nat → Int64) (x : Int64) (H : Heap) (locs : List Loc) (ls : Array Slot), tc_mo (tc_ans (fun i => w (o i)) nn (li + 1)) x → va_P (dC, dI) vwCl [(h0, .inr (1, [.ref b1, .int (nI nn), .int (nI li), .ref b4, .ref b5, .ref b6])), (b1, .inl (d1, 32, .inl fw)), (b4, .inl (d4, 289, .inr (.inl fb))), (b5, .inl (d5, 289, .inr (.inl fx))), (b6, .inl (d6, 32, .inl fo))] H → va_D A [(h0, .inr (1, [.ref b1, .int (nI nn), .int (nI li), .ref b4, .ref b5, .ref b6])), (b1, .inl (d1, 32, .inl fw)), (b4, .inl (d4, 289, .inr (.inl fb))), (b5, .inl (d5, 289, .inr (.inl fx))), (b6, .inl (d6, 32, .inl fo))] → va_S A s.heap H locs → lv_has ls 13 [(1, .long x), (0, .ref h0)] → W p l e R s m args below meth c H locs 0 0 Q (F0 m 447 ls [])) :
    ∀ (fu : Nat) (d : Nat) (fb fx : Nat → Int64) (x : Int64) (H : Heap) (locs : List Loc) (ls : Array Slot), (li + 1 - d) < fu → d ≤ li + 1 → (∀ j k, j ≤ nn → k ≤ 16 → tc_mo (tc_rch (fun i => w (o i)) nn d j k) (fb (17 * j + k))) → tc_mo (tc_ans (fun i => w (o i)) nn d) x → va_P (dC, dI) vwCl [(h0, .inr (1, [.ref b1, .int (nI nn), .int (nI li), .ref b4, .ref b5, .ref b6])), (b1, .inl (d1, 32, .inl fw)), (b4, .inl (d4, 289, .inr (.inl fb))), (b5, .inl (d5, 289, .inr (.inl fx))), (b6, .inl (d6, 32, .inl fo))] H → va_D A [(h0, .inr (1, [.ref b1, .int (nI nn), .int (nI li), .ref b4, .ref b5, .ref b6])), (b1, .inl (d1, 32, .inl fw)), (b4, .inl (d4, 289, .inr (.inl fb))), (b5, .inl (d5, 289, .inr (.inl fx))), (b6, .inl (d6, 32, .inl fo))] → va_S A s.heap H locs → lv_has ls 13 [(3, .int (nI d)), (1, .long x), (0, .ref h0)] → W p l e R s m args below meth c H locs 0 0 Q (F0 m 126 ls []) := by
  intro fu
  induction fu with
  | zero =>
    intro d fb fx x H locs ls hfu
    exact absurd hfu (Nat.not_lt_zero _)
  | succ fu ih =>
    intro d fb fx x H locs ls hfu hd hbest hans hP hD hS hl
    refine lv_iload_n hx hb dX1_least_126 rfl (lv_at hl 0 rfl) ?_
    refine lv_aload_n hx hb dX1_least_127 rfl (lv_at hl 2 rfl) ?_
    refine va_get (D := (dC, dI)) (ci := 1) (v := .int (nI li)) (C := RX1) (T := TX1) (N := 6) hx hb hts hinX1_least hown hK hP 0 rfl rfl 2 (by decide) (hts _ mmX1_least_6) (fun _ h9 => h9) rfl dX1_least_128 ?_
    refine tw_icmp_gt hx hb d li (tgt := 447) dX1_least_131 (by decide) (by omega) (by omega) (fun hc1 => ?_) (fun hc1 => ?_)
    · have e : d = li + 1 := by omega
      subst e
      exact K fb fx x H locs ls hans hP hD hS (lv_sub hl [1, 2] rfl)
    · refine lv_iconst (v := nI 0) hx hb dX1_least_134 (by decide) ?_
      refine lv_istore (lv' := [(4, .int (nI 0)), (3, .int (nI d)), (1, .long x), (0, .ref h0)]) hx hb dX1_least_135 hl (by decide) rfl (fun ls hl => ?_)
      refine lp_X1_fx hx hb hml hown hts hA h0 b1 b4 b5 b6 d1 d4 d5 d6 fw fb fo nn li d x hK ?_ 290 0 fx H locs ls (by omega) (by omega) (fun q hq => absurd hq (Nat.not_lt_zero _)) hP hD hS (lv_sub hl [0, 1, 2, 3] rfl)
      intro g H locs ls hg hP hD hS hl
      refine lv_iconst (v := nI 0) hx hb dX1_least_161 (by decide) ?_
      refine lv_istore (lv' := [(4, .int (nI 0)), (3, .int (nI d)), (1, .long x), (0, .ref h0)]) hx hb dX1_least_162 hl (by decide) rfl (fun ls hl => ?_)
      refine lp_X1_j hx hb hml hown hts hA h0 b1 b4 b5 b6 d1 d4 d5 d6 fw fb fo nn li d w o hn16 (by omega) hfw hw31 hfo hbest hK ?_ (nn + 2) 0 g x H locs ls (by omega) (by omega) (tc_st_0 hn16 hg hans) hP hD hS (lv_sub hl [0, 1, 2, 3] rfl)
      intro g2 x2 H locs ls hst hP hD hS hl
      obtain ⟨hrow, hans2⟩ := tc_st_end hst
      refine lv_iconst (v := nI 0) hx hb dX1_least_410 (by decide) ?_
      refine lv_istore (lv' := [(4, .int (nI 0)), (3, .int (nI d)), (1, .long x2), (0, .ref h0)]) hx hb dX1_least_411 hl (by decide) rfl (fun ls hl => ?_)
      refine lp_X1_cp hx hb hml hown hts hA h0 b1 b4 b5 b6 d1 d4 d5 d6 fw g2 fo nn li d x2 hK ?_ 290 0 fb H locs ls (by omega) (by omega) (fun q hq => absurd hq (Nat.not_lt_zero _)) hP hD hS (lv_sub hl [0, 1, 2, 3] rfl)
      intro g3 H locs ls hg3 hP hD hS hl
      refine lv_iinc (v := nI (d + 1)) (lv' := [(3, .int (nI (d + 1))), (1, .long x2), (0, .ref h0)]) hx hb dX1_least_441 hl (k := 0) rfl (tn_p1 _) (by decide) rfl (fun ls hl => ?_)
      refine lv_goto (tgt := 126) hx hb dX1_least_444 (by decide) ?_
      exact ih (d + 1) g3 g2 x2 H locs ls (by omega) (by omega) (fun j k hj hk => by rw [hg3 _ (by omega)]; exact hrow j k hj hk) hans2 hP hD hS (lv_sub hl [0, 1, 2] rfl)
set_option maxHeartbeats 4000000 in
set_option maxRecDepth 100000 in
/-- the reference: least() -/
theorem c_X1_least (l : Launch) (dC : Nat → ClassId) (dI : Nat → Nat → Nat) (h0 b1 b4 b5 b6 : Nat) (d1 d4 d5 d6 : ClassId) (fw : Nat → Int32) (fb fx : Nat → Int64) (fo : Nat → Int32) (sz : Nat) (nn li : Nat) (w : Nat → Nat) (hn16 : nn ≤ 16) (hli : li < 16) (hfw : ∀ j, j < 32 → fw j = nI (w j)) (hw31 : ∀ j, w j < 2 ^ 31) : Met l yX1_least wsX1_least ({ frames := 0, cells := 0, slots := 0, locals := 0 }) (va_Pc [.ref h0] (fun U => U.heap.size = sz ∧ va_P (dC, dI) vwCl [(h0, .inr (1, [.ref b1, .int (nI nn), .int (nI li), .ref b4, .ref b5, .ref b6])), (b1, .inl (d1, 32, .inl fw)), (b4, .inl (d4, 289, .inr (.inl fb))), (b5, .inl (d5, 289, .inr (.inl fx))), (b6, .inl (d6, 32, .inl fo))] U.heap ∧ va_K (dC, dI) vwCl [(d1, .int), (d4, .long), (d5, .long), (d6, .int)] U ∧ va_D (fun _ => True) [(h0, .inr (1, [.ref b1, .int (nI nn), .int (nI li), .ref b4, .ref b5, .ref b6])), (b1, .inl (d1, 32, .inl fw)), (b4, .inl (d4, 289, .inr (.inl fb))), (b5, .inl (d5, 289, .inr (.inl fx))), (b6, .inl (d6, 32, .inl fo))])) (va_Ql (fun (r : Int64) (_ : (Nat → Int64) × (Nat → Int64) × (Nat → Int32)) => (2 ^ li < nn ∧ r = -1) ∨ (nn ≤ 2 ^ li ∧ ∃ o : Nat → Nat, tc_ord w o nn ∧ tc_mo (tc_ans (fun i => w (o i)) nn (li + 1)) r)) (fun (u : (Nat → Int64) × (Nat → Int64) × (Nat → Int32)) (t : State) => va_P (dC, dI) vwCl [(h0, .inr (1, [.ref b1, .int (nI nn), .int (nI li), .ref b4, .ref b5, .ref b6])), (b1, .inl (d1, 32, .inl fw)), (b4, .inl (d4, 289, .inr (.inl (u.1)))), (b5, .inl (d5, 289, .inr (.inl (u.2.1)))), (b6, .inl (d6, 32, .inl (u.2.2)))] t.heap ∧ va_K (dC, dI) vwCl [(d1, .int), (d4, .long), (d5, .long), (d6, .int)] t ∧ va_D (va_A [(h0, .inr (1, [.ref b1, .int (nI nn), .int (nI li), .ref b4, .ref b5, .ref b6])), (b1, .inl (d1, 32, .inl fw)), (b4, .inl (d4, 289, .inr (.inl fb))), (b5, .inl (d5, 289, .inr (.inl fx))), (b6, .inl (d6, 32, .inl fo))] sz) [(h0, .inr (1, [.ref b1, .int (nI nn), .int (nI li), .ref b4, .ref b5, .ref b6])), (b1, .inl (d1, 32, .inl fw)), (b4, .inl (d4, 289, .inr (.inl (u.1)))), (b5, .inl (d5, 289, .inr (.inl (u.2.1)))), (b6, .inl (d6, 32, .inl (u.2.2)))]) (va_A [(h0, .inr (1, [.ref b1, .int (nI nn), .int (nI li), .ref b4, .ref b5, .ref b6])), (b1, .inl (d1, 32, .inl fw)), (b4, .inl (d4, 289, .inr (.inl fb))), (b5, .inl (d5, 289, .inr (.inl fx))), (b6, .inl (d6, 32, .inl fo))] sz)) 0 0 (va_A [(h0, .inr (1, [.ref b1, .int (nI nn), .int (nI li), .ref b4, .ref b5, .ref b6])), (b1, .inl (d1, 32, .inl fw)), (b4, .inl (d4, 289, .inr (.inl fb))), (b5, .inl (d5, 289, .inr (.inl fx))), (b6, .inl (d6, 32, .inl fo))] sz) := by
  refine Met.ofW (cc := cX1_least) (maxL := 13) (ret := (some .long)) (by decide) rfl ?_
  intro p e s m args below meth c s₁ B hml hv
  obtain ⟨rfl, hsz, hP, hK, hD0⟩ := hv
  have hx := B.exec
  have hb := B.bytes
  have hr := B.returns
  have hts := atoms_spec (ws := wsX1_least) B.pre
  have hown : s.vm.findClass RX1 = some m.cls := findClass_of_methodNamed B.named
  have hlocks := B.notSynchronized
  subst hsz
  have hD := hD0.self (sz := s.heap.size)
  generalize hAe : va_A [(h0, .inr (1, [.ref b1, .int (nI nn), .int (nI li), .ref b4, .ref b5, .ref b6])), (b1, .inl (d1, 32, .inl fw)), (b4, .inl (d4, 289, .inr (.inl fb))), (b5, .inl (d5, 289, .inr (.inl fx))), (b6, .inl (d6, 32, .inl fo))] s.heap.size = A at hD ⊢
  have hA : ∀ q : Nat, s.heap.size ≤ q → A q := fun q h => by rw [← hAe]; exact Or.inr h
  have hS : va_S A s.heap s.heap [] := va_S.rf
  have hP : va_P (dC, dI) vwCl [(h0, .inr (1, [.ref b1, .int (nI nn), .int (nI li), .ref b4, .ref b5, .ref b6])), (b1, .inl (d1, 32, .inl fw)), (b4, .inl (d4, 289, .inr (.inl fb))), (b5, .inl (d5, 289, .inr (.inl fx))), (b6, .inl (d6, 32, .inl fo))] s.heap := hP
  have hl := lv_entry ([.ref h0]) (n := 13) (Nat.le_of_ble_eq_true rfl)
  rw [lg_entry_eq]
  generalize (lg_sl ([.ref h0]) ++ List.replicate (13 - (lg_sl ([.ref h0])).length) Slot.unset).toArray = ls at hl ⊢
  have hl : lv_has ls 13 [(0, .ref h0)] := hl
  have hp16 : (2 : Nat) ^ li ≤ 2 ^ 15 := Nat.pow_le_pow_right (by decide) (by omega)
  refine lv_iconst (v := nI 1) hx hb dX1_least_0 (by decide) ?_
  refine lv_aload_n hx hb dX1_least_1 rfl (lv_at hl 0 rfl) ?_
  refine va_get (D := (dC, dI)) (ci := 1) (v := .int (nI li)) (C := RX1) (T := TX1) (N := 6) hx hb hts hinX1_least hown hK hP 0 rfl rfl 2 (by decide) (hts _ mmX1_least_6) (fun _ h9 => h9) rfl dX1_least_2 ?_
  refine lv_ishl hx hb dX1_least_5 ?_
  refine tw_i (nI (2 ^ li)) (tn_shl hli) ?_
  refine lv_aload_n hx hb dX1_least_6 rfl (lv_at hl 0 rfl) ?_
  refine va_get (D := (dC, dI)) (ci := 1) (v := .int (nI nn)) (C := RX1) (T := TX1) (N := 6) hx hb hts hinX1_least hown hK hP 0 rfl rfl 1 (by decide) (hts _ mmX1_least_2) (fun _ h9 => h9) rfl dX1_least_7 ?_
  refine tw_icmp_ge hx hb (2 ^ li) nn (tgt := 17) dX1_least_10 (by decide) (by omega) (by omega) (fun hc => ?_) (fun hc => ?_)
  · refine lv_iconst (v := nI 0) hx hb dX1_least_17 (by decide) ?_
    refine lv_istore_n (lv' := [(1, .int (nI 0)), (0, .ref h0)]) hx hb dX1_least_18 rfl hl (by decide) rfl (fun ls hl => ?_)
    refine lp_X1_out hx hb hml hown hts hA h0 b1 b4 b5 b6 d1 d4 d5 d6 fw fb fx nn li w hn16 hfw hw31 hK ?_ (nn + 1) 0 (fun _ => 0) fo s.heap [] ls (by omega) (Nat.zero_le _) (tc_ord_0 _ _) (fun j hj => absurd hj (Nat.not_lt_zero _)) hP hD hS (lv_sub hl [0, 1] rfl)
    intro o g H locs ls hod hg hP hD hS hl
    have hfo : ∀ j, j < nn → g j = nI (o j) ∧ o j < 32 := fun j hj => ⟨hg j hj, by have := hod.2.2 j hj; omega⟩
    refine lv_iconst (v := nI 0) hx hb dX1_least_89 (by decide) ?_
    refine lv_istore_n (lv' := [(1, .int (nI 0)), (0, .ref h0)]) hx hb dX1_least_90 rfl hl (by decide) rfl (fun ls hl => ?_)
    refine lp_X1_fb hx hb hml hown hts hA h0 b1 b4 b5 b6 d1 d4 d5 d6 fw fx g nn li hK ?_ 290 0 fb H locs ls (by omega) (by omega) (fun q hq => absurd hq (Nat.not_lt_zero _)) hP hD hS (lv_sub hl [0, 1] rfl)
    intro g1 H locs ls hg1 hP hD hS hl
    refine lv_aload_n hx hb dX1_least_113 rfl (lv_at hl 0 rfl) ?_
    refine va_get (D := (dC, dI)) (ci := 1) (v := .ref b4) (C := RX1) (T := TX1) (N := 6) hx hb hts hinX1_least hown hK hP 0 rfl rfl 3 (by decide) (hts _ mmX1_least_3) (fun _ h9 => h9) rfl dX1_least_114 ?_
    refine lv_iconst (v := nI 1) hx hb dX1_least_117 (by decide) ?_
    refine lv_lconst (v := lN 0) hx hb dX1_least_118 (by decide) ?_
    refine va_last hx hb hK hP hD hS 2 1 rfl rfl (tn_in 289 (by omega) (by decide)) dX1_least_119 (fun H locs hP hD hS => ?_)
    rw [tn_cl (show 1 < 2 ^ 31 by omega)] at hP hD
    have hP : va_P (dC, dI) vwCl [(h0, .inr (1, [.ref b1, .int (nI nn), .int (nI li), .ref b4, .ref b5, .ref b6])), (b1, .inl (d1, 32, .inl fw)), (b4, .inl (d4, 289, .inr (.inl (vp_updL g1 1 (lN 0))))), (b5, .inl (d5, 289, .inr (.inl fx))), (b6, .inl (d6, 32, .inl g))] H := hP
    have hD : va_D A [(h0, .inr (1, [.ref b1, .int (nI nn), .int (nI li), .ref b4, .ref b5, .ref b6])), (b1, .inl (d1, 32, .inl fw)), (b4, .inl (d4, 289, .inr (.inl (vp_updL g1 1 (lN 0))))), (b5, .inl (d5, 289, .inr (.inl fx))), (b6, .inl (d6, 32, .inl g))] := hD
    refine lv_ldc2 hx hb hown (hts _ mmX1_least_4) dX1_least_120 ?_
    refine lv_lstore_n (lv' := [(1, .long (-1)), (0, .ref h0)]) hx hb dX1_least_123 rfl hl (by decide) rfl (fun ls hl => ?_)
    refine lv_iconst (v := nI 0) hx hb dX1_least_124 (by decide) ?_
    refine lv_istore_n (lv' := [(3, .int (nI 0)), (1, .long (-1)), (0, .ref h0)]) hx hb dX1_least_125 rfl hl (by decide) rfl (fun ls hl => ?_)
    refine lp_X1_d hx hb hml hown hts hA h0 b1 b4 b5 b6 d1 d4 d5 d6 fw g nn li w o hn16 (by omega) hfw hw31 hfo hK ?_ (li + 2) 0 _ fx (-1) H locs ls (by omega) (by omega) (tc_row_0 hn16 hg1) (tc_ans_0 _ _) hP hD hS (lv_sub hl [0, 1, 2] rfl)
    intro g2 g3 x H locs ls hans hP hD hS hl
    refine lv_lload_n hx hb dX1_least_447 rfl (lv_at hl 0 rfl) ?_
    exact W.lret (v := x) hx hb hr (fun t ht hW => ⟨⟨x, (g2, g3, g), rfl, Or.inr ⟨hc, o, hod, hans⟩, by rw [ht]; exact hP, va_K.moved hW.alike hK, hD⟩, hS.F ht⟩) hS.2.2 dX1_least_448
  · refine lv_ldc2 hx hb hown (hts _ mmX1_least_4) dX1_least_13 ?_
    exact W.lret (v := -1) hx hb hr (fun t ht hW => ⟨⟨-1, (fb, fx, fo), rfl, Or.inl ⟨hc, rfl⟩, by rw [ht]; exact hP, va_K.moved hW.alike hK, hD⟩, hS.F ht⟩) hS.2.2 dX1_least_16
end
section
/-! THE CLAIM OUT OF ONE WALK OF THE LAW'S BODY. Your part is whole_start (and what it stands on); all else here is the same for every law, but numbers. -/
def R_law : String := "TrimCodesLaw"
def lw_P (b : Addr) (xs : List Int32) (args : Array Value) (s : State) : Prop := args = #[.ref b] ∧ s.IntsAt b xs ∧ xs.length ≤ 384 ∧ (Jvm.Cond.and given_1 narrow_1).before args s = true
def lw_Q (_ : Array Value) (s : State) (o : Outcome) (t : State) : Prop := o = .returned (some (.int 1)) ∧ Framed s o t [] 10 750
def lw_Z (below : List Frame) (a : Array Value) (s : State) : State → Prop := fun t => ∃ o, t.status = .running ∧ Ended t below o ∧ lw_Q a s o t
/-- the law's own end, with 1 on the stack, nothing written that was there before, its room as the claim has it -/
theorem lw_ret {p : Program} {l : Launch} {e : Env} {s : State} {m : MethodId} {below : List Frame} {meth : Method} {c : Code} {b : Nat} (hx : p.tables.exec = Jvm.exec) (hb : c.code = code) (hr : meth.sig.returnType = ret) (hlocks : meth.locks = false) {pc : Nat} {H : Heap} {ls : Array Slot} (hdg : decode code pc = .ok (.ireturn, 1)) : W p l e room_1 s m #[Value.ref b] below meth c H [] 10 750 (lw_Z below #[Value.ref b] s) (F0 m pc ls [.int 1]) := by
  intro T hT X
  obtain ⟨fs, hret, hrun, hended, hW, hframe⟩ := X.leave (v := some (.int 1)) (hlocks := hlocks) (fun h => by rw [hr] at h; cases h)
  have hmeth' : T.vm.method? m = some meth := X.method'
  refine ⟨T.setFrames fs, ?_, .returned (some (.int 1)), hrun, hended, rfl, ⟨_, rfl⟩, hW, hframe⟩
  jvm_step X.here [X.here.top, hx, hb, hdg, hmeth', hr, ret, narrow_b1]
  (try refine ⟨rfl, ?_⟩); (try refine ⟨rfl, ?_⟩)
  first | (intro acts; rw [hret _ acts rfl rfl rfl]) | rw [hret _ _ rfl rfl rfl]
  exact Steps.refl _
/-- what holds at the law's entry: the machine, the code, the tables' words (any of lw_tbl by 'hts w (by decide +kernel)'), the script of L ints xs at the cell b, what the Statement gives of the start (any of its parts by flat_of_before) -/
def lw_At (p : Program) (s : State) (m : MethodId) (meth : Method) (c : Code) (b L : Nat) (xs : Nat → Int32) : Prop :=
  p.tables.exec = Jvm.exec ∧ c.code = code ∧ meth.sig.returnType = ret ∧ c.maxLocals = 4 ∧ s.vm.findClass R_law = some m.cls ∧ (∀ w ∈ lw_tbl, w.before #[Value.ref b] s = true) ∧ va_X b L xs s s.heap ∧ b < s.heap.size ∧ meth.locks = false ∧ (Jvm.Cond.and given_1 narrow_1).before #[Value.ref b] s = true
/-- both answers are one -/
theorem tc_final {nn li : Nat} {w : Nat → Nat} {r1 r2 : Int64} (hn2 : 2 ≤ nn) (hn16 : nn ≤ 16)
    (h1 : (2 ^ li < nn ∧ r1 = -1) ∨ (nn ≤ 2 ^ li ∧ ∃ ss C : Nat → Nat, tc_srt w ss nn ∧ tc_lev ss nn li C ∧ r1 = lN (tc_sum C (2 * nn - 2))))
    (h2 : (2 ^ li < nn ∧ r2 = -1) ∨ (nn ≤ 2 ^ li ∧ ∃ o : Nat → Nat, tc_ord w o nn ∧ tc_mo (tc_ans (fun i => w (o i)) nn (li + 1)) r2)) : r1 = r2 := by
  rcases h1 with ⟨a1, a2⟩ | ⟨a1, ss, C, a2, a3, a4⟩
  · rcases h2 with ⟨b1, b2⟩ | ⟨b1, -⟩
    · rw [a2, b2]
    · exact absurd b1 (Nat.not_le.mpr a1)
  · rcases h2 with ⟨b1, -⟩ | ⟨b1, o, b2, b3⟩
    · exact absurd a1 (Nat.not_le.mpr b1)
    · obtain ⟨g1, g2⟩ := tc_same hn2 hn16 a1 (tc_link a2 b2) a3
      rcases b3 with ⟨-, c2⟩ | ⟨c, c1, c2, c3, c4⟩
      · exact absurd g1 (c2 _)
      · have e : c = tc_sum C (2 * nn - 2) := Nat.le_antisymm (c4 _ g1) (g2 _ c3)
        rw [a4, c2, e]
theorem tn_upd {f : Nat → Int32} {w : Nat → Nat} (h : ∀ j, j < 32 → f j = nI (w j)) (k x : Nat) : ∀ j, j < 32 → upd f k (nI x) j = nI (tc_up w k x j) := by
  intro j hj
  by_cases hjk : j = k
  · subst hjk; rw [pk_us, tc_up_at]
  · rw [pk_un hjk, tc_up_ne _ _ hjk]; exact h j hj
theorem tn_upd31 {w : Nat → Nat} (h : ∀ j, w j < 2 ^ 31) (k : Nat) {x : Nat} (hx : x < 2 ^ 31) : ∀ j, tc_up w k x j < 2 ^ 31 := by
  intro j
  by_cases hjk : j = k
  · subst hjk; rw [tc_up_at]; exact hx
  · rw [tc_up_ne _ _ hjk]; exact h j
theorem tn_wt_ok {f : Nat → Int32} {w : Nat → Nat} (h : ∀ j, j < 32 → f j = nI (w j)) (h31 : ∀ j, w j < 2 ^ 31) (i a b c d : Int32) : ∃ w' : Nat → Nat, (∀ j, j < 32 → tn_wt f i a b c d j = nI (w' j)) ∧ ∀ j, w' j < 2 ^ 31 :=
  ⟨_, tn_upd (tn_upd (tn_upd (tn_upd h _ _) _ _) _ _) _ _, tn_upd31 (tn_upd31 (tn_upd31 (tn_upd31 h31 _ (tn_k_lt _)) _ (tn_k_lt _)) _ (tn_k_lt _)) _ (tn_k_lt _)⟩
theorem tn_q4 (x : Int32) : ∃ q : Nat, q < 4 ∧ x &&& nI 3 = nI q := pk_andE x 2 (by decide)
theorem tn_room6 {L i : Nat} (hL : L ≤ 384) (hi : i ≤ 400) (h : ¬ nI L - nI 6 < nI i) : i + 6 ≤ L := by
  rw [Int32.lt_iff_toInt_lt, pk_sub_toInt (by omega) (by decide), nI_toInt (by omega)] at h
  omega
theorem mmL_law_0 : Cond.instantiable RX0 6 ∈ wsL_law := by decide +kernel
theorem mmL_law_1 : Cond.instantiable RX1 6 ∈ wsL_law := by decide +kernel
theorem mmL_law_2 : Cond.classLink RL 7 RX0 ∈ wsL_law := by decide +kernel
theorem mmL_law_3 : Cond.initialized RX0 ∈ wsL_law := by decide +kernel
theorem mmL_law_4 : Cond.methodLink RL 9 yX0_init ∈ wsL_law := by decide +kernel
theorem mmL_law_5 : Cond.instanceMethod yX0_init ∈ wsL_law := by decide +kernel
theorem mmL_law_6 : Cond.classLink RL 10 RX1 ∈ wsL_law := by decide +kernel
theorem mmL_law_7 : Cond.initialized RX1 ∈ wsL_law := by decide +kernel
theorem mmL_law_8 : Cond.methodLink RL 12 yX1_init ∈ wsL_law := by decide +kernel
theorem mmL_law_9 : Cond.instanceMethod yX1_init ∈ wsL_law := by decide +kernel
set_option maxHeartbeats 4000000 in
set_option maxRecDepth 100000 in
/-- THE LAW'S LOOP: class and reference hold the same numbers and weights -/
theorem law_loop {p : Program} {l : Launch} {e : Env} {s : State} {m : MethodId} {below : List Frame} {meth : Method} {c : Code} {dC : Nat → ClassId} {dI : Nat → Nat → Nat} {b L : Nat} {xs : Nat → Int32} (hL : L ≤ 384) (C0 : lw_At p s m meth c b L xs) (h0 a1 a3 a4 a5 g0 b1 b4 b5 b6 : Nat) (c1 c3 c4 c5 d1 d4 d5 d6 : ClassId) (hK : va_K (dC, dI) vwCl [(c1, .int), (c3, .long), (c4, .long), (c5, .long), (d1, .int), (d4, .long), (d5, .long), (d6, .int)] s) :
    ∀ (fu i nn li : Nat) (w : Nat → Nat) (fw : Nat → Int32) (fs fc fp fb fx : Nat → Int64) (fo : Nat → Int32) (H : Heap) (locs : List Loc) (ls : Array Slot), L + 6 - i < fu → i ≤ L + 5 → 2 ≤ nn → nn ≤ 16 → li < 16 → (∀ j, j < 32 → fw j = nI (w j)) → (∀ j, w j < 2 ^ 31) → va_P (dC, dI) vwCl [(h0, .inr (0, [.ref a1, .int (nI nn), .int (nI li), .ref a3, .ref a4, .ref a5])), (a1, .inl (c1, 32, .inl fw)), (a3, .inl (c3, 16, .inr (.inl fs))), (a4, .inl (c4, 32, .inr (.inl fc))), (a5, .inl (c5, 16, .inr (.inl fp))), (g0, .inr (1, [.ref b1, .int (nI nn), .int (nI li), .ref b4, .ref b5, .ref b6])), (b1, .inl (d1, 32, .inl fw)), (b4, .inl (d4, 289, .inr (.inl fb))), (b5, .inl (d5, 289, .inr (.inl fx))), (b6, .inl (d6, 32, .inl fo))] H → va_D (fun q : Nat => s.heap.size ≤ q) [(h0, .inr (0, [.ref a1, .int (nI nn), .int (nI li), .ref a3, .ref a4, .ref a5])), (a1, .inl (c1, 32, .inl fw)), (a3, .inl (c3, 16, .inr (.inl fs))), (a4, .inl (c4, 32, .inr (.inl fc))), (a5, .inl (c5, 16, .inr (.inl fp))), (g0, .inr (1, [.ref b1, .int (nI nn), .int (nI li), .ref b4, .ref b5, .ref b6])), (b1, .inl (d1, 32, .inl fw)), (b4, .inl (d4, 289, .inr (.inl fb))), (b5, .inl (d5, 289, .inr (.inl fx))), (b6, .inl (d6, 32, .inl fo))] → va_S (fun q : Nat => s.heap.size ≤ q) s.heap H locs → lv_has ls 4 [(3, .int (nI i)), (0, .ref b), (1, .ref h0), (2, .ref g0)] → W p l e room_1 s m #[Value.ref b] below meth c H locs 10 750 (lw_Z below #[Value.ref b] s) (F0 m 18 ls []) := by
  obtain ⟨hx, hb, hr, hml, hown, hts0, hX, hbl, hlocks, hgv⟩ := C0
  have hts : ∀ w ∈ wsL_law, w.before #[Value.ref b] s = true := fun w h => hts0 w (wsL_law_in w h)
  have hA : ∀ q : Nat, s.heap.size ≤ q → (fun q : Nat => s.heap.size ≤ q) q := fun _ h => h
  have hbA : ¬ (fun q : Nat => s.heap.size ≤ q) b := Nat.not_le.mpr hbl
  intro fu
  induction fu with
  | zero =>
    intro i nn li w fw fs fc fp fb fx fo H locs ls hfu
    exact absurd hfu (Nat.not_lt_zero _)
  | succ fu ih =>
    intro i nn li w fw fs fc fp fb fx fo H locs ls hfu hi hn2 hn16 hli hfw hw31 hP hD hS hl
    refine lv_iload_n hx hb dL_law_18 rfl (lv_at hl 0 rfl) ?_
    refine lv_aload_n hx hb dL_law_19 rfl (lv_at hl 1 rfl) ?_
    refine va_slen hx hb hX hbl hbA hS dL_law_20 ?_
    refine lv_bipush (v := nI 6) hx hb dL_law_21 (by decide) ?_
    refine lv_isub hx hb dL_law_23 ?_
    refine tw_i (nI L - nI 6) (rfl) ?_
    refine lv_icmp_gt (tgt := 187) hx hb dL_law_24 (by decide) (fun hc => ?_) (fun hc => ?_)
    · refine lv_iconst (v := 1) hx hb dL_law_187 (by decide) ?_
      refine va_forget (fun q hq => hS.2.2 q hq) ?_
      exact lw_ret hx hb hr hlocks dL_law_188
    · have hroom : i + 6 ≤ L := tn_room6 hL (by omega) hc
      refine lv_aload_n hx hb dL_law_27 rfl (lv_at hl 1 rfl) ?_
      refine lv_iload_n hx hb dL_law_28 rfl (lv_at hl 0 rfl) ?_
      refine va_sld hx hb hX hbl hbA hS (vp_in_nI (show i < L by omega) (by omega)) dL_law_29 ?_
      refine tw_i (xs i) (congrArg xs (tn_cl (by omega))) ?_
      refine lv_iconst (v := nI 3) hx hb dL_law_30 (by decide) ?_
      obtain ⟨q, hq4, eq4⟩ := tn_q4 (xs i)
      refine lv_iand hx hb dL_law_31 ?_
      refine tw_i (nI q) (eq4) ?_
      rcases (show q = 0 ∨ q = 1 ∨ q = 2 ∨ q = 3 by omega) with rfl | rfl | rfl | rfl
      · refine lv_tableIn hx hb (off := 32) (tgt := 64) dL_law_32 (by decide) (by decide) (by decide) (by decide) ?_
        refine lv_aload_n hx hb dL_law_64 rfl (lv_at hl 2 rfl) ?_
        refine lv_aload_n hx hb dL_law_65 rfl (lv_at hl 1 rfl) ?_
        refine lv_iload_n hx hb dL_law_66 rfl (lv_at hl 0 rfl) ?_
        refine lv_iconst (v := nI 1) hx hb dL_law_67 (by decide) ?_
        refine lv_iadd hx hb dL_law_68 ?_
        refine tw_i (nI (i + 1)) (nI_add _ _) ?_
        refine va_sld hx hb hX hbl hbA hS (vp_in_nI (show i + 1 < L by omega) (by omega)) dL_law_69 ?_
        refine tw_i (xs (i + 1)) (congrArg xs (tn_cl (by omega))) ?_
        have hPc := hP.sub (ws' := [(h0, .inr (0, [.ref a1, .int (nI nn), .int (nI li), .ref a3, .ref a4, .ref a5])), (a1, .inl (c1, 32, .inl fw)), (a3, .inl (c3, 16, .inr (.inl fs))), (a4, .inl (c4, 32, .inr (.inl fc))), (a5, .inl (c5, 16, .inr (.inl fp)))]) [0, 1, 2, 3, 4] rfl
        have hDc := hD.sub (ws' := [(h0, .inr (0, [.ref a1, .int (nI nn), .int (nI li), .ref a3, .ref a4, .ref a5])), (a1, .inl (c1, 32, .inl fw)), (a3, .inl (c3, 16, .inr (.inl fs))), (a4, .inl (c4, 32, .inr (.inl fc))), (a5, .inl (c5, 16, .inr (.inl fp)))]) [0, 1, 2, 3, 4] (by decide) rfl
        have hKc := hK.sub (tys' := [(c1, .int), (c3, .long), (c4, .long), (c5, .long)]) [0, 1, 2, 3] rfl
        have hFc := va_free (wc := [(h0, .inr (0, [.ref a1, .int (nI nn), .int (nI li), .ref a3, .ref a4, .ref a5])), (a1, .inl (c1, 32, .inl fw)), (a3, .inl (c3, 16, .inr (.inl fs))), (a4, .inl (c4, 32, .inr (.inl fc))), (a5, .inl (c5, 16, .inr (.inl fp)))]) hD hS hA [0, 1, 2, 3, 4] rfl
        refine va_callv (va_runV (As := [.int (xs (i + 1))]) (rest := []) ⟨hx, hb, hml, hown, hts⟩ (c_X0_letters l dC dI h0 a1 a3 a4 a5 c1 c3 c4 c5 (nI nn) (nI li) fw fs fc fp H.size (xs (i + 1))) (cwV 1 hts gL_law_X0_letters rfl rfl rfl (by decide +kernel) ⟨Nat.le_of_ble_eq_true rfl, Nat.le_of_ble_eq_true rfl⟩) ⟨fun a U g mk q => by obtain ⟨q0, q1, qP, qK, qD⟩ := q; exact ⟨q0, q1, qP, va_K.moved (u := U) (U := U.calling g mk a) (Vm.Alike.refl U.vm) qK, qD⟩, va_recv hKc hPc (ci := 0) (q0 := 0) rfl rfl, fun U hU hW => ⟨rfl, by rw [hU], by rw [hU]; exact hPc, va_K.moved hW.alike hKc, hDc.weaken (fun _ _ _ _ => trivial)⟩⟩ rfl rfl hl.1 rfl (lv_room (Nat.le_of_ble_eq_true rfl)) dL_law_70 ⟨Nat.le_of_ble_eq_true rfl, Nat.le_of_ble_eq_true rfl⟩) hS (fun q _ h => hFc q h) hFc (fun u t H1 locs ht hvm hw hB hz1 hk1 hS => ?_)
        subst hw
        obtain ⟨hP1, hK1, hD1⟩ := hB
        rw [ht] at hP1
        have hK1 := va_K.moved hvm.symm hK1
        obtain ⟨hP, hD⟩ := va_join (wr := [(g0, .inr (1, [.ref b1, .int (nI nn), .int (nI li), .ref b4, .ref b5, .ref b6])), (b1, .inl (d1, 32, .inl fw)), (b4, .inl (d4, 289, .inr (.inl fb))), (b5, .inl (d5, 289, .inr (.inl fx))), (b6, .inl (d6, 32, .inl fo))]) (w1 := [(h0, .inr (0, [.ref a1, .int (nI (2 + tn_k (xs (i + 1)) % 15)), .int (nI li), .ref a3, .ref a4, .ref a5])), (a1, .inl (c1, 32, .inl fw)), (a3, .inl (c3, 16, .inr (.inl fs))), (a4, .inl (c4, 32, .inr (.inl fc))), (a5, .inl (c5, 16, .inr (.inl fp)))]) hP hD [0, 1, 2, 3, 4] [5, 6, 7, 8, 9] rfl rfl (by decide) (by decide) hk1 hFc hP1 hD1
        generalize H1 = H at hP hS ⊢
        have hP := hP.sub (ws' := [(h0, .inr (0, [.ref a1, .int (nI (2 + tn_k (xs (i + 1)) % 15)), .int (nI li), .ref a3, .ref a4, .ref a5])), (a1, .inl (c1, 32, .inl fw)), (a3, .inl (c3, 16, .inr (.inl fs))), (a4, .inl (c4, 32, .inr (.inl fc))), (a5, .inl (c5, 16, .inr (.inl fp))), (g0, .inr (1, [.ref b1, .int (nI nn), .int (nI li), .ref b4, .ref b5, .ref b6])), (b1, .inl (d1, 32, .inl fw)), (b4, .inl (d4, 289, .inr (.inl fb))), (b5, .inl (d5, 289, .inr (.inl fx))), (b6, .inl (d6, 32, .inl fo))]) [5, 6, 7, 8, 9, 0, 1, 2, 3, 4] rfl
        have hD := hD.sub (ws' := [(h0, .inr (0, [.ref a1, .int (nI (2 + tn_k (xs (i + 1)) % 15)), .int (nI li), .ref a3, .ref a4, .ref a5])), (a1, .inl (c1, 32, .inl fw)), (a3, .inl (c3, 16, .inr (.inl fs))), (a4, .inl (c4, 32, .inr (.inl fc))), (a5, .inl (c5, 16, .inr (.inl fp))), (g0, .inr (1, [.ref b1, .int (nI nn), .int (nI li), .ref b4, .ref b5, .ref b6])), (b1, .inl (d1, 32, .inl fw)), (b4, .inl (d4, 289, .inr (.inl fb))), (b5, .inl (d5, 289, .inr (.inl fx))), (b6, .inl (d6, 32, .inl fo))]) [5, 6, 7, 8, 9, 0, 1, 2, 3, 4] (by decide) rfl
        refine lv_aload_n hx hb dL_law_73 rfl (lv_at hl 3 rfl) ?_
        refine lv_aload_n hx hb dL_law_74 rfl (lv_at hl 1 rfl) ?_
        refine lv_iload_n hx hb dL_law_75 rfl (lv_at hl 0 rfl) ?_
        refine lv_iconst (v := nI 1) hx hb dL_law_76 (by decide) ?_
        refine lv_iadd hx hb dL_law_77 ?_
        refine tw_i (nI (i + 1)) (nI_add _ _) ?_
        refine va_sld hx hb hX hbl hbA hS (vp_in_nI (show i + 1 < L by omega) (by omega)) dL_law_78 ?_
        refine tw_i (xs (i + 1)) (congrArg xs (tn_cl (by omega))) ?_
        have hPc := hP.sub (ws' := [(g0, .inr (1, [.ref b1, .int (nI nn), .int (nI li), .ref b4, .ref b5, .ref b6])), (b1, .inl (d1, 32, .inl fw)), (b4, .inl (d4, 289, .inr (.inl fb))), (b5, .inl (d5, 289, .inr (.inl fx))), (b6, .inl (d6, 32, .inl fo))]) [5, 6, 7, 8, 9] rfl
        have hDc := hD.sub (ws' := [(g0, .inr (1, [.ref b1, .int (nI nn), .int (nI li), .ref b4, .ref b5, .ref b6])), (b1, .inl (d1, 32, .inl fw)), (b4, .inl (d4, 289, .inr (.inl fb))), (b5, .inl (d5, 289, .inr (.inl fx))), (b6, .inl (d6, 32, .inl fo))]) [5, 6, 7, 8, 9] (by decide) rfl
        have hKc := hK.sub (tys' := [(d1, .int), (d4, .long), (d5, .long), (d6, .int)]) [4, 5, 6, 7] rfl
        have hFc := va_free (wc := [(g0, .inr (1, [.ref b1, .int (nI nn), .int (nI li), .ref b4, .ref b5, .ref b6])), (b1, .inl (d1, 32, .inl fw)), (b4, .inl (d4, 289, .inr (.inl fb))), (b5, .inl (d5, 289, .inr (.inl fx))), (b6, .inl (d6, 32, .inl fo))]) hD hS hA [5, 6, 7, 8, 9] rfl
        refine va_callv (va_runV (As := [.int (xs (i + 1))]) (rest := []) ⟨hx, hb, hml, hown, hts⟩ (c_X1_letters l dC dI g0 b1 b4 b5 b6 d1 d4 d5 d6 (nI nn) (nI li) fw fb fx fo H.size (xs (i + 1))) (cwV 1 hts gL_law_X1_letters rfl rfl rfl (by decide +kernel) ⟨Nat.le_of_ble_eq_true rfl, Nat.le_of_ble_eq_true rfl⟩) ⟨fun a U g mk q => by obtain ⟨q0, q1, qP, qK, qD⟩ := q; exact ⟨q0, q1, qP, va_K.moved (u := U) (U := U.calling g mk a) (Vm.Alike.refl U.vm) qK, qD⟩, va_recv hKc hPc (ci := 1) (q0 := 0) rfl rfl, fun U hU hW => ⟨rfl, by rw [hU], by rw [hU]; exact hPc, va_K.moved hW.alike hKc, hDc.weaken (fun _ _ _ _ => trivial)⟩⟩ rfl rfl hl.1 rfl (lv_room (Nat.le_of_ble_eq_true rfl)) dL_law_79 ⟨Nat.le_of_ble_eq_true rfl, Nat.le_of_ble_eq_true rfl⟩) hS (fun q _ h => hFc q h) hFc (fun u t H1 locs ht hvm hw hB hz1 hk1 hS => ?_)
        subst hw
        obtain ⟨hP1, hK1, hD1⟩ := hB
        rw [ht] at hP1
        have hK1 := va_K.moved hvm.symm hK1
        obtain ⟨hP, hD⟩ := va_join (wr := [(h0, .inr (0, [.ref a1, .int (nI (2 + tn_k (xs (i + 1)) % 15)), .int (nI li), .ref a3, .ref a4, .ref a5])), (a1, .inl (c1, 32, .inl fw)), (a3, .inl (c3, 16, .inr (.inl fs))), (a4, .inl (c4, 32, .inr (.inl fc))), (a5, .inl (c5, 16, .inr (.inl fp)))]) (w1 := [(g0, .inr (1, [.ref b1, .int (nI (2 + tn_k (xs (i + 1)) % 15)), .int (nI li), .ref b4, .ref b5, .ref b6])), (b1, .inl (d1, 32, .inl fw)), (b4, .inl (d4, 289, .inr (.inl fb))), (b5, .inl (d5, 289, .inr (.inl fx))), (b6, .inl (d6, 32, .inl fo))]) hP hD [5, 6, 7, 8, 9] [0, 1, 2, 3, 4] rfl rfl (by decide) (by decide) hk1 hFc hP1 hD1
        generalize H1 = H at hP hS ⊢
        have hP : va_P (dC, dI) vwCl [(h0, .inr (0, [.ref a1, .int (nI (2 + tn_k (xs (i + 1)) % 15)), .int (nI li), .ref a3, .ref a4, .ref a5])), (a1, .inl (c1, 32, .inl fw)), (a3, .inl (c3, 16, .inr (.inl fs))), (a4, .inl (c4, 32, .inr (.inl fc))), (a5, .inl (c5, 16, .inr (.inl fp))), (g0, .inr (1, [.ref b1, .int (nI (2 + tn_k (xs (i + 1)) % 15)), .int (nI li), .ref b4, .ref b5, .ref b6])), (b1, .inl (d1, 32, .inl fw)), (b4, .inl (d4, 289, .inr (.inl fb))), (b5, .inl (d5, 289, .inr (.inl fx))), (b6, .inl (d6, 32, .inl fo))] H := hP
        have hD : va_D (fun q : Nat => s.heap.size ≤ q) [(h0, .inr (0, [.ref a1, .int (nI (2 + tn_k (xs (i + 1)) % 15)), .int (nI li), .ref a3, .ref a4, .ref a5])), (a1, .inl (c1, 32, .inl fw)), (a3, .inl (c3, 16, .inr (.inl fs))), (a4, .inl (c4, 32, .inr (.inl fc))), (a5, .inl (c5, 16, .inr (.inl fp))), (g0, .inr (1, [.ref b1, .int (nI (2 + tn_k (xs (i + 1)) % 15)), .int (nI li), .ref b4, .ref b5, .ref b6])), (b1, .inl (d1, 32, .inl fw)), (b4, .inl (d4, 289, .inr (.inl fb))), (b5, .inl (d5, 289, .inr (.inl fx))), (b6, .inl (d6, 32, .inl fo))] := hD
        refine lv_goto (tgt := 181) hx hb dL_law_82 (by decide) ?_
        have hrem : tn_k (xs (i + 1)) % 15 < 15 := Nat.mod_lt _ (by decide)
        refine lv_iinc (v := nI (i + 6)) (lv' := [(3, .int (nI (i + 6))), (0, .ref b), (1, .ref h0), (2, .ref g0)]) hx hb dL_law_181 hl (k := 0) rfl (tn_p6 _) (by decide) rfl (fun ls hl => ?_)
        refine lv_goto (tgt := 18) hx hb dL_law_184 (by decide) ?_
        exact ih (i + 6) (2 + tn_k (xs (i + 1)) % 15) li w fw fs fc fp fb fx fo H locs ls (by omega) (by omega) (by omega) (by omega) hli hfw hw31 hP hD hS (lv_sub hl [0, 1, 2, 3] rfl)
      · refine lv_tableIn hx hb (off := 53) (tgt := 85) dL_law_32 (by decide) (by decide) (by decide) (by decide) ?_
        refine lv_aload_n hx hb dL_law_85 rfl (lv_at hl 2 rfl) ?_
        refine lv_aload_n hx hb dL_law_86 rfl (lv_at hl 1 rfl) ?_
        refine lv_iload_n hx hb dL_law_87 rfl (lv_at hl 0 rfl) ?_
        refine lv_iconst (v := nI 1) hx hb dL_law_88 (by decide) ?_
        refine lv_iadd hx hb dL_law_89 ?_
        refine tw_i (nI (i + 1)) (nI_add _ _) ?_
        refine va_sld hx hb hX hbl hbA hS (vp_in_nI (show i + 1 < L by omega) (by omega)) dL_law_90 ?_
        refine tw_i (xs (i + 1)) (congrArg xs (tn_cl (by omega))) ?_
        have hPc := hP.sub (ws' := [(h0, .inr (0, [.ref a1, .int (nI nn), .int (nI li), .ref a3, .ref a4, .ref a5])), (a1, .inl (c1, 32, .inl fw)), (a3, .inl (c3, 16, .inr (.inl fs))), (a4, .inl (c4, 32, .inr (.inl fc))), (a5, .inl (c5, 16, .inr (.inl fp)))]) [0, 1, 2, 3, 4] rfl
        have hDc := hD.sub (ws' := [(h0, .inr (0, [.ref a1, .int (nI nn), .int (nI li), .ref a3, .ref a4, .ref a5])), (a1, .inl (c1, 32, .inl fw)), (a3, .inl (c3, 16, .inr (.inl fs))), (a4, .inl (c4, 32, .inr (.inl fc))), (a5, .inl (c5, 16, .inr (.inl fp)))]) [0, 1, 2, 3, 4] (by decide) rfl
        have hKc := hK.sub (tys' := [(c1, .int), (c3, .long), (c4, .long), (c5, .long)]) [0, 1, 2, 3] rfl
        have hFc := va_free (wc := [(h0, .inr (0, [.ref a1, .int (nI nn), .int (nI li), .ref a3, .ref a4, .ref a5])), (a1, .inl (c1, 32, .inl fw)), (a3, .inl (c3, 16, .inr (.inl fs))), (a4, .inl (c4, 32, .inr (.inl fc))), (a5, .inl (c5, 16, .inr (.inl fp)))]) hD hS hA [0, 1, 2, 3, 4] rfl
        refine va_callv (va_runV (As := [.int (xs (i + 1))]) (rest := []) ⟨hx, hb, hml, hown, hts⟩ (c_X0_limit l dC dI h0 a1 a3 a4 a5 c1 c3 c4 c5 (nI nn) (nI li) fw fs fc fp H.size (xs (i + 1))) (cwV 1 hts gL_law_X0_limit rfl rfl rfl (by decide +kernel) ⟨Nat.le_of_ble_eq_true rfl, Nat.le_of_ble_eq_true rfl⟩) ⟨fun a U g mk q => by obtain ⟨q0, q1, qP, qK, qD⟩ := q; exact ⟨q0, q1, qP, va_K.moved (u := U) (U := U.calling g mk a) (Vm.Alike.refl U.vm) qK, qD⟩, va_recv hKc hPc (ci := 0) (q0 := 0) rfl rfl, fun U hU hW => ⟨rfl, by rw [hU], by rw [hU]; exact hPc, va_K.moved hW.alike hKc, hDc.weaken (fun _ _ _ _ => trivial)⟩⟩ rfl rfl hl.1 rfl (lv_room (Nat.le_of_ble_eq_true rfl)) dL_law_91 ⟨Nat.le_of_ble_eq_true rfl, Nat.le_of_ble_eq_true rfl⟩) hS (fun q _ h => hFc q h) hFc (fun u t H1 locs ht hvm hw hB hz1 hk1 hS => ?_)
        subst hw
        obtain ⟨hP1, hK1, hD1⟩ := hB
        rw [ht] at hP1
        have hK1 := va_K.moved hvm.symm hK1
        obtain ⟨hP, hD⟩ := va_join (wr := [(g0, .inr (1, [.ref b1, .int (nI nn), .int (nI li), .ref b4, .ref b5, .ref b6])), (b1, .inl (d1, 32, .inl fw)), (b4, .inl (d4, 289, .inr (.inl fb))), (b5, .inl (d5, 289, .inr (.inl fx))), (b6, .inl (d6, 32, .inl fo))]) (w1 := [(h0, .inr (0, [.ref a1, .int (nI nn), .int (nI (tn_k (xs (i + 1)) % 16)), .ref a3, .ref a4, .ref a5])), (a1, .inl (c1, 32, .inl fw)), (a3, .inl (c3, 16, .inr (.inl fs))), (a4, .inl (c4, 32, .inr (.inl fc))), (a5, .inl (c5, 16, .inr (.inl fp)))]) hP hD [0, 1, 2, 3, 4] [5, 6, 7, 8, 9] rfl rfl (by decide) (by decide) hk1 hFc hP1 hD1
        generalize H1 = H at hP hS ⊢
        have hP := hP.sub (ws' := [(h0, .inr (0, [.ref a1, .int (nI nn), .int (nI (tn_k (xs (i + 1)) % 16)), .ref a3, .ref a4, .ref a5])), (a1, .inl (c1, 32, .inl fw)), (a3, .inl (c3, 16, .inr (.inl fs))), (a4, .inl (c4, 32, .inr (.inl fc))), (a5, .inl (c5, 16, .inr (.inl fp))), (g0, .inr (1, [.ref b1, .int (nI nn), .int (nI li), .ref b4, .ref b5, .ref b6])), (b1, .inl (d1, 32, .inl fw)), (b4, .inl (d4, 289, .inr (.inl fb))), (b5, .inl (d5, 289, .inr (.inl fx))), (b6, .inl (d6, 32, .inl fo))]) [5, 6, 7, 8, 9, 0, 1, 2, 3, 4] rfl
        have hD := hD.sub (ws' := [(h0, .inr (0, [.ref a1, .int (nI nn), .int (nI (tn_k (xs (i + 1)) % 16)), .ref a3, .ref a4, .ref a5])), (a1, .inl (c1, 32, .inl fw)), (a3, .inl (c3, 16, .inr (.inl fs))), (a4, .inl (c4, 32, .inr (.inl fc))), (a5, .inl (c5, 16, .inr (.inl fp))), (g0, .inr (1, [.ref b1, .int (nI nn), .int (nI li), .ref b4, .ref b5, .ref b6])), (b1, .inl (d1, 32, .inl fw)), (b4, .inl (d4, 289, .inr (.inl fb))), (b5, .inl (d5, 289, .inr (.inl fx))), (b6, .inl (d6, 32, .inl fo))]) [5, 6, 7, 8, 9, 0, 1, 2, 3, 4] (by decide) rfl
        refine lv_aload_n hx hb dL_law_94 rfl (lv_at hl 3 rfl) ?_
        refine lv_aload_n hx hb dL_law_95 rfl (lv_at hl 1 rfl) ?_
        refine lv_iload_n hx hb dL_law_96 rfl (lv_at hl 0 rfl) ?_
        refine lv_iconst (v := nI 1) hx hb dL_law_97 (by decide) ?_
        refine lv_iadd hx hb dL_law_98 ?_
        refine tw_i (nI (i + 1)) (nI_add _ _) ?_
        refine va_sld hx hb hX hbl hbA hS (vp_in_nI (show i + 1 < L by omega) (by omega)) dL_law_99 ?_
        refine tw_i (xs (i + 1)) (congrArg xs (tn_cl (by omega))) ?_
        have hPc := hP.sub (ws' := [(g0, .inr (1, [.ref b1, .int (nI nn), .int (nI li), .ref b4, .ref b5, .ref b6])), (b1, .inl (d1, 32, .inl fw)), (b4, .inl (d4, 289, .inr (.inl fb))), (b5, .inl (d5, 289, .inr (.inl fx))), (b6, .inl (d6, 32, .inl fo))]) [5, 6, 7, 8, 9] rfl
        have hDc := hD.sub (ws' := [(g0, .inr (1, [.ref b1, .int (nI nn), .int (nI li), .ref b4, .ref b5, .ref b6])), (b1, .inl (d1, 32, .inl fw)), (b4, .inl (d4, 289, .inr (.inl fb))), (b5, .inl (d5, 289, .inr (.inl fx))), (b6, .inl (d6, 32, .inl fo))]) [5, 6, 7, 8, 9] (by decide) rfl
        have hKc := hK.sub (tys' := [(d1, .int), (d4, .long), (d5, .long), (d6, .int)]) [4, 5, 6, 7] rfl
        have hFc := va_free (wc := [(g0, .inr (1, [.ref b1, .int (nI nn), .int (nI li), .ref b4, .ref b5, .ref b6])), (b1, .inl (d1, 32, .inl fw)), (b4, .inl (d4, 289, .inr (.inl fb))), (b5, .inl (d5, 289, .inr (.inl fx))), (b6, .inl (d6, 32, .inl fo))]) hD hS hA [5, 6, 7, 8, 9] rfl
        refine va_callv (va_runV (As := [.int (xs (i + 1))]) (rest := []) ⟨hx, hb, hml, hown, hts⟩ (c_X1_limit l dC dI g0 b1 b4 b5 b6 d1 d4 d5 d6 (nI nn) (nI li) fw fb fx fo H.size (xs (i + 1))) (cwV 1 hts gL_law_X1_limit rfl rfl rfl (by decide +kernel) ⟨Nat.le_of_ble_eq_true rfl, Nat.le_of_ble_eq_true rfl⟩) ⟨fun a U g mk q => by obtain ⟨q0, q1, qP, qK, qD⟩ := q; exact ⟨q0, q1, qP, va_K.moved (u := U) (U := U.calling g mk a) (Vm.Alike.refl U.vm) qK, qD⟩, va_recv hKc hPc (ci := 1) (q0 := 0) rfl rfl, fun U hU hW => ⟨rfl, by rw [hU], by rw [hU]; exact hPc, va_K.moved hW.alike hKc, hDc.weaken (fun _ _ _ _ => trivial)⟩⟩ rfl rfl hl.1 rfl (lv_room (Nat.le_of_ble_eq_true rfl)) dL_law_100 ⟨Nat.le_of_ble_eq_true rfl, Nat.le_of_ble_eq_true rfl⟩) hS (fun q _ h => hFc q h) hFc (fun u t H1 locs ht hvm hw hB hz1 hk1 hS => ?_)
        subst hw
        obtain ⟨hP1, hK1, hD1⟩ := hB
        rw [ht] at hP1
        have hK1 := va_K.moved hvm.symm hK1
        obtain ⟨hP, hD⟩ := va_join (wr := [(h0, .inr (0, [.ref a1, .int (nI nn), .int (nI (tn_k (xs (i + 1)) % 16)), .ref a3, .ref a4, .ref a5])), (a1, .inl (c1, 32, .inl fw)), (a3, .inl (c3, 16, .inr (.inl fs))), (a4, .inl (c4, 32, .inr (.inl fc))), (a5, .inl (c5, 16, .inr (.inl fp)))]) (w1 := [(g0, .inr (1, [.ref b1, .int (nI nn), .int (nI (tn_k (xs (i + 1)) % 16)), .ref b4, .ref b5, .ref b6])), (b1, .inl (d1, 32, .inl fw)), (b4, .inl (d4, 289, .inr (.inl fb))), (b5, .inl (d5, 289, .inr (.inl fx))), (b6, .inl (d6, 32, .inl fo))]) hP hD [5, 6, 7, 8, 9] [0, 1, 2, 3, 4] rfl rfl (by decide) (by decide) hk1 hFc hP1 hD1
        generalize H1 = H at hP hS ⊢
        have hP : va_P (dC, dI) vwCl [(h0, .inr (0, [.ref a1, .int (nI nn), .int (nI (tn_k (xs (i + 1)) % 16)), .ref a3, .ref a4, .ref a5])), (a1, .inl (c1, 32, .inl fw)), (a3, .inl (c3, 16, .inr (.inl fs))), (a4, .inl (c4, 32, .inr (.inl fc))), (a5, .inl (c5, 16, .inr (.inl fp))), (g0, .inr (1, [.ref b1, .int (nI nn), .int (nI (tn_k (xs (i + 1)) % 16)), .ref b4, .ref b5, .ref b6])), (b1, .inl (d1, 32, .inl fw)), (b4, .inl (d4, 289, .inr (.inl fb))), (b5, .inl (d5, 289, .inr (.inl fx))), (b6, .inl (d6, 32, .inl fo))] H := hP
        have hD : va_D (fun q : Nat => s.heap.size ≤ q) [(h0, .inr (0, [.ref a1, .int (nI nn), .int (nI (tn_k (xs (i + 1)) % 16)), .ref a3, .ref a4, .ref a5])), (a1, .inl (c1, 32, .inl fw)), (a3, .inl (c3, 16, .inr (.inl fs))), (a4, .inl (c4, 32, .inr (.inl fc))), (a5, .inl (c5, 16, .inr (.inl fp))), (g0, .inr (1, [.ref b1, .int (nI nn), .int (nI (tn_k (xs (i + 1)) % 16)), .ref b4, .ref b5, .ref b6])), (b1, .inl (d1, 32, .inl fw)), (b4, .inl (d4, 289, .inr (.inl fb))), (b5, .inl (d5, 289, .inr (.inl fx))), (b6, .inl (d6, 32, .inl fo))] := hD
        refine lv_goto (tgt := 181) hx hb dL_law_103 (by decide) ?_
        refine lv_iinc (v := nI (i + 6)) (lv' := [(3, .int (nI (i + 6))), (0, .ref b), (1, .ref h0), (2, .ref g0)]) hx hb dL_law_181 hl (k := 0) rfl (tn_p6 _) (by decide) rfl (fun ls hl => ?_)
        refine lv_goto (tgt := 18) hx hb dL_law_184 (by decide) ?_
        exact ih (i + 6) nn (tn_k (xs (i + 1)) % 16) w fw fs fc fp fb fx fo H locs ls (by omega) (by omega) hn2 hn16 (Nat.mod_lt _ (by decide)) hfw hw31 hP hD hS (lv_sub hl [0, 1, 2, 3] rfl)
      · refine lv_tableIn hx hb (off := 74) (tgt := 106) dL_law_32 (by decide) (by decide) (by decide) (by decide) ?_
        refine lv_aload_n hx hb dL_law_106 rfl (lv_at hl 2 rfl) ?_
        refine lv_aload_n hx hb dL_law_107 rfl (lv_at hl 1 rfl) ?_
        refine lv_iload_n hx hb dL_law_108 rfl (lv_at hl 0 rfl) ?_
        refine lv_iconst (v := nI 1) hx hb dL_law_109 (by decide) ?_
        refine lv_iadd hx hb dL_law_110 ?_
        refine tw_i (nI (i + 1)) (nI_add _ _) ?_
        refine va_sld hx hb hX hbl hbA hS (vp_in_nI (show i + 1 < L by omega) (by omega)) dL_law_111 ?_
        refine tw_i (xs (i + 1)) (congrArg xs (tn_cl (by omega))) ?_
        refine lv_aload_n hx hb dL_law_112 rfl (lv_at hl 1 rfl) ?_
        refine lv_iload_n hx hb dL_law_113 rfl (lv_at hl 0 rfl) ?_
        refine lv_iconst (v := nI 2) hx hb dL_law_114 (by decide) ?_
        refine lv_iadd hx hb dL_law_115 ?_
        refine tw_i (nI (i + 2)) (nI_add _ _) ?_
        refine va_sld hx hb hX hbl hbA hS (vp_in_nI (show i + 2 < L by omega) (by omega)) dL_law_116 ?_
        refine tw_i (xs (i + 2)) (congrArg xs (tn_cl (by omega))) ?_
        refine lv_aload_n hx hb dL_law_117 rfl (lv_at hl 1 rfl) ?_
        refine lv_iload_n hx hb dL_law_118 rfl (lv_at hl 0 rfl) ?_
        refine lv_iconst (v := nI 3) hx hb dL_law_119 (by decide) ?_
        refine lv_iadd hx hb dL_law_120 ?_
        refine tw_i (nI (i + 3)) (nI_add _ _) ?_
        refine va_sld hx hb hX hbl hbA hS (vp_in_nI (show i + 3 < L by omega) (by omega)) dL_law_121 ?_
        refine tw_i (xs (i + 3)) (congrArg xs (tn_cl (by omega))) ?_
        refine lv_aload_n hx hb dL_law_122 rfl (lv_at hl 1 rfl) ?_
        refine lv_iload_n hx hb dL_law_123 rfl (lv_at hl 0 rfl) ?_
        refine lv_iconst (v := nI 4) hx hb dL_law_124 (by decide) ?_
        refine lv_iadd hx hb dL_law_125 ?_
        refine tw_i (nI (i + 4)) (nI_add _ _) ?_
        refine va_sld hx hb hX hbl hbA hS (vp_in_nI (show i + 4 < L by omega) (by omega)) dL_law_126 ?_
        refine tw_i (xs (i + 4)) (congrArg xs (tn_cl (by omega))) ?_
        refine lv_aload_n hx hb dL_law_127 rfl (lv_at hl 1 rfl) ?_
        refine lv_iload_n hx hb dL_law_128 rfl (lv_at hl 0 rfl) ?_
        refine lv_iconst (v := nI 5) hx hb dL_law_129 (by decide) ?_
        refine lv_iadd hx hb dL_law_130 ?_
        refine tw_i (nI (i + 5)) (nI_add _ _) ?_
        refine va_sld hx hb hX hbl hbA hS (vp_in_nI (show i + 5 < L by omega) (by omega)) dL_law_131 ?_
        refine tw_i (xs (i + 5)) (congrArg xs (tn_cl (by omega))) ?_
        have hPc := hP.sub (ws' := [(h0, .inr (0, [.ref a1, .int (nI nn), .int (nI li), .ref a3, .ref a4, .ref a5])), (a1, .inl (c1, 32, .inl fw)), (a3, .inl (c3, 16, .inr (.inl fs))), (a4, .inl (c4, 32, .inr (.inl fc))), (a5, .inl (c5, 16, .inr (.inl fp)))]) [0, 1, 2, 3, 4] rfl
        have hDc := hD.sub (ws' := [(h0, .inr (0, [.ref a1, .int (nI nn), .int (nI li), .ref a3, .ref a4, .ref a5])), (a1, .inl (c1, 32, .inl fw)), (a3, .inl (c3, 16, .inr (.inl fs))), (a4, .inl (c4, 32, .inr (.inl fc))), (a5, .inl (c5, 16, .inr (.inl fp)))]) [0, 1, 2, 3, 4] (by decide) rfl
        have hKc := hK.sub (tys' := [(c1, .int), (c3, .long), (c4, .long), (c5, .long)]) [0, 1, 2, 3] rfl
        have hFc := va_free (wc := [(h0, .inr (0, [.ref a1, .int (nI nn), .int (nI li), .ref a3, .ref a4, .ref a5])), (a1, .inl (c1, 32, .inl fw)), (a3, .inl (c3, 16, .inr (.inl fs))), (a4, .inl (c4, 32, .inr (.inl fc))), (a5, .inl (c5, 16, .inr (.inl fp)))]) hD hS hA [0, 1, 2, 3, 4] rfl
        refine va_callv (va_runV (As := [.int (xs (i + 1)), .int (xs (i + 2)), .int (xs (i + 3)), .int (xs (i + 4)), .int (xs (i + 5))]) (rest := []) ⟨hx, hb, hml, hown, hts⟩ (c_X0_weight l dC dI h0 a1 a3 a4 a5 c1 c3 c4 c5 (nI nn) (nI li) fw fs fc fp H.size (xs (i + 1)) (xs (i + 2)) (xs (i + 3)) (xs (i + 4)) (xs (i + 5))) (cwV 5 hts gL_law_X0_weight rfl rfl rfl (by decide +kernel) ⟨Nat.le_of_ble_eq_true rfl, Nat.le_of_ble_eq_true rfl⟩) ⟨fun a U g mk q => by obtain ⟨q0, q1, qP, qK, qD⟩ := q; exact ⟨q0, q1, qP, va_K.moved (u := U) (U := U.calling g mk a) (Vm.Alike.refl U.vm) qK, qD⟩, va_recv hKc hPc (ci := 0) (q0 := 0) rfl rfl, fun U hU hW => ⟨rfl, by rw [hU], by rw [hU]; exact hPc, va_K.moved hW.alike hKc, hDc.weaken (fun _ _ _ _ => trivial)⟩⟩ rfl rfl hl.1 rfl (lv_room (Nat.le_of_ble_eq_true rfl)) dL_law_132 ⟨Nat.le_of_ble_eq_true rfl, Nat.le_of_ble_eq_true rfl⟩) hS (fun q _ h => hFc q h) hFc (fun u t H1 locs ht hvm hw hB hz1 hk1 hS => ?_)
        subst hw
        obtain ⟨hP1, hK1, hD1⟩ := hB
        rw [ht] at hP1
        have hK1 := va_K.moved hvm.symm hK1
        obtain ⟨hP, hD⟩ := va_join (wr := [(g0, .inr (1, [.ref b1, .int (nI nn), .int (nI li), .ref b4, .ref b5, .ref b6])), (b1, .inl (d1, 32, .inl fw)), (b4, .inl (d4, 289, .inr (.inl fb))), (b5, .inl (d5, 289, .inr (.inl fx))), (b6, .inl (d6, 32, .inl fo))]) (w1 := [(h0, .inr (0, [.ref a1, .int (nI nn), .int (nI li), .ref a3, .ref a4, .ref a5])), (a1, .inl (c1, 32, .inl (tn_wt fw (xs (i + 1)) (xs (i + 2)) (xs (i + 3)) (xs (i + 4)) (xs (i + 5))))), (a3, .inl (c3, 16, .inr (.inl fs))), (a4, .inl (c4, 32, .inr (.inl fc))), (a5, .inl (c5, 16, .inr (.inl fp)))]) hP hD [0, 1, 2, 3, 4] [5, 6, 7, 8, 9] rfl rfl (by decide) (by decide) hk1 hFc hP1 hD1
        generalize H1 = H at hP hS ⊢
        have hP := hP.sub (ws' := [(h0, .inr (0, [.ref a1, .int (nI nn), .int (nI li), .ref a3, .ref a4, .ref a5])), (a1, .inl (c1, 32, .inl (tn_wt fw (xs (i + 1)) (xs (i + 2)) (xs (i + 3)) (xs (i + 4)) (xs (i + 5))))), (a3, .inl (c3, 16, .inr (.inl fs))), (a4, .inl (c4, 32, .inr (.inl fc))), (a5, .inl (c5, 16, .inr (.inl fp))), (g0, .inr (1, [.ref b1, .int (nI nn), .int (nI li), .ref b4, .ref b5, .ref b6])), (b1, .inl (d1, 32, .inl fw)), (b4, .inl (d4, 289, .inr (.inl fb))), (b5, .inl (d5, 289, .inr (.inl fx))), (b6, .inl (d6, 32, .inl fo))]) [5, 6, 7, 8, 9, 0, 1, 2, 3, 4] rfl
        have hD := hD.sub (ws' := [(h0, .inr (0, [.ref a1, .int (nI nn), .int (nI li), .ref a3, .ref a4, .ref a5])), (a1, .inl (c1, 32, .inl (tn_wt fw (xs (i + 1)) (xs (i + 2)) (xs (i + 3)) (xs (i + 4)) (xs (i + 5))))), (a3, .inl (c3, 16, .inr (.inl fs))), (a4, .inl (c4, 32, .inr (.inl fc))), (a5, .inl (c5, 16, .inr (.inl fp))), (g0, .inr (1, [.ref b1, .int (nI nn), .int (nI li), .ref b4, .ref b5, .ref b6])), (b1, .inl (d1, 32, .inl fw)), (b4, .inl (d4, 289, .inr (.inl fb))), (b5, .inl (d5, 289, .inr (.inl fx))), (b6, .inl (d6, 32, .inl fo))]) [5, 6, 7, 8, 9, 0, 1, 2, 3, 4] (by decide) rfl
        refine lv_aload_n hx hb dL_law_135 rfl (lv_at hl 3 rfl) ?_
        refine lv_aload_n hx hb dL_law_136 rfl (lv_at hl 1 rfl) ?_
        refine lv_iload_n hx hb dL_law_137 rfl (lv_at hl 0 rfl) ?_
        refine lv_iconst (v := nI 1) hx hb dL_law_138 (by decide) ?_
        refine lv_iadd hx hb dL_law_139 ?_
        refine tw_i (nI (i + 1)) (nI_add _ _) ?_
        refine va_sld hx hb hX hbl hbA hS (vp_in_nI (show i + 1 < L by omega) (by omega)) dL_law_140 ?_
        refine tw_i (xs (i + 1)) (congrArg xs (tn_cl (by omega))) ?_
        refine lv_aload_n hx hb dL_law_141 rfl (lv_at hl 1 rfl) ?_
        refine lv_iload_n hx hb dL_law_142 rfl (lv_at hl 0 rfl) ?_
        refine lv_iconst (v := nI 2) hx hb dL_law_143 (by decide) ?_
        refine lv_iadd hx hb dL_law_144 ?_
        refine tw_i (nI (i + 2)) (nI_add _ _) ?_
        refine va_sld hx hb hX hbl hbA hS (vp_in_nI (show i + 2 < L by omega) (by omega)) dL_law_145 ?_
        refine tw_i (xs (i + 2)) (congrArg xs (tn_cl (by omega))) ?_
        refine lv_aload_n hx hb dL_law_146 rfl (lv_at hl 1 rfl) ?_
        refine lv_iload_n hx hb dL_law_147 rfl (lv_at hl 0 rfl) ?_
        refine lv_iconst (v := nI 3) hx hb dL_law_148 (by decide) ?_
        refine lv_iadd hx hb dL_law_149 ?_
        refine tw_i (nI (i + 3)) (nI_add _ _) ?_
        refine va_sld hx hb hX hbl hbA hS (vp_in_nI (show i + 3 < L by omega) (by omega)) dL_law_150 ?_
        refine tw_i (xs (i + 3)) (congrArg xs (tn_cl (by omega))) ?_
        refine lv_aload_n hx hb dL_law_151 rfl (lv_at hl 1 rfl) ?_
        refine lv_iload_n hx hb dL_law_152 rfl (lv_at hl 0 rfl) ?_
        refine lv_iconst (v := nI 4) hx hb dL_law_153 (by decide) ?_
        refine lv_iadd hx hb dL_law_154 ?_
        refine tw_i (nI (i + 4)) (nI_add _ _) ?_
        refine va_sld hx hb hX hbl hbA hS (vp_in_nI (show i + 4 < L by omega) (by omega)) dL_law_155 ?_
        refine tw_i (xs (i + 4)) (congrArg xs (tn_cl (by omega))) ?_
        refine lv_aload_n hx hb dL_law_156 rfl (lv_at hl 1 rfl) ?_
        refine lv_iload_n hx hb dL_law_157 rfl (lv_at hl 0 rfl) ?_
        refine lv_iconst (v := nI 5) hx hb dL_law_158 (by decide) ?_
        refine lv_iadd hx hb dL_law_159 ?_
        refine tw_i (nI (i + 5)) (nI_add _ _) ?_
        refine va_sld hx hb hX hbl hbA hS (vp_in_nI (show i + 5 < L by omega) (by omega)) dL_law_160 ?_
        refine tw_i (xs (i + 5)) (congrArg xs (tn_cl (by omega))) ?_
        have hPc := hP.sub (ws' := [(g0, .inr (1, [.ref b1, .int (nI nn), .int (nI li), .ref b4, .ref b5, .ref b6])), (b1, .inl (d1, 32, .inl fw)), (b4, .inl (d4, 289, .inr (.inl fb))), (b5, .inl (d5, 289, .inr (.inl fx))), (b6, .inl (d6, 32, .inl fo))]) [5, 6, 7, 8, 9] rfl
        have hDc := hD.sub (ws' := [(g0, .inr (1, [.ref b1, .int (nI nn), .int (nI li), .ref b4, .ref b5, .ref b6])), (b1, .inl (d1, 32, .inl fw)), (b4, .inl (d4, 289, .inr (.inl fb))), (b5, .inl (d5, 289, .inr (.inl fx))), (b6, .inl (d6, 32, .inl fo))]) [5, 6, 7, 8, 9] (by decide) rfl
        have hKc := hK.sub (tys' := [(d1, .int), (d4, .long), (d5, .long), (d6, .int)]) [4, 5, 6, 7] rfl
        have hFc := va_free (wc := [(g0, .inr (1, [.ref b1, .int (nI nn), .int (nI li), .ref b4, .ref b5, .ref b6])), (b1, .inl (d1, 32, .inl fw)), (b4, .inl (d4, 289, .inr (.inl fb))), (b5, .inl (d5, 289, .inr (.inl fx))), (b6, .inl (d6, 32, .inl fo))]) hD hS hA [5, 6, 7, 8, 9] rfl
        refine va_callv (va_runV (As := [.int (xs (i + 1)), .int (xs (i + 2)), .int (xs (i + 3)), .int (xs (i + 4)), .int (xs (i + 5))]) (rest := []) ⟨hx, hb, hml, hown, hts⟩ (c_X1_weight l dC dI g0 b1 b4 b5 b6 d1 d4 d5 d6 (nI nn) (nI li) fw fb fx fo H.size (xs (i + 1)) (xs (i + 2)) (xs (i + 3)) (xs (i + 4)) (xs (i + 5))) (cwV 5 hts gL_law_X1_weight rfl rfl rfl (by decide +kernel) ⟨Nat.le_of_ble_eq_true rfl, Nat.le_of_ble_eq_true rfl⟩) ⟨fun a U g mk q => by obtain ⟨q0, q1, qP, qK, qD⟩ := q; exact ⟨q0, q1, qP, va_K.moved (u := U) (U := U.calling g mk a) (Vm.Alike.refl U.vm) qK, qD⟩, va_recv hKc hPc (ci := 1) (q0 := 0) rfl rfl, fun U hU hW => ⟨rfl, by rw [hU], by rw [hU]; exact hPc, va_K.moved hW.alike hKc, hDc.weaken (fun _ _ _ _ => trivial)⟩⟩ rfl rfl hl.1 rfl (lv_room (Nat.le_of_ble_eq_true rfl)) dL_law_161 ⟨Nat.le_of_ble_eq_true rfl, Nat.le_of_ble_eq_true rfl⟩) hS (fun q _ h => hFc q h) hFc (fun u t H1 locs ht hvm hw hB hz1 hk1 hS => ?_)
        subst hw
        obtain ⟨hP1, hK1, hD1⟩ := hB
        rw [ht] at hP1
        have hK1 := va_K.moved hvm.symm hK1
        obtain ⟨hP, hD⟩ := va_join (wr := [(h0, .inr (0, [.ref a1, .int (nI nn), .int (nI li), .ref a3, .ref a4, .ref a5])), (a1, .inl (c1, 32, .inl (tn_wt fw (xs (i + 1)) (xs (i + 2)) (xs (i + 3)) (xs (i + 4)) (xs (i + 5))))), (a3, .inl (c3, 16, .inr (.inl fs))), (a4, .inl (c4, 32, .inr (.inl fc))), (a5, .inl (c5, 16, .inr (.inl fp)))]) (w1 := [(g0, .inr (1, [.ref b1, .int (nI nn), .int (nI li), .ref b4, .ref b5, .ref b6])), (b1, .inl (d1, 32, .inl (tn_wt fw (xs (i + 1)) (xs (i + 2)) (xs (i + 3)) (xs (i + 4)) (xs (i + 5))))), (b4, .inl (d4, 289, .inr (.inl fb))), (b5, .inl (d5, 289, .inr (.inl fx))), (b6, .inl (d6, 32, .inl fo))]) hP hD [5, 6, 7, 8, 9] [0, 1, 2, 3, 4] rfl rfl (by decide) (by decide) hk1 hFc hP1 hD1
        generalize H1 = H at hP hS ⊢
        have hP : va_P (dC, dI) vwCl [(h0, .inr (0, [.ref a1, .int (nI nn), .int (nI li), .ref a3, .ref a4, .ref a5])), (a1, .inl (c1, 32, .inl (tn_wt fw (xs (i + 1)) (xs (i + 2)) (xs (i + 3)) (xs (i + 4)) (xs (i + 5))))), (a3, .inl (c3, 16, .inr (.inl fs))), (a4, .inl (c4, 32, .inr (.inl fc))), (a5, .inl (c5, 16, .inr (.inl fp))), (g0, .inr (1, [.ref b1, .int (nI nn), .int (nI li), .ref b4, .ref b5, .ref b6])), (b1, .inl (d1, 32, .inl (tn_wt fw (xs (i + 1)) (xs (i + 2)) (xs (i + 3)) (xs (i + 4)) (xs (i + 5))))), (b4, .inl (d4, 289, .inr (.inl fb))), (b5, .inl (d5, 289, .inr (.inl fx))), (b6, .inl (d6, 32, .inl fo))] H := hP
        have hD : va_D (fun q : Nat => s.heap.size ≤ q) [(h0, .inr (0, [.ref a1, .int (nI nn), .int (nI li), .ref a3, .ref a4, .ref a5])), (a1, .inl (c1, 32, .inl (tn_wt fw (xs (i + 1)) (xs (i + 2)) (xs (i + 3)) (xs (i + 4)) (xs (i + 5))))), (a3, .inl (c3, 16, .inr (.inl fs))), (a4, .inl (c4, 32, .inr (.inl fc))), (a5, .inl (c5, 16, .inr (.inl fp))), (g0, .inr (1, [.ref b1, .int (nI nn), .int (nI li), .ref b4, .ref b5, .ref b6])), (b1, .inl (d1, 32, .inl (tn_wt fw (xs (i + 1)) (xs (i + 2)) (xs (i + 3)) (xs (i + 4)) (xs (i + 5))))), (b4, .inl (d4, 289, .inr (.inl fb))), (b5, .inl (d5, 289, .inr (.inl fx))), (b6, .inl (d6, 32, .inl fo))] := hD
        refine lv_goto (tgt := 181) hx hb dL_law_164 (by decide) ?_
        obtain ⟨w2, hfw2, hw312⟩ := tn_wt_ok hfw hw31 (xs (i + 1)) (xs (i + 2)) (xs (i + 3)) (xs (i + 4)) (xs (i + 5))
        refine lv_iinc (v := nI (i + 6)) (lv' := [(3, .int (nI (i + 6))), (0, .ref b), (1, .ref h0), (2, .ref g0)]) hx hb dL_law_181 hl (k := 0) rfl (tn_p6 _) (by decide) rfl (fun ls hl => ?_)
        refine lv_goto (tgt := 18) hx hb dL_law_184 (by decide) ?_
        exact ih (i + 6) nn li w2 (tn_wt fw (xs (i + 1)) (xs (i + 2)) (xs (i + 3)) (xs (i + 4)) (xs (i + 5))) fs fc fp fb fx fo H locs ls (by omega) (by omega) hn2 hn16 hli hfw2 hw312 hP hD hS (lv_sub hl [0, 1, 2, 3] rfl)
      · refine lv_tableIn hx hb (off := 135) (tgt := 167) dL_law_32 (by decide) (by decide) (by decide) (by decide) ?_
        refine lv_aload_n hx hb dL_law_167 rfl (lv_at hl 2 rfl) ?_
        have hPc := hP.sub (ws' := [(h0, .inr (0, [.ref a1, .int (nI nn), .int (nI li), .ref a3, .ref a4, .ref a5])), (a1, .inl (c1, 32, .inl fw)), (a3, .inl (c3, 16, .inr (.inl fs))), (a4, .inl (c4, 32, .inr (.inl fc))), (a5, .inl (c5, 16, .inr (.inl fp)))]) [0, 1, 2, 3, 4] rfl
        have hDc := hD.sub (ws' := [(h0, .inr (0, [.ref a1, .int (nI nn), .int (nI li), .ref a3, .ref a4, .ref a5])), (a1, .inl (c1, 32, .inl fw)), (a3, .inl (c3, 16, .inr (.inl fs))), (a4, .inl (c4, 32, .inr (.inl fc))), (a5, .inl (c5, 16, .inr (.inl fp)))]) [0, 1, 2, 3, 4] (by decide) rfl
        have hKc := hK.sub (tys' := [(c1, .int), (c3, .long), (c4, .long), (c5, .long)]) [0, 1, 2, 3] rfl
        have hFc := va_free (wc := [(h0, .inr (0, [.ref a1, .int (nI nn), .int (nI li), .ref a3, .ref a4, .ref a5])), (a1, .inl (c1, 32, .inl fw)), (a3, .inl (c3, 16, .inr (.inl fs))), (a4, .inl (c4, 32, .inr (.inl fc))), (a5, .inl (c5, 16, .inr (.inl fp)))]) hD hS hA [0, 1, 2, 3, 4] rfl
        refine va_calll (va_runV (As := []) (rest := []) ⟨hx, hb, hml, hown, hts⟩ (c_X0_least l dC dI h0 a1 a3 a4 a5 c1 c3 c4 c5 fw fs fc fp H.size nn li w hn2 hn16 hli hfw hw31) (cwV 0 hts gL_law_X0_least rfl rfl rfl (by decide +kernel) ⟨Nat.le_of_ble_eq_true rfl, Nat.le_of_ble_eq_true rfl⟩) ⟨fun a U g mk q => by obtain ⟨q0, q1, qP, qK, qD⟩ := q; exact ⟨q0, q1, qP, va_K.moved (u := U) (U := U.calling g mk a) (Vm.Alike.refl U.vm) qK, qD⟩, va_recv hKc hPc (ci := 0) (q0 := 0) rfl rfl, fun U hU hW => ⟨rfl, by rw [hU], by rw [hU]; exact hPc, va_K.moved hW.alike hKc, hDc.weaken (fun _ _ _ _ => trivial)⟩⟩ rfl rfl hl.1 rfl (lv_room (Nat.le_of_ble_eq_true rfl)) dL_law_168 ⟨Nat.le_of_ble_eq_true rfl, Nat.le_of_ble_eq_true rfl⟩) hS (fun q _ h => hFc q h) hFc (fun r1 u t H1 locs ht hvm hw hB hz1 hk1 hS => ?_)
        obtain ⟨u1, eu1⟩ : ∃ z, z = u := ⟨_, rfl⟩
        rw [← eu1] at hB
        have hans1 := hw
        obtain ⟨hP1, hK1, hD1⟩ := hB
        rw [ht] at hP1
        have hK1 := va_K.moved hvm.symm hK1
        obtain ⟨hP, hD⟩ := va_join (wr := [(g0, .inr (1, [.ref b1, .int (nI nn), .int (nI li), .ref b4, .ref b5, .ref b6])), (b1, .inl (d1, 32, .inl fw)), (b4, .inl (d4, 289, .inr (.inl fb))), (b5, .inl (d5, 289, .inr (.inl fx))), (b6, .inl (d6, 32, .inl fo))]) (w1 := [(h0, .inr (0, [.ref a1, .int (nI nn), .int (nI li), .ref a3, .ref a4, .ref a5])), (a1, .inl (c1, 32, .inl fw)), (a3, .inl (c3, 16, .inr (.inl (u1.1)))), (a4, .inl (c4, 32, .inr (.inl (u1.2.1)))), (a5, .inl (c5, 16, .inr (.inl (u1.2.2))))]) hP hD [0, 1, 2, 3, 4] [5, 6, 7, 8, 9] rfl rfl (by decide) (by decide) hk1 hFc hP1 hD1
        generalize H1 = H at hP hS ⊢
        have hP := hP.sub (ws' := [(h0, .inr (0, [.ref a1, .int (nI nn), .int (nI li), .ref a3, .ref a4, .ref a5])), (a1, .inl (c1, 32, .inl fw)), (a3, .inl (c3, 16, .inr (.inl (u1.1)))), (a4, .inl (c4, 32, .inr (.inl (u1.2.1)))), (a5, .inl (c5, 16, .inr (.inl (u1.2.2)))), (g0, .inr (1, [.ref b1, .int (nI nn), .int (nI li), .ref b4, .ref b5, .ref b6])), (b1, .inl (d1, 32, .inl fw)), (b4, .inl (d4, 289, .inr (.inl fb))), (b5, .inl (d5, 289, .inr (.inl fx))), (b6, .inl (d6, 32, .inl fo))]) [5, 6, 7, 8, 9, 0, 1, 2, 3, 4] rfl
        have hD := hD.sub (ws' := [(h0, .inr (0, [.ref a1, .int (nI nn), .int (nI li), .ref a3, .ref a4, .ref a5])), (a1, .inl (c1, 32, .inl fw)), (a3, .inl (c3, 16, .inr (.inl (u1.1)))), (a4, .inl (c4, 32, .inr (.inl (u1.2.1)))), (a5, .inl (c5, 16, .inr (.inl (u1.2.2)))), (g0, .inr (1, [.ref b1, .int (nI nn), .int (nI li), .ref b4, .ref b5, .ref b6])), (b1, .inl (d1, 32, .inl fw)), (b4, .inl (d4, 289, .inr (.inl fb))), (b5, .inl (d5, 289, .inr (.inl fx))), (b6, .inl (d6, 32, .inl fo))]) [5, 6, 7, 8, 9, 0, 1, 2, 3, 4] (by decide) rfl
        refine lv_aload_n hx hb dL_law_171 rfl (lv_at hl 3 rfl) ?_
        have hPc := hP.sub (ws' := [(g0, .inr (1, [.ref b1, .int (nI nn), .int (nI li), .ref b4, .ref b5, .ref b6])), (b1, .inl (d1, 32, .inl fw)), (b4, .inl (d4, 289, .inr (.inl fb))), (b5, .inl (d5, 289, .inr (.inl fx))), (b6, .inl (d6, 32, .inl fo))]) [5, 6, 7, 8, 9] rfl
        have hDc := hD.sub (ws' := [(g0, .inr (1, [.ref b1, .int (nI nn), .int (nI li), .ref b4, .ref b5, .ref b6])), (b1, .inl (d1, 32, .inl fw)), (b4, .inl (d4, 289, .inr (.inl fb))), (b5, .inl (d5, 289, .inr (.inl fx))), (b6, .inl (d6, 32, .inl fo))]) [5, 6, 7, 8, 9] (by decide) rfl
        have hKc := hK.sub (tys' := [(d1, .int), (d4, .long), (d5, .long), (d6, .int)]) [4, 5, 6, 7] rfl
        have hFc := va_free (wc := [(g0, .inr (1, [.ref b1, .int (nI nn), .int (nI li), .ref b4, .ref b5, .ref b6])), (b1, .inl (d1, 32, .inl fw)), (b4, .inl (d4, 289, .inr (.inl fb))), (b5, .inl (d5, 289, .inr (.inl fx))), (b6, .inl (d6, 32, .inl fo))]) hD hS hA [5, 6, 7, 8, 9] rfl
        refine va_calll (va_runV (As := []) (rest := [.long r1]) ⟨hx, hb, hml, hown, hts⟩ (c_X1_least l dC dI g0 b1 b4 b5 b6 d1 d4 d5 d6 fw fb fx fo H.size nn li w hn16 hli hfw hw31) (cwV 0 hts gL_law_X1_least rfl rfl rfl (by decide +kernel) ⟨Nat.le_of_ble_eq_true rfl, Nat.le_of_ble_eq_true rfl⟩) ⟨fun a U g mk q => by obtain ⟨q0, q1, qP, qK, qD⟩ := q; exact ⟨q0, q1, qP, va_K.moved (u := U) (U := U.calling g mk a) (Vm.Alike.refl U.vm) qK, qD⟩, va_recv hKc hPc (ci := 1) (q0 := 0) rfl rfl, fun U hU hW => ⟨rfl, by rw [hU], by rw [hU]; exact hPc, va_K.moved hW.alike hKc, hDc.weaken (fun _ _ _ _ => trivial)⟩⟩ rfl rfl hl.1 rfl (lv_room (Nat.le_of_ble_eq_true rfl)) dL_law_172 ⟨Nat.le_of_ble_eq_true rfl, Nat.le_of_ble_eq_true rfl⟩) hS (fun q _ h => hFc q h) hFc (fun r2 u t H1 locs ht hvm hw hB hz1 hk1 hS => ?_)
        obtain ⟨u2, eu2⟩ : ∃ z, z = u := ⟨_, rfl⟩
        rw [← eu2] at hB
        have hans2 := hw
        obtain ⟨hP1, hK1, hD1⟩ := hB
        rw [ht] at hP1
        have hK1 := va_K.moved hvm.symm hK1
        obtain ⟨hP, hD⟩ := va_join (wr := [(h0, .inr (0, [.ref a1, .int (nI nn), .int (nI li), .ref a3, .ref a4, .ref a5])), (a1, .inl (c1, 32, .inl fw)), (a3, .inl (c3, 16, .inr (.inl (u1.1)))), (a4, .inl (c4, 32, .inr (.inl (u1.2.1)))), (a5, .inl (c5, 16, .inr (.inl (u1.2.2))))]) (w1 := [(g0, .inr (1, [.ref b1, .int (nI nn), .int (nI li), .ref b4, .ref b5, .ref b6])), (b1, .inl (d1, 32, .inl fw)), (b4, .inl (d4, 289, .inr (.inl (u2.1)))), (b5, .inl (d5, 289, .inr (.inl (u2.2.1)))), (b6, .inl (d6, 32, .inl (u2.2.2)))]) hP hD [5, 6, 7, 8, 9] [0, 1, 2, 3, 4] rfl rfl (by decide) (by decide) hk1 hFc hP1 hD1
        generalize H1 = H at hP hS ⊢
        have hP : va_P (dC, dI) vwCl [(h0, .inr (0, [.ref a1, .int (nI nn), .int (nI li), .ref a3, .ref a4, .ref a5])), (a1, .inl (c1, 32, .inl fw)), (a3, .inl (c3, 16, .inr (.inl (u1.1)))), (a4, .inl (c4, 32, .inr (.inl (u1.2.1)))), (a5, .inl (c5, 16, .inr (.inl (u1.2.2)))), (g0, .inr (1, [.ref b1, .int (nI nn), .int (nI li), .ref b4, .ref b5, .ref b6])), (b1, .inl (d1, 32, .inl fw)), (b4, .inl (d4, 289, .inr (.inl (u2.1)))), (b5, .inl (d5, 289, .inr (.inl (u2.2.1)))), (b6, .inl (d6, 32, .inl (u2.2.2)))] H := hP
        have hD : va_D (fun q : Nat => s.heap.size ≤ q) [(h0, .inr (0, [.ref a1, .int (nI nn), .int (nI li), .ref a3, .ref a4, .ref a5])), (a1, .inl (c1, 32, .inl fw)), (a3, .inl (c3, 16, .inr (.inl (u1.1)))), (a4, .inl (c4, 32, .inr (.inl (u1.2.1)))), (a5, .inl (c5, 16, .inr (.inl (u1.2.2)))), (g0, .inr (1, [.ref b1, .int (nI nn), .int (nI li), .ref b4, .ref b5, .ref b6])), (b1, .inl (d1, 32, .inl fw)), (b4, .inl (d4, 289, .inr (.inl (u2.1)))), (b5, .inl (d5, 289, .inr (.inl (u2.2.1)))), (b6, .inl (d6, 32, .inl (u2.2.2)))] := hD
        have hsame : r1 = r2 := tc_final hn2 hn16 hans1 hans2
        refine tw_lif_eq hx hb (tgt := 181) dL_law_175 dL_law_176 (by decide) (fun hc2 => ?_) (fun hc2 => ?_)
        · refine lv_iinc (v := nI (i + 6)) (lv' := [(3, .int (nI (i + 6))), (0, .ref b), (1, .ref h0), (2, .ref g0)]) hx hb dL_law_181 hl (k := 0) rfl (tn_p6 _) (by decide) rfl (fun ls hl => ?_)
          refine lv_goto (tgt := 18) hx hb dL_law_184 (by decide) ?_
          exact ih (i + 6) nn li w fw u1.1 u1.2.1 u1.2.2 u2.1 u2.2.1 u2.2.2 H locs ls (by omega) (by omega) hn2 hn16 hli hfw hw31 hP hD hS (lv_sub hl [0, 1, 2, 3] rfl)
        · exact absurd hsame hc2
set_option maxHeartbeats 4000000 in
set_option maxRecDepth 100000 in
/-- THE LAW, from its entry -/
theorem whole_start {p : Program} {e : Env} {s : State} {m : MethodId} {below : List Frame} {meth : Method} {c : Code} (l : Launch) (hflags : l.flags = flags0) {b L : Nat} {xs : Nat → Int32} (hL : L ≤ 384) (C0 : lw_At p s m meth c b L xs) : W p l e room_1 s m #[Value.ref b] below meth c s.heap [] 0 0 (lw_Z below #[Value.ref b] s) (entryFrame m ([Value.ref b] : List Value).toArray 4) := by
  obtain ⟨hx, hb, hr, hml, hown, hts0, hX, hbl, hlocks, hgv⟩ := id C0
  have hts : ∀ w ∈ wsL_law, w.before #[Value.ref b] s = true := fun w h => hts0 w (wsL_law_in w h)
  have hA : ∀ q : Nat, s.heap.size ≤ q → (fun q : Nat => s.heap.size ≤ q) q := fun _ h => h
  obtain ⟨k0, iS0, hKn0⟩ := u_known (C := RX0) (T := TX0) (N := 6) (n := 6) hts inlX0 (hts _ mmL_law_0)
  obtain ⟨k1, iS1, hKn1⟩ := u_known (C := RX1) (T := TX1) (N := 6) (n := 6) hts inlX1 (hts _ mmL_law_1)
  obtain ⟨dC, dI, hKc⟩ : ∃ (dC : Nat → ClassId) (dI : Nat → Nat → Nat), ∀ (k : Nat) (q : vw_C), vwCl[k]? = some q → u_Kn s q.1 q.2.1 q.2.2 (dC k) (dI k) := by
    refine ⟨fun k => if k = 0 then k0 else k1, fun k => if k = 0 then iS0 else iS1, ?_⟩
    intro k q hq
    match k, hq with
    | 0, hq => cases hq; exact hKn0
    | 1, hq => cases hq; exact hKn1
    | k + 2, hq => simp [vwCl] at hq
  have hS : va_S (fun q : Nat => s.heap.size ≤ q) s.heap s.heap [] := va_S.rf
  have hK : va_K (dC, dI) vwCl [] s := ⟨hKc, fun k q h => by simp at h⟩
  have hP : va_P (dC, dI) vwCl [] s.heap := fun k q h => by simp at h
  have hD : va_D (fun q : Nat => s.heap.size ≤ q) [] := ⟨fun i j p q h => by simp at h, fun k q h => by simp at h⟩
  have hl := lv_entry ([.ref b]) (n := 4) (Nat.le_of_ble_eq_true rfl)
  rw [lg_entry_eq]
  generalize (lg_sl ([.ref b]) ++ List.replicate (4 - (lg_sl ([.ref b])).length) Slot.unset).toArray = ls at hl ⊢
  have hl : lv_has ls 4 [(0, .ref b)] := hl
  refine va_new (ci := 0) (fs := [.null, .int 0, .int 0, .null, .null, .null]) (C := RX0) (T := TX0) (N := 6) hx hb hts inlX0 tyX0 tyX0_ok hown (hts _ mmL_law_2) (hts _ mmL_law_0) (hts _ mmL_law_3) hK hP hD hS hA rfl (fun j hj => by rcases (show j = 0 ∨ j = 1 ∨ j = 2 ∨ j = 3 ∨ j = 4 ∨ j = 5 by omega) with rfl | rfl | rfl | rfl | rfl | rfl <;> rfl) (Nat.le_of_ble_eq_true rfl) (Nat.le_of_ble_eq_true rfl) dL_law_0 (fun h0 H hP hD hS => ?_)
  have hP : va_P (dC, dI) vwCl [(h0, .inr (0, [.null, .int 0, .int 0, .null, .null, .null]))] H := hP
  have hD : va_D (fun q : Nat => s.heap.size ≤ q) [(h0, .inr (0, [.null, .int 0, .int 0, .null, .null, .null]))] := hD
  refine W.widen (k := 1) (n := 6) (Nat.le_of_ble_eq_true rfl) (Nat.le_of_ble_eq_true rfl) ?_
  refine lv_dup hx hb dL_law_3 rfl ?_
  have hPc := hP.sub (ws' := [(h0, .inr (0, [.null, .int 0, .int 0, .null, .null, .null]))]) [0] rfl
  have hDc := hD.sub (ws' := [(h0, .inr (0, [.null, .int 0, .int 0, .null, .null, .null]))]) [0] (by decide) rfl
  have hKc := hK.sub (tys' := []) [] rfl
  have hFc := va_free (wc := [(h0, .inr (0, [.null, .int 0, .int 0, .null, .null, .null]))]) hD hS hA [0] rfl
  refine va_callv (va_runI (As := []) (rest := [.ref h0]) ⟨hx, hb, hml, hown, hts⟩ (c_X0_init l dC dI h0 H.size) (cwI 0 hts gL_law_X0_init rfl rfl rfl (hts _ mmL_law_3) (hts _ mmL_law_4) (hts _ mmL_law_5) rfl (by decide +kernel) ⟨Nat.le_of_ble_eq_true rfl, Nat.le_of_ble_eq_true rfl⟩) ⟨fun a U g mk q => by obtain ⟨q0, q1, qP, qK, qD⟩ := q; exact ⟨q0, q1, qP, va_K.moved (u := U) (U := U.calling g mk a) (Vm.Alike.refl U.vm) qK, qD⟩, fun U hU hW => ⟨rfl, by rw [hU], by rw [hU]; exact hPc, va_K.moved hW.alike hKc, hDc.weaken (fun _ _ _ _ => trivial)⟩⟩ rfl rfl hl.1 rfl (lv_room (Nat.le_of_ble_eq_true rfl)) dL_law_4 ⟨Nat.le_of_ble_eq_true rfl, Nat.le_of_ble_eq_true rfl⟩) hS (fun q _ h => hFc q h) hFc (fun u t H1 locs ht hvm hw hB hz1 hk1 hS => ?_)
  obtain ⟨a1, a3, a4, a5, c1, c3, c4, c5, hP1, hK1, hD1⟩ := hB
  rw [ht] at hP1
  have hK1 := va_K.moved hvm.symm hK1
  obtain ⟨hP, hD⟩ := va_join (wr := []) (w1 := [(h0, .inr (0, [.ref a1, .int (nI 2), .int (nI 5), .ref a3, .ref a4, .ref a5])), (a1, .inl (c1, 32, .inl (fun _ => 0))), (a3, .inl (c3, 16, .inr (.inl (fun _ => 0)))), (a4, .inl (c4, 32, .inr (.inl (fun _ => 0)))), (a5, .inl (c5, 16, .inr (.inl (fun _ => 0))))]) hP hD [0] [] rfl rfl (by decide) (by decide) hk1 hFc hP1 hD1
  have hK := hK.app hK1
  generalize H1 = H at hP hS ⊢
  have hP : va_P (dC, dI) vwCl [(h0, .inr (0, [.ref a1, .int (nI 2), .int (nI 5), .ref a3, .ref a4, .ref a5])), (a1, .inl (c1, 32, .inl (fun _ => 0))), (a3, .inl (c3, 16, .inr (.inl (fun _ => 0)))), (a4, .inl (c4, 32, .inr (.inl (fun _ => 0)))), (a5, .inl (c5, 16, .inr (.inl (fun _ => 0))))] H := hP
  have hD : va_D (fun q : Nat => s.heap.size ≤ q) [(h0, .inr (0, [.ref a1, .int (nI 2), .int (nI 5), .ref a3, .ref a4, .ref a5])), (a1, .inl (c1, 32, .inl (fun _ => 0))), (a3, .inl (c3, 16, .inr (.inl (fun _ => 0)))), (a4, .inl (c4, 32, .inr (.inl (fun _ => 0)))), (a5, .inl (c5, 16, .inr (.inl (fun _ => 0))))] := hD
  have hK : va_K (dC, dI) vwCl [(c1, .int), (c3, .long), (c4, .long), (c5, .long)] s := hK
  refine W.widen (k := 5) (n := 102) (Nat.le_of_ble_eq_true rfl) (Nat.le_of_ble_eq_true rfl) ?_
  refine lv_astore_n (lv' := [(1, .ref h0), (0, .ref b)]) hx hb dL_law_7 rfl hl (by decide) rfl (fun ls hl => ?_)
  refine va_new (ci := 1) (fs := [.null, .int 0, .int 0, .null, .null, .null]) (C := RX1) (T := TX1) (N := 6) hx hb hts inlX1 tyX1 tyX1_ok hown (hts _ mmL_law_6) (hts _ mmL_law_1) (hts _ mmL_law_7) hK hP hD hS hA rfl (fun j hj => by rcases (show j = 0 ∨ j = 1 ∨ j = 2 ∨ j = 3 ∨ j = 4 ∨ j = 5 by omega) with rfl | rfl | rfl | rfl | rfl | rfl <;> rfl) (Nat.le_of_ble_eq_true rfl) (Nat.le_of_ble_eq_true rfl) dL_law_8 (fun g0 H hP hD hS => ?_)
  have hP : va_P (dC, dI) vwCl [(h0, .inr (0, [.ref a1, .int (nI 2), .int (nI 5), .ref a3, .ref a4, .ref a5])), (a1, .inl (c1, 32, .inl (fun _ => 0))), (a3, .inl (c3, 16, .inr (.inl (fun _ => 0)))), (a4, .inl (c4, 32, .inr (.inl (fun _ => 0)))), (a5, .inl (c5, 16, .inr (.inl (fun _ => 0)))), (g0, .inr (1, [.null, .int 0, .int 0, .null, .null, .null]))] H := hP
  have hD : va_D (fun q : Nat => s.heap.size ≤ q) [(h0, .inr (0, [.ref a1, .int (nI 2), .int (nI 5), .ref a3, .ref a4, .ref a5])), (a1, .inl (c1, 32, .inl (fun _ => 0))), (a3, .inl (c3, 16, .inr (.inl (fun _ => 0)))), (a4, .inl (c4, 32, .inr (.inl (fun _ => 0)))), (a5, .inl (c5, 16, .inr (.inl (fun _ => 0)))), (g0, .inr (1, [.null, .int 0, .int 0, .null, .null, .null]))] := hD
  refine W.widen (k := 6) (n := 108) (Nat.le_of_ble_eq_true rfl) (Nat.le_of_ble_eq_true rfl) ?_
  refine lv_dup hx hb dL_law_11 rfl ?_
  have hPc := hP.sub (ws' := [(g0, .inr (1, [.null, .int 0, .int 0, .null, .null, .null]))]) [5] rfl
  have hDc := hD.sub (ws' := [(g0, .inr (1, [.null, .int 0, .int 0, .null, .null, .null]))]) [5] (by decide) rfl
  have hKc := hK.sub (tys' := []) [] rfl
  have hFc := va_free (wc := [(g0, .inr (1, [.null, .int 0, .int 0, .null, .null, .null]))]) hD hS hA [5] rfl
  refine va_callv (va_runI (As := []) (rest := [.ref g0]) ⟨hx, hb, hml, hown, hts⟩ (c_X1_init l dC dI g0 H.size) (cwI 0 hts gL_law_X1_init rfl rfl rfl (hts _ mmL_law_7) (hts _ mmL_law_8) (hts _ mmL_law_9) rfl (by decide +kernel) ⟨Nat.le_of_ble_eq_true rfl, Nat.le_of_ble_eq_true rfl⟩) ⟨fun a U g mk q => by obtain ⟨q0, q1, qP, qK, qD⟩ := q; exact ⟨q0, q1, qP, va_K.moved (u := U) (U := U.calling g mk a) (Vm.Alike.refl U.vm) qK, qD⟩, fun U hU hW => ⟨rfl, by rw [hU], by rw [hU]; exact hPc, va_K.moved hW.alike hKc, hDc.weaken (fun _ _ _ _ => trivial)⟩⟩ rfl rfl hl.1 rfl (lv_room (Nat.le_of_ble_eq_true rfl)) dL_law_12 ⟨Nat.le_of_ble_eq_true rfl, Nat.le_of_ble_eq_true rfl⟩) hS (fun q _ h => hFc q h) hFc (fun u t H1 locs ht hvm hw hB hz1 hk1 hS => ?_)
  obtain ⟨b1, b4, b5, b6, d1, d4, d5, d6, hP1, hK1, hD1⟩ := hB
  rw [ht] at hP1
  have hK1 := va_K.moved hvm.symm hK1
  obtain ⟨hP, hD⟩ := va_join (wr := [(h0, .inr (0, [.ref a1, .int (nI 2), .int (nI 5), .ref a3, .ref a4, .ref a5])), (a1, .inl (c1, 32, .inl (fun _ => 0))), (a3, .inl (c3, 16, .inr (.inl (fun _ => 0)))), (a4, .inl (c4, 32, .inr (.inl (fun _ => 0)))), (a5, .inl (c5, 16, .inr (.inl (fun _ => 0))))]) (w1 := [(g0, .inr (1, [.ref b1, .int (nI 2), .int (nI 5), .ref b4, .ref b5, .ref b6])), (b1, .inl (d1, 32, .inl (fun _ => 0))), (b4, .inl (d4, 289, .inr (.inl (fun _ => 0)))), (b5, .inl (d5, 289, .inr (.inl (fun _ => 0)))), (b6, .inl (d6, 32, .inl (fun _ => 0)))]) hP hD [5] [0, 1, 2, 3, 4] rfl rfl (by decide) (by decide) hk1 hFc hP1 hD1
  have hK := hK.app hK1
  generalize H1 = H at hP hS ⊢
  have hP : va_P (dC, dI) vwCl [(h0, .inr (0, [.ref a1, .int (nI 2), .int (nI 5), .ref a3, .ref a4, .ref a5])), (a1, .inl (c1, 32, .inl (fun _ => 0))), (a3, .inl (c3, 16, .inr (.inl (fun _ => 0)))), (a4, .inl (c4, 32, .inr (.inl (fun _ => 0)))), (a5, .inl (c5, 16, .inr (.inl (fun _ => 0)))), (g0, .inr (1, [.ref b1, .int (nI 2), .int (nI 5), .ref b4, .ref b5, .ref b6])), (b1, .inl (d1, 32, .inl (fun _ => 0))), (b4, .inl (d4, 289, .inr (.inl (fun _ => 0)))), (b5, .inl (d5, 289, .inr (.inl (fun _ => 0)))), (b6, .inl (d6, 32, .inl (fun _ => 0)))] H := hP
  have hD : va_D (fun q : Nat => s.heap.size ≤ q) [(h0, .inr (0, [.ref a1, .int (nI 2), .int (nI 5), .ref a3, .ref a4, .ref a5])), (a1, .inl (c1, 32, .inl (fun _ => 0))), (a3, .inl (c3, 16, .inr (.inl (fun _ => 0)))), (a4, .inl (c4, 32, .inr (.inl (fun _ => 0)))), (a5, .inl (c5, 16, .inr (.inl (fun _ => 0)))), (g0, .inr (1, [.ref b1, .int (nI 2), .int (nI 5), .ref b4, .ref b5, .ref b6])), (b1, .inl (d1, 32, .inl (fun _ => 0))), (b4, .inl (d4, 289, .inr (.inl (fun _ => 0)))), (b5, .inl (d5, 289, .inr (.inl (fun _ => 0)))), (b6, .inl (d6, 32, .inl (fun _ => 0)))] := hD
  have hK : va_K (dC, dI) vwCl [(c1, .int), (c3, .long), (c4, .long), (c5, .long), (d1, .int), (d4, .long), (d5, .long), (d6, .int)] s := hK
  refine W.widen (k := 10) (n := 750) (Nat.le_of_ble_eq_true rfl) (Nat.le_of_ble_eq_true rfl) ?_
  refine lv_astore_n (lv' := [(2, .ref g0), (1, .ref h0), (0, .ref b)]) hx hb dL_law_15 rfl hl (by decide) rfl (fun ls hl => ?_)
  refine lv_iconst (v := nI 0) hx hb dL_law_16 (by decide) ?_
  refine lv_istore_n (lv' := [(3, .int (nI 0)), (2, .ref g0), (1, .ref h0), (0, .ref b)]) hx hb dL_law_17 rfl hl (by decide) rfl (fun ls hl => ?_)
  exact law_loop hL C0 h0 a1 a3 a4 a5 g0 b1 b4 b5 b6 c1 c3 c4 c5 d1 d4 d5 d6 hK (L + 7) 0 2 5 (fun _ => 0) (fun _ => 0) _ _ _ _ _ _ H _ ls (by omega) (by omega) (by decide) (by decide) (by decide) (fun _ _ => nI_0.symm) (fun _ => by decide) hP hD hS (lv_sub hl [0, 3, 2, 1] rfl)
end
section
set_option maxHeartbeats 4000000 in
theorem lw_walk (l : Launch) (hflags : l.flags = flags0) (b : Addr) (xs : List Int32) : MetFree l x (headSpec (Jvm.Cond.code x code maxLocals ret :: tables_1) room_1) (lw_P b xs) (fun _ _ _ _ _ => True) lw_Q := by
  refine MetFree.of_bodyS (code := code) (maxLocals := maxLocals) (ret := ret) (by decide) ?_ ?_
  · intro args s m h hn
    obtain ⟨meth, c, h1, h2, h3, h4, h5, h6, -, -⟩ := Cond.code_spec hn (atoms_spec (ws := Jvm.Cond.code x code maxLocals ret :: tables_1) h _ List.mem_cons_self)
    exact ⟨meth, c, h1, h2, h3, h4, h5, h6⟩
  · intro p e s m args below meth c s₁ B hml0 hP _
    obtain ⟨rfl, hx, hbd, hgv⟩ := hP
    obtain ⟨scr, harrAt, hlist, hof, hsmall⟩ := hx
    obtain ⟨hcb, hkn, -, -⟩ := State.arrayAt?_spec harrAt
    have hown : s.vm.findClass R_law = some m.cls := findClass_of_methodNamed B.named
    have hts0 : ∀ c ∈ (Jvm.Cond.code x code maxLocals ret :: tables_1), c.before #[Value.ref b] s = true := atoms_spec (ws := Jvm.Cond.code x code maxLocals ret :: tables_1) B.pre
    have hts : ∀ w ∈ lw_tbl, w.before #[Value.ref b] s = true := k2_hts_sels lw_privs (fun w hw => hts0 w (List.mem_cons_of_mem _ hw)) lw_privs_ok
    have hml : c.maxLocals = 4 := B.maxLocals_eq (hts0 _ List.mem_cons_self)
    have X₀ : Stand p l e room_1 s m #[Value.ref b] below meth c s₁ [] 0 0 := Stand.of_body B
    have hh0 : s₁.heap = s.heap := by rw [B.state]; rfl
    have hsz : scr.slots.size = xs.length := by rw [← Array.length_toList, hlist, List.length_map]
    have hval : ∀ j : Nat, j < xs.length → scr.slots[j]? = some (.int (xs.getD j 0)) := fun j hj => by
      rw [← Array.getElem?_toList, hlist]
      simp [hj]
    have hbl : b < s.heap.size := (Array.getElem?_eq_some_iff.mp hcb).1
    have hX : va_X b xs.length (fun j => xs.getD j 0) s s.heap := ⟨scr, hcb, hof, hkn, hsz, hval⟩
    have K : W p l e room_1 s m #[Value.ref b] below meth c s₁.heap [] 0 0 (lw_Z below #[Value.ref b] s) (entryFrame m ([Value.ref b] : List Value).toArray 4) := by
      rw [hh0]
      exact whole_start l hflags hbd ⟨B.exec, B.bytes, B.returns, hml, hown, hts, hX, hbl, B.notSynchronized, hgv⟩
    obtain ⟨t, a1, o, b1, b2, b3⟩ := K s₁ rfl X₀
    exact ⟨t, o, a1, b1, b2, b3⟩
theorem lw_pre_spec {args : Array Value} {s : State} (h : (Jvm.Cond.and given_1 narrow_1).before args s = true) (hr : rest_1_c.before args s = true) : ∃ (b : Addr) (xs : List Int32), lw_P b xs args s := by
  have hs := flat_of_before _ h
  have hq := flat_of_before _ hr
  have hc : (Cond.count 1).before args s = true := hs _ (by decide +kernel)
  have harr : (Cond.arrayOf (.arg 0) .int).before args s = true := hs _ (by decide +kernel)
  have hle : (Cond.le (.length (.arg 0)) (.int 384)).before args s = true := hs _ (by decide +kernel)
  have hlen : (Cond.isInt (.length (.arg 0))).before args s = true := hq _ (by decide +kernel)
  have hall : (Cond.all (.arg 0) (.isInt (.elem (.arg 0) (.index 0)))).before args s = true := hq _ (by decide +kernel)
  obtain ⟨b, xs, hb, hx⟩ := State.ints_of_pre rfl harr hlen hall
  have hsm : xs.length < 2 ^ 31 := hx.choose_spec.2.2.2
  have hev : (Term.length (.arg 0)).eval args s none [] s = some (.int xs.length.toInt32) := hx.length_eval hb
  have hv := Cond.le_ints hev (show (Term.int 384).eval args s none [] s = some (.int 384) from rfl)
  have hd : xs.length.toInt32 ≤ 384 := by
    simpa [Cond.before, Cond.holds, hv] using hle
  have hN : xs.length ≤ 384 := (Int32.ofNat_le_ofNat hsm (by decide)).mp (show Int32.ofNat xs.length ≤ Int32.ofNat 384 from hd)
  exact ⟨b, xs, Cond.one_arg hc (show args[0]? = some (.ref b) from hb), hx, hN, h⟩
theorem lw_comes (l : Launch) (hflags : l.flags = flags0) : Comes l x (Jvm.Cond.code x code maxLocals ret :: tables_1) room_1 (fun tb e args s => Calls_1 tb e args s ∧ rest_1 tb e args s ∧ Pre_1 tb e args s)
    (fun _ _ args s o t => lw_Q args s o t) := by
  intro p e ha hc hk s m args below hf hfit hheap happ hpre
  obtain ⟨b, xs, hP⟩ := lw_pre_spec hpre.2.2 hpre.2.1
  obtain ⟨k, o, h1, h2, h3, hQ⟩ := lw_walk l hflags b xs p e ha hc hk s m args below hf ((Spec.applies_iff_loose hf).mp happ).1 hP trivial
  exact ⟨k, o, h1, h2, h3, hQ⟩
theorem lw_frame {s t : State} {o : Outcome} {args : Array Value} (h : Framed s o t [] 10 750) :
    Framed s o t (fieldLocs frame_1_writes args s ++ arrayLocs frame_1_arrays args s ++ staticLocs frame_1_statics s) 10 750 := h
theorem lw_limb (L : Cond) (hL : ∀ (args : Array Value) (s t : State), L.after args s (.returned (some (.int 1))) t = true) :
    ArmFor flags0 classFile x code maxLocals ret World_1 tables_1 room_1 Calls_1 rest_1 Pre_1
      (fun tb e a s o t => postC L tb e a s o t ∧ Framed s o t (fieldLocs frame_1_writes a s ++ arrayLocs frame_1_arrays a s ++ staticLocs frame_1_statics s) 10 750) := by
  intro l hflags _ _ p e ha hc hk s m args below hf hfit hheap happ hpre
  obtain ⟨k, o, h1, h2, h3, rfl, hF⟩ := lw_comes l hflags p e ha hc hk s m args below hf hfit hheap happ hpre
  exact ⟨k, _, h1, h2, h3, hL args s _, lw_frame hF⟩
theorem i_vc : Claimed_1_1 ∧ Claimed_1_2 := ⟨lw_limb limb_1_1 (fun args s t => by simp [limb_1_1, Cond.after, Cond.holds, Cond.value]), lw_limb limb_1_2 (fun args s t => Cond.after_iff.mpr (by
  first | (rw [show limb_1_2 = Cond.eq .result (.int 1) from rfl, Cond.eq_ints (x := 1) (y := 1) rfl rfl]; simp; done) | (simp [limb_1_2, Cond.value, Term.eval]; done)))⟩
end
