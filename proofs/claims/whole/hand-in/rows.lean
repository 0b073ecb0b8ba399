section
-- ===== PART A: goes FIRST, ahead of the names: the tables' words, and 'selects' of the private methods out of them =====
/-- a private method of a class that the tables say can be made, by its rows of tables_1 -/
def lw_okq (q : MethodName × Nat) : Prop := (q.1.cls ≠ "java/lang/invoke/MethodHandle" ∧ q.1.cls ≠ "java/lang/invoke/VarHandle") ∧ Cond.instantiable q.1.cls q.2 ∈ tables_1 ∧ Cond.privateMethod q.1 ∈ tables_1 ∧ Cond.instanceMethod q.1 ∈ tables_1
theorem lw_p0 : lw_okq (⟨"PageMerger", "setAllWords", "(II)V"⟩, 2) := ⟨⟨by decide +kernel, by decide +kernel⟩, List.mem_of_getElem? (i := 4) (by decide +kernel), List.mem_of_getElem? (i := 35) (by decide +kernel), List.mem_of_getElem? (i := 36) (by decide +kernel)⟩
theorem lw_p1 : lw_okq (⟨"PageMerger", "haveSameWords", "(II)Z"⟩, 2) := ⟨⟨by decide +kernel, by decide +kernel⟩, List.mem_of_getElem? (i := 4) (by decide +kernel), List.mem_of_getElem? (i := 67) (by decide +kernel), List.mem_of_getElem? (i := 68) (by decide +kernel)⟩
theorem lw_p2 : lw_okq (⟨"PageMerger", "repeatsAnEarlierPage", "(I)Z"⟩, 2) := ⟨⟨by decide +kernel, by decide +kernel⟩, List.mem_of_getElem? (i := 4) (by decide +kernel), List.mem_of_getElem? (i := 75) (by decide +kernel), List.mem_of_getElem? (i := 76) (by decide +kernel)⟩
theorem lw_p3 : lw_okq (⟨"PageMerger", "hasOneValue", "(I)Z"⟩, 2) := ⟨⟨by decide +kernel, by decide +kernel⟩, List.mem_of_getElem? (i := 4) (by decide +kernel), List.mem_of_getElem? (i := 91) (by decide +kernel), List.mem_of_getElem? (i := 92) (by decide +kernel)⟩
theorem lw_p4 : lw_okq (⟨"PageMergerModel", "isPage", "(I)Z"⟩, 2) := ⟨⟨by decide +kernel, by decide +kernel⟩, List.mem_of_getElem? (i := 98) (by decide +kernel), List.mem_of_getElem? (i := 115) (by decide +kernel), List.mem_of_getElem? (i := 116) (by decide +kernel)⟩
theorem lw_p5 : lw_okq (⟨"PageMergerModel", "again", "(I)Z"⟩, 2) := ⟨⟨by decide +kernel, by decide +kernel⟩, List.mem_of_getElem? (i := 98) (by decide +kernel), List.mem_of_getElem? (i := 157) (by decide +kernel), List.mem_of_getElem? (i := 158) (by decide +kernel)⟩
def lw_privs_1 : List (MethodName × Nat) := [(⟨"PageMerger", "setAllWords", "(II)V"⟩, 2), (⟨"PageMerger", "haveSameWords", "(II)Z"⟩, 2), (⟨"PageMerger", "repeatsAnEarlierPage", "(I)Z"⟩, 2), (⟨"PageMerger", "hasOneValue", "(I)Z"⟩, 2), (⟨"PageMergerModel", "isPage", "(I)Z"⟩, 2), (⟨"PageMergerModel", "again", "(I)Z"⟩, 2)]
theorem lw_r1 : ∀ q ∈ lw_privs_1, lw_okq q := List.forall_mem_cons.mpr ⟨lw_p0, List.forall_mem_cons.mpr ⟨lw_p1, List.forall_mem_cons.mpr ⟨lw_p2, List.forall_mem_cons.mpr ⟨lw_p3, List.forall_mem_cons.mpr ⟨lw_p4, List.forall_mem_cons.mpr ⟨lw_p5, fun _ h => absurd h List.not_mem_nil⟩⟩⟩⟩⟩⟩
def lw_privs : List (MethodName × Nat) := lw_privs_1
def lw_tbl : List Cond := k2_sels lw_privs ++ tables_1
theorem lw_privs_ok : ∀ q ∈ lw_privs, lw_okq q := lw_r1
/-! ===== BEGIN words of one list among another's, by their places ===== -/
theorem goodIn_r {big : List Cond} (ws : List Cond) (ps : List Nat) (hp : ws = ps.filterMap (fun i => big[i]?)) (h : ws.all goodWord = true) : GoodIn big ws := by
  intro w hw
  have h1 := List.all_eq_true.mp h w hw
  rw [hp] at hw
  obtain ⟨i, -, hi⟩ := List.mem_filterMap.mp hw
  have hm : w ∈ big := by first | exact List.mem_of_getElem? hi | exact List.getElem?_mem hi
  exact ⟨hm, good_of_word h1⟩
theorem goodIn_app {big a b : List Cond} (ha : GoodIn big a) (hb : GoodIn big b) : GoodIn big (a ++ b) := fun w h => (List.mem_append.mp h).elim (ha w) (hb w)
theorem goodIn_ca {big a b : List Cond} {c : Cond} (ha : GoodIn big (c :: a)) (hb : GoodIn big b) : GoodIn big (c :: (a ++ b)) := fun w h => (List.mem_cons.mp h).elim (fun e => ha w (List.mem_cons.mpr (Or.inl e))) (fun h => (List.mem_append.mp h).elim (fun h => ha w (List.mem_cons.mpr (Or.inr h))) (hb w))
theorem goodIn_sub {big ws : List Cond} (hm : ∀ w ∈ ws, w ∈ big) (h : ws.all goodWord = true) : GoodIn big ws := fun w hw => ⟨hm w hw, good_of_word (List.all_eq_true.mp h w hw)⟩
/-! ===== END ===== -/

/-! ===== BEGIN printed: names, fields, word lists, decode rows ===== -/
def RX0 : String := "PageMerger"
def TX0 : u_T := fun k => match k with
  | 0 => ("PageMerger", "words", "[I", true)
  | _ => ("PageMerger", "heldPages", "[Z", true)
def tyX0 : Nat → FieldType := fun k => match k with
  | 0 => .array .int
  | _ => .array .boolean
abbrev wsX00 : List Cond := u_ws RX0 TX0 2
theorem nmX0 : ∀ a, a < 2 → ∀ b, b < 2 → a ≠ b → (TX0 a).2.1 ≠ (TX0 b).2.1 := by decide +kernel
theorem tyX0_ok : ∀ k, k < 2 → parseFieldDescriptor (TX0 k).2.2.1 = some (tyX0 k) := by decide +kernel
abbrev cX0_init : ByteArray := prog_1_method_1_code
def yX0_init : MethodName := ⟨RX0, "<init>", "(I)V"⟩
abbrev cX0_write : ByteArray := prog_1_method_2_code
def yX0_write : MethodName := ⟨RX0, "write", "(III)I"⟩
abbrev cX0_fill : ByteArray := prog_1_method_3_code
def yX0_fill : MethodName := ⟨RX0, "fill", "(II)I"⟩
abbrev cX0_copy : ByteArray := prog_1_method_4_code
def yX0_copy : MethodName := ⟨RX0, "copy", "(II)I"⟩
abbrev cX0_swap : ByteArray := prog_1_method_5_code
def yX0_swap : MethodName := ⟨RX0, "swap", "(II)I"⟩
abbrev cX0_release : ByteArray := prog_1_method_6_code
def yX0_release : MethodName := ⟨RX0, "release", "(I)I"⟩
abbrev cX0_scan : ByteArray := prog_1_method_7_code
def yX0_scan : MethodName := ⟨RX0, "scan", "(I)V"⟩
abbrev cX0_read : ByteArray := prog_1_method_8_code
def yX0_read : MethodName := ⟨RX0, "read", "(II)I"⟩
abbrev cX0_held : ByteArray := prog_1_method_9_code
def yX0_held : MethodName := ⟨RX0, "held", "(I)Z"⟩
abbrev cX0_same : ByteArray := prog_1_method_10_code
def yX0_same : MethodName := ⟨RX0, "same", "(II)Z"⟩
abbrev cX0_contents : ByteArray := prog_1_method_11_code
def yX0_contents : MethodName := ⟨RX0, "contents", "()I"⟩
abbrev cX0_duplicates : ByteArray := prog_1_method_12_code
def yX0_duplicates : MethodName := ⟨RX0, "duplicates", "()I"⟩
abbrev cX0_sum : ByteArray := prog_1_method_13_code
def yX0_sum : MethodName := ⟨RX0, "sum", "(I)I"⟩
abbrev cX0_plain : ByteArray := prog_1_method_14_code
def yX0_plain : MethodName := ⟨RX0, "plain", "()I"⟩
abbrev cX0_isPage : ByteArray := prog_1_method_15_code
def yX0_isPage : MethodName := ⟨RX0, "isPage", "(I)Z"⟩
abbrev cX0_isWord : ByteArray := prog_1_method_16_code
def yX0_isWord : MethodName := ⟨RX0, "isWord", "(I)Z"⟩
abbrev cX0_setAllWords : ByteArray := prog_1_method_17_code
def yX0_setAllWords : MethodName := ⟨RX0, "setAllWords", "(II)V"⟩
abbrev cX0_haveSameWords : ByteArray := prog_1_method_18_code
def yX0_haveSameWords : MethodName := ⟨RX0, "haveSameWords", "(II)Z"⟩
abbrev cX0_repeatsAnEarlierPage : ByteArray := prog_1_method_19_code
def yX0_repeatsAnEarlierPage : MethodName := ⟨RX0, "repeatsAnEarlierPage", "(I)Z"⟩
abbrev cX0_hasOneValue : ByteArray := prog_1_method_20_code
def yX0_hasOneValue : MethodName := ⟨RX0, "hasOneValue", "(I)Z"⟩
def RX1 : String := "PageMergerModel"
def TX1 : u_T := fun k => match k with
  | 0 => ("PageMergerModel", "words", "[I", true)
  | _ => ("PageMergerModel", "released", "[Z", true)
def tyX1 : Nat → FieldType := fun k => match k with
  | 0 => .array .int
  | _ => .array .boolean
abbrev wsX10 : List Cond := u_ws RX1 TX1 2
theorem nmX1 : ∀ a, a < 2 → ∀ b, b < 2 → a ≠ b → (TX1 a).2.1 ≠ (TX1 b).2.1 := by decide +kernel
theorem tyX1_ok : ∀ k, k < 2 → parseFieldDescriptor (TX1 k).2.2.1 = some (tyX1 k) := by decide +kernel
abbrev cX1_init : ByteArray := prog_3_method_1_code
def yX1_init : MethodName := ⟨RX1, "<init>", "(I)V"⟩
abbrev cX1_isPage : ByteArray := prog_3_method_2_code
def yX1_isPage : MethodName := ⟨RX1, "isPage", "(I)Z"⟩
abbrev cX1_write : ByteArray := prog_3_method_3_code
def yX1_write : MethodName := ⟨RX1, "write", "(III)I"⟩
abbrev cX1_fill : ByteArray := prog_3_method_4_code
def yX1_fill : MethodName := ⟨RX1, "fill", "(II)I"⟩
abbrev cX1_copy : ByteArray := prog_3_method_5_code
def yX1_copy : MethodName := ⟨RX1, "copy", "(II)I"⟩
abbrev cX1_swap : ByteArray := prog_3_method_6_code
def yX1_swap : MethodName := ⟨RX1, "swap", "(II)I"⟩
abbrev cX1_release : ByteArray := prog_3_method_7_code
def yX1_release : MethodName := ⟨RX1, "release", "(I)I"⟩
abbrev cX1_scan : ByteArray := prog_3_method_8_code
def yX1_scan : MethodName := ⟨RX1, "scan", "(I)V"⟩
abbrev cX1_read : ByteArray := prog_3_method_9_code
def yX1_read : MethodName := ⟨RX1, "read", "(II)I"⟩
abbrev cX1_held : ByteArray := prog_3_method_10_code
def yX1_held : MethodName := ⟨RX1, "held", "(I)Z"⟩
abbrev cX1_same : ByteArray := prog_3_method_11_code
def yX1_same : MethodName := ⟨RX1, "same", "(II)Z"⟩
abbrev cX1_again : ByteArray := prog_3_method_12_code
def yX1_again : MethodName := ⟨RX1, "again", "(I)Z"⟩
abbrev cX1_contents : ByteArray := prog_3_method_13_code
def yX1_contents : MethodName := ⟨RX1, "contents", "()I"⟩
abbrev cX1_duplicates : ByteArray := prog_3_method_14_code
def yX1_duplicates : MethodName := ⟨RX1, "duplicates", "()I"⟩
abbrev cX1_sum : ByteArray := prog_3_method_15_code
def yX1_sum : MethodName := ⟨RX1, "sum", "(I)I"⟩
abbrev cX1_plain : ByteArray := prog_3_method_16_code
def yX1_plain : MethodName := ⟨RX1, "plain", "()I"⟩
def RL : String := "PageMergerLaw"
abbrev cL_cell : ByteArray := method_2_code
def yL_cell : MethodName := ⟨RL, "cell", "([II)I"⟩
abbrev cL_law : ByteArray := code
def yL_law : MethodName := ⟨RL, "law", "([I)Z"⟩
def wsX0_init : List Cond := .code yX0_init cX0_init 3 none :: ([.methodLink RX0 3 objectInit, .instanceMethod objectInit, .code objectInit ⟨#[0xb1]⟩ 1 none, .arrayClass .int, .fieldLink RX0 9 "PageMerger" "words" "[I", .arrayClass .boolean, .fieldLink RX0 13 "PageMerger" "heldPages" "[Z"] ++ wsX00)
def wsX0_isPage : List Cond := .code yX0_isPage cX0_isPage 1 (some .boolean) :: ([])
def wsX0_isWord : List Cond := .code yX0_isWord cX0_isWord 1 (some .boolean) :: ([])
def wsX0_write : List Cond := .code yX0_write cX0_write 5 (some .int) :: ([.fieldLink RX0 9 "PageMerger" "words" "[I", .fieldLink RX0 13 "PageMerger" "heldPages" "[Z", .methodLink RX0 17 yX0_isPage, .static yX0_isPage, .initialized RX0, .code yX0_isPage cX0_isPage 1 (some .boolean), .methodLink RX0 21 yX0_isWord, .static yX0_isWord, .code yX0_isWord cX0_isWord 1 (some .boolean)] ++ wsX00)
def wsX0_setAllWords : List Cond := .code yX0_setAllWords cX0_setAllWords 4 none :: ([.fieldLink RX0 9 "PageMerger" "words" "[I"] ++ wsX00)
def wsX0_fill : List Cond := .code yX0_fill cX0_fill 3 (some .int) :: ([.fieldLink RX0 13 "PageMerger" "heldPages" "[Z", .methodLink RX0 17 yX0_isPage, .static yX0_isPage, .initialized RX0, .code yX0_isPage cX0_isPage 1 (some .boolean), .methodLink RX0 24 yX0_setAllWords, .instanceMethod yX0_setAllWords, .selects RX0 yX0_setAllWords yX0_setAllWords, .code yX0_setAllWords cX0_setAllWords 4 none, .fieldLink RX0 9 "PageMerger" "words" "[I"] ++ wsX00)
def wsX0_copy : List Cond := .code yX0_copy cX0_copy 4 (some .int) :: ([.fieldLink RX0 9 "PageMerger" "words" "[I", .fieldLink RX0 13 "PageMerger" "heldPages" "[Z", .methodLink RX0 17 yX0_isPage, .static yX0_isPage, .initialized RX0, .code yX0_isPage cX0_isPage 1 (some .boolean)] ++ wsX00)
def wsX0_swap : List Cond := .code yX0_swap cX0_swap 5 (some .int) :: ([.fieldLink RX0 9 "PageMerger" "words" "[I", .fieldLink RX0 13 "PageMerger" "heldPages" "[Z", .methodLink RX0 17 yX0_isPage, .static yX0_isPage, .initialized RX0, .code yX0_isPage cX0_isPage 1 (some .boolean)] ++ wsX00)
def wsX0_release : List Cond := .code yX0_release cX0_release 2 (some .int) :: ([.fieldLink RX0 13 "PageMerger" "heldPages" "[Z", .methodLink RX0 17 yX0_isPage, .static yX0_isPage, .initialized RX0, .code yX0_isPage cX0_isPage 1 (some .boolean), .methodLink RX0 24 yX0_setAllWords, .instanceMethod yX0_setAllWords, .selects RX0 yX0_setAllWords yX0_setAllWords, .code yX0_setAllWords cX0_setAllWords 4 none, .fieldLink RX0 9 "PageMerger" "words" "[I"] ++ wsX00)
def wsX0_scan : List Cond := .code yX0_scan cX0_scan 2 none :: ([])
def wsX0_read : List Cond := .code yX0_read cX0_read 3 (some .int) :: ([.fieldLink RX0 9 "PageMerger" "words" "[I", .methodLink RX0 17 yX0_isPage, .static yX0_isPage, .initialized RX0, .code yX0_isPage cX0_isPage 1 (some .boolean), .methodLink RX0 21 yX0_isWord, .static yX0_isWord, .code yX0_isWord cX0_isWord 1 (some .boolean)] ++ wsX00)
def wsX0_held : List Cond := .code yX0_held cX0_held 2 (some .boolean) :: ([.fieldLink RX0 13 "PageMerger" "heldPages" "[Z", .methodLink RX0 17 yX0_isPage, .static yX0_isPage, .initialized RX0, .code yX0_isPage cX0_isPage 1 (some .boolean)] ++ wsX00)
def wsX0_haveSameWords : List Cond := .code yX0_haveSameWords cX0_haveSameWords 4 (some .boolean) :: ([.fieldLink RX0 9 "PageMerger" "words" "[I"] ++ wsX00)
def wsX0_same : List Cond := .code yX0_same cX0_same 3 (some .boolean) :: ([.methodLink RX0 17 yX0_isPage, .static yX0_isPage, .initialized RX0, .code yX0_isPage cX0_isPage 1 (some .boolean), .methodLink RX0 28 yX0_haveSameWords, .instanceMethod yX0_haveSameWords, .selects RX0 yX0_haveSameWords yX0_haveSameWords, .code yX0_haveSameWords cX0_haveSameWords 4 (some .boolean), .fieldLink RX0 9 "PageMerger" "words" "[I"] ++ wsX00)
def wsX0_repeatsAnEarlierPage : List Cond := .code yX0_repeatsAnEarlierPage cX0_repeatsAnEarlierPage 3 (some .boolean) :: ([.fieldLink RX0 13 "PageMerger" "heldPages" "[Z", .methodLink RX0 28 yX0_haveSameWords, .instanceMethod yX0_haveSameWords, .selects RX0 yX0_haveSameWords yX0_haveSameWords, .initialized RX0, .code yX0_haveSameWords cX0_haveSameWords 4 (some .boolean), .fieldLink RX0 9 "PageMerger" "words" "[I"] ++ wsX00)
def wsX0_contents : List Cond := .code yX0_contents cX0_contents 3 (some .int) :: ([.fieldLink RX0 13 "PageMerger" "heldPages" "[Z", .methodLink RX0 32 yX0_repeatsAnEarlierPage, .instanceMethod yX0_repeatsAnEarlierPage, .selects RX0 yX0_repeatsAnEarlierPage yX0_repeatsAnEarlierPage, .initialized RX0, .code yX0_repeatsAnEarlierPage cX0_repeatsAnEarlierPage 3 (some .boolean), .methodLink RX0 28 yX0_haveSameWords, .instanceMethod yX0_haveSameWords, .selects RX0 yX0_haveSameWords yX0_haveSameWords, .code yX0_haveSameWords cX0_haveSameWords 4 (some .boolean), .fieldLink RX0 9 "PageMerger" "words" "[I"] ++ wsX00)
def wsX0_duplicates : List Cond := .code yX0_duplicates cX0_duplicates 3 (some .int) :: ([.fieldLink RX0 13 "PageMerger" "heldPages" "[Z", .methodLink RX0 32 yX0_repeatsAnEarlierPage, .instanceMethod yX0_repeatsAnEarlierPage, .selects RX0 yX0_repeatsAnEarlierPage yX0_repeatsAnEarlierPage, .initialized RX0, .code yX0_repeatsAnEarlierPage cX0_repeatsAnEarlierPage 3 (some .boolean), .methodLink RX0 28 yX0_haveSameWords, .instanceMethod yX0_haveSameWords, .selects RX0 yX0_haveSameWords yX0_haveSameWords, .code yX0_haveSameWords cX0_haveSameWords 4 (some .boolean), .fieldLink RX0 9 "PageMerger" "words" "[I"] ++ wsX00)
def wsX0_sum : List Cond := .code yX0_sum cX0_sum 6 (some .int) :: ([.fieldLink RX0 9 "PageMerger" "words" "[I"] ++ wsX00)
def wsX0_hasOneValue : List Cond := .code yX0_hasOneValue cX0_hasOneValue 3 (some .boolean) :: ([.fieldLink RX0 9 "PageMerger" "words" "[I"] ++ wsX00)
def wsX0_plain : List Cond := .code yX0_plain cX0_plain 3 (some .int) :: ([.fieldLink RX0 13 "PageMerger" "heldPages" "[Z", .methodLink RX0 35 yX0_hasOneValue, .instanceMethod yX0_hasOneValue, .selects RX0 yX0_hasOneValue yX0_hasOneValue, .initialized RX0, .code yX0_hasOneValue cX0_hasOneValue 3 (some .boolean), .fieldLink RX0 9 "PageMerger" "words" "[I"] ++ wsX00)
def wsX1_init : List Cond := .code yX1_init cX1_init 2 none :: ([.methodLink RX1 1 objectInit, .instanceMethod objectInit, .code objectInit ⟨#[0xb1]⟩ 1 none, .arrayClass .int, .fieldLink RX1 7 "PageMergerModel" "words" "[I", .arrayClass .boolean, .fieldLink RX1 13 "PageMergerModel" "released" "[Z"] ++ wsX10)
def wsX1_isPage : List Cond := .code yX1_isPage cX1_isPage 2 (some .boolean) :: ([])
def wsX1_write : List Cond := .code yX1_write cX1_write 5 (some .int) :: ([.fieldLink RX1 7 "PageMergerModel" "words" "[I", .fieldLink RX1 13 "PageMergerModel" "released" "[Z", .methodLink RX1 17 yX1_isPage, .instanceMethod yX1_isPage, .selects RX1 yX1_isPage yX1_isPage, .initialized RX1, .code yX1_isPage cX1_isPage 2 (some .boolean)] ++ wsX10)
def wsX1_fill : List Cond := .code yX1_fill cX1_fill 4 (some .int) :: ([.fieldLink RX1 7 "PageMergerModel" "words" "[I", .fieldLink RX1 13 "PageMergerModel" "released" "[Z", .methodLink RX1 17 yX1_isPage, .instanceMethod yX1_isPage, .selects RX1 yX1_isPage yX1_isPage, .initialized RX1, .code yX1_isPage cX1_isPage 2 (some .boolean)] ++ wsX10)
def wsX1_copy : List Cond := .code yX1_copy cX1_copy 4 (some .int) :: ([.fieldLink RX1 7 "PageMergerModel" "words" "[I", .fieldLink RX1 13 "PageMergerModel" "released" "[Z", .methodLink RX1 17 yX1_isPage, .instanceMethod yX1_isPage, .selects RX1 yX1_isPage yX1_isPage, .initialized RX1, .code yX1_isPage cX1_isPage 2 (some .boolean)] ++ wsX10)
def wsX1_swap : List Cond := .code yX1_swap cX1_swap 5 (some .int) :: ([.fieldLink RX1 7 "PageMergerModel" "words" "[I", .fieldLink RX1 13 "PageMergerModel" "released" "[Z", .methodLink RX1 17 yX1_isPage, .instanceMethod yX1_isPage, .selects RX1 yX1_isPage yX1_isPage, .initialized RX1, .code yX1_isPage cX1_isPage 2 (some .boolean)] ++ wsX10)
def wsX1_release : List Cond := .code yX1_release cX1_release 2 (some .int) :: ([.fieldLink RX1 13 "PageMergerModel" "released" "[Z", .methodLink RX1 17 yX1_isPage, .instanceMethod yX1_isPage, .selects RX1 yX1_isPage yX1_isPage, .initialized RX1, .code yX1_isPage cX1_isPage 2 (some .boolean), .methodLink RX1 21 yX1_fill, .instanceMethod yX1_fill, .selects RX1 yX1_fill yX1_fill, .code yX1_fill cX1_fill 4 (some .int), .fieldLink RX1 7 "PageMergerModel" "words" "[I"] ++ wsX10)
def wsX1_scan : List Cond := .code yX1_scan cX1_scan 2 none :: ([])
def wsX1_read : List Cond := .code yX1_read cX1_read 3 (some .int) :: ([.fieldLink RX1 7 "PageMergerModel" "words" "[I", .methodLink RX1 17 yX1_isPage, .instanceMethod yX1_isPage, .selects RX1 yX1_isPage yX1_isPage, .initialized RX1, .code yX1_isPage cX1_isPage 2 (some .boolean)] ++ wsX10)
def wsX1_held : List Cond := .code yX1_held cX1_held 2 (some .boolean) :: ([.fieldLink RX1 13 "PageMergerModel" "released" "[Z", .methodLink RX1 17 yX1_isPage, .instanceMethod yX1_isPage, .selects RX1 yX1_isPage yX1_isPage, .initialized RX1, .code yX1_isPage cX1_isPage 2 (some .boolean)] ++ wsX10)
def wsX1_same : List Cond := .code yX1_same cX1_same 4 (some .boolean) :: ([.fieldLink RX1 7 "PageMergerModel" "words" "[I", .methodLink RX1 17 yX1_isPage, .instanceMethod yX1_isPage, .selects RX1 yX1_isPage yX1_isPage, .initialized RX1, .code yX1_isPage cX1_isPage 2 (some .boolean)] ++ wsX10)
def wsX1_again : List Cond := .code yX1_again cX1_again 3 (some .boolean) :: ([.methodLink RX1 25 yX1_held, .instanceMethod yX1_held, .selects RX1 yX1_held yX1_held, .initialized RX1, .code yX1_held cX1_held 2 (some .boolean), .fieldLink RX1 13 "PageMergerModel" "released" "[Z", .methodLink RX1 17 yX1_isPage, .instanceMethod yX1_isPage, .selects RX1 yX1_isPage yX1_isPage, .code yX1_isPage cX1_isPage 2 (some .boolean), .methodLink RX1 28 yX1_same, .instanceMethod yX1_same, .selects RX1 yX1_same yX1_same, .code yX1_same cX1_same 4 (some .boolean), .fieldLink RX1 7 "PageMergerModel" "words" "[I"] ++ wsX10)
def wsX1_contents : List Cond := .code yX1_contents cX1_contents 3 (some .int) :: ([.methodLink RX1 25 yX1_held, .instanceMethod yX1_held, .selects RX1 yX1_held yX1_held, .initialized RX1, .code yX1_held cX1_held 2 (some .boolean), .fieldLink RX1 13 "PageMergerModel" "released" "[Z", .methodLink RX1 17 yX1_isPage, .instanceMethod yX1_isPage, .selects RX1 yX1_isPage yX1_isPage, .code yX1_isPage cX1_isPage 2 (some .boolean), .methodLink RX1 32 yX1_again, .instanceMethod yX1_again, .selects RX1 yX1_again yX1_again, .code yX1_again cX1_again 3 (some .boolean), .methodLink RX1 28 yX1_same, .instanceMethod yX1_same, .selects RX1 yX1_same yX1_same, .code yX1_same cX1_same 4 (some .boolean), .fieldLink RX1 7 "PageMergerModel" "words" "[I"] ++ wsX10)
def wsX1_duplicates : List Cond := .code yX1_duplicates cX1_duplicates 3 (some .int) :: ([.methodLink RX1 25 yX1_held, .instanceMethod yX1_held, .selects RX1 yX1_held yX1_held, .initialized RX1, .code yX1_held cX1_held 2 (some .boolean), .fieldLink RX1 13 "PageMergerModel" "released" "[Z", .methodLink RX1 17 yX1_isPage, .instanceMethod yX1_isPage, .selects RX1 yX1_isPage yX1_isPage, .code yX1_isPage cX1_isPage 2 (some .boolean), .methodLink RX1 32 yX1_again, .instanceMethod yX1_again, .selects RX1 yX1_again yX1_again, .code yX1_again cX1_again 3 (some .boolean), .methodLink RX1 28 yX1_same, .instanceMethod yX1_same, .selects RX1 yX1_same yX1_same, .code yX1_same cX1_same 4 (some .boolean), .fieldLink RX1 7 "PageMergerModel" "words" "[I"] ++ wsX10)
def wsX1_sum : List Cond := .code yX1_sum cX1_sum 4 (some .int) :: ([.fieldLink RX1 7 "PageMergerModel" "words" "[I"] ++ wsX10)
def wsX1_plain : List Cond := .code yX1_plain cX1_plain 5 (some .int) :: ([.fieldLink RX1 7 "PageMergerModel" "words" "[I", .methodLink RX1 25 yX1_held, .instanceMethod yX1_held, .selects RX1 yX1_held yX1_held, .initialized RX1, .code yX1_held cX1_held 2 (some .boolean), .fieldLink RX1 13 "PageMergerModel" "released" "[Z", .methodLink RX1 17 yX1_isPage, .instanceMethod yX1_isPage, .selects RX1 yX1_isPage yX1_isPage, .code yX1_isPage cX1_isPage 2 (some .boolean)] ++ wsX10)
def wsL_cell : List Cond := .code yL_cell cL_cell 2 (some .int) :: ([])
def wsL_law_r1 : List Cond := [Cond.classLink RL 7 RX0, Cond.instantiable RX0 2, Cond.initialized RX0, Cond.classLink RL 18 RX1, Cond.instantiable RX1 2, Cond.initialized RX1, Cond.methodLink RL 9 yL_cell, Cond.static yL_cell, Cond.initialized RL, Cond.code yL_cell cL_cell 2 (some .int), Cond.methodLink RL 15 yX0_init, Cond.instanceMethod yX0_init, Cond.code yX0_init cX0_init 3 none, Cond.methodLink RX0 3 objectInit, Cond.instanceMethod objectInit, Cond.code objectInit ⟨#[0xb1]⟩ 1 none, Cond.arrayClass .int, Cond.fieldLink RX0 9 "PageMerger" "words" "[I", Cond.arrayClass .boolean, Cond.fieldLink RX0 13 "PageMerger" "heldPages" "[Z", Cond.methodLink RL 20 yX1_init, Cond.instanceMethod yX1_init, Cond.code yX1_init cX1_init 2 none, Cond.methodLink RX1 1 objectInit]
def wsL_law_r2 : List Cond := [Cond.fieldLink RX1 7 "PageMergerModel" "words" "[I", Cond.fieldLink RX1 13 "PageMergerModel" "released" "[Z", Cond.methodLink RL 21 yX0_write, Cond.instanceMethod yX0_write, Cond.selects RX0 yX0_write yX0_write, Cond.code yX0_write cX0_write 5 (some .int), Cond.methodLink RX0 17 yX0_isPage, Cond.static yX0_isPage, Cond.code yX0_isPage cX0_isPage 1 (some .boolean), Cond.methodLink RX0 21 yX0_isWord, Cond.static yX0_isWord, Cond.code yX0_isWord cX0_isWord 1 (some .boolean), Cond.methodLink RL 25 yX1_write, Cond.instanceMethod yX1_write, Cond.selects RX1 yX1_write yX1_write, Cond.code yX1_write cX1_write 5 (some .int), Cond.methodLink RX1 17 yX1_isPage, Cond.instanceMethod yX1_isPage, Cond.selects RX1 yX1_isPage yX1_isPage, Cond.code yX1_isPage cX1_isPage 2 (some .boolean), Cond.methodLink RL 26 yX0_fill, Cond.instanceMethod yX0_fill, Cond.selects RX0 yX0_fill yX0_fill, Cond.code yX0_fill cX0_fill 3 (some .int)]
def wsL_law_r3 : List Cond := [Cond.methodLink RX0 24 yX0_setAllWords, Cond.instanceMethod yX0_setAllWords, Cond.selects RX0 yX0_setAllWords yX0_setAllWords, Cond.code yX0_setAllWords cX0_setAllWords 4 none, Cond.methodLink RL 30 yX1_fill, Cond.instanceMethod yX1_fill, Cond.selects RX1 yX1_fill yX1_fill, Cond.code yX1_fill cX1_fill 4 (some .int), Cond.methodLink RL 31 yX0_copy, Cond.instanceMethod yX0_copy, Cond.selects RX0 yX0_copy yX0_copy, Cond.code yX0_copy cX0_copy 4 (some .int), Cond.methodLink RL 34 yX1_copy, Cond.instanceMethod yX1_copy, Cond.selects RX1 yX1_copy yX1_copy, Cond.code yX1_copy cX1_copy 4 (some .int), Cond.methodLink RL 35 yX0_swap, Cond.instanceMethod yX0_swap, Cond.selects RX0 yX0_swap yX0_swap, Cond.code yX0_swap cX0_swap 5 (some .int), Cond.methodLink RL 38 yX1_swap, Cond.instanceMethod yX1_swap, Cond.selects RX1 yX1_swap yX1_swap, Cond.code yX1_swap cX1_swap 5 (some .int)]
def wsL_law_r4 : List Cond := [Cond.methodLink RL 39 yX0_release, Cond.instanceMethod yX0_release, Cond.selects RX0 yX0_release yX0_release, Cond.code yX0_release cX0_release 2 (some .int), Cond.methodLink RL 43 yX1_release, Cond.instanceMethod yX1_release, Cond.selects RX1 yX1_release yX1_release, Cond.code yX1_release cX1_release 2 (some .int), Cond.methodLink RX1 21 yX1_fill, Cond.methodLink RL 44 yX0_scan, Cond.instanceMethod yX0_scan, Cond.selects RX0 yX0_scan yX0_scan, Cond.code yX0_scan cX0_scan 2 none, Cond.methodLink RL 47 yX1_scan, Cond.instanceMethod yX1_scan, Cond.selects RX1 yX1_scan yX1_scan, Cond.code yX1_scan cX1_scan 2 none, Cond.methodLink RL 48 yX0_read, Cond.instanceMethod yX0_read, Cond.selects RX0 yX0_read yX0_read, Cond.code yX0_read cX0_read 3 (some .int), Cond.methodLink RL 51 yX1_read, Cond.instanceMethod yX1_read, Cond.selects RX1 yX1_read yX1_read]
def wsL_law_r5 : List Cond := [Cond.code yX1_read cX1_read 3 (some .int), Cond.methodLink RL 52 yX0_held, Cond.instanceMethod yX0_held, Cond.selects RX0 yX0_held yX0_held, Cond.code yX0_held cX0_held 2 (some .boolean), Cond.methodLink RL 56 yX1_held, Cond.instanceMethod yX1_held, Cond.selects RX1 yX1_held yX1_held, Cond.code yX1_held cX1_held 2 (some .boolean), Cond.methodLink RL 57 yX0_same, Cond.instanceMethod yX0_same, Cond.selects RX0 yX0_same yX0_same, Cond.code yX0_same cX0_same 3 (some .boolean), Cond.methodLink RX0 28 yX0_haveSameWords, Cond.instanceMethod yX0_haveSameWords, Cond.selects RX0 yX0_haveSameWords yX0_haveSameWords, Cond.code yX0_haveSameWords cX0_haveSameWords 4 (some .boolean), Cond.methodLink RL 61 yX1_same, Cond.instanceMethod yX1_same, Cond.selects RX1 yX1_same yX1_same, Cond.code yX1_same cX1_same 4 (some .boolean), Cond.methodLink RL 62 yX0_contents, Cond.instanceMethod yX0_contents, Cond.selects RX0 yX0_contents yX0_contents]
def wsL_law_r6 : List Cond := [Cond.code yX0_contents cX0_contents 3 (some .int), Cond.methodLink RX0 32 yX0_repeatsAnEarlierPage, Cond.instanceMethod yX0_repeatsAnEarlierPage, Cond.selects RX0 yX0_repeatsAnEarlierPage yX0_repeatsAnEarlierPage, Cond.code yX0_repeatsAnEarlierPage cX0_repeatsAnEarlierPage 3 (some .boolean), Cond.methodLink RL 66 yX1_contents, Cond.instanceMethod yX1_contents, Cond.selects RX1 yX1_contents yX1_contents, Cond.code yX1_contents cX1_contents 3 (some .int), Cond.methodLink RX1 25 yX1_held, Cond.methodLink RX1 32 yX1_again, Cond.instanceMethod yX1_again, Cond.selects RX1 yX1_again yX1_again, Cond.code yX1_again cX1_again 3 (some .boolean), Cond.methodLink RX1 28 yX1_same, Cond.methodLink RL 67 yX0_duplicates, Cond.instanceMethod yX0_duplicates, Cond.selects RX0 yX0_duplicates yX0_duplicates, Cond.code yX0_duplicates cX0_duplicates 3 (some .int), Cond.methodLink RL 70 yX1_duplicates, Cond.instanceMethod yX1_duplicates, Cond.selects RX1 yX1_duplicates yX1_duplicates, Cond.code yX1_duplicates cX1_duplicates 3 (some .int), Cond.methodLink RL 71 yX0_sum]
def wsL_law_r7 : List Cond := [Cond.instanceMethod yX0_sum, Cond.selects RX0 yX0_sum yX0_sum, Cond.code yX0_sum cX0_sum 6 (some .int), Cond.methodLink RL 74 yX1_sum, Cond.instanceMethod yX1_sum, Cond.selects RX1 yX1_sum yX1_sum, Cond.code yX1_sum cX1_sum 4 (some .int), Cond.methodLink RL 75 yX0_plain, Cond.instanceMethod yX0_plain, Cond.selects RX0 yX0_plain yX0_plain, Cond.code yX0_plain cX0_plain 3 (some .int), Cond.methodLink RX0 35 yX0_hasOneValue, Cond.instanceMethod yX0_hasOneValue, Cond.selects RX0 yX0_hasOneValue yX0_hasOneValue, Cond.code yX0_hasOneValue cX0_hasOneValue 3 (some .boolean), Cond.methodLink RL 78 yX1_plain, Cond.instanceMethod yX1_plain, Cond.selects RX1 yX1_plain yX1_plain, Cond.code yX1_plain cX1_plain 5 (some .int)]
def wsL_law : List Cond := (wsL_law_r1 ++ (wsL_law_r2 ++ (wsL_law_r3 ++ (wsL_law_r4 ++ (wsL_law_r5 ++ (wsL_law_r6 ++ wsL_law_r7)))))) ++ wsX00 ++ wsX10 ++ ([] : List Cond)
set_option maxRecDepth 20000 in
theorem wsL_law_in : ∀ w ∈ wsL_law, w ∈ lw_tbl := fun w h => (goodIn_p wsL_law [102, 13, 16, 107, 29, 32, 35, 119, 123, 39, 43, 127, 47, 131, 51, 135, 55, 139, 59, 144, 63, 148, 67, 152, 71, 75, 156, 79, 83, 160, 165, 87, 170, 91, 174, 95, 99, 178] (by decide +kernel) (by decide +kernel) w h).1
theorem inlX0 : ∀ w ∈ wsX00, w ∈ wsL_law := fun _ h => List.mem_append_left _ (List.mem_append_left _ (List.mem_append_right _ h))
theorem inX0 : ∀ w ∈ wsX00, w ∈ lw_tbl := fun w h => wsL_law_in w (inlX0 w h)
theorem inlX1 : ∀ w ∈ wsX10, w ∈ wsL_law := fun _ h => List.mem_append_left _ (List.mem_append_right _ h)
theorem inX1 : ∀ w ∈ wsX10, w ∈ lw_tbl := fun w h => wsL_law_in w (inlX1 w h)
theorem dX0_init_0 : decode cX0_init 0 = .ok (.aload_n 0, 1) := by decide +kernel
theorem dX0_init_1 : decode cX0_init 1 = .ok (.invokespecial 3, 3) := by decide +kernel
theorem dX0_init_4 : decode cX0_init 4 = .ok (.aload_n 0, 1) := by decide +kernel
theorem dX0_init_5 : decode cX0_init 5 = .ok (.bipush 96, 2) := by decide +kernel
theorem dX0_init_7 : decode cX0_init 7 = .ok (.newarray .int, 2) := by decide +kernel
theorem dX0_init_9 : decode cX0_init 9 = .ok (.putfield 9, 3) := by decide +kernel
theorem dX0_init_12 : decode cX0_init 12 = .ok (.aload_n 0, 1) := by decide +kernel
theorem dX0_init_13 : decode cX0_init 13 = .ok (.bipush 24, 2) := by decide +kernel
theorem dX0_init_15 : decode cX0_init 15 = .ok (.newarray .boolean, 2) := by decide +kernel
theorem dX0_init_17 : decode cX0_init 17 = .ok (.putfield 13, 3) := by decide +kernel
theorem dX0_init_20 : decode cX0_init 20 = .ok (.iconst 0, 1) := by decide +kernel
theorem dX0_init_21 : decode cX0_init 21 = .ok (.istore_n 2, 1) := by decide +kernel
theorem dX0_init_22 : decode cX0_init 22 = .ok (.iload_n 2, 1) := by decide +kernel
theorem dX0_init_23 : decode cX0_init 23 = .ok (.bipush 24, 2) := by decide +kernel
theorem dX0_init_25 : decode cX0_init 25 = .ok (.if_icmp .ge 16, 3) := by decide +kernel
theorem dX0_init_28 : decode cX0_init 28 = .ok (.aload_n 0, 1) := by decide +kernel
theorem dX0_init_29 : decode cX0_init 29 = .ok (.getfield 13, 3) := by decide +kernel
theorem dX0_init_32 : decode cX0_init 32 = .ok (.iload_n 2, 1) := by decide +kernel
theorem dX0_init_33 : decode cX0_init 33 = .ok (.iconst 1, 1) := by decide +kernel
theorem dX0_init_34 : decode cX0_init 34 = .ok (.bastore, 1) := by decide +kernel
theorem dX0_init_35 : decode cX0_init 35 = .ok (.iinc 2 1, 3) := by decide +kernel
theorem dX0_init_38 : decode cX0_init 38 = .ok (.goto (-16), 3) := by decide +kernel
theorem dX0_init_41 : decode cX0_init 41 = .ok (.return_, 1) := by decide +kernel
set_option maxRecDepth 20000 in
theorem ggX0_write_X0_isPage : GoodIn wsX0_write wsX0_isPage := goodIn_r _ [6] (by decide +kernel) (by decide +kernel)
set_option maxRecDepth 20000 in
theorem gX0_write_X0_isPage : GoodIn wsX0_write (va_wsS RX0 17 yX0_isPage wsX0_isPage) := goodIn_app (goodIn_of _ (by decide +kernel)) ggX0_write_X0_isPage
set_option maxRecDepth 20000 in
theorem ggX0_write_X0_isWord : GoodIn wsX0_write wsX0_isWord := goodIn_r _ [9] (by decide +kernel) (by decide +kernel)
set_option maxRecDepth 20000 in
theorem gX0_write_X0_isWord : GoodIn wsX0_write (va_wsS RX0 21 yX0_isWord wsX0_isWord) := goodIn_app (goodIn_of _ (by decide +kernel)) ggX0_write_X0_isWord
theorem dX0_write_0 : decode cX0_write 0 = .ok (.iload_n 1, 1) := by decide +kernel
theorem dX0_write_1 : decode cX0_write 1 = .ok (.invokestatic 17, 3) := by decide +kernel
theorem dX0_write_4 : decode cX0_write 4 = .ok (.ifCond .ne 5, 3) := by decide +kernel
theorem dX0_write_7 : decode cX0_write 7 = .ok (.iconst (-1), 1) := by decide +kernel
theorem dX0_write_8 : decode cX0_write 8 = .ok (.ireturn, 1) := by decide +kernel
theorem dX0_write_9 : decode cX0_write 9 = .ok (.iload_n 2, 1) := by decide +kernel
theorem dX0_write_10 : decode cX0_write 10 = .ok (.invokestatic 21, 3) := by decide +kernel
theorem dX0_write_13 : decode cX0_write 13 = .ok (.ifCond .ne 6, 3) := by decide +kernel
theorem dX0_write_16 : decode cX0_write 16 = .ok (.bipush (-2), 2) := by decide +kernel
theorem dX0_write_18 : decode cX0_write 18 = .ok (.ireturn, 1) := by decide +kernel
theorem dX0_write_19 : decode cX0_write 19 = .ok (.aload_n 0, 1) := by decide +kernel
theorem dX0_write_20 : decode cX0_write 20 = .ok (.getfield 9, 3) := by decide +kernel
theorem dX0_write_23 : decode cX0_write 23 = .ok (.iload_n 1, 1) := by decide +kernel
theorem dX0_write_24 : decode cX0_write 24 = .ok (.iconst 4, 1) := by decide +kernel
theorem dX0_write_25 : decode cX0_write 25 = .ok (.imul, 1) := by decide +kernel
theorem dX0_write_26 : decode cX0_write 26 = .ok (.iload_n 2, 1) := by decide +kernel
theorem dX0_write_27 : decode cX0_write 27 = .ok (.iadd, 1) := by decide +kernel
theorem dX0_write_28 : decode cX0_write 28 = .ok (.iaload, 1) := by decide +kernel
theorem dX0_write_29 : decode cX0_write 29 = .ok (.istore 4, 2) := by decide +kernel
theorem dX0_write_31 : decode cX0_write 31 = .ok (.aload_n 0, 1) := by decide +kernel
theorem dX0_write_32 : decode cX0_write 32 = .ok (.getfield 9, 3) := by decide +kernel
theorem dX0_write_35 : decode cX0_write 35 = .ok (.iload_n 1, 1) := by decide +kernel
theorem dX0_write_36 : decode cX0_write 36 = .ok (.iconst 4, 1) := by decide +kernel
theorem dX0_write_37 : decode cX0_write 37 = .ok (.imul, 1) := by decide +kernel
theorem dX0_write_38 : decode cX0_write 38 = .ok (.iload_n 2, 1) := by decide +kernel
theorem dX0_write_39 : decode cX0_write 39 = .ok (.iadd, 1) := by decide +kernel
theorem dX0_write_40 : decode cX0_write 40 = .ok (.iload_n 3, 1) := by decide +kernel
theorem dX0_write_41 : decode cX0_write 41 = .ok (.iastore, 1) := by decide +kernel
theorem dX0_write_42 : decode cX0_write 42 = .ok (.aload_n 0, 1) := by decide +kernel
theorem dX0_write_43 : decode cX0_write 43 = .ok (.getfield 13, 3) := by decide +kernel
theorem dX0_write_46 : decode cX0_write 46 = .ok (.iload_n 1, 1) := by decide +kernel
theorem dX0_write_47 : decode cX0_write 47 = .ok (.iconst 1, 1) := by decide +kernel
theorem dX0_write_48 : decode cX0_write 48 = .ok (.bastore, 1) := by decide +kernel
theorem dX0_write_49 : decode cX0_write 49 = .ok (.iload 4, 2) := by decide +kernel
theorem dX0_write_51 : decode cX0_write 51 = .ok (.ireturn, 1) := by decide +kernel
set_option maxRecDepth 20000 in
theorem ggX0_fill_X0_isPage : GoodIn wsX0_fill wsX0_isPage := goodIn_r _ [5] (by decide +kernel) (by decide +kernel)
set_option maxRecDepth 20000 in
theorem gX0_fill_X0_isPage : GoodIn wsX0_fill (va_wsS RX0 17 yX0_isPage wsX0_isPage) := goodIn_app (goodIn_of _ (by decide +kernel)) ggX0_fill_X0_isPage
set_option maxRecDepth 20000 in
theorem ggX0_fill_X0_setAllWords : GoodIn wsX0_fill wsX0_setAllWords := goodIn_r _ [9, 10, 11, 12] (by decide +kernel) (by decide +kernel)
set_option maxRecDepth 20000 in
theorem gX0_fill_X0_setAllWords : GoodIn wsX0_fill (wsV RX0 24 RX0 yX0_setAllWords wsX0_setAllWords) := goodIn_app (goodIn_of _ (by decide +kernel)) ggX0_fill_X0_setAllWords
theorem dX0_fill_0 : decode cX0_fill 0 = .ok (.iload_n 1, 1) := by decide +kernel
theorem dX0_fill_1 : decode cX0_fill 1 = .ok (.invokestatic 17, 3) := by decide +kernel
theorem dX0_fill_4 : decode cX0_fill 4 = .ok (.ifCond .ne 5, 3) := by decide +kernel
theorem dX0_fill_7 : decode cX0_fill 7 = .ok (.iconst (-1), 1) := by decide +kernel
theorem dX0_fill_8 : decode cX0_fill 8 = .ok (.ireturn, 1) := by decide +kernel
theorem dX0_fill_9 : decode cX0_fill 9 = .ok (.aload_n 0, 1) := by decide +kernel
theorem dX0_fill_10 : decode cX0_fill 10 = .ok (.iload_n 1, 1) := by decide +kernel
theorem dX0_fill_11 : decode cX0_fill 11 = .ok (.iload_n 2, 1) := by decide +kernel
theorem dX0_fill_12 : decode cX0_fill 12 = .ok (.invokevirtual 24, 3) := by decide +kernel
theorem dX0_fill_15 : decode cX0_fill 15 = .ok (.aload_n 0, 1) := by decide +kernel
theorem dX0_fill_16 : decode cX0_fill 16 = .ok (.getfield 13, 3) := by decide +kernel
theorem dX0_fill_19 : decode cX0_fill 19 = .ok (.iload_n 1, 1) := by decide +kernel
theorem dX0_fill_20 : decode cX0_fill 20 = .ok (.iconst 1, 1) := by decide +kernel
theorem dX0_fill_21 : decode cX0_fill 21 = .ok (.bastore, 1) := by decide +kernel
theorem dX0_fill_22 : decode cX0_fill 22 = .ok (.iconst 0, 1) := by decide +kernel
theorem dX0_fill_23 : decode cX0_fill 23 = .ok (.ireturn, 1) := by decide +kernel
set_option maxRecDepth 20000 in
theorem ggX0_copy_X0_isPage : GoodIn wsX0_copy wsX0_isPage := goodIn_r _ [6] (by decide +kernel) (by decide +kernel)
set_option maxRecDepth 20000 in
theorem gX0_copy_X0_isPage : GoodIn wsX0_copy (va_wsS RX0 17 yX0_isPage wsX0_isPage) := goodIn_app (goodIn_of _ (by decide +kernel)) ggX0_copy_X0_isPage
theorem dX0_copy_0 : decode cX0_copy 0 = .ok (.iload_n 1, 1) := by decide +kernel
theorem dX0_copy_1 : decode cX0_copy 1 = .ok (.invokestatic 17, 3) := by decide +kernel
theorem dX0_copy_4 : decode cX0_copy 4 = .ok (.ifCond .eq 10, 3) := by decide +kernel
theorem dX0_copy_7 : decode cX0_copy 7 = .ok (.iload_n 2, 1) := by decide +kernel
theorem dX0_copy_8 : decode cX0_copy 8 = .ok (.invokestatic 17, 3) := by decide +kernel
theorem dX0_copy_11 : decode cX0_copy 11 = .ok (.ifCond .ne 5, 3) := by decide +kernel
theorem dX0_copy_14 : decode cX0_copy 14 = .ok (.iconst (-1), 1) := by decide +kernel
theorem dX0_copy_15 : decode cX0_copy 15 = .ok (.ireturn, 1) := by decide +kernel
theorem dX0_copy_16 : decode cX0_copy 16 = .ok (.iconst 0, 1) := by decide +kernel
theorem dX0_copy_17 : decode cX0_copy 17 = .ok (.istore_n 3, 1) := by decide +kernel
theorem dX0_copy_18 : decode cX0_copy 18 = .ok (.iload_n 3, 1) := by decide +kernel
theorem dX0_copy_19 : decode cX0_copy 19 = .ok (.iconst 4, 1) := by decide +kernel
theorem dX0_copy_20 : decode cX0_copy 20 = .ok (.if_icmp .ge 29, 3) := by decide +kernel
theorem dX0_copy_23 : decode cX0_copy 23 = .ok (.aload_n 0, 1) := by decide +kernel
theorem dX0_copy_24 : decode cX0_copy 24 = .ok (.getfield 9, 3) := by decide +kernel
theorem dX0_copy_27 : decode cX0_copy 27 = .ok (.iload_n 2, 1) := by decide +kernel
theorem dX0_copy_28 : decode cX0_copy 28 = .ok (.iconst 4, 1) := by decide +kernel
theorem dX0_copy_29 : decode cX0_copy 29 = .ok (.imul, 1) := by decide +kernel
theorem dX0_copy_30 : decode cX0_copy 30 = .ok (.iload_n 3, 1) := by decide +kernel
theorem dX0_copy_31 : decode cX0_copy 31 = .ok (.iadd, 1) := by decide +kernel
theorem dX0_copy_32 : decode cX0_copy 32 = .ok (.aload_n 0, 1) := by decide +kernel
theorem dX0_copy_33 : decode cX0_copy 33 = .ok (.getfield 9, 3) := by decide +kernel
theorem dX0_copy_36 : decode cX0_copy 36 = .ok (.iload_n 1, 1) := by decide +kernel
theorem dX0_copy_37 : decode cX0_copy 37 = .ok (.iconst 4, 1) := by decide +kernel
theorem dX0_copy_38 : decode cX0_copy 38 = .ok (.imul, 1) := by decide +kernel
theorem dX0_copy_39 : decode cX0_copy 39 = .ok (.iload_n 3, 1) := by decide +kernel
theorem dX0_copy_40 : decode cX0_copy 40 = .ok (.iadd, 1) := by decide +kernel
theorem dX0_copy_41 : decode cX0_copy 41 = .ok (.iaload, 1) := by decide +kernel
theorem dX0_copy_42 : decode cX0_copy 42 = .ok (.iastore, 1) := by decide +kernel
theorem dX0_copy_43 : decode cX0_copy 43 = .ok (.iinc 3 1, 3) := by decide +kernel
theorem dX0_copy_46 : decode cX0_copy 46 = .ok (.goto (-28), 3) := by decide +kernel
theorem dX0_copy_49 : decode cX0_copy 49 = .ok (.aload_n 0, 1) := by decide +kernel
theorem dX0_copy_50 : decode cX0_copy 50 = .ok (.getfield 13, 3) := by decide +kernel
theorem dX0_copy_53 : decode cX0_copy 53 = .ok (.iload_n 2, 1) := by decide +kernel
theorem dX0_copy_54 : decode cX0_copy 54 = .ok (.aload_n 0, 1) := by decide +kernel
theorem dX0_copy_55 : decode cX0_copy 55 = .ok (.getfield 13, 3) := by decide +kernel
theorem dX0_copy_58 : decode cX0_copy 58 = .ok (.iload_n 1, 1) := by decide +kernel
theorem dX0_copy_59 : decode cX0_copy 59 = .ok (.baload, 1) := by decide +kernel
theorem dX0_copy_60 : decode cX0_copy 60 = .ok (.bastore, 1) := by decide +kernel
theorem dX0_copy_61 : decode cX0_copy 61 = .ok (.iconst 0, 1) := by decide +kernel
theorem dX0_copy_62 : decode cX0_copy 62 = .ok (.ireturn, 1) := by decide +kernel
set_option maxRecDepth 20000 in
theorem ggX0_swap_X0_isPage : GoodIn wsX0_swap wsX0_isPage := goodIn_r _ [6] (by decide +kernel) (by decide +kernel)
set_option maxRecDepth 20000 in
theorem gX0_swap_X0_isPage : GoodIn wsX0_swap (va_wsS RX0 17 yX0_isPage wsX0_isPage) := goodIn_app (goodIn_of _ (by decide +kernel)) ggX0_swap_X0_isPage
theorem dX0_swap_0 : decode cX0_swap 0 = .ok (.iload_n 1, 1) := by decide +kernel
theorem dX0_swap_1 : decode cX0_swap 1 = .ok (.invokestatic 17, 3) := by decide +kernel
theorem dX0_swap_4 : decode cX0_swap 4 = .ok (.ifCond .eq 10, 3) := by decide +kernel
theorem dX0_swap_7 : decode cX0_swap 7 = .ok (.iload_n 2, 1) := by decide +kernel
theorem dX0_swap_8 : decode cX0_swap 8 = .ok (.invokestatic 17, 3) := by decide +kernel
theorem dX0_swap_11 : decode cX0_swap 11 = .ok (.ifCond .ne 5, 3) := by decide +kernel
theorem dX0_swap_14 : decode cX0_swap 14 = .ok (.iconst (-1), 1) := by decide +kernel
theorem dX0_swap_15 : decode cX0_swap 15 = .ok (.ireturn, 1) := by decide +kernel
theorem dX0_swap_16 : decode cX0_swap 16 = .ok (.iconst 0, 1) := by decide +kernel
theorem dX0_swap_17 : decode cX0_swap 17 = .ok (.istore_n 3, 1) := by decide +kernel
theorem dX0_swap_18 : decode cX0_swap 18 = .ok (.iload_n 3, 1) := by decide +kernel
theorem dX0_swap_19 : decode cX0_swap 19 = .ok (.iconst 4, 1) := by decide +kernel
theorem dX0_swap_20 : decode cX0_swap 20 = .ok (.if_icmp .ge 53, 3) := by decide +kernel
theorem dX0_swap_23 : decode cX0_swap 23 = .ok (.aload_n 0, 1) := by decide +kernel
theorem dX0_swap_24 : decode cX0_swap 24 = .ok (.getfield 9, 3) := by decide +kernel
theorem dX0_swap_27 : decode cX0_swap 27 = .ok (.iload_n 1, 1) := by decide +kernel
theorem dX0_swap_28 : decode cX0_swap 28 = .ok (.iconst 4, 1) := by decide +kernel
theorem dX0_swap_29 : decode cX0_swap 29 = .ok (.imul, 1) := by decide +kernel
theorem dX0_swap_30 : decode cX0_swap 30 = .ok (.iload_n 3, 1) := by decide +kernel
theorem dX0_swap_31 : decode cX0_swap 31 = .ok (.iadd, 1) := by decide +kernel
theorem dX0_swap_32 : decode cX0_swap 32 = .ok (.iaload, 1) := by decide +kernel
theorem dX0_swap_33 : decode cX0_swap 33 = .ok (.istore 4, 2) := by decide +kernel
theorem dX0_swap_35 : decode cX0_swap 35 = .ok (.aload_n 0, 1) := by decide +kernel
theorem dX0_swap_36 : decode cX0_swap 36 = .ok (.getfield 9, 3) := by decide +kernel
theorem dX0_swap_39 : decode cX0_swap 39 = .ok (.iload_n 1, 1) := by decide +kernel
theorem dX0_swap_40 : decode cX0_swap 40 = .ok (.iconst 4, 1) := by decide +kernel
theorem dX0_swap_41 : decode cX0_swap 41 = .ok (.imul, 1) := by decide +kernel
theorem dX0_swap_42 : decode cX0_swap 42 = .ok (.iload_n 3, 1) := by decide +kernel
theorem dX0_swap_43 : decode cX0_swap 43 = .ok (.iadd, 1) := by decide +kernel
theorem dX0_swap_44 : decode cX0_swap 44 = .ok (.aload_n 0, 1) := by decide +kernel
theorem dX0_swap_45 : decode cX0_swap 45 = .ok (.getfield 9, 3) := by decide +kernel
theorem dX0_swap_48 : decode cX0_swap 48 = .ok (.iload_n 2, 1) := by decide +kernel
theorem dX0_swap_49 : decode cX0_swap 49 = .ok (.iconst 4, 1) := by decide +kernel
theorem dX0_swap_50 : decode cX0_swap 50 = .ok (.imul, 1) := by decide +kernel
theorem dX0_swap_51 : decode cX0_swap 51 = .ok (.iload_n 3, 1) := by decide +kernel
theorem dX0_swap_52 : decode cX0_swap 52 = .ok (.iadd, 1) := by decide +kernel
theorem dX0_swap_53 : decode cX0_swap 53 = .ok (.iaload, 1) := by decide +kernel
theorem dX0_swap_54 : decode cX0_swap 54 = .ok (.iastore, 1) := by decide +kernel
theorem dX0_swap_55 : decode cX0_swap 55 = .ok (.aload_n 0, 1) := by decide +kernel
theorem dX0_swap_56 : decode cX0_swap 56 = .ok (.getfield 9, 3) := by decide +kernel
theorem dX0_swap_59 : decode cX0_swap 59 = .ok (.iload_n 2, 1) := by decide +kernel
theorem dX0_swap_60 : decode cX0_swap 60 = .ok (.iconst 4, 1) := by decide +kernel
theorem dX0_swap_61 : decode cX0_swap 61 = .ok (.imul, 1) := by decide +kernel
theorem dX0_swap_62 : decode cX0_swap 62 = .ok (.iload_n 3, 1) := by decide +kernel
theorem dX0_swap_63 : decode cX0_swap 63 = .ok (.iadd, 1) := by decide +kernel
theorem dX0_swap_64 : decode cX0_swap 64 = .ok (.iload 4, 2) := by decide +kernel
theorem dX0_swap_66 : decode cX0_swap 66 = .ok (.iastore, 1) := by decide +kernel
theorem dX0_swap_67 : decode cX0_swap 67 = .ok (.iinc 3 1, 3) := by decide +kernel
theorem dX0_swap_70 : decode cX0_swap 70 = .ok (.goto (-52), 3) := by decide +kernel
theorem dX0_swap_73 : decode cX0_swap 73 = .ok (.aload_n 0, 1) := by decide +kernel
theorem dX0_swap_74 : decode cX0_swap 74 = .ok (.getfield 13, 3) := by decide +kernel
theorem dX0_swap_77 : decode cX0_swap 77 = .ok (.iload_n 1, 1) := by decide +kernel
theorem dX0_swap_78 : decode cX0_swap 78 = .ok (.baload, 1) := by decide +kernel
theorem dX0_swap_79 : decode cX0_swap 79 = .ok (.istore_n 3, 1) := by decide +kernel
theorem dX0_swap_80 : decode cX0_swap 80 = .ok (.aload_n 0, 1) := by decide +kernel
theorem dX0_swap_81 : decode cX0_swap 81 = .ok (.getfield 13, 3) := by decide +kernel
theorem dX0_swap_84 : decode cX0_swap 84 = .ok (.iload_n 1, 1) := by decide +kernel
theorem dX0_swap_85 : decode cX0_swap 85 = .ok (.aload_n 0, 1) := by decide +kernel
theorem dX0_swap_86 : decode cX0_swap 86 = .ok (.getfield 13, 3) := by decide +kernel
theorem dX0_swap_89 : decode cX0_swap 89 = .ok (.iload_n 2, 1) := by decide +kernel
theorem dX0_swap_90 : decode cX0_swap 90 = .ok (.baload, 1) := by decide +kernel
theorem dX0_swap_91 : decode cX0_swap 91 = .ok (.bastore, 1) := by decide +kernel
theorem dX0_swap_92 : decode cX0_swap 92 = .ok (.aload_n 0, 1) := by decide +kernel
theorem dX0_swap_93 : decode cX0_swap 93 = .ok (.getfield 13, 3) := by decide +kernel
theorem dX0_swap_96 : decode cX0_swap 96 = .ok (.iload_n 2, 1) := by decide +kernel
theorem dX0_swap_97 : decode cX0_swap 97 = .ok (.iload_n 3, 1) := by decide +kernel
theorem dX0_swap_98 : decode cX0_swap 98 = .ok (.bastore, 1) := by decide +kernel
theorem dX0_swap_99 : decode cX0_swap 99 = .ok (.iconst 0, 1) := by decide +kernel
theorem dX0_swap_100 : decode cX0_swap 100 = .ok (.ireturn, 1) := by decide +kernel
set_option maxRecDepth 20000 in
theorem ggX0_release_X0_isPage : GoodIn wsX0_release wsX0_isPage := goodIn_r _ [5] (by decide +kernel) (by decide +kernel)
set_option maxRecDepth 20000 in
theorem gX0_release_X0_isPage : GoodIn wsX0_release (va_wsS RX0 17 yX0_isPage wsX0_isPage) := goodIn_app (goodIn_of _ (by decide +kernel)) ggX0_release_X0_isPage
set_option maxRecDepth 20000 in
theorem ggX0_release_X0_setAllWords : GoodIn wsX0_release wsX0_setAllWords := goodIn_r _ [9, 10, 11, 12] (by decide +kernel) (by decide +kernel)
set_option maxRecDepth 20000 in
theorem gX0_release_X0_setAllWords : GoodIn wsX0_release (wsV RX0 24 RX0 yX0_setAllWords wsX0_setAllWords) := goodIn_app (goodIn_of _ (by decide +kernel)) ggX0_release_X0_setAllWords
theorem dX0_release_0 : decode cX0_release 0 = .ok (.iload_n 1, 1) := by decide +kernel
theorem dX0_release_1 : decode cX0_release 1 = .ok (.invokestatic 17, 3) := by decide +kernel
theorem dX0_release_4 : decode cX0_release 4 = .ok (.ifCond .ne 5, 3) := by decide +kernel
theorem dX0_release_7 : decode cX0_release 7 = .ok (.iconst (-1), 1) := by decide +kernel
theorem dX0_release_8 : decode cX0_release 8 = .ok (.ireturn, 1) := by decide +kernel
theorem dX0_release_9 : decode cX0_release 9 = .ok (.aload_n 0, 1) := by decide +kernel
theorem dX0_release_10 : decode cX0_release 10 = .ok (.getfield 13, 3) := by decide +kernel
theorem dX0_release_13 : decode cX0_release 13 = .ok (.iload_n 1, 1) := by decide +kernel
theorem dX0_release_14 : decode cX0_release 14 = .ok (.baload, 1) := by decide +kernel
theorem dX0_release_15 : decode cX0_release 15 = .ok (.ifCond .ne 6, 3) := by decide +kernel
theorem dX0_release_18 : decode cX0_release 18 = .ok (.bipush (-3), 2) := by decide +kernel
theorem dX0_release_20 : decode cX0_release 20 = .ok (.ireturn, 1) := by decide +kernel
theorem dX0_release_21 : decode cX0_release 21 = .ok (.aload_n 0, 1) := by decide +kernel
theorem dX0_release_22 : decode cX0_release 22 = .ok (.iload_n 1, 1) := by decide +kernel
theorem dX0_release_23 : decode cX0_release 23 = .ok (.iconst 0, 1) := by decide +kernel
theorem dX0_release_24 : decode cX0_release 24 = .ok (.invokevirtual 24, 3) := by decide +kernel
theorem dX0_release_27 : decode cX0_release 27 = .ok (.aload_n 0, 1) := by decide +kernel
theorem dX0_release_28 : decode cX0_release 28 = .ok (.getfield 13, 3) := by decide +kernel
theorem dX0_release_31 : decode cX0_release 31 = .ok (.iload_n 1, 1) := by decide +kernel
theorem dX0_release_32 : decode cX0_release 32 = .ok (.iconst 0, 1) := by decide +kernel
theorem dX0_release_33 : decode cX0_release 33 = .ok (.bastore, 1) := by decide +kernel
theorem dX0_release_34 : decode cX0_release 34 = .ok (.iconst 0, 1) := by decide +kernel
theorem dX0_release_35 : decode cX0_release 35 = .ok (.ireturn, 1) := by decide +kernel
theorem dX0_scan_0 : decode cX0_scan 0 = .ok (.return_, 1) := by decide +kernel
set_option maxRecDepth 20000 in
theorem ggX0_read_X0_isPage : GoodIn wsX0_read wsX0_isPage := goodIn_r _ [5] (by decide +kernel) (by decide +kernel)
set_option maxRecDepth 20000 in
theorem gX0_read_X0_isPage : GoodIn wsX0_read (va_wsS RX0 17 yX0_isPage wsX0_isPage) := goodIn_app (goodIn_of _ (by decide +kernel)) ggX0_read_X0_isPage
set_option maxRecDepth 20000 in
theorem ggX0_read_X0_isWord : GoodIn wsX0_read wsX0_isWord := goodIn_r _ [8] (by decide +kernel) (by decide +kernel)
set_option maxRecDepth 20000 in
theorem gX0_read_X0_isWord : GoodIn wsX0_read (va_wsS RX0 21 yX0_isWord wsX0_isWord) := goodIn_app (goodIn_of _ (by decide +kernel)) ggX0_read_X0_isWord
theorem dX0_read_0 : decode cX0_read 0 = .ok (.iload_n 1, 1) := by decide +kernel
theorem dX0_read_1 : decode cX0_read 1 = .ok (.invokestatic 17, 3) := by decide +kernel
theorem dX0_read_4 : decode cX0_read 4 = .ok (.ifCond .ne 5, 3) := by decide +kernel
theorem dX0_read_7 : decode cX0_read 7 = .ok (.iconst (-1), 1) := by decide +kernel
theorem dX0_read_8 : decode cX0_read 8 = .ok (.ireturn, 1) := by decide +kernel
theorem dX0_read_9 : decode cX0_read 9 = .ok (.iload_n 2, 1) := by decide +kernel
theorem dX0_read_10 : decode cX0_read 10 = .ok (.invokestatic 21, 3) := by decide +kernel
theorem dX0_read_13 : decode cX0_read 13 = .ok (.ifCond .ne 6, 3) := by decide +kernel
theorem dX0_read_16 : decode cX0_read 16 = .ok (.bipush (-2), 2) := by decide +kernel
theorem dX0_read_18 : decode cX0_read 18 = .ok (.ireturn, 1) := by decide +kernel
theorem dX0_read_19 : decode cX0_read 19 = .ok (.aload_n 0, 1) := by decide +kernel
theorem dX0_read_20 : decode cX0_read 20 = .ok (.getfield 9, 3) := by decide +kernel
theorem dX0_read_23 : decode cX0_read 23 = .ok (.iload_n 1, 1) := by decide +kernel
theorem dX0_read_24 : decode cX0_read 24 = .ok (.iconst 4, 1) := by decide +kernel
theorem dX0_read_25 : decode cX0_read 25 = .ok (.imul, 1) := by decide +kernel
theorem dX0_read_26 : decode cX0_read 26 = .ok (.iload_n 2, 1) := by decide +kernel
theorem dX0_read_27 : decode cX0_read 27 = .ok (.iadd, 1) := by decide +kernel
theorem dX0_read_28 : decode cX0_read 28 = .ok (.iaload, 1) := by decide +kernel
theorem dX0_read_29 : decode cX0_read 29 = .ok (.ireturn, 1) := by decide +kernel
set_option maxRecDepth 20000 in
theorem ggX0_held_X0_isPage : GoodIn wsX0_held wsX0_isPage := goodIn_r _ [5] (by decide +kernel) (by decide +kernel)
set_option maxRecDepth 20000 in
theorem gX0_held_X0_isPage : GoodIn wsX0_held (va_wsS RX0 17 yX0_isPage wsX0_isPage) := goodIn_app (goodIn_of _ (by decide +kernel)) ggX0_held_X0_isPage
theorem dX0_held_0 : decode cX0_held 0 = .ok (.iload_n 1, 1) := by decide +kernel
theorem dX0_held_1 : decode cX0_held 1 = .ok (.invokestatic 17, 3) := by decide +kernel
theorem dX0_held_4 : decode cX0_held 4 = .ok (.ifCond .eq 16, 3) := by decide +kernel
theorem dX0_held_7 : decode cX0_held 7 = .ok (.aload_n 0, 1) := by decide +kernel
theorem dX0_held_8 : decode cX0_held 8 = .ok (.getfield 13, 3) := by decide +kernel
theorem dX0_held_11 : decode cX0_held 11 = .ok (.iload_n 1, 1) := by decide +kernel
theorem dX0_held_12 : decode cX0_held 12 = .ok (.baload, 1) := by decide +kernel
theorem dX0_held_13 : decode cX0_held 13 = .ok (.ifCond .eq 7, 3) := by decide +kernel
theorem dX0_held_16 : decode cX0_held 16 = .ok (.iconst 1, 1) := by decide +kernel
theorem dX0_held_17 : decode cX0_held 17 = .ok (.goto 4, 3) := by decide +kernel
theorem dX0_held_20 : decode cX0_held 20 = .ok (.iconst 0, 1) := by decide +kernel
theorem dX0_held_21 : decode cX0_held 21 = .ok (.ireturn, 1) := by decide +kernel
set_option maxRecDepth 20000 in
theorem ggX0_same_X0_isPage : GoodIn wsX0_same wsX0_isPage := goodIn_r _ [4] (by decide +kernel) (by decide +kernel)
set_option maxRecDepth 20000 in
theorem gX0_same_X0_isPage : GoodIn wsX0_same (va_wsS RX0 17 yX0_isPage wsX0_isPage) := goodIn_app (goodIn_of _ (by decide +kernel)) ggX0_same_X0_isPage
set_option maxRecDepth 20000 in
theorem ggX0_same_X0_haveSameWords : GoodIn wsX0_same wsX0_haveSameWords := goodIn_r _ [8, 9, 10, 11] (by decide +kernel) (by decide +kernel)
set_option maxRecDepth 20000 in
theorem gX0_same_X0_haveSameWords : GoodIn wsX0_same (wsV RX0 28 RX0 yX0_haveSameWords wsX0_haveSameWords) := goodIn_app (goodIn_of _ (by decide +kernel)) ggX0_same_X0_haveSameWords
theorem dX0_same_0 : decode cX0_same 0 = .ok (.iload_n 1, 1) := by decide +kernel
theorem dX0_same_1 : decode cX0_same 1 = .ok (.invokestatic 17, 3) := by decide +kernel
theorem dX0_same_4 : decode cX0_same 4 = .ok (.ifCond .eq 23, 3) := by decide +kernel
theorem dX0_same_7 : decode cX0_same 7 = .ok (.iload_n 2, 1) := by decide +kernel
theorem dX0_same_8 : decode cX0_same 8 = .ok (.invokestatic 17, 3) := by decide +kernel
theorem dX0_same_11 : decode cX0_same 11 = .ok (.ifCond .eq 16, 3) := by decide +kernel
theorem dX0_same_14 : decode cX0_same 14 = .ok (.aload_n 0, 1) := by decide +kernel
theorem dX0_same_15 : decode cX0_same 15 = .ok (.iload_n 1, 1) := by decide +kernel
theorem dX0_same_16 : decode cX0_same 16 = .ok (.iload_n 2, 1) := by decide +kernel
theorem dX0_same_17 : decode cX0_same 17 = .ok (.invokevirtual 28, 3) := by decide +kernel
theorem dX0_same_20 : decode cX0_same 20 = .ok (.ifCond .eq 7, 3) := by decide +kernel
theorem dX0_same_23 : decode cX0_same 23 = .ok (.iconst 1, 1) := by decide +kernel
theorem dX0_same_24 : decode cX0_same 24 = .ok (.goto 4, 3) := by decide +kernel
theorem dX0_same_27 : decode cX0_same 27 = .ok (.iconst 0, 1) := by decide +kernel
theorem dX0_same_28 : decode cX0_same 28 = .ok (.ireturn, 1) := by decide +kernel
set_option maxRecDepth 20000 in
theorem ggX0_contents_X0_repeatsAnEarlierPage : GoodIn wsX0_contents wsX0_repeatsAnEarlierPage := goodIn_r _ [6, 1, 7, 8, 9, 5, 10, 11, 12, 13] (by decide +kernel) (by decide +kernel)
set_option maxRecDepth 20000 in
theorem gX0_contents_X0_repeatsAnEarlierPage : GoodIn wsX0_contents (wsV RX0 32 RX0 yX0_repeatsAnEarlierPage wsX0_repeatsAnEarlierPage) := goodIn_app (goodIn_of _ (by decide +kernel)) ggX0_contents_X0_repeatsAnEarlierPage
theorem dX0_contents_0 : decode cX0_contents 0 = .ok (.iconst 0, 1) := by decide +kernel
theorem dX0_contents_1 : decode cX0_contents 1 = .ok (.istore_n 1, 1) := by decide +kernel
theorem dX0_contents_2 : decode cX0_contents 2 = .ok (.iconst 0, 1) := by decide +kernel
theorem dX0_contents_3 : decode cX0_contents 3 = .ok (.istore_n 2, 1) := by decide +kernel
theorem dX0_contents_4 : decode cX0_contents 4 = .ok (.iload_n 2, 1) := by decide +kernel
theorem dX0_contents_5 : decode cX0_contents 5 = .ok (.bipush 24, 2) := by decide +kernel
theorem dX0_contents_7 : decode cX0_contents 7 = .ok (.if_icmp .ge 29, 3) := by decide +kernel
theorem dX0_contents_10 : decode cX0_contents 10 = .ok (.aload_n 0, 1) := by decide +kernel
theorem dX0_contents_11 : decode cX0_contents 11 = .ok (.getfield 13, 3) := by decide +kernel
theorem dX0_contents_14 : decode cX0_contents 14 = .ok (.iload_n 2, 1) := by decide +kernel
theorem dX0_contents_15 : decode cX0_contents 15 = .ok (.baload, 1) := by decide +kernel
theorem dX0_contents_16 : decode cX0_contents 16 = .ok (.ifCond .eq 14, 3) := by decide +kernel
theorem dX0_contents_19 : decode cX0_contents 19 = .ok (.aload_n 0, 1) := by decide +kernel
theorem dX0_contents_20 : decode cX0_contents 20 = .ok (.iload_n 2, 1) := by decide +kernel
theorem dX0_contents_21 : decode cX0_contents 21 = .ok (.invokevirtual 32, 3) := by decide +kernel
theorem dX0_contents_24 : decode cX0_contents 24 = .ok (.ifCond .ne 6, 3) := by decide +kernel
theorem dX0_contents_27 : decode cX0_contents 27 = .ok (.iinc 1 1, 3) := by decide +kernel
theorem dX0_contents_30 : decode cX0_contents 30 = .ok (.iinc 2 1, 3) := by decide +kernel
theorem dX0_contents_33 : decode cX0_contents 33 = .ok (.goto (-29), 3) := by decide +kernel
theorem dX0_contents_36 : decode cX0_contents 36 = .ok (.iload_n 1, 1) := by decide +kernel
theorem dX0_contents_37 : decode cX0_contents 37 = .ok (.ireturn, 1) := by decide +kernel
set_option maxRecDepth 20000 in
theorem ggX0_duplicates_X0_repeatsAnEarlierPage : GoodIn wsX0_duplicates wsX0_repeatsAnEarlierPage := goodIn_r _ [6, 1, 7, 8, 9, 5, 10, 11, 12, 13] (by decide +kernel) (by decide +kernel)
set_option maxRecDepth 20000 in
theorem gX0_duplicates_X0_repeatsAnEarlierPage : GoodIn wsX0_duplicates (wsV RX0 32 RX0 yX0_repeatsAnEarlierPage wsX0_repeatsAnEarlierPage) := goodIn_app (goodIn_of _ (by decide +kernel)) ggX0_duplicates_X0_repeatsAnEarlierPage
theorem dX0_duplicates_0 : decode cX0_duplicates 0 = .ok (.iconst 0, 1) := by decide +kernel
theorem dX0_duplicates_1 : decode cX0_duplicates 1 = .ok (.istore_n 1, 1) := by decide +kernel
theorem dX0_duplicates_2 : decode cX0_duplicates 2 = .ok (.iconst 0, 1) := by decide +kernel
theorem dX0_duplicates_3 : decode cX0_duplicates 3 = .ok (.istore_n 2, 1) := by decide +kernel
theorem dX0_duplicates_4 : decode cX0_duplicates 4 = .ok (.iload_n 2, 1) := by decide +kernel
theorem dX0_duplicates_5 : decode cX0_duplicates 5 = .ok (.bipush 24, 2) := by decide +kernel
theorem dX0_duplicates_7 : decode cX0_duplicates 7 = .ok (.if_icmp .ge 29, 3) := by decide +kernel
theorem dX0_duplicates_10 : decode cX0_duplicates 10 = .ok (.aload_n 0, 1) := by decide +kernel
theorem dX0_duplicates_11 : decode cX0_duplicates 11 = .ok (.getfield 13, 3) := by decide +kernel
theorem dX0_duplicates_14 : decode cX0_duplicates 14 = .ok (.iload_n 2, 1) := by decide +kernel
theorem dX0_duplicates_15 : decode cX0_duplicates 15 = .ok (.baload, 1) := by decide +kernel
theorem dX0_duplicates_16 : decode cX0_duplicates 16 = .ok (.ifCond .eq 14, 3) := by decide +kernel
theorem dX0_duplicates_19 : decode cX0_duplicates 19 = .ok (.aload_n 0, 1) := by decide +kernel
theorem dX0_duplicates_20 : decode cX0_duplicates 20 = .ok (.iload_n 2, 1) := by decide +kernel
theorem dX0_duplicates_21 : decode cX0_duplicates 21 = .ok (.invokevirtual 32, 3) := by decide +kernel
theorem dX0_duplicates_24 : decode cX0_duplicates 24 = .ok (.ifCond .eq 6, 3) := by decide +kernel
theorem dX0_duplicates_27 : decode cX0_duplicates 27 = .ok (.iinc 1 1, 3) := by decide +kernel
theorem dX0_duplicates_30 : decode cX0_duplicates 30 = .ok (.iinc 2 1, 3) := by decide +kernel
theorem dX0_duplicates_33 : decode cX0_duplicates 33 = .ok (.goto (-29), 3) := by decide +kernel
theorem dX0_duplicates_36 : decode cX0_duplicates 36 = .ok (.iload_n 1, 1) := by decide +kernel
theorem dX0_duplicates_37 : decode cX0_duplicates 37 = .ok (.ireturn, 1) := by decide +kernel
theorem dX0_sum_0 : decode cX0_sum 0 = .ok (.iload_n 1, 1) := by decide +kernel
theorem dX0_sum_1 : decode cX0_sum 1 = .ok (.ifCond .lt 8, 3) := by decide +kernel
theorem dX0_sum_4 : decode cX0_sum 4 = .ok (.iload_n 1, 1) := by decide +kernel
theorem dX0_sum_5 : decode cX0_sum 5 = .ok (.iconst 3, 1) := by decide +kernel
theorem dX0_sum_6 : decode cX0_sum 6 = .ok (.if_icmp .lt 5, 3) := by decide +kernel
theorem dX0_sum_9 : decode cX0_sum 9 = .ok (.iconst 0, 1) := by decide +kernel
theorem dX0_sum_10 : decode cX0_sum 10 = .ok (.ireturn, 1) := by decide +kernel
theorem dX0_sum_11 : decode cX0_sum 11 = .ok (.bipush 32, 2) := by decide +kernel
theorem dX0_sum_13 : decode cX0_sum 13 = .ok (.istore_n 2, 1) := by decide +kernel
theorem dX0_sum_14 : decode cX0_sum 14 = .ok (.iload_n 1, 1) := by decide +kernel
theorem dX0_sum_15 : decode cX0_sum 15 = .ok (.iload_n 2, 1) := by decide +kernel
theorem dX0_sum_16 : decode cX0_sum 16 = .ok (.imul, 1) := by decide +kernel
theorem dX0_sum_17 : decode cX0_sum 17 = .ok (.istore_n 3, 1) := by decide +kernel
theorem dX0_sum_18 : decode cX0_sum 18 = .ok (.iconst 0, 1) := by decide +kernel
theorem dX0_sum_19 : decode cX0_sum 19 = .ok (.istore 4, 2) := by decide +kernel
theorem dX0_sum_21 : decode cX0_sum 21 = .ok (.iconst 0, 1) := by decide +kernel
theorem dX0_sum_22 : decode cX0_sum 22 = .ok (.istore 5, 2) := by decide +kernel
theorem dX0_sum_24 : decode cX0_sum 24 = .ok (.iload 5, 2) := by decide +kernel
theorem dX0_sum_26 : decode cX0_sum 26 = .ok (.iload_n 2, 1) := by decide +kernel
theorem dX0_sum_27 : decode cX0_sum 27 = .ok (.if_icmp .ge 23, 3) := by decide +kernel
theorem dX0_sum_30 : decode cX0_sum 30 = .ok (.iload 4, 2) := by decide +kernel
theorem dX0_sum_32 : decode cX0_sum 32 = .ok (.aload_n 0, 1) := by decide +kernel
theorem dX0_sum_33 : decode cX0_sum 33 = .ok (.getfield 9, 3) := by decide +kernel
theorem dX0_sum_36 : decode cX0_sum 36 = .ok (.iload_n 3, 1) := by decide +kernel
theorem dX0_sum_37 : decode cX0_sum 37 = .ok (.iload 5, 2) := by decide +kernel
theorem dX0_sum_39 : decode cX0_sum 39 = .ok (.iadd, 1) := by decide +kernel
theorem dX0_sum_40 : decode cX0_sum 40 = .ok (.iaload, 1) := by decide +kernel
theorem dX0_sum_41 : decode cX0_sum 41 = .ok (.iadd, 1) := by decide +kernel
theorem dX0_sum_42 : decode cX0_sum 42 = .ok (.istore 4, 2) := by decide +kernel
theorem dX0_sum_44 : decode cX0_sum 44 = .ok (.iinc 5 1, 3) := by decide +kernel
theorem dX0_sum_47 : decode cX0_sum 47 = .ok (.goto (-23), 3) := by decide +kernel
theorem dX0_sum_50 : decode cX0_sum 50 = .ok (.iload 4, 2) := by decide +kernel
theorem dX0_sum_52 : decode cX0_sum 52 = .ok (.ireturn, 1) := by decide +kernel
set_option maxRecDepth 20000 in
theorem ggX0_plain_X0_hasOneValue : GoodIn wsX0_plain wsX0_hasOneValue := goodIn_r _ [6, 7, 8, 9] (by decide +kernel) (by decide +kernel)
set_option maxRecDepth 20000 in
theorem gX0_plain_X0_hasOneValue : GoodIn wsX0_plain (wsV RX0 35 RX0 yX0_hasOneValue wsX0_hasOneValue) := goodIn_app (goodIn_of _ (by decide +kernel)) ggX0_plain_X0_hasOneValue
theorem dX0_plain_0 : decode cX0_plain 0 = .ok (.iconst 0, 1) := by decide +kernel
theorem dX0_plain_1 : decode cX0_plain 1 = .ok (.istore_n 1, 1) := by decide +kernel
theorem dX0_plain_2 : decode cX0_plain 2 = .ok (.iconst 0, 1) := by decide +kernel
theorem dX0_plain_3 : decode cX0_plain 3 = .ok (.istore_n 2, 1) := by decide +kernel
theorem dX0_plain_4 : decode cX0_plain 4 = .ok (.iload_n 2, 1) := by decide +kernel
theorem dX0_plain_5 : decode cX0_plain 5 = .ok (.bipush 24, 2) := by decide +kernel
theorem dX0_plain_7 : decode cX0_plain 7 = .ok (.if_icmp .ge 29, 3) := by decide +kernel
theorem dX0_plain_10 : decode cX0_plain 10 = .ok (.aload_n 0, 1) := by decide +kernel
theorem dX0_plain_11 : decode cX0_plain 11 = .ok (.getfield 13, 3) := by decide +kernel
theorem dX0_plain_14 : decode cX0_plain 14 = .ok (.iload_n 2, 1) := by decide +kernel
theorem dX0_plain_15 : decode cX0_plain 15 = .ok (.baload, 1) := by decide +kernel
theorem dX0_plain_16 : decode cX0_plain 16 = .ok (.ifCond .eq 14, 3) := by decide +kernel
theorem dX0_plain_19 : decode cX0_plain 19 = .ok (.aload_n 0, 1) := by decide +kernel
theorem dX0_plain_20 : decode cX0_plain 20 = .ok (.iload_n 2, 1) := by decide +kernel
theorem dX0_plain_21 : decode cX0_plain 21 = .ok (.invokevirtual 35, 3) := by decide +kernel
theorem dX0_plain_24 : decode cX0_plain 24 = .ok (.ifCond .eq 6, 3) := by decide +kernel
theorem dX0_plain_27 : decode cX0_plain 27 = .ok (.iinc 1 1, 3) := by decide +kernel
theorem dX0_plain_30 : decode cX0_plain 30 = .ok (.iinc 2 1, 3) := by decide +kernel
theorem dX0_plain_33 : decode cX0_plain 33 = .ok (.goto (-29), 3) := by decide +kernel
theorem dX0_plain_36 : decode cX0_plain 36 = .ok (.iload_n 1, 1) := by decide +kernel
theorem dX0_plain_37 : decode cX0_plain 37 = .ok (.ireturn, 1) := by decide +kernel
theorem dX0_isPage_0 : decode cX0_isPage 0 = .ok (.iload_n 0, 1) := by decide +kernel
theorem dX0_isPage_1 : decode cX0_isPage 1 = .ok (.ifCond .lt 13, 3) := by decide +kernel
theorem dX0_isPage_4 : decode cX0_isPage 4 = .ok (.iload_n 0, 1) := by decide +kernel
theorem dX0_isPage_5 : decode cX0_isPage 5 = .ok (.bipush 24, 2) := by decide +kernel
theorem dX0_isPage_7 : decode cX0_isPage 7 = .ok (.if_icmp .ge 7, 3) := by decide +kernel
theorem dX0_isPage_10 : decode cX0_isPage 10 = .ok (.iconst 1, 1) := by decide +kernel
theorem dX0_isPage_11 : decode cX0_isPage 11 = .ok (.goto 4, 3) := by decide +kernel
theorem dX0_isPage_14 : decode cX0_isPage 14 = .ok (.iconst 0, 1) := by decide +kernel
theorem dX0_isPage_15 : decode cX0_isPage 15 = .ok (.ireturn, 1) := by decide +kernel
theorem dX0_isWord_0 : decode cX0_isWord 0 = .ok (.iload_n 0, 1) := by decide +kernel
theorem dX0_isWord_1 : decode cX0_isWord 1 = .ok (.ifCond .lt 12, 3) := by decide +kernel
theorem dX0_isWord_4 : decode cX0_isWord 4 = .ok (.iload_n 0, 1) := by decide +kernel
theorem dX0_isWord_5 : decode cX0_isWord 5 = .ok (.iconst 4, 1) := by decide +kernel
theorem dX0_isWord_6 : decode cX0_isWord 6 = .ok (.if_icmp .ge 7, 3) := by decide +kernel
theorem dX0_isWord_9 : decode cX0_isWord 9 = .ok (.iconst 1, 1) := by decide +kernel
theorem dX0_isWord_10 : decode cX0_isWord 10 = .ok (.goto 4, 3) := by decide +kernel
theorem dX0_isWord_13 : decode cX0_isWord 13 = .ok (.iconst 0, 1) := by decide +kernel
theorem dX0_isWord_14 : decode cX0_isWord 14 = .ok (.ireturn, 1) := by decide +kernel
theorem dX0_setAllWords_0 : decode cX0_setAllWords 0 = .ok (.iconst 0, 1) := by decide +kernel
theorem dX0_setAllWords_1 : decode cX0_setAllWords 1 = .ok (.istore_n 3, 1) := by decide +kernel
theorem dX0_setAllWords_2 : decode cX0_setAllWords 2 = .ok (.iload_n 3, 1) := by decide +kernel
theorem dX0_setAllWords_3 : decode cX0_setAllWords 3 = .ok (.iconst 4, 1) := by decide +kernel
theorem dX0_setAllWords_4 : decode cX0_setAllWords 4 = .ok (.if_icmp .ge 20, 3) := by decide +kernel
theorem dX0_setAllWords_7 : decode cX0_setAllWords 7 = .ok (.aload_n 0, 1) := by decide +kernel
theorem dX0_setAllWords_8 : decode cX0_setAllWords 8 = .ok (.getfield 9, 3) := by decide +kernel
theorem dX0_setAllWords_11 : decode cX0_setAllWords 11 = .ok (.iload_n 1, 1) := by decide +kernel
theorem dX0_setAllWords_12 : decode cX0_setAllWords 12 = .ok (.iconst 4, 1) := by decide +kernel
theorem dX0_setAllWords_13 : decode cX0_setAllWords 13 = .ok (.imul, 1) := by decide +kernel
theorem dX0_setAllWords_14 : decode cX0_setAllWords 14 = .ok (.iload_n 3, 1) := by decide +kernel
theorem dX0_setAllWords_15 : decode cX0_setAllWords 15 = .ok (.iadd, 1) := by decide +kernel
theorem dX0_setAllWords_16 : decode cX0_setAllWords 16 = .ok (.iload_n 2, 1) := by decide +kernel
theorem dX0_setAllWords_17 : decode cX0_setAllWords 17 = .ok (.iastore, 1) := by decide +kernel
theorem dX0_setAllWords_18 : decode cX0_setAllWords 18 = .ok (.iinc 3 1, 3) := by decide +kernel
theorem dX0_setAllWords_21 : decode cX0_setAllWords 21 = .ok (.goto (-19), 3) := by decide +kernel
theorem dX0_setAllWords_24 : decode cX0_setAllWords 24 = .ok (.return_, 1) := by decide +kernel
theorem dX0_haveSameWords_0 : decode cX0_haveSameWords 0 = .ok (.iconst 0, 1) := by decide +kernel
theorem dX0_haveSameWords_1 : decode cX0_haveSameWords 1 = .ok (.istore_n 3, 1) := by decide +kernel
theorem dX0_haveSameWords_2 : decode cX0_haveSameWords 2 = .ok (.iload_n 3, 1) := by decide +kernel
theorem dX0_haveSameWords_3 : decode cX0_haveSameWords 3 = .ok (.iconst 4, 1) := by decide +kernel
theorem dX0_haveSameWords_4 : decode cX0_haveSameWords 4 = .ok (.if_icmp .ge 34, 3) := by decide +kernel
theorem dX0_haveSameWords_7 : decode cX0_haveSameWords 7 = .ok (.aload_n 0, 1) := by decide +kernel
theorem dX0_haveSameWords_8 : decode cX0_haveSameWords 8 = .ok (.getfield 9, 3) := by decide +kernel
theorem dX0_haveSameWords_11 : decode cX0_haveSameWords 11 = .ok (.iload_n 1, 1) := by decide +kernel
theorem dX0_haveSameWords_12 : decode cX0_haveSameWords 12 = .ok (.iconst 4, 1) := by decide +kernel
theorem dX0_haveSameWords_13 : decode cX0_haveSameWords 13 = .ok (.imul, 1) := by decide +kernel
theorem dX0_haveSameWords_14 : decode cX0_haveSameWords 14 = .ok (.iload_n 3, 1) := by decide +kernel
theorem dX0_haveSameWords_15 : decode cX0_haveSameWords 15 = .ok (.iadd, 1) := by decide +kernel
theorem dX0_haveSameWords_16 : decode cX0_haveSameWords 16 = .ok (.iaload, 1) := by decide +kernel
theorem dX0_haveSameWords_17 : decode cX0_haveSameWords 17 = .ok (.aload_n 0, 1) := by decide +kernel
theorem dX0_haveSameWords_18 : decode cX0_haveSameWords 18 = .ok (.getfield 9, 3) := by decide +kernel
theorem dX0_haveSameWords_21 : decode cX0_haveSameWords 21 = .ok (.iload_n 2, 1) := by decide +kernel
theorem dX0_haveSameWords_22 : decode cX0_haveSameWords 22 = .ok (.iconst 4, 1) := by decide +kernel
theorem dX0_haveSameWords_23 : decode cX0_haveSameWords 23 = .ok (.imul, 1) := by decide +kernel
theorem dX0_haveSameWords_24 : decode cX0_haveSameWords 24 = .ok (.iload_n 3, 1) := by decide +kernel
theorem dX0_haveSameWords_25 : decode cX0_haveSameWords 25 = .ok (.iadd, 1) := by decide +kernel
theorem dX0_haveSameWords_26 : decode cX0_haveSameWords 26 = .ok (.iaload, 1) := by decide +kernel
theorem dX0_haveSameWords_27 : decode cX0_haveSameWords 27 = .ok (.if_icmp .eq 5, 3) := by decide +kernel
theorem dX0_haveSameWords_30 : decode cX0_haveSameWords 30 = .ok (.iconst 0, 1) := by decide +kernel
theorem dX0_haveSameWords_31 : decode cX0_haveSameWords 31 = .ok (.ireturn, 1) := by decide +kernel
theorem dX0_haveSameWords_32 : decode cX0_haveSameWords 32 = .ok (.iinc 3 1, 3) := by decide +kernel
theorem dX0_haveSameWords_35 : decode cX0_haveSameWords 35 = .ok (.goto (-33), 3) := by decide +kernel
theorem dX0_haveSameWords_38 : decode cX0_haveSameWords 38 = .ok (.iconst 1, 1) := by decide +kernel
theorem dX0_haveSameWords_39 : decode cX0_haveSameWords 39 = .ok (.ireturn, 1) := by decide +kernel
set_option maxRecDepth 20000 in
theorem ggX0_repeatsAnEarlierPage_X0_haveSameWords : GoodIn wsX0_repeatsAnEarlierPage wsX0_haveSameWords := goodIn_r _ [6, 7, 8, 9] (by decide +kernel) (by decide +kernel)
set_option maxRecDepth 20000 in
theorem gX0_repeatsAnEarlierPage_X0_haveSameWords : GoodIn wsX0_repeatsAnEarlierPage (wsV RX0 28 RX0 yX0_haveSameWords wsX0_haveSameWords) := goodIn_app (goodIn_of _ (by decide +kernel)) ggX0_repeatsAnEarlierPage_X0_haveSameWords
theorem dX0_repeatsAnEarlierPage_0 : decode cX0_repeatsAnEarlierPage 0 = .ok (.iconst 0, 1) := by decide +kernel
theorem dX0_repeatsAnEarlierPage_1 : decode cX0_repeatsAnEarlierPage 1 = .ok (.istore_n 2, 1) := by decide +kernel
theorem dX0_repeatsAnEarlierPage_2 : decode cX0_repeatsAnEarlierPage 2 = .ok (.iload_n 2, 1) := by decide +kernel
theorem dX0_repeatsAnEarlierPage_3 : decode cX0_repeatsAnEarlierPage 3 = .ok (.iload_n 1, 1) := by decide +kernel
theorem dX0_repeatsAnEarlierPage_4 : decode cX0_repeatsAnEarlierPage 4 = .ok (.if_icmp .ge 29, 3) := by decide +kernel
theorem dX0_repeatsAnEarlierPage_7 : decode cX0_repeatsAnEarlierPage 7 = .ok (.aload_n 0, 1) := by decide +kernel
theorem dX0_repeatsAnEarlierPage_8 : decode cX0_repeatsAnEarlierPage 8 = .ok (.getfield 13, 3) := by decide +kernel
theorem dX0_repeatsAnEarlierPage_11 : decode cX0_repeatsAnEarlierPage 11 = .ok (.iload_n 2, 1) := by decide +kernel
theorem dX0_repeatsAnEarlierPage_12 : decode cX0_repeatsAnEarlierPage 12 = .ok (.baload, 1) := by decide +kernel
theorem dX0_repeatsAnEarlierPage_13 : decode cX0_repeatsAnEarlierPage 13 = .ok (.ifCond .eq 14, 3) := by decide +kernel
theorem dX0_repeatsAnEarlierPage_16 : decode cX0_repeatsAnEarlierPage 16 = .ok (.aload_n 0, 1) := by decide +kernel
theorem dX0_repeatsAnEarlierPage_17 : decode cX0_repeatsAnEarlierPage 17 = .ok (.iload_n 2, 1) := by decide +kernel
theorem dX0_repeatsAnEarlierPage_18 : decode cX0_repeatsAnEarlierPage 18 = .ok (.iload_n 1, 1) := by decide +kernel
theorem dX0_repeatsAnEarlierPage_19 : decode cX0_repeatsAnEarlierPage 19 = .ok (.invokevirtual 28, 3) := by decide +kernel
theorem dX0_repeatsAnEarlierPage_22 : decode cX0_repeatsAnEarlierPage 22 = .ok (.ifCond .eq 5, 3) := by decide +kernel
theorem dX0_repeatsAnEarlierPage_25 : decode cX0_repeatsAnEarlierPage 25 = .ok (.iconst 1, 1) := by decide +kernel
theorem dX0_repeatsAnEarlierPage_26 : decode cX0_repeatsAnEarlierPage 26 = .ok (.ireturn, 1) := by decide +kernel
theorem dX0_repeatsAnEarlierPage_27 : decode cX0_repeatsAnEarlierPage 27 = .ok (.iinc 2 1, 3) := by decide +kernel
theorem dX0_repeatsAnEarlierPage_30 : decode cX0_repeatsAnEarlierPage 30 = .ok (.goto (-28), 3) := by decide +kernel
theorem dX0_repeatsAnEarlierPage_33 : decode cX0_repeatsAnEarlierPage 33 = .ok (.iconst 0, 1) := by decide +kernel
theorem dX0_repeatsAnEarlierPage_34 : decode cX0_repeatsAnEarlierPage 34 = .ok (.ireturn, 1) := by decide +kernel
theorem dX0_hasOneValue_0 : decode cX0_hasOneValue 0 = .ok (.iconst 1, 1) := by decide +kernel
theorem dX0_hasOneValue_1 : decode cX0_hasOneValue 1 = .ok (.istore_n 2, 1) := by decide +kernel
theorem dX0_hasOneValue_2 : decode cX0_hasOneValue 2 = .ok (.iload_n 2, 1) := by decide +kernel
theorem dX0_hasOneValue_3 : decode cX0_hasOneValue 3 = .ok (.iconst 4, 1) := by decide +kernel
theorem dX0_hasOneValue_4 : decode cX0_hasOneValue 4 = .ok (.if_icmp .ge 32, 3) := by decide +kernel
theorem dX0_hasOneValue_7 : decode cX0_hasOneValue 7 = .ok (.aload_n 0, 1) := by decide +kernel
theorem dX0_hasOneValue_8 : decode cX0_hasOneValue 8 = .ok (.getfield 9, 3) := by decide +kernel
theorem dX0_hasOneValue_11 : decode cX0_hasOneValue 11 = .ok (.iload_n 1, 1) := by decide +kernel
theorem dX0_hasOneValue_12 : decode cX0_hasOneValue 12 = .ok (.iconst 4, 1) := by decide +kernel
theorem dX0_hasOneValue_13 : decode cX0_hasOneValue 13 = .ok (.imul, 1) := by decide +kernel
theorem dX0_hasOneValue_14 : decode cX0_hasOneValue 14 = .ok (.iload_n 2, 1) := by decide +kernel
theorem dX0_hasOneValue_15 : decode cX0_hasOneValue 15 = .ok (.iadd, 1) := by decide +kernel
theorem dX0_hasOneValue_16 : decode cX0_hasOneValue 16 = .ok (.iaload, 1) := by decide +kernel
theorem dX0_hasOneValue_17 : decode cX0_hasOneValue 17 = .ok (.aload_n 0, 1) := by decide +kernel
theorem dX0_hasOneValue_18 : decode cX0_hasOneValue 18 = .ok (.getfield 9, 3) := by decide +kernel
theorem dX0_hasOneValue_21 : decode cX0_hasOneValue 21 = .ok (.iload_n 1, 1) := by decide +kernel
theorem dX0_hasOneValue_22 : decode cX0_hasOneValue 22 = .ok (.iconst 4, 1) := by decide +kernel
theorem dX0_hasOneValue_23 : decode cX0_hasOneValue 23 = .ok (.imul, 1) := by decide +kernel
theorem dX0_hasOneValue_24 : decode cX0_hasOneValue 24 = .ok (.iaload, 1) := by decide +kernel
theorem dX0_hasOneValue_25 : decode cX0_hasOneValue 25 = .ok (.if_icmp .eq 5, 3) := by decide +kernel
theorem dX0_hasOneValue_28 : decode cX0_hasOneValue 28 = .ok (.iconst 0, 1) := by decide +kernel
theorem dX0_hasOneValue_29 : decode cX0_hasOneValue 29 = .ok (.ireturn, 1) := by decide +kernel
theorem dX0_hasOneValue_30 : decode cX0_hasOneValue 30 = .ok (.iinc 2 1, 3) := by decide +kernel
theorem dX0_hasOneValue_33 : decode cX0_hasOneValue 33 = .ok (.goto (-31), 3) := by decide +kernel
theorem dX0_hasOneValue_36 : decode cX0_hasOneValue 36 = .ok (.iconst 1, 1) := by decide +kernel
theorem dX0_hasOneValue_37 : decode cX0_hasOneValue 37 = .ok (.ireturn, 1) := by decide +kernel
theorem dX1_init_0 : decode cX1_init 0 = .ok (.aload_n 0, 1) := by decide +kernel
theorem dX1_init_1 : decode cX1_init 1 = .ok (.invokespecial 1, 3) := by decide +kernel
theorem dX1_init_4 : decode cX1_init 4 = .ok (.aload_n 0, 1) := by decide +kernel
theorem dX1_init_5 : decode cX1_init 5 = .ok (.bipush 96, 2) := by decide +kernel
theorem dX1_init_7 : decode cX1_init 7 = .ok (.newarray .int, 2) := by decide +kernel
theorem dX1_init_9 : decode cX1_init 9 = .ok (.putfield 7, 3) := by decide +kernel
theorem dX1_init_12 : decode cX1_init 12 = .ok (.aload_n 0, 1) := by decide +kernel
theorem dX1_init_13 : decode cX1_init 13 = .ok (.bipush 24, 2) := by decide +kernel
theorem dX1_init_15 : decode cX1_init 15 = .ok (.newarray .boolean, 2) := by decide +kernel
theorem dX1_init_17 : decode cX1_init 17 = .ok (.putfield 13, 3) := by decide +kernel
theorem dX1_init_20 : decode cX1_init 20 = .ok (.return_, 1) := by decide +kernel
theorem dX1_isPage_0 : decode cX1_isPage 0 = .ok (.iload_n 1, 1) := by decide +kernel
theorem dX1_isPage_1 : decode cX1_isPage 1 = .ok (.ifCond .lt 13, 3) := by decide +kernel
theorem dX1_isPage_4 : decode cX1_isPage 4 = .ok (.iload_n 1, 1) := by decide +kernel
theorem dX1_isPage_5 : decode cX1_isPage 5 = .ok (.bipush 24, 2) := by decide +kernel
theorem dX1_isPage_7 : decode cX1_isPage 7 = .ok (.if_icmp .ge 7, 3) := by decide +kernel
theorem dX1_isPage_10 : decode cX1_isPage 10 = .ok (.iconst 1, 1) := by decide +kernel
theorem dX1_isPage_11 : decode cX1_isPage 11 = .ok (.goto 4, 3) := by decide +kernel
theorem dX1_isPage_14 : decode cX1_isPage 14 = .ok (.iconst 0, 1) := by decide +kernel
theorem dX1_isPage_15 : decode cX1_isPage 15 = .ok (.ireturn, 1) := by decide +kernel
set_option maxRecDepth 20000 in
theorem ggX1_write_X1_isPage : GoodIn wsX1_write wsX1_isPage := goodIn_r _ [7] (by decide +kernel) (by decide +kernel)
set_option maxRecDepth 20000 in
theorem gX1_write_X1_isPage : GoodIn wsX1_write (wsV RX1 17 RX1 yX1_isPage wsX1_isPage) := goodIn_app (goodIn_of _ (by decide +kernel)) ggX1_write_X1_isPage
theorem dX1_write_0 : decode cX1_write 0 = .ok (.aload_n 0, 1) := by decide +kernel
theorem dX1_write_1 : decode cX1_write 1 = .ok (.iload_n 1, 1) := by decide +kernel
theorem dX1_write_2 : decode cX1_write 2 = .ok (.invokevirtual 17, 3) := by decide +kernel
theorem dX1_write_5 : decode cX1_write 5 = .ok (.ifCond .ne 5, 3) := by decide +kernel
theorem dX1_write_8 : decode cX1_write 8 = .ok (.iconst (-1), 1) := by decide +kernel
theorem dX1_write_9 : decode cX1_write 9 = .ok (.ireturn, 1) := by decide +kernel
theorem dX1_write_10 : decode cX1_write 10 = .ok (.iload_n 2, 1) := by decide +kernel
theorem dX1_write_11 : decode cX1_write 11 = .ok (.ifCond .lt 8, 3) := by decide +kernel
theorem dX1_write_14 : decode cX1_write 14 = .ok (.iload_n 2, 1) := by decide +kernel
theorem dX1_write_15 : decode cX1_write 15 = .ok (.iconst 3, 1) := by decide +kernel
theorem dX1_write_16 : decode cX1_write 16 = .ok (.if_icmp .le 6, 3) := by decide +kernel
theorem dX1_write_19 : decode cX1_write 19 = .ok (.bipush (-2), 2) := by decide +kernel
theorem dX1_write_21 : decode cX1_write 21 = .ok (.ireturn, 1) := by decide +kernel
theorem dX1_write_22 : decode cX1_write 22 = .ok (.aload_n 0, 1) := by decide +kernel
theorem dX1_write_23 : decode cX1_write 23 = .ok (.getfield 7, 3) := by decide +kernel
theorem dX1_write_26 : decode cX1_write 26 = .ok (.iload_n 1, 1) := by decide +kernel
theorem dX1_write_27 : decode cX1_write 27 = .ok (.iconst 4, 1) := by decide +kernel
theorem dX1_write_28 : decode cX1_write 28 = .ok (.imul, 1) := by decide +kernel
theorem dX1_write_29 : decode cX1_write 29 = .ok (.iload_n 2, 1) := by decide +kernel
theorem dX1_write_30 : decode cX1_write 30 = .ok (.iadd, 1) := by decide +kernel
theorem dX1_write_31 : decode cX1_write 31 = .ok (.iaload, 1) := by decide +kernel
theorem dX1_write_32 : decode cX1_write 32 = .ok (.istore 4, 2) := by decide +kernel
theorem dX1_write_34 : decode cX1_write 34 = .ok (.aload_n 0, 1) := by decide +kernel
theorem dX1_write_35 : decode cX1_write 35 = .ok (.getfield 7, 3) := by decide +kernel
theorem dX1_write_38 : decode cX1_write 38 = .ok (.iload_n 1, 1) := by decide +kernel
theorem dX1_write_39 : decode cX1_write 39 = .ok (.iconst 4, 1) := by decide +kernel
theorem dX1_write_40 : decode cX1_write 40 = .ok (.imul, 1) := by decide +kernel
theorem dX1_write_41 : decode cX1_write 41 = .ok (.iload_n 2, 1) := by decide +kernel
theorem dX1_write_42 : decode cX1_write 42 = .ok (.iadd, 1) := by decide +kernel
theorem dX1_write_43 : decode cX1_write 43 = .ok (.iload_n 3, 1) := by decide +kernel
theorem dX1_write_44 : decode cX1_write 44 = .ok (.iastore, 1) := by decide +kernel
theorem dX1_write_45 : decode cX1_write 45 = .ok (.aload_n 0, 1) := by decide +kernel
theorem dX1_write_46 : decode cX1_write 46 = .ok (.getfield 13, 3) := by decide +kernel
theorem dX1_write_49 : decode cX1_write 49 = .ok (.iload_n 1, 1) := by decide +kernel
theorem dX1_write_50 : decode cX1_write 50 = .ok (.iconst 0, 1) := by decide +kernel
theorem dX1_write_51 : decode cX1_write 51 = .ok (.bastore, 1) := by decide +kernel
theorem dX1_write_52 : decode cX1_write 52 = .ok (.iload 4, 2) := by decide +kernel
theorem dX1_write_54 : decode cX1_write 54 = .ok (.ireturn, 1) := by decide +kernel
set_option maxRecDepth 20000 in
theorem ggX1_fill_X1_isPage : GoodIn wsX1_fill wsX1_isPage := goodIn_r _ [7] (by decide +kernel) (by decide +kernel)
set_option maxRecDepth 20000 in
theorem gX1_fill_X1_isPage : GoodIn wsX1_fill (wsV RX1 17 RX1 yX1_isPage wsX1_isPage) := goodIn_app (goodIn_of _ (by decide +kernel)) ggX1_fill_X1_isPage
theorem dX1_fill_0 : decode cX1_fill 0 = .ok (.aload_n 0, 1) := by decide +kernel
theorem dX1_fill_1 : decode cX1_fill 1 = .ok (.iload_n 1, 1) := by decide +kernel
theorem dX1_fill_2 : decode cX1_fill 2 = .ok (.invokevirtual 17, 3) := by decide +kernel
theorem dX1_fill_5 : decode cX1_fill 5 = .ok (.ifCond .ne 5, 3) := by decide +kernel
theorem dX1_fill_8 : decode cX1_fill 8 = .ok (.iconst (-1), 1) := by decide +kernel
theorem dX1_fill_9 : decode cX1_fill 9 = .ok (.ireturn, 1) := by decide +kernel
theorem dX1_fill_10 : decode cX1_fill 10 = .ok (.iconst 0, 1) := by decide +kernel
theorem dX1_fill_11 : decode cX1_fill 11 = .ok (.istore_n 3, 1) := by decide +kernel
theorem dX1_fill_12 : decode cX1_fill 12 = .ok (.iload_n 3, 1) := by decide +kernel
theorem dX1_fill_13 : decode cX1_fill 13 = .ok (.iconst 4, 1) := by decide +kernel
theorem dX1_fill_14 : decode cX1_fill 14 = .ok (.if_icmp .ge 20, 3) := by decide +kernel
theorem dX1_fill_17 : decode cX1_fill 17 = .ok (.aload_n 0, 1) := by decide +kernel
theorem dX1_fill_18 : decode cX1_fill 18 = .ok (.getfield 7, 3) := by decide +kernel
theorem dX1_fill_21 : decode cX1_fill 21 = .ok (.iload_n 1, 1) := by decide +kernel
theorem dX1_fill_22 : decode cX1_fill 22 = .ok (.iconst 4, 1) := by decide +kernel
theorem dX1_fill_23 : decode cX1_fill 23 = .ok (.imul, 1) := by decide +kernel
theorem dX1_fill_24 : decode cX1_fill 24 = .ok (.iload_n 3, 1) := by decide +kernel
theorem dX1_fill_25 : decode cX1_fill 25 = .ok (.iadd, 1) := by decide +kernel
theorem dX1_fill_26 : decode cX1_fill 26 = .ok (.iload_n 2, 1) := by decide +kernel
theorem dX1_fill_27 : decode cX1_fill 27 = .ok (.iastore, 1) := by decide +kernel
theorem dX1_fill_28 : decode cX1_fill 28 = .ok (.iinc 3 1, 3) := by decide +kernel
theorem dX1_fill_31 : decode cX1_fill 31 = .ok (.goto (-19), 3) := by decide +kernel
theorem dX1_fill_34 : decode cX1_fill 34 = .ok (.aload_n 0, 1) := by decide +kernel
theorem dX1_fill_35 : decode cX1_fill 35 = .ok (.getfield 13, 3) := by decide +kernel
theorem dX1_fill_38 : decode cX1_fill 38 = .ok (.iload_n 1, 1) := by decide +kernel
theorem dX1_fill_39 : decode cX1_fill 39 = .ok (.iconst 0, 1) := by decide +kernel
theorem dX1_fill_40 : decode cX1_fill 40 = .ok (.bastore, 1) := by decide +kernel
theorem dX1_fill_41 : decode cX1_fill 41 = .ok (.iconst 0, 1) := by decide +kernel
theorem dX1_fill_42 : decode cX1_fill 42 = .ok (.ireturn, 1) := by decide +kernel
set_option maxRecDepth 20000 in
theorem ggX1_copy_X1_isPage : GoodIn wsX1_copy wsX1_isPage := goodIn_r _ [7] (by decide +kernel) (by decide +kernel)
set_option maxRecDepth 20000 in
theorem gX1_copy_X1_isPage : GoodIn wsX1_copy (wsV RX1 17 RX1 yX1_isPage wsX1_isPage) := goodIn_app (goodIn_of _ (by decide +kernel)) ggX1_copy_X1_isPage
theorem dX1_copy_0 : decode cX1_copy 0 = .ok (.aload_n 0, 1) := by decide +kernel
theorem dX1_copy_1 : decode cX1_copy 1 = .ok (.iload_n 1, 1) := by decide +kernel
theorem dX1_copy_2 : decode cX1_copy 2 = .ok (.invokevirtual 17, 3) := by decide +kernel
theorem dX1_copy_5 : decode cX1_copy 5 = .ok (.ifCond .eq 11, 3) := by decide +kernel
theorem dX1_copy_8 : decode cX1_copy 8 = .ok (.aload_n 0, 1) := by decide +kernel
theorem dX1_copy_9 : decode cX1_copy 9 = .ok (.iload_n 2, 1) := by decide +kernel
theorem dX1_copy_10 : decode cX1_copy 10 = .ok (.invokevirtual 17, 3) := by decide +kernel
theorem dX1_copy_13 : decode cX1_copy 13 = .ok (.ifCond .ne 5, 3) := by decide +kernel
theorem dX1_copy_16 : decode cX1_copy 16 = .ok (.iconst (-1), 1) := by decide +kernel
theorem dX1_copy_17 : decode cX1_copy 17 = .ok (.ireturn, 1) := by decide +kernel
theorem dX1_copy_18 : decode cX1_copy 18 = .ok (.iconst 0, 1) := by decide +kernel
theorem dX1_copy_19 : decode cX1_copy 19 = .ok (.istore_n 3, 1) := by decide +kernel
theorem dX1_copy_20 : decode cX1_copy 20 = .ok (.iload_n 3, 1) := by decide +kernel
theorem dX1_copy_21 : decode cX1_copy 21 = .ok (.iconst 4, 1) := by decide +kernel
theorem dX1_copy_22 : decode cX1_copy 22 = .ok (.if_icmp .ge 29, 3) := by decide +kernel
theorem dX1_copy_25 : decode cX1_copy 25 = .ok (.aload_n 0, 1) := by decide +kernel
theorem dX1_copy_26 : decode cX1_copy 26 = .ok (.getfield 7, 3) := by decide +kernel
theorem dX1_copy_29 : decode cX1_copy 29 = .ok (.iload_n 2, 1) := by decide +kernel
theorem dX1_copy_30 : decode cX1_copy 30 = .ok (.iconst 4, 1) := by decide +kernel
theorem dX1_copy_31 : decode cX1_copy 31 = .ok (.imul, 1) := by decide +kernel
theorem dX1_copy_32 : decode cX1_copy 32 = .ok (.iload_n 3, 1) := by decide +kernel
theorem dX1_copy_33 : decode cX1_copy 33 = .ok (.iadd, 1) := by decide +kernel
theorem dX1_copy_34 : decode cX1_copy 34 = .ok (.aload_n 0, 1) := by decide +kernel
theorem dX1_copy_35 : decode cX1_copy 35 = .ok (.getfield 7, 3) := by decide +kernel
theorem dX1_copy_38 : decode cX1_copy 38 = .ok (.iload_n 1, 1) := by decide +kernel
theorem dX1_copy_39 : decode cX1_copy 39 = .ok (.iconst 4, 1) := by decide +kernel
theorem dX1_copy_40 : decode cX1_copy 40 = .ok (.imul, 1) := by decide +kernel
theorem dX1_copy_41 : decode cX1_copy 41 = .ok (.iload_n 3, 1) := by decide +kernel
theorem dX1_copy_42 : decode cX1_copy 42 = .ok (.iadd, 1) := by decide +kernel
theorem dX1_copy_43 : decode cX1_copy 43 = .ok (.iaload, 1) := by decide +kernel
theorem dX1_copy_44 : decode cX1_copy 44 = .ok (.iastore, 1) := by decide +kernel
theorem dX1_copy_45 : decode cX1_copy 45 = .ok (.iinc 3 1, 3) := by decide +kernel
theorem dX1_copy_48 : decode cX1_copy 48 = .ok (.goto (-28), 3) := by decide +kernel
theorem dX1_copy_51 : decode cX1_copy 51 = .ok (.aload_n 0, 1) := by decide +kernel
theorem dX1_copy_52 : decode cX1_copy 52 = .ok (.getfield 13, 3) := by decide +kernel
theorem dX1_copy_55 : decode cX1_copy 55 = .ok (.iload_n 2, 1) := by decide +kernel
theorem dX1_copy_56 : decode cX1_copy 56 = .ok (.aload_n 0, 1) := by decide +kernel
theorem dX1_copy_57 : decode cX1_copy 57 = .ok (.getfield 13, 3) := by decide +kernel
theorem dX1_copy_60 : decode cX1_copy 60 = .ok (.iload_n 1, 1) := by decide +kernel
theorem dX1_copy_61 : decode cX1_copy 61 = .ok (.baload, 1) := by decide +kernel
theorem dX1_copy_62 : decode cX1_copy 62 = .ok (.bastore, 1) := by decide +kernel
theorem dX1_copy_63 : decode cX1_copy 63 = .ok (.iconst 0, 1) := by decide +kernel
theorem dX1_copy_64 : decode cX1_copy 64 = .ok (.ireturn, 1) := by decide +kernel
set_option maxRecDepth 20000 in
theorem ggX1_swap_X1_isPage : GoodIn wsX1_swap wsX1_isPage := goodIn_r _ [7] (by decide +kernel) (by decide +kernel)
set_option maxRecDepth 20000 in
theorem gX1_swap_X1_isPage : GoodIn wsX1_swap (wsV RX1 17 RX1 yX1_isPage wsX1_isPage) := goodIn_app (goodIn_of _ (by decide +kernel)) ggX1_swap_X1_isPage
theorem dX1_swap_0 : decode cX1_swap 0 = .ok (.aload_n 0, 1) := by decide +kernel
theorem dX1_swap_1 : decode cX1_swap 1 = .ok (.iload_n 1, 1) := by decide +kernel
theorem dX1_swap_2 : decode cX1_swap 2 = .ok (.invokevirtual 17, 3) := by decide +kernel
theorem dX1_swap_5 : decode cX1_swap 5 = .ok (.ifCond .eq 11, 3) := by decide +kernel
theorem dX1_swap_8 : decode cX1_swap 8 = .ok (.aload_n 0, 1) := by decide +kernel
theorem dX1_swap_9 : decode cX1_swap 9 = .ok (.iload_n 2, 1) := by decide +kernel
theorem dX1_swap_10 : decode cX1_swap 10 = .ok (.invokevirtual 17, 3) := by decide +kernel
theorem dX1_swap_13 : decode cX1_swap 13 = .ok (.ifCond .ne 5, 3) := by decide +kernel
theorem dX1_swap_16 : decode cX1_swap 16 = .ok (.iconst (-1), 1) := by decide +kernel
theorem dX1_swap_17 : decode cX1_swap 17 = .ok (.ireturn, 1) := by decide +kernel
theorem dX1_swap_18 : decode cX1_swap 18 = .ok (.iconst 0, 1) := by decide +kernel
theorem dX1_swap_19 : decode cX1_swap 19 = .ok (.istore_n 3, 1) := by decide +kernel
theorem dX1_swap_20 : decode cX1_swap 20 = .ok (.iload_n 3, 1) := by decide +kernel
theorem dX1_swap_21 : decode cX1_swap 21 = .ok (.iconst 4, 1) := by decide +kernel
theorem dX1_swap_22 : decode cX1_swap 22 = .ok (.if_icmp .ge 53, 3) := by decide +kernel
theorem dX1_swap_25 : decode cX1_swap 25 = .ok (.aload_n 0, 1) := by decide +kernel
theorem dX1_swap_26 : decode cX1_swap 26 = .ok (.getfield 7, 3) := by decide +kernel
theorem dX1_swap_29 : decode cX1_swap 29 = .ok (.iload_n 1, 1) := by decide +kernel
theorem dX1_swap_30 : decode cX1_swap 30 = .ok (.iconst 4, 1) := by decide +kernel
theorem dX1_swap_31 : decode cX1_swap 31 = .ok (.imul, 1) := by decide +kernel
theorem dX1_swap_32 : decode cX1_swap 32 = .ok (.iload_n 3, 1) := by decide +kernel
theorem dX1_swap_33 : decode cX1_swap 33 = .ok (.iadd, 1) := by decide +kernel
theorem dX1_swap_34 : decode cX1_swap 34 = .ok (.iaload, 1) := by decide +kernel
theorem dX1_swap_35 : decode cX1_swap 35 = .ok (.istore 4, 2) := by decide +kernel
theorem dX1_swap_37 : decode cX1_swap 37 = .ok (.aload_n 0, 1) := by decide +kernel
theorem dX1_swap_38 : decode cX1_swap 38 = .ok (.getfield 7, 3) := by decide +kernel
theorem dX1_swap_41 : decode cX1_swap 41 = .ok (.iload_n 1, 1) := by decide +kernel
theorem dX1_swap_42 : decode cX1_swap 42 = .ok (.iconst 4, 1) := by decide +kernel
theorem dX1_swap_43 : decode cX1_swap 43 = .ok (.imul, 1) := by decide +kernel
theorem dX1_swap_44 : decode cX1_swap 44 = .ok (.iload_n 3, 1) := by decide +kernel
theorem dX1_swap_45 : decode cX1_swap 45 = .ok (.iadd, 1) := by decide +kernel
theorem dX1_swap_46 : decode cX1_swap 46 = .ok (.aload_n 0, 1) := by decide +kernel
theorem dX1_swap_47 : decode cX1_swap 47 = .ok (.getfield 7, 3) := by decide +kernel
theorem dX1_swap_50 : decode cX1_swap 50 = .ok (.iload_n 2, 1) := by decide +kernel
theorem dX1_swap_51 : decode cX1_swap 51 = .ok (.iconst 4, 1) := by decide +kernel
theorem dX1_swap_52 : decode cX1_swap 52 = .ok (.imul, 1) := by decide +kernel
theorem dX1_swap_53 : decode cX1_swap 53 = .ok (.iload_n 3, 1) := by decide +kernel
theorem dX1_swap_54 : decode cX1_swap 54 = .ok (.iadd, 1) := by decide +kernel
theorem dX1_swap_55 : decode cX1_swap 55 = .ok (.iaload, 1) := by decide +kernel
theorem dX1_swap_56 : decode cX1_swap 56 = .ok (.iastore, 1) := by decide +kernel
theorem dX1_swap_57 : decode cX1_swap 57 = .ok (.aload_n 0, 1) := by decide +kernel
theorem dX1_swap_58 : decode cX1_swap 58 = .ok (.getfield 7, 3) := by decide +kernel
theorem dX1_swap_61 : decode cX1_swap 61 = .ok (.iload_n 2, 1) := by decide +kernel
theorem dX1_swap_62 : decode cX1_swap 62 = .ok (.iconst 4, 1) := by decide +kernel
theorem dX1_swap_63 : decode cX1_swap 63 = .ok (.imul, 1) := by decide +kernel
theorem dX1_swap_64 : decode cX1_swap 64 = .ok (.iload_n 3, 1) := by decide +kernel
theorem dX1_swap_65 : decode cX1_swap 65 = .ok (.iadd, 1) := by decide +kernel
theorem dX1_swap_66 : decode cX1_swap 66 = .ok (.iload 4, 2) := by decide +kernel
theorem dX1_swap_68 : decode cX1_swap 68 = .ok (.iastore, 1) := by decide +kernel
theorem dX1_swap_69 : decode cX1_swap 69 = .ok (.iinc 3 1, 3) := by decide +kernel
theorem dX1_swap_72 : decode cX1_swap 72 = .ok (.goto (-52), 3) := by decide +kernel
theorem dX1_swap_75 : decode cX1_swap 75 = .ok (.aload_n 0, 1) := by decide +kernel
theorem dX1_swap_76 : decode cX1_swap 76 = .ok (.getfield 13, 3) := by decide +kernel
theorem dX1_swap_79 : decode cX1_swap 79 = .ok (.iload_n 1, 1) := by decide +kernel
theorem dX1_swap_80 : decode cX1_swap 80 = .ok (.baload, 1) := by decide +kernel
theorem dX1_swap_81 : decode cX1_swap 81 = .ok (.istore_n 3, 1) := by decide +kernel
theorem dX1_swap_82 : decode cX1_swap 82 = .ok (.aload_n 0, 1) := by decide +kernel
theorem dX1_swap_83 : decode cX1_swap 83 = .ok (.getfield 13, 3) := by decide +kernel
theorem dX1_swap_86 : decode cX1_swap 86 = .ok (.iload_n 1, 1) := by decide +kernel
theorem dX1_swap_87 : decode cX1_swap 87 = .ok (.aload_n 0, 1) := by decide +kernel
theorem dX1_swap_88 : decode cX1_swap 88 = .ok (.getfield 13, 3) := by decide +kernel
theorem dX1_swap_91 : decode cX1_swap 91 = .ok (.iload_n 2, 1) := by decide +kernel
theorem dX1_swap_92 : decode cX1_swap 92 = .ok (.baload, 1) := by decide +kernel
theorem dX1_swap_93 : decode cX1_swap 93 = .ok (.bastore, 1) := by decide +kernel
theorem dX1_swap_94 : decode cX1_swap 94 = .ok (.aload_n 0, 1) := by decide +kernel
theorem dX1_swap_95 : decode cX1_swap 95 = .ok (.getfield 13, 3) := by decide +kernel
theorem dX1_swap_98 : decode cX1_swap 98 = .ok (.iload_n 2, 1) := by decide +kernel
theorem dX1_swap_99 : decode cX1_swap 99 = .ok (.iload_n 3, 1) := by decide +kernel
theorem dX1_swap_100 : decode cX1_swap 100 = .ok (.bastore, 1) := by decide +kernel
theorem dX1_swap_101 : decode cX1_swap 101 = .ok (.iconst 0, 1) := by decide +kernel
theorem dX1_swap_102 : decode cX1_swap 102 = .ok (.ireturn, 1) := by decide +kernel
set_option maxRecDepth 20000 in
theorem ggX1_release_X1_isPage : GoodIn wsX1_release wsX1_isPage := goodIn_r _ [6] (by decide +kernel) (by decide +kernel)
set_option maxRecDepth 20000 in
theorem gX1_release_X1_isPage : GoodIn wsX1_release (wsV RX1 17 RX1 yX1_isPage wsX1_isPage) := goodIn_app (goodIn_of _ (by decide +kernel)) ggX1_release_X1_isPage
set_option maxRecDepth 20000 in
theorem ggX1_release_X1_fill : GoodIn wsX1_release wsX1_fill := goodIn_r _ [10, 11, 1, 2, 3, 4, 5, 6, 12, 13] (by decide +kernel) (by decide +kernel)
set_option maxRecDepth 20000 in
theorem gX1_release_X1_fill : GoodIn wsX1_release (wsV RX1 21 RX1 yX1_fill wsX1_fill) := goodIn_app (goodIn_of _ (by decide +kernel)) ggX1_release_X1_fill
theorem dX1_release_0 : decode cX1_release 0 = .ok (.aload_n 0, 1) := by decide +kernel
theorem dX1_release_1 : decode cX1_release 1 = .ok (.iload_n 1, 1) := by decide +kernel
theorem dX1_release_2 : decode cX1_release 2 = .ok (.invokevirtual 17, 3) := by decide +kernel
theorem dX1_release_5 : decode cX1_release 5 = .ok (.ifCond .ne 5, 3) := by decide +kernel
theorem dX1_release_8 : decode cX1_release 8 = .ok (.iconst (-1), 1) := by decide +kernel
theorem dX1_release_9 : decode cX1_release 9 = .ok (.ireturn, 1) := by decide +kernel
theorem dX1_release_10 : decode cX1_release 10 = .ok (.aload_n 0, 1) := by decide +kernel
theorem dX1_release_11 : decode cX1_release 11 = .ok (.getfield 13, 3) := by decide +kernel
theorem dX1_release_14 : decode cX1_release 14 = .ok (.iload_n 1, 1) := by decide +kernel
theorem dX1_release_15 : decode cX1_release 15 = .ok (.baload, 1) := by decide +kernel
theorem dX1_release_16 : decode cX1_release 16 = .ok (.ifCond .eq 6, 3) := by decide +kernel
theorem dX1_release_19 : decode cX1_release 19 = .ok (.bipush (-3), 2) := by decide +kernel
theorem dX1_release_21 : decode cX1_release 21 = .ok (.ireturn, 1) := by decide +kernel
theorem dX1_release_22 : decode cX1_release 22 = .ok (.aload_n 0, 1) := by decide +kernel
theorem dX1_release_23 : decode cX1_release 23 = .ok (.iload_n 1, 1) := by decide +kernel
theorem dX1_release_24 : decode cX1_release 24 = .ok (.iconst 0, 1) := by decide +kernel
theorem dX1_release_25 : decode cX1_release 25 = .ok (.invokevirtual 21, 3) := by decide +kernel
theorem dX1_release_28 : decode cX1_release 28 = .ok (.pop, 1) := by decide +kernel
theorem dX1_release_29 : decode cX1_release 29 = .ok (.aload_n 0, 1) := by decide +kernel
theorem dX1_release_30 : decode cX1_release 30 = .ok (.getfield 13, 3) := by decide +kernel
theorem dX1_release_33 : decode cX1_release 33 = .ok (.iload_n 1, 1) := by decide +kernel
theorem dX1_release_34 : decode cX1_release 34 = .ok (.iconst 1, 1) := by decide +kernel
theorem dX1_release_35 : decode cX1_release 35 = .ok (.bastore, 1) := by decide +kernel
theorem dX1_release_36 : decode cX1_release 36 = .ok (.iconst 0, 1) := by decide +kernel
theorem dX1_release_37 : decode cX1_release 37 = .ok (.ireturn, 1) := by decide +kernel
theorem dX1_scan_0 : decode cX1_scan 0 = .ok (.return_, 1) := by decide +kernel
set_option maxRecDepth 20000 in
theorem ggX1_read_X1_isPage : GoodIn wsX1_read wsX1_isPage := goodIn_r _ [6] (by decide +kernel) (by decide +kernel)
set_option maxRecDepth 20000 in
theorem gX1_read_X1_isPage : GoodIn wsX1_read (wsV RX1 17 RX1 yX1_isPage wsX1_isPage) := goodIn_app (goodIn_of _ (by decide +kernel)) ggX1_read_X1_isPage
theorem dX1_read_0 : decode cX1_read 0 = .ok (.aload_n 0, 1) := by decide +kernel
theorem dX1_read_1 : decode cX1_read 1 = .ok (.iload_n 1, 1) := by decide +kernel
theorem dX1_read_2 : decode cX1_read 2 = .ok (.invokevirtual 17, 3) := by decide +kernel
theorem dX1_read_5 : decode cX1_read 5 = .ok (.ifCond .ne 5, 3) := by decide +kernel
theorem dX1_read_8 : decode cX1_read 8 = .ok (.iconst (-1), 1) := by decide +kernel
theorem dX1_read_9 : decode cX1_read 9 = .ok (.ireturn, 1) := by decide +kernel
theorem dX1_read_10 : decode cX1_read 10 = .ok (.iload_n 2, 1) := by decide +kernel
theorem dX1_read_11 : decode cX1_read 11 = .ok (.ifCond .lt 8, 3) := by decide +kernel
theorem dX1_read_14 : decode cX1_read 14 = .ok (.iload_n 2, 1) := by decide +kernel
theorem dX1_read_15 : decode cX1_read 15 = .ok (.iconst 3, 1) := by decide +kernel
theorem dX1_read_16 : decode cX1_read 16 = .ok (.if_icmp .le 8, 3) := by decide +kernel
theorem dX1_read_19 : decode cX1_read 19 = .ok (.bipush (-2), 2) := by decide +kernel
theorem dX1_read_21 : decode cX1_read 21 = .ok (.goto 13, 3) := by decide +kernel
theorem dX1_read_24 : decode cX1_read 24 = .ok (.aload_n 0, 1) := by decide +kernel
theorem dX1_read_25 : decode cX1_read 25 = .ok (.getfield 7, 3) := by decide +kernel
theorem dX1_read_28 : decode cX1_read 28 = .ok (.iload_n 1, 1) := by decide +kernel
theorem dX1_read_29 : decode cX1_read 29 = .ok (.iconst 4, 1) := by decide +kernel
theorem dX1_read_30 : decode cX1_read 30 = .ok (.imul, 1) := by decide +kernel
theorem dX1_read_31 : decode cX1_read 31 = .ok (.iload_n 2, 1) := by decide +kernel
theorem dX1_read_32 : decode cX1_read 32 = .ok (.iadd, 1) := by decide +kernel
theorem dX1_read_33 : decode cX1_read 33 = .ok (.iaload, 1) := by decide +kernel
theorem dX1_read_34 : decode cX1_read 34 = .ok (.ireturn, 1) := by decide +kernel
set_option maxRecDepth 20000 in
theorem ggX1_held_X1_isPage : GoodIn wsX1_held wsX1_isPage := goodIn_r _ [6] (by decide +kernel) (by decide +kernel)
set_option maxRecDepth 20000 in
theorem gX1_held_X1_isPage : GoodIn wsX1_held (wsV RX1 17 RX1 yX1_isPage wsX1_isPage) := goodIn_app (goodIn_of _ (by decide +kernel)) ggX1_held_X1_isPage
theorem dX1_held_0 : decode cX1_held 0 = .ok (.aload_n 0, 1) := by decide +kernel
theorem dX1_held_1 : decode cX1_held 1 = .ok (.iload_n 1, 1) := by decide +kernel
theorem dX1_held_2 : decode cX1_held 2 = .ok (.invokevirtual 17, 3) := by decide +kernel
theorem dX1_held_5 : decode cX1_held 5 = .ok (.ifCond .eq 16, 3) := by decide +kernel
theorem dX1_held_8 : decode cX1_held 8 = .ok (.aload_n 0, 1) := by decide +kernel
theorem dX1_held_9 : decode cX1_held 9 = .ok (.getfield 13, 3) := by decide +kernel
theorem dX1_held_12 : decode cX1_held 12 = .ok (.iload_n 1, 1) := by decide +kernel
theorem dX1_held_13 : decode cX1_held 13 = .ok (.baload, 1) := by decide +kernel
theorem dX1_held_14 : decode cX1_held 14 = .ok (.ifCond .ne 7, 3) := by decide +kernel
theorem dX1_held_17 : decode cX1_held 17 = .ok (.iconst 1, 1) := by decide +kernel
theorem dX1_held_18 : decode cX1_held 18 = .ok (.goto 4, 3) := by decide +kernel
theorem dX1_held_21 : decode cX1_held 21 = .ok (.iconst 0, 1) := by decide +kernel
theorem dX1_held_22 : decode cX1_held 22 = .ok (.ireturn, 1) := by decide +kernel
set_option maxRecDepth 20000 in
theorem ggX1_same_X1_isPage : GoodIn wsX1_same wsX1_isPage := goodIn_r _ [6] (by decide +kernel) (by decide +kernel)
set_option maxRecDepth 20000 in
theorem gX1_same_X1_isPage : GoodIn wsX1_same (wsV RX1 17 RX1 yX1_isPage wsX1_isPage) := goodIn_app (goodIn_of _ (by decide +kernel)) ggX1_same_X1_isPage
theorem dX1_same_0 : decode cX1_same 0 = .ok (.aload_n 0, 1) := by decide +kernel
theorem dX1_same_1 : decode cX1_same 1 = .ok (.iload_n 1, 1) := by decide +kernel
theorem dX1_same_2 : decode cX1_same 2 = .ok (.invokevirtual 17, 3) := by decide +kernel
theorem dX1_same_5 : decode cX1_same 5 = .ok (.ifCond .eq 11, 3) := by decide +kernel
theorem dX1_same_8 : decode cX1_same 8 = .ok (.aload_n 0, 1) := by decide +kernel
theorem dX1_same_9 : decode cX1_same 9 = .ok (.iload_n 2, 1) := by decide +kernel
theorem dX1_same_10 : decode cX1_same 10 = .ok (.invokevirtual 17, 3) := by decide +kernel
theorem dX1_same_13 : decode cX1_same 13 = .ok (.ifCond .ne 5, 3) := by decide +kernel
theorem dX1_same_16 : decode cX1_same 16 = .ok (.iconst 0, 1) := by decide +kernel
theorem dX1_same_17 : decode cX1_same 17 = .ok (.ireturn, 1) := by decide +kernel
theorem dX1_same_18 : decode cX1_same 18 = .ok (.iconst 0, 1) := by decide +kernel
theorem dX1_same_19 : decode cX1_same 19 = .ok (.istore_n 3, 1) := by decide +kernel
theorem dX1_same_20 : decode cX1_same 20 = .ok (.iload_n 3, 1) := by decide +kernel
theorem dX1_same_21 : decode cX1_same 21 = .ok (.iconst 4, 1) := by decide +kernel
theorem dX1_same_22 : decode cX1_same 22 = .ok (.if_icmp .ge 34, 3) := by decide +kernel
theorem dX1_same_25 : decode cX1_same 25 = .ok (.aload_n 0, 1) := by decide +kernel
theorem dX1_same_26 : decode cX1_same 26 = .ok (.getfield 7, 3) := by decide +kernel
theorem dX1_same_29 : decode cX1_same 29 = .ok (.iload_n 1, 1) := by decide +kernel
theorem dX1_same_30 : decode cX1_same 30 = .ok (.iconst 4, 1) := by decide +kernel
theorem dX1_same_31 : decode cX1_same 31 = .ok (.imul, 1) := by decide +kernel
theorem dX1_same_32 : decode cX1_same 32 = .ok (.iload_n 3, 1) := by decide +kernel
theorem dX1_same_33 : decode cX1_same 33 = .ok (.iadd, 1) := by decide +kernel
theorem dX1_same_34 : decode cX1_same 34 = .ok (.iaload, 1) := by decide +kernel
theorem dX1_same_35 : decode cX1_same 35 = .ok (.aload_n 0, 1) := by decide +kernel
theorem dX1_same_36 : decode cX1_same 36 = .ok (.getfield 7, 3) := by decide +kernel
theorem dX1_same_39 : decode cX1_same 39 = .ok (.iload_n 2, 1) := by decide +kernel
theorem dX1_same_40 : decode cX1_same 40 = .ok (.iconst 4, 1) := by decide +kernel
theorem dX1_same_41 : decode cX1_same 41 = .ok (.imul, 1) := by decide +kernel
theorem dX1_same_42 : decode cX1_same 42 = .ok (.iload_n 3, 1) := by decide +kernel
theorem dX1_same_43 : decode cX1_same 43 = .ok (.iadd, 1) := by decide +kernel
theorem dX1_same_44 : decode cX1_same 44 = .ok (.iaload, 1) := by decide +kernel
theorem dX1_same_45 : decode cX1_same 45 = .ok (.if_icmp .eq 5, 3) := by decide +kernel
theorem dX1_same_48 : decode cX1_same 48 = .ok (.iconst 0, 1) := by decide +kernel
theorem dX1_same_49 : decode cX1_same 49 = .ok (.ireturn, 1) := by decide +kernel
theorem dX1_same_50 : decode cX1_same 50 = .ok (.iinc 3 1, 3) := by decide +kernel
theorem dX1_same_53 : decode cX1_same 53 = .ok (.goto (-33), 3) := by decide +kernel
theorem dX1_same_56 : decode cX1_same 56 = .ok (.iconst 1, 1) := by decide +kernel
theorem dX1_same_57 : decode cX1_same 57 = .ok (.ireturn, 1) := by decide +kernel
set_option maxRecDepth 20000 in
theorem ggX1_again_X1_held : GoodIn wsX1_again wsX1_held := goodIn_r _ [5, 6, 7, 8, 9, 4, 10, 16, 17] (by decide +kernel) (by decide +kernel)
set_option maxRecDepth 20000 in
theorem gX1_again_X1_held : GoodIn wsX1_again (wsV RX1 25 RX1 yX1_held wsX1_held) := goodIn_app (goodIn_of _ (by decide +kernel)) ggX1_again_X1_held
set_option maxRecDepth 20000 in
theorem ggX1_again_X1_same : GoodIn wsX1_again wsX1_same := goodIn_r _ [14, 15, 7, 8, 9, 4, 10, 16, 17] (by decide +kernel) (by decide +kernel)
set_option maxRecDepth 20000 in
theorem gX1_again_X1_same : GoodIn wsX1_again (wsV RX1 28 RX1 yX1_same wsX1_same) := goodIn_app (goodIn_of _ (by decide +kernel)) ggX1_again_X1_same
theorem dX1_again_0 : decode cX1_again 0 = .ok (.iconst 0, 1) := by decide +kernel
theorem dX1_again_1 : decode cX1_again 1 = .ok (.istore_n 2, 1) := by decide +kernel
theorem dX1_again_2 : decode cX1_again 2 = .ok (.iload_n 2, 1) := by decide +kernel
theorem dX1_again_3 : decode cX1_again 3 = .ok (.iload_n 1, 1) := by decide +kernel
theorem dX1_again_4 : decode cX1_again 4 = .ok (.if_icmp .ge 28, 3) := by decide +kernel
theorem dX1_again_7 : decode cX1_again 7 = .ok (.aload_n 0, 1) := by decide +kernel
theorem dX1_again_8 : decode cX1_again 8 = .ok (.iload_n 2, 1) := by decide +kernel
theorem dX1_again_9 : decode cX1_again 9 = .ok (.invokevirtual 25, 3) := by decide +kernel
theorem dX1_again_12 : decode cX1_again 12 = .ok (.ifCond .eq 14, 3) := by decide +kernel
theorem dX1_again_15 : decode cX1_again 15 = .ok (.aload_n 0, 1) := by decide +kernel
theorem dX1_again_16 : decode cX1_again 16 = .ok (.iload_n 2, 1) := by decide +kernel
theorem dX1_again_17 : decode cX1_again 17 = .ok (.iload_n 1, 1) := by decide +kernel
theorem dX1_again_18 : decode cX1_again 18 = .ok (.invokevirtual 28, 3) := by decide +kernel
theorem dX1_again_21 : decode cX1_again 21 = .ok (.ifCond .eq 5, 3) := by decide +kernel
theorem dX1_again_24 : decode cX1_again 24 = .ok (.iconst 1, 1) := by decide +kernel
theorem dX1_again_25 : decode cX1_again 25 = .ok (.ireturn, 1) := by decide +kernel
theorem dX1_again_26 : decode cX1_again 26 = .ok (.iinc 2 1, 3) := by decide +kernel
theorem dX1_again_29 : decode cX1_again 29 = .ok (.goto (-27), 3) := by decide +kernel
theorem dX1_again_32 : decode cX1_again 32 = .ok (.iconst 0, 1) := by decide +kernel
theorem dX1_again_33 : decode cX1_again 33 = .ok (.ireturn, 1) := by decide +kernel
set_option maxRecDepth 20000 in
theorem ggX1_contents_X1_held : GoodIn wsX1_contents wsX1_held := goodIn_r _ [5, 6, 7, 8, 9, 4, 10, 20, 21] (by decide +kernel) (by decide +kernel)
set_option maxRecDepth 20000 in
theorem gX1_contents_X1_held : GoodIn wsX1_contents (wsV RX1 25 RX1 yX1_held wsX1_held) := goodIn_app (goodIn_of _ (by decide +kernel)) ggX1_contents_X1_held
set_option maxRecDepth 20000 in
theorem ggX1_contents_X1_again : GoodIn wsX1_contents wsX1_again := goodIn_r _ [14, 1, 2, 3, 4, 5, 6, 7, 8, 9, 10, 15, 16, 17, 18, 19, 20, 21] (by decide +kernel) (by decide +kernel)
set_option maxRecDepth 20000 in
theorem gX1_contents_X1_again : GoodIn wsX1_contents (wsV RX1 32 RX1 yX1_again wsX1_again) := goodIn_app (goodIn_of _ (by decide +kernel)) ggX1_contents_X1_again
theorem dX1_contents_0 : decode cX1_contents 0 = .ok (.iconst 0, 1) := by decide +kernel
theorem dX1_contents_1 : decode cX1_contents 1 = .ok (.istore_n 1, 1) := by decide +kernel
theorem dX1_contents_2 : decode cX1_contents 2 = .ok (.iconst 0, 1) := by decide +kernel
theorem dX1_contents_3 : decode cX1_contents 3 = .ok (.istore_n 2, 1) := by decide +kernel
theorem dX1_contents_4 : decode cX1_contents 4 = .ok (.iload_n 2, 1) := by decide +kernel
theorem dX1_contents_5 : decode cX1_contents 5 = .ok (.bipush 24, 2) := by decide +kernel
theorem dX1_contents_7 : decode cX1_contents 7 = .ok (.if_icmp .ge 28, 3) := by decide +kernel
theorem dX1_contents_10 : decode cX1_contents 10 = .ok (.aload_n 0, 1) := by decide +kernel
theorem dX1_contents_11 : decode cX1_contents 11 = .ok (.iload_n 2, 1) := by decide +kernel
theorem dX1_contents_12 : decode cX1_contents 12 = .ok (.invokevirtual 25, 3) := by decide +kernel
theorem dX1_contents_15 : decode cX1_contents 15 = .ok (.ifCond .eq 14, 3) := by decide +kernel
theorem dX1_contents_18 : decode cX1_contents 18 = .ok (.aload_n 0, 1) := by decide +kernel
theorem dX1_contents_19 : decode cX1_contents 19 = .ok (.iload_n 2, 1) := by decide +kernel
theorem dX1_contents_20 : decode cX1_contents 20 = .ok (.invokevirtual 32, 3) := by decide +kernel
theorem dX1_contents_23 : decode cX1_contents 23 = .ok (.ifCond .ne 6, 3) := by decide +kernel
theorem dX1_contents_26 : decode cX1_contents 26 = .ok (.iinc 1 1, 3) := by decide +kernel
theorem dX1_contents_29 : decode cX1_contents 29 = .ok (.iinc 2 1, 3) := by decide +kernel
theorem dX1_contents_32 : decode cX1_contents 32 = .ok (.goto (-28), 3) := by decide +kernel
theorem dX1_contents_35 : decode cX1_contents 35 = .ok (.iload_n 1, 1) := by decide +kernel
theorem dX1_contents_36 : decode cX1_contents 36 = .ok (.ireturn, 1) := by decide +kernel
set_option maxRecDepth 20000 in
theorem ggX1_duplicates_X1_held : GoodIn wsX1_duplicates wsX1_held := goodIn_r _ [5, 6, 7, 8, 9, 4, 10, 20, 21] (by decide +kernel) (by decide +kernel)
set_option maxRecDepth 20000 in
theorem gX1_duplicates_X1_held : GoodIn wsX1_duplicates (wsV RX1 25 RX1 yX1_held wsX1_held) := goodIn_app (goodIn_of _ (by decide +kernel)) ggX1_duplicates_X1_held
set_option maxRecDepth 20000 in
theorem ggX1_duplicates_X1_again : GoodIn wsX1_duplicates wsX1_again := goodIn_r _ [14, 1, 2, 3, 4, 5, 6, 7, 8, 9, 10, 15, 16, 17, 18, 19, 20, 21] (by decide +kernel) (by decide +kernel)
set_option maxRecDepth 20000 in
theorem gX1_duplicates_X1_again : GoodIn wsX1_duplicates (wsV RX1 32 RX1 yX1_again wsX1_again) := goodIn_app (goodIn_of _ (by decide +kernel)) ggX1_duplicates_X1_again
theorem dX1_duplicates_0 : decode cX1_duplicates 0 = .ok (.iconst 0, 1) := by decide +kernel
theorem dX1_duplicates_1 : decode cX1_duplicates 1 = .ok (.istore_n 1, 1) := by decide +kernel
theorem dX1_duplicates_2 : decode cX1_duplicates 2 = .ok (.iconst 0, 1) := by decide +kernel
theorem dX1_duplicates_3 : decode cX1_duplicates 3 = .ok (.istore_n 2, 1) := by decide +kernel
theorem dX1_duplicates_4 : decode cX1_duplicates 4 = .ok (.iload_n 2, 1) := by decide +kernel
theorem dX1_duplicates_5 : decode cX1_duplicates 5 = .ok (.bipush 24, 2) := by decide +kernel
theorem dX1_duplicates_7 : decode cX1_duplicates 7 = .ok (.if_icmp .ge 28, 3) := by decide +kernel
theorem dX1_duplicates_10 : decode cX1_duplicates 10 = .ok (.aload_n 0, 1) := by decide +kernel
theorem dX1_duplicates_11 : decode cX1_duplicates 11 = .ok (.iload_n 2, 1) := by decide +kernel
theorem dX1_duplicates_12 : decode cX1_duplicates 12 = .ok (.invokevirtual 25, 3) := by decide +kernel
theorem dX1_duplicates_15 : decode cX1_duplicates 15 = .ok (.ifCond .eq 14, 3) := by decide +kernel
theorem dX1_duplicates_18 : decode cX1_duplicates 18 = .ok (.aload_n 0, 1) := by decide +kernel
theorem dX1_duplicates_19 : decode cX1_duplicates 19 = .ok (.iload_n 2, 1) := by decide +kernel
theorem dX1_duplicates_20 : decode cX1_duplicates 20 = .ok (.invokevirtual 32, 3) := by decide +kernel
theorem dX1_duplicates_23 : decode cX1_duplicates 23 = .ok (.ifCond .eq 6, 3) := by decide +kernel
theorem dX1_duplicates_26 : decode cX1_duplicates 26 = .ok (.iinc 1 1, 3) := by decide +kernel
theorem dX1_duplicates_29 : decode cX1_duplicates 29 = .ok (.iinc 2 1, 3) := by decide +kernel
theorem dX1_duplicates_32 : decode cX1_duplicates 32 = .ok (.goto (-28), 3) := by decide +kernel
theorem dX1_duplicates_35 : decode cX1_duplicates 35 = .ok (.iload_n 1, 1) := by decide +kernel
theorem dX1_duplicates_36 : decode cX1_duplicates 36 = .ok (.ireturn, 1) := by decide +kernel
theorem dX1_sum_0 : decode cX1_sum 0 = .ok (.iconst 0, 1) := by decide +kernel
theorem dX1_sum_1 : decode cX1_sum 1 = .ok (.istore_n 2, 1) := by decide +kernel
theorem dX1_sum_2 : decode cX1_sum 2 = .ok (.iconst 0, 1) := by decide +kernel
theorem dX1_sum_3 : decode cX1_sum 3 = .ok (.istore_n 3, 1) := by decide +kernel
theorem dX1_sum_4 : decode cX1_sum 4 = .ok (.iload_n 3, 1) := by decide +kernel
theorem dX1_sum_5 : decode cX1_sum 5 = .ok (.bipush 96, 2) := by decide +kernel
theorem dX1_sum_7 : decode cX1_sum 7 = .ok (.if_icmp .ge 26, 3) := by decide +kernel
theorem dX1_sum_10 : decode cX1_sum 10 = .ok (.iload_n 3, 1) := by decide +kernel
theorem dX1_sum_11 : decode cX1_sum 11 = .ok (.bipush 32, 2) := by decide +kernel
theorem dX1_sum_13 : decode cX1_sum 13 = .ok (.idiv, 1) := by decide +kernel
theorem dX1_sum_14 : decode cX1_sum 14 = .ok (.iload_n 1, 1) := by decide +kernel
theorem dX1_sum_15 : decode cX1_sum 15 = .ok (.if_icmp .ne 12, 3) := by decide +kernel
theorem dX1_sum_18 : decode cX1_sum 18 = .ok (.iload_n 2, 1) := by decide +kernel
theorem dX1_sum_19 : decode cX1_sum 19 = .ok (.aload_n 0, 1) := by decide +kernel
theorem dX1_sum_20 : decode cX1_sum 20 = .ok (.getfield 7, 3) := by decide +kernel
theorem dX1_sum_23 : decode cX1_sum 23 = .ok (.iload_n 3, 1) := by decide +kernel
theorem dX1_sum_24 : decode cX1_sum 24 = .ok (.iaload, 1) := by decide +kernel
theorem dX1_sum_25 : decode cX1_sum 25 = .ok (.iadd, 1) := by decide +kernel
theorem dX1_sum_26 : decode cX1_sum 26 = .ok (.istore_n 2, 1) := by decide +kernel
theorem dX1_sum_27 : decode cX1_sum 27 = .ok (.iinc 3 1, 3) := by decide +kernel
theorem dX1_sum_30 : decode cX1_sum 30 = .ok (.goto (-26), 3) := by decide +kernel
theorem dX1_sum_33 : decode cX1_sum 33 = .ok (.iload_n 2, 1) := by decide +kernel
theorem dX1_sum_34 : decode cX1_sum 34 = .ok (.ireturn, 1) := by decide +kernel
set_option maxRecDepth 20000 in
theorem ggX1_plain_X1_held : GoodIn wsX1_plain wsX1_held := goodIn_r _ [6, 7, 8, 9, 10, 5, 11, 12, 13] (by decide +kernel) (by decide +kernel)
set_option maxRecDepth 20000 in
theorem gX1_plain_X1_held : GoodIn wsX1_plain (wsV RX1 25 RX1 yX1_held wsX1_held) := goodIn_app (goodIn_of _ (by decide +kernel)) ggX1_plain_X1_held
theorem dX1_plain_0 : decode cX1_plain 0 = .ok (.iconst 0, 1) := by decide +kernel
theorem dX1_plain_1 : decode cX1_plain 1 = .ok (.istore_n 1, 1) := by decide +kernel
theorem dX1_plain_2 : decode cX1_plain 2 = .ok (.iconst 0, 1) := by decide +kernel
theorem dX1_plain_3 : decode cX1_plain 3 = .ok (.istore_n 2, 1) := by decide +kernel
theorem dX1_plain_4 : decode cX1_plain 4 = .ok (.iload_n 2, 1) := by decide +kernel
theorem dX1_plain_5 : decode cX1_plain 5 = .ok (.bipush 24, 2) := by decide +kernel
theorem dX1_plain_7 : decode cX1_plain 7 = .ok (.if_icmp .ge 73, 3) := by decide +kernel
theorem dX1_plain_10 : decode cX1_plain 10 = .ok (.iconst 1, 1) := by decide +kernel
theorem dX1_plain_11 : decode cX1_plain 11 = .ok (.istore_n 3, 1) := by decide +kernel
theorem dX1_plain_12 : decode cX1_plain 12 = .ok (.iconst 1, 1) := by decide +kernel
theorem dX1_plain_13 : decode cX1_plain 13 = .ok (.istore 4, 2) := by decide +kernel
theorem dX1_plain_15 : decode cX1_plain 15 = .ok (.iload 4, 2) := by decide +kernel
theorem dX1_plain_17 : decode cX1_plain 17 = .ok (.iconst 4, 1) := by decide +kernel
theorem dX1_plain_18 : decode cX1_plain 18 = .ok (.if_icmp .ge 41, 3) := by decide +kernel
theorem dX1_plain_21 : decode cX1_plain 21 = .ok (.iload_n 3, 1) := by decide +kernel
theorem dX1_plain_22 : decode cX1_plain 22 = .ok (.ifCond .eq 29, 3) := by decide +kernel
theorem dX1_plain_25 : decode cX1_plain 25 = .ok (.aload_n 0, 1) := by decide +kernel
theorem dX1_plain_26 : decode cX1_plain 26 = .ok (.getfield 7, 3) := by decide +kernel
theorem dX1_plain_29 : decode cX1_plain 29 = .ok (.iload_n 2, 1) := by decide +kernel
theorem dX1_plain_30 : decode cX1_plain 30 = .ok (.iconst 4, 1) := by decide +kernel
theorem dX1_plain_31 : decode cX1_plain 31 = .ok (.imul, 1) := by decide +kernel
theorem dX1_plain_32 : decode cX1_plain 32 = .ok (.iload 4, 2) := by decide +kernel
theorem dX1_plain_34 : decode cX1_plain 34 = .ok (.iadd, 1) := by decide +kernel
theorem dX1_plain_35 : decode cX1_plain 35 = .ok (.iaload, 1) := by decide +kernel
theorem dX1_plain_36 : decode cX1_plain 36 = .ok (.aload_n 0, 1) := by decide +kernel
theorem dX1_plain_37 : decode cX1_plain 37 = .ok (.getfield 7, 3) := by decide +kernel
theorem dX1_plain_40 : decode cX1_plain 40 = .ok (.iload_n 2, 1) := by decide +kernel
theorem dX1_plain_41 : decode cX1_plain 41 = .ok (.iconst 4, 1) := by decide +kernel
theorem dX1_plain_42 : decode cX1_plain 42 = .ok (.imul, 1) := by decide +kernel
theorem dX1_plain_43 : decode cX1_plain 43 = .ok (.iaload, 1) := by decide +kernel
theorem dX1_plain_44 : decode cX1_plain 44 = .ok (.if_icmp .ne 7, 3) := by decide +kernel
theorem dX1_plain_47 : decode cX1_plain 47 = .ok (.iconst 1, 1) := by decide +kernel
theorem dX1_plain_48 : decode cX1_plain 48 = .ok (.goto 4, 3) := by decide +kernel
theorem dX1_plain_51 : decode cX1_plain 51 = .ok (.iconst 0, 1) := by decide +kernel
theorem dX1_plain_52 : decode cX1_plain 52 = .ok (.istore_n 3, 1) := by decide +kernel
theorem dX1_plain_53 : decode cX1_plain 53 = .ok (.iinc 4 1, 3) := by decide +kernel
theorem dX1_plain_56 : decode cX1_plain 56 = .ok (.goto (-41), 3) := by decide +kernel
theorem dX1_plain_59 : decode cX1_plain 59 = .ok (.iload_n 3, 1) := by decide +kernel
theorem dX1_plain_60 : decode cX1_plain 60 = .ok (.ifCond .eq 14, 3) := by decide +kernel
theorem dX1_plain_63 : decode cX1_plain 63 = .ok (.aload_n 0, 1) := by decide +kernel
theorem dX1_plain_64 : decode cX1_plain 64 = .ok (.iload_n 2, 1) := by decide +kernel
theorem dX1_plain_65 : decode cX1_plain 65 = .ok (.invokevirtual 25, 3) := by decide +kernel
theorem dX1_plain_68 : decode cX1_plain 68 = .ok (.ifCond .eq 6, 3) := by decide +kernel
theorem dX1_plain_71 : decode cX1_plain 71 = .ok (.iinc 1 1, 3) := by decide +kernel
theorem dX1_plain_74 : decode cX1_plain 74 = .ok (.iinc 2 1, 3) := by decide +kernel
theorem dX1_plain_77 : decode cX1_plain 77 = .ok (.goto (-73), 3) := by decide +kernel
theorem dX1_plain_80 : decode cX1_plain 80 = .ok (.iload_n 1, 1) := by decide +kernel
theorem dX1_plain_81 : decode cX1_plain 81 = .ok (.ireturn, 1) := by decide +kernel
theorem dL_cell_0 : decode cL_cell 0 = .ok (.iload_n 1, 1) := by decide +kernel
theorem dL_cell_1 : decode cL_cell 1 = .ok (.aload_n 0, 1) := by decide +kernel
theorem dL_cell_2 : decode cL_cell 2 = .ok (.arraylength, 1) := by decide +kernel
theorem dL_cell_3 : decode cL_cell 3 = .ok (.if_icmp .ge 9, 3) := by decide +kernel
theorem dL_cell_6 : decode cL_cell 6 = .ok (.aload_n 0, 1) := by decide +kernel
theorem dL_cell_7 : decode cL_cell 7 = .ok (.iload_n 1, 1) := by decide +kernel
theorem dL_cell_8 : decode cL_cell 8 = .ok (.iaload, 1) := by decide +kernel
theorem dL_cell_9 : decode cL_cell 9 = .ok (.goto 4, 3) := by decide +kernel
theorem dL_cell_12 : decode cL_cell 12 = .ok (.iconst 0, 1) := by decide +kernel
theorem dL_cell_13 : decode cL_cell 13 = .ok (.ireturn, 1) := by decide +kernel
set_option maxRecDepth 20000 in
theorem ggL_law_L_cell : GoodIn wsL_law wsL_cell := goodIn_r _ [9] (by decide +kernel) (by decide +kernel)
set_option maxRecDepth 20000 in
theorem gL_law_L_cell : GoodIn wsL_law (va_wsS RL 9 yL_cell wsL_cell) := goodIn_app (goodIn_of _ (by decide +kernel)) ggL_law_L_cell
set_option maxRecDepth 20000 in
theorem ggL_law_X0_init : GoodIn wsL_law wsX0_init := goodIn_r _ [12, 13, 14, 15, 16, 17, 18, 19, 163, 164] (by decide +kernel) (by decide +kernel)
set_option maxRecDepth 20000 in
theorem gL_law_X0_init : GoodIn wsL_law (wsX0_init) := ggL_law_X0_init
set_option maxRecDepth 20000 in
theorem ggL_law_X1_init : GoodIn wsL_law wsX1_init := goodIn_r _ [22, 23, 14, 15, 16, 24, 18, 25, 165, 166] (by decide +kernel) (by decide +kernel)
set_option maxRecDepth 20000 in
theorem gL_law_X1_init : GoodIn wsL_law (wsX1_init) := ggL_law_X1_init
set_option maxRecDepth 20000 in
theorem ggL_law_X0_write : GoodIn wsL_law wsX0_write := goodIn_r _ [29, 17, 19, 30, 31, 2, 32, 33, 34, 35, 163, 164] (by decide +kernel) (by decide +kernel)
set_option maxRecDepth 20000 in
theorem gL_law_X0_write : GoodIn wsL_law (wsV RL 21 RX0 yX0_write wsX0_write) := goodIn_app (goodIn_of _ (by decide +kernel)) ggL_law_X0_write
set_option maxRecDepth 20000 in
theorem ggL_law_X1_write : GoodIn wsL_law wsX1_write := goodIn_r _ [39, 24, 25, 40, 41, 42, 5, 43, 165, 166] (by decide +kernel) (by decide +kernel)
set_option maxRecDepth 20000 in
theorem gL_law_X1_write : GoodIn wsL_law (wsV RL 25 RX1 yX1_write wsX1_write) := goodIn_app (goodIn_of _ (by decide +kernel)) ggL_law_X1_write
set_option maxRecDepth 20000 in
theorem ggL_law_X0_fill : GoodIn wsL_law wsX0_fill := goodIn_r _ [47, 19, 30, 31, 2, 32, 48, 49, 50, 51, 17, 163, 164] (by decide +kernel) (by decide +kernel)
set_option maxRecDepth 20000 in
theorem gL_law_X0_fill : GoodIn wsL_law (wsV RL 26 RX0 yX0_fill wsX0_fill) := goodIn_app (goodIn_of _ (by decide +kernel)) ggL_law_X0_fill
set_option maxRecDepth 20000 in
theorem ggL_law_X1_fill : GoodIn wsL_law wsX1_fill := goodIn_r _ [55, 24, 25, 40, 41, 42, 5, 43, 165, 166] (by decide +kernel) (by decide +kernel)
set_option maxRecDepth 20000 in
theorem gL_law_X1_fill : GoodIn wsL_law (wsV RL 30 RX1 yX1_fill wsX1_fill) := goodIn_app (goodIn_of _ (by decide +kernel)) ggL_law_X1_fill
set_option maxRecDepth 20000 in
theorem ggL_law_X0_copy : GoodIn wsL_law wsX0_copy := goodIn_r _ [59, 17, 19, 30, 31, 2, 32, 163, 164] (by decide +kernel) (by decide +kernel)
set_option maxRecDepth 20000 in
theorem gL_law_X0_copy : GoodIn wsL_law (wsV RL 31 RX0 yX0_copy wsX0_copy) := goodIn_app (goodIn_of _ (by decide +kernel)) ggL_law_X0_copy
set_option maxRecDepth 20000 in
theorem ggL_law_X1_copy : GoodIn wsL_law wsX1_copy := goodIn_r _ [63, 24, 25, 40, 41, 42, 5, 43, 165, 166] (by decide +kernel) (by decide +kernel)
set_option maxRecDepth 20000 in
theorem gL_law_X1_copy : GoodIn wsL_law (wsV RL 34 RX1 yX1_copy wsX1_copy) := goodIn_app (goodIn_of _ (by decide +kernel)) ggL_law_X1_copy
set_option maxRecDepth 20000 in
theorem ggL_law_X0_swap : GoodIn wsL_law wsX0_swap := goodIn_r _ [67, 17, 19, 30, 31, 2, 32, 163, 164] (by decide +kernel) (by decide +kernel)
set_option maxRecDepth 20000 in
theorem gL_law_X0_swap : GoodIn wsL_law (wsV RL 35 RX0 yX0_swap wsX0_swap) := goodIn_app (goodIn_of _ (by decide +kernel)) ggL_law_X0_swap
set_option maxRecDepth 20000 in
theorem ggL_law_X1_swap : GoodIn wsL_law wsX1_swap := goodIn_r _ [71, 24, 25, 40, 41, 42, 5, 43, 165, 166] (by decide +kernel) (by decide +kernel)
set_option maxRecDepth 20000 in
theorem gL_law_X1_swap : GoodIn wsL_law (wsV RL 38 RX1 yX1_swap wsX1_swap) := goodIn_app (goodIn_of _ (by decide +kernel)) ggL_law_X1_swap
set_option maxRecDepth 20000 in
theorem ggL_law_X0_release : GoodIn wsL_law wsX0_release := goodIn_r _ [75, 19, 30, 31, 2, 32, 48, 49, 50, 51, 17, 163, 164] (by decide +kernel) (by decide +kernel)
set_option maxRecDepth 20000 in
theorem gL_law_X0_release : GoodIn wsL_law (wsV RL 39 RX0 yX0_release wsX0_release) := goodIn_app (goodIn_of _ (by decide +kernel)) ggL_law_X0_release
set_option maxRecDepth 20000 in
theorem ggL_law_X1_release : GoodIn wsL_law wsX1_release := goodIn_r _ [79, 25, 40, 41, 42, 5, 43, 80, 53, 54, 55, 24, 165, 166] (by decide +kernel) (by decide +kernel)
set_option maxRecDepth 20000 in
theorem gL_law_X1_release : GoodIn wsL_law (wsV RL 43 RX1 yX1_release wsX1_release) := goodIn_app (goodIn_of _ (by decide +kernel)) ggL_law_X1_release
set_option maxRecDepth 20000 in
theorem ggL_law_X0_scan : GoodIn wsL_law wsX0_scan := goodIn_r _ [84] (by decide +kernel) (by decide +kernel)
set_option maxRecDepth 20000 in
theorem gL_law_X0_scan : GoodIn wsL_law (wsV RL 44 RX0 yX0_scan wsX0_scan) := goodIn_app (goodIn_of _ (by decide +kernel)) ggL_law_X0_scan
set_option maxRecDepth 20000 in
theorem ggL_law_X1_scan : GoodIn wsL_law wsX1_scan := goodIn_r _ [88] (by decide +kernel) (by decide +kernel)
set_option maxRecDepth 20000 in
theorem gL_law_X1_scan : GoodIn wsL_law (wsV RL 47 RX1 yX1_scan wsX1_scan) := goodIn_app (goodIn_of _ (by decide +kernel)) ggL_law_X1_scan
set_option maxRecDepth 20000 in
theorem ggL_law_X0_read : GoodIn wsL_law wsX0_read := goodIn_r _ [92, 17, 30, 31, 2, 32, 33, 34, 35, 163, 164] (by decide +kernel) (by decide +kernel)
set_option maxRecDepth 20000 in
theorem gL_law_X0_read : GoodIn wsL_law (wsV RL 48 RX0 yX0_read wsX0_read) := goodIn_app (goodIn_of _ (by decide +kernel)) ggL_law_X0_read
set_option maxRecDepth 20000 in
theorem ggL_law_X1_read : GoodIn wsL_law wsX1_read := goodIn_r _ [96, 24, 40, 41, 42, 5, 43, 165, 166] (by decide +kernel) (by decide +kernel)
set_option maxRecDepth 20000 in
theorem gL_law_X1_read : GoodIn wsL_law (wsV RL 51 RX1 yX1_read wsX1_read) := goodIn_app (goodIn_of _ (by decide +kernel)) ggL_law_X1_read
set_option maxRecDepth 20000 in
theorem ggL_law_X0_held : GoodIn wsL_law wsX0_held := goodIn_r _ [100, 19, 30, 31, 2, 32, 163, 164] (by decide +kernel) (by decide +kernel)
set_option maxRecDepth 20000 in
theorem gL_law_X0_held : GoodIn wsL_law (wsV RL 52 RX0 yX0_held wsX0_held) := goodIn_app (goodIn_of _ (by decide +kernel)) ggL_law_X0_held
set_option maxRecDepth 20000 in
theorem ggL_law_X1_held : GoodIn wsL_law wsX1_held := goodIn_r _ [104, 25, 40, 41, 42, 5, 43, 165, 166] (by decide +kernel) (by decide +kernel)
set_option maxRecDepth 20000 in
theorem gL_law_X1_held : GoodIn wsL_law (wsV RL 56 RX1 yX1_held wsX1_held) := goodIn_app (goodIn_of _ (by decide +kernel)) ggL_law_X1_held
set_option maxRecDepth 20000 in
theorem ggL_law_X0_same : GoodIn wsL_law wsX0_same := goodIn_r _ [108, 30, 31, 2, 32, 109, 110, 111, 112, 17, 163, 164] (by decide +kernel) (by decide +kernel)
set_option maxRecDepth 20000 in
theorem gL_law_X0_same : GoodIn wsL_law (wsV RL 57 RX0 yX0_same wsX0_same) := goodIn_app (goodIn_of _ (by decide +kernel)) ggL_law_X0_same
set_option maxRecDepth 20000 in
theorem ggL_law_X1_same : GoodIn wsL_law wsX1_same := goodIn_r _ [116, 24, 40, 41, 42, 5, 43, 165, 166] (by decide +kernel) (by decide +kernel)
set_option maxRecDepth 20000 in
theorem gL_law_X1_same : GoodIn wsL_law (wsV RL 61 RX1 yX1_same wsX1_same) := goodIn_app (goodIn_of _ (by decide +kernel)) ggL_law_X1_same
set_option maxRecDepth 20000 in
theorem ggL_law_X0_contents : GoodIn wsL_law wsX0_contents := goodIn_r _ [120, 19, 121, 122, 123, 2, 124, 109, 110, 111, 112, 17, 163, 164] (by decide +kernel) (by decide +kernel)
set_option maxRecDepth 20000 in
theorem gL_law_X0_contents : GoodIn wsL_law (wsV RL 62 RX0 yX0_contents wsX0_contents) := goodIn_app (goodIn_of _ (by decide +kernel)) ggL_law_X0_contents
set_option maxRecDepth 20000 in
theorem ggL_law_X1_contents : GoodIn wsL_law wsX1_contents := goodIn_r _ [128, 129, 102, 103, 5, 104, 25, 40, 41, 42, 43, 130, 131, 132, 133, 134, 114, 115, 116, 24, 165, 166] (by decide +kernel) (by decide +kernel)
set_option maxRecDepth 20000 in
theorem gL_law_X1_contents : GoodIn wsL_law (wsV RL 66 RX1 yX1_contents wsX1_contents) := goodIn_app (goodIn_of _ (by decide +kernel)) ggL_law_X1_contents
set_option maxRecDepth 20000 in
theorem ggL_law_X0_duplicates : GoodIn wsL_law wsX0_duplicates := goodIn_r _ [138, 19, 121, 122, 123, 2, 124, 109, 110, 111, 112, 17, 163, 164] (by decide +kernel) (by decide +kernel)
set_option maxRecDepth 20000 in
theorem gL_law_X0_duplicates : GoodIn wsL_law (wsV RL 67 RX0 yX0_duplicates wsX0_duplicates) := goodIn_app (goodIn_of _ (by decide +kernel)) ggL_law_X0_duplicates
set_option maxRecDepth 20000 in
theorem ggL_law_X1_duplicates : GoodIn wsL_law wsX1_duplicates := goodIn_r _ [142, 129, 102, 103, 5, 104, 25, 40, 41, 42, 43, 130, 131, 132, 133, 134, 114, 115, 116, 24, 165, 166] (by decide +kernel) (by decide +kernel)
set_option maxRecDepth 20000 in
theorem gL_law_X1_duplicates : GoodIn wsL_law (wsV RL 70 RX1 yX1_duplicates wsX1_duplicates) := goodIn_app (goodIn_of _ (by decide +kernel)) ggL_law_X1_duplicates
set_option maxRecDepth 20000 in
theorem ggL_law_X0_sum : GoodIn wsL_law wsX0_sum := goodIn_r _ [146, 17, 163, 164] (by decide +kernel) (by decide +kernel)
set_option maxRecDepth 20000 in
theorem gL_law_X0_sum : GoodIn wsL_law (wsV RL 71 RX0 yX0_sum wsX0_sum) := goodIn_app (goodIn_of _ (by decide +kernel)) ggL_law_X0_sum
set_option maxRecDepth 20000 in
theorem ggL_law_X1_sum : GoodIn wsL_law wsX1_sum := goodIn_r _ [150, 24, 165, 166] (by decide +kernel) (by decide +kernel)
set_option maxRecDepth 20000 in
theorem gL_law_X1_sum : GoodIn wsL_law (wsV RL 74 RX1 yX1_sum wsX1_sum) := goodIn_app (goodIn_of _ (by decide +kernel)) ggL_law_X1_sum
set_option maxRecDepth 20000 in
theorem ggL_law_X0_plain : GoodIn wsL_law wsX0_plain := goodIn_r _ [154, 19, 155, 156, 157, 2, 158, 17, 163, 164] (by decide +kernel) (by decide +kernel)
set_option maxRecDepth 20000 in
theorem gL_law_X0_plain : GoodIn wsL_law (wsV RL 75 RX0 yX0_plain wsX0_plain) := goodIn_app (goodIn_of _ (by decide +kernel)) ggL_law_X0_plain
set_option maxRecDepth 20000 in
theorem ggL_law_X1_plain : GoodIn wsL_law wsX1_plain := goodIn_r _ [162, 24, 129, 102, 103, 5, 104, 25, 40, 41, 42, 43, 165, 166] (by decide +kernel) (by decide +kernel)
set_option maxRecDepth 20000 in
theorem gL_law_X1_plain : GoodIn wsL_law (wsV RL 78 RX1 yX1_plain wsX1_plain) := goodIn_app (goodIn_of _ (by decide +kernel)) ggL_law_X1_plain
theorem dL_law_0 : decode cL_law 0 = .ok (.new 7, 3) := by decide +kernel
theorem dL_law_3 : decode cL_law 3 = .ok (.dup, 1) := by decide +kernel
theorem dL_law_4 : decode cL_law 4 = .ok (.aload_n 0, 1) := by decide +kernel
theorem dL_law_5 : decode cL_law 5 = .ok (.iconst 0, 1) := by decide +kernel
theorem dL_law_6 : decode cL_law 6 = .ok (.invokestatic 9, 3) := by decide +kernel
theorem dL_law_9 : decode cL_law 9 = .ok (.invokespecial 15, 3) := by decide +kernel
theorem dL_law_12 : decode cL_law 12 = .ok (.astore_n 1, 1) := by decide +kernel
theorem dL_law_13 : decode cL_law 13 = .ok (.new 18, 3) := by decide +kernel
theorem dL_law_16 : decode cL_law 16 = .ok (.dup, 1) := by decide +kernel
theorem dL_law_17 : decode cL_law 17 = .ok (.aload_n 0, 1) := by decide +kernel
theorem dL_law_18 : decode cL_law 18 = .ok (.iconst 0, 1) := by decide +kernel
theorem dL_law_19 : decode cL_law 19 = .ok (.invokestatic 9, 3) := by decide +kernel
theorem dL_law_22 : decode cL_law 22 = .ok (.invokespecial 20, 3) := by decide +kernel
theorem dL_law_25 : decode cL_law 25 = .ok (.astore_n 2, 1) := by decide +kernel
theorem dL_law_26 : decode cL_law 26 = .ok (.iconst 1, 1) := by decide +kernel
theorem dL_law_27 : decode cL_law 27 = .ok (.istore_n 3, 1) := by decide +kernel
theorem dL_law_28 : decode cL_law 28 = .ok (.iload_n 3, 1) := by decide +kernel
theorem dL_law_29 : decode cL_law 29 = .ok (.aload_n 0, 1) := by decide +kernel
theorem dL_law_30 : decode cL_law 30 = .ok (.arraylength, 1) := by decide +kernel
theorem dL_law_31 : decode cL_law 31 = .ok (.iconst 4, 1) := by decide +kernel
theorem dL_law_32 : decode cL_law 32 = .ok (.isub, 1) := by decide +kernel
theorem dL_law_33 : decode cL_law 33 = .ok (.if_icmp .gt 418, 3) := by decide +kernel
theorem dL_law_36 : decode cL_law 36 = .ok (.aload_n 0, 1) := by decide +kernel
theorem dL_law_37 : decode cL_law 37 = .ok (.iload_n 3, 1) := by decide +kernel
theorem dL_law_38 : decode cL_law 38 = .ok (.iaload, 1) := by decide +kernel
theorem dL_law_39 : decode cL_law 39 = .ok (.bipush 15, 2) := by decide +kernel
theorem dL_law_41 : decode cL_law 41 = .ok (.iand, 1) := by decide +kernel
theorem dL_law_42 : decode cL_law 42 = .ok (.tableswitch 403 0 12 #[66, 109, 142, 175, 208, 231, 252, 285, 308, 341, 354, 367, 390], 66) := by decide +kernel
theorem dL_law_108 : decode cL_law 108 = .ok (.aload_n 1, 1) := by decide +kernel
theorem dL_law_109 : decode cL_law 109 = .ok (.aload_n 0, 1) := by decide +kernel
theorem dL_law_110 : decode cL_law 110 = .ok (.iload_n 3, 1) := by decide +kernel
theorem dL_law_111 : decode cL_law 111 = .ok (.iconst 1, 1) := by decide +kernel
theorem dL_law_112 : decode cL_law 112 = .ok (.iadd, 1) := by decide +kernel
theorem dL_law_113 : decode cL_law 113 = .ok (.iaload, 1) := by decide +kernel
theorem dL_law_114 : decode cL_law 114 = .ok (.aload_n 0, 1) := by decide +kernel
theorem dL_law_115 : decode cL_law 115 = .ok (.iload_n 3, 1) := by decide +kernel
theorem dL_law_116 : decode cL_law 116 = .ok (.iconst 2, 1) := by decide +kernel
theorem dL_law_117 : decode cL_law 117 = .ok (.iadd, 1) := by decide +kernel
theorem dL_law_118 : decode cL_law 118 = .ok (.iaload, 1) := by decide +kernel
theorem dL_law_119 : decode cL_law 119 = .ok (.aload_n 0, 1) := by decide +kernel
theorem dL_law_120 : decode cL_law 120 = .ok (.iload_n 3, 1) := by decide +kernel
theorem dL_law_121 : decode cL_law 121 = .ok (.iconst 3, 1) := by decide +kernel
theorem dL_law_122 : decode cL_law 122 = .ok (.iadd, 1) := by decide +kernel
theorem dL_law_123 : decode cL_law 123 = .ok (.iaload, 1) := by decide +kernel
theorem dL_law_124 : decode cL_law 124 = .ok (.invokevirtual 21, 3) := by decide +kernel
theorem dL_law_127 : decode cL_law 127 = .ok (.aload_n 2, 1) := by decide +kernel
theorem dL_law_128 : decode cL_law 128 = .ok (.aload_n 0, 1) := by decide +kernel
theorem dL_law_129 : decode cL_law 129 = .ok (.iload_n 3, 1) := by decide +kernel
theorem dL_law_130 : decode cL_law 130 = .ok (.iconst 1, 1) := by decide +kernel
theorem dL_law_131 : decode cL_law 131 = .ok (.iadd, 1) := by decide +kernel
theorem dL_law_132 : decode cL_law 132 = .ok (.iaload, 1) := by decide +kernel
theorem dL_law_133 : decode cL_law 133 = .ok (.aload_n 0, 1) := by decide +kernel
theorem dL_law_134 : decode cL_law 134 = .ok (.iload_n 3, 1) := by decide +kernel
theorem dL_law_135 : decode cL_law 135 = .ok (.iconst 2, 1) := by decide +kernel
theorem dL_law_136 : decode cL_law 136 = .ok (.iadd, 1) := by decide +kernel
theorem dL_law_137 : decode cL_law 137 = .ok (.iaload, 1) := by decide +kernel
theorem dL_law_138 : decode cL_law 138 = .ok (.aload_n 0, 1) := by decide +kernel
theorem dL_law_139 : decode cL_law 139 = .ok (.iload_n 3, 1) := by decide +kernel
theorem dL_law_140 : decode cL_law 140 = .ok (.iconst 3, 1) := by decide +kernel
theorem dL_law_141 : decode cL_law 141 = .ok (.iadd, 1) := by decide +kernel
theorem dL_law_142 : decode cL_law 142 = .ok (.iaload, 1) := by decide +kernel
theorem dL_law_143 : decode cL_law 143 = .ok (.invokevirtual 25, 3) := by decide +kernel
theorem dL_law_146 : decode cL_law 146 = .ok (.if_icmp .eq 299, 3) := by decide +kernel
theorem dL_law_149 : decode cL_law 149 = .ok (.iconst 0, 1) := by decide +kernel
theorem dL_law_150 : decode cL_law 150 = .ok (.ireturn, 1) := by decide +kernel
theorem dL_law_151 : decode cL_law 151 = .ok (.aload_n 1, 1) := by decide +kernel
theorem dL_law_152 : decode cL_law 152 = .ok (.aload_n 0, 1) := by decide +kernel
theorem dL_law_153 : decode cL_law 153 = .ok (.iload_n 3, 1) := by decide +kernel
theorem dL_law_154 : decode cL_law 154 = .ok (.iconst 1, 1) := by decide +kernel
theorem dL_law_155 : decode cL_law 155 = .ok (.iadd, 1) := by decide +kernel
theorem dL_law_156 : decode cL_law 156 = .ok (.iaload, 1) := by decide +kernel
theorem dL_law_157 : decode cL_law 157 = .ok (.aload_n 0, 1) := by decide +kernel
theorem dL_law_158 : decode cL_law 158 = .ok (.iload_n 3, 1) := by decide +kernel
theorem dL_law_159 : decode cL_law 159 = .ok (.iconst 2, 1) := by decide +kernel
theorem dL_law_160 : decode cL_law 160 = .ok (.iadd, 1) := by decide +kernel
theorem dL_law_161 : decode cL_law 161 = .ok (.iaload, 1) := by decide +kernel
theorem dL_law_162 : decode cL_law 162 = .ok (.invokevirtual 26, 3) := by decide +kernel
theorem dL_law_165 : decode cL_law 165 = .ok (.aload_n 2, 1) := by decide +kernel
theorem dL_law_166 : decode cL_law 166 = .ok (.aload_n 0, 1) := by decide +kernel
theorem dL_law_167 : decode cL_law 167 = .ok (.iload_n 3, 1) := by decide +kernel
theorem dL_law_168 : decode cL_law 168 = .ok (.iconst 1, 1) := by decide +kernel
theorem dL_law_169 : decode cL_law 169 = .ok (.iadd, 1) := by decide +kernel
theorem dL_law_170 : decode cL_law 170 = .ok (.iaload, 1) := by decide +kernel
theorem dL_law_171 : decode cL_law 171 = .ok (.aload_n 0, 1) := by decide +kernel
theorem dL_law_172 : decode cL_law 172 = .ok (.iload_n 3, 1) := by decide +kernel
theorem dL_law_173 : decode cL_law 173 = .ok (.iconst 2, 1) := by decide +kernel
theorem dL_law_174 : decode cL_law 174 = .ok (.iadd, 1) := by decide +kernel
theorem dL_law_175 : decode cL_law 175 = .ok (.iaload, 1) := by decide +kernel
theorem dL_law_176 : decode cL_law 176 = .ok (.invokevirtual 30, 3) := by decide +kernel
theorem dL_law_179 : decode cL_law 179 = .ok (.if_icmp .eq 266, 3) := by decide +kernel
theorem dL_law_182 : decode cL_law 182 = .ok (.iconst 0, 1) := by decide +kernel
theorem dL_law_183 : decode cL_law 183 = .ok (.ireturn, 1) := by decide +kernel
theorem dL_law_184 : decode cL_law 184 = .ok (.aload_n 1, 1) := by decide +kernel
theorem dL_law_185 : decode cL_law 185 = .ok (.aload_n 0, 1) := by decide +kernel
theorem dL_law_186 : decode cL_law 186 = .ok (.iload_n 3, 1) := by decide +kernel
theorem dL_law_187 : decode cL_law 187 = .ok (.iconst 1, 1) := by decide +kernel
theorem dL_law_188 : decode cL_law 188 = .ok (.iadd, 1) := by decide +kernel
theorem dL_law_189 : decode cL_law 189 = .ok (.iaload, 1) := by decide +kernel
theorem dL_law_190 : decode cL_law 190 = .ok (.aload_n 0, 1) := by decide +kernel
theorem dL_law_191 : decode cL_law 191 = .ok (.iload_n 3, 1) := by decide +kernel
theorem dL_law_192 : decode cL_law 192 = .ok (.iconst 2, 1) := by decide +kernel
theorem dL_law_193 : decode cL_law 193 = .ok (.iadd, 1) := by decide +kernel
theorem dL_law_194 : decode cL_law 194 = .ok (.iaload, 1) := by decide +kernel
theorem dL_law_195 : decode cL_law 195 = .ok (.invokevirtual 31, 3) := by decide +kernel
theorem dL_law_198 : decode cL_law 198 = .ok (.aload_n 2, 1) := by decide +kernel
theorem dL_law_199 : decode cL_law 199 = .ok (.aload_n 0, 1) := by decide +kernel
theorem dL_law_200 : decode cL_law 200 = .ok (.iload_n 3, 1) := by decide +kernel
theorem dL_law_201 : decode cL_law 201 = .ok (.iconst 1, 1) := by decide +kernel
theorem dL_law_202 : decode cL_law 202 = .ok (.iadd, 1) := by decide +kernel
theorem dL_law_203 : decode cL_law 203 = .ok (.iaload, 1) := by decide +kernel
theorem dL_law_204 : decode cL_law 204 = .ok (.aload_n 0, 1) := by decide +kernel
theorem dL_law_205 : decode cL_law 205 = .ok (.iload_n 3, 1) := by decide +kernel
theorem dL_law_206 : decode cL_law 206 = .ok (.iconst 2, 1) := by decide +kernel
theorem dL_law_207 : decode cL_law 207 = .ok (.iadd, 1) := by decide +kernel
theorem dL_law_208 : decode cL_law 208 = .ok (.iaload, 1) := by decide +kernel
theorem dL_law_209 : decode cL_law 209 = .ok (.invokevirtual 34, 3) := by decide +kernel
theorem dL_law_212 : decode cL_law 212 = .ok (.if_icmp .eq 233, 3) := by decide +kernel
theorem dL_law_215 : decode cL_law 215 = .ok (.iconst 0, 1) := by decide +kernel
theorem dL_law_216 : decode cL_law 216 = .ok (.ireturn, 1) := by decide +kernel
theorem dL_law_217 : decode cL_law 217 = .ok (.aload_n 1, 1) := by decide +kernel
theorem dL_law_218 : decode cL_law 218 = .ok (.aload_n 0, 1) := by decide +kernel
theorem dL_law_219 : decode cL_law 219 = .ok (.iload_n 3, 1) := by decide +kernel
theorem dL_law_220 : decode cL_law 220 = .ok (.iconst 1, 1) := by decide +kernel
theorem dL_law_221 : decode cL_law 221 = .ok (.iadd, 1) := by decide +kernel
theorem dL_law_222 : decode cL_law 222 = .ok (.iaload, 1) := by decide +kernel
theorem dL_law_223 : decode cL_law 223 = .ok (.aload_n 0, 1) := by decide +kernel
theorem dL_law_224 : decode cL_law 224 = .ok (.iload_n 3, 1) := by decide +kernel
theorem dL_law_225 : decode cL_law 225 = .ok (.iconst 2, 1) := by decide +kernel
theorem dL_law_226 : decode cL_law 226 = .ok (.iadd, 1) := by decide +kernel
theorem dL_law_227 : decode cL_law 227 = .ok (.iaload, 1) := by decide +kernel
theorem dL_law_228 : decode cL_law 228 = .ok (.invokevirtual 35, 3) := by decide +kernel
theorem dL_law_231 : decode cL_law 231 = .ok (.aload_n 2, 1) := by decide +kernel
theorem dL_law_232 : decode cL_law 232 = .ok (.aload_n 0, 1) := by decide +kernel
theorem dL_law_233 : decode cL_law 233 = .ok (.iload_n 3, 1) := by decide +kernel
theorem dL_law_234 : decode cL_law 234 = .ok (.iconst 1, 1) := by decide +kernel
theorem dL_law_235 : decode cL_law 235 = .ok (.iadd, 1) := by decide +kernel
theorem dL_law_236 : decode cL_law 236 = .ok (.iaload, 1) := by decide +kernel
theorem dL_law_237 : decode cL_law 237 = .ok (.aload_n 0, 1) := by decide +kernel
theorem dL_law_238 : decode cL_law 238 = .ok (.iload_n 3, 1) := by decide +kernel
theorem dL_law_239 : decode cL_law 239 = .ok (.iconst 2, 1) := by decide +kernel
theorem dL_law_240 : decode cL_law 240 = .ok (.iadd, 1) := by decide +kernel
theorem dL_law_241 : decode cL_law 241 = .ok (.iaload, 1) := by decide +kernel
theorem dL_law_242 : decode cL_law 242 = .ok (.invokevirtual 38, 3) := by decide +kernel
theorem dL_law_245 : decode cL_law 245 = .ok (.if_icmp .eq 200, 3) := by decide +kernel
theorem dL_law_248 : decode cL_law 248 = .ok (.iconst 0, 1) := by decide +kernel
theorem dL_law_249 : decode cL_law 249 = .ok (.ireturn, 1) := by decide +kernel
theorem dL_law_250 : decode cL_law 250 = .ok (.aload_n 1, 1) := by decide +kernel
theorem dL_law_251 : decode cL_law 251 = .ok (.aload_n 0, 1) := by decide +kernel
theorem dL_law_252 : decode cL_law 252 = .ok (.iload_n 3, 1) := by decide +kernel
theorem dL_law_253 : decode cL_law 253 = .ok (.iconst 1, 1) := by decide +kernel
theorem dL_law_254 : decode cL_law 254 = .ok (.iadd, 1) := by decide +kernel
theorem dL_law_255 : decode cL_law 255 = .ok (.iaload, 1) := by decide +kernel
theorem dL_law_256 : decode cL_law 256 = .ok (.invokevirtual 39, 3) := by decide +kernel
theorem dL_law_259 : decode cL_law 259 = .ok (.aload_n 2, 1) := by decide +kernel
theorem dL_law_260 : decode cL_law 260 = .ok (.aload_n 0, 1) := by decide +kernel
theorem dL_law_261 : decode cL_law 261 = .ok (.iload_n 3, 1) := by decide +kernel
theorem dL_law_262 : decode cL_law 262 = .ok (.iconst 1, 1) := by decide +kernel
theorem dL_law_263 : decode cL_law 263 = .ok (.iadd, 1) := by decide +kernel
theorem dL_law_264 : decode cL_law 264 = .ok (.iaload, 1) := by decide +kernel
theorem dL_law_265 : decode cL_law 265 = .ok (.invokevirtual 43, 3) := by decide +kernel
theorem dL_law_268 : decode cL_law 268 = .ok (.if_icmp .eq 177, 3) := by decide +kernel
theorem dL_law_271 : decode cL_law 271 = .ok (.iconst 0, 1) := by decide +kernel
theorem dL_law_272 : decode cL_law 272 = .ok (.ireturn, 1) := by decide +kernel
theorem dL_law_273 : decode cL_law 273 = .ok (.aload_n 1, 1) := by decide +kernel
theorem dL_law_274 : decode cL_law 274 = .ok (.aload_n 0, 1) := by decide +kernel
theorem dL_law_275 : decode cL_law 275 = .ok (.iload_n 3, 1) := by decide +kernel
theorem dL_law_276 : decode cL_law 276 = .ok (.iconst 1, 1) := by decide +kernel
theorem dL_law_277 : decode cL_law 277 = .ok (.iadd, 1) := by decide +kernel
theorem dL_law_278 : decode cL_law 278 = .ok (.iaload, 1) := by decide +kernel
theorem dL_law_279 : decode cL_law 279 = .ok (.invokevirtual 44, 3) := by decide +kernel
theorem dL_law_282 : decode cL_law 282 = .ok (.aload_n 2, 1) := by decide +kernel
theorem dL_law_283 : decode cL_law 283 = .ok (.aload_n 0, 1) := by decide +kernel
theorem dL_law_284 : decode cL_law 284 = .ok (.iload_n 3, 1) := by decide +kernel
theorem dL_law_285 : decode cL_law 285 = .ok (.iconst 1, 1) := by decide +kernel
theorem dL_law_286 : decode cL_law 286 = .ok (.iadd, 1) := by decide +kernel
theorem dL_law_287 : decode cL_law 287 = .ok (.iaload, 1) := by decide +kernel
theorem dL_law_288 : decode cL_law 288 = .ok (.invokevirtual 47, 3) := by decide +kernel
theorem dL_law_291 : decode cL_law 291 = .ok (.goto 154, 3) := by decide +kernel
theorem dL_law_294 : decode cL_law 294 = .ok (.aload_n 1, 1) := by decide +kernel
theorem dL_law_295 : decode cL_law 295 = .ok (.aload_n 0, 1) := by decide +kernel
theorem dL_law_296 : decode cL_law 296 = .ok (.iload_n 3, 1) := by decide +kernel
theorem dL_law_297 : decode cL_law 297 = .ok (.iconst 1, 1) := by decide +kernel
theorem dL_law_298 : decode cL_law 298 = .ok (.iadd, 1) := by decide +kernel
theorem dL_law_299 : decode cL_law 299 = .ok (.iaload, 1) := by decide +kernel
theorem dL_law_300 : decode cL_law 300 = .ok (.aload_n 0, 1) := by decide +kernel
theorem dL_law_301 : decode cL_law 301 = .ok (.iload_n 3, 1) := by decide +kernel
theorem dL_law_302 : decode cL_law 302 = .ok (.iconst 2, 1) := by decide +kernel
theorem dL_law_303 : decode cL_law 303 = .ok (.iadd, 1) := by decide +kernel
theorem dL_law_304 : decode cL_law 304 = .ok (.iaload, 1) := by decide +kernel
theorem dL_law_305 : decode cL_law 305 = .ok (.invokevirtual 48, 3) := by decide +kernel
theorem dL_law_308 : decode cL_law 308 = .ok (.aload_n 2, 1) := by decide +kernel
theorem dL_law_309 : decode cL_law 309 = .ok (.aload_n 0, 1) := by decide +kernel
theorem dL_law_310 : decode cL_law 310 = .ok (.iload_n 3, 1) := by decide +kernel
theorem dL_law_311 : decode cL_law 311 = .ok (.iconst 1, 1) := by decide +kernel
theorem dL_law_312 : decode cL_law 312 = .ok (.iadd, 1) := by decide +kernel
theorem dL_law_313 : decode cL_law 313 = .ok (.iaload, 1) := by decide +kernel
theorem dL_law_314 : decode cL_law 314 = .ok (.aload_n 0, 1) := by decide +kernel
theorem dL_law_315 : decode cL_law 315 = .ok (.iload_n 3, 1) := by decide +kernel
theorem dL_law_316 : decode cL_law 316 = .ok (.iconst 2, 1) := by decide +kernel
theorem dL_law_317 : decode cL_law 317 = .ok (.iadd, 1) := by decide +kernel
theorem dL_law_318 : decode cL_law 318 = .ok (.iaload, 1) := by decide +kernel
theorem dL_law_319 : decode cL_law 319 = .ok (.invokevirtual 51, 3) := by decide +kernel
theorem dL_law_322 : decode cL_law 322 = .ok (.if_icmp .eq 123, 3) := by decide +kernel
theorem dL_law_325 : decode cL_law 325 = .ok (.iconst 0, 1) := by decide +kernel
theorem dL_law_326 : decode cL_law 326 = .ok (.ireturn, 1) := by decide +kernel
theorem dL_law_327 : decode cL_law 327 = .ok (.aload_n 1, 1) := by decide +kernel
theorem dL_law_328 : decode cL_law 328 = .ok (.aload_n 0, 1) := by decide +kernel
theorem dL_law_329 : decode cL_law 329 = .ok (.iload_n 3, 1) := by decide +kernel
theorem dL_law_330 : decode cL_law 330 = .ok (.iconst 1, 1) := by decide +kernel
theorem dL_law_331 : decode cL_law 331 = .ok (.iadd, 1) := by decide +kernel
theorem dL_law_332 : decode cL_law 332 = .ok (.iaload, 1) := by decide +kernel
theorem dL_law_333 : decode cL_law 333 = .ok (.invokevirtual 52, 3) := by decide +kernel
theorem dL_law_336 : decode cL_law 336 = .ok (.aload_n 2, 1) := by decide +kernel
theorem dL_law_337 : decode cL_law 337 = .ok (.aload_n 0, 1) := by decide +kernel
theorem dL_law_338 : decode cL_law 338 = .ok (.iload_n 3, 1) := by decide +kernel
theorem dL_law_339 : decode cL_law 339 = .ok (.iconst 1, 1) := by decide +kernel
theorem dL_law_340 : decode cL_law 340 = .ok (.iadd, 1) := by decide +kernel
theorem dL_law_341 : decode cL_law 341 = .ok (.iaload, 1) := by decide +kernel
theorem dL_law_342 : decode cL_law 342 = .ok (.invokevirtual 56, 3) := by decide +kernel
theorem dL_law_345 : decode cL_law 345 = .ok (.if_icmp .eq 100, 3) := by decide +kernel
theorem dL_law_348 : decode cL_law 348 = .ok (.iconst 0, 1) := by decide +kernel
theorem dL_law_349 : decode cL_law 349 = .ok (.ireturn, 1) := by decide +kernel
theorem dL_law_350 : decode cL_law 350 = .ok (.aload_n 1, 1) := by decide +kernel
theorem dL_law_351 : decode cL_law 351 = .ok (.aload_n 0, 1) := by decide +kernel
theorem dL_law_352 : decode cL_law 352 = .ok (.iload_n 3, 1) := by decide +kernel
theorem dL_law_353 : decode cL_law 353 = .ok (.iconst 1, 1) := by decide +kernel
theorem dL_law_354 : decode cL_law 354 = .ok (.iadd, 1) := by decide +kernel
theorem dL_law_355 : decode cL_law 355 = .ok (.iaload, 1) := by decide +kernel
theorem dL_law_356 : decode cL_law 356 = .ok (.aload_n 0, 1) := by decide +kernel
theorem dL_law_357 : decode cL_law 357 = .ok (.iload_n 3, 1) := by decide +kernel
theorem dL_law_358 : decode cL_law 358 = .ok (.iconst 2, 1) := by decide +kernel
theorem dL_law_359 : decode cL_law 359 = .ok (.iadd, 1) := by decide +kernel
theorem dL_law_360 : decode cL_law 360 = .ok (.iaload, 1) := by decide +kernel
theorem dL_law_361 : decode cL_law 361 = .ok (.invokevirtual 57, 3) := by decide +kernel
theorem dL_law_364 : decode cL_law 364 = .ok (.aload_n 2, 1) := by decide +kernel
theorem dL_law_365 : decode cL_law 365 = .ok (.aload_n 0, 1) := by decide +kernel
theorem dL_law_366 : decode cL_law 366 = .ok (.iload_n 3, 1) := by decide +kernel
theorem dL_law_367 : decode cL_law 367 = .ok (.iconst 1, 1) := by decide +kernel
theorem dL_law_368 : decode cL_law 368 = .ok (.iadd, 1) := by decide +kernel
theorem dL_law_369 : decode cL_law 369 = .ok (.iaload, 1) := by decide +kernel
theorem dL_law_370 : decode cL_law 370 = .ok (.aload_n 0, 1) := by decide +kernel
theorem dL_law_371 : decode cL_law 371 = .ok (.iload_n 3, 1) := by decide +kernel
theorem dL_law_372 : decode cL_law 372 = .ok (.iconst 2, 1) := by decide +kernel
theorem dL_law_373 : decode cL_law 373 = .ok (.iadd, 1) := by decide +kernel
theorem dL_law_374 : decode cL_law 374 = .ok (.iaload, 1) := by decide +kernel
theorem dL_law_375 : decode cL_law 375 = .ok (.invokevirtual 61, 3) := by decide +kernel
theorem dL_law_378 : decode cL_law 378 = .ok (.if_icmp .eq 67, 3) := by decide +kernel
theorem dL_law_381 : decode cL_law 381 = .ok (.iconst 0, 1) := by decide +kernel
theorem dL_law_382 : decode cL_law 382 = .ok (.ireturn, 1) := by decide +kernel
theorem dL_law_383 : decode cL_law 383 = .ok (.aload_n 1, 1) := by decide +kernel
theorem dL_law_384 : decode cL_law 384 = .ok (.invokevirtual 62, 3) := by decide +kernel
theorem dL_law_387 : decode cL_law 387 = .ok (.aload_n 2, 1) := by decide +kernel
theorem dL_law_388 : decode cL_law 388 = .ok (.invokevirtual 66, 3) := by decide +kernel
theorem dL_law_391 : decode cL_law 391 = .ok (.if_icmp .eq 54, 3) := by decide +kernel
theorem dL_law_394 : decode cL_law 394 = .ok (.iconst 0, 1) := by decide +kernel
theorem dL_law_395 : decode cL_law 395 = .ok (.ireturn, 1) := by decide +kernel
theorem dL_law_396 : decode cL_law 396 = .ok (.aload_n 1, 1) := by decide +kernel
theorem dL_law_397 : decode cL_law 397 = .ok (.invokevirtual 67, 3) := by decide +kernel
theorem dL_law_400 : decode cL_law 400 = .ok (.aload_n 2, 1) := by decide +kernel
theorem dL_law_401 : decode cL_law 401 = .ok (.invokevirtual 70, 3) := by decide +kernel
theorem dL_law_404 : decode cL_law 404 = .ok (.if_icmp .eq 41, 3) := by decide +kernel
theorem dL_law_407 : decode cL_law 407 = .ok (.iconst 0, 1) := by decide +kernel
theorem dL_law_408 : decode cL_law 408 = .ok (.ireturn, 1) := by decide +kernel
theorem dL_law_409 : decode cL_law 409 = .ok (.aload_n 1, 1) := by decide +kernel
theorem dL_law_410 : decode cL_law 410 = .ok (.aload_n 0, 1) := by decide +kernel
theorem dL_law_411 : decode cL_law 411 = .ok (.iload_n 3, 1) := by decide +kernel
theorem dL_law_412 : decode cL_law 412 = .ok (.iconst 1, 1) := by decide +kernel
theorem dL_law_413 : decode cL_law 413 = .ok (.iadd, 1) := by decide +kernel
theorem dL_law_414 : decode cL_law 414 = .ok (.iaload, 1) := by decide +kernel
theorem dL_law_415 : decode cL_law 415 = .ok (.invokevirtual 71, 3) := by decide +kernel
theorem dL_law_418 : decode cL_law 418 = .ok (.aload_n 2, 1) := by decide +kernel
theorem dL_law_419 : decode cL_law 419 = .ok (.aload_n 0, 1) := by decide +kernel
theorem dL_law_420 : decode cL_law 420 = .ok (.iload_n 3, 1) := by decide +kernel
theorem dL_law_421 : decode cL_law 421 = .ok (.iconst 1, 1) := by decide +kernel
theorem dL_law_422 : decode cL_law 422 = .ok (.iadd, 1) := by decide +kernel
theorem dL_law_423 : decode cL_law 423 = .ok (.iaload, 1) := by decide +kernel
theorem dL_law_424 : decode cL_law 424 = .ok (.invokevirtual 74, 3) := by decide +kernel
theorem dL_law_427 : decode cL_law 427 = .ok (.if_icmp .eq 18, 3) := by decide +kernel
theorem dL_law_430 : decode cL_law 430 = .ok (.iconst 0, 1) := by decide +kernel
theorem dL_law_431 : decode cL_law 431 = .ok (.ireturn, 1) := by decide +kernel
theorem dL_law_432 : decode cL_law 432 = .ok (.aload_n 1, 1) := by decide +kernel
theorem dL_law_433 : decode cL_law 433 = .ok (.invokevirtual 75, 3) := by decide +kernel
theorem dL_law_436 : decode cL_law 436 = .ok (.aload_n 2, 1) := by decide +kernel
theorem dL_law_437 : decode cL_law 437 = .ok (.invokevirtual 78, 3) := by decide +kernel
theorem dL_law_440 : decode cL_law 440 = .ok (.if_icmp .eq 5, 3) := by decide +kernel
theorem dL_law_443 : decode cL_law 443 = .ok (.iconst 0, 1) := by decide +kernel
theorem dL_law_444 : decode cL_law 444 = .ok (.ireturn, 1) := by decide +kernel
theorem dL_law_445 : decode cL_law 445 = .ok (.iinc 3 4, 3) := by decide +kernel
theorem dL_law_448 : decode cL_law 448 = .ok (.goto (-420), 3) := by decide +kernel
theorem dL_law_451 : decode cL_law 451 = .ok (.iconst 1, 1) := by decide +kernel
theorem dL_law_452 : decode cL_law 452 = .ok (.ireturn, 1) := by decide +kernel
abbrev vwCl : List vw_C := [(RX0, TX0, 2), (RX1, TX1, 2)]
/-! ===== END printed: names ===== -/
end
section
/-! flags, page numbers, and the mathematical state: words w, held h -/
def bI (b : Bool) : Int32 := if b then 1 else 0
theorem bI_f {b : Bool} (h : bI b = 0) : b = false := by
  cases b with
  | false => rfl
  | true => exact absurd h (by decide +kernel)
theorem bI_t {b : Bool} (h : ¬ bI b = 0) : b = true := by
  cases b with
  | false => exact absurd (by decide +kernel) h
  | true => rfl
theorem bN_f {b : Bool} (h : bI (!b) = 0) : b = true := by
  cases b with
  | false => exact absurd h (by decide +kernel)
  | true => rfl
theorem bN_t {b : Bool} (h : ¬ bI (!b) = 0) : b = false := by
  cases b with
  | false => rfl
  | true => exact absurd (by decide +kernel) h
theorem bI_nar (b : Bool) : vp_nar .boolean (bI b) = bI b := by cases b <;> decide +kernel
theorem bI_narrow (b : Bool) : narrow .boolean (.int (bI b)) = .int (bI b) := by cases b <;> rfl
theorem bI_1 : nI 1 = bI true := by decide +kernel
theorem bI_0 : nI 0 = bI false := by decide +kernel
def updB (f : Nat → Bool) (k : Nat) (x : Bool) : Nat → Bool := fun j => if j = k then x else f j
theorem updB_twice (f : Nat → Bool) (k : Nat) (x y : Bool) : updB (updB f k x) k y = updB f k y := by
  funext j
  simp only [updB]
  split <;> rfl
def zp (h : Nat → Bool) : Nat → Int32 := fun j => bI (h j)
def zn (h : Nat → Bool) : Nat → Int32 := fun j => bI (!h j)
theorem zp_upd (h : Nat → Bool) (k : Nat) (b : Bool) : upd (zp h) k (vp_nar .boolean (bI b)) = zp (updB h k b) := by
  funext j
  simp only [upd, zp, updB, bI_nar]
  split <;> rfl
theorem zn_upd (h : Nat → Bool) (k : Nat) (b : Bool) : upd (zn h) k (vp_nar .boolean (bI (!b))) = zn (updB h k b) := by
  funext j
  simp only [upd, zn, updB, bI_nar]
  split <;> rfl
def okP (n : Nat) (x : Int32) : Bool := decide (0 ≤ x.toInt ∧ x.toInt < n)
def pg (x : Int32) : Nat := x.toNatClampNeg
theorem pg_nI {j : Nat} (h : j < 2 ^ 31) : pg (nI j) = j := nI_clamp h
theorem okP_of {n : Nat} {x : Int32} (h : okP n x = true) (hn : n < 2 ^ 31) : ∃ j : Nat, j < n ∧ x = nI j := vp_in_of (vp_in_iff.mpr (of_decide_eq_true h)) hn
theorem okP_nI {n j : Nat} (h : j < n) (hn : n < 2 ^ 31) : okP n (nI j) = true := decide_eq_true (vp_in_iff.mp (vp_in_nI h hn))
theorem okP_neg {n : Nat} {x : Int32} (h : x < 0) : okP n x = false := by
  rw [Int32.lt_iff_toInt_lt, Int32.toInt_zero] at h
  exact decide_eq_false (fun q => by omega)
theorem okP_big {n : Nat} {x : Int32} (hn : n < 2 ^ 31) (h : nI n ≤ x) : okP n x = false := by
  rw [Int32.le_iff_toInt_le, nI_toInt hn] at h
  exact decide_eq_false (fun q => by omega)
theorem okP_in {n : Nat} {x : Int32} (hn : n < 2 ^ 31) (h0 : ¬ x < 0) (h : ¬ nI n ≤ x) : okP n x = true := by
  rw [Int32.lt_iff_toInt_lt, Int32.toInt_zero] at h0
  rw [Int32.le_iff_toInt_le, nI_toInt hn] at h
  exact decide_eq_true ⟨by omega, by omega⟩
theorem okP_le {n : Nat} {x : Int32} (hn : n < 2 ^ 31) (h0 : ¬ x < 0) (h : x ≤ nI n) : okP (n + 1) x = true := by
  rw [Int32.lt_iff_toInt_lt, Int32.toInt_zero] at h0
  rw [Int32.le_iff_toInt_le, nI_toInt hn] at h
  exact decide_eq_true ⟨by omega, by omega⟩
theorem okP_nle {n : Nat} {x : Int32} (hn : n < 2 ^ 31) (h : ¬ x ≤ nI n) : okP (n + 1) x = false := by
  rw [Int32.le_iff_toInt_le, nI_toInt hn] at h
  exact decide_eq_false (fun q => by omega)
theorem okP_lt {n : Nat} {x : Int32} (hn : n < 2 ^ 31) (h0 : ¬ x < 0) (h : x < nI n) : okP n x = true := by
  rw [Int32.lt_iff_toInt_lt, Int32.toInt_zero] at h0
  rw [Int32.lt_iff_toInt_lt, nI_toInt hn] at h
  exact decide_eq_true ⟨by omega, by omega⟩
theorem okP_nlt {n : Nat} {x : Int32} (hn : n < 2 ^ 31) (h : ¬ x < nI n) : okP n x = false := by
  rw [Int32.lt_iff_toInt_lt, nI_toInt hn] at h
  exact decide_eq_false (fun q => by omega)
/-! what each call answers and does, over w and h -/
def s_read (w : Nat → Int32) (p k : Int32) : Int32 := if okP 24 p = true then (if okP 4 k = true then w (pg p * 4 + pg k) else -2) else -1
def w_write (w : Nat → Int32) (p k v : Int32) : Nat → Int32 := if okP 24 p = true then (if okP 4 k = true then upd w (pg p * 4 + pg k) v else w) else w
def h_write (h : Nat → Bool) (p k : Int32) : Nat → Bool := if okP 24 p = true then (if okP 4 k = true then updB h (pg p) true else h) else h
def s_page (p : Int32) : Int32 := if okP 24 p = true then 0 else -1
def fillN (w : Nat → Int32) (j : Nat) (v : Int32) : Nat → Nat → Int32
  | 0 => w
  | n + 1 => upd (fillN w j v n) (j * 4 + n) v
def w_fill (w : Nat → Int32) (p v : Int32) : Nat → Int32 := if okP 24 p = true then fillN w (pg p) v 4 else w
def h_fill (h : Nat → Bool) (p : Int32) : Nat → Bool := if okP 24 p = true then updB h (pg p) true else h
def s_two (p q : Int32) : Int32 := if okP 24 p = true then (if okP 24 q = true then 0 else -1) else -1
def copyN (w : Nat → Int32) (a b : Nat) : Nat → Nat → Int32
  | 0 => w
  | n + 1 => upd (copyN w a b n) (b * 4 + n) (copyN w a b n (a * 4 + n))
def w_copy (w : Nat → Int32) (p q : Int32) : Nat → Int32 := if okP 24 p = true then (if okP 24 q = true then copyN w (pg p) (pg q) 4 else w) else w
def h_copy (h : Nat → Bool) (p q : Int32) : Nat → Bool := if okP 24 p = true then (if okP 24 q = true then updB h (pg q) (h (pg p)) else h) else h
def swapN (w : Nat → Int32) (a b : Nat) : Nat → Nat → Int32
  | 0 => w
  | n + 1 => upd (upd (swapN w a b n) (a * 4 + n) (swapN w a b n (b * 4 + n))) (b * 4 + n) (swapN w a b n (a * 4 + n))
def w_swap (w : Nat → Int32) (p q : Int32) : Nat → Int32 := if okP 24 p = true then (if okP 24 q = true then swapN w (pg p) (pg q) 4 else w) else w
def h_swap (h : Nat → Bool) (p q : Int32) : Nat → Bool := if okP 24 p = true then (if okP 24 q = true then updB (updB h (pg p) (h (pg q))) (pg q) (h (pg p)) else h) else h
def s_rel (h : Nat → Bool) (p : Int32) : Int32 := if okP 24 p = true then (if h (pg p) = true then 0 else -3) else -1
def w_rel (w : Nat → Int32) (h : Nat → Bool) (p : Int32) : Nat → Int32 := if okP 24 p = true then (if h (pg p) = true then fillN w (pg p) (nI 0) 4 else w) else w
def h_rel (h : Nat → Bool) (p : Int32) : Nat → Bool := if okP 24 p = true then (if h (pg p) = true then updB h (pg p) false else h) else h
def b_held (h : Nat → Bool) (p : Int32) : Bool := okP 24 p && h (pg p)
def sm (w : Nat → Int32) (a b : Nat) : Bool := (List.range 4).all (fun k => w (a * 4 + k) == w (b * 4 + k))
def b_same (w : Nat → Int32) (p q : Int32) : Bool := okP 24 p && (okP 24 q && sm w (pg p) (pg q))
def rep (w : Nat → Int32) (h : Nat → Bool) (p : Nat) : Bool := (List.range p).any (fun e => h e && sm w e p)
def one (w : Nat → Int32) (p n : Nat) : Bool := (List.range n).all (fun k => w (p * 4 + k) == w (p * 4))
def cnt (f : Nat → Bool) : Nat → Int32
  | 0 => nI 0
  | n + 1 => if f n = true then cnt f n + 1 else cnt f n
def f_con (w : Nat → Int32) (h : Nat → Bool) (p : Nat) : Bool := h p && !rep w h p
def f_dup (w : Nat → Int32) (h : Nat → Bool) (p : Nat) : Bool := h p && rep w h p
def f_pla (w : Nat → Int32) (h : Nat → Bool) (p : Nat) : Bool := h p && one w p 4
def sumN (f : Nat → Int32) : Nat → Int32
  | 0 => nI 0
  | n + 1 => sumN f n + f n
def s_sum (w : Nat → Int32) (g : Int32) : Int32 := if okP 3 g = true then sumN (fun i => w (pg g * 32 + i)) 32 else nI 0
def totN (w : Nat → Int32) (g : Int32) : Nat → Int32
  | 0 => nI 0
  | n + 1 => if nI (n / 32) = g then totN w g n + w n else totN w g n
theorem cnt_y {f : Nat → Bool} {n : Nat} (h : f n = true) : cnt f (n + 1) = cnt f n + 1 := by show (if f n = true then _ else _) = _; rw [if_pos h]
theorem cnt_n {f : Nat → Bool} {n : Nat} (h : f n = false) : cnt f (n + 1) = cnt f n := by show (if f n = true then _ else _) = _; rw [if_neg (by rw [h]; decide)]
theorem tot_y {w : Nat → Int32} {g : Int32} {n : Nat} (h : nI (n / 32) = g) : totN w g (n + 1) = totN w g n + w n := by show (if nI (n / 32) = g then _ else _) = _; rw [if_pos h]
theorem tot_n {w : Nat → Int32} {g : Int32} {n : Nat} (h : ¬ nI (n / 32) = g) : totN w g (n + 1) = totN w g n := by show (if nI (n / 32) = g then _ else _) = _; rw [if_neg h]
theorem sm_t {w : Nat → Int32} {a b : Nat} (h : ∀ k, k < 4 → w (a * 4 + k) = w (b * 4 + k)) : sm w a b = true := by
  rw [sm, List.all_eq_true]
  intro k hk
  rw [List.mem_range] at hk
  exact beq_iff_eq.mpr (h k hk)
theorem sm_f {w : Nat → Int32} {a b k : Nat} (hk : k < 4) (h : ¬ w (a * 4 + k) = w (b * 4 + k)) : sm w a b = false := by
  cases hs : sm w a b with
  | false => rfl
  | true =>
    rw [sm, List.all_eq_true] at hs
    exact absurd (beq_iff_eq.mp (hs k (List.mem_range.mpr hk))) h
theorem one_t {w : Nat → Int32} {p n : Nat} (h : ∀ k, k < n → w (p * 4 + k) = w (p * 4)) : one w p n = true := by
  rw [one, List.all_eq_true]
  intro k hk
  rw [List.mem_range] at hk
  exact beq_iff_eq.mpr (h k hk)
theorem one_f {w : Nat → Int32} {p n k : Nat} (hk : k < n) (h : ¬ w (p * 4 + k) = w (p * 4)) : one w p n = false := by
  cases hs : one w p n with
  | false => rfl
  | true =>
    rw [one, List.all_eq_true] at hs
    exact absurd (beq_iff_eq.mp (hs k (List.mem_range.mpr hk))) h
theorem one_s (w : Nat → Int32) (p n : Nat) : one w p (n + 1) = (one w p n && (w (p * 4 + n) == w (p * 4))) := by
  simp [one, List.range_succ]
theorem one_1 (w : Nat → Int32) (p : Nat) : one w p 1 = true := one_t (fun k hk => by
  have e : k = 0 := by omega
  subst e
  rfl)
theorem rep_t {w : Nat → Int32} {h : Nat → Bool} {p e : Nat} (he : e < p) (h1 : h e = true) (h2 : sm w e p = true) : rep w h p = true := by
  rw [rep, List.any_eq_true]
  exact ⟨e, List.mem_range.mpr he, by rw [h1, h2]; rfl⟩
theorem rep_f {w : Nat → Int32} {h : Nat → Bool} {p : Nat} (H : ∀ e, e < p → (h e && sm w e p) = false) : rep w h p = false := by
  cases hs : rep w h p with
  | false => rfl
  | true =>
    rw [rep, List.any_eq_true] at hs
    obtain ⟨e, he, h1⟩ := hs
    rw [H e (List.mem_range.mp he)] at h1
    cases h1
theorem tot_out {w : Nat → Int32} {g : Int32} (hg : okP 3 g = false) : ∀ n, n ≤ 96 → totN w g n = nI 0 := by
  intro n
  induction n with
  | zero => intro _; rfl
  | succ n ih =>
    intro hn
    show (if nI (n / 32) = g then _ else _) = _
    rw [if_neg (fun e => by rw [← e, okP_nI (by omega) (by decide)] at hg; cases hg)]
    exact ih (by omega)
theorem tot_in {w : Nat → Int32} {j : Nat} (hj : j < 3) : ∀ n, n ≤ 96 → totN w (nI j) n = sumN (fun i => w (j * 32 + i)) (min (n - j * 32) 32) := by
  intro n
  induction n with
  | zero =>
    intro _
    rw [show min (0 - j * 32) 32 = 0 by omega]
    rfl
  | succ n ih =>
    intro hn
    show (if nI (n / 32) = nI j then totN w (nI j) n + w n else totN w (nI j) n) = _
    rw [ih (by omega)]
    by_cases e : n / 32 = j
    · rw [if_pos (by rw [e]), show min (n + 1 - j * 32) 32 = (n - j * 32) + 1 by omega, show min (n - j * 32) 32 = n - j * 32 by omega]
      show _ = sumN _ (n - j * 32) + w (j * 32 + (n - j * 32))
      rw [show j * 32 + (n - j * 32) = n by omega]
    · rw [if_neg (fun q => e ((nI_eq (by omega) (by omega)).mp q)), show min (n + 1 - j * 32) 32 = min (n - j * 32) 32 by omega]
theorem tot_sum (w : Nat → Int32) (g : Int32) : totN w g 96 = s_sum w g := by
  rw [s_sum]
  by_cases hg : okP 3 g = true
  · rw [if_pos hg]
    obtain ⟨j, hj, rfl⟩ := okP_of hg (by decide)
    rw [tot_in hj 96 (by omega), pg_nI (by omega), show min (96 - j * 32) 32 = 32 by omega]
  · rw [if_neg hg]
    exact tot_out (by cases h : okP 3 g with | false => rfl | true => exact absurd h hg) 96 (by omega)
/-! the cells -/
abbrev W0 (h0 qa qb : Nat) (cI cZ : ClassId) (w : Nat → Int32) (h : Nat → Bool) : va_W := [(h0, .inr (0, [.ref qa, .ref qb])), (qa, .inl (cI, 96, .inl w)), (qb, .inl (cZ, 24, .inl (zp h)))]
abbrev W1 (h0 qa qb : Nat) (cI cZ : ClassId) (w : Nat → Int32) (h : Nat → Bool) : va_W := [(h0, .inr (1, [.ref qa, .ref qb])), (qa, .inl (cI, 96, .inl w)), (qb, .inl (cZ, 24, .inl (zn h)))]
abbrev TY (cI cZ : ClassId) : List (ClassId × FieldType) := [(cI, .int), (cZ, .boolean)]
theorem zcell {cA : ClassId} {n : Nat} {f g : Nat → Int32} (h : ∀ j, j < n → f j = g j) : vp_cell cA (n, .inl f) = vp_cell cA (n, .inl g) := by
  rw [vp_cell_i, vp_cell_i, arrV, arrV]
  congr 2
  funext j
  rw [h j.val j.isLt]
theorem W0_cong {D : va_G} {cl : List vw_C} {h0 qa qb : Nat} {cI cZ : ClassId} {w : Nat → Int32} {h h' : Nat → Bool} {H : Heap} (hP : va_P D cl (W0 h0 qa qb cI cZ w h) H) (e : ∀ j, j < 24 → h j = h' j) : va_P D cl (W0 h0 qa qb cI cZ w h') H := by
  intro k q hk
  match k, hk with
  | 0, hk => exact hP 0 q hk
  | 1, hk => exact hP 1 q hk
  | 2, hk =>
    cases hk
    have h2 : H[qb]? = some (vp_cell cZ (24, .inl (zp h))) := hP 2 _ rfl
    show H[qb]? = some (vp_cell cZ (24, .inl (zp h')))
    have h3 : vp_cell cZ (24, .inl (zp h)) = vp_cell cZ (24, .inl (zp h')) := zcell (fun j hj => show bI (h j) = bI (h' j) by rw [e j hj])
    rw [h2, h3]
  | k + 3, hk => cases hk
theorem W0_apart {A : Nat → Prop} {h0 qa qb : Nat} {cI cZ : ClassId} {w w' : Nat → Int32} {h h' : Nat → Bool} (hD : va_D A (W0 h0 qa qb cI cZ w h)) : va_D A (W0 h0 qa qb cI cZ w' h') := by
  have h1 := hD.set (p := 1) (a := qa) (e := .inl (cI, 96, .inl w')) rfl
  have h2 := h1.set (p := 2) (a := qb) (e := .inl (cZ, 24, .inl (zp h'))) rfl
  exact h2
theorem bl_P {D : va_G} {cl : List vw_C} {ws : va_W} {tys : List (ClassId × FieldType)} {av : List Value} : FrameBlind (va_Pc av (fun U => va_P D cl ws U.heap ∧ va_K D cl tys U)) := fun a U g mk q => by
  obtain ⟨q0, qP, qK⟩ := q
  exact ⟨q0, qP, va_K.moved (u := U) (U := U.calling g mk a) (Vm.Alike.refl U.vm) qK⟩
theorem bl_Q {D : va_G} {cl : List vw_C} {ws : va_W} {tys : List (ClassId × FieldType)} {av : List Value} {sz : Nat} {A : Nat → Prop} : FrameBlind (va_Pc av (fun U => U.heap.size = sz ∧ va_P D cl ws U.heap ∧ va_K D cl tys U ∧ va_D A ws)) := fun a U g mk q => by
  obtain ⟨q0, q1, qP, qK, qD⟩ := q
  exact ⟨q0, q1, qP, va_K.moved (u := U) (U := U.calling g mk a) (Vm.Alike.refl U.vm) qK, qD⟩
theorem bl_T {av : List Value} : FrameBlind (va_Pc av (fun _ => True)) := fun a U g mk q => q
theorem bl_X {av : List Value} {b L : Nat} {xs : Nat → Int32} : FrameBlind (va_Pc av (fun U => va_X b L xs U U.heap)) := fun a U g mk q => ⟨q.1, va_X.moved (u := U) (U := U.calling g mk a) (Vm.Alike.refl U.vm) q.2⟩
section MYROWS
variable {p : Program} {l : Launch} {e : Env} {R : Room} {s : State} {m : MethodId} {args : Array Value} {below : List Frame} {meth : Method} {c : Code} {H : Heap} {locs : List Loc} {cells slots : Nat} {Q : State → Prop} {D : va_G} {cl : List vw_C} {ws : va_W} {tys : List (ClassId × FieldType)} {cc : ByteArray} {pc : Nat} {ls : Array Slot} {rest : List Value} {a : Nat} {A : Nat → Prop} {H0 : Heap}
theorem my_mul (hexec : p.tables.exec = Jvm.exec) (hb : c.code = cc) {x y : Nat} (hdg : decode cc pc = .ok (.imul, 1)) (k : W p l e R s m args below meth c H locs cells slots Q (F0 m (pc + 1) ls (.int (nI (x * y)) :: rest))) : W p l e R s m args below meth c H locs cells slots Q (F0 m pc ls (.int (nI y) :: .int (nI x) :: rest)) :=
  lv_imul hexec hb hdg (by rw [pk_mul]; exact k)
theorem my_add (hexec : p.tables.exec = Jvm.exec) (hb : c.code = cc) {x y : Nat} (hdg : decode cc pc = .ok (.iadd, 1)) (k : W p l e R s m args below meth c H locs cells slots Q (F0 m (pc + 1) ls (.int (nI (x + y)) :: rest))) : W p l e R s m args below meth c H locs cells slots Q (F0 m pc ls (.int (nI y) :: .int (nI x) :: rest)) :=
  lv_iadd hexec hb hdg (by rw [nI_add]; exact k)
theorem my_div (hexec : p.tables.exec = Jvm.exec) (hb : c.code = cc) {x y : Nat} (hx : x < 2 ^ 31) (h0 : 0 < y) (hy : y < 2 ^ 31) (hdg : decode cc pc = .ok (.idiv, 1)) (k : W p l e R s m args below meth c H locs cells slots Q (F0 m (pc + 1) ls (.int (nI (x / y)) :: rest))) : W p l e R s m args below meth c H locs cells slots Q (F0 m pc ls (.int (nI y) :: .int (nI x) :: rest)) :=
  lv_idiv hexec hb hdg (nI_ne0 h0 hy) (by rw [pk_div hx h0 hy]; exact k)
theorem my_iald (hexec : p.tables.exec = Jvm.exec) (hb : c.code = cc) (hK : va_K D cl tys s) (hP : va_P D cl ws H) (q0 t0 : Nat) {cA : ClassId} {n : Nat} {f : Nat → Int32} (ha : ws[q0]? = some (a, .inl (cA, n, .inl f))) (ht : tys[t0]? = some (cA, .int)) {j : Nat} (hj : j < n) (hn : n < 2 ^ 31) (hdg : decode cc pc = .ok (.iaload, 1))
    (kk : W p l e R s m args below meth c H locs cells slots Q (F0 m (pc + 1) ls (.int (f j) :: rest))) : W p l e R s m args below meth c H locs cells slots Q (F0 m pc ls (.int (nI j) :: .ref a :: rest)) :=
  va_iald hexec hb hK hP q0 t0 ha ht (vp_in_nI hj hn) hdg (by rw [nI_clamp (Nat.lt_trans hj hn)]; exact kk)
theorem my_iast (hexec : p.tables.exec = Jvm.exec) (hb : c.code = cc) (hK : va_K D cl tys s) (hP : va_P D cl ws H) (hD : va_D A ws) (hS : va_S A H0 H locs) (q0 t0 : Nat) {cA : ClassId} {n : Nat} {f : Nat → Int32} (ha : ws[q0]? = some (a, .inl (cA, n, .inl f))) (ht : tys[t0]? = some (cA, .int)) {j : Nat} {x : Int32} (hj : j < n) (hn : n < 2 ^ 31) (hdg : decode cc pc = .ok (.iastore, 1))
    (kk : ∀ (H1 : Heap) (locs1 : List Loc), va_P D cl (ws.set q0 (a, .inl (cA, n, .inl (upd f j x)))) H1 → va_D A (ws.set q0 (a, .inl (cA, n, .inl (upd f j x)))) → va_S A H0 H1 locs1 → W p l e R s m args below meth c H1 locs1 cells slots Q (F0 m (pc + 1) ls rest)) : W p l e R s m args below meth c H locs cells slots Q (F0 m pc ls (.int x :: .int (nI j) :: .ref a :: rest)) :=
  va_iast hexec hb hK hP hD hS q0 t0 ha ht (vp_in_nI hj hn) hdg (fun H1 locs1 h1 h2 h3 => by
    rw [nI_clamp (Nat.lt_trans hj hn)] at h1 h2
    exact kk H1 locs1 h1 h2 h3)
theorem my_zaldP (hexec : p.tables.exec = Jvm.exec) (hb : c.code = cc) (hK : va_K D cl tys s) (hP : va_P D cl ws H) (q0 t0 : Nat) {cA : ClassId} {n : Nat} {h : Nat → Bool} (ha : ws[q0]? = some (a, .inl (cA, n, .inl (zp h)))) (ht : tys[t0]? = some (cA, .boolean)) {j : Nat} (hj : j < n) (hn : n < 2 ^ 31) (hdg : decode cc pc = .ok (.baload, 1))
    (kk : W p l e R s m args below meth c H locs cells slots Q (F0 m (pc + 1) ls (.int (bI (h j)) :: rest))) : W p l e R s m args below meth c H locs cells slots Q (F0 m pc ls (.int (nI j) :: .ref a :: rest)) :=
  va_zald hexec hb hK hP q0 t0 ha ht (vp_in_nI hj hn) hdg (by rw [nI_clamp (Nat.lt_trans hj hn)]; exact kk)
theorem my_zaldN (hexec : p.tables.exec = Jvm.exec) (hb : c.code = cc) (hK : va_K D cl tys s) (hP : va_P D cl ws H) (q0 t0 : Nat) {cA : ClassId} {n : Nat} {h : Nat → Bool} (ha : ws[q0]? = some (a, .inl (cA, n, .inl (zn h)))) (ht : tys[t0]? = some (cA, .boolean)) {j : Nat} (hj : j < n) (hn : n < 2 ^ 31) (hdg : decode cc pc = .ok (.baload, 1))
    (kk : W p l e R s m args below meth c H locs cells slots Q (F0 m (pc + 1) ls (.int (bI (!h j)) :: rest))) : W p l e R s m args below meth c H locs cells slots Q (F0 m pc ls (.int (nI j) :: .ref a :: rest)) :=
  va_zald hexec hb hK hP q0 t0 ha ht (vp_in_nI hj hn) hdg (by rw [nI_clamp (Nat.lt_trans hj hn)]; exact kk)
theorem my_zastP (hexec : p.tables.exec = Jvm.exec) (hb : c.code = cc) (hK : va_K D cl tys s) (hP : va_P D cl ws H) (hD : va_D A ws) (hS : va_S A H0 H locs) (q0 t0 : Nat) {cA : ClassId} {n : Nat} {h : Nat → Bool} (ha : ws[q0]? = some (a, .inl (cA, n, .inl (zp h)))) (ht : tys[t0]? = some (cA, .boolean)) {j : Nat} {x : Int32} (y : Bool) (hy : x = bI y) (hj : j < n) (hn : n < 2 ^ 31) (hdg : decode cc pc = .ok (.bastore, 1))
    (kk : ∀ (H1 : Heap) (locs1 : List Loc), va_P D cl (ws.set q0 (a, .inl (cA, n, .inl (zp (updB h j y))))) H1 → va_D A (ws.set q0 (a, .inl (cA, n, .inl (zp (updB h j y))))) → va_S A H0 H1 locs1 → W p l e R s m args below meth c H1 locs1 cells slots Q (F0 m (pc + 1) ls rest)) : W p l e R s m args below meth c H locs cells slots Q (F0 m pc ls (.int x :: .int (nI j) :: .ref a :: rest)) :=
  va_zast hexec hb hK hP hD hS q0 t0 ha ht (vp_in_nI hj hn) hdg (fun H1 locs1 h1 h2 h3 => by
    rw [nI_clamp (Nat.lt_trans hj hn), hy, zp_upd] at h1 h2
    exact kk H1 locs1 h1 h2 h3)
theorem my_zastN (hexec : p.tables.exec = Jvm.exec) (hb : c.code = cc) (hK : va_K D cl tys s) (hP : va_P D cl ws H) (hD : va_D A ws) (hS : va_S A H0 H locs) (q0 t0 : Nat) {cA : ClassId} {n : Nat} {h : Nat → Bool} (ha : ws[q0]? = some (a, .inl (cA, n, .inl (zn h)))) (ht : tys[t0]? = some (cA, .boolean)) {j : Nat} {x : Int32} (y : Bool) (hy : x = bI (!y)) (hj : j < n) (hn : n < 2 ^ 31) (hdg : decode cc pc = .ok (.bastore, 1))
    (kk : ∀ (H1 : Heap) (locs1 : List Loc), va_P D cl (ws.set q0 (a, .inl (cA, n, .inl (zn (updB h j y))))) H1 → va_D A (ws.set q0 (a, .inl (cA, n, .inl (zn (updB h j y))))) → va_S A H0 H1 locs1 → W p l e R s m args below meth c H1 locs1 cells slots Q (F0 m (pc + 1) ls rest)) : W p l e R s m args below meth c H locs cells slots Q (F0 m pc ls (.int x :: .int (nI j) :: .ref a :: rest)) :=
  va_zast hexec hb hK hP hD hS q0 t0 ha ht (vp_in_nI hj hn) hdg (fun H1 locs1 h1 h2 h3 => by
    rw [nI_clamp (Nat.lt_trans hj hn), hy, zn_upd] at h1 h2
    exact kk H1 locs1 h1 h2 h3)
/-- a loop whose cells stay -/
theorem lp_P (pc N : Nat) (I : Nat → Array Slot → Prop) (body : ∀ (i : Nat) (ls : Array Slot), i ≤ N → I i ls → (i < N → ∀ ls' : Array Slot, I (i + 1) ls' → W p l e R s m args below meth c H locs cells slots Q (F0 m pc ls' [])) → W p l e R s m args below meth c H locs cells slots Q (F0 m pc ls [])) (i0 : Nat) (h0 : i0 ≤ N) (ls : Array Slot) (hI : I i0 ls) : W p l e R s m args below meth c H locs cells slots Q (F0 m pc ls []) := by
  have key : ∀ (n i : Nat), i + n = N → ∀ ls : Array Slot, I i ls → W p l e R s m args below meth c H locs cells slots Q (F0 m pc ls []) := by
    intro n
    induction n with
    | zero =>
      intro i hi ls hI
      exact body i ls (by omega) hI (fun h => absurd h (by omega))
    | succ n ih =>
      intro i hi ls hI
      exact body i ls (by omega) hI (fun _ ls' h => ih (i + 1) (by omega) ls' h)
  exact key (N - i0) i0 (by omega) ls hI
/-- a loop that writes -/
theorem lp_Q (pc N : Nat) (I : Nat → Heap → List Loc → Array Slot → Prop) (body : ∀ (i : Nat) (H : Heap) (locs : List Loc) (ls : Array Slot), i ≤ N → I i H locs ls → (i < N → ∀ (H' : Heap) (locs' : List Loc) (ls' : Array Slot), I (i + 1) H' locs' ls' → W p l e R s m args below meth c H' locs' cells slots Q (F0 m pc ls' [])) → W p l e R s m args below meth c H locs cells slots Q (F0 m pc ls [])) (i0 : Nat) (h0 : i0 ≤ N) (H : Heap) (locs : List Loc) (ls : Array Slot) (hI : I i0 H locs ls) : W p l e R s m args below meth c H locs cells slots Q (F0 m pc ls []) := by
  have key : ∀ (n i : Nat), i + n = N → ∀ (H : Heap) (locs : List Loc) (ls : Array Slot), I i H locs ls → W p l e R s m args below meth c H locs cells slots Q (F0 m pc ls []) := by
    intro n
    induction n with
    | zero =>
      intro i hi H locs ls hI
      exact body i H locs ls (by omega) hI (fun h => absurd h (by omega))
    | succ n ih =>
      intro i hi H locs ls hI
      exact body i H locs ls (by omega) hI (fun _ H' locs' ls' h => ih (i + 1) (by omega) H' locs' ls' h)
  exact key (N - i0) i0 (by omega) H locs ls hI
end MYROWS
end
section
set_option maxHeartbeats 4000000 in
set_option maxRecDepth 100000 in
theorem k0_isPage (l : Launch) (p0 : Int32)  : Met l yX0_isPage wsX0_isPage ({ frames := 0, cells := 0, slots := 0, locals := 0 }) (va_Pc [.int (p0)] (fun _ => True)) (vp_Si (fun r => r = bI (okP 24 p0))) 0 0 (fun _ => False) := by
  refine Met.ofW (cc := cX0_isPage) (maxL := 1) (ret := (some .boolean)) (by decide) rfl ?_
  intro p e s m args below meth c s₁ B hml hv
  obtain ⟨rfl, -⟩ := hv
  have hx := B.exec
  have hb := B.bytes
  have hr := B.returns
  have hlocks := B.notSynchronized
  have hl := lv_entry ([.int (p0)]) (n := 1) (Nat.le_of_ble_eq_true rfl)
  rw [lg_entry_eq]
  generalize (lg_sl ([.int (p0)]) ++ List.replicate (1 - (lg_sl ([.int (p0)])).length) Slot.unset).toArray = ls at hl ⊢
  have hl : lv_has ls 1 [(0, .int (p0))] := hl
  refine lv_iload_n hx hb dX0_isPage_0 rfl (lv_at hl 0 rfl) ?_
  refine lv_if_lt (tgt := 14) hx hb dX0_isPage_1 (by decide) (fun c_1 => ?_) (fun c_1 => ?_)
  · have ho : okP 24 p0 = false := okP_neg c_1
    refine lv_iconst (v := (nI 0)) hx hb dX0_isPage_14 (by decide +kernel) ?_
    have eR : (nI 0) = bI (okP 24 p0) := by simp [ho, bI_1, bI_0]
    exact W.zret (v := (nI 0)) hx hb hr (by decide +kernel) (fun t ht hW => ⟨_, rfl, eR, ht⟩) (fun q h9 => absurd h9 List.not_mem_nil) dX0_isPage_15
  · refine lv_iload_n hx hb dX0_isPage_4 rfl (lv_at hl 0 rfl) ?_
    refine lv_bipush (v := (nI 24)) hx hb dX0_isPage_5 (by decide +kernel) ?_
    refine lv_icmp_ge (tgt := 14) hx hb dX0_isPage_7 (by decide) (fun c_7 => ?_) (fun c_7 => ?_)
    · have ho : okP 24 p0 = false := okP_big (by decide) c_7
      refine lv_iconst (v := (nI 0)) hx hb dX0_isPage_14 (by decide +kernel) ?_
      have eR : (nI 0) = bI (okP 24 p0) := by simp [ho, bI_1, bI_0]
      exact W.zret (v := (nI 0)) hx hb hr (by decide +kernel) (fun t ht hW => ⟨_, rfl, eR, ht⟩) (fun q h9 => absurd h9 List.not_mem_nil) dX0_isPage_15
    · have ho : okP 24 p0 = true := okP_in (by decide) c_1 c_7
      refine lv_iconst (v := (nI 1)) hx hb dX0_isPage_10 (by decide +kernel) ?_
      refine lv_goto (tgt := 15) hx hb dX0_isPage_11 (by decide) ?_
      have eR : (nI 1) = bI (okP 24 p0) := by simp [ho, bI_1, bI_0]
      exact W.zret (v := (nI 1)) hx hb hr (by decide +kernel) (fun t ht hW => ⟨_, rfl, eR, ht⟩) (fun q h9 => absurd h9 List.not_mem_nil) dX0_isPage_15
set_option maxHeartbeats 4000000 in
set_option maxRecDepth 100000 in
theorem k0_isWord (l : Launch) (p0 : Int32)  : Met l yX0_isWord wsX0_isWord ({ frames := 0, cells := 0, slots := 0, locals := 0 }) (va_Pc [.int (p0)] (fun _ => True)) (vp_Si (fun r => r = bI (okP 4 p0))) 0 0 (fun _ => False) := by
  refine Met.ofW (cc := cX0_isWord) (maxL := 1) (ret := (some .boolean)) (by decide) rfl ?_
  intro p e s m args below meth c s₁ B hml hv
  obtain ⟨rfl, -⟩ := hv
  have hx := B.exec
  have hb := B.bytes
  have hr := B.returns
  have hlocks := B.notSynchronized
  have hl := lv_entry ([.int (p0)]) (n := 1) (Nat.le_of_ble_eq_true rfl)
  rw [lg_entry_eq]
  generalize (lg_sl ([.int (p0)]) ++ List.replicate (1 - (lg_sl ([.int (p0)])).length) Slot.unset).toArray = ls at hl ⊢
  have hl : lv_has ls 1 [(0, .int (p0))] := hl
  refine lv_iload_n hx hb dX0_isWord_0 rfl (lv_at hl 0 rfl) ?_
  refine lv_if_lt (tgt := 13) hx hb dX0_isWord_1 (by decide) (fun c_1 => ?_) (fun c_1 => ?_)
  · have ho : okP 4 p0 = false := okP_neg c_1
    refine lv_iconst (v := (nI 0)) hx hb dX0_isWord_13 (by decide +kernel) ?_
    have eR : (nI 0) = bI (okP 4 p0) := by simp [ho, bI_1, bI_0]
    exact W.zret (v := (nI 0)) hx hb hr (by decide +kernel) (fun t ht hW => ⟨_, rfl, eR, ht⟩) (fun q h9 => absurd h9 List.not_mem_nil) dX0_isWord_14
  · refine lv_iload_n hx hb dX0_isWord_4 rfl (lv_at hl 0 rfl) ?_
    refine lv_iconst (v := (nI 4)) hx hb dX0_isWord_5 (by decide +kernel) ?_
    refine lv_icmp_ge (tgt := 13) hx hb dX0_isWord_6 (by decide) (fun c_6 => ?_) (fun c_6 => ?_)
    · have ho : okP 4 p0 = false := okP_big (by decide) c_6
      refine lv_iconst (v := (nI 0)) hx hb dX0_isWord_13 (by decide +kernel) ?_
      have eR : (nI 0) = bI (okP 4 p0) := by simp [ho, bI_1, bI_0]
      exact W.zret (v := (nI 0)) hx hb hr (by decide +kernel) (fun t ht hW => ⟨_, rfl, eR, ht⟩) (fun q h9 => absurd h9 List.not_mem_nil) dX0_isWord_14
    · have ho : okP 4 p0 = true := okP_in (by decide) c_1 c_6
      refine lv_iconst (v := (nI 1)) hx hb dX0_isWord_9 (by decide +kernel) ?_
      refine lv_goto (tgt := 14) hx hb dX0_isWord_10 (by decide) ?_
      have eR : (nI 1) = bI (okP 4 p0) := by simp [ho, bI_1, bI_0]
      exact W.zret (v := (nI 1)) hx hb hr (by decide +kernel) (fun t ht hW => ⟨_, rfl, eR, ht⟩) (fun q h9 => absurd h9 List.not_mem_nil) dX0_isWord_14
set_option maxHeartbeats 4000000 in
set_option maxRecDepth 100000 in
theorem k0_setAllWords (l : Launch) (dC : Nat → ClassId) (dI : Nat → Nat → Nat) (h0 qa qb : Nat) (cI cZ : ClassId) (sz : Nat) (w : Nat → Int32) (h : Nat → Bool) (a : Nat) (v : Int32) (ha : a < 24) : Met l yX0_setAllWords wsX0_setAllWords ({ frames := 0, cells := 0, slots := 0, locals := 0 }) (va_Pc [.ref h0, .int (nI a), .int (v)] (fun U => U.heap.size = sz ∧ va_P (dC, dI) vwCl (W0 h0 qa qb cI cZ w h) U.heap ∧ va_K (dC, dI) vwCl (TY cI cZ) U ∧ va_D (fun _ => True) (W0 h0 qa qb cI cZ w h))) (va_Qv (fun _ : Unit => True) (fun _ t => va_P (dC, dI) vwCl (W0 h0 qa qb cI cZ (fillN w a v 4) (h)) t.heap ∧ va_K (dC, dI) vwCl (TY cI cZ) t ∧ va_D (va_A (W0 h0 qa qb cI cZ w h) sz) (W0 h0 qa qb cI cZ (fillN w a v 4) (h))) (va_A (W0 h0 qa qb cI cZ w h) sz)) 0 0 (va_A (W0 h0 qa qb cI cZ w h) sz) := by
  refine Met.ofW (cc := cX0_setAllWords) (maxL := 4) (ret := none) (by decide) rfl ?_
  intro p e s m args below meth c s₁ B hml hv
  obtain ⟨rfl, hsz, hP, hK, hD0⟩ := hv
  have hx := B.exec
  have hb := B.bytes
  have hr := B.returns
  have hlocks := B.notSynchronized
  have hts := atoms_spec (ws := wsX0_setAllWords) B.pre
  have hown : s.vm.findClass RX0 = some m.cls := findClass_of_methodNamed B.named
  have hin0 : ∀ w ∈ wsX00, w ∈ wsX0_setAllWords := by decide +kernel
  have hf9 := hts (.fieldLink RX0 9 "PageMerger" "words" "[I") (by decide +kernel)
  subst hsz
  have hD := hD0.self (sz := s.heap.size)
  generalize hAe : va_A (W0 h0 qa qb cI cZ w h) s.heap.size = A at hD ⊢
  have hA : ∀ q : Nat, s.heap.size ≤ q → A q := fun q h => by rw [← hAe]; exact Or.inr h
  have hS : va_S A s.heap s.heap [] := va_S.rf
  have hl := lv_entry ([.ref h0, .int (nI a), .int (v)]) (n := 4) (Nat.le_of_ble_eq_true rfl)
  rw [lg_entry_eq]
  generalize (lg_sl ([.ref h0, .int (nI a), .int (v)]) ++ List.replicate (4 - (lg_sl ([.ref h0, .int (nI a), .int (v)])).length) Slot.unset).toArray = ls at hl ⊢
  have hl : lv_has ls 4 [(0, .ref h0), (1, .int (nI a)), (2, .int (v))] := hl
  refine lv_iconst (v := (nI 0)) hx hb dX0_setAllWords_0 (by decide +kernel) ?_
  refine lv_istore_n (lv' := [(3, .int (nI 0)), (0, .ref h0), (1, .int (nI a)), (2, .int (v))]) hx hb dX0_setAllWords_1 rfl hl (by decide) rfl (fun ls hl => ?_)
  refine lp_Q 2 4 (fun i2 H locs ls => lv_has ls 4 [(3, .int (nI i2)), (0, .ref h0), (1, .int (nI a)), (2, .int (v))] ∧ va_P (dC, dI) vwCl (W0 h0 qa qb cI cZ (fillN w a v i2) h) H ∧ va_D A (W0 h0 qa qb cI cZ (fillN w a v i2) h) ∧ va_S A s.heap H locs) (fun i2 H locs ls hi_2 hI hnx_2 => ?_) 0 (by omega) _ _ ls ⟨lv_sub hl [0, 1, 2, 3] rfl, hP, hD, hS⟩
  obtain ⟨hl, hP, hD, hS⟩ := hI
  refine lv_iload_n hx hb dX0_setAllWords_2 rfl (lv_at hl 0 rfl) ?_
  refine lv_iconst (v := (nI 4)) hx hb dX0_setAllWords_3 (by decide +kernel) ?_
  refine lv_icmp_ge (tgt := 24) hx hb dX0_setAllWords_4 (by decide) (fun c_4 => ?_) (fun c_4 => ?_)
  · have hq_4 : 4 ≤ i2 := (nI_leI (by omega) (by omega)).mp c_4
    have hE_4 : i2 = 4 := by omega
    subst hE_4
    have eW : fillN w a v 4 = fillN w a v 4 := by simp []
    have eH : h = h := by simp []
    exact W.vret hx hb hr (fun t ht hW => ⟨⟨(), rfl, trivial, by rw [ht]; exact hP, va_K.moved hW.alike hK, by exact hD⟩, hS.F ht⟩) hS.2.2 dX0_setAllWords_24
  · have hlt_2 : i2 < 4 := Nat.lt_of_not_le (fun q => c_4 ((nI_leI (by omega) (by omega)).mpr q))
    refine lv_aload_n hx hb dX0_setAllWords_7 rfl (lv_at hl 1 rfl) ?_
    refine va_get (D := (dC, dI)) (ci := 0) (v := .ref qa) (C := RX0) (T := TX0) (N := 2) hx hb hts hin0 hown hK hP 0 rfl rfl 0 (by decide) hf9 (fun _ h9 => h9) rfl dX0_setAllWords_8 ?_
    refine lv_iload_n hx hb dX0_setAllWords_11 rfl (lv_at hl 2 rfl) ?_
    refine lv_iconst (v := (nI 4)) hx hb dX0_setAllWords_12 (by decide +kernel) ?_
    refine my_mul hx hb dX0_setAllWords_13 ?_
    refine lv_iload_n hx hb dX0_setAllWords_14 rfl (lv_at hl 0 rfl) ?_
    refine my_add hx hb dX0_setAllWords_15 ?_
    refine lv_iload_n hx hb dX0_setAllWords_16 rfl (lv_at hl 3 rfl) ?_
    refine my_iast hx hb hK hP hD hS 1 0 rfl rfl (by omega) (by decide) dX0_setAllWords_17 (fun H locs hP hD hS => ?_)
    have hP : va_P (dC, dI) vwCl (W0 h0 qa qb cI cZ (upd (fillN w a v i2) (a * 4 + i2) v) h) H := hP
    have hD : va_D A (W0 h0 qa qb cI cZ (upd (fillN w a v i2) (a * 4 + i2) v) h) := hD
    refine lv_iinc (v := (nI (i2 + 1))) (lv' := [(3, .int (nI (i2 + 1))), (0, .ref h0), (1, .int (nI a)), (2, .int (v))]) hx hb dX0_setAllWords_18 hl (k := 0) rfl (nI_1 _) (by decide) rfl (fun ls hl => ?_)
    refine lv_goto (tgt := 2) hx hb dX0_setAllWords_21 (by decide) ?_
    exact hnx_2 hlt_2 _ _ ls ⟨lv_sub hl [0, 1, 2, 3] rfl, hP, hD, hS⟩
set_option maxHeartbeats 4000000 in
set_option maxRecDepth 100000 in
theorem k0_haveSameWords (l : Launch) (dC : Nat → ClassId) (dI : Nat → Nat → Nat) (h0 qa qb : Nat) (cI cZ : ClassId) (w : Nat → Int32) (h : Nat → Bool) (a : Nat) (b : Nat) (ha : a < 24) (hb0 : b < 24) : Met l yX0_haveSameWords wsX0_haveSameWords ({ frames := 0, cells := 0, slots := 0, locals := 0 }) (va_Pc [.ref h0, .int (nI a), .int (nI b)] (fun U => va_P (dC, dI) vwCl (W0 h0 qa qb cI cZ w h) U.heap ∧ va_K (dC, dI) vwCl (TY cI cZ) U)) (vp_Si (fun r => r = bI (sm w a b))) 0 0 (fun _ => False) := by
  refine Met.ofW (cc := cX0_haveSameWords) (maxL := 4) (ret := (some .boolean)) (by decide) rfl ?_
  intro p e s m args below meth c s₁ B hml hv
  obtain ⟨rfl, hP, hK⟩ := hv
  have hx := B.exec
  have hb := B.bytes
  have hr := B.returns
  have hlocks := B.notSynchronized
  have hts := atoms_spec (ws := wsX0_haveSameWords) B.pre
  have hown : s.vm.findClass RX0 = some m.cls := findClass_of_methodNamed B.named
  have hin0 : ∀ w ∈ wsX00, w ∈ wsX0_haveSameWords := by decide +kernel
  have hf9 := hts (.fieldLink RX0 9 "PageMerger" "words" "[I") (by decide +kernel)
  have hl := lv_entry ([.ref h0, .int (nI a), .int (nI b)]) (n := 4) (Nat.le_of_ble_eq_true rfl)
  rw [lg_entry_eq]
  generalize (lg_sl ([.ref h0, .int (nI a), .int (nI b)]) ++ List.replicate (4 - (lg_sl ([.ref h0, .int (nI a), .int (nI b)])).length) Slot.unset).toArray = ls at hl ⊢
  have hl : lv_has ls 4 [(0, .ref h0), (1, .int (nI a)), (2, .int (nI b))] := hl
  refine lv_iconst (v := (nI 0)) hx hb dX0_haveSameWords_0 (by decide +kernel) ?_
  refine lv_istore_n (lv' := [(3, .int (nI 0)), (0, .ref h0), (1, .int (nI a)), (2, .int (nI b))]) hx hb dX0_haveSameWords_1 rfl hl (by decide) rfl (fun ls hl => ?_)
  refine lp_P 2 4 (fun i2 ls => lv_has ls 4 [(3, .int (nI i2)), (0, .ref h0), (1, .int (nI a)), (2, .int (nI b))] ∧ ∀ k, k < i2 → w (a * 4 + k) = w (b * 4 + k)) (fun i2 ls hi_2 hI hnx_2 => ?_) 0 (by omega) ls ⟨lv_sub hl [0, 1, 2, 3] rfl, (fun k hk => absurd hk (Nat.not_lt_zero k))⟩
  obtain ⟨hl, hinv_2⟩ := hI
  refine lv_iload_n hx hb dX0_haveSameWords_2 rfl (lv_at hl 0 rfl) ?_
  refine lv_iconst (v := (nI 4)) hx hb dX0_haveSameWords_3 (by decide +kernel) ?_
  refine lv_icmp_ge (tgt := 38) hx hb dX0_haveSameWords_4 (by decide) (fun c_4 => ?_) (fun c_4 => ?_)
  · have hq_4 : 4 ≤ i2 := (nI_leI (by omega) (by omega)).mp c_4
    have hE_4 : i2 = 4 := by omega
    subst hE_4
    refine lv_iconst (v := (nI 1)) hx hb dX0_haveSameWords_38 (by decide +kernel) ?_
    have eR : (nI 1) = bI (sm w a b) := by rw [sm_t hinv_2]; exact bI_1
    exact W.zret (v := (nI 1)) hx hb hr (by decide +kernel) (fun t ht hW => ⟨_, rfl, eR, ht⟩) (fun q h9 => absurd h9 List.not_mem_nil) dX0_haveSameWords_39
  · have hlt_2 : i2 < 4 := Nat.lt_of_not_le (fun q => c_4 ((nI_leI (by omega) (by omega)).mpr q))
    refine lv_aload_n hx hb dX0_haveSameWords_7 rfl (lv_at hl 1 rfl) ?_
    refine va_get (D := (dC, dI)) (ci := 0) (v := .ref qa) (C := RX0) (T := TX0) (N := 2) hx hb hts hin0 hown hK hP 0 rfl rfl 0 (by decide) hf9 (fun _ h9 => h9) rfl dX0_haveSameWords_8 ?_
    refine lv_iload_n hx hb dX0_haveSameWords_11 rfl (lv_at hl 2 rfl) ?_
    refine lv_iconst (v := (nI 4)) hx hb dX0_haveSameWords_12 (by decide +kernel) ?_
    refine my_mul hx hb dX0_haveSameWords_13 ?_
    refine lv_iload_n hx hb dX0_haveSameWords_14 rfl (lv_at hl 0 rfl) ?_
    refine my_add hx hb dX0_haveSameWords_15 ?_
    refine my_iald hx hb hK hP 1 0 rfl rfl (by omega) (by decide) dX0_haveSameWords_16 ?_
    refine lv_aload_n hx hb dX0_haveSameWords_17 rfl (lv_at hl 1 rfl) ?_
    refine va_get (D := (dC, dI)) (ci := 0) (v := .ref qa) (C := RX0) (T := TX0) (N := 2) hx hb hts hin0 hown hK hP 0 rfl rfl 0 (by decide) hf9 (fun _ h9 => h9) rfl dX0_haveSameWords_18 ?_
    refine lv_iload_n hx hb dX0_haveSameWords_21 rfl (lv_at hl 3 rfl) ?_
    refine lv_iconst (v := (nI 4)) hx hb dX0_haveSameWords_22 (by decide +kernel) ?_
    refine my_mul hx hb dX0_haveSameWords_23 ?_
    refine lv_iload_n hx hb dX0_haveSameWords_24 rfl (lv_at hl 0 rfl) ?_
    refine my_add hx hb dX0_haveSameWords_25 ?_
    refine my_iald hx hb hK hP 1 0 rfl rfl (by omega) (by decide) dX0_haveSameWords_26 ?_
    refine lv_icmp_eq (tgt := 32) hx hb dX0_haveSameWords_27 (by decide) (fun c_27 => ?_) (fun c_27 => ?_)
    · refine lv_iinc (v := (nI (i2 + 1))) (lv' := [(3, .int (nI (i2 + 1))), (0, .ref h0), (1, .int (nI a)), (2, .int (nI b))]) hx hb dX0_haveSameWords_32 hl (k := 0) rfl (nI_1 _) (by decide) rfl (fun ls hl => ?_)
      refine lv_goto (tgt := 2) hx hb dX0_haveSameWords_35 (by decide) ?_
      exact hnx_2 hlt_2 ls ⟨lv_sub hl [0, 1, 2, 3] rfl, (fun k hk => if q : k < i2 then hinv_2 k q else by (have e : k = i2 := by omega); subst e; exact c_27)⟩
    · refine lv_iconst (v := (nI 0)) hx hb dX0_haveSameWords_30 (by decide +kernel) ?_
      have eR : (nI 0) = bI (sm w a b) := by rw [sm_f hlt_2 c_27]; exact bI_0
      exact W.zret (v := (nI 0)) hx hb hr (by decide +kernel) (fun t ht hW => ⟨_, rfl, eR, ht⟩) (fun q h9 => absurd h9 List.not_mem_nil) dX0_haveSameWords_31
set_option maxHeartbeats 4000000 in
set_option maxRecDepth 100000 in
theorem k0_repeatsAnEarlierPage (l : Launch) (dC : Nat → ClassId) (dI : Nat → Nat → Nat) (h0 qa qb : Nat) (cI cZ : ClassId) (w : Nat → Int32) (h : Nat → Bool) (a : Nat) (ha : a < 24) : Met l yX0_repeatsAnEarlierPage wsX0_repeatsAnEarlierPage ({ frames := 1, cells := 0, slots := 0, locals := 23 }) (va_Pc [.ref h0, .int (nI a)] (fun U => va_P (dC, dI) vwCl (W0 h0 qa qb cI cZ w h) U.heap ∧ va_K (dC, dI) vwCl (TY cI cZ) U)) (vp_Si (fun r => r = bI (rep w h a))) 0 0 (fun _ => False) := by
  refine Met.ofW (cc := cX0_repeatsAnEarlierPage) (maxL := 3) (ret := (some .boolean)) (by decide) rfl ?_
  intro p e s m args below meth c s₁ B hml hv
  obtain ⟨rfl, hP, hK⟩ := hv
  have hx := B.exec
  have hb := B.bytes
  have hr := B.returns
  have hlocks := B.notSynchronized
  have hts := atoms_spec (ws := wsX0_repeatsAnEarlierPage) B.pre
  have hown : s.vm.findClass RX0 = some m.cls := findClass_of_methodNamed B.named
  have hin0 : ∀ w ∈ wsX00, w ∈ wsX0_repeatsAnEarlierPage := by decide +kernel
  have hf13 := hts (.fieldLink RX0 13 "PageMerger" "heldPages" "[Z") (by decide +kernel)
  have hl := lv_entry ([.ref h0, .int (nI a)]) (n := 3) (Nat.le_of_ble_eq_true rfl)
  rw [lg_entry_eq]
  generalize (lg_sl ([.ref h0, .int (nI a)]) ++ List.replicate (3 - (lg_sl ([.ref h0, .int (nI a)])).length) Slot.unset).toArray = ls at hl ⊢
  have hl : lv_has ls 3 [(0, .ref h0), (1, .int (nI a))] := hl
  refine lv_iconst (v := (nI 0)) hx hb dX0_repeatsAnEarlierPage_0 (by decide +kernel) ?_
  refine lv_istore_n (lv' := [(2, .int (nI 0)), (0, .ref h0), (1, .int (nI a))]) hx hb dX0_repeatsAnEarlierPage_1 rfl hl (by decide) rfl (fun ls hl => ?_)
  refine lp_P 2 a (fun i2 ls => lv_has ls 3 [(2, .int (nI i2)), (0, .ref h0), (1, .int (nI a))] ∧ ∀ k, k < i2 → (h k && sm w k a) = false) (fun i2 ls hi_2 hI hnx_2 => ?_) 0 (by omega) ls ⟨lv_sub hl [0, 1, 2] rfl, (fun k hk => absurd hk (Nat.not_lt_zero k))⟩
  obtain ⟨hl, hinv_2⟩ := hI
  refine lv_iload_n hx hb dX0_repeatsAnEarlierPage_2 rfl (lv_at hl 0 rfl) ?_
  refine lv_iload_n hx hb dX0_repeatsAnEarlierPage_3 rfl (lv_at hl 2 rfl) ?_
  refine lv_icmp_ge (tgt := 33) hx hb dX0_repeatsAnEarlierPage_4 (by decide) (fun c_4 => ?_) (fun c_4 => ?_)
  · have hq_4 : a ≤ i2 := (nI_leI (by omega) (by omega)).mp c_4
    have hE_4 : i2 = a := by omega
    refine lv_iconst (v := (nI 0)) hx hb dX0_repeatsAnEarlierPage_33 (by decide +kernel) ?_
    have eR : (nI 0) = bI (rep w h a) := by rw [rep_f (fun k hk => hinv_2 k (by omega))]; exact bI_0
    exact W.zret (v := (nI 0)) hx hb hr (by decide +kernel) (fun t ht hW => ⟨_, rfl, eR, ht⟩) (fun q h9 => absurd h9 List.not_mem_nil) dX0_repeatsAnEarlierPage_34
  · have hlt_2 : i2 < a := Nat.lt_of_not_le (fun q => c_4 ((nI_leI (by omega) (by omega)).mpr q))
    refine lv_aload_n hx hb dX0_repeatsAnEarlierPage_7 rfl (lv_at hl 1 rfl) ?_
    refine va_get (D := (dC, dI)) (ci := 0) (v := .ref qb) (C := RX0) (T := TX0) (N := 2) hx hb hts hin0 hown hK hP 0 rfl rfl 1 (by decide) hf13 (fun _ h9 => h9) rfl dX0_repeatsAnEarlierPage_8 ?_
    refine lv_iload_n hx hb dX0_repeatsAnEarlierPage_11 rfl (lv_at hl 0 rfl) ?_
    refine my_zaldP hx hb hK hP 2 1 rfl rfl (by omega) (by decide) dX0_repeatsAnEarlierPage_12 ?_
    refine lv_if_eq (tgt := 27) hx hb dX0_repeatsAnEarlierPage_13 (by decide) (fun c_13 => ?_) (fun c_13 => ?_)
    · have hb_13 : (h i2) = false := bI_f c_13
      refine lv_iinc (v := (nI (i2 + 1))) (lv' := [(2, .int (nI (i2 + 1))), (0, .ref h0), (1, .int (nI a))]) hx hb dX0_repeatsAnEarlierPage_27 hl (k := 0) rfl (nI_1 _) (by decide) rfl (fun ls hl => ?_)
      refine lv_goto (tgt := 2) hx hb dX0_repeatsAnEarlierPage_30 (by decide) ?_
      exact hnx_2 hlt_2 ls ⟨lv_sub hl [0, 1, 2] rfl, (fun k hk => if q : k < i2 then hinv_2 k q else by (have e : k = i2 := by omega); subst e; simp [hb_13])⟩
    · have hb_13 : (h i2) = true := bI_t c_13
      refine lv_aload_n hx hb dX0_repeatsAnEarlierPage_16 rfl (lv_at hl 1 rfl) ?_
      refine lv_iload_n hx hb dX0_repeatsAnEarlierPage_17 rfl (lv_at hl 0 rfl) ?_
      refine lv_iload_n hx hb dX0_repeatsAnEarlierPage_18 rfl (lv_at hl 2 rfl) ?_
      refine vp_callSi (va_Run.run (va_runV (As := [.int (nI i2), .int (nI a)]) (rest := []) ⟨hx, hb, hml, hown, hts⟩ (k0_haveSameWords l dC dI h0 qa qb cI cZ w h i2 a (by omega) (by omega)) (cwV 2 hts gX0_repeatsAnEarlierPage_X0_haveSameWords rfl rfl rfl (by decide +kernel) ⟨Nat.le_of_ble_eq_true rfl, Nat.le_of_ble_eq_true rfl⟩) ⟨bl_P, va_recv hK hP (ci := 0) (q0 := 0) rfl rfl, fun U hU hW => ⟨rfl, by rw [hU]; exact hP, va_K.moved hW.alike hK⟩⟩ rfl rfl hl.1 rfl (lv_room (Nat.le_of_ble_eq_true rfl)) dX0_repeatsAnEarlierPage_19 ⟨Nat.zero_le _, Nat.zero_le _⟩)) (fun r_19 hr_19 => ?_)
      obtain rfl : r_19 = (bI (sm w i2 a)) := hr_19
      refine lv_if_eq (tgt := 27) hx hb dX0_repeatsAnEarlierPage_22 (by decide) (fun c_22 => ?_) (fun c_22 => ?_)
      · have hb_22 : (sm w i2 a) = false := bI_f c_22
        refine lv_iinc (v := (nI (i2 + 1))) (lv' := [(2, .int (nI (i2 + 1))), (0, .ref h0), (1, .int (nI a))]) hx hb dX0_repeatsAnEarlierPage_27 hl (k := 0) rfl (nI_1 _) (by decide) rfl (fun ls hl => ?_)
        refine lv_goto (tgt := 2) hx hb dX0_repeatsAnEarlierPage_30 (by decide) ?_
        exact hnx_2 hlt_2 ls ⟨lv_sub hl [0, 1, 2] rfl, (fun k hk => if q : k < i2 then hinv_2 k q else by (have e : k = i2 := by omega); subst e; simp [hb_13, hb_22])⟩
      · have hb_22 : (sm w i2 a) = true := bI_t c_22
        refine lv_iconst (v := (nI 1)) hx hb dX0_repeatsAnEarlierPage_25 (by decide +kernel) ?_
        have eR : (nI 1) = bI (rep w h a) := by rw [rep_t hlt_2 hb_13 hb_22]; exact bI_1
        exact W.zret (v := (nI 1)) hx hb hr (by decide +kernel) (fun t ht hW => ⟨_, rfl, eR, ht⟩) (fun q h9 => absurd h9 List.not_mem_nil) dX0_repeatsAnEarlierPage_26
set_option maxHeartbeats 4000000 in
set_option maxRecDepth 100000 in
theorem k0_hasOneValue (l : Launch) (dC : Nat → ClassId) (dI : Nat → Nat → Nat) (h0 qa qb : Nat) (cI cZ : ClassId) (w : Nat → Int32) (h : Nat → Bool) (a : Nat) (ha : a < 24) : Met l yX0_hasOneValue wsX0_hasOneValue ({ frames := 0, cells := 0, slots := 0, locals := 0 }) (va_Pc [.ref h0, .int (nI a)] (fun U => va_P (dC, dI) vwCl (W0 h0 qa qb cI cZ w h) U.heap ∧ va_K (dC, dI) vwCl (TY cI cZ) U)) (vp_Si (fun r => r = bI (one w a 4))) 0 0 (fun _ => False) := by
  refine Met.ofW (cc := cX0_hasOneValue) (maxL := 3) (ret := (some .boolean)) (by decide) rfl ?_
  intro p e s m args below meth c s₁ B hml hv
  obtain ⟨rfl, hP, hK⟩ := hv
  have hx := B.exec
  have hb := B.bytes
  have hr := B.returns
  have hlocks := B.notSynchronized
  have hts := atoms_spec (ws := wsX0_hasOneValue) B.pre
  have hown : s.vm.findClass RX0 = some m.cls := findClass_of_methodNamed B.named
  have hin0 : ∀ w ∈ wsX00, w ∈ wsX0_hasOneValue := by decide +kernel
  have hf9 := hts (.fieldLink RX0 9 "PageMerger" "words" "[I") (by decide +kernel)
  have hl := lv_entry ([.ref h0, .int (nI a)]) (n := 3) (Nat.le_of_ble_eq_true rfl)
  rw [lg_entry_eq]
  generalize (lg_sl ([.ref h0, .int (nI a)]) ++ List.replicate (3 - (lg_sl ([.ref h0, .int (nI a)])).length) Slot.unset).toArray = ls at hl ⊢
  have hl : lv_has ls 3 [(0, .ref h0), (1, .int (nI a))] := hl
  refine lv_iconst (v := (nI 1)) hx hb dX0_hasOneValue_0 (by decide +kernel) ?_
  refine lv_istore_n (lv' := [(2, .int (nI 1)), (0, .ref h0), (1, .int (nI a))]) hx hb dX0_hasOneValue_1 rfl hl (by decide) rfl (fun ls hl => ?_)
  refine lp_P 2 4 (fun i2 ls => lv_has ls 3 [(2, .int (nI i2)), (0, .ref h0), (1, .int (nI a))] ∧ ∀ k, k < i2 → w (a * 4 + k) = w (a * 4)) (fun i2 ls hi_2 hI hnx_2 => ?_) 1 (by omega) ls ⟨lv_sub hl [0, 1, 2] rfl, (fun k hk => by (have e : k = 0 := by omega); subst e; rfl)⟩
  obtain ⟨hl, hinv_2⟩ := hI
  refine lv_iload_n hx hb dX0_hasOneValue_2 rfl (lv_at hl 0 rfl) ?_
  refine lv_iconst (v := (nI 4)) hx hb dX0_hasOneValue_3 (by decide +kernel) ?_
  refine lv_icmp_ge (tgt := 36) hx hb dX0_hasOneValue_4 (by decide) (fun c_4 => ?_) (fun c_4 => ?_)
  · have hq_4 : 4 ≤ i2 := (nI_leI (by omega) (by omega)).mp c_4
    have hE_4 : i2 = 4 := by omega
    subst hE_4
    refine lv_iconst (v := (nI 1)) hx hb dX0_hasOneValue_36 (by decide +kernel) ?_
    have eR : (nI 1) = bI (one w a 4) := by rw [one_t hinv_2]; exact bI_1
    exact W.zret (v := (nI 1)) hx hb hr (by decide +kernel) (fun t ht hW => ⟨_, rfl, eR, ht⟩) (fun q h9 => absurd h9 List.not_mem_nil) dX0_hasOneValue_37
  · have hlt_2 : i2 < 4 := Nat.lt_of_not_le (fun q => c_4 ((nI_leI (by omega) (by omega)).mpr q))
    refine lv_aload_n hx hb dX0_hasOneValue_7 rfl (lv_at hl 1 rfl) ?_
    refine va_get (D := (dC, dI)) (ci := 0) (v := .ref qa) (C := RX0) (T := TX0) (N := 2) hx hb hts hin0 hown hK hP 0 rfl rfl 0 (by decide) hf9 (fun _ h9 => h9) rfl dX0_hasOneValue_8 ?_
    refine lv_iload_n hx hb dX0_hasOneValue_11 rfl (lv_at hl 2 rfl) ?_
    refine lv_iconst (v := (nI 4)) hx hb dX0_hasOneValue_12 (by decide +kernel) ?_
    refine my_mul hx hb dX0_hasOneValue_13 ?_
    refine lv_iload_n hx hb dX0_hasOneValue_14 rfl (lv_at hl 0 rfl) ?_
    refine my_add hx hb dX0_hasOneValue_15 ?_
    refine my_iald hx hb hK hP 1 0 rfl rfl (by omega) (by decide) dX0_hasOneValue_16 ?_
    refine lv_aload_n hx hb dX0_hasOneValue_17 rfl (lv_at hl 1 rfl) ?_
    refine va_get (D := (dC, dI)) (ci := 0) (v := .ref qa) (C := RX0) (T := TX0) (N := 2) hx hb hts hin0 hown hK hP 0 rfl rfl 0 (by decide) hf9 (fun _ h9 => h9) rfl dX0_hasOneValue_18 ?_
    refine lv_iload_n hx hb dX0_hasOneValue_21 rfl (lv_at hl 2 rfl) ?_
    refine lv_iconst (v := (nI 4)) hx hb dX0_hasOneValue_22 (by decide +kernel) ?_
    refine my_mul hx hb dX0_hasOneValue_23 ?_
    refine my_iald hx hb hK hP 1 0 rfl rfl (by omega) (by decide) dX0_hasOneValue_24 ?_
    refine lv_icmp_eq (tgt := 30) hx hb dX0_hasOneValue_25 (by decide) (fun c_25 => ?_) (fun c_25 => ?_)
    · refine lv_iinc (v := (nI (i2 + 1))) (lv' := [(2, .int (nI (i2 + 1))), (0, .ref h0), (1, .int (nI a))]) hx hb dX0_hasOneValue_30 hl (k := 0) rfl (nI_1 _) (by decide) rfl (fun ls hl => ?_)
      refine lv_goto (tgt := 2) hx hb dX0_hasOneValue_33 (by decide) ?_
      exact hnx_2 hlt_2 ls ⟨lv_sub hl [0, 1, 2] rfl, (fun k hk => if q : k < i2 then hinv_2 k q else by (have e : k = i2 := by omega); subst e; exact c_25)⟩
    · refine lv_iconst (v := (nI 0)) hx hb dX0_hasOneValue_28 (by decide +kernel) ?_
      have eR : (nI 0) = bI (one w a 4) := by rw [one_f hlt_2 c_25]; exact bI_0
      exact W.zret (v := (nI 0)) hx hb hr (by decide +kernel) (fun t ht hW => ⟨_, rfl, eR, ht⟩) (fun q h9 => absurd h9 List.not_mem_nil) dX0_hasOneValue_29
end
section
set_option maxHeartbeats 4000000 in
set_option maxRecDepth 100000 in
theorem k0_write (l : Launch) (dC : Nat → ClassId) (dI : Nat → Nat → Nat) (h0 qa qb : Nat) (cI cZ : ClassId) (sz : Nat) (w : Nat → Int32) (h : Nat → Bool) (p1 : Int32) (p2 : Int32) (p3 : Int32)  : Met l yX0_write wsX0_write ({ frames := 1, cells := 0, slots := 0, locals := 20 }) (va_Pc [.ref h0, .int (p1), .int (p2), .int (p3)] (fun U => U.heap.size = sz ∧ va_P (dC, dI) vwCl (W0 h0 qa qb cI cZ w h) U.heap ∧ va_K (dC, dI) vwCl (TY cI cZ) U ∧ va_D (fun _ => True) (W0 h0 qa qb cI cZ w h))) (va_Qi (fun r (_ : Unit) => r = s_read w p1 p2) (fun _ t => va_P (dC, dI) vwCl (W0 h0 qa qb cI cZ (w_write w p1 p2 p3) (h_write h p1 p2)) t.heap ∧ va_K (dC, dI) vwCl (TY cI cZ) t ∧ va_D (va_A (W0 h0 qa qb cI cZ w h) sz) (W0 h0 qa qb cI cZ (w_write w p1 p2 p3) (h_write h p1 p2))) (va_A (W0 h0 qa qb cI cZ w h) sz)) 0 0 (va_A (W0 h0 qa qb cI cZ w h) sz) := by
  refine Met.ofW (cc := cX0_write) (maxL := 5) (ret := (some .int)) (by decide) rfl ?_
  intro p e s m args below meth c s₁ B hml hv
  obtain ⟨rfl, hsz, hP, hK, hD0⟩ := hv
  have hx := B.exec
  have hb := B.bytes
  have hr := B.returns
  have hlocks := B.notSynchronized
  have hts := atoms_spec (ws := wsX0_write) B.pre
  have hown : s.vm.findClass RX0 = some m.cls := findClass_of_methodNamed B.named
  have hin0 : ∀ w ∈ wsX00, w ∈ wsX0_write := by decide +kernel
  have hf9 := hts (.fieldLink RX0 9 "PageMerger" "words" "[I") (by decide +kernel)
  have hf13 := hts (.fieldLink RX0 13 "PageMerger" "heldPages" "[Z") (by decide +kernel)
  subst hsz
  have hD := hD0.self (sz := s.heap.size)
  generalize hAe : va_A (W0 h0 qa qb cI cZ w h) s.heap.size = A at hD ⊢
  have hA : ∀ q : Nat, s.heap.size ≤ q → A q := fun q h => by rw [← hAe]; exact Or.inr h
  have hS : va_S A s.heap s.heap [] := va_S.rf
  have hl := lv_entry ([.ref h0, .int (p1), .int (p2), .int (p3)]) (n := 5) (Nat.le_of_ble_eq_true rfl)
  rw [lg_entry_eq]
  generalize (lg_sl ([.ref h0, .int (p1), .int (p2), .int (p3)]) ++ List.replicate (5 - (lg_sl ([.ref h0, .int (p1), .int (p2), .int (p3)])).length) Slot.unset).toArray = ls at hl ⊢
  have hl : lv_has ls 5 [(0, .ref h0), (1, .int (p1)), (2, .int (p2)), (3, .int (p3))] := hl
  refine lv_iload_n hx hb dX0_write_0 rfl (lv_at hl 1 rfl) ?_
  refine vp_callSi (va_Run.run (va_runS (As := [.int (p1)]) (rest := []) ⟨hx, hb, hml, hown, hts⟩ (k0_isPage l p1) (va_cwS 1 hts gX0_write_X0_isPage rfl rfl rfl (by decide +kernel) ⟨Nat.le_of_ble_eq_true rfl, Nat.le_of_ble_eq_true rfl⟩) ⟨bl_T, fun U hU hW => ⟨rfl, trivial⟩⟩ rfl rfl hl.1 rfl (lv_room (Nat.le_of_ble_eq_true rfl)) dX0_write_1 ⟨Nat.zero_le _, Nat.zero_le _⟩)) (fun r_1 hr_1 => ?_)
  obtain rfl : r_1 = (bI (okP 24 p1)) := hr_1
  refine lv_if_ne (tgt := 9) hx hb dX0_write_4 (by decide) (fun c_4 => ?_) (fun c_4 => ?_)
  · have hb_4 : (okP 24 p1) = true := bI_t c_4
    obtain ⟨j1, hj1, rfl⟩ := okP_of hb_4 (by decide)
    have hg_j1 : pg (nI j1) = j1 := pg_nI (by omega)
    refine lv_iload_n hx hb dX0_write_9 rfl (lv_at hl 2 rfl) ?_
    refine vp_callSi (va_Run.run (va_runS (As := [.int (p2)]) (rest := []) ⟨hx, hb, hml, hown, hts⟩ (k0_isWord l p2) (va_cwS 1 hts gX0_write_X0_isWord rfl rfl rfl (by decide +kernel) ⟨Nat.le_of_ble_eq_true rfl, Nat.le_of_ble_eq_true rfl⟩) ⟨bl_T, fun U hU hW => ⟨rfl, trivial⟩⟩ rfl rfl hl.1 rfl (lv_room (Nat.le_of_ble_eq_true rfl)) dX0_write_10 ⟨Nat.zero_le _, Nat.zero_le _⟩)) (fun r_10 hr_10 => ?_)
    obtain rfl : r_10 = (bI (okP 4 p2)) := hr_10
    refine lv_if_ne (tgt := 19) hx hb dX0_write_13 (by decide) (fun c_13 => ?_) (fun c_13 => ?_)
    · have hb_13 : (okP 4 p2) = true := bI_t c_13
      obtain ⟨j2, hj2, rfl⟩ := okP_of hb_13 (by decide)
      have hg_j2 : pg (nI j2) = j2 := pg_nI (by omega)
      refine lv_aload_n hx hb dX0_write_19 rfl (lv_at hl 0 rfl) ?_
      refine va_get (D := (dC, dI)) (ci := 0) (v := .ref qa) (C := RX0) (T := TX0) (N := 2) hx hb hts hin0 hown hK hP 0 rfl rfl 0 (by decide) hf9 (fun _ h9 => h9) rfl dX0_write_20 ?_
      refine lv_iload_n hx hb dX0_write_23 rfl (lv_at hl 1 rfl) ?_
      refine lv_iconst (v := (nI 4)) hx hb dX0_write_24 (by decide +kernel) ?_
      refine my_mul hx hb dX0_write_25 ?_
      refine lv_iload_n hx hb dX0_write_26 rfl (lv_at hl 2 rfl) ?_
      refine my_add hx hb dX0_write_27 ?_
      refine my_iald hx hb hK hP 1 0 rfl rfl (by omega) (by decide) dX0_write_28 ?_
      refine lv_istore (lv' := [(4, .int (w (j1 * 4 + j2))), (0, .ref h0), (1, .int (nI j1)), (2, .int (nI j2)), (3, .int (p3))]) hx hb dX0_write_29 hl (by decide) rfl (fun ls hl => ?_)
      refine lv_aload_n hx hb dX0_write_31 rfl (lv_at hl 1 rfl) ?_
      refine va_get (D := (dC, dI)) (ci := 0) (v := .ref qa) (C := RX0) (T := TX0) (N := 2) hx hb hts hin0 hown hK hP 0 rfl rfl 0 (by decide) hf9 (fun _ h9 => h9) rfl dX0_write_32 ?_
      refine lv_iload_n hx hb dX0_write_35 rfl (lv_at hl 2 rfl) ?_
      refine lv_iconst (v := (nI 4)) hx hb dX0_write_36 (by decide +kernel) ?_
      refine my_mul hx hb dX0_write_37 ?_
      refine lv_iload_n hx hb dX0_write_38 rfl (lv_at hl 3 rfl) ?_
      refine my_add hx hb dX0_write_39 ?_
      refine lv_iload_n hx hb dX0_write_40 rfl (lv_at hl 4 rfl) ?_
      refine my_iast hx hb hK hP hD hS 1 0 rfl rfl (by omega) (by decide) dX0_write_41 (fun H locs hP hD hS => ?_)
      have hP : va_P (dC, dI) vwCl (W0 h0 qa qb cI cZ (upd w (j1 * 4 + j2) p3) h) H := hP
      have hD : va_D A (W0 h0 qa qb cI cZ (upd w (j1 * 4 + j2) p3) h) := hD
      refine lv_aload_n hx hb dX0_write_42 rfl (lv_at hl 1 rfl) ?_
      refine va_get (D := (dC, dI)) (ci := 0) (v := .ref qb) (C := RX0) (T := TX0) (N := 2) hx hb hts hin0 hown hK hP 0 rfl rfl 1 (by decide) hf13 (fun _ h9 => h9) rfl dX0_write_43 ?_
      refine lv_iload_n hx hb dX0_write_46 rfl (lv_at hl 2 rfl) ?_
      refine lv_iconst (v := (nI 1)) hx hb dX0_write_47 (by decide +kernel) ?_
      refine my_zastP hx hb hK hP hD hS 2 1 rfl rfl true bI_1 (by omega) (by decide) dX0_write_48 (fun H locs hP hD hS => ?_)
      have hP : va_P (dC, dI) vwCl (W0 h0 qa qb cI cZ (upd w (j1 * 4 + j2) p3) (updB h j1 true)) H := hP
      have hD : va_D A (W0 h0 qa qb cI cZ (upd w (j1 * 4 + j2) p3) (updB h j1 true)) := hD
      refine lv_iload hx hb dX0_write_49 (lv_at hl 0 rfl) ?_
      have eW : w_write w (nI j1) (nI j2) p3 = upd w (j1 * 4 + j2) p3 := by simp [s_read, w_write, h_write, hb_4, hg_j1, hb_13, hg_j2]
      have eH : h_write h (nI j1) (nI j2) = updB h j1 true := by simp [s_read, w_write, h_write, hb_4, hg_j1, hb_13, hg_j2]
      have eR : (w (j1 * 4 + j2)) = s_read w (nI j1) (nI j2) := by simp [s_read, w_write, h_write, hb_4, hg_j1, hb_13, hg_j2]
      exact W.iret (v := (w (j1 * 4 + j2))) hx hb hr (fun t ht hW => ⟨⟨_, (), rfl, eR, by rw [eW, eH, ht]; exact hP, va_K.moved hW.alike hK, by rw [eW, eH]; exact hD⟩, hS.F ht⟩) hS.2.2 dX0_write_51
    · have hb_13 : (okP 4 p2) = false := bI_f c_13
      refine lv_bipush (v := (-2)) hx hb dX0_write_16 (by decide +kernel) ?_
      have eW : w_write w (nI j1) p2 p3 = w := by simp [s_read, w_write, h_write, hb_4, hg_j1, hb_13]
      have eH : h_write h (nI j1) p2 = h := by simp [s_read, w_write, h_write, hb_4, hg_j1, hb_13]
      have eR : (-2) = s_read w (nI j1) p2 := by simp [s_read, w_write, h_write, hb_4, hg_j1, hb_13]
      exact W.iret (v := (-2)) hx hb hr (fun t ht hW => ⟨⟨_, (), rfl, eR, by rw [eW, eH, ht]; exact hP, va_K.moved hW.alike hK, by rw [eW, eH]; exact hD⟩, hS.F ht⟩) hS.2.2 dX0_write_18
  · have hb_4 : (okP 24 p1) = false := bI_f c_4
    refine lv_iconst (v := (-1)) hx hb dX0_write_7 (by decide +kernel) ?_
    have eW : w_write w p1 p2 p3 = w := by simp [s_read, w_write, h_write, hb_4]
    have eH : h_write h p1 p2 = h := by simp [s_read, w_write, h_write, hb_4]
    have eR : (-1) = s_read w p1 p2 := by simp [s_read, w_write, h_write, hb_4]
    exact W.iret (v := (-1)) hx hb hr (fun t ht hW => ⟨⟨_, (), rfl, eR, by rw [eW, eH, ht]; exact hP, va_K.moved hW.alike hK, by rw [eW, eH]; exact hD⟩, hS.F ht⟩) hS.2.2 dX0_write_8
set_option maxHeartbeats 4000000 in
set_option maxRecDepth 100000 in
theorem k0_fill (l : Launch) (dC : Nat → ClassId) (dI : Nat → Nat → Nat) (h0 qa qb : Nat) (cI cZ : ClassId) (sz : Nat) (w : Nat → Int32) (h : Nat → Bool) (p1 : Int32) (p2 : Int32)  : Met l yX0_fill wsX0_fill ({ frames := 1, cells := 0, slots := 0, locals := 23 }) (va_Pc [.ref h0, .int (p1), .int (p2)] (fun U => U.heap.size = sz ∧ va_P (dC, dI) vwCl (W0 h0 qa qb cI cZ w h) U.heap ∧ va_K (dC, dI) vwCl (TY cI cZ) U ∧ va_D (fun _ => True) (W0 h0 qa qb cI cZ w h))) (va_Qi (fun r (_ : Unit) => r = s_page p1) (fun _ t => va_P (dC, dI) vwCl (W0 h0 qa qb cI cZ (w_fill w p1 p2) (h_fill h p1)) t.heap ∧ va_K (dC, dI) vwCl (TY cI cZ) t ∧ va_D (va_A (W0 h0 qa qb cI cZ w h) sz) (W0 h0 qa qb cI cZ (w_fill w p1 p2) (h_fill h p1))) (va_A (W0 h0 qa qb cI cZ w h) sz)) 0 0 (va_A (W0 h0 qa qb cI cZ w h) sz) := by
  refine Met.ofW (cc := cX0_fill) (maxL := 3) (ret := (some .int)) (by decide) rfl ?_
  intro p e s m args below meth c s₁ B hml hv
  obtain ⟨rfl, hsz, hP, hK, hD0⟩ := hv
  have hx := B.exec
  have hb := B.bytes
  have hr := B.returns
  have hlocks := B.notSynchronized
  have hts := atoms_spec (ws := wsX0_fill) B.pre
  have hown : s.vm.findClass RX0 = some m.cls := findClass_of_methodNamed B.named
  have hin0 : ∀ w ∈ wsX00, w ∈ wsX0_fill := by decide +kernel
  have hf13 := hts (.fieldLink RX0 13 "PageMerger" "heldPages" "[Z") (by decide +kernel)
  subst hsz
  have hD := hD0.self (sz := s.heap.size)
  generalize hAe : va_A (W0 h0 qa qb cI cZ w h) s.heap.size = A at hD ⊢
  have hA : ∀ q : Nat, s.heap.size ≤ q → A q := fun q h => by rw [← hAe]; exact Or.inr h
  have hS : va_S A s.heap s.heap [] := va_S.rf
  have hl := lv_entry ([.ref h0, .int (p1), .int (p2)]) (n := 3) (Nat.le_of_ble_eq_true rfl)
  rw [lg_entry_eq]
  generalize (lg_sl ([.ref h0, .int (p1), .int (p2)]) ++ List.replicate (3 - (lg_sl ([.ref h0, .int (p1), .int (p2)])).length) Slot.unset).toArray = ls at hl ⊢
  have hl : lv_has ls 3 [(0, .ref h0), (1, .int (p1)), (2, .int (p2))] := hl
  refine lv_iload_n hx hb dX0_fill_0 rfl (lv_at hl 1 rfl) ?_
  refine vp_callSi (va_Run.run (va_runS (As := [.int (p1)]) (rest := []) ⟨hx, hb, hml, hown, hts⟩ (k0_isPage l p1) (va_cwS 1 hts gX0_fill_X0_isPage rfl rfl rfl (by decide +kernel) ⟨Nat.le_of_ble_eq_true rfl, Nat.le_of_ble_eq_true rfl⟩) ⟨bl_T, fun U hU hW => ⟨rfl, trivial⟩⟩ rfl rfl hl.1 rfl (lv_room (Nat.le_of_ble_eq_true rfl)) dX0_fill_1 ⟨Nat.zero_le _, Nat.zero_le _⟩)) (fun r_1 hr_1 => ?_)
  obtain rfl : r_1 = (bI (okP 24 p1)) := hr_1
  refine lv_if_ne (tgt := 9) hx hb dX0_fill_4 (by decide) (fun c_4 => ?_) (fun c_4 => ?_)
  · have hb_4 : (okP 24 p1) = true := bI_t c_4
    obtain ⟨j1, hj1, rfl⟩ := okP_of hb_4 (by decide)
    have hg_j1 : pg (nI j1) = j1 := pg_nI (by omega)
    refine lv_aload_n hx hb dX0_fill_9 rfl (lv_at hl 0 rfl) ?_
    refine lv_iload_n hx hb dX0_fill_10 rfl (lv_at hl 1 rfl) ?_
    refine lv_iload_n hx hb dX0_fill_11 rfl (lv_at hl 2 rfl) ?_
    have hFc := va_free (wc := W0 h0 qa qb cI cZ w h) hD hS hA [0, 1, 2] rfl
    refine va_callv (va_runV (As := [.int (nI j1), .int (p2)]) (rest := []) ⟨hx, hb, hml, hown, hts⟩ (k0_setAllWords l dC dI h0 qa qb cI cZ s.heap.size w h j1 p2 (by omega)) (cwV 2 hts gX0_fill_X0_setAllWords rfl rfl rfl (by decide +kernel) ⟨Nat.le_of_ble_eq_true rfl, Nat.le_of_ble_eq_true rfl⟩) ⟨bl_Q, va_recv hK hP (ci := 0) (q0 := 0) rfl rfl, fun U hU hW => ⟨rfl, by rw [hU], by rw [hU]; exact hP, va_K.moved hW.alike hK, hD.weaken (fun _ _ _ _ => trivial)⟩⟩ rfl rfl hl.1 rfl (lv_room (Nat.le_of_ble_eq_true rfl)) dX0_fill_12 ⟨Nat.zero_le _, Nat.zero_le _⟩) hS (fun q _ h9 => hFc q h9) hFc (fun u t H1 locs ht hvm hw hB hz1 hk1 hS => ?_)
    obtain ⟨hP1, hK1, hD1⟩ := hB
    rw [ht] at hP1
    obtain ⟨hP, hD⟩ := va_join (wr := []) (w1 := W0 h0 qa qb cI cZ (fillN w j1 p2 4) h) hP hD [0, 1, 2] [] rfl rfl (by decide) (by decide) hk1 hFc hP1 hD1
    generalize H1 = H at hP hS ⊢
    have hP : va_P (dC, dI) vwCl (W0 h0 qa qb cI cZ (fillN w j1 p2 4) h) H := hP
    have hD : va_D A (W0 h0 qa qb cI cZ (fillN w j1 p2 4) h) := hD
    refine lv_aload_n hx hb dX0_fill_15 rfl (lv_at hl 0 rfl) ?_
    refine va_get (D := (dC, dI)) (ci := 0) (v := .ref qb) (C := RX0) (T := TX0) (N := 2) hx hb hts hin0 hown hK hP 0 rfl rfl 1 (by decide) hf13 (fun _ h9 => h9) rfl dX0_fill_16 ?_
    refine lv_iload_n hx hb dX0_fill_19 rfl (lv_at hl 1 rfl) ?_
    refine lv_iconst (v := (nI 1)) hx hb dX0_fill_20 (by decide +kernel) ?_
    refine my_zastP hx hb hK hP hD hS 2 1 rfl rfl true bI_1 (by omega) (by decide) dX0_fill_21 (fun H locs hP hD hS => ?_)
    have hP : va_P (dC, dI) vwCl (W0 h0 qa qb cI cZ (fillN w j1 p2 4) (updB h j1 true)) H := hP
    have hD : va_D A (W0 h0 qa qb cI cZ (fillN w j1 p2 4) (updB h j1 true)) := hD
    refine lv_iconst (v := (nI 0)) hx hb dX0_fill_22 (by decide +kernel) ?_
    have eW : w_fill w (nI j1) p2 = fillN w j1 p2 4 := by simp [s_page, w_fill, h_fill, hb_4, hg_j1]
    have eH : h_fill h (nI j1) = updB h j1 true := by simp [s_page, w_fill, h_fill, hb_4, hg_j1]
    have eR : (nI 0) = s_page (nI j1) := by simp [s_page, w_fill, h_fill, hb_4, hg_j1, nI_0]
    exact W.iret (v := (nI 0)) hx hb hr (fun t ht hW => ⟨⟨_, (), rfl, eR, by rw [eW, eH, ht]; exact hP, va_K.moved hW.alike hK, by rw [eW, eH]; exact hD⟩, hS.F ht⟩) hS.2.2 dX0_fill_23
  · have hb_4 : (okP 24 p1) = false := bI_f c_4
    refine lv_iconst (v := (-1)) hx hb dX0_fill_7 (by decide +kernel) ?_
    have eW : w_fill w p1 p2 = w := by simp [s_page, w_fill, h_fill, hb_4]
    have eH : h_fill h p1 = h := by simp [s_page, w_fill, h_fill, hb_4]
    have eR : (-1) = s_page p1 := by simp [s_page, w_fill, h_fill, hb_4, nI_0]
    exact W.iret (v := (-1)) hx hb hr (fun t ht hW => ⟨⟨_, (), rfl, eR, by rw [eW, eH, ht]; exact hP, va_K.moved hW.alike hK, by rw [eW, eH]; exact hD⟩, hS.F ht⟩) hS.2.2 dX0_fill_8
set_option maxHeartbeats 4000000 in
set_option maxRecDepth 100000 in
theorem k0_copy (l : Launch) (dC : Nat → ClassId) (dI : Nat → Nat → Nat) (h0 qa qb : Nat) (cI cZ : ClassId) (sz : Nat) (w : Nat → Int32) (h : Nat → Bool) (p1 : Int32) (p2 : Int32)  : Met l yX0_copy wsX0_copy ({ frames := 1, cells := 0, slots := 0, locals := 20 }) (va_Pc [.ref h0, .int (p1), .int (p2)] (fun U => U.heap.size = sz ∧ va_P (dC, dI) vwCl (W0 h0 qa qb cI cZ w h) U.heap ∧ va_K (dC, dI) vwCl (TY cI cZ) U ∧ va_D (fun _ => True) (W0 h0 qa qb cI cZ w h))) (va_Qi (fun r (_ : Unit) => r = s_two p1 p2) (fun _ t => va_P (dC, dI) vwCl (W0 h0 qa qb cI cZ (w_copy w p1 p2) (h_copy h p1 p2)) t.heap ∧ va_K (dC, dI) vwCl (TY cI cZ) t ∧ va_D (va_A (W0 h0 qa qb cI cZ w h) sz) (W0 h0 qa qb cI cZ (w_copy w p1 p2) (h_copy h p1 p2))) (va_A (W0 h0 qa qb cI cZ w h) sz)) 0 0 (va_A (W0 h0 qa qb cI cZ w h) sz) := by
  refine Met.ofW (cc := cX0_copy) (maxL := 4) (ret := (some .int)) (by decide) rfl ?_
  intro p e s m args below meth c s₁ B hml hv
  obtain ⟨rfl, hsz, hP, hK, hD0⟩ := hv
  have hx := B.exec
  have hb := B.bytes
  have hr := B.returns
  have hlocks := B.notSynchronized
  have hts := atoms_spec (ws := wsX0_copy) B.pre
  have hown : s.vm.findClass RX0 = some m.cls := findClass_of_methodNamed B.named
  have hin0 : ∀ w ∈ wsX00, w ∈ wsX0_copy := by decide +kernel
  have hf9 := hts (.fieldLink RX0 9 "PageMerger" "words" "[I") (by decide +kernel)
  have hf13 := hts (.fieldLink RX0 13 "PageMerger" "heldPages" "[Z") (by decide +kernel)
  subst hsz
  have hD := hD0.self (sz := s.heap.size)
  generalize hAe : va_A (W0 h0 qa qb cI cZ w h) s.heap.size = A at hD ⊢
  have hA : ∀ q : Nat, s.heap.size ≤ q → A q := fun q h => by rw [← hAe]; exact Or.inr h
  have hS : va_S A s.heap s.heap [] := va_S.rf
  have hl := lv_entry ([.ref h0, .int (p1), .int (p2)]) (n := 4) (Nat.le_of_ble_eq_true rfl)
  rw [lg_entry_eq]
  generalize (lg_sl ([.ref h0, .int (p1), .int (p2)]) ++ List.replicate (4 - (lg_sl ([.ref h0, .int (p1), .int (p2)])).length) Slot.unset).toArray = ls at hl ⊢
  have hl : lv_has ls 4 [(0, .ref h0), (1, .int (p1)), (2, .int (p2))] := hl
  refine lv_iload_n hx hb dX0_copy_0 rfl (lv_at hl 1 rfl) ?_
  refine vp_callSi (va_Run.run (va_runS (As := [.int (p1)]) (rest := []) ⟨hx, hb, hml, hown, hts⟩ (k0_isPage l p1) (va_cwS 1 hts gX0_copy_X0_isPage rfl rfl rfl (by decide +kernel) ⟨Nat.le_of_ble_eq_true rfl, Nat.le_of_ble_eq_true rfl⟩) ⟨bl_T, fun U hU hW => ⟨rfl, trivial⟩⟩ rfl rfl hl.1 rfl (lv_room (Nat.le_of_ble_eq_true rfl)) dX0_copy_1 ⟨Nat.zero_le _, Nat.zero_le _⟩)) (fun r_1 hr_1 => ?_)
  obtain rfl : r_1 = (bI (okP 24 p1)) := hr_1
  refine lv_if_eq (tgt := 14) hx hb dX0_copy_4 (by decide) (fun c_4 => ?_) (fun c_4 => ?_)
  · have hb_4 : (okP 24 p1) = false := bI_f c_4
    refine lv_iconst (v := (-1)) hx hb dX0_copy_14 (by decide +kernel) ?_
    have eW : w_copy w p1 p2 = w := by simp [s_two, w_copy, h_copy, hb_4]
    have eH : h_copy h p1 p2 = h := by simp [s_two, w_copy, h_copy, hb_4]
    have eR : (-1) = s_two p1 p2 := by simp [s_two, w_copy, h_copy, hb_4, nI_0]
    exact W.iret (v := (-1)) hx hb hr (fun t ht hW => ⟨⟨_, (), rfl, eR, by rw [eW, eH, ht]; exact hP, va_K.moved hW.alike hK, by rw [eW, eH]; exact hD⟩, hS.F ht⟩) hS.2.2 dX0_copy_15
  · have hb_4 : (okP 24 p1) = true := bI_t c_4
    obtain ⟨j1, hj1, rfl⟩ := okP_of hb_4 (by decide)
    have hg_j1 : pg (nI j1) = j1 := pg_nI (by omega)
    refine lv_iload_n hx hb dX0_copy_7 rfl (lv_at hl 2 rfl) ?_
    refine vp_callSi (va_Run.run (va_runS (As := [.int (p2)]) (rest := []) ⟨hx, hb, hml, hown, hts⟩ (k0_isPage l p2) (va_cwS 1 hts gX0_copy_X0_isPage rfl rfl rfl (by decide +kernel) ⟨Nat.le_of_ble_eq_true rfl, Nat.le_of_ble_eq_true rfl⟩) ⟨bl_T, fun U hU hW => ⟨rfl, trivial⟩⟩ rfl rfl hl.1 rfl (lv_room (Nat.le_of_ble_eq_true rfl)) dX0_copy_8 ⟨Nat.zero_le _, Nat.zero_le _⟩)) (fun r_8 hr_8 => ?_)
    obtain rfl : r_8 = (bI (okP 24 p2)) := hr_8
    refine lv_if_ne (tgt := 16) hx hb dX0_copy_11 (by decide) (fun c_11 => ?_) (fun c_11 => ?_)
    · have hb_11 : (okP 24 p2) = true := bI_t c_11
      obtain ⟨j2, hj2, rfl⟩ := okP_of hb_11 (by decide)
      have hg_j2 : pg (nI j2) = j2 := pg_nI (by omega)
      refine lv_iconst (v := (nI 0)) hx hb dX0_copy_16 (by decide +kernel) ?_
      refine lv_istore_n (lv' := [(3, .int (nI 0)), (0, .ref h0), (1, .int (nI j1)), (2, .int (nI j2))]) hx hb dX0_copy_17 rfl hl (by decide) rfl (fun ls hl => ?_)
      refine lp_Q 18 4 (fun i18 H locs ls => lv_has ls 4 [(3, .int (nI i18)), (0, .ref h0), (1, .int (nI j1)), (2, .int (nI j2))] ∧ va_P (dC, dI) vwCl (W0 h0 qa qb cI cZ (copyN w j1 j2 i18) h) H ∧ va_D A (W0 h0 qa qb cI cZ (copyN w j1 j2 i18) h) ∧ va_S A s.heap H locs) (fun i18 H locs ls hi_18 hI hnx_18 => ?_) 0 (by omega) _ _ ls ⟨lv_sub hl [0, 1, 2, 3] rfl, hP, hD, hS⟩
      obtain ⟨hl, hP, hD, hS⟩ := hI
      refine lv_iload_n hx hb dX0_copy_18 rfl (lv_at hl 0 rfl) ?_
      refine lv_iconst (v := (nI 4)) hx hb dX0_copy_19 (by decide +kernel) ?_
      refine lv_icmp_ge (tgt := 49) hx hb dX0_copy_20 (by decide) (fun c_20 => ?_) (fun c_20 => ?_)
      · have hq_20 : 4 ≤ i18 := (nI_leI (by omega) (by omega)).mp c_20
        have hE_20 : i18 = 4 := by omega
        subst hE_20
        refine lv_aload_n hx hb dX0_copy_49 rfl (lv_at hl 1 rfl) ?_
        refine va_get (D := (dC, dI)) (ci := 0) (v := .ref qb) (C := RX0) (T := TX0) (N := 2) hx hb hts hin0 hown hK hP 0 rfl rfl 1 (by decide) hf13 (fun _ h9 => h9) rfl dX0_copy_50 ?_
        refine lv_iload_n hx hb dX0_copy_53 rfl (lv_at hl 3 rfl) ?_
        refine lv_aload_n hx hb dX0_copy_54 rfl (lv_at hl 1 rfl) ?_
        refine va_get (D := (dC, dI)) (ci := 0) (v := .ref qb) (C := RX0) (T := TX0) (N := 2) hx hb hts hin0 hown hK hP 0 rfl rfl 1 (by decide) hf13 (fun _ h9 => h9) rfl dX0_copy_55 ?_
        refine lv_iload_n hx hb dX0_copy_58 rfl (lv_at hl 2 rfl) ?_
        refine my_zaldP hx hb hK hP 2 1 rfl rfl (by omega) (by decide) dX0_copy_59 ?_
        refine my_zastP hx hb hK hP hD hS 2 1 rfl rfl (h j1) rfl (by omega) (by decide) dX0_copy_60 (fun H locs hP hD hS => ?_)
        have hP : va_P (dC, dI) vwCl (W0 h0 qa qb cI cZ (copyN w j1 j2 4) (updB h j2 (h j1))) H := hP
        have hD : va_D A (W0 h0 qa qb cI cZ (copyN w j1 j2 4) (updB h j2 (h j1))) := hD
        refine lv_iconst (v := (nI 0)) hx hb dX0_copy_61 (by decide +kernel) ?_
        have eW : w_copy w (nI j1) (nI j2) = copyN w j1 j2 4 := by simp [s_two, w_copy, h_copy, hb_4, hg_j1, hb_11, hg_j2]
        have eH : h_copy h (nI j1) (nI j2) = updB h j2 (h j1) := by simp [s_two, w_copy, h_copy, hb_4, hg_j1, hb_11, hg_j2]
        have eR : (nI 0) = s_two (nI j1) (nI j2) := by simp [s_two, w_copy, h_copy, hb_4, hg_j1, hb_11, hg_j2, nI_0]
        exact W.iret (v := (nI 0)) hx hb hr (fun t ht hW => ⟨⟨_, (), rfl, eR, by rw [eW, eH, ht]; exact hP, va_K.moved hW.alike hK, by rw [eW, eH]; exact hD⟩, hS.F ht⟩) hS.2.2 dX0_copy_62
      · have hlt_18 : i18 < 4 := Nat.lt_of_not_le (fun q => c_20 ((nI_leI (by omega) (by omega)).mpr q))
        refine lv_aload_n hx hb dX0_copy_23 rfl (lv_at hl 1 rfl) ?_
        refine va_get (D := (dC, dI)) (ci := 0) (v := .ref qa) (C := RX0) (T := TX0) (N := 2) hx hb hts hin0 hown hK hP 0 rfl rfl 0 (by decide) hf9 (fun _ h9 => h9) rfl dX0_copy_24 ?_
        refine lv_iload_n hx hb dX0_copy_27 rfl (lv_at hl 3 rfl) ?_
        refine lv_iconst (v := (nI 4)) hx hb dX0_copy_28 (by decide +kernel) ?_
        refine my_mul hx hb dX0_copy_29 ?_
        refine lv_iload_n hx hb dX0_copy_30 rfl (lv_at hl 0 rfl) ?_
        refine my_add hx hb dX0_copy_31 ?_
        refine lv_aload_n hx hb dX0_copy_32 rfl (lv_at hl 1 rfl) ?_
        refine va_get (D := (dC, dI)) (ci := 0) (v := .ref qa) (C := RX0) (T := TX0) (N := 2) hx hb hts hin0 hown hK hP 0 rfl rfl 0 (by decide) hf9 (fun _ h9 => h9) rfl dX0_copy_33 ?_
        refine lv_iload_n hx hb dX0_copy_36 rfl (lv_at hl 2 rfl) ?_
        refine lv_iconst (v := (nI 4)) hx hb dX0_copy_37 (by decide +kernel) ?_
        refine my_mul hx hb dX0_copy_38 ?_
        refine lv_iload_n hx hb dX0_copy_39 rfl (lv_at hl 0 rfl) ?_
        refine my_add hx hb dX0_copy_40 ?_
        refine my_iald hx hb hK hP 1 0 rfl rfl (by omega) (by decide) dX0_copy_41 ?_
        refine my_iast hx hb hK hP hD hS 1 0 rfl rfl (by omega) (by decide) dX0_copy_42 (fun H locs hP hD hS => ?_)
        have hP : va_P (dC, dI) vwCl (W0 h0 qa qb cI cZ (upd (copyN w j1 j2 i18) (j2 * 4 + i18) ((copyN w j1 j2 i18) (j1 * 4 + i18))) h) H := hP
        have hD : va_D A (W0 h0 qa qb cI cZ (upd (copyN w j1 j2 i18) (j2 * 4 + i18) ((copyN w j1 j2 i18) (j1 * 4 + i18))) h) := hD
        refine lv_iinc (v := (nI (i18 + 1))) (lv' := [(3, .int (nI (i18 + 1))), (0, .ref h0), (1, .int (nI j1)), (2, .int (nI j2))]) hx hb dX0_copy_43 hl (k := 0) rfl (nI_1 _) (by decide) rfl (fun ls hl => ?_)
        refine lv_goto (tgt := 18) hx hb dX0_copy_46 (by decide) ?_
        exact hnx_18 hlt_18 _ _ ls ⟨lv_sub hl [0, 1, 2, 3] rfl, hP, hD, hS⟩
    · have hb_11 : (okP 24 p2) = false := bI_f c_11
      refine lv_iconst (v := (-1)) hx hb dX0_copy_14 (by decide +kernel) ?_
      have eW : w_copy w (nI j1) p2 = w := by simp [s_two, w_copy, h_copy, hb_4, hg_j1, hb_11]
      have eH : h_copy h (nI j1) p2 = h := by simp [s_two, w_copy, h_copy, hb_4, hg_j1, hb_11]
      have eR : (-1) = s_two (nI j1) p2 := by simp [s_two, w_copy, h_copy, hb_4, hg_j1, hb_11, nI_0]
      exact W.iret (v := (-1)) hx hb hr (fun t ht hW => ⟨⟨_, (), rfl, eR, by rw [eW, eH, ht]; exact hP, va_K.moved hW.alike hK, by rw [eW, eH]; exact hD⟩, hS.F ht⟩) hS.2.2 dX0_copy_15
set_option maxHeartbeats 4000000 in
set_option maxRecDepth 100000 in
theorem k0_swap (l : Launch) (dC : Nat → ClassId) (dI : Nat → Nat → Nat) (h0 qa qb : Nat) (cI cZ : ClassId) (sz : Nat) (w : Nat → Int32) (h : Nat → Bool) (p1 : Int32) (p2 : Int32)  : Met l yX0_swap wsX0_swap ({ frames := 1, cells := 0, slots := 0, locals := 20 }) (va_Pc [.ref h0, .int (p1), .int (p2)] (fun U => U.heap.size = sz ∧ va_P (dC, dI) vwCl (W0 h0 qa qb cI cZ w h) U.heap ∧ va_K (dC, dI) vwCl (TY cI cZ) U ∧ va_D (fun _ => True) (W0 h0 qa qb cI cZ w h))) (va_Qi (fun r (_ : Unit) => r = s_two p1 p2) (fun _ t => va_P (dC, dI) vwCl (W0 h0 qa qb cI cZ (w_swap w p1 p2) (h_swap h p1 p2)) t.heap ∧ va_K (dC, dI) vwCl (TY cI cZ) t ∧ va_D (va_A (W0 h0 qa qb cI cZ w h) sz) (W0 h0 qa qb cI cZ (w_swap w p1 p2) (h_swap h p1 p2))) (va_A (W0 h0 qa qb cI cZ w h) sz)) 0 0 (va_A (W0 h0 qa qb cI cZ w h) sz) := by
  refine Met.ofW (cc := cX0_swap) (maxL := 5) (ret := (some .int)) (by decide) rfl ?_
  intro p e s m args below meth c s₁ B hml hv
  obtain ⟨rfl, hsz, hP, hK, hD0⟩ := hv
  have hx := B.exec
  have hb := B.bytes
  have hr := B.returns
  have hlocks := B.notSynchronized
  have hts := atoms_spec (ws := wsX0_swap) B.pre
  have hown : s.vm.findClass RX0 = some m.cls := findClass_of_methodNamed B.named
  have hin0 : ∀ w ∈ wsX00, w ∈ wsX0_swap := by decide +kernel
  have hf9 := hts (.fieldLink RX0 9 "PageMerger" "words" "[I") (by decide +kernel)
  have hf13 := hts (.fieldLink RX0 13 "PageMerger" "heldPages" "[Z") (by decide +kernel)
  subst hsz
  have hD := hD0.self (sz := s.heap.size)
  generalize hAe : va_A (W0 h0 qa qb cI cZ w h) s.heap.size = A at hD ⊢
  have hA : ∀ q : Nat, s.heap.size ≤ q → A q := fun q h => by rw [← hAe]; exact Or.inr h
  have hS : va_S A s.heap s.heap [] := va_S.rf
  have hl := lv_entry ([.ref h0, .int (p1), .int (p2)]) (n := 5) (Nat.le_of_ble_eq_true rfl)
  rw [lg_entry_eq]
  generalize (lg_sl ([.ref h0, .int (p1), .int (p2)]) ++ List.replicate (5 - (lg_sl ([.ref h0, .int (p1), .int (p2)])).length) Slot.unset).toArray = ls at hl ⊢
  have hl : lv_has ls 5 [(0, .ref h0), (1, .int (p1)), (2, .int (p2))] := hl
  refine lv_iload_n hx hb dX0_swap_0 rfl (lv_at hl 1 rfl) ?_
  refine vp_callSi (va_Run.run (va_runS (As := [.int (p1)]) (rest := []) ⟨hx, hb, hml, hown, hts⟩ (k0_isPage l p1) (va_cwS 1 hts gX0_swap_X0_isPage rfl rfl rfl (by decide +kernel) ⟨Nat.le_of_ble_eq_true rfl, Nat.le_of_ble_eq_true rfl⟩) ⟨bl_T, fun U hU hW => ⟨rfl, trivial⟩⟩ rfl rfl hl.1 rfl (lv_room (Nat.le_of_ble_eq_true rfl)) dX0_swap_1 ⟨Nat.zero_le _, Nat.zero_le _⟩)) (fun r_1 hr_1 => ?_)
  obtain rfl : r_1 = (bI (okP 24 p1)) := hr_1
  refine lv_if_eq (tgt := 14) hx hb dX0_swap_4 (by decide) (fun c_4 => ?_) (fun c_4 => ?_)
  · have hb_4 : (okP 24 p1) = false := bI_f c_4
    refine lv_iconst (v := (-1)) hx hb dX0_swap_14 (by decide +kernel) ?_
    have eW : w_swap w p1 p2 = w := by simp [s_two, w_swap, h_swap, hb_4]
    have eH : h_swap h p1 p2 = h := by simp [s_two, w_swap, h_swap, hb_4]
    have eR : (-1) = s_two p1 p2 := by simp [s_two, w_swap, h_swap, hb_4, nI_0]
    exact W.iret (v := (-1)) hx hb hr (fun t ht hW => ⟨⟨_, (), rfl, eR, by rw [eW, eH, ht]; exact hP, va_K.moved hW.alike hK, by rw [eW, eH]; exact hD⟩, hS.F ht⟩) hS.2.2 dX0_swap_15
  · have hb_4 : (okP 24 p1) = true := bI_t c_4
    obtain ⟨j1, hj1, rfl⟩ := okP_of hb_4 (by decide)
    have hg_j1 : pg (nI j1) = j1 := pg_nI (by omega)
    refine lv_iload_n hx hb dX0_swap_7 rfl (lv_at hl 2 rfl) ?_
    refine vp_callSi (va_Run.run (va_runS (As := [.int (p2)]) (rest := []) ⟨hx, hb, hml, hown, hts⟩ (k0_isPage l p2) (va_cwS 1 hts gX0_swap_X0_isPage rfl rfl rfl (by decide +kernel) ⟨Nat.le_of_ble_eq_true rfl, Nat.le_of_ble_eq_true rfl⟩) ⟨bl_T, fun U hU hW => ⟨rfl, trivial⟩⟩ rfl rfl hl.1 rfl (lv_room (Nat.le_of_ble_eq_true rfl)) dX0_swap_8 ⟨Nat.zero_le _, Nat.zero_le _⟩)) (fun r_8 hr_8 => ?_)
    obtain rfl : r_8 = (bI (okP 24 p2)) := hr_8
    refine lv_if_ne (tgt := 16) hx hb dX0_swap_11 (by decide) (fun c_11 => ?_) (fun c_11 => ?_)
    · have hb_11 : (okP 24 p2) = true := bI_t c_11
      obtain ⟨j2, hj2, rfl⟩ := okP_of hb_11 (by decide)
      have hg_j2 : pg (nI j2) = j2 := pg_nI (by omega)
      refine lv_iconst (v := (nI 0)) hx hb dX0_swap_16 (by decide +kernel) ?_
      refine lv_istore_n (lv' := [(3, .int (nI 0)), (0, .ref h0), (1, .int (nI j1)), (2, .int (nI j2))]) hx hb dX0_swap_17 rfl hl (by decide) rfl (fun ls hl => ?_)
      refine lp_Q 18 4 (fun i18 H locs ls => lv_has ls 5 [(3, .int (nI i18)), (0, .ref h0), (1, .int (nI j1)), (2, .int (nI j2))] ∧ va_P (dC, dI) vwCl (W0 h0 qa qb cI cZ (swapN w j1 j2 i18) h) H ∧ va_D A (W0 h0 qa qb cI cZ (swapN w j1 j2 i18) h) ∧ va_S A s.heap H locs) (fun i18 H locs ls hi_18 hI hnx_18 => ?_) 0 (by omega) _ _ ls ⟨lv_sub hl [0, 1, 2, 3] rfl, hP, hD, hS⟩
      obtain ⟨hl, hP, hD, hS⟩ := hI
      refine lv_iload_n hx hb dX0_swap_18 rfl (lv_at hl 0 rfl) ?_
      refine lv_iconst (v := (nI 4)) hx hb dX0_swap_19 (by decide +kernel) ?_
      refine lv_icmp_ge (tgt := 73) hx hb dX0_swap_20 (by decide) (fun c_20 => ?_) (fun c_20 => ?_)
      · have hq_20 : 4 ≤ i18 := (nI_leI (by omega) (by omega)).mp c_20
        have hE_20 : i18 = 4 := by omega
        subst hE_20
        refine lv_aload_n hx hb dX0_swap_73 rfl (lv_at hl 1 rfl) ?_
        refine va_get (D := (dC, dI)) (ci := 0) (v := .ref qb) (C := RX0) (T := TX0) (N := 2) hx hb hts hin0 hown hK hP 0 rfl rfl 1 (by decide) hf13 (fun _ h9 => h9) rfl dX0_swap_74 ?_
        refine lv_iload_n hx hb dX0_swap_77 rfl (lv_at hl 2 rfl) ?_
        refine my_zaldP hx hb hK hP 2 1 rfl rfl (by omega) (by decide) dX0_swap_78 ?_
        refine lv_istore_n (lv' := [(3, .int (bI (h j1))), (0, .ref h0), (1, .int (nI j1)), (2, .int (nI j2))]) hx hb dX0_swap_79 rfl hl (by decide) rfl (fun ls hl => ?_)
        refine lv_aload_n hx hb dX0_swap_80 rfl (lv_at hl 1 rfl) ?_
        refine va_get (D := (dC, dI)) (ci := 0) (v := .ref qb) (C := RX0) (T := TX0) (N := 2) hx hb hts hin0 hown hK hP 0 rfl rfl 1 (by decide) hf13 (fun _ h9 => h9) rfl dX0_swap_81 ?_
        refine lv_iload_n hx hb dX0_swap_84 rfl (lv_at hl 2 rfl) ?_
        refine lv_aload_n hx hb dX0_swap_85 rfl (lv_at hl 1 rfl) ?_
        refine va_get (D := (dC, dI)) (ci := 0) (v := .ref qb) (C := RX0) (T := TX0) (N := 2) hx hb hts hin0 hown hK hP 0 rfl rfl 1 (by decide) hf13 (fun _ h9 => h9) rfl dX0_swap_86 ?_
        refine lv_iload_n hx hb dX0_swap_89 rfl (lv_at hl 3 rfl) ?_
        refine my_zaldP hx hb hK hP 2 1 rfl rfl (by omega) (by decide) dX0_swap_90 ?_
        refine my_zastP hx hb hK hP hD hS 2 1 rfl rfl (h j2) rfl (by omega) (by decide) dX0_swap_91 (fun H locs hP hD hS => ?_)
        have hP : va_P (dC, dI) vwCl (W0 h0 qa qb cI cZ (swapN w j1 j2 4) (updB h j1 (h j2))) H := hP
        have hD : va_D A (W0 h0 qa qb cI cZ (swapN w j1 j2 4) (updB h j1 (h j2))) := hD
        refine lv_aload_n hx hb dX0_swap_92 rfl (lv_at hl 1 rfl) ?_
        refine va_get (D := (dC, dI)) (ci := 0) (v := .ref qb) (C := RX0) (T := TX0) (N := 2) hx hb hts hin0 hown hK hP 0 rfl rfl 1 (by decide) hf13 (fun _ h9 => h9) rfl dX0_swap_93 ?_
        refine lv_iload_n hx hb dX0_swap_96 rfl (lv_at hl 3 rfl) ?_
        refine lv_iload_n hx hb dX0_swap_97 rfl (lv_at hl 0 rfl) ?_
        refine my_zastP hx hb hK hP hD hS 2 1 rfl rfl (h j1) rfl (by omega) (by decide) dX0_swap_98 (fun H locs hP hD hS => ?_)
        have hP : va_P (dC, dI) vwCl (W0 h0 qa qb cI cZ (swapN w j1 j2 4) (updB (updB h j1 (h j2)) j2 (h j1))) H := hP
        have hD : va_D A (W0 h0 qa qb cI cZ (swapN w j1 j2 4) (updB (updB h j1 (h j2)) j2 (h j1))) := hD
        refine lv_iconst (v := (nI 0)) hx hb dX0_swap_99 (by decide +kernel) ?_
        have eW : w_swap w (nI j1) (nI j2) = swapN w j1 j2 4 := by simp [s_two, w_swap, h_swap, hb_4, hg_j1, hb_11, hg_j2]
        have eH : h_swap h (nI j1) (nI j2) = updB (updB h j1 (h j2)) j2 (h j1) := by simp [s_two, w_swap, h_swap, hb_4, hg_j1, hb_11, hg_j2]
        have eR : (nI 0) = s_two (nI j1) (nI j2) := by simp [s_two, w_swap, h_swap, hb_4, hg_j1, hb_11, hg_j2, nI_0]
        exact W.iret (v := (nI 0)) hx hb hr (fun t ht hW => ⟨⟨_, (), rfl, eR, by rw [eW, eH, ht]; exact hP, va_K.moved hW.alike hK, by rw [eW, eH]; exact hD⟩, hS.F ht⟩) hS.2.2 dX0_swap_100
      · have hlt_18 : i18 < 4 := Nat.lt_of_not_le (fun q => c_20 ((nI_leI (by omega) (by omega)).mpr q))
        refine lv_aload_n hx hb dX0_swap_23 rfl (lv_at hl 1 rfl) ?_
        refine va_get (D := (dC, dI)) (ci := 0) (v := .ref qa) (C := RX0) (T := TX0) (N := 2) hx hb hts hin0 hown hK hP 0 rfl rfl 0 (by decide) hf9 (fun _ h9 => h9) rfl dX0_swap_24 ?_
        refine lv_iload_n hx hb dX0_swap_27 rfl (lv_at hl 2 rfl) ?_
        refine lv_iconst (v := (nI 4)) hx hb dX0_swap_28 (by decide +kernel) ?_
        refine my_mul hx hb dX0_swap_29 ?_
        refine lv_iload_n hx hb dX0_swap_30 rfl (lv_at hl 0 rfl) ?_
        refine my_add hx hb dX0_swap_31 ?_
        refine my_iald hx hb hK hP 1 0 rfl rfl (by omega) (by decide) dX0_swap_32 ?_
        refine lv_istore (lv' := [(4, .int ((swapN w j1 j2 i18) (j1 * 4 + i18))), (3, .int (nI i18)), (0, .ref h0), (1, .int (nI j1)), (2, .int (nI j2))]) hx hb dX0_swap_33 hl (by decide) rfl (fun ls hl => ?_)
        refine lv_aload_n hx hb dX0_swap_35 rfl (lv_at hl 2 rfl) ?_
        refine va_get (D := (dC, dI)) (ci := 0) (v := .ref qa) (C := RX0) (T := TX0) (N := 2) hx hb hts hin0 hown hK hP 0 rfl rfl 0 (by decide) hf9 (fun _ h9 => h9) rfl dX0_swap_36 ?_
        refine lv_iload_n hx hb dX0_swap_39 rfl (lv_at hl 3 rfl) ?_
        refine lv_iconst (v := (nI 4)) hx hb dX0_swap_40 (by decide +kernel) ?_
        refine my_mul hx hb dX0_swap_41 ?_
        refine lv_iload_n hx hb dX0_swap_42 rfl (lv_at hl 1 rfl) ?_
        refine my_add hx hb dX0_swap_43 ?_
        refine lv_aload_n hx hb dX0_swap_44 rfl (lv_at hl 2 rfl) ?_
        refine va_get (D := (dC, dI)) (ci := 0) (v := .ref qa) (C := RX0) (T := TX0) (N := 2) hx hb hts hin0 hown hK hP 0 rfl rfl 0 (by decide) hf9 (fun _ h9 => h9) rfl dX0_swap_45 ?_
        refine lv_iload_n hx hb dX0_swap_48 rfl (lv_at hl 4 rfl) ?_
        refine lv_iconst (v := (nI 4)) hx hb dX0_swap_49 (by decide +kernel) ?_
        refine my_mul hx hb dX0_swap_50 ?_
        refine lv_iload_n hx hb dX0_swap_51 rfl (lv_at hl 1 rfl) ?_
        refine my_add hx hb dX0_swap_52 ?_
        refine my_iald hx hb hK hP 1 0 rfl rfl (by omega) (by decide) dX0_swap_53 ?_
        refine my_iast hx hb hK hP hD hS 1 0 rfl rfl (by omega) (by decide) dX0_swap_54 (fun H locs hP hD hS => ?_)
        have hP : va_P (dC, dI) vwCl (W0 h0 qa qb cI cZ (upd (swapN w j1 j2 i18) (j1 * 4 + i18) ((swapN w j1 j2 i18) (j2 * 4 + i18))) h) H := hP
        have hD : va_D A (W0 h0 qa qb cI cZ (upd (swapN w j1 j2 i18) (j1 * 4 + i18) ((swapN w j1 j2 i18) (j2 * 4 + i18))) h) := hD
        refine lv_aload_n hx hb dX0_swap_55 rfl (lv_at hl 2 rfl) ?_
        refine va_get (D := (dC, dI)) (ci := 0) (v := .ref qa) (C := RX0) (T := TX0) (N := 2) hx hb hts hin0 hown hK hP 0 rfl rfl 0 (by decide) hf9 (fun _ h9 => h9) rfl dX0_swap_56 ?_
        refine lv_iload_n hx hb dX0_swap_59 rfl (lv_at hl 4 rfl) ?_
        refine lv_iconst (v := (nI 4)) hx hb dX0_swap_60 (by decide +kernel) ?_
        refine my_mul hx hb dX0_swap_61 ?_
        refine lv_iload_n hx hb dX0_swap_62 rfl (lv_at hl 1 rfl) ?_
        refine my_add hx hb dX0_swap_63 ?_
        refine lv_iload hx hb dX0_swap_64 (lv_at hl 0 rfl) ?_
        refine my_iast hx hb hK hP hD hS 1 0 rfl rfl (by omega) (by decide) dX0_swap_66 (fun H locs hP hD hS => ?_)
        have hP : va_P (dC, dI) vwCl (W0 h0 qa qb cI cZ (upd (upd (swapN w j1 j2 i18) (j1 * 4 + i18) ((swapN w j1 j2 i18) (j2 * 4 + i18))) (j2 * 4 + i18) ((swapN w j1 j2 i18) (j1 * 4 + i18))) h) H := hP
        have hD : va_D A (W0 h0 qa qb cI cZ (upd (upd (swapN w j1 j2 i18) (j1 * 4 + i18) ((swapN w j1 j2 i18) (j2 * 4 + i18))) (j2 * 4 + i18) ((swapN w j1 j2 i18) (j1 * 4 + i18))) h) := hD
        refine lv_iinc (v := (nI (i18 + 1))) (lv' := [(3, .int (nI (i18 + 1))), (4, .int ((swapN w j1 j2 i18) (j1 * 4 + i18))), (0, .ref h0), (1, .int (nI j1)), (2, .int (nI j2))]) hx hb dX0_swap_67 hl (k := 1) rfl (nI_1 _) (by decide) rfl (fun ls hl => ?_)
        refine lv_goto (tgt := 18) hx hb dX0_swap_70 (by decide) ?_
        exact hnx_18 hlt_18 _ _ ls ⟨lv_sub hl [0, 2, 3, 4] rfl, hP, hD, hS⟩
    · have hb_11 : (okP 24 p2) = false := bI_f c_11
      refine lv_iconst (v := (-1)) hx hb dX0_swap_14 (by decide +kernel) ?_
      have eW : w_swap w (nI j1) p2 = w := by simp [s_two, w_swap, h_swap, hb_4, hg_j1, hb_11]
      have eH : h_swap h (nI j1) p2 = h := by simp [s_two, w_swap, h_swap, hb_4, hg_j1, hb_11]
      have eR : (-1) = s_two (nI j1) p2 := by simp [s_two, w_swap, h_swap, hb_4, hg_j1, hb_11, nI_0]
      exact W.iret (v := (-1)) hx hb hr (fun t ht hW => ⟨⟨_, (), rfl, eR, by rw [eW, eH, ht]; exact hP, va_K.moved hW.alike hK, by rw [eW, eH]; exact hD⟩, hS.F ht⟩) hS.2.2 dX0_swap_15
set_option maxHeartbeats 4000000 in
set_option maxRecDepth 100000 in
theorem k0_release (l : Launch) (dC : Nat → ClassId) (dI : Nat → Nat → Nat) (h0 qa qb : Nat) (cI cZ : ClassId) (sz : Nat) (w : Nat → Int32) (h : Nat → Bool) (p1 : Int32)  : Met l yX0_release wsX0_release ({ frames := 1, cells := 0, slots := 0, locals := 23 }) (va_Pc [.ref h0, .int (p1)] (fun U => U.heap.size = sz ∧ va_P (dC, dI) vwCl (W0 h0 qa qb cI cZ w h) U.heap ∧ va_K (dC, dI) vwCl (TY cI cZ) U ∧ va_D (fun _ => True) (W0 h0 qa qb cI cZ w h))) (va_Qi (fun r (_ : Unit) => r = s_rel h p1) (fun _ t => va_P (dC, dI) vwCl (W0 h0 qa qb cI cZ (w_rel w h p1) (h_rel h p1)) t.heap ∧ va_K (dC, dI) vwCl (TY cI cZ) t ∧ va_D (va_A (W0 h0 qa qb cI cZ w h) sz) (W0 h0 qa qb cI cZ (w_rel w h p1) (h_rel h p1))) (va_A (W0 h0 qa qb cI cZ w h) sz)) 0 0 (va_A (W0 h0 qa qb cI cZ w h) sz) := by
  refine Met.ofW (cc := cX0_release) (maxL := 2) (ret := (some .int)) (by decide) rfl ?_
  intro p e s m args below meth c s₁ B hml hv
  obtain ⟨rfl, hsz, hP, hK, hD0⟩ := hv
  have hx := B.exec
  have hb := B.bytes
  have hr := B.returns
  have hlocks := B.notSynchronized
  have hts := atoms_spec (ws := wsX0_release) B.pre
  have hown : s.vm.findClass RX0 = some m.cls := findClass_of_methodNamed B.named
  have hin0 : ∀ w ∈ wsX00, w ∈ wsX0_release := by decide +kernel
  have hf13 := hts (.fieldLink RX0 13 "PageMerger" "heldPages" "[Z") (by decide +kernel)
  subst hsz
  have hD := hD0.self (sz := s.heap.size)
  generalize hAe : va_A (W0 h0 qa qb cI cZ w h) s.heap.size = A at hD ⊢
  have hA : ∀ q : Nat, s.heap.size ≤ q → A q := fun q h => by rw [← hAe]; exact Or.inr h
  have hS : va_S A s.heap s.heap [] := va_S.rf
  have hl := lv_entry ([.ref h0, .int (p1)]) (n := 2) (Nat.le_of_ble_eq_true rfl)
  rw [lg_entry_eq]
  generalize (lg_sl ([.ref h0, .int (p1)]) ++ List.replicate (2 - (lg_sl ([.ref h0, .int (p1)])).length) Slot.unset).toArray = ls at hl ⊢
  have hl : lv_has ls 2 [(0, .ref h0), (1, .int (p1))] := hl
  refine lv_iload_n hx hb dX0_release_0 rfl (lv_at hl 1 rfl) ?_
  refine vp_callSi (va_Run.run (va_runS (As := [.int (p1)]) (rest := []) ⟨hx, hb, hml, hown, hts⟩ (k0_isPage l p1) (va_cwS 1 hts gX0_release_X0_isPage rfl rfl rfl (by decide +kernel) ⟨Nat.le_of_ble_eq_true rfl, Nat.le_of_ble_eq_true rfl⟩) ⟨bl_T, fun U hU hW => ⟨rfl, trivial⟩⟩ rfl rfl hl.1 rfl (lv_room (Nat.le_of_ble_eq_true rfl)) dX0_release_1 ⟨Nat.zero_le _, Nat.zero_le _⟩)) (fun r_1 hr_1 => ?_)
  obtain rfl : r_1 = (bI (okP 24 p1)) := hr_1
  refine lv_if_ne (tgt := 9) hx hb dX0_release_4 (by decide) (fun c_4 => ?_) (fun c_4 => ?_)
  · have hb_4 : (okP 24 p1) = true := bI_t c_4
    obtain ⟨j1, hj1, rfl⟩ := okP_of hb_4 (by decide)
    have hg_j1 : pg (nI j1) = j1 := pg_nI (by omega)
    refine lv_aload_n hx hb dX0_release_9 rfl (lv_at hl 0 rfl) ?_
    refine va_get (D := (dC, dI)) (ci := 0) (v := .ref qb) (C := RX0) (T := TX0) (N := 2) hx hb hts hin0 hown hK hP 0 rfl rfl 1 (by decide) hf13 (fun _ h9 => h9) rfl dX0_release_10 ?_
    refine lv_iload_n hx hb dX0_release_13 rfl (lv_at hl 1 rfl) ?_
    refine my_zaldP hx hb hK hP 2 1 rfl rfl (by omega) (by decide) dX0_release_14 ?_
    refine lv_if_ne (tgt := 21) hx hb dX0_release_15 (by decide) (fun c_15 => ?_) (fun c_15 => ?_)
    · have hb_15 : (h j1) = true := bI_t c_15
      refine lv_aload_n hx hb dX0_release_21 rfl (lv_at hl 0 rfl) ?_
      refine lv_iload_n hx hb dX0_release_22 rfl (lv_at hl 1 rfl) ?_
      refine lv_iconst (v := (nI 0)) hx hb dX0_release_23 (by decide +kernel) ?_
      have hFc := va_free (wc := W0 h0 qa qb cI cZ w h) hD hS hA [0, 1, 2] rfl
      refine va_callv (va_runV (As := [.int (nI j1), .int (nI 0)]) (rest := []) ⟨hx, hb, hml, hown, hts⟩ (k0_setAllWords l dC dI h0 qa qb cI cZ s.heap.size w h j1 (nI 0) (by omega)) (cwV 2 hts gX0_release_X0_setAllWords rfl rfl rfl (by decide +kernel) ⟨Nat.le_of_ble_eq_true rfl, Nat.le_of_ble_eq_true rfl⟩) ⟨bl_Q, va_recv hK hP (ci := 0) (q0 := 0) rfl rfl, fun U hU hW => ⟨rfl, by rw [hU], by rw [hU]; exact hP, va_K.moved hW.alike hK, hD.weaken (fun _ _ _ _ => trivial)⟩⟩ rfl rfl hl.1 rfl (lv_room (Nat.le_of_ble_eq_true rfl)) dX0_release_24 ⟨Nat.zero_le _, Nat.zero_le _⟩) hS (fun q _ h9 => hFc q h9) hFc (fun u t H1 locs ht hvm hw hB hz1 hk1 hS => ?_)
      obtain ⟨hP1, hK1, hD1⟩ := hB
      rw [ht] at hP1
      obtain ⟨hP, hD⟩ := va_join (wr := []) (w1 := W0 h0 qa qb cI cZ (fillN w j1 (nI 0) 4) h) hP hD [0, 1, 2] [] rfl rfl (by decide) (by decide) hk1 hFc hP1 hD1
      generalize H1 = H at hP hS ⊢
      have hP : va_P (dC, dI) vwCl (W0 h0 qa qb cI cZ (fillN w j1 (nI 0) 4) h) H := hP
      have hD : va_D A (W0 h0 qa qb cI cZ (fillN w j1 (nI 0) 4) h) := hD
      refine lv_aload_n hx hb dX0_release_27 rfl (lv_at hl 0 rfl) ?_
      refine va_get (D := (dC, dI)) (ci := 0) (v := .ref qb) (C := RX0) (T := TX0) (N := 2) hx hb hts hin0 hown hK hP 0 rfl rfl 1 (by decide) hf13 (fun _ h9 => h9) rfl dX0_release_28 ?_
      refine lv_iload_n hx hb dX0_release_31 rfl (lv_at hl 1 rfl) ?_
      refine lv_iconst (v := (nI 0)) hx hb dX0_release_32 (by decide +kernel) ?_
      refine my_zastP hx hb hK hP hD hS 2 1 rfl rfl false bI_0 (by omega) (by decide) dX0_release_33 (fun H locs hP hD hS => ?_)
      have hP : va_P (dC, dI) vwCl (W0 h0 qa qb cI cZ (fillN w j1 (nI 0) 4) (updB h j1 false)) H := hP
      have hD : va_D A (W0 h0 qa qb cI cZ (fillN w j1 (nI 0) 4) (updB h j1 false)) := hD
      refine lv_iconst (v := (nI 0)) hx hb dX0_release_34 (by decide +kernel) ?_
      have eW : w_rel w h (nI j1) = fillN w j1 (nI 0) 4 := by simp [s_rel, w_rel, h_rel, hb_4, hg_j1, hb_15]
      have eH : h_rel h (nI j1) = updB h j1 false := by simp [s_rel, w_rel, h_rel, hb_4, hg_j1, hb_15]
      have eR : (nI 0) = s_rel h (nI j1) := by simp [s_rel, w_rel, h_rel, hb_4, hg_j1, hb_15, nI_0]
      exact W.iret (v := (nI 0)) hx hb hr (fun t ht hW => ⟨⟨_, (), rfl, eR, by rw [eW, eH, ht]; exact hP, va_K.moved hW.alike hK, by rw [eW, eH]; exact hD⟩, hS.F ht⟩) hS.2.2 dX0_release_35
    · have hb_15 : (h j1) = false := bI_f c_15
      refine lv_bipush (v := (-3)) hx hb dX0_release_18 (by decide +kernel) ?_
      have eW : w_rel w h (nI j1) = w := by simp [s_rel, w_rel, h_rel, hb_4, hg_j1, hb_15]
      have eH : h_rel h (nI j1) = h := by simp [s_rel, w_rel, h_rel, hb_4, hg_j1, hb_15]
      have eR : (-3) = s_rel h (nI j1) := by simp [s_rel, w_rel, h_rel, hb_4, hg_j1, hb_15, nI_0]
      exact W.iret (v := (-3)) hx hb hr (fun t ht hW => ⟨⟨_, (), rfl, eR, by rw [eW, eH, ht]; exact hP, va_K.moved hW.alike hK, by rw [eW, eH]; exact hD⟩, hS.F ht⟩) hS.2.2 dX0_release_20
  · have hb_4 : (okP 24 p1) = false := bI_f c_4
    refine lv_iconst (v := (-1)) hx hb dX0_release_7 (by decide +kernel) ?_
    have eW : w_rel w h p1 = w := by simp [s_rel, w_rel, h_rel, hb_4]
    have eH : h_rel h p1 = h := by simp [s_rel, w_rel, h_rel, hb_4]
    have eR : (-1) = s_rel h p1 := by simp [s_rel, w_rel, h_rel, hb_4, nI_0]
    exact W.iret (v := (-1)) hx hb hr (fun t ht hW => ⟨⟨_, (), rfl, eR, by rw [eW, eH, ht]; exact hP, va_K.moved hW.alike hK, by rw [eW, eH]; exact hD⟩, hS.F ht⟩) hS.2.2 dX0_release_8
set_option maxHeartbeats 4000000 in
set_option maxRecDepth 100000 in
theorem k0_read (l : Launch) (dC : Nat → ClassId) (dI : Nat → Nat → Nat) (h0 qa qb : Nat) (cI cZ : ClassId) (w : Nat → Int32) (h : Nat → Bool) (p1 : Int32) (p2 : Int32)  : Met l yX0_read wsX0_read ({ frames := 1, cells := 0, slots := 0, locals := 20 }) (va_Pc [.ref h0, .int (p1), .int (p2)] (fun U => va_P (dC, dI) vwCl (W0 h0 qa qb cI cZ w h) U.heap ∧ va_K (dC, dI) vwCl (TY cI cZ) U)) (vp_Si (fun r => r = s_read w p1 p2)) 0 0 (fun _ => False) := by
  refine Met.ofW (cc := cX0_read) (maxL := 3) (ret := (some .int)) (by decide) rfl ?_
  intro p e s m args below meth c s₁ B hml hv
  obtain ⟨rfl, hP, hK⟩ := hv
  have hx := B.exec
  have hb := B.bytes
  have hr := B.returns
  have hlocks := B.notSynchronized
  have hts := atoms_spec (ws := wsX0_read) B.pre
  have hown : s.vm.findClass RX0 = some m.cls := findClass_of_methodNamed B.named
  have hin0 : ∀ w ∈ wsX00, w ∈ wsX0_read := by decide +kernel
  have hf9 := hts (.fieldLink RX0 9 "PageMerger" "words" "[I") (by decide +kernel)
  have hl := lv_entry ([.ref h0, .int (p1), .int (p2)]) (n := 3) (Nat.le_of_ble_eq_true rfl)
  rw [lg_entry_eq]
  generalize (lg_sl ([.ref h0, .int (p1), .int (p2)]) ++ List.replicate (3 - (lg_sl ([.ref h0, .int (p1), .int (p2)])).length) Slot.unset).toArray = ls at hl ⊢
  have hl : lv_has ls 3 [(0, .ref h0), (1, .int (p1)), (2, .int (p2))] := hl
  refine lv_iload_n hx hb dX0_read_0 rfl (lv_at hl 1 rfl) ?_
  refine vp_callSi (va_Run.run (va_runS (As := [.int (p1)]) (rest := []) ⟨hx, hb, hml, hown, hts⟩ (k0_isPage l p1) (va_cwS 1 hts gX0_read_X0_isPage rfl rfl rfl (by decide +kernel) ⟨Nat.le_of_ble_eq_true rfl, Nat.le_of_ble_eq_true rfl⟩) ⟨bl_T, fun U hU hW => ⟨rfl, trivial⟩⟩ rfl rfl hl.1 rfl (lv_room (Nat.le_of_ble_eq_true rfl)) dX0_read_1 ⟨Nat.zero_le _, Nat.zero_le _⟩)) (fun r_1 hr_1 => ?_)
  obtain rfl : r_1 = (bI (okP 24 p1)) := hr_1
  refine lv_if_ne (tgt := 9) hx hb dX0_read_4 (by decide) (fun c_4 => ?_) (fun c_4 => ?_)
  · have hb_4 : (okP 24 p1) = true := bI_t c_4
    obtain ⟨j1, hj1, rfl⟩ := okP_of hb_4 (by decide)
    have hg_j1 : pg (nI j1) = j1 := pg_nI (by omega)
    refine lv_iload_n hx hb dX0_read_9 rfl (lv_at hl 2 rfl) ?_
    refine vp_callSi (va_Run.run (va_runS (As := [.int (p2)]) (rest := []) ⟨hx, hb, hml, hown, hts⟩ (k0_isWord l p2) (va_cwS 1 hts gX0_read_X0_isWord rfl rfl rfl (by decide +kernel) ⟨Nat.le_of_ble_eq_true rfl, Nat.le_of_ble_eq_true rfl⟩) ⟨bl_T, fun U hU hW => ⟨rfl, trivial⟩⟩ rfl rfl hl.1 rfl (lv_room (Nat.le_of_ble_eq_true rfl)) dX0_read_10 ⟨Nat.zero_le _, Nat.zero_le _⟩)) (fun r_10 hr_10 => ?_)
    obtain rfl : r_10 = (bI (okP 4 p2)) := hr_10
    refine lv_if_ne (tgt := 19) hx hb dX0_read_13 (by decide) (fun c_13 => ?_) (fun c_13 => ?_)
    · have hb_13 : (okP 4 p2) = true := bI_t c_13
      obtain ⟨j2, hj2, rfl⟩ := okP_of hb_13 (by decide)
      have hg_j2 : pg (nI j2) = j2 := pg_nI (by omega)
      refine lv_aload_n hx hb dX0_read_19 rfl (lv_at hl 0 rfl) ?_
      refine va_get (D := (dC, dI)) (ci := 0) (v := .ref qa) (C := RX0) (T := TX0) (N := 2) hx hb hts hin0 hown hK hP 0 rfl rfl 0 (by decide) hf9 (fun _ h9 => h9) rfl dX0_read_20 ?_
      refine lv_iload_n hx hb dX0_read_23 rfl (lv_at hl 1 rfl) ?_
      refine lv_iconst (v := (nI 4)) hx hb dX0_read_24 (by decide +kernel) ?_
      refine my_mul hx hb dX0_read_25 ?_
      refine lv_iload_n hx hb dX0_read_26 rfl (lv_at hl 2 rfl) ?_
      refine my_add hx hb dX0_read_27 ?_
      refine my_iald hx hb hK hP 1 0 rfl rfl (by omega) (by decide) dX0_read_28 ?_
      have eR : (w (j1 * 4 + j2)) = s_read w (nI j1) (nI j2) := by simp [s_read, hb_4, hg_j1, hb_13, hg_j2]
      exact W.iret (v := (w (j1 * 4 + j2))) hx hb hr (fun t ht hW => ⟨_, rfl, eR, ht⟩) (fun q h9 => absurd h9 List.not_mem_nil) dX0_read_29
    · have hb_13 : (okP 4 p2) = false := bI_f c_13
      refine lv_bipush (v := (-2)) hx hb dX0_read_16 (by decide +kernel) ?_
      have eR : (-2) = s_read w (nI j1) p2 := by simp [s_read, hb_4, hg_j1, hb_13]
      exact W.iret (v := (-2)) hx hb hr (fun t ht hW => ⟨_, rfl, eR, ht⟩) (fun q h9 => absurd h9 List.not_mem_nil) dX0_read_18
  · have hb_4 : (okP 24 p1) = false := bI_f c_4
    refine lv_iconst (v := (-1)) hx hb dX0_read_7 (by decide +kernel) ?_
    have eR : (-1) = s_read w p1 p2 := by simp [s_read, hb_4]
    exact W.iret (v := (-1)) hx hb hr (fun t ht hW => ⟨_, rfl, eR, ht⟩) (fun q h9 => absurd h9 List.not_mem_nil) dX0_read_8
set_option maxHeartbeats 4000000 in
set_option maxRecDepth 100000 in
theorem k0_held (l : Launch) (dC : Nat → ClassId) (dI : Nat → Nat → Nat) (h0 qa qb : Nat) (cI cZ : ClassId) (w : Nat → Int32) (h : Nat → Bool) (p1 : Int32)  : Met l yX0_held wsX0_held ({ frames := 1, cells := 0, slots := 0, locals := 20 }) (va_Pc [.ref h0, .int (p1)] (fun U => va_P (dC, dI) vwCl (W0 h0 qa qb cI cZ w h) U.heap ∧ va_K (dC, dI) vwCl (TY cI cZ) U)) (vp_Si (fun r => r = bI (b_held h p1))) 0 0 (fun _ => False) := by
  refine Met.ofW (cc := cX0_held) (maxL := 2) (ret := (some .boolean)) (by decide) rfl ?_
  intro p e s m args below meth c s₁ B hml hv
  obtain ⟨rfl, hP, hK⟩ := hv
  have hx := B.exec
  have hb := B.bytes
  have hr := B.returns
  have hlocks := B.notSynchronized
  have hts := atoms_spec (ws := wsX0_held) B.pre
  have hown : s.vm.findClass RX0 = some m.cls := findClass_of_methodNamed B.named
  have hin0 : ∀ w ∈ wsX00, w ∈ wsX0_held := by decide +kernel
  have hf13 := hts (.fieldLink RX0 13 "PageMerger" "heldPages" "[Z") (by decide +kernel)
  have hl := lv_entry ([.ref h0, .int (p1)]) (n := 2) (Nat.le_of_ble_eq_true rfl)
  rw [lg_entry_eq]
  generalize (lg_sl ([.ref h0, .int (p1)]) ++ List.replicate (2 - (lg_sl ([.ref h0, .int (p1)])).length) Slot.unset).toArray = ls at hl ⊢
  have hl : lv_has ls 2 [(0, .ref h0), (1, .int (p1))] := hl
  refine lv_iload_n hx hb dX0_held_0 rfl (lv_at hl 1 rfl) ?_
  refine vp_callSi (va_Run.run (va_runS (As := [.int (p1)]) (rest := []) ⟨hx, hb, hml, hown, hts⟩ (k0_isPage l p1) (va_cwS 1 hts gX0_held_X0_isPage rfl rfl rfl (by decide +kernel) ⟨Nat.le_of_ble_eq_true rfl, Nat.le_of_ble_eq_true rfl⟩) ⟨bl_T, fun U hU hW => ⟨rfl, trivial⟩⟩ rfl rfl hl.1 rfl (lv_room (Nat.le_of_ble_eq_true rfl)) dX0_held_1 ⟨Nat.zero_le _, Nat.zero_le _⟩)) (fun r_1 hr_1 => ?_)
  obtain rfl : r_1 = (bI (okP 24 p1)) := hr_1
  refine lv_if_eq (tgt := 20) hx hb dX0_held_4 (by decide) (fun c_4 => ?_) (fun c_4 => ?_)
  · have hb_4 : (okP 24 p1) = false := bI_f c_4
    refine lv_iconst (v := (nI 0)) hx hb dX0_held_20 (by decide +kernel) ?_
    have eR : (nI 0) = bI (b_held h p1) := by simp [b_held, hb_4, bI_1, bI_0]
    exact W.zret (v := (nI 0)) hx hb hr (by decide +kernel) (fun t ht hW => ⟨_, rfl, eR, ht⟩) (fun q h9 => absurd h9 List.not_mem_nil) dX0_held_21
  · have hb_4 : (okP 24 p1) = true := bI_t c_4
    obtain ⟨j1, hj1, rfl⟩ := okP_of hb_4 (by decide)
    have hg_j1 : pg (nI j1) = j1 := pg_nI (by omega)
    refine lv_aload_n hx hb dX0_held_7 rfl (lv_at hl 0 rfl) ?_
    refine va_get (D := (dC, dI)) (ci := 0) (v := .ref qb) (C := RX0) (T := TX0) (N := 2) hx hb hts hin0 hown hK hP 0 rfl rfl 1 (by decide) hf13 (fun _ h9 => h9) rfl dX0_held_8 ?_
    refine lv_iload_n hx hb dX0_held_11 rfl (lv_at hl 1 rfl) ?_
    refine my_zaldP hx hb hK hP 2 1 rfl rfl (by omega) (by decide) dX0_held_12 ?_
    refine lv_if_eq (tgt := 20) hx hb dX0_held_13 (by decide) (fun c_13 => ?_) (fun c_13 => ?_)
    · have hb_13 : (h j1) = false := bI_f c_13
      refine lv_iconst (v := (nI 0)) hx hb dX0_held_20 (by decide +kernel) ?_
      have eR : (nI 0) = bI (b_held h (nI j1)) := by simp [b_held, hb_4, hg_j1, hb_13, bI_1, bI_0]
      exact W.zret (v := (nI 0)) hx hb hr (by decide +kernel) (fun t ht hW => ⟨_, rfl, eR, ht⟩) (fun q h9 => absurd h9 List.not_mem_nil) dX0_held_21
    · have hb_13 : (h j1) = true := bI_t c_13
      refine lv_iconst (v := (nI 1)) hx hb dX0_held_16 (by decide +kernel) ?_
      refine lv_goto (tgt := 21) hx hb dX0_held_17 (by decide) ?_
      have eR : (nI 1) = bI (b_held h (nI j1)) := by simp [b_held, hb_4, hg_j1, hb_13, bI_1, bI_0]
      exact W.zret (v := (nI 1)) hx hb hr (by decide +kernel) (fun t ht hW => ⟨_, rfl, eR, ht⟩) (fun q h9 => absurd h9 List.not_mem_nil) dX0_held_21
set_option maxHeartbeats 4000000 in
set_option maxRecDepth 100000 in
theorem k0_same (l : Launch) (dC : Nat → ClassId) (dI : Nat → Nat → Nat) (h0 qa qb : Nat) (cI cZ : ClassId) (w : Nat → Int32) (h : Nat → Bool) (p1 : Int32) (p2 : Int32)  : Met l yX0_same wsX0_same ({ frames := 1, cells := 0, slots := 0, locals := 23 }) (va_Pc [.ref h0, .int (p1), .int (p2)] (fun U => va_P (dC, dI) vwCl (W0 h0 qa qb cI cZ w h) U.heap ∧ va_K (dC, dI) vwCl (TY cI cZ) U)) (vp_Si (fun r => r = bI (b_same w p1 p2))) 0 0 (fun _ => False) := by
  refine Met.ofW (cc := cX0_same) (maxL := 3) (ret := (some .boolean)) (by decide) rfl ?_
  intro p e s m args below meth c s₁ B hml hv
  obtain ⟨rfl, hP, hK⟩ := hv
  have hx := B.exec
  have hb := B.bytes
  have hr := B.returns
  have hlocks := B.notSynchronized
  have hts := atoms_spec (ws := wsX0_same) B.pre
  have hown : s.vm.findClass RX0 = some m.cls := findClass_of_methodNamed B.named
  have hl := lv_entry ([.ref h0, .int (p1), .int (p2)]) (n := 3) (Nat.le_of_ble_eq_true rfl)
  rw [lg_entry_eq]
  generalize (lg_sl ([.ref h0, .int (p1), .int (p2)]) ++ List.replicate (3 - (lg_sl ([.ref h0, .int (p1), .int (p2)])).length) Slot.unset).toArray = ls at hl ⊢
  have hl : lv_has ls 3 [(0, .ref h0), (1, .int (p1)), (2, .int (p2))] := hl
  refine lv_iload_n hx hb dX0_same_0 rfl (lv_at hl 1 rfl) ?_
  refine vp_callSi (va_Run.run (va_runS (As := [.int (p1)]) (rest := []) ⟨hx, hb, hml, hown, hts⟩ (k0_isPage l p1) (va_cwS 1 hts gX0_same_X0_isPage rfl rfl rfl (by decide +kernel) ⟨Nat.le_of_ble_eq_true rfl, Nat.le_of_ble_eq_true rfl⟩) ⟨bl_T, fun U hU hW => ⟨rfl, trivial⟩⟩ rfl rfl hl.1 rfl (lv_room (Nat.le_of_ble_eq_true rfl)) dX0_same_1 ⟨Nat.zero_le _, Nat.zero_le _⟩)) (fun r_1 hr_1 => ?_)
  obtain rfl : r_1 = (bI (okP 24 p1)) := hr_1
  refine lv_if_eq (tgt := 27) hx hb dX0_same_4 (by decide) (fun c_4 => ?_) (fun c_4 => ?_)
  · have hb_4 : (okP 24 p1) = false := bI_f c_4
    refine lv_iconst (v := (nI 0)) hx hb dX0_same_27 (by decide +kernel) ?_
    have eR : (nI 0) = bI (b_same w p1 p2) := by simp [b_same, hb_4, bI_1, bI_0]
    exact W.zret (v := (nI 0)) hx hb hr (by decide +kernel) (fun t ht hW => ⟨_, rfl, eR, ht⟩) (fun q h9 => absurd h9 List.not_mem_nil) dX0_same_28
  · have hb_4 : (okP 24 p1) = true := bI_t c_4
    obtain ⟨j1, hj1, rfl⟩ := okP_of hb_4 (by decide)
    have hg_j1 : pg (nI j1) = j1 := pg_nI (by omega)
    refine lv_iload_n hx hb dX0_same_7 rfl (lv_at hl 2 rfl) ?_
    refine vp_callSi (va_Run.run (va_runS (As := [.int (p2)]) (rest := []) ⟨hx, hb, hml, hown, hts⟩ (k0_isPage l p2) (va_cwS 1 hts gX0_same_X0_isPage rfl rfl rfl (by decide +kernel) ⟨Nat.le_of_ble_eq_true rfl, Nat.le_of_ble_eq_true rfl⟩) ⟨bl_T, fun U hU hW => ⟨rfl, trivial⟩⟩ rfl rfl hl.1 rfl (lv_room (Nat.le_of_ble_eq_true rfl)) dX0_same_8 ⟨Nat.zero_le _, Nat.zero_le _⟩)) (fun r_8 hr_8 => ?_)
    obtain rfl : r_8 = (bI (okP 24 p2)) := hr_8
    refine lv_if_eq (tgt := 27) hx hb dX0_same_11 (by decide) (fun c_11 => ?_) (fun c_11 => ?_)
    · have hb_11 : (okP 24 p2) = false := bI_f c_11
      refine lv_iconst (v := (nI 0)) hx hb dX0_same_27 (by decide +kernel) ?_
      have eR : (nI 0) = bI (b_same w (nI j1) p2) := by simp [b_same, hb_4, hg_j1, hb_11, bI_1, bI_0]
      exact W.zret (v := (nI 0)) hx hb hr (by decide +kernel) (fun t ht hW => ⟨_, rfl, eR, ht⟩) (fun q h9 => absurd h9 List.not_mem_nil) dX0_same_28
    · have hb_11 : (okP 24 p2) = true := bI_t c_11
      obtain ⟨j2, hj2, rfl⟩ := okP_of hb_11 (by decide)
      have hg_j2 : pg (nI j2) = j2 := pg_nI (by omega)
      refine lv_aload_n hx hb dX0_same_14 rfl (lv_at hl 0 rfl) ?_
      refine lv_iload_n hx hb dX0_same_15 rfl (lv_at hl 1 rfl) ?_
      refine lv_iload_n hx hb dX0_same_16 rfl (lv_at hl 2 rfl) ?_
      refine vp_callSi (va_Run.run (va_runV (As := [.int (nI j1), .int (nI j2)]) (rest := []) ⟨hx, hb, hml, hown, hts⟩ (k0_haveSameWords l dC dI h0 qa qb cI cZ w h j1 j2 (by omega) (by omega)) (cwV 2 hts gX0_same_X0_haveSameWords rfl rfl rfl (by decide +kernel) ⟨Nat.le_of_ble_eq_true rfl, Nat.le_of_ble_eq_true rfl⟩) ⟨bl_P, va_recv hK hP (ci := 0) (q0 := 0) rfl rfl, fun U hU hW => ⟨rfl, by rw [hU]; exact hP, va_K.moved hW.alike hK⟩⟩ rfl rfl hl.1 rfl (lv_room (Nat.le_of_ble_eq_true rfl)) dX0_same_17 ⟨Nat.zero_le _, Nat.zero_le _⟩)) (fun r_17 hr_17 => ?_)
      obtain rfl : r_17 = (bI (sm w j1 j2)) := hr_17
      refine lv_if_eq (tgt := 27) hx hb dX0_same_20 (by decide) (fun c_20 => ?_) (fun c_20 => ?_)
      · have hb_20 : (sm w j1 j2) = false := bI_f c_20
        refine lv_iconst (v := (nI 0)) hx hb dX0_same_27 (by decide +kernel) ?_
        have eR : (nI 0) = bI (b_same w (nI j1) (nI j2)) := by simp [b_same, hb_4, hg_j1, hb_11, hg_j2, hb_20, bI_1, bI_0]
        exact W.zret (v := (nI 0)) hx hb hr (by decide +kernel) (fun t ht hW => ⟨_, rfl, eR, ht⟩) (fun q h9 => absurd h9 List.not_mem_nil) dX0_same_28
      · have hb_20 : (sm w j1 j2) = true := bI_t c_20
        refine lv_iconst (v := (nI 1)) hx hb dX0_same_23 (by decide +kernel) ?_
        refine lv_goto (tgt := 28) hx hb dX0_same_24 (by decide) ?_
        have eR : (nI 1) = bI (b_same w (nI j1) (nI j2)) := by simp [b_same, hb_4, hg_j1, hb_11, hg_j2, hb_20, bI_1, bI_0]
        exact W.zret (v := (nI 1)) hx hb hr (by decide +kernel) (fun t ht hW => ⟨_, rfl, eR, ht⟩) (fun q h9 => absurd h9 List.not_mem_nil) dX0_same_28
set_option maxHeartbeats 4000000 in
set_option maxRecDepth 100000 in
theorem k0_scan (l : Launch) (h0 : Nat) (p1 : Int32) : Met l yX0_scan wsX0_scan ({ frames := 0, cells := 0, slots := 0, locals := 0 }) (va_Pc [.ref h0, .int p1] (fun _ => True)) (va_Sv (fun _ => True)) 0 0 (fun _ => False) := by
  refine Met.ofW (cc := cX0_scan) (maxL := 2) (ret := none) (by decide) rfl ?_
  intro p e s m args below meth c s₁ B hml hv
  obtain ⟨rfl, -⟩ := hv
  have hx := B.exec
  have hb := B.bytes
  have hr := B.returns
  have hlocks := B.notSynchronized
  rw [lg_entry_eq]
  exact W.vret hx hb hr (fun t ht hW => ⟨rfl, trivial, ht⟩) (fun q h9 => absurd h9 List.not_mem_nil) dX0_scan_0
end
section
set_option maxHeartbeats 4000000 in
set_option maxRecDepth 100000 in
theorem k0_contents (l : Launch) (dC : Nat → ClassId) (dI : Nat → Nat → Nat) (h0 qa qb : Nat) (cI cZ : ClassId) (w : Nat → Int32) (h : Nat → Bool)   : Met l yX0_contents wsX0_contents ({ frames := 2, cells := 0, slots := 0, locals := 45 }) (va_Pc [.ref h0] (fun U => va_P (dC, dI) vwCl (W0 h0 qa qb cI cZ w h) U.heap ∧ va_K (dC, dI) vwCl (TY cI cZ) U)) (vp_Si (fun r => r = cnt (f_con w h) 24)) 0 0 (fun _ => False) := by
  refine Met.ofW (cc := cX0_contents) (maxL := 3) (ret := (some .int)) (by decide) rfl ?_
  intro p e s m args below meth c s₁ B hml hv
  obtain ⟨rfl, hP, hK⟩ := hv
  have hx := B.exec
  have hb := B.bytes
  have hr := B.returns
  have hlocks := B.notSynchronized
  have hts := atoms_spec (ws := wsX0_contents) B.pre
  have hown : s.vm.findClass RX0 = some m.cls := findClass_of_methodNamed B.named
  have hin0 : ∀ w ∈ wsX00, w ∈ wsX0_contents := by decide +kernel
  have hf13 := hts (.fieldLink RX0 13 "PageMerger" "heldPages" "[Z") (by decide +kernel)
  have hl := lv_entry ([.ref h0]) (n := 3) (Nat.le_of_ble_eq_true rfl)
  rw [lg_entry_eq]
  generalize (lg_sl ([.ref h0]) ++ List.replicate (3 - (lg_sl ([.ref h0])).length) Slot.unset).toArray = ls at hl ⊢
  have hl : lv_has ls 3 [(0, .ref h0)] := hl
  refine lv_iconst (v := (nI 0)) hx hb dX0_contents_0 (by decide +kernel) ?_
  refine lv_istore_n (lv' := [(1, .int (nI 0)), (0, .ref h0)]) hx hb dX0_contents_1 rfl hl (by decide) rfl (fun ls hl => ?_)
  refine lv_iconst (v := (nI 0)) hx hb dX0_contents_2 (by decide +kernel) ?_
  refine lv_istore_n (lv' := [(2, .int (nI 0)), (1, .int (nI 0)), (0, .ref h0)]) hx hb dX0_contents_3 rfl hl (by decide) rfl (fun ls hl => ?_)
  refine lp_P 4 24 (fun i4 ls => lv_has ls 3 [(2, .int (nI i4)), (1, .int (cnt (f_con w h) i4)), (0, .ref h0)]) (fun i4 ls hi_4 hI hnx_4 => ?_) 0 (by omega) ls (lv_sub hl [0, 1, 2] rfl)
  have hl := hI
  refine lv_iload_n hx hb dX0_contents_4 rfl (lv_at hl 0 rfl) ?_
  refine lv_bipush (v := (nI 24)) hx hb dX0_contents_5 (by decide +kernel) ?_
  refine lv_icmp_ge (tgt := 36) hx hb dX0_contents_7 (by decide) (fun c_7 => ?_) (fun c_7 => ?_)
  · have hq_7 : 24 ≤ i4 := (nI_leI (by omega) (by omega)).mp c_7
    have hE_7 : i4 = 24 := by omega
    subst hE_7
    refine lv_iload_n hx hb dX0_contents_36 rfl (lv_at hl 1 rfl) ?_
    have eR : (cnt (f_con w h) 24) = cnt (f_con w h) 24 := by simp []
    exact W.iret (v := (cnt (f_con w h) 24)) hx hb hr (fun t ht hW => ⟨_, rfl, eR, ht⟩) (fun q h9 => absurd h9 List.not_mem_nil) dX0_contents_37
  · have hlt_4 : i4 < 24 := Nat.lt_of_not_le (fun q => c_7 ((nI_leI (by omega) (by omega)).mpr q))
    refine lv_aload_n hx hb dX0_contents_10 rfl (lv_at hl 2 rfl) ?_
    refine va_get (D := (dC, dI)) (ci := 0) (v := .ref qb) (C := RX0) (T := TX0) (N := 2) hx hb hts hin0 hown hK hP 0 rfl rfl 1 (by decide) hf13 (fun _ h9 => h9) rfl dX0_contents_11 ?_
    refine lv_iload_n hx hb dX0_contents_14 rfl (lv_at hl 0 rfl) ?_
    refine my_zaldP hx hb hK hP 2 1 rfl rfl (by omega) (by decide) dX0_contents_15 ?_
    refine lv_if_eq (tgt := 30) hx hb dX0_contents_16 (by decide) (fun c_16 => ?_) (fun c_16 => ?_)
    · have hb_16 : (h i4) = false := bI_f c_16
      refine lv_iinc (v := (nI (i4 + 1))) (lv' := [(2, .int (nI (i4 + 1))), (1, .int (cnt (f_con w h) i4)), (0, .ref h0)]) hx hb dX0_contents_30 hl (k := 0) rfl (nI_1 _) (by decide) rfl (fun ls hl => ?_)
      refine lv_goto (tgt := 4) hx hb dX0_contents_33 (by decide) ?_
      exact hnx_4 hlt_4 ls (by rw [show (cnt (f_con w h) (i4 + 1)) = (cnt (f_con w h) i4) from cnt_n (by simp [f_con, hb_16])]; exact lv_sub hl [0, 1, 2] rfl)
    · have hb_16 : (h i4) = true := bI_t c_16
      refine lv_aload_n hx hb dX0_contents_19 rfl (lv_at hl 2 rfl) ?_
      refine lv_iload_n hx hb dX0_contents_20 rfl (lv_at hl 0 rfl) ?_
      refine vp_callSi (va_Run.run (va_runV (As := [.int (nI i4)]) (rest := []) ⟨hx, hb, hml, hown, hts⟩ (k0_repeatsAnEarlierPage l dC dI h0 qa qb cI cZ w h i4 (by omega)) (cwV 1 hts gX0_contents_X0_repeatsAnEarlierPage rfl rfl rfl (by decide +kernel) ⟨Nat.le_of_ble_eq_true rfl, Nat.le_of_ble_eq_true rfl⟩) ⟨bl_P, va_recv hK hP (ci := 0) (q0 := 0) rfl rfl, fun U hU hW => ⟨rfl, by rw [hU]; exact hP, va_K.moved hW.alike hK⟩⟩ rfl rfl hl.1 rfl (lv_room (Nat.le_of_ble_eq_true rfl)) dX0_contents_21 ⟨Nat.zero_le _, Nat.zero_le _⟩)) (fun r_21 hr_21 => ?_)
      obtain rfl : r_21 = (bI (rep w h i4)) := hr_21
      refine lv_if_ne (tgt := 30) hx hb dX0_contents_24 (by decide) (fun c_24 => ?_) (fun c_24 => ?_)
      · have hb_24 : (rep w h i4) = true := bI_t c_24
        refine lv_iinc (v := (nI (i4 + 1))) (lv' := [(2, .int (nI (i4 + 1))), (1, .int (cnt (f_con w h) i4)), (0, .ref h0)]) hx hb dX0_contents_30 hl (k := 0) rfl (nI_1 _) (by decide) rfl (fun ls hl => ?_)
        refine lv_goto (tgt := 4) hx hb dX0_contents_33 (by decide) ?_
        exact hnx_4 hlt_4 ls (by rw [show (cnt (f_con w h) (i4 + 1)) = (cnt (f_con w h) i4) from cnt_n (by simp [f_con, hb_16, hb_24])]; exact lv_sub hl [0, 1, 2] rfl)
      · have hb_24 : (rep w h i4) = false := bI_f c_24
        refine lv_iinc (v := (cnt (f_con w h) i4 + 1)) (lv' := [(1, .int (cnt (f_con w h) i4 + 1)), (2, .int (nI i4)), (0, .ref h0)]) hx hb dX0_contents_27 hl (k := 1) rfl rfl (by decide) rfl (fun ls hl => ?_)
        refine lv_iinc (v := (nI (i4 + 1))) (lv' := [(2, .int (nI (i4 + 1))), (1, .int (cnt (f_con w h) i4 + 1)), (0, .ref h0)]) hx hb dX0_contents_30 hl (k := 1) rfl (nI_1 _) (by decide) rfl (fun ls hl => ?_)
        refine lv_goto (tgt := 4) hx hb dX0_contents_33 (by decide) ?_
        exact hnx_4 hlt_4 ls (by rw [show (cnt (f_con w h) (i4 + 1)) = (cnt (f_con w h) i4 + 1) from cnt_y (by simp [f_con, hb_16, hb_24])]; exact lv_sub hl [0, 1, 2] rfl)
set_option maxHeartbeats 4000000 in
set_option maxRecDepth 100000 in
theorem k0_duplicates (l : Launch) (dC : Nat → ClassId) (dI : Nat → Nat → Nat) (h0 qa qb : Nat) (cI cZ : ClassId) (w : Nat → Int32) (h : Nat → Bool)   : Met l yX0_duplicates wsX0_duplicates ({ frames := 2, cells := 0, slots := 0, locals := 45 }) (va_Pc [.ref h0] (fun U => va_P (dC, dI) vwCl (W0 h0 qa qb cI cZ w h) U.heap ∧ va_K (dC, dI) vwCl (TY cI cZ) U)) (vp_Si (fun r => r = cnt (f_dup w h) 24)) 0 0 (fun _ => False) := by
  refine Met.ofW (cc := cX0_duplicates) (maxL := 3) (ret := (some .int)) (by decide) rfl ?_
  intro p e s m args below meth c s₁ B hml hv
  obtain ⟨rfl, hP, hK⟩ := hv
  have hx := B.exec
  have hb := B.bytes
  have hr := B.returns
  have hlocks := B.notSynchronized
  have hts := atoms_spec (ws := wsX0_duplicates) B.pre
  have hown : s.vm.findClass RX0 = some m.cls := findClass_of_methodNamed B.named
  have hin0 : ∀ w ∈ wsX00, w ∈ wsX0_duplicates := by decide +kernel
  have hf13 := hts (.fieldLink RX0 13 "PageMerger" "heldPages" "[Z") (by decide +kernel)
  have hl := lv_entry ([.ref h0]) (n := 3) (Nat.le_of_ble_eq_true rfl)
  rw [lg_entry_eq]
  generalize (lg_sl ([.ref h0]) ++ List.replicate (3 - (lg_sl ([.ref h0])).length) Slot.unset).toArray = ls at hl ⊢
  have hl : lv_has ls 3 [(0, .ref h0)] := hl
  refine lv_iconst (v := (nI 0)) hx hb dX0_duplicates_0 (by decide +kernel) ?_
  refine lv_istore_n (lv' := [(1, .int (nI 0)), (0, .ref h0)]) hx hb dX0_duplicates_1 rfl hl (by decide) rfl (fun ls hl => ?_)
  refine lv_iconst (v := (nI 0)) hx hb dX0_duplicates_2 (by decide +kernel) ?_
  refine lv_istore_n (lv' := [(2, .int (nI 0)), (1, .int (nI 0)), (0, .ref h0)]) hx hb dX0_duplicates_3 rfl hl (by decide) rfl (fun ls hl => ?_)
  refine lp_P 4 24 (fun i4 ls => lv_has ls 3 [(2, .int (nI i4)), (1, .int (cnt (f_dup w h) i4)), (0, .ref h0)]) (fun i4 ls hi_4 hI hnx_4 => ?_) 0 (by omega) ls (lv_sub hl [0, 1, 2] rfl)
  have hl := hI
  refine lv_iload_n hx hb dX0_duplicates_4 rfl (lv_at hl 0 rfl) ?_
  refine lv_bipush (v := (nI 24)) hx hb dX0_duplicates_5 (by decide +kernel) ?_
  refine lv_icmp_ge (tgt := 36) hx hb dX0_duplicates_7 (by decide) (fun c_7 => ?_) (fun c_7 => ?_)
  · have hq_7 : 24 ≤ i4 := (nI_leI (by omega) (by omega)).mp c_7
    have hE_7 : i4 = 24 := by omega
    subst hE_7
    refine lv_iload_n hx hb dX0_duplicates_36 rfl (lv_at hl 1 rfl) ?_
    have eR : (cnt (f_dup w h) 24) = cnt (f_dup w h) 24 := by simp []
    exact W.iret (v := (cnt (f_dup w h) 24)) hx hb hr (fun t ht hW => ⟨_, rfl, eR, ht⟩) (fun q h9 => absurd h9 List.not_mem_nil) dX0_duplicates_37
  · have hlt_4 : i4 < 24 := Nat.lt_of_not_le (fun q => c_7 ((nI_leI (by omega) (by omega)).mpr q))
    refine lv_aload_n hx hb dX0_duplicates_10 rfl (lv_at hl 2 rfl) ?_
    refine va_get (D := (dC, dI)) (ci := 0) (v := .ref qb) (C := RX0) (T := TX0) (N := 2) hx hb hts hin0 hown hK hP 0 rfl rfl 1 (by decide) hf13 (fun _ h9 => h9) rfl dX0_duplicates_11 ?_
    refine lv_iload_n hx hb dX0_duplicates_14 rfl (lv_at hl 0 rfl) ?_
    refine my_zaldP hx hb hK hP 2 1 rfl rfl (by omega) (by decide) dX0_duplicates_15 ?_
    refine lv_if_eq (tgt := 30) hx hb dX0_duplicates_16 (by decide) (fun c_16 => ?_) (fun c_16 => ?_)
    · have hb_16 : (h i4) = false := bI_f c_16
      refine lv_iinc (v := (nI (i4 + 1))) (lv' := [(2, .int (nI (i4 + 1))), (1, .int (cnt (f_dup w h) i4)), (0, .ref h0)]) hx hb dX0_duplicates_30 hl (k := 0) rfl (nI_1 _) (by decide) rfl (fun ls hl => ?_)
      refine lv_goto (tgt := 4) hx hb dX0_duplicates_33 (by decide) ?_
      exact hnx_4 hlt_4 ls (by rw [show (cnt (f_dup w h) (i4 + 1)) = (cnt (f_dup w h) i4) from cnt_n (by simp [f_dup, hb_16])]; exact lv_sub hl [0, 1, 2] rfl)
    · have hb_16 : (h i4) = true := bI_t c_16
      refine lv_aload_n hx hb dX0_duplicates_19 rfl (lv_at hl 2 rfl) ?_
      refine lv_iload_n hx hb dX0_duplicates_20 rfl (lv_at hl 0 rfl) ?_
      refine vp_callSi (va_Run.run (va_runV (As := [.int (nI i4)]) (rest := []) ⟨hx, hb, hml, hown, hts⟩ (k0_repeatsAnEarlierPage l dC dI h0 qa qb cI cZ w h i4 (by omega)) (cwV 1 hts gX0_duplicates_X0_repeatsAnEarlierPage rfl rfl rfl (by decide +kernel) ⟨Nat.le_of_ble_eq_true rfl, Nat.le_of_ble_eq_true rfl⟩) ⟨bl_P, va_recv hK hP (ci := 0) (q0 := 0) rfl rfl, fun U hU hW => ⟨rfl, by rw [hU]; exact hP, va_K.moved hW.alike hK⟩⟩ rfl rfl hl.1 rfl (lv_room (Nat.le_of_ble_eq_true rfl)) dX0_duplicates_21 ⟨Nat.zero_le _, Nat.zero_le _⟩)) (fun r_21 hr_21 => ?_)
      obtain rfl : r_21 = (bI (rep w h i4)) := hr_21
      refine lv_if_eq (tgt := 30) hx hb dX0_duplicates_24 (by decide) (fun c_24 => ?_) (fun c_24 => ?_)
      · have hb_24 : (rep w h i4) = false := bI_f c_24
        refine lv_iinc (v := (nI (i4 + 1))) (lv' := [(2, .int (nI (i4 + 1))), (1, .int (cnt (f_dup w h) i4)), (0, .ref h0)]) hx hb dX0_duplicates_30 hl (k := 0) rfl (nI_1 _) (by decide) rfl (fun ls hl => ?_)
        refine lv_goto (tgt := 4) hx hb dX0_duplicates_33 (by decide) ?_
        exact hnx_4 hlt_4 ls (by rw [show (cnt (f_dup w h) (i4 + 1)) = (cnt (f_dup w h) i4) from cnt_n (by simp [f_dup, hb_16, hb_24])]; exact lv_sub hl [0, 1, 2] rfl)
      · have hb_24 : (rep w h i4) = true := bI_t c_24
        refine lv_iinc (v := (cnt (f_dup w h) i4 + 1)) (lv' := [(1, .int (cnt (f_dup w h) i4 + 1)), (2, .int (nI i4)), (0, .ref h0)]) hx hb dX0_duplicates_27 hl (k := 1) rfl rfl (by decide) rfl (fun ls hl => ?_)
        refine lv_iinc (v := (nI (i4 + 1))) (lv' := [(2, .int (nI (i4 + 1))), (1, .int (cnt (f_dup w h) i4 + 1)), (0, .ref h0)]) hx hb dX0_duplicates_30 hl (k := 1) rfl (nI_1 _) (by decide) rfl (fun ls hl => ?_)
        refine lv_goto (tgt := 4) hx hb dX0_duplicates_33 (by decide) ?_
        exact hnx_4 hlt_4 ls (by rw [show (cnt (f_dup w h) (i4 + 1)) = (cnt (f_dup w h) i4 + 1) from cnt_y (by simp [f_dup, hb_16, hb_24])]; exact lv_sub hl [0, 1, 2] rfl)
set_option maxHeartbeats 4000000 in
set_option maxRecDepth 100000 in
theorem k0_sum (l : Launch) (dC : Nat → ClassId) (dI : Nat → Nat → Nat) (h0 qa qb : Nat) (cI cZ : ClassId) (w : Nat → Int32) (h : Nat → Bool) (p1 : Int32)  : Met l yX0_sum wsX0_sum ({ frames := 0, cells := 0, slots := 0, locals := 0 }) (va_Pc [.ref h0, .int (p1)] (fun U => va_P (dC, dI) vwCl (W0 h0 qa qb cI cZ w h) U.heap ∧ va_K (dC, dI) vwCl (TY cI cZ) U)) (vp_Si (fun r => r = s_sum w p1)) 0 0 (fun _ => False) := by
  refine Met.ofW (cc := cX0_sum) (maxL := 6) (ret := (some .int)) (by decide) rfl ?_
  intro p e s m args below meth c s₁ B hml hv
  obtain ⟨rfl, hP, hK⟩ := hv
  have hx := B.exec
  have hb := B.bytes
  have hr := B.returns
  have hlocks := B.notSynchronized
  have hts := atoms_spec (ws := wsX0_sum) B.pre
  have hown : s.vm.findClass RX0 = some m.cls := findClass_of_methodNamed B.named
  have hin0 : ∀ w ∈ wsX00, w ∈ wsX0_sum := by decide +kernel
  have hf9 := hts (.fieldLink RX0 9 "PageMerger" "words" "[I") (by decide +kernel)
  have hl := lv_entry ([.ref h0, .int (p1)]) (n := 6) (Nat.le_of_ble_eq_true rfl)
  rw [lg_entry_eq]
  generalize (lg_sl ([.ref h0, .int (p1)]) ++ List.replicate (6 - (lg_sl ([.ref h0, .int (p1)])).length) Slot.unset).toArray = ls at hl ⊢
  have hl : lv_has ls 6 [(0, .ref h0), (1, .int (p1))] := hl
  refine lv_iload_n hx hb dX0_sum_0 rfl (lv_at hl 1 rfl) ?_
  refine lv_if_lt (tgt := 9) hx hb dX0_sum_1 (by decide) (fun c_1 => ?_) (fun c_1 => ?_)
  · have ho : okP 3 p1 = false := okP_neg c_1
    refine lv_iconst (v := (nI 0)) hx hb dX0_sum_9 (by decide +kernel) ?_
    have eR : (nI 0) = s_sum w p1 := by simp [s_sum, ho]
    exact W.iret (v := (nI 0)) hx hb hr (fun t ht hW => ⟨_, rfl, eR, ht⟩) (fun q h9 => absurd h9 List.not_mem_nil) dX0_sum_10
  · refine lv_iload_n hx hb dX0_sum_4 rfl (lv_at hl 1 rfl) ?_
    refine lv_iconst (v := (nI 3)) hx hb dX0_sum_5 (by decide +kernel) ?_
    refine lv_icmp_lt (tgt := 11) hx hb dX0_sum_6 (by decide) (fun c_6 => ?_) (fun c_6 => ?_)
    · have ho : okP 3 p1 = true := okP_lt (by decide) c_1 c_6
      obtain ⟨j1, hj1, rfl⟩ := okP_of ho (by decide)
      have hg_j1 : pg (nI j1) = j1 := pg_nI (by omega)
      refine lv_bipush (v := (nI 32)) hx hb dX0_sum_11 (by decide +kernel) ?_
      refine lv_istore_n (lv' := [(2, .int (nI 32)), (0, .ref h0), (1, .int (nI j1))]) hx hb dX0_sum_13 rfl hl (by decide) rfl (fun ls hl => ?_)
      refine lv_iload_n hx hb dX0_sum_14 rfl (lv_at hl 2 rfl) ?_
      refine lv_iload_n hx hb dX0_sum_15 rfl (lv_at hl 0 rfl) ?_
      refine my_mul hx hb dX0_sum_16 ?_
      refine lv_istore_n (lv' := [(3, .int (nI (j1 * 32))), (2, .int (nI 32)), (0, .ref h0), (1, .int (nI j1))]) hx hb dX0_sum_17 rfl hl (by decide) rfl (fun ls hl => ?_)
      refine lv_iconst (v := (nI 0)) hx hb dX0_sum_18 (by decide +kernel) ?_
      refine lv_istore (lv' := [(4, .int (nI 0)), (3, .int (nI (j1 * 32))), (2, .int (nI 32)), (0, .ref h0), (1, .int (nI j1))]) hx hb dX0_sum_19 hl (by decide) rfl (fun ls hl => ?_)
      refine lv_iconst (v := (nI 0)) hx hb dX0_sum_21 (by decide +kernel) ?_
      refine lv_istore (lv' := [(5, .int (nI 0)), (4, .int (nI 0)), (3, .int (nI (j1 * 32))), (2, .int (nI 32)), (0, .ref h0), (1, .int (nI j1))]) hx hb dX0_sum_22 hl (by decide) rfl (fun ls hl => ?_)
      refine lp_P 24 32 (fun i24 ls => lv_has ls 6 [(5, .int (nI i24)), (4, .int (sumN (fun i => w (j1 * 32 + i)) i24)), (3, .int (nI (j1 * 32))), (2, .int (nI 32)), (0, .ref h0), (1, .int (nI j1))]) (fun i24 ls hi_24 hI hnx_24 => ?_) 0 (by omega) ls (lv_sub hl [0, 1, 2, 3, 4, 5] rfl)
      have hl := hI
      refine lv_iload hx hb dX0_sum_24 (lv_at hl 0 rfl) ?_
      refine lv_iload_n hx hb dX0_sum_26 rfl (lv_at hl 3 rfl) ?_
      refine lv_icmp_ge (tgt := 50) hx hb dX0_sum_27 (by decide) (fun c_27 => ?_) (fun c_27 => ?_)
      · have hq_27 : 32 ≤ i24 := (nI_leI (by omega) (by omega)).mp c_27
        have hE_27 : i24 = 32 := by omega
        subst hE_27
        refine lv_iload hx hb dX0_sum_50 (lv_at hl 1 rfl) ?_
        have eR : (sumN (fun i => w (j1 * 32 + i)) 32) = s_sum w (nI j1) := by simp [s_sum, ho, hg_j1]
        exact W.iret (v := (sumN (fun i => w (j1 * 32 + i)) 32)) hx hb hr (fun t ht hW => ⟨_, rfl, eR, ht⟩) (fun q h9 => absurd h9 List.not_mem_nil) dX0_sum_52
      · have hlt_24 : i24 < 32 := Nat.lt_of_not_le (fun q => c_27 ((nI_leI (by omega) (by omega)).mpr q))
        refine lv_iload hx hb dX0_sum_30 (lv_at hl 1 rfl) ?_
        refine lv_aload_n hx hb dX0_sum_32 rfl (lv_at hl 4 rfl) ?_
        refine va_get (D := (dC, dI)) (ci := 0) (v := .ref qa) (C := RX0) (T := TX0) (N := 2) hx hb hts hin0 hown hK hP 0 rfl rfl 0 (by decide) hf9 (fun _ h9 => h9) rfl dX0_sum_33 ?_
        refine lv_iload_n hx hb dX0_sum_36 rfl (lv_at hl 2 rfl) ?_
        refine lv_iload hx hb dX0_sum_37 (lv_at hl 0 rfl) ?_
        refine my_add hx hb dX0_sum_39 ?_
        refine my_iald hx hb hK hP 1 0 rfl rfl (by omega) (by decide) dX0_sum_40 ?_
        refine lv_iadd hx hb dX0_sum_41 ?_
        refine lv_istore (lv' := [(4, .int ((sumN (fun i => w (j1 * 32 + i)) i24) + (w (j1 * 32 + i24)))), (5, .int (nI i24)), (3, .int (nI (j1 * 32))), (2, .int (nI 32)), (0, .ref h0), (1, .int (nI j1))]) hx hb dX0_sum_42 hl (by decide) rfl (fun ls hl => ?_)
        refine lv_iinc (v := (nI (i24 + 1))) (lv' := [(5, .int (nI (i24 + 1))), (4, .int ((sumN (fun i => w (j1 * 32 + i)) i24) + (w (j1 * 32 + i24)))), (3, .int (nI (j1 * 32))), (2, .int (nI 32)), (0, .ref h0), (1, .int (nI j1))]) hx hb dX0_sum_44 hl (k := 1) rfl (nI_1 _) (by decide) rfl (fun ls hl => ?_)
        refine lv_goto (tgt := 24) hx hb dX0_sum_47 (by decide) ?_
        exact hnx_24 hlt_24 ls (by rw [show (sumN (fun i => w (j1 * 32 + i)) (i24 + 1)) = ((sumN (fun i => w (j1 * 32 + i)) i24) + (w (j1 * 32 + i24))) from rfl]; exact lv_sub hl [0, 1, 2, 3, 4, 5] rfl)
    · have ho : okP 3 p1 = false := okP_nlt (by decide) c_6
      refine lv_iconst (v := (nI 0)) hx hb dX0_sum_9 (by decide +kernel) ?_
      have eR : (nI 0) = s_sum w p1 := by simp [s_sum, ho]
      exact W.iret (v := (nI 0)) hx hb hr (fun t ht hW => ⟨_, rfl, eR, ht⟩) (fun q h9 => absurd h9 List.not_mem_nil) dX0_sum_10
set_option maxHeartbeats 4000000 in
set_option maxRecDepth 100000 in
theorem k0_plain (l : Launch) (dC : Nat → ClassId) (dI : Nat → Nat → Nat) (h0 qa qb : Nat) (cI cZ : ClassId) (w : Nat → Int32) (h : Nat → Bool)   : Met l yX0_plain wsX0_plain ({ frames := 1, cells := 0, slots := 0, locals := 22 }) (va_Pc [.ref h0] (fun U => va_P (dC, dI) vwCl (W0 h0 qa qb cI cZ w h) U.heap ∧ va_K (dC, dI) vwCl (TY cI cZ) U)) (vp_Si (fun r => r = cnt (f_pla w h) 24)) 0 0 (fun _ => False) := by
  refine Met.ofW (cc := cX0_plain) (maxL := 3) (ret := (some .int)) (by decide) rfl ?_
  intro p e s m args below meth c s₁ B hml hv
  obtain ⟨rfl, hP, hK⟩ := hv
  have hx := B.exec
  have hb := B.bytes
  have hr := B.returns
  have hlocks := B.notSynchronized
  have hts := atoms_spec (ws := wsX0_plain) B.pre
  have hown : s.vm.findClass RX0 = some m.cls := findClass_of_methodNamed B.named
  have hin0 : ∀ w ∈ wsX00, w ∈ wsX0_plain := by decide +kernel
  have hf13 := hts (.fieldLink RX0 13 "PageMerger" "heldPages" "[Z") (by decide +kernel)
  have hl := lv_entry ([.ref h0]) (n := 3) (Nat.le_of_ble_eq_true rfl)
  rw [lg_entry_eq]
  generalize (lg_sl ([.ref h0]) ++ List.replicate (3 - (lg_sl ([.ref h0])).length) Slot.unset).toArray = ls at hl ⊢
  have hl : lv_has ls 3 [(0, .ref h0)] := hl
  refine lv_iconst (v := (nI 0)) hx hb dX0_plain_0 (by decide +kernel) ?_
  refine lv_istore_n (lv' := [(1, .int (nI 0)), (0, .ref h0)]) hx hb dX0_plain_1 rfl hl (by decide) rfl (fun ls hl => ?_)
  refine lv_iconst (v := (nI 0)) hx hb dX0_plain_2 (by decide +kernel) ?_
  refine lv_istore_n (lv' := [(2, .int (nI 0)), (1, .int (nI 0)), (0, .ref h0)]) hx hb dX0_plain_3 rfl hl (by decide) rfl (fun ls hl => ?_)
  refine lp_P 4 24 (fun i4 ls => lv_has ls 3 [(2, .int (nI i4)), (1, .int (cnt (f_pla w h) i4)), (0, .ref h0)]) (fun i4 ls hi_4 hI hnx_4 => ?_) 0 (by omega) ls (lv_sub hl [0, 1, 2] rfl)
  have hl := hI
  refine lv_iload_n hx hb dX0_plain_4 rfl (lv_at hl 0 rfl) ?_
  refine lv_bipush (v := (nI 24)) hx hb dX0_plain_5 (by decide +kernel) ?_
  refine lv_icmp_ge (tgt := 36) hx hb dX0_plain_7 (by decide) (fun c_7 => ?_) (fun c_7 => ?_)
  · have hq_7 : 24 ≤ i4 := (nI_leI (by omega) (by omega)).mp c_7
    have hE_7 : i4 = 24 := by omega
    subst hE_7
    refine lv_iload_n hx hb dX0_plain_36 rfl (lv_at hl 1 rfl) ?_
    have eR : (cnt (f_pla w h) 24) = cnt (f_pla w h) 24 := by simp []
    exact W.iret (v := (cnt (f_pla w h) 24)) hx hb hr (fun t ht hW => ⟨_, rfl, eR, ht⟩) (fun q h9 => absurd h9 List.not_mem_nil) dX0_plain_37
  · have hlt_4 : i4 < 24 := Nat.lt_of_not_le (fun q => c_7 ((nI_leI (by omega) (by omega)).mpr q))
    refine lv_aload_n hx hb dX0_plain_10 rfl (lv_at hl 2 rfl) ?_
    refine va_get (D := (dC, dI)) (ci := 0) (v := .ref qb) (C := RX0) (T := TX0) (N := 2) hx hb hts hin0 hown hK hP 0 rfl rfl 1 (by decide) hf13 (fun _ h9 => h9) rfl dX0_plain_11 ?_
    refine lv_iload_n hx hb dX0_plain_14 rfl (lv_at hl 0 rfl) ?_
    refine my_zaldP hx hb hK hP 2 1 rfl rfl (by omega) (by decide) dX0_plain_15 ?_
    refine lv_if_eq (tgt := 30) hx hb dX0_plain_16 (by decide) (fun c_16 => ?_) (fun c_16 => ?_)
    · have hb_16 : (h i4) = false := bI_f c_16
      refine lv_iinc (v := (nI (i4 + 1))) (lv' := [(2, .int (nI (i4 + 1))), (1, .int (cnt (f_pla w h) i4)), (0, .ref h0)]) hx hb dX0_plain_30 hl (k := 0) rfl (nI_1 _) (by decide) rfl (fun ls hl => ?_)
      refine lv_goto (tgt := 4) hx hb dX0_plain_33 (by decide) ?_
      exact hnx_4 hlt_4 ls (by rw [show (cnt (f_pla w h) (i4 + 1)) = (cnt (f_pla w h) i4) from cnt_n (by simp [f_pla, hb_16])]; exact lv_sub hl [0, 1, 2] rfl)
    · have hb_16 : (h i4) = true := bI_t c_16
      refine lv_aload_n hx hb dX0_plain_19 rfl (lv_at hl 2 rfl) ?_
      refine lv_iload_n hx hb dX0_plain_20 rfl (lv_at hl 0 rfl) ?_
      refine vp_callSi (va_Run.run (va_runV (As := [.int (nI i4)]) (rest := []) ⟨hx, hb, hml, hown, hts⟩ (k0_hasOneValue l dC dI h0 qa qb cI cZ w h i4 (by omega)) (cwV 1 hts gX0_plain_X0_hasOneValue rfl rfl rfl (by decide +kernel) ⟨Nat.le_of_ble_eq_true rfl, Nat.le_of_ble_eq_true rfl⟩) ⟨bl_P, va_recv hK hP (ci := 0) (q0 := 0) rfl rfl, fun U hU hW => ⟨rfl, by rw [hU]; exact hP, va_K.moved hW.alike hK⟩⟩ rfl rfl hl.1 rfl (lv_room (Nat.le_of_ble_eq_true rfl)) dX0_plain_21 ⟨Nat.zero_le _, Nat.zero_le _⟩)) (fun r_21 hr_21 => ?_)
      obtain rfl : r_21 = (bI (one w i4 4)) := hr_21
      refine lv_if_eq (tgt := 30) hx hb dX0_plain_24 (by decide) (fun c_24 => ?_) (fun c_24 => ?_)
      · have hb_24 : (one w i4 4) = false := bI_f c_24
        refine lv_iinc (v := (nI (i4 + 1))) (lv' := [(2, .int (nI (i4 + 1))), (1, .int (cnt (f_pla w h) i4)), (0, .ref h0)]) hx hb dX0_plain_30 hl (k := 0) rfl (nI_1 _) (by decide) rfl (fun ls hl => ?_)
        refine lv_goto (tgt := 4) hx hb dX0_plain_33 (by decide) ?_
        exact hnx_4 hlt_4 ls (by rw [show (cnt (f_pla w h) (i4 + 1)) = (cnt (f_pla w h) i4) from cnt_n (by simp [f_pla, hb_16, hb_24])]; exact lv_sub hl [0, 1, 2] rfl)
      · have hb_24 : (one w i4 4) = true := bI_t c_24
        refine lv_iinc (v := (cnt (f_pla w h) i4 + 1)) (lv' := [(1, .int (cnt (f_pla w h) i4 + 1)), (2, .int (nI i4)), (0, .ref h0)]) hx hb dX0_plain_27 hl (k := 1) rfl rfl (by decide) rfl (fun ls hl => ?_)
        refine lv_iinc (v := (nI (i4 + 1))) (lv' := [(2, .int (nI (i4 + 1))), (1, .int (cnt (f_pla w h) i4 + 1)), (0, .ref h0)]) hx hb dX0_plain_30 hl (k := 1) rfl (nI_1 _) (by decide) rfl (fun ls hl => ?_)
        refine lv_goto (tgt := 4) hx hb dX0_plain_33 (by decide) ?_
        exact hnx_4 hlt_4 ls (by rw [show (cnt (f_pla w h) (i4 + 1)) = (cnt (f_pla w h) i4 + 1) from cnt_y (by simp [f_pla, hb_16, hb_24])]; exact lv_sub hl [0, 1, 2] rfl)
end
section
set_option maxHeartbeats 4000000 in
set_option maxRecDepth 100000 in
theorem k1_isPage (l : Launch) (h0 : Nat) (p1 : Int32)  : Met l yX1_isPage wsX1_isPage ({ frames := 0, cells := 0, slots := 0, locals := 0 }) (va_Pc [.ref h0, .int (p1)] (fun _ => True)) (vp_Si (fun r => r = bI (okP 24 p1))) 0 0 (fun _ => False) := by
  refine Met.ofW (cc := cX1_isPage) (maxL := 2) (ret := (some .boolean)) (by decide) rfl ?_
  intro p e s m args below meth c s₁ B hml hv
  obtain ⟨rfl, -⟩ := hv
  have hx := B.exec
  have hb := B.bytes
  have hr := B.returns
  have hlocks := B.notSynchronized
  have hl := lv_entry ([.ref h0, .int (p1)]) (n := 2) (Nat.le_of_ble_eq_true rfl)
  rw [lg_entry_eq]
  generalize (lg_sl ([.ref h0, .int (p1)]) ++ List.replicate (2 - (lg_sl ([.ref h0, .int (p1)])).length) Slot.unset).toArray = ls at hl ⊢
  have hl : lv_has ls 2 [(0, .ref h0), (1, .int (p1))] := hl
  refine lv_iload_n hx hb dX1_isPage_0 rfl (lv_at hl 1 rfl) ?_
  refine lv_if_lt (tgt := 14) hx hb dX1_isPage_1 (by decide) (fun c_1 => ?_) (fun c_1 => ?_)
  · have ho : okP 24 p1 = false := okP_neg c_1
    refine lv_iconst (v := (nI 0)) hx hb dX1_isPage_14 (by decide +kernel) ?_
    have eR : (nI 0) = bI (okP 24 p1) := by simp [ho, bI_1, bI_0]
    exact W.zret (v := (nI 0)) hx hb hr (by decide +kernel) (fun t ht hW => ⟨_, rfl, eR, ht⟩) (fun q h9 => absurd h9 List.not_mem_nil) dX1_isPage_15
  · refine lv_iload_n hx hb dX1_isPage_4 rfl (lv_at hl 1 rfl) ?_
    refine lv_bipush (v := (nI 24)) hx hb dX1_isPage_5 (by decide +kernel) ?_
    refine lv_icmp_ge (tgt := 14) hx hb dX1_isPage_7 (by decide) (fun c_7 => ?_) (fun c_7 => ?_)
    · have ho : okP 24 p1 = false := okP_big (by decide) c_7
      refine lv_iconst (v := (nI 0)) hx hb dX1_isPage_14 (by decide +kernel) ?_
      have eR : (nI 0) = bI (okP 24 p1) := by simp [ho, bI_1, bI_0]
      exact W.zret (v := (nI 0)) hx hb hr (by decide +kernel) (fun t ht hW => ⟨_, rfl, eR, ht⟩) (fun q h9 => absurd h9 List.not_mem_nil) dX1_isPage_15
    · have ho : okP 24 p1 = true := okP_in (by decide) c_1 c_7
      refine lv_iconst (v := (nI 1)) hx hb dX1_isPage_10 (by decide +kernel) ?_
      refine lv_goto (tgt := 15) hx hb dX1_isPage_11 (by decide) ?_
      have eR : (nI 1) = bI (okP 24 p1) := by simp [ho, bI_1, bI_0]
      exact W.zret (v := (nI 1)) hx hb hr (by decide +kernel) (fun t ht hW => ⟨_, rfl, eR, ht⟩) (fun q h9 => absurd h9 List.not_mem_nil) dX1_isPage_15
set_option maxHeartbeats 4000000 in
set_option maxRecDepth 100000 in
theorem k1_write (l : Launch) (dC : Nat → ClassId) (dI : Nat → Nat → Nat) (h0 qa qb : Nat) (cI cZ : ClassId) (sz : Nat) (w : Nat → Int32) (h : Nat → Bool) (p1 : Int32) (p2 : Int32) (p3 : Int32)  : Met l yX1_write wsX1_write ({ frames := 1, cells := 0, slots := 0, locals := 21 }) (va_Pc [.ref h0, .int (p1), .int (p2), .int (p3)] (fun U => U.heap.size = sz ∧ va_P (dC, dI) vwCl (W1 h0 qa qb cI cZ w h) U.heap ∧ va_K (dC, dI) vwCl (TY cI cZ) U ∧ va_D (fun _ => True) (W1 h0 qa qb cI cZ w h))) (va_Qi (fun r (_ : Unit) => r = s_read w p1 p2) (fun _ t => va_P (dC, dI) vwCl (W1 h0 qa qb cI cZ (w_write w p1 p2 p3) (h_write h p1 p2)) t.heap ∧ va_K (dC, dI) vwCl (TY cI cZ) t ∧ va_D (va_A (W1 h0 qa qb cI cZ w h) sz) (W1 h0 qa qb cI cZ (w_write w p1 p2 p3) (h_write h p1 p2))) (va_A (W1 h0 qa qb cI cZ w h) sz)) 0 0 (va_A (W1 h0 qa qb cI cZ w h) sz) := by
  refine Met.ofW (cc := cX1_write) (maxL := 5) (ret := (some .int)) (by decide) rfl ?_
  intro p e s m args below meth c s₁ B hml hv
  obtain ⟨rfl, hsz, hP, hK, hD0⟩ := hv
  have hx := B.exec
  have hb := B.bytes
  have hr := B.returns
  have hlocks := B.notSynchronized
  have hts := atoms_spec (ws := wsX1_write) B.pre
  have hown : s.vm.findClass RX1 = some m.cls := findClass_of_methodNamed B.named
  have hin0 : ∀ w ∈ wsX10, w ∈ wsX1_write := by decide +kernel
  have hf7 := hts (.fieldLink RX1 7 "PageMergerModel" "words" "[I") (by decide +kernel)
  have hf13 := hts (.fieldLink RX1 13 "PageMergerModel" "released" "[Z") (by decide +kernel)
  subst hsz
  have hD := hD0.self (sz := s.heap.size)
  generalize hAe : va_A (W1 h0 qa qb cI cZ w h) s.heap.size = A at hD ⊢
  have hA : ∀ q : Nat, s.heap.size ≤ q → A q := fun q h => by rw [← hAe]; exact Or.inr h
  have hS : va_S A s.heap s.heap [] := va_S.rf
  have hl := lv_entry ([.ref h0, .int (p1), .int (p2), .int (p3)]) (n := 5) (Nat.le_of_ble_eq_true rfl)
  rw [lg_entry_eq]
  generalize (lg_sl ([.ref h0, .int (p1), .int (p2), .int (p3)]) ++ List.replicate (5 - (lg_sl ([.ref h0, .int (p1), .int (p2), .int (p3)])).length) Slot.unset).toArray = ls at hl ⊢
  have hl : lv_has ls 5 [(0, .ref h0), (1, .int (p1)), (2, .int (p2)), (3, .int (p3))] := hl
  refine lv_aload_n hx hb dX1_write_0 rfl (lv_at hl 0 rfl) ?_
  refine lv_iload_n hx hb dX1_write_1 rfl (lv_at hl 1 rfl) ?_
  refine vp_callSi (va_Run.run (va_runV (As := [.int (p1)]) (rest := []) ⟨hx, hb, hml, hown, hts⟩ (k1_isPage l h0 p1) (cwV 1 hts gX1_write_X1_isPage rfl rfl rfl (by decide +kernel) ⟨Nat.le_of_ble_eq_true rfl, Nat.le_of_ble_eq_true rfl⟩) ⟨bl_T, va_recv hK hP (ci := 1) (q0 := 0) rfl rfl, fun U hU hW => ⟨rfl, trivial⟩⟩ rfl rfl hl.1 rfl (lv_room (Nat.le_of_ble_eq_true rfl)) dX1_write_2 ⟨Nat.zero_le _, Nat.zero_le _⟩)) (fun r_2 hr_2 => ?_)
  obtain rfl : r_2 = (bI (okP 24 p1)) := hr_2
  refine lv_if_ne (tgt := 10) hx hb dX1_write_5 (by decide) (fun c_5 => ?_) (fun c_5 => ?_)
  · have hb_5 : (okP 24 p1) = true := bI_t c_5
    obtain ⟨j1, hj1, rfl⟩ := okP_of hb_5 (by decide)
    have hg_j1 : pg (nI j1) = j1 := pg_nI (by omega)
    refine lv_iload_n hx hb dX1_write_10 rfl (lv_at hl 2 rfl) ?_
    refine lv_if_lt (tgt := 19) hx hb dX1_write_11 (by decide) (fun c_11 => ?_) (fun c_11 => ?_)
    · have ho2 : okP 4 p2 = false := okP_neg c_11
      refine lv_bipush (v := (-2)) hx hb dX1_write_19 (by decide +kernel) ?_
      have eW : w_write w (nI j1) p2 p3 = w := by simp [s_read, w_write, h_write, hb_5, hg_j1, ho2]
      have eH : h_write h (nI j1) p2 = h := by simp [s_read, w_write, h_write, hb_5, hg_j1, ho2]
      have eR : (-2) = s_read w (nI j1) p2 := by simp [s_read, w_write, h_write, hb_5, hg_j1, ho2]
      exact W.iret (v := (-2)) hx hb hr (fun t ht hW => ⟨⟨_, (), rfl, eR, by rw [eW, eH, ht]; exact hP, va_K.moved hW.alike hK, by rw [eW, eH]; exact hD⟩, hS.F ht⟩) hS.2.2 dX1_write_21
    · refine lv_iload_n hx hb dX1_write_14 rfl (lv_at hl 2 rfl) ?_
      refine lv_iconst (v := (nI 3)) hx hb dX1_write_15 (by decide +kernel) ?_
      refine lv_icmp_le (tgt := 22) hx hb dX1_write_16 (by decide) (fun c_16 => ?_) (fun c_16 => ?_)
      · have ho2 : okP 4 p2 = true := okP_le (n := 3) (by decide) c_11 c_16
        obtain ⟨j2, hj2, rfl⟩ := okP_of ho2 (by decide)
        have hg_j2 : pg (nI j2) = j2 := pg_nI (by omega)
        refine lv_aload_n hx hb dX1_write_22 rfl (lv_at hl 0 rfl) ?_
        refine va_get (D := (dC, dI)) (ci := 1) (v := .ref qa) (C := RX1) (T := TX1) (N := 2) hx hb hts hin0 hown hK hP 0 rfl rfl 0 (by decide) hf7 (fun _ h9 => h9) rfl dX1_write_23 ?_
        refine lv_iload_n hx hb dX1_write_26 rfl (lv_at hl 1 rfl) ?_
        refine lv_iconst (v := (nI 4)) hx hb dX1_write_27 (by decide +kernel) ?_
        refine my_mul hx hb dX1_write_28 ?_
        refine lv_iload_n hx hb dX1_write_29 rfl (lv_at hl 2 rfl) ?_
        refine my_add hx hb dX1_write_30 ?_
        refine my_iald hx hb hK hP 1 0 rfl rfl (by omega) (by decide) dX1_write_31 ?_
        refine lv_istore (lv' := [(4, .int (w (j1 * 4 + j2))), (0, .ref h0), (1, .int (nI j1)), (2, .int (nI j2)), (3, .int (p3))]) hx hb dX1_write_32 hl (by decide) rfl (fun ls hl => ?_)
        refine lv_aload_n hx hb dX1_write_34 rfl (lv_at hl 1 rfl) ?_
        refine va_get (D := (dC, dI)) (ci := 1) (v := .ref qa) (C := RX1) (T := TX1) (N := 2) hx hb hts hin0 hown hK hP 0 rfl rfl 0 (by decide) hf7 (fun _ h9 => h9) rfl dX1_write_35 ?_
        refine lv_iload_n hx hb dX1_write_38 rfl (lv_at hl 2 rfl) ?_
        refine lv_iconst (v := (nI 4)) hx hb dX1_write_39 (by decide +kernel) ?_
        refine my_mul hx hb dX1_write_40 ?_
        refine lv_iload_n hx hb dX1_write_41 rfl (lv_at hl 3 rfl) ?_
        refine my_add hx hb dX1_write_42 ?_
        refine lv_iload_n hx hb dX1_write_43 rfl (lv_at hl 4 rfl) ?_
        refine my_iast hx hb hK hP hD hS 1 0 rfl rfl (by omega) (by decide) dX1_write_44 (fun H locs hP hD hS => ?_)
        have hP : va_P (dC, dI) vwCl (W1 h0 qa qb cI cZ (upd w (j1 * 4 + j2) p3) h) H := hP
        have hD : va_D A (W1 h0 qa qb cI cZ (upd w (j1 * 4 + j2) p3) h) := hD
        refine lv_aload_n hx hb dX1_write_45 rfl (lv_at hl 1 rfl) ?_
        refine va_get (D := (dC, dI)) (ci := 1) (v := .ref qb) (C := RX1) (T := TX1) (N := 2) hx hb hts hin0 hown hK hP 0 rfl rfl 1 (by decide) hf13 (fun _ h9 => h9) rfl dX1_write_46 ?_
        refine lv_iload_n hx hb dX1_write_49 rfl (lv_at hl 2 rfl) ?_
        refine lv_iconst (v := (nI 0)) hx hb dX1_write_50 (by decide +kernel) ?_
        refine my_zastN hx hb hK hP hD hS 2 1 rfl rfl true bI_0 (by omega) (by decide) dX1_write_51 (fun H locs hP hD hS => ?_)
        have hP : va_P (dC, dI) vwCl (W1 h0 qa qb cI cZ (upd w (j1 * 4 + j2) p3) (updB h j1 true)) H := hP
        have hD : va_D A (W1 h0 qa qb cI cZ (upd w (j1 * 4 + j2) p3) (updB h j1 true)) := hD
        refine lv_iload hx hb dX1_write_52 (lv_at hl 0 rfl) ?_
        have eW : w_write w (nI j1) (nI j2) p3 = upd w (j1 * 4 + j2) p3 := by simp [s_read, w_write, h_write, hb_5, hg_j1, ho2, hg_j2]
        have eH : h_write h (nI j1) (nI j2) = updB h j1 true := by simp [s_read, w_write, h_write, hb_5, hg_j1, ho2, hg_j2]
        have eR : (w (j1 * 4 + j2)) = s_read w (nI j1) (nI j2) := by simp [s_read, w_write, h_write, hb_5, hg_j1, ho2, hg_j2]
        exact W.iret (v := (w (j1 * 4 + j2))) hx hb hr (fun t ht hW => ⟨⟨_, (), rfl, eR, by rw [eW, eH, ht]; exact hP, va_K.moved hW.alike hK, by rw [eW, eH]; exact hD⟩, hS.F ht⟩) hS.2.2 dX1_write_54
      · have ho2 : okP 4 p2 = false := okP_nle (n := 3) (by decide) c_16
        refine lv_bipush (v := (-2)) hx hb dX1_write_19 (by decide +kernel) ?_
        have eW : w_write w (nI j1) p2 p3 = w := by simp [s_read, w_write, h_write, hb_5, hg_j1, ho2]
        have eH : h_write h (nI j1) p2 = h := by simp [s_read, w_write, h_write, hb_5, hg_j1, ho2]
        have eR : (-2) = s_read w (nI j1) p2 := by simp [s_read, w_write, h_write, hb_5, hg_j1, ho2]
        exact W.iret (v := (-2)) hx hb hr (fun t ht hW => ⟨⟨_, (), rfl, eR, by rw [eW, eH, ht]; exact hP, va_K.moved hW.alike hK, by rw [eW, eH]; exact hD⟩, hS.F ht⟩) hS.2.2 dX1_write_21
  · have hb_5 : (okP 24 p1) = false := bI_f c_5
    refine lv_iconst (v := (-1)) hx hb dX1_write_8 (by decide +kernel) ?_
    have eW : w_write w p1 p2 p3 = w := by simp [s_read, w_write, h_write, hb_5]
    have eH : h_write h p1 p2 = h := by simp [s_read, w_write, h_write, hb_5]
    have eR : (-1) = s_read w p1 p2 := by simp [s_read, w_write, h_write, hb_5]
    exact W.iret (v := (-1)) hx hb hr (fun t ht hW => ⟨⟨_, (), rfl, eR, by rw [eW, eH, ht]; exact hP, va_K.moved hW.alike hK, by rw [eW, eH]; exact hD⟩, hS.F ht⟩) hS.2.2 dX1_write_9
set_option maxHeartbeats 4000000 in
set_option maxRecDepth 100000 in
theorem k1_fill (l : Launch) (dC : Nat → ClassId) (dI : Nat → Nat → Nat) (h0 qa qb : Nat) (cI cZ : ClassId) (sz : Nat) (w : Nat → Int32) (h : Nat → Bool) (p1 : Int32) (p2 : Int32)  : Met l yX1_fill wsX1_fill ({ frames := 1, cells := 0, slots := 0, locals := 21 }) (va_Pc [.ref h0, .int (p1), .int (p2)] (fun U => U.heap.size = sz ∧ va_P (dC, dI) vwCl (W1 h0 qa qb cI cZ w h) U.heap ∧ va_K (dC, dI) vwCl (TY cI cZ) U ∧ va_D (fun _ => True) (W1 h0 qa qb cI cZ w h))) (va_Qi (fun r (_ : Unit) => r = s_page p1) (fun _ t => va_P (dC, dI) vwCl (W1 h0 qa qb cI cZ (w_fill w p1 p2) (h_fill h p1)) t.heap ∧ va_K (dC, dI) vwCl (TY cI cZ) t ∧ va_D (va_A (W1 h0 qa qb cI cZ w h) sz) (W1 h0 qa qb cI cZ (w_fill w p1 p2) (h_fill h p1))) (va_A (W1 h0 qa qb cI cZ w h) sz)) 0 0 (va_A (W1 h0 qa qb cI cZ w h) sz) := by
  refine Met.ofW (cc := cX1_fill) (maxL := 4) (ret := (some .int)) (by decide) rfl ?_
  intro p e s m args below meth c s₁ B hml hv
  obtain ⟨rfl, hsz, hP, hK, hD0⟩ := hv
  have hx := B.exec
  have hb := B.bytes
  have hr := B.returns
  have hlocks := B.notSynchronized
  have hts := atoms_spec (ws := wsX1_fill) B.pre
  have hown : s.vm.findClass RX1 = some m.cls := findClass_of_methodNamed B.named
  have hin0 : ∀ w ∈ wsX10, w ∈ wsX1_fill := by decide +kernel
  have hf7 := hts (.fieldLink RX1 7 "PageMergerModel" "words" "[I") (by decide +kernel)
  have hf13 := hts (.fieldLink RX1 13 "PageMergerModel" "released" "[Z") (by decide +kernel)
  subst hsz
  have hD := hD0.self (sz := s.heap.size)
  generalize hAe : va_A (W1 h0 qa qb cI cZ w h) s.heap.size = A at hD ⊢
  have hA : ∀ q : Nat, s.heap.size ≤ q → A q := fun q h => by rw [← hAe]; exact Or.inr h
  have hS : va_S A s.heap s.heap [] := va_S.rf
  have hl := lv_entry ([.ref h0, .int (p1), .int (p2)]) (n := 4) (Nat.le_of_ble_eq_true rfl)
  rw [lg_entry_eq]
  generalize (lg_sl ([.ref h0, .int (p1), .int (p2)]) ++ List.replicate (4 - (lg_sl ([.ref h0, .int (p1), .int (p2)])).length) Slot.unset).toArray = ls at hl ⊢
  have hl : lv_has ls 4 [(0, .ref h0), (1, .int (p1)), (2, .int (p2))] := hl
  refine lv_aload_n hx hb dX1_fill_0 rfl (lv_at hl 0 rfl) ?_
  refine lv_iload_n hx hb dX1_fill_1 rfl (lv_at hl 1 rfl) ?_
  refine vp_callSi (va_Run.run (va_runV (As := [.int (p1)]) (rest := []) ⟨hx, hb, hml, hown, hts⟩ (k1_isPage l h0 p1) (cwV 1 hts gX1_fill_X1_isPage rfl rfl rfl (by decide +kernel) ⟨Nat.le_of_ble_eq_true rfl, Nat.le_of_ble_eq_true rfl⟩) ⟨bl_T, va_recv hK hP (ci := 1) (q0 := 0) rfl rfl, fun U hU hW => ⟨rfl, trivial⟩⟩ rfl rfl hl.1 rfl (lv_room (Nat.le_of_ble_eq_true rfl)) dX1_fill_2 ⟨Nat.zero_le _, Nat.zero_le _⟩)) (fun r_2 hr_2 => ?_)
  obtain rfl : r_2 = (bI (okP 24 p1)) := hr_2
  refine lv_if_ne (tgt := 10) hx hb dX1_fill_5 (by decide) (fun c_5 => ?_) (fun c_5 => ?_)
  · have hb_5 : (okP 24 p1) = true := bI_t c_5
    obtain ⟨j1, hj1, rfl⟩ := okP_of hb_5 (by decide)
    have hg_j1 : pg (nI j1) = j1 := pg_nI (by omega)
    refine lv_iconst (v := (nI 0)) hx hb dX1_fill_10 (by decide +kernel) ?_
    refine lv_istore_n (lv' := [(3, .int (nI 0)), (0, .ref h0), (1, .int (nI j1)), (2, .int (p2))]) hx hb dX1_fill_11 rfl hl (by decide) rfl (fun ls hl => ?_)
    refine lp_Q 12 4 (fun i12 H locs ls => lv_has ls 4 [(3, .int (nI i12)), (0, .ref h0), (1, .int (nI j1)), (2, .int (p2))] ∧ va_P (dC, dI) vwCl (W1 h0 qa qb cI cZ (fillN w j1 p2 i12) h) H ∧ va_D A (W1 h0 qa qb cI cZ (fillN w j1 p2 i12) h) ∧ va_S A s.heap H locs) (fun i12 H locs ls hi_12 hI hnx_12 => ?_) 0 (by omega) _ _ ls ⟨lv_sub hl [0, 1, 2, 3] rfl, hP, hD, hS⟩
    obtain ⟨hl, hP, hD, hS⟩ := hI
    refine lv_iload_n hx hb dX1_fill_12 rfl (lv_at hl 0 rfl) ?_
    refine lv_iconst (v := (nI 4)) hx hb dX1_fill_13 (by decide +kernel) ?_
    refine lv_icmp_ge (tgt := 34) hx hb dX1_fill_14 (by decide) (fun c_14 => ?_) (fun c_14 => ?_)
    · have hq_14 : 4 ≤ i12 := (nI_leI (by omega) (by omega)).mp c_14
      have hE_14 : i12 = 4 := by omega
      subst hE_14
      refine lv_aload_n hx hb dX1_fill_34 rfl (lv_at hl 1 rfl) ?_
      refine va_get (D := (dC, dI)) (ci := 1) (v := .ref qb) (C := RX1) (T := TX1) (N := 2) hx hb hts hin0 hown hK hP 0 rfl rfl 1 (by decide) hf13 (fun _ h9 => h9) rfl dX1_fill_35 ?_
      refine lv_iload_n hx hb dX1_fill_38 rfl (lv_at hl 2 rfl) ?_
      refine lv_iconst (v := (nI 0)) hx hb dX1_fill_39 (by decide +kernel) ?_
      refine my_zastN hx hb hK hP hD hS 2 1 rfl rfl true bI_0 (by omega) (by decide) dX1_fill_40 (fun H locs hP hD hS => ?_)
      have hP : va_P (dC, dI) vwCl (W1 h0 qa qb cI cZ (fillN w j1 p2 4) (updB h j1 true)) H := hP
      have hD : va_D A (W1 h0 qa qb cI cZ (fillN w j1 p2 4) (updB h j1 true)) := hD
      refine lv_iconst (v := (nI 0)) hx hb dX1_fill_41 (by decide +kernel) ?_
      have eW : w_fill w (nI j1) p2 = fillN w j1 p2 4 := by simp [s_page, w_fill, h_fill, hb_5, hg_j1]
      have eH : h_fill h (nI j1) = updB h j1 true := by simp [s_page, w_fill, h_fill, hb_5, hg_j1]
      have eR : (nI 0) = s_page (nI j1) := by simp [s_page, w_fill, h_fill, hb_5, hg_j1, nI_0]
      exact W.iret (v := (nI 0)) hx hb hr (fun t ht hW => ⟨⟨_, (), rfl, eR, by rw [eW, eH, ht]; exact hP, va_K.moved hW.alike hK, by rw [eW, eH]; exact hD⟩, hS.F ht⟩) hS.2.2 dX1_fill_42
    · have hlt_12 : i12 < 4 := Nat.lt_of_not_le (fun q => c_14 ((nI_leI (by omega) (by omega)).mpr q))
      refine lv_aload_n hx hb dX1_fill_17 rfl (lv_at hl 1 rfl) ?_
      refine va_get (D := (dC, dI)) (ci := 1) (v := .ref qa) (C := RX1) (T := TX1) (N := 2) hx hb hts hin0 hown hK hP 0 rfl rfl 0 (by decide) hf7 (fun _ h9 => h9) rfl dX1_fill_18 ?_
      refine lv_iload_n hx hb dX1_fill_21 rfl (lv_at hl 2 rfl) ?_
      refine lv_iconst (v := (nI 4)) hx hb dX1_fill_22 (by decide +kernel) ?_
      refine my_mul hx hb dX1_fill_23 ?_
      refine lv_iload_n hx hb dX1_fill_24 rfl (lv_at hl 0 rfl) ?_
      refine my_add hx hb dX1_fill_25 ?_
      refine lv_iload_n hx hb dX1_fill_26 rfl (lv_at hl 3 rfl) ?_
      refine my_iast hx hb hK hP hD hS 1 0 rfl rfl (by omega) (by decide) dX1_fill_27 (fun H locs hP hD hS => ?_)
      have hP : va_P (dC, dI) vwCl (W1 h0 qa qb cI cZ (upd (fillN w j1 p2 i12) (j1 * 4 + i12) p2) h) H := hP
      have hD : va_D A (W1 h0 qa qb cI cZ (upd (fillN w j1 p2 i12) (j1 * 4 + i12) p2) h) := hD
      refine lv_iinc (v := (nI (i12 + 1))) (lv' := [(3, .int (nI (i12 + 1))), (0, .ref h0), (1, .int (nI j1)), (2, .int (p2))]) hx hb dX1_fill_28 hl (k := 0) rfl (nI_1 _) (by decide) rfl (fun ls hl => ?_)
      refine lv_goto (tgt := 12) hx hb dX1_fill_31 (by decide) ?_
      exact hnx_12 hlt_12 _ _ ls ⟨lv_sub hl [0, 1, 2, 3] rfl, hP, hD, hS⟩
  · have hb_5 : (okP 24 p1) = false := bI_f c_5
    refine lv_iconst (v := (-1)) hx hb dX1_fill_8 (by decide +kernel) ?_
    have eW : w_fill w p1 p2 = w := by simp [s_page, w_fill, h_fill, hb_5]
    have eH : h_fill h p1 = h := by simp [s_page, w_fill, h_fill, hb_5]
    have eR : (-1) = s_page p1 := by simp [s_page, w_fill, h_fill, hb_5, nI_0]
    exact W.iret (v := (-1)) hx hb hr (fun t ht hW => ⟨⟨_, (), rfl, eR, by rw [eW, eH, ht]; exact hP, va_K.moved hW.alike hK, by rw [eW, eH]; exact hD⟩, hS.F ht⟩) hS.2.2 dX1_fill_9
set_option maxHeartbeats 4000000 in
set_option maxRecDepth 100000 in
theorem k1_copy (l : Launch) (dC : Nat → ClassId) (dI : Nat → Nat → Nat) (h0 qa qb : Nat) (cI cZ : ClassId) (sz : Nat) (w : Nat → Int32) (h : Nat → Bool) (p1 : Int32) (p2 : Int32)  : Met l yX1_copy wsX1_copy ({ frames := 1, cells := 0, slots := 0, locals := 21 }) (va_Pc [.ref h0, .int (p1), .int (p2)] (fun U => U.heap.size = sz ∧ va_P (dC, dI) vwCl (W1 h0 qa qb cI cZ w h) U.heap ∧ va_K (dC, dI) vwCl (TY cI cZ) U ∧ va_D (fun _ => True) (W1 h0 qa qb cI cZ w h))) (va_Qi (fun r (_ : Unit) => r = s_two p1 p2) (fun _ t => va_P (dC, dI) vwCl (W1 h0 qa qb cI cZ (w_copy w p1 p2) (h_copy h p1 p2)) t.heap ∧ va_K (dC, dI) vwCl (TY cI cZ) t ∧ va_D (va_A (W1 h0 qa qb cI cZ w h) sz) (W1 h0 qa qb cI cZ (w_copy w p1 p2) (h_copy h p1 p2))) (va_A (W1 h0 qa qb cI cZ w h) sz)) 0 0 (va_A (W1 h0 qa qb cI cZ w h) sz) := by
  refine Met.ofW (cc := cX1_copy) (maxL := 4) (ret := (some .int)) (by decide) rfl ?_
  intro p e s m args below meth c s₁ B hml hv
  obtain ⟨rfl, hsz, hP, hK, hD0⟩ := hv
  have hx := B.exec
  have hb := B.bytes
  have hr := B.returns
  have hlocks := B.notSynchronized
  have hts := atoms_spec (ws := wsX1_copy) B.pre
  have hown : s.vm.findClass RX1 = some m.cls := findClass_of_methodNamed B.named
  have hin0 : ∀ w ∈ wsX10, w ∈ wsX1_copy := by decide +kernel
  have hf7 := hts (.fieldLink RX1 7 "PageMergerModel" "words" "[I") (by decide +kernel)
  have hf13 := hts (.fieldLink RX1 13 "PageMergerModel" "released" "[Z") (by decide +kernel)
  subst hsz
  have hD := hD0.self (sz := s.heap.size)
  generalize hAe : va_A (W1 h0 qa qb cI cZ w h) s.heap.size = A at hD ⊢
  have hA : ∀ q : Nat, s.heap.size ≤ q → A q := fun q h => by rw [← hAe]; exact Or.inr h
  have hS : va_S A s.heap s.heap [] := va_S.rf
  have hl := lv_entry ([.ref h0, .int (p1), .int (p2)]) (n := 4) (Nat.le_of_ble_eq_true rfl)
  rw [lg_entry_eq]
  generalize (lg_sl ([.ref h0, .int (p1), .int (p2)]) ++ List.replicate (4 - (lg_sl ([.ref h0, .int (p1), .int (p2)])).length) Slot.unset).toArray = ls at hl ⊢
  have hl : lv_has ls 4 [(0, .ref h0), (1, .int (p1)), (2, .int (p2))] := hl
  refine lv_aload_n hx hb dX1_copy_0 rfl (lv_at hl 0 rfl) ?_
  refine lv_iload_n hx hb dX1_copy_1 rfl (lv_at hl 1 rfl) ?_
  refine vp_callSi (va_Run.run (va_runV (As := [.int (p1)]) (rest := []) ⟨hx, hb, hml, hown, hts⟩ (k1_isPage l h0 p1) (cwV 1 hts gX1_copy_X1_isPage rfl rfl rfl (by decide +kernel) ⟨Nat.le_of_ble_eq_true rfl, Nat.le_of_ble_eq_true rfl⟩) ⟨bl_T, va_recv hK hP (ci := 1) (q0 := 0) rfl rfl, fun U hU hW => ⟨rfl, trivial⟩⟩ rfl rfl hl.1 rfl (lv_room (Nat.le_of_ble_eq_true rfl)) dX1_copy_2 ⟨Nat.zero_le _, Nat.zero_le _⟩)) (fun r_2 hr_2 => ?_)
  obtain rfl : r_2 = (bI (okP 24 p1)) := hr_2
  refine lv_if_eq (tgt := 16) hx hb dX1_copy_5 (by decide) (fun c_5 => ?_) (fun c_5 => ?_)
  · have hb_5 : (okP 24 p1) = false := bI_f c_5
    refine lv_iconst (v := (-1)) hx hb dX1_copy_16 (by decide +kernel) ?_
    have eW : w_copy w p1 p2 = w := by simp [s_two, w_copy, h_copy, hb_5]
    have eH : h_copy h p1 p2 = h := by simp [s_two, w_copy, h_copy, hb_5]
    have eR : (-1) = s_two p1 p2 := by simp [s_two, w_copy, h_copy, hb_5, nI_0]
    exact W.iret (v := (-1)) hx hb hr (fun t ht hW => ⟨⟨_, (), rfl, eR, by rw [eW, eH, ht]; exact hP, va_K.moved hW.alike hK, by rw [eW, eH]; exact hD⟩, hS.F ht⟩) hS.2.2 dX1_copy_17
  · have hb_5 : (okP 24 p1) = true := bI_t c_5
    obtain ⟨j1, hj1, rfl⟩ := okP_of hb_5 (by decide)
    have hg_j1 : pg (nI j1) = j1 := pg_nI (by omega)
    refine lv_aload_n hx hb dX1_copy_8 rfl (lv_at hl 0 rfl) ?_
    refine lv_iload_n hx hb dX1_copy_9 rfl (lv_at hl 2 rfl) ?_
    refine vp_callSi (va_Run.run (va_runV (As := [.int (p2)]) (rest := []) ⟨hx, hb, hml, hown, hts⟩ (k1_isPage l h0 p2) (cwV 1 hts gX1_copy_X1_isPage rfl rfl rfl (by decide +kernel) ⟨Nat.le_of_ble_eq_true rfl, Nat.le_of_ble_eq_true rfl⟩) ⟨bl_T, va_recv hK hP (ci := 1) (q0 := 0) rfl rfl, fun U hU hW => ⟨rfl, trivial⟩⟩ rfl rfl hl.1 rfl (lv_room (Nat.le_of_ble_eq_true rfl)) dX1_copy_10 ⟨Nat.zero_le _, Nat.zero_le _⟩)) (fun r_10 hr_10 => ?_)
    obtain rfl : r_10 = (bI (okP 24 p2)) := hr_10
    refine lv_if_ne (tgt := 18) hx hb dX1_copy_13 (by decide) (fun c_13 => ?_) (fun c_13 => ?_)
    · have hb_13 : (okP 24 p2) = true := bI_t c_13
      obtain ⟨j2, hj2, rfl⟩ := okP_of hb_13 (by decide)
      have hg_j2 : pg (nI j2) = j2 := pg_nI (by omega)
      refine lv_iconst (v := (nI 0)) hx hb dX1_copy_18 (by decide +kernel) ?_
      refine lv_istore_n (lv' := [(3, .int (nI 0)), (0, .ref h0), (1, .int (nI j1)), (2, .int (nI j2))]) hx hb dX1_copy_19 rfl hl (by decide) rfl (fun ls hl => ?_)
      refine lp_Q 20 4 (fun i20 H locs ls => lv_has ls 4 [(3, .int (nI i20)), (0, .ref h0), (1, .int (nI j1)), (2, .int (nI j2))] ∧ va_P (dC, dI) vwCl (W1 h0 qa qb cI cZ (copyN w j1 j2 i20) h) H ∧ va_D A (W1 h0 qa qb cI cZ (copyN w j1 j2 i20) h) ∧ va_S A s.heap H locs) (fun i20 H locs ls hi_20 hI hnx_20 => ?_) 0 (by omega) _ _ ls ⟨lv_sub hl [0, 1, 2, 3] rfl, hP, hD, hS⟩
      obtain ⟨hl, hP, hD, hS⟩ := hI
      refine lv_iload_n hx hb dX1_copy_20 rfl (lv_at hl 0 rfl) ?_
      refine lv_iconst (v := (nI 4)) hx hb dX1_copy_21 (by decide +kernel) ?_
      refine lv_icmp_ge (tgt := 51) hx hb dX1_copy_22 (by decide) (fun c_22 => ?_) (fun c_22 => ?_)
      · have hq_22 : 4 ≤ i20 := (nI_leI (by omega) (by omega)).mp c_22
        have hE_22 : i20 = 4 := by omega
        subst hE_22
        refine lv_aload_n hx hb dX1_copy_51 rfl (lv_at hl 1 rfl) ?_
        refine va_get (D := (dC, dI)) (ci := 1) (v := .ref qb) (C := RX1) (T := TX1) (N := 2) hx hb hts hin0 hown hK hP 0 rfl rfl 1 (by decide) hf13 (fun _ h9 => h9) rfl dX1_copy_52 ?_
        refine lv_iload_n hx hb dX1_copy_55 rfl (lv_at hl 3 rfl) ?_
        refine lv_aload_n hx hb dX1_copy_56 rfl (lv_at hl 1 rfl) ?_
        refine va_get (D := (dC, dI)) (ci := 1) (v := .ref qb) (C := RX1) (T := TX1) (N := 2) hx hb hts hin0 hown hK hP 0 rfl rfl 1 (by decide) hf13 (fun _ h9 => h9) rfl dX1_copy_57 ?_
        refine lv_iload_n hx hb dX1_copy_60 rfl (lv_at hl 2 rfl) ?_
        refine my_zaldN hx hb hK hP 2 1 rfl rfl (by omega) (by decide) dX1_copy_61 ?_
        refine my_zastN hx hb hK hP hD hS 2 1 rfl rfl (h j1) rfl (by omega) (by decide) dX1_copy_62 (fun H locs hP hD hS => ?_)
        have hP : va_P (dC, dI) vwCl (W1 h0 qa qb cI cZ (copyN w j1 j2 4) (updB h j2 (h j1))) H := hP
        have hD : va_D A (W1 h0 qa qb cI cZ (copyN w j1 j2 4) (updB h j2 (h j1))) := hD
        refine lv_iconst (v := (nI 0)) hx hb dX1_copy_63 (by decide +kernel) ?_
        have eW : w_copy w (nI j1) (nI j2) = copyN w j1 j2 4 := by simp [s_two, w_copy, h_copy, hb_5, hg_j1, hb_13, hg_j2]
        have eH : h_copy h (nI j1) (nI j2) = updB h j2 (h j1) := by simp [s_two, w_copy, h_copy, hb_5, hg_j1, hb_13, hg_j2]
        have eR : (nI 0) = s_two (nI j1) (nI j2) := by simp [s_two, w_copy, h_copy, hb_5, hg_j1, hb_13, hg_j2, nI_0]
        exact W.iret (v := (nI 0)) hx hb hr (fun t ht hW => ⟨⟨_, (), rfl, eR, by rw [eW, eH, ht]; exact hP, va_K.moved hW.alike hK, by rw [eW, eH]; exact hD⟩, hS.F ht⟩) hS.2.2 dX1_copy_64
      · have hlt_20 : i20 < 4 := Nat.lt_of_not_le (fun q => c_22 ((nI_leI (by omega) (by omega)).mpr q))
        refine lv_aload_n hx hb dX1_copy_25 rfl (lv_at hl 1 rfl) ?_
        refine va_get (D := (dC, dI)) (ci := 1) (v := .ref qa) (C := RX1) (T := TX1) (N := 2) hx hb hts hin0 hown hK hP 0 rfl rfl 0 (by decide) hf7 (fun _ h9 => h9) rfl dX1_copy_26 ?_
        refine lv_iload_n hx hb dX1_copy_29 rfl (lv_at hl 3 rfl) ?_
        refine lv_iconst (v := (nI 4)) hx hb dX1_copy_30 (by decide +kernel) ?_
        refine my_mul hx hb dX1_copy_31 ?_
        refine lv_iload_n hx hb dX1_copy_32 rfl (lv_at hl 0 rfl) ?_
        refine my_add hx hb dX1_copy_33 ?_
        refine lv_aload_n hx hb dX1_copy_34 rfl (lv_at hl 1 rfl) ?_
        refine va_get (D := (dC, dI)) (ci := 1) (v := .ref qa) (C := RX1) (T := TX1) (N := 2) hx hb hts hin0 hown hK hP 0 rfl rfl 0 (by decide) hf7 (fun _ h9 => h9) rfl dX1_copy_35 ?_
        refine lv_iload_n hx hb dX1_copy_38 rfl (lv_at hl 2 rfl) ?_
        refine lv_iconst (v := (nI 4)) hx hb dX1_copy_39 (by decide +kernel) ?_
        refine my_mul hx hb dX1_copy_40 ?_
        refine lv_iload_n hx hb dX1_copy_41 rfl (lv_at hl 0 rfl) ?_
        refine my_add hx hb dX1_copy_42 ?_
        refine my_iald hx hb hK hP 1 0 rfl rfl (by omega) (by decide) dX1_copy_43 ?_
        refine my_iast hx hb hK hP hD hS 1 0 rfl rfl (by omega) (by decide) dX1_copy_44 (fun H locs hP hD hS => ?_)
        have hP : va_P (dC, dI) vwCl (W1 h0 qa qb cI cZ (upd (copyN w j1 j2 i20) (j2 * 4 + i20) ((copyN w j1 j2 i20) (j1 * 4 + i20))) h) H := hP
        have hD : va_D A (W1 h0 qa qb cI cZ (upd (copyN w j1 j2 i20) (j2 * 4 + i20) ((copyN w j1 j2 i20) (j1 * 4 + i20))) h) := hD
        refine lv_iinc (v := (nI (i20 + 1))) (lv' := [(3, .int (nI (i20 + 1))), (0, .ref h0), (1, .int (nI j1)), (2, .int (nI j2))]) hx hb dX1_copy_45 hl (k := 0) rfl (nI_1 _) (by decide) rfl (fun ls hl => ?_)
        refine lv_goto (tgt := 20) hx hb dX1_copy_48 (by decide) ?_
        exact hnx_20 hlt_20 _ _ ls ⟨lv_sub hl [0, 1, 2, 3] rfl, hP, hD, hS⟩
    · have hb_13 : (okP 24 p2) = false := bI_f c_13
      refine lv_iconst (v := (-1)) hx hb dX1_copy_16 (by decide +kernel) ?_
      have eW : w_copy w (nI j1) p2 = w := by simp [s_two, w_copy, h_copy, hb_5, hg_j1, hb_13]
      have eH : h_copy h (nI j1) p2 = h := by simp [s_two, w_copy, h_copy, hb_5, hg_j1, hb_13]
      have eR : (-1) = s_two (nI j1) p2 := by simp [s_two, w_copy, h_copy, hb_5, hg_j1, hb_13, nI_0]
      exact W.iret (v := (-1)) hx hb hr (fun t ht hW => ⟨⟨_, (), rfl, eR, by rw [eW, eH, ht]; exact hP, va_K.moved hW.alike hK, by rw [eW, eH]; exact hD⟩, hS.F ht⟩) hS.2.2 dX1_copy_17
set_option maxHeartbeats 4000000 in
set_option maxRecDepth 100000 in
theorem k1_swap (l : Launch) (dC : Nat → ClassId) (dI : Nat → Nat → Nat) (h0 qa qb : Nat) (cI cZ : ClassId) (sz : Nat) (w : Nat → Int32) (h : Nat → Bool) (p1 : Int32) (p2 : Int32)  : Met l yX1_swap wsX1_swap ({ frames := 1, cells := 0, slots := 0, locals := 21 }) (va_Pc [.ref h0, .int (p1), .int (p2)] (fun U => U.heap.size = sz ∧ va_P (dC, dI) vwCl (W1 h0 qa qb cI cZ w h) U.heap ∧ va_K (dC, dI) vwCl (TY cI cZ) U ∧ va_D (fun _ => True) (W1 h0 qa qb cI cZ w h))) (va_Qi (fun r (_ : Unit) => r = s_two p1 p2) (fun _ t => va_P (dC, dI) vwCl (W1 h0 qa qb cI cZ (w_swap w p1 p2) (h_swap h p1 p2)) t.heap ∧ va_K (dC, dI) vwCl (TY cI cZ) t ∧ va_D (va_A (W1 h0 qa qb cI cZ w h) sz) (W1 h0 qa qb cI cZ (w_swap w p1 p2) (h_swap h p1 p2))) (va_A (W1 h0 qa qb cI cZ w h) sz)) 0 0 (va_A (W1 h0 qa qb cI cZ w h) sz) := by
  refine Met.ofW (cc := cX1_swap) (maxL := 5) (ret := (some .int)) (by decide) rfl ?_
  intro p e s m args below meth c s₁ B hml hv
  obtain ⟨rfl, hsz, hP, hK, hD0⟩ := hv
  have hx := B.exec
  have hb := B.bytes
  have hr := B.returns
  have hlocks := B.notSynchronized
  have hts := atoms_spec (ws := wsX1_swap) B.pre
  have hown : s.vm.findClass RX1 = some m.cls := findClass_of_methodNamed B.named
  have hin0 : ∀ w ∈ wsX10, w ∈ wsX1_swap := by decide +kernel
  have hf7 := hts (.fieldLink RX1 7 "PageMergerModel" "words" "[I") (by decide +kernel)
  have hf13 := hts (.fieldLink RX1 13 "PageMergerModel" "released" "[Z") (by decide +kernel)
  subst hsz
  have hD := hD0.self (sz := s.heap.size)
  generalize hAe : va_A (W1 h0 qa qb cI cZ w h) s.heap.size = A at hD ⊢
  have hA : ∀ q : Nat, s.heap.size ≤ q → A q := fun q h => by rw [← hAe]; exact Or.inr h
  have hS : va_S A s.heap s.heap [] := va_S.rf
  have hl := lv_entry ([.ref h0, .int (p1), .int (p2)]) (n := 5) (Nat.le_of_ble_eq_true rfl)
  rw [lg_entry_eq]
  generalize (lg_sl ([.ref h0, .int (p1), .int (p2)]) ++ List.replicate (5 - (lg_sl ([.ref h0, .int (p1), .int (p2)])).length) Slot.unset).toArray = ls at hl ⊢
  have hl : lv_has ls 5 [(0, .ref h0), (1, .int (p1)), (2, .int (p2))] := hl
  refine lv_aload_n hx hb dX1_swap_0 rfl (lv_at hl 0 rfl) ?_
  refine lv_iload_n hx hb dX1_swap_1 rfl (lv_at hl 1 rfl) ?_
  refine vp_callSi (va_Run.run (va_runV (As := [.int (p1)]) (rest := []) ⟨hx, hb, hml, hown, hts⟩ (k1_isPage l h0 p1) (cwV 1 hts gX1_swap_X1_isPage rfl rfl rfl (by decide +kernel) ⟨Nat.le_of_ble_eq_true rfl, Nat.le_of_ble_eq_true rfl⟩) ⟨bl_T, va_recv hK hP (ci := 1) (q0 := 0) rfl rfl, fun U hU hW => ⟨rfl, trivial⟩⟩ rfl rfl hl.1 rfl (lv_room (Nat.le_of_ble_eq_true rfl)) dX1_swap_2 ⟨Nat.zero_le _, Nat.zero_le _⟩)) (fun r_2 hr_2 => ?_)
  obtain rfl : r_2 = (bI (okP 24 p1)) := hr_2
  refine lv_if_eq (tgt := 16) hx hb dX1_swap_5 (by decide) (fun c_5 => ?_) (fun c_5 => ?_)
  · have hb_5 : (okP 24 p1) = false := bI_f c_5
    refine lv_iconst (v := (-1)) hx hb dX1_swap_16 (by decide +kernel) ?_
    have eW : w_swap w p1 p2 = w := by simp [s_two, w_swap, h_swap, hb_5]
    have eH : h_swap h p1 p2 = h := by simp [s_two, w_swap, h_swap, hb_5]
    have eR : (-1) = s_two p1 p2 := by simp [s_two, w_swap, h_swap, hb_5, nI_0]
    exact W.iret (v := (-1)) hx hb hr (fun t ht hW => ⟨⟨_, (), rfl, eR, by rw [eW, eH, ht]; exact hP, va_K.moved hW.alike hK, by rw [eW, eH]; exact hD⟩, hS.F ht⟩) hS.2.2 dX1_swap_17
  · have hb_5 : (okP 24 p1) = true := bI_t c_5
    obtain ⟨j1, hj1, rfl⟩ := okP_of hb_5 (by decide)
    have hg_j1 : pg (nI j1) = j1 := pg_nI (by omega)
    refine lv_aload_n hx hb dX1_swap_8 rfl (lv_at hl 0 rfl) ?_
    refine lv_iload_n hx hb dX1_swap_9 rfl (lv_at hl 2 rfl) ?_
    refine vp_callSi (va_Run.run (va_runV (As := [.int (p2)]) (rest := []) ⟨hx, hb, hml, hown, hts⟩ (k1_isPage l h0 p2) (cwV 1 hts gX1_swap_X1_isPage rfl rfl rfl (by decide +kernel) ⟨Nat.le_of_ble_eq_true rfl, Nat.le_of_ble_eq_true rfl⟩) ⟨bl_T, va_recv hK hP (ci := 1) (q0 := 0) rfl rfl, fun U hU hW => ⟨rfl, trivial⟩⟩ rfl rfl hl.1 rfl (lv_room (Nat.le_of_ble_eq_true rfl)) dX1_swap_10 ⟨Nat.zero_le _, Nat.zero_le _⟩)) (fun r_10 hr_10 => ?_)
    obtain rfl : r_10 = (bI (okP 24 p2)) := hr_10
    refine lv_if_ne (tgt := 18) hx hb dX1_swap_13 (by decide) (fun c_13 => ?_) (fun c_13 => ?_)
    · have hb_13 : (okP 24 p2) = true := bI_t c_13
      obtain ⟨j2, hj2, rfl⟩ := okP_of hb_13 (by decide)
      have hg_j2 : pg (nI j2) = j2 := pg_nI (by omega)
      refine lv_iconst (v := (nI 0)) hx hb dX1_swap_18 (by decide +kernel) ?_
      refine lv_istore_n (lv' := [(3, .int (nI 0)), (0, .ref h0), (1, .int (nI j1)), (2, .int (nI j2))]) hx hb dX1_swap_19 rfl hl (by decide) rfl (fun ls hl => ?_)
      refine lp_Q 20 4 (fun i20 H locs ls => lv_has ls 5 [(3, .int (nI i20)), (0, .ref h0), (1, .int (nI j1)), (2, .int (nI j2))] ∧ va_P (dC, dI) vwCl (W1 h0 qa qb cI cZ (swapN w j1 j2 i20) h) H ∧ va_D A (W1 h0 qa qb cI cZ (swapN w j1 j2 i20) h) ∧ va_S A s.heap H locs) (fun i20 H locs ls hi_20 hI hnx_20 => ?_) 0 (by omega) _ _ ls ⟨lv_sub hl [0, 1, 2, 3] rfl, hP, hD, hS⟩
      obtain ⟨hl, hP, hD, hS⟩ := hI
      refine lv_iload_n hx hb dX1_swap_20 rfl (lv_at hl 0 rfl) ?_
      refine lv_iconst (v := (nI 4)) hx hb dX1_swap_21 (by decide +kernel) ?_
      refine lv_icmp_ge (tgt := 75) hx hb dX1_swap_22 (by decide) (fun c_22 => ?_) (fun c_22 => ?_)
      · have hq_22 : 4 ≤ i20 := (nI_leI (by omega) (by omega)).mp c_22
        have hE_22 : i20 = 4 := by omega
        subst hE_22
        refine lv_aload_n hx hb dX1_swap_75 rfl (lv_at hl 1 rfl) ?_
        refine va_get (D := (dC, dI)) (ci := 1) (v := .ref qb) (C := RX1) (T := TX1) (N := 2) hx hb hts hin0 hown hK hP 0 rfl rfl 1 (by decide) hf13 (fun _ h9 => h9) rfl dX1_swap_76 ?_
        refine lv_iload_n hx hb dX1_swap_79 rfl (lv_at hl 2 rfl) ?_
        refine my_zaldN hx hb hK hP 2 1 rfl rfl (by omega) (by decide) dX1_swap_80 ?_
        refine lv_istore_n (lv' := [(3, .int (bI (!h j1))), (0, .ref h0), (1, .int (nI j1)), (2, .int (nI j2))]) hx hb dX1_swap_81 rfl hl (by decide) rfl (fun ls hl => ?_)
        refine lv_aload_n hx hb dX1_swap_82 rfl (lv_at hl 1 rfl) ?_
        refine va_get (D := (dC, dI)) (ci := 1) (v := .ref qb) (C := RX1) (T := TX1) (N := 2) hx hb hts hin0 hown hK hP 0 rfl rfl 1 (by decide) hf13 (fun _ h9 => h9) rfl dX1_swap_83 ?_
        refine lv_iload_n hx hb dX1_swap_86 rfl (lv_at hl 2 rfl) ?_
        refine lv_aload_n hx hb dX1_swap_87 rfl (lv_at hl 1 rfl) ?_
        refine va_get (D := (dC, dI)) (ci := 1) (v := .ref qb) (C := RX1) (T := TX1) (N := 2) hx hb hts hin0 hown hK hP 0 rfl rfl 1 (by decide) hf13 (fun _ h9 => h9) rfl dX1_swap_88 ?_
        refine lv_iload_n hx hb dX1_swap_91 rfl (lv_at hl 3 rfl) ?_
        refine my_zaldN hx hb hK hP 2 1 rfl rfl (by omega) (by decide) dX1_swap_92 ?_
        refine my_zastN hx hb hK hP hD hS 2 1 rfl rfl (h j2) rfl (by omega) (by decide) dX1_swap_93 (fun H locs hP hD hS => ?_)
        have hP : va_P (dC, dI) vwCl (W1 h0 qa qb cI cZ (swapN w j1 j2 4) (updB h j1 (h j2))) H := hP
        have hD : va_D A (W1 h0 qa qb cI cZ (swapN w j1 j2 4) (updB h j1 (h j2))) := hD
        refine lv_aload_n hx hb dX1_swap_94 rfl (lv_at hl 1 rfl) ?_
        refine va_get (D := (dC, dI)) (ci := 1) (v := .ref qb) (C := RX1) (T := TX1) (N := 2) hx hb hts hin0 hown hK hP 0 rfl rfl 1 (by decide) hf13 (fun _ h9 => h9) rfl dX1_swap_95 ?_
        refine lv_iload_n hx hb dX1_swap_98 rfl (lv_at hl 3 rfl) ?_
        refine lv_iload_n hx hb dX1_swap_99 rfl (lv_at hl 0 rfl) ?_
        refine my_zastN hx hb hK hP hD hS 2 1 rfl rfl (h j1) rfl (by omega) (by decide) dX1_swap_100 (fun H locs hP hD hS => ?_)
        have hP : va_P (dC, dI) vwCl (W1 h0 qa qb cI cZ (swapN w j1 j2 4) (updB (updB h j1 (h j2)) j2 (h j1))) H := hP
        have hD : va_D A (W1 h0 qa qb cI cZ (swapN w j1 j2 4) (updB (updB h j1 (h j2)) j2 (h j1))) := hD
        refine lv_iconst (v := (nI 0)) hx hb dX1_swap_101 (by decide +kernel) ?_
        have eW : w_swap w (nI j1) (nI j2) = swapN w j1 j2 4 := by simp [s_two, w_swap, h_swap, hb_5, hg_j1, hb_13, hg_j2]
        have eH : h_swap h (nI j1) (nI j2) = updB (updB h j1 (h j2)) j2 (h j1) := by simp [s_two, w_swap, h_swap, hb_5, hg_j1, hb_13, hg_j2]
        have eR : (nI 0) = s_two (nI j1) (nI j2) := by simp [s_two, w_swap, h_swap, hb_5, hg_j1, hb_13, hg_j2, nI_0]
        exact W.iret (v := (nI 0)) hx hb hr (fun t ht hW => ⟨⟨_, (), rfl, eR, by rw [eW, eH, ht]; exact hP, va_K.moved hW.alike hK, by rw [eW, eH]; exact hD⟩, hS.F ht⟩) hS.2.2 dX1_swap_102
      · have hlt_20 : i20 < 4 := Nat.lt_of_not_le (fun q => c_22 ((nI_leI (by omega) (by omega)).mpr q))
        refine lv_aload_n hx hb dX1_swap_25 rfl (lv_at hl 1 rfl) ?_
        refine va_get (D := (dC, dI)) (ci := 1) (v := .ref qa) (C := RX1) (T := TX1) (N := 2) hx hb hts hin0 hown hK hP 0 rfl rfl 0 (by decide) hf7 (fun _ h9 => h9) rfl dX1_swap_26 ?_
        refine lv_iload_n hx hb dX1_swap_29 rfl (lv_at hl 2 rfl) ?_
        refine lv_iconst (v := (nI 4)) hx hb dX1_swap_30 (by decide +kernel) ?_
        refine my_mul hx hb dX1_swap_31 ?_
        refine lv_iload_n hx hb dX1_swap_32 rfl (lv_at hl 0 rfl) ?_
        refine my_add hx hb dX1_swap_33 ?_
        refine my_iald hx hb hK hP 1 0 rfl rfl (by omega) (by decide) dX1_swap_34 ?_
        refine lv_istore (lv' := [(4, .int ((swapN w j1 j2 i20) (j1 * 4 + i20))), (3, .int (nI i20)), (0, .ref h0), (1, .int (nI j1)), (2, .int (nI j2))]) hx hb dX1_swap_35 hl (by decide) rfl (fun ls hl => ?_)
        refine lv_aload_n hx hb dX1_swap_37 rfl (lv_at hl 2 rfl) ?_
        refine va_get (D := (dC, dI)) (ci := 1) (v := .ref qa) (C := RX1) (T := TX1) (N := 2) hx hb hts hin0 hown hK hP 0 rfl rfl 0 (by decide) hf7 (fun _ h9 => h9) rfl dX1_swap_38 ?_
        refine lv_iload_n hx hb dX1_swap_41 rfl (lv_at hl 3 rfl) ?_
        refine lv_iconst (v := (nI 4)) hx hb dX1_swap_42 (by decide +kernel) ?_
        refine my_mul hx hb dX1_swap_43 ?_
        refine lv_iload_n hx hb dX1_swap_44 rfl (lv_at hl 1 rfl) ?_
        refine my_add hx hb dX1_swap_45 ?_
        refine lv_aload_n hx hb dX1_swap_46 rfl (lv_at hl 2 rfl) ?_
        refine va_get (D := (dC, dI)) (ci := 1) (v := .ref qa) (C := RX1) (T := TX1) (N := 2) hx hb hts hin0 hown hK hP 0 rfl rfl 0 (by decide) hf7 (fun _ h9 => h9) rfl dX1_swap_47 ?_
        refine lv_iload_n hx hb dX1_swap_50 rfl (lv_at hl 4 rfl) ?_
        refine lv_iconst (v := (nI 4)) hx hb dX1_swap_51 (by decide +kernel) ?_
        refine my_mul hx hb dX1_swap_52 ?_
        refine lv_iload_n hx hb dX1_swap_53 rfl (lv_at hl 1 rfl) ?_
        refine my_add hx hb dX1_swap_54 ?_
        refine my_iald hx hb hK hP 1 0 rfl rfl (by omega) (by decide) dX1_swap_55 ?_
        refine my_iast hx hb hK hP hD hS 1 0 rfl rfl (by omega) (by decide) dX1_swap_56 (fun H locs hP hD hS => ?_)
        have hP : va_P (dC, dI) vwCl (W1 h0 qa qb cI cZ (upd (swapN w j1 j2 i20) (j1 * 4 + i20) ((swapN w j1 j2 i20) (j2 * 4 + i20))) h) H := hP
        have hD : va_D A (W1 h0 qa qb cI cZ (upd (swapN w j1 j2 i20) (j1 * 4 + i20) ((swapN w j1 j2 i20) (j2 * 4 + i20))) h) := hD
        refine lv_aload_n hx hb dX1_swap_57 rfl (lv_at hl 2 rfl) ?_
        refine va_get (D := (dC, dI)) (ci := 1) (v := .ref qa) (C := RX1) (T := TX1) (N := 2) hx hb hts hin0 hown hK hP 0 rfl rfl 0 (by decide) hf7 (fun _ h9 => h9) rfl dX1_swap_58 ?_
        refine lv_iload_n hx hb dX1_swap_61 rfl (lv_at hl 4 rfl) ?_
        refine lv_iconst (v := (nI 4)) hx hb dX1_swap_62 (by decide +kernel) ?_
        refine my_mul hx hb dX1_swap_63 ?_
        refine lv_iload_n hx hb dX1_swap_64 rfl (lv_at hl 1 rfl) ?_
        refine my_add hx hb dX1_swap_65 ?_
        refine lv_iload hx hb dX1_swap_66 (lv_at hl 0 rfl) ?_
        refine my_iast hx hb hK hP hD hS 1 0 rfl rfl (by omega) (by decide) dX1_swap_68 (fun H locs hP hD hS => ?_)
        have hP : va_P (dC, dI) vwCl (W1 h0 qa qb cI cZ (upd (upd (swapN w j1 j2 i20) (j1 * 4 + i20) ((swapN w j1 j2 i20) (j2 * 4 + i20))) (j2 * 4 + i20) ((swapN w j1 j2 i20) (j1 * 4 + i20))) h) H := hP
        have hD : va_D A (W1 h0 qa qb cI cZ (upd (upd (swapN w j1 j2 i20) (j1 * 4 + i20) ((swapN w j1 j2 i20) (j2 * 4 + i20))) (j2 * 4 + i20) ((swapN w j1 j2 i20) (j1 * 4 + i20))) h) := hD
        refine lv_iinc (v := (nI (i20 + 1))) (lv' := [(3, .int (nI (i20 + 1))), (4, .int ((swapN w j1 j2 i20) (j1 * 4 + i20))), (0, .ref h0), (1, .int (nI j1)), (2, .int (nI j2))]) hx hb dX1_swap_69 hl (k := 1) rfl (nI_1 _) (by decide) rfl (fun ls hl => ?_)
        refine lv_goto (tgt := 20) hx hb dX1_swap_72 (by decide) ?_
        exact hnx_20 hlt_20 _ _ ls ⟨lv_sub hl [0, 2, 3, 4] rfl, hP, hD, hS⟩
    · have hb_13 : (okP 24 p2) = false := bI_f c_13
      refine lv_iconst (v := (-1)) hx hb dX1_swap_16 (by decide +kernel) ?_
      have eW : w_swap w (nI j1) p2 = w := by simp [s_two, w_swap, h_swap, hb_5, hg_j1, hb_13]
      have eH : h_swap h (nI j1) p2 = h := by simp [s_two, w_swap, h_swap, hb_5, hg_j1, hb_13]
      have eR : (-1) = s_two (nI j1) p2 := by simp [s_two, w_swap, h_swap, hb_5, hg_j1, hb_13, nI_0]
      exact W.iret (v := (-1)) hx hb hr (fun t ht hW => ⟨⟨_, (), rfl, eR, by rw [eW, eH, ht]; exact hP, va_K.moved hW.alike hK, by rw [eW, eH]; exact hD⟩, hS.F ht⟩) hS.2.2 dX1_swap_17
set_option maxHeartbeats 4000000 in
set_option maxRecDepth 100000 in
theorem k1_release (l : Launch) (dC : Nat → ClassId) (dI : Nat → Nat → Nat) (h0 qa qb : Nat) (cI cZ : ClassId) (sz : Nat) (w : Nat → Int32) (h : Nat → Bool) (p1 : Int32)  : Met l yX1_release wsX1_release ({ frames := 2, cells := 0, slots := 0, locals := 44 }) (va_Pc [.ref h0, .int (p1)] (fun U => U.heap.size = sz ∧ va_P (dC, dI) vwCl (W1 h0 qa qb cI cZ w h) U.heap ∧ va_K (dC, dI) vwCl (TY cI cZ) U ∧ va_D (fun _ => True) (W1 h0 qa qb cI cZ w h))) (va_Qi (fun r (_ : Unit) => r = s_rel h p1) (fun _ t => va_P (dC, dI) vwCl (W1 h0 qa qb cI cZ (w_rel w h p1) (h_rel h p1)) t.heap ∧ va_K (dC, dI) vwCl (TY cI cZ) t ∧ va_D (va_A (W1 h0 qa qb cI cZ w h) sz) (W1 h0 qa qb cI cZ (w_rel w h p1) (h_rel h p1))) (va_A (W1 h0 qa qb cI cZ w h) sz)) 0 0 (va_A (W1 h0 qa qb cI cZ w h) sz) := by
  refine Met.ofW (cc := cX1_release) (maxL := 2) (ret := (some .int)) (by decide) rfl ?_
  intro p e s m args below meth c s₁ B hml hv
  obtain ⟨rfl, hsz, hP, hK, hD0⟩ := hv
  have hx := B.exec
  have hb := B.bytes
  have hr := B.returns
  have hlocks := B.notSynchronized
  have hts := atoms_spec (ws := wsX1_release) B.pre
  have hown : s.vm.findClass RX1 = some m.cls := findClass_of_methodNamed B.named
  have hin0 : ∀ w ∈ wsX10, w ∈ wsX1_release := by decide +kernel
  have hf13 := hts (.fieldLink RX1 13 "PageMergerModel" "released" "[Z") (by decide +kernel)
  subst hsz
  have hD := hD0.self (sz := s.heap.size)
  generalize hAe : va_A (W1 h0 qa qb cI cZ w h) s.heap.size = A at hD ⊢
  have hA : ∀ q : Nat, s.heap.size ≤ q → A q := fun q h => by rw [← hAe]; exact Or.inr h
  have hS : va_S A s.heap s.heap [] := va_S.rf
  have hl := lv_entry ([.ref h0, .int (p1)]) (n := 2) (Nat.le_of_ble_eq_true rfl)
  rw [lg_entry_eq]
  generalize (lg_sl ([.ref h0, .int (p1)]) ++ List.replicate (2 - (lg_sl ([.ref h0, .int (p1)])).length) Slot.unset).toArray = ls at hl ⊢
  have hl : lv_has ls 2 [(0, .ref h0), (1, .int (p1))] := hl
  refine lv_aload_n hx hb dX1_release_0 rfl (lv_at hl 0 rfl) ?_
  refine lv_iload_n hx hb dX1_release_1 rfl (lv_at hl 1 rfl) ?_
  refine vp_callSi (va_Run.run (va_runV (As := [.int (p1)]) (rest := []) ⟨hx, hb, hml, hown, hts⟩ (k1_isPage l h0 p1) (cwV 1 hts gX1_release_X1_isPage rfl rfl rfl (by decide +kernel) ⟨Nat.le_of_ble_eq_true rfl, Nat.le_of_ble_eq_true rfl⟩) ⟨bl_T, va_recv hK hP (ci := 1) (q0 := 0) rfl rfl, fun U hU hW => ⟨rfl, trivial⟩⟩ rfl rfl hl.1 rfl (lv_room (Nat.le_of_ble_eq_true rfl)) dX1_release_2 ⟨Nat.zero_le _, Nat.zero_le _⟩)) (fun r_2 hr_2 => ?_)
  obtain rfl : r_2 = (bI (okP 24 p1)) := hr_2
  refine lv_if_ne (tgt := 10) hx hb dX1_release_5 (by decide) (fun c_5 => ?_) (fun c_5 => ?_)
  · have hb_5 : (okP 24 p1) = true := bI_t c_5
    obtain ⟨j1, hj1, rfl⟩ := okP_of hb_5 (by decide)
    have hg_j1 : pg (nI j1) = j1 := pg_nI (by omega)
    refine lv_aload_n hx hb dX1_release_10 rfl (lv_at hl 0 rfl) ?_
    refine va_get (D := (dC, dI)) (ci := 1) (v := .ref qb) (C := RX1) (T := TX1) (N := 2) hx hb hts hin0 hown hK hP 0 rfl rfl 1 (by decide) hf13 (fun _ h9 => h9) rfl dX1_release_11 ?_
    refine lv_iload_n hx hb dX1_release_14 rfl (lv_at hl 1 rfl) ?_
    refine my_zaldN hx hb hK hP 2 1 rfl rfl (by omega) (by decide) dX1_release_15 ?_
    refine lv_if_eq (tgt := 22) hx hb dX1_release_16 (by decide) (fun c_16 => ?_) (fun c_16 => ?_)
    · have hb_16 : (h j1) = true := bN_f c_16
      refine lv_aload_n hx hb dX1_release_22 rfl (lv_at hl 0 rfl) ?_
      refine lv_iload_n hx hb dX1_release_23 rfl (lv_at hl 1 rfl) ?_
      refine lv_iconst (v := (nI 0)) hx hb dX1_release_24 (by decide +kernel) ?_
      have hFc := va_free (wc := W1 h0 qa qb cI cZ w h) hD hS hA [0, 1, 2] rfl
      refine va_calli (va_runV (As := [.int (nI j1), .int (nI 0)]) (rest := []) ⟨hx, hb, hml, hown, hts⟩ (k1_fill l dC dI h0 qa qb cI cZ s.heap.size w h (nI j1) (nI 0)) (cwV 2 hts gX1_release_X1_fill rfl rfl rfl (by decide +kernel) ⟨Nat.le_of_ble_eq_true rfl, Nat.le_of_ble_eq_true rfl⟩) ⟨bl_Q, va_recv hK hP (ci := 1) (q0 := 0) rfl rfl, fun U hU hW => ⟨rfl, by rw [hU], by rw [hU]; exact hP, va_K.moved hW.alike hK, hD.weaken (fun _ _ _ _ => trivial)⟩⟩ rfl rfl hl.1 rfl (lv_room (Nat.le_of_ble_eq_true rfl)) dX1_release_25 ⟨Nat.zero_le _, Nat.zero_le _⟩) hS (fun q _ h9 => hFc q h9) hFc (fun r_25 u t H1 locs ht hvm hw hB hz1 hk1 hS => ?_)
      obtain ⟨hP1, hK1, hD1⟩ := hB
      rw [ht] at hP1
      rw [show w_fill w (nI j1) (nI 0) = fillN w j1 (nI 0) 4 by simp [w_fill, hb_5, hg_j1], show h_fill h (nI j1) = updB h j1 true by simp [h_fill, hb_5, hg_j1]] at hP1 hD1
      obtain ⟨hP, hD⟩ := va_join (wr := []) (w1 := W1 h0 qa qb cI cZ (fillN w j1 (nI 0) 4) (updB h j1 true)) hP hD [0, 1, 2] [] rfl rfl (by decide) (by decide) hk1 hFc hP1 hD1
      generalize H1 = H at hP hS ⊢
      have hP : va_P (dC, dI) vwCl (W1 h0 qa qb cI cZ (fillN w j1 (nI 0) 4) (updB h j1 true)) H := hP
      have hD : va_D A (W1 h0 qa qb cI cZ (fillN w j1 (nI 0) 4) (updB h j1 true)) := hD
      refine lv_pop hx hb dX1_release_28 rfl ?_
      refine lv_aload_n hx hb dX1_release_29 rfl (lv_at hl 0 rfl) ?_
      refine va_get (D := (dC, dI)) (ci := 1) (v := .ref qb) (C := RX1) (T := TX1) (N := 2) hx hb hts hin0 hown hK hP 0 rfl rfl 1 (by decide) hf13 (fun _ h9 => h9) rfl dX1_release_30 ?_
      refine lv_iload_n hx hb dX1_release_33 rfl (lv_at hl 1 rfl) ?_
      refine lv_iconst (v := (nI 1)) hx hb dX1_release_34 (by decide +kernel) ?_
      refine my_zastN hx hb hK hP hD hS 2 1 rfl rfl false bI_1 (by omega) (by decide) dX1_release_35 (fun H locs hP hD hS => ?_)
      have hP : va_P (dC, dI) vwCl (W1 h0 qa qb cI cZ (fillN w j1 (nI 0) 4) (updB (updB h j1 true) j1 false)) H := hP
      have hD : va_D A (W1 h0 qa qb cI cZ (fillN w j1 (nI 0) 4) (updB (updB h j1 true) j1 false)) := hD
      refine lv_iconst (v := (nI 0)) hx hb dX1_release_36 (by decide +kernel) ?_
      have eW : w_rel w h (nI j1) = fillN w j1 (nI 0) 4 := by simp [s_rel, w_rel, h_rel, updB_twice, hb_5, hg_j1, hb_16]
      have eH : h_rel h (nI j1) = updB (updB h j1 true) j1 false := by simp [s_rel, w_rel, h_rel, updB_twice, hb_5, hg_j1, hb_16]
      have eR : (nI 0) = s_rel h (nI j1) := by simp [s_rel, w_rel, h_rel, updB_twice, hb_5, hg_j1, hb_16, nI_0]
      exact W.iret (v := (nI 0)) hx hb hr (fun t ht hW => ⟨⟨_, (), rfl, eR, by rw [eW, eH, ht]; exact hP, va_K.moved hW.alike hK, by rw [eW, eH]; exact hD⟩, hS.F ht⟩) hS.2.2 dX1_release_37
    · have hb_16 : (h j1) = false := bN_t c_16
      refine lv_bipush (v := (-3)) hx hb dX1_release_19 (by decide +kernel) ?_
      have eW : w_rel w h (nI j1) = w := by simp [s_rel, w_rel, h_rel, updB_twice, hb_5, hg_j1, hb_16]
      have eH : h_rel h (nI j1) = h := by simp [s_rel, w_rel, h_rel, updB_twice, hb_5, hg_j1, hb_16]
      have eR : (-3) = s_rel h (nI j1) := by simp [s_rel, w_rel, h_rel, updB_twice, hb_5, hg_j1, hb_16, nI_0]
      exact W.iret (v := (-3)) hx hb hr (fun t ht hW => ⟨⟨_, (), rfl, eR, by rw [eW, eH, ht]; exact hP, va_K.moved hW.alike hK, by rw [eW, eH]; exact hD⟩, hS.F ht⟩) hS.2.2 dX1_release_21
  · have hb_5 : (okP 24 p1) = false := bI_f c_5
    refine lv_iconst (v := (-1)) hx hb dX1_release_8 (by decide +kernel) ?_
    have eW : w_rel w h p1 = w := by simp [s_rel, w_rel, h_rel, updB_twice, hb_5]
    have eH : h_rel h p1 = h := by simp [s_rel, w_rel, h_rel, updB_twice, hb_5]
    have eR : (-1) = s_rel h p1 := by simp [s_rel, w_rel, h_rel, updB_twice, hb_5, nI_0]
    exact W.iret (v := (-1)) hx hb hr (fun t ht hW => ⟨⟨_, (), rfl, eR, by rw [eW, eH, ht]; exact hP, va_K.moved hW.alike hK, by rw [eW, eH]; exact hD⟩, hS.F ht⟩) hS.2.2 dX1_release_9
end
section
set_option maxHeartbeats 4000000 in
set_option maxRecDepth 100000 in
theorem k1_read (l : Launch) (dC : Nat → ClassId) (dI : Nat → Nat → Nat) (h0 qa qb : Nat) (cI cZ : ClassId) (w : Nat → Int32) (h : Nat → Bool) (p1 : Int32) (p2 : Int32)  : Met l yX1_read wsX1_read ({ frames := 1, cells := 0, slots := 0, locals := 21 }) (va_Pc [.ref h0, .int (p1), .int (p2)] (fun U => va_P (dC, dI) vwCl (W1 h0 qa qb cI cZ w h) U.heap ∧ va_K (dC, dI) vwCl (TY cI cZ) U)) (vp_Si (fun r => r = s_read w p1 p2)) 0 0 (fun _ => False) := by
  refine Met.ofW (cc := cX1_read) (maxL := 3) (ret := (some .int)) (by decide) rfl ?_
  intro p e s m args below meth c s₁ B hml hv
  obtain ⟨rfl, hP, hK⟩ := hv
  have hx := B.exec
  have hb := B.bytes
  have hr := B.returns
  have hlocks := B.notSynchronized
  have hts := atoms_spec (ws := wsX1_read) B.pre
  have hown : s.vm.findClass RX1 = some m.cls := findClass_of_methodNamed B.named
  have hin0 : ∀ w ∈ wsX10, w ∈ wsX1_read := by decide +kernel
  have hf7 := hts (.fieldLink RX1 7 "PageMergerModel" "words" "[I") (by decide +kernel)
  have hl := lv_entry ([.ref h0, .int (p1), .int (p2)]) (n := 3) (Nat.le_of_ble_eq_true rfl)
  rw [lg_entry_eq]
  generalize (lg_sl ([.ref h0, .int (p1), .int (p2)]) ++ List.replicate (3 - (lg_sl ([.ref h0, .int (p1), .int (p2)])).length) Slot.unset).toArray = ls at hl ⊢
  have hl : lv_has ls 3 [(0, .ref h0), (1, .int (p1)), (2, .int (p2))] := hl
  refine lv_aload_n hx hb dX1_read_0 rfl (lv_at hl 0 rfl) ?_
  refine lv_iload_n hx hb dX1_read_1 rfl (lv_at hl 1 rfl) ?_
  refine vp_callSi (va_Run.run (va_runV (As := [.int (p1)]) (rest := []) ⟨hx, hb, hml, hown, hts⟩ (k1_isPage l h0 p1) (cwV 1 hts gX1_read_X1_isPage rfl rfl rfl (by decide +kernel) ⟨Nat.le_of_ble_eq_true rfl, Nat.le_of_ble_eq_true rfl⟩) ⟨bl_T, va_recv hK hP (ci := 1) (q0 := 0) rfl rfl, fun U hU hW => ⟨rfl, trivial⟩⟩ rfl rfl hl.1 rfl (lv_room (Nat.le_of_ble_eq_true rfl)) dX1_read_2 ⟨Nat.zero_le _, Nat.zero_le _⟩)) (fun r_2 hr_2 => ?_)
  obtain rfl : r_2 = (bI (okP 24 p1)) := hr_2
  refine lv_if_ne (tgt := 10) hx hb dX1_read_5 (by decide) (fun c_5 => ?_) (fun c_5 => ?_)
  · have hb_5 : (okP 24 p1) = true := bI_t c_5
    obtain ⟨j1, hj1, rfl⟩ := okP_of hb_5 (by decide)
    have hg_j1 : pg (nI j1) = j1 := pg_nI (by omega)
    refine lv_iload_n hx hb dX1_read_10 rfl (lv_at hl 2 rfl) ?_
    refine lv_if_lt (tgt := 19) hx hb dX1_read_11 (by decide) (fun c_11 => ?_) (fun c_11 => ?_)
    · have ho2 : okP 4 p2 = false := okP_neg c_11
      refine lv_bipush (v := (-2)) hx hb dX1_read_19 (by decide +kernel) ?_
      refine lv_goto (tgt := 34) hx hb dX1_read_21 (by decide) ?_
      have eR : (-2) = s_read w (nI j1) p2 := by simp [s_read, hb_5, hg_j1, ho2]
      exact W.iret (v := (-2)) hx hb hr (fun t ht hW => ⟨_, rfl, eR, ht⟩) (fun q h9 => absurd h9 List.not_mem_nil) dX1_read_34
    · refine lv_iload_n hx hb dX1_read_14 rfl (lv_at hl 2 rfl) ?_
      refine lv_iconst (v := (nI 3)) hx hb dX1_read_15 (by decide +kernel) ?_
      refine lv_icmp_le (tgt := 24) hx hb dX1_read_16 (by decide) (fun c_16 => ?_) (fun c_16 => ?_)
      · have ho2 : okP 4 p2 = true := okP_le (n := 3) (by decide) c_11 c_16
        obtain ⟨j2, hj2, rfl⟩ := okP_of ho2 (by decide)
        have hg_j2 : pg (nI j2) = j2 := pg_nI (by omega)
        refine lv_aload_n hx hb dX1_read_24 rfl (lv_at hl 0 rfl) ?_
        refine va_get (D := (dC, dI)) (ci := 1) (v := .ref qa) (C := RX1) (T := TX1) (N := 2) hx hb hts hin0 hown hK hP 0 rfl rfl 0 (by decide) hf7 (fun _ h9 => h9) rfl dX1_read_25 ?_
        refine lv_iload_n hx hb dX1_read_28 rfl (lv_at hl 1 rfl) ?_
        refine lv_iconst (v := (nI 4)) hx hb dX1_read_29 (by decide +kernel) ?_
        refine my_mul hx hb dX1_read_30 ?_
        refine lv_iload_n hx hb dX1_read_31 rfl (lv_at hl 2 rfl) ?_
        refine my_add hx hb dX1_read_32 ?_
        refine my_iald hx hb hK hP 1 0 rfl rfl (by omega) (by decide) dX1_read_33 ?_
        have eR : (w (j1 * 4 + j2)) = s_read w (nI j1) (nI j2) := by simp [s_read, hb_5, hg_j1, ho2, hg_j2]
        exact W.iret (v := (w (j1 * 4 + j2))) hx hb hr (fun t ht hW => ⟨_, rfl, eR, ht⟩) (fun q h9 => absurd h9 List.not_mem_nil) dX1_read_34
      · have ho2 : okP 4 p2 = false := okP_nle (n := 3) (by decide) c_16
        refine lv_bipush (v := (-2)) hx hb dX1_read_19 (by decide +kernel) ?_
        refine lv_goto (tgt := 34) hx hb dX1_read_21 (by decide) ?_
        have eR : (-2) = s_read w (nI j1) p2 := by simp [s_read, hb_5, hg_j1, ho2]
        exact W.iret (v := (-2)) hx hb hr (fun t ht hW => ⟨_, rfl, eR, ht⟩) (fun q h9 => absurd h9 List.not_mem_nil) dX1_read_34
  · have hb_5 : (okP 24 p1) = false := bI_f c_5
    refine lv_iconst (v := (-1)) hx hb dX1_read_8 (by decide +kernel) ?_
    have eR : (-1) = s_read w p1 p2 := by simp [s_read, hb_5]
    exact W.iret (v := (-1)) hx hb hr (fun t ht hW => ⟨_, rfl, eR, ht⟩) (fun q h9 => absurd h9 List.not_mem_nil) dX1_read_9
set_option maxHeartbeats 4000000 in
set_option maxRecDepth 100000 in
theorem k1_held (l : Launch) (dC : Nat → ClassId) (dI : Nat → Nat → Nat) (h0 qa qb : Nat) (cI cZ : ClassId) (w : Nat → Int32) (h : Nat → Bool) (p1 : Int32)  : Met l yX1_held wsX1_held ({ frames := 1, cells := 0, slots := 0, locals := 21 }) (va_Pc [.ref h0, .int (p1)] (fun U => va_P (dC, dI) vwCl (W1 h0 qa qb cI cZ w h) U.heap ∧ va_K (dC, dI) vwCl (TY cI cZ) U)) (vp_Si (fun r => r = bI (b_held h p1))) 0 0 (fun _ => False) := by
  refine Met.ofW (cc := cX1_held) (maxL := 2) (ret := (some .boolean)) (by decide) rfl ?_
  intro p e s m args below meth c s₁ B hml hv
  obtain ⟨rfl, hP, hK⟩ := hv
  have hx := B.exec
  have hb := B.bytes
  have hr := B.returns
  have hlocks := B.notSynchronized
  have hts := atoms_spec (ws := wsX1_held) B.pre
  have hown : s.vm.findClass RX1 = some m.cls := findClass_of_methodNamed B.named
  have hin0 : ∀ w ∈ wsX10, w ∈ wsX1_held := by decide +kernel
  have hf13 := hts (.fieldLink RX1 13 "PageMergerModel" "released" "[Z") (by decide +kernel)
  have hl := lv_entry ([.ref h0, .int (p1)]) (n := 2) (Nat.le_of_ble_eq_true rfl)
  rw [lg_entry_eq]
  generalize (lg_sl ([.ref h0, .int (p1)]) ++ List.replicate (2 - (lg_sl ([.ref h0, .int (p1)])).length) Slot.unset).toArray = ls at hl ⊢
  have hl : lv_has ls 2 [(0, .ref h0), (1, .int (p1))] := hl
  refine lv_aload_n hx hb dX1_held_0 rfl (lv_at hl 0 rfl) ?_
  refine lv_iload_n hx hb dX1_held_1 rfl (lv_at hl 1 rfl) ?_
  refine vp_callSi (va_Run.run (va_runV (As := [.int (p1)]) (rest := []) ⟨hx, hb, hml, hown, hts⟩ (k1_isPage l h0 p1) (cwV 1 hts gX1_held_X1_isPage rfl rfl rfl (by decide +kernel) ⟨Nat.le_of_ble_eq_true rfl, Nat.le_of_ble_eq_true rfl⟩) ⟨bl_T, va_recv hK hP (ci := 1) (q0 := 0) rfl rfl, fun U hU hW => ⟨rfl, trivial⟩⟩ rfl rfl hl.1 rfl (lv_room (Nat.le_of_ble_eq_true rfl)) dX1_held_2 ⟨Nat.zero_le _, Nat.zero_le _⟩)) (fun r_2 hr_2 => ?_)
  obtain rfl : r_2 = (bI (okP 24 p1)) := hr_2
  refine lv_if_eq (tgt := 21) hx hb dX1_held_5 (by decide) (fun c_5 => ?_) (fun c_5 => ?_)
  · have hb_5 : (okP 24 p1) = false := bI_f c_5
    refine lv_iconst (v := (nI 0)) hx hb dX1_held_21 (by decide +kernel) ?_
    have eR : (nI 0) = bI (b_held h p1) := by simp [b_held, hb_5, bI_1, bI_0]
    exact W.zret (v := (nI 0)) hx hb hr (by decide +kernel) (fun t ht hW => ⟨_, rfl, eR, ht⟩) (fun q h9 => absurd h9 List.not_mem_nil) dX1_held_22
  · have hb_5 : (okP 24 p1) = true := bI_t c_5
    obtain ⟨j1, hj1, rfl⟩ := okP_of hb_5 (by decide)
    have hg_j1 : pg (nI j1) = j1 := pg_nI (by omega)
    refine lv_aload_n hx hb dX1_held_8 rfl (lv_at hl 0 rfl) ?_
    refine va_get (D := (dC, dI)) (ci := 1) (v := .ref qb) (C := RX1) (T := TX1) (N := 2) hx hb hts hin0 hown hK hP 0 rfl rfl 1 (by decide) hf13 (fun _ h9 => h9) rfl dX1_held_9 ?_
    refine lv_iload_n hx hb dX1_held_12 rfl (lv_at hl 1 rfl) ?_
    refine my_zaldN hx hb hK hP 2 1 rfl rfl (by omega) (by decide) dX1_held_13 ?_
    refine lv_if_ne (tgt := 21) hx hb dX1_held_14 (by decide) (fun c_14 => ?_) (fun c_14 => ?_)
    · have hb_14 : (h j1) = false := bN_t c_14
      refine lv_iconst (v := (nI 0)) hx hb dX1_held_21 (by decide +kernel) ?_
      have eR : (nI 0) = bI (b_held h (nI j1)) := by simp [b_held, hb_5, hg_j1, hb_14, bI_1, bI_0]
      exact W.zret (v := (nI 0)) hx hb hr (by decide +kernel) (fun t ht hW => ⟨_, rfl, eR, ht⟩) (fun q h9 => absurd h9 List.not_mem_nil) dX1_held_22
    · have hb_14 : (h j1) = true := bN_f c_14
      refine lv_iconst (v := (nI 1)) hx hb dX1_held_17 (by decide +kernel) ?_
      refine lv_goto (tgt := 22) hx hb dX1_held_18 (by decide) ?_
      have eR : (nI 1) = bI (b_held h (nI j1)) := by simp [b_held, hb_5, hg_j1, hb_14, bI_1, bI_0]
      exact W.zret (v := (nI 1)) hx hb hr (by decide +kernel) (fun t ht hW => ⟨_, rfl, eR, ht⟩) (fun q h9 => absurd h9 List.not_mem_nil) dX1_held_22
set_option maxHeartbeats 4000000 in
set_option maxRecDepth 100000 in
theorem k1_same (l : Launch) (dC : Nat → ClassId) (dI : Nat → Nat → Nat) (h0 qa qb : Nat) (cI cZ : ClassId) (w : Nat → Int32) (h : Nat → Bool) (p1 : Int32) (p2 : Int32)  : Met l yX1_same wsX1_same ({ frames := 1, cells := 0, slots := 0, locals := 21 }) (va_Pc [.ref h0, .int (p1), .int (p2)] (fun U => va_P (dC, dI) vwCl (W1 h0 qa qb cI cZ w h) U.heap ∧ va_K (dC, dI) vwCl (TY cI cZ) U)) (vp_Si (fun r => r = bI (b_same w p1 p2))) 0 0 (fun _ => False) := by
  refine Met.ofW (cc := cX1_same) (maxL := 4) (ret := (some .boolean)) (by decide) rfl ?_
  intro p e s m args below meth c s₁ B hml hv
  obtain ⟨rfl, hP, hK⟩ := hv
  have hx := B.exec
  have hb := B.bytes
  have hr := B.returns
  have hlocks := B.notSynchronized
  have hts := atoms_spec (ws := wsX1_same) B.pre
  have hown : s.vm.findClass RX1 = some m.cls := findClass_of_methodNamed B.named
  have hin0 : ∀ w ∈ wsX10, w ∈ wsX1_same := by decide +kernel
  have hf7 := hts (.fieldLink RX1 7 "PageMergerModel" "words" "[I") (by decide +kernel)
  have hl := lv_entry ([.ref h0, .int (p1), .int (p2)]) (n := 4) (Nat.le_of_ble_eq_true rfl)
  rw [lg_entry_eq]
  generalize (lg_sl ([.ref h0, .int (p1), .int (p2)]) ++ List.replicate (4 - (lg_sl ([.ref h0, .int (p1), .int (p2)])).length) Slot.unset).toArray = ls at hl ⊢
  have hl : lv_has ls 4 [(0, .ref h0), (1, .int (p1)), (2, .int (p2))] := hl
  refine lv_aload_n hx hb dX1_same_0 rfl (lv_at hl 0 rfl) ?_
  refine lv_iload_n hx hb dX1_same_1 rfl (lv_at hl 1 rfl) ?_
  refine vp_callSi (va_Run.run (va_runV (As := [.int (p1)]) (rest := []) ⟨hx, hb, hml, hown, hts⟩ (k1_isPage l h0 p1) (cwV 1 hts gX1_same_X1_isPage rfl rfl rfl (by decide +kernel) ⟨Nat.le_of_ble_eq_true rfl, Nat.le_of_ble_eq_true rfl⟩) ⟨bl_T, va_recv hK hP (ci := 1) (q0 := 0) rfl rfl, fun U hU hW => ⟨rfl, trivial⟩⟩ rfl rfl hl.1 rfl (lv_room (Nat.le_of_ble_eq_true rfl)) dX1_same_2 ⟨Nat.zero_le _, Nat.zero_le _⟩)) (fun r_2 hr_2 => ?_)
  obtain rfl : r_2 = (bI (okP 24 p1)) := hr_2
  refine lv_if_eq (tgt := 16) hx hb dX1_same_5 (by decide) (fun c_5 => ?_) (fun c_5 => ?_)
  · have hb_5 : (okP 24 p1) = false := bI_f c_5
    refine lv_iconst (v := (nI 0)) hx hb dX1_same_16 (by decide +kernel) ?_
    have eR : (nI 0) = bI (b_same w p1 p2) := by simp [b_same, hb_5, bI_1, bI_0]
    exact W.zret (v := (nI 0)) hx hb hr (by decide +kernel) (fun t ht hW => ⟨_, rfl, eR, ht⟩) (fun q h9 => absurd h9 List.not_mem_nil) dX1_same_17
  · have hb_5 : (okP 24 p1) = true := bI_t c_5
    obtain ⟨j1, hj1, rfl⟩ := okP_of hb_5 (by decide)
    have hg_j1 : pg (nI j1) = j1 := pg_nI (by omega)
    refine lv_aload_n hx hb dX1_same_8 rfl (lv_at hl 0 rfl) ?_
    refine lv_iload_n hx hb dX1_same_9 rfl (lv_at hl 2 rfl) ?_
    refine vp_callSi (va_Run.run (va_runV (As := [.int (p2)]) (rest := []) ⟨hx, hb, hml, hown, hts⟩ (k1_isPage l h0 p2) (cwV 1 hts gX1_same_X1_isPage rfl rfl rfl (by decide +kernel) ⟨Nat.le_of_ble_eq_true rfl, Nat.le_of_ble_eq_true rfl⟩) ⟨bl_T, va_recv hK hP (ci := 1) (q0 := 0) rfl rfl, fun U hU hW => ⟨rfl, trivial⟩⟩ rfl rfl hl.1 rfl (lv_room (Nat.le_of_ble_eq_true rfl)) dX1_same_10 ⟨Nat.zero_le _, Nat.zero_le _⟩)) (fun r_10 hr_10 => ?_)
    obtain rfl : r_10 = (bI (okP 24 p2)) := hr_10
    refine lv_if_ne (tgt := 18) hx hb dX1_same_13 (by decide) (fun c_13 => ?_) (fun c_13 => ?_)
    · have hb_13 : (okP 24 p2) = true := bI_t c_13
      obtain ⟨j2, hj2, rfl⟩ := okP_of hb_13 (by decide)
      have hg_j2 : pg (nI j2) = j2 := pg_nI (by omega)
      refine lv_iconst (v := (nI 0)) hx hb dX1_same_18 (by decide +kernel) ?_
      refine lv_istore_n (lv' := [(3, .int (nI 0)), (0, .ref h0), (1, .int (nI j1)), (2, .int (nI j2))]) hx hb dX1_same_19 rfl hl (by decide) rfl (fun ls hl => ?_)
      refine lp_P 20 4 (fun i20 ls => lv_has ls 4 [(3, .int (nI i20)), (0, .ref h0), (1, .int (nI j1)), (2, .int (nI j2))] ∧ ∀ k, k < i20 → w (j1 * 4 + k) = w (j2 * 4 + k)) (fun i20 ls hi_20 hI hnx_20 => ?_) 0 (by omega) ls ⟨lv_sub hl [0, 1, 2, 3] rfl, (fun k hk => absurd hk (Nat.not_lt_zero k))⟩
      obtain ⟨hl, hinv_20⟩ := hI
      refine lv_iload_n hx hb dX1_same_20 rfl (lv_at hl 0 rfl) ?_
      refine lv_iconst (v := (nI 4)) hx hb dX1_same_21 (by decide +kernel) ?_
      refine lv_icmp_ge (tgt := 56) hx hb dX1_same_22 (by decide) (fun c_22 => ?_) (fun c_22 => ?_)
      · have hq_22 : 4 ≤ i20 := (nI_leI (by omega) (by omega)).mp c_22
        have hE_22 : i20 = 4 := by omega
        subst hE_22
        refine lv_iconst (v := (nI 1)) hx hb dX1_same_56 (by decide +kernel) ?_
        have eR : (nI 1) = bI (b_same w (nI j1) (nI j2)) := by simp [b_same, hb_5, hb_13, hg_j1, hg_j2, sm_t hinv_20, bI_1]
        exact W.zret (v := (nI 1)) hx hb hr (by decide +kernel) (fun t ht hW => ⟨_, rfl, eR, ht⟩) (fun q h9 => absurd h9 List.not_mem_nil) dX1_same_57
      · have hlt_20 : i20 < 4 := Nat.lt_of_not_le (fun q => c_22 ((nI_leI (by omega) (by omega)).mpr q))
        refine lv_aload_n hx hb dX1_same_25 rfl (lv_at hl 1 rfl) ?_
        refine va_get (D := (dC, dI)) (ci := 1) (v := .ref qa) (C := RX1) (T := TX1) (N := 2) hx hb hts hin0 hown hK hP 0 rfl rfl 0 (by decide) hf7 (fun _ h9 => h9) rfl dX1_same_26 ?_
        refine lv_iload_n hx hb dX1_same_29 rfl (lv_at hl 2 rfl) ?_
        refine lv_iconst (v := (nI 4)) hx hb dX1_same_30 (by decide +kernel) ?_
        refine my_mul hx hb dX1_same_31 ?_
        refine lv_iload_n hx hb dX1_same_32 rfl (lv_at hl 0 rfl) ?_
        refine my_add hx hb dX1_same_33 ?_
        refine my_iald hx hb hK hP 1 0 rfl rfl (by omega) (by decide) dX1_same_34 ?_
        refine lv_aload_n hx hb dX1_same_35 rfl (lv_at hl 1 rfl) ?_
        refine va_get (D := (dC, dI)) (ci := 1) (v := .ref qa) (C := RX1) (T := TX1) (N := 2) hx hb hts hin0 hown hK hP 0 rfl rfl 0 (by decide) hf7 (fun _ h9 => h9) rfl dX1_same_36 ?_
        refine lv_iload_n hx hb dX1_same_39 rfl (lv_at hl 3 rfl) ?_
        refine lv_iconst (v := (nI 4)) hx hb dX1_same_40 (by decide +kernel) ?_
        refine my_mul hx hb dX1_same_41 ?_
        refine lv_iload_n hx hb dX1_same_42 rfl (lv_at hl 0 rfl) ?_
        refine my_add hx hb dX1_same_43 ?_
        refine my_iald hx hb hK hP 1 0 rfl rfl (by omega) (by decide) dX1_same_44 ?_
        refine lv_icmp_eq (tgt := 50) hx hb dX1_same_45 (by decide) (fun c_45 => ?_) (fun c_45 => ?_)
        · refine lv_iinc (v := (nI (i20 + 1))) (lv' := [(3, .int (nI (i20 + 1))), (0, .ref h0), (1, .int (nI j1)), (2, .int (nI j2))]) hx hb dX1_same_50 hl (k := 0) rfl (nI_1 _) (by decide) rfl (fun ls hl => ?_)
          refine lv_goto (tgt := 20) hx hb dX1_same_53 (by decide) ?_
          exact hnx_20 hlt_20 ls ⟨lv_sub hl [0, 1, 2, 3] rfl, (fun k hk => if q : k < i20 then hinv_20 k q else by (have e : k = i20 := by omega); subst e; exact c_45)⟩
        · refine lv_iconst (v := (nI 0)) hx hb dX1_same_48 (by decide +kernel) ?_
          have eR : (nI 0) = bI (b_same w (nI j1) (nI j2)) := by simp [b_same, hb_5, hb_13, hg_j1, hg_j2, sm_f hlt_20 c_45, bI_0]
          exact W.zret (v := (nI 0)) hx hb hr (by decide +kernel) (fun t ht hW => ⟨_, rfl, eR, ht⟩) (fun q h9 => absurd h9 List.not_mem_nil) dX1_same_49
    · have hb_13 : (okP 24 p2) = false := bI_f c_13
      refine lv_iconst (v := (nI 0)) hx hb dX1_same_16 (by decide +kernel) ?_
      have eR : (nI 0) = bI (b_same w (nI j1) p2) := by simp [b_same, hb_5, hg_j1, hb_13, bI_1, bI_0]
      exact W.zret (v := (nI 0)) hx hb hr (by decide +kernel) (fun t ht hW => ⟨_, rfl, eR, ht⟩) (fun q h9 => absurd h9 List.not_mem_nil) dX1_same_17
set_option maxHeartbeats 4000000 in
set_option maxRecDepth 100000 in
theorem k1_again (l : Launch) (dC : Nat → ClassId) (dI : Nat → Nat → Nat) (h0 qa qb : Nat) (cI cZ : ClassId) (w : Nat → Int32) (h : Nat → Bool) (a : Nat) (ha : a < 24) : Met l yX1_again wsX1_again ({ frames := 2, cells := 0, slots := 0, locals := 44 }) (va_Pc [.ref h0, .int (nI a)] (fun U => va_P (dC, dI) vwCl (W1 h0 qa qb cI cZ w h) U.heap ∧ va_K (dC, dI) vwCl (TY cI cZ) U)) (vp_Si (fun r => r = bI (rep w h a))) 0 0 (fun _ => False) := by
  refine Met.ofW (cc := cX1_again) (maxL := 3) (ret := (some .boolean)) (by decide) rfl ?_
  intro p e s m args below meth c s₁ B hml hv
  obtain ⟨rfl, hP, hK⟩ := hv
  have hx := B.exec
  have hb := B.bytes
  have hr := B.returns
  have hlocks := B.notSynchronized
  have hts := atoms_spec (ws := wsX1_again) B.pre
  have hown : s.vm.findClass RX1 = some m.cls := findClass_of_methodNamed B.named
  have hl := lv_entry ([.ref h0, .int (nI a)]) (n := 3) (Nat.le_of_ble_eq_true rfl)
  rw [lg_entry_eq]
  generalize (lg_sl ([.ref h0, .int (nI a)]) ++ List.replicate (3 - (lg_sl ([.ref h0, .int (nI a)])).length) Slot.unset).toArray = ls at hl ⊢
  have hl : lv_has ls 3 [(0, .ref h0), (1, .int (nI a))] := hl
  refine lv_iconst (v := (nI 0)) hx hb dX1_again_0 (by decide +kernel) ?_
  refine lv_istore_n (lv' := [(2, .int (nI 0)), (0, .ref h0), (1, .int (nI a))]) hx hb dX1_again_1 rfl hl (by decide) rfl (fun ls hl => ?_)
  refine lp_P 2 a (fun i2 ls => lv_has ls 3 [(2, .int (nI i2)), (0, .ref h0), (1, .int (nI a))] ∧ ∀ k, k < i2 → (h k && sm w k a) = false) (fun i2 ls hi_2 hI hnx_2 => ?_) 0 (by omega) ls ⟨lv_sub hl [0, 1, 2] rfl, (fun k hk => absurd hk (Nat.not_lt_zero k))⟩
  obtain ⟨hl, hinv_2⟩ := hI
  refine lv_iload_n hx hb dX1_again_2 rfl (lv_at hl 0 rfl) ?_
  refine lv_iload_n hx hb dX1_again_3 rfl (lv_at hl 2 rfl) ?_
  refine lv_icmp_ge (tgt := 32) hx hb dX1_again_4 (by decide) (fun c_4 => ?_) (fun c_4 => ?_)
  · have hq_4 : a ≤ i2 := (nI_leI (by omega) (by omega)).mp c_4
    have hE_4 : i2 = a := by omega
    refine lv_iconst (v := (nI 0)) hx hb dX1_again_32 (by decide +kernel) ?_
    have eR : (nI 0) = bI (rep w h a) := by rw [rep_f (fun k hk => hinv_2 k (by omega))]; exact bI_0
    exact W.zret (v := (nI 0)) hx hb hr (by decide +kernel) (fun t ht hW => ⟨_, rfl, eR, ht⟩) (fun q h9 => absurd h9 List.not_mem_nil) dX1_again_33
  · have hlt_2 : i2 < a := Nat.lt_of_not_le (fun q => c_4 ((nI_leI (by omega) (by omega)).mpr q))
    refine lv_aload_n hx hb dX1_again_7 rfl (lv_at hl 1 rfl) ?_
    refine lv_iload_n hx hb dX1_again_8 rfl (lv_at hl 0 rfl) ?_
    refine vp_callSi (va_Run.run (va_runV (As := [.int (nI i2)]) (rest := []) ⟨hx, hb, hml, hown, hts⟩ (k1_held l dC dI h0 qa qb cI cZ w h (nI i2)) (cwV 1 hts gX1_again_X1_held rfl rfl rfl (by decide +kernel) ⟨Nat.le_of_ble_eq_true rfl, Nat.le_of_ble_eq_true rfl⟩) ⟨bl_P, va_recv hK hP (ci := 1) (q0 := 0) rfl rfl, fun U hU hW => ⟨rfl, by rw [hU]; exact hP, va_K.moved hW.alike hK⟩⟩ rfl rfl hl.1 rfl (lv_room (Nat.le_of_ble_eq_true rfl)) dX1_again_9 ⟨Nat.zero_le _, Nat.zero_le _⟩)) (fun r_9 hr_9 => ?_)
    obtain rfl : r_9 = (bI (h i2)) := hr_9.trans (by simp [b_held, okP_nI (show i2 < 24 by omega) (by decide), pg_nI (show i2 < 2 ^ 31 by omega)])
    refine lv_if_eq (tgt := 26) hx hb dX1_again_12 (by decide) (fun c_12 => ?_) (fun c_12 => ?_)
    · have hb_12 : (h i2) = false := bI_f c_12
      refine lv_iinc (v := (nI (i2 + 1))) (lv' := [(2, .int (nI (i2 + 1))), (0, .ref h0), (1, .int (nI a))]) hx hb dX1_again_26 hl (k := 0) rfl (nI_1 _) (by decide) rfl (fun ls hl => ?_)
      refine lv_goto (tgt := 2) hx hb dX1_again_29 (by decide) ?_
      exact hnx_2 hlt_2 ls ⟨lv_sub hl [0, 1, 2] rfl, (fun k hk => if q : k < i2 then hinv_2 k q else by (have e : k = i2 := by omega); subst e; simp [hb_12])⟩
    · have hb_12 : (h i2) = true := bI_t c_12
      refine lv_aload_n hx hb dX1_again_15 rfl (lv_at hl 1 rfl) ?_
      refine lv_iload_n hx hb dX1_again_16 rfl (lv_at hl 0 rfl) ?_
      refine lv_iload_n hx hb dX1_again_17 rfl (lv_at hl 2 rfl) ?_
      refine vp_callSi (va_Run.run (va_runV (As := [.int (nI i2), .int (nI a)]) (rest := []) ⟨hx, hb, hml, hown, hts⟩ (k1_same l dC dI h0 qa qb cI cZ w h (nI i2) (nI a)) (cwV 2 hts gX1_again_X1_same rfl rfl rfl (by decide +kernel) ⟨Nat.le_of_ble_eq_true rfl, Nat.le_of_ble_eq_true rfl⟩) ⟨bl_P, va_recv hK hP (ci := 1) (q0 := 0) rfl rfl, fun U hU hW => ⟨rfl, by rw [hU]; exact hP, va_K.moved hW.alike hK⟩⟩ rfl rfl hl.1 rfl (lv_room (Nat.le_of_ble_eq_true rfl)) dX1_again_18 ⟨Nat.zero_le _, Nat.zero_le _⟩)) (fun r_18 hr_18 => ?_)
      obtain rfl : r_18 = (bI (sm w i2 a)) := hr_18.trans (by simp [b_same, okP_nI (show i2 < 24 by omega) (by decide), pg_nI (show i2 < 2 ^ 31 by omega), okP_nI ha (by decide), pg_nI (show a < 2 ^ 31 by omega)])
      refine lv_if_eq (tgt := 26) hx hb dX1_again_21 (by decide) (fun c_21 => ?_) (fun c_21 => ?_)
      · have hb_21 : (sm w i2 a) = false := bI_f c_21
        refine lv_iinc (v := (nI (i2 + 1))) (lv' := [(2, .int (nI (i2 + 1))), (0, .ref h0), (1, .int (nI a))]) hx hb dX1_again_26 hl (k := 0) rfl (nI_1 _) (by decide) rfl (fun ls hl => ?_)
        refine lv_goto (tgt := 2) hx hb dX1_again_29 (by decide) ?_
        exact hnx_2 hlt_2 ls ⟨lv_sub hl [0, 1, 2] rfl, (fun k hk => if q : k < i2 then hinv_2 k q else by (have e : k = i2 := by omega); subst e; simp [hb_12, hb_21])⟩
      · have hb_21 : (sm w i2 a) = true := bI_t c_21
        refine lv_iconst (v := (nI 1)) hx hb dX1_again_24 (by decide +kernel) ?_
        have eR : (nI 1) = bI (rep w h a) := by rw [rep_t hlt_2 hb_12 hb_21]; exact bI_1
        exact W.zret (v := (nI 1)) hx hb hr (by decide +kernel) (fun t ht hW => ⟨_, rfl, eR, ht⟩) (fun q h9 => absurd h9 List.not_mem_nil) dX1_again_25
set_option maxHeartbeats 4000000 in
set_option maxRecDepth 100000 in
theorem k1_contents (l : Launch) (dC : Nat → ClassId) (dI : Nat → Nat → Nat) (h0 qa qb : Nat) (cI cZ : ClassId) (w : Nat → Int32) (h : Nat → Bool)   : Met l yX1_contents wsX1_contents ({ frames := 3, cells := 0, slots := 0, locals := 66 }) (va_Pc [.ref h0] (fun U => va_P (dC, dI) vwCl (W1 h0 qa qb cI cZ w h) U.heap ∧ va_K (dC, dI) vwCl (TY cI cZ) U)) (vp_Si (fun r => r = cnt (f_con w h) 24)) 0 0 (fun _ => False) := by
  refine Met.ofW (cc := cX1_contents) (maxL := 3) (ret := (some .int)) (by decide) rfl ?_
  intro p e s m args below meth c s₁ B hml hv
  obtain ⟨rfl, hP, hK⟩ := hv
  have hx := B.exec
  have hb := B.bytes
  have hr := B.returns
  have hlocks := B.notSynchronized
  have hts := atoms_spec (ws := wsX1_contents) B.pre
  have hown : s.vm.findClass RX1 = some m.cls := findClass_of_methodNamed B.named
  have hl := lv_entry ([.ref h0]) (n := 3) (Nat.le_of_ble_eq_true rfl)
  rw [lg_entry_eq]
  generalize (lg_sl ([.ref h0]) ++ List.replicate (3 - (lg_sl ([.ref h0])).length) Slot.unset).toArray = ls at hl ⊢
  have hl : lv_has ls 3 [(0, .ref h0)] := hl
  refine lv_iconst (v := (nI 0)) hx hb dX1_contents_0 (by decide +kernel) ?_
  refine lv_istore_n (lv' := [(1, .int (nI 0)), (0, .ref h0)]) hx hb dX1_contents_1 rfl hl (by decide) rfl (fun ls hl => ?_)
  refine lv_iconst (v := (nI 0)) hx hb dX1_contents_2 (by decide +kernel) ?_
  refine lv_istore_n (lv' := [(2, .int (nI 0)), (1, .int (nI 0)), (0, .ref h0)]) hx hb dX1_contents_3 rfl hl (by decide) rfl (fun ls hl => ?_)
  refine lp_P 4 24 (fun i4 ls => lv_has ls 3 [(2, .int (nI i4)), (1, .int (cnt (f_con w h) i4)), (0, .ref h0)]) (fun i4 ls hi_4 hI hnx_4 => ?_) 0 (by omega) ls (lv_sub hl [0, 1, 2] rfl)
  have hl := hI
  refine lv_iload_n hx hb dX1_contents_4 rfl (lv_at hl 0 rfl) ?_
  refine lv_bipush (v := (nI 24)) hx hb dX1_contents_5 (by decide +kernel) ?_
  refine lv_icmp_ge (tgt := 35) hx hb dX1_contents_7 (by decide) (fun c_7 => ?_) (fun c_7 => ?_)
  · have hq_7 : 24 ≤ i4 := (nI_leI (by omega) (by omega)).mp c_7
    have hE_7 : i4 = 24 := by omega
    subst hE_7
    refine lv_iload_n hx hb dX1_contents_35 rfl (lv_at hl 1 rfl) ?_
    have eR : (cnt (f_con w h) 24) = cnt (f_con w h) 24 := by simp []
    exact W.iret (v := (cnt (f_con w h) 24)) hx hb hr (fun t ht hW => ⟨_, rfl, eR, ht⟩) (fun q h9 => absurd h9 List.not_mem_nil) dX1_contents_36
  · have hlt_4 : i4 < 24 := Nat.lt_of_not_le (fun q => c_7 ((nI_leI (by omega) (by omega)).mpr q))
    refine lv_aload_n hx hb dX1_contents_10 rfl (lv_at hl 2 rfl) ?_
    refine lv_iload_n hx hb dX1_contents_11 rfl (lv_at hl 0 rfl) ?_
    refine vp_callSi (va_Run.run (va_runV (As := [.int (nI i4)]) (rest := []) ⟨hx, hb, hml, hown, hts⟩ (k1_held l dC dI h0 qa qb cI cZ w h (nI i4)) (cwV 1 hts gX1_contents_X1_held rfl rfl rfl (by decide +kernel) ⟨Nat.le_of_ble_eq_true rfl, Nat.le_of_ble_eq_true rfl⟩) ⟨bl_P, va_recv hK hP (ci := 1) (q0 := 0) rfl rfl, fun U hU hW => ⟨rfl, by rw [hU]; exact hP, va_K.moved hW.alike hK⟩⟩ rfl rfl hl.1 rfl (lv_room (Nat.le_of_ble_eq_true rfl)) dX1_contents_12 ⟨Nat.zero_le _, Nat.zero_le _⟩)) (fun r_12 hr_12 => ?_)
    obtain rfl : r_12 = (bI (h i4)) := hr_12.trans (by simp [b_held, okP_nI (show i4 < 24 by omega) (by decide), pg_nI (show i4 < 2 ^ 31 by omega)])
    refine lv_if_eq (tgt := 29) hx hb dX1_contents_15 (by decide) (fun c_15 => ?_) (fun c_15 => ?_)
    · have hb_15 : (h i4) = false := bI_f c_15
      refine lv_iinc (v := (nI (i4 + 1))) (lv' := [(2, .int (nI (i4 + 1))), (1, .int (cnt (f_con w h) i4)), (0, .ref h0)]) hx hb dX1_contents_29 hl (k := 0) rfl (nI_1 _) (by decide) rfl (fun ls hl => ?_)
      refine lv_goto (tgt := 4) hx hb dX1_contents_32 (by decide) ?_
      exact hnx_4 hlt_4 ls (by rw [show (cnt (f_con w h) (i4 + 1)) = (cnt (f_con w h) i4) from cnt_n (by simp [f_con, hb_15])]; exact lv_sub hl [0, 1, 2] rfl)
    · have hb_15 : (h i4) = true := bI_t c_15
      refine lv_aload_n hx hb dX1_contents_18 rfl (lv_at hl 2 rfl) ?_
      refine lv_iload_n hx hb dX1_contents_19 rfl (lv_at hl 0 rfl) ?_
      refine vp_callSi (va_Run.run (va_runV (As := [.int (nI i4)]) (rest := []) ⟨hx, hb, hml, hown, hts⟩ (k1_again l dC dI h0 qa qb cI cZ w h i4 (by omega)) (cwV 1 hts gX1_contents_X1_again rfl rfl rfl (by decide +kernel) ⟨Nat.le_of_ble_eq_true rfl, Nat.le_of_ble_eq_true rfl⟩) ⟨bl_P, va_recv hK hP (ci := 1) (q0 := 0) rfl rfl, fun U hU hW => ⟨rfl, by rw [hU]; exact hP, va_K.moved hW.alike hK⟩⟩ rfl rfl hl.1 rfl (lv_room (Nat.le_of_ble_eq_true rfl)) dX1_contents_20 ⟨Nat.zero_le _, Nat.zero_le _⟩)) (fun r_20 hr_20 => ?_)
      obtain rfl : r_20 = (bI (rep w h i4)) := hr_20
      refine lv_if_ne (tgt := 29) hx hb dX1_contents_23 (by decide) (fun c_23 => ?_) (fun c_23 => ?_)
      · have hb_23 : (rep w h i4) = true := bI_t c_23
        refine lv_iinc (v := (nI (i4 + 1))) (lv' := [(2, .int (nI (i4 + 1))), (1, .int (cnt (f_con w h) i4)), (0, .ref h0)]) hx hb dX1_contents_29 hl (k := 0) rfl (nI_1 _) (by decide) rfl (fun ls hl => ?_)
        refine lv_goto (tgt := 4) hx hb dX1_contents_32 (by decide) ?_
        exact hnx_4 hlt_4 ls (by rw [show (cnt (f_con w h) (i4 + 1)) = (cnt (f_con w h) i4) from cnt_n (by simp [f_con, hb_15, hb_23])]; exact lv_sub hl [0, 1, 2] rfl)
      · have hb_23 : (rep w h i4) = false := bI_f c_23
        refine lv_iinc (v := (cnt (f_con w h) i4 + 1)) (lv' := [(1, .int (cnt (f_con w h) i4 + 1)), (2, .int (nI i4)), (0, .ref h0)]) hx hb dX1_contents_26 hl (k := 1) rfl rfl (by decide) rfl (fun ls hl => ?_)
        refine lv_iinc (v := (nI (i4 + 1))) (lv' := [(2, .int (nI (i4 + 1))), (1, .int (cnt (f_con w h) i4 + 1)), (0, .ref h0)]) hx hb dX1_contents_29 hl (k := 1) rfl (nI_1 _) (by decide) rfl (fun ls hl => ?_)
        refine lv_goto (tgt := 4) hx hb dX1_contents_32 (by decide) ?_
        exact hnx_4 hlt_4 ls (by rw [show (cnt (f_con w h) (i4 + 1)) = (cnt (f_con w h) i4 + 1) from cnt_y (by simp [f_con, hb_15, hb_23])]; exact lv_sub hl [0, 1, 2] rfl)
set_option maxHeartbeats 4000000 in
set_option maxRecDepth 100000 in
theorem k1_duplicates (l : Launch) (dC : Nat → ClassId) (dI : Nat → Nat → Nat) (h0 qa qb : Nat) (cI cZ : ClassId) (w : Nat → Int32) (h : Nat → Bool)   : Met l yX1_duplicates wsX1_duplicates ({ frames := 3, cells := 0, slots := 0, locals := 66 }) (va_Pc [.ref h0] (fun U => va_P (dC, dI) vwCl (W1 h0 qa qb cI cZ w h) U.heap ∧ va_K (dC, dI) vwCl (TY cI cZ) U)) (vp_Si (fun r => r = cnt (f_dup w h) 24)) 0 0 (fun _ => False) := by
  refine Met.ofW (cc := cX1_duplicates) (maxL := 3) (ret := (some .int)) (by decide) rfl ?_
  intro p e s m args below meth c s₁ B hml hv
  obtain ⟨rfl, hP, hK⟩ := hv
  have hx := B.exec
  have hb := B.bytes
  have hr := B.returns
  have hlocks := B.notSynchronized
  have hts := atoms_spec (ws := wsX1_duplicates) B.pre
  have hown : s.vm.findClass RX1 = some m.cls := findClass_of_methodNamed B.named
  have hl := lv_entry ([.ref h0]) (n := 3) (Nat.le_of_ble_eq_true rfl)
  rw [lg_entry_eq]
  generalize (lg_sl ([.ref h0]) ++ List.replicate (3 - (lg_sl ([.ref h0])).length) Slot.unset).toArray = ls at hl ⊢
  have hl : lv_has ls 3 [(0, .ref h0)] := hl
  refine lv_iconst (v := (nI 0)) hx hb dX1_duplicates_0 (by decide +kernel) ?_
  refine lv_istore_n (lv' := [(1, .int (nI 0)), (0, .ref h0)]) hx hb dX1_duplicates_1 rfl hl (by decide) rfl (fun ls hl => ?_)
  refine lv_iconst (v := (nI 0)) hx hb dX1_duplicates_2 (by decide +kernel) ?_
  refine lv_istore_n (lv' := [(2, .int (nI 0)), (1, .int (nI 0)), (0, .ref h0)]) hx hb dX1_duplicates_3 rfl hl (by decide) rfl (fun ls hl => ?_)
  refine lp_P 4 24 (fun i4 ls => lv_has ls 3 [(2, .int (nI i4)), (1, .int (cnt (f_dup w h) i4)), (0, .ref h0)]) (fun i4 ls hi_4 hI hnx_4 => ?_) 0 (by omega) ls (lv_sub hl [0, 1, 2] rfl)
  have hl := hI
  refine lv_iload_n hx hb dX1_duplicates_4 rfl (lv_at hl 0 rfl) ?_
  refine lv_bipush (v := (nI 24)) hx hb dX1_duplicates_5 (by decide +kernel) ?_
  refine lv_icmp_ge (tgt := 35) hx hb dX1_duplicates_7 (by decide) (fun c_7 => ?_) (fun c_7 => ?_)
  · have hq_7 : 24 ≤ i4 := (nI_leI (by omega) (by omega)).mp c_7
    have hE_7 : i4 = 24 := by omega
    subst hE_7
    refine lv_iload_n hx hb dX1_duplicates_35 rfl (lv_at hl 1 rfl) ?_
    have eR : (cnt (f_dup w h) 24) = cnt (f_dup w h) 24 := by simp []
    exact W.iret (v := (cnt (f_dup w h) 24)) hx hb hr (fun t ht hW => ⟨_, rfl, eR, ht⟩) (fun q h9 => absurd h9 List.not_mem_nil) dX1_duplicates_36
  · have hlt_4 : i4 < 24 := Nat.lt_of_not_le (fun q => c_7 ((nI_leI (by omega) (by omega)).mpr q))
    refine lv_aload_n hx hb dX1_duplicates_10 rfl (lv_at hl 2 rfl) ?_
    refine lv_iload_n hx hb dX1_duplicates_11 rfl (lv_at hl 0 rfl) ?_
    refine vp_callSi (va_Run.run (va_runV (As := [.int (nI i4)]) (rest := []) ⟨hx, hb, hml, hown, hts⟩ (k1_held l dC dI h0 qa qb cI cZ w h (nI i4)) (cwV 1 hts gX1_duplicates_X1_held rfl rfl rfl (by decide +kernel) ⟨Nat.le_of_ble_eq_true rfl, Nat.le_of_ble_eq_true rfl⟩) ⟨bl_P, va_recv hK hP (ci := 1) (q0 := 0) rfl rfl, fun U hU hW => ⟨rfl, by rw [hU]; exact hP, va_K.moved hW.alike hK⟩⟩ rfl rfl hl.1 rfl (lv_room (Nat.le_of_ble_eq_true rfl)) dX1_duplicates_12 ⟨Nat.zero_le _, Nat.zero_le _⟩)) (fun r_12 hr_12 => ?_)
    obtain rfl : r_12 = (bI (h i4)) := hr_12.trans (by simp [b_held, okP_nI (show i4 < 24 by omega) (by decide), pg_nI (show i4 < 2 ^ 31 by omega)])
    refine lv_if_eq (tgt := 29) hx hb dX1_duplicates_15 (by decide) (fun c_15 => ?_) (fun c_15 => ?_)
    · have hb_15 : (h i4) = false := bI_f c_15
      refine lv_iinc (v := (nI (i4 + 1))) (lv' := [(2, .int (nI (i4 + 1))), (1, .int (cnt (f_dup w h) i4)), (0, .ref h0)]) hx hb dX1_duplicates_29 hl (k := 0) rfl (nI_1 _) (by decide) rfl (fun ls hl => ?_)
      refine lv_goto (tgt := 4) hx hb dX1_duplicates_32 (by decide) ?_
      exact hnx_4 hlt_4 ls (by rw [show (cnt (f_dup w h) (i4 + 1)) = (cnt (f_dup w h) i4) from cnt_n (by simp [f_dup, hb_15])]; exact lv_sub hl [0, 1, 2] rfl)
    · have hb_15 : (h i4) = true := bI_t c_15
      refine lv_aload_n hx hb dX1_duplicates_18 rfl (lv_at hl 2 rfl) ?_
      refine lv_iload_n hx hb dX1_duplicates_19 rfl (lv_at hl 0 rfl) ?_
      refine vp_callSi (va_Run.run (va_runV (As := [.int (nI i4)]) (rest := []) ⟨hx, hb, hml, hown, hts⟩ (k1_again l dC dI h0 qa qb cI cZ w h i4 (by omega)) (cwV 1 hts gX1_duplicates_X1_again rfl rfl rfl (by decide +kernel) ⟨Nat.le_of_ble_eq_true rfl, Nat.le_of_ble_eq_true rfl⟩) ⟨bl_P, va_recv hK hP (ci := 1) (q0 := 0) rfl rfl, fun U hU hW => ⟨rfl, by rw [hU]; exact hP, va_K.moved hW.alike hK⟩⟩ rfl rfl hl.1 rfl (lv_room (Nat.le_of_ble_eq_true rfl)) dX1_duplicates_20 ⟨Nat.zero_le _, Nat.zero_le _⟩)) (fun r_20 hr_20 => ?_)
      obtain rfl : r_20 = (bI (rep w h i4)) := hr_20
      refine lv_if_eq (tgt := 29) hx hb dX1_duplicates_23 (by decide) (fun c_23 => ?_) (fun c_23 => ?_)
      · have hb_23 : (rep w h i4) = false := bI_f c_23
        refine lv_iinc (v := (nI (i4 + 1))) (lv' := [(2, .int (nI (i4 + 1))), (1, .int (cnt (f_dup w h) i4)), (0, .ref h0)]) hx hb dX1_duplicates_29 hl (k := 0) rfl (nI_1 _) (by decide) rfl (fun ls hl => ?_)
        refine lv_goto (tgt := 4) hx hb dX1_duplicates_32 (by decide) ?_
        exact hnx_4 hlt_4 ls (by rw [show (cnt (f_dup w h) (i4 + 1)) = (cnt (f_dup w h) i4) from cnt_n (by simp [f_dup, hb_15, hb_23])]; exact lv_sub hl [0, 1, 2] rfl)
      · have hb_23 : (rep w h i4) = true := bI_t c_23
        refine lv_iinc (v := (cnt (f_dup w h) i4 + 1)) (lv' := [(1, .int (cnt (f_dup w h) i4 + 1)), (2, .int (nI i4)), (0, .ref h0)]) hx hb dX1_duplicates_26 hl (k := 1) rfl rfl (by decide) rfl (fun ls hl => ?_)
        refine lv_iinc (v := (nI (i4 + 1))) (lv' := [(2, .int (nI (i4 + 1))), (1, .int (cnt (f_dup w h) i4 + 1)), (0, .ref h0)]) hx hb dX1_duplicates_29 hl (k := 1) rfl (nI_1 _) (by decide) rfl (fun ls hl => ?_)
        refine lv_goto (tgt := 4) hx hb dX1_duplicates_32 (by decide) ?_
        exact hnx_4 hlt_4 ls (by rw [show (cnt (f_dup w h) (i4 + 1)) = (cnt (f_dup w h) i4 + 1) from cnt_y (by simp [f_dup, hb_15, hb_23])]; exact lv_sub hl [0, 1, 2] rfl)
set_option maxHeartbeats 4000000 in
set_option maxRecDepth 100000 in
theorem k1_sum (l : Launch) (dC : Nat → ClassId) (dI : Nat → Nat → Nat) (h0 qa qb : Nat) (cI cZ : ClassId) (w : Nat → Int32) (h : Nat → Bool) (p1 : Int32)  : Met l yX1_sum wsX1_sum ({ frames := 0, cells := 0, slots := 0, locals := 0 }) (va_Pc [.ref h0, .int (p1)] (fun U => va_P (dC, dI) vwCl (W1 h0 qa qb cI cZ w h) U.heap ∧ va_K (dC, dI) vwCl (TY cI cZ) U)) (vp_Si (fun r => r = s_sum w p1)) 0 0 (fun _ => False) := by
  refine Met.ofW (cc := cX1_sum) (maxL := 4) (ret := (some .int)) (by decide) rfl ?_
  intro p e s m args below meth c s₁ B hml hv
  obtain ⟨rfl, hP, hK⟩ := hv
  have hx := B.exec
  have hb := B.bytes
  have hr := B.returns
  have hlocks := B.notSynchronized
  have hts := atoms_spec (ws := wsX1_sum) B.pre
  have hown : s.vm.findClass RX1 = some m.cls := findClass_of_methodNamed B.named
  have hin0 : ∀ w ∈ wsX10, w ∈ wsX1_sum := by decide +kernel
  have hf7 := hts (.fieldLink RX1 7 "PageMergerModel" "words" "[I") (by decide +kernel)
  have hl := lv_entry ([.ref h0, .int (p1)]) (n := 4) (Nat.le_of_ble_eq_true rfl)
  rw [lg_entry_eq]
  generalize (lg_sl ([.ref h0, .int (p1)]) ++ List.replicate (4 - (lg_sl ([.ref h0, .int (p1)])).length) Slot.unset).toArray = ls at hl ⊢
  have hl : lv_has ls 4 [(0, .ref h0), (1, .int (p1))] := hl
  refine lv_iconst (v := (nI 0)) hx hb dX1_sum_0 (by decide +kernel) ?_
  refine lv_istore_n (lv' := [(2, .int (nI 0)), (0, .ref h0), (1, .int (p1))]) hx hb dX1_sum_1 rfl hl (by decide) rfl (fun ls hl => ?_)
  refine lv_iconst (v := (nI 0)) hx hb dX1_sum_2 (by decide +kernel) ?_
  refine lv_istore_n (lv' := [(3, .int (nI 0)), (2, .int (nI 0)), (0, .ref h0), (1, .int (p1))]) hx hb dX1_sum_3 rfl hl (by decide) rfl (fun ls hl => ?_)
  refine lp_P 4 96 (fun i4 ls => lv_has ls 4 [(3, .int (nI i4)), (2, .int (totN w p1 i4)), (0, .ref h0), (1, .int (p1))]) (fun i4 ls hi_4 hI hnx_4 => ?_) 0 (by omega) ls (lv_sub hl [0, 1, 2, 3] rfl)
  have hl := hI
  refine lv_iload_n hx hb dX1_sum_4 rfl (lv_at hl 0 rfl) ?_
  refine lv_bipush (v := (nI 96)) hx hb dX1_sum_5 (by decide +kernel) ?_
  refine lv_icmp_ge (tgt := 33) hx hb dX1_sum_7 (by decide) (fun c_7 => ?_) (fun c_7 => ?_)
  · have hq_7 : 96 ≤ i4 := (nI_leI (by omega) (by omega)).mp c_7
    have hE_7 : i4 = 96 := by omega
    subst hE_7
    refine lv_iload_n hx hb dX1_sum_33 rfl (lv_at hl 1 rfl) ?_
    have eR : (totN w p1 96) = s_sum w p1 := tot_sum w p1
    exact W.iret (v := (totN w p1 96)) hx hb hr (fun t ht hW => ⟨_, rfl, eR, ht⟩) (fun q h9 => absurd h9 List.not_mem_nil) dX1_sum_34
  · have hlt_4 : i4 < 96 := Nat.lt_of_not_le (fun q => c_7 ((nI_leI (by omega) (by omega)).mpr q))
    refine lv_iload_n hx hb dX1_sum_10 rfl (lv_at hl 0 rfl) ?_
    refine lv_bipush (v := (nI 32)) hx hb dX1_sum_11 (by decide +kernel) ?_
    refine my_div hx hb (by omega) (by decide) (by decide) dX1_sum_13 ?_
    refine lv_iload_n hx hb dX1_sum_14 rfl (lv_at hl 3 rfl) ?_
    refine lv_icmp_ne (tgt := 27) hx hb dX1_sum_15 (by decide) (fun c_15 => ?_) (fun c_15 => ?_)
    · refine lv_iinc (v := (nI (i4 + 1))) (lv' := [(3, .int (nI (i4 + 1))), (2, .int (totN w p1 i4)), (0, .ref h0), (1, .int (p1))]) hx hb dX1_sum_27 hl (k := 0) rfl (nI_1 _) (by decide) rfl (fun ls hl => ?_)
      refine lv_goto (tgt := 4) hx hb dX1_sum_30 (by decide) ?_
      exact hnx_4 hlt_4 ls (by rw [show (totN w p1 (i4 + 1)) = (totN w p1 i4) from tot_n c_15]; exact lv_sub hl [0, 1, 2, 3] rfl)
    · refine lv_iload_n hx hb dX1_sum_18 rfl (lv_at hl 1 rfl) ?_
      refine lv_aload_n hx hb dX1_sum_19 rfl (lv_at hl 2 rfl) ?_
      refine va_get (D := (dC, dI)) (ci := 1) (v := .ref qa) (C := RX1) (T := TX1) (N := 2) hx hb hts hin0 hown hK hP 0 rfl rfl 0 (by decide) hf7 (fun _ h9 => h9) rfl dX1_sum_20 ?_
      refine lv_iload_n hx hb dX1_sum_23 rfl (lv_at hl 0 rfl) ?_
      refine my_iald hx hb hK hP 1 0 rfl rfl (by omega) (by decide) dX1_sum_24 ?_
      refine lv_iadd hx hb dX1_sum_25 ?_
      refine lv_istore_n (lv' := [(2, .int ((totN w p1 i4) + (w (i4)))), (3, .int (nI i4)), (0, .ref h0), (1, .int (p1))]) hx hb dX1_sum_26 rfl hl (by decide) rfl (fun ls hl => ?_)
      refine lv_iinc (v := (nI (i4 + 1))) (lv' := [(3, .int (nI (i4 + 1))), (2, .int ((totN w p1 i4) + (w (i4)))), (0, .ref h0), (1, .int (p1))]) hx hb dX1_sum_27 hl (k := 1) rfl (nI_1 _) (by decide) rfl (fun ls hl => ?_)
      refine lv_goto (tgt := 4) hx hb dX1_sum_30 (by decide) ?_
      exact hnx_4 hlt_4 ls (by rw [show (totN w p1 (i4 + 1)) = ((totN w p1 i4) + (w (i4))) from tot_y c_15]; exact lv_sub hl [0, 1, 2, 3] rfl)
set_option maxHeartbeats 4000000 in
set_option maxRecDepth 100000 in
theorem k1_plain (l : Launch) (dC : Nat → ClassId) (dI : Nat → Nat → Nat) (h0 qa qb : Nat) (cI cZ : ClassId) (w : Nat → Int32) (h : Nat → Bool)   : Met l yX1_plain wsX1_plain ({ frames := 2, cells := 0, slots := 0, locals := 42 }) (va_Pc [.ref h0] (fun U => va_P (dC, dI) vwCl (W1 h0 qa qb cI cZ w h) U.heap ∧ va_K (dC, dI) vwCl (TY cI cZ) U)) (vp_Si (fun r => r = cnt (f_pla w h) 24)) 0 0 (fun _ => False) := by
  refine Met.ofW (cc := cX1_plain) (maxL := 5) (ret := (some .int)) (by decide) rfl ?_
  intro p e s m args below meth c s₁ B hml hv
  obtain ⟨rfl, hP, hK⟩ := hv
  have hx := B.exec
  have hb := B.bytes
  have hr := B.returns
  have hlocks := B.notSynchronized
  have hts := atoms_spec (ws := wsX1_plain) B.pre
  have hown : s.vm.findClass RX1 = some m.cls := findClass_of_methodNamed B.named
  have hin0 : ∀ w ∈ wsX10, w ∈ wsX1_plain := by decide +kernel
  have hf7 := hts (.fieldLink RX1 7 "PageMergerModel" "words" "[I") (by decide +kernel)
  have hl := lv_entry ([.ref h0]) (n := 5) (Nat.le_of_ble_eq_true rfl)
  rw [lg_entry_eq]
  generalize (lg_sl ([.ref h0]) ++ List.replicate (5 - (lg_sl ([.ref h0])).length) Slot.unset).toArray = ls at hl ⊢
  have hl : lv_has ls 5 [(0, .ref h0)] := hl
  refine lv_iconst (v := (nI 0)) hx hb dX1_plain_0 (by decide +kernel) ?_
  refine lv_istore_n (lv' := [(1, .int (nI 0)), (0, .ref h0)]) hx hb dX1_plain_1 rfl hl (by decide) rfl (fun ls hl => ?_)
  refine lv_iconst (v := (nI 0)) hx hb dX1_plain_2 (by decide +kernel) ?_
  refine lv_istore_n (lv' := [(2, .int (nI 0)), (1, .int (nI 0)), (0, .ref h0)]) hx hb dX1_plain_3 rfl hl (by decide) rfl (fun ls hl => ?_)
  refine lp_P 4 24 (fun i4 ls => lv_has ls 5 [(2, .int (nI i4)), (1, .int (cnt (f_pla w h) i4)), (0, .ref h0)]) (fun i4 ls hi_4 hI hnx_4 => ?_) 0 (by omega) ls (lv_sub hl [0, 1, 2] rfl)
  have hl := hI
  refine lv_iload_n hx hb dX1_plain_4 rfl (lv_at hl 0 rfl) ?_
  refine lv_bipush (v := (nI 24)) hx hb dX1_plain_5 (by decide +kernel) ?_
  refine lv_icmp_ge (tgt := 80) hx hb dX1_plain_7 (by decide) (fun c_7 => ?_) (fun c_7 => ?_)
  · have hq_7 : 24 ≤ i4 := (nI_leI (by omega) (by omega)).mp c_7
    have hE_7 : i4 = 24 := by omega
    subst hE_7
    refine lv_iload_n hx hb dX1_plain_80 rfl (lv_at hl 1 rfl) ?_
    have eR : (cnt (f_pla w h) 24) = cnt (f_pla w h) 24 := by simp []
    exact W.iret (v := (cnt (f_pla w h) 24)) hx hb hr (fun t ht hW => ⟨_, rfl, eR, ht⟩) (fun q h9 => absurd h9 List.not_mem_nil) dX1_plain_81
  · have hlt_4 : i4 < 24 := Nat.lt_of_not_le (fun q => c_7 ((nI_leI (by omega) (by omega)).mpr q))
    refine lv_iconst (v := (bI (one w i4 1))) hx hb dX1_plain_10 (by rw [one_1]; decide +kernel) ?_
    refine lv_istore_n (lv' := [(3, .int (bI (one w i4 1))), (2, .int (nI i4)), (1, .int (cnt (f_pla w h) i4)), (0, .ref h0)]) hx hb dX1_plain_11 rfl hl (by decide) rfl (fun ls hl => ?_)
    refine lv_iconst (v := (nI 1)) hx hb dX1_plain_12 (by decide +kernel) ?_
    refine lv_istore (lv' := [(4, .int (nI 1)), (3, .int (bI (one w i4 1))), (2, .int (nI i4)), (1, .int (cnt (f_pla w h) i4)), (0, .ref h0)]) hx hb dX1_plain_13 hl (by decide) rfl (fun ls hl => ?_)
    refine lp_P 15 4 (fun i15 ls => lv_has ls 5 [(4, .int (nI i15)), (3, .int (bI (one w i4 i15))), (2, .int (nI i4)), (1, .int (cnt (f_pla w h) i4)), (0, .ref h0)]) (fun i15 ls hi_15 hI hnx_15 => ?_) 1 (by omega) ls (lv_sub hl [0, 1, 2, 3, 4] rfl)
    have hl := hI
    refine lv_iload hx hb dX1_plain_15 (lv_at hl 0 rfl) ?_
    refine lv_iconst (v := (nI 4)) hx hb dX1_plain_17 (by decide +kernel) ?_
    refine lv_icmp_ge (tgt := 59) hx hb dX1_plain_18 (by decide) (fun c_18 => ?_) (fun c_18 => ?_)
    · have hq_18 : 4 ≤ i15 := (nI_leI (by omega) (by omega)).mp c_18
      have hE_18 : i15 = 4 := by omega
      subst hE_18
      refine lv_iload_n hx hb dX1_plain_59 rfl (lv_at hl 1 rfl) ?_
      refine lv_if_eq (tgt := 74) hx hb dX1_plain_60 (by decide) (fun c_60 => ?_) (fun c_60 => ?_)
      · have hb_60 : (one w i4 4) = false := bI_f c_60
        refine lv_iinc (v := (nI (i4 + 1))) (lv' := [(2, .int (nI (i4 + 1))), (4, .int (nI 4)), (3, .int (bI (one w i4 4))), (1, .int (cnt (f_pla w h) i4)), (0, .ref h0)]) hx hb dX1_plain_74 hl (k := 2) rfl (nI_1 _) (by decide) rfl (fun ls hl => ?_)
        refine lv_goto (tgt := 4) hx hb dX1_plain_77 (by decide) ?_
        exact hnx_4 hlt_4 ls (by rw [show (cnt (f_pla w h) (i4 + 1)) = (cnt (f_pla w h) i4) from cnt_n (by simp [f_pla, hb_60])]; exact lv_sub hl [0, 3, 4] rfl)
      · have hb_60 : (one w i4 4) = true := bI_t c_60
        refine lv_aload_n hx hb dX1_plain_63 rfl (lv_at hl 4 rfl) ?_
        refine lv_iload_n hx hb dX1_plain_64 rfl (lv_at hl 2 rfl) ?_
        refine vp_callSi (va_Run.run (va_runV (As := [.int (nI i4)]) (rest := []) ⟨hx, hb, hml, hown, hts⟩ (k1_held l dC dI h0 qa qb cI cZ w h (nI i4)) (cwV 1 hts gX1_plain_X1_held rfl rfl rfl (by decide +kernel) ⟨Nat.le_of_ble_eq_true rfl, Nat.le_of_ble_eq_true rfl⟩) ⟨bl_P, va_recv hK hP (ci := 1) (q0 := 0) rfl rfl, fun U hU hW => ⟨rfl, by rw [hU]; exact hP, va_K.moved hW.alike hK⟩⟩ rfl rfl hl.1 rfl (lv_room (Nat.le_of_ble_eq_true rfl)) dX1_plain_65 ⟨Nat.zero_le _, Nat.zero_le _⟩)) (fun r_65 hr_65 => ?_)
        obtain rfl : r_65 = (bI (h i4)) := hr_65.trans (by simp [b_held, okP_nI (show i4 < 24 by omega) (by decide), pg_nI (show i4 < 2 ^ 31 by omega)])
        refine lv_if_eq (tgt := 74) hx hb dX1_plain_68 (by decide) (fun c_68 => ?_) (fun c_68 => ?_)
        · have hb_68 : (h i4) = false := bI_f c_68
          refine lv_iinc (v := (nI (i4 + 1))) (lv' := [(2, .int (nI (i4 + 1))), (4, .int (nI 4)), (3, .int (bI (one w i4 4))), (1, .int (cnt (f_pla w h) i4)), (0, .ref h0)]) hx hb dX1_plain_74 hl (k := 2) rfl (nI_1 _) (by decide) rfl (fun ls hl => ?_)
          refine lv_goto (tgt := 4) hx hb dX1_plain_77 (by decide) ?_
          exact hnx_4 hlt_4 ls (by rw [show (cnt (f_pla w h) (i4 + 1)) = (cnt (f_pla w h) i4) from cnt_n (by simp [f_pla, hb_60, hb_68])]; exact lv_sub hl [0, 3, 4] rfl)
        · have hb_68 : (h i4) = true := bI_t c_68
          refine lv_iinc (v := (cnt (f_pla w h) i4 + 1)) (lv' := [(1, .int (cnt (f_pla w h) i4 + 1)), (4, .int (nI 4)), (3, .int (bI (one w i4 4))), (2, .int (nI i4)), (0, .ref h0)]) hx hb dX1_plain_71 hl (k := 3) rfl rfl (by decide) rfl (fun ls hl => ?_)
          refine lv_iinc (v := (nI (i4 + 1))) (lv' := [(2, .int (nI (i4 + 1))), (1, .int (cnt (f_pla w h) i4 + 1)), (4, .int (nI 4)), (3, .int (bI (one w i4 4))), (0, .ref h0)]) hx hb dX1_plain_74 hl (k := 3) rfl (nI_1 _) (by decide) rfl (fun ls hl => ?_)
          refine lv_goto (tgt := 4) hx hb dX1_plain_77 (by decide) ?_
          exact hnx_4 hlt_4 ls (by rw [show (cnt (f_pla w h) (i4 + 1)) = (cnt (f_pla w h) i4 + 1) from cnt_y (by simp [f_pla, hb_60, hb_68])]; exact lv_sub hl [0, 1, 4] rfl)
    · have hlt_15 : i15 < 4 := Nat.lt_of_not_le (fun q => c_18 ((nI_leI (by omega) (by omega)).mpr q))
      refine lv_iload_n hx hb dX1_plain_21 rfl (lv_at hl 1 rfl) ?_
      refine lv_if_eq (tgt := 51) hx hb dX1_plain_22 (by decide) (fun c_22 => ?_) (fun c_22 => ?_)
      · have hb_22 : (one w i4 i15) = false := bI_f c_22
        refine lv_iconst (v := (nI 0)) hx hb dX1_plain_51 (by decide +kernel) ?_
        refine lv_istore_n (lv' := [(3, .int (nI 0)), (4, .int (nI i15)), (2, .int (nI i4)), (1, .int (cnt (f_pla w h) i4)), (0, .ref h0)]) hx hb dX1_plain_52 rfl hl (by decide) rfl (fun ls hl => ?_)
        refine lv_iinc (v := (nI (i15 + 1))) (lv' := [(4, .int (nI (i15 + 1))), (3, .int (nI 0)), (2, .int (nI i4)), (1, .int (cnt (f_pla w h) i4)), (0, .ref h0)]) hx hb dX1_plain_53 hl (k := 1) rfl (nI_1 _) (by decide) rfl (fun ls hl => ?_)
        refine lv_goto (tgt := 15) hx hb dX1_plain_56 (by decide) ?_
        exact hnx_15 hlt_15 ls (by rw [show (bI (one w i4 (i15 + 1))) = (nI 0) from by simp [one_s, bI_1, bI_0, hb_22]]; exact lv_sub hl [0, 1, 2, 3, 4] rfl)
      · have hb_22 : (one w i4 i15) = true := bI_t c_22
        refine lv_aload_n hx hb dX1_plain_25 rfl (lv_at hl 4 rfl) ?_
        refine va_get (D := (dC, dI)) (ci := 1) (v := .ref qa) (C := RX1) (T := TX1) (N := 2) hx hb hts hin0 hown hK hP 0 rfl rfl 0 (by decide) hf7 (fun _ h9 => h9) rfl dX1_plain_26 ?_
        refine lv_iload_n hx hb dX1_plain_29 rfl (lv_at hl 2 rfl) ?_
        refine lv_iconst (v := (nI 4)) hx hb dX1_plain_30 (by decide +kernel) ?_
        refine my_mul hx hb dX1_plain_31 ?_
        refine lv_iload hx hb dX1_plain_32 (lv_at hl 0 rfl) ?_
        refine my_add hx hb dX1_plain_34 ?_
        refine my_iald hx hb hK hP 1 0 rfl rfl (by omega) (by decide) dX1_plain_35 ?_
        refine lv_aload_n hx hb dX1_plain_36 rfl (lv_at hl 4 rfl) ?_
        refine va_get (D := (dC, dI)) (ci := 1) (v := .ref qa) (C := RX1) (T := TX1) (N := 2) hx hb hts hin0 hown hK hP 0 rfl rfl 0 (by decide) hf7 (fun _ h9 => h9) rfl dX1_plain_37 ?_
        refine lv_iload_n hx hb dX1_plain_40 rfl (lv_at hl 2 rfl) ?_
        refine lv_iconst (v := (nI 4)) hx hb dX1_plain_41 (by decide +kernel) ?_
        refine my_mul hx hb dX1_plain_42 ?_
        refine my_iald hx hb hK hP 1 0 rfl rfl (by omega) (by decide) dX1_plain_43 ?_
        refine lv_icmp_ne (tgt := 51) hx hb dX1_plain_44 (by decide) (fun c_44 => ?_) (fun c_44 => ?_)
        · have hq_44 : (w (i4 * 4 + i15) == w (i4 * 4)) = false := beq_eq_false_iff_ne.mpr c_44
          refine lv_iconst (v := (nI 0)) hx hb dX1_plain_51 (by decide +kernel) ?_
          refine lv_istore_n (lv' := [(3, .int (nI 0)), (4, .int (nI i15)), (2, .int (nI i4)), (1, .int (cnt (f_pla w h) i4)), (0, .ref h0)]) hx hb dX1_plain_52 rfl hl (by decide) rfl (fun ls hl => ?_)
          refine lv_iinc (v := (nI (i15 + 1))) (lv' := [(4, .int (nI (i15 + 1))), (3, .int (nI 0)), (2, .int (nI i4)), (1, .int (cnt (f_pla w h) i4)), (0, .ref h0)]) hx hb dX1_plain_53 hl (k := 1) rfl (nI_1 _) (by decide) rfl (fun ls hl => ?_)
          refine lv_goto (tgt := 15) hx hb dX1_plain_56 (by decide) ?_
          exact hnx_15 hlt_15 ls (by rw [show (bI (one w i4 (i15 + 1))) = (nI 0) from by simp [one_s, bI_1, bI_0, hb_22, hq_44]]; exact lv_sub hl [0, 1, 2, 3, 4] rfl)
        · have hq_44 : (w (i4 * 4 + i15) == w (i4 * 4)) = true := beq_iff_eq.mpr c_44
          refine lv_iconst (v := (nI 1)) hx hb dX1_plain_47 (by decide +kernel) ?_
          refine lv_goto (tgt := 52) hx hb dX1_plain_48 (by decide) ?_
          refine lv_istore_n (lv' := [(3, .int (nI 1)), (4, .int (nI i15)), (2, .int (nI i4)), (1, .int (cnt (f_pla w h) i4)), (0, .ref h0)]) hx hb dX1_plain_52 rfl hl (by decide) rfl (fun ls hl => ?_)
          refine lv_iinc (v := (nI (i15 + 1))) (lv' := [(4, .int (nI (i15 + 1))), (3, .int (nI 1)), (2, .int (nI i4)), (1, .int (cnt (f_pla w h) i4)), (0, .ref h0)]) hx hb dX1_plain_53 hl (k := 1) rfl (nI_1 _) (by decide) rfl (fun ls hl => ?_)
          refine lv_goto (tgt := 15) hx hb dX1_plain_56 (by decide) ?_
          exact hnx_15 hlt_15 ls (by rw [show (bI (one w i4 (i15 + 1))) = (nI 1) from by simp [one_s, bI_1, bI_0, hb_22, hq_44]]; exact lv_sub hl [0, 1, 2, 3, 4] rfl)
set_option maxHeartbeats 4000000 in
set_option maxRecDepth 100000 in
theorem k1_scan (l : Launch) (h0 : Nat) (p1 : Int32) : Met l yX1_scan wsX1_scan ({ frames := 0, cells := 0, slots := 0, locals := 0 }) (va_Pc [.ref h0, .int p1] (fun _ => True)) (va_Sv (fun _ => True)) 0 0 (fun _ => False) := by
  refine Met.ofW (cc := cX1_scan) (maxL := 2) (ret := none) (by decide) rfl ?_
  intro p e s m args below meth c s₁ B hml hv
  obtain ⟨rfl, -⟩ := hv
  have hx := B.exec
  have hb := B.bytes
  have hr := B.returns
  have hlocks := B.notSynchronized
  rw [lg_entry_eq]
  exact W.vret hx hb hr (fun t ht hW => ⟨rfl, trivial, ht⟩) (fun q h9 => absurd h9 List.not_mem_nil) dX1_scan_0
end
section
def onN : Nat → Nat → Bool
  | 0 => fun _ => false
  | n + 1 => updB (onN n) n true
theorem onN_t {n j : Nat} (h : j < n) : onN n j = true := by
  induction n with
  | zero => omega
  | succ n ih =>
    show (if j = n then true else onN n j) = true
    by_cases e : j = n
    · rw [if_pos e]
    · rw [if_neg e]
      exact ih (by omega)
set_option maxHeartbeats 4000000 in
set_option maxRecDepth 100000 in
theorem k0_init (l : Launch) (dC : Nat → ClassId) (dI : Nat → Nat → Nat) (h0 sz : Nat) (p1 : Int32) : Met l yX0_init wsX0_init ({ frames := 1, cells := 2, slots := 120, locals := 12 }) (va_Pc [.ref h0, .int p1] (fun U => U.heap.size = sz ∧ va_P (dC, dI) vwCl [(h0, .inr (0, [.null, .null]))] U.heap ∧ va_K (dC, dI) vwCl [] U ∧ va_D (fun _ => True) [(h0, .inr (0, [.null, .null]))])) (va_Qv (fun _ : Unit => True) (fun _ t => ∃ (qa qb : Nat) (cI cZ : ClassId), va_P (dC, dI) vwCl (W0 h0 qa qb cI cZ (fun _ => 0) (fun _ => true)) t.heap ∧ va_K (dC, dI) vwCl (TY cI cZ) t ∧ va_D (va_A [(h0, .inr (0, [.null, .null]))] sz) (W0 h0 qa qb cI cZ (fun _ => 0) (fun _ => true))) (va_A [(h0, .inr (0, [.null, .null]))] sz)) 2 120 (va_A [(h0, .inr (0, [.null, .null]))] sz) := by
  refine Met.ofW (cc := cX0_init) (maxL := 3) (ret := none) (by decide) rfl ?_
  intro p e s m args below meth c s₁ B hml hv
  obtain ⟨rfl, hsz, hP, hK, hD0⟩ := hv
  have hx := B.exec
  have hb := B.bytes
  have hr := B.returns
  have hlocks := B.notSynchronized
  have hts := atoms_spec (ws := wsX0_init) B.pre
  have hown : s.vm.findClass RX0 = some m.cls := findClass_of_methodNamed B.named
  have hin : meth.name = "<init>" := (name_of_methodNamed B.named B.method).1
  have hin0 : ∀ w ∈ wsX00, w ∈ wsX0_init := by decide +kernel
  have hf9 := hts (.fieldLink RX0 9 "PageMerger" "words" "[I") (by decide +kernel)
  have hf13 := hts (.fieldLink RX0 13 "PageMerger" "heldPages" "[Z") (by decide +kernel)
  subst hsz
  have hD := hD0.self (sz := s.heap.size)
  generalize hAe : va_A [(h0, .inr (0, [.null, .null]))] s.heap.size = A at hD ⊢
  have hA : ∀ q : Nat, s.heap.size ≤ q → A q := fun q h => by rw [← hAe]; exact Or.inr h
  have hS : va_S A s.heap s.heap [] := va_S.rf
  have hl := lv_entry ([.ref h0, .int p1]) (n := 3) (Nat.le_of_ble_eq_true rfl)
  rw [lg_entry_eq]
  generalize (lg_sl ([.ref h0, .int p1]) ++ List.replicate (3 - (lg_sl ([.ref h0, .int p1])).length) Slot.unset).toArray = ls at hl ⊢
  have hl : lv_has ls 3 [(0, .ref h0), (1, .int p1)] := hl
  refine lv_aload_n hx hb dX0_init_0 rfl (lv_at hl 0 rfl) ?_
  refine W.objInit hx hb hown (hts (.methodLink RX0 3 objectInit) (by decide +kernel)) (hts (.instanceMethod objectInit) (by decide +kernel)) (hts _ (List.mem_cons_of_mem _ (List.mem_append_left _ (List.mem_of_getElem? (i := 2) rfl)))) rfl (by rw [hml]; exact hl.1) rfl dX0_init_1 (Nat.le_of_ble_eq_true rfl) (Nat.le_of_ble_eq_true rfl) ?_
  refine W.eq (g2 := F0 m 4 ls []) rfl ?_
  refine lv_aload_n hx hb dX0_init_4 rfl (lv_at hl 0 rfl) ?_
  refine lv_bipush (v := nI 96) hx hb dX0_init_5 (by decide +kernel) ?_
  refine va_newa (atype := .int) (ty := .int) (a0 := (96, .inl (fun _ => 0))) (N' := 96) hx hb (hts (.arrayClass .int) (by decide +kernel)) rfl hK hP hD hS hA (fun _ => rfl) (by decide +kernel) (by decide +kernel) (Nat.le_of_ble_eq_true rfl) (Nat.le_of_ble_eq_true rfl) (Nat.le_of_ble_eq_true rfl) dX0_init_7 (fun qa cI H hK hP hD hS => ?_)
  have hP : va_P (dC, dI) vwCl [(h0, .inr (0, [.null, .null])), (qa, .inl (cI, 96, .inl (fun _ => 0)))] H := hP
  have hD : va_D A [(h0, .inr (0, [.null, .null])), (qa, .inl (cI, 96, .inl (fun _ => 0)))] := hD
  have hK : va_K (dC, dI) vwCl [(cI, .int)] s := hK
  refine va_putF (D := (dC, dI)) (ci := 0) (v := .ref qa) (ty := .array .int) (C := RX0) (T := TX0) (N := 2) hx hb hts hin0 tyX0 tyX0_ok nmX0 hown hK hP hD hS 0 rfl rfl 0 (by decide) hf9 (fun _ h9 => h9) rfl hin rfl (by decide +kernel) rfl rfl (Nat.le_of_ble_eq_true rfl) dX0_init_9 (fun H locs hP hD hS => ?_)
  have hP : va_P (dC, dI) vwCl [(h0, .inr (0, [.ref qa, .null])), (qa, .inl (cI, 96, .inl (fun _ => 0)))] H := hP
  have hD : va_D A [(h0, .inr (0, [.ref qa, .null])), (qa, .inl (cI, 96, .inl (fun _ => 0)))] := hD
  refine lv_aload_n hx hb dX0_init_12 rfl (lv_at hl 0 rfl) ?_
  refine lv_bipush (v := nI 24) hx hb dX0_init_13 (by decide +kernel) ?_
  refine va_newa (atype := .boolean) (ty := .boolean) (a0 := (24, .inl (zp (onN 0)))) (N' := 24) hx hb (hts (.arrayClass .boolean) (by decide +kernel)) rfl hK hP hD hS hA (fun _ => rfl) (by decide +kernel) (by decide +kernel) (Nat.le_of_ble_eq_true rfl) (Nat.le_of_ble_eq_true rfl) (Nat.le_of_ble_eq_true rfl) dX0_init_15 (fun qb cZ H hK hP hD hS => ?_)
  have hP : va_P (dC, dI) vwCl [(h0, .inr (0, [.ref qa, .null])), (qa, .inl (cI, 96, .inl (fun _ => 0))), (qb, .inl (cZ, 24, .inl (zp (onN 0))))] H := hP
  have hD : va_D A [(h0, .inr (0, [.ref qa, .null])), (qa, .inl (cI, 96, .inl (fun _ => 0))), (qb, .inl (cZ, 24, .inl (zp (onN 0))))] := hD
  have hK : va_K (dC, dI) vwCl (TY cI cZ) s := hK
  refine va_putF (D := (dC, dI)) (ci := 0) (v := .ref qb) (ty := .array .boolean) (C := RX0) (T := TX0) (N := 2) hx hb hts hin0 tyX0 tyX0_ok nmX0 hown hK hP hD hS 0 rfl rfl 1 (by decide) hf13 (fun _ h9 => h9) rfl hin rfl (by decide +kernel) rfl rfl (Nat.le_of_ble_eq_true rfl) dX0_init_17 (fun H locs hP hD hS => ?_)
  have hP : va_P (dC, dI) vwCl (W0 h0 qa qb cI cZ (fun _ => 0) (onN 0)) H := hP
  have hD : va_D A (W0 h0 qa qb cI cZ (fun _ => 0) (onN 0)) := hD
  refine W.widen (k := 2) (n := 120) (Nat.le_of_ble_eq_true rfl) (Nat.le_of_ble_eq_true rfl) ?_
  refine lv_iconst (v := (nI 0)) hx hb dX0_init_20 (by decide +kernel) ?_
  refine lv_istore_n (lv' := [(2, .int (nI 0)), (0, .ref h0), (1, .int (p1))]) hx hb dX0_init_21 rfl hl (by decide) rfl (fun ls hl => ?_)
  refine lp_Q 22 24 (fun i22 H locs ls => lv_has ls 3 [(2, .int (nI i22)), (0, .ref h0), (1, .int (p1))] ∧ va_P (dC, dI) vwCl (W0 h0 qa qb cI cZ (fun _ => 0) (onN i22)) H ∧ va_D A (W0 h0 qa qb cI cZ (fun _ => 0) (onN i22)) ∧ va_S A s.heap H locs) (fun i22 H locs ls hi_22 hI hnx_22 => ?_) 0 (by omega) _ _ ls ⟨lv_sub hl [0, 1, 2] rfl, hP, hD, hS⟩
  obtain ⟨hl, hP, hD, hS⟩ := hI
  refine lv_iload_n hx hb dX0_init_22 rfl (lv_at hl 0 rfl) ?_
  refine lv_bipush (v := (nI 24)) hx hb dX0_init_23 (by decide +kernel) ?_
  refine lv_icmp_ge (tgt := 41) hx hb dX0_init_25 (by decide) (fun c_25 => ?_) (fun c_25 => ?_)
  · have hq_25 : 24 ≤ i22 := (nI_leI (by omega) (by omega)).mp c_25
    have hE_25 : i22 = 24 := by omega
    subst hE_25
    have hP := W0_cong (h' := fun _ => true) hP (fun j hj => onN_t hj)
    have hD := W0_apart (w' := fun _ => 0) (h' := fun _ => true) hD
    exact W.vret hx hb hr (fun t ht hW => ⟨⟨(), rfl, trivial, qa, qb, cI, cZ, by rw [ht]; exact hP, va_K.moved hW.alike hK, hD⟩, hS.F ht⟩) hS.2.2 dX0_init_41
  · have hlt_22 : i22 < 24 := Nat.lt_of_not_le (fun q => c_25 ((nI_leI (by omega) (by omega)).mpr q))
    refine lv_aload_n hx hb dX0_init_28 rfl (lv_at hl 1 rfl) ?_
    refine va_get (D := (dC, dI)) (ci := 0) (v := .ref qb) (C := RX0) (T := TX0) (N := 2) hx hb hts hin0 hown hK hP 0 rfl rfl 1 (by decide) hf13 (fun _ h9 => h9) rfl dX0_init_29 ?_
    refine lv_iload_n hx hb dX0_init_32 rfl (lv_at hl 0 rfl) ?_
    refine lv_iconst (v := (nI 1)) hx hb dX0_init_33 (by decide +kernel) ?_
    refine my_zastP hx hb hK hP hD hS 2 1 rfl rfl true bI_1 (by omega) (by decide) dX0_init_34 (fun H locs hP hD hS => ?_)
    have hP : va_P (dC, dI) vwCl (W0 h0 qa qb cI cZ (fun _ => 0) (updB (onN i22) i22 true)) H := hP
    have hD : va_D A (W0 h0 qa qb cI cZ (fun _ => 0) (updB (onN i22) i22 true)) := hD
    refine lv_iinc (v := (nI (i22 + 1))) (lv' := [(2, .int (nI (i22 + 1))), (0, .ref h0), (1, .int (p1))]) hx hb dX0_init_35 hl (k := 0) rfl (nI_1 _) (by decide) rfl (fun ls hl => ?_)
    refine lv_goto (tgt := 22) hx hb dX0_init_38 (by decide) ?_
    exact hnx_22 hlt_22 _ _ ls ⟨lv_sub hl [0, 1, 2] rfl, hP, hD, hS⟩
set_option maxHeartbeats 4000000 in
set_option maxRecDepth 100000 in
theorem k1_init (l : Launch) (dC : Nat → ClassId) (dI : Nat → Nat → Nat) (h0 sz : Nat) (p1 : Int32) : Met l yX1_init wsX1_init ({ frames := 1, cells := 2, slots := 120, locals := 12 }) (va_Pc [.ref h0, .int p1] (fun U => U.heap.size = sz ∧ va_P (dC, dI) vwCl [(h0, .inr (1, [.null, .null]))] U.heap ∧ va_K (dC, dI) vwCl [] U ∧ va_D (fun _ => True) [(h0, .inr (1, [.null, .null]))])) (va_Qv (fun _ : Unit => True) (fun _ t => ∃ (qa qb : Nat) (cI cZ : ClassId), va_P (dC, dI) vwCl (W1 h0 qa qb cI cZ (fun _ => 0) (fun _ => true)) t.heap ∧ va_K (dC, dI) vwCl (TY cI cZ) t ∧ va_D (va_A [(h0, .inr (1, [.null, .null]))] sz) (W1 h0 qa qb cI cZ (fun _ => 0) (fun _ => true))) (va_A [(h0, .inr (1, [.null, .null]))] sz)) 2 120 (va_A [(h0, .inr (1, [.null, .null]))] sz) := by
  refine Met.ofW (cc := cX1_init) (maxL := 2) (ret := none) (by decide) rfl ?_
  intro p e s m args below meth c s₁ B hml hv
  obtain ⟨rfl, hsz, hP, hK, hD0⟩ := hv
  have hx := B.exec
  have hb := B.bytes
  have hr := B.returns
  have hlocks := B.notSynchronized
  have hts := atoms_spec (ws := wsX1_init) B.pre
  have hown : s.vm.findClass RX1 = some m.cls := findClass_of_methodNamed B.named
  have hin : meth.name = "<init>" := (name_of_methodNamed B.named B.method).1
  have hin0 : ∀ w ∈ wsX10, w ∈ wsX1_init := by decide +kernel
  have hf7 := hts (.fieldLink RX1 7 "PageMergerModel" "words" "[I") (by decide +kernel)
  have hf13 := hts (.fieldLink RX1 13 "PageMergerModel" "released" "[Z") (by decide +kernel)
  subst hsz
  have hD := hD0.self (sz := s.heap.size)
  generalize hAe : va_A [(h0, .inr (1, [.null, .null]))] s.heap.size = A at hD ⊢
  have hA : ∀ q : Nat, s.heap.size ≤ q → A q := fun q h => by rw [← hAe]; exact Or.inr h
  have hS : va_S A s.heap s.heap [] := va_S.rf
  have hl := lv_entry ([.ref h0, .int p1]) (n := 2) (Nat.le_of_ble_eq_true rfl)
  rw [lg_entry_eq]
  generalize (lg_sl ([.ref h0, .int p1]) ++ List.replicate (2 - (lg_sl ([.ref h0, .int p1])).length) Slot.unset).toArray = ls at hl ⊢
  have hl : lv_has ls 2 [(0, .ref h0), (1, .int p1)] := hl
  refine lv_aload_n hx hb dX1_init_0 rfl (lv_at hl 0 rfl) ?_
  refine W.objInit hx hb hown (hts (.methodLink RX1 1 objectInit) (by decide +kernel)) (hts (.instanceMethod objectInit) (by decide +kernel)) (hts _ (List.mem_cons_of_mem _ (List.mem_append_left _ (List.mem_of_getElem? (i := 2) rfl)))) rfl (by rw [hml]; exact hl.1) rfl dX1_init_1 (Nat.le_of_ble_eq_true rfl) (Nat.le_of_ble_eq_true rfl) ?_
  refine W.eq (g2 := F0 m 4 ls []) rfl ?_
  refine lv_aload_n hx hb dX1_init_4 rfl (lv_at hl 0 rfl) ?_
  refine lv_bipush (v := nI 96) hx hb dX1_init_5 (by decide +kernel) ?_
  refine va_newa (atype := .int) (ty := .int) (a0 := (96, .inl (fun _ => 0))) (N' := 96) hx hb (hts (.arrayClass .int) (by decide +kernel)) rfl hK hP hD hS hA (fun _ => rfl) (by decide +kernel) (by decide +kernel) (Nat.le_of_ble_eq_true rfl) (Nat.le_of_ble_eq_true rfl) (Nat.le_of_ble_eq_true rfl) dX1_init_7 (fun qa cI H hK hP hD hS => ?_)
  have hP : va_P (dC, dI) vwCl [(h0, .inr (1, [.null, .null])), (qa, .inl (cI, 96, .inl (fun _ => 0)))] H := hP
  have hD : va_D A [(h0, .inr (1, [.null, .null])), (qa, .inl (cI, 96, .inl (fun _ => 0)))] := hD
  have hK : va_K (dC, dI) vwCl [(cI, .int)] s := hK
  refine va_putF (D := (dC, dI)) (ci := 1) (v := .ref qa) (ty := .array .int) (C := RX1) (T := TX1) (N := 2) hx hb hts hin0 tyX1 tyX1_ok nmX1 hown hK hP hD hS 0 rfl rfl 0 (by decide) hf7 (fun _ h9 => h9) rfl hin rfl (by decide +kernel) rfl rfl (Nat.le_of_ble_eq_true rfl) dX1_init_9 (fun H locs hP hD hS => ?_)
  have hP : va_P (dC, dI) vwCl [(h0, .inr (1, [.ref qa, .null])), (qa, .inl (cI, 96, .inl (fun _ => 0)))] H := hP
  have hD : va_D A [(h0, .inr (1, [.ref qa, .null])), (qa, .inl (cI, 96, .inl (fun _ => 0)))] := hD
  refine lv_aload_n hx hb dX1_init_12 rfl (lv_at hl 0 rfl) ?_
  refine lv_bipush (v := nI 24) hx hb dX1_init_13 (by decide +kernel) ?_
  refine va_newa (atype := .boolean) (ty := .boolean) (a0 := (24, .inl (zn ((fun _ => true))))) (N' := 24) hx hb (hts (.arrayClass .boolean) (by decide +kernel)) rfl hK hP hD hS hA (fun _ => rfl) (by decide +kernel) (by decide +kernel) (Nat.le_of_ble_eq_true rfl) (Nat.le_of_ble_eq_true rfl) (Nat.le_of_ble_eq_true rfl) dX1_init_15 (fun qb cZ H hK hP hD hS => ?_)
  have hP : va_P (dC, dI) vwCl [(h0, .inr (1, [.ref qa, .null])), (qa, .inl (cI, 96, .inl (fun _ => 0))), (qb, .inl (cZ, 24, .inl (zn ((fun _ => true)))))] H := hP
  have hD : va_D A [(h0, .inr (1, [.ref qa, .null])), (qa, .inl (cI, 96, .inl (fun _ => 0))), (qb, .inl (cZ, 24, .inl (zn ((fun _ => true)))))] := hD
  have hK : va_K (dC, dI) vwCl (TY cI cZ) s := hK
  refine va_putF (D := (dC, dI)) (ci := 1) (v := .ref qb) (ty := .array .boolean) (C := RX1) (T := TX1) (N := 2) hx hb hts hin0 tyX1 tyX1_ok nmX1 hown hK hP hD hS 0 rfl rfl 1 (by decide) hf13 (fun _ h9 => h9) rfl hin rfl (by decide +kernel) rfl rfl (Nat.le_of_ble_eq_true rfl) dX1_init_17 (fun H locs hP hD hS => ?_)
  have hP : va_P (dC, dI) vwCl (W1 h0 qa qb cI cZ (fun _ => 0) ((fun _ => true))) H := hP
  have hD : va_D A (W1 h0 qa qb cI cZ (fun _ => 0) ((fun _ => true))) := hD
  refine W.widen (k := 2) (n := 120) (Nat.le_of_ble_eq_true rfl) (Nat.le_of_ble_eq_true rfl) ?_
  exact W.vret hx hb hr (fun t ht hW => ⟨⟨(), rfl, trivial, qa, qb, cI, cZ, by rw [ht]; exact hP, va_K.moved hW.alike hK, hD⟩, hS.F ht⟩) hS.2.2 dX1_init_20
section MYROWS2
variable {p : Program} {l : Launch} {e : Env} {R : Room} {s : State} {m : MethodId} {args : Array Value} {below : List Frame} {meth : Method} {c : Code} {H : Heap} {locs : List Loc} {cells slots : Nat} {Q : State → Prop} {cc : ByteArray} {pc : Nat} {ls : Array Slot} {rest : List Value} {A : Nat → Prop} {H0 : Heap}
theorem my_sld (hexec : p.tables.exec = Jvm.exec) (hb : c.code = cc) {b L : Nat} {xs : Nat → Int32} (hX : va_X b L xs s H0) (hbl : b < H0.size) (hbA : ¬ A b) (hS : va_S A H0 H locs) {j : Nat} (hj : j < L) (hL : L < 2 ^ 31) (hdg : decode cc pc = .ok (.iaload, 1))
    (kk : W p l e R s m args below meth c H locs cells slots Q (F0 m (pc + 1) ls (.int (xs j) :: rest))) : W p l e R s m args below meth c H locs cells slots Q (F0 m pc ls (.int (nI j) :: .ref b :: rest)) :=
  va_sld hexec hb hX hbl hbA hS (vp_in_nI hj hL) hdg (by rw [nI_clamp (Nat.lt_trans hj hL)]; exact kk)
theorem my_slen (hexec : p.tables.exec = Jvm.exec) (hb : c.code = cc) {b L : Nat} {xs : Nat → Int32} (hX : va_X b L xs s H0) (hbl : b < H0.size) (hbA : ¬ A b) (hS : va_S A H0 H locs) (hdg : decode cc pc = .ok (.arraylength, 1))
    (kk : W p l e R s m args below meth c H locs cells slots Q (F0 m (pc + 1) ls (.int (nI L) :: rest))) : W p l e R s m args below meth c H locs cells slots Q (F0 m pc ls (.ref b :: rest)) :=
  va_slen hexec hb hX hbl hbA hS hdg kk
end MYROWS2
set_option maxHeartbeats 4000000 in
set_option maxRecDepth 100000 in
/-- the law's cell(script, 0): some int -/
theorem kL_cell (l : Launch) (b L : Nat) (xs : Nat → Int32) (hL : L < 2 ^ 31) : Met l yL_cell wsL_cell ({ frames := 0, cells := 0, slots := 0, locals := 0 }) (va_Pc [.ref b, .int (nI 0)] (fun U => va_X b L xs U U.heap)) (vp_Si (fun _ => True)) 0 0 (fun _ => False) := by
  refine Met.ofW (cc := cL_cell) (maxL := 2) (ret := (some .int)) (by decide) rfl ?_
  intro p e s m args below meth c s₁ B hml hv
  obtain ⟨rfl, hX⟩ := hv
  have hx := B.exec
  have hb := B.bytes
  have hr := B.returns
  have hlocks := B.notSynchronized
  have hbl : b < s.heap.size := by
    obtain ⟨scr, h1, -⟩ := hX
    exact (Array.getElem?_eq_some_iff.mp h1).1
  have hS : va_S (fun _ => False) s.heap s.heap [] := va_S.rf
  have hl := lv_entry ([.ref b, .int (nI 0)]) (n := 2) (Nat.le_of_ble_eq_true rfl)
  rw [lg_entry_eq]
  generalize (lg_sl ([.ref b, .int (nI 0)]) ++ List.replicate (2 - (lg_sl ([.ref b, .int (nI 0)])).length) Slot.unset).toArray = ls at hl ⊢
  have hl : lv_has ls 2 [(0, .ref b), (1, .int (nI 0))] := hl
  refine lv_iload_n hx hb dL_cell_0 rfl (lv_at hl 1 rfl) ?_
  refine lv_aload_n hx hb dL_cell_1 rfl (lv_at hl 0 rfl) ?_
  refine my_slen hx hb hX hbl (fun h => h) hS dL_cell_2 ?_
  refine lv_icmp_ge (tgt := 12) hx hb dL_cell_3 (by decide) (fun c_3 => ?_) (fun c_3 => ?_)
  · refine lv_iconst (v := nI 0) hx hb dL_cell_12 (by decide +kernel) ?_
    exact W.iret (v := nI 0) hx hb hr (fun t ht hW => ⟨_, rfl, trivial, ht⟩) (fun q h9 => absurd h9 List.not_mem_nil) dL_cell_13
  · have h0 : 0 < L := Nat.lt_of_not_le (fun q => c_3 ((nI_leI hL (by decide)).mpr q))
    refine lv_aload_n hx hb dL_cell_6 rfl (lv_at hl 0 rfl) ?_
    refine lv_iload_n hx hb dL_cell_7 rfl (lv_at hl 1 rfl) ?_
    refine my_sld hx hb hX hbl (fun h => h) hS h0 hL dL_cell_8 ?_
    refine lv_goto (tgt := 13) hx hb dL_cell_9 (by decide) ?_
    exact W.iret (v := xs 0) hx hb hr (fun t ht hW => ⟨_, rfl, trivial, ht⟩) (fun q h9 => absurd h9 List.not_mem_nil) dL_cell_13
end
section
/-! THE CLAIM OUT OF ONE WALK OF THE LAW'S BODY. Your part is whole_start (and what it stands on); all else here is the same for every law, but numbers. -/
def R_law : String := "PageMergerLaw"
def lw_P (b : Addr) (xs : List Int32) (args : Array Value) (s : State) : Prop := args = #[.ref b] ∧ s.IntsAt b xs ∧ xs.length ≤ 257 ∧ (Jvm.Cond.and given_1 narrow_1).before args s = true
def lw_Q (_ : Array Value) (s : State) (o : Outcome) (t : State) : Prop := o = .returned (some (.int 1)) ∧ Framed s o t [] 6 244
def lw_Z (below : List Frame) (a : Array Value) (s : State) : State → Prop := fun t => ∃ o, t.status = .running ∧ Ended t below o ∧ lw_Q a s o t
/-- the law's own end, with 1 on the stack, nothing written that was there before, its room as the claim has it -/
theorem lw_ret {p : Program} {l : Launch} {e : Env} {s : State} {m : MethodId} {below : List Frame} {meth : Method} {c : Code} {b : Nat} (hx : p.tables.exec = Jvm.exec) (hb : c.code = code) (hr : meth.sig.returnType = ret) (hlocks : meth.locks = false) {pc : Nat} {H : Heap} {ls : Array Slot} (hdg : decode code pc = .ok (.ireturn, 1)) : W p l e room_1 s m #[Value.ref b] below meth c H [] 6 244 (lw_Z below #[Value.ref b] s) (F0 m pc ls [.int 1]) := by
  intro T hT X
  obtain ⟨fs, hret, hrun, hended, hW, hframe⟩ := X.leave (v := some (.int 1)) (hlocks := hlocks) (fun h => by rw [hr] at h; cases h)
  have hmeth' : T.vm.method? m = some meth := X.method'
  refine ⟨T.setFrames fs, ?_, .returned (some (.int 1)), hrun, hended, rfl, ⟨_, rfl⟩, hW, hframe⟩
  jvm_step X.here [X.here.top, hx, hb, hdg, hmeth', hr, ret, narrow_b1]
  (try refine ⟨rfl, ?_⟩); (try refine ⟨rfl, ?_⟩)
  first | (intro acts; rw [hret _ acts rfl rfl rfl]) | rw [hret _ _ rfl rfl rfl]
  exact Steps.refl _
/-- what holds at the law's entry: the machine, the code, the tables' words (any of lw_tbl by 'hts w (by decide +kernel)'), the script of L ints xs at the cell b, what the Statement gives of the start (any of its parts by flat_of_before) -/
def lw_At (p : Program) (s : State) (m : MethodId) (meth : Method) (c : Code) (b L : Nat) (xs : Nat → Int32) : Prop :=
  p.tables.exec = Jvm.exec ∧ c.code = code ∧ meth.sig.returnType = ret ∧ c.maxLocals = 4 ∧ s.vm.findClass R_law = some m.cls ∧ (∀ w ∈ lw_tbl, w.before #[Value.ref b] s = true) ∧ va_X b L xs s s.heap ∧ b < s.heap.size ∧ meth.locks = false ∧ (Jvm.Cond.and given_1 narrow_1).before #[Value.ref b] s = true
abbrev W2 (x xa xb y ya yb : Nat) (cI cZ eI eZ : ClassId) (w : Nat → Int32) (h : Nat → Bool) (w2 : Nat → Int32) (h2 : Nat → Bool) : va_W := [(x, .inr (0, [.ref xa, .ref xb])), (xa, .inl (cI, 96, .inl w)), (xb, .inl (cZ, 24, .inl (zp h))), (y, .inr (1, [.ref ya, .ref yb])), (ya, .inl (eI, 96, .inl w2)), (yb, .inl (eZ, 24, .inl (zn h2)))]
abbrev T4 (cI cZ eI eZ : ClassId) : List (ClassId × FieldType) := [(cI, .int), (cZ, .boolean), (eI, .int), (eZ, .boolean)]
abbrev LA (s : State) : Nat → Prop := fun q : Nat => s.heap.size ≤ q
/-- where a call of the script is through: the law's cells hold one w and one h -/
def LN (p : Program) (l : Launch) (e : Env) (s : State) (m : MethodId) (below : List Frame) (meth : Method) (c : Code) (dC : Nat → ClassId) (dI : Nat → Nat → Nat) (b x xa xb y ya yb : Nat) (cI cZ eI eZ : ClassId) (k : Nat) : Prop :=
  ∀ (w : Nat → Int32) (h : Nat → Bool) (H : Heap) (locs : List Loc) (ls : Array Slot), va_P (dC, dI) vwCl (W2 x xa xb y ya yb cI cZ eI eZ w h w h) H → va_D (LA s) (W2 x xa xb y ya yb cI cZ eI eZ w h w h) → va_S (LA s) s.heap H locs → lv_has ls 4 [(0, .ref b), (1, .ref x), (2, .ref y), (3, .int (nI k))] → W p l e room_1 s m #[Value.ref b] below meth c H locs 6 244 (lw_Z below #[Value.ref b] s) (F0 m 445 ls [])
set_option maxHeartbeats 4000000 in
set_option maxRecDepth 100000 in
theorem law_case0 {p : Program} {l : Launch} {e : Env} {s : State} {m : MethodId} {below : List Frame} {meth : Method} {c : Code} {dC : Nat → ClassId} {dI : Nat → Nat → Nat} {b L : Nat} {xs : Nat → Int32} (hL : L ≤ 257) (C0 : lw_At p s m meth c b L xs) {k x xa xb y ya yb : Nat} {cI cZ eI eZ : ClassId} (hk : k + 4 ≤ L) (hK : va_K (dC, dI) vwCl (T4 cI cZ eI eZ) s) (nx : LN p l e s m below meth c dC dI b x xa xb y ya yb cI cZ eI eZ k) (w : Nat → Int32) (h : Nat → Bool) (H : Heap) (locs : List Loc) (ls : Array Slot) (hP : va_P (dC, dI) vwCl (W2 x xa xb y ya yb cI cZ eI eZ w h w h) H) (hD : va_D (LA s) (W2 x xa xb y ya yb cI cZ eI eZ w h w h)) (hS : va_S (LA s) s.heap H locs) (hl : lv_has ls 4 [(0, .ref b), (1, .ref x), (2, .ref y), (3, .int (nI k))]) : W p l e room_1 s m #[Value.ref b] below meth c H locs 6 244 (lw_Z below #[Value.ref b] s) (F0 m 108 ls []) := by
  obtain ⟨hx, hb, hr, hml, hown, hts0, hX, hbl, hlocks, hgv⟩ := C0
  have hb : c.code = cL_law := hb
  have hown : s.vm.findClass RL = some m.cls := hown
  have hts : ∀ w ∈ wsL_law, w.before #[Value.ref b] s = true := fun w h => hts0 w (wsL_law_in w h)
  have hA : ∀ q : Nat, s.heap.size ≤ q → LA s q := fun _ h => h
  have hbA : ¬ LA s b := Nat.not_le.mpr hbl
  refine lv_aload_n hx hb dL_law_108 rfl (lv_at hl 1 rfl) ?_
  refine lv_aload_n hx hb dL_law_109 rfl (lv_at hl 0 rfl) ?_
  refine lv_iload_n hx hb dL_law_110 rfl (lv_at hl 3 rfl) ?_
  refine lv_iconst (v := (nI 1)) hx hb dL_law_111 (by decide +kernel) ?_
  refine my_add hx hb dL_law_112 ?_
  refine my_sld hx hb hX hbl hbA hS (show k + 1 < L by omega) (by omega) dL_law_113 ?_
  refine lv_aload_n hx hb dL_law_114 rfl (lv_at hl 0 rfl) ?_
  refine lv_iload_n hx hb dL_law_115 rfl (lv_at hl 3 rfl) ?_
  refine lv_iconst (v := (nI 2)) hx hb dL_law_116 (by decide +kernel) ?_
  refine my_add hx hb dL_law_117 ?_
  refine my_sld hx hb hX hbl hbA hS (show k + 2 < L by omega) (by omega) dL_law_118 ?_
  refine lv_aload_n hx hb dL_law_119 rfl (lv_at hl 0 rfl) ?_
  refine lv_iload_n hx hb dL_law_120 rfl (lv_at hl 3 rfl) ?_
  refine lv_iconst (v := (nI 3)) hx hb dL_law_121 (by decide +kernel) ?_
  refine my_add hx hb dL_law_122 ?_
  refine my_sld hx hb hX hbl hbA hS (show k + 3 < L by omega) (by omega) dL_law_123 ?_
  have hPc := hP.sub (ws' := W0 x xa xb cI cZ w h) [0, 1, 2] rfl
  have hKc := hK.sub (tys' := TY cI cZ) [0, 1] rfl
  have hDc := hD.sub (ws' := W0 x xa xb cI cZ w h) [0, 1, 2] (by decide) rfl
  have hFc := va_free (wc := W0 x xa xb cI cZ w h) hD hS hA [0, 1, 2] rfl
  refine va_calli (va_runV (As := [.int (xs (k + 1)), .int (xs (k + 2)), .int (xs (k + 3))]) (rest := []) ⟨hx, hb, hml, hown, hts⟩ (k0_write l dC dI x xa xb cI cZ H.size w h (xs (k + 1)) (xs (k + 2)) (xs (k + 3))) (cwV 3 hts gL_law_X0_write rfl rfl rfl (by decide +kernel) ⟨Nat.le_of_ble_eq_true rfl, Nat.le_of_ble_eq_true rfl⟩) ⟨bl_Q, va_recv hKc hPc (ci := 0) (q0 := 0) rfl rfl, fun U hU hW => ⟨rfl, by rw [hU], by rw [hU]; exact hPc, va_K.moved hW.alike hKc, hDc.weaken (fun _ _ _ _ => trivial)⟩⟩ rfl rfl hl.1 rfl (lv_room (Nat.le_of_ble_eq_true rfl)) dL_law_124 ⟨Nat.le_of_ble_eq_true rfl, Nat.le_of_ble_eq_true rfl⟩) hS (fun q _ h9 => hFc q h9) hFc (fun r_124 u t H1 locs ht hvm hw hB hz1 hk1 hS => ?_)
  obtain rfl : r_124 = (s_read w (xs (k + 1)) (xs (k + 2))) := hw
  obtain ⟨hP1, hK1, hD1⟩ := hB
  rw [ht] at hP1
  obtain ⟨hP, hD⟩ := va_join (wr := W1 y ya yb eI eZ w h) (w1 := W0 x xa xb cI cZ (w_write w (xs (k + 1)) (xs (k + 2)) (xs (k + 3))) (h_write h (xs (k + 1)) (xs (k + 2)))) hP hD [0, 1, 2] [3, 4, 5] rfl rfl (by decide) (by decide) hk1 hFc hP1 hD1
  have hP := hP.sub (ws' := W2 x xa xb y ya yb cI cZ eI eZ (w_write w (xs (k + 1)) (xs (k + 2)) (xs (k + 3))) (h_write h (xs (k + 1)) (xs (k + 2))) w h) [3, 4, 5, 0, 1, 2] rfl
  have hD := hD.sub (ws' := W2 x xa xb y ya yb cI cZ eI eZ (w_write w (xs (k + 1)) (xs (k + 2)) (xs (k + 3))) (h_write h (xs (k + 1)) (xs (k + 2))) w h) [3, 4, 5, 0, 1, 2] (by decide) rfl
  generalize H1 = H at hP hS ⊢
  refine lv_aload_n hx hb dL_law_127 rfl (lv_at hl 2 rfl) ?_
  refine lv_aload_n hx hb dL_law_128 rfl (lv_at hl 0 rfl) ?_
  refine lv_iload_n hx hb dL_law_129 rfl (lv_at hl 3 rfl) ?_
  refine lv_iconst (v := (nI 1)) hx hb dL_law_130 (by decide +kernel) ?_
  refine my_add hx hb dL_law_131 ?_
  refine my_sld hx hb hX hbl hbA hS (show k + 1 < L by omega) (by omega) dL_law_132 ?_
  refine lv_aload_n hx hb dL_law_133 rfl (lv_at hl 0 rfl) ?_
  refine lv_iload_n hx hb dL_law_134 rfl (lv_at hl 3 rfl) ?_
  refine lv_iconst (v := (nI 2)) hx hb dL_law_135 (by decide +kernel) ?_
  refine my_add hx hb dL_law_136 ?_
  refine my_sld hx hb hX hbl hbA hS (show k + 2 < L by omega) (by omega) dL_law_137 ?_
  refine lv_aload_n hx hb dL_law_138 rfl (lv_at hl 0 rfl) ?_
  refine lv_iload_n hx hb dL_law_139 rfl (lv_at hl 3 rfl) ?_
  refine lv_iconst (v := (nI 3)) hx hb dL_law_140 (by decide +kernel) ?_
  refine my_add hx hb dL_law_141 ?_
  refine my_sld hx hb hX hbl hbA hS (show k + 3 < L by omega) (by omega) dL_law_142 ?_
  have hPc := hP.sub (ws' := W1 y ya yb eI eZ w h) [3, 4, 5] rfl
  have hKc := hK.sub (tys' := TY eI eZ) [2, 3] rfl
  have hDc := hD.sub (ws' := W1 y ya yb eI eZ w h) [3, 4, 5] (by decide) rfl
  have hFc := va_free (wc := W1 y ya yb eI eZ w h) hD hS hA [3, 4, 5] rfl
  refine va_calli (va_runV (As := [.int (xs (k + 1)), .int (xs (k + 2)), .int (xs (k + 3))]) (rest := [.int (s_read w (xs (k + 1)) (xs (k + 2)))]) ⟨hx, hb, hml, hown, hts⟩ (k1_write l dC dI y ya yb eI eZ H.size w h (xs (k + 1)) (xs (k + 2)) (xs (k + 3))) (cwV 3 hts gL_law_X1_write rfl rfl rfl (by decide +kernel) ⟨Nat.le_of_ble_eq_true rfl, Nat.le_of_ble_eq_true rfl⟩) ⟨bl_Q, va_recv hKc hPc (ci := 1) (q0 := 0) rfl rfl, fun U hU hW => ⟨rfl, by rw [hU], by rw [hU]; exact hPc, va_K.moved hW.alike hKc, hDc.weaken (fun _ _ _ _ => trivial)⟩⟩ rfl rfl hl.1 rfl (lv_room (Nat.le_of_ble_eq_true rfl)) dL_law_143 ⟨Nat.le_of_ble_eq_true rfl, Nat.le_of_ble_eq_true rfl⟩) hS (fun q _ h9 => hFc q h9) hFc (fun r_143 u t H1 locs ht hvm hw hB hz1 hk1 hS => ?_)
  obtain rfl : r_143 = (s_read w (xs (k + 1)) (xs (k + 2))) := hw
  obtain ⟨hP1, hK1, hD1⟩ := hB
  rw [ht] at hP1
  obtain ⟨hP, hD⟩ := va_join (wr := W0 x xa xb cI cZ (w_write w (xs (k + 1)) (xs (k + 2)) (xs (k + 3))) (h_write h (xs (k + 1)) (xs (k + 2)))) (w1 := W1 y ya yb eI eZ (w_write w (xs (k + 1)) (xs (k + 2)) (xs (k + 3))) (h_write h (xs (k + 1)) (xs (k + 2)))) hP hD [3, 4, 5] [0, 1, 2] rfl rfl (by decide) (by decide) hk1 hFc hP1 hD1
  have hP := hP.sub (ws' := W2 x xa xb y ya yb cI cZ eI eZ (w_write w (xs (k + 1)) (xs (k + 2)) (xs (k + 3))) (h_write h (xs (k + 1)) (xs (k + 2))) (w_write w (xs (k + 1)) (xs (k + 2)) (xs (k + 3))) (h_write h (xs (k + 1)) (xs (k + 2)))) [0, 1, 2, 3, 4, 5] rfl
  have hD := hD.sub (ws' := W2 x xa xb y ya yb cI cZ eI eZ (w_write w (xs (k + 1)) (xs (k + 2)) (xs (k + 3))) (h_write h (xs (k + 1)) (xs (k + 2))) (w_write w (xs (k + 1)) (xs (k + 2)) (xs (k + 3))) (h_write h (xs (k + 1)) (xs (k + 2)))) [0, 1, 2, 3, 4, 5] (by decide) rfl
  generalize H1 = H at hP hS ⊢
  refine lv_icmp_eq (tgt := 445) hx hb dL_law_146 (by decide) (fun _ => ?_) (fun c_146 => absurd rfl c_146)
  exact nx _ _ _ _ ls hP hD hS hl
set_option maxHeartbeats 4000000 in
set_option maxRecDepth 100000 in
theorem law_case1 {p : Program} {l : Launch} {e : Env} {s : State} {m : MethodId} {below : List Frame} {meth : Method} {c : Code} {dC : Nat → ClassId} {dI : Nat → Nat → Nat} {b L : Nat} {xs : Nat → Int32} (hL : L ≤ 257) (C0 : lw_At p s m meth c b L xs) {k x xa xb y ya yb : Nat} {cI cZ eI eZ : ClassId} (hk : k + 4 ≤ L) (hK : va_K (dC, dI) vwCl (T4 cI cZ eI eZ) s) (nx : LN p l e s m below meth c dC dI b x xa xb y ya yb cI cZ eI eZ k) (w : Nat → Int32) (h : Nat → Bool) (H : Heap) (locs : List Loc) (ls : Array Slot) (hP : va_P (dC, dI) vwCl (W2 x xa xb y ya yb cI cZ eI eZ w h w h) H) (hD : va_D (LA s) (W2 x xa xb y ya yb cI cZ eI eZ w h w h)) (hS : va_S (LA s) s.heap H locs) (hl : lv_has ls 4 [(0, .ref b), (1, .ref x), (2, .ref y), (3, .int (nI k))]) : W p l e room_1 s m #[Value.ref b] below meth c H locs 6 244 (lw_Z below #[Value.ref b] s) (F0 m 151 ls []) := by
  obtain ⟨hx, hb, hr, hml, hown, hts0, hX, hbl, hlocks, hgv⟩ := C0
  have hb : c.code = cL_law := hb
  have hown : s.vm.findClass RL = some m.cls := hown
  have hts : ∀ w ∈ wsL_law, w.before #[Value.ref b] s = true := fun w h => hts0 w (wsL_law_in w h)
  have hA : ∀ q : Nat, s.heap.size ≤ q → LA s q := fun _ h => h
  have hbA : ¬ LA s b := Nat.not_le.mpr hbl
  refine lv_aload_n hx hb dL_law_151 rfl (lv_at hl 1 rfl) ?_
  refine lv_aload_n hx hb dL_law_152 rfl (lv_at hl 0 rfl) ?_
  refine lv_iload_n hx hb dL_law_153 rfl (lv_at hl 3 rfl) ?_
  refine lv_iconst (v := (nI 1)) hx hb dL_law_154 (by decide +kernel) ?_
  refine my_add hx hb dL_law_155 ?_
  refine my_sld hx hb hX hbl hbA hS (show k + 1 < L by omega) (by omega) dL_law_156 ?_
  refine lv_aload_n hx hb dL_law_157 rfl (lv_at hl 0 rfl) ?_
  refine lv_iload_n hx hb dL_law_158 rfl (lv_at hl 3 rfl) ?_
  refine lv_iconst (v := (nI 2)) hx hb dL_law_159 (by decide +kernel) ?_
  refine my_add hx hb dL_law_160 ?_
  refine my_sld hx hb hX hbl hbA hS (show k + 2 < L by omega) (by omega) dL_law_161 ?_
  have hPc := hP.sub (ws' := W0 x xa xb cI cZ w h) [0, 1, 2] rfl
  have hKc := hK.sub (tys' := TY cI cZ) [0, 1] rfl
  have hDc := hD.sub (ws' := W0 x xa xb cI cZ w h) [0, 1, 2] (by decide) rfl
  have hFc := va_free (wc := W0 x xa xb cI cZ w h) hD hS hA [0, 1, 2] rfl
  refine va_calli (va_runV (As := [.int (xs (k + 1)), .int (xs (k + 2))]) (rest := []) ⟨hx, hb, hml, hown, hts⟩ (k0_fill l dC dI x xa xb cI cZ H.size w h (xs (k + 1)) (xs (k + 2))) (cwV 2 hts gL_law_X0_fill rfl rfl rfl (by decide +kernel) ⟨Nat.le_of_ble_eq_true rfl, Nat.le_of_ble_eq_true rfl⟩) ⟨bl_Q, va_recv hKc hPc (ci := 0) (q0 := 0) rfl rfl, fun U hU hW => ⟨rfl, by rw [hU], by rw [hU]; exact hPc, va_K.moved hW.alike hKc, hDc.weaken (fun _ _ _ _ => trivial)⟩⟩ rfl rfl hl.1 rfl (lv_room (Nat.le_of_ble_eq_true rfl)) dL_law_162 ⟨Nat.le_of_ble_eq_true rfl, Nat.le_of_ble_eq_true rfl⟩) hS (fun q _ h9 => hFc q h9) hFc (fun r_162 u t H1 locs ht hvm hw hB hz1 hk1 hS => ?_)
  obtain rfl : r_162 = (s_page (xs (k + 1))) := hw
  obtain ⟨hP1, hK1, hD1⟩ := hB
  rw [ht] at hP1
  obtain ⟨hP, hD⟩ := va_join (wr := W1 y ya yb eI eZ w h) (w1 := W0 x xa xb cI cZ (w_fill w (xs (k + 1)) (xs (k + 2))) (h_fill h (xs (k + 1)))) hP hD [0, 1, 2] [3, 4, 5] rfl rfl (by decide) (by decide) hk1 hFc hP1 hD1
  have hP := hP.sub (ws' := W2 x xa xb y ya yb cI cZ eI eZ (w_fill w (xs (k + 1)) (xs (k + 2))) (h_fill h (xs (k + 1))) w h) [3, 4, 5, 0, 1, 2] rfl
  have hD := hD.sub (ws' := W2 x xa xb y ya yb cI cZ eI eZ (w_fill w (xs (k + 1)) (xs (k + 2))) (h_fill h (xs (k + 1))) w h) [3, 4, 5, 0, 1, 2] (by decide) rfl
  generalize H1 = H at hP hS ⊢
  refine lv_aload_n hx hb dL_law_165 rfl (lv_at hl 2 rfl) ?_
  refine lv_aload_n hx hb dL_law_166 rfl (lv_at hl 0 rfl) ?_
  refine lv_iload_n hx hb dL_law_167 rfl (lv_at hl 3 rfl) ?_
  refine lv_iconst (v := (nI 1)) hx hb dL_law_168 (by decide +kernel) ?_
  refine my_add hx hb dL_law_169 ?_
  refine my_sld hx hb hX hbl hbA hS (show k + 1 < L by omega) (by omega) dL_law_170 ?_
  refine lv_aload_n hx hb dL_law_171 rfl (lv_at hl 0 rfl) ?_
  refine lv_iload_n hx hb dL_law_172 rfl (lv_at hl 3 rfl) ?_
  refine lv_iconst (v := (nI 2)) hx hb dL_law_173 (by decide +kernel) ?_
  refine my_add hx hb dL_law_174 ?_
  refine my_sld hx hb hX hbl hbA hS (show k + 2 < L by omega) (by omega) dL_law_175 ?_
  have hPc := hP.sub (ws' := W1 y ya yb eI eZ w h) [3, 4, 5] rfl
  have hKc := hK.sub (tys' := TY eI eZ) [2, 3] rfl
  have hDc := hD.sub (ws' := W1 y ya yb eI eZ w h) [3, 4, 5] (by decide) rfl
  have hFc := va_free (wc := W1 y ya yb eI eZ w h) hD hS hA [3, 4, 5] rfl
  refine va_calli (va_runV (As := [.int (xs (k + 1)), .int (xs (k + 2))]) (rest := [.int (s_page (xs (k + 1)))]) ⟨hx, hb, hml, hown, hts⟩ (k1_fill l dC dI y ya yb eI eZ H.size w h (xs (k + 1)) (xs (k + 2))) (cwV 2 hts gL_law_X1_fill rfl rfl rfl (by decide +kernel) ⟨Nat.le_of_ble_eq_true rfl, Nat.le_of_ble_eq_true rfl⟩) ⟨bl_Q, va_recv hKc hPc (ci := 1) (q0 := 0) rfl rfl, fun U hU hW => ⟨rfl, by rw [hU], by rw [hU]; exact hPc, va_K.moved hW.alike hKc, hDc.weaken (fun _ _ _ _ => trivial)⟩⟩ rfl rfl hl.1 rfl (lv_room (Nat.le_of_ble_eq_true rfl)) dL_law_176 ⟨Nat.le_of_ble_eq_true rfl, Nat.le_of_ble_eq_true rfl⟩) hS (fun q _ h9 => hFc q h9) hFc (fun r_176 u t H1 locs ht hvm hw hB hz1 hk1 hS => ?_)
  obtain rfl : r_176 = (s_page (xs (k + 1))) := hw
  obtain ⟨hP1, hK1, hD1⟩ := hB
  rw [ht] at hP1
  obtain ⟨hP, hD⟩ := va_join (wr := W0 x xa xb cI cZ (w_fill w (xs (k + 1)) (xs (k + 2))) (h_fill h (xs (k + 1)))) (w1 := W1 y ya yb eI eZ (w_fill w (xs (k + 1)) (xs (k + 2))) (h_fill h (xs (k + 1)))) hP hD [3, 4, 5] [0, 1, 2] rfl rfl (by decide) (by decide) hk1 hFc hP1 hD1
  have hP := hP.sub (ws' := W2 x xa xb y ya yb cI cZ eI eZ (w_fill w (xs (k + 1)) (xs (k + 2))) (h_fill h (xs (k + 1))) (w_fill w (xs (k + 1)) (xs (k + 2))) (h_fill h (xs (k + 1)))) [0, 1, 2, 3, 4, 5] rfl
  have hD := hD.sub (ws' := W2 x xa xb y ya yb cI cZ eI eZ (w_fill w (xs (k + 1)) (xs (k + 2))) (h_fill h (xs (k + 1))) (w_fill w (xs (k + 1)) (xs (k + 2))) (h_fill h (xs (k + 1)))) [0, 1, 2, 3, 4, 5] (by decide) rfl
  generalize H1 = H at hP hS ⊢
  refine lv_icmp_eq (tgt := 445) hx hb dL_law_179 (by decide) (fun _ => ?_) (fun c_179 => absurd rfl c_179)
  exact nx _ _ _ _ ls hP hD hS hl
set_option maxHeartbeats 4000000 in
set_option maxRecDepth 100000 in
theorem law_case2 {p : Program} {l : Launch} {e : Env} {s : State} {m : MethodId} {below : List Frame} {meth : Method} {c : Code} {dC : Nat → ClassId} {dI : Nat → Nat → Nat} {b L : Nat} {xs : Nat → Int32} (hL : L ≤ 257) (C0 : lw_At p s m meth c b L xs) {k x xa xb y ya yb : Nat} {cI cZ eI eZ : ClassId} (hk : k + 4 ≤ L) (hK : va_K (dC, dI) vwCl (T4 cI cZ eI eZ) s) (nx : LN p l e s m below meth c dC dI b x xa xb y ya yb cI cZ eI eZ k) (w : Nat → Int32) (h : Nat → Bool) (H : Heap) (locs : List Loc) (ls : Array Slot) (hP : va_P (dC, dI) vwCl (W2 x xa xb y ya yb cI cZ eI eZ w h w h) H) (hD : va_D (LA s) (W2 x xa xb y ya yb cI cZ eI eZ w h w h)) (hS : va_S (LA s) s.heap H locs) (hl : lv_has ls 4 [(0, .ref b), (1, .ref x), (2, .ref y), (3, .int (nI k))]) : W p l e room_1 s m #[Value.ref b] below meth c H locs 6 244 (lw_Z below #[Value.ref b] s) (F0 m 184 ls []) := by
  obtain ⟨hx, hb, hr, hml, hown, hts0, hX, hbl, hlocks, hgv⟩ := C0
  have hb : c.code = cL_law := hb
  have hown : s.vm.findClass RL = some m.cls := hown
  have hts : ∀ w ∈ wsL_law, w.before #[Value.ref b] s = true := fun w h => hts0 w (wsL_law_in w h)
  have hA : ∀ q : Nat, s.heap.size ≤ q → LA s q := fun _ h => h
  have hbA : ¬ LA s b := Nat.not_le.mpr hbl
  refine lv_aload_n hx hb dL_law_184 rfl (lv_at hl 1 rfl) ?_
  refine lv_aload_n hx hb dL_law_185 rfl (lv_at hl 0 rfl) ?_
  refine lv_iload_n hx hb dL_law_186 rfl (lv_at hl 3 rfl) ?_
  refine lv_iconst (v := (nI 1)) hx hb dL_law_187 (by decide +kernel) ?_
  refine my_add hx hb dL_law_188 ?_
  refine my_sld hx hb hX hbl hbA hS (show k + 1 < L by omega) (by omega) dL_law_189 ?_
  refine lv_aload_n hx hb dL_law_190 rfl (lv_at hl 0 rfl) ?_
  refine lv_iload_n hx hb dL_law_191 rfl (lv_at hl 3 rfl) ?_
  refine lv_iconst (v := (nI 2)) hx hb dL_law_192 (by decide +kernel) ?_
  refine my_add hx hb dL_law_193 ?_
  refine my_sld hx hb hX hbl hbA hS (show k + 2 < L by omega) (by omega) dL_law_194 ?_
  have hPc := hP.sub (ws' := W0 x xa xb cI cZ w h) [0, 1, 2] rfl
  have hKc := hK.sub (tys' := TY cI cZ) [0, 1] rfl
  have hDc := hD.sub (ws' := W0 x xa xb cI cZ w h) [0, 1, 2] (by decide) rfl
  have hFc := va_free (wc := W0 x xa xb cI cZ w h) hD hS hA [0, 1, 2] rfl
  refine va_calli (va_runV (As := [.int (xs (k + 1)), .int (xs (k + 2))]) (rest := []) ⟨hx, hb, hml, hown, hts⟩ (k0_copy l dC dI x xa xb cI cZ H.size w h (xs (k + 1)) (xs (k + 2))) (cwV 2 hts gL_law_X0_copy rfl rfl rfl (by decide +kernel) ⟨Nat.le_of_ble_eq_true rfl, Nat.le_of_ble_eq_true rfl⟩) ⟨bl_Q, va_recv hKc hPc (ci := 0) (q0 := 0) rfl rfl, fun U hU hW => ⟨rfl, by rw [hU], by rw [hU]; exact hPc, va_K.moved hW.alike hKc, hDc.weaken (fun _ _ _ _ => trivial)⟩⟩ rfl rfl hl.1 rfl (lv_room (Nat.le_of_ble_eq_true rfl)) dL_law_195 ⟨Nat.le_of_ble_eq_true rfl, Nat.le_of_ble_eq_true rfl⟩) hS (fun q _ h9 => hFc q h9) hFc (fun r_195 u t H1 locs ht hvm hw hB hz1 hk1 hS => ?_)
  obtain rfl : r_195 = (s_two (xs (k + 1)) (xs (k + 2))) := hw
  obtain ⟨hP1, hK1, hD1⟩ := hB
  rw [ht] at hP1
  obtain ⟨hP, hD⟩ := va_join (wr := W1 y ya yb eI eZ w h) (w1 := W0 x xa xb cI cZ (w_copy w (xs (k + 1)) (xs (k + 2))) (h_copy h (xs (k + 1)) (xs (k + 2)))) hP hD [0, 1, 2] [3, 4, 5] rfl rfl (by decide) (by decide) hk1 hFc hP1 hD1
  have hP := hP.sub (ws' := W2 x xa xb y ya yb cI cZ eI eZ (w_copy w (xs (k + 1)) (xs (k + 2))) (h_copy h (xs (k + 1)) (xs (k + 2))) w h) [3, 4, 5, 0, 1, 2] rfl
  have hD := hD.sub (ws' := W2 x xa xb y ya yb cI cZ eI eZ (w_copy w (xs (k + 1)) (xs (k + 2))) (h_copy h (xs (k + 1)) (xs (k + 2))) w h) [3, 4, 5, 0, 1, 2] (by decide) rfl
  generalize H1 = H at hP hS ⊢
  refine lv_aload_n hx hb dL_law_198 rfl (lv_at hl 2 rfl) ?_
  refine lv_aload_n hx hb dL_law_199 rfl (lv_at hl 0 rfl) ?_
  refine lv_iload_n hx hb dL_law_200 rfl (lv_at hl 3 rfl) ?_
  refine lv_iconst (v := (nI 1)) hx hb dL_law_201 (by decide +kernel) ?_
  refine my_add hx hb dL_law_202 ?_
  refine my_sld hx hb hX hbl hbA hS (show k + 1 < L by omega) (by omega) dL_law_203 ?_
  refine lv_aload_n hx hb dL_law_204 rfl (lv_at hl 0 rfl) ?_
  refine lv_iload_n hx hb dL_law_205 rfl (lv_at hl 3 rfl) ?_
  refine lv_iconst (v := (nI 2)) hx hb dL_law_206 (by decide +kernel) ?_
  refine my_add hx hb dL_law_207 ?_
  refine my_sld hx hb hX hbl hbA hS (show k + 2 < L by omega) (by omega) dL_law_208 ?_
  have hPc := hP.sub (ws' := W1 y ya yb eI eZ w h) [3, 4, 5] rfl
  have hKc := hK.sub (tys' := TY eI eZ) [2, 3] rfl
  have hDc := hD.sub (ws' := W1 y ya yb eI eZ w h) [3, 4, 5] (by decide) rfl
  have hFc := va_free (wc := W1 y ya yb eI eZ w h) hD hS hA [3, 4, 5] rfl
  refine va_calli (va_runV (As := [.int (xs (k + 1)), .int (xs (k + 2))]) (rest := [.int (s_two (xs (k + 1)) (xs (k + 2)))]) ⟨hx, hb, hml, hown, hts⟩ (k1_copy l dC dI y ya yb eI eZ H.size w h (xs (k + 1)) (xs (k + 2))) (cwV 2 hts gL_law_X1_copy rfl rfl rfl (by decide +kernel) ⟨Nat.le_of_ble_eq_true rfl, Nat.le_of_ble_eq_true rfl⟩) ⟨bl_Q, va_recv hKc hPc (ci := 1) (q0 := 0) rfl rfl, fun U hU hW => ⟨rfl, by rw [hU], by rw [hU]; exact hPc, va_K.moved hW.alike hKc, hDc.weaken (fun _ _ _ _ => trivial)⟩⟩ rfl rfl hl.1 rfl (lv_room (Nat.le_of_ble_eq_true rfl)) dL_law_209 ⟨Nat.le_of_ble_eq_true rfl, Nat.le_of_ble_eq_true rfl⟩) hS (fun q _ h9 => hFc q h9) hFc (fun r_209 u t H1 locs ht hvm hw hB hz1 hk1 hS => ?_)
  obtain rfl : r_209 = (s_two (xs (k + 1)) (xs (k + 2))) := hw
  obtain ⟨hP1, hK1, hD1⟩ := hB
  rw [ht] at hP1
  obtain ⟨hP, hD⟩ := va_join (wr := W0 x xa xb cI cZ (w_copy w (xs (k + 1)) (xs (k + 2))) (h_copy h (xs (k + 1)) (xs (k + 2)))) (w1 := W1 y ya yb eI eZ (w_copy w (xs (k + 1)) (xs (k + 2))) (h_copy h (xs (k + 1)) (xs (k + 2)))) hP hD [3, 4, 5] [0, 1, 2] rfl rfl (by decide) (by decide) hk1 hFc hP1 hD1
  have hP := hP.sub (ws' := W2 x xa xb y ya yb cI cZ eI eZ (w_copy w (xs (k + 1)) (xs (k + 2))) (h_copy h (xs (k + 1)) (xs (k + 2))) (w_copy w (xs (k + 1)) (xs (k + 2))) (h_copy h (xs (k + 1)) (xs (k + 2)))) [0, 1, 2, 3, 4, 5] rfl
  have hD := hD.sub (ws' := W2 x xa xb y ya yb cI cZ eI eZ (w_copy w (xs (k + 1)) (xs (k + 2))) (h_copy h (xs (k + 1)) (xs (k + 2))) (w_copy w (xs (k + 1)) (xs (k + 2))) (h_copy h (xs (k + 1)) (xs (k + 2)))) [0, 1, 2, 3, 4, 5] (by decide) rfl
  generalize H1 = H at hP hS ⊢
  refine lv_icmp_eq (tgt := 445) hx hb dL_law_212 (by decide) (fun _ => ?_) (fun c_212 => absurd rfl c_212)
  exact nx _ _ _ _ ls hP hD hS hl
set_option maxHeartbeats 4000000 in
set_option maxRecDepth 100000 in
theorem law_case3 {p : Program} {l : Launch} {e : Env} {s : State} {m : MethodId} {below : List Frame} {meth : Method} {c : Code} {dC : Nat → ClassId} {dI : Nat → Nat → Nat} {b L : Nat} {xs : Nat → Int32} (hL : L ≤ 257) (C0 : lw_At p s m meth c b L xs) {k x xa xb y ya yb : Nat} {cI cZ eI eZ : ClassId} (hk : k + 4 ≤ L) (hK : va_K (dC, dI) vwCl (T4 cI cZ eI eZ) s) (nx : LN p l e s m below meth c dC dI b x xa xb y ya yb cI cZ eI eZ k) (w : Nat → Int32) (h : Nat → Bool) (H : Heap) (locs : List Loc) (ls : Array Slot) (hP : va_P (dC, dI) vwCl (W2 x xa xb y ya yb cI cZ eI eZ w h w h) H) (hD : va_D (LA s) (W2 x xa xb y ya yb cI cZ eI eZ w h w h)) (hS : va_S (LA s) s.heap H locs) (hl : lv_has ls 4 [(0, .ref b), (1, .ref x), (2, .ref y), (3, .int (nI k))]) : W p l e room_1 s m #[Value.ref b] below meth c H locs 6 244 (lw_Z below #[Value.ref b] s) (F0 m 217 ls []) := by
  obtain ⟨hx, hb, hr, hml, hown, hts0, hX, hbl, hlocks, hgv⟩ := C0
  have hb : c.code = cL_law := hb
  have hown : s.vm.findClass RL = some m.cls := hown
  have hts : ∀ w ∈ wsL_law, w.before #[Value.ref b] s = true := fun w h => hts0 w (wsL_law_in w h)
  have hA : ∀ q : Nat, s.heap.size ≤ q → LA s q := fun _ h => h
  have hbA : ¬ LA s b := Nat.not_le.mpr hbl
  refine lv_aload_n hx hb dL_law_217 rfl (lv_at hl 1 rfl) ?_
  refine lv_aload_n hx hb dL_law_218 rfl (lv_at hl 0 rfl) ?_
  refine lv_iload_n hx hb dL_law_219 rfl (lv_at hl 3 rfl) ?_
  refine lv_iconst (v := (nI 1)) hx hb dL_law_220 (by decide +kernel) ?_
  refine my_add hx hb dL_law_221 ?_
  refine my_sld hx hb hX hbl hbA hS (show k + 1 < L by omega) (by omega) dL_law_222 ?_
  refine lv_aload_n hx hb dL_law_223 rfl (lv_at hl 0 rfl) ?_
  refine lv_iload_n hx hb dL_law_224 rfl (lv_at hl 3 rfl) ?_
  refine lv_iconst (v := (nI 2)) hx hb dL_law_225 (by decide +kernel) ?_
  refine my_add hx hb dL_law_226 ?_
  refine my_sld hx hb hX hbl hbA hS (show k + 2 < L by omega) (by omega) dL_law_227 ?_
  have hPc := hP.sub (ws' := W0 x xa xb cI cZ w h) [0, 1, 2] rfl
  have hKc := hK.sub (tys' := TY cI cZ) [0, 1] rfl
  have hDc := hD.sub (ws' := W0 x xa xb cI cZ w h) [0, 1, 2] (by decide) rfl
  have hFc := va_free (wc := W0 x xa xb cI cZ w h) hD hS hA [0, 1, 2] rfl
  refine va_calli (va_runV (As := [.int (xs (k + 1)), .int (xs (k + 2))]) (rest := []) ⟨hx, hb, hml, hown, hts⟩ (k0_swap l dC dI x xa xb cI cZ H.size w h (xs (k + 1)) (xs (k + 2))) (cwV 2 hts gL_law_X0_swap rfl rfl rfl (by decide +kernel) ⟨Nat.le_of_ble_eq_true rfl, Nat.le_of_ble_eq_true rfl⟩) ⟨bl_Q, va_recv hKc hPc (ci := 0) (q0 := 0) rfl rfl, fun U hU hW => ⟨rfl, by rw [hU], by rw [hU]; exact hPc, va_K.moved hW.alike hKc, hDc.weaken (fun _ _ _ _ => trivial)⟩⟩ rfl rfl hl.1 rfl (lv_room (Nat.le_of_ble_eq_true rfl)) dL_law_228 ⟨Nat.le_of_ble_eq_true rfl, Nat.le_of_ble_eq_true rfl⟩) hS (fun q _ h9 => hFc q h9) hFc (fun r_228 u t H1 locs ht hvm hw hB hz1 hk1 hS => ?_)
  obtain rfl : r_228 = (s_two (xs (k + 1)) (xs (k + 2))) := hw
  obtain ⟨hP1, hK1, hD1⟩ := hB
  rw [ht] at hP1
  obtain ⟨hP, hD⟩ := va_join (wr := W1 y ya yb eI eZ w h) (w1 := W0 x xa xb cI cZ (w_swap w (xs (k + 1)) (xs (k + 2))) (h_swap h (xs (k + 1)) (xs (k + 2)))) hP hD [0, 1, 2] [3, 4, 5] rfl rfl (by decide) (by decide) hk1 hFc hP1 hD1
  have hP := hP.sub (ws' := W2 x xa xb y ya yb cI cZ eI eZ (w_swap w (xs (k + 1)) (xs (k + 2))) (h_swap h (xs (k + 1)) (xs (k + 2))) w h) [3, 4, 5, 0, 1, 2] rfl
  have hD := hD.sub (ws' := W2 x xa xb y ya yb cI cZ eI eZ (w_swap w (xs (k + 1)) (xs (k + 2))) (h_swap h (xs (k + 1)) (xs (k + 2))) w h) [3, 4, 5, 0, 1, 2] (by decide) rfl
  generalize H1 = H at hP hS ⊢
  refine lv_aload_n hx hb dL_law_231 rfl (lv_at hl 2 rfl) ?_
  refine lv_aload_n hx hb dL_law_232 rfl (lv_at hl 0 rfl) ?_
  refine lv_iload_n hx hb dL_law_233 rfl (lv_at hl 3 rfl) ?_
  refine lv_iconst (v := (nI 1)) hx hb dL_law_234 (by decide +kernel) ?_
  refine my_add hx hb dL_law_235 ?_
  refine my_sld hx hb hX hbl hbA hS (show k + 1 < L by omega) (by omega) dL_law_236 ?_
  refine lv_aload_n hx hb dL_law_237 rfl (lv_at hl 0 rfl) ?_
  refine lv_iload_n hx hb dL_law_238 rfl (lv_at hl 3 rfl) ?_
  refine lv_iconst (v := (nI 2)) hx hb dL_law_239 (by decide +kernel) ?_
  refine my_add hx hb dL_law_240 ?_
  refine my_sld hx hb hX hbl hbA hS (show k + 2 < L by omega) (by omega) dL_law_241 ?_
  have hPc := hP.sub (ws' := W1 y ya yb eI eZ w h) [3, 4, 5] rfl
  have hKc := hK.sub (tys' := TY eI eZ) [2, 3] rfl
  have hDc := hD.sub (ws' := W1 y ya yb eI eZ w h) [3, 4, 5] (by decide) rfl
  have hFc := va_free (wc := W1 y ya yb eI eZ w h) hD hS hA [3, 4, 5] rfl
  refine va_calli (va_runV (As := [.int (xs (k + 1)), .int (xs (k + 2))]) (rest := [.int (s_two (xs (k + 1)) (xs (k + 2)))]) ⟨hx, hb, hml, hown, hts⟩ (k1_swap l dC dI y ya yb eI eZ H.size w h (xs (k + 1)) (xs (k + 2))) (cwV 2 hts gL_law_X1_swap rfl rfl rfl (by decide +kernel) ⟨Nat.le_of_ble_eq_true rfl, Nat.le_of_ble_eq_true rfl⟩) ⟨bl_Q, va_recv hKc hPc (ci := 1) (q0 := 0) rfl rfl, fun U hU hW => ⟨rfl, by rw [hU], by rw [hU]; exact hPc, va_K.moved hW.alike hKc, hDc.weaken (fun _ _ _ _ => trivial)⟩⟩ rfl rfl hl.1 rfl (lv_room (Nat.le_of_ble_eq_true rfl)) dL_law_242 ⟨Nat.le_of_ble_eq_true rfl, Nat.le_of_ble_eq_true rfl⟩) hS (fun q _ h9 => hFc q h9) hFc (fun r_242 u t H1 locs ht hvm hw hB hz1 hk1 hS => ?_)
  obtain rfl : r_242 = (s_two (xs (k + 1)) (xs (k + 2))) := hw
  obtain ⟨hP1, hK1, hD1⟩ := hB
  rw [ht] at hP1
  obtain ⟨hP, hD⟩ := va_join (wr := W0 x xa xb cI cZ (w_swap w (xs (k + 1)) (xs (k + 2))) (h_swap h (xs (k + 1)) (xs (k + 2)))) (w1 := W1 y ya yb eI eZ (w_swap w (xs (k + 1)) (xs (k + 2))) (h_swap h (xs (k + 1)) (xs (k + 2)))) hP hD [3, 4, 5] [0, 1, 2] rfl rfl (by decide) (by decide) hk1 hFc hP1 hD1
  have hP := hP.sub (ws' := W2 x xa xb y ya yb cI cZ eI eZ (w_swap w (xs (k + 1)) (xs (k + 2))) (h_swap h (xs (k + 1)) (xs (k + 2))) (w_swap w (xs (k + 1)) (xs (k + 2))) (h_swap h (xs (k + 1)) (xs (k + 2)))) [0, 1, 2, 3, 4, 5] rfl
  have hD := hD.sub (ws' := W2 x xa xb y ya yb cI cZ eI eZ (w_swap w (xs (k + 1)) (xs (k + 2))) (h_swap h (xs (k + 1)) (xs (k + 2))) (w_swap w (xs (k + 1)) (xs (k + 2))) (h_swap h (xs (k + 1)) (xs (k + 2)))) [0, 1, 2, 3, 4, 5] (by decide) rfl
  generalize H1 = H at hP hS ⊢
  refine lv_icmp_eq (tgt := 445) hx hb dL_law_245 (by decide) (fun _ => ?_) (fun c_245 => absurd rfl c_245)
  exact nx _ _ _ _ ls hP hD hS hl
set_option maxHeartbeats 4000000 in
set_option maxRecDepth 100000 in
theorem law_case4 {p : Program} {l : Launch} {e : Env} {s : State} {m : MethodId} {below : List Frame} {meth : Method} {c : Code} {dC : Nat → ClassId} {dI : Nat → Nat → Nat} {b L : Nat} {xs : Nat → Int32} (hL : L ≤ 257) (C0 : lw_At p s m meth c b L xs) {k x xa xb y ya yb : Nat} {cI cZ eI eZ : ClassId} (hk : k + 4 ≤ L) (hK : va_K (dC, dI) vwCl (T4 cI cZ eI eZ) s) (nx : LN p l e s m below meth c dC dI b x xa xb y ya yb cI cZ eI eZ k) (w : Nat → Int32) (h : Nat → Bool) (H : Heap) (locs : List Loc) (ls : Array Slot) (hP : va_P (dC, dI) vwCl (W2 x xa xb y ya yb cI cZ eI eZ w h w h) H) (hD : va_D (LA s) (W2 x xa xb y ya yb cI cZ eI eZ w h w h)) (hS : va_S (LA s) s.heap H locs) (hl : lv_has ls 4 [(0, .ref b), (1, .ref x), (2, .ref y), (3, .int (nI k))]) : W p l e room_1 s m #[Value.ref b] below meth c H locs 6 244 (lw_Z below #[Value.ref b] s) (F0 m 250 ls []) := by
  obtain ⟨hx, hb, hr, hml, hown, hts0, hX, hbl, hlocks, hgv⟩ := C0
  have hb : c.code = cL_law := hb
  have hown : s.vm.findClass RL = some m.cls := hown
  have hts : ∀ w ∈ wsL_law, w.before #[Value.ref b] s = true := fun w h => hts0 w (wsL_law_in w h)
  have hA : ∀ q : Nat, s.heap.size ≤ q → LA s q := fun _ h => h
  have hbA : ¬ LA s b := Nat.not_le.mpr hbl
  refine lv_aload_n hx hb dL_law_250 rfl (lv_at hl 1 rfl) ?_
  refine lv_aload_n hx hb dL_law_251 rfl (lv_at hl 0 rfl) ?_
  refine lv_iload_n hx hb dL_law_252 rfl (lv_at hl 3 rfl) ?_
  refine lv_iconst (v := (nI 1)) hx hb dL_law_253 (by decide +kernel) ?_
  refine my_add hx hb dL_law_254 ?_
  refine my_sld hx hb hX hbl hbA hS (show k + 1 < L by omega) (by omega) dL_law_255 ?_
  have hPc := hP.sub (ws' := W0 x xa xb cI cZ w h) [0, 1, 2] rfl
  have hKc := hK.sub (tys' := TY cI cZ) [0, 1] rfl
  have hDc := hD.sub (ws' := W0 x xa xb cI cZ w h) [0, 1, 2] (by decide) rfl
  have hFc := va_free (wc := W0 x xa xb cI cZ w h) hD hS hA [0, 1, 2] rfl
  refine va_calli (va_runV (As := [.int (xs (k + 1))]) (rest := []) ⟨hx, hb, hml, hown, hts⟩ (k0_release l dC dI x xa xb cI cZ H.size w h (xs (k + 1))) (cwV 1 hts gL_law_X0_release rfl rfl rfl (by decide +kernel) ⟨Nat.le_of_ble_eq_true rfl, Nat.le_of_ble_eq_true rfl⟩) ⟨bl_Q, va_recv hKc hPc (ci := 0) (q0 := 0) rfl rfl, fun U hU hW => ⟨rfl, by rw [hU], by rw [hU]; exact hPc, va_K.moved hW.alike hKc, hDc.weaken (fun _ _ _ _ => trivial)⟩⟩ rfl rfl hl.1 rfl (lv_room (Nat.le_of_ble_eq_true rfl)) dL_law_256 ⟨Nat.le_of_ble_eq_true rfl, Nat.le_of_ble_eq_true rfl⟩) hS (fun q _ h9 => hFc q h9) hFc (fun r_256 u t H1 locs ht hvm hw hB hz1 hk1 hS => ?_)
  obtain rfl : r_256 = (s_rel h (xs (k + 1))) := hw
  obtain ⟨hP1, hK1, hD1⟩ := hB
  rw [ht] at hP1
  obtain ⟨hP, hD⟩ := va_join (wr := W1 y ya yb eI eZ w h) (w1 := W0 x xa xb cI cZ (w_rel w h (xs (k + 1))) (h_rel h (xs (k + 1)))) hP hD [0, 1, 2] [3, 4, 5] rfl rfl (by decide) (by decide) hk1 hFc hP1 hD1
  have hP := hP.sub (ws' := W2 x xa xb y ya yb cI cZ eI eZ (w_rel w h (xs (k + 1))) (h_rel h (xs (k + 1))) w h) [3, 4, 5, 0, 1, 2] rfl
  have hD := hD.sub (ws' := W2 x xa xb y ya yb cI cZ eI eZ (w_rel w h (xs (k + 1))) (h_rel h (xs (k + 1))) w h) [3, 4, 5, 0, 1, 2] (by decide) rfl
  generalize H1 = H at hP hS ⊢
  refine lv_aload_n hx hb dL_law_259 rfl (lv_at hl 2 rfl) ?_
  refine lv_aload_n hx hb dL_law_260 rfl (lv_at hl 0 rfl) ?_
  refine lv_iload_n hx hb dL_law_261 rfl (lv_at hl 3 rfl) ?_
  refine lv_iconst (v := (nI 1)) hx hb dL_law_262 (by decide +kernel) ?_
  refine my_add hx hb dL_law_263 ?_
  refine my_sld hx hb hX hbl hbA hS (show k + 1 < L by omega) (by omega) dL_law_264 ?_
  have hPc := hP.sub (ws' := W1 y ya yb eI eZ w h) [3, 4, 5] rfl
  have hKc := hK.sub (tys' := TY eI eZ) [2, 3] rfl
  have hDc := hD.sub (ws' := W1 y ya yb eI eZ w h) [3, 4, 5] (by decide) rfl
  have hFc := va_free (wc := W1 y ya yb eI eZ w h) hD hS hA [3, 4, 5] rfl
  refine va_calli (va_runV (As := [.int (xs (k + 1))]) (rest := [.int (s_rel h (xs (k + 1)))]) ⟨hx, hb, hml, hown, hts⟩ (k1_release l dC dI y ya yb eI eZ H.size w h (xs (k + 1))) (cwV 1 hts gL_law_X1_release rfl rfl rfl (by decide +kernel) ⟨Nat.le_of_ble_eq_true rfl, Nat.le_of_ble_eq_true rfl⟩) ⟨bl_Q, va_recv hKc hPc (ci := 1) (q0 := 0) rfl rfl, fun U hU hW => ⟨rfl, by rw [hU], by rw [hU]; exact hPc, va_K.moved hW.alike hKc, hDc.weaken (fun _ _ _ _ => trivial)⟩⟩ rfl rfl hl.1 rfl (lv_room (Nat.le_of_ble_eq_true rfl)) dL_law_265 ⟨Nat.le_of_ble_eq_true rfl, Nat.le_of_ble_eq_true rfl⟩) hS (fun q _ h9 => hFc q h9) hFc (fun r_265 u t H1 locs ht hvm hw hB hz1 hk1 hS => ?_)
  obtain rfl : r_265 = (s_rel h (xs (k + 1))) := hw
  obtain ⟨hP1, hK1, hD1⟩ := hB
  rw [ht] at hP1
  obtain ⟨hP, hD⟩ := va_join (wr := W0 x xa xb cI cZ (w_rel w h (xs (k + 1))) (h_rel h (xs (k + 1)))) (w1 := W1 y ya yb eI eZ (w_rel w h (xs (k + 1))) (h_rel h (xs (k + 1)))) hP hD [3, 4, 5] [0, 1, 2] rfl rfl (by decide) (by decide) hk1 hFc hP1 hD1
  have hP := hP.sub (ws' := W2 x xa xb y ya yb cI cZ eI eZ (w_rel w h (xs (k + 1))) (h_rel h (xs (k + 1))) (w_rel w h (xs (k + 1))) (h_rel h (xs (k + 1)))) [0, 1, 2, 3, 4, 5] rfl
  have hD := hD.sub (ws' := W2 x xa xb y ya yb cI cZ eI eZ (w_rel w h (xs (k + 1))) (h_rel h (xs (k + 1))) (w_rel w h (xs (k + 1))) (h_rel h (xs (k + 1)))) [0, 1, 2, 3, 4, 5] (by decide) rfl
  generalize H1 = H at hP hS ⊢
  refine lv_icmp_eq (tgt := 445) hx hb dL_law_268 (by decide) (fun _ => ?_) (fun c_268 => absurd rfl c_268)
  exact nx _ _ _ _ ls hP hD hS hl
set_option maxHeartbeats 4000000 in
set_option maxRecDepth 100000 in
theorem law_case5 {p : Program} {l : Launch} {e : Env} {s : State} {m : MethodId} {below : List Frame} {meth : Method} {c : Code} {dC : Nat → ClassId} {dI : Nat → Nat → Nat} {b L : Nat} {xs : Nat → Int32} (hL : L ≤ 257) (C0 : lw_At p s m meth c b L xs) {k x xa xb y ya yb : Nat} {cI cZ eI eZ : ClassId} (hk : k + 4 ≤ L) (hK : va_K (dC, dI) vwCl (T4 cI cZ eI eZ) s) (nx : LN p l e s m below meth c dC dI b x xa xb y ya yb cI cZ eI eZ k) (w : Nat → Int32) (h : Nat → Bool) (H : Heap) (locs : List Loc) (ls : Array Slot) (hP : va_P (dC, dI) vwCl (W2 x xa xb y ya yb cI cZ eI eZ w h w h) H) (hD : va_D (LA s) (W2 x xa xb y ya yb cI cZ eI eZ w h w h)) (hS : va_S (LA s) s.heap H locs) (hl : lv_has ls 4 [(0, .ref b), (1, .ref x), (2, .ref y), (3, .int (nI k))]) : W p l e room_1 s m #[Value.ref b] below meth c H locs 6 244 (lw_Z below #[Value.ref b] s) (F0 m 273 ls []) := by
  obtain ⟨hx, hb, hr, hml, hown, hts0, hX, hbl, hlocks, hgv⟩ := C0
  have hb : c.code = cL_law := hb
  have hown : s.vm.findClass RL = some m.cls := hown
  have hts : ∀ w ∈ wsL_law, w.before #[Value.ref b] s = true := fun w h => hts0 w (wsL_law_in w h)
  have hA : ∀ q : Nat, s.heap.size ≤ q → LA s q := fun _ h => h
  have hbA : ¬ LA s b := Nat.not_le.mpr hbl
  refine lv_aload_n hx hb dL_law_273 rfl (lv_at hl 1 rfl) ?_
  refine lv_aload_n hx hb dL_law_274 rfl (lv_at hl 0 rfl) ?_
  refine lv_iload_n hx hb dL_law_275 rfl (lv_at hl 3 rfl) ?_
  refine lv_iconst (v := (nI 1)) hx hb dL_law_276 (by decide +kernel) ?_
  refine my_add hx hb dL_law_277 ?_
  refine my_sld hx hb hX hbl hbA hS (show k + 1 < L by omega) (by omega) dL_law_278 ?_
  have hPc := hP.sub (ws' := W0 x xa xb cI cZ w h) [0, 1, 2] rfl
  have hKc := hK.sub (tys' := TY cI cZ) [0, 1] rfl
  refine va_csv (va_Run.run (va_runV (As := [.int (xs (k + 1))]) (rest := []) ⟨hx, hb, hml, hown, hts⟩ (k0_scan l x (xs (k + 1))) (cwV 1 hts gL_law_X0_scan rfl rfl rfl (by decide +kernel) ⟨Nat.le_of_ble_eq_true rfl, Nat.le_of_ble_eq_true rfl⟩) ⟨bl_T, va_recv hKc hPc (ci := 0) (q0 := 0) rfl rfl, fun U hU hW => ⟨rfl, trivial⟩⟩ rfl rfl hl.1 rfl (lv_room (Nat.le_of_ble_eq_true rfl)) dL_law_279 ⟨Nat.le_of_ble_eq_true rfl, Nat.le_of_ble_eq_true rfl⟩)) (fun _ => ?_)
  refine lv_aload_n hx hb dL_law_282 rfl (lv_at hl 2 rfl) ?_
  refine lv_aload_n hx hb dL_law_283 rfl (lv_at hl 0 rfl) ?_
  refine lv_iload_n hx hb dL_law_284 rfl (lv_at hl 3 rfl) ?_
  refine lv_iconst (v := (nI 1)) hx hb dL_law_285 (by decide +kernel) ?_
  refine my_add hx hb dL_law_286 ?_
  refine my_sld hx hb hX hbl hbA hS (show k + 1 < L by omega) (by omega) dL_law_287 ?_
  have hPc := hP.sub (ws' := W1 y ya yb eI eZ w h) [3, 4, 5] rfl
  have hKc := hK.sub (tys' := TY eI eZ) [2, 3] rfl
  refine va_csv (va_Run.run (va_runV (As := [.int (xs (k + 1))]) (rest := []) ⟨hx, hb, hml, hown, hts⟩ (k1_scan l y (xs (k + 1))) (cwV 1 hts gL_law_X1_scan rfl rfl rfl (by decide +kernel) ⟨Nat.le_of_ble_eq_true rfl, Nat.le_of_ble_eq_true rfl⟩) ⟨bl_T, va_recv hKc hPc (ci := 1) (q0 := 0) rfl rfl, fun U hU hW => ⟨rfl, trivial⟩⟩ rfl rfl hl.1 rfl (lv_room (Nat.le_of_ble_eq_true rfl)) dL_law_288 ⟨Nat.le_of_ble_eq_true rfl, Nat.le_of_ble_eq_true rfl⟩)) (fun _ => ?_)
  refine lv_goto (tgt := 445) hx hb dL_law_291 (by decide) ?_
  exact nx _ _ _ _ ls hP hD hS hl
set_option maxHeartbeats 4000000 in
set_option maxRecDepth 100000 in
theorem law_case6 {p : Program} {l : Launch} {e : Env} {s : State} {m : MethodId} {below : List Frame} {meth : Method} {c : Code} {dC : Nat → ClassId} {dI : Nat → Nat → Nat} {b L : Nat} {xs : Nat → Int32} (hL : L ≤ 257) (C0 : lw_At p s m meth c b L xs) {k x xa xb y ya yb : Nat} {cI cZ eI eZ : ClassId} (hk : k + 4 ≤ L) (hK : va_K (dC, dI) vwCl (T4 cI cZ eI eZ) s) (nx : LN p l e s m below meth c dC dI b x xa xb y ya yb cI cZ eI eZ k) (w : Nat → Int32) (h : Nat → Bool) (H : Heap) (locs : List Loc) (ls : Array Slot) (hP : va_P (dC, dI) vwCl (W2 x xa xb y ya yb cI cZ eI eZ w h w h) H) (hD : va_D (LA s) (W2 x xa xb y ya yb cI cZ eI eZ w h w h)) (hS : va_S (LA s) s.heap H locs) (hl : lv_has ls 4 [(0, .ref b), (1, .ref x), (2, .ref y), (3, .int (nI k))]) : W p l e room_1 s m #[Value.ref b] below meth c H locs 6 244 (lw_Z below #[Value.ref b] s) (F0 m 294 ls []) := by
  obtain ⟨hx, hb, hr, hml, hown, hts0, hX, hbl, hlocks, hgv⟩ := C0
  have hb : c.code = cL_law := hb
  have hown : s.vm.findClass RL = some m.cls := hown
  have hts : ∀ w ∈ wsL_law, w.before #[Value.ref b] s = true := fun w h => hts0 w (wsL_law_in w h)
  have hA : ∀ q : Nat, s.heap.size ≤ q → LA s q := fun _ h => h
  have hbA : ¬ LA s b := Nat.not_le.mpr hbl
  refine lv_aload_n hx hb dL_law_294 rfl (lv_at hl 1 rfl) ?_
  refine lv_aload_n hx hb dL_law_295 rfl (lv_at hl 0 rfl) ?_
  refine lv_iload_n hx hb dL_law_296 rfl (lv_at hl 3 rfl) ?_
  refine lv_iconst (v := (nI 1)) hx hb dL_law_297 (by decide +kernel) ?_
  refine my_add hx hb dL_law_298 ?_
  refine my_sld hx hb hX hbl hbA hS (show k + 1 < L by omega) (by omega) dL_law_299 ?_
  refine lv_aload_n hx hb dL_law_300 rfl (lv_at hl 0 rfl) ?_
  refine lv_iload_n hx hb dL_law_301 rfl (lv_at hl 3 rfl) ?_
  refine lv_iconst (v := (nI 2)) hx hb dL_law_302 (by decide +kernel) ?_
  refine my_add hx hb dL_law_303 ?_
  refine my_sld hx hb hX hbl hbA hS (show k + 2 < L by omega) (by omega) dL_law_304 ?_
  have hPc := hP.sub (ws' := W0 x xa xb cI cZ w h) [0, 1, 2] rfl
  have hKc := hK.sub (tys' := TY cI cZ) [0, 1] rfl
  refine vp_callSi (va_Run.run (va_runV (As := [.int (xs (k + 1)), .int (xs (k + 2))]) (rest := []) ⟨hx, hb, hml, hown, hts⟩ (k0_read l dC dI x xa xb cI cZ w h (xs (k + 1)) (xs (k + 2))) (cwV 2 hts gL_law_X0_read rfl rfl rfl (by decide +kernel) ⟨Nat.le_of_ble_eq_true rfl, Nat.le_of_ble_eq_true rfl⟩) ⟨bl_P, va_recv hKc hPc (ci := 0) (q0 := 0) rfl rfl, fun U hU hW => ⟨rfl, by rw [hU]; exact hPc, va_K.moved hW.alike hKc⟩⟩ rfl rfl hl.1 rfl (lv_room (Nat.le_of_ble_eq_true rfl)) dL_law_305 ⟨Nat.le_of_ble_eq_true rfl, Nat.le_of_ble_eq_true rfl⟩)) (fun r_305 hr_305 => ?_)
  obtain rfl : r_305 = (s_read w (xs (k + 1)) (xs (k + 2))) := hr_305
  refine lv_aload_n hx hb dL_law_308 rfl (lv_at hl 2 rfl) ?_
  refine lv_aload_n hx hb dL_law_309 rfl (lv_at hl 0 rfl) ?_
  refine lv_iload_n hx hb dL_law_310 rfl (lv_at hl 3 rfl) ?_
  refine lv_iconst (v := (nI 1)) hx hb dL_law_311 (by decide +kernel) ?_
  refine my_add hx hb dL_law_312 ?_
  refine my_sld hx hb hX hbl hbA hS (show k + 1 < L by omega) (by omega) dL_law_313 ?_
  refine lv_aload_n hx hb dL_law_314 rfl (lv_at hl 0 rfl) ?_
  refine lv_iload_n hx hb dL_law_315 rfl (lv_at hl 3 rfl) ?_
  refine lv_iconst (v := (nI 2)) hx hb dL_law_316 (by decide +kernel) ?_
  refine my_add hx hb dL_law_317 ?_
  refine my_sld hx hb hX hbl hbA hS (show k + 2 < L by omega) (by omega) dL_law_318 ?_
  have hPc := hP.sub (ws' := W1 y ya yb eI eZ w h) [3, 4, 5] rfl
  have hKc := hK.sub (tys' := TY eI eZ) [2, 3] rfl
  refine vp_callSi (va_Run.run (va_runV (As := [.int (xs (k + 1)), .int (xs (k + 2))]) (rest := [.int (s_read w (xs (k + 1)) (xs (k + 2)))]) ⟨hx, hb, hml, hown, hts⟩ (k1_read l dC dI y ya yb eI eZ w h (xs (k + 1)) (xs (k + 2))) (cwV 2 hts gL_law_X1_read rfl rfl rfl (by decide +kernel) ⟨Nat.le_of_ble_eq_true rfl, Nat.le_of_ble_eq_true rfl⟩) ⟨bl_P, va_recv hKc hPc (ci := 1) (q0 := 0) rfl rfl, fun U hU hW => ⟨rfl, by rw [hU]; exact hPc, va_K.moved hW.alike hKc⟩⟩ rfl rfl hl.1 rfl (lv_room (Nat.le_of_ble_eq_true rfl)) dL_law_319 ⟨Nat.le_of_ble_eq_true rfl, Nat.le_of_ble_eq_true rfl⟩)) (fun r_319 hr_319 => ?_)
  obtain rfl : r_319 = (s_read w (xs (k + 1)) (xs (k + 2))) := hr_319
  refine lv_icmp_eq (tgt := 445) hx hb dL_law_322 (by decide) (fun _ => ?_) (fun c_322 => absurd rfl c_322)
  exact nx _ _ _ _ ls hP hD hS hl
set_option maxHeartbeats 4000000 in
set_option maxRecDepth 100000 in
theorem law_case7 {p : Program} {l : Launch} {e : Env} {s : State} {m : MethodId} {below : List Frame} {meth : Method} {c : Code} {dC : Nat → ClassId} {dI : Nat → Nat → Nat} {b L : Nat} {xs : Nat → Int32} (hL : L ≤ 257) (C0 : lw_At p s m meth c b L xs) {k x xa xb y ya yb : Nat} {cI cZ eI eZ : ClassId} (hk : k + 4 ≤ L) (hK : va_K (dC, dI) vwCl (T4 cI cZ eI eZ) s) (nx : LN p l e s m below meth c dC dI b x xa xb y ya yb cI cZ eI eZ k) (w : Nat → Int32) (h : Nat → Bool) (H : Heap) (locs : List Loc) (ls : Array Slot) (hP : va_P (dC, dI) vwCl (W2 x xa xb y ya yb cI cZ eI eZ w h w h) H) (hD : va_D (LA s) (W2 x xa xb y ya yb cI cZ eI eZ w h w h)) (hS : va_S (LA s) s.heap H locs) (hl : lv_has ls 4 [(0, .ref b), (1, .ref x), (2, .ref y), (3, .int (nI k))]) : W p l e room_1 s m #[Value.ref b] below meth c H locs 6 244 (lw_Z below #[Value.ref b] s) (F0 m 327 ls []) := by
  obtain ⟨hx, hb, hr, hml, hown, hts0, hX, hbl, hlocks, hgv⟩ := C0
  have hb : c.code = cL_law := hb
  have hown : s.vm.findClass RL = some m.cls := hown
  have hts : ∀ w ∈ wsL_law, w.before #[Value.ref b] s = true := fun w h => hts0 w (wsL_law_in w h)
  have hA : ∀ q : Nat, s.heap.size ≤ q → LA s q := fun _ h => h
  have hbA : ¬ LA s b := Nat.not_le.mpr hbl
  refine lv_aload_n hx hb dL_law_327 rfl (lv_at hl 1 rfl) ?_
  refine lv_aload_n hx hb dL_law_328 rfl (lv_at hl 0 rfl) ?_
  refine lv_iload_n hx hb dL_law_329 rfl (lv_at hl 3 rfl) ?_
  refine lv_iconst (v := (nI 1)) hx hb dL_law_330 (by decide +kernel) ?_
  refine my_add hx hb dL_law_331 ?_
  refine my_sld hx hb hX hbl hbA hS (show k + 1 < L by omega) (by omega) dL_law_332 ?_
  have hPc := hP.sub (ws' := W0 x xa xb cI cZ w h) [0, 1, 2] rfl
  have hKc := hK.sub (tys' := TY cI cZ) [0, 1] rfl
  refine vp_callSi (va_Run.run (va_runV (As := [.int (xs (k + 1))]) (rest := []) ⟨hx, hb, hml, hown, hts⟩ (k0_held l dC dI x xa xb cI cZ w h (xs (k + 1))) (cwV 1 hts gL_law_X0_held rfl rfl rfl (by decide +kernel) ⟨Nat.le_of_ble_eq_true rfl, Nat.le_of_ble_eq_true rfl⟩) ⟨bl_P, va_recv hKc hPc (ci := 0) (q0 := 0) rfl rfl, fun U hU hW => ⟨rfl, by rw [hU]; exact hPc, va_K.moved hW.alike hKc⟩⟩ rfl rfl hl.1 rfl (lv_room (Nat.le_of_ble_eq_true rfl)) dL_law_333 ⟨Nat.le_of_ble_eq_true rfl, Nat.le_of_ble_eq_true rfl⟩)) (fun r_333 hr_333 => ?_)
  obtain rfl : r_333 = (bI (b_held h (xs (k + 1)))) := hr_333
  refine lv_aload_n hx hb dL_law_336 rfl (lv_at hl 2 rfl) ?_
  refine lv_aload_n hx hb dL_law_337 rfl (lv_at hl 0 rfl) ?_
  refine lv_iload_n hx hb dL_law_338 rfl (lv_at hl 3 rfl) ?_
  refine lv_iconst (v := (nI 1)) hx hb dL_law_339 (by decide +kernel) ?_
  refine my_add hx hb dL_law_340 ?_
  refine my_sld hx hb hX hbl hbA hS (show k + 1 < L by omega) (by omega) dL_law_341 ?_
  have hPc := hP.sub (ws' := W1 y ya yb eI eZ w h) [3, 4, 5] rfl
  have hKc := hK.sub (tys' := TY eI eZ) [2, 3] rfl
  refine vp_callSi (va_Run.run (va_runV (As := [.int (xs (k + 1))]) (rest := [.int (bI (b_held h (xs (k + 1))))]) ⟨hx, hb, hml, hown, hts⟩ (k1_held l dC dI y ya yb eI eZ w h (xs (k + 1))) (cwV 1 hts gL_law_X1_held rfl rfl rfl (by decide +kernel) ⟨Nat.le_of_ble_eq_true rfl, Nat.le_of_ble_eq_true rfl⟩) ⟨bl_P, va_recv hKc hPc (ci := 1) (q0 := 0) rfl rfl, fun U hU hW => ⟨rfl, by rw [hU]; exact hPc, va_K.moved hW.alike hKc⟩⟩ rfl rfl hl.1 rfl (lv_room (Nat.le_of_ble_eq_true rfl)) dL_law_342 ⟨Nat.le_of_ble_eq_true rfl, Nat.le_of_ble_eq_true rfl⟩)) (fun r_342 hr_342 => ?_)
  obtain rfl : r_342 = (bI (b_held h (xs (k + 1)))) := hr_342
  refine lv_icmp_eq (tgt := 445) hx hb dL_law_345 (by decide) (fun _ => ?_) (fun c_345 => absurd rfl c_345)
  exact nx _ _ _ _ ls hP hD hS hl
set_option maxHeartbeats 4000000 in
set_option maxRecDepth 100000 in
theorem law_case8 {p : Program} {l : Launch} {e : Env} {s : State} {m : MethodId} {below : List Frame} {meth : Method} {c : Code} {dC : Nat → ClassId} {dI : Nat → Nat → Nat} {b L : Nat} {xs : Nat → Int32} (hL : L ≤ 257) (C0 : lw_At p s m meth c b L xs) {k x xa xb y ya yb : Nat} {cI cZ eI eZ : ClassId} (hk : k + 4 ≤ L) (hK : va_K (dC, dI) vwCl (T4 cI cZ eI eZ) s) (nx : LN p l e s m below meth c dC dI b x xa xb y ya yb cI cZ eI eZ k) (w : Nat → Int32) (h : Nat → Bool) (H : Heap) (locs : List Loc) (ls : Array Slot) (hP : va_P (dC, dI) vwCl (W2 x xa xb y ya yb cI cZ eI eZ w h w h) H) (hD : va_D (LA s) (W2 x xa xb y ya yb cI cZ eI eZ w h w h)) (hS : va_S (LA s) s.heap H locs) (hl : lv_has ls 4 [(0, .ref b), (1, .ref x), (2, .ref y), (3, .int (nI k))]) : W p l e room_1 s m #[Value.ref b] below meth c H locs 6 244 (lw_Z below #[Value.ref b] s) (F0 m 350 ls []) := by
  obtain ⟨hx, hb, hr, hml, hown, hts0, hX, hbl, hlocks, hgv⟩ := C0
  have hb : c.code = cL_law := hb
  have hown : s.vm.findClass RL = some m.cls := hown
  have hts : ∀ w ∈ wsL_law, w.before #[Value.ref b] s = true := fun w h => hts0 w (wsL_law_in w h)
  have hA : ∀ q : Nat, s.heap.size ≤ q → LA s q := fun _ h => h
  have hbA : ¬ LA s b := Nat.not_le.mpr hbl
  refine lv_aload_n hx hb dL_law_350 rfl (lv_at hl 1 rfl) ?_
  refine lv_aload_n hx hb dL_law_351 rfl (lv_at hl 0 rfl) ?_
  refine lv_iload_n hx hb dL_law_352 rfl (lv_at hl 3 rfl) ?_
  refine lv_iconst (v := (nI 1)) hx hb dL_law_353 (by decide +kernel) ?_
  refine my_add hx hb dL_law_354 ?_
  refine my_sld hx hb hX hbl hbA hS (show k + 1 < L by omega) (by omega) dL_law_355 ?_
  refine lv_aload_n hx hb dL_law_356 rfl (lv_at hl 0 rfl) ?_
  refine lv_iload_n hx hb dL_law_357 rfl (lv_at hl 3 rfl) ?_
  refine lv_iconst (v := (nI 2)) hx hb dL_law_358 (by decide +kernel) ?_
  refine my_add hx hb dL_law_359 ?_
  refine my_sld hx hb hX hbl hbA hS (show k + 2 < L by omega) (by omega) dL_law_360 ?_
  have hPc := hP.sub (ws' := W0 x xa xb cI cZ w h) [0, 1, 2] rfl
  have hKc := hK.sub (tys' := TY cI cZ) [0, 1] rfl
  refine vp_callSi (va_Run.run (va_runV (As := [.int (xs (k + 1)), .int (xs (k + 2))]) (rest := []) ⟨hx, hb, hml, hown, hts⟩ (k0_same l dC dI x xa xb cI cZ w h (xs (k + 1)) (xs (k + 2))) (cwV 2 hts gL_law_X0_same rfl rfl rfl (by decide +kernel) ⟨Nat.le_of_ble_eq_true rfl, Nat.le_of_ble_eq_true rfl⟩) ⟨bl_P, va_recv hKc hPc (ci := 0) (q0 := 0) rfl rfl, fun U hU hW => ⟨rfl, by rw [hU]; exact hPc, va_K.moved hW.alike hKc⟩⟩ rfl rfl hl.1 rfl (lv_room (Nat.le_of_ble_eq_true rfl)) dL_law_361 ⟨Nat.le_of_ble_eq_true rfl, Nat.le_of_ble_eq_true rfl⟩)) (fun r_361 hr_361 => ?_)
  obtain rfl : r_361 = (bI (b_same w (xs (k + 1)) (xs (k + 2)))) := hr_361
  refine lv_aload_n hx hb dL_law_364 rfl (lv_at hl 2 rfl) ?_
  refine lv_aload_n hx hb dL_law_365 rfl (lv_at hl 0 rfl) ?_
  refine lv_iload_n hx hb dL_law_366 rfl (lv_at hl 3 rfl) ?_
  refine lv_iconst (v := (nI 1)) hx hb dL_law_367 (by decide +kernel) ?_
  refine my_add hx hb dL_law_368 ?_
  refine my_sld hx hb hX hbl hbA hS (show k + 1 < L by omega) (by omega) dL_law_369 ?_
  refine lv_aload_n hx hb dL_law_370 rfl (lv_at hl 0 rfl) ?_
  refine lv_iload_n hx hb dL_law_371 rfl (lv_at hl 3 rfl) ?_
  refine lv_iconst (v := (nI 2)) hx hb dL_law_372 (by decide +kernel) ?_
  refine my_add hx hb dL_law_373 ?_
  refine my_sld hx hb hX hbl hbA hS (show k + 2 < L by omega) (by omega) dL_law_374 ?_
  have hPc := hP.sub (ws' := W1 y ya yb eI eZ w h) [3, 4, 5] rfl
  have hKc := hK.sub (tys' := TY eI eZ) [2, 3] rfl
  refine vp_callSi (va_Run.run (va_runV (As := [.int (xs (k + 1)), .int (xs (k + 2))]) (rest := [.int (bI (b_same w (xs (k + 1)) (xs (k + 2))))]) ⟨hx, hb, hml, hown, hts⟩ (k1_same l dC dI y ya yb eI eZ w h (xs (k + 1)) (xs (k + 2))) (cwV 2 hts gL_law_X1_same rfl rfl rfl (by decide +kernel) ⟨Nat.le_of_ble_eq_true rfl, Nat.le_of_ble_eq_true rfl⟩) ⟨bl_P, va_recv hKc hPc (ci := 1) (q0 := 0) rfl rfl, fun U hU hW => ⟨rfl, by rw [hU]; exact hPc, va_K.moved hW.alike hKc⟩⟩ rfl rfl hl.1 rfl (lv_room (Nat.le_of_ble_eq_true rfl)) dL_law_375 ⟨Nat.le_of_ble_eq_true rfl, Nat.le_of_ble_eq_true rfl⟩)) (fun r_375 hr_375 => ?_)
  obtain rfl : r_375 = (bI (b_same w (xs (k + 1)) (xs (k + 2)))) := hr_375
  refine lv_icmp_eq (tgt := 445) hx hb dL_law_378 (by decide) (fun _ => ?_) (fun c_378 => absurd rfl c_378)
  exact nx _ _ _ _ ls hP hD hS hl
set_option maxHeartbeats 4000000 in
set_option maxRecDepth 100000 in
theorem law_case9 {p : Program} {l : Launch} {e : Env} {s : State} {m : MethodId} {below : List Frame} {meth : Method} {c : Code} {dC : Nat → ClassId} {dI : Nat → Nat → Nat} {b L : Nat} {xs : Nat → Int32} (hL : L ≤ 257) (C0 : lw_At p s m meth c b L xs) {k x xa xb y ya yb : Nat} {cI cZ eI eZ : ClassId} (hk : k + 4 ≤ L) (hK : va_K (dC, dI) vwCl (T4 cI cZ eI eZ) s) (nx : LN p l e s m below meth c dC dI b x xa xb y ya yb cI cZ eI eZ k) (w : Nat → Int32) (h : Nat → Bool) (H : Heap) (locs : List Loc) (ls : Array Slot) (hP : va_P (dC, dI) vwCl (W2 x xa xb y ya yb cI cZ eI eZ w h w h) H) (hD : va_D (LA s) (W2 x xa xb y ya yb cI cZ eI eZ w h w h)) (hS : va_S (LA s) s.heap H locs) (hl : lv_has ls 4 [(0, .ref b), (1, .ref x), (2, .ref y), (3, .int (nI k))]) : W p l e room_1 s m #[Value.ref b] below meth c H locs 6 244 (lw_Z below #[Value.ref b] s) (F0 m 383 ls []) := by
  obtain ⟨hx, hb, hr, hml, hown, hts0, hX, hbl, hlocks, hgv⟩ := C0
  have hb : c.code = cL_law := hb
  have hown : s.vm.findClass RL = some m.cls := hown
  have hts : ∀ w ∈ wsL_law, w.before #[Value.ref b] s = true := fun w h => hts0 w (wsL_law_in w h)
  have hA : ∀ q : Nat, s.heap.size ≤ q → LA s q := fun _ h => h
  have hbA : ¬ LA s b := Nat.not_le.mpr hbl
  refine lv_aload_n hx hb dL_law_383 rfl (lv_at hl 1 rfl) ?_
  have hPc := hP.sub (ws' := W0 x xa xb cI cZ w h) [0, 1, 2] rfl
  have hKc := hK.sub (tys' := TY cI cZ) [0, 1] rfl
  refine vp_callSi (va_Run.run (va_runV (As := []) (rest := []) ⟨hx, hb, hml, hown, hts⟩ (k0_contents l dC dI x xa xb cI cZ w h) (cwV 0 hts gL_law_X0_contents rfl rfl rfl (by decide +kernel) ⟨Nat.le_of_ble_eq_true rfl, Nat.le_of_ble_eq_true rfl⟩) ⟨bl_P, va_recv hKc hPc (ci := 0) (q0 := 0) rfl rfl, fun U hU hW => ⟨rfl, by rw [hU]; exact hPc, va_K.moved hW.alike hKc⟩⟩ rfl rfl hl.1 rfl (lv_room (Nat.le_of_ble_eq_true rfl)) dL_law_384 ⟨Nat.le_of_ble_eq_true rfl, Nat.le_of_ble_eq_true rfl⟩)) (fun r_384 hr_384 => ?_)
  obtain rfl : r_384 = (cnt (f_con w h) 24) := hr_384
  refine lv_aload_n hx hb dL_law_387 rfl (lv_at hl 2 rfl) ?_
  have hPc := hP.sub (ws' := W1 y ya yb eI eZ w h) [3, 4, 5] rfl
  have hKc := hK.sub (tys' := TY eI eZ) [2, 3] rfl
  refine vp_callSi (va_Run.run (va_runV (As := []) (rest := [.int (cnt (f_con w h) 24)]) ⟨hx, hb, hml, hown, hts⟩ (k1_contents l dC dI y ya yb eI eZ w h) (cwV 0 hts gL_law_X1_contents rfl rfl rfl (by decide +kernel) ⟨Nat.le_of_ble_eq_true rfl, Nat.le_of_ble_eq_true rfl⟩) ⟨bl_P, va_recv hKc hPc (ci := 1) (q0 := 0) rfl rfl, fun U hU hW => ⟨rfl, by rw [hU]; exact hPc, va_K.moved hW.alike hKc⟩⟩ rfl rfl hl.1 rfl (lv_room (Nat.le_of_ble_eq_true rfl)) dL_law_388 ⟨Nat.le_of_ble_eq_true rfl, Nat.le_of_ble_eq_true rfl⟩)) (fun r_388 hr_388 => ?_)
  obtain rfl : r_388 = (cnt (f_con w h) 24) := hr_388
  refine lv_icmp_eq (tgt := 445) hx hb dL_law_391 (by decide) (fun _ => ?_) (fun c_391 => absurd rfl c_391)
  exact nx _ _ _ _ ls hP hD hS hl
set_option maxHeartbeats 4000000 in
set_option maxRecDepth 100000 in
theorem law_case10 {p : Program} {l : Launch} {e : Env} {s : State} {m : MethodId} {below : List Frame} {meth : Method} {c : Code} {dC : Nat → ClassId} {dI : Nat → Nat → Nat} {b L : Nat} {xs : Nat → Int32} (hL : L ≤ 257) (C0 : lw_At p s m meth c b L xs) {k x xa xb y ya yb : Nat} {cI cZ eI eZ : ClassId} (hk : k + 4 ≤ L) (hK : va_K (dC, dI) vwCl (T4 cI cZ eI eZ) s) (nx : LN p l e s m below meth c dC dI b x xa xb y ya yb cI cZ eI eZ k) (w : Nat → Int32) (h : Nat → Bool) (H : Heap) (locs : List Loc) (ls : Array Slot) (hP : va_P (dC, dI) vwCl (W2 x xa xb y ya yb cI cZ eI eZ w h w h) H) (hD : va_D (LA s) (W2 x xa xb y ya yb cI cZ eI eZ w h w h)) (hS : va_S (LA s) s.heap H locs) (hl : lv_has ls 4 [(0, .ref b), (1, .ref x), (2, .ref y), (3, .int (nI k))]) : W p l e room_1 s m #[Value.ref b] below meth c H locs 6 244 (lw_Z below #[Value.ref b] s) (F0 m 396 ls []) := by
  obtain ⟨hx, hb, hr, hml, hown, hts0, hX, hbl, hlocks, hgv⟩ := C0
  have hb : c.code = cL_law := hb
  have hown : s.vm.findClass RL = some m.cls := hown
  have hts : ∀ w ∈ wsL_law, w.before #[Value.ref b] s = true := fun w h => hts0 w (wsL_law_in w h)
  have hA : ∀ q : Nat, s.heap.size ≤ q → LA s q := fun _ h => h
  have hbA : ¬ LA s b := Nat.not_le.mpr hbl
  refine lv_aload_n hx hb dL_law_396 rfl (lv_at hl 1 rfl) ?_
  have hPc := hP.sub (ws' := W0 x xa xb cI cZ w h) [0, 1, 2] rfl
  have hKc := hK.sub (tys' := TY cI cZ) [0, 1] rfl
  refine vp_callSi (va_Run.run (va_runV (As := []) (rest := []) ⟨hx, hb, hml, hown, hts⟩ (k0_duplicates l dC dI x xa xb cI cZ w h) (cwV 0 hts gL_law_X0_duplicates rfl rfl rfl (by decide +kernel) ⟨Nat.le_of_ble_eq_true rfl, Nat.le_of_ble_eq_true rfl⟩) ⟨bl_P, va_recv hKc hPc (ci := 0) (q0 := 0) rfl rfl, fun U hU hW => ⟨rfl, by rw [hU]; exact hPc, va_K.moved hW.alike hKc⟩⟩ rfl rfl hl.1 rfl (lv_room (Nat.le_of_ble_eq_true rfl)) dL_law_397 ⟨Nat.le_of_ble_eq_true rfl, Nat.le_of_ble_eq_true rfl⟩)) (fun r_397 hr_397 => ?_)
  obtain rfl : r_397 = (cnt (f_dup w h) 24) := hr_397
  refine lv_aload_n hx hb dL_law_400 rfl (lv_at hl 2 rfl) ?_
  have hPc := hP.sub (ws' := W1 y ya yb eI eZ w h) [3, 4, 5] rfl
  have hKc := hK.sub (tys' := TY eI eZ) [2, 3] rfl
  refine vp_callSi (va_Run.run (va_runV (As := []) (rest := [.int (cnt (f_dup w h) 24)]) ⟨hx, hb, hml, hown, hts⟩ (k1_duplicates l dC dI y ya yb eI eZ w h) (cwV 0 hts gL_law_X1_duplicates rfl rfl rfl (by decide +kernel) ⟨Nat.le_of_ble_eq_true rfl, Nat.le_of_ble_eq_true rfl⟩) ⟨bl_P, va_recv hKc hPc (ci := 1) (q0 := 0) rfl rfl, fun U hU hW => ⟨rfl, by rw [hU]; exact hPc, va_K.moved hW.alike hKc⟩⟩ rfl rfl hl.1 rfl (lv_room (Nat.le_of_ble_eq_true rfl)) dL_law_401 ⟨Nat.le_of_ble_eq_true rfl, Nat.le_of_ble_eq_true rfl⟩)) (fun r_401 hr_401 => ?_)
  obtain rfl : r_401 = (cnt (f_dup w h) 24) := hr_401
  refine lv_icmp_eq (tgt := 445) hx hb dL_law_404 (by decide) (fun _ => ?_) (fun c_404 => absurd rfl c_404)
  exact nx _ _ _ _ ls hP hD hS hl
set_option maxHeartbeats 4000000 in
set_option maxRecDepth 100000 in
theorem law_case11 {p : Program} {l : Launch} {e : Env} {s : State} {m : MethodId} {below : List Frame} {meth : Method} {c : Code} {dC : Nat → ClassId} {dI : Nat → Nat → Nat} {b L : Nat} {xs : Nat → Int32} (hL : L ≤ 257) (C0 : lw_At p s m meth c b L xs) {k x xa xb y ya yb : Nat} {cI cZ eI eZ : ClassId} (hk : k + 4 ≤ L) (hK : va_K (dC, dI) vwCl (T4 cI cZ eI eZ) s) (nx : LN p l e s m below meth c dC dI b x xa xb y ya yb cI cZ eI eZ k) (w : Nat → Int32) (h : Nat → Bool) (H : Heap) (locs : List Loc) (ls : Array Slot) (hP : va_P (dC, dI) vwCl (W2 x xa xb y ya yb cI cZ eI eZ w h w h) H) (hD : va_D (LA s) (W2 x xa xb y ya yb cI cZ eI eZ w h w h)) (hS : va_S (LA s) s.heap H locs) (hl : lv_has ls 4 [(0, .ref b), (1, .ref x), (2, .ref y), (3, .int (nI k))]) : W p l e room_1 s m #[Value.ref b] below meth c H locs 6 244 (lw_Z below #[Value.ref b] s) (F0 m 409 ls []) := by
  obtain ⟨hx, hb, hr, hml, hown, hts0, hX, hbl, hlocks, hgv⟩ := C0
  have hb : c.code = cL_law := hb
  have hown : s.vm.findClass RL = some m.cls := hown
  have hts : ∀ w ∈ wsL_law, w.before #[Value.ref b] s = true := fun w h => hts0 w (wsL_law_in w h)
  have hA : ∀ q : Nat, s.heap.size ≤ q → LA s q := fun _ h => h
  have hbA : ¬ LA s b := Nat.not_le.mpr hbl
  refine lv_aload_n hx hb dL_law_409 rfl (lv_at hl 1 rfl) ?_
  refine lv_aload_n hx hb dL_law_410 rfl (lv_at hl 0 rfl) ?_
  refine lv_iload_n hx hb dL_law_411 rfl (lv_at hl 3 rfl) ?_
  refine lv_iconst (v := (nI 1)) hx hb dL_law_412 (by decide +kernel) ?_
  refine my_add hx hb dL_law_413 ?_
  refine my_sld hx hb hX hbl hbA hS (show k + 1 < L by omega) (by omega) dL_law_414 ?_
  have hPc := hP.sub (ws' := W0 x xa xb cI cZ w h) [0, 1, 2] rfl
  have hKc := hK.sub (tys' := TY cI cZ) [0, 1] rfl
  refine vp_callSi (va_Run.run (va_runV (As := [.int (xs (k + 1))]) (rest := []) ⟨hx, hb, hml, hown, hts⟩ (k0_sum l dC dI x xa xb cI cZ w h (xs (k + 1))) (cwV 1 hts gL_law_X0_sum rfl rfl rfl (by decide +kernel) ⟨Nat.le_of_ble_eq_true rfl, Nat.le_of_ble_eq_true rfl⟩) ⟨bl_P, va_recv hKc hPc (ci := 0) (q0 := 0) rfl rfl, fun U hU hW => ⟨rfl, by rw [hU]; exact hPc, va_K.moved hW.alike hKc⟩⟩ rfl rfl hl.1 rfl (lv_room (Nat.le_of_ble_eq_true rfl)) dL_law_415 ⟨Nat.le_of_ble_eq_true rfl, Nat.le_of_ble_eq_true rfl⟩)) (fun r_415 hr_415 => ?_)
  obtain rfl : r_415 = (s_sum w (xs (k + 1))) := hr_415
  refine lv_aload_n hx hb dL_law_418 rfl (lv_at hl 2 rfl) ?_
  refine lv_aload_n hx hb dL_law_419 rfl (lv_at hl 0 rfl) ?_
  refine lv_iload_n hx hb dL_law_420 rfl (lv_at hl 3 rfl) ?_
  refine lv_iconst (v := (nI 1)) hx hb dL_law_421 (by decide +kernel) ?_
  refine my_add hx hb dL_law_422 ?_
  refine my_sld hx hb hX hbl hbA hS (show k + 1 < L by omega) (by omega) dL_law_423 ?_
  have hPc := hP.sub (ws' := W1 y ya yb eI eZ w h) [3, 4, 5] rfl
  have hKc := hK.sub (tys' := TY eI eZ) [2, 3] rfl
  refine vp_callSi (va_Run.run (va_runV (As := [.int (xs (k + 1))]) (rest := [.int (s_sum w (xs (k + 1)))]) ⟨hx, hb, hml, hown, hts⟩ (k1_sum l dC dI y ya yb eI eZ w h (xs (k + 1))) (cwV 1 hts gL_law_X1_sum rfl rfl rfl (by decide +kernel) ⟨Nat.le_of_ble_eq_true rfl, Nat.le_of_ble_eq_true rfl⟩) ⟨bl_P, va_recv hKc hPc (ci := 1) (q0 := 0) rfl rfl, fun U hU hW => ⟨rfl, by rw [hU]; exact hPc, va_K.moved hW.alike hKc⟩⟩ rfl rfl hl.1 rfl (lv_room (Nat.le_of_ble_eq_true rfl)) dL_law_424 ⟨Nat.le_of_ble_eq_true rfl, Nat.le_of_ble_eq_true rfl⟩)) (fun r_424 hr_424 => ?_)
  obtain rfl : r_424 = (s_sum w (xs (k + 1))) := hr_424
  refine lv_icmp_eq (tgt := 445) hx hb dL_law_427 (by decide) (fun _ => ?_) (fun c_427 => absurd rfl c_427)
  exact nx _ _ _ _ ls hP hD hS hl
set_option maxHeartbeats 4000000 in
set_option maxRecDepth 100000 in
theorem law_case12 {p : Program} {l : Launch} {e : Env} {s : State} {m : MethodId} {below : List Frame} {meth : Method} {c : Code} {dC : Nat → ClassId} {dI : Nat → Nat → Nat} {b L : Nat} {xs : Nat → Int32} (hL : L ≤ 257) (C0 : lw_At p s m meth c b L xs) {k x xa xb y ya yb : Nat} {cI cZ eI eZ : ClassId} (hk : k + 4 ≤ L) (hK : va_K (dC, dI) vwCl (T4 cI cZ eI eZ) s) (nx : LN p l e s m below meth c dC dI b x xa xb y ya yb cI cZ eI eZ k) (w : Nat → Int32) (h : Nat → Bool) (H : Heap) (locs : List Loc) (ls : Array Slot) (hP : va_P (dC, dI) vwCl (W2 x xa xb y ya yb cI cZ eI eZ w h w h) H) (hD : va_D (LA s) (W2 x xa xb y ya yb cI cZ eI eZ w h w h)) (hS : va_S (LA s) s.heap H locs) (hl : lv_has ls 4 [(0, .ref b), (1, .ref x), (2, .ref y), (3, .int (nI k))]) : W p l e room_1 s m #[Value.ref b] below meth c H locs 6 244 (lw_Z below #[Value.ref b] s) (F0 m 432 ls []) := by
  obtain ⟨hx, hb, hr, hml, hown, hts0, hX, hbl, hlocks, hgv⟩ := C0
  have hb : c.code = cL_law := hb
  have hown : s.vm.findClass RL = some m.cls := hown
  have hts : ∀ w ∈ wsL_law, w.before #[Value.ref b] s = true := fun w h => hts0 w (wsL_law_in w h)
  have hA : ∀ q : Nat, s.heap.size ≤ q → LA s q := fun _ h => h
  have hbA : ¬ LA s b := Nat.not_le.mpr hbl
  refine lv_aload_n hx hb dL_law_432 rfl (lv_at hl 1 rfl) ?_
  have hPc := hP.sub (ws' := W0 x xa xb cI cZ w h) [0, 1, 2] rfl
  have hKc := hK.sub (tys' := TY cI cZ) [0, 1] rfl
  refine vp_callSi (va_Run.run (va_runV (As := []) (rest := []) ⟨hx, hb, hml, hown, hts⟩ (k0_plain l dC dI x xa xb cI cZ w h) (cwV 0 hts gL_law_X0_plain rfl rfl rfl (by decide +kernel) ⟨Nat.le_of_ble_eq_true rfl, Nat.le_of_ble_eq_true rfl⟩) ⟨bl_P, va_recv hKc hPc (ci := 0) (q0 := 0) rfl rfl, fun U hU hW => ⟨rfl, by rw [hU]; exact hPc, va_K.moved hW.alike hKc⟩⟩ rfl rfl hl.1 rfl (lv_room (Nat.le_of_ble_eq_true rfl)) dL_law_433 ⟨Nat.le_of_ble_eq_true rfl, Nat.le_of_ble_eq_true rfl⟩)) (fun r_433 hr_433 => ?_)
  obtain rfl : r_433 = (cnt (f_pla w h) 24) := hr_433
  refine lv_aload_n hx hb dL_law_436 rfl (lv_at hl 2 rfl) ?_
  have hPc := hP.sub (ws' := W1 y ya yb eI eZ w h) [3, 4, 5] rfl
  have hKc := hK.sub (tys' := TY eI eZ) [2, 3] rfl
  refine vp_callSi (va_Run.run (va_runV (As := []) (rest := [.int (cnt (f_pla w h) 24)]) ⟨hx, hb, hml, hown, hts⟩ (k1_plain l dC dI y ya yb eI eZ w h) (cwV 0 hts gL_law_X1_plain rfl rfl rfl (by decide +kernel) ⟨Nat.le_of_ble_eq_true rfl, Nat.le_of_ble_eq_true rfl⟩) ⟨bl_P, va_recv hKc hPc (ci := 1) (q0 := 0) rfl rfl, fun U hU hW => ⟨rfl, by rw [hU]; exact hPc, va_K.moved hW.alike hKc⟩⟩ rfl rfl hl.1 rfl (lv_room (Nat.le_of_ble_eq_true rfl)) dL_law_437 ⟨Nat.le_of_ble_eq_true rfl, Nat.le_of_ble_eq_true rfl⟩)) (fun r_437 hr_437 => ?_)
  obtain rfl : r_437 = (cnt (f_pla w h) 24) := hr_437
  refine lv_icmp_eq (tgt := 445) hx hb dL_law_440 (by decide) (fun _ => ?_) (fun c_440 => absurd rfl c_440)
  exact nx _ _ _ _ ls hP hD hS hl
end
section
set_option maxHeartbeats 4000000 in
set_option maxRecDepth 100000 in
/-- the law's loop: at its head both objects hold one w and one h -/
theorem law_loop {p : Program} {l : Launch} {e : Env} {s : State} {m : MethodId} {below : List Frame} {meth : Method} {c : Code} {dC : Nat → ClassId} {dI : Nat → Nat → Nat} {b L : Nat} {xs : Nat → Int32} (hL : L ≤ 257) (C0 : lw_At p s m meth c b L xs) {x xa xb y ya yb : Nat} {cI cZ eI eZ : ClassId} (hK : va_K (dC, dI) vwCl (T4 cI cZ eI eZ) s) : ∀ (n k : Nat), k ≤ L + 1 → L + 2 ≤ k + n → ∀ (w : Nat → Int32) (h : Nat → Bool) (H : Heap) (locs : List Loc) (ls : Array Slot), va_P (dC, dI) vwCl (W2 x xa xb y ya yb cI cZ eI eZ w h w h) H → va_D (LA s) (W2 x xa xb y ya yb cI cZ eI eZ w h w h) → va_S (LA s) s.heap H locs → lv_has ls 4 [(0, .ref b), (1, .ref x), (2, .ref y), (3, .int (nI k))] → W p l e room_1 s m #[Value.ref b] below meth c H locs 6 244 (lw_Z below #[Value.ref b] s) (F0 m 28 ls []) := by
  obtain ⟨hx, hb, hr, hml, hown, hts0, hX, hbl, hlocks, hgv⟩ := id C0
  have hb : c.code = cL_law := hb
  have hbA : ¬ LA s b := Nat.not_le.mpr hbl
  intro n
  induction n with
  | zero =>
    intro k h1 h2
    exact absurd h2 (by omega)
  | succ n ih =>
    intro k hk1 hk2 w h H locs ls hP hD hS hl
    refine lv_iload_n hx hb dL_law_28 rfl (lv_at hl 3 rfl) ?_
    refine lv_aload_n hx hb dL_law_29 rfl (lv_at hl 0 rfl) ?_
    refine my_slen hx hb hX hbl hbA hS dL_law_30 ?_
    refine lv_iconst (v := nI 4) hx hb dL_law_31 (by decide +kernel) ?_
    refine lv_isub hx hb dL_law_32 ?_
    refine lv_icmp_gt (tgt := 451) hx hb dL_law_33 (by decide) (fun c_33 => ?_) (fun c_33 => ?_)
    · refine lv_iconst (v := 1) hx hb dL_law_451 (by decide) ?_
      refine va_forget (fun q hq => hS.2.2 q hq) ?_
      exact lw_ret hx hb hr hlocks dL_law_452
    · have hk4 : k + 4 ≤ L := by
        rw [Int32.lt_iff_toInt_lt, pk_sub_toInt (by omega) (by omega), nI_toInt (by omega)] at c_33
        omega
      refine lv_aload_n hx hb dL_law_36 rfl (lv_at hl 0 rfl) ?_
      refine lv_iload_n hx hb dL_law_37 rfl (lv_at hl 3 rfl) ?_
      refine my_sld hx hb hX hbl hbA hS (show k < L by omega) (by omega) dL_law_38 ?_
      refine lv_bipush (v := nI 15) hx hb dL_law_39 (by decide +kernel) ?_
      refine lv_iand hx hb dL_law_41 ?_
      obtain ⟨j, hj, ej⟩ := pk_andE (xs k) (m := nI 15) 4 (by decide +kernel)
      refine W.eq (g2 := F0 m 42 ls [.int (nI j)]) (by rw [ej]) ?_
      have nx : LN p l e s m below meth c dC dI b x xa xb y ya yb cI cZ eI eZ k := by
        intro w h H locs ls hP hD hS hl
        refine lv_iinc (v := nI (k + 4)) (lv' := [(3, .int (nI (k + 4))), (0, .ref b), (1, .ref x), (2, .ref y)]) hx hb dL_law_445 hl (k := 3) rfl (nI_add k 4) (by decide) rfl (fun ls hl => ?_)
        refine lv_goto (tgt := 28) hx hb dL_law_448 (by decide) ?_
        exact ih (k + 4) (by omega) (by omega) w h H locs ls hP hD hS (lv_sub hl [1, 2, 3, 0] rfl)
      have hj : j < 16 := hj
      rcases (show j = 0 ∨ j = 1 ∨ j = 2 ∨ j = 3 ∨ j = 4 ∨ j = 5 ∨ j = 6 ∨ j = 7 ∨ j = 8 ∨ j = 9 ∨ j = 10 ∨ j = 11 ∨ j = 12 ∨ 13 ≤ j by omega) with rfl | rfl | rfl | rfl | rfl | rfl | rfl | rfl | rfl | rfl | rfl | rfl | rfl | hj13
      · refine lv_tableIn (tgt := 108) (off := 66) hx hb dL_law_42 (by decide +kernel) (by decide +kernel) (by decide +kernel) (by decide) ?_
        exact law_case0 hL C0 hk4 hK nx w h H locs ls hP hD hS hl
      · refine lv_tableIn (tgt := 151) (off := 109) hx hb dL_law_42 (by decide +kernel) (by decide +kernel) (by decide +kernel) (by decide) ?_
        exact law_case1 hL C0 hk4 hK nx w h H locs ls hP hD hS hl
      · refine lv_tableIn (tgt := 184) (off := 142) hx hb dL_law_42 (by decide +kernel) (by decide +kernel) (by decide +kernel) (by decide) ?_
        exact law_case2 hL C0 hk4 hK nx w h H locs ls hP hD hS hl
      · refine lv_tableIn (tgt := 217) (off := 175) hx hb dL_law_42 (by decide +kernel) (by decide +kernel) (by decide +kernel) (by decide) ?_
        exact law_case3 hL C0 hk4 hK nx w h H locs ls hP hD hS hl
      · refine lv_tableIn (tgt := 250) (off := 208) hx hb dL_law_42 (by decide +kernel) (by decide +kernel) (by decide +kernel) (by decide) ?_
        exact law_case4 hL C0 hk4 hK nx w h H locs ls hP hD hS hl
      · refine lv_tableIn (tgt := 273) (off := 231) hx hb dL_law_42 (by decide +kernel) (by decide +kernel) (by decide +kernel) (by decide) ?_
        exact law_case5 hL C0 hk4 hK nx w h H locs ls hP hD hS hl
      · refine lv_tableIn (tgt := 294) (off := 252) hx hb dL_law_42 (by decide +kernel) (by decide +kernel) (by decide +kernel) (by decide) ?_
        exact law_case6 hL C0 hk4 hK nx w h H locs ls hP hD hS hl
      · refine lv_tableIn (tgt := 327) (off := 285) hx hb dL_law_42 (by decide +kernel) (by decide +kernel) (by decide +kernel) (by decide) ?_
        exact law_case7 hL C0 hk4 hK nx w h H locs ls hP hD hS hl
      · refine lv_tableIn (tgt := 350) (off := 308) hx hb dL_law_42 (by decide +kernel) (by decide +kernel) (by decide +kernel) (by decide) ?_
        exact law_case8 hL C0 hk4 hK nx w h H locs ls hP hD hS hl
      · refine lv_tableIn (tgt := 383) (off := 341) hx hb dL_law_42 (by decide +kernel) (by decide +kernel) (by decide +kernel) (by decide) ?_
        exact law_case9 hL C0 hk4 hK nx w h H locs ls hP hD hS hl
      · refine lv_tableIn (tgt := 396) (off := 354) hx hb dL_law_42 (by decide +kernel) (by decide +kernel) (by decide +kernel) (by decide) ?_
        exact law_case10 hL C0 hk4 hK nx w h H locs ls hP hD hS hl
      · refine lv_tableIn (tgt := 409) (off := 367) hx hb dL_law_42 (by decide +kernel) (by decide +kernel) (by decide +kernel) (by decide) ?_
        exact law_case11 hL C0 hk4 hK nx w h H locs ls hP hD hS hl
      · refine lv_tableIn (tgt := 432) (off := 390) hx hb dL_law_42 (by decide +kernel) (by decide +kernel) (by decide +kernel) (by decide) ?_
        exact law_case12 hL C0 hk4 hK nx w h H locs ls hP hD hS hl
      · refine lv_tableOut (tgt := 445) hx hb dL_law_42 (Or.inr (by rw [nI_toInt (by omega)]; omega)) (by decide) ?_
        exact nx w h H locs ls hP hD hS hl
set_option maxHeartbeats 4000000 in
set_option maxRecDepth 100000 in
theorem whole_start {p : Program} {e : Env} {s : State} {m : MethodId} {below : List Frame} {meth : Method} {c : Code} (l : Launch) (hflags : l.flags = flags0) {b L : Nat} {xs : Nat → Int32} (hL : L ≤ 257) (C0 : lw_At p s m meth c b L xs) : W p l e room_1 s m #[Value.ref b] below meth c s.heap [] 0 0 (lw_Z below #[Value.ref b] s) (entryFrame m ([Value.ref b] : List Value).toArray 4) := by
  obtain ⟨hx, hb, hr, hml, hown, hts0, hX, hbl, hlocks, hgv⟩ := id C0
  have hb : c.code = cL_law := hb
  have hown : s.vm.findClass RL = some m.cls := hown
  have hts : ∀ w ∈ wsL_law, w.before #[Value.ref b] s = true := fun w h => hts0 w (wsL_law_in w h)
  have hA : ∀ q : Nat, s.heap.size ≤ q → LA s q := fun _ h => h
  have hbA : ¬ LA s b := Nat.not_le.mpr hbl
  obtain ⟨c0, iS0, hKn0⟩ := u_known (C := RX0) (T := TX0) (N := 2) (n := 2) hts inlX0 (hts (.instantiable RX0 2) (by decide +kernel))
  obtain ⟨c1, iS1, hKn1⟩ := u_known (C := RX1) (T := TX1) (N := 2) (n := 2) hts inlX1 (hts (.instantiable RX1 2) (by decide +kernel))
  obtain ⟨dC, dI, hKc⟩ : ∃ (dC : Nat → ClassId) (dI : Nat → Nat → Nat), ∀ (k : Nat) (q : vw_C), vwCl[k]? = some q → u_Kn s q.1 q.2.1 q.2.2 (dC k) (dI k) := by
    refine ⟨fun k => if k = 0 then c0 else c1, fun k => if k = 0 then iS0 else iS1, ?_⟩
    intro k q hq
    match k, hq with
    | 0, hq => cases hq; exact hKn0
    | 1, hq => cases hq; exact hKn1
    | k + 2, hq => simp [vwCl] at hq
  have hS : va_S (LA s) s.heap s.heap [] := va_S.rf
  have hK : va_K (dC, dI) vwCl [] s := ⟨hKc, fun k q h => by simp at h⟩
  have hP : va_P (dC, dI) vwCl [] s.heap := fun k q h => by simp at h
  have hD : va_D (LA s) [] := ⟨fun i j p q h => by simp at h, fun k q h => by simp at h⟩
  have hl := lv_entry ([.ref b]) (n := 4) (Nat.le_of_ble_eq_true rfl)
  rw [lg_entry_eq]
  generalize (lg_sl ([.ref b]) ++ List.replicate (4 - (lg_sl ([.ref b])).length) Slot.unset).toArray = ls at hl ⊢
  have hl : lv_has ls 4 [(0, .ref b)] := hl
  refine va_new (ci := 0) (fs := [.null, .null]) (C := RX0) (T := TX0) (N := 2) hx hb hts inlX0 tyX0 tyX0_ok hown (hts (.classLink RL 7 RX0) (by decide +kernel)) (hts (.instantiable RX0 2) (by decide +kernel)) (hts (.initialized RX0) (by decide +kernel)) hK hP hD hS hA rfl (fun j hj => by rcases (show j = 0 ∨ j = 1 by omega) with rfl | rfl <;> rfl) (Nat.le_of_ble_eq_true rfl) (Nat.le_of_ble_eq_true rfl) dL_law_0 (fun x H hP hD hS => ?_)
  have hP : va_P (dC, dI) vwCl ([(x, .inr (0, [.null, .null]))]) H := hP
  have hD : va_D (LA s) ([(x, .inr (0, [.null, .null]))]) := hD
  refine W.widen (k := 1) (n := 2) (Nat.le_of_ble_eq_true rfl) (Nat.le_of_ble_eq_true rfl) ?_
  refine lv_dup hx hb dL_law_3 rfl ?_
  refine lv_aload_n hx hb dL_law_4 rfl (lv_at hl 0 rfl) ?_
  refine lv_iconst (v := nI 0) hx hb dL_law_5 (by decide +kernel) ?_
  refine vp_callSi (va_Run.run (va_runS (As := [.ref b, .int (nI 0)]) (rest := [.ref x, .ref x]) ⟨hx, hb, hml, hown, hts⟩ (kL_cell l b L xs (by omega)) (va_cwS 2 hts gL_law_L_cell rfl rfl rfl (by decide +kernel) ⟨Nat.le_of_ble_eq_true rfl, Nat.le_of_ble_eq_true rfl⟩) ⟨bl_X, fun U hU hW => ⟨rfl, by show va_X b L xs U U.heap; rw [hU]; exact va_X.moved hW.alike (hX.kept (hS.2.1 b hbl hbA))⟩⟩ rfl rfl hl.1 rfl (lv_room (Nat.le_of_ble_eq_true rfl)) dL_law_6 ⟨Nat.le_of_ble_eq_true rfl, Nat.le_of_ble_eq_true rfl⟩)) (fun r_0 _ => ?_)
  have hPc := hP.sub (ws' := [(x, .inr (0, [.null, .null]))]) [0] rfl
  have hDc := hD.sub (ws' := [(x, .inr (0, [.null, .null]))]) [0] (by decide) rfl
  have hKe := hK.sub (tys' := []) [] rfl
  have hFc := va_free (wc := [(x, .inr (0, [.null, .null]))]) hD hS hA [0] rfl
  refine va_callv (va_runI (As := [.int r_0]) (rest := [.ref x]) ⟨hx, hb, hml, hown, hts⟩ (k0_init l dC dI x H.size r_0) (cwI 1 hts gL_law_X0_init rfl rfl rfl (hts (.initialized RX0) (by decide +kernel)) (hts (.methodLink RL 15 yX0_init) (by decide +kernel)) (hts (.instanceMethod yX0_init) (by decide +kernel)) rfl (by decide +kernel) ⟨Nat.le_of_ble_eq_true rfl, Nat.le_of_ble_eq_true rfl⟩) ⟨bl_Q, fun U hU hW => ⟨rfl, by rw [hU], by rw [hU]; exact hPc, va_K.moved hW.alike hKe, hDc.weaken (fun _ _ _ _ => trivial)⟩⟩ rfl rfl hl.1 rfl (lv_room (Nat.le_of_ble_eq_true rfl)) dL_law_9 ⟨Nat.le_of_ble_eq_true rfl, Nat.le_of_ble_eq_true rfl⟩) hS (fun q _ h => hFc q h) hFc (fun u t H1 locs ht hvm hw hB hz1 hk1 hS => ?_)
  obtain ⟨xa, xb, cI, cZ, hP1, hK1, hD1⟩ := hB
  rw [ht] at hP1
  have hK1 := va_K.moved hvm.symm hK1
  obtain ⟨hP, hD⟩ := va_join (wr := []) (w1 := W0 x xa xb cI cZ (fun _ => 0) (fun _ => true)) hP hD [0] [] rfl rfl (by decide) (by decide) hk1 hFc hP1 hD1
  have hK := (hK.sub (tys' := []) [] rfl).app hK1
  generalize H1 = H at hP hS ⊢
  refine W.widen (k := 3) (n := 122) (Nat.le_of_ble_eq_true rfl) (Nat.le_of_ble_eq_true rfl) ?_
  have hP : va_P (dC, dI) vwCl (W0 x xa xb cI cZ (fun _ => 0) (fun _ => true)) H := hP
  have hD : va_D (LA s) (W0 x xa xb cI cZ (fun _ => 0) (fun _ => true)) := hD
  have hK : va_K (dC, dI) vwCl (TY cI cZ) s := hK
  refine lv_astore_n (lv' := [(1, .ref x), (0, .ref b)]) hx hb dL_law_12 rfl hl (by decide) rfl (fun ls hl => ?_)
  refine va_new (ci := 1) (fs := [.null, .null]) (C := RX1) (T := TX1) (N := 2) hx hb hts inlX1 tyX1 tyX1_ok hown (hts (.classLink RL 18 RX1) (by decide +kernel)) (hts (.instantiable RX1 2) (by decide +kernel)) (hts (.initialized RX1) (by decide +kernel)) hK hP hD hS hA rfl (fun j hj => by rcases (show j = 0 ∨ j = 1 by omega) with rfl | rfl <;> rfl) (Nat.le_of_ble_eq_true rfl) (Nat.le_of_ble_eq_true rfl) dL_law_13 (fun y H hP hD hS => ?_)
  have hP : va_P (dC, dI) vwCl (W0 x xa xb cI cZ (fun _ => 0) (fun _ => true) ++ [(y, .inr (1, [.null, .null]))]) H := hP
  have hD : va_D (LA s) (W0 x xa xb cI cZ (fun _ => 0) (fun _ => true) ++ [(y, .inr (1, [.null, .null]))]) := hD
  refine W.widen (k := 4) (n := 124) (Nat.le_of_ble_eq_true rfl) (Nat.le_of_ble_eq_true rfl) ?_
  refine lv_dup hx hb dL_law_16 rfl ?_
  refine lv_aload_n hx hb dL_law_17 rfl (lv_at hl 1 rfl) ?_
  refine lv_iconst (v := nI 0) hx hb dL_law_18 (by decide +kernel) ?_
  refine vp_callSi (va_Run.run (va_runS (As := [.ref b, .int (nI 0)]) (rest := [.ref y, .ref y]) ⟨hx, hb, hml, hown, hts⟩ (kL_cell l b L xs (by omega)) (va_cwS 2 hts gL_law_L_cell rfl rfl rfl (by decide +kernel) ⟨Nat.le_of_ble_eq_true rfl, Nat.le_of_ble_eq_true rfl⟩) ⟨bl_X, fun U hU hW => ⟨rfl, by show va_X b L xs U U.heap; rw [hU]; exact va_X.moved hW.alike (hX.kept (hS.2.1 b hbl hbA))⟩⟩ rfl rfl hl.1 rfl (lv_room (Nat.le_of_ble_eq_true rfl)) dL_law_19 ⟨Nat.le_of_ble_eq_true rfl, Nat.le_of_ble_eq_true rfl⟩)) (fun r_13 _ => ?_)
  have hPc := hP.sub (ws' := [(y, .inr (1, [.null, .null]))]) [3] rfl
  have hDc := hD.sub (ws' := [(y, .inr (1, [.null, .null]))]) [3] (by decide) rfl
  have hKe := hK.sub (tys' := []) [] rfl
  have hFc := va_free (wc := [(y, .inr (1, [.null, .null]))]) hD hS hA [3] rfl
  refine va_callv (va_runI (As := [.int r_13]) (rest := [.ref y]) ⟨hx, hb, hml, hown, hts⟩ (k1_init l dC dI y H.size r_13) (cwI 1 hts gL_law_X1_init rfl rfl rfl (hts (.initialized RX1) (by decide +kernel)) (hts (.methodLink RL 20 yX1_init) (by decide +kernel)) (hts (.instanceMethod yX1_init) (by decide +kernel)) rfl (by decide +kernel) ⟨Nat.le_of_ble_eq_true rfl, Nat.le_of_ble_eq_true rfl⟩) ⟨bl_Q, fun U hU hW => ⟨rfl, by rw [hU], by rw [hU]; exact hPc, va_K.moved hW.alike hKe, hDc.weaken (fun _ _ _ _ => trivial)⟩⟩ rfl rfl hl.1 rfl (lv_room (Nat.le_of_ble_eq_true rfl)) dL_law_22 ⟨Nat.le_of_ble_eq_true rfl, Nat.le_of_ble_eq_true rfl⟩) hS (fun q _ h => hFc q h) hFc (fun u t H1 locs ht hvm hw hB hz1 hk1 hS => ?_)
  obtain ⟨ya, yb, eI, eZ, hP1, hK1, hD1⟩ := hB
  rw [ht] at hP1
  have hK1 := va_K.moved hvm.symm hK1
  obtain ⟨hP, hD⟩ := va_join (wr := W0 x xa xb cI cZ (fun _ => 0) (fun _ => true)) (w1 := W1 y ya yb eI eZ (fun _ => 0) (fun _ => true)) hP hD [3] [0, 1, 2] rfl rfl (by decide) (by decide) hk1 hFc hP1 hD1
  have hK := (hK.sub (tys' := TY cI cZ) [0, 1] rfl).app hK1
  generalize H1 = H at hP hS ⊢
  refine W.widen (k := 6) (n := 244) (Nat.le_of_ble_eq_true rfl) (Nat.le_of_ble_eq_true rfl) ?_
  have hP : va_P (dC, dI) vwCl (W2 x xa xb y ya yb cI cZ eI eZ (fun _ => 0) (fun _ => true) (fun _ => 0) (fun _ => true)) H := hP
  have hD : va_D (LA s) (W2 x xa xb y ya yb cI cZ eI eZ (fun _ => 0) (fun _ => true) (fun _ => 0) (fun _ => true)) := hD
  have hK : va_K (dC, dI) vwCl (T4 cI cZ eI eZ) s := hK
  refine lv_astore_n (lv' := [(2, .ref y), (1, .ref x), (0, .ref b)]) hx hb dL_law_25 rfl hl (by decide) rfl (fun ls hl => ?_)
  refine lv_iconst (v := nI 1) hx hb dL_law_26 (by decide +kernel) ?_
  refine lv_istore_n (lv' := [(3, .int (nI 1)), (2, .ref y), (1, .ref x), (0, .ref b)]) hx hb dL_law_27 rfl hl (by decide) rfl (fun ls hl => ?_)
  exact law_loop hL C0 hK (L + 1) 1 (by omega) (by omega) _ _ _ _ ls hP hD hS (lv_sub hl [3, 2, 1, 0] rfl)
end
section
set_option maxHeartbeats 4000000 in
theorem lw_walk (l : Launch) (hflags : l.flags = flags0) (b : Addr) (xs : List Int32) : MetFree l x (headSpec (Jvm.Cond.code x code maxLocals ret :: tables_1) room_1) (lw_P b xs) (fun _ _ _ _ _ => True) lw_Q := by
  refine MetFree.of_bodyS (code := code) (maxLocals := maxLocals) (ret := ret) (by decide) ?_ ?_
  · intro args s m h hn
    obtain ⟨meth, c, h1, h2, h3, h4, h5, h6, -, -⟩ := Cond.code_spec hn (atoms_spec (ws := Jvm.Cond.code x code maxLocals ret :: tables_1) h _ List.mem_cons_self)
    exact ⟨meth, c, h1, h2, h3, h4, h5, h6⟩
  · intro p e s m args below meth c s₁ B hml0 hP _
    obtain ⟨rfl, hx, hbd, hgv⟩ := hP
    obtain ⟨scr, harrAt, hlist, hof, hsmall⟩ := hx
    obtain ⟨hcb, hkn, -, -⟩ := State.arrayAt?_spec harrAt
    have hown : s.vm.findClass R_law = some m.cls := findClass_of_methodNamed B.named
    have hts0 : ∀ c ∈ (Jvm.Cond.code x code maxLocals ret :: tables_1), c.before #[Value.ref b] s = true := atoms_spec (ws := Jvm.Cond.code x code maxLocals ret :: tables_1) B.pre
    have hts : ∀ w ∈ lw_tbl, w.before #[Value.ref b] s = true := k2_hts_sels lw_privs (fun w hw => hts0 w (List.mem_cons_of_mem _ hw)) lw_privs_ok
    have hml : c.maxLocals = 4 := B.maxLocals_eq (hts0 _ List.mem_cons_self)
    have X₀ : Stand p l e room_1 s m #[Value.ref b] below meth c s₁ [] 0 0 := Stand.of_body B
    have hh0 : s₁.heap = s.heap := by rw [B.state]; rfl
    have hsz : scr.slots.size = xs.length := by rw [← Array.length_toList, hlist, List.length_map]
    have hval : ∀ j : Nat, j < xs.length → scr.slots[j]? = some (.int (xs.getD j 0)) := fun j hj => by
      rw [← Array.getElem?_toList, hlist]
      simp [hj]
    have hbl : b < s.heap.size := (Array.getElem?_eq_some_iff.mp hcb).1
    have hX : va_X b xs.length (fun j => xs.getD j 0) s s.heap := ⟨scr, hcb, hof, hkn, hsz, hval⟩
    have K : W p l e room_1 s m #[Value.ref b] below meth c s₁.heap [] 0 0 (lw_Z below #[Value.ref b] s) (entryFrame m ([Value.ref b] : List Value).toArray 4) := by
      rw [hh0]
      exact whole_start l hflags hbd ⟨B.exec, B.bytes, B.returns, hml, hown, hts, hX, hbl, B.notSynchronized, hgv⟩
    obtain ⟨t, a1, o, b1, b2, b3⟩ := K s₁ rfl X₀
    exact ⟨t, o, a1, b1, b2, b3⟩
theorem lw_pre_spec {args : Array Value} {s : State} (h : (Jvm.Cond.and given_1 narrow_1).before args s = true) (hr : rest_1_c.before args s = true) : ∃ (b : Addr) (xs : List Int32), lw_P b xs args s := by
  have hs := flat_of_before _ h
  have hq := flat_of_before _ hr
  have hc : (Cond.count 1).before args s = true := hs _ (by decide +kernel)
  have harr : (Cond.arrayOf (.arg 0) .int).before args s = true := hs _ (by decide +kernel)
  have hle : (Cond.le (.length (.arg 0)) (.int 257)).before args s = true := hs _ (by decide +kernel)
  have hlen : (Cond.isInt (.length (.arg 0))).before args s = true := hq _ (by decide +kernel)
  have hall : (Cond.all (.arg 0) (.isInt (.elem (.arg 0) (.index 0)))).before args s = true := hq _ (by decide +kernel)
  obtain ⟨b, xs, hb, hx⟩ := State.ints_of_pre rfl harr hlen hall
  have hsm : xs.length < 2 ^ 31 := hx.choose_spec.2.2.2
  have hev : (Term.length (.arg 0)).eval args s none [] s = some (.int xs.length.toInt32) := hx.length_eval hb
  have hv := Cond.le_ints hev (show (Term.int 257).eval args s none [] s = some (.int 257) from rfl)
  have hd : xs.length.toInt32 ≤ 257 := by
    simpa [Cond.before, Cond.holds, hv] using hle
  have hN : xs.length ≤ 257 := (Int32.ofNat_le_ofNat hsm (by decide)).mp (show Int32.ofNat xs.length ≤ Int32.ofNat 257 from hd)
  exact ⟨b, xs, Cond.one_arg hc (show args[0]? = some (.ref b) from hb), hx, hN, h⟩
theorem lw_comes (l : Launch) (hflags : l.flags = flags0) : Comes l x (Jvm.Cond.code x code maxLocals ret :: tables_1) room_1 (fun tb e args s => Calls_1 tb e args s ∧ rest_1 tb e args s ∧ Pre_1 tb e args s)
    (fun _ _ args s o t => lw_Q args s o t) := by
  intro p e ha hc hk s m args below hf hfit hheap happ hpre
  obtain ⟨b, xs, hP⟩ := lw_pre_spec hpre.2.2 hpre.2.1
  obtain ⟨k, o, h1, h2, h3, hQ⟩ := lw_walk l hflags b xs p e ha hc hk s m args below hf ((Spec.applies_iff_loose hf).mp happ).1 hP trivial
  exact ⟨k, o, h1, h2, h3, hQ⟩
theorem lw_frame {s t : State} {o : Outcome} {args : Array Value} (h : Framed s o t [] 6 244) :
    Framed s o t (fieldLocs frame_1_writes args s ++ arrayLocs frame_1_arrays args s ++ staticLocs frame_1_statics s) 6 244 := h
theorem lw_limb (L : Cond) (hL : ∀ (args : Array Value) (s t : State), L.after args s (.returned (some (.int 1))) t = true) :
    ArmFor flags0 classFile x code maxLocals ret World_1 tables_1 room_1 Calls_1 rest_1 Pre_1
      (fun tb e a s o t => postC L tb e a s o t ∧ Framed s o t (fieldLocs frame_1_writes a s ++ arrayLocs frame_1_arrays a s ++ staticLocs frame_1_statics s) 6 244) := by
  intro l hflags _ _ p e ha hc hk s m args below hf hfit hheap happ hpre
  obtain ⟨k, o, h1, h2, h3, rfl, hF⟩ := lw_comes l hflags p e ha hc hk s m args below hf hfit hheap happ hpre
  exact ⟨k, _, h1, h2, h3, hL args s _, lw_frame hF⟩
theorem i_vc : Claimed_1_1 ∧ Claimed_1_2 := ⟨lw_limb limb_1_1 (fun args s t => by simp [limb_1_1, Cond.after, Cond.holds, Cond.value]), lw_limb limb_1_2 (fun args s t => Cond.after_iff.mpr (by
  first | (rw [show limb_1_2 = Cond.eq .result (.int 1) from rfl, Cond.eq_ints (x := 1) (y := 1) rfl rfl]; simp; done) | (simp [limb_1_2, Cond.value, Term.eval]; done)))⟩
end
