/-! ===== BEGIN words of one list among another's, by their places ===== -/
theorem goodIn_r {big : List Cond} (ws : List Cond) (ps : List Nat) (hp : ws = ps.filterMap (fun i => big[i]?)) (h : ws.all goodWord = true) : GoodIn big ws := by
  intro w hw
  have h1 := List.all_eq_true.mp h w hw
  rw [hp] at hw
  obtain ⟨i, -, hi⟩ := List.mem_filterMap.mp hw
  have hm : w ∈ big := by first | exact List.mem_of_getElem? hi | exact List.getElem?_mem hi
  exact ⟨hm, good_of_word h1⟩
theorem goodIn_app {big a b : List Cond} (ha : GoodIn big a) (hb : GoodIn big b) : GoodIn big (a ++ b) := fun w h => (List.mem_append.mp h).elim (ha w) (hb w)
theorem goodIn_ca {big a b : List Cond} {c : Cond} (ha : GoodIn big (c :: a)) (hb : GoodIn big b) : GoodIn big (c :: (a ++ b)) := fun w h => (List.mem_cons.mp h).elim (fun e => ha w (List.mem_cons.mpr (Or.inl e))) (fun h => (List.mem_append.mp h).elim (fun h => ha w (List.mem_cons.mpr (Or.inr h))) (hb w))
theorem goodIn_sub {big ws : List Cond} (hm : ∀ w ∈ ws, w ∈ big) (h : ws.all goodWord = true) : GoodIn big ws := fun w hw => ⟨hm w hw, good_of_word (List.all_eq_true.mp h w hw)⟩
/-! ===== END ===== -/

/-! ===== BEGIN printed: names, fields, word lists, decode rows ===== -/
def RX0 : String := "CodePages$Order"
def TX0 : u_T := fun k => match k with
  | 0 => ("CodePages$Order", "alphabet", "Z", true)
  | 1 => ("CodePages$Order", "ranks", "[I", true)
  | 2 => ("CodePages$Order", "inside", "[Z", true)
  | _ => ("CodePages$Order", "nextRank", "I", false)
def tyX0 : Nat → FieldType := fun k => match k with
  | 0 => .boolean
  | 1 => .array .int
  | 2 => .array .boolean
  | _ => .int
abbrev wsX00 : List Cond := u_ws RX0 TX0 4
theorem nmX0 : ∀ a, a < 4 → ∀ b, b < 4 → a ≠ b → (TX0 a).2.1 ≠ (TX0 b).2.1 := by decide +kernel
theorem tyX0_ok : ∀ k, k < 4 → parseFieldDescriptor (TX0 k).2.2.1 = some (tyX0 k) := by decide +kernel
abbrev cX0_init : ByteArray := prog_2_method_1_code
def yX0_init : MethodName := ⟨RX0, "<init>", "(Z)V"⟩
abbrev cX0_rankBy : ByteArray := prog_2_method_2_code
def yX0_rankBy : MethodName := ⟨RX0, "rankBy", "([I)V"⟩
abbrev cX0_sortKey : ByteArray := prog_2_method_3_code
def yX0_sortKey : MethodName := ⟨RX0, "sortKey", "([II)I"⟩
abbrev cX0_addEqual : ByteArray := prog_2_method_4_code
def yX0_addEqual : MethodName := ⟨RX0, "addEqual", "(II)Z"⟩
abbrev cX0_addRange : ByteArray := prog_2_method_5_code
def yX0_addRange : MethodName := ⟨RX0, "addRange", "(II)Z"⟩
abbrev cX0_rankThoseOutside : ByteArray := prog_2_method_6_code
def yX0_rankThoseOutside : MethodName := ⟨RX0, "rankThoseOutside", "()V"⟩
abbrev cX0_lastCode : ByteArray := prog_2_method_7_code
def yX0_lastCode : MethodName := ⟨RX0, "lastCode", "()I"⟩
def RX1 : String := "CodePages$Page"
def TX1 : u_T := fun k => match k with
  | 0 => ("CodePages$Page", "meanings", "[I", true)
  | _ => ("CodePages$Page", "substitute", "I", false)
def tyX1 : Nat → FieldType := fun k => match k with
  | 0 => .array .int
  | _ => .int
abbrev wsX10 : List Cond := u_ws RX1 TX1 2
theorem nmX1 : ∀ a, a < 2 → ∀ b, b < 2 → a ≠ b → (TX1 a).2.1 ≠ (TX1 b).2.1 := by decide +kernel
theorem tyX1_ok : ∀ k, k < 2 → parseFieldDescriptor (TX1 k).2.2.1 = some (tyX1 k) := by decide +kernel
abbrev cX1_init : ByteArray := prog_3_method_1_code
def yX1_init : MethodName := ⟨RX1, "<init>", "(I)V"⟩
abbrev cX1_firstMeaning : ByteArray := prog_3_method_2_code
def yX1_firstMeaning : MethodName := ⟨RX1, "firstMeaning", "(II)I"⟩
abbrev cX1_codeThatMeans : ByteArray := prog_3_method_3_code
def yX1_codeThatMeans : MethodName := ⟨RX1, "codeThatMeans", "(I)I"⟩
def RX2 : String := "CodePages$Text"
def TX2 : u_T := fun k => match k with
  | 0 => ("CodePages$Text", "codes", "[I", true)
  | _ => ("CodePages$Text", "size", "I", false)
def tyX2 : Nat → FieldType := fun k => match k with
  | 0 => .array .int
  | _ => .int
abbrev wsX20 : List Cond := u_ws RX2 TX2 2
theorem nmX2 : ∀ a, a < 2 → ∀ b, b < 2 → a ≠ b → (TX2 a).2.1 ≠ (TX2 b).2.1 := by decide +kernel
theorem tyX2_ok : ∀ k, k < 2 → parseFieldDescriptor (TX2 k).2.2.1 = some (tyX2 k) := by decide +kernel
abbrev cX2_init : ByteArray := prog_4_method_1_code
def yX2_init : MethodName := ⟨RX2, "<init>", "()V"⟩
abbrev cX2_codeOrBlank : ByteArray := prog_4_method_2_code
def yX2_codeOrBlank : MethodName := ⟨RX2, "codeOrBlank", "(I)I"⟩
def RX3 : String := "CodePages"
def TX3 : u_T := fun k => match k with
  | 0 => ("CodePages", "pages", "[LCodePages$Page;", true)
  | 1 => ("CodePages", "orders", "[LCodePages$Order;", true)
  | 2 => ("CodePages", "texts", "[LCodePages$Text;", true)
  | 3 => ("CodePages", "listed", "[I", true)
  | 4 => ("CodePages", "pageCount", "I", false)
  | 5 => ("CodePages", "orderCount", "I", false)
  | 6 => ("CodePages", "textCount", "I", false)
  | _ => ("CodePages", "listedCount", "I", false)
def tyX3 : Nat → FieldType := fun k => match k with
  | 0 => .array (.object "CodePages$Page")
  | 1 => .array (.object "CodePages$Order")
  | 2 => .array (.object "CodePages$Text")
  | 3 => .array .int
  | 4 => .int
  | 5 => .int
  | 6 => .int
  | _ => .int
abbrev wsX30 : List Cond := u_ws RX3 TX3 8
theorem nmX3 : ∀ a, a < 8 → ∀ b, b < 8 → a ≠ b → (TX3 a).2.1 ≠ (TX3 b).2.1 := by decide +kernel
theorem tyX3_ok : ∀ k, k < 8 → parseFieldDescriptor (TX3 k).2.2.1 = some (tyX3 k) := by decide +kernel
abbrev cX3_init : ByteArray := prog_1_method_1_code
def yX3_init : MethodName := ⟨RX3, "<init>", "()V"⟩
abbrev cX3_page : ByteArray := prog_1_method_2_code
def yX3_page : MethodName := ⟨RX3, "page", "(I)I"⟩
abbrev cX3_set : ByteArray := prog_1_method_3_code
def yX3_set : MethodName := ⟨RX3, "set", "(III)I"⟩
abbrev cX3_row : ByteArray := prog_1_method_4_code
def yX3_row : MethodName := ⟨RX3, "row", "(II)I"⟩
abbrev cX3_standIn : ByteArray := prog_1_method_5_code
def yX3_standIn : MethodName := ⟨RX3, "standIn", "(II)I"⟩
abbrev cX3_translate : ByteArray := prog_1_method_6_code
def yX3_translate : MethodName := ⟨RX3, "translate", "(III)I"⟩
abbrev cX3_told : ByteArray := prog_1_method_7_code
def yX3_told : MethodName := ⟨RX3, "told", "(I)I"⟩
abbrev cX3_order : ByteArray := prog_1_method_8_code
def yX3_order : MethodName := ⟨RX3, "order", "(I)I"⟩
abbrev cX3_also : ByteArray := prog_1_method_9_code
def yX3_also : MethodName := ⟨RX3, "also", "(III)I"⟩
abbrev cX3_through : ByteArray := prog_1_method_10_code
def yX3_through : MethodName := ⟨RX3, "through", "(III)I"⟩
abbrev cX3_text : ByteArray := prog_1_method_11_code
def yX3_text : MethodName := ⟨RX3, "text", "()I"⟩
abbrev cX3_sign : ByteArray := prog_1_method_12_code
def yX3_sign : MethodName := ⟨RX3, "sign", "(II)I"⟩
abbrev cX3_whole : ByteArray := prog_1_method_13_code
def yX3_whole : MethodName := ⟨RX3, "whole", "(III)I"⟩
abbrev cX3_at : ByteArray := prog_1_method_14_code
def yX3_at : MethodName := ⟨RX3, "at", "(II)I"⟩
abbrev cX3_compare : ByteArray := prog_1_method_15_code
def yX3_compare : MethodName := ⟨RX3, "compare", "(III)I"⟩
abbrev cX3_cls : ByteArray := prog_1_method_16_code
def yX3_cls : MethodName := ⟨RX3, "cls", "(II)Z"⟩
abbrev cX3_print : ByteArray := prog_1_method_17_code
def yX3_print : MethodName := ⟨RX3, "print", "(II)B"⟩
abbrev cX3_high : ByteArray := prog_1_method_18_code
def yX3_high : MethodName := ⟨RX3, "high", "(I)I"⟩
abbrev cX3_rank : ByteArray := prog_1_method_19_code
def yX3_rank : MethodName := ⟨RX3, "rank", "(II)I"⟩
abbrev cX3_isCode : ByteArray := prog_1_method_20_code
def yX3_isCode : MethodName := ⟨RX3, "isCode", "(I)Z"⟩
abbrev cX3_isMeaningOrNone : ByteArray := prog_1_method_21_code
def yX3_isMeaningOrNone : MethodName := ⟨RX3, "isMeaningOrNone", "(I)Z"⟩
abbrev cX3_isKind : ByteArray := prog_1_method_22_code
def yX3_isKind : MethodName := ⟨RX3, "isKind", "(I)Z"⟩
abbrev cX3_pageAt : ByteArray := prog_1_method_23_code
def yX3_pageAt : MethodName := ⟨RX3, "pageAt", "(I)LCodePages$Page;"⟩
abbrev cX3_orderAt : ByteArray := prog_1_method_24_code
def yX3_orderAt : MethodName := ⟨RX3, "orderAt", "(I)LCodePages$Order;"⟩
abbrev cX3_textAt : ByteArray := prog_1_method_25_code
def yX3_textAt : MethodName := ⟨RX3, "textAt", "(I)LCodePages$Text;"⟩
abbrev cX3_findOrEnlist : ByteArray := prog_1_method_26_code
def yX3_findOrEnlist : MethodName := ⟨RX3, "findOrEnlist", "(ILCodePages$Page;LCodePages$Page;)I"⟩
abbrev cX3_alphabetRefusal : ByteArray := prog_1_method_27_code
def yX3_alphabetRefusal : MethodName := ⟨RX3, "alphabetRefusal", "(ZII)I"⟩
abbrev cX3_isGreatLetter : ByteArray := prog_1_method_28_code
def yX3_isGreatLetter : MethodName := ⟨RX3, "isGreatLetter", "(I)Z"⟩
abbrev cX3_isSmallLetter : ByteArray := prog_1_method_29_code
def yX3_isSmallLetter : MethodName := ⟨RX3, "isSmallLetter", "(I)Z"⟩
abbrev cX3_hexDigit : ByteArray := prog_1_method_30_code
def yX3_hexDigit : MethodName := ⟨RX3, "hexDigit", "(I)I"⟩
abbrev cX3_halfAsSign : ByteArray := prog_1_method_31_code
def yX3_halfAsSign : MethodName := ⟨RX3, "halfAsSign", "(I)I"⟩
def RX4 : String := "CodePagesModel"
def TX4 : u_T := fun k => match k with
  | 0 => ("CodePagesModel", "code", "I", false)
  | 1 => ("CodePagesModel", "means", "[I", true)
  | 2 => ("CodePagesModel", "standIns", "[I", true)
  | 3 => ("CodePagesModel", "pages", "I", false)
  | 4 => ("CodePagesModel", "kinds", "[I", true)
  | 5 => ("CodePagesModel", "ranks", "[I", true)
  | 6 => ("CodePagesModel", "next", "[I", true)
  | 7 => ("CodePagesModel", "orders", "I", false)
  | 8 => ("CodePagesModel", "texts", "[I", true)
  | 9 => ("CodePagesModel", "lengths", "[I", true)
  | 10 => ("CodePagesModel", "many", "I", false)
  | 11 => ("CodePagesModel", "listed", "[I", true)
  | 12 => ("CodePagesModel", "list", "I", false)
  | _ => ("CodePagesModel", "count", "I", false)
def tyX4 : Nat → FieldType := fun k => match k with
  | 0 => .int
  | 1 => .array .int
  | 2 => .array .int
  | 3 => .int
  | 4 => .array .int
  | 5 => .array .int
  | 6 => .array .int
  | 7 => .int
  | 8 => .array .int
  | 9 => .array .int
  | 10 => .int
  | 11 => .array .int
  | 12 => .int
  | _ => .int
abbrev wsX40 : List Cond := u_ws RX4 TX4 14
theorem nmX4 : ∀ a, a < 14 → ∀ b, b < 14 → a ≠ b → (TX4 a).2.1 ≠ (TX4 b).2.1 := by decide +kernel
theorem tyX4_ok : ∀ k, k < 14 → parseFieldDescriptor (TX4 k).2.2.1 = some (tyX4 k) := by decide +kernel
abbrev cX4_init : ByteArray := prog_6_method_1_code
def yX4_init : MethodName := ⟨RX4, "<init>", "()V"⟩
abbrev cX4_thrown : ByteArray := prog_6_method_2_code
def yX4_thrown : MethodName := ⟨RX4, "thrown", "()I"⟩
abbrev cX4_isCode : ByteArray := prog_6_method_3_code
def yX4_isCode : MethodName := ⟨RX4, "isCode", "(I)Z"⟩
abbrev cX4_isPage : ByteArray := prog_6_method_4_code
def yX4_isPage : MethodName := ⟨RX4, "isPage", "(I)Z"⟩
abbrev cX4_isOrder : ByteArray := prog_6_method_5_code
def yX4_isOrder : MethodName := ⟨RX4, "isOrder", "(I)Z"⟩
abbrev cX4_isText : ByteArray := prog_6_method_6_code
def yX4_isText : MethodName := ⟨RX4, "isText", "(I)Z"⟩
abbrev cX4_page : ByteArray := prog_6_method_7_code
def yX4_page : MethodName := ⟨RX4, "page", "(I)I"⟩
abbrev cX4_codeOf : ByteArray := prog_6_method_8_code
def yX4_codeOf : MethodName := ⟨RX4, "codeOf", "(II)I"⟩
abbrev cX4_set : ByteArray := prog_6_method_9_code
def yX4_set : MethodName := ⟨RX4, "set", "(III)I"⟩
abbrev cX4_row : ByteArray := prog_6_method_10_code
def yX4_row : MethodName := ⟨RX4, "row", "(II)I"⟩
abbrev cX4_standIn : ByteArray := prog_6_method_11_code
def yX4_standIn : MethodName := ⟨RX4, "standIn", "(II)I"⟩
abbrev cX4_translated : ByteArray := prog_6_method_12_code
def yX4_translated : MethodName := ⟨RX4, "translated", "(III)I"⟩
abbrev cX4_translate : ByteArray := prog_6_method_13_code
def yX4_translate : MethodName := ⟨RX4, "translate", "(III)I"⟩
abbrev cX4_told : ByteArray := prog_6_method_14_code
def yX4_told : MethodName := ⟨RX4, "told", "(I)I"⟩
abbrev cX4_order : ByteArray := prog_6_method_15_code
def yX4_order : MethodName := ⟨RX4, "order", "(I)I"⟩
abbrev cX4_meant : ByteArray := prog_6_method_16_code
def yX4_meant : MethodName := ⟨RX4, "meant", "(I)I"⟩
abbrev cX4_rankOf : ByteArray := prog_6_method_17_code
def yX4_rankOf : MethodName := ⟨RX4, "rankOf", "(II)I"⟩
abbrev cX4_refusal : ByteArray := prog_6_method_18_code
def yX4_refusal : MethodName := ⟨RX4, "refusal", "(III)I"⟩
abbrev cX4_also : ByteArray := prog_6_method_19_code
def yX4_also : MethodName := ⟨RX4, "also", "(III)I"⟩
abbrev cX4_through : ByteArray := prog_6_method_20_code
def yX4_through : MethodName := ⟨RX4, "through", "(III)I"⟩
abbrev cX4_rank : ByteArray := prog_6_method_21_code
def yX4_rank : MethodName := ⟨RX4, "rank", "(II)I"⟩
abbrev cX4_high : ByteArray := prog_6_method_22_code
def yX4_high : MethodName := ⟨RX4, "high", "(I)I"⟩
abbrev cX4_text : ByteArray := prog_6_method_23_code
def yX4_text : MethodName := ⟨RX4, "text", "()I"⟩
abbrev cX4_sign : ByteArray := prog_6_method_24_code
def yX4_sign : MethodName := ⟨RX4, "sign", "(II)I"⟩
abbrev cX4_whole : ByteArray := prog_6_method_25_code
def yX4_whole : MethodName := ⟨RX4, "whole", "(III)I"⟩
abbrev cX4_at : ByteArray := prog_6_method_26_code
def yX4_at : MethodName := ⟨RX4, "at", "(II)I"⟩
abbrev cX4_readAt : ByteArray := prog_6_method_27_code
def yX4_readAt : MethodName := ⟨RX4, "readAt", "(II)I"⟩
abbrev cX4_compare : ByteArray := prog_6_method_28_code
def yX4_compare : MethodName := ⟨RX4, "compare", "(III)I"⟩
abbrev cX4_cls : ByteArray := prog_6_method_29_code
def yX4_cls : MethodName := ⟨RX4, "cls", "(II)Z"⟩
abbrev cX4_half : ByteArray := prog_6_method_30_code
def yX4_half : MethodName := ⟨RX4, "half", "(I)B"⟩
abbrev cX4_print : ByteArray := prog_6_method_31_code
def yX4_print : MethodName := ⟨RX4, "print", "(II)B"⟩
def RJx00060 : String := "java/lang/ArrayIndexOutOfBoundsException"
def TJx00060 : u_T := fun k => match k with
  | 0 => ("java/lang/Throwable", "cause", "Ljava/lang/Throwable;", false)
  | 1 => ("java/lang/Throwable", "stackTrace", "[Ljava/lang/StackTraceElement;", false)
  | 2 => ("java/lang/Throwable", "suppressedExceptions", "Ljava/util/List;", false)
  | 3 => ("java/lang/Throwable", "detailMessage", "Ljava/lang/String;", false)
  | 4 => ("java/lang/Throwable", "backtrace", "Ljava/lang/Object;", false)
  | _ => ("java/lang/Throwable", "depth", "I", false)
def tyJx00060 : Nat → FieldType := fun k => match k with
  | 0 => .object "java/lang/Throwable"
  | 1 => .array (.object "java/lang/StackTraceElement")
  | 2 => .object "java/util/List"
  | 3 => .object "java/lang/String"
  | 4 => .object "java/lang/Object"
  | _ => .int
abbrev wsJx000600 : List Cond := u_ws RJx00060 TJx00060 6
theorem nmJx00060 : ∀ a, a < 6 → ∀ b, b < 6 → a ≠ b → (TJx00060 a).2.1 ≠ (TJx00060 b).2.1 := by decide +kernel
theorem tyJx00060_ok : ∀ k, k < 6 → parseFieldDescriptor (TJx00060 k).2.2.1 = some (tyJx00060 k) := by decide +kernel
abbrev cJx00060_init_a7421 : ByteArray := prog_7_method_2_code
def yJx00060_init_a7421 : MethodName := ⟨RJx00060, "<init>", "(Ljava/lang/String;)V"⟩
def RJ9 : String := "java/lang/Math"
def TJ9 : u_T := fun k => match k with
  | _ => ("", "", "", false)
def tyJ9 : Nat → FieldType := fun k => match k with
  | _ => .int
abbrev wsJ90 : List Cond := u_ws RJ9 TJ9 0
theorem nmJ9 : ∀ a, a < 0 → ∀ b, b < 0 → a ≠ b → (TJ9 a).2.1 ≠ (TJ9 b).2.1 := by decide +kernel
theorem tyJ9_ok : ∀ k, k < 0 → parseFieldDescriptor (TJ9 k).2.2.1 = some (tyJ9 k) := by decide +kernel
abbrev cJ9_abs_0f7a4 : ByteArray := prog_10_method_59_code
def yJ9_abs_0f7a4 : MethodName := ⟨RJ9, "abs", "(I)I"⟩
abbrev cJ9_max_7cf53 : ByteArray := prog_10_method_65_code
def yJ9_max_7cf53 : MethodName := ⟨RJ9, "max", "(II)I"⟩
abbrev cJ9_min_7cf53 : ByteArray := prog_10_method_69_code
def yJ9_min_7cf53 : MethodName := ⟨RJ9, "min", "(II)I"⟩
def RJ0 : String := "java/lang/String"
def TJ0 : u_T := fun k => match k with
  | _ => ("", "", "", false)
def tyJ0 : Nat → FieldType := fun k => match k with
  | _ => .int
abbrev wsJ00 : List Cond := u_ws RJ0 TJ0 0
theorem nmJ0 : ∀ a, a < 0 → ∀ b, b < 0 → a ≠ b → (TJ0 a).2.1 ≠ (TJ0 b).2.1 := by decide +kernel
theorem tyJ0_ok : ∀ k, k < 0 → parseFieldDescriptor (TJ0 k).2.2.1 = some (tyJ0 k) := by decide +kernel
def RL : String := "CodePagesLaw"
abbrev cL_row : ByteArray := method_3_code
def yL_row : MethodName := ⟨RL, "row", "(LCodePages;II[J)I"⟩
abbrev cL_law : ByteArray := code
def yL_law : MethodName := ⟨RL, "law", "([I)Z"⟩
def wsX0_init : List Cond := .code yX0_init cX0_init 3 none :: ([.methodLink RX0 3 objectInit, .instanceMethod objectInit, .code objectInit ⟨#[0xb1]⟩ 1 none, .arrayClass .int, .fieldLink RX0 9 "CodePages$Order" "ranks" "[I", .arrayClass .boolean, .fieldLink RX0 15 "CodePages$Order" "inside" "[Z", .fieldLink RX0 19 "CodePages$Order" "nextRank" "I", .fieldLink RX0 23 "CodePages$Order" "alphabet" "Z"] ++ wsX00)
def wsX0_sortKey : List Cond := .code yX0_sortKey cX0_sortKey 2 (some .int) :: ([.constant RX0 31 (65536)])
def wsX0_rankBy : List Cond := .code yX0_rankBy cX0_rankBy 5 none :: ([.arrayClass .int, .fieldLink RX0 9 "CodePages$Order" "ranks" "[I", .methodLink RX0 27 yX0_sortKey, .static yX0_sortKey, .initialized RX0, .code yX0_sortKey cX0_sortKey 2 (some .int), .constant RX0 31 (65536)] ++ wsX00)
def wsX0_rankThoseOutside : List Cond := .code yX0_rankThoseOutside cX0_rankThoseOutside 3 none :: ([.fieldLink RX0 19 "CodePages$Order" "nextRank" "I", .fieldLink RX0 15 "CodePages$Order" "inside" "[Z", .fieldLink RX0 9 "CodePages$Order" "ranks" "[I"] ++ wsX00)
def wsX0_addEqual : List Cond := .code yX0_addEqual cX0_addEqual 3 (some .boolean) :: ([.fieldLink RX0 15 "CodePages$Order" "inside" "[Z", .fieldLink RX0 9 "CodePages$Order" "ranks" "[I", .methodLink RX0 32 yX0_rankThoseOutside, .instanceMethod yX0_rankThoseOutside, .selects RX0 yX0_rankThoseOutside yX0_rankThoseOutside, .initialized RX0, .code yX0_rankThoseOutside cX0_rankThoseOutside 3 none, .fieldLink RX0 19 "CodePages$Order" "nextRank" "I"] ++ wsX00)
def wsX0_addRange : List Cond := .code yX0_addRange cX0_addRange 6 (some .boolean) :: ([.methodLink RX0 35 Lib.Math.min.name, .static Lib.Math.min.name, .initialized "java/lang/Math", .code Lib.Math.min.name Lib.Math.min.code 2 (some .int), .methodLink RX0 41 Lib.Math.max.name, .static Lib.Math.max.name, .code Lib.Math.max.name Lib.Math.max.code 2 (some .int), .fieldLink RX0 15 "CodePages$Order" "inside" "[Z", .fieldLink RX0 9 "CodePages$Order" "ranks" "[I", .fieldLink RX0 19 "CodePages$Order" "nextRank" "I", .methodLink RX0 44 Lib.Math.abs.name, .static Lib.Math.abs.name, .code Lib.Math.abs.name Lib.Math.abs.code 1 (some .int), .methodLink RX0 32 yX0_rankThoseOutside, .instanceMethod yX0_rankThoseOutside, .selects RX0 yX0_rankThoseOutside yX0_rankThoseOutside, .initialized RX0, .code yX0_rankThoseOutside cX0_rankThoseOutside 3 none] ++ wsX00)
def wsX0_lastCode : List Cond := .code yX0_lastCode cX0_lastCode 3 (some .int) :: ([.fieldLink RX0 9 "CodePages$Order" "ranks" "[I"] ++ wsX00)
def wsX1_firstMeaning : List Cond := .code yX1_firstMeaning cX1_firstMeaning 2 (some .int) :: ([])
def wsX1_init : List Cond := .code yX1_init cX1_init 3 none :: ([.methodLink RX1 3 objectInit, .instanceMethod objectInit, .code objectInit ⟨#[0xb1]⟩ 1 none, .arrayClass .int, .fieldLink RX1 9 "CodePages$Page" "meanings" "[I", .fieldLink RX1 15 "CodePages$Page" "substitute" "I", .methodLink RX1 19 yX1_firstMeaning, .static yX1_firstMeaning, .initialized RX1, .code yX1_firstMeaning cX1_firstMeaning 2 (some .int)] ++ wsX10)
def wsX1_codeThatMeans : List Cond := .code yX1_codeThatMeans cX1_codeThatMeans 3 (some .int) :: ([.fieldLink RX1 9 "CodePages$Page" "meanings" "[I"] ++ wsX10)
def wsX2_init : List Cond := .code yX2_init cX2_init 1 none :: ([.methodLink RX2 3 objectInit, .instanceMethod objectInit, .code objectInit ⟨#[0xb1]⟩ 1 none, .arrayClass .int, .fieldLink RX2 9 "CodePages$Text" "codes" "[I", .fieldLink RX2 15 "CodePages$Text" "size" "I"] ++ wsX20)
def wsX2_codeOrBlank : List Cond := .code yX2_codeOrBlank cX2_codeOrBlank 2 (some .int) :: ([.fieldLink RX2 15 "CodePages$Text" "size" "I", .fieldLink RX2 9 "CodePages$Text" "codes" "[I"] ++ wsX20)
def wsX3_init : List Cond := .code yX3_init cX3_init 1 none :: ([.methodLink RX3 1 objectInit, .instanceMethod objectInit, .code objectInit ⟨#[0xb1]⟩ 1 none, .classLink RX3 9 RX1, .fieldLink RX3 11 "CodePages" "pages" "[LCodePages$Page;", .classLink RX3 15 RX0, .fieldLink RX3 17 "CodePages" "orders" "[LCodePages$Order;", .classLink RX3 21 RX2, .fieldLink RX3 23 "CodePages" "texts" "[LCodePages$Text;", .arrayClass .int, .fieldLink RX3 27 "CodePages" "listed" "[I", .fieldLink RX3 31 "CodePages" "pageCount" "I", .fieldLink RX3 35 "CodePages" "orderCount" "I", .fieldLink RX3 38 "CodePages" "textCount" "I", .fieldLink RX3 41 "CodePages" "listedCount" "I"] ++ wsX30)
def wsX3_isKind : List Cond := .code yX3_isKind cX3_isKind 1 (some .boolean) :: ([])
def wsX3_page : List Cond := .code yX3_page cX3_page 2 (some .int) :: ([.fieldLink RX3 31 "CodePages" "pageCount" "I", .fieldLink RX3 11 "CodePages" "pages" "[LCodePages$Page;", .classLink RX3 9 RX1, .instantiable RX1 2, .initialized RX1, .methodLink RX3 44 yX3_isKind, .static yX3_isKind, .initialized RX3, .code yX3_isKind cX3_isKind 1 (some .boolean), .methodLink RX3 48 yX1_init, .instanceMethod yX1_init, .code yX1_init cX1_init 3 none, .methodLink RX1 3 objectInit, .instanceMethod objectInit, .code objectInit ⟨#[0xb1]⟩ 1 none, .arrayClass .int, .fieldLink RX1 9 "CodePages$Page" "meanings" "[I", .fieldLink RX1 15 "CodePages$Page" "substitute" "I", .methodLink RX1 19 yX1_firstMeaning, .static yX1_firstMeaning, .code yX1_firstMeaning cX1_firstMeaning 2 (some .int)] ++ wsX30 ++ wsX10)
def wsX3_pageAt : List Cond := .code yX3_pageAt cX3_pageAt 2 (some (.object "CodePages$Page")) :: ([.fieldLink RX3 11 "CodePages" "pages" "[LCodePages$Page;"] ++ wsX30)
def wsX3_isCode : List Cond := .code yX3_isCode cX3_isCode 1 (some .boolean) :: ([])
def wsX3_isMeaningOrNone : List Cond := .code yX3_isMeaningOrNone cX3_isMeaningOrNone 1 (some .boolean) :: ([.constant RX3 150 (65536)])
def wsX3_set : List Cond := .code yX3_set cX3_set 6 (some .int) :: ([.fieldLink RX3 65 "CodePages$Page" "meanings" "[I", .methodLink RX3 51 yX3_pageAt, .instanceMethod yX3_pageAt, .selects RX3 yX3_pageAt yX3_pageAt, .initialized RX3, .code yX3_pageAt cX3_pageAt 2 (some (.object "CodePages$Page")), .fieldLink RX3 11 "CodePages" "pages" "[LCodePages$Page;", .methodLink RX3 55 yX3_isCode, .static yX3_isCode, .code yX3_isCode cX3_isCode 1 (some .boolean), .methodLink RX3 58 yX3_isMeaningOrNone, .static yX3_isMeaningOrNone, .code yX3_isMeaningOrNone cX3_isMeaningOrNone 1 (some .boolean), .constant RX3 150 (65536), .methodLink RX3 61 yX1_codeThatMeans, .instanceMethod yX1_codeThatMeans, .selects RX1 yX1_codeThatMeans yX1_codeThatMeans, .initialized RX1, .code yX1_codeThatMeans cX1_codeThatMeans 3 (some .int), .fieldLink RX1 9 "CodePages$Page" "meanings" "[I"] ++ wsX10 ++ wsX30)
def wsX3_row : List Cond := .code yX3_row cX3_row 4 (some .int) :: ([.classLink RX3 68 RJx00060, .instantiable RJx00060 6, .initialized RJx00060, .fieldLink RX3 65 "CodePages$Page" "meanings" "[I", .methodLink RX3 51 yX3_pageAt, .instanceMethod yX3_pageAt, .selects RX3 yX3_pageAt yX3_pageAt, .initialized RX3, .code yX3_pageAt cX3_pageAt 2 (some (.object "CodePages$Page")), .fieldLink RX3 11 "CodePages" "pages" "[LCodePages$Page;", .methodLink RX3 55 yX3_isCode, .static yX3_isCode, .code yX3_isCode cX3_isCode 1 (some .boolean)] ++ wsJx000600 ++ wsX10 ++ wsX30)
def wsX3_standIn : List Cond := .code yX3_standIn cX3_standIn 5 (some .int) :: ([.fieldLink RX3 75 "CodePages$Page" "substitute" "I", .methodLink RX3 51 yX3_pageAt, .instanceMethod yX3_pageAt, .selects RX3 yX3_pageAt yX3_pageAt, .initialized RX3, .code yX3_pageAt cX3_pageAt 2 (some (.object "CodePages$Page")), .fieldLink RX3 11 "CodePages" "pages" "[LCodePages$Page;", .methodLink RX3 55 yX3_isCode, .static yX3_isCode, .code yX3_isCode cX3_isCode 1 (some .boolean)] ++ wsX10 ++ wsX30)
def wsX3_findOrEnlist : List Cond := .code yX3_findOrEnlist cX3_findOrEnlist 5 (some .int) :: ([.fieldLink RX3 65 "CodePages$Page" "meanings" "[I", .fieldLink RX3 41 "CodePages" "listedCount" "I", .fieldLink RX3 27 "CodePages" "listed" "[I", .methodLink RX3 61 yX1_codeThatMeans, .instanceMethod yX1_codeThatMeans, .selects RX1 yX1_codeThatMeans yX1_codeThatMeans, .initialized RX1, .code yX1_codeThatMeans cX1_codeThatMeans 3 (some .int), .fieldLink RX1 9 "CodePages$Page" "meanings" "[I"] ++ wsX10 ++ wsX30)
def wsX3_translate : List Cond := .code yX3_translate cX3_translate 7 (some .int) :: ([.fieldLink RX3 75 "CodePages$Page" "substitute" "I", .methodLink RX3 51 yX3_pageAt, .instanceMethod yX3_pageAt, .selects RX3 yX3_pageAt yX3_pageAt, .initialized RX3, .code yX3_pageAt cX3_pageAt 2 (some (.object "CodePages$Page")), .fieldLink RX3 11 "CodePages" "pages" "[LCodePages$Page;", .methodLink RX3 55 yX3_isCode, .static yX3_isCode, .code yX3_isCode cX3_isCode 1 (some .boolean), .methodLink RX3 78 yX3_findOrEnlist, .instanceMethod yX3_findOrEnlist, .selects RX3 yX3_findOrEnlist yX3_findOrEnlist, .code yX3_findOrEnlist cX3_findOrEnlist 5 (some .int), .fieldLink RX3 65 "CodePages$Page" "meanings" "[I", .fieldLink RX3 41 "CodePages" "listedCount" "I", .fieldLink RX3 27 "CodePages" "listed" "[I", .methodLink RX3 61 yX1_codeThatMeans, .instanceMethod yX1_codeThatMeans, .selects RX1 yX1_codeThatMeans yX1_codeThatMeans, .initialized RX1, .code yX1_codeThatMeans cX1_codeThatMeans 3 (some .int), .fieldLink RX1 9 "CodePages$Page" "meanings" "[I"] ++ wsX10 ++ wsX30)
def wsX3_told : List Cond := .code yX3_told cX3_told 2 (some .int) :: ([.fieldLink RX3 41 "CodePages" "listedCount" "I", .fieldLink RX3 27 "CodePages" "listed" "[I"] ++ wsX30)
def wsX3_order_r1 : List Cond := [Cond.fieldLink RX3 35 "CodePages" "orderCount" "I", Cond.classLink RX3 15 RX0, Cond.instantiable RX0 4, Cond.initialized RX0, Cond.fieldLink RX3 65 "CodePages$Page" "meanings" "[I", Cond.fieldLink RX3 17 "CodePages" "orders" "[LCodePages$Order;", Cond.methodLink RX3 44 yX3_isKind, Cond.static yX3_isKind, Cond.initialized RX3, Cond.code yX3_isKind cX3_isKind 1 (some .boolean), Cond.methodLink RX3 82 yX0_init, Cond.instanceMethod yX0_init, Cond.code yX0_init cX0_init 3 none, Cond.methodLink RX0 3 objectInit, Cond.instanceMethod objectInit, Cond.code objectInit ⟨#[0xb1]⟩ 1 none, Cond.arrayClass .int, Cond.fieldLink RX0 9 "CodePages$Order" "ranks" "[I", Cond.arrayClass .boolean, Cond.fieldLink RX0 15 "CodePages$Order" "inside" "[Z", Cond.fieldLink RX0 19 "CodePages$Order" "nextRank" "I", Cond.fieldLink RX0 23 "CodePages$Order" "alphabet" "Z", Cond.methodLink RX3 51 yX3_pageAt, Cond.instanceMethod yX3_pageAt]
def wsX3_order_r2 : List Cond := [Cond.selects RX3 yX3_pageAt yX3_pageAt, Cond.code yX3_pageAt cX3_pageAt 2 (some (.object "CodePages$Page")), Cond.fieldLink RX3 11 "CodePages" "pages" "[LCodePages$Page;", Cond.methodLink RX3 85 yX0_rankBy, Cond.instanceMethod yX0_rankBy, Cond.selects RX0 yX0_rankBy yX0_rankBy, Cond.code yX0_rankBy cX0_rankBy 5 none, Cond.methodLink RX0 27 yX0_sortKey, Cond.static yX0_sortKey, Cond.code yX0_sortKey cX0_sortKey 2 (some .int), Cond.constant RX0 31 (65536)]
def wsX3_order : List Cond := .code yX3_order cX3_order 4 (some .int) :: ((wsX3_order_r1 ++ wsX3_order_r2) ++ wsX30 ++ wsX00 ++ wsX10)
def wsX3_orderAt : List Cond := .code yX3_orderAt cX3_orderAt 2 (some (.object "CodePages$Order")) :: ([.fieldLink RX3 17 "CodePages" "orders" "[LCodePages$Order;"] ++ wsX30)
def wsX3_alphabetRefusal : List Cond := .code yX3_alphabetRefusal cX3_alphabetRefusal 3 (some .int) :: ([.methodLink RX3 55 yX3_isCode, .static yX3_isCode, .initialized RX3, .code yX3_isCode cX3_isCode 1 (some .boolean)])
def wsX3_also_r1 : List Cond := [Cond.fieldLink RX3 93 "CodePages$Order" "alphabet" "Z", Cond.methodLink RX3 89 yX3_orderAt, Cond.instanceMethod yX3_orderAt, Cond.selects RX3 yX3_orderAt yX3_orderAt, Cond.initialized RX3, Cond.code yX3_orderAt cX3_orderAt 2 (some (.object "CodePages$Order")), Cond.fieldLink RX3 17 "CodePages" "orders" "[LCodePages$Order;", Cond.methodLink RX3 97 yX3_alphabetRefusal, Cond.static yX3_alphabetRefusal, Cond.code yX3_alphabetRefusal cX3_alphabetRefusal 3 (some .int), Cond.methodLink RX3 55 yX3_isCode, Cond.static yX3_isCode, Cond.code yX3_isCode cX3_isCode 1 (some .boolean), Cond.methodLink RX3 101 yX0_addEqual, Cond.instanceMethod yX0_addEqual, Cond.selects RX0 yX0_addEqual yX0_addEqual, Cond.initialized RX0, Cond.code yX0_addEqual cX0_addEqual 3 (some .boolean), Cond.fieldLink RX0 15 "CodePages$Order" "inside" "[Z", Cond.fieldLink RX0 9 "CodePages$Order" "ranks" "[I", Cond.methodLink RX0 32 yX0_rankThoseOutside, Cond.instanceMethod yX0_rankThoseOutside, Cond.selects RX0 yX0_rankThoseOutside yX0_rankThoseOutside, Cond.code yX0_rankThoseOutside cX0_rankThoseOutside 3 none]
def wsX3_also_r2 : List Cond := [Cond.fieldLink RX0 19 "CodePages$Order" "nextRank" "I"]
def wsX3_also : List Cond := .code yX3_also cX3_also 6 (some .int) :: ((wsX3_also_r1 ++ wsX3_also_r2) ++ wsX00 ++ wsX30)
def wsX3_through_r1 : List Cond := [Cond.fieldLink RX3 93 "CodePages$Order" "alphabet" "Z", Cond.methodLink RX3 108 Lib.Math.abs.name, Cond.static Lib.Math.abs.name, Cond.initialized "java/lang/Math", Cond.code Lib.Math.abs.name Lib.Math.abs.code 1 (some .int), Cond.methodLink RX3 89 yX3_orderAt, Cond.instanceMethod yX3_orderAt, Cond.selects RX3 yX3_orderAt yX3_orderAt, Cond.initialized RX3, Cond.code yX3_orderAt cX3_orderAt 2 (some (.object "CodePages$Order")), Cond.fieldLink RX3 17 "CodePages" "orders" "[LCodePages$Order;", Cond.methodLink RX3 97 yX3_alphabetRefusal, Cond.static yX3_alphabetRefusal, Cond.code yX3_alphabetRefusal cX3_alphabetRefusal 3 (some .int), Cond.methodLink RX3 55 yX3_isCode, Cond.static yX3_isCode, Cond.code yX3_isCode cX3_isCode 1 (some .boolean), Cond.methodLink RX3 105 yX0_addRange, Cond.instanceMethod yX0_addRange, Cond.selects RX0 yX0_addRange yX0_addRange, Cond.initialized RX0, Cond.code yX0_addRange cX0_addRange 6 (some .boolean), Cond.methodLink RX0 35 Lib.Math.min.name, Cond.static Lib.Math.min.name]
def wsX3_through_r2 : List Cond := [Cond.code Lib.Math.min.name Lib.Math.min.code 2 (some .int), Cond.methodLink RX0 41 Lib.Math.max.name, Cond.static Lib.Math.max.name, Cond.code Lib.Math.max.name Lib.Math.max.code 2 (some .int), Cond.fieldLink RX0 15 "CodePages$Order" "inside" "[Z", Cond.fieldLink RX0 9 "CodePages$Order" "ranks" "[I", Cond.fieldLink RX0 19 "CodePages$Order" "nextRank" "I", Cond.methodLink RX0 44 Lib.Math.abs.name, Cond.methodLink RX0 32 yX0_rankThoseOutside, Cond.instanceMethod yX0_rankThoseOutside, Cond.selects RX0 yX0_rankThoseOutside yX0_rankThoseOutside, Cond.code yX0_rankThoseOutside cX0_rankThoseOutside 3 none]
def wsX3_through : List Cond := .code yX3_through cX3_through 6 (some .int) :: ((wsX3_through_r1 ++ wsX3_through_r2) ++ wsX00 ++ wsX30)
def wsX3_text : List Cond := .code yX3_text cX3_text 1 (some .int) :: ([.fieldLink RX3 38 "CodePages" "textCount" "I", .fieldLink RX3 23 "CodePages" "texts" "[LCodePages$Text;", .classLink RX3 21 RX2, .instantiable RX2 2, .initialized RX2, .instanceMethod yX2_init, .code yX2_init cX2_init 1 none, .methodLink RX2 3 objectInit, .instanceMethod objectInit, .code objectInit ⟨#[0xb1]⟩ 1 none, .arrayClass .int, .fieldLink RX2 9 "CodePages$Text" "codes" "[I", .fieldLink RX2 15 "CodePages$Text" "size" "I"] ++ wsX30 ++ wsX20)
def wsX3_textAt : List Cond := .code yX3_textAt cX3_textAt 2 (some (.object "CodePages$Text")) :: ([.fieldLink RX3 23 "CodePages" "texts" "[LCodePages$Text;"] ++ wsX30)
def wsX3_sign : List Cond := .code yX3_sign cX3_sign 4 (some .int) :: ([.fieldLink RX3 118 "CodePages$Text" "size" "I", .fieldLink RX3 121 "CodePages$Text" "codes" "[I", .methodLink RX3 114 yX3_textAt, .instanceMethod yX3_textAt, .selects RX3 yX3_textAt yX3_textAt, .initialized RX3, .code yX3_textAt cX3_textAt 2 (some (.object "CodePages$Text")), .fieldLink RX3 23 "CodePages" "texts" "[LCodePages$Text;", .methodLink RX3 55 yX3_isCode, .static yX3_isCode, .code yX3_isCode cX3_isCode 1 (some .boolean)] ++ wsX20 ++ wsX30)
def wsX3_whole_r1 : List Cond := [Cond.fieldLink RX3 118 "CodePages$Text" "size" "I", Cond.fieldLink RX3 121 "CodePages$Text" "codes" "[I", Cond.fieldLink RX3 75 "CodePages$Page" "substitute" "I", Cond.methodLink RX3 114 yX3_textAt, Cond.instanceMethod yX3_textAt, Cond.selects RX3 yX3_textAt yX3_textAt, Cond.initialized RX3, Cond.code yX3_textAt cX3_textAt 2 (some (.object "CodePages$Text")), Cond.fieldLink RX3 23 "CodePages" "texts" "[LCodePages$Text;", Cond.methodLink RX3 51 yX3_pageAt, Cond.instanceMethod yX3_pageAt, Cond.selects RX3 yX3_pageAt yX3_pageAt, Cond.code yX3_pageAt cX3_pageAt 2 (some (.object "CodePages$Page")), Cond.fieldLink RX3 11 "CodePages" "pages" "[LCodePages$Page;", Cond.methodLink RX3 78 yX3_findOrEnlist, Cond.instanceMethod yX3_findOrEnlist, Cond.selects RX3 yX3_findOrEnlist yX3_findOrEnlist, Cond.code yX3_findOrEnlist cX3_findOrEnlist 5 (some .int), Cond.fieldLink RX3 65 "CodePages$Page" "meanings" "[I", Cond.fieldLink RX3 41 "CodePages" "listedCount" "I", Cond.fieldLink RX3 27 "CodePages" "listed" "[I", Cond.methodLink RX3 61 yX1_codeThatMeans, Cond.instanceMethod yX1_codeThatMeans, Cond.selects RX1 yX1_codeThatMeans yX1_codeThatMeans]
def wsX3_whole_r2 : List Cond := [Cond.initialized RX1, Cond.code yX1_codeThatMeans cX1_codeThatMeans 3 (some .int), Cond.fieldLink RX1 9 "CodePages$Page" "meanings" "[I"]
def wsX3_whole : List Cond := .code yX3_whole cX3_whole 10 (some .int) :: ((wsX3_whole_r1 ++ wsX3_whole_r2) ++ wsX20 ++ wsX10 ++ wsX30)
def wsX3_at : List Cond := .code yX3_at cX3_at 4 (some .int) :: ([.fieldLink RX3 118 "CodePages$Text" "size" "I", .fieldLink RX3 121 "CodePages$Text" "codes" "[I", .methodLink RX3 114 yX3_textAt, .instanceMethod yX3_textAt, .selects RX3 yX3_textAt yX3_textAt, .initialized RX3, .code yX3_textAt cX3_textAt 2 (some (.object "CodePages$Text")), .fieldLink RX3 23 "CodePages" "texts" "[LCodePages$Text;"] ++ wsX20 ++ wsX30)
def wsX3_compare : List Cond := .code yX3_compare cX3_compare 11 (some .int) :: ([.fieldLink RX3 118 "CodePages$Text" "size" "I", .methodLink RX3 124 Lib.Math.max.name, .static Lib.Math.max.name, .initialized "java/lang/Math", .code Lib.Math.max.name Lib.Math.max.code 2 (some .int), .fieldLink RX3 128 "CodePages$Order" "ranks" "[I", .methodLink RX3 89 yX3_orderAt, .instanceMethod yX3_orderAt, .selects RX3 yX3_orderAt yX3_orderAt, .initialized RX3, .code yX3_orderAt cX3_orderAt 2 (some (.object "CodePages$Order")), .fieldLink RX3 17 "CodePages" "orders" "[LCodePages$Order;", .methodLink RX3 114 yX3_textAt, .instanceMethod yX3_textAt, .selects RX3 yX3_textAt yX3_textAt, .code yX3_textAt cX3_textAt 2 (some (.object "CodePages$Text")), .fieldLink RX3 23 "CodePages" "texts" "[LCodePages$Text;", .methodLink RX3 131 yX2_codeOrBlank, .instanceMethod yX2_codeOrBlank, .selects RX2 yX2_codeOrBlank yX2_codeOrBlank, .initialized RX2, .code yX2_codeOrBlank cX2_codeOrBlank 2 (some .int), .fieldLink RX2 15 "CodePages$Text" "size" "I", .fieldLink RX2 9 "CodePages$Text" "codes" "[I"] ++ wsX20 ++ wsX00 ++ wsX30)
def wsX3_isGreatLetter : List Cond := .code yX3_isGreatLetter cX3_isGreatLetter 1 (some .boolean) :: ([])
def wsX3_isSmallLetter : List Cond := .code yX3_isSmallLetter cX3_isSmallLetter 1 (some .boolean) :: ([])
def wsX3_cls : List Cond := .code yX3_cls cX3_cls 3 (some .boolean) :: ([.methodLink RX3 134 yX3_isGreatLetter, .static yX3_isGreatLetter, .initialized RX3, .code yX3_isGreatLetter cX3_isGreatLetter 1 (some .boolean), .methodLink RX3 137 yX3_isSmallLetter, .static yX3_isSmallLetter, .code yX3_isSmallLetter cX3_isSmallLetter 1 (some .boolean)])
def wsX3_hexDigit : List Cond := .code yX3_hexDigit cX3_hexDigit 1 (some .int) :: ([])
def wsX3_halfAsSign : List Cond := .code yX3_halfAsSign cX3_halfAsSign 1 (some .int) :: ([])
def wsX3_print : List Cond := .code yX3_print cX3_print 3 (some .byte) :: ([.methodLink RX3 55 yX3_isCode, .static yX3_isCode, .initialized RX3, .code yX3_isCode cX3_isCode 1 (some .boolean), .methodLink RX3 140 yX3_hexDigit, .static yX3_hexDigit, .code yX3_hexDigit cX3_hexDigit 1 (some .int), .methodLink RX3 143 yX3_halfAsSign, .static yX3_halfAsSign, .code yX3_halfAsSign cX3_halfAsSign 1 (some .int)])
def wsX3_high : List Cond := .code yX3_high cX3_high 3 (some .int) :: ([.methodLink RX3 89 yX3_orderAt, .instanceMethod yX3_orderAt, .selects RX3 yX3_orderAt yX3_orderAt, .initialized RX3, .code yX3_orderAt cX3_orderAt 2 (some (.object "CodePages$Order")), .fieldLink RX3 17 "CodePages" "orders" "[LCodePages$Order;", .methodLink RX3 146 yX0_lastCode, .instanceMethod yX0_lastCode, .selects RX0 yX0_lastCode yX0_lastCode, .initialized RX0, .code yX0_lastCode cX0_lastCode 3 (some .int), .fieldLink RX0 9 "CodePages$Order" "ranks" "[I"] ++ wsX30 ++ wsX00)
def wsX3_rank : List Cond := .code yX3_rank cX3_rank 4 (some .int) :: ([.fieldLink RX3 128 "CodePages$Order" "ranks" "[I", .methodLink RX3 89 yX3_orderAt, .instanceMethod yX3_orderAt, .selects RX3 yX3_orderAt yX3_orderAt, .initialized RX3, .code yX3_orderAt cX3_orderAt 2 (some (.object "CodePages$Order")), .fieldLink RX3 17 "CodePages" "orders" "[LCodePages$Order;", .methodLink RX3 55 yX3_isCode, .static yX3_isCode, .code yX3_isCode cX3_isCode 1 (some .boolean)] ++ wsX00 ++ wsX30)
def wsX4_init : List Cond := .code yX4_init cX4_init 1 none :: ([.methodLink RX4 1 objectInit, .instanceMethod objectInit, .code objectInit ⟨#[0xb1]⟩ 1 none, .arrayClass .int, .fieldLink RX4 7 "CodePagesModel" "means" "[I", .fieldLink RX4 13 "CodePagesModel" "standIns" "[I", .fieldLink RX4 16 "CodePagesModel" "kinds" "[I", .fieldLink RX4 19 "CodePagesModel" "ranks" "[I", .fieldLink RX4 22 "CodePagesModel" "next" "[I", .fieldLink RX4 25 "CodePagesModel" "texts" "[I", .fieldLink RX4 28 "CodePagesModel" "lengths" "[I", .fieldLink RX4 31 "CodePagesModel" "listed" "[I"] ++ wsX40)
def wsX4_thrown : List Cond := .code yX4_thrown cX4_thrown 1 (some .int) :: ([.fieldLink RX4 34 "CodePagesModel" "code" "I"] ++ wsX40)
def wsX4_isCode : List Cond := .code yX4_isCode cX4_isCode 1 (some .boolean) :: ([])
def wsX4_isPage : List Cond := .code yX4_isPage cX4_isPage 2 (some .boolean) :: ([.fieldLink RX4 38 "CodePagesModel" "pages" "I"] ++ wsX40)
def wsX4_isOrder : List Cond := .code yX4_isOrder cX4_isOrder 2 (some .boolean) :: ([.fieldLink RX4 41 "CodePagesModel" "orders" "I"] ++ wsX40)
def wsX4_isText : List Cond := .code yX4_isText cX4_isText 2 (some .boolean) :: ([.fieldLink RX4 44 "CodePagesModel" "many" "I"] ++ wsX40)
def wsX4_page : List Cond := .code yX4_page cX4_page 3 (some .int) :: ([.fieldLink RX4 34 "CodePagesModel" "code" "I", .fieldLink RX4 38 "CodePagesModel" "pages" "I", .fieldLink RX4 7 "CodePagesModel" "means" "[I", .fieldLink RX4 13 "CodePagesModel" "standIns" "[I"] ++ wsX40)
def wsX4_codeOf : List Cond := .code yX4_codeOf cX4_codeOf 5 (some .int) :: ([.fieldLink RX4 7 "CodePagesModel" "means" "[I"] ++ wsX40)
def wsX4_set : List Cond := .code yX4_set cX4_set 5 (some .int) :: ([.fieldLink RX4 34 "CodePagesModel" "code" "I", .constant RX4 54 (65535), .fieldLink RX4 7 "CodePagesModel" "means" "[I", .methodLink RX4 47 yX4_isPage, .instanceMethod yX4_isPage, .selects RX4 yX4_isPage yX4_isPage, .initialized RX4, .code yX4_isPage cX4_isPage 2 (some .boolean), .fieldLink RX4 38 "CodePagesModel" "pages" "I", .methodLink RX4 51 yX4_isCode, .static yX4_isCode, .code yX4_isCode cX4_isCode 1 (some .boolean), .methodLink RX4 55 yX4_codeOf, .instanceMethod yX4_codeOf, .selects RX4 yX4_codeOf yX4_codeOf, .code yX4_codeOf cX4_codeOf 5 (some .int)] ++ wsX40)
def wsX4_row : List Cond := .code yX4_row cX4_row 4 (some .int) :: ([.fieldLink RX4 34 "CodePagesModel" "code" "I", .fieldLink RX4 7 "CodePagesModel" "means" "[I", .methodLink RX4 47 yX4_isPage, .instanceMethod yX4_isPage, .selects RX4 yX4_isPage yX4_isPage, .initialized RX4, .code yX4_isPage cX4_isPage 2 (some .boolean), .fieldLink RX4 38 "CodePagesModel" "pages" "I", .methodLink RX4 51 yX4_isCode, .static yX4_isCode, .code yX4_isCode cX4_isCode 1 (some .boolean)] ++ wsX40)
def wsX4_standIn : List Cond := .code yX4_standIn cX4_standIn 4 (some .int) :: ([.fieldLink RX4 34 "CodePagesModel" "code" "I", .fieldLink RX4 13 "CodePagesModel" "standIns" "[I", .methodLink RX4 47 yX4_isPage, .instanceMethod yX4_isPage, .selects RX4 yX4_isPage yX4_isPage, .initialized RX4, .code yX4_isPage cX4_isPage 2 (some .boolean), .fieldLink RX4 38 "CodePagesModel" "pages" "I", .methodLink RX4 51 yX4_isCode, .static yX4_isCode, .code yX4_isCode cX4_isCode 1 (some .boolean)] ++ wsX40)
def wsX4_translated : List Cond := .code yX4_translated cX4_translated 6 (some .int) :: ([.fieldLink RX4 7 "CodePagesModel" "means" "[I", .fieldLink RX4 59 "CodePagesModel" "list" "I", .fieldLink RX4 31 "CodePagesModel" "listed" "[I", .fieldLink RX4 62 "CodePagesModel" "count" "I", .fieldLink RX4 13 "CodePagesModel" "standIns" "[I", .methodLink RX4 55 yX4_codeOf, .instanceMethod yX4_codeOf, .selects RX4 yX4_codeOf yX4_codeOf, .initialized RX4, .code yX4_codeOf cX4_codeOf 5 (some .int)] ++ wsX40)
def wsX4_translate : List Cond := .code yX4_translate cX4_translate 4 (some .int) :: ([.fieldLink RX4 34 "CodePagesModel" "code" "I", .methodLink RX4 47 yX4_isPage, .instanceMethod yX4_isPage, .selects RX4 yX4_isPage yX4_isPage, .initialized RX4, .code yX4_isPage cX4_isPage 2 (some .boolean), .fieldLink RX4 38 "CodePagesModel" "pages" "I", .methodLink RX4 51 yX4_isCode, .static yX4_isCode, .code yX4_isCode cX4_isCode 1 (some .boolean), .methodLink RX4 65 yX4_translated, .instanceMethod yX4_translated, .selects RX4 yX4_translated yX4_translated, .code yX4_translated cX4_translated 6 (some .int), .fieldLink RX4 7 "CodePagesModel" "means" "[I", .fieldLink RX4 59 "CodePagesModel" "list" "I", .fieldLink RX4 31 "CodePagesModel" "listed" "[I", .fieldLink RX4 62 "CodePagesModel" "count" "I", .fieldLink RX4 13 "CodePagesModel" "standIns" "[I", .methodLink RX4 55 yX4_codeOf, .instanceMethod yX4_codeOf, .selects RX4 yX4_codeOf yX4_codeOf, .code yX4_codeOf cX4_codeOf 5 (some .int)] ++ wsX40)
def wsX4_told : List Cond := .code yX4_told cX4_told 2 (some .int) :: ([.fieldLink RX4 34 "CodePagesModel" "code" "I", .fieldLink RX4 59 "CodePagesModel" "list" "I", .fieldLink RX4 31 "CodePagesModel" "listed" "[I"] ++ wsX40)
def wsX4_meant : List Cond := .code yX4_meant cX4_meant 5 (some .int) :: ([.fieldLink RX4 38 "CodePagesModel" "pages" "I", .fieldLink RX4 7 "CodePagesModel" "means" "[I"] ++ wsX40)
def wsX4_order : List Cond := .code yX4_order cX4_order 3 (some .int) :: ([.fieldLink RX4 34 "CodePagesModel" "code" "I", .fieldLink RX4 41 "CodePagesModel" "orders" "I", .fieldLink RX4 16 "CodePagesModel" "kinds" "[I", .fieldLink RX4 22 "CodePagesModel" "next" "[I", .fieldLink RX4 19 "CodePagesModel" "ranks" "[I", .methodLink RX4 69 yX4_meant, .instanceMethod yX4_meant, .selects RX4 yX4_meant yX4_meant, .initialized RX4, .code yX4_meant cX4_meant 5 (some .int), .fieldLink RX4 38 "CodePagesModel" "pages" "I", .fieldLink RX4 7 "CodePagesModel" "means" "[I"] ++ wsX40)
def wsX4_rankOf : List Cond := .code yX4_rankOf cX4_rankOf 6 (some .int) :: ([.fieldLink RX4 19 "CodePagesModel" "ranks" "[I", .fieldLink RX4 16 "CodePagesModel" "kinds" "[I", .fieldLink RX4 22 "CodePagesModel" "next" "[I"] ++ wsX40)
def wsX4_refusal : List Cond := .code yX4_refusal cX4_refusal 4 (some .int) :: ([.fieldLink RX4 16 "CodePagesModel" "kinds" "[I", .methodLink RX4 73 yX4_isOrder, .instanceMethod yX4_isOrder, .selects RX4 yX4_isOrder yX4_isOrder, .initialized RX4, .code yX4_isOrder cX4_isOrder 2 (some .boolean), .fieldLink RX4 41 "CodePagesModel" "orders" "I", .methodLink RX4 51 yX4_isCode, .static yX4_isCode, .code yX4_isCode cX4_isCode 1 (some .boolean)] ++ wsX40)
def wsX4_also : List Cond := .code yX4_also cX4_also 5 (some .int) :: ([.fieldLink RX4 34 "CodePagesModel" "code" "I", .fieldLink RX4 19 "CodePagesModel" "ranks" "[I", .methodLink RX4 76 yX4_refusal, .instanceMethod yX4_refusal, .selects RX4 yX4_refusal yX4_refusal, .initialized RX4, .code yX4_refusal cX4_refusal 4 (some .int), .fieldLink RX4 16 "CodePagesModel" "kinds" "[I", .methodLink RX4 73 yX4_isOrder, .instanceMethod yX4_isOrder, .selects RX4 yX4_isOrder yX4_isOrder, .code yX4_isOrder cX4_isOrder 2 (some .boolean), .fieldLink RX4 41 "CodePagesModel" "orders" "I", .methodLink RX4 51 yX4_isCode, .static yX4_isCode, .code yX4_isCode cX4_isCode 1 (some .boolean)] ++ wsX40)
def wsX4_through : List Cond := .code yX4_through cX4_through 8 (some .int) :: ([.fieldLink RX4 34 "CodePagesModel" "code" "I", .fieldLink RX4 19 "CodePagesModel" "ranks" "[I", .fieldLink RX4 22 "CodePagesModel" "next" "[I", .methodLink RX4 76 yX4_refusal, .instanceMethod yX4_refusal, .selects RX4 yX4_refusal yX4_refusal, .initialized RX4, .code yX4_refusal cX4_refusal 4 (some .int), .fieldLink RX4 16 "CodePagesModel" "kinds" "[I", .methodLink RX4 73 yX4_isOrder, .instanceMethod yX4_isOrder, .selects RX4 yX4_isOrder yX4_isOrder, .code yX4_isOrder cX4_isOrder 2 (some .boolean), .fieldLink RX4 41 "CodePagesModel" "orders" "I", .methodLink RX4 51 yX4_isCode, .static yX4_isCode, .code yX4_isCode cX4_isCode 1 (some .boolean)] ++ wsX40)
def wsX4_rank : List Cond := .code yX4_rank cX4_rank 3 (some .int) :: ([.fieldLink RX4 34 "CodePagesModel" "code" "I", .methodLink RX4 73 yX4_isOrder, .instanceMethod yX4_isOrder, .selects RX4 yX4_isOrder yX4_isOrder, .initialized RX4, .code yX4_isOrder cX4_isOrder 2 (some .boolean), .fieldLink RX4 41 "CodePagesModel" "orders" "I", .methodLink RX4 51 yX4_isCode, .static yX4_isCode, .code yX4_isCode cX4_isCode 1 (some .boolean), .methodLink RX4 79 yX4_rankOf, .instanceMethod yX4_rankOf, .selects RX4 yX4_rankOf yX4_rankOf, .code yX4_rankOf cX4_rankOf 6 (some .int), .fieldLink RX4 19 "CodePagesModel" "ranks" "[I", .fieldLink RX4 16 "CodePagesModel" "kinds" "[I", .fieldLink RX4 22 "CodePagesModel" "next" "[I"] ++ wsX40)
def wsX4_high : List Cond := .code yX4_high cX4_high 4 (some .int) :: ([.fieldLink RX4 34 "CodePagesModel" "code" "I", .methodLink RX4 73 yX4_isOrder, .instanceMethod yX4_isOrder, .selects RX4 yX4_isOrder yX4_isOrder, .initialized RX4, .code yX4_isOrder cX4_isOrder 2 (some .boolean), .fieldLink RX4 41 "CodePagesModel" "orders" "I", .methodLink RX4 79 yX4_rankOf, .instanceMethod yX4_rankOf, .selects RX4 yX4_rankOf yX4_rankOf, .code yX4_rankOf cX4_rankOf 6 (some .int), .fieldLink RX4 19 "CodePagesModel" "ranks" "[I", .fieldLink RX4 16 "CodePagesModel" "kinds" "[I", .fieldLink RX4 22 "CodePagesModel" "next" "[I"] ++ wsX40)
def wsX4_text : List Cond := .code yX4_text cX4_text 1 (some .int) :: ([.fieldLink RX4 34 "CodePagesModel" "code" "I", .fieldLink RX4 44 "CodePagesModel" "many" "I"] ++ wsX40)
def wsX4_sign : List Cond := .code yX4_sign cX4_sign 3 (some .int) :: ([.fieldLink RX4 34 "CodePagesModel" "code" "I", .fieldLink RX4 28 "CodePagesModel" "lengths" "[I", .fieldLink RX4 25 "CodePagesModel" "texts" "[I", .methodLink RX4 82 yX4_isText, .instanceMethod yX4_isText, .selects RX4 yX4_isText yX4_isText, .initialized RX4, .code yX4_isText cX4_isText 2 (some .boolean), .fieldLink RX4 44 "CodePagesModel" "many" "I", .methodLink RX4 51 yX4_isCode, .static yX4_isCode, .code yX4_isCode cX4_isCode 1 (some .boolean)] ++ wsX40)
def wsX4_whole_r1 : List Cond := [Cond.fieldLink RX4 34 "CodePagesModel" "code" "I", Cond.fieldLink RX4 62 "CodePagesModel" "count" "I", Cond.fieldLink RX4 28 "CodePagesModel" "lengths" "[I", Cond.fieldLink RX4 25 "CodePagesModel" "texts" "[I", Cond.methodLink RX4 82 yX4_isText, Cond.instanceMethod yX4_isText, Cond.selects RX4 yX4_isText yX4_isText, Cond.initialized RX4, Cond.code yX4_isText cX4_isText 2 (some .boolean), Cond.fieldLink RX4 44 "CodePagesModel" "many" "I", Cond.methodLink RX4 47 yX4_isPage, Cond.instanceMethod yX4_isPage, Cond.selects RX4 yX4_isPage yX4_isPage, Cond.code yX4_isPage cX4_isPage 2 (some .boolean), Cond.fieldLink RX4 38 "CodePagesModel" "pages" "I", Cond.methodLink RX4 65 yX4_translated, Cond.instanceMethod yX4_translated, Cond.selects RX4 yX4_translated yX4_translated, Cond.code yX4_translated cX4_translated 6 (some .int), Cond.fieldLink RX4 7 "CodePagesModel" "means" "[I", Cond.fieldLink RX4 59 "CodePagesModel" "list" "I", Cond.fieldLink RX4 31 "CodePagesModel" "listed" "[I", Cond.fieldLink RX4 13 "CodePagesModel" "standIns" "[I", Cond.methodLink RX4 55 yX4_codeOf]
def wsX4_whole_r2 : List Cond := [Cond.instanceMethod yX4_codeOf, Cond.selects RX4 yX4_codeOf yX4_codeOf, Cond.code yX4_codeOf cX4_codeOf 5 (some .int)]
def wsX4_whole : List Cond := .code yX4_whole cX4_whole 6 (some .int) :: ((wsX4_whole_r1 ++ wsX4_whole_r2) ++ wsX40)
def wsX4_at : List Cond := .code yX4_at cX4_at 3 (some .int) :: ([.fieldLink RX4 34 "CodePagesModel" "code" "I", .fieldLink RX4 28 "CodePagesModel" "lengths" "[I", .fieldLink RX4 25 "CodePagesModel" "texts" "[I", .methodLink RX4 82 yX4_isText, .instanceMethod yX4_isText, .selects RX4 yX4_isText yX4_isText, .initialized RX4, .code yX4_isText cX4_isText 2 (some .boolean), .fieldLink RX4 44 "CodePagesModel" "many" "I"] ++ wsX40)
def wsX4_readAt : List Cond := .code yX4_readAt cX4_readAt 3 (some .int) :: ([.fieldLink RX4 28 "CodePagesModel" "lengths" "[I", .fieldLink RX4 25 "CodePagesModel" "texts" "[I"] ++ wsX40)
def wsX4_compare_r1 : List Cond := [Cond.fieldLink RX4 34 "CodePagesModel" "code" "I", Cond.methodLink RX4 73 yX4_isOrder, Cond.instanceMethod yX4_isOrder, Cond.selects RX4 yX4_isOrder yX4_isOrder, Cond.initialized RX4, Cond.code yX4_isOrder cX4_isOrder 2 (some .boolean), Cond.fieldLink RX4 41 "CodePagesModel" "orders" "I", Cond.methodLink RX4 82 yX4_isText, Cond.instanceMethod yX4_isText, Cond.selects RX4 yX4_isText yX4_isText, Cond.code yX4_isText cX4_isText 2 (some .boolean), Cond.fieldLink RX4 44 "CodePagesModel" "many" "I", Cond.methodLink RX4 85 yX4_readAt, Cond.instanceMethod yX4_readAt, Cond.selects RX4 yX4_readAt yX4_readAt, Cond.code yX4_readAt cX4_readAt 3 (some .int), Cond.fieldLink RX4 28 "CodePagesModel" "lengths" "[I", Cond.fieldLink RX4 25 "CodePagesModel" "texts" "[I", Cond.methodLink RX4 79 yX4_rankOf, Cond.instanceMethod yX4_rankOf, Cond.selects RX4 yX4_rankOf yX4_rankOf, Cond.code yX4_rankOf cX4_rankOf 6 (some .int), Cond.fieldLink RX4 19 "CodePagesModel" "ranks" "[I", Cond.fieldLink RX4 16 "CodePagesModel" "kinds" "[I"]
def wsX4_compare_r2 : List Cond := [Cond.fieldLink RX4 22 "CodePagesModel" "next" "[I"]
def wsX4_compare : List Cond := .code yX4_compare cX4_compare 7 (some .int) :: ((wsX4_compare_r1 ++ wsX4_compare_r2) ++ wsX40)
def wsX4_cls : List Cond := .code yX4_cls cX4_cls 5 (some .boolean) :: ([.fieldLink RX4 34 "CodePagesModel" "code" "I"] ++ wsX40)
def wsX4_half : List Cond := .code yX4_half cX4_half 1 (some .byte) :: ([])
def wsX4_print : List Cond := .code yX4_print cX4_print 4 (some .byte) :: ([.fieldLink RX4 34 "CodePagesModel" "code" "I", .methodLink RX4 51 yX4_isCode, .static yX4_isCode, .initialized RX4, .code yX4_isCode cX4_isCode 1 (some .boolean), .methodLink RX4 88 yX4_half, .static yX4_half, .code yX4_half cX4_half 1 (some .byte)] ++ wsX40)
def wsJx00060_init_a7421 : List Cond := .code yJx00060_init_a7421 cJx00060_init_a7421 2 none :: ([])
def wsJ9_abs_0f7a4 : List Cond := .code yJ9_abs_0f7a4 cJ9_abs_0f7a4 1 (some .int) :: ([])
def wsJ9_max_7cf53 : List Cond := .code yJ9_max_7cf53 cJ9_max_7cf53 2 (some .int) :: ([])
def wsJ9_min_7cf53 : List Cond := .code yJ9_min_7cf53 cJ9_min_7cf53 2 (some .int) :: ([])
def wsL_row : List Cond := .codeWith yL_row cL_row 5 (some .int) [(0, 10, 13, 13)] :: ([.methodLink RL 7 yX3_row, .instanceMethod yX3_row, .selects RX3 yX3_row yX3_row, .initialized RX3, .code yX3_row cX3_row 4 (some .int), .classLink RX3 68 RJx00060, .instantiable RJx00060 6, .initialized RJx00060, .fieldLink RX3 65 "CodePages$Page" "meanings" "[I", .methodLink RX3 51 yX3_pageAt, .instanceMethod yX3_pageAt, .selects RX3 yX3_pageAt yX3_pageAt, .code yX3_pageAt cX3_pageAt 2 (some (.object "CodePages$Page")), .fieldLink RX3 11 "CodePages" "pages" "[LCodePages$Page;", .methodLink RX3 55 yX3_isCode, .static yX3_isCode, .code yX3_isCode cX3_isCode 1 (some .boolean)] ++ wsJx000600 ++ wsX10 ++ wsX30)
def wsL_law_r1 : List Cond := [Cond.classLink RL 8 RX3, Cond.instantiable RX3 8, Cond.initialized RX3, Cond.classLink RL 16 RX4, Cond.instantiable RX4 14, Cond.initialized RX4, Cond.arrayClass .long, Cond.methodLink RL 15 yX3_init, Cond.instanceMethod yX3_init, Cond.code yX3_init cX3_init 1 none, Cond.methodLink RX3 1 objectInit, Cond.instanceMethod objectInit, Cond.code objectInit ⟨#[0xb1]⟩ 1 none, Cond.classLink RX3 9 RX1, Cond.fieldLink RX3 11 "CodePages" "pages" "[LCodePages$Page;", Cond.classLink RX3 15 RX0, Cond.fieldLink RX3 17 "CodePages" "orders" "[LCodePages$Order;", Cond.classLink RX3 21 RX2, Cond.fieldLink RX3 23 "CodePages" "texts" "[LCodePages$Text;", Cond.arrayClass .int, Cond.fieldLink RX3 27 "CodePages" "listed" "[I", Cond.fieldLink RX3 31 "CodePages" "pageCount" "I", Cond.fieldLink RX3 35 "CodePages" "orderCount" "I", Cond.fieldLink RX3 38 "CodePages" "textCount" "I"]
def wsL_law_r2 : List Cond := [Cond.fieldLink RX3 41 "CodePages" "listedCount" "I", Cond.methodLink RL 18 yX4_init, Cond.instanceMethod yX4_init, Cond.code yX4_init cX4_init 1 none, Cond.methodLink RX4 1 objectInit, Cond.fieldLink RX4 7 "CodePagesModel" "means" "[I", Cond.fieldLink RX4 13 "CodePagesModel" "standIns" "[I", Cond.fieldLink RX4 16 "CodePagesModel" "kinds" "[I", Cond.fieldLink RX4 19 "CodePagesModel" "ranks" "[I", Cond.fieldLink RX4 22 "CodePagesModel" "next" "[I", Cond.fieldLink RX4 25 "CodePagesModel" "texts" "[I", Cond.fieldLink RX4 28 "CodePagesModel" "lengths" "[I", Cond.fieldLink RX4 31 "CodePagesModel" "listed" "[I", Cond.methodLink RL 19 yX3_page, Cond.instanceMethod yX3_page, Cond.selects RX3 yX3_page yX3_page, Cond.code yX3_page cX3_page 2 (some .int), Cond.instantiable RX1 2, Cond.initialized RX1, Cond.methodLink RX3 44 yX3_isKind, Cond.static yX3_isKind, Cond.code yX3_isKind cX3_isKind 1 (some .boolean), Cond.methodLink RX3 48 yX1_init, Cond.instanceMethod yX1_init]
def wsL_law_r3 : List Cond := [Cond.code yX1_init cX1_init 3 none, Cond.methodLink RX1 3 objectInit, Cond.fieldLink RX1 9 "CodePages$Page" "meanings" "[I", Cond.fieldLink RX1 15 "CodePages$Page" "substitute" "I", Cond.methodLink RX1 19 yX1_firstMeaning, Cond.static yX1_firstMeaning, Cond.code yX1_firstMeaning cX1_firstMeaning 2 (some .int), Cond.methodLink RL 23 yX4_page, Cond.instanceMethod yX4_page, Cond.selects RX4 yX4_page yX4_page, Cond.code yX4_page cX4_page 3 (some .int), Cond.fieldLink RX4 34 "CodePagesModel" "code" "I", Cond.fieldLink RX4 38 "CodePagesModel" "pages" "I", Cond.methodLink RL 24 yX3_set, Cond.instanceMethod yX3_set, Cond.selects RX3 yX3_set yX3_set, Cond.code yX3_set cX3_set 6 (some .int), Cond.fieldLink RX3 65 "CodePages$Page" "meanings" "[I", Cond.methodLink RX3 51 yX3_pageAt, Cond.instanceMethod yX3_pageAt, Cond.selects RX3 yX3_pageAt yX3_pageAt, Cond.code yX3_pageAt cX3_pageAt 2 (some (.object "CodePages$Page")), Cond.methodLink RX3 55 yX3_isCode, Cond.static yX3_isCode]
def wsL_law_r4 : List Cond := [Cond.code yX3_isCode cX3_isCode 1 (some .boolean), Cond.methodLink RX3 58 yX3_isMeaningOrNone, Cond.static yX3_isMeaningOrNone, Cond.code yX3_isMeaningOrNone cX3_isMeaningOrNone 1 (some .boolean), Cond.constant RX3 150 (65536), Cond.methodLink RX3 61 yX1_codeThatMeans, Cond.instanceMethod yX1_codeThatMeans, Cond.selects RX1 yX1_codeThatMeans yX1_codeThatMeans, Cond.code yX1_codeThatMeans cX1_codeThatMeans 3 (some .int), Cond.methodLink RL 28 yX4_set, Cond.instanceMethod yX4_set, Cond.selects RX4 yX4_set yX4_set, Cond.code yX4_set cX4_set 5 (some .int), Cond.constant RX4 54 (65535), Cond.methodLink RX4 47 yX4_isPage, Cond.instanceMethod yX4_isPage, Cond.selects RX4 yX4_isPage yX4_isPage, Cond.code yX4_isPage cX4_isPage 2 (some .boolean), Cond.methodLink RX4 51 yX4_isCode, Cond.static yX4_isCode, Cond.code yX4_isCode cX4_isCode 1 (some .boolean), Cond.methodLink RX4 55 yX4_codeOf, Cond.instanceMethod yX4_codeOf, Cond.selects RX4 yX4_codeOf yX4_codeOf]
def wsL_law_r5 : List Cond := [Cond.code yX4_codeOf cX4_codeOf 5 (some .int), Cond.methodLink RL 29 yL_row, Cond.static yL_row, Cond.initialized RL, Cond.codeWith yL_row cL_row 5 (some .int) [(0, 10, 13, 13)], Cond.methodLink RL 7 yX3_row, Cond.instanceMethod yX3_row, Cond.selects RX3 yX3_row yX3_row, Cond.code yX3_row cX3_row 4 (some .int), Cond.classLink RX3 68 RJx00060, Cond.instantiable RJx00060 6, Cond.initialized RJx00060, Cond.methodLink RL 34 yX4_row, Cond.instanceMethod yX4_row, Cond.selects RX4 yX4_row yX4_row, Cond.code yX4_row cX4_row 4 (some .int), Cond.methodLink RL 35 yX4_thrown, Cond.instanceMethod yX4_thrown, Cond.selects RX4 yX4_thrown yX4_thrown, Cond.code yX4_thrown cX4_thrown 1 (some .int), Cond.methodLink RL 39 yX3_standIn, Cond.instanceMethod yX3_standIn, Cond.selects RX3 yX3_standIn yX3_standIn, Cond.code yX3_standIn cX3_standIn 5 (some .int)]
def wsL_law_r6 : List Cond := [Cond.fieldLink RX3 75 "CodePages$Page" "substitute" "I", Cond.methodLink RL 42 yX4_standIn, Cond.instanceMethod yX4_standIn, Cond.selects RX4 yX4_standIn yX4_standIn, Cond.code yX4_standIn cX4_standIn 4 (some .int), Cond.methodLink RL 43 yX3_translate, Cond.instanceMethod yX3_translate, Cond.selects RX3 yX3_translate yX3_translate, Cond.code yX3_translate cX3_translate 7 (some .int), Cond.methodLink RX3 78 yX3_findOrEnlist, Cond.instanceMethod yX3_findOrEnlist, Cond.selects RX3 yX3_findOrEnlist yX3_findOrEnlist, Cond.code yX3_findOrEnlist cX3_findOrEnlist 5 (some .int), Cond.methodLink RL 46 yX4_translate, Cond.instanceMethod yX4_translate, Cond.selects RX4 yX4_translate yX4_translate, Cond.code yX4_translate cX4_translate 4 (some .int), Cond.methodLink RX4 65 yX4_translated, Cond.instanceMethod yX4_translated, Cond.selects RX4 yX4_translated yX4_translated, Cond.code yX4_translated cX4_translated 6 (some .int), Cond.fieldLink RX4 59 "CodePagesModel" "list" "I", Cond.fieldLink RX4 62 "CodePagesModel" "count" "I", Cond.methodLink RL 47 yX3_told]
def wsL_law_r7 : List Cond := [Cond.instanceMethod yX3_told, Cond.selects RX3 yX3_told yX3_told, Cond.code yX3_told cX3_told 2 (some .int), Cond.methodLink RL 50 yX4_told, Cond.instanceMethod yX4_told, Cond.selects RX4 yX4_told yX4_told, Cond.code yX4_told cX4_told 2 (some .int), Cond.methodLink RL 51 yX3_order, Cond.instanceMethod yX3_order, Cond.selects RX3 yX3_order yX3_order, Cond.code yX3_order cX3_order 4 (some .int), Cond.instantiable RX0 4, Cond.initialized RX0, Cond.methodLink RX3 82 yX0_init, Cond.instanceMethod yX0_init, Cond.code yX0_init cX0_init 3 none, Cond.methodLink RX0 3 objectInit, Cond.fieldLink RX0 9 "CodePages$Order" "ranks" "[I", Cond.arrayClass .boolean, Cond.fieldLink RX0 15 "CodePages$Order" "inside" "[Z", Cond.fieldLink RX0 19 "CodePages$Order" "nextRank" "I", Cond.fieldLink RX0 23 "CodePages$Order" "alphabet" "Z", Cond.methodLink RX3 85 yX0_rankBy, Cond.instanceMethod yX0_rankBy]
def wsL_law_r8 : List Cond := [Cond.selects RX0 yX0_rankBy yX0_rankBy, Cond.code yX0_rankBy cX0_rankBy 5 none, Cond.methodLink RX0 27 yX0_sortKey, Cond.static yX0_sortKey, Cond.code yX0_sortKey cX0_sortKey 2 (some .int), Cond.constant RX0 31 (65536), Cond.methodLink RL 54 yX4_order, Cond.instanceMethod yX4_order, Cond.selects RX4 yX4_order yX4_order, Cond.code yX4_order cX4_order 3 (some .int), Cond.fieldLink RX4 41 "CodePagesModel" "orders" "I", Cond.methodLink RX4 69 yX4_meant, Cond.instanceMethod yX4_meant, Cond.selects RX4 yX4_meant yX4_meant, Cond.code yX4_meant cX4_meant 5 (some .int), Cond.methodLink RL 55 yX3_also, Cond.instanceMethod yX3_also, Cond.selects RX3 yX3_also yX3_also, Cond.code yX3_also cX3_also 6 (some .int), Cond.fieldLink RX3 93 "CodePages$Order" "alphabet" "Z", Cond.methodLink RX3 89 yX3_orderAt, Cond.instanceMethod yX3_orderAt, Cond.selects RX3 yX3_orderAt yX3_orderAt, Cond.code yX3_orderAt cX3_orderAt 2 (some (.object "CodePages$Order"))]
def wsL_law_r9 : List Cond := [Cond.methodLink RX3 97 yX3_alphabetRefusal, Cond.static yX3_alphabetRefusal, Cond.code yX3_alphabetRefusal cX3_alphabetRefusal 3 (some .int), Cond.methodLink RX3 101 yX0_addEqual, Cond.instanceMethod yX0_addEqual, Cond.selects RX0 yX0_addEqual yX0_addEqual, Cond.code yX0_addEqual cX0_addEqual 3 (some .boolean), Cond.methodLink RX0 32 yX0_rankThoseOutside, Cond.instanceMethod yX0_rankThoseOutside, Cond.selects RX0 yX0_rankThoseOutside yX0_rankThoseOutside, Cond.code yX0_rankThoseOutside cX0_rankThoseOutside 3 none, Cond.methodLink RL 58 yX4_also, Cond.instanceMethod yX4_also, Cond.selects RX4 yX4_also yX4_also, Cond.code yX4_also cX4_also 5 (some .int), Cond.methodLink RX4 76 yX4_refusal, Cond.instanceMethod yX4_refusal, Cond.selects RX4 yX4_refusal yX4_refusal, Cond.code yX4_refusal cX4_refusal 4 (some .int), Cond.methodLink RX4 73 yX4_isOrder, Cond.instanceMethod yX4_isOrder, Cond.selects RX4 yX4_isOrder yX4_isOrder, Cond.code yX4_isOrder cX4_isOrder 2 (some .boolean), Cond.methodLink RL 59 yX3_through]
def wsL_law_r10 : List Cond := [Cond.instanceMethod yX3_through, Cond.selects RX3 yX3_through yX3_through, Cond.code yX3_through cX3_through 6 (some .int), Cond.methodLink RX3 108 Lib.Math.abs.name, Cond.static Lib.Math.abs.name, Cond.initialized "java/lang/Math", Cond.code Lib.Math.abs.name Lib.Math.abs.code 1 (some .int), Cond.methodLink RX3 105 yX0_addRange, Cond.instanceMethod yX0_addRange, Cond.selects RX0 yX0_addRange yX0_addRange, Cond.code yX0_addRange cX0_addRange 6 (some .boolean), Cond.methodLink RX0 35 Lib.Math.min.name, Cond.static Lib.Math.min.name, Cond.code Lib.Math.min.name Lib.Math.min.code 2 (some .int), Cond.methodLink RX0 41 Lib.Math.max.name, Cond.static Lib.Math.max.name, Cond.code Lib.Math.max.name Lib.Math.max.code 2 (some .int), Cond.methodLink RX0 44 Lib.Math.abs.name, Cond.methodLink RL 62 yX4_through, Cond.instanceMethod yX4_through, Cond.selects RX4 yX4_through yX4_through, Cond.code yX4_through cX4_through 8 (some .int), Cond.methodLink RL 63 yX3_text, Cond.instanceMethod yX3_text]
def wsL_law_r11 : List Cond := [Cond.selects RX3 yX3_text yX3_text, Cond.code yX3_text cX3_text 1 (some .int), Cond.instantiable RX2 2, Cond.initialized RX2, Cond.instanceMethod yX2_init, Cond.code yX2_init cX2_init 1 none, Cond.methodLink RX2 3 objectInit, Cond.fieldLink RX2 9 "CodePages$Text" "codes" "[I", Cond.fieldLink RX2 15 "CodePages$Text" "size" "I", Cond.methodLink RL 66 yX4_text, Cond.instanceMethod yX4_text, Cond.selects RX4 yX4_text yX4_text, Cond.code yX4_text cX4_text 1 (some .int), Cond.fieldLink RX4 44 "CodePagesModel" "many" "I", Cond.methodLink RL 67 yX3_sign, Cond.instanceMethod yX3_sign, Cond.selects RX3 yX3_sign yX3_sign, Cond.code yX3_sign cX3_sign 4 (some .int), Cond.fieldLink RX3 118 "CodePages$Text" "size" "I", Cond.fieldLink RX3 121 "CodePages$Text" "codes" "[I", Cond.methodLink RX3 114 yX3_textAt, Cond.instanceMethod yX3_textAt, Cond.selects RX3 yX3_textAt yX3_textAt, Cond.code yX3_textAt cX3_textAt 2 (some (.object "CodePages$Text"))]
def wsL_law_r12 : List Cond := [Cond.methodLink RL 70 yX4_sign, Cond.instanceMethod yX4_sign, Cond.selects RX4 yX4_sign yX4_sign, Cond.code yX4_sign cX4_sign 3 (some .int), Cond.methodLink RX4 82 yX4_isText, Cond.instanceMethod yX4_isText, Cond.selects RX4 yX4_isText yX4_isText, Cond.code yX4_isText cX4_isText 2 (some .boolean), Cond.methodLink RL 71 yX3_whole, Cond.instanceMethod yX3_whole, Cond.selects RX3 yX3_whole yX3_whole, Cond.code yX3_whole cX3_whole 10 (some .int), Cond.methodLink RL 74 yX4_whole, Cond.instanceMethod yX4_whole, Cond.selects RX4 yX4_whole yX4_whole, Cond.code yX4_whole cX4_whole 6 (some .int), Cond.methodLink RL 75 yX3_at, Cond.instanceMethod yX3_at, Cond.selects RX3 yX3_at yX3_at, Cond.code yX3_at cX3_at 4 (some .int), Cond.methodLink RL 78 yX4_at, Cond.instanceMethod yX4_at, Cond.selects RX4 yX4_at yX4_at, Cond.code yX4_at cX4_at 3 (some .int)]
def wsL_law_r13 : List Cond := [Cond.methodLink RL 79 yX3_compare, Cond.instanceMethod yX3_compare, Cond.selects RX3 yX3_compare yX3_compare, Cond.code yX3_compare cX3_compare 11 (some .int), Cond.methodLink RX3 124 Lib.Math.max.name, Cond.fieldLink RX3 128 "CodePages$Order" "ranks" "[I", Cond.methodLink RX3 131 yX2_codeOrBlank, Cond.instanceMethod yX2_codeOrBlank, Cond.selects RX2 yX2_codeOrBlank yX2_codeOrBlank, Cond.code yX2_codeOrBlank cX2_codeOrBlank 2 (some .int), Cond.methodLink RL 82 yX4_compare, Cond.instanceMethod yX4_compare, Cond.selects RX4 yX4_compare yX4_compare, Cond.code yX4_compare cX4_compare 7 (some .int), Cond.methodLink RX4 85 yX4_readAt, Cond.instanceMethod yX4_readAt, Cond.selects RX4 yX4_readAt yX4_readAt, Cond.code yX4_readAt cX4_readAt 3 (some .int), Cond.methodLink RX4 79 yX4_rankOf, Cond.instanceMethod yX4_rankOf, Cond.selects RX4 yX4_rankOf yX4_rankOf, Cond.code yX4_rankOf cX4_rankOf 6 (some .int), Cond.methodLink RL 83 yX3_cls, Cond.instanceMethod yX3_cls]
def wsL_law_r14 : List Cond := [Cond.selects RX3 yX3_cls yX3_cls, Cond.code yX3_cls cX3_cls 3 (some .boolean), Cond.methodLink RX3 134 yX3_isGreatLetter, Cond.static yX3_isGreatLetter, Cond.code yX3_isGreatLetter cX3_isGreatLetter 1 (some .boolean), Cond.methodLink RX3 137 yX3_isSmallLetter, Cond.static yX3_isSmallLetter, Cond.code yX3_isSmallLetter cX3_isSmallLetter 1 (some .boolean), Cond.methodLink RL 87 yX4_cls, Cond.instanceMethod yX4_cls, Cond.selects RX4 yX4_cls yX4_cls, Cond.code yX4_cls cX4_cls 5 (some .boolean), Cond.methodLink RL 88 yX3_print, Cond.instanceMethod yX3_print, Cond.selects RX3 yX3_print yX3_print, Cond.code yX3_print cX3_print 3 (some .byte), Cond.methodLink RX3 140 yX3_hexDigit, Cond.static yX3_hexDigit, Cond.code yX3_hexDigit cX3_hexDigit 1 (some .int), Cond.methodLink RX3 143 yX3_halfAsSign, Cond.static yX3_halfAsSign, Cond.code yX3_halfAsSign cX3_halfAsSign 1 (some .int), Cond.methodLink RL 92 yX4_print, Cond.instanceMethod yX4_print]
def wsL_law_r15 : List Cond := [Cond.selects RX4 yX4_print yX4_print, Cond.code yX4_print cX4_print 4 (some .byte), Cond.methodLink RX4 88 yX4_half, Cond.static yX4_half, Cond.code yX4_half cX4_half 1 (some .byte), Cond.methodLink RL 93 yX3_high, Cond.instanceMethod yX3_high, Cond.selects RX3 yX3_high yX3_high, Cond.code yX3_high cX3_high 3 (some .int), Cond.methodLink RX3 146 yX0_lastCode, Cond.instanceMethod yX0_lastCode, Cond.selects RX0 yX0_lastCode yX0_lastCode, Cond.code yX0_lastCode cX0_lastCode 3 (some .int), Cond.methodLink RL 96 yX4_high, Cond.instanceMethod yX4_high, Cond.selects RX4 yX4_high yX4_high, Cond.code yX4_high cX4_high 4 (some .int), Cond.methodLink RL 97 yX3_rank, Cond.instanceMethod yX3_rank, Cond.selects RX3 yX3_rank yX3_rank, Cond.code yX3_rank cX3_rank 4 (some .int), Cond.methodLink RL 100 yX4_rank, Cond.instanceMethod yX4_rank, Cond.selects RX4 yX4_rank yX4_rank]
def wsL_law_r16 : List Cond := [Cond.code yX4_rank cX4_rank 3 (some .int)]
def wsL_law : List Cond := (wsL_law_r1 ++ (wsL_law_r2 ++ (wsL_law_r3 ++ (wsL_law_r4 ++ (wsL_law_r5 ++ (wsL_law_r6 ++ (wsL_law_r7 ++ (wsL_law_r8 ++ (wsL_law_r9 ++ (wsL_law_r10 ++ (wsL_law_r11 ++ (wsL_law_r12 ++ (wsL_law_r13 ++ (wsL_law_r14 ++ (wsL_law_r15 ++ wsL_law_r16))))))))))))))) ++ wsX30 ++ wsX40 ++ wsX10 ++ wsJx000600 ++ wsX00 ++ wsX20 ++ ([] : List Cond)
set_option maxRecDepth 20000 in
theorem wsL_law_in : ∀ w ∈ wsL_law, w ∈ lw_tbl := fun w h => (goodIn_p wsL_law [30, 33, 353, 69, 72, 76, 80, 405, 93, 97, 100, 103, 108, 409, 413, 416, 421, 277, 425, 401, 112, 429, 116, 120, 433, 437, 124, 441, 128, 132, 153, 156, 445, 449, 161, 165, 168, 172, 176, 453, 457, 461, 180, 193, 184, 187, 190, 465, 198, 202, 481, 216, 220, 485, 489, 224, 493, 228, 497, 232, 237, 501, 505, 473, 241, 244, 247, 509, 251, 254, 257, 513, 516, 261, 265, 477, 269, 469] (by decide +kernel) (by decide +kernel) w h).1
theorem inlX0 : ∀ w ∈ wsX00, w ∈ wsL_law := fun _ h => List.mem_append_left _ (List.mem_append_left _ (List.mem_append_right _ h))
theorem inX0 : ∀ w ∈ wsX00, w ∈ lw_tbl := fun w h => wsL_law_in w (inlX0 w h)
theorem inlX1 : ∀ w ∈ wsX10, w ∈ wsL_law := fun _ h => List.mem_append_left _ (List.mem_append_left _ (List.mem_append_left _ (List.mem_append_left _ (List.mem_append_right _ h))))
theorem inX1 : ∀ w ∈ wsX10, w ∈ lw_tbl := fun w h => wsL_law_in w (inlX1 w h)
theorem inlX2 : ∀ w ∈ wsX20, w ∈ wsL_law := fun _ h => List.mem_append_left _ (List.mem_append_right _ h)
theorem inX2 : ∀ w ∈ wsX20, w ∈ lw_tbl := fun w h => wsL_law_in w (inlX2 w h)
theorem inlX3 : ∀ w ∈ wsX30, w ∈ wsL_law := fun _ h => List.mem_append_left _ (List.mem_append_left _ (List.mem_append_left _ (List.mem_append_left _ (List.mem_append_left _ (List.mem_append_left _ (List.mem_append_right _ h))))))
theorem inX3 : ∀ w ∈ wsX30, w ∈ lw_tbl := fun w h => wsL_law_in w (inlX3 w h)
theorem inlX4 : ∀ w ∈ wsX40, w ∈ wsL_law := fun _ h => List.mem_append_left _ (List.mem_append_left _ (List.mem_append_left _ (List.mem_append_left _ (List.mem_append_left _ (List.mem_append_right _ h)))))
theorem inX4 : ∀ w ∈ wsX40, w ∈ lw_tbl := fun w h => wsL_law_in w (inlX4 w h)
theorem inlJx00060 : ∀ w ∈ wsJx000600, w ∈ wsL_law := fun _ h => List.mem_append_left _ (List.mem_append_left _ (List.mem_append_left _ (List.mem_append_right _ h)))
theorem inJx00060 : ∀ w ∈ wsJx000600, w ∈ lw_tbl := fun w h => wsL_law_in w (inlJx00060 w h)
theorem inJ9 : ∀ w ∈ wsJ90, w ∈ lw_tbl := by decide +kernel
theorem inJ0 : ∀ w ∈ wsJ00, w ∈ lw_tbl := by decide +kernel
abbrev vwCl : List vw_C := [(RJx00060, TJx00060, 6), (RX0, TX0, 4), (RX1, TX1, 2), (RX2, TX2, 2), (RX3, TX3, 8), (RX4, TX4, 14)]
