section
-- ===== PART A: goes FIRST, ahead of the names: the tables' words, and 'selects' of the private methods out of them =====
/-- a private method of a class that the tables say can be made, by its rows of tables_1 -/
def lw_okq (q : MethodName × Nat) : Prop := (q.1.cls ≠ "java/lang/invoke/MethodHandle" ∧ q.1.cls ≠ "java/lang/invoke/VarHandle") ∧ Cond.instantiable q.1.cls q.2 ∈ tables_1 ∧ Cond.privateMethod q.1 ∈ tables_1 ∧ Cond.instanceMethod q.1 ∈ tables_1
theorem lw_p0 : lw_okq (⟨"CodePages", "pageAt", "(I)LCodePages$Page;"⟩, 8) := ⟨⟨by decide +kernel, by decide +kernel⟩, List.mem_of_getElem? (i := 13) (by decide +kernel), List.mem_of_getElem? (i := 81) (by decide +kernel), List.mem_of_getElem? (i := 82) (by decide +kernel)⟩
theorem lw_p1 : lw_okq (⟨"CodePages", "findOrEnlist", "(ILCodePages$Page;LCodePages$Page;)I"⟩, 8) := ⟨⟨by decide +kernel, by decide +kernel⟩, List.mem_of_getElem? (i := 13) (by decide +kernel), List.mem_of_getElem? (i := 104) (by decide +kernel), List.mem_of_getElem? (i := 105) (by decide +kernel)⟩
theorem lw_p2 : lw_okq (⟨"CodePages", "orderAt", "(I)LCodePages$Order;"⟩, 8) := ⟨⟨by decide +kernel, by decide +kernel⟩, List.mem_of_getElem? (i := 13) (by decide +kernel), List.mem_of_getElem? (i := 149) (by decide +kernel), List.mem_of_getElem? (i := 150) (by decide +kernel)⟩
theorem lw_p3 : lw_okq (⟨"CodePages", "textAt", "(I)LCodePages$Text;"⟩, 8) := ⟨⟨by decide +kernel, by decide +kernel⟩, List.mem_of_getElem? (i := 13) (by decide +kernel), List.mem_of_getElem? (i := 204) (by decide +kernel), List.mem_of_getElem? (i := 205) (by decide +kernel)⟩
theorem lw_p4 : lw_okq (⟨"java/lang/Throwable", "fillInStackTrace", "(I)Ljava/lang/Throwable;"⟩, 6) := ⟨⟨by decide +kernel, by decide +kernel⟩, List.mem_of_getElem? (i := 303) (by decide +kernel), List.mem_of_getElem? (i := 301) (by decide +kernel), List.mem_of_getElem? (i := 302) (by decide +kernel)⟩
theorem lw_p5 : lw_okq (⟨"CodePagesModel", "isPage", "(I)Z"⟩, 14) := ⟨⟨by decide +kernel, by decide +kernel⟩, List.mem_of_getElem? (i := 336) (by decide +kernel), List.mem_of_getElem? (i := 397) (by decide +kernel), List.mem_of_getElem? (i := 398) (by decide +kernel)⟩
theorem lw_p6 : lw_okq (⟨"CodePagesModel", "codeOf", "(II)I"⟩, 14) := ⟨⟨by decide +kernel, by decide +kernel⟩, List.mem_of_getElem? (i := 336) (by decide +kernel), List.mem_of_getElem? (i := 405) (by decide +kernel), List.mem_of_getElem? (i := 406) (by decide +kernel)⟩
theorem lw_p7 : lw_okq (⟨"CodePagesModel", "translated", "(III)I"⟩, 14) := ⟨⟨by decide +kernel, by decide +kernel⟩, List.mem_of_getElem? (i := 336) (by decide +kernel), List.mem_of_getElem? (i := 421) (by decide +kernel), List.mem_of_getElem? (i := 422) (by decide +kernel)⟩
theorem lw_p8 : lw_okq (⟨"CodePagesModel", "meant", "(I)I"⟩, 14) := ⟨⟨by decide +kernel, by decide +kernel⟩, List.mem_of_getElem? (i := 336) (by decide +kernel), List.mem_of_getElem? (i := 433) (by decide +kernel), List.mem_of_getElem? (i := 434) (by decide +kernel)⟩
theorem lw_p9 : lw_okq (⟨"CodePagesModel", "refusal", "(III)I"⟩, 14) := ⟨⟨by decide +kernel, by decide +kernel⟩, List.mem_of_getElem? (i := 336) (by decide +kernel), List.mem_of_getElem? (i := 441) (by decide +kernel), List.mem_of_getElem? (i := 442) (by decide +kernel)⟩
theorem lw_p10 : lw_okq (⟨"CodePagesModel", "isOrder", "(I)Z"⟩, 14) := ⟨⟨by decide +kernel, by decide +kernel⟩, List.mem_of_getElem? (i := 336) (by decide +kernel), List.mem_of_getElem? (i := 445) (by decide +kernel), List.mem_of_getElem? (i := 446) (by decide +kernel)⟩
theorem lw_p11 : lw_okq (⟨"CodePagesModel", "rankOf", "(II)I"⟩, 14) := ⟨⟨by decide +kernel, by decide +kernel⟩, List.mem_of_getElem? (i := 336) (by decide +kernel), List.mem_of_getElem? (i := 457) (by decide +kernel), List.mem_of_getElem? (i := 458) (by decide +kernel)⟩
theorem lw_p12 : lw_okq (⟨"CodePagesModel", "isText", "(I)Z"⟩, 14) := ⟨⟨by decide +kernel, by decide +kernel⟩, List.mem_of_getElem? (i := 336) (by decide +kernel), List.mem_of_getElem? (i := 473) (by decide +kernel), List.mem_of_getElem? (i := 474) (by decide +kernel)⟩
theorem lw_p13 : lw_okq (⟨"CodePagesModel", "readAt", "(II)I"⟩, 14) := ⟨⟨by decide +kernel, by decide +kernel⟩, List.mem_of_getElem? (i := 336) (by decide +kernel), List.mem_of_getElem? (i := 489) (by decide +kernel), List.mem_of_getElem? (i := 490) (by decide +kernel)⟩
def lw_privs_1 : List (MethodName × Nat) := [(⟨"CodePages", "pageAt", "(I)LCodePages$Page;"⟩, 8), (⟨"CodePages", "findOrEnlist", "(ILCodePages$Page;LCodePages$Page;)I"⟩, 8), (⟨"CodePages", "orderAt", "(I)LCodePages$Order;"⟩, 8), (⟨"CodePages", "textAt", "(I)LCodePages$Text;"⟩, 8), (⟨"java/lang/Throwable", "fillInStackTrace", "(I)Ljava/lang/Throwable;"⟩, 6), (⟨"CodePagesModel", "isPage", "(I)Z"⟩, 14), (⟨"CodePagesModel", "codeOf", "(II)I"⟩, 14), (⟨"CodePagesModel", "translated", "(III)I"⟩, 14), (⟨"CodePagesModel", "meant", "(I)I"⟩, 14), (⟨"CodePagesModel", "refusal", "(III)I"⟩, 14), (⟨"CodePagesModel", "isOrder", "(I)Z"⟩, 14), (⟨"CodePagesModel", "rankOf", "(II)I"⟩, 14), (⟨"CodePagesModel", "isText", "(I)Z"⟩, 14), (⟨"CodePagesModel", "readAt", "(II)I"⟩, 14)]
theorem lw_r1 : ∀ q ∈ lw_privs_1, lw_okq q := List.forall_mem_cons.mpr ⟨lw_p0, List.forall_mem_cons.mpr ⟨lw_p1, List.forall_mem_cons.mpr ⟨lw_p2, List.forall_mem_cons.mpr ⟨lw_p3, List.forall_mem_cons.mpr ⟨lw_p4, List.forall_mem_cons.mpr ⟨lw_p5, List.forall_mem_cons.mpr ⟨lw_p6, List.forall_mem_cons.mpr ⟨lw_p7, List.forall_mem_cons.mpr ⟨lw_p8, List.forall_mem_cons.mpr ⟨lw_p9, List.forall_mem_cons.mpr ⟨lw_p10, List.forall_mem_cons.mpr ⟨lw_p11, List.forall_mem_cons.mpr ⟨lw_p12, List.forall_mem_cons.mpr ⟨lw_p13, fun _ h => absurd h List.not_mem_nil⟩⟩⟩⟩⟩⟩⟩⟩⟩⟩⟩⟩⟩⟩
def lw_privs : List (MethodName × Nat) := lw_privs_1
def lw_tbl : List Cond := k2_sels lw_privs ++ tables_1
theorem lw_privs_ok : ∀ q ∈ lw_privs, lw_okq q := lw_r1
end
section
/-! ===== BEGIN words of one list among another's, by their places ===== -/
theorem goodIn_r {big : List Cond} (ws : List Cond) (ps : List Nat) (hp : ws = ps.filterMap (fun i => big[i]?)) (h : ws.all goodWord = true) : GoodIn big ws := by
  intro w hw
  have h1 := List.all_eq_true.mp h w hw
  rw [hp] at hw
  obtain ⟨i, -, hi⟩ := List.mem_filterMap.mp hw
  have hm : w ∈ big := by first | exact List.mem_of_getElem? hi | exact List.getElem?_mem hi
  exact ⟨hm, good_of_word h1⟩
theorem goodIn_app {big a b : List Cond} (ha : GoodIn big a) (hb : GoodIn big b) : GoodIn big (a ++ b) := fun w h => (List.mem_append.mp h).elim (ha w) (hb w)
theorem goodIn_ca {big a b : List Cond} {c : Cond} (ha : GoodIn big (c :: a)) (hb : GoodIn big b) : GoodIn big (c :: (a ++ b)) := fun w h => (List.mem_cons.mp h).elim (fun e => ha w (List.mem_cons.mpr (Or.inl e))) (fun h => (List.mem_append.mp h).elim (fun h => ha w (List.mem_cons.mpr (Or.inr h))) (hb w))
theorem goodIn_sub {big ws : List Cond} (hm : ∀ w ∈ ws, w ∈ big) (h : ws.all goodWord = true) : GoodIn big ws := fun w hw => ⟨hm w hw, good_of_word (List.all_eq_true.mp h w hw)⟩
/-! ===== END ===== -/

/-! ===== BEGIN printed: names, fields, word lists, decode rows ===== -/
def RX0 : String := "CodePages$Order"
def TX0 : u_T := fun k => match k with
  | 0 => ("CodePages$Order", "alphabet", "Z", true)
  | 1 => ("CodePages$Order", "ranks", "[I", true)
  | 2 => ("CodePages$Order", "inside", "[Z", true)
  | _ => ("CodePages$Order", "nextRank", "I", false)
def tyX0 : Nat → FieldType := fun k => match k with
  | 0 => .boolean
  | 1 => .array .int
  | 2 => .array .boolean
  | _ => .int
abbrev wsX00 : List Cond := u_ws RX0 TX0 4
theorem nmX0 : ∀ a, a < 4 → ∀ b, b < 4 → a ≠ b → (TX0 a).2.1 ≠ (TX0 b).2.1 := by decide +kernel
theorem tyX0_ok : ∀ k, k < 4 → parseFieldDescriptor (TX0 k).2.2.1 = some (tyX0 k) := by decide +kernel
abbrev cX0_init : ByteArray := prog_2_method_1_code
def yX0_init : MethodName := ⟨RX0, "<init>", "(Z)V"⟩
abbrev cX0_rankBy : ByteArray := prog_2_method_2_code
def yX0_rankBy : MethodName := ⟨RX0, "rankBy", "([I)V"⟩
abbrev cX0_sortKey : ByteArray := prog_2_method_3_code
def yX0_sortKey : MethodName := ⟨RX0, "sortKey", "([II)I"⟩
abbrev cX0_addEqual : ByteArray := prog_2_method_4_code
def yX0_addEqual : MethodName := ⟨RX0, "addEqual", "(II)Z"⟩
abbrev cX0_addRange : ByteArray := prog_2_method_5_code
def yX0_addRange : MethodName := ⟨RX0, "addRange", "(II)Z"⟩
abbrev cX0_rankThoseOutside : ByteArray := prog_2_method_6_code
def yX0_rankThoseOutside : MethodName := ⟨RX0, "rankThoseOutside", "()V"⟩
abbrev cX0_lastCode : ByteArray := prog_2_method_7_code
def yX0_lastCode : MethodName := ⟨RX0, "lastCode", "()I"⟩
def RX1 : String := "CodePages$Page"
def TX1 : u_T := fun k => match k with
  | 0 => ("CodePages$Page", "meanings", "[I", true)
  | _ => ("CodePages$Page", "substitute", "I", false)
def tyX1 : Nat → FieldType := fun k => match k with
  | 0 => .array .int
  | _ => .int
abbrev wsX10 : List Cond := u_ws RX1 TX1 2
theorem nmX1 : ∀ a, a < 2 → ∀ b, b < 2 → a ≠ b → (TX1 a).2.1 ≠ (TX1 b).2.1 := by decide +kernel
theorem tyX1_ok : ∀ k, k < 2 → parseFieldDescriptor (TX1 k).2.2.1 = some (tyX1 k) := by decide +kernel
abbrev cX1_init : ByteArray := prog_3_method_1_code
def yX1_init : MethodName := ⟨RX1, "<init>", "(I)V"⟩
abbrev cX1_firstMeaning : ByteArray := prog_3_method_2_code
def yX1_firstMeaning : MethodName := ⟨RX1, "firstMeaning", "(II)I"⟩
abbrev cX1_codeThatMeans : ByteArray := prog_3_method_3_code
def yX1_codeThatMeans : MethodName := ⟨RX1, "codeThatMeans", "(I)I"⟩
def RX2 : String := "CodePages$Text"
def TX2 : u_T := fun k => match k with
  | 0 => ("CodePages$Text", "codes", "[I", true)
  | _ => ("CodePages$Text", "size", "I", false)
def tyX2 : Nat → FieldType := fun k => match k with
  | 0 => .array .int
  | _ => .int
abbrev wsX20 : List Cond := u_ws RX2 TX2 2
theorem nmX2 : ∀ a, a < 2 → ∀ b, b < 2 → a ≠ b → (TX2 a).2.1 ≠ (TX2 b).2.1 := by decide +kernel
theorem tyX2_ok : ∀ k, k < 2 → parseFieldDescriptor (TX2 k).2.2.1 = some (tyX2 k) := by decide +kernel
abbrev cX2_init : ByteArray := prog_4_method_1_code
def yX2_init : MethodName := ⟨RX2, "<init>", "()V"⟩
abbrev cX2_codeOrBlank : ByteArray := prog_4_method_2_code
def yX2_codeOrBlank : MethodName := ⟨RX2, "codeOrBlank", "(I)I"⟩
def RX3 : String := "CodePages"
def TX3 : u_T := fun k => match k with
  | 0 => ("CodePages", "pages", "[LCodePages$Page;", true)
  | 1 => ("CodePages", "orders", "[LCodePages$Order;", true)
  | 2 => ("CodePages", "texts", "[LCodePages$Text;", true)
  | 3 => ("CodePages", "listed", "[I", true)
  | 4 => ("CodePages", "pageCount", "I", false)
  | 5 => ("CodePages", "orderCount", "I", false)
  | 6 => ("CodePages", "textCount", "I", false)
  | _ => ("CodePages", "listedCount", "I", false)
def tyX3 : Nat → FieldType := fun k => match k with
  | 0 => .array (.object "CodePages$Page")
  | 1 => .array (.object "CodePages$Order")
  | 2 => .array (.object "CodePages$Text")
  | 3 => .array .int
  | 4 => .int
  | 5 => .int
  | 6 => .int
  | _ => .int
abbrev wsX30 : List Cond := u_ws RX3 TX3 8
theorem nmX3 : ∀ a, a < 8 → ∀ b, b < 8 → a ≠ b → (TX3 a).2.1 ≠ (TX3 b).2.1 := by decide +kernel
theorem tyX3_ok : ∀ k, k < 8 → parseFieldDescriptor (TX3 k).2.2.1 = some (tyX3 k) := by decide +kernel
abbrev cX3_init : ByteArray := prog_1_method_1_code
def yX3_init : MethodName := ⟨RX3, "<init>", "()V"⟩
abbrev cX3_page : ByteArray := prog_1_method_2_code
def yX3_page : MethodName := ⟨RX3, "page", "(I)I"⟩
abbrev cX3_set : ByteArray := prog_1_method_3_code
def yX3_set : MethodName := ⟨RX3, "set", "(III)I"⟩
abbrev cX3_row : ByteArray := prog_1_method_4_code
def yX3_row : MethodName := ⟨RX3, "row", "(II)I"⟩
abbrev cX3_standIn : ByteArray := prog_1_method_5_code
def yX3_standIn : MethodName := ⟨RX3, "standIn", "(II)I"⟩
abbrev cX3_translate : ByteArray := prog_1_method_6_code
def yX3_translate : MethodName := ⟨RX3, "translate", "(III)I"⟩
abbrev cX3_told : ByteArray := prog_1_method_7_code
def yX3_told : MethodName := ⟨RX3, "told", "(I)I"⟩
abbrev cX3_order : ByteArray := prog_1_method_8_code
def yX3_order : MethodName := ⟨RX3, "order", "(I)I"⟩
abbrev cX3_also : ByteArray := prog_1_method_9_code
def yX3_also : MethodName := ⟨RX3, "also", "(III)I"⟩
abbrev cX3_through : ByteArray := prog_1_method_10_code
def yX3_through : MethodName := ⟨RX3, "through", "(III)I"⟩
abbrev cX3_text : ByteArray := prog_1_method_11_code
def yX3_text : MethodName := ⟨RX3, "text", "()I"⟩
abbrev cX3_sign : ByteArray := prog_1_method_12_code
def yX3_sign : MethodName := ⟨RX3, "sign", "(II)I"⟩
abbrev cX3_whole : ByteArray := prog_1_method_13_code
def yX3_whole : MethodName := ⟨RX3, "whole", "(III)I"⟩
abbrev cX3_at : ByteArray := prog_1_method_14_code
def yX3_at : MethodName := ⟨RX3, "at", "(II)I"⟩
abbrev cX3_compare : ByteArray := prog_1_method_15_code
def yX3_compare : MethodName := ⟨RX3, "compare", "(III)I"⟩
abbrev cX3_cls : ByteArray := prog_1_method_16_code
def yX3_cls : MethodName := ⟨RX3, "cls", "(II)Z"⟩
abbrev cX3_print : ByteArray := prog_1_method_17_code
def yX3_print : MethodName := ⟨RX3, "print", "(II)B"⟩
abbrev cX3_high : ByteArray := prog_1_method_18_code
def yX3_high : MethodName := ⟨RX3, "high", "(I)I"⟩
abbrev cX3_rank : ByteArray := prog_1_method_19_code
def yX3_rank : MethodName := ⟨RX3, "rank", "(II)I"⟩
abbrev cX3_isCode : ByteArray := prog_1_method_20_code
def yX3_isCode : MethodName := ⟨RX3, "isCode", "(I)Z"⟩
abbrev cX3_isMeaningOrNone : ByteArray := prog_1_method_21_code
def yX3_isMeaningOrNone : MethodName := ⟨RX3, "isMeaningOrNone", "(I)Z"⟩
abbrev cX3_isKind : ByteArray := prog_1_method_22_code
def yX3_isKind : MethodName := ⟨RX3, "isKind", "(I)Z"⟩
abbrev cX3_pageAt : ByteArray := prog_1_method_23_code
def yX3_pageAt : MethodName := ⟨RX3, "pageAt", "(I)LCodePages$Page;"⟩
abbrev cX3_orderAt : ByteArray := prog_1_method_24_code
def yX3_orderAt : MethodName := ⟨RX3, "orderAt", "(I)LCodePages$Order;"⟩
abbrev cX3_textAt : ByteArray := prog_1_method_25_code
def yX3_textAt : MethodName := ⟨RX3, "textAt", "(I)LCodePages$Text;"⟩
abbrev cX3_findOrEnlist : ByteArray := prog_1_method_26_code
def yX3_findOrEnlist : MethodName := ⟨RX3, "findOrEnlist", "(ILCodePages$Page;LCodePages$Page;)I"⟩
abbrev cX3_alphabetRefusal : ByteArray := prog_1_method_27_code
def yX3_alphabetRefusal : MethodName := ⟨RX3, "alphabetRefusal", "(ZII)I"⟩
abbrev cX3_isGreatLetter : ByteArray := prog_1_method_28_code
def yX3_isGreatLetter : MethodName := ⟨RX3, "isGreatLetter", "(I)Z"⟩
abbrev cX3_isSmallLetter : ByteArray := prog_1_method_29_code
def yX3_isSmallLetter : MethodName := ⟨RX3, "isSmallLetter", "(I)Z"⟩
abbrev cX3_hexDigit : ByteArray := prog_1_method_30_code
def yX3_hexDigit : MethodName := ⟨RX3, "hexDigit", "(I)I"⟩
abbrev cX3_halfAsSign : ByteArray := prog_1_method_31_code
def yX3_halfAsSign : MethodName := ⟨RX3, "halfAsSign", "(I)I"⟩
def RX4 : String := "CodePagesModel"
def TX4 : u_T := fun k => match k with
  | 0 => ("CodePagesModel", "code", "I", false)
  | 1 => ("CodePagesModel", "means", "[I", true)
  | 2 => ("CodePagesModel", "standIns", "[I", true)
  | 3 => ("CodePagesModel", "pages", "I", false)
  | 4 => ("CodePagesModel", "kinds", "[I", true)
  | 5 => ("CodePagesModel", "ranks", "[I", true)
  | 6 => ("CodePagesModel", "next", "[I", true)
  | 7 => ("CodePagesModel", "orders", "I", false)
  | 8 => ("CodePagesModel", "texts", "[I", true)
  | 9 => ("CodePagesModel", "lengths", "[I", true)
  | 10 => ("CodePagesModel", "many", "I", false)
  | 11 => ("CodePagesModel", "listed", "[I", true)
  | 12 => ("CodePagesModel", "list", "I", false)
  | _ => ("CodePagesModel", "count", "I", false)
def tyX4 : Nat → FieldType := fun k => match k with
  | 0 => .int
  | 1 => .array .int
  | 2 => .array .int
  | 3 => .int
  | 4 => .array .int
  | 5 => .array .int
  | 6 => .array .int
  | 7 => .int
  | 8 => .array .int
  | 9 => .array .int
  | 10 => .int
  | 11 => .array .int
  | 12 => .int
  | _ => .int
abbrev wsX40 : List Cond := u_ws RX4 TX4 14
theorem nmX4 : ∀ a, a < 14 → ∀ b, b < 14 → a ≠ b → (TX4 a).2.1 ≠ (TX4 b).2.1 := by decide +kernel
theorem tyX4_ok : ∀ k, k < 14 → parseFieldDescriptor (TX4 k).2.2.1 = some (tyX4 k) := by decide +kernel
abbrev cX4_init : ByteArray := prog_6_method_1_code
def yX4_init : MethodName := ⟨RX4, "<init>", "()V"⟩
abbrev cX4_thrown : ByteArray := prog_6_method_2_code
def yX4_thrown : MethodName := ⟨RX4, "thrown", "()I"⟩
abbrev cX4_isCode : ByteArray := prog_6_method_3_code
def yX4_isCode : MethodName := ⟨RX4, "isCode", "(I)Z"⟩
abbrev cX4_isPage : ByteArray := prog_6_method_4_code
def yX4_isPage : MethodName := ⟨RX4, "isPage", "(I)Z"⟩
abbrev cX4_isOrder : ByteArray := prog_6_method_5_code
def yX4_isOrder : MethodName := ⟨RX4, "isOrder", "(I)Z"⟩
abbrev cX4_isText : ByteArray := prog_6_method_6_code
def yX4_isText : MethodName := ⟨RX4, "isText", "(I)Z"⟩
abbrev cX4_page : ByteArray := prog_6_method_7_code
def yX4_page : MethodName := ⟨RX4, "page", "(I)I"⟩
abbrev cX4_codeOf : ByteArray := prog_6_method_8_code
def yX4_codeOf : MethodName := ⟨RX4, "codeOf", "(II)I"⟩
abbrev cX4_set : ByteArray := prog_6_method_9_code
def yX4_set : MethodName := ⟨RX4, "set", "(III)I"⟩
abbrev cX4_row : ByteArray := prog_6_method_10_code
def yX4_row : MethodName := ⟨RX4, "row", "(II)I"⟩
abbrev cX4_standIn : ByteArray := prog_6_method_11_code
def yX4_standIn : MethodName := ⟨RX4, "standIn", "(II)I"⟩
abbrev cX4_translated : ByteArray := prog_6_method_12_code
def yX4_translated : MethodName := ⟨RX4, "translated", "(III)I"⟩
abbrev cX4_translate : ByteArray := prog_6_method_13_code
def yX4_translate : MethodName := ⟨RX4, "translate", "(III)I"⟩
abbrev cX4_told : ByteArray := prog_6_method_14_code
def yX4_told : MethodName := ⟨RX4, "told", "(I)I"⟩
abbrev cX4_order : ByteArray := prog_6_method_15_code
def yX4_order : MethodName := ⟨RX4, "order", "(I)I"⟩
abbrev cX4_meant : ByteArray := prog_6_method_16_code
def yX4_meant : MethodName := ⟨RX4, "meant", "(I)I"⟩
abbrev cX4_rankOf : ByteArray := prog_6_method_17_code
def yX4_rankOf : MethodName := ⟨RX4, "rankOf", "(II)I"⟩
abbrev cX4_refusal : ByteArray := prog_6_method_18_code
def yX4_refusal : MethodName := ⟨RX4, "refusal", "(III)I"⟩
abbrev cX4_also : ByteArray := prog_6_method_19_code
def yX4_also : MethodName := ⟨RX4, "also", "(III)I"⟩
abbrev cX4_through : ByteArray := prog_6_method_20_code
def yX4_through : MethodName := ⟨RX4, "through", "(III)I"⟩
abbrev cX4_rank : ByteArray := prog_6_method_21_code
def yX4_rank : MethodName := ⟨RX4, "rank", "(II)I"⟩
abbrev cX4_high : ByteArray := prog_6_method_22_code
def yX4_high : MethodName := ⟨RX4, "high", "(I)I"⟩
abbrev cX4_text : ByteArray := prog_6_method_23_code
def yX4_text : MethodName := ⟨RX4, "text", "()I"⟩
abbrev cX4_sign : ByteArray := prog_6_method_24_code
def yX4_sign : MethodName := ⟨RX4, "sign", "(II)I"⟩
abbrev cX4_whole : ByteArray := prog_6_method_25_code
def yX4_whole : MethodName := ⟨RX4, "whole", "(III)I"⟩
abbrev cX4_at : ByteArray := prog_6_method_26_code
def yX4_at : MethodName := ⟨RX4, "at", "(II)I"⟩
abbrev cX4_readAt : ByteArray := prog_6_method_27_code
def yX4_readAt : MethodName := ⟨RX4, "readAt", "(II)I"⟩
abbrev cX4_compare : ByteArray := prog_6_method_28_code
def yX4_compare : MethodName := ⟨RX4, "compare", "(III)I"⟩
abbrev cX4_cls : ByteArray := prog_6_method_29_code
def yX4_cls : MethodName := ⟨RX4, "cls", "(II)Z"⟩
abbrev cX4_half : ByteArray := prog_6_method_30_code
def yX4_half : MethodName := ⟨RX4, "half", "(I)B"⟩
abbrev cX4_print : ByteArray := prog_6_method_31_code
def yX4_print : MethodName := ⟨RX4, "print", "(II)B"⟩
def RJx00060 : String := "java/lang/ArrayIndexOutOfBoundsException"
def TJx00060 : u_T := fun k => match k with
  | 0 => ("java/lang/Throwable", "cause", "Ljava/lang/Throwable;", false)
  | 1 => ("java/lang/Throwable", "stackTrace", "[Ljava/lang/StackTraceElement;", false)
  | 2 => ("java/lang/Throwable", "suppressedExceptions", "Ljava/util/List;", false)
  | 3 => ("java/lang/Throwable", "detailMessage", "Ljava/lang/String;", false)
  | 4 => ("java/lang/Throwable", "backtrace", "Ljava/lang/Object;", false)
  | _ => ("java/lang/Throwable", "depth", "I", false)
def tyJx00060 : Nat → FieldType := fun k => match k with
  | 0 => .object "java/lang/Throwable"
  | 1 => .array (.object "java/lang/StackTraceElement")
  | 2 => .object "java/util/List"
  | 3 => .object "java/lang/String"
  | 4 => .object "java/lang/Object"
  | _ => .int
abbrev wsJx000600 : List Cond := u_ws RJx00060 TJx00060 6
theorem nmJx00060 : ∀ a, a < 6 → ∀ b, b < 6 → a ≠ b → (TJx00060 a).2.1 ≠ (TJx00060 b).2.1 := by decide +kernel
theorem tyJx00060_ok : ∀ k, k < 6 → parseFieldDescriptor (TJx00060 k).2.2.1 = some (tyJx00060 k) := by decide +kernel
abbrev cJx00060_init_a7421 : ByteArray := prog_7_method_2_code
def yJx00060_init_a7421 : MethodName := ⟨RJx00060, "<init>", "(Ljava/lang/String;)V"⟩
def RJ9 : String := "java/lang/Math"
def TJ9 : u_T := fun k => match k with
  | _ => ("", "", "", false)
def tyJ9 : Nat → FieldType := fun k => match k with
  | _ => .int
abbrev wsJ90 : List Cond := u_ws RJ9 TJ9 0
theorem nmJ9 : ∀ a, a < 0 → ∀ b, b < 0 → a ≠ b → (TJ9 a).2.1 ≠ (TJ9 b).2.1 := by decide +kernel
theorem tyJ9_ok : ∀ k, k < 0 → parseFieldDescriptor (TJ9 k).2.2.1 = some (tyJ9 k) := by decide +kernel
abbrev cJ9_abs_0f7a4 : ByteArray := prog_10_method_59_code
def yJ9_abs_0f7a4 : MethodName := ⟨RJ9, "abs", "(I)I"⟩
abbrev cJ9_max_7cf53 : ByteArray := prog_10_method_65_code
def yJ9_max_7cf53 : MethodName := ⟨RJ9, "max", "(II)I"⟩
abbrev cJ9_min_7cf53 : ByteArray := prog_10_method_69_code
def yJ9_min_7cf53 : MethodName := ⟨RJ9, "min", "(II)I"⟩
def RJ0 : String := "java/lang/String"
def TJ0 : u_T := fun k => match k with
  | _ => ("", "", "", false)
def tyJ0 : Nat → FieldType := fun k => match k with
  | _ => .int
abbrev wsJ00 : List Cond := u_ws RJ0 TJ0 0
theorem nmJ0 : ∀ a, a < 0 → ∀ b, b < 0 → a ≠ b → (TJ0 a).2.1 ≠ (TJ0 b).2.1 := by decide +kernel
theorem tyJ0_ok : ∀ k, k < 0 → parseFieldDescriptor (TJ0 k).2.2.1 = some (tyJ0 k) := by decide +kernel
def RL : String := "CodePagesLaw"
abbrev cL_row : ByteArray := method_3_code
def yL_row : MethodName := ⟨RL, "row", "(LCodePages;II[J)I"⟩
abbrev cL_law : ByteArray := code
def yL_law : MethodName := ⟨RL, "law", "([I)Z"⟩
def wsX0_init : List Cond := .code yX0_init cX0_init 3 none :: ([.methodLink RX0 3 objectInit, .instanceMethod objectInit, .code objectInit ⟨#[0xb1]⟩ 1 none, .arrayClass .int, .fieldLink RX0 9 "CodePages$Order" "ranks" "[I", .arrayClass .boolean, .fieldLink RX0 15 "CodePages$Order" "inside" "[Z", .fieldLink RX0 19 "CodePages$Order" "nextRank" "I", .fieldLink RX0 23 "CodePages$Order" "alphabet" "Z"] ++ wsX00)
def wsX0_sortKey : List Cond := .code yX0_sortKey cX0_sortKey 2 (some .int) :: ([.constant RX0 31 (65536)])
def wsX0_rankBy : List Cond := .code yX0_rankBy cX0_rankBy 5 none :: ([.arrayClass .int, .fieldLink RX0 9 "CodePages$Order" "ranks" "[I", .methodLink RX0 27 yX0_sortKey, .static yX0_sortKey, .initialized RX0, .code yX0_sortKey cX0_sortKey 2 (some .int), .constant RX0 31 (65536)] ++ wsX00)
def wsX0_rankThoseOutside : List Cond := .code yX0_rankThoseOutside cX0_rankThoseOutside 3 none :: ([.fieldLink RX0 19 "CodePages$Order" "nextRank" "I", .fieldLink RX0 15 "CodePages$Order" "inside" "[Z", .fieldLink RX0 9 "CodePages$Order" "ranks" "[I"] ++ wsX00)
def wsX0_addEqual : List Cond := .code yX0_addEqual cX0_addEqual 3 (some .boolean) :: ([.fieldLink RX0 15 "CodePages$Order" "inside" "[Z", .fieldLink RX0 9 "CodePages$Order" "ranks" "[I", .methodLink RX0 32 yX0_rankThoseOutside, .instanceMethod yX0_rankThoseOutside, .selects RX0 yX0_rankThoseOutside yX0_rankThoseOutside, .initialized RX0, .code yX0_rankThoseOutside cX0_rankThoseOutside 3 none, .fieldLink RX0 19 "CodePages$Order" "nextRank" "I"] ++ wsX00)
def wsX0_addRange : List Cond := .code yX0_addRange cX0_addRange 6 (some .boolean) :: ([.methodLink RX0 35 Lib.Math.min.name, .static Lib.Math.min.name, .initialized "java/lang/Math", .code Lib.Math.min.name Lib.Math.min.code 2 (some .int), .methodLink RX0 41 Lib.Math.max.name, .static Lib.Math.max.name, .code Lib.Math.max.name Lib.Math.max.code 2 (some .int), .fieldLink RX0 15 "CodePages$Order" "inside" "[Z", .fieldLink RX0 9 "CodePages$Order" "ranks" "[I", .fieldLink RX0 19 "CodePages$Order" "nextRank" "I", .methodLink RX0 44 Lib.Math.abs.name, .static Lib.Math.abs.name, .code Lib.Math.abs.name Lib.Math.abs.code 1 (some .int), .methodLink RX0 32 yX0_rankThoseOutside, .instanceMethod yX0_rankThoseOutside, .selects RX0 yX0_rankThoseOutside yX0_rankThoseOutside, .initialized RX0, .code yX0_rankThoseOutside cX0_rankThoseOutside 3 none] ++ wsX00)
def wsX0_lastCode : List Cond := .code yX0_lastCode cX0_lastCode 3 (some .int) :: ([.fieldLink RX0 9 "CodePages$Order" "ranks" "[I"] ++ wsX00)
def wsX1_firstMeaning : List Cond := .code yX1_firstMeaning cX1_firstMeaning 2 (some .int) :: ([])
def wsX1_init : List Cond := .code yX1_init cX1_init 3 none :: ([.methodLink RX1 3 objectInit, .instanceMethod objectInit, .code objectInit ⟨#[0xb1]⟩ 1 none, .arrayClass .int, .fieldLink RX1 9 "CodePages$Page" "meanings" "[I", .fieldLink RX1 15 "CodePages$Page" "substitute" "I", .methodLink RX1 19 yX1_firstMeaning, .static yX1_firstMeaning, .initialized RX1, .code yX1_firstMeaning cX1_firstMeaning 2 (some .int)] ++ wsX10)
def wsX1_codeThatMeans : List Cond := .code yX1_codeThatMeans cX1_codeThatMeans 3 (some .int) :: ([.fieldLink RX1 9 "CodePages$Page" "meanings" "[I"] ++ wsX10)
def wsX2_init : List Cond := .code yX2_init cX2_init 1 none :: ([.methodLink RX2 3 objectInit, .instanceMethod objectInit, .code objectInit ⟨#[0xb1]⟩ 1 none, .arrayClass .int, .fieldLink RX2 9 "CodePages$Text" "codes" "[I", .fieldLink RX2 15 "CodePages$Text" "size" "I"] ++ wsX20)
def wsX2_codeOrBlank : List Cond := .code yX2_codeOrBlank cX2_codeOrBlank 2 (some .int) :: ([.fieldLink RX2 15 "CodePages$Text" "size" "I", .fieldLink RX2 9 "CodePages$Text" "codes" "[I"] ++ wsX20)
def wsX3_init : List Cond := .code yX3_init cX3_init 1 none :: ([.methodLink RX3 1 objectInit, .instanceMethod objectInit, .code objectInit ⟨#[0xb1]⟩ 1 none, .classLink RX3 9 RX1, .fieldLink RX3 11 "CodePages" "pages" "[LCodePages$Page;", .classLink RX3 15 RX0, .fieldLink RX3 17 "CodePages" "orders" "[LCodePages$Order;", .classLink RX3 21 RX2, .fieldLink RX3 23 "CodePages" "texts" "[LCodePages$Text;", .arrayClass .int, .fieldLink RX3 27 "CodePages" "listed" "[I", .fieldLink RX3 31 "CodePages" "pageCount" "I", .fieldLink RX3 35 "CodePages" "orderCount" "I", .fieldLink RX3 38 "CodePages" "textCount" "I", .fieldLink RX3 41 "CodePages" "listedCount" "I"] ++ wsX30)
def wsX3_isKind : List Cond := .code yX3_isKind cX3_isKind 1 (some .boolean) :: ([])
def wsX3_page : List Cond := .code yX3_page cX3_page 2 (some .int) :: ([.fieldLink RX3 31 "CodePages" "pageCount" "I", .fieldLink RX3 11 "CodePages" "pages" "[LCodePages$Page;", .classLink RX3 9 RX1, .instantiable RX1 2, .initialized RX1, .methodLink RX3 44 yX3_isKind, .static yX3_isKind, .initialized RX3, .code yX3_isKind cX3_isKind 1 (some .boolean), .methodLink RX3 48 yX1_init, .instanceMethod yX1_init, .code yX1_init cX1_init 3 none, .methodLink RX1 3 objectInit, .instanceMethod objectInit, .code objectInit ⟨#[0xb1]⟩ 1 none, .arrayClass .int, .fieldLink RX1 9 "CodePages$Page" "meanings" "[I", .fieldLink RX1 15 "CodePages$Page" "substitute" "I", .methodLink RX1 19 yX1_firstMeaning, .static yX1_firstMeaning, .code yX1_firstMeaning cX1_firstMeaning 2 (some .int)] ++ wsX30 ++ wsX10)
def wsX3_pageAt : List Cond := .code yX3_pageAt cX3_pageAt 2 (some (.object "CodePages$Page")) :: ([.fieldLink RX3 11 "CodePages" "pages" "[LCodePages$Page;"] ++ wsX30)
def wsX3_isCode : List Cond := .code yX3_isCode cX3_isCode 1 (some .boolean) :: ([])
def wsX3_isMeaningOrNone : List Cond := .code yX3_isMeaningOrNone cX3_isMeaningOrNone 1 (some .boolean) :: ([.constant RX3 150 (65536)])
def wsX3_set : List Cond := .code yX3_set cX3_set 6 (some .int) :: ([.fieldLink RX3 65 "CodePages$Page" "meanings" "[I", .methodLink RX3 51 yX3_pageAt, .instanceMethod yX3_pageAt, .selects RX3 yX3_pageAt yX3_pageAt, .initialized RX3, .code yX3_pageAt cX3_pageAt 2 (some (.object "CodePages$Page")), .fieldLink RX3 11 "CodePages" "pages" "[LCodePages$Page;", .methodLink RX3 55 yX3_isCode, .static yX3_isCode, .code yX3_isCode cX3_isCode 1 (some .boolean), .methodLink RX3 58 yX3_isMeaningOrNone, .static yX3_isMeaningOrNone, .code yX3_isMeaningOrNone cX3_isMeaningOrNone 1 (some .boolean), .constant RX3 150 (65536), .methodLink RX3 61 yX1_codeThatMeans, .instanceMethod yX1_codeThatMeans, .selects RX1 yX1_codeThatMeans yX1_codeThatMeans, .initialized RX1, .code yX1_codeThatMeans cX1_codeThatMeans 3 (some .int), .fieldLink RX1 9 "CodePages$Page" "meanings" "[I"] ++ wsX10 ++ wsX30)
def wsX3_row : List Cond := .code yX3_row cX3_row 4 (some .int) :: ([.classLink RX3 68 RJx00060, .instantiable RJx00060 6, .initialized RJx00060, .fieldLink RX3 65 "CodePages$Page" "meanings" "[I", .methodLink RX3 51 yX3_pageAt, .instanceMethod yX3_pageAt, .selects RX3 yX3_pageAt yX3_pageAt, .initialized RX3, .code yX3_pageAt cX3_pageAt 2 (some (.object "CodePages$Page")), .fieldLink RX3 11 "CodePages" "pages" "[LCodePages$Page;", .methodLink RX3 55 yX3_isCode, .static yX3_isCode, .code yX3_isCode cX3_isCode 1 (some .boolean)] ++ wsJx000600 ++ wsX10 ++ wsX30)
def wsX3_standIn : List Cond := .code yX3_standIn cX3_standIn 5 (some .int) :: ([.fieldLink RX3 75 "CodePages$Page" "substitute" "I", .methodLink RX3 51 yX3_pageAt, .instanceMethod yX3_pageAt, .selects RX3 yX3_pageAt yX3_pageAt, .initialized RX3, .code yX3_pageAt cX3_pageAt 2 (some (.object "CodePages$Page")), .fieldLink RX3 11 "CodePages" "pages" "[LCodePages$Page;", .methodLink RX3 55 yX3_isCode, .static yX3_isCode, .code yX3_isCode cX3_isCode 1 (some .boolean)] ++ wsX10 ++ wsX30)
def wsX3_findOrEnlist : List Cond := .code yX3_findOrEnlist cX3_findOrEnlist 5 (some .int) :: ([.fieldLink RX3 65 "CodePages$Page" "meanings" "[I", .fieldLink RX3 41 "CodePages" "listedCount" "I", .fieldLink RX3 27 "CodePages" "listed" "[I", .methodLink RX3 61 yX1_codeThatMeans, .instanceMethod yX1_codeThatMeans, .selects RX1 yX1_codeThatMeans yX1_codeThatMeans, .initialized RX1, .code yX1_codeThatMeans cX1_codeThatMeans 3 (some .int), .fieldLink RX1 9 "CodePages$Page" "meanings" "[I"] ++ wsX10 ++ wsX30)
def wsX3_translate : List Cond := .code yX3_translate cX3_translate 7 (some .int) :: ([.fieldLink RX3 75 "CodePages$Page" "substitute" "I", .methodLink RX3 51 yX3_pageAt, .instanceMethod yX3_pageAt, .selects RX3 yX3_pageAt yX3_pageAt, .initialized RX3, .code yX3_pageAt cX3_pageAt 2 (some (.object "CodePages$Page")), .fieldLink RX3 11 "CodePages" "pages" "[LCodePages$Page;", .methodLink RX3 55 yX3_isCode, .static yX3_isCode, .code yX3_isCode cX3_isCode 1 (some .boolean), .methodLink RX3 78 yX3_findOrEnlist, .instanceMethod yX3_findOrEnlist, .selects RX3 yX3_findOrEnlist yX3_findOrEnlist, .code yX3_findOrEnlist cX3_findOrEnlist 5 (some .int), .fieldLink RX3 65 "CodePages$Page" "meanings" "[I", .fieldLink RX3 41 "CodePages" "listedCount" "I", .fieldLink RX3 27 "CodePages" "listed" "[I", .methodLink RX3 61 yX1_codeThatMeans, .instanceMethod yX1_codeThatMeans, .selects RX1 yX1_codeThatMeans yX1_codeThatMeans, .initialized RX1, .code yX1_codeThatMeans cX1_codeThatMeans 3 (some .int), .fieldLink RX1 9 "CodePages$Page" "meanings" "[I"] ++ wsX10 ++ wsX30)
def wsX3_told : List Cond := .code yX3_told cX3_told 2 (some .int) :: ([.fieldLink RX3 41 "CodePages" "listedCount" "I", .fieldLink RX3 27 "CodePages" "listed" "[I"] ++ wsX30)
def wsX3_order_r1 : List Cond := [Cond.fieldLink RX3 35 "CodePages" "orderCount" "I", Cond.classLink RX3 15 RX0, Cond.instantiable RX0 4, Cond.initialized RX0, Cond.fieldLink RX3 65 "CodePages$Page" "meanings" "[I", Cond.fieldLink RX3 17 "CodePages" "orders" "[LCodePages$Order;", Cond.methodLink RX3 44 yX3_isKind, Cond.static yX3_isKind, Cond.initialized RX3, Cond.code yX3_isKind cX3_isKind 1 (some .boolean), Cond.methodLink RX3 82 yX0_init, Cond.instanceMethod yX0_init, Cond.code yX0_init cX0_init 3 none, Cond.methodLink RX0 3 objectInit, Cond.instanceMethod objectInit, Cond.code objectInit ⟨#[0xb1]⟩ 1 none, Cond.arrayClass .int, Cond.fieldLink RX0 9 "CodePages$Order" "ranks" "[I", Cond.arrayClass .boolean, Cond.fieldLink RX0 15 "CodePages$Order" "inside" "[Z", Cond.fieldLink RX0 19 "CodePages$Order" "nextRank" "I", Cond.fieldLink RX0 23 "CodePages$Order" "alphabet" "Z", Cond.methodLink RX3 51 yX3_pageAt, Cond.instanceMethod yX3_pageAt]
def wsX3_order_r2 : List Cond := [Cond.selects RX3 yX3_pageAt yX3_pageAt, Cond.code yX3_pageAt cX3_pageAt 2 (some (.object "CodePages$Page")), Cond.fieldLink RX3 11 "CodePages" "pages" "[LCodePages$Page;", Cond.methodLink RX3 85 yX0_rankBy, Cond.instanceMethod yX0_rankBy, Cond.selects RX0 yX0_rankBy yX0_rankBy, Cond.code yX0_rankBy cX0_rankBy 5 none, Cond.methodLink RX0 27 yX0_sortKey, Cond.static yX0_sortKey, Cond.code yX0_sortKey cX0_sortKey 2 (some .int), Cond.constant RX0 31 (65536)]
def wsX3_order : List Cond := .code yX3_order cX3_order 4 (some .int) :: ((wsX3_order_r1 ++ wsX3_order_r2) ++ wsX30 ++ wsX00 ++ wsX10)
def wsX3_orderAt : List Cond := .code yX3_orderAt cX3_orderAt 2 (some (.object "CodePages$Order")) :: ([.fieldLink RX3 17 "CodePages" "orders" "[LCodePages$Order;"] ++ wsX30)
def wsX3_alphabetRefusal : List Cond := .code yX3_alphabetRefusal cX3_alphabetRefusal 3 (some .int) :: ([.methodLink RX3 55 yX3_isCode, .static yX3_isCode, .initialized RX3, .code yX3_isCode cX3_isCode 1 (some .boolean)])
def wsX3_also_r1 : List Cond := [Cond.fieldLink RX3 93 "CodePages$Order" "alphabet" "Z", Cond.methodLink RX3 89 yX3_orderAt, Cond.instanceMethod yX3_orderAt, Cond.selects RX3 yX3_orderAt yX3_orderAt, Cond.initialized RX3, Cond.code yX3_orderAt cX3_orderAt 2 (some (.object "CodePages$Order")), Cond.fieldLink RX3 17 "CodePages" "orders" "[LCodePages$Order;", Cond.methodLink RX3 97 yX3_alphabetRefusal, Cond.static yX3_alphabetRefusal, Cond.code yX3_alphabetRefusal cX3_alphabetRefusal 3 (some .int), Cond.methodLink RX3 55 yX3_isCode, Cond.static yX3_isCode, Cond.code yX3_isCode cX3_isCode 1 (some .boolean), Cond.methodLink RX3 101 yX0_addEqual, Cond.instanceMethod yX0_addEqual, Cond.selects RX0 yX0_addEqual yX0_addEqual, Cond.initialized RX0, Cond.code yX0_addEqual cX0_addEqual 3 (some .boolean), Cond.fieldLink RX0 15 "CodePages$Order" "inside" "[Z", Cond.fieldLink RX0 9 "CodePages$Order" "ranks" "[I", Cond.methodLink RX0 32 yX0_rankThoseOutside, Cond.instanceMethod yX0_rankThoseOutside, Cond.selects RX0 yX0_rankThoseOutside yX0_rankThoseOutside, Cond.code yX0_rankThoseOutside cX0_rankThoseOutside 3 none]
def wsX3_also_r2 : List Cond := [Cond.fieldLink RX0 19 "CodePages$Order" "nextRank" "I"]
def wsX3_also : List Cond := .code yX3_also cX3_also 6 (some .int) :: ((wsX3_also_r1 ++ wsX3_also_r2) ++ wsX00 ++ wsX30)
def wsX3_through_r1 : List Cond := [Cond.fieldLink RX3 93 "CodePages$Order" "alphabet" "Z", Cond.methodLink RX3 108 Lib.Math.abs.name, Cond.static Lib.Math.abs.name, Cond.initialized "java/lang/Math", Cond.code Lib.Math.abs.name Lib.Math.abs.code 1 (some .int), Cond.methodLink RX3 89 yX3_orderAt, Cond.instanceMethod yX3_orderAt, Cond.selects RX3 yX3_orderAt yX3_orderAt, Cond.initialized RX3, Cond.code yX3_orderAt cX3_orderAt 2 (some (.object "CodePages$Order")), Cond.fieldLink RX3 17 "CodePages" "orders" "[LCodePages$Order;", Cond.methodLink RX3 97 yX3_alphabetRefusal, Cond.static yX3_alphabetRefusal, Cond.code yX3_alphabetRefusal cX3_alphabetRefusal 3 (some .int), Cond.methodLink RX3 55 yX3_isCode, Cond.static yX3_isCode, Cond.code yX3_isCode cX3_isCode 1 (some .boolean), Cond.methodLink RX3 105 yX0_addRange, Cond.instanceMethod yX0_addRange, Cond.selects RX0 yX0_addRange yX0_addRange, Cond.initialized RX0, Cond.code yX0_addRange cX0_addRange 6 (some .boolean), Cond.methodLink RX0 35 Lib.Math.min.name, Cond.static Lib.Math.min.name]
def wsX3_through_r2 : List Cond := [Cond.code Lib.Math.min.name Lib.Math.min.code 2 (some .int), Cond.methodLink RX0 41 Lib.Math.max.name, Cond.static Lib.Math.max.name, Cond.code Lib.Math.max.name Lib.Math.max.code 2 (some .int), Cond.fieldLink RX0 15 "CodePages$Order" "inside" "[Z", Cond.fieldLink RX0 9 "CodePages$Order" "ranks" "[I", Cond.fieldLink RX0 19 "CodePages$Order" "nextRank" "I", Cond.methodLink RX0 44 Lib.Math.abs.name, Cond.methodLink RX0 32 yX0_rankThoseOutside, Cond.instanceMethod yX0_rankThoseOutside, Cond.selects RX0 yX0_rankThoseOutside yX0_rankThoseOutside, Cond.code yX0_rankThoseOutside cX0_rankThoseOutside 3 none]
def wsX3_through : List Cond := .code yX3_through cX3_through 6 (some .int) :: ((wsX3_through_r1 ++ wsX3_through_r2) ++ wsX00 ++ wsX30)
def wsX3_text : List Cond := .code yX3_text cX3_text 1 (some .int) :: ([.fieldLink RX3 38 "CodePages" "textCount" "I", .fieldLink RX3 23 "CodePages" "texts" "[LCodePages$Text;", .classLink RX3 21 RX2, .instantiable RX2 2, .initialized RX2, .instanceMethod yX2_init, .code yX2_init cX2_init 1 none, .methodLink RX2 3 objectInit, .instanceMethod objectInit, .code objectInit ⟨#[0xb1]⟩ 1 none, .arrayClass .int, .fieldLink RX2 9 "CodePages$Text" "codes" "[I", .fieldLink RX2 15 "CodePages$Text" "size" "I"] ++ wsX30 ++ wsX20)
def wsX3_textAt : List Cond := .code yX3_textAt cX3_textAt 2 (some (.object "CodePages$Text")) :: ([.fieldLink RX3 23 "CodePages" "texts" "[LCodePages$Text;"] ++ wsX30)
def wsX3_sign : List Cond := .code yX3_sign cX3_sign 4 (some .int) :: ([.fieldLink RX3 118 "CodePages$Text" "size" "I", .fieldLink RX3 121 "CodePages$Text" "codes" "[I", .methodLink RX3 114 yX3_textAt, .instanceMethod yX3_textAt, .selects RX3 yX3_textAt yX3_textAt, .initialized RX3, .code yX3_textAt cX3_textAt 2 (some (.object "CodePages$Text")), .fieldLink RX3 23 "CodePages" "texts" "[LCodePages$Text;", .methodLink RX3 55 yX3_isCode, .static yX3_isCode, .code yX3_isCode cX3_isCode 1 (some .boolean)] ++ wsX20 ++ wsX30)
def wsX3_whole_r1 : List Cond := [Cond.fieldLink RX3 118 "CodePages$Text" "size" "I", Cond.fieldLink RX3 121 "CodePages$Text" "codes" "[I", Cond.fieldLink RX3 75 "CodePages$Page" "substitute" "I", Cond.methodLink RX3 114 yX3_textAt, Cond.instanceMethod yX3_textAt, Cond.selects RX3 yX3_textAt yX3_textAt, Cond.initialized RX3, Cond.code yX3_textAt cX3_textAt 2 (some (.object "CodePages$Text")), Cond.fieldLink RX3 23 "CodePages" "texts" "[LCodePages$Text;", Cond.methodLink RX3 51 yX3_pageAt, Cond.instanceMethod yX3_pageAt, Cond.selects RX3 yX3_pageAt yX3_pageAt, Cond.code yX3_pageAt cX3_pageAt 2 (some (.object "CodePages$Page")), Cond.fieldLink RX3 11 "CodePages" "pages" "[LCodePages$Page;", Cond.methodLink RX3 78 yX3_findOrEnlist, Cond.instanceMethod yX3_findOrEnlist, Cond.selects RX3 yX3_findOrEnlist yX3_findOrEnlist, Cond.code yX3_findOrEnlist cX3_findOrEnlist 5 (some .int), Cond.fieldLink RX3 65 "CodePages$Page" "meanings" "[I", Cond.fieldLink RX3 41 "CodePages" "listedCount" "I", Cond.fieldLink RX3 27 "CodePages" "listed" "[I", Cond.methodLink RX3 61 yX1_codeThatMeans, Cond.instanceMethod yX1_codeThatMeans, Cond.selects RX1 yX1_codeThatMeans yX1_codeThatMeans]
def wsX3_whole_r2 : List Cond := [Cond.initialized RX1, Cond.code yX1_codeThatMeans cX1_codeThatMeans 3 (some .int), Cond.fieldLink RX1 9 "CodePages$Page" "meanings" "[I"]
def wsX3_whole : List Cond := .code yX3_whole cX3_whole 10 (some .int) :: ((wsX3_whole_r1 ++ wsX3_whole_r2) ++ wsX20 ++ wsX10 ++ wsX30)
def wsX3_at : List Cond := .code yX3_at cX3_at 4 (some .int) :: ([.fieldLink RX3 118 "CodePages$Text" "size" "I", .fieldLink RX3 121 "CodePages$Text" "codes" "[I", .methodLink RX3 114 yX3_textAt, .instanceMethod yX3_textAt, .selects RX3 yX3_textAt yX3_textAt, .initialized RX3, .code yX3_textAt cX3_textAt 2 (some (.object "CodePages$Text")), .fieldLink RX3 23 "CodePages" "texts" "[LCodePages$Text;"] ++ wsX20 ++ wsX30)
def wsX3_compare : List Cond := .code yX3_compare cX3_compare 11 (some .int) :: ([.fieldLink RX3 118 "CodePages$Text" "size" "I", .methodLink RX3 124 Lib.Math.max.name, .static Lib.Math.max.name, .initialized "java/lang/Math", .code Lib.Math.max.name Lib.Math.max.code 2 (some .int), .fieldLink RX3 128 "CodePages$Order" "ranks" "[I", .methodLink RX3 89 yX3_orderAt, .instanceMethod yX3_orderAt, .selects RX3 yX3_orderAt yX3_orderAt, .initialized RX3, .code yX3_orderAt cX3_orderAt 2 (some (.object "CodePages$Order")), .fieldLink RX3 17 "CodePages" "orders" "[LCodePages$Order;", .methodLink RX3 114 yX3_textAt, .instanceMethod yX3_textAt, .selects RX3 yX3_textAt yX3_textAt, .code yX3_textAt cX3_textAt 2 (some (.object "CodePages$Text")), .fieldLink RX3 23 "CodePages" "texts" "[LCodePages$Text;", .methodLink RX3 131 yX2_codeOrBlank, .instanceMethod yX2_codeOrBlank, .selects RX2 yX2_codeOrBlank yX2_codeOrBlank, .initialized RX2, .code yX2_codeOrBlank cX2_codeOrBlank 2 (some .int), .fieldLink RX2 15 "CodePages$Text" "size" "I", .fieldLink RX2 9 "CodePages$Text" "codes" "[I"] ++ wsX20 ++ wsX00 ++ wsX30)
def wsX3_isGreatLetter : List Cond := .code yX3_isGreatLetter cX3_isGreatLetter 1 (some .boolean) :: ([])
def wsX3_isSmallLetter : List Cond := .code yX3_isSmallLetter cX3_isSmallLetter 1 (some .boolean) :: ([])
def wsX3_cls : List Cond := .code yX3_cls cX3_cls 3 (some .boolean) :: ([.methodLink RX3 134 yX3_isGreatLetter, .static yX3_isGreatLetter, .initialized RX3, .code yX3_isGreatLetter cX3_isGreatLetter 1 (some .boolean), .methodLink RX3 137 yX3_isSmallLetter, .static yX3_isSmallLetter, .code yX3_isSmallLetter cX3_isSmallLetter 1 (some .boolean)])
def wsX3_hexDigit : List Cond := .code yX3_hexDigit cX3_hexDigit 1 (some .int) :: ([])
def wsX3_halfAsSign : List Cond := .code yX3_halfAsSign cX3_halfAsSign 1 (some .int) :: ([])
def wsX3_print : List Cond := .code yX3_print cX3_print 3 (some .byte) :: ([.methodLink RX3 55 yX3_isCode, .static yX3_isCode, .initialized RX3, .code yX3_isCode cX3_isCode 1 (some .boolean), .methodLink RX3 140 yX3_hexDigit, .static yX3_hexDigit, .code yX3_hexDigit cX3_hexDigit 1 (some .int), .methodLink RX3 143 yX3_halfAsSign, .static yX3_halfAsSign, .code yX3_halfAsSign cX3_halfAsSign 1 (some .int)])
def wsX3_high : List Cond := .code yX3_high cX3_high 3 (some .int) :: ([.methodLink RX3 89 yX3_orderAt, .instanceMethod yX3_orderAt, .selects RX3 yX3_orderAt yX3_orderAt, .initialized RX3, .code yX3_orderAt cX3_orderAt 2 (some (.object "CodePages$Order")), .fieldLink RX3 17 "CodePages" "orders" "[LCodePages$Order;", .methodLink RX3 146 yX0_lastCode, .instanceMethod yX0_lastCode, .selects RX0 yX0_lastCode yX0_lastCode, .initialized RX0, .code yX0_lastCode cX0_lastCode 3 (some .int), .fieldLink RX0 9 "CodePages$Order" "ranks" "[I"] ++ wsX30 ++ wsX00)
def wsX3_rank : List Cond := .code yX3_rank cX3_rank 4 (some .int) :: ([.fieldLink RX3 128 "CodePages$Order" "ranks" "[I", .methodLink RX3 89 yX3_orderAt, .instanceMethod yX3_orderAt, .selects RX3 yX3_orderAt yX3_orderAt, .initialized RX3, .code yX3_orderAt cX3_orderAt 2 (some (.object "CodePages$Order")), .fieldLink RX3 17 "CodePages" "orders" "[LCodePages$Order;", .methodLink RX3 55 yX3_isCode, .static yX3_isCode, .code yX3_isCode cX3_isCode 1 (some .boolean)] ++ wsX00 ++ wsX30)
def wsX4_init : List Cond := .code yX4_init cX4_init 1 none :: ([.methodLink RX4 1 objectInit, .instanceMethod objectInit, .code objectInit ⟨#[0xb1]⟩ 1 none, .arrayClass .int, .fieldLink RX4 7 "CodePagesModel" "means" "[I", .fieldLink RX4 13 "CodePagesModel" "standIns" "[I", .fieldLink RX4 16 "CodePagesModel" "kinds" "[I", .fieldLink RX4 19 "CodePagesModel" "ranks" "[I", .fieldLink RX4 22 "CodePagesModel" "next" "[I", .fieldLink RX4 25 "CodePagesModel" "texts" "[I", .fieldLink RX4 28 "CodePagesModel" "lengths" "[I", .fieldLink RX4 31 "CodePagesModel" "listed" "[I"] ++ wsX40)
def wsX4_thrown : List Cond := .code yX4_thrown cX4_thrown 1 (some .int) :: ([.fieldLink RX4 34 "CodePagesModel" "code" "I"] ++ wsX40)
def wsX4_isCode : List Cond := .code yX4_isCode cX4_isCode 1 (some .boolean) :: ([])
def wsX4_isPage : List Cond := .code yX4_isPage cX4_isPage 2 (some .boolean) :: ([.fieldLink RX4 38 "CodePagesModel" "pages" "I"] ++ wsX40)
def wsX4_isOrder : List Cond := .code yX4_isOrder cX4_isOrder 2 (some .boolean) :: ([.fieldLink RX4 41 "CodePagesModel" "orders" "I"] ++ wsX40)
def wsX4_isText : List Cond := .code yX4_isText cX4_isText 2 (some .boolean) :: ([.fieldLink RX4 44 "CodePagesModel" "many" "I"] ++ wsX40)
def wsX4_page : List Cond := .code yX4_page cX4_page 3 (some .int) :: ([.fieldLink RX4 34 "CodePagesModel" "code" "I", .fieldLink RX4 38 "CodePagesModel" "pages" "I", .fieldLink RX4 7 "CodePagesModel" "means" "[I", .fieldLink RX4 13 "CodePagesModel" "standIns" "[I"] ++ wsX40)
def wsX4_codeOf : List Cond := .code yX4_codeOf cX4_codeOf 5 (some .int) :: ([.fieldLink RX4 7 "CodePagesModel" "means" "[I"] ++ wsX40)
def wsX4_set : List Cond := .code yX4_set cX4_set 5 (some .int) :: ([.fieldLink RX4 34 "CodePagesModel" "code" "I", .constant RX4 54 (65535), .fieldLink RX4 7 "CodePagesModel" "means" "[I", .methodLink RX4 47 yX4_isPage, .instanceMethod yX4_isPage, .selects RX4 yX4_isPage yX4_isPage, .initialized RX4, .code yX4_isPage cX4_isPage 2 (some .boolean), .fieldLink RX4 38 "CodePagesModel" "pages" "I", .methodLink RX4 51 yX4_isCode, .static yX4_isCode, .code yX4_isCode cX4_isCode 1 (some .boolean), .methodLink RX4 55 yX4_codeOf, .instanceMethod yX4_codeOf, .selects RX4 yX4_codeOf yX4_codeOf, .code yX4_codeOf cX4_codeOf 5 (some .int)] ++ wsX40)
def wsX4_row : List Cond := .code yX4_row cX4_row 4 (some .int) :: ([.fieldLink RX4 34 "CodePagesModel" "code" "I", .fieldLink RX4 7 "CodePagesModel" "means" "[I", .methodLink RX4 47 yX4_isPage, .instanceMethod yX4_isPage, .selects RX4 yX4_isPage yX4_isPage, .initialized RX4, .code yX4_isPage cX4_isPage 2 (some .boolean), .fieldLink RX4 38 "CodePagesModel" "pages" "I", .methodLink RX4 51 yX4_isCode, .static yX4_isCode, .code yX4_isCode cX4_isCode 1 (some .boolean)] ++ wsX40)
def wsX4_standIn : List Cond := .code yX4_standIn cX4_standIn 4 (some .int) :: ([.fieldLink RX4 34 "CodePagesModel" "code" "I", .fieldLink RX4 13 "CodePagesModel" "standIns" "[I", .methodLink RX4 47 yX4_isPage, .instanceMethod yX4_isPage, .selects RX4 yX4_isPage yX4_isPage, .initialized RX4, .code yX4_isPage cX4_isPage 2 (some .boolean), .fieldLink RX4 38 "CodePagesModel" "pages" "I", .methodLink RX4 51 yX4_isCode, .static yX4_isCode, .code yX4_isCode cX4_isCode 1 (some .boolean)] ++ wsX40)
def wsX4_translated : List Cond := .code yX4_translated cX4_translated 6 (some .int) :: ([.fieldLink RX4 7 "CodePagesModel" "means" "[I", .fieldLink RX4 59 "CodePagesModel" "list" "I", .fieldLink RX4 31 "CodePagesModel" "listed" "[I", .fieldLink RX4 62 "CodePagesModel" "count" "I", .fieldLink RX4 13 "CodePagesModel" "standIns" "[I", .methodLink RX4 55 yX4_codeOf, .instanceMethod yX4_codeOf, .selects RX4 yX4_codeOf yX4_codeOf, .initialized RX4, .code yX4_codeOf cX4_codeOf 5 (some .int)] ++ wsX40)
def wsX4_translate : List Cond := .code yX4_translate cX4_translate 4 (some .int) :: ([.fieldLink RX4 34 "CodePagesModel" "code" "I", .methodLink RX4 47 yX4_isPage, .instanceMethod yX4_isPage, .selects RX4 yX4_isPage yX4_isPage, .initialized RX4, .code yX4_isPage cX4_isPage 2 (some .boolean), .fieldLink RX4 38 "CodePagesModel" "pages" "I", .methodLink RX4 51 yX4_isCode, .static yX4_isCode, .code yX4_isCode cX4_isCode 1 (some .boolean), .methodLink RX4 65 yX4_translated, .instanceMethod yX4_translated, .selects RX4 yX4_translated yX4_translated, .code yX4_translated cX4_translated 6 (some .int), .fieldLink RX4 7 "CodePagesModel" "means" "[I", .fieldLink RX4 59 "CodePagesModel" "list" "I", .fieldLink RX4 31 "CodePagesModel" "listed" "[I", .fieldLink RX4 62 "CodePagesModel" "count" "I", .fieldLink RX4 13 "CodePagesModel" "standIns" "[I", .methodLink RX4 55 yX4_codeOf, .instanceMethod yX4_codeOf, .selects RX4 yX4_codeOf yX4_codeOf, .code yX4_codeOf cX4_codeOf 5 (some .int)] ++ wsX40)
def wsX4_told : List Cond := .code yX4_told cX4_told 2 (some .int) :: ([.fieldLink RX4 34 "CodePagesModel" "code" "I", .fieldLink RX4 59 "CodePagesModel" "list" "I", .fieldLink RX4 31 "CodePagesModel" "listed" "[I"] ++ wsX40)
def wsX4_meant : List Cond := .code yX4_meant cX4_meant 5 (some .int) :: ([.fieldLink RX4 38 "CodePagesModel" "pages" "I", .fieldLink RX4 7 "CodePagesModel" "means" "[I"] ++ wsX40)
def wsX4_order : List Cond := .code yX4_order cX4_order 3 (some .int) :: ([.fieldLink RX4 34 "CodePagesModel" "code" "I", .fieldLink RX4 41 "CodePagesModel" "orders" "I", .fieldLink RX4 16 "CodePagesModel" "kinds" "[I", .fieldLink RX4 22 "CodePagesModel" "next" "[I", .fieldLink RX4 19 "CodePagesModel" "ranks" "[I", .methodLink RX4 69 yX4_meant, .instanceMethod yX4_meant, .selects RX4 yX4_meant yX4_meant, .initialized RX4, .code yX4_meant cX4_meant 5 (some .int), .fieldLink RX4 38 "CodePagesModel" "pages" "I", .fieldLink RX4 7 "CodePagesModel" "means" "[I"] ++ wsX40)
def wsX4_rankOf : List Cond := .code yX4_rankOf cX4_rankOf 6 (some .int) :: ([.fieldLink RX4 19 "CodePagesModel" "ranks" "[I", .fieldLink RX4 16 "CodePagesModel" "kinds" "[I", .fieldLink RX4 22 "CodePagesModel" "next" "[I"] ++ wsX40)
def wsX4_refusal : List Cond := .code yX4_refusal cX4_refusal 4 (some .int) :: ([.fieldLink RX4 16 "CodePagesModel" "kinds" "[I", .methodLink RX4 73 yX4_isOrder, .instanceMethod yX4_isOrder, .selects RX4 yX4_isOrder yX4_isOrder, .initialized RX4, .code yX4_isOrder cX4_isOrder 2 (some .boolean), .fieldLink RX4 41 "CodePagesModel" "orders" "I", .methodLink RX4 51 yX4_isCode, .static yX4_isCode, .code yX4_isCode cX4_isCode 1 (some .boolean)] ++ wsX40)
def wsX4_also : List Cond := .code yX4_also cX4_also 5 (some .int) :: ([.fieldLink RX4 34 "CodePagesModel" "code" "I", .fieldLink RX4 19 "CodePagesModel" "ranks" "[I", .methodLink RX4 76 yX4_refusal, .instanceMethod yX4_refusal, .selects RX4 yX4_refusal yX4_refusal, .initialized RX4, .code yX4_refusal cX4_refusal 4 (some .int), .fieldLink RX4 16 "CodePagesModel" "kinds" "[I", .methodLink RX4 73 yX4_isOrder, .instanceMethod yX4_isOrder, .selects RX4 yX4_isOrder yX4_isOrder, .code yX4_isOrder cX4_isOrder 2 (some .boolean), .fieldLink RX4 41 "CodePagesModel" "orders" "I", .methodLink RX4 51 yX4_isCode, .static yX4_isCode, .code yX4_isCode cX4_isCode 1 (some .boolean)] ++ wsX40)
def wsX4_through : List Cond := .code yX4_through cX4_through 8 (some .int) :: ([.fieldLink RX4 34 "CodePagesModel" "code" "I", .fieldLink RX4 19 "CodePagesModel" "ranks" "[I", .fieldLink RX4 22 "CodePagesModel" "next" "[I", .methodLink RX4 76 yX4_refusal, .instanceMethod yX4_refusal, .selects RX4 yX4_refusal yX4_refusal, .initialized RX4, .code yX4_refusal cX4_refusal 4 (some .int), .fieldLink RX4 16 "CodePagesModel" "kinds" "[I", .methodLink RX4 73 yX4_isOrder, .instanceMethod yX4_isOrder, .selects RX4 yX4_isOrder yX4_isOrder, .code yX4_isOrder cX4_isOrder 2 (some .boolean), .fieldLink RX4 41 "CodePagesModel" "orders" "I", .methodLink RX4 51 yX4_isCode, .static yX4_isCode, .code yX4_isCode cX4_isCode 1 (some .boolean)] ++ wsX40)
def wsX4_rank : List Cond := .code yX4_rank cX4_rank 3 (some .int) :: ([.fieldLink RX4 34 "CodePagesModel" "code" "I", .methodLink RX4 73 yX4_isOrder, .instanceMethod yX4_isOrder, .selects RX4 yX4_isOrder yX4_isOrder, .initialized RX4, .code yX4_isOrder cX4_isOrder 2 (some .boolean), .fieldLink RX4 41 "CodePagesModel" "orders" "I", .methodLink RX4 51 yX4_isCode, .static yX4_isCode, .code yX4_isCode cX4_isCode 1 (some .boolean), .methodLink RX4 79 yX4_rankOf, .instanceMethod yX4_rankOf, .selects RX4 yX4_rankOf yX4_rankOf, .code yX4_rankOf cX4_rankOf 6 (some .int), .fieldLink RX4 19 "CodePagesModel" "ranks" "[I", .fieldLink RX4 16 "CodePagesModel" "kinds" "[I", .fieldLink RX4 22 "CodePagesModel" "next" "[I"] ++ wsX40)
def wsX4_high : List Cond := .code yX4_high cX4_high 4 (some .int) :: ([.fieldLink RX4 34 "CodePagesModel" "code" "I", .methodLink RX4 73 yX4_isOrder, .instanceMethod yX4_isOrder, .selects RX4 yX4_isOrder yX4_isOrder, .initialized RX4, .code yX4_isOrder cX4_isOrder 2 (some .boolean), .fieldLink RX4 41 "CodePagesModel" "orders" "I", .methodLink RX4 79 yX4_rankOf, .instanceMethod yX4_rankOf, .selects RX4 yX4_rankOf yX4_rankOf, .code yX4_rankOf cX4_rankOf 6 (some .int), .fieldLink RX4 19 "CodePagesModel" "ranks" "[I", .fieldLink RX4 16 "CodePagesModel" "kinds" "[I", .fieldLink RX4 22 "CodePagesModel" "next" "[I"] ++ wsX40)
def wsX4_text : List Cond := .code yX4_text cX4_text 1 (some .int) :: ([.fieldLink RX4 34 "CodePagesModel" "code" "I", .fieldLink RX4 44 "CodePagesModel" "many" "I"] ++ wsX40)
def wsX4_sign : List Cond := .code yX4_sign cX4_sign 3 (some .int) :: ([.fieldLink RX4 34 "CodePagesModel" "code" "I", .fieldLink RX4 28 "CodePagesModel" "lengths" "[I", .fieldLink RX4 25 "CodePagesModel" "texts" "[I", .methodLink RX4 82 yX4_isText, .instanceMethod yX4_isText, .selects RX4 yX4_isText yX4_isText, .initialized RX4, .code yX4_isText cX4_isText 2 (some .boolean), .fieldLink RX4 44 "CodePagesModel" "many" "I", .methodLink RX4 51 yX4_isCode, .static yX4_isCode, .code yX4_isCode cX4_isCode 1 (some .boolean)] ++ wsX40)
def wsX4_whole_r1 : List Cond := [Cond.fieldLink RX4 34 "CodePagesModel" "code" "I", Cond.fieldLink RX4 62 "CodePagesModel" "count" "I", Cond.fieldLink RX4 28 "CodePagesModel" "lengths" "[I", Cond.fieldLink RX4 25 "CodePagesModel" "texts" "[I", Cond.methodLink RX4 82 yX4_isText, Cond.instanceMethod yX4_isText, Cond.selects RX4 yX4_isText yX4_isText, Cond.initialized RX4, Cond.code yX4_isText cX4_isText 2 (some .boolean), Cond.fieldLink RX4 44 "CodePagesModel" "many" "I", Cond.methodLink RX4 47 yX4_isPage, Cond.instanceMethod yX4_isPage, Cond.selects RX4 yX4_isPage yX4_isPage, Cond.code yX4_isPage cX4_isPage 2 (some .boolean), Cond.fieldLink RX4 38 "CodePagesModel" "pages" "I", Cond.methodLink RX4 65 yX4_translated, Cond.instanceMethod yX4_translated, Cond.selects RX4 yX4_translated yX4_translated, Cond.code yX4_translated cX4_translated 6 (some .int), Cond.fieldLink RX4 7 "CodePagesModel" "means" "[I", Cond.fieldLink RX4 59 "CodePagesModel" "list" "I", Cond.fieldLink RX4 31 "CodePagesModel" "listed" "[I", Cond.fieldLink RX4 13 "CodePagesModel" "standIns" "[I", Cond.methodLink RX4 55 yX4_codeOf]
def wsX4_whole_r2 : List Cond := [Cond.instanceMethod yX4_codeOf, Cond.selects RX4 yX4_codeOf yX4_codeOf, Cond.code yX4_codeOf cX4_codeOf 5 (some .int)]
def wsX4_whole : List Cond := .code yX4_whole cX4_whole 6 (some .int) :: ((wsX4_whole_r1 ++ wsX4_whole_r2) ++ wsX40)
def wsX4_at : List Cond := .code yX4_at cX4_at 3 (some .int) :: ([.fieldLink RX4 34 "CodePagesModel" "code" "I", .fieldLink RX4 28 "CodePagesModel" "lengths" "[I", .fieldLink RX4 25 "CodePagesModel" "texts" "[I", .methodLink RX4 82 yX4_isText, .instanceMethod yX4_isText, .selects RX4 yX4_isText yX4_isText, .initialized RX4, .code yX4_isText cX4_isText 2 (some .boolean), .fieldLink RX4 44 "CodePagesModel" "many" "I"] ++ wsX40)
def wsX4_readAt : List Cond := .code yX4_readAt cX4_readAt 3 (some .int) :: ([.fieldLink RX4 28 "CodePagesModel" "lengths" "[I", .fieldLink RX4 25 "CodePagesModel" "texts" "[I"] ++ wsX40)
def wsX4_compare_r1 : List Cond := [Cond.fieldLink RX4 34 "CodePagesModel" "code" "I", Cond.methodLink RX4 73 yX4_isOrder, Cond.instanceMethod yX4_isOrder, Cond.selects RX4 yX4_isOrder yX4_isOrder, Cond.initialized RX4, Cond.code yX4_isOrder cX4_isOrder 2 (some .boolean), Cond.fieldLink RX4 41 "CodePagesModel" "orders" "I", Cond.methodLink RX4 82 yX4_isText, Cond.instanceMethod yX4_isText, Cond.selects RX4 yX4_isText yX4_isText, Cond.code yX4_isText cX4_isText 2 (some .boolean), Cond.fieldLink RX4 44 "CodePagesModel" "many" "I", Cond.methodLink RX4 85 yX4_readAt, Cond.instanceMethod yX4_readAt, Cond.selects RX4 yX4_readAt yX4_readAt, Cond.code yX4_readAt cX4_readAt 3 (some .int), Cond.fieldLink RX4 28 "CodePagesModel" "lengths" "[I", Cond.fieldLink RX4 25 "CodePagesModel" "texts" "[I", Cond.methodLink RX4 79 yX4_rankOf, Cond.instanceMethod yX4_rankOf, Cond.selects RX4 yX4_rankOf yX4_rankOf, Cond.code yX4_rankOf cX4_rankOf 6 (some .int), Cond.fieldLink RX4 19 "CodePagesModel" "ranks" "[I", Cond.fieldLink RX4 16 "CodePagesModel" "kinds" "[I"]
def wsX4_compare_r2 : List Cond := [Cond.fieldLink RX4 22 "CodePagesModel" "next" "[I"]
def wsX4_compare : List Cond := .code yX4_compare cX4_compare 7 (some .int) :: ((wsX4_compare_r1 ++ wsX4_compare_r2) ++ wsX40)
def wsX4_cls : List Cond := .code yX4_cls cX4_cls 5 (some .boolean) :: ([.fieldLink RX4 34 "CodePagesModel" "code" "I"] ++ wsX40)
def wsX4_half : List Cond := .code yX4_half cX4_half 1 (some .byte) :: ([])
def wsX4_print : List Cond := .code yX4_print cX4_print 4 (some .byte) :: ([.fieldLink RX4 34 "CodePagesModel" "code" "I", .methodLink RX4 51 yX4_isCode, .static yX4_isCode, .initialized RX4, .code yX4_isCode cX4_isCode 1 (some .boolean), .methodLink RX4 88 yX4_half, .static yX4_half, .code yX4_half cX4_half 1 (some .byte)] ++ wsX40)
def wsJx00060_init_a7421 : List Cond := .code yJx00060_init_a7421 cJx00060_init_a7421 2 none :: ([])
def wsJ9_abs_0f7a4 : List Cond := .code yJ9_abs_0f7a4 cJ9_abs_0f7a4 1 (some .int) :: ([])
def wsJ9_max_7cf53 : List Cond := .code yJ9_max_7cf53 cJ9_max_7cf53 2 (some .int) :: ([])
def wsJ9_min_7cf53 : List Cond := .code yJ9_min_7cf53 cJ9_min_7cf53 2 (some .int) :: ([])
def wsL_row : List Cond := .codeWith yL_row cL_row 5 (some .int) [(0, 10, 13, 13)] :: ([.methodLink RL 7 yX3_row, .instanceMethod yX3_row, .selects RX3 yX3_row yX3_row, .initialized RX3, .code yX3_row cX3_row 4 (some .int), .classLink RX3 68 RJx00060, .instantiable RJx00060 6, .initialized RJx00060, .fieldLink RX3 65 "CodePages$Page" "meanings" "[I", .methodLink RX3 51 yX3_pageAt, .instanceMethod yX3_pageAt, .selects RX3 yX3_pageAt yX3_pageAt, .code yX3_pageAt cX3_pageAt 2 (some (.object "CodePages$Page")), .fieldLink RX3 11 "CodePages" "pages" "[LCodePages$Page;", .methodLink RX3 55 yX3_isCode, .static yX3_isCode, .code yX3_isCode cX3_isCode 1 (some .boolean)] ++ wsJx000600 ++ wsX10 ++ wsX30)
def wsL_law_r1 : List Cond := [Cond.classLink RL 8 RX3, Cond.instantiable RX3 8, Cond.initialized RX3, Cond.classLink RL 16 RX4, Cond.instantiable RX4 14, Cond.initialized RX4, Cond.arrayClass .long, Cond.methodLink RL 15 yX3_init, Cond.instanceMethod yX3_init, Cond.code yX3_init cX3_init 1 none, Cond.methodLink RX3 1 objectInit, Cond.instanceMethod objectInit, Cond.code objectInit ⟨#[0xb1]⟩ 1 none, Cond.classLink RX3 9 RX1, Cond.fieldLink RX3 11 "CodePages" "pages" "[LCodePages$Page;", Cond.classLink RX3 15 RX0, Cond.fieldLink RX3 17 "CodePages" "orders" "[LCodePages$Order;", Cond.classLink RX3 21 RX2, Cond.fieldLink RX3 23 "CodePages" "texts" "[LCodePages$Text;", Cond.arrayClass .int, Cond.fieldLink RX3 27 "CodePages" "listed" "[I", Cond.fieldLink RX3 31 "CodePages" "pageCount" "I", Cond.fieldLink RX3 35 "CodePages" "orderCount" "I", Cond.fieldLink RX3 38 "CodePages" "textCount" "I"]
def wsL_law_r2 : List Cond := [Cond.fieldLink RX3 41 "CodePages" "listedCount" "I", Cond.methodLink RL 18 yX4_init, Cond.instanceMethod yX4_init, Cond.code yX4_init cX4_init 1 none, Cond.methodLink RX4 1 objectInit, Cond.fieldLink RX4 7 "CodePagesModel" "means" "[I", Cond.fieldLink RX4 13 "CodePagesModel" "standIns" "[I", Cond.fieldLink RX4 16 "CodePagesModel" "kinds" "[I", Cond.fieldLink RX4 19 "CodePagesModel" "ranks" "[I", Cond.fieldLink RX4 22 "CodePagesModel" "next" "[I", Cond.fieldLink RX4 25 "CodePagesModel" "texts" "[I", Cond.fieldLink RX4 28 "CodePagesModel" "lengths" "[I", Cond.fieldLink RX4 31 "CodePagesModel" "listed" "[I", Cond.methodLink RL 19 yX3_page, Cond.instanceMethod yX3_page, Cond.selects RX3 yX3_page yX3_page, Cond.code yX3_page cX3_page 2 (some .int), Cond.instantiable RX1 2, Cond.initialized RX1, Cond.methodLink RX3 44 yX3_isKind, Cond.static yX3_isKind, Cond.code yX3_isKind cX3_isKind 1 (some .boolean), Cond.methodLink RX3 48 yX1_init, Cond.instanceMethod yX1_init]
def wsL_law_r3 : List Cond := [Cond.code yX1_init cX1_init 3 none, Cond.methodLink RX1 3 objectInit, Cond.fieldLink RX1 9 "CodePages$Page" "meanings" "[I", Cond.fieldLink RX1 15 "CodePages$Page" "substitute" "I", Cond.methodLink RX1 19 yX1_firstMeaning, Cond.static yX1_firstMeaning, Cond.code yX1_firstMeaning cX1_firstMeaning 2 (some .int), Cond.methodLink RL 23 yX4_page, Cond.instanceMethod yX4_page, Cond.selects RX4 yX4_page yX4_page, Cond.code yX4_page cX4_page 3 (some .int), Cond.fieldLink RX4 34 "CodePagesModel" "code" "I", Cond.fieldLink RX4 38 "CodePagesModel" "pages" "I", Cond.methodLink RL 24 yX3_set, Cond.instanceMethod yX3_set, Cond.selects RX3 yX3_set yX3_set, Cond.code yX3_set cX3_set 6 (some .int), Cond.fieldLink RX3 65 "CodePages$Page" "meanings" "[I", Cond.methodLink RX3 51 yX3_pageAt, Cond.instanceMethod yX3_pageAt, Cond.selects RX3 yX3_pageAt yX3_pageAt, Cond.code yX3_pageAt cX3_pageAt 2 (some (.object "CodePages$Page")), Cond.methodLink RX3 55 yX3_isCode, Cond.static yX3_isCode]
def wsL_law_r4 : List Cond := [Cond.code yX3_isCode cX3_isCode 1 (some .boolean), Cond.methodLink RX3 58 yX3_isMeaningOrNone, Cond.static yX3_isMeaningOrNone, Cond.code yX3_isMeaningOrNone cX3_isMeaningOrNone 1 (some .boolean), Cond.constant RX3 150 (65536), Cond.methodLink RX3 61 yX1_codeThatMeans, Cond.instanceMethod yX1_codeThatMeans, Cond.selects RX1 yX1_codeThatMeans yX1_codeThatMeans, Cond.code yX1_codeThatMeans cX1_codeThatMeans 3 (some .int), Cond.methodLink RL 28 yX4_set, Cond.instanceMethod yX4_set, Cond.selects RX4 yX4_set yX4_set, Cond.code yX4_set cX4_set 5 (some .int), Cond.constant RX4 54 (65535), Cond.methodLink RX4 47 yX4_isPage, Cond.instanceMethod yX4_isPage, Cond.selects RX4 yX4_isPage yX4_isPage, Cond.code yX4_isPage cX4_isPage 2 (some .boolean), Cond.methodLink RX4 51 yX4_isCode, Cond.static yX4_isCode, Cond.code yX4_isCode cX4_isCode 1 (some .boolean), Cond.methodLink RX4 55 yX4_codeOf, Cond.instanceMethod yX4_codeOf, Cond.selects RX4 yX4_codeOf yX4_codeOf]
def wsL_law_r5 : List Cond := [Cond.code yX4_codeOf cX4_codeOf 5 (some .int), Cond.methodLink RL 29 yL_row, Cond.static yL_row, Cond.initialized RL, Cond.codeWith yL_row cL_row 5 (some .int) [(0, 10, 13, 13)], Cond.methodLink RL 7 yX3_row, Cond.instanceMethod yX3_row, Cond.selects RX3 yX3_row yX3_row, Cond.code yX3_row cX3_row 4 (some .int), Cond.classLink RX3 68 RJx00060, Cond.instantiable RJx00060 6, Cond.initialized RJx00060, Cond.methodLink RL 34 yX4_row, Cond.instanceMethod yX4_row, Cond.selects RX4 yX4_row yX4_row, Cond.code yX4_row cX4_row 4 (some .int), Cond.methodLink RL 35 yX4_thrown, Cond.instanceMethod yX4_thrown, Cond.selects RX4 yX4_thrown yX4_thrown, Cond.code yX4_thrown cX4_thrown 1 (some .int), Cond.methodLink RL 39 yX3_standIn, Cond.instanceMethod yX3_standIn, Cond.selects RX3 yX3_standIn yX3_standIn, Cond.code yX3_standIn cX3_standIn 5 (some .int)]
def wsL_law_r6 : List Cond := [Cond.fieldLink RX3 75 "CodePages$Page" "substitute" "I", Cond.methodLink RL 42 yX4_standIn, Cond.instanceMethod yX4_standIn, Cond.selects RX4 yX4_standIn yX4_standIn, Cond.code yX4_standIn cX4_standIn 4 (some .int), Cond.methodLink RL 43 yX3_translate, Cond.instanceMethod yX3_translate, Cond.selects RX3 yX3_translate yX3_translate, Cond.code yX3_translate cX3_translate 7 (some .int), Cond.methodLink RX3 78 yX3_findOrEnlist, Cond.instanceMethod yX3_findOrEnlist, Cond.selects RX3 yX3_findOrEnlist yX3_findOrEnlist, Cond.code yX3_findOrEnlist cX3_findOrEnlist 5 (some .int), Cond.methodLink RL 46 yX4_translate, Cond.instanceMethod yX4_translate, Cond.selects RX4 yX4_translate yX4_translate, Cond.code yX4_translate cX4_translate 4 (some .int), Cond.methodLink RX4 65 yX4_translated, Cond.instanceMethod yX4_translated, Cond.selects RX4 yX4_translated yX4_translated, Cond.code yX4_translated cX4_translated 6 (some .int), Cond.fieldLink RX4 59 "CodePagesModel" "list" "I", Cond.fieldLink RX4 62 "CodePagesModel" "count" "I", Cond.methodLink RL 47 yX3_told]
def wsL_law_r7 : List Cond := [Cond.instanceMethod yX3_told, Cond.selects RX3 yX3_told yX3_told, Cond.code yX3_told cX3_told 2 (some .int), Cond.methodLink RL 50 yX4_told, Cond.instanceMethod yX4_told, Cond.selects RX4 yX4_told yX4_told, Cond.code yX4_told cX4_told 2 (some .int), Cond.methodLink RL 51 yX3_order, Cond.instanceMethod yX3_order, Cond.selects RX3 yX3_order yX3_order, Cond.code yX3_order cX3_order 4 (some .int), Cond.instantiable RX0 4, Cond.initialized RX0, Cond.methodLink RX3 82 yX0_init, Cond.instanceMethod yX0_init, Cond.code yX0_init cX0_init 3 none, Cond.methodLink RX0 3 objectInit, Cond.fieldLink RX0 9 "CodePages$Order" "ranks" "[I", Cond.arrayClass .boolean, Cond.fieldLink RX0 15 "CodePages$Order" "inside" "[Z", Cond.fieldLink RX0 19 "CodePages$Order" "nextRank" "I", Cond.fieldLink RX0 23 "CodePages$Order" "alphabet" "Z", Cond.methodLink RX3 85 yX0_rankBy, Cond.instanceMethod yX0_rankBy]
def wsL_law_r8 : List Cond := [Cond.selects RX0 yX0_rankBy yX0_rankBy, Cond.code yX0_rankBy cX0_rankBy 5 none, Cond.methodLink RX0 27 yX0_sortKey, Cond.static yX0_sortKey, Cond.code yX0_sortKey cX0_sortKey 2 (some .int), Cond.constant RX0 31 (65536), Cond.methodLink RL 54 yX4_order, Cond.instanceMethod yX4_order, Cond.selects RX4 yX4_order yX4_order, Cond.code yX4_order cX4_order 3 (some .int), Cond.fieldLink RX4 41 "CodePagesModel" "orders" "I", Cond.methodLink RX4 69 yX4_meant, Cond.instanceMethod yX4_meant, Cond.selects RX4 yX4_meant yX4_meant, Cond.code yX4_meant cX4_meant 5 (some .int), Cond.methodLink RL 55 yX3_also, Cond.instanceMethod yX3_also, Cond.selects RX3 yX3_also yX3_also, Cond.code yX3_also cX3_also 6 (some .int), Cond.fieldLink RX3 93 "CodePages$Order" "alphabet" "Z", Cond.methodLink RX3 89 yX3_orderAt, Cond.instanceMethod yX3_orderAt, Cond.selects RX3 yX3_orderAt yX3_orderAt, Cond.code yX3_orderAt cX3_orderAt 2 (some (.object "CodePages$Order"))]
def wsL_law_r9 : List Cond := [Cond.methodLink RX3 97 yX3_alphabetRefusal, Cond.static yX3_alphabetRefusal, Cond.code yX3_alphabetRefusal cX3_alphabetRefusal 3 (some .int), Cond.methodLink RX3 101 yX0_addEqual, Cond.instanceMethod yX0_addEqual, Cond.selects RX0 yX0_addEqual yX0_addEqual, Cond.code yX0_addEqual cX0_addEqual 3 (some .boolean), Cond.methodLink RX0 32 yX0_rankThoseOutside, Cond.instanceMethod yX0_rankThoseOutside, Cond.selects RX0 yX0_rankThoseOutside yX0_rankThoseOutside, Cond.code yX0_rankThoseOutside cX0_rankThoseOutside 3 none, Cond.methodLink RL 58 yX4_also, Cond.instanceMethod yX4_also, Cond.selects RX4 yX4_also yX4_also, Cond.code yX4_also cX4_also 5 (some .int), Cond.methodLink RX4 76 yX4_refusal, Cond.instanceMethod yX4_refusal, Cond.selects RX4 yX4_refusal yX4_refusal, Cond.code yX4_refusal cX4_refusal 4 (some .int), Cond.methodLink RX4 73 yX4_isOrder, Cond.instanceMethod yX4_isOrder, Cond.selects RX4 yX4_isOrder yX4_isOrder, Cond.code yX4_isOrder cX4_isOrder 2 (some .boolean), Cond.methodLink RL 59 yX3_through]
def wsL_law_r10 : List Cond := [Cond.instanceMethod yX3_through, Cond.selects RX3 yX3_through yX3_through, Cond.code yX3_through cX3_through 6 (some .int), Cond.methodLink RX3 108 Lib.Math.abs.name, Cond.static Lib.Math.abs.name, Cond.initialized "java/lang/Math", Cond.code Lib.Math.abs.name Lib.Math.abs.code 1 (some .int), Cond.methodLink RX3 105 yX0_addRange, Cond.instanceMethod yX0_addRange, Cond.selects RX0 yX0_addRange yX0_addRange, Cond.code yX0_addRange cX0_addRange 6 (some .boolean), Cond.methodLink RX0 35 Lib.Math.min.name, Cond.static Lib.Math.min.name, Cond.code Lib.Math.min.name Lib.Math.min.code 2 (some .int), Cond.methodLink RX0 41 Lib.Math.max.name, Cond.static Lib.Math.max.name, Cond.code Lib.Math.max.name Lib.Math.max.code 2 (some .int), Cond.methodLink RX0 44 Lib.Math.abs.name, Cond.methodLink RL 62 yX4_through, Cond.instanceMethod yX4_through, Cond.selects RX4 yX4_through yX4_through, Cond.code yX4_through cX4_through 8 (some .int), Cond.methodLink RL 63 yX3_text, Cond.instanceMethod yX3_text]
def wsL_law_r11 : List Cond := [Cond.selects RX3 yX3_text yX3_text, Cond.code yX3_text cX3_text 1 (some .int), Cond.instantiable RX2 2, Cond.initialized RX2, Cond.instanceMethod yX2_init, Cond.code yX2_init cX2_init 1 none, Cond.methodLink RX2 3 objectInit, Cond.fieldLink RX2 9 "CodePages$Text" "codes" "[I", Cond.fieldLink RX2 15 "CodePages$Text" "size" "I", Cond.methodLink RL 66 yX4_text, Cond.instanceMethod yX4_text, Cond.selects RX4 yX4_text yX4_text, Cond.code yX4_text cX4_text 1 (some .int), Cond.fieldLink RX4 44 "CodePagesModel" "many" "I", Cond.methodLink RL 67 yX3_sign, Cond.instanceMethod yX3_sign, Cond.selects RX3 yX3_sign yX3_sign, Cond.code yX3_sign cX3_sign 4 (some .int), Cond.fieldLink RX3 118 "CodePages$Text" "size" "I", Cond.fieldLink RX3 121 "CodePages$Text" "codes" "[I", Cond.methodLink RX3 114 yX3_textAt, Cond.instanceMethod yX3_textAt, Cond.selects RX3 yX3_textAt yX3_textAt, Cond.code yX3_textAt cX3_textAt 2 (some (.object "CodePages$Text"))]
def wsL_law_r12 : List Cond := [Cond.methodLink RL 70 yX4_sign, Cond.instanceMethod yX4_sign, Cond.selects RX4 yX4_sign yX4_sign, Cond.code yX4_sign cX4_sign 3 (some .int), Cond.methodLink RX4 82 yX4_isText, Cond.instanceMethod yX4_isText, Cond.selects RX4 yX4_isText yX4_isText, Cond.code yX4_isText cX4_isText 2 (some .boolean), Cond.methodLink RL 71 yX3_whole, Cond.instanceMethod yX3_whole, Cond.selects RX3 yX3_whole yX3_whole, Cond.code yX3_whole cX3_whole 10 (some .int), Cond.methodLink RL 74 yX4_whole, Cond.instanceMethod yX4_whole, Cond.selects RX4 yX4_whole yX4_whole, Cond.code yX4_whole cX4_whole 6 (some .int), Cond.methodLink RL 75 yX3_at, Cond.instanceMethod yX3_at, Cond.selects RX3 yX3_at yX3_at, Cond.code yX3_at cX3_at 4 (some .int), Cond.methodLink RL 78 yX4_at, Cond.instanceMethod yX4_at, Cond.selects RX4 yX4_at yX4_at, Cond.code yX4_at cX4_at 3 (some .int)]
def wsL_law_r13 : List Cond := [Cond.methodLink RL 79 yX3_compare, Cond.instanceMethod yX3_compare, Cond.selects RX3 yX3_compare yX3_compare, Cond.code yX3_compare cX3_compare 11 (some .int), Cond.methodLink RX3 124 Lib.Math.max.name, Cond.fieldLink RX3 128 "CodePages$Order" "ranks" "[I", Cond.methodLink RX3 131 yX2_codeOrBlank, Cond.instanceMethod yX2_codeOrBlank, Cond.selects RX2 yX2_codeOrBlank yX2_codeOrBlank, Cond.code yX2_codeOrBlank cX2_codeOrBlank 2 (some .int), Cond.methodLink RL 82 yX4_compare, Cond.instanceMethod yX4_compare, Cond.selects RX4 yX4_compare yX4_compare, Cond.code yX4_compare cX4_compare 7 (some .int), Cond.methodLink RX4 85 yX4_readAt, Cond.instanceMethod yX4_readAt, Cond.selects RX4 yX4_readAt yX4_readAt, Cond.code yX4_readAt cX4_readAt 3 (some .int), Cond.methodLink RX4 79 yX4_rankOf, Cond.instanceMethod yX4_rankOf, Cond.selects RX4 yX4_rankOf yX4_rankOf, Cond.code yX4_rankOf cX4_rankOf 6 (some .int), Cond.methodLink RL 83 yX3_cls, Cond.instanceMethod yX3_cls]
def wsL_law_r14 : List Cond := [Cond.selects RX3 yX3_cls yX3_cls, Cond.code yX3_cls cX3_cls 3 (some .boolean), Cond.methodLink RX3 134 yX3_isGreatLetter, Cond.static yX3_isGreatLetter, Cond.code yX3_isGreatLetter cX3_isGreatLetter 1 (some .boolean), Cond.methodLink RX3 137 yX3_isSmallLetter, Cond.static yX3_isSmallLetter, Cond.code yX3_isSmallLetter cX3_isSmallLetter 1 (some .boolean), Cond.methodLink RL 87 yX4_cls, Cond.instanceMethod yX4_cls, Cond.selects RX4 yX4_cls yX4_cls, Cond.code yX4_cls cX4_cls 5 (some .boolean), Cond.methodLink RL 88 yX3_print, Cond.instanceMethod yX3_print, Cond.selects RX3 yX3_print yX3_print, Cond.code yX3_print cX3_print 3 (some .byte), Cond.methodLink RX3 140 yX3_hexDigit, Cond.static yX3_hexDigit, Cond.code yX3_hexDigit cX3_hexDigit 1 (some .int), Cond.methodLink RX3 143 yX3_halfAsSign, Cond.static yX3_halfAsSign, Cond.code yX3_halfAsSign cX3_halfAsSign 1 (some .int), Cond.methodLink RL 92 yX4_print, Cond.instanceMethod yX4_print]
def wsL_law_r15 : List Cond := [Cond.selects RX4 yX4_print yX4_print, Cond.code yX4_print cX4_print 4 (some .byte), Cond.methodLink RX4 88 yX4_half, Cond.static yX4_half, Cond.code yX4_half cX4_half 1 (some .byte), Cond.methodLink RL 93 yX3_high, Cond.instanceMethod yX3_high, Cond.selects RX3 yX3_high yX3_high, Cond.code yX3_high cX3_high 3 (some .int), Cond.methodLink RX3 146 yX0_lastCode, Cond.instanceMethod yX0_lastCode, Cond.selects RX0 yX0_lastCode yX0_lastCode, Cond.code yX0_lastCode cX0_lastCode 3 (some .int), Cond.methodLink RL 96 yX4_high, Cond.instanceMethod yX4_high, Cond.selects RX4 yX4_high yX4_high, Cond.code yX4_high cX4_high 4 (some .int), Cond.methodLink RL 97 yX3_rank, Cond.instanceMethod yX3_rank, Cond.selects RX3 yX3_rank yX3_rank, Cond.code yX3_rank cX3_rank 4 (some .int), Cond.methodLink RL 100 yX4_rank, Cond.instanceMethod yX4_rank, Cond.selects RX4 yX4_rank yX4_rank]
def wsL_law_r16 : List Cond := [Cond.code yX4_rank cX4_rank 3 (some .int)]
def wsL_law : List Cond := (wsL_law_r1 ++ (wsL_law_r2 ++ (wsL_law_r3 ++ (wsL_law_r4 ++ (wsL_law_r5 ++ (wsL_law_r6 ++ (wsL_law_r7 ++ (wsL_law_r8 ++ (wsL_law_r9 ++ (wsL_law_r10 ++ (wsL_law_r11 ++ (wsL_law_r12 ++ (wsL_law_r13 ++ (wsL_law_r14 ++ (wsL_law_r15 ++ wsL_law_r16))))))))))))))) ++ wsX30 ++ wsX40 ++ wsX10 ++ wsJx000600 ++ wsX00 ++ wsX20 ++ ([] : List Cond)
set_option maxRecDepth 20000 in
theorem wsL_law_in : ∀ w ∈ wsL_law, w ∈ lw_tbl := fun w h => (goodIn_p wsL_law [30, 33, 353, 69, 72, 76, 80, 405, 93, 97, 100, 103, 108, 409, 413, 416, 421, 277, 425, 401, 112, 429, 116, 120, 433, 437, 124, 441, 128, 132, 153, 156, 445, 449, 161, 165, 168, 172, 176, 453, 457, 461, 180, 193, 184, 187, 190, 465, 198, 202, 481, 216, 220, 485, 489, 224, 493, 228, 497, 232, 237, 501, 505, 473, 241, 244, 247, 509, 251, 254, 257, 513, 516, 261, 265, 477, 269, 469] (by decide +kernel) (by decide +kernel) w h).1
theorem inlX0 : ∀ w ∈ wsX00, w ∈ wsL_law := fun _ h => List.mem_append_left _ (List.mem_append_left _ (List.mem_append_right _ h))
theorem inX0 : ∀ w ∈ wsX00, w ∈ lw_tbl := fun w h => wsL_law_in w (inlX0 w h)
theorem inlX1 : ∀ w ∈ wsX10, w ∈ wsL_law := fun _ h => List.mem_append_left _ (List.mem_append_left _ (List.mem_append_left _ (List.mem_append_left _ (List.mem_append_right _ h))))
theorem inX1 : ∀ w ∈ wsX10, w ∈ lw_tbl := fun w h => wsL_law_in w (inlX1 w h)
theorem inlX2 : ∀ w ∈ wsX20, w ∈ wsL_law := fun _ h => List.mem_append_left _ (List.mem_append_right _ h)
theorem inX2 : ∀ w ∈ wsX20, w ∈ lw_tbl := fun w h => wsL_law_in w (inlX2 w h)
theorem inlX3 : ∀ w ∈ wsX30, w ∈ wsL_law := fun _ h => List.mem_append_left _ (List.mem_append_left _ (List.mem_append_left _ (List.mem_append_left _ (List.mem_append_left _ (List.mem_append_left _ (List.mem_append_right _ h))))))
theorem inX3 : ∀ w ∈ wsX30, w ∈ lw_tbl := fun w h => wsL_law_in w (inlX3 w h)
theorem inlX4 : ∀ w ∈ wsX40, w ∈ wsL_law := fun _ h => List.mem_append_left _ (List.mem_append_left _ (List.mem_append_left _ (List.mem_append_left _ (List.mem_append_left _ (List.mem_append_right _ h)))))
theorem inX4 : ∀ w ∈ wsX40, w ∈ lw_tbl := fun w h => wsL_law_in w (inlX4 w h)
theorem inlJx00060 : ∀ w ∈ wsJx000600, w ∈ wsL_law := fun _ h => List.mem_append_left _ (List.mem_append_left _ (List.mem_append_left _ (List.mem_append_right _ h)))
theorem inJx00060 : ∀ w ∈ wsJx000600, w ∈ lw_tbl := fun w h => wsL_law_in w (inlJx00060 w h)
theorem inJ9 : ∀ w ∈ wsJ90, w ∈ lw_tbl := by decide +kernel
theorem inJ0 : ∀ w ∈ wsJ00, w ∈ lw_tbl := by decide +kernel
abbrev vwCl : List vw_C := [(RJx00060, TJx00060, 6), (RX0, TX0, 4), (RX1, TX1, 2), (RX2, TX2, 2), (RX3, TX3, 8), (RX4, TX4, 14)]
end
section
theorem dJx00060_init_a7421_0 : decode cJx00060_init_a7421 0 = .ok (.aload_n 0, 1) := by decide +kernel
theorem dJx00060_init_a7421_1 : decode cJx00060_init_a7421 1 = .ok (.aload_n 1, 1) := by decide +kernel
theorem dJx00060_init_a7421_2 : decode cJx00060_init_a7421 2 = .ok (.invokespecial 7, 3) := by decide +kernel
theorem dJx00060_init_a7421_5 : decode cJx00060_init_a7421 5 = .ok (.return_, 1) := by decide +kernel
theorem dJ9_abs_0f7a4_0 : decode cJ9_abs_0f7a4 0 = .ok (.iload_n 0, 1) := by decide +kernel
theorem dJ9_abs_0f7a4_1 : decode cJ9_abs_0f7a4 1 = .ok (.ifCond .ge 8, 3) := by decide +kernel
theorem dJ9_abs_0f7a4_4 : decode cJ9_abs_0f7a4 4 = .ok (.iload_n 0, 1) := by decide +kernel
theorem dJ9_abs_0f7a4_5 : decode cJ9_abs_0f7a4 5 = .ok (.ineg, 1) := by decide +kernel
theorem dJ9_abs_0f7a4_6 : decode cJ9_abs_0f7a4 6 = .ok (.goto 4, 3) := by decide +kernel
theorem dJ9_abs_0f7a4_9 : decode cJ9_abs_0f7a4 9 = .ok (.iload_n 0, 1) := by decide +kernel
theorem dJ9_abs_0f7a4_10 : decode cJ9_abs_0f7a4 10 = .ok (.ireturn, 1) := by decide +kernel
theorem dJ9_max_7cf53_0 : decode cJ9_max_7cf53 0 = .ok (.iload_n 0, 1) := by decide +kernel
theorem dJ9_max_7cf53_1 : decode cJ9_max_7cf53 1 = .ok (.iload_n 1, 1) := by decide +kernel
theorem dJ9_max_7cf53_2 : decode cJ9_max_7cf53 2 = .ok (.if_icmp .lt 7, 3) := by decide +kernel
theorem dJ9_max_7cf53_5 : decode cJ9_max_7cf53 5 = .ok (.iload_n 0, 1) := by decide +kernel
theorem dJ9_max_7cf53_6 : decode cJ9_max_7cf53 6 = .ok (.goto 4, 3) := by decide +kernel
theorem dJ9_max_7cf53_9 : decode cJ9_max_7cf53 9 = .ok (.iload_n 1, 1) := by decide +kernel
theorem dJ9_max_7cf53_10 : decode cJ9_max_7cf53 10 = .ok (.ireturn, 1) := by decide +kernel
theorem dJ9_min_7cf53_0 : decode cJ9_min_7cf53 0 = .ok (.iload_n 0, 1) := by decide +kernel
theorem dJ9_min_7cf53_1 : decode cJ9_min_7cf53 1 = .ok (.iload_n 1, 1) := by decide +kernel
theorem dJ9_min_7cf53_2 : decode cJ9_min_7cf53 2 = .ok (.if_icmp .gt 7, 3) := by decide +kernel
theorem dJ9_min_7cf53_5 : decode cJ9_min_7cf53 5 = .ok (.iload_n 0, 1) := by decide +kernel
theorem dJ9_min_7cf53_6 : decode cJ9_min_7cf53 6 = .ok (.goto 4, 3) := by decide +kernel
theorem dJ9_min_7cf53_9 : decode cJ9_min_7cf53 9 = .ok (.iload_n 1, 1) := by decide +kernel
theorem dJ9_min_7cf53_10 : decode cJ9_min_7cf53 10 = .ok (.ireturn, 1) := by decide +kernel
theorem dX0_init_0 : decode cX0_init 0 = .ok (.aload_n 0, 1) := by decide +kernel
theorem dX0_init_1 : decode cX0_init 1 = .ok (.invokespecial 3, 3) := by decide +kernel
theorem dX0_init_4 : decode cX0_init 4 = .ok (.aload_n 0, 1) := by decide +kernel
theorem dX0_init_5 : decode cX0_init 5 = .ok (.sipush 256, 3) := by decide +kernel
theorem dX0_init_8 : decode cX0_init 8 = .ok (.newarray .int, 2) := by decide +kernel
theorem dX0_init_10 : decode cX0_init 10 = .ok (.putfield 9, 3) := by decide +kernel
theorem dX0_init_13 : decode cX0_init 13 = .ok (.aload_n 0, 1) := by decide +kernel
theorem dX0_init_14 : decode cX0_init 14 = .ok (.sipush 256, 3) := by decide +kernel
theorem dX0_init_17 : decode cX0_init 17 = .ok (.newarray .boolean, 2) := by decide +kernel
theorem dX0_init_19 : decode cX0_init 19 = .ok (.putfield 15, 3) := by decide +kernel
theorem dX0_init_22 : decode cX0_init 22 = .ok (.aload_n 0, 1) := by decide +kernel
theorem dX0_init_23 : decode cX0_init 23 = .ok (.iconst 0, 1) := by decide +kernel
theorem dX0_init_24 : decode cX0_init 24 = .ok (.putfield 19, 3) := by decide +kernel
theorem dX0_init_27 : decode cX0_init 27 = .ok (.aload_n 0, 1) := by decide +kernel
theorem dX0_init_28 : decode cX0_init 28 = .ok (.iload_n 1, 1) := by decide +kernel
theorem dX0_init_29 : decode cX0_init 29 = .ok (.putfield 23, 3) := by decide +kernel
theorem dX0_init_32 : decode cX0_init 32 = .ok (.iconst 0, 1) := by decide +kernel
theorem dX0_init_33 : decode cX0_init 33 = .ok (.istore_n 2, 1) := by decide +kernel
theorem dX0_init_34 : decode cX0_init 34 = .ok (.iload_n 2, 1) := by decide +kernel
theorem dX0_init_35 : decode cX0_init 35 = .ok (.sipush 256, 3) := by decide +kernel
theorem dX0_init_38 : decode cX0_init 38 = .ok (.if_icmp .ge 16, 3) := by decide +kernel
theorem dX0_init_41 : decode cX0_init 41 = .ok (.aload_n 0, 1) := by decide +kernel
theorem dX0_init_42 : decode cX0_init 42 = .ok (.getfield 9, 3) := by decide +kernel
theorem dX0_init_45 : decode cX0_init 45 = .ok (.iload_n 2, 1) := by decide +kernel
theorem dX0_init_46 : decode cX0_init 46 = .ok (.iload_n 2, 1) := by decide +kernel
theorem dX0_init_47 : decode cX0_init 47 = .ok (.iastore, 1) := by decide +kernel
theorem dX0_init_48 : decode cX0_init 48 = .ok (.iinc 2 1, 3) := by decide +kernel
theorem dX0_init_51 : decode cX0_init 51 = .ok (.goto (-17), 3) := by decide +kernel
theorem dX0_init_54 : decode cX0_init 54 = .ok (.return_, 1) := by decide +kernel
set_option maxRecDepth 20000 in
theorem ggX0_rankBy_X0_sortKey : GoodIn wsX0_rankBy wsX0_sortKey := goodIn_r _ [6, 7] (by decide +kernel) (by decide +kernel)
set_option maxRecDepth 20000 in
theorem gX0_rankBy_X0_sortKey : GoodIn wsX0_rankBy (va_wsS RX0 27 yX0_sortKey wsX0_sortKey) := goodIn_app (goodIn_of _ (by decide +kernel)) ggX0_rankBy_X0_sortKey
theorem dX0_rankBy_0 : decode cX0_rankBy 0 = .ok (.sipush 256, 3) := by decide +kernel
theorem dX0_rankBy_3 : decode cX0_rankBy 3 = .ok (.newarray .int, 2) := by decide +kernel
theorem dX0_rankBy_5 : decode cX0_rankBy 5 = .ok (.astore_n 2, 1) := by decide +kernel
theorem dX0_rankBy_6 : decode cX0_rankBy 6 = .ok (.iconst 0, 1) := by decide +kernel
theorem dX0_rankBy_7 : decode cX0_rankBy 7 = .ok (.istore_n 3, 1) := by decide +kernel
theorem dX0_rankBy_8 : decode cX0_rankBy 8 = .ok (.iload_n 3, 1) := by decide +kernel
theorem dX0_rankBy_9 : decode cX0_rankBy 9 = .ok (.sipush 256, 3) := by decide +kernel
theorem dX0_rankBy_12 : decode cX0_rankBy 12 = .ok (.if_icmp .ge 56, 3) := by decide +kernel
theorem dX0_rankBy_15 : decode cX0_rankBy 15 = .ok (.iload_n 3, 1) := by decide +kernel
theorem dX0_rankBy_16 : decode cX0_rankBy 16 = .ok (.istore 4, 2) := by decide +kernel
theorem dX0_rankBy_18 : decode cX0_rankBy 18 = .ok (.iload 4, 2) := by decide +kernel
theorem dX0_rankBy_20 : decode cX0_rankBy 20 = .ok (.ifCond .le 37, 3) := by decide +kernel
theorem dX0_rankBy_23 : decode cX0_rankBy 23 = .ok (.aload_n 1, 1) := by decide +kernel
theorem dX0_rankBy_24 : decode cX0_rankBy 24 = .ok (.iload_n 3, 1) := by decide +kernel
theorem dX0_rankBy_25 : decode cX0_rankBy 25 = .ok (.invokestatic 27, 3) := by decide +kernel
theorem dX0_rankBy_28 : decode cX0_rankBy 28 = .ok (.aload_n 1, 1) := by decide +kernel
theorem dX0_rankBy_29 : decode cX0_rankBy 29 = .ok (.aload_n 2, 1) := by decide +kernel
theorem dX0_rankBy_30 : decode cX0_rankBy 30 = .ok (.iload 4, 2) := by decide +kernel
theorem dX0_rankBy_32 : decode cX0_rankBy 32 = .ok (.iconst 1, 1) := by decide +kernel
theorem dX0_rankBy_33 : decode cX0_rankBy 33 = .ok (.isub, 1) := by decide +kernel
theorem dX0_rankBy_34 : decode cX0_rankBy 34 = .ok (.iaload, 1) := by decide +kernel
theorem dX0_rankBy_35 : decode cX0_rankBy 35 = .ok (.invokestatic 27, 3) := by decide +kernel
theorem dX0_rankBy_38 : decode cX0_rankBy 38 = .ok (.if_icmp .ge 19, 3) := by decide +kernel
theorem dX0_rankBy_41 : decode cX0_rankBy 41 = .ok (.aload_n 2, 1) := by decide +kernel
theorem dX0_rankBy_42 : decode cX0_rankBy 42 = .ok (.iload 4, 2) := by decide +kernel
theorem dX0_rankBy_44 : decode cX0_rankBy 44 = .ok (.aload_n 2, 1) := by decide +kernel
theorem dX0_rankBy_45 : decode cX0_rankBy 45 = .ok (.iload 4, 2) := by decide +kernel
theorem dX0_rankBy_47 : decode cX0_rankBy 47 = .ok (.iconst 1, 1) := by decide +kernel
theorem dX0_rankBy_48 : decode cX0_rankBy 48 = .ok (.isub, 1) := by decide +kernel
theorem dX0_rankBy_49 : decode cX0_rankBy 49 = .ok (.iaload, 1) := by decide +kernel
theorem dX0_rankBy_50 : decode cX0_rankBy 50 = .ok (.iastore, 1) := by decide +kernel
theorem dX0_rankBy_51 : decode cX0_rankBy 51 = .ok (.iinc 4 (-1), 3) := by decide +kernel
theorem dX0_rankBy_54 : decode cX0_rankBy 54 = .ok (.goto (-36), 3) := by decide +kernel
theorem dX0_rankBy_57 : decode cX0_rankBy 57 = .ok (.aload_n 2, 1) := by decide +kernel
theorem dX0_rankBy_58 : decode cX0_rankBy 58 = .ok (.iload 4, 2) := by decide +kernel
theorem dX0_rankBy_60 : decode cX0_rankBy 60 = .ok (.iload_n 3, 1) := by decide +kernel
theorem dX0_rankBy_61 : decode cX0_rankBy 61 = .ok (.iastore, 1) := by decide +kernel
theorem dX0_rankBy_62 : decode cX0_rankBy 62 = .ok (.iinc 3 1, 3) := by decide +kernel
theorem dX0_rankBy_65 : decode cX0_rankBy 65 = .ok (.goto (-57), 3) := by decide +kernel
theorem dX0_rankBy_68 : decode cX0_rankBy 68 = .ok (.iconst 0, 1) := by decide +kernel
theorem dX0_rankBy_69 : decode cX0_rankBy 69 = .ok (.istore_n 3, 1) := by decide +kernel
theorem dX0_rankBy_70 : decode cX0_rankBy 70 = .ok (.iload_n 3, 1) := by decide +kernel
theorem dX0_rankBy_71 : decode cX0_rankBy 71 = .ok (.sipush 256, 3) := by decide +kernel
theorem dX0_rankBy_74 : decode cX0_rankBy 74 = .ok (.if_icmp .ge 18, 3) := by decide +kernel
theorem dX0_rankBy_77 : decode cX0_rankBy 77 = .ok (.aload_n 0, 1) := by decide +kernel
theorem dX0_rankBy_78 : decode cX0_rankBy 78 = .ok (.getfield 9, 3) := by decide +kernel
theorem dX0_rankBy_81 : decode cX0_rankBy 81 = .ok (.aload_n 2, 1) := by decide +kernel
theorem dX0_rankBy_82 : decode cX0_rankBy 82 = .ok (.iload_n 3, 1) := by decide +kernel
theorem dX0_rankBy_83 : decode cX0_rankBy 83 = .ok (.iaload, 1) := by decide +kernel
theorem dX0_rankBy_84 : decode cX0_rankBy 84 = .ok (.iload_n 3, 1) := by decide +kernel
theorem dX0_rankBy_85 : decode cX0_rankBy 85 = .ok (.iastore, 1) := by decide +kernel
theorem dX0_rankBy_86 : decode cX0_rankBy 86 = .ok (.iinc 3 1, 3) := by decide +kernel
theorem dX0_rankBy_89 : decode cX0_rankBy 89 = .ok (.goto (-19), 3) := by decide +kernel
theorem dX0_rankBy_92 : decode cX0_rankBy 92 = .ok (.return_, 1) := by decide +kernel
theorem dX0_sortKey_0 : decode cX0_sortKey 0 = .ok (.aload_n 0, 1) := by decide +kernel
theorem dX0_sortKey_1 : decode cX0_sortKey 1 = .ok (.iload_n 1, 1) := by decide +kernel
theorem dX0_sortKey_2 : decode cX0_sortKey 2 = .ok (.iaload, 1) := by decide +kernel
theorem dX0_sortKey_3 : decode cX0_sortKey 3 = .ok (.iconst (-1), 1) := by decide +kernel
theorem dX0_sortKey_4 : decode cX0_sortKey 4 = .ok (.if_icmp .ne 10, 3) := by decide +kernel
theorem dX0_sortKey_7 : decode cX0_sortKey 7 = .ok (.ldc 31, 2) := by decide +kernel
theorem dX0_sortKey_9 : decode cX0_sortKey 9 = .ok (.iload_n 1, 1) := by decide +kernel
theorem dX0_sortKey_10 : decode cX0_sortKey 10 = .ok (.iadd, 1) := by decide +kernel
theorem dX0_sortKey_11 : decode cX0_sortKey 11 = .ok (.goto 6, 3) := by decide +kernel
theorem dX0_sortKey_14 : decode cX0_sortKey 14 = .ok (.aload_n 0, 1) := by decide +kernel
theorem dX0_sortKey_15 : decode cX0_sortKey 15 = .ok (.iload_n 1, 1) := by decide +kernel
theorem dX0_sortKey_16 : decode cX0_sortKey 16 = .ok (.iaload, 1) := by decide +kernel
theorem dX0_sortKey_17 : decode cX0_sortKey 17 = .ok (.ireturn, 1) := by decide +kernel
set_option maxRecDepth 20000 in
theorem ggX0_addEqual_X0_rankThoseOutside : GoodIn wsX0_addEqual wsX0_rankThoseOutside := goodIn_r _ [7, 8, 1, 2, 9, 10, 11, 12] (by decide +kernel) (by decide +kernel)
set_option maxRecDepth 20000 in
theorem gX0_addEqual_X0_rankThoseOutside : GoodIn wsX0_addEqual (wsV RX0 32 RX0 yX0_rankThoseOutside wsX0_rankThoseOutside) := goodIn_app (goodIn_of _ (by decide +kernel)) ggX0_addEqual_X0_rankThoseOutside
theorem dX0_addEqual_0 : decode cX0_addEqual 0 = .ok (.aload_n 0, 1) := by decide +kernel
theorem dX0_addEqual_1 : decode cX0_addEqual 1 = .ok (.getfield 15, 3) := by decide +kernel
theorem dX0_addEqual_4 : decode cX0_addEqual 4 = .ok (.iload_n 1, 1) := by decide +kernel
theorem dX0_addEqual_5 : decode cX0_addEqual 5 = .ok (.baload, 1) := by decide +kernel
theorem dX0_addEqual_6 : decode cX0_addEqual 6 = .ok (.ifCond .eq 12, 3) := by decide +kernel
theorem dX0_addEqual_9 : decode cX0_addEqual 9 = .ok (.aload_n 0, 1) := by decide +kernel
theorem dX0_addEqual_10 : decode cX0_addEqual 10 = .ok (.getfield 15, 3) := by decide +kernel
theorem dX0_addEqual_13 : decode cX0_addEqual 13 = .ok (.iload_n 2, 1) := by decide +kernel
theorem dX0_addEqual_14 : decode cX0_addEqual 14 = .ok (.baload, 1) := by decide +kernel
theorem dX0_addEqual_15 : decode cX0_addEqual 15 = .ok (.ifCond .eq 5, 3) := by decide +kernel
theorem dX0_addEqual_18 : decode cX0_addEqual 18 = .ok (.iconst 0, 1) := by decide +kernel
theorem dX0_addEqual_19 : decode cX0_addEqual 19 = .ok (.ireturn, 1) := by decide +kernel
theorem dX0_addEqual_20 : decode cX0_addEqual 20 = .ok (.aload_n 0, 1) := by decide +kernel
theorem dX0_addEqual_21 : decode cX0_addEqual 21 = .ok (.getfield 15, 3) := by decide +kernel
theorem dX0_addEqual_24 : decode cX0_addEqual 24 = .ok (.iload_n 2, 1) := by decide +kernel
theorem dX0_addEqual_25 : decode cX0_addEqual 25 = .ok (.iconst 1, 1) := by decide +kernel
theorem dX0_addEqual_26 : decode cX0_addEqual 26 = .ok (.bastore, 1) := by decide +kernel
theorem dX0_addEqual_27 : decode cX0_addEqual 27 = .ok (.aload_n 0, 1) := by decide +kernel
theorem dX0_addEqual_28 : decode cX0_addEqual 28 = .ok (.getfield 9, 3) := by decide +kernel
theorem dX0_addEqual_31 : decode cX0_addEqual 31 = .ok (.iload_n 2, 1) := by decide +kernel
theorem dX0_addEqual_32 : decode cX0_addEqual 32 = .ok (.aload_n 0, 1) := by decide +kernel
theorem dX0_addEqual_33 : decode cX0_addEqual 33 = .ok (.getfield 9, 3) := by decide +kernel
theorem dX0_addEqual_36 : decode cX0_addEqual 36 = .ok (.iload_n 1, 1) := by decide +kernel
theorem dX0_addEqual_37 : decode cX0_addEqual 37 = .ok (.iaload, 1) := by decide +kernel
theorem dX0_addEqual_38 : decode cX0_addEqual 38 = .ok (.iastore, 1) := by decide +kernel
theorem dX0_addEqual_39 : decode cX0_addEqual 39 = .ok (.aload_n 0, 1) := by decide +kernel
theorem dX0_addEqual_40 : decode cX0_addEqual 40 = .ok (.invokevirtual 32, 3) := by decide +kernel
theorem dX0_addEqual_43 : decode cX0_addEqual 43 = .ok (.iconst 1, 1) := by decide +kernel
theorem dX0_addEqual_44 : decode cX0_addEqual 44 = .ok (.ireturn, 1) := by decide +kernel
set_option maxRecDepth 20000 in
theorem ggX0_addRange_X0_rankThoseOutside : GoodIn wsX0_addRange wsX0_rankThoseOutside := goodIn_r _ [18, 10, 8, 9, 19, 20, 21, 22] (by decide +kernel) (by decide +kernel)
set_option maxRecDepth 20000 in
theorem gX0_addRange_X0_rankThoseOutside : GoodIn wsX0_addRange (wsV RX0 32 RX0 yX0_rankThoseOutside wsX0_rankThoseOutside) := goodIn_app (goodIn_of _ (by decide +kernel)) ggX0_addRange_X0_rankThoseOutside
theorem dX0_addRange_0 : decode cX0_addRange 0 = .ok (.iload_n 1, 1) := by decide +kernel
theorem dX0_addRange_1 : decode cX0_addRange 1 = .ok (.iload_n 2, 1) := by decide +kernel
theorem dX0_addRange_2 : decode cX0_addRange 2 = .ok (.invokestatic 35, 3) := by decide +kernel
theorem dX0_addRange_5 : decode cX0_addRange 5 = .ok (.istore_n 3, 1) := by decide +kernel
theorem dX0_addRange_6 : decode cX0_addRange 6 = .ok (.iload_n 1, 1) := by decide +kernel
theorem dX0_addRange_7 : decode cX0_addRange 7 = .ok (.iload_n 2, 1) := by decide +kernel
theorem dX0_addRange_8 : decode cX0_addRange 8 = .ok (.invokestatic 41, 3) := by decide +kernel
theorem dX0_addRange_11 : decode cX0_addRange 11 = .ok (.istore 4, 2) := by decide +kernel
theorem dX0_addRange_13 : decode cX0_addRange 13 = .ok (.iload_n 3, 1) := by decide +kernel
theorem dX0_addRange_14 : decode cX0_addRange 14 = .ok (.istore 5, 2) := by decide +kernel
theorem dX0_addRange_16 : decode cX0_addRange 16 = .ok (.iload 5, 2) := by decide +kernel
theorem dX0_addRange_18 : decode cX0_addRange 18 = .ok (.iload 4, 2) := by decide +kernel
theorem dX0_addRange_20 : decode cX0_addRange 20 = .ok (.if_icmp .gt 21, 3) := by decide +kernel
theorem dX0_addRange_23 : decode cX0_addRange 23 = .ok (.aload_n 0, 1) := by decide +kernel
theorem dX0_addRange_24 : decode cX0_addRange 24 = .ok (.getfield 15, 3) := by decide +kernel
theorem dX0_addRange_27 : decode cX0_addRange 27 = .ok (.iload 5, 2) := by decide +kernel
theorem dX0_addRange_29 : decode cX0_addRange 29 = .ok (.baload, 1) := by decide +kernel
theorem dX0_addRange_30 : decode cX0_addRange 30 = .ok (.ifCond .eq 5, 3) := by decide +kernel
theorem dX0_addRange_33 : decode cX0_addRange 33 = .ok (.iconst 0, 1) := by decide +kernel
theorem dX0_addRange_34 : decode cX0_addRange 34 = .ok (.ireturn, 1) := by decide +kernel
theorem dX0_addRange_35 : decode cX0_addRange 35 = .ok (.iinc 5 1, 3) := by decide +kernel
theorem dX0_addRange_38 : decode cX0_addRange 38 = .ok (.goto (-22), 3) := by decide +kernel
theorem dX0_addRange_41 : decode cX0_addRange 41 = .ok (.iload_n 3, 1) := by decide +kernel
theorem dX0_addRange_42 : decode cX0_addRange 42 = .ok (.istore 5, 2) := by decide +kernel
theorem dX0_addRange_44 : decode cX0_addRange 44 = .ok (.iload 5, 2) := by decide +kernel
theorem dX0_addRange_46 : decode cX0_addRange 46 = .ok (.iload 4, 2) := by decide +kernel
theorem dX0_addRange_48 : decode cX0_addRange 48 = .ok (.if_icmp .gt 36, 3) := by decide +kernel
theorem dX0_addRange_51 : decode cX0_addRange 51 = .ok (.aload_n 0, 1) := by decide +kernel
theorem dX0_addRange_52 : decode cX0_addRange 52 = .ok (.getfield 15, 3) := by decide +kernel
theorem dX0_addRange_55 : decode cX0_addRange 55 = .ok (.iload 5, 2) := by decide +kernel
theorem dX0_addRange_57 : decode cX0_addRange 57 = .ok (.iconst 1, 1) := by decide +kernel
theorem dX0_addRange_58 : decode cX0_addRange 58 = .ok (.bastore, 1) := by decide +kernel
theorem dX0_addRange_59 : decode cX0_addRange 59 = .ok (.aload_n 0, 1) := by decide +kernel
theorem dX0_addRange_60 : decode cX0_addRange 60 = .ok (.getfield 9, 3) := by decide +kernel
theorem dX0_addRange_63 : decode cX0_addRange 63 = .ok (.iload 5, 2) := by decide +kernel
theorem dX0_addRange_65 : decode cX0_addRange 65 = .ok (.aload_n 0, 1) := by decide +kernel
theorem dX0_addRange_66 : decode cX0_addRange 66 = .ok (.getfield 19, 3) := by decide +kernel
theorem dX0_addRange_69 : decode cX0_addRange 69 = .ok (.iload 5, 2) := by decide +kernel
theorem dX0_addRange_71 : decode cX0_addRange 71 = .ok (.iload_n 1, 1) := by decide +kernel
theorem dX0_addRange_72 : decode cX0_addRange 72 = .ok (.isub, 1) := by decide +kernel
theorem dX0_addRange_73 : decode cX0_addRange 73 = .ok (.invokestatic 44, 3) := by decide +kernel
theorem dX0_addRange_76 : decode cX0_addRange 76 = .ok (.iadd, 1) := by decide +kernel
theorem dX0_addRange_77 : decode cX0_addRange 77 = .ok (.iastore, 1) := by decide +kernel
theorem dX0_addRange_78 : decode cX0_addRange 78 = .ok (.iinc 5 1, 3) := by decide +kernel
theorem dX0_addRange_81 : decode cX0_addRange 81 = .ok (.goto (-37), 3) := by decide +kernel
theorem dX0_addRange_84 : decode cX0_addRange 84 = .ok (.aload_n 0, 1) := by decide +kernel
theorem dX0_addRange_85 : decode cX0_addRange 85 = .ok (.dup, 1) := by decide +kernel
theorem dX0_addRange_86 : decode cX0_addRange 86 = .ok (.getfield 19, 3) := by decide +kernel
theorem dX0_addRange_89 : decode cX0_addRange 89 = .ok (.iload 4, 2) := by decide +kernel
theorem dX0_addRange_91 : decode cX0_addRange 91 = .ok (.iload_n 3, 1) := by decide +kernel
theorem dX0_addRange_92 : decode cX0_addRange 92 = .ok (.isub, 1) := by decide +kernel
theorem dX0_addRange_93 : decode cX0_addRange 93 = .ok (.iconst 1, 1) := by decide +kernel
theorem dX0_addRange_94 : decode cX0_addRange 94 = .ok (.iadd, 1) := by decide +kernel
theorem dX0_addRange_95 : decode cX0_addRange 95 = .ok (.iadd, 1) := by decide +kernel
theorem dX0_addRange_96 : decode cX0_addRange 96 = .ok (.putfield 19, 3) := by decide +kernel
theorem dX0_addRange_99 : decode cX0_addRange 99 = .ok (.aload_n 0, 1) := by decide +kernel
theorem dX0_addRange_100 : decode cX0_addRange 100 = .ok (.invokevirtual 32, 3) := by decide +kernel
theorem dX0_addRange_103 : decode cX0_addRange 103 = .ok (.iconst 1, 1) := by decide +kernel
theorem dX0_addRange_104 : decode cX0_addRange 104 = .ok (.ireturn, 1) := by decide +kernel
theorem dX0_rankThoseOutside_0 : decode cX0_rankThoseOutside 0 = .ok (.aload_n 0, 1) := by decide +kernel
theorem dX0_rankThoseOutside_1 : decode cX0_rankThoseOutside 1 = .ok (.getfield 19, 3) := by decide +kernel
theorem dX0_rankThoseOutside_4 : decode cX0_rankThoseOutside 4 = .ok (.istore_n 1, 1) := by decide +kernel
theorem dX0_rankThoseOutside_5 : decode cX0_rankThoseOutside 5 = .ok (.iconst 0, 1) := by decide +kernel
theorem dX0_rankThoseOutside_6 : decode cX0_rankThoseOutside 6 = .ok (.istore_n 2, 1) := by decide +kernel
theorem dX0_rankThoseOutside_7 : decode cX0_rankThoseOutside 7 = .ok (.iload_n 2, 1) := by decide +kernel
theorem dX0_rankThoseOutside_8 : decode cX0_rankThoseOutside 8 = .ok (.sipush 256, 3) := by decide +kernel
theorem dX0_rankThoseOutside_11 : decode cX0_rankThoseOutside 11 = .ok (.if_icmp .ge 28, 3) := by decide +kernel
theorem dX0_rankThoseOutside_14 : decode cX0_rankThoseOutside 14 = .ok (.aload_n 0, 1) := by decide +kernel
theorem dX0_rankThoseOutside_15 : decode cX0_rankThoseOutside 15 = .ok (.getfield 15, 3) := by decide +kernel
theorem dX0_rankThoseOutside_18 : decode cX0_rankThoseOutside 18 = .ok (.iload_n 2, 1) := by decide +kernel
theorem dX0_rankThoseOutside_19 : decode cX0_rankThoseOutside 19 = .ok (.baload, 1) := by decide +kernel
theorem dX0_rankThoseOutside_20 : decode cX0_rankThoseOutside 20 = .ok (.ifCond .ne 13, 3) := by decide +kernel
theorem dX0_rankThoseOutside_23 : decode cX0_rankThoseOutside 23 = .ok (.aload_n 0, 1) := by decide +kernel
theorem dX0_rankThoseOutside_24 : decode cX0_rankThoseOutside 24 = .ok (.getfield 9, 3) := by decide +kernel
theorem dX0_rankThoseOutside_27 : decode cX0_rankThoseOutside 27 = .ok (.iload_n 2, 1) := by decide +kernel
theorem dX0_rankThoseOutside_28 : decode cX0_rankThoseOutside 28 = .ok (.iload_n 1, 1) := by decide +kernel
theorem dX0_rankThoseOutside_29 : decode cX0_rankThoseOutside 29 = .ok (.iastore, 1) := by decide +kernel
theorem dX0_rankThoseOutside_30 : decode cX0_rankThoseOutside 30 = .ok (.iinc 1 1, 3) := by decide +kernel
theorem dX0_rankThoseOutside_33 : decode cX0_rankThoseOutside 33 = .ok (.iinc 2 1, 3) := by decide +kernel
theorem dX0_rankThoseOutside_36 : decode cX0_rankThoseOutside 36 = .ok (.goto (-29), 3) := by decide +kernel
theorem dX0_rankThoseOutside_39 : decode cX0_rankThoseOutside 39 = .ok (.return_, 1) := by decide +kernel
theorem dX0_lastCode_0 : decode cX0_lastCode 0 = .ok (.iconst 0, 1) := by decide +kernel
theorem dX0_lastCode_1 : decode cX0_lastCode 1 = .ok (.istore_n 1, 1) := by decide +kernel
theorem dX0_lastCode_2 : decode cX0_lastCode 2 = .ok (.iconst 1, 1) := by decide +kernel
theorem dX0_lastCode_3 : decode cX0_lastCode 3 = .ok (.istore_n 2, 1) := by decide +kernel
theorem dX0_lastCode_4 : decode cX0_lastCode 4 = .ok (.iload_n 2, 1) := by decide +kernel
theorem dX0_lastCode_5 : decode cX0_lastCode 5 = .ok (.sipush 256, 3) := by decide +kernel
theorem dX0_lastCode_8 : decode cX0_lastCode 8 = .ok (.if_icmp .ge 26, 3) := by decide +kernel
theorem dX0_lastCode_11 : decode cX0_lastCode 11 = .ok (.aload_n 0, 1) := by decide +kernel
theorem dX0_lastCode_12 : decode cX0_lastCode 12 = .ok (.getfield 9, 3) := by decide +kernel
theorem dX0_lastCode_15 : decode cX0_lastCode 15 = .ok (.iload_n 2, 1) := by decide +kernel
theorem dX0_lastCode_16 : decode cX0_lastCode 16 = .ok (.iaload, 1) := by decide +kernel
theorem dX0_lastCode_17 : decode cX0_lastCode 17 = .ok (.aload_n 0, 1) := by decide +kernel
theorem dX0_lastCode_18 : decode cX0_lastCode 18 = .ok (.getfield 9, 3) := by decide +kernel
theorem dX0_lastCode_21 : decode cX0_lastCode 21 = .ok (.iload_n 1, 1) := by decide +kernel
theorem dX0_lastCode_22 : decode cX0_lastCode 22 = .ok (.iaload, 1) := by decide +kernel
theorem dX0_lastCode_23 : decode cX0_lastCode 23 = .ok (.if_icmp .lt 5, 3) := by decide +kernel
theorem dX0_lastCode_26 : decode cX0_lastCode 26 = .ok (.iload_n 2, 1) := by decide +kernel
theorem dX0_lastCode_27 : decode cX0_lastCode 27 = .ok (.istore_n 1, 1) := by decide +kernel
theorem dX0_lastCode_28 : decode cX0_lastCode 28 = .ok (.iinc 2 1, 3) := by decide +kernel
theorem dX0_lastCode_31 : decode cX0_lastCode 31 = .ok (.goto (-27), 3) := by decide +kernel
theorem dX0_lastCode_34 : decode cX0_lastCode 34 = .ok (.iload_n 1, 1) := by decide +kernel
theorem dX0_lastCode_35 : decode cX0_lastCode 35 = .ok (.ireturn, 1) := by decide +kernel
set_option maxRecDepth 20000 in
theorem ggX1_init_X1_firstMeaning : GoodIn wsX1_init wsX1_firstMeaning := goodIn_r _ [10] (by decide +kernel) (by decide +kernel)
set_option maxRecDepth 20000 in
theorem gX1_init_X1_firstMeaning : GoodIn wsX1_init (va_wsS RX1 19 yX1_firstMeaning wsX1_firstMeaning) := goodIn_app (goodIn_of _ (by decide +kernel)) ggX1_init_X1_firstMeaning
theorem dX1_init_0 : decode cX1_init 0 = .ok (.aload_n 0, 1) := by decide +kernel
theorem dX1_init_1 : decode cX1_init 1 = .ok (.invokespecial 3, 3) := by decide +kernel
theorem dX1_init_4 : decode cX1_init 4 = .ok (.aload_n 0, 1) := by decide +kernel
theorem dX1_init_5 : decode cX1_init 5 = .ok (.sipush 256, 3) := by decide +kernel
theorem dX1_init_8 : decode cX1_init 8 = .ok (.newarray .int, 2) := by decide +kernel
theorem dX1_init_10 : decode cX1_init 10 = .ok (.putfield 9, 3) := by decide +kernel
theorem dX1_init_13 : decode cX1_init 13 = .ok (.aload_n 0, 1) := by decide +kernel
theorem dX1_init_14 : decode cX1_init 14 = .ok (.bipush 63, 2) := by decide +kernel
theorem dX1_init_16 : decode cX1_init 16 = .ok (.putfield 15, 3) := by decide +kernel
theorem dX1_init_19 : decode cX1_init 19 = .ok (.iconst 0, 1) := by decide +kernel
theorem dX1_init_20 : decode cX1_init 20 = .ok (.istore_n 2, 1) := by decide +kernel
theorem dX1_init_21 : decode cX1_init 21 = .ok (.iload_n 2, 1) := by decide +kernel
theorem dX1_init_22 : decode cX1_init 22 = .ok (.sipush 256, 3) := by decide +kernel
theorem dX1_init_25 : decode cX1_init 25 = .ok (.if_icmp .ge 20, 3) := by decide +kernel
theorem dX1_init_28 : decode cX1_init 28 = .ok (.aload_n 0, 1) := by decide +kernel
theorem dX1_init_29 : decode cX1_init 29 = .ok (.getfield 9, 3) := by decide +kernel
theorem dX1_init_32 : decode cX1_init 32 = .ok (.iload_n 2, 1) := by decide +kernel
theorem dX1_init_33 : decode cX1_init 33 = .ok (.iload_n 1, 1) := by decide +kernel
theorem dX1_init_34 : decode cX1_init 34 = .ok (.iload_n 2, 1) := by decide +kernel
theorem dX1_init_35 : decode cX1_init 35 = .ok (.invokestatic 19, 3) := by decide +kernel
theorem dX1_init_38 : decode cX1_init 38 = .ok (.iastore, 1) := by decide +kernel
theorem dX1_init_39 : decode cX1_init 39 = .ok (.iinc 2 1, 3) := by decide +kernel
theorem dX1_init_42 : decode cX1_init 42 = .ok (.goto (-21), 3) := by decide +kernel
theorem dX1_init_45 : decode cX1_init 45 = .ok (.return_, 1) := by decide +kernel
theorem dX1_firstMeaning_0 : decode cX1_firstMeaning 0 = .ok (.iload_n 0, 1) := by decide +kernel
theorem dX1_firstMeaning_1 : decode cX1_firstMeaning 1 = .ok (.ifCond .ne 16, 3) := by decide +kernel
theorem dX1_firstMeaning_4 : decode cX1_firstMeaning 4 = .ok (.iload_n 1, 1) := by decide +kernel
theorem dX1_firstMeaning_5 : decode cX1_firstMeaning 5 = .ok (.sipush 128, 3) := by decide +kernel
theorem dX1_firstMeaning_8 : decode cX1_firstMeaning 8 = .ok (.if_icmp .ge 7, 3) := by decide +kernel
theorem dX1_firstMeaning_11 : decode cX1_firstMeaning 11 = .ok (.iload_n 1, 1) := by decide +kernel
theorem dX1_firstMeaning_12 : decode cX1_firstMeaning 12 = .ok (.goto 4, 3) := by decide +kernel
theorem dX1_firstMeaning_15 : decode cX1_firstMeaning 15 = .ok (.iconst (-1), 1) := by decide +kernel
theorem dX1_firstMeaning_16 : decode cX1_firstMeaning 16 = .ok (.ireturn, 1) := by decide +kernel
theorem dX1_firstMeaning_17 : decode cX1_firstMeaning 17 = .ok (.iload_n 0, 1) := by decide +kernel
theorem dX1_firstMeaning_18 : decode cX1_firstMeaning 18 = .ok (.iconst 1, 1) := by decide +kernel
theorem dX1_firstMeaning_19 : decode cX1_firstMeaning 19 = .ok (.if_icmp .ne 18, 3) := by decide +kernel
theorem dX1_firstMeaning_22 : decode cX1_firstMeaning 22 = .ok (.sipush 167, 3) := by decide +kernel
theorem dX1_firstMeaning_25 : decode cX1_firstMeaning 25 = .ok (.iload_n 1, 1) := by decide +kernel
theorem dX1_firstMeaning_26 : decode cX1_firstMeaning 26 = .ok (.imul, 1) := by decide +kernel
theorem dX1_firstMeaning_27 : decode cX1_firstMeaning 27 = .ok (.bipush 13, 2) := by decide +kernel
theorem dX1_firstMeaning_29 : decode cX1_firstMeaning 29 = .ok (.iadd, 1) := by decide +kernel
theorem dX1_firstMeaning_30 : decode cX1_firstMeaning 30 = .ok (.sipush 256, 3) := by decide +kernel
theorem dX1_firstMeaning_33 : decode cX1_firstMeaning 33 = .ok (.irem, 1) := by decide +kernel
theorem dX1_firstMeaning_34 : decode cX1_firstMeaning 34 = .ok (.goto 4, 3) := by decide +kernel
theorem dX1_firstMeaning_37 : decode cX1_firstMeaning 37 = .ok (.iconst (-1), 1) := by decide +kernel
theorem dX1_firstMeaning_38 : decode cX1_firstMeaning 38 = .ok (.ireturn, 1) := by decide +kernel
theorem dX1_codeThatMeans_0 : decode cX1_codeThatMeans 0 = .ok (.iload_n 1, 1) := by decide +kernel
theorem dX1_codeThatMeans_1 : decode cX1_codeThatMeans 1 = .ok (.iconst (-1), 1) := by decide +kernel
theorem dX1_codeThatMeans_2 : decode cX1_codeThatMeans 2 = .ok (.if_icmp .ne 5, 3) := by decide +kernel
theorem dX1_codeThatMeans_5 : decode cX1_codeThatMeans 5 = .ok (.iconst (-1), 1) := by decide +kernel
theorem dX1_codeThatMeans_6 : decode cX1_codeThatMeans 6 = .ok (.ireturn, 1) := by decide +kernel
theorem dX1_codeThatMeans_7 : decode cX1_codeThatMeans 7 = .ok (.iconst 0, 1) := by decide +kernel
theorem dX1_codeThatMeans_8 : decode cX1_codeThatMeans 8 = .ok (.istore_n 2, 1) := by decide +kernel
theorem dX1_codeThatMeans_9 : decode cX1_codeThatMeans 9 = .ok (.iload_n 2, 1) := by decide +kernel
theorem dX1_codeThatMeans_10 : decode cX1_codeThatMeans 10 = .ok (.sipush 256, 3) := by decide +kernel
theorem dX1_codeThatMeans_13 : decode cX1_codeThatMeans 13 = .ok (.if_icmp .ge 21, 3) := by decide +kernel
theorem dX1_codeThatMeans_16 : decode cX1_codeThatMeans 16 = .ok (.aload_n 0, 1) := by decide +kernel
theorem dX1_codeThatMeans_17 : decode cX1_codeThatMeans 17 = .ok (.getfield 9, 3) := by decide +kernel
theorem dX1_codeThatMeans_20 : decode cX1_codeThatMeans 20 = .ok (.iload_n 2, 1) := by decide +kernel
theorem dX1_codeThatMeans_21 : decode cX1_codeThatMeans 21 = .ok (.iaload, 1) := by decide +kernel
theorem dX1_codeThatMeans_22 : decode cX1_codeThatMeans 22 = .ok (.iload_n 1, 1) := by decide +kernel
theorem dX1_codeThatMeans_23 : decode cX1_codeThatMeans 23 = .ok (.if_icmp .ne 5, 3) := by decide +kernel
theorem dX1_codeThatMeans_26 : decode cX1_codeThatMeans 26 = .ok (.iload_n 2, 1) := by decide +kernel
theorem dX1_codeThatMeans_27 : decode cX1_codeThatMeans 27 = .ok (.ireturn, 1) := by decide +kernel
theorem dX1_codeThatMeans_28 : decode cX1_codeThatMeans 28 = .ok (.iinc 2 1, 3) := by decide +kernel
theorem dX1_codeThatMeans_31 : decode cX1_codeThatMeans 31 = .ok (.goto (-22), 3) := by decide +kernel
theorem dX1_codeThatMeans_34 : decode cX1_codeThatMeans 34 = .ok (.iconst (-1), 1) := by decide +kernel
theorem dX1_codeThatMeans_35 : decode cX1_codeThatMeans 35 = .ok (.ireturn, 1) := by decide +kernel
theorem dX2_init_0 : decode cX2_init 0 = .ok (.aload_n 0, 1) := by decide +kernel
theorem dX2_init_1 : decode cX2_init 1 = .ok (.invokespecial 3, 3) := by decide +kernel
theorem dX2_init_4 : decode cX2_init 4 = .ok (.aload_n 0, 1) := by decide +kernel
theorem dX2_init_5 : decode cX2_init 5 = .ok (.bipush 40, 2) := by decide +kernel
theorem dX2_init_7 : decode cX2_init 7 = .ok (.newarray .int, 2) := by decide +kernel
theorem dX2_init_9 : decode cX2_init 9 = .ok (.putfield 9, 3) := by decide +kernel
theorem dX2_init_12 : decode cX2_init 12 = .ok (.aload_n 0, 1) := by decide +kernel
theorem dX2_init_13 : decode cX2_init 13 = .ok (.iconst 0, 1) := by decide +kernel
theorem dX2_init_14 : decode cX2_init 14 = .ok (.putfield 15, 3) := by decide +kernel
theorem dX2_init_17 : decode cX2_init 17 = .ok (.return_, 1) := by decide +kernel
theorem dX2_codeOrBlank_0 : decode cX2_codeOrBlank 0 = .ok (.iload_n 1, 1) := by decide +kernel
theorem dX2_codeOrBlank_1 : decode cX2_codeOrBlank 1 = .ok (.ifCond .lt 20, 3) := by decide +kernel
theorem dX2_codeOrBlank_4 : decode cX2_codeOrBlank 4 = .ok (.iload_n 1, 1) := by decide +kernel
theorem dX2_codeOrBlank_5 : decode cX2_codeOrBlank 5 = .ok (.aload_n 0, 1) := by decide +kernel
theorem dX2_codeOrBlank_6 : decode cX2_codeOrBlank 6 = .ok (.getfield 15, 3) := by decide +kernel
theorem dX2_codeOrBlank_9 : decode cX2_codeOrBlank 9 = .ok (.if_icmp .ge 12, 3) := by decide +kernel
theorem dX2_codeOrBlank_12 : decode cX2_codeOrBlank 12 = .ok (.aload_n 0, 1) := by decide +kernel
theorem dX2_codeOrBlank_13 : decode cX2_codeOrBlank 13 = .ok (.getfield 9, 3) := by decide +kernel
theorem dX2_codeOrBlank_16 : decode cX2_codeOrBlank 16 = .ok (.iload_n 1, 1) := by decide +kernel
theorem dX2_codeOrBlank_17 : decode cX2_codeOrBlank 17 = .ok (.iaload, 1) := by decide +kernel
theorem dX2_codeOrBlank_18 : decode cX2_codeOrBlank 18 = .ok (.goto 5, 3) := by decide +kernel
theorem dX2_codeOrBlank_21 : decode cX2_codeOrBlank 21 = .ok (.bipush 32, 2) := by decide +kernel
theorem dX2_codeOrBlank_23 : decode cX2_codeOrBlank 23 = .ok (.ireturn, 1) := by decide +kernel
theorem dX3_init_0 : decode cX3_init 0 = .ok (.aload_n 0, 1) := by decide +kernel
theorem dX3_init_1 : decode cX3_init 1 = .ok (.invokespecial 1, 3) := by decide +kernel
theorem dX3_init_4 : decode cX3_init 4 = .ok (.aload_n 0, 1) := by decide +kernel
theorem dX3_init_5 : decode cX3_init 5 = .ok (.bipush 12, 2) := by decide +kernel
theorem dX3_init_7 : decode cX3_init 7 = .ok (.anewarray 9, 3) := by decide +kernel
theorem dX3_init_10 : decode cX3_init 10 = .ok (.putfield 11, 3) := by decide +kernel
theorem dX3_init_13 : decode cX3_init 13 = .ok (.aload_n 0, 1) := by decide +kernel
theorem dX3_init_14 : decode cX3_init 14 = .ok (.bipush 12, 2) := by decide +kernel
theorem dX3_init_16 : decode cX3_init 16 = .ok (.anewarray 15, 3) := by decide +kernel
theorem dX3_init_19 : decode cX3_init 19 = .ok (.putfield 17, 3) := by decide +kernel
theorem dX3_init_22 : decode cX3_init 22 = .ok (.aload_n 0, 1) := by decide +kernel
theorem dX3_init_23 : decode cX3_init 23 = .ok (.bipush 40, 2) := by decide +kernel
theorem dX3_init_25 : decode cX3_init 25 = .ok (.anewarray 21, 3) := by decide +kernel
theorem dX3_init_28 : decode cX3_init 28 = .ok (.putfield 23, 3) := by decide +kernel
theorem dX3_init_31 : decode cX3_init 31 = .ok (.aload_n 0, 1) := by decide +kernel
theorem dX3_init_32 : decode cX3_init 32 = .ok (.sipush 200, 3) := by decide +kernel
theorem dX3_init_35 : decode cX3_init 35 = .ok (.newarray .int, 2) := by decide +kernel
theorem dX3_init_37 : decode cX3_init 37 = .ok (.putfield 27, 3) := by decide +kernel
theorem dX3_init_40 : decode cX3_init 40 = .ok (.aload_n 0, 1) := by decide +kernel
theorem dX3_init_41 : decode cX3_init 41 = .ok (.iconst 0, 1) := by decide +kernel
theorem dX3_init_42 : decode cX3_init 42 = .ok (.putfield 31, 3) := by decide +kernel
theorem dX3_init_45 : decode cX3_init 45 = .ok (.aload_n 0, 1) := by decide +kernel
theorem dX3_init_46 : decode cX3_init 46 = .ok (.iconst 0, 1) := by decide +kernel
theorem dX3_init_47 : decode cX3_init 47 = .ok (.putfield 35, 3) := by decide +kernel
theorem dX3_init_50 : decode cX3_init 50 = .ok (.aload_n 0, 1) := by decide +kernel
theorem dX3_init_51 : decode cX3_init 51 = .ok (.iconst 0, 1) := by decide +kernel
theorem dX3_init_52 : decode cX3_init 52 = .ok (.putfield 38, 3) := by decide +kernel
theorem dX3_init_55 : decode cX3_init 55 = .ok (.aload_n 0, 1) := by decide +kernel
theorem dX3_init_56 : decode cX3_init 56 = .ok (.iconst 0, 1) := by decide +kernel
theorem dX3_init_57 : decode cX3_init 57 = .ok (.putfield 41, 3) := by decide +kernel
theorem dX3_init_60 : decode cX3_init 60 = .ok (.return_, 1) := by decide +kernel
set_option maxRecDepth 20000 in
theorem ggX3_page_X3_isKind : GoodIn wsX3_page wsX3_isKind := goodIn_r _ [9] (by decide +kernel) (by decide +kernel)
set_option maxRecDepth 20000 in
theorem gX3_page_X3_isKind : GoodIn wsX3_page (va_wsS RX3 44 yX3_isKind wsX3_isKind) := goodIn_app (goodIn_of _ (by decide +kernel)) ggX3_page_X3_isKind
set_option maxRecDepth 20000 in
theorem ggX3_page_X1_init : GoodIn wsX3_page wsX1_init := goodIn_r _ [12, 13, 14, 15, 16, 17, 18, 19, 20, 5, 21, 30, 31] (by decide +kernel) (by decide +kernel)
set_option maxRecDepth 20000 in
theorem gX3_page_X1_init : GoodIn wsX3_page (wsX1_init) := ggX3_page_X1_init
theorem dX3_page_0 : decode cX3_page 0 = .ok (.iload_n 1, 1) := by decide +kernel
theorem dX3_page_1 : decode cX3_page 1 = .ok (.invokestatic 44, 3) := by decide +kernel
theorem dX3_page_4 : decode cX3_page 4 = .ok (.ifCond .ne 6, 3) := by decide +kernel
theorem dX3_page_7 : decode cX3_page 7 = .ok (.bipush (-4), 2) := by decide +kernel
theorem dX3_page_9 : decode cX3_page 9 = .ok (.ireturn, 1) := by decide +kernel
theorem dX3_page_10 : decode cX3_page 10 = .ok (.aload_n 0, 1) := by decide +kernel
theorem dX3_page_11 : decode cX3_page 11 = .ok (.getfield 31, 3) := by decide +kernel
theorem dX3_page_14 : decode cX3_page 14 = .ok (.bipush 12, 2) := by decide +kernel
theorem dX3_page_16 : decode cX3_page 16 = .ok (.if_icmp .lt 5, 3) := by decide +kernel
theorem dX3_page_19 : decode cX3_page 19 = .ok (.iconst (-1), 1) := by decide +kernel
theorem dX3_page_20 : decode cX3_page 20 = .ok (.ireturn, 1) := by decide +kernel
theorem dX3_page_21 : decode cX3_page 21 = .ok (.aload_n 0, 1) := by decide +kernel
theorem dX3_page_22 : decode cX3_page 22 = .ok (.getfield 11, 3) := by decide +kernel
theorem dX3_page_25 : decode cX3_page 25 = .ok (.aload_n 0, 1) := by decide +kernel
theorem dX3_page_26 : decode cX3_page 26 = .ok (.getfield 31, 3) := by decide +kernel
theorem dX3_page_29 : decode cX3_page 29 = .ok (.new 9, 3) := by decide +kernel
theorem dX3_page_32 : decode cX3_page 32 = .ok (.dup, 1) := by decide +kernel
theorem dX3_page_33 : decode cX3_page 33 = .ok (.iload_n 1, 1) := by decide +kernel
theorem dX3_page_34 : decode cX3_page 34 = .ok (.invokespecial 48, 3) := by decide +kernel
theorem dX3_page_37 : decode cX3_page 37 = .ok (.aastore, 1) := by decide +kernel
theorem dX3_page_38 : decode cX3_page 38 = .ok (.aload_n 0, 1) := by decide +kernel
theorem dX3_page_39 : decode cX3_page 39 = .ok (.dup, 1) := by decide +kernel
theorem dX3_page_40 : decode cX3_page 40 = .ok (.getfield 31, 3) := by decide +kernel
theorem dX3_page_43 : decode cX3_page 43 = .ok (.dup_x1, 1) := by decide +kernel
theorem dX3_page_44 : decode cX3_page 44 = .ok (.iconst 1, 1) := by decide +kernel
theorem dX3_page_45 : decode cX3_page 45 = .ok (.iadd, 1) := by decide +kernel
theorem dX3_page_46 : decode cX3_page 46 = .ok (.putfield 31, 3) := by decide +kernel
theorem dX3_page_49 : decode cX3_page 49 = .ok (.ireturn, 1) := by decide +kernel
set_option maxRecDepth 20000 in
theorem ggX3_set_X3_pageAt : GoodIn wsX3_set wsX3_pageAt := goodIn_r _ [6, 7, 23, 24, 25, 26, 27, 28, 29, 30] (by decide +kernel) (by decide +kernel)
set_option maxRecDepth 20000 in
theorem gX3_set_X3_pageAt : GoodIn wsX3_set (wsV RX3 51 RX3 yX3_pageAt wsX3_pageAt) := goodIn_app (goodIn_of _ (by decide +kernel)) ggX3_set_X3_pageAt
set_option maxRecDepth 20000 in
theorem ggX3_set_X3_isCode : GoodIn wsX3_set wsX3_isCode := goodIn_r _ [10] (by decide +kernel) (by decide +kernel)
set_option maxRecDepth 20000 in
theorem gX3_set_X3_isCode : GoodIn wsX3_set (va_wsS RX3 55 yX3_isCode wsX3_isCode) := goodIn_app (goodIn_of _ (by decide +kernel)) ggX3_set_X3_isCode
set_option maxRecDepth 20000 in
theorem ggX3_set_X3_isMeaningOrNone : GoodIn wsX3_set wsX3_isMeaningOrNone := goodIn_r _ [13, 14] (by decide +kernel) (by decide +kernel)
set_option maxRecDepth 20000 in
theorem gX3_set_X3_isMeaningOrNone : GoodIn wsX3_set (va_wsS RX3 58 yX3_isMeaningOrNone wsX3_isMeaningOrNone) := goodIn_app (goodIn_of _ (by decide +kernel)) ggX3_set_X3_isMeaningOrNone
set_option maxRecDepth 20000 in
theorem ggX3_set_X1_codeThatMeans : GoodIn wsX3_set wsX1_codeThatMeans := goodIn_r _ [19, 20, 21, 22] (by decide +kernel) (by decide +kernel)
set_option maxRecDepth 20000 in
theorem gX3_set_X1_codeThatMeans : GoodIn wsX3_set (wsV RX3 61 RX1 yX1_codeThatMeans wsX1_codeThatMeans) := goodIn_app (goodIn_of _ (by decide +kernel)) ggX3_set_X1_codeThatMeans
theorem dX3_set_0 : decode cX3_set 0 = .ok (.aload_n 0, 1) := by decide +kernel
theorem dX3_set_1 : decode cX3_set 1 = .ok (.iload_n 1, 1) := by decide +kernel
theorem dX3_set_2 : decode cX3_set 2 = .ok (.invokevirtual 51, 3) := by decide +kernel
theorem dX3_set_5 : decode cX3_set 5 = .ok (.astore 4, 2) := by decide +kernel
theorem dX3_set_7 : decode cX3_set 7 = .ok (.aload 4, 2) := by decide +kernel
theorem dX3_set_9 : decode cX3_set 9 = .ok (.ifnonnull 6, 3) := by decide +kernel
theorem dX3_set_12 : decode cX3_set 12 = .ok (.bipush (-2), 2) := by decide +kernel
theorem dX3_set_14 : decode cX3_set 14 = .ok (.ireturn, 1) := by decide +kernel
theorem dX3_set_15 : decode cX3_set 15 = .ok (.iload_n 2, 1) := by decide +kernel
theorem dX3_set_16 : decode cX3_set 16 = .ok (.invokestatic 55, 3) := by decide +kernel
theorem dX3_set_19 : decode cX3_set 19 = .ok (.ifCond .eq 10, 3) := by decide +kernel
theorem dX3_set_22 : decode cX3_set 22 = .ok (.iload_n 3, 1) := by decide +kernel
theorem dX3_set_23 : decode cX3_set 23 = .ok (.invokestatic 58, 3) := by decide +kernel
theorem dX3_set_26 : decode cX3_set 26 = .ok (.ifCond .ne 6, 3) := by decide +kernel
theorem dX3_set_29 : decode cX3_set 29 = .ok (.bipush (-4), 2) := by decide +kernel
theorem dX3_set_31 : decode cX3_set 31 = .ok (.ireturn, 1) := by decide +kernel
theorem dX3_set_32 : decode cX3_set 32 = .ok (.aload 4, 2) := by decide +kernel
theorem dX3_set_34 : decode cX3_set 34 = .ok (.iload_n 3, 1) := by decide +kernel
theorem dX3_set_35 : decode cX3_set 35 = .ok (.invokevirtual 61, 3) := by decide +kernel
theorem dX3_set_38 : decode cX3_set 38 = .ok (.istore 5, 2) := by decide +kernel
theorem dX3_set_40 : decode cX3_set 40 = .ok (.iload 5, 2) := by decide +kernel
theorem dX3_set_42 : decode cX3_set 42 = .ok (.iconst (-1), 1) := by decide +kernel
theorem dX3_set_43 : decode cX3_set 43 = .ok (.if_icmp .eq 11, 3) := by decide +kernel
theorem dX3_set_46 : decode cX3_set 46 = .ok (.iload 5, 2) := by decide +kernel
theorem dX3_set_48 : decode cX3_set 48 = .ok (.iload_n 2, 1) := by decide +kernel
theorem dX3_set_49 : decode cX3_set 49 = .ok (.if_icmp .eq 5, 3) := by decide +kernel
theorem dX3_set_52 : decode cX3_set 52 = .ok (.iconst 0, 1) := by decide +kernel
theorem dX3_set_53 : decode cX3_set 53 = .ok (.ireturn, 1) := by decide +kernel
theorem dX3_set_54 : decode cX3_set 54 = .ok (.aload 4, 2) := by decide +kernel
theorem dX3_set_56 : decode cX3_set 56 = .ok (.getfield 65, 3) := by decide +kernel
theorem dX3_set_59 : decode cX3_set 59 = .ok (.iload_n 2, 1) := by decide +kernel
theorem dX3_set_60 : decode cX3_set 60 = .ok (.iload_n 3, 1) := by decide +kernel
theorem dX3_set_61 : decode cX3_set 61 = .ok (.iastore, 1) := by decide +kernel
theorem dX3_set_62 : decode cX3_set 62 = .ok (.iconst 1, 1) := by decide +kernel
theorem dX3_set_63 : decode cX3_set 63 = .ok (.ireturn, 1) := by decide +kernel
set_option maxRecDepth 20000 in
theorem ggX3_row_X3_pageAt : GoodIn wsX3_row wsX3_pageAt := goodIn_r _ [9, 10, 22, 23, 24, 25, 26, 27, 28, 29] (by decide +kernel) (by decide +kernel)
set_option maxRecDepth 20000 in
theorem gX3_row_X3_pageAt : GoodIn wsX3_row (wsV RX3 51 RX3 yX3_pageAt wsX3_pageAt) := goodIn_app (goodIn_of _ (by decide +kernel)) ggX3_row_X3_pageAt
set_option maxRecDepth 20000 in
theorem ggX3_row_X3_isCode : GoodIn wsX3_row wsX3_isCode := goodIn_r _ [13] (by decide +kernel) (by decide +kernel)
set_option maxRecDepth 20000 in
theorem gX3_row_X3_isCode : GoodIn wsX3_row (va_wsS RX3 55 yX3_isCode wsX3_isCode) := goodIn_app (goodIn_of _ (by decide +kernel)) ggX3_row_X3_isCode
theorem dX3_row_0 : decode cX3_row 0 = .ok (.aload_n 0, 1) := by decide +kernel
theorem dX3_row_1 : decode cX3_row 1 = .ok (.iload_n 1, 1) := by decide +kernel
theorem dX3_row_2 : decode cX3_row 2 = .ok (.invokevirtual 51, 3) := by decide +kernel
theorem dX3_row_5 : decode cX3_row 5 = .ok (.astore_n 3, 1) := by decide +kernel
theorem dX3_row_6 : decode cX3_row 6 = .ok (.aload_n 3, 1) := by decide +kernel
theorem dX3_row_7 : decode cX3_row 7 = .ok (.ifnull 10, 3) := by decide +kernel
theorem dX3_row_10 : decode cX3_row 10 = .ok (.iload_n 2, 1) := by decide +kernel
theorem dX3_row_11 : decode cX3_row 11 = .ok (.invokestatic 55, 3) := by decide +kernel
theorem dX3_row_14 : decode cX3_row 14 = .ok (.ifCond .ne 13, 3) := by decide +kernel
theorem dX3_row_17 : decode cX3_row 17 = .ok (.new 68, 3) := by decide +kernel
theorem dX3_row_20 : decode cX3_row 20 = .ok (.dup, 1) := by decide +kernel
theorem dX3_row_21 : decode cX3_row 21 = .ok (.ldc 70, 2) := by decide +kernel
theorem dX3_row_23 : decode cX3_row 23 = .ok (.invokespecial 72, 3) := by decide +kernel
theorem dX3_row_26 : decode cX3_row 26 = .ok (.athrow, 1) := by decide +kernel
theorem dX3_row_27 : decode cX3_row 27 = .ok (.aload_n 3, 1) := by decide +kernel
theorem dX3_row_28 : decode cX3_row 28 = .ok (.getfield 65, 3) := by decide +kernel
theorem dX3_row_31 : decode cX3_row 31 = .ok (.iload_n 2, 1) := by decide +kernel
theorem dX3_row_32 : decode cX3_row 32 = .ok (.iaload, 1) := by decide +kernel
theorem dX3_row_33 : decode cX3_row 33 = .ok (.ireturn, 1) := by decide +kernel
set_option maxRecDepth 20000 in
theorem ggX3_standIn_X3_pageAt : GoodIn wsX3_standIn wsX3_pageAt := goodIn_r _ [6, 7, 13, 14, 15, 16, 17, 18, 19, 20] (by decide +kernel) (by decide +kernel)
set_option maxRecDepth 20000 in
theorem gX3_standIn_X3_pageAt : GoodIn wsX3_standIn (wsV RX3 51 RX3 yX3_pageAt wsX3_pageAt) := goodIn_app (goodIn_of _ (by decide +kernel)) ggX3_standIn_X3_pageAt
set_option maxRecDepth 20000 in
theorem ggX3_standIn_X3_isCode : GoodIn wsX3_standIn wsX3_isCode := goodIn_r _ [10] (by decide +kernel) (by decide +kernel)
set_option maxRecDepth 20000 in
theorem gX3_standIn_X3_isCode : GoodIn wsX3_standIn (va_wsS RX3 55 yX3_isCode wsX3_isCode) := goodIn_app (goodIn_of _ (by decide +kernel)) ggX3_standIn_X3_isCode
theorem dX3_standIn_0 : decode cX3_standIn 0 = .ok (.aload_n 0, 1) := by decide +kernel
theorem dX3_standIn_1 : decode cX3_standIn 1 = .ok (.iload_n 1, 1) := by decide +kernel
theorem dX3_standIn_2 : decode cX3_standIn 2 = .ok (.invokevirtual 51, 3) := by decide +kernel
theorem dX3_standIn_5 : decode cX3_standIn 5 = .ok (.astore_n 3, 1) := by decide +kernel
theorem dX3_standIn_6 : decode cX3_standIn 6 = .ok (.aload_n 3, 1) := by decide +kernel
theorem dX3_standIn_7 : decode cX3_standIn 7 = .ok (.ifnonnull 6, 3) := by decide +kernel
theorem dX3_standIn_10 : decode cX3_standIn 10 = .ok (.bipush (-2), 2) := by decide +kernel
theorem dX3_standIn_12 : decode cX3_standIn 12 = .ok (.ireturn, 1) := by decide +kernel
theorem dX3_standIn_13 : decode cX3_standIn 13 = .ok (.iload_n 2, 1) := by decide +kernel
theorem dX3_standIn_14 : decode cX3_standIn 14 = .ok (.invokestatic 55, 3) := by decide +kernel
theorem dX3_standIn_17 : decode cX3_standIn 17 = .ok (.ifCond .ne 6, 3) := by decide +kernel
theorem dX3_standIn_20 : decode cX3_standIn 20 = .ok (.bipush (-4), 2) := by decide +kernel
theorem dX3_standIn_22 : decode cX3_standIn 22 = .ok (.ireturn, 1) := by decide +kernel
theorem dX3_standIn_23 : decode cX3_standIn 23 = .ok (.aload_n 3, 1) := by decide +kernel
theorem dX3_standIn_24 : decode cX3_standIn 24 = .ok (.getfield 75, 3) := by decide +kernel
theorem dX3_standIn_27 : decode cX3_standIn 27 = .ok (.istore 4, 2) := by decide +kernel
theorem dX3_standIn_29 : decode cX3_standIn 29 = .ok (.aload_n 3, 1) := by decide +kernel
theorem dX3_standIn_30 : decode cX3_standIn 30 = .ok (.iload_n 2, 1) := by decide +kernel
theorem dX3_standIn_31 : decode cX3_standIn 31 = .ok (.putfield 75, 3) := by decide +kernel
theorem dX3_standIn_34 : decode cX3_standIn 34 = .ok (.iload 4, 2) := by decide +kernel
theorem dX3_standIn_36 : decode cX3_standIn 36 = .ok (.ireturn, 1) := by decide +kernel
set_option maxRecDepth 20000 in
theorem ggX3_translate_X3_pageAt : GoodIn wsX3_translate wsX3_pageAt := goodIn_r _ [6, 7, 26, 27, 28, 29, 30, 31, 32, 33] (by decide +kernel) (by decide +kernel)
set_option maxRecDepth 20000 in
theorem gX3_translate_X3_pageAt : GoodIn wsX3_translate (wsV RX3 51 RX3 yX3_pageAt wsX3_pageAt) := goodIn_app (goodIn_of _ (by decide +kernel)) ggX3_translate_X3_pageAt
set_option maxRecDepth 20000 in
theorem ggX3_translate_X3_isCode : GoodIn wsX3_translate wsX3_isCode := goodIn_r _ [10] (by decide +kernel) (by decide +kernel)
set_option maxRecDepth 20000 in
theorem gX3_translate_X3_isCode : GoodIn wsX3_translate (va_wsS RX3 55 yX3_isCode wsX3_isCode) := goodIn_app (goodIn_of _ (by decide +kernel)) ggX3_translate_X3_isCode
set_option maxRecDepth 20000 in
theorem ggX3_translate_X3_findOrEnlist : GoodIn wsX3_translate wsX3_findOrEnlist := goodIn_r _ [14, 15, 16, 17, 18, 19, 20, 21, 22, 23, 24, 25, 26, 27, 28, 29, 30, 31, 32, 33] (by decide +kernel) (by decide +kernel)
set_option maxRecDepth 20000 in
theorem gX3_translate_X3_findOrEnlist : GoodIn wsX3_translate (wsV RX3 78 RX3 yX3_findOrEnlist wsX3_findOrEnlist) := goodIn_app (goodIn_of _ (by decide +kernel)) ggX3_translate_X3_findOrEnlist
theorem dX3_translate_0 : decode cX3_translate 0 = .ok (.aload_n 0, 1) := by decide +kernel
theorem dX3_translate_1 : decode cX3_translate 1 = .ok (.iload_n 2, 1) := by decide +kernel
theorem dX3_translate_2 : decode cX3_translate 2 = .ok (.invokevirtual 51, 3) := by decide +kernel
theorem dX3_translate_5 : decode cX3_translate 5 = .ok (.astore 4, 2) := by decide +kernel
theorem dX3_translate_7 : decode cX3_translate 7 = .ok (.aload_n 0, 1) := by decide +kernel
theorem dX3_translate_8 : decode cX3_translate 8 = .ok (.iload_n 3, 1) := by decide +kernel
theorem dX3_translate_9 : decode cX3_translate 9 = .ok (.invokevirtual 51, 3) := by decide +kernel
theorem dX3_translate_12 : decode cX3_translate 12 = .ok (.astore 5, 2) := by decide +kernel
theorem dX3_translate_14 : decode cX3_translate 14 = .ok (.aload 4, 2) := by decide +kernel
theorem dX3_translate_16 : decode cX3_translate 16 = .ok (.ifnull 8, 3) := by decide +kernel
theorem dX3_translate_19 : decode cX3_translate 19 = .ok (.aload 5, 2) := by decide +kernel
theorem dX3_translate_21 : decode cX3_translate 21 = .ok (.ifnonnull 6, 3) := by decide +kernel
theorem dX3_translate_24 : decode cX3_translate 24 = .ok (.bipush (-2), 2) := by decide +kernel
theorem dX3_translate_26 : decode cX3_translate 26 = .ok (.ireturn, 1) := by decide +kernel
theorem dX3_translate_27 : decode cX3_translate 27 = .ok (.iload_n 1, 1) := by decide +kernel
theorem dX3_translate_28 : decode cX3_translate 28 = .ok (.invokestatic 55, 3) := by decide +kernel
theorem dX3_translate_31 : decode cX3_translate 31 = .ok (.ifCond .ne 6, 3) := by decide +kernel
theorem dX3_translate_34 : decode cX3_translate 34 = .ok (.bipush (-4), 2) := by decide +kernel
theorem dX3_translate_36 : decode cX3_translate 36 = .ok (.ireturn, 1) := by decide +kernel
theorem dX3_translate_37 : decode cX3_translate 37 = .ok (.aload_n 0, 1) := by decide +kernel
theorem dX3_translate_38 : decode cX3_translate 38 = .ok (.iload_n 1, 1) := by decide +kernel
theorem dX3_translate_39 : decode cX3_translate 39 = .ok (.aload 4, 2) := by decide +kernel
theorem dX3_translate_41 : decode cX3_translate 41 = .ok (.aload 5, 2) := by decide +kernel
theorem dX3_translate_43 : decode cX3_translate 43 = .ok (.invokevirtual 78, 3) := by decide +kernel
theorem dX3_translate_46 : decode cX3_translate 46 = .ok (.istore 6, 2) := by decide +kernel
theorem dX3_translate_48 : decode cX3_translate 48 = .ok (.iload 6, 2) := by decide +kernel
theorem dX3_translate_50 : decode cX3_translate 50 = .ok (.iconst (-1), 1) := by decide +kernel
theorem dX3_translate_51 : decode cX3_translate 51 = .ok (.if_icmp .eq 8, 3) := by decide +kernel
theorem dX3_translate_54 : decode cX3_translate 54 = .ok (.iload 6, 2) := by decide +kernel
theorem dX3_translate_56 : decode cX3_translate 56 = .ok (.goto 8, 3) := by decide +kernel
theorem dX3_translate_59 : decode cX3_translate 59 = .ok (.aload 5, 2) := by decide +kernel
theorem dX3_translate_61 : decode cX3_translate 61 = .ok (.getfield 75, 3) := by decide +kernel
theorem dX3_translate_64 : decode cX3_translate 64 = .ok (.ireturn, 1) := by decide +kernel
theorem dX3_told_0 : decode cX3_told 0 = .ok (.iload_n 1, 1) := by decide +kernel
theorem dX3_told_1 : decode cX3_told 1 = .ok (.ifCond .lt 20, 3) := by decide +kernel
theorem dX3_told_4 : decode cX3_told 4 = .ok (.iload_n 1, 1) := by decide +kernel
theorem dX3_told_5 : decode cX3_told 5 = .ok (.aload_n 0, 1) := by decide +kernel
theorem dX3_told_6 : decode cX3_told 6 = .ok (.getfield 41, 3) := by decide +kernel
theorem dX3_told_9 : decode cX3_told 9 = .ok (.if_icmp .ge 12, 3) := by decide +kernel
theorem dX3_told_12 : decode cX3_told 12 = .ok (.aload_n 0, 1) := by decide +kernel
theorem dX3_told_13 : decode cX3_told 13 = .ok (.getfield 27, 3) := by decide +kernel
theorem dX3_told_16 : decode cX3_told 16 = .ok (.iload_n 1, 1) := by decide +kernel
theorem dX3_told_17 : decode cX3_told 17 = .ok (.iaload, 1) := by decide +kernel
theorem dX3_told_18 : decode cX3_told 18 = .ok (.goto 4, 3) := by decide +kernel
theorem dX3_told_21 : decode cX3_told 21 = .ok (.iconst (-1), 1) := by decide +kernel
theorem dX3_told_22 : decode cX3_told 22 = .ok (.ireturn, 1) := by decide +kernel
set_option maxRecDepth 20000 in
theorem ggX3_order_X3_isKind : GoodIn wsX3_order wsX3_isKind := goodIn_r _ [10] (by decide +kernel) (by decide +kernel)
set_option maxRecDepth 20000 in
theorem gX3_order_X3_isKind : GoodIn wsX3_order (va_wsS RX3 44 yX3_isKind wsX3_isKind) := goodIn_app (goodIn_of _ (by decide +kernel)) ggX3_order_X3_isKind
set_option maxRecDepth 20000 in
theorem ggX3_order_X0_init : GoodIn wsX3_order wsX0_init := goodIn_r _ [13, 14, 15, 16, 17, 18, 19, 20, 21, 22, 44, 45, 46, 47] (by decide +kernel) (by decide +kernel)
set_option maxRecDepth 20000 in
theorem gX3_order_X0_init : GoodIn wsX3_order (wsX0_init) := ggX3_order_X0_init
set_option maxRecDepth 20000 in
theorem ggX3_order_X3_pageAt : GoodIn wsX3_order wsX3_pageAt := goodIn_r _ [26, 27, 36, 37, 38, 39, 40, 41, 42, 43] (by decide +kernel) (by decide +kernel)
set_option maxRecDepth 20000 in
theorem gX3_order_X3_pageAt : GoodIn wsX3_order (wsV RX3 51 RX3 yX3_pageAt wsX3_pageAt) := goodIn_app (goodIn_of _ (by decide +kernel)) ggX3_order_X3_pageAt
set_option maxRecDepth 20000 in
theorem ggX3_order_X0_rankBy : GoodIn wsX3_order wsX0_rankBy := goodIn_r _ [31, 17, 18, 32, 33, 4, 34, 35, 44, 45, 46, 47] (by decide +kernel) (by decide +kernel)
set_option maxRecDepth 20000 in
theorem gX3_order_X0_rankBy : GoodIn wsX3_order (wsV RX3 85 RX0 yX0_rankBy wsX0_rankBy) := goodIn_app (goodIn_of _ (by decide +kernel)) ggX3_order_X0_rankBy
theorem dX3_order_0 : decode cX3_order 0 = .ok (.iload_n 1, 1) := by decide +kernel
theorem dX3_order_1 : decode cX3_order 1 = .ok (.invokestatic 44, 3) := by decide +kernel
theorem dX3_order_4 : decode cX3_order 4 = .ok (.ifCond .ne 6, 3) := by decide +kernel
theorem dX3_order_7 : decode cX3_order 7 = .ok (.bipush (-4), 2) := by decide +kernel
theorem dX3_order_9 : decode cX3_order 9 = .ok (.ireturn, 1) := by decide +kernel
theorem dX3_order_10 : decode cX3_order 10 = .ok (.aload_n 0, 1) := by decide +kernel
theorem dX3_order_11 : decode cX3_order 11 = .ok (.getfield 35, 3) := by decide +kernel
theorem dX3_order_14 : decode cX3_order 14 = .ok (.bipush 12, 2) := by decide +kernel
theorem dX3_order_16 : decode cX3_order 16 = .ok (.if_icmp .lt 5, 3) := by decide +kernel
theorem dX3_order_19 : decode cX3_order 19 = .ok (.iconst (-1), 1) := by decide +kernel
theorem dX3_order_20 : decode cX3_order 20 = .ok (.ireturn, 1) := by decide +kernel
theorem dX3_order_21 : decode cX3_order 21 = .ok (.new 15, 3) := by decide +kernel
theorem dX3_order_24 : decode cX3_order 24 = .ok (.dup, 1) := by decide +kernel
theorem dX3_order_25 : decode cX3_order 25 = .ok (.iload_n 1, 1) := by decide +kernel
theorem dX3_order_26 : decode cX3_order 26 = .ok (.iconst 2, 1) := by decide +kernel
theorem dX3_order_27 : decode cX3_order 27 = .ok (.if_icmp .ne 7, 3) := by decide +kernel
theorem dX3_order_30 : decode cX3_order 30 = .ok (.iconst 1, 1) := by decide +kernel
theorem dX3_order_31 : decode cX3_order 31 = .ok (.goto 4, 3) := by decide +kernel
theorem dX3_order_34 : decode cX3_order 34 = .ok (.iconst 0, 1) := by decide +kernel
theorem dX3_order_35 : decode cX3_order 35 = .ok (.invokespecial 82, 3) := by decide +kernel
theorem dX3_order_38 : decode cX3_order 38 = .ok (.astore_n 2, 1) := by decide +kernel
theorem dX3_order_39 : decode cX3_order 39 = .ok (.aload_n 0, 1) := by decide +kernel
theorem dX3_order_40 : decode cX3_order 40 = .ok (.iconst 0, 1) := by decide +kernel
theorem dX3_order_41 : decode cX3_order 41 = .ok (.invokevirtual 51, 3) := by decide +kernel
theorem dX3_order_44 : decode cX3_order 44 = .ok (.astore_n 3, 1) := by decide +kernel
theorem dX3_order_45 : decode cX3_order 45 = .ok (.iload_n 1, 1) := by decide +kernel
theorem dX3_order_46 : decode cX3_order 46 = .ok (.iconst 1, 1) := by decide +kernel
theorem dX3_order_47 : decode cX3_order 47 = .ok (.if_icmp .ne 15, 3) := by decide +kernel
theorem dX3_order_50 : decode cX3_order 50 = .ok (.aload_n 3, 1) := by decide +kernel
theorem dX3_order_51 : decode cX3_order 51 = .ok (.ifnull 11, 3) := by decide +kernel
theorem dX3_order_54 : decode cX3_order 54 = .ok (.aload_n 2, 1) := by decide +kernel
theorem dX3_order_55 : decode cX3_order 55 = .ok (.aload_n 3, 1) := by decide +kernel
theorem dX3_order_56 : decode cX3_order 56 = .ok (.getfield 65, 3) := by decide +kernel
theorem dX3_order_59 : decode cX3_order 59 = .ok (.invokevirtual 85, 3) := by decide +kernel
theorem dX3_order_62 : decode cX3_order 62 = .ok (.aload_n 0, 1) := by decide +kernel
theorem dX3_order_63 : decode cX3_order 63 = .ok (.getfield 17, 3) := by decide +kernel
theorem dX3_order_66 : decode cX3_order 66 = .ok (.aload_n 0, 1) := by decide +kernel
theorem dX3_order_67 : decode cX3_order 67 = .ok (.getfield 35, 3) := by decide +kernel
theorem dX3_order_70 : decode cX3_order 70 = .ok (.aload_n 2, 1) := by decide +kernel
theorem dX3_order_71 : decode cX3_order 71 = .ok (.aastore, 1) := by decide +kernel
theorem dX3_order_72 : decode cX3_order 72 = .ok (.aload_n 0, 1) := by decide +kernel
theorem dX3_order_73 : decode cX3_order 73 = .ok (.dup, 1) := by decide +kernel
theorem dX3_order_74 : decode cX3_order 74 = .ok (.getfield 35, 3) := by decide +kernel
theorem dX3_order_77 : decode cX3_order 77 = .ok (.dup_x1, 1) := by decide +kernel
theorem dX3_order_78 : decode cX3_order 78 = .ok (.iconst 1, 1) := by decide +kernel
theorem dX3_order_79 : decode cX3_order 79 = .ok (.iadd, 1) := by decide +kernel
theorem dX3_order_80 : decode cX3_order 80 = .ok (.putfield 35, 3) := by decide +kernel
theorem dX3_order_83 : decode cX3_order 83 = .ok (.ireturn, 1) := by decide +kernel
set_option maxRecDepth 20000 in
theorem ggX3_also_X3_orderAt : GoodIn wsX3_also wsX3_orderAt := goodIn_r _ [6, 7, 30, 31, 32, 33, 34, 35, 36, 37] (by decide +kernel) (by decide +kernel)
set_option maxRecDepth 20000 in
theorem gX3_also_X3_orderAt : GoodIn wsX3_also (wsV RX3 89 RX3 yX3_orderAt wsX3_orderAt) := goodIn_app (goodIn_of _ (by decide +kernel)) ggX3_also_X3_orderAt
set_option maxRecDepth 20000 in
theorem ggX3_also_X3_alphabetRefusal : GoodIn wsX3_also wsX3_alphabetRefusal := goodIn_r _ [10, 11, 12, 5, 13] (by decide +kernel) (by decide +kernel)
set_option maxRecDepth 20000 in
theorem gX3_also_X3_alphabetRefusal : GoodIn wsX3_also (va_wsS RX3 97 yX3_alphabetRefusal wsX3_alphabetRefusal) := goodIn_app (goodIn_of _ (by decide +kernel)) ggX3_also_X3_alphabetRefusal
set_option maxRecDepth 20000 in
theorem ggX3_also_X0_addEqual : GoodIn wsX3_also wsX0_addEqual := goodIn_r _ [18, 19, 20, 21, 22, 23, 17, 24, 25, 26, 27, 28, 29] (by decide +kernel) (by decide +kernel)
set_option maxRecDepth 20000 in
theorem gX3_also_X0_addEqual : GoodIn wsX3_also (wsV RX3 101 RX0 yX0_addEqual wsX0_addEqual) := goodIn_app (goodIn_of _ (by decide +kernel)) ggX3_also_X0_addEqual
theorem dX3_also_0 : decode cX3_also 0 = .ok (.aload_n 0, 1) := by decide +kernel
theorem dX3_also_1 : decode cX3_also 1 = .ok (.iload_n 1, 1) := by decide +kernel
theorem dX3_also_2 : decode cX3_also 2 = .ok (.invokevirtual 89, 3) := by decide +kernel
theorem dX3_also_5 : decode cX3_also 5 = .ok (.astore 4, 2) := by decide +kernel
theorem dX3_also_7 : decode cX3_also 7 = .ok (.aload 4, 2) := by decide +kernel
theorem dX3_also_9 : decode cX3_also 9 = .ok (.ifnonnull 6, 3) := by decide +kernel
theorem dX3_also_12 : decode cX3_also 12 = .ok (.bipush (-2), 2) := by decide +kernel
theorem dX3_also_14 : decode cX3_also 14 = .ok (.ireturn, 1) := by decide +kernel
theorem dX3_also_15 : decode cX3_also 15 = .ok (.aload 4, 2) := by decide +kernel
theorem dX3_also_17 : decode cX3_also 17 = .ok (.getfield 93, 3) := by decide +kernel
theorem dX3_also_20 : decode cX3_also 20 = .ok (.iload_n 2, 1) := by decide +kernel
theorem dX3_also_21 : decode cX3_also 21 = .ok (.iload_n 3, 1) := by decide +kernel
theorem dX3_also_22 : decode cX3_also 22 = .ok (.invokestatic 97, 3) := by decide +kernel
theorem dX3_also_25 : decode cX3_also 25 = .ok (.istore 5, 2) := by decide +kernel
theorem dX3_also_27 : decode cX3_also 27 = .ok (.iload 5, 2) := by decide +kernel
theorem dX3_also_29 : decode cX3_also 29 = .ok (.ifCond .eq 6, 3) := by decide +kernel
theorem dX3_also_32 : decode cX3_also 32 = .ok (.iload 5, 2) := by decide +kernel
theorem dX3_also_34 : decode cX3_also 34 = .ok (.ireturn, 1) := by decide +kernel
theorem dX3_also_35 : decode cX3_also 35 = .ok (.aload 4, 2) := by decide +kernel
theorem dX3_also_37 : decode cX3_also 37 = .ok (.iload_n 2, 1) := by decide +kernel
theorem dX3_also_38 : decode cX3_also 38 = .ok (.iload_n 3, 1) := by decide +kernel
theorem dX3_also_39 : decode cX3_also 39 = .ok (.invokevirtual 101, 3) := by decide +kernel
theorem dX3_also_42 : decode cX3_also 42 = .ok (.ifCond .eq 7, 3) := by decide +kernel
theorem dX3_also_45 : decode cX3_also 45 = .ok (.iconst 1, 1) := by decide +kernel
theorem dX3_also_46 : decode cX3_also 46 = .ok (.goto 4, 3) := by decide +kernel
theorem dX3_also_49 : decode cX3_also 49 = .ok (.iconst 0, 1) := by decide +kernel
theorem dX3_also_50 : decode cX3_also 50 = .ok (.ireturn, 1) := by decide +kernel
set_option maxRecDepth 20000 in
theorem ggX3_through_X3_orderAt : GoodIn wsX3_through wsX3_orderAt := goodIn_r _ [10, 11, 41, 42, 43, 44, 45, 46, 47, 48] (by decide +kernel) (by decide +kernel)
set_option maxRecDepth 20000 in
theorem gX3_through_X3_orderAt : GoodIn wsX3_through (wsV RX3 89 RX3 yX3_orderAt wsX3_orderAt) := goodIn_app (goodIn_of _ (by decide +kernel)) ggX3_through_X3_orderAt
set_option maxRecDepth 20000 in
theorem ggX3_through_X3_alphabetRefusal : GoodIn wsX3_through wsX3_alphabetRefusal := goodIn_r _ [14, 15, 16, 9, 17] (by decide +kernel) (by decide +kernel)
set_option maxRecDepth 20000 in
theorem gX3_through_X3_alphabetRefusal : GoodIn wsX3_through (va_wsS RX3 97 yX3_alphabetRefusal wsX3_alphabetRefusal) := goodIn_app (goodIn_of _ (by decide +kernel)) ggX3_through_X3_alphabetRefusal
set_option maxRecDepth 20000 in
theorem ggX3_through_X0_addRange : GoodIn wsX3_through wsX0_addRange := goodIn_r _ [22, 23, 24, 4, 25, 26, 27, 28, 29, 30, 31, 32, 3, 5, 33, 34, 35, 21, 36, 37, 38, 39, 40] (by decide +kernel) (by decide +kernel)
set_option maxRecDepth 20000 in
theorem gX3_through_X0_addRange : GoodIn wsX3_through (wsV RX3 105 RX0 yX0_addRange wsX0_addRange) := goodIn_app (goodIn_of _ (by decide +kernel)) ggX3_through_X0_addRange
theorem dX3_through_0 : decode cX3_through 0 = .ok (.aload_n 0, 1) := by decide +kernel
theorem dX3_through_1 : decode cX3_through 1 = .ok (.iload_n 1, 1) := by decide +kernel
theorem dX3_through_2 : decode cX3_through 2 = .ok (.invokevirtual 89, 3) := by decide +kernel
theorem dX3_through_5 : decode cX3_through 5 = .ok (.astore 4, 2) := by decide +kernel
theorem dX3_through_7 : decode cX3_through 7 = .ok (.aload 4, 2) := by decide +kernel
theorem dX3_through_9 : decode cX3_through 9 = .ok (.ifnonnull 6, 3) := by decide +kernel
theorem dX3_through_12 : decode cX3_through 12 = .ok (.bipush (-2), 2) := by decide +kernel
theorem dX3_through_14 : decode cX3_through 14 = .ok (.ireturn, 1) := by decide +kernel
theorem dX3_through_15 : decode cX3_through 15 = .ok (.aload 4, 2) := by decide +kernel
theorem dX3_through_17 : decode cX3_through 17 = .ok (.getfield 93, 3) := by decide +kernel
theorem dX3_through_20 : decode cX3_through 20 = .ok (.iload_n 2, 1) := by decide +kernel
theorem dX3_through_21 : decode cX3_through 21 = .ok (.iload_n 3, 1) := by decide +kernel
theorem dX3_through_22 : decode cX3_through 22 = .ok (.invokestatic 97, 3) := by decide +kernel
theorem dX3_through_25 : decode cX3_through 25 = .ok (.istore 5, 2) := by decide +kernel
theorem dX3_through_27 : decode cX3_through 27 = .ok (.iload 5, 2) := by decide +kernel
theorem dX3_through_29 : decode cX3_through 29 = .ok (.ifCond .eq 6, 3) := by decide +kernel
theorem dX3_through_32 : decode cX3_through 32 = .ok (.iload 5, 2) := by decide +kernel
theorem dX3_through_34 : decode cX3_through 34 = .ok (.ireturn, 1) := by decide +kernel
theorem dX3_through_35 : decode cX3_through 35 = .ok (.aload 4, 2) := by decide +kernel
theorem dX3_through_37 : decode cX3_through 37 = .ok (.iload_n 2, 1) := by decide +kernel
theorem dX3_through_38 : decode cX3_through 38 = .ok (.iload_n 3, 1) := by decide +kernel
theorem dX3_through_39 : decode cX3_through 39 = .ok (.invokevirtual 105, 3) := by decide +kernel
theorem dX3_through_42 : decode cX3_through 42 = .ok (.ifCond .eq 14, 3) := by decide +kernel
theorem dX3_through_45 : decode cX3_through 45 = .ok (.iload_n 3, 1) := by decide +kernel
theorem dX3_through_46 : decode cX3_through 46 = .ok (.iload_n 2, 1) := by decide +kernel
theorem dX3_through_47 : decode cX3_through 47 = .ok (.isub, 1) := by decide +kernel
theorem dX3_through_48 : decode cX3_through 48 = .ok (.invokestatic 108, 3) := by decide +kernel
theorem dX3_through_51 : decode cX3_through 51 = .ok (.iconst 1, 1) := by decide +kernel
theorem dX3_through_52 : decode cX3_through 52 = .ok (.iadd, 1) := by decide +kernel
theorem dX3_through_53 : decode cX3_through 53 = .ok (.goto 4, 3) := by decide +kernel
theorem dX3_through_56 : decode cX3_through 56 = .ok (.iconst 0, 1) := by decide +kernel
theorem dX3_through_57 : decode cX3_through 57 = .ok (.ireturn, 1) := by decide +kernel
set_option maxRecDepth 20000 in
theorem ggX3_text_X2_init : GoodIn wsX3_text wsX2_init := goodIn_r _ [7, 8, 9, 10, 11, 12, 13, 22, 23] (by decide +kernel) (by decide +kernel)
set_option maxRecDepth 20000 in
theorem gX3_text_X2_init_n113 : GoodIn wsX3_text (wsX2_init) := ggX3_text_X2_init
theorem dX3_text_0 : decode cX3_text 0 = .ok (.aload_n 0, 1) := by decide +kernel
theorem dX3_text_1 : decode cX3_text 1 = .ok (.getfield 38, 3) := by decide +kernel
theorem dX3_text_4 : decode cX3_text 4 = .ok (.bipush 40, 2) := by decide +kernel
theorem dX3_text_6 : decode cX3_text 6 = .ok (.if_icmp .lt 5, 3) := by decide +kernel
theorem dX3_text_9 : decode cX3_text 9 = .ok (.iconst (-1), 1) := by decide +kernel
theorem dX3_text_10 : decode cX3_text 10 = .ok (.ireturn, 1) := by decide +kernel
theorem dX3_text_11 : decode cX3_text 11 = .ok (.aload_n 0, 1) := by decide +kernel
theorem dX3_text_12 : decode cX3_text 12 = .ok (.getfield 23, 3) := by decide +kernel
theorem dX3_text_15 : decode cX3_text 15 = .ok (.aload_n 0, 1) := by decide +kernel
theorem dX3_text_16 : decode cX3_text 16 = .ok (.getfield 38, 3) := by decide +kernel
theorem dX3_text_19 : decode cX3_text 19 = .ok (.new 21, 3) := by decide +kernel
theorem dX3_text_22 : decode cX3_text 22 = .ok (.dup, 1) := by decide +kernel
theorem dX3_text_23 : decode cX3_text 23 = .ok (.invokespecial 113, 3) := by decide +kernel
theorem dX3_text_26 : decode cX3_text 26 = .ok (.aastore, 1) := by decide +kernel
theorem dX3_text_27 : decode cX3_text 27 = .ok (.aload_n 0, 1) := by decide +kernel
theorem dX3_text_28 : decode cX3_text 28 = .ok (.dup, 1) := by decide +kernel
theorem dX3_text_29 : decode cX3_text 29 = .ok (.getfield 38, 3) := by decide +kernel
theorem dX3_text_32 : decode cX3_text 32 = .ok (.dup_x1, 1) := by decide +kernel
theorem dX3_text_33 : decode cX3_text 33 = .ok (.iconst 1, 1) := by decide +kernel
theorem dX3_text_34 : decode cX3_text 34 = .ok (.iadd, 1) := by decide +kernel
theorem dX3_text_35 : decode cX3_text 35 = .ok (.putfield 38, 3) := by decide +kernel
theorem dX3_text_38 : decode cX3_text 38 = .ok (.ireturn, 1) := by decide +kernel
set_option maxRecDepth 20000 in
theorem ggX3_sign_X3_textAt : GoodIn wsX3_sign wsX3_textAt := goodIn_r _ [7, 8, 14, 15, 16, 17, 18, 19, 20, 21] (by decide +kernel) (by decide +kernel)
set_option maxRecDepth 20000 in
theorem gX3_sign_X3_textAt : GoodIn wsX3_sign (wsV RX3 114 RX3 yX3_textAt wsX3_textAt) := goodIn_app (goodIn_of _ (by decide +kernel)) ggX3_sign_X3_textAt
set_option maxRecDepth 20000 in
theorem ggX3_sign_X3_isCode : GoodIn wsX3_sign wsX3_isCode := goodIn_r _ [11] (by decide +kernel) (by decide +kernel)
set_option maxRecDepth 20000 in
theorem gX3_sign_X3_isCode : GoodIn wsX3_sign (va_wsS RX3 55 yX3_isCode wsX3_isCode) := goodIn_app (goodIn_of _ (by decide +kernel)) ggX3_sign_X3_isCode
theorem dX3_sign_0 : decode cX3_sign 0 = .ok (.aload_n 0, 1) := by decide +kernel
theorem dX3_sign_1 : decode cX3_sign 1 = .ok (.iload_n 1, 1) := by decide +kernel
theorem dX3_sign_2 : decode cX3_sign 2 = .ok (.invokevirtual 114, 3) := by decide +kernel
theorem dX3_sign_5 : decode cX3_sign 5 = .ok (.astore_n 3, 1) := by decide +kernel
theorem dX3_sign_6 : decode cX3_sign 6 = .ok (.aload_n 3, 1) := by decide +kernel
theorem dX3_sign_7 : decode cX3_sign 7 = .ok (.ifnonnull 6, 3) := by decide +kernel
theorem dX3_sign_10 : decode cX3_sign 10 = .ok (.bipush (-2), 2) := by decide +kernel
theorem dX3_sign_12 : decode cX3_sign 12 = .ok (.ireturn, 1) := by decide +kernel
theorem dX3_sign_13 : decode cX3_sign 13 = .ok (.iload_n 2, 1) := by decide +kernel
theorem dX3_sign_14 : decode cX3_sign 14 = .ok (.invokestatic 55, 3) := by decide +kernel
theorem dX3_sign_17 : decode cX3_sign 17 = .ok (.ifCond .ne 6, 3) := by decide +kernel
theorem dX3_sign_20 : decode cX3_sign 20 = .ok (.bipush (-4), 2) := by decide +kernel
theorem dX3_sign_22 : decode cX3_sign 22 = .ok (.ireturn, 1) := by decide +kernel
theorem dX3_sign_23 : decode cX3_sign 23 = .ok (.aload_n 3, 1) := by decide +kernel
theorem dX3_sign_24 : decode cX3_sign 24 = .ok (.getfield 118, 3) := by decide +kernel
theorem dX3_sign_27 : decode cX3_sign 27 = .ok (.bipush 40, 2) := by decide +kernel
theorem dX3_sign_29 : decode cX3_sign 29 = .ok (.if_icmp .lt 5, 3) := by decide +kernel
theorem dX3_sign_32 : decode cX3_sign 32 = .ok (.iconst (-1), 1) := by decide +kernel
theorem dX3_sign_33 : decode cX3_sign 33 = .ok (.ireturn, 1) := by decide +kernel
theorem dX3_sign_34 : decode cX3_sign 34 = .ok (.aload_n 3, 1) := by decide +kernel
theorem dX3_sign_35 : decode cX3_sign 35 = .ok (.getfield 121, 3) := by decide +kernel
theorem dX3_sign_38 : decode cX3_sign 38 = .ok (.aload_n 3, 1) := by decide +kernel
theorem dX3_sign_39 : decode cX3_sign 39 = .ok (.getfield 118, 3) := by decide +kernel
theorem dX3_sign_42 : decode cX3_sign 42 = .ok (.iload_n 2, 1) := by decide +kernel
theorem dX3_sign_43 : decode cX3_sign 43 = .ok (.iastore, 1) := by decide +kernel
theorem dX3_sign_44 : decode cX3_sign 44 = .ok (.aload_n 3, 1) := by decide +kernel
theorem dX3_sign_45 : decode cX3_sign 45 = .ok (.dup, 1) := by decide +kernel
theorem dX3_sign_46 : decode cX3_sign 46 = .ok (.getfield 118, 3) := by decide +kernel
theorem dX3_sign_49 : decode cX3_sign 49 = .ok (.iconst 1, 1) := by decide +kernel
theorem dX3_sign_50 : decode cX3_sign 50 = .ok (.iadd, 1) := by decide +kernel
theorem dX3_sign_51 : decode cX3_sign 51 = .ok (.putfield 118, 3) := by decide +kernel
theorem dX3_sign_54 : decode cX3_sign 54 = .ok (.aload_n 3, 1) := by decide +kernel
theorem dX3_sign_55 : decode cX3_sign 55 = .ok (.getfield 118, 3) := by decide +kernel
theorem dX3_sign_58 : decode cX3_sign 58 = .ok (.ireturn, 1) := by decide +kernel
set_option maxRecDepth 20000 in
theorem ggX3_whole_X3_textAt : GoodIn wsX3_whole wsX3_textAt := goodIn_r _ [8, 9, 32, 33, 34, 35, 36, 37, 38, 39] (by decide +kernel) (by decide +kernel)
set_option maxRecDepth 20000 in
theorem gX3_whole_X3_textAt : GoodIn wsX3_whole (wsV RX3 114 RX3 yX3_textAt wsX3_textAt) := goodIn_app (goodIn_of _ (by decide +kernel)) ggX3_whole_X3_textAt
set_option maxRecDepth 20000 in
theorem ggX3_whole_X3_pageAt : GoodIn wsX3_whole wsX3_pageAt := goodIn_r _ [13, 14, 32, 33, 34, 35, 36, 37, 38, 39] (by decide +kernel) (by decide +kernel)
set_option maxRecDepth 20000 in
theorem gX3_whole_X3_pageAt : GoodIn wsX3_whole (wsV RX3 51 RX3 yX3_pageAt wsX3_pageAt) := goodIn_app (goodIn_of _ (by decide +kernel)) ggX3_whole_X3_pageAt
set_option maxRecDepth 20000 in
theorem ggX3_whole_X3_findOrEnlist : GoodIn wsX3_whole wsX3_findOrEnlist := goodIn_r _ [18, 19, 20, 21, 22, 23, 24, 25, 26, 27, 30, 31, 32, 33, 34, 35, 36, 37, 38, 39] (by decide +kernel) (by decide +kernel)
set_option maxRecDepth 20000 in
theorem gX3_whole_X3_findOrEnlist : GoodIn wsX3_whole (wsV RX3 78 RX3 yX3_findOrEnlist wsX3_findOrEnlist) := goodIn_app (goodIn_of _ (by decide +kernel)) ggX3_whole_X3_findOrEnlist
theorem dX3_whole_0 : decode cX3_whole 0 = .ok (.aload_n 0, 1) := by decide +kernel
theorem dX3_whole_1 : decode cX3_whole 1 = .ok (.iload_n 1, 1) := by decide +kernel
theorem dX3_whole_2 : decode cX3_whole 2 = .ok (.invokevirtual 114, 3) := by decide +kernel
theorem dX3_whole_5 : decode cX3_whole 5 = .ok (.astore 4, 2) := by decide +kernel
theorem dX3_whole_7 : decode cX3_whole 7 = .ok (.aload_n 0, 1) := by decide +kernel
theorem dX3_whole_8 : decode cX3_whole 8 = .ok (.iload_n 2, 1) := by decide +kernel
theorem dX3_whole_9 : decode cX3_whole 9 = .ok (.invokevirtual 51, 3) := by decide +kernel
theorem dX3_whole_12 : decode cX3_whole 12 = .ok (.astore 5, 2) := by decide +kernel
theorem dX3_whole_14 : decode cX3_whole 14 = .ok (.aload_n 0, 1) := by decide +kernel
theorem dX3_whole_15 : decode cX3_whole 15 = .ok (.iload_n 3, 1) := by decide +kernel
theorem dX3_whole_16 : decode cX3_whole 16 = .ok (.invokevirtual 51, 3) := by decide +kernel
theorem dX3_whole_19 : decode cX3_whole 19 = .ok (.astore 6, 2) := by decide +kernel
theorem dX3_whole_21 : decode cX3_whole 21 = .ok (.aload 4, 2) := by decide +kernel
theorem dX3_whole_23 : decode cX3_whole 23 = .ok (.ifnull 13, 3) := by decide +kernel
theorem dX3_whole_26 : decode cX3_whole 26 = .ok (.aload 5, 2) := by decide +kernel
theorem dX3_whole_28 : decode cX3_whole 28 = .ok (.ifnull 8, 3) := by decide +kernel
theorem dX3_whole_31 : decode cX3_whole 31 = .ok (.aload 6, 2) := by decide +kernel
theorem dX3_whole_33 : decode cX3_whole 33 = .ok (.ifnonnull 6, 3) := by decide +kernel
theorem dX3_whole_36 : decode cX3_whole 36 = .ok (.bipush (-2), 2) := by decide +kernel
theorem dX3_whole_38 : decode cX3_whole 38 = .ok (.ireturn, 1) := by decide +kernel
theorem dX3_whole_39 : decode cX3_whole 39 = .ok (.iconst 0, 1) := by decide +kernel
theorem dX3_whole_40 : decode cX3_whole 40 = .ok (.istore 7, 2) := by decide +kernel
theorem dX3_whole_42 : decode cX3_whole 42 = .ok (.iconst 0, 1) := by decide +kernel
theorem dX3_whole_43 : decode cX3_whole 43 = .ok (.istore 8, 2) := by decide +kernel
theorem dX3_whole_45 : decode cX3_whole 45 = .ok (.iload 8, 2) := by decide +kernel
theorem dX3_whole_47 : decode cX3_whole 47 = .ok (.aload 4, 2) := by decide +kernel
theorem dX3_whole_49 : decode cX3_whole 49 = .ok (.getfield 118, 3) := by decide +kernel
theorem dX3_whole_52 : decode cX3_whole 52 = .ok (.if_icmp .ge 53, 3) := by decide +kernel
theorem dX3_whole_55 : decode cX3_whole 55 = .ok (.aload_n 0, 1) := by decide +kernel
theorem dX3_whole_56 : decode cX3_whole 56 = .ok (.aload 4, 2) := by decide +kernel
theorem dX3_whole_58 : decode cX3_whole 58 = .ok (.getfield 121, 3) := by decide +kernel
theorem dX3_whole_61 : decode cX3_whole 61 = .ok (.iload 8, 2) := by decide +kernel
theorem dX3_whole_63 : decode cX3_whole 63 = .ok (.iaload, 1) := by decide +kernel
theorem dX3_whole_64 : decode cX3_whole 64 = .ok (.aload 5, 2) := by decide +kernel
theorem dX3_whole_66 : decode cX3_whole 66 = .ok (.aload 6, 2) := by decide +kernel
theorem dX3_whole_68 : decode cX3_whole 68 = .ok (.invokevirtual 78, 3) := by decide +kernel
theorem dX3_whole_71 : decode cX3_whole 71 = .ok (.istore 9, 2) := by decide +kernel
theorem dX3_whole_73 : decode cX3_whole 73 = .ok (.iload 9, 2) := by decide +kernel
theorem dX3_whole_75 : decode cX3_whole 75 = .ok (.iconst (-1), 1) := by decide +kernel
theorem dX3_whole_76 : decode cX3_whole 76 = .ok (.if_icmp .ne 13, 3) := by decide +kernel
theorem dX3_whole_79 : decode cX3_whole 79 = .ok (.iinc 7 1, 3) := by decide +kernel
theorem dX3_whole_82 : decode cX3_whole 82 = .ok (.aload 6, 2) := by decide +kernel
theorem dX3_whole_84 : decode cX3_whole 84 = .ok (.getfield 75, 3) := by decide +kernel
theorem dX3_whole_87 : decode cX3_whole 87 = .ok (.istore 9, 2) := by decide +kernel
theorem dX3_whole_89 : decode cX3_whole 89 = .ok (.aload 4, 2) := by decide +kernel
theorem dX3_whole_91 : decode cX3_whole 91 = .ok (.getfield 121, 3) := by decide +kernel
theorem dX3_whole_94 : decode cX3_whole 94 = .ok (.iload 8, 2) := by decide +kernel
theorem dX3_whole_96 : decode cX3_whole 96 = .ok (.iload 9, 2) := by decide +kernel
theorem dX3_whole_98 : decode cX3_whole 98 = .ok (.iastore, 1) := by decide +kernel
theorem dX3_whole_99 : decode cX3_whole 99 = .ok (.iinc 8 1, 3) := by decide +kernel
theorem dX3_whole_102 : decode cX3_whole 102 = .ok (.goto (-57), 3) := by decide +kernel
theorem dX3_whole_105 : decode cX3_whole 105 = .ok (.iload 7, 2) := by decide +kernel
theorem dX3_whole_107 : decode cX3_whole 107 = .ok (.ireturn, 1) := by decide +kernel
set_option maxRecDepth 20000 in
theorem ggX3_at_X3_textAt : GoodIn wsX3_at wsX3_textAt := goodIn_r _ [7, 8, 11, 12, 13, 14, 15, 16, 17, 18] (by decide +kernel) (by decide +kernel)
set_option maxRecDepth 20000 in
theorem gX3_at_X3_textAt : GoodIn wsX3_at (wsV RX3 114 RX3 yX3_textAt wsX3_textAt) := goodIn_app (goodIn_of _ (by decide +kernel)) ggX3_at_X3_textAt
theorem dX3_at_0 : decode cX3_at 0 = .ok (.aload_n 0, 1) := by decide +kernel
theorem dX3_at_1 : decode cX3_at 1 = .ok (.iload_n 1, 1) := by decide +kernel
theorem dX3_at_2 : decode cX3_at 2 = .ok (.invokevirtual 114, 3) := by decide +kernel
theorem dX3_at_5 : decode cX3_at 5 = .ok (.astore_n 3, 1) := by decide +kernel
theorem dX3_at_6 : decode cX3_at 6 = .ok (.aload_n 3, 1) := by decide +kernel
theorem dX3_at_7 : decode cX3_at 7 = .ok (.ifnull 24, 3) := by decide +kernel
theorem dX3_at_10 : decode cX3_at 10 = .ok (.iload_n 2, 1) := by decide +kernel
theorem dX3_at_11 : decode cX3_at 11 = .ok (.ifCond .lt 20, 3) := by decide +kernel
theorem dX3_at_14 : decode cX3_at 14 = .ok (.iload_n 2, 1) := by decide +kernel
theorem dX3_at_15 : decode cX3_at 15 = .ok (.aload_n 3, 1) := by decide +kernel
theorem dX3_at_16 : decode cX3_at 16 = .ok (.getfield 118, 3) := by decide +kernel
theorem dX3_at_19 : decode cX3_at 19 = .ok (.if_icmp .ge 12, 3) := by decide +kernel
theorem dX3_at_22 : decode cX3_at 22 = .ok (.aload_n 3, 1) := by decide +kernel
theorem dX3_at_23 : decode cX3_at 23 = .ok (.getfield 121, 3) := by decide +kernel
theorem dX3_at_26 : decode cX3_at 26 = .ok (.iload_n 2, 1) := by decide +kernel
theorem dX3_at_27 : decode cX3_at 27 = .ok (.iaload, 1) := by decide +kernel
theorem dX3_at_28 : decode cX3_at 28 = .ok (.goto 4, 3) := by decide +kernel
theorem dX3_at_31 : decode cX3_at 31 = .ok (.iconst (-1), 1) := by decide +kernel
theorem dX3_at_32 : decode cX3_at 32 = .ok (.ireturn, 1) := by decide +kernel
set_option maxRecDepth 20000 in
theorem ggX3_compare_X3_orderAt : GoodIn wsX3_compare wsX3_orderAt := goodIn_r _ [11, 12, 31, 32, 33, 34, 35, 36, 37, 38] (by decide +kernel) (by decide +kernel)
set_option maxRecDepth 20000 in
theorem gX3_compare_X3_orderAt : GoodIn wsX3_compare (wsV RX3 89 RX3 yX3_orderAt wsX3_orderAt) := goodIn_app (goodIn_of _ (by decide +kernel)) ggX3_compare_X3_orderAt
set_option maxRecDepth 20000 in
theorem ggX3_compare_X3_textAt : GoodIn wsX3_compare wsX3_textAt := goodIn_r _ [16, 17, 31, 32, 33, 34, 35, 36, 37, 38] (by decide +kernel) (by decide +kernel)
set_option maxRecDepth 20000 in
theorem gX3_compare_X3_textAt : GoodIn wsX3_compare (wsV RX3 114 RX3 yX3_textAt wsX3_textAt) := goodIn_app (goodIn_of _ (by decide +kernel)) ggX3_compare_X3_textAt
set_option maxRecDepth 20000 in
theorem ggX3_compare_X2_codeOrBlank : GoodIn wsX3_compare wsX2_codeOrBlank := goodIn_r _ [22, 23, 24, 25, 26] (by decide +kernel) (by decide +kernel)
set_option maxRecDepth 20000 in
theorem gX3_compare_X2_codeOrBlank : GoodIn wsX3_compare (wsV RX3 131 RX2 yX2_codeOrBlank wsX2_codeOrBlank) := goodIn_app (goodIn_of _ (by decide +kernel)) ggX3_compare_X2_codeOrBlank
theorem dX3_compare_0 : decode cX3_compare 0 = .ok (.aload_n 0, 1) := by decide +kernel
theorem dX3_compare_1 : decode cX3_compare 1 = .ok (.iload_n 1, 1) := by decide +kernel
theorem dX3_compare_2 : decode cX3_compare 2 = .ok (.invokevirtual 89, 3) := by decide +kernel
theorem dX3_compare_5 : decode cX3_compare 5 = .ok (.astore 4, 2) := by decide +kernel
theorem dX3_compare_7 : decode cX3_compare 7 = .ok (.aload_n 0, 1) := by decide +kernel
theorem dX3_compare_8 : decode cX3_compare 8 = .ok (.iload_n 2, 1) := by decide +kernel
theorem dX3_compare_9 : decode cX3_compare 9 = .ok (.invokevirtual 114, 3) := by decide +kernel
theorem dX3_compare_12 : decode cX3_compare 12 = .ok (.astore 5, 2) := by decide +kernel
theorem dX3_compare_14 : decode cX3_compare 14 = .ok (.aload_n 0, 1) := by decide +kernel
theorem dX3_compare_15 : decode cX3_compare 15 = .ok (.iload_n 3, 1) := by decide +kernel
theorem dX3_compare_16 : decode cX3_compare 16 = .ok (.invokevirtual 114, 3) := by decide +kernel
theorem dX3_compare_19 : decode cX3_compare 19 = .ok (.astore 6, 2) := by decide +kernel
theorem dX3_compare_21 : decode cX3_compare 21 = .ok (.aload 4, 2) := by decide +kernel
theorem dX3_compare_23 : decode cX3_compare 23 = .ok (.ifnull 13, 3) := by decide +kernel
theorem dX3_compare_26 : decode cX3_compare 26 = .ok (.aload 5, 2) := by decide +kernel
theorem dX3_compare_28 : decode cX3_compare 28 = .ok (.ifnull 8, 3) := by decide +kernel
theorem dX3_compare_31 : decode cX3_compare 31 = .ok (.aload 6, 2) := by decide +kernel
theorem dX3_compare_33 : decode cX3_compare 33 = .ok (.ifnonnull 6, 3) := by decide +kernel
theorem dX3_compare_36 : decode cX3_compare 36 = .ok (.bipush (-2), 2) := by decide +kernel
theorem dX3_compare_38 : decode cX3_compare 38 = .ok (.ireturn, 1) := by decide +kernel
theorem dX3_compare_39 : decode cX3_compare 39 = .ok (.aload 5, 2) := by decide +kernel
theorem dX3_compare_41 : decode cX3_compare 41 = .ok (.getfield 118, 3) := by decide +kernel
theorem dX3_compare_44 : decode cX3_compare 44 = .ok (.aload 6, 2) := by decide +kernel
theorem dX3_compare_46 : decode cX3_compare 46 = .ok (.getfield 118, 3) := by decide +kernel
theorem dX3_compare_49 : decode cX3_compare 49 = .ok (.invokestatic 124, 3) := by decide +kernel
theorem dX3_compare_52 : decode cX3_compare 52 = .ok (.istore 7, 2) := by decide +kernel
theorem dX3_compare_54 : decode cX3_compare 54 = .ok (.iconst 0, 1) := by decide +kernel
theorem dX3_compare_55 : decode cX3_compare 55 = .ok (.istore 8, 2) := by decide +kernel
theorem dX3_compare_57 : decode cX3_compare 57 = .ok (.iload 8, 2) := by decide +kernel
theorem dX3_compare_59 : decode cX3_compare 59 = .ok (.iload 7, 2) := by decide +kernel
theorem dX3_compare_61 : decode cX3_compare 61 = .ok (.if_icmp .ge 59, 3) := by decide +kernel
theorem dX3_compare_64 : decode cX3_compare 64 = .ok (.aload 4, 2) := by decide +kernel
theorem dX3_compare_66 : decode cX3_compare 66 = .ok (.getfield 128, 3) := by decide +kernel
theorem dX3_compare_69 : decode cX3_compare 69 = .ok (.aload 5, 2) := by decide +kernel
theorem dX3_compare_71 : decode cX3_compare 71 = .ok (.iload 8, 2) := by decide +kernel
theorem dX3_compare_73 : decode cX3_compare 73 = .ok (.invokevirtual 131, 3) := by decide +kernel
theorem dX3_compare_76 : decode cX3_compare 76 = .ok (.iaload, 1) := by decide +kernel
theorem dX3_compare_77 : decode cX3_compare 77 = .ok (.istore 9, 2) := by decide +kernel
theorem dX3_compare_79 : decode cX3_compare 79 = .ok (.aload 4, 2) := by decide +kernel
theorem dX3_compare_81 : decode cX3_compare 81 = .ok (.getfield 128, 3) := by decide +kernel
theorem dX3_compare_84 : decode cX3_compare 84 = .ok (.aload 6, 2) := by decide +kernel
theorem dX3_compare_86 : decode cX3_compare 86 = .ok (.iload 8, 2) := by decide +kernel
theorem dX3_compare_88 : decode cX3_compare 88 = .ok (.invokevirtual 131, 3) := by decide +kernel
theorem dX3_compare_91 : decode cX3_compare 91 = .ok (.iaload, 1) := by decide +kernel
theorem dX3_compare_92 : decode cX3_compare 92 = .ok (.istore 10, 2) := by decide +kernel
theorem dX3_compare_94 : decode cX3_compare 94 = .ok (.iload 9, 2) := by decide +kernel
theorem dX3_compare_96 : decode cX3_compare 96 = .ok (.iload 10, 2) := by decide +kernel
theorem dX3_compare_98 : decode cX3_compare 98 = .ok (.if_icmp .eq 16, 3) := by decide +kernel
theorem dX3_compare_101 : decode cX3_compare 101 = .ok (.iload 9, 2) := by decide +kernel
theorem dX3_compare_103 : decode cX3_compare 103 = .ok (.iload 10, 2) := by decide +kernel
theorem dX3_compare_105 : decode cX3_compare 105 = .ok (.if_icmp .ge 7, 3) := by decide +kernel
theorem dX3_compare_108 : decode cX3_compare 108 = .ok (.iconst (-1), 1) := by decide +kernel
theorem dX3_compare_109 : decode cX3_compare 109 = .ok (.goto 4, 3) := by decide +kernel
theorem dX3_compare_112 : decode cX3_compare 112 = .ok (.iconst 1, 1) := by decide +kernel
theorem dX3_compare_113 : decode cX3_compare 113 = .ok (.ireturn, 1) := by decide +kernel
theorem dX3_compare_114 : decode cX3_compare 114 = .ok (.iinc 8 1, 3) := by decide +kernel
theorem dX3_compare_117 : decode cX3_compare 117 = .ok (.goto (-60), 3) := by decide +kernel
theorem dX3_compare_120 : decode cX3_compare 120 = .ok (.iconst 0, 1) := by decide +kernel
theorem dX3_compare_121 : decode cX3_compare 121 = .ok (.ireturn, 1) := by decide +kernel
set_option maxRecDepth 20000 in
theorem ggX3_cls_X3_isGreatLetter : GoodIn wsX3_cls wsX3_isGreatLetter := goodIn_r _ [4] (by decide +kernel) (by decide +kernel)
set_option maxRecDepth 20000 in
theorem gX3_cls_X3_isGreatLetter : GoodIn wsX3_cls (va_wsS RX3 134 yX3_isGreatLetter wsX3_isGreatLetter) := goodIn_app (goodIn_of _ (by decide +kernel)) ggX3_cls_X3_isGreatLetter
set_option maxRecDepth 20000 in
theorem ggX3_cls_X3_isSmallLetter : GoodIn wsX3_cls wsX3_isSmallLetter := goodIn_r _ [7] (by decide +kernel) (by decide +kernel)
set_option maxRecDepth 20000 in
theorem gX3_cls_X3_isSmallLetter : GoodIn wsX3_cls (va_wsS RX3 137 yX3_isSmallLetter wsX3_isSmallLetter) := goodIn_app (goodIn_of _ (by decide +kernel)) ggX3_cls_X3_isSmallLetter
theorem dX3_cls_0 : decode cX3_cls 0 = .ok (.iload_n 2, 1) := by decide +kernel
theorem dX3_cls_1 : decode cX3_cls 1 = .ok (.tableswitch 121 0 5 #[39, 57, 77, 82, 87, 99], 39) := by decide +kernel
theorem dX3_cls_40 : decode cX3_cls 40 = .ok (.iload_n 1, 1) := by decide +kernel
theorem dX3_cls_41 : decode cX3_cls 41 = .ok (.bipush 48, 2) := by decide +kernel
theorem dX3_cls_43 : decode cX3_cls 43 = .ok (.if_icmp .lt 13, 3) := by decide +kernel
theorem dX3_cls_46 : decode cX3_cls 46 = .ok (.iload_n 1, 1) := by decide +kernel
theorem dX3_cls_47 : decode cX3_cls 47 = .ok (.bipush 57, 2) := by decide +kernel
theorem dX3_cls_49 : decode cX3_cls 49 = .ok (.if_icmp .gt 7, 3) := by decide +kernel
theorem dX3_cls_52 : decode cX3_cls 52 = .ok (.iconst 1, 1) := by decide +kernel
theorem dX3_cls_53 : decode cX3_cls 53 = .ok (.goto 4, 3) := by decide +kernel
theorem dX3_cls_56 : decode cX3_cls 56 = .ok (.iconst 0, 1) := by decide +kernel
theorem dX3_cls_57 : decode cX3_cls 57 = .ok (.ireturn, 1) := by decide +kernel
theorem dX3_cls_58 : decode cX3_cls 58 = .ok (.iload_n 1, 1) := by decide +kernel
theorem dX3_cls_59 : decode cX3_cls 59 = .ok (.invokestatic 134, 3) := by decide +kernel
theorem dX3_cls_62 : decode cX3_cls 62 = .ok (.ifCond .ne 10, 3) := by decide +kernel
theorem dX3_cls_65 : decode cX3_cls 65 = .ok (.iload_n 1, 1) := by decide +kernel
theorem dX3_cls_66 : decode cX3_cls 66 = .ok (.invokestatic 137, 3) := by decide +kernel
theorem dX3_cls_69 : decode cX3_cls 69 = .ok (.ifCond .eq 7, 3) := by decide +kernel
theorem dX3_cls_72 : decode cX3_cls 72 = .ok (.iconst 1, 1) := by decide +kernel
theorem dX3_cls_73 : decode cX3_cls 73 = .ok (.goto 4, 3) := by decide +kernel
theorem dX3_cls_76 : decode cX3_cls 76 = .ok (.iconst 0, 1) := by decide +kernel
theorem dX3_cls_77 : decode cX3_cls 77 = .ok (.ireturn, 1) := by decide +kernel
theorem dX3_cls_78 : decode cX3_cls 78 = .ok (.iload_n 1, 1) := by decide +kernel
theorem dX3_cls_79 : decode cX3_cls 79 = .ok (.invokestatic 134, 3) := by decide +kernel
theorem dX3_cls_82 : decode cX3_cls 82 = .ok (.ireturn, 1) := by decide +kernel
theorem dX3_cls_83 : decode cX3_cls 83 = .ok (.iload_n 1, 1) := by decide +kernel
theorem dX3_cls_84 : decode cX3_cls 84 = .ok (.invokestatic 137, 3) := by decide +kernel
theorem dX3_cls_87 : decode cX3_cls 87 = .ok (.ireturn, 1) := by decide +kernel
theorem dX3_cls_88 : decode cX3_cls 88 = .ok (.iload_n 1, 1) := by decide +kernel
theorem dX3_cls_89 : decode cX3_cls 89 = .ok (.bipush 32, 2) := by decide +kernel
theorem dX3_cls_91 : decode cX3_cls 91 = .ok (.if_icmp .ne 7, 3) := by decide +kernel
theorem dX3_cls_94 : decode cX3_cls 94 = .ok (.iconst 1, 1) := by decide +kernel
theorem dX3_cls_95 : decode cX3_cls 95 = .ok (.goto 4, 3) := by decide +kernel
theorem dX3_cls_98 : decode cX3_cls 98 = .ok (.iconst 0, 1) := by decide +kernel
theorem dX3_cls_99 : decode cX3_cls 99 = .ok (.ireturn, 1) := by decide +kernel
theorem dX3_cls_100 : decode cX3_cls 100 = .ok (.iload_n 1, 1) := by decide +kernel
theorem dX3_cls_101 : decode cX3_cls 101 = .ok (.ifCond .lt 9, 3) := by decide +kernel
theorem dX3_cls_104 : decode cX3_cls 104 = .ok (.iload_n 1, 1) := by decide +kernel
theorem dX3_cls_105 : decode cX3_cls 105 = .ok (.bipush 32, 2) := by decide +kernel
theorem dX3_cls_107 : decode cX3_cls 107 = .ok (.if_icmp .lt 9, 3) := by decide +kernel
theorem dX3_cls_110 : decode cX3_cls 110 = .ok (.iload_n 1, 1) := by decide +kernel
theorem dX3_cls_111 : decode cX3_cls 111 = .ok (.bipush 127, 2) := by decide +kernel
theorem dX3_cls_113 : decode cX3_cls 113 = .ok (.if_icmp .ne 7, 3) := by decide +kernel
theorem dX3_cls_116 : decode cX3_cls 116 = .ok (.iconst 1, 1) := by decide +kernel
theorem dX3_cls_117 : decode cX3_cls 117 = .ok (.goto 4, 3) := by decide +kernel
theorem dX3_cls_120 : decode cX3_cls 120 = .ok (.iconst 0, 1) := by decide +kernel
theorem dX3_cls_121 : decode cX3_cls 121 = .ok (.ireturn, 1) := by decide +kernel
theorem dX3_cls_122 : decode cX3_cls 122 = .ok (.iconst 0, 1) := by decide +kernel
theorem dX3_cls_123 : decode cX3_cls 123 = .ok (.ireturn, 1) := by decide +kernel
set_option maxRecDepth 20000 in
theorem ggX3_print_X3_isCode : GoodIn wsX3_print wsX3_isCode := goodIn_r _ [4] (by decide +kernel) (by decide +kernel)
set_option maxRecDepth 20000 in
theorem gX3_print_X3_isCode : GoodIn wsX3_print (va_wsS RX3 55 yX3_isCode wsX3_isCode) := goodIn_app (goodIn_of _ (by decide +kernel)) ggX3_print_X3_isCode
set_option maxRecDepth 20000 in
theorem ggX3_print_X3_hexDigit : GoodIn wsX3_print wsX3_hexDigit := goodIn_r _ [7] (by decide +kernel) (by decide +kernel)
set_option maxRecDepth 20000 in
theorem gX3_print_X3_hexDigit : GoodIn wsX3_print (va_wsS RX3 140 yX3_hexDigit wsX3_hexDigit) := goodIn_app (goodIn_of _ (by decide +kernel)) ggX3_print_X3_hexDigit
set_option maxRecDepth 20000 in
theorem ggX3_print_X3_halfAsSign : GoodIn wsX3_print wsX3_halfAsSign := goodIn_r _ [10] (by decide +kernel) (by decide +kernel)
set_option maxRecDepth 20000 in
theorem gX3_print_X3_halfAsSign : GoodIn wsX3_print (va_wsS RX3 143 yX3_halfAsSign wsX3_halfAsSign) := goodIn_app (goodIn_of _ (by decide +kernel)) ggX3_print_X3_halfAsSign
theorem dX3_print_0 : decode cX3_print 0 = .ok (.iload_n 1, 1) := by decide +kernel
theorem dX3_print_1 : decode cX3_print 1 = .ok (.invokestatic 55, 3) := by decide +kernel
theorem dX3_print_4 : decode cX3_print 4 = .ok (.ifCond .ne 5, 3) := by decide +kernel
theorem dX3_print_7 : decode cX3_print 7 = .ok (.iconst 0, 1) := by decide +kernel
theorem dX3_print_8 : decode cX3_print 8 = .ok (.ireturn, 1) := by decide +kernel
theorem dX3_print_9 : decode cX3_print 9 = .ok (.iload_n 2, 1) := by decide +kernel
theorem dX3_print_10 : decode cX3_print 10 = .ok (.tableswitch 52 0 2 #[26, 34, 43], 26) := by decide +kernel
theorem dX3_print_36 : decode cX3_print 36 = .ok (.iload_n 1, 1) := by decide +kernel
theorem dX3_print_37 : decode cX3_print 37 = .ok (.iconst 4, 1) := by decide +kernel
theorem dX3_print_38 : decode cX3_print 38 = .ok (.ishr, 1) := by decide +kernel
theorem dX3_print_39 : decode cX3_print 39 = .ok (.invokestatic 140, 3) := by decide +kernel
theorem dX3_print_42 : decode cX3_print 42 = .ok (.i2b, 1) := by decide +kernel
theorem dX3_print_43 : decode cX3_print 43 = .ok (.ireturn, 1) := by decide +kernel
theorem dX3_print_44 : decode cX3_print 44 = .ok (.iload_n 1, 1) := by decide +kernel
theorem dX3_print_45 : decode cX3_print 45 = .ok (.bipush 15, 2) := by decide +kernel
theorem dX3_print_47 : decode cX3_print 47 = .ok (.iand, 1) := by decide +kernel
theorem dX3_print_48 : decode cX3_print 48 = .ok (.invokestatic 140, 3) := by decide +kernel
theorem dX3_print_51 : decode cX3_print 51 = .ok (.i2b, 1) := by decide +kernel
theorem dX3_print_52 : decode cX3_print 52 = .ok (.ireturn, 1) := by decide +kernel
theorem dX3_print_53 : decode cX3_print 53 = .ok (.iload_n 1, 1) := by decide +kernel
theorem dX3_print_54 : decode cX3_print 54 = .ok (.bipush 15, 2) := by decide +kernel
theorem dX3_print_56 : decode cX3_print 56 = .ok (.iand, 1) := by decide +kernel
theorem dX3_print_57 : decode cX3_print 57 = .ok (.invokestatic 143, 3) := by decide +kernel
theorem dX3_print_60 : decode cX3_print 60 = .ok (.i2b, 1) := by decide +kernel
theorem dX3_print_61 : decode cX3_print 61 = .ok (.ireturn, 1) := by decide +kernel
theorem dX3_print_62 : decode cX3_print 62 = .ok (.iconst 0, 1) := by decide +kernel
theorem dX3_print_63 : decode cX3_print 63 = .ok (.ireturn, 1) := by decide +kernel
set_option maxRecDepth 20000 in
theorem ggX3_high_X3_orderAt : GoodIn wsX3_high wsX3_orderAt := goodIn_r _ [5, 6, 13, 14, 15, 16, 17, 18, 19, 20] (by decide +kernel) (by decide +kernel)
set_option maxRecDepth 20000 in
theorem gX3_high_X3_orderAt : GoodIn wsX3_high (wsV RX3 89 RX3 yX3_orderAt wsX3_orderAt) := goodIn_app (goodIn_of _ (by decide +kernel)) ggX3_high_X3_orderAt
set_option maxRecDepth 20000 in
theorem ggX3_high_X0_lastCode : GoodIn wsX3_high wsX0_lastCode := goodIn_r _ [11, 12, 21, 22, 23, 24] (by decide +kernel) (by decide +kernel)
set_option maxRecDepth 20000 in
theorem gX3_high_X0_lastCode : GoodIn wsX3_high (wsV RX3 146 RX0 yX0_lastCode wsX0_lastCode) := goodIn_app (goodIn_of _ (by decide +kernel)) ggX3_high_X0_lastCode
theorem dX3_high_0 : decode cX3_high 0 = .ok (.aload_n 0, 1) := by decide +kernel
theorem dX3_high_1 : decode cX3_high 1 = .ok (.iload_n 1, 1) := by decide +kernel
theorem dX3_high_2 : decode cX3_high 2 = .ok (.invokevirtual 89, 3) := by decide +kernel
theorem dX3_high_5 : decode cX3_high 5 = .ok (.astore_n 2, 1) := by decide +kernel
theorem dX3_high_6 : decode cX3_high 6 = .ok (.aload_n 2, 1) := by decide +kernel
theorem dX3_high_7 : decode cX3_high 7 = .ok (.ifnonnull 8, 3) := by decide +kernel
theorem dX3_high_10 : decode cX3_high 10 = .ok (.bipush (-2), 2) := by decide +kernel
theorem dX3_high_12 : decode cX3_high 12 = .ok (.goto 7, 3) := by decide +kernel
theorem dX3_high_15 : decode cX3_high 15 = .ok (.aload_n 2, 1) := by decide +kernel
theorem dX3_high_16 : decode cX3_high 16 = .ok (.invokevirtual 146, 3) := by decide +kernel
theorem dX3_high_19 : decode cX3_high 19 = .ok (.ireturn, 1) := by decide +kernel
set_option maxRecDepth 20000 in
theorem ggX3_rank_X3_orderAt : GoodIn wsX3_rank wsX3_orderAt := goodIn_r _ [6, 7, 15, 16, 17, 18, 19, 20, 21, 22] (by decide +kernel) (by decide +kernel)
set_option maxRecDepth 20000 in
theorem gX3_rank_X3_orderAt : GoodIn wsX3_rank (wsV RX3 89 RX3 yX3_orderAt wsX3_orderAt) := goodIn_app (goodIn_of _ (by decide +kernel)) ggX3_rank_X3_orderAt
set_option maxRecDepth 20000 in
theorem ggX3_rank_X3_isCode : GoodIn wsX3_rank wsX3_isCode := goodIn_r _ [10] (by decide +kernel) (by decide +kernel)
set_option maxRecDepth 20000 in
theorem gX3_rank_X3_isCode : GoodIn wsX3_rank (va_wsS RX3 55 yX3_isCode wsX3_isCode) := goodIn_app (goodIn_of _ (by decide +kernel)) ggX3_rank_X3_isCode
theorem dX3_rank_0 : decode cX3_rank 0 = .ok (.aload_n 0, 1) := by decide +kernel
theorem dX3_rank_1 : decode cX3_rank 1 = .ok (.iload_n 1, 1) := by decide +kernel
theorem dX3_rank_2 : decode cX3_rank 2 = .ok (.invokevirtual 89, 3) := by decide +kernel
theorem dX3_rank_5 : decode cX3_rank 5 = .ok (.astore_n 3, 1) := by decide +kernel
theorem dX3_rank_6 : decode cX3_rank 6 = .ok (.aload_n 3, 1) := by decide +kernel
theorem dX3_rank_7 : decode cX3_rank 7 = .ok (.ifnonnull 6, 3) := by decide +kernel
theorem dX3_rank_10 : decode cX3_rank 10 = .ok (.bipush (-2), 2) := by decide +kernel
theorem dX3_rank_12 : decode cX3_rank 12 = .ok (.ireturn, 1) := by decide +kernel
theorem dX3_rank_13 : decode cX3_rank 13 = .ok (.iload_n 2, 1) := by decide +kernel
theorem dX3_rank_14 : decode cX3_rank 14 = .ok (.invokestatic 55, 3) := by decide +kernel
theorem dX3_rank_17 : decode cX3_rank 17 = .ok (.ifCond .eq 12, 3) := by decide +kernel
theorem dX3_rank_20 : decode cX3_rank 20 = .ok (.aload_n 3, 1) := by decide +kernel
theorem dX3_rank_21 : decode cX3_rank 21 = .ok (.getfield 128, 3) := by decide +kernel
theorem dX3_rank_24 : decode cX3_rank 24 = .ok (.iload_n 2, 1) := by decide +kernel
theorem dX3_rank_25 : decode cX3_rank 25 = .ok (.iaload, 1) := by decide +kernel
theorem dX3_rank_26 : decode cX3_rank 26 = .ok (.goto 5, 3) := by decide +kernel
theorem dX3_rank_29 : decode cX3_rank 29 = .ok (.bipush (-4), 2) := by decide +kernel
theorem dX3_rank_31 : decode cX3_rank 31 = .ok (.ireturn, 1) := by decide +kernel
theorem dX3_isCode_0 : decode cX3_isCode 0 = .ok (.iload_n 0, 1) := by decide +kernel
theorem dX3_isCode_1 : decode cX3_isCode 1 = .ok (.ifCond .lt 14, 3) := by decide +kernel
theorem dX3_isCode_4 : decode cX3_isCode 4 = .ok (.iload_n 0, 1) := by decide +kernel
theorem dX3_isCode_5 : decode cX3_isCode 5 = .ok (.sipush 256, 3) := by decide +kernel
theorem dX3_isCode_8 : decode cX3_isCode 8 = .ok (.if_icmp .ge 7, 3) := by decide +kernel
theorem dX3_isCode_11 : decode cX3_isCode 11 = .ok (.iconst 1, 1) := by decide +kernel
theorem dX3_isCode_12 : decode cX3_isCode 12 = .ok (.goto 4, 3) := by decide +kernel
theorem dX3_isCode_15 : decode cX3_isCode 15 = .ok (.iconst 0, 1) := by decide +kernel
theorem dX3_isCode_16 : decode cX3_isCode 16 = .ok (.ireturn, 1) := by decide +kernel
theorem dX3_isMeaningOrNone_0 : decode cX3_isMeaningOrNone 0 = .ok (.iload_n 0, 1) := by decide +kernel
theorem dX3_isMeaningOrNone_1 : decode cX3_isMeaningOrNone 1 = .ok (.iconst (-1), 1) := by decide +kernel
theorem dX3_isMeaningOrNone_2 : decode cX3_isMeaningOrNone 2 = .ok (.if_icmp .eq 13, 3) := by decide +kernel
theorem dX3_isMeaningOrNone_5 : decode cX3_isMeaningOrNone 5 = .ok (.iload_n 0, 1) := by decide +kernel
theorem dX3_isMeaningOrNone_6 : decode cX3_isMeaningOrNone 6 = .ok (.ifCond .lt 13, 3) := by decide +kernel
theorem dX3_isMeaningOrNone_9 : decode cX3_isMeaningOrNone 9 = .ok (.iload_n 0, 1) := by decide +kernel
theorem dX3_isMeaningOrNone_10 : decode cX3_isMeaningOrNone 10 = .ok (.ldc 150, 2) := by decide +kernel
theorem dX3_isMeaningOrNone_12 : decode cX3_isMeaningOrNone 12 = .ok (.if_icmp .ge 7, 3) := by decide +kernel
theorem dX3_isMeaningOrNone_15 : decode cX3_isMeaningOrNone 15 = .ok (.iconst 1, 1) := by decide +kernel
theorem dX3_isMeaningOrNone_16 : decode cX3_isMeaningOrNone 16 = .ok (.goto 4, 3) := by decide +kernel
theorem dX3_isMeaningOrNone_19 : decode cX3_isMeaningOrNone 19 = .ok (.iconst 0, 1) := by decide +kernel
theorem dX3_isMeaningOrNone_20 : decode cX3_isMeaningOrNone 20 = .ok (.ireturn, 1) := by decide +kernel
theorem dX3_isKind_0 : decode cX3_isKind 0 = .ok (.iload_n 0, 1) := by decide +kernel
theorem dX3_isKind_1 : decode cX3_isKind 1 = .ok (.ifCond .lt 12, 3) := by decide +kernel
theorem dX3_isKind_4 : decode cX3_isKind 4 = .ok (.iload_n 0, 1) := by decide +kernel
theorem dX3_isKind_5 : decode cX3_isKind 5 = .ok (.iconst 3, 1) := by decide +kernel
theorem dX3_isKind_6 : decode cX3_isKind 6 = .ok (.if_icmp .ge 7, 3) := by decide +kernel
theorem dX3_isKind_9 : decode cX3_isKind 9 = .ok (.iconst 1, 1) := by decide +kernel
theorem dX3_isKind_10 : decode cX3_isKind 10 = .ok (.goto 4, 3) := by decide +kernel
theorem dX3_isKind_13 : decode cX3_isKind 13 = .ok (.iconst 0, 1) := by decide +kernel
theorem dX3_isKind_14 : decode cX3_isKind 14 = .ok (.ireturn, 1) := by decide +kernel
theorem dX3_pageAt_0 : decode cX3_pageAt 0 = .ok (.iload_n 1, 1) := by decide +kernel
theorem dX3_pageAt_1 : decode cX3_pageAt 1 = .ok (.ifCond .lt 18, 3) := by decide +kernel
theorem dX3_pageAt_4 : decode cX3_pageAt 4 = .ok (.iload_n 1, 1) := by decide +kernel
theorem dX3_pageAt_5 : decode cX3_pageAt 5 = .ok (.bipush 12, 2) := by decide +kernel
theorem dX3_pageAt_7 : decode cX3_pageAt 7 = .ok (.if_icmp .ge 12, 3) := by decide +kernel
theorem dX3_pageAt_10 : decode cX3_pageAt 10 = .ok (.aload_n 0, 1) := by decide +kernel
theorem dX3_pageAt_11 : decode cX3_pageAt 11 = .ok (.getfield 11, 3) := by decide +kernel
theorem dX3_pageAt_14 : decode cX3_pageAt 14 = .ok (.iload_n 1, 1) := by decide +kernel
theorem dX3_pageAt_15 : decode cX3_pageAt 15 = .ok (.aaload, 1) := by decide +kernel
theorem dX3_pageAt_16 : decode cX3_pageAt 16 = .ok (.goto 4, 3) := by decide +kernel
theorem dX3_pageAt_19 : decode cX3_pageAt 19 = .ok (.aconst_null, 1) := by decide +kernel
theorem dX3_pageAt_20 : decode cX3_pageAt 20 = .ok (.areturn, 1) := by decide +kernel
theorem dX3_orderAt_0 : decode cX3_orderAt 0 = .ok (.iload_n 1, 1) := by decide +kernel
theorem dX3_orderAt_1 : decode cX3_orderAt 1 = .ok (.ifCond .lt 18, 3) := by decide +kernel
theorem dX3_orderAt_4 : decode cX3_orderAt 4 = .ok (.iload_n 1, 1) := by decide +kernel
theorem dX3_orderAt_5 : decode cX3_orderAt 5 = .ok (.bipush 12, 2) := by decide +kernel
theorem dX3_orderAt_7 : decode cX3_orderAt 7 = .ok (.if_icmp .ge 12, 3) := by decide +kernel
theorem dX3_orderAt_10 : decode cX3_orderAt 10 = .ok (.aload_n 0, 1) := by decide +kernel
theorem dX3_orderAt_11 : decode cX3_orderAt 11 = .ok (.getfield 17, 3) := by decide +kernel
theorem dX3_orderAt_14 : decode cX3_orderAt 14 = .ok (.iload_n 1, 1) := by decide +kernel
theorem dX3_orderAt_15 : decode cX3_orderAt 15 = .ok (.aaload, 1) := by decide +kernel
theorem dX3_orderAt_16 : decode cX3_orderAt 16 = .ok (.goto 4, 3) := by decide +kernel
theorem dX3_orderAt_19 : decode cX3_orderAt 19 = .ok (.aconst_null, 1) := by decide +kernel
theorem dX3_orderAt_20 : decode cX3_orderAt 20 = .ok (.areturn, 1) := by decide +kernel
theorem dX3_textAt_0 : decode cX3_textAt 0 = .ok (.iload_n 1, 1) := by decide +kernel
theorem dX3_textAt_1 : decode cX3_textAt 1 = .ok (.ifCond .lt 18, 3) := by decide +kernel
theorem dX3_textAt_4 : decode cX3_textAt 4 = .ok (.iload_n 1, 1) := by decide +kernel
theorem dX3_textAt_5 : decode cX3_textAt 5 = .ok (.bipush 40, 2) := by decide +kernel
theorem dX3_textAt_7 : decode cX3_textAt 7 = .ok (.if_icmp .ge 12, 3) := by decide +kernel
theorem dX3_textAt_10 : decode cX3_textAt 10 = .ok (.aload_n 0, 1) := by decide +kernel
theorem dX3_textAt_11 : decode cX3_textAt 11 = .ok (.getfield 23, 3) := by decide +kernel
theorem dX3_textAt_14 : decode cX3_textAt 14 = .ok (.iload_n 1, 1) := by decide +kernel
theorem dX3_textAt_15 : decode cX3_textAt 15 = .ok (.aaload, 1) := by decide +kernel
theorem dX3_textAt_16 : decode cX3_textAt 16 = .ok (.goto 4, 3) := by decide +kernel
theorem dX3_textAt_19 : decode cX3_textAt 19 = .ok (.aconst_null, 1) := by decide +kernel
theorem dX3_textAt_20 : decode cX3_textAt 20 = .ok (.areturn, 1) := by decide +kernel
set_option maxRecDepth 20000 in
theorem ggX3_findOrEnlist_X1_codeThatMeans : GoodIn wsX3_findOrEnlist wsX1_codeThatMeans := goodIn_r _ [8, 9, 10, 11] (by decide +kernel) (by decide +kernel)
set_option maxRecDepth 20000 in
theorem gX3_findOrEnlist_X1_codeThatMeans : GoodIn wsX3_findOrEnlist (wsV RX3 61 RX1 yX1_codeThatMeans wsX1_codeThatMeans) := goodIn_app (goodIn_of _ (by decide +kernel)) ggX3_findOrEnlist_X1_codeThatMeans
theorem dX3_findOrEnlist_0 : decode cX3_findOrEnlist 0 = .ok (.aload_n 3, 1) := by decide +kernel
theorem dX3_findOrEnlist_1 : decode cX3_findOrEnlist 1 = .ok (.aload_n 2, 1) := by decide +kernel
theorem dX3_findOrEnlist_2 : decode cX3_findOrEnlist 2 = .ok (.getfield 65, 3) := by decide +kernel
theorem dX3_findOrEnlist_5 : decode cX3_findOrEnlist 5 = .ok (.iload_n 1, 1) := by decide +kernel
theorem dX3_findOrEnlist_6 : decode cX3_findOrEnlist 6 = .ok (.iaload, 1) := by decide +kernel
theorem dX3_findOrEnlist_7 : decode cX3_findOrEnlist 7 = .ok (.invokevirtual 61, 3) := by decide +kernel
theorem dX3_findOrEnlist_10 : decode cX3_findOrEnlist 10 = .ok (.istore 4, 2) := by decide +kernel
theorem dX3_findOrEnlist_12 : decode cX3_findOrEnlist 12 = .ok (.iload 4, 2) := by decide +kernel
theorem dX3_findOrEnlist_14 : decode cX3_findOrEnlist 14 = .ok (.iconst (-1), 1) := by decide +kernel
theorem dX3_findOrEnlist_15 : decode cX3_findOrEnlist 15 = .ok (.if_icmp .ne 33, 3) := by decide +kernel
theorem dX3_findOrEnlist_18 : decode cX3_findOrEnlist 18 = .ok (.aload_n 0, 1) := by decide +kernel
theorem dX3_findOrEnlist_19 : decode cX3_findOrEnlist 19 = .ok (.getfield 41, 3) := by decide +kernel
theorem dX3_findOrEnlist_22 : decode cX3_findOrEnlist 22 = .ok (.sipush 200, 3) := by decide +kernel
theorem dX3_findOrEnlist_25 : decode cX3_findOrEnlist 25 = .ok (.if_icmp .ge 23, 3) := by decide +kernel
theorem dX3_findOrEnlist_28 : decode cX3_findOrEnlist 28 = .ok (.aload_n 0, 1) := by decide +kernel
theorem dX3_findOrEnlist_29 : decode cX3_findOrEnlist 29 = .ok (.getfield 27, 3) := by decide +kernel
theorem dX3_findOrEnlist_32 : decode cX3_findOrEnlist 32 = .ok (.aload_n 0, 1) := by decide +kernel
theorem dX3_findOrEnlist_33 : decode cX3_findOrEnlist 33 = .ok (.getfield 41, 3) := by decide +kernel
theorem dX3_findOrEnlist_36 : decode cX3_findOrEnlist 36 = .ok (.iload_n 1, 1) := by decide +kernel
theorem dX3_findOrEnlist_37 : decode cX3_findOrEnlist 37 = .ok (.iastore, 1) := by decide +kernel
theorem dX3_findOrEnlist_38 : decode cX3_findOrEnlist 38 = .ok (.aload_n 0, 1) := by decide +kernel
theorem dX3_findOrEnlist_39 : decode cX3_findOrEnlist 39 = .ok (.dup, 1) := by decide +kernel
theorem dX3_findOrEnlist_40 : decode cX3_findOrEnlist 40 = .ok (.getfield 41, 3) := by decide +kernel
theorem dX3_findOrEnlist_43 : decode cX3_findOrEnlist 43 = .ok (.iconst 1, 1) := by decide +kernel
theorem dX3_findOrEnlist_44 : decode cX3_findOrEnlist 44 = .ok (.iadd, 1) := by decide +kernel
theorem dX3_findOrEnlist_45 : decode cX3_findOrEnlist 45 = .ok (.putfield 41, 3) := by decide +kernel
theorem dX3_findOrEnlist_48 : decode cX3_findOrEnlist 48 = .ok (.iload 4, 2) := by decide +kernel
theorem dX3_findOrEnlist_50 : decode cX3_findOrEnlist 50 = .ok (.ireturn, 1) := by decide +kernel
set_option maxRecDepth 20000 in
theorem ggX3_alphabetRefusal_X3_isCode : GoodIn wsX3_alphabetRefusal wsX3_isCode := goodIn_r _ [4] (by decide +kernel) (by decide +kernel)
set_option maxRecDepth 20000 in
theorem gX3_alphabetRefusal_X3_isCode : GoodIn wsX3_alphabetRefusal (va_wsS RX3 55 yX3_isCode wsX3_isCode) := goodIn_app (goodIn_of _ (by decide +kernel)) ggX3_alphabetRefusal_X3_isCode
theorem dX3_alphabetRefusal_0 : decode cX3_alphabetRefusal 0 = .ok (.iload_n 1, 1) := by decide +kernel
theorem dX3_alphabetRefusal_1 : decode cX3_alphabetRefusal 1 = .ok (.invokestatic 55, 3) := by decide +kernel
theorem dX3_alphabetRefusal_4 : decode cX3_alphabetRefusal 4 = .ok (.ifCond .eq 10, 3) := by decide +kernel
theorem dX3_alphabetRefusal_7 : decode cX3_alphabetRefusal 7 = .ok (.iload_n 2, 1) := by decide +kernel
theorem dX3_alphabetRefusal_8 : decode cX3_alphabetRefusal 8 = .ok (.invokestatic 55, 3) := by decide +kernel
theorem dX3_alphabetRefusal_11 : decode cX3_alphabetRefusal 11 = .ok (.ifCond .ne 6, 3) := by decide +kernel
theorem dX3_alphabetRefusal_14 : decode cX3_alphabetRefusal 14 = .ok (.bipush (-4), 2) := by decide +kernel
theorem dX3_alphabetRefusal_16 : decode cX3_alphabetRefusal 16 = .ok (.ireturn, 1) := by decide +kernel
theorem dX3_alphabetRefusal_17 : decode cX3_alphabetRefusal 17 = .ok (.iload_n 0, 1) := by decide +kernel
theorem dX3_alphabetRefusal_18 : decode cX3_alphabetRefusal 18 = .ok (.ifCond .eq 7, 3) := by decide +kernel
theorem dX3_alphabetRefusal_21 : decode cX3_alphabetRefusal 21 = .ok (.iconst 0, 1) := by decide +kernel
theorem dX3_alphabetRefusal_22 : decode cX3_alphabetRefusal 22 = .ok (.goto 5, 3) := by decide +kernel
theorem dX3_alphabetRefusal_25 : decode cX3_alphabetRefusal 25 = .ok (.bipush (-5), 2) := by decide +kernel
theorem dX3_alphabetRefusal_27 : decode cX3_alphabetRefusal 27 = .ok (.ireturn, 1) := by decide +kernel
theorem dX3_isGreatLetter_0 : decode cX3_isGreatLetter 0 = .ok (.iload_n 0, 1) := by decide +kernel
theorem dX3_isGreatLetter_1 : decode cX3_isGreatLetter 1 = .ok (.bipush 65, 2) := by decide +kernel
theorem dX3_isGreatLetter_3 : decode cX3_isGreatLetter 3 = .ok (.if_icmp .lt 13, 3) := by decide +kernel
theorem dX3_isGreatLetter_6 : decode cX3_isGreatLetter 6 = .ok (.iload_n 0, 1) := by decide +kernel
theorem dX3_isGreatLetter_7 : decode cX3_isGreatLetter 7 = .ok (.bipush 90, 2) := by decide +kernel
theorem dX3_isGreatLetter_9 : decode cX3_isGreatLetter 9 = .ok (.if_icmp .gt 7, 3) := by decide +kernel
theorem dX3_isGreatLetter_12 : decode cX3_isGreatLetter 12 = .ok (.iconst 1, 1) := by decide +kernel
theorem dX3_isGreatLetter_13 : decode cX3_isGreatLetter 13 = .ok (.goto 4, 3) := by decide +kernel
theorem dX3_isGreatLetter_16 : decode cX3_isGreatLetter 16 = .ok (.iconst 0, 1) := by decide +kernel
theorem dX3_isGreatLetter_17 : decode cX3_isGreatLetter 17 = .ok (.ireturn, 1) := by decide +kernel
theorem dX3_isSmallLetter_0 : decode cX3_isSmallLetter 0 = .ok (.iload_n 0, 1) := by decide +kernel
theorem dX3_isSmallLetter_1 : decode cX3_isSmallLetter 1 = .ok (.bipush 97, 2) := by decide +kernel
theorem dX3_isSmallLetter_3 : decode cX3_isSmallLetter 3 = .ok (.if_icmp .lt 13, 3) := by decide +kernel
theorem dX3_isSmallLetter_6 : decode cX3_isSmallLetter 6 = .ok (.iload_n 0, 1) := by decide +kernel
theorem dX3_isSmallLetter_7 : decode cX3_isSmallLetter 7 = .ok (.bipush 122, 2) := by decide +kernel
theorem dX3_isSmallLetter_9 : decode cX3_isSmallLetter 9 = .ok (.if_icmp .gt 7, 3) := by decide +kernel
theorem dX3_isSmallLetter_12 : decode cX3_isSmallLetter 12 = .ok (.iconst 1, 1) := by decide +kernel
theorem dX3_isSmallLetter_13 : decode cX3_isSmallLetter 13 = .ok (.goto 4, 3) := by decide +kernel
theorem dX3_isSmallLetter_16 : decode cX3_isSmallLetter 16 = .ok (.iconst 0, 1) := by decide +kernel
theorem dX3_isSmallLetter_17 : decode cX3_isSmallLetter 17 = .ok (.ireturn, 1) := by decide +kernel
theorem dX3_hexDigit_0 : decode cX3_hexDigit 0 = .ok (.iload_n 0, 1) := by decide +kernel
theorem dX3_hexDigit_1 : decode cX3_hexDigit 1 = .ok (.bipush 10, 2) := by decide +kernel
theorem dX3_hexDigit_3 : decode cX3_hexDigit 3 = .ok (.if_icmp .ge 10, 3) := by decide +kernel
theorem dX3_hexDigit_6 : decode cX3_hexDigit 6 = .ok (.bipush 48, 2) := by decide +kernel
theorem dX3_hexDigit_8 : decode cX3_hexDigit 8 = .ok (.iload_n 0, 1) := by decide +kernel
theorem dX3_hexDigit_9 : decode cX3_hexDigit 9 = .ok (.iadd, 1) := by decide +kernel
theorem dX3_hexDigit_10 : decode cX3_hexDigit 10 = .ok (.goto 7, 3) := by decide +kernel
theorem dX3_hexDigit_13 : decode cX3_hexDigit 13 = .ok (.bipush 55, 2) := by decide +kernel
theorem dX3_hexDigit_15 : decode cX3_hexDigit 15 = .ok (.iload_n 0, 1) := by decide +kernel
theorem dX3_hexDigit_16 : decode cX3_hexDigit 16 = .ok (.iadd, 1) := by decide +kernel
theorem dX3_hexDigit_17 : decode cX3_hexDigit 17 = .ok (.ireturn, 1) := by decide +kernel
theorem dX3_halfAsSign_0 : decode cX3_halfAsSign 0 = .ok (.iload_n 0, 1) := by decide +kernel
theorem dX3_halfAsSign_1 : decode cX3_halfAsSign 1 = .ok (.tableswitch 45 10 15 #[39, 42, 39, 42, 39, 39], 39) := by decide +kernel
theorem dX3_halfAsSign_40 : decode cX3_halfAsSign 40 = .ok (.bipush 43, 2) := by decide +kernel
theorem dX3_halfAsSign_42 : decode cX3_halfAsSign 42 = .ok (.ireturn, 1) := by decide +kernel
theorem dX3_halfAsSign_43 : decode cX3_halfAsSign 43 = .ok (.bipush 45, 2) := by decide +kernel
theorem dX3_halfAsSign_45 : decode cX3_halfAsSign 45 = .ok (.ireturn, 1) := by decide +kernel
theorem dX3_halfAsSign_46 : decode cX3_halfAsSign 46 = .ok (.bipush 63, 2) := by decide +kernel
theorem dX3_halfAsSign_48 : decode cX3_halfAsSign 48 = .ok (.ireturn, 1) := by decide +kernel
end
section
theorem dX4_init_0 : decode cX4_init 0 = .ok (.aload_n 0, 1) := by decide +kernel
theorem dX4_init_1 : decode cX4_init 1 = .ok (.invokespecial 1, 3) := by decide +kernel
theorem dX4_init_4 : decode cX4_init 4 = .ok (.aload_n 0, 1) := by decide +kernel
theorem dX4_init_5 : decode cX4_init 5 = .ok (.sipush 3072, 3) := by decide +kernel
theorem dX4_init_8 : decode cX4_init 8 = .ok (.newarray .int, 2) := by decide +kernel
theorem dX4_init_10 : decode cX4_init 10 = .ok (.putfield 7, 3) := by decide +kernel
theorem dX4_init_13 : decode cX4_init 13 = .ok (.aload_n 0, 1) := by decide +kernel
theorem dX4_init_14 : decode cX4_init 14 = .ok (.bipush 12, 2) := by decide +kernel
theorem dX4_init_16 : decode cX4_init 16 = .ok (.newarray .int, 2) := by decide +kernel
theorem dX4_init_18 : decode cX4_init 18 = .ok (.putfield 13, 3) := by decide +kernel
theorem dX4_init_21 : decode cX4_init 21 = .ok (.aload_n 0, 1) := by decide +kernel
theorem dX4_init_22 : decode cX4_init 22 = .ok (.bipush 12, 2) := by decide +kernel
theorem dX4_init_24 : decode cX4_init 24 = .ok (.newarray .int, 2) := by decide +kernel
theorem dX4_init_26 : decode cX4_init 26 = .ok (.putfield 16, 3) := by decide +kernel
theorem dX4_init_29 : decode cX4_init 29 = .ok (.aload_n 0, 1) := by decide +kernel
theorem dX4_init_30 : decode cX4_init 30 = .ok (.sipush 3072, 3) := by decide +kernel
theorem dX4_init_33 : decode cX4_init 33 = .ok (.newarray .int, 2) := by decide +kernel
theorem dX4_init_35 : decode cX4_init 35 = .ok (.putfield 19, 3) := by decide +kernel
theorem dX4_init_38 : decode cX4_init 38 = .ok (.aload_n 0, 1) := by decide +kernel
theorem dX4_init_39 : decode cX4_init 39 = .ok (.bipush 12, 2) := by decide +kernel
theorem dX4_init_41 : decode cX4_init 41 = .ok (.newarray .int, 2) := by decide +kernel
theorem dX4_init_43 : decode cX4_init 43 = .ok (.putfield 22, 3) := by decide +kernel
theorem dX4_init_46 : decode cX4_init 46 = .ok (.aload_n 0, 1) := by decide +kernel
theorem dX4_init_47 : decode cX4_init 47 = .ok (.sipush 1600, 3) := by decide +kernel
theorem dX4_init_50 : decode cX4_init 50 = .ok (.newarray .int, 2) := by decide +kernel
theorem dX4_init_52 : decode cX4_init 52 = .ok (.putfield 25, 3) := by decide +kernel
theorem dX4_init_55 : decode cX4_init 55 = .ok (.aload_n 0, 1) := by decide +kernel
theorem dX4_init_56 : decode cX4_init 56 = .ok (.bipush 40, 2) := by decide +kernel
theorem dX4_init_58 : decode cX4_init 58 = .ok (.newarray .int, 2) := by decide +kernel
theorem dX4_init_60 : decode cX4_init 60 = .ok (.putfield 28, 3) := by decide +kernel
theorem dX4_init_63 : decode cX4_init 63 = .ok (.aload_n 0, 1) := by decide +kernel
theorem dX4_init_64 : decode cX4_init 64 = .ok (.sipush 200, 3) := by decide +kernel
theorem dX4_init_67 : decode cX4_init 67 = .ok (.newarray .int, 2) := by decide +kernel
theorem dX4_init_69 : decode cX4_init 69 = .ok (.putfield 31, 3) := by decide +kernel
theorem dX4_init_72 : decode cX4_init 72 = .ok (.return_, 1) := by decide +kernel
theorem dX4_thrown_0 : decode cX4_thrown 0 = .ok (.aload_n 0, 1) := by decide +kernel
theorem dX4_thrown_1 : decode cX4_thrown 1 = .ok (.getfield 34, 3) := by decide +kernel
theorem dX4_thrown_4 : decode cX4_thrown 4 = .ok (.ireturn, 1) := by decide +kernel
theorem dX4_isCode_0 : decode cX4_isCode 0 = .ok (.iload_n 0, 1) := by decide +kernel
theorem dX4_isCode_1 : decode cX4_isCode 1 = .ok (.ifCond .lt 14, 3) := by decide +kernel
theorem dX4_isCode_4 : decode cX4_isCode 4 = .ok (.iload_n 0, 1) := by decide +kernel
theorem dX4_isCode_5 : decode cX4_isCode 5 = .ok (.sipush 256, 3) := by decide +kernel
theorem dX4_isCode_8 : decode cX4_isCode 8 = .ok (.if_icmp .ge 7, 3) := by decide +kernel
theorem dX4_isCode_11 : decode cX4_isCode 11 = .ok (.iconst 1, 1) := by decide +kernel
theorem dX4_isCode_12 : decode cX4_isCode 12 = .ok (.goto 4, 3) := by decide +kernel
theorem dX4_isCode_15 : decode cX4_isCode 15 = .ok (.iconst 0, 1) := by decide +kernel
theorem dX4_isCode_16 : decode cX4_isCode 16 = .ok (.ireturn, 1) := by decide +kernel
theorem dX4_isPage_0 : decode cX4_isPage 0 = .ok (.iload_n 1, 1) := by decide +kernel
theorem dX4_isPage_1 : decode cX4_isPage 1 = .ok (.ifCond .lt 15, 3) := by decide +kernel
theorem dX4_isPage_4 : decode cX4_isPage 4 = .ok (.iload_n 1, 1) := by decide +kernel
theorem dX4_isPage_5 : decode cX4_isPage 5 = .ok (.aload_n 0, 1) := by decide +kernel
theorem dX4_isPage_6 : decode cX4_isPage 6 = .ok (.getfield 38, 3) := by decide +kernel
theorem dX4_isPage_9 : decode cX4_isPage 9 = .ok (.if_icmp .ge 7, 3) := by decide +kernel
theorem dX4_isPage_12 : decode cX4_isPage 12 = .ok (.iconst 1, 1) := by decide +kernel
theorem dX4_isPage_13 : decode cX4_isPage 13 = .ok (.goto 4, 3) := by decide +kernel
theorem dX4_isPage_16 : decode cX4_isPage 16 = .ok (.iconst 0, 1) := by decide +kernel
theorem dX4_isPage_17 : decode cX4_isPage 17 = .ok (.ireturn, 1) := by decide +kernel
theorem dX4_isOrder_0 : decode cX4_isOrder 0 = .ok (.iload_n 1, 1) := by decide +kernel
theorem dX4_isOrder_1 : decode cX4_isOrder 1 = .ok (.ifCond .lt 15, 3) := by decide +kernel
theorem dX4_isOrder_4 : decode cX4_isOrder 4 = .ok (.iload_n 1, 1) := by decide +kernel
theorem dX4_isOrder_5 : decode cX4_isOrder 5 = .ok (.aload_n 0, 1) := by decide +kernel
theorem dX4_isOrder_6 : decode cX4_isOrder 6 = .ok (.getfield 41, 3) := by decide +kernel
theorem dX4_isOrder_9 : decode cX4_isOrder 9 = .ok (.if_icmp .ge 7, 3) := by decide +kernel
theorem dX4_isOrder_12 : decode cX4_isOrder 12 = .ok (.iconst 1, 1) := by decide +kernel
theorem dX4_isOrder_13 : decode cX4_isOrder 13 = .ok (.goto 4, 3) := by decide +kernel
theorem dX4_isOrder_16 : decode cX4_isOrder 16 = .ok (.iconst 0, 1) := by decide +kernel
theorem dX4_isOrder_17 : decode cX4_isOrder 17 = .ok (.ireturn, 1) := by decide +kernel
theorem dX4_isText_0 : decode cX4_isText 0 = .ok (.iload_n 1, 1) := by decide +kernel
theorem dX4_isText_1 : decode cX4_isText 1 = .ok (.ifCond .lt 15, 3) := by decide +kernel
theorem dX4_isText_4 : decode cX4_isText 4 = .ok (.iload_n 1, 1) := by decide +kernel
theorem dX4_isText_5 : decode cX4_isText 5 = .ok (.aload_n 0, 1) := by decide +kernel
theorem dX4_isText_6 : decode cX4_isText 6 = .ok (.getfield 44, 3) := by decide +kernel
theorem dX4_isText_9 : decode cX4_isText 9 = .ok (.if_icmp .ge 7, 3) := by decide +kernel
theorem dX4_isText_12 : decode cX4_isText 12 = .ok (.iconst 1, 1) := by decide +kernel
theorem dX4_isText_13 : decode cX4_isText 13 = .ok (.goto 4, 3) := by decide +kernel
theorem dX4_isText_16 : decode cX4_isText 16 = .ok (.iconst 0, 1) := by decide +kernel
theorem dX4_isText_17 : decode cX4_isText 17 = .ok (.ireturn, 1) := by decide +kernel
theorem dX4_page_0 : decode cX4_page 0 = .ok (.aload_n 0, 1) := by decide +kernel
theorem dX4_page_1 : decode cX4_page 1 = .ok (.iconst 0, 1) := by decide +kernel
theorem dX4_page_2 : decode cX4_page 2 = .ok (.putfield 34, 3) := by decide +kernel
theorem dX4_page_5 : decode cX4_page 5 = .ok (.iload_n 1, 1) := by decide +kernel
theorem dX4_page_6 : decode cX4_page 6 = .ok (.ifCond .lt 8, 3) := by decide +kernel
theorem dX4_page_9 : decode cX4_page 9 = .ok (.iload_n 1, 1) := by decide +kernel
theorem dX4_page_10 : decode cX4_page 10 = .ok (.iconst 2, 1) := by decide +kernel
theorem dX4_page_11 : decode cX4_page 11 = .ok (.if_icmp .le 6, 3) := by decide +kernel
theorem dX4_page_14 : decode cX4_page 14 = .ok (.bipush (-4), 2) := by decide +kernel
theorem dX4_page_16 : decode cX4_page 16 = .ok (.ireturn, 1) := by decide +kernel
theorem dX4_page_17 : decode cX4_page 17 = .ok (.aload_n 0, 1) := by decide +kernel
theorem dX4_page_18 : decode cX4_page 18 = .ok (.getfield 38, 3) := by decide +kernel
theorem dX4_page_21 : decode cX4_page 21 = .ok (.bipush 12, 2) := by decide +kernel
theorem dX4_page_23 : decode cX4_page 23 = .ok (.if_icmp .ne 5, 3) := by decide +kernel
theorem dX4_page_26 : decode cX4_page 26 = .ok (.iconst (-1), 1) := by decide +kernel
theorem dX4_page_27 : decode cX4_page 27 = .ok (.ireturn, 1) := by decide +kernel
theorem dX4_page_28 : decode cX4_page 28 = .ok (.iconst 0, 1) := by decide +kernel
theorem dX4_page_29 : decode cX4_page 29 = .ok (.istore_n 2, 1) := by decide +kernel
theorem dX4_page_30 : decode cX4_page 30 = .ok (.iload_n 2, 1) := by decide +kernel
theorem dX4_page_31 : decode cX4_page 31 = .ok (.sipush 256, 3) := by decide +kernel
theorem dX4_page_34 : decode cX4_page 34 = .ok (.if_icmp .ge 64, 3) := by decide +kernel
theorem dX4_page_37 : decode cX4_page 37 = .ok (.aload_n 0, 1) := by decide +kernel
theorem dX4_page_38 : decode cX4_page 38 = .ok (.getfield 7, 3) := by decide +kernel
theorem dX4_page_41 : decode cX4_page 41 = .ok (.sipush 256, 3) := by decide +kernel
theorem dX4_page_44 : decode cX4_page 44 = .ok (.aload_n 0, 1) := by decide +kernel
theorem dX4_page_45 : decode cX4_page 45 = .ok (.getfield 38, 3) := by decide +kernel
theorem dX4_page_48 : decode cX4_page 48 = .ok (.imul, 1) := by decide +kernel
theorem dX4_page_49 : decode cX4_page 49 = .ok (.iload_n 2, 1) := by decide +kernel
theorem dX4_page_50 : decode cX4_page 50 = .ok (.iadd, 1) := by decide +kernel
theorem dX4_page_51 : decode cX4_page 51 = .ok (.iload_n 1, 1) := by decide +kernel
theorem dX4_page_52 : decode cX4_page 52 = .ok (.ifCond .ne 18, 3) := by decide +kernel
theorem dX4_page_55 : decode cX4_page 55 = .ok (.iload_n 2, 1) := by decide +kernel
theorem dX4_page_56 : decode cX4_page 56 = .ok (.sipush 128, 3) := by decide +kernel
theorem dX4_page_59 : decode cX4_page 59 = .ok (.if_icmp .ge 7, 3) := by decide +kernel
theorem dX4_page_62 : decode cX4_page 62 = .ok (.iload_n 2, 1) := by decide +kernel
theorem dX4_page_63 : decode cX4_page 63 = .ok (.goto 28, 3) := by decide +kernel
theorem dX4_page_66 : decode cX4_page 66 = .ok (.iconst (-1), 1) := by decide +kernel
theorem dX4_page_67 : decode cX4_page 67 = .ok (.goto 24, 3) := by decide +kernel
theorem dX4_page_70 : decode cX4_page 70 = .ok (.iload_n 1, 1) := by decide +kernel
theorem dX4_page_71 : decode cX4_page 71 = .ok (.iconst 1, 1) := by decide +kernel
theorem dX4_page_72 : decode cX4_page 72 = .ok (.if_icmp .ne 18, 3) := by decide +kernel
theorem dX4_page_75 : decode cX4_page 75 = .ok (.sipush 167, 3) := by decide +kernel
theorem dX4_page_78 : decode cX4_page 78 = .ok (.iload_n 2, 1) := by decide +kernel
theorem dX4_page_79 : decode cX4_page 79 = .ok (.imul, 1) := by decide +kernel
theorem dX4_page_80 : decode cX4_page 80 = .ok (.bipush 13, 2) := by decide +kernel
theorem dX4_page_82 : decode cX4_page 82 = .ok (.iadd, 1) := by decide +kernel
theorem dX4_page_83 : decode cX4_page 83 = .ok (.sipush 256, 3) := by decide +kernel
theorem dX4_page_86 : decode cX4_page 86 = .ok (.irem, 1) := by decide +kernel
theorem dX4_page_87 : decode cX4_page 87 = .ok (.goto 4, 3) := by decide +kernel
theorem dX4_page_90 : decode cX4_page 90 = .ok (.iconst (-1), 1) := by decide +kernel
theorem dX4_page_91 : decode cX4_page 91 = .ok (.iastore, 1) := by decide +kernel
theorem dX4_page_92 : decode cX4_page 92 = .ok (.iinc 2 1, 3) := by decide +kernel
theorem dX4_page_95 : decode cX4_page 95 = .ok (.goto (-65), 3) := by decide +kernel
theorem dX4_page_98 : decode cX4_page 98 = .ok (.aload_n 0, 1) := by decide +kernel
theorem dX4_page_99 : decode cX4_page 99 = .ok (.getfield 13, 3) := by decide +kernel
theorem dX4_page_102 : decode cX4_page 102 = .ok (.aload_n 0, 1) := by decide +kernel
theorem dX4_page_103 : decode cX4_page 103 = .ok (.getfield 38, 3) := by decide +kernel
theorem dX4_page_106 : decode cX4_page 106 = .ok (.bipush 63, 2) := by decide +kernel
theorem dX4_page_108 : decode cX4_page 108 = .ok (.iastore, 1) := by decide +kernel
theorem dX4_page_109 : decode cX4_page 109 = .ok (.aload_n 0, 1) := by decide +kernel
theorem dX4_page_110 : decode cX4_page 110 = .ok (.dup, 1) := by decide +kernel
theorem dX4_page_111 : decode cX4_page 111 = .ok (.getfield 38, 3) := by decide +kernel
theorem dX4_page_114 : decode cX4_page 114 = .ok (.iconst 1, 1) := by decide +kernel
theorem dX4_page_115 : decode cX4_page 115 = .ok (.iadd, 1) := by decide +kernel
theorem dX4_page_116 : decode cX4_page 116 = .ok (.putfield 38, 3) := by decide +kernel
theorem dX4_page_119 : decode cX4_page 119 = .ok (.aload_n 0, 1) := by decide +kernel
theorem dX4_page_120 : decode cX4_page 120 = .ok (.getfield 38, 3) := by decide +kernel
theorem dX4_page_123 : decode cX4_page 123 = .ok (.iconst 1, 1) := by decide +kernel
theorem dX4_page_124 : decode cX4_page 124 = .ok (.isub, 1) := by decide +kernel
theorem dX4_page_125 : decode cX4_page 125 = .ok (.ireturn, 1) := by decide +kernel
theorem dX4_codeOf_0 : decode cX4_codeOf 0 = .ok (.iconst (-1), 1) := by decide +kernel
theorem dX4_codeOf_1 : decode cX4_codeOf 1 = .ok (.istore_n 3, 1) := by decide +kernel
theorem dX4_codeOf_2 : decode cX4_codeOf 2 = .ok (.iconst 0, 1) := by decide +kernel
theorem dX4_codeOf_3 : decode cX4_codeOf 3 = .ok (.istore 4, 2) := by decide +kernel
theorem dX4_codeOf_5 : decode cX4_codeOf 5 = .ok (.iload 4, 2) := by decide +kernel
theorem dX4_codeOf_7 : decode cX4_codeOf 7 = .ok (.sipush 256, 3) := by decide +kernel
theorem dX4_codeOf_10 : decode cX4_codeOf 10 = .ok (.if_icmp .ge 33, 3) := by decide +kernel
theorem dX4_codeOf_13 : decode cX4_codeOf 13 = .ok (.aload_n 0, 1) := by decide +kernel
theorem dX4_codeOf_14 : decode cX4_codeOf 14 = .ok (.getfield 7, 3) := by decide +kernel
theorem dX4_codeOf_17 : decode cX4_codeOf 17 = .ok (.sipush 256, 3) := by decide +kernel
theorem dX4_codeOf_20 : decode cX4_codeOf 20 = .ok (.iload_n 1, 1) := by decide +kernel
theorem dX4_codeOf_21 : decode cX4_codeOf 21 = .ok (.imul, 1) := by decide +kernel
theorem dX4_codeOf_22 : decode cX4_codeOf 22 = .ok (.iload 4, 2) := by decide +kernel
theorem dX4_codeOf_24 : decode cX4_codeOf 24 = .ok (.iadd, 1) := by decide +kernel
theorem dX4_codeOf_25 : decode cX4_codeOf 25 = .ok (.iaload, 1) := by decide +kernel
theorem dX4_codeOf_26 : decode cX4_codeOf 26 = .ok (.iload_n 2, 1) := by decide +kernel
theorem dX4_codeOf_27 : decode cX4_codeOf 27 = .ok (.if_icmp .ne 8, 3) := by decide +kernel
theorem dX4_codeOf_30 : decode cX4_codeOf 30 = .ok (.iload 4, 2) := by decide +kernel
theorem dX4_codeOf_32 : decode cX4_codeOf 32 = .ok (.goto 4, 3) := by decide +kernel
theorem dX4_codeOf_35 : decode cX4_codeOf 35 = .ok (.iload_n 3, 1) := by decide +kernel
theorem dX4_codeOf_36 : decode cX4_codeOf 36 = .ok (.istore_n 3, 1) := by decide +kernel
theorem dX4_codeOf_37 : decode cX4_codeOf 37 = .ok (.iinc 4 1, 3) := by decide +kernel
theorem dX4_codeOf_40 : decode cX4_codeOf 40 = .ok (.goto (-35), 3) := by decide +kernel
theorem dX4_codeOf_43 : decode cX4_codeOf 43 = .ok (.iload_n 3, 1) := by decide +kernel
theorem dX4_codeOf_44 : decode cX4_codeOf 44 = .ok (.ireturn, 1) := by decide +kernel
set_option maxRecDepth 20000 in
theorem ggX4_set_X4_isPage : GoodIn wsX4_set wsX4_isPage := goodIn_r _ [8, 9, 17, 18, 19, 20, 21, 22, 23, 24, 25, 26, 27, 28, 29, 30] (by decide +kernel) (by decide +kernel)
set_option maxRecDepth 20000 in
theorem gX4_set_X4_isPage : GoodIn wsX4_set (wsV RX4 47 RX4 yX4_isPage wsX4_isPage) := goodIn_app (goodIn_of _ (by decide +kernel)) ggX4_set_X4_isPage
set_option maxRecDepth 20000 in
theorem ggX4_set_X4_isCode : GoodIn wsX4_set wsX4_isCode := goodIn_r _ [12] (by decide +kernel) (by decide +kernel)
set_option maxRecDepth 20000 in
theorem gX4_set_X4_isCode : GoodIn wsX4_set (va_wsS RX4 51 yX4_isCode wsX4_isCode) := goodIn_app (goodIn_of _ (by decide +kernel)) ggX4_set_X4_isCode
set_option maxRecDepth 20000 in
theorem ggX4_set_X4_codeOf : GoodIn wsX4_set wsX4_codeOf := goodIn_r _ [16, 3, 17, 18, 19, 20, 21, 22, 23, 24, 25, 26, 27, 28, 29, 30] (by decide +kernel) (by decide +kernel)
set_option maxRecDepth 20000 in
theorem gX4_set_X4_codeOf : GoodIn wsX4_set (wsV RX4 55 RX4 yX4_codeOf wsX4_codeOf) := goodIn_app (goodIn_of _ (by decide +kernel)) ggX4_set_X4_codeOf
theorem dX4_set_0 : decode cX4_set 0 = .ok (.aload_n 0, 1) := by decide +kernel
theorem dX4_set_1 : decode cX4_set 1 = .ok (.iconst 0, 1) := by decide +kernel
theorem dX4_set_2 : decode cX4_set 2 = .ok (.putfield 34, 3) := by decide +kernel
theorem dX4_set_5 : decode cX4_set 5 = .ok (.aload_n 0, 1) := by decide +kernel
theorem dX4_set_6 : decode cX4_set 6 = .ok (.iload_n 1, 1) := by decide +kernel
theorem dX4_set_7 : decode cX4_set 7 = .ok (.invokevirtual 47, 3) := by decide +kernel
theorem dX4_set_10 : decode cX4_set 10 = .ok (.ifCond .ne 6, 3) := by decide +kernel
theorem dX4_set_13 : decode cX4_set 13 = .ok (.bipush (-2), 2) := by decide +kernel
theorem dX4_set_15 : decode cX4_set 15 = .ok (.ireturn, 1) := by decide +kernel
theorem dX4_set_16 : decode cX4_set 16 = .ok (.iload_n 2, 1) := by decide +kernel
theorem dX4_set_17 : decode cX4_set 17 = .ok (.invokestatic 51, 3) := by decide +kernel
theorem dX4_set_20 : decode cX4_set 20 = .ok (.ifCond .eq 14, 3) := by decide +kernel
theorem dX4_set_23 : decode cX4_set 23 = .ok (.iload_n 3, 1) := by decide +kernel
theorem dX4_set_24 : decode cX4_set 24 = .ok (.iconst (-1), 1) := by decide +kernel
theorem dX4_set_25 : decode cX4_set 25 = .ok (.if_icmp .lt 9, 3) := by decide +kernel
theorem dX4_set_28 : decode cX4_set 28 = .ok (.iload_n 3, 1) := by decide +kernel
theorem dX4_set_29 : decode cX4_set 29 = .ok (.ldc 54, 2) := by decide +kernel
theorem dX4_set_31 : decode cX4_set 31 = .ok (.if_icmp .le 6, 3) := by decide +kernel
theorem dX4_set_34 : decode cX4_set 34 = .ok (.bipush (-4), 2) := by decide +kernel
theorem dX4_set_36 : decode cX4_set 36 = .ok (.ireturn, 1) := by decide +kernel
theorem dX4_set_37 : decode cX4_set 37 = .ok (.iload_n 3, 1) := by decide +kernel
theorem dX4_set_38 : decode cX4_set 38 = .ok (.iconst (-1), 1) := by decide +kernel
theorem dX4_set_39 : decode cX4_set 39 = .ok (.if_icmp .ne 7, 3) := by decide +kernel
theorem dX4_set_42 : decode cX4_set 42 = .ok (.iconst (-1), 1) := by decide +kernel
theorem dX4_set_43 : decode cX4_set 43 = .ok (.goto 9, 3) := by decide +kernel
theorem dX4_set_46 : decode cX4_set 46 = .ok (.aload_n 0, 1) := by decide +kernel
theorem dX4_set_47 : decode cX4_set 47 = .ok (.iload_n 1, 1) := by decide +kernel
theorem dX4_set_48 : decode cX4_set 48 = .ok (.iload_n 3, 1) := by decide +kernel
theorem dX4_set_49 : decode cX4_set 49 = .ok (.invokevirtual 55, 3) := by decide +kernel
theorem dX4_set_52 : decode cX4_set 52 = .ok (.istore 4, 2) := by decide +kernel
theorem dX4_set_54 : decode cX4_set 54 = .ok (.iload 4, 2) := by decide +kernel
theorem dX4_set_56 : decode cX4_set 56 = .ok (.iconst (-1), 1) := by decide +kernel
theorem dX4_set_57 : decode cX4_set 57 = .ok (.if_icmp .eq 11, 3) := by decide +kernel
theorem dX4_set_60 : decode cX4_set 60 = .ok (.iload 4, 2) := by decide +kernel
theorem dX4_set_62 : decode cX4_set 62 = .ok (.iload_n 2, 1) := by decide +kernel
theorem dX4_set_63 : decode cX4_set 63 = .ok (.if_icmp .eq 5, 3) := by decide +kernel
theorem dX4_set_66 : decode cX4_set 66 = .ok (.iconst 0, 1) := by decide +kernel
theorem dX4_set_67 : decode cX4_set 67 = .ok (.ireturn, 1) := by decide +kernel
theorem dX4_set_68 : decode cX4_set 68 = .ok (.aload_n 0, 1) := by decide +kernel
theorem dX4_set_69 : decode cX4_set 69 = .ok (.getfield 7, 3) := by decide +kernel
theorem dX4_set_72 : decode cX4_set 72 = .ok (.sipush 256, 3) := by decide +kernel
theorem dX4_set_75 : decode cX4_set 75 = .ok (.iload_n 1, 1) := by decide +kernel
theorem dX4_set_76 : decode cX4_set 76 = .ok (.imul, 1) := by decide +kernel
theorem dX4_set_77 : decode cX4_set 77 = .ok (.iload_n 2, 1) := by decide +kernel
theorem dX4_set_78 : decode cX4_set 78 = .ok (.iadd, 1) := by decide +kernel
theorem dX4_set_79 : decode cX4_set 79 = .ok (.iload_n 3, 1) := by decide +kernel
theorem dX4_set_80 : decode cX4_set 80 = .ok (.iastore, 1) := by decide +kernel
theorem dX4_set_81 : decode cX4_set 81 = .ok (.iconst 1, 1) := by decide +kernel
theorem dX4_set_82 : decode cX4_set 82 = .ok (.ireturn, 1) := by decide +kernel
set_option maxRecDepth 20000 in
theorem ggX4_row_X4_isPage : GoodIn wsX4_row wsX4_isPage := goodIn_r _ [7, 8, 12, 13, 14, 15, 16, 17, 18, 19, 20, 21, 22, 23, 24, 25] (by decide +kernel) (by decide +kernel)
set_option maxRecDepth 20000 in
theorem gX4_row_X4_isPage : GoodIn wsX4_row (wsV RX4 47 RX4 yX4_isPage wsX4_isPage) := goodIn_app (goodIn_of _ (by decide +kernel)) ggX4_row_X4_isPage
set_option maxRecDepth 20000 in
theorem ggX4_row_X4_isCode : GoodIn wsX4_row wsX4_isCode := goodIn_r _ [11] (by decide +kernel) (by decide +kernel)
set_option maxRecDepth 20000 in
theorem gX4_row_X4_isCode : GoodIn wsX4_row (va_wsS RX4 51 yX4_isCode wsX4_isCode) := goodIn_app (goodIn_of _ (by decide +kernel)) ggX4_row_X4_isCode
theorem dX4_row_0 : decode cX4_row 0 = .ok (.aload_n 0, 1) := by decide +kernel
theorem dX4_row_1 : decode cX4_row 1 = .ok (.iload_n 1, 1) := by decide +kernel
theorem dX4_row_2 : decode cX4_row 2 = .ok (.invokevirtual 47, 3) := by decide +kernel
theorem dX4_row_5 : decode cX4_row 5 = .ok (.ifCond .eq 14, 3) := by decide +kernel
theorem dX4_row_8 : decode cX4_row 8 = .ok (.iload_n 2, 1) := by decide +kernel
theorem dX4_row_9 : decode cX4_row 9 = .ok (.invokestatic 51, 3) := by decide +kernel
theorem dX4_row_12 : decode cX4_row 12 = .ok (.ifCond .eq 7, 3) := by decide +kernel
theorem dX4_row_15 : decode cX4_row 15 = .ok (.iconst 1, 1) := by decide +kernel
theorem dX4_row_16 : decode cX4_row 16 = .ok (.goto 4, 3) := by decide +kernel
theorem dX4_row_19 : decode cX4_row 19 = .ok (.iconst 0, 1) := by decide +kernel
theorem dX4_row_20 : decode cX4_row 20 = .ok (.istore_n 3, 1) := by decide +kernel
theorem dX4_row_21 : decode cX4_row 21 = .ok (.aload_n 0, 1) := by decide +kernel
theorem dX4_row_22 : decode cX4_row 22 = .ok (.iload_n 3, 1) := by decide +kernel
theorem dX4_row_23 : decode cX4_row 23 = .ok (.ifCond .eq 7, 3) := by decide +kernel
theorem dX4_row_26 : decode cX4_row 26 = .ok (.iconst 0, 1) := by decide +kernel
theorem dX4_row_27 : decode cX4_row 27 = .ok (.goto 4, 3) := by decide +kernel
theorem dX4_row_30 : decode cX4_row 30 = .ok (.iconst 1, 1) := by decide +kernel
theorem dX4_row_31 : decode cX4_row 31 = .ok (.putfield 34, 3) := by decide +kernel
theorem dX4_row_34 : decode cX4_row 34 = .ok (.iload_n 3, 1) := by decide +kernel
theorem dX4_row_35 : decode cX4_row 35 = .ok (.ifCond .eq 18, 3) := by decide +kernel
theorem dX4_row_38 : decode cX4_row 38 = .ok (.aload_n 0, 1) := by decide +kernel
theorem dX4_row_39 : decode cX4_row 39 = .ok (.getfield 7, 3) := by decide +kernel
theorem dX4_row_42 : decode cX4_row 42 = .ok (.sipush 256, 3) := by decide +kernel
theorem dX4_row_45 : decode cX4_row 45 = .ok (.iload_n 1, 1) := by decide +kernel
theorem dX4_row_46 : decode cX4_row 46 = .ok (.imul, 1) := by decide +kernel
theorem dX4_row_47 : decode cX4_row 47 = .ok (.iload_n 2, 1) := by decide +kernel
theorem dX4_row_48 : decode cX4_row 48 = .ok (.iadd, 1) := by decide +kernel
theorem dX4_row_49 : decode cX4_row 49 = .ok (.iaload, 1) := by decide +kernel
theorem dX4_row_50 : decode cX4_row 50 = .ok (.goto 4, 3) := by decide +kernel
theorem dX4_row_53 : decode cX4_row 53 = .ok (.iconst 0, 1) := by decide +kernel
theorem dX4_row_54 : decode cX4_row 54 = .ok (.ireturn, 1) := by decide +kernel
set_option maxRecDepth 20000 in
theorem ggX4_standIn_X4_isPage : GoodIn wsX4_standIn wsX4_isPage := goodIn_r _ [7, 8, 12, 13, 14, 15, 16, 17, 18, 19, 20, 21, 22, 23, 24, 25] (by decide +kernel) (by decide +kernel)
set_option maxRecDepth 20000 in
theorem gX4_standIn_X4_isPage : GoodIn wsX4_standIn (wsV RX4 47 RX4 yX4_isPage wsX4_isPage) := goodIn_app (goodIn_of _ (by decide +kernel)) ggX4_standIn_X4_isPage
set_option maxRecDepth 20000 in
theorem ggX4_standIn_X4_isCode : GoodIn wsX4_standIn wsX4_isCode := goodIn_r _ [11] (by decide +kernel) (by decide +kernel)
set_option maxRecDepth 20000 in
theorem gX4_standIn_X4_isCode : GoodIn wsX4_standIn (va_wsS RX4 51 yX4_isCode wsX4_isCode) := goodIn_app (goodIn_of _ (by decide +kernel)) ggX4_standIn_X4_isCode
theorem dX4_standIn_0 : decode cX4_standIn 0 = .ok (.aload_n 0, 1) := by decide +kernel
theorem dX4_standIn_1 : decode cX4_standIn 1 = .ok (.iconst 0, 1) := by decide +kernel
theorem dX4_standIn_2 : decode cX4_standIn 2 = .ok (.putfield 34, 3) := by decide +kernel
theorem dX4_standIn_5 : decode cX4_standIn 5 = .ok (.aload_n 0, 1) := by decide +kernel
theorem dX4_standIn_6 : decode cX4_standIn 6 = .ok (.iload_n 1, 1) := by decide +kernel
theorem dX4_standIn_7 : decode cX4_standIn 7 = .ok (.invokevirtual 47, 3) := by decide +kernel
theorem dX4_standIn_10 : decode cX4_standIn 10 = .ok (.ifCond .ne 6, 3) := by decide +kernel
theorem dX4_standIn_13 : decode cX4_standIn 13 = .ok (.bipush (-2), 2) := by decide +kernel
theorem dX4_standIn_15 : decode cX4_standIn 15 = .ok (.ireturn, 1) := by decide +kernel
theorem dX4_standIn_16 : decode cX4_standIn 16 = .ok (.iload_n 2, 1) := by decide +kernel
theorem dX4_standIn_17 : decode cX4_standIn 17 = .ok (.invokestatic 51, 3) := by decide +kernel
theorem dX4_standIn_20 : decode cX4_standIn 20 = .ok (.ifCond .ne 6, 3) := by decide +kernel
theorem dX4_standIn_23 : decode cX4_standIn 23 = .ok (.bipush (-4), 2) := by decide +kernel
theorem dX4_standIn_25 : decode cX4_standIn 25 = .ok (.ireturn, 1) := by decide +kernel
theorem dX4_standIn_26 : decode cX4_standIn 26 = .ok (.aload_n 0, 1) := by decide +kernel
theorem dX4_standIn_27 : decode cX4_standIn 27 = .ok (.getfield 13, 3) := by decide +kernel
theorem dX4_standIn_30 : decode cX4_standIn 30 = .ok (.iload_n 1, 1) := by decide +kernel
theorem dX4_standIn_31 : decode cX4_standIn 31 = .ok (.iaload, 1) := by decide +kernel
theorem dX4_standIn_32 : decode cX4_standIn 32 = .ok (.istore_n 3, 1) := by decide +kernel
theorem dX4_standIn_33 : decode cX4_standIn 33 = .ok (.aload_n 0, 1) := by decide +kernel
theorem dX4_standIn_34 : decode cX4_standIn 34 = .ok (.getfield 13, 3) := by decide +kernel
theorem dX4_standIn_37 : decode cX4_standIn 37 = .ok (.iload_n 1, 1) := by decide +kernel
theorem dX4_standIn_38 : decode cX4_standIn 38 = .ok (.iload_n 2, 1) := by decide +kernel
theorem dX4_standIn_39 : decode cX4_standIn 39 = .ok (.iastore, 1) := by decide +kernel
theorem dX4_standIn_40 : decode cX4_standIn 40 = .ok (.iload_n 3, 1) := by decide +kernel
theorem dX4_standIn_41 : decode cX4_standIn 41 = .ok (.ireturn, 1) := by decide +kernel
set_option maxRecDepth 20000 in
theorem ggX4_translated_X4_codeOf : GoodIn wsX4_translated wsX4_codeOf := goodIn_r _ [10, 1, 11, 12, 13, 14, 15, 16, 17, 18, 19, 20, 21, 22, 23, 24] (by decide +kernel) (by decide +kernel)
set_option maxRecDepth 20000 in
theorem gX4_translated_X4_codeOf : GoodIn wsX4_translated (wsV RX4 55 RX4 yX4_codeOf wsX4_codeOf) := goodIn_app (goodIn_of _ (by decide +kernel)) ggX4_translated_X4_codeOf
theorem dX4_translated_0 : decode cX4_translated 0 = .ok (.aload_n 0, 1) := by decide +kernel
theorem dX4_translated_1 : decode cX4_translated 1 = .ok (.getfield 7, 3) := by decide +kernel
theorem dX4_translated_4 : decode cX4_translated 4 = .ok (.sipush 256, 3) := by decide +kernel
theorem dX4_translated_7 : decode cX4_translated 7 = .ok (.iload_n 2, 1) := by decide +kernel
theorem dX4_translated_8 : decode cX4_translated 8 = .ok (.imul, 1) := by decide +kernel
theorem dX4_translated_9 : decode cX4_translated 9 = .ok (.iload_n 1, 1) := by decide +kernel
theorem dX4_translated_10 : decode cX4_translated 10 = .ok (.iadd, 1) := by decide +kernel
theorem dX4_translated_11 : decode cX4_translated 11 = .ok (.iaload, 1) := by decide +kernel
theorem dX4_translated_12 : decode cX4_translated 12 = .ok (.istore 4, 2) := by decide +kernel
theorem dX4_translated_14 : decode cX4_translated 14 = .ok (.iload 4, 2) := by decide +kernel
theorem dX4_translated_16 : decode cX4_translated 16 = .ok (.iconst (-1), 1) := by decide +kernel
theorem dX4_translated_17 : decode cX4_translated 17 = .ok (.if_icmp .ne 7, 3) := by decide +kernel
theorem dX4_translated_20 : decode cX4_translated 20 = .ok (.iconst (-1), 1) := by decide +kernel
theorem dX4_translated_21 : decode cX4_translated 21 = .ok (.goto 10, 3) := by decide +kernel
theorem dX4_translated_24 : decode cX4_translated 24 = .ok (.aload_n 0, 1) := by decide +kernel
theorem dX4_translated_25 : decode cX4_translated 25 = .ok (.iload_n 3, 1) := by decide +kernel
theorem dX4_translated_26 : decode cX4_translated 26 = .ok (.iload 4, 2) := by decide +kernel
theorem dX4_translated_28 : decode cX4_translated 28 = .ok (.invokevirtual 55, 3) := by decide +kernel
theorem dX4_translated_31 : decode cX4_translated 31 = .ok (.istore 5, 2) := by decide +kernel
theorem dX4_translated_33 : decode cX4_translated 33 = .ok (.iload 5, 2) := by decide +kernel
theorem dX4_translated_35 : decode cX4_translated 35 = .ok (.iconst (-1), 1) := by decide +kernel
theorem dX4_translated_36 : decode cX4_translated 36 = .ok (.if_icmp .eq 6, 3) := by decide +kernel
theorem dX4_translated_39 : decode cX4_translated 39 = .ok (.iload 5, 2) := by decide +kernel
theorem dX4_translated_41 : decode cX4_translated 41 = .ok (.ireturn, 1) := by decide +kernel
theorem dX4_translated_42 : decode cX4_translated 42 = .ok (.aload_n 0, 1) := by decide +kernel
theorem dX4_translated_43 : decode cX4_translated 43 = .ok (.getfield 59, 3) := by decide +kernel
theorem dX4_translated_46 : decode cX4_translated 46 = .ok (.sipush 200, 3) := by decide +kernel
theorem dX4_translated_49 : decode cX4_translated 49 = .ok (.if_icmp .ge 23, 3) := by decide +kernel
theorem dX4_translated_52 : decode cX4_translated 52 = .ok (.aload_n 0, 1) := by decide +kernel
theorem dX4_translated_53 : decode cX4_translated 53 = .ok (.getfield 31, 3) := by decide +kernel
theorem dX4_translated_56 : decode cX4_translated 56 = .ok (.aload_n 0, 1) := by decide +kernel
theorem dX4_translated_57 : decode cX4_translated 57 = .ok (.getfield 59, 3) := by decide +kernel
theorem dX4_translated_60 : decode cX4_translated 60 = .ok (.iload_n 1, 1) := by decide +kernel
theorem dX4_translated_61 : decode cX4_translated 61 = .ok (.iastore, 1) := by decide +kernel
theorem dX4_translated_62 : decode cX4_translated 62 = .ok (.aload_n 0, 1) := by decide +kernel
theorem dX4_translated_63 : decode cX4_translated 63 = .ok (.dup, 1) := by decide +kernel
theorem dX4_translated_64 : decode cX4_translated 64 = .ok (.getfield 59, 3) := by decide +kernel
theorem dX4_translated_67 : decode cX4_translated 67 = .ok (.iconst 1, 1) := by decide +kernel
theorem dX4_translated_68 : decode cX4_translated 68 = .ok (.iadd, 1) := by decide +kernel
theorem dX4_translated_69 : decode cX4_translated 69 = .ok (.putfield 59, 3) := by decide +kernel
theorem dX4_translated_72 : decode cX4_translated 72 = .ok (.aload_n 0, 1) := by decide +kernel
theorem dX4_translated_73 : decode cX4_translated 73 = .ok (.dup, 1) := by decide +kernel
theorem dX4_translated_74 : decode cX4_translated 74 = .ok (.getfield 62, 3) := by decide +kernel
theorem dX4_translated_77 : decode cX4_translated 77 = .ok (.iconst 1, 1) := by decide +kernel
theorem dX4_translated_78 : decode cX4_translated 78 = .ok (.iadd, 1) := by decide +kernel
theorem dX4_translated_79 : decode cX4_translated 79 = .ok (.putfield 62, 3) := by decide +kernel
theorem dX4_translated_82 : decode cX4_translated 82 = .ok (.aload_n 0, 1) := by decide +kernel
theorem dX4_translated_83 : decode cX4_translated 83 = .ok (.getfield 13, 3) := by decide +kernel
theorem dX4_translated_86 : decode cX4_translated 86 = .ok (.iload_n 3, 1) := by decide +kernel
theorem dX4_translated_87 : decode cX4_translated 87 = .ok (.iaload, 1) := by decide +kernel
theorem dX4_translated_88 : decode cX4_translated 88 = .ok (.ireturn, 1) := by decide +kernel
set_option maxRecDepth 20000 in
theorem ggX4_translate_X4_isPage : GoodIn wsX4_translate wsX4_isPage := goodIn_r _ [6, 7, 24, 25, 26, 27, 28, 29, 30, 31, 32, 33, 34, 35, 36, 37] (by decide +kernel) (by decide +kernel)
set_option maxRecDepth 20000 in
theorem gX4_translate_X4_isPage : GoodIn wsX4_translate (wsV RX4 47 RX4 yX4_isPage wsX4_isPage) := goodIn_app (goodIn_of _ (by decide +kernel)) ggX4_translate_X4_isPage
set_option maxRecDepth 20000 in
theorem ggX4_translate_X4_isCode : GoodIn wsX4_translate wsX4_isCode := goodIn_r _ [10] (by decide +kernel) (by decide +kernel)
set_option maxRecDepth 20000 in
theorem gX4_translate_X4_isCode : GoodIn wsX4_translate (va_wsS RX4 51 yX4_isCode wsX4_isCode) := goodIn_app (goodIn_of _ (by decide +kernel)) ggX4_translate_X4_isCode
set_option maxRecDepth 20000 in
theorem ggX4_translate_X4_translated : GoodIn wsX4_translate wsX4_translated := goodIn_r _ [14, 15, 16, 17, 18, 19, 20, 21, 22, 5, 23, 24, 25, 26, 27, 28, 29, 30, 31, 32, 33, 34, 35, 36, 37] (by decide +kernel) (by decide +kernel)
set_option maxRecDepth 20000 in
theorem gX4_translate_X4_translated : GoodIn wsX4_translate (wsV RX4 65 RX4 yX4_translated wsX4_translated) := goodIn_app (goodIn_of _ (by decide +kernel)) ggX4_translate_X4_translated
theorem dX4_translate_0 : decode cX4_translate 0 = .ok (.aload_n 0, 1) := by decide +kernel
theorem dX4_translate_1 : decode cX4_translate 1 = .ok (.iconst 0, 1) := by decide +kernel
theorem dX4_translate_2 : decode cX4_translate 2 = .ok (.putfield 34, 3) := by decide +kernel
theorem dX4_translate_5 : decode cX4_translate 5 = .ok (.aload_n 0, 1) := by decide +kernel
theorem dX4_translate_6 : decode cX4_translate 6 = .ok (.iload_n 2, 1) := by decide +kernel
theorem dX4_translate_7 : decode cX4_translate 7 = .ok (.invokevirtual 47, 3) := by decide +kernel
theorem dX4_translate_10 : decode cX4_translate 10 = .ok (.ifCond .eq 11, 3) := by decide +kernel
theorem dX4_translate_13 : decode cX4_translate 13 = .ok (.aload_n 0, 1) := by decide +kernel
theorem dX4_translate_14 : decode cX4_translate 14 = .ok (.iload_n 3, 1) := by decide +kernel
theorem dX4_translate_15 : decode cX4_translate 15 = .ok (.invokevirtual 47, 3) := by decide +kernel
theorem dX4_translate_18 : decode cX4_translate 18 = .ok (.ifCond .ne 6, 3) := by decide +kernel
theorem dX4_translate_21 : decode cX4_translate 21 = .ok (.bipush (-2), 2) := by decide +kernel
theorem dX4_translate_23 : decode cX4_translate 23 = .ok (.ireturn, 1) := by decide +kernel
theorem dX4_translate_24 : decode cX4_translate 24 = .ok (.iload_n 1, 1) := by decide +kernel
theorem dX4_translate_25 : decode cX4_translate 25 = .ok (.invokestatic 51, 3) := by decide +kernel
theorem dX4_translate_28 : decode cX4_translate 28 = .ok (.ifCond .eq 13, 3) := by decide +kernel
theorem dX4_translate_31 : decode cX4_translate 31 = .ok (.aload_n 0, 1) := by decide +kernel
theorem dX4_translate_32 : decode cX4_translate 32 = .ok (.iload_n 1, 1) := by decide +kernel
theorem dX4_translate_33 : decode cX4_translate 33 = .ok (.iload_n 2, 1) := by decide +kernel
theorem dX4_translate_34 : decode cX4_translate 34 = .ok (.iload_n 3, 1) := by decide +kernel
theorem dX4_translate_35 : decode cX4_translate 35 = .ok (.invokevirtual 65, 3) := by decide +kernel
theorem dX4_translate_38 : decode cX4_translate 38 = .ok (.goto 5, 3) := by decide +kernel
theorem dX4_translate_41 : decode cX4_translate 41 = .ok (.bipush (-4), 2) := by decide +kernel
theorem dX4_translate_43 : decode cX4_translate 43 = .ok (.ireturn, 1) := by decide +kernel
theorem dX4_told_0 : decode cX4_told 0 = .ok (.aload_n 0, 1) := by decide +kernel
theorem dX4_told_1 : decode cX4_told 1 = .ok (.iconst 0, 1) := by decide +kernel
theorem dX4_told_2 : decode cX4_told 2 = .ok (.putfield 34, 3) := by decide +kernel
theorem dX4_told_5 : decode cX4_told 5 = .ok (.iload_n 1, 1) := by decide +kernel
theorem dX4_told_6 : decode cX4_told 6 = .ok (.ifCond .lt 20, 3) := by decide +kernel
theorem dX4_told_9 : decode cX4_told 9 = .ok (.iload_n 1, 1) := by decide +kernel
theorem dX4_told_10 : decode cX4_told 10 = .ok (.aload_n 0, 1) := by decide +kernel
theorem dX4_told_11 : decode cX4_told 11 = .ok (.getfield 59, 3) := by decide +kernel
theorem dX4_told_14 : decode cX4_told 14 = .ok (.if_icmp .ge 12, 3) := by decide +kernel
theorem dX4_told_17 : decode cX4_told 17 = .ok (.aload_n 0, 1) := by decide +kernel
theorem dX4_told_18 : decode cX4_told 18 = .ok (.getfield 31, 3) := by decide +kernel
theorem dX4_told_21 : decode cX4_told 21 = .ok (.iload_n 1, 1) := by decide +kernel
theorem dX4_told_22 : decode cX4_told 22 = .ok (.iaload, 1) := by decide +kernel
theorem dX4_told_23 : decode cX4_told 23 = .ok (.goto 4, 3) := by decide +kernel
theorem dX4_told_26 : decode cX4_told 26 = .ok (.iconst (-1), 1) := by decide +kernel
theorem dX4_told_27 : decode cX4_told 27 = .ok (.ireturn, 1) := by decide +kernel
set_option maxRecDepth 20000 in
theorem ggX4_order_X4_meant : GoodIn wsX4_order wsX4_meant := goodIn_r _ [10, 11, 12, 13, 14, 15, 16, 17, 18, 19, 20, 21, 22, 23, 24, 25, 26] (by decide +kernel) (by decide +kernel)
set_option maxRecDepth 20000 in
theorem gX4_order_X4_meant : GoodIn wsX4_order (wsV RX4 69 RX4 yX4_meant wsX4_meant) := goodIn_app (goodIn_of _ (by decide +kernel)) ggX4_order_X4_meant
theorem dX4_order_0 : decode cX4_order 0 = .ok (.aload_n 0, 1) := by decide +kernel
theorem dX4_order_1 : decode cX4_order 1 = .ok (.iconst 0, 1) := by decide +kernel
theorem dX4_order_2 : decode cX4_order 2 = .ok (.putfield 34, 3) := by decide +kernel
theorem dX4_order_5 : decode cX4_order 5 = .ok (.iload_n 1, 1) := by decide +kernel
theorem dX4_order_6 : decode cX4_order 6 = .ok (.ifCond .lt 8, 3) := by decide +kernel
theorem dX4_order_9 : decode cX4_order 9 = .ok (.iload_n 1, 1) := by decide +kernel
theorem dX4_order_10 : decode cX4_order 10 = .ok (.iconst 2, 1) := by decide +kernel
theorem dX4_order_11 : decode cX4_order 11 = .ok (.if_icmp .le 6, 3) := by decide +kernel
theorem dX4_order_14 : decode cX4_order 14 = .ok (.bipush (-4), 2) := by decide +kernel
theorem dX4_order_16 : decode cX4_order 16 = .ok (.ireturn, 1) := by decide +kernel
theorem dX4_order_17 : decode cX4_order 17 = .ok (.aload_n 0, 1) := by decide +kernel
theorem dX4_order_18 : decode cX4_order 18 = .ok (.getfield 41, 3) := by decide +kernel
theorem dX4_order_21 : decode cX4_order 21 = .ok (.bipush 12, 2) := by decide +kernel
theorem dX4_order_23 : decode cX4_order 23 = .ok (.if_icmp .ne 5, 3) := by decide +kernel
theorem dX4_order_26 : decode cX4_order 26 = .ok (.iconst (-1), 1) := by decide +kernel
theorem dX4_order_27 : decode cX4_order 27 = .ok (.ireturn, 1) := by decide +kernel
theorem dX4_order_28 : decode cX4_order 28 = .ok (.aload_n 0, 1) := by decide +kernel
theorem dX4_order_29 : decode cX4_order 29 = .ok (.getfield 16, 3) := by decide +kernel
theorem dX4_order_32 : decode cX4_order 32 = .ok (.aload_n 0, 1) := by decide +kernel
theorem dX4_order_33 : decode cX4_order 33 = .ok (.getfield 41, 3) := by decide +kernel
theorem dX4_order_36 : decode cX4_order 36 = .ok (.iload_n 1, 1) := by decide +kernel
theorem dX4_order_37 : decode cX4_order 37 = .ok (.iastore, 1) := by decide +kernel
theorem dX4_order_38 : decode cX4_order 38 = .ok (.aload_n 0, 1) := by decide +kernel
theorem dX4_order_39 : decode cX4_order 39 = .ok (.getfield 22, 3) := by decide +kernel
theorem dX4_order_42 : decode cX4_order 42 = .ok (.aload_n 0, 1) := by decide +kernel
theorem dX4_order_43 : decode cX4_order 43 = .ok (.getfield 41, 3) := by decide +kernel
theorem dX4_order_46 : decode cX4_order 46 = .ok (.iconst 0, 1) := by decide +kernel
theorem dX4_order_47 : decode cX4_order 47 = .ok (.iastore, 1) := by decide +kernel
theorem dX4_order_48 : decode cX4_order 48 = .ok (.iconst 0, 1) := by decide +kernel
theorem dX4_order_49 : decode cX4_order 49 = .ok (.istore_n 2, 1) := by decide +kernel
theorem dX4_order_50 : decode cX4_order 50 = .ok (.iload_n 2, 1) := by decide +kernel
theorem dX4_order_51 : decode cX4_order 51 = .ok (.sipush 256, 3) := by decide +kernel
theorem dX4_order_54 : decode cX4_order 54 = .ok (.if_icmp .ge 46, 3) := by decide +kernel
theorem dX4_order_57 : decode cX4_order 57 = .ok (.aload_n 0, 1) := by decide +kernel
theorem dX4_order_58 : decode cX4_order 58 = .ok (.getfield 19, 3) := by decide +kernel
theorem dX4_order_61 : decode cX4_order 61 = .ok (.sipush 256, 3) := by decide +kernel
theorem dX4_order_64 : decode cX4_order 64 = .ok (.aload_n 0, 1) := by decide +kernel
theorem dX4_order_65 : decode cX4_order 65 = .ok (.getfield 41, 3) := by decide +kernel
theorem dX4_order_68 : decode cX4_order 68 = .ok (.imul, 1) := by decide +kernel
theorem dX4_order_69 : decode cX4_order 69 = .ok (.iload_n 2, 1) := by decide +kernel
theorem dX4_order_70 : decode cX4_order 70 = .ok (.iadd, 1) := by decide +kernel
theorem dX4_order_71 : decode cX4_order 71 = .ok (.iload_n 1, 1) := by decide +kernel
theorem dX4_order_72 : decode cX4_order 72 = .ok (.iconst 2, 1) := by decide +kernel
theorem dX4_order_73 : decode cX4_order 73 = .ok (.if_icmp .ne 7, 3) := by decide +kernel
theorem dX4_order_76 : decode cX4_order 76 = .ok (.iconst (-1), 1) := by decide +kernel
theorem dX4_order_77 : decode cX4_order 77 = .ok (.goto 16, 3) := by decide +kernel
theorem dX4_order_80 : decode cX4_order 80 = .ok (.iload_n 1, 1) := by decide +kernel
theorem dX4_order_81 : decode cX4_order 81 = .ok (.ifCond .ne 7, 3) := by decide +kernel
theorem dX4_order_84 : decode cX4_order 84 = .ok (.iload_n 2, 1) := by decide +kernel
theorem dX4_order_85 : decode cX4_order 85 = .ok (.goto 8, 3) := by decide +kernel
theorem dX4_order_88 : decode cX4_order 88 = .ok (.aload_n 0, 1) := by decide +kernel
theorem dX4_order_89 : decode cX4_order 89 = .ok (.iload_n 2, 1) := by decide +kernel
theorem dX4_order_90 : decode cX4_order 90 = .ok (.invokevirtual 69, 3) := by decide +kernel
theorem dX4_order_93 : decode cX4_order 93 = .ok (.iastore, 1) := by decide +kernel
theorem dX4_order_94 : decode cX4_order 94 = .ok (.iinc 2 1, 3) := by decide +kernel
theorem dX4_order_97 : decode cX4_order 97 = .ok (.goto (-47), 3) := by decide +kernel
theorem dX4_order_100 : decode cX4_order 100 = .ok (.aload_n 0, 1) := by decide +kernel
theorem dX4_order_101 : decode cX4_order 101 = .ok (.dup, 1) := by decide +kernel
theorem dX4_order_102 : decode cX4_order 102 = .ok (.getfield 41, 3) := by decide +kernel
theorem dX4_order_105 : decode cX4_order 105 = .ok (.iconst 1, 1) := by decide +kernel
theorem dX4_order_106 : decode cX4_order 106 = .ok (.iadd, 1) := by decide +kernel
theorem dX4_order_107 : decode cX4_order 107 = .ok (.putfield 41, 3) := by decide +kernel
theorem dX4_order_110 : decode cX4_order 110 = .ok (.aload_n 0, 1) := by decide +kernel
theorem dX4_order_111 : decode cX4_order 111 = .ok (.getfield 41, 3) := by decide +kernel
theorem dX4_order_114 : decode cX4_order 114 = .ok (.iconst 1, 1) := by decide +kernel
theorem dX4_order_115 : decode cX4_order 115 = .ok (.isub, 1) := by decide +kernel
theorem dX4_order_116 : decode cX4_order 116 = .ok (.ireturn, 1) := by decide +kernel
theorem dX4_meant_0 : decode cX4_meant 0 = .ok (.aload_n 0, 1) := by decide +kernel
theorem dX4_meant_1 : decode cX4_meant 1 = .ok (.getfield 38, 3) := by decide +kernel
theorem dX4_meant_4 : decode cX4_meant 4 = .ok (.ifCond .ne 5, 3) := by decide +kernel
theorem dX4_meant_7 : decode cX4_meant 7 = .ok (.iload_n 1, 1) := by decide +kernel
theorem dX4_meant_8 : decode cX4_meant 8 = .ok (.ireturn, 1) := by decide +kernel
theorem dX4_meant_9 : decode cX4_meant 9 = .ok (.iconst 0, 1) := by decide +kernel
theorem dX4_meant_10 : decode cX4_meant 10 = .ok (.istore_n 2, 1) := by decide +kernel
theorem dX4_meant_11 : decode cX4_meant 11 = .ok (.iconst 0, 1) := by decide +kernel
theorem dX4_meant_12 : decode cX4_meant 12 = .ok (.istore_n 3, 1) := by decide +kernel
theorem dX4_meant_13 : decode cX4_meant 13 = .ok (.iload_n 3, 1) := by decide +kernel
theorem dX4_meant_14 : decode cX4_meant 14 = .ok (.sipush 256, 3) := by decide +kernel
theorem dX4_meant_17 : decode cX4_meant 17 = .ok (.if_icmp .ge 87, 3) := by decide +kernel
theorem dX4_meant_20 : decode cX4_meant 20 = .ok (.aload_n 0, 1) := by decide +kernel
theorem dX4_meant_21 : decode cX4_meant 21 = .ok (.getfield 7, 3) := by decide +kernel
theorem dX4_meant_24 : decode cX4_meant 24 = .ok (.iload_n 3, 1) := by decide +kernel
theorem dX4_meant_25 : decode cX4_meant 25 = .ok (.iaload, 1) := by decide +kernel
theorem dX4_meant_26 : decode cX4_meant 26 = .ok (.iconst (-1), 1) := by decide +kernel
theorem dX4_meant_27 : decode cX4_meant 27 = .ok (.if_icmp .ne 26, 3) := by decide +kernel
theorem dX4_meant_30 : decode cX4_meant 30 = .ok (.aload_n 0, 1) := by decide +kernel
theorem dX4_meant_31 : decode cX4_meant 31 = .ok (.getfield 7, 3) := by decide +kernel
theorem dX4_meant_34 : decode cX4_meant 34 = .ok (.iload_n 1, 1) := by decide +kernel
theorem dX4_meant_35 : decode cX4_meant 35 = .ok (.iaload, 1) := by decide +kernel
theorem dX4_meant_36 : decode cX4_meant 36 = .ok (.iconst (-1), 1) := by decide +kernel
theorem dX4_meant_37 : decode cX4_meant 37 = .ok (.if_icmp .ne 12, 3) := by decide +kernel
theorem dX4_meant_40 : decode cX4_meant 40 = .ok (.iload_n 3, 1) := by decide +kernel
theorem dX4_meant_41 : decode cX4_meant 41 = .ok (.iload_n 1, 1) := by decide +kernel
theorem dX4_meant_42 : decode cX4_meant 42 = .ok (.if_icmp .ge 7, 3) := by decide +kernel
theorem dX4_meant_45 : decode cX4_meant 45 = .ok (.iconst 1, 1) := by decide +kernel
theorem dX4_meant_46 : decode cX4_meant 46 = .ok (.goto 37, 3) := by decide +kernel
theorem dX4_meant_49 : decode cX4_meant 49 = .ok (.iconst 0, 1) := by decide +kernel
theorem dX4_meant_50 : decode cX4_meant 50 = .ok (.goto 33, 3) := by decide +kernel
theorem dX4_meant_53 : decode cX4_meant 53 = .ok (.aload_n 0, 1) := by decide +kernel
theorem dX4_meant_54 : decode cX4_meant 54 = .ok (.getfield 7, 3) := by decide +kernel
theorem dX4_meant_57 : decode cX4_meant 57 = .ok (.iload_n 1, 1) := by decide +kernel
theorem dX4_meant_58 : decode cX4_meant 58 = .ok (.iaload, 1) := by decide +kernel
theorem dX4_meant_59 : decode cX4_meant 59 = .ok (.iconst (-1), 1) := by decide +kernel
theorem dX4_meant_60 : decode cX4_meant 60 = .ok (.if_icmp .eq 18, 3) := by decide +kernel
theorem dX4_meant_63 : decode cX4_meant 63 = .ok (.aload_n 0, 1) := by decide +kernel
theorem dX4_meant_64 : decode cX4_meant 64 = .ok (.getfield 7, 3) := by decide +kernel
theorem dX4_meant_67 : decode cX4_meant 67 = .ok (.iload_n 3, 1) := by decide +kernel
theorem dX4_meant_68 : decode cX4_meant 68 = .ok (.iaload, 1) := by decide +kernel
theorem dX4_meant_69 : decode cX4_meant 69 = .ok (.aload_n 0, 1) := by decide +kernel
theorem dX4_meant_70 : decode cX4_meant 70 = .ok (.getfield 7, 3) := by decide +kernel
theorem dX4_meant_73 : decode cX4_meant 73 = .ok (.iload_n 1, 1) := by decide +kernel
theorem dX4_meant_74 : decode cX4_meant 74 = .ok (.iaload, 1) := by decide +kernel
theorem dX4_meant_75 : decode cX4_meant 75 = .ok (.if_icmp .ge 7, 3) := by decide +kernel
theorem dX4_meant_78 : decode cX4_meant 78 = .ok (.iconst 1, 1) := by decide +kernel
theorem dX4_meant_79 : decode cX4_meant 79 = .ok (.goto 4, 3) := by decide +kernel
theorem dX4_meant_82 : decode cX4_meant 82 = .ok (.iconst 0, 1) := by decide +kernel
theorem dX4_meant_83 : decode cX4_meant 83 = .ok (.istore 4, 2) := by decide +kernel
theorem dX4_meant_85 : decode cX4_meant 85 = .ok (.iload_n 2, 1) := by decide +kernel
theorem dX4_meant_86 : decode cX4_meant 86 = .ok (.iload 4, 2) := by decide +kernel
theorem dX4_meant_88 : decode cX4_meant 88 = .ok (.ifCond .eq 7, 3) := by decide +kernel
theorem dX4_meant_91 : decode cX4_meant 91 = .ok (.iconst 1, 1) := by decide +kernel
theorem dX4_meant_92 : decode cX4_meant 92 = .ok (.goto 4, 3) := by decide +kernel
theorem dX4_meant_95 : decode cX4_meant 95 = .ok (.iconst 0, 1) := by decide +kernel
theorem dX4_meant_96 : decode cX4_meant 96 = .ok (.iadd, 1) := by decide +kernel
theorem dX4_meant_97 : decode cX4_meant 97 = .ok (.istore_n 2, 1) := by decide +kernel
theorem dX4_meant_98 : decode cX4_meant 98 = .ok (.iinc 3 1, 3) := by decide +kernel
theorem dX4_meant_101 : decode cX4_meant 101 = .ok (.goto (-88), 3) := by decide +kernel
theorem dX4_meant_104 : decode cX4_meant 104 = .ok (.iload_n 2, 1) := by decide +kernel
theorem dX4_meant_105 : decode cX4_meant 105 = .ok (.ireturn, 1) := by decide +kernel
theorem dX4_rankOf_0 : decode cX4_rankOf 0 = .ok (.aload_n 0, 1) := by decide +kernel
theorem dX4_rankOf_1 : decode cX4_rankOf 1 = .ok (.getfield 19, 3) := by decide +kernel
theorem dX4_rankOf_4 : decode cX4_rankOf 4 = .ok (.sipush 256, 3) := by decide +kernel
theorem dX4_rankOf_7 : decode cX4_rankOf 7 = .ok (.iload_n 1, 1) := by decide +kernel
theorem dX4_rankOf_8 : decode cX4_rankOf 8 = .ok (.imul, 1) := by decide +kernel
theorem dX4_rankOf_9 : decode cX4_rankOf 9 = .ok (.iload_n 2, 1) := by decide +kernel
theorem dX4_rankOf_10 : decode cX4_rankOf 10 = .ok (.iadd, 1) := by decide +kernel
theorem dX4_rankOf_11 : decode cX4_rankOf 11 = .ok (.iaload, 1) := by decide +kernel
theorem dX4_rankOf_12 : decode cX4_rankOf 12 = .ok (.istore_n 3, 1) := by decide +kernel
theorem dX4_rankOf_13 : decode cX4_rankOf 13 = .ok (.aload_n 0, 1) := by decide +kernel
theorem dX4_rankOf_14 : decode cX4_rankOf 14 = .ok (.getfield 16, 3) := by decide +kernel
theorem dX4_rankOf_17 : decode cX4_rankOf 17 = .ok (.iload_n 1, 1) := by decide +kernel
theorem dX4_rankOf_18 : decode cX4_rankOf 18 = .ok (.iaload, 1) := by decide +kernel
theorem dX4_rankOf_19 : decode cX4_rankOf 19 = .ok (.iconst 2, 1) := by decide +kernel
theorem dX4_rankOf_20 : decode cX4_rankOf 20 = .ok (.if_icmp .ne 8, 3) := by decide +kernel
theorem dX4_rankOf_23 : decode cX4_rankOf 23 = .ok (.iload_n 3, 1) := by decide +kernel
theorem dX4_rankOf_24 : decode cX4_rankOf 24 = .ok (.iconst (-1), 1) := by decide +kernel
theorem dX4_rankOf_25 : decode cX4_rankOf 25 = .ok (.if_icmp .eq 5, 3) := by decide +kernel
theorem dX4_rankOf_28 : decode cX4_rankOf 28 = .ok (.iload_n 3, 1) := by decide +kernel
theorem dX4_rankOf_29 : decode cX4_rankOf 29 = .ok (.ireturn, 1) := by decide +kernel
theorem dX4_rankOf_30 : decode cX4_rankOf 30 = .ok (.aload_n 0, 1) := by decide +kernel
theorem dX4_rankOf_31 : decode cX4_rankOf 31 = .ok (.getfield 22, 3) := by decide +kernel
theorem dX4_rankOf_34 : decode cX4_rankOf 34 = .ok (.iload_n 1, 1) := by decide +kernel
theorem dX4_rankOf_35 : decode cX4_rankOf 35 = .ok (.iaload, 1) := by decide +kernel
theorem dX4_rankOf_36 : decode cX4_rankOf 36 = .ok (.istore 4, 2) := by decide +kernel
theorem dX4_rankOf_38 : decode cX4_rankOf 38 = .ok (.iconst 0, 1) := by decide +kernel
theorem dX4_rankOf_39 : decode cX4_rankOf 39 = .ok (.istore 5, 2) := by decide +kernel
theorem dX4_rankOf_41 : decode cX4_rankOf 41 = .ok (.iload 5, 2) := by decide +kernel
theorem dX4_rankOf_43 : decode cX4_rankOf 43 = .ok (.iload_n 2, 1) := by decide +kernel
theorem dX4_rankOf_44 : decode cX4_rankOf 44 = .ok (.if_icmp .ge 36, 3) := by decide +kernel
theorem dX4_rankOf_47 : decode cX4_rankOf 47 = .ok (.iload 4, 2) := by decide +kernel
theorem dX4_rankOf_49 : decode cX4_rankOf 49 = .ok (.aload_n 0, 1) := by decide +kernel
theorem dX4_rankOf_50 : decode cX4_rankOf 50 = .ok (.getfield 19, 3) := by decide +kernel
theorem dX4_rankOf_53 : decode cX4_rankOf 53 = .ok (.sipush 256, 3) := by decide +kernel
theorem dX4_rankOf_56 : decode cX4_rankOf 56 = .ok (.iload_n 1, 1) := by decide +kernel
theorem dX4_rankOf_57 : decode cX4_rankOf 57 = .ok (.imul, 1) := by decide +kernel
theorem dX4_rankOf_58 : decode cX4_rankOf 58 = .ok (.iload 5, 2) := by decide +kernel
theorem dX4_rankOf_60 : decode cX4_rankOf 60 = .ok (.iadd, 1) := by decide +kernel
theorem dX4_rankOf_61 : decode cX4_rankOf 61 = .ok (.iaload, 1) := by decide +kernel
theorem dX4_rankOf_62 : decode cX4_rankOf 62 = .ok (.iconst (-1), 1) := by decide +kernel
theorem dX4_rankOf_63 : decode cX4_rankOf 63 = .ok (.if_icmp .ne 7, 3) := by decide +kernel
theorem dX4_rankOf_66 : decode cX4_rankOf 66 = .ok (.iconst 1, 1) := by decide +kernel
theorem dX4_rankOf_67 : decode cX4_rankOf 67 = .ok (.goto 4, 3) := by decide +kernel
theorem dX4_rankOf_70 : decode cX4_rankOf 70 = .ok (.iconst 0, 1) := by decide +kernel
theorem dX4_rankOf_71 : decode cX4_rankOf 71 = .ok (.iadd, 1) := by decide +kernel
theorem dX4_rankOf_72 : decode cX4_rankOf 72 = .ok (.istore 4, 2) := by decide +kernel
theorem dX4_rankOf_74 : decode cX4_rankOf 74 = .ok (.iinc 5 1, 3) := by decide +kernel
theorem dX4_rankOf_77 : decode cX4_rankOf 77 = .ok (.goto (-36), 3) := by decide +kernel
theorem dX4_rankOf_80 : decode cX4_rankOf 80 = .ok (.iload 4, 2) := by decide +kernel
theorem dX4_rankOf_82 : decode cX4_rankOf 82 = .ok (.ireturn, 1) := by decide +kernel
set_option maxRecDepth 20000 in
theorem ggX4_refusal_X4_isOrder : GoodIn wsX4_refusal wsX4_isOrder := goodIn_r _ [6, 7, 11, 12, 13, 14, 15, 16, 17, 18, 19, 20, 21, 22, 23, 24] (by decide +kernel) (by decide +kernel)
set_option maxRecDepth 20000 in
theorem gX4_refusal_X4_isOrder : GoodIn wsX4_refusal (wsV RX4 73 RX4 yX4_isOrder wsX4_isOrder) := goodIn_app (goodIn_of _ (by decide +kernel)) ggX4_refusal_X4_isOrder
set_option maxRecDepth 20000 in
theorem ggX4_refusal_X4_isCode : GoodIn wsX4_refusal wsX4_isCode := goodIn_r _ [10] (by decide +kernel) (by decide +kernel)
set_option maxRecDepth 20000 in
theorem gX4_refusal_X4_isCode : GoodIn wsX4_refusal (va_wsS RX4 51 yX4_isCode wsX4_isCode) := goodIn_app (goodIn_of _ (by decide +kernel)) ggX4_refusal_X4_isCode
theorem dX4_refusal_0 : decode cX4_refusal 0 = .ok (.aload_n 0, 1) := by decide +kernel
theorem dX4_refusal_1 : decode cX4_refusal 1 = .ok (.iload_n 1, 1) := by decide +kernel
theorem dX4_refusal_2 : decode cX4_refusal 2 = .ok (.invokevirtual 73, 3) := by decide +kernel
theorem dX4_refusal_5 : decode cX4_refusal 5 = .ok (.ifCond .ne 8, 3) := by decide +kernel
theorem dX4_refusal_8 : decode cX4_refusal 8 = .ok (.bipush (-2), 2) := by decide +kernel
theorem dX4_refusal_10 : decode cX4_refusal 10 = .ok (.goto 38, 3) := by decide +kernel
theorem dX4_refusal_13 : decode cX4_refusal 13 = .ok (.iload_n 2, 1) := by decide +kernel
theorem dX4_refusal_14 : decode cX4_refusal 14 = .ok (.invokestatic 51, 3) := by decide +kernel
theorem dX4_refusal_17 : decode cX4_refusal 17 = .ok (.ifCond .eq 10, 3) := by decide +kernel
theorem dX4_refusal_20 : decode cX4_refusal 20 = .ok (.iload_n 3, 1) := by decide +kernel
theorem dX4_refusal_21 : decode cX4_refusal 21 = .ok (.invokestatic 51, 3) := by decide +kernel
theorem dX4_refusal_24 : decode cX4_refusal 24 = .ok (.ifCond .ne 8, 3) := by decide +kernel
theorem dX4_refusal_27 : decode cX4_refusal 27 = .ok (.bipush (-4), 2) := by decide +kernel
theorem dX4_refusal_29 : decode cX4_refusal 29 = .ok (.goto 19, 3) := by decide +kernel
theorem dX4_refusal_32 : decode cX4_refusal 32 = .ok (.aload_n 0, 1) := by decide +kernel
theorem dX4_refusal_33 : decode cX4_refusal 33 = .ok (.getfield 16, 3) := by decide +kernel
theorem dX4_refusal_36 : decode cX4_refusal 36 = .ok (.iload_n 1, 1) := by decide +kernel
theorem dX4_refusal_37 : decode cX4_refusal 37 = .ok (.iaload, 1) := by decide +kernel
theorem dX4_refusal_38 : decode cX4_refusal 38 = .ok (.iconst 2, 1) := by decide +kernel
theorem dX4_refusal_39 : decode cX4_refusal 39 = .ok (.if_icmp .eq 8, 3) := by decide +kernel
theorem dX4_refusal_42 : decode cX4_refusal 42 = .ok (.bipush (-5), 2) := by decide +kernel
theorem dX4_refusal_44 : decode cX4_refusal 44 = .ok (.goto 4, 3) := by decide +kernel
theorem dX4_refusal_47 : decode cX4_refusal 47 = .ok (.iconst 0, 1) := by decide +kernel
theorem dX4_refusal_48 : decode cX4_refusal 48 = .ok (.ireturn, 1) := by decide +kernel
set_option maxRecDepth 20000 in
theorem ggX4_also_X4_refusal : GoodIn wsX4_also wsX4_refusal := goodIn_r _ [7, 8, 9, 10, 11, 6, 12, 13, 14, 15, 16, 17, 18, 19, 20, 21, 22, 23, 24, 25, 26, 27, 28, 29, 30] (by decide +kernel) (by decide +kernel)
set_option maxRecDepth 20000 in
theorem gX4_also_X4_refusal : GoodIn wsX4_also (wsV RX4 76 RX4 yX4_refusal wsX4_refusal) := goodIn_app (goodIn_of _ (by decide +kernel)) ggX4_also_X4_refusal
theorem dX4_also_0 : decode cX4_also 0 = .ok (.aload_n 0, 1) := by decide +kernel
theorem dX4_also_1 : decode cX4_also 1 = .ok (.iconst 0, 1) := by decide +kernel
theorem dX4_also_2 : decode cX4_also 2 = .ok (.putfield 34, 3) := by decide +kernel
theorem dX4_also_5 : decode cX4_also 5 = .ok (.aload_n 0, 1) := by decide +kernel
theorem dX4_also_6 : decode cX4_also 6 = .ok (.iload_n 1, 1) := by decide +kernel
theorem dX4_also_7 : decode cX4_also 7 = .ok (.iload_n 2, 1) := by decide +kernel
theorem dX4_also_8 : decode cX4_also 8 = .ok (.iload_n 3, 1) := by decide +kernel
theorem dX4_also_9 : decode cX4_also 9 = .ok (.invokevirtual 76, 3) := by decide +kernel
theorem dX4_also_12 : decode cX4_also 12 = .ok (.istore 4, 2) := by decide +kernel
theorem dX4_also_14 : decode cX4_also 14 = .ok (.iload 4, 2) := by decide +kernel
theorem dX4_also_16 : decode cX4_also 16 = .ok (.ifCond .eq 6, 3) := by decide +kernel
theorem dX4_also_19 : decode cX4_also 19 = .ok (.iload 4, 2) := by decide +kernel
theorem dX4_also_21 : decode cX4_also 21 = .ok (.ireturn, 1) := by decide +kernel
theorem dX4_also_22 : decode cX4_also 22 = .ok (.aload_n 0, 1) := by decide +kernel
theorem dX4_also_23 : decode cX4_also 23 = .ok (.getfield 19, 3) := by decide +kernel
theorem dX4_also_26 : decode cX4_also 26 = .ok (.sipush 256, 3) := by decide +kernel
theorem dX4_also_29 : decode cX4_also 29 = .ok (.iload_n 1, 1) := by decide +kernel
theorem dX4_also_30 : decode cX4_also 30 = .ok (.imul, 1) := by decide +kernel
theorem dX4_also_31 : decode cX4_also 31 = .ok (.iload_n 2, 1) := by decide +kernel
theorem dX4_also_32 : decode cX4_also 32 = .ok (.iadd, 1) := by decide +kernel
theorem dX4_also_33 : decode cX4_also 33 = .ok (.iaload, 1) := by decide +kernel
theorem dX4_also_34 : decode cX4_also 34 = .ok (.iconst (-1), 1) := by decide +kernel
theorem dX4_also_35 : decode cX4_also 35 = .ok (.if_icmp .eq 19, 3) := by decide +kernel
theorem dX4_also_38 : decode cX4_also 38 = .ok (.aload_n 0, 1) := by decide +kernel
theorem dX4_also_39 : decode cX4_also 39 = .ok (.getfield 19, 3) := by decide +kernel
theorem dX4_also_42 : decode cX4_also 42 = .ok (.sipush 256, 3) := by decide +kernel
theorem dX4_also_45 : decode cX4_also 45 = .ok (.iload_n 1, 1) := by decide +kernel
theorem dX4_also_46 : decode cX4_also 46 = .ok (.imul, 1) := by decide +kernel
theorem dX4_also_47 : decode cX4_also 47 = .ok (.iload_n 3, 1) := by decide +kernel
theorem dX4_also_48 : decode cX4_also 48 = .ok (.iadd, 1) := by decide +kernel
theorem dX4_also_49 : decode cX4_also 49 = .ok (.iaload, 1) := by decide +kernel
theorem dX4_also_50 : decode cX4_also 50 = .ok (.iconst (-1), 1) := by decide +kernel
theorem dX4_also_51 : decode cX4_also 51 = .ok (.if_icmp .eq 5, 3) := by decide +kernel
theorem dX4_also_54 : decode cX4_also 54 = .ok (.iconst 0, 1) := by decide +kernel
theorem dX4_also_55 : decode cX4_also 55 = .ok (.ireturn, 1) := by decide +kernel
theorem dX4_also_56 : decode cX4_also 56 = .ok (.aload_n 0, 1) := by decide +kernel
theorem dX4_also_57 : decode cX4_also 57 = .ok (.getfield 19, 3) := by decide +kernel
theorem dX4_also_60 : decode cX4_also 60 = .ok (.sipush 256, 3) := by decide +kernel
theorem dX4_also_63 : decode cX4_also 63 = .ok (.iload_n 1, 1) := by decide +kernel
theorem dX4_also_64 : decode cX4_also 64 = .ok (.imul, 1) := by decide +kernel
theorem dX4_also_65 : decode cX4_also 65 = .ok (.iload_n 3, 1) := by decide +kernel
theorem dX4_also_66 : decode cX4_also 66 = .ok (.iadd, 1) := by decide +kernel
theorem dX4_also_67 : decode cX4_also 67 = .ok (.aload_n 0, 1) := by decide +kernel
theorem dX4_also_68 : decode cX4_also 68 = .ok (.getfield 19, 3) := by decide +kernel
theorem dX4_also_71 : decode cX4_also 71 = .ok (.sipush 256, 3) := by decide +kernel
theorem dX4_also_74 : decode cX4_also 74 = .ok (.iload_n 1, 1) := by decide +kernel
theorem dX4_also_75 : decode cX4_also 75 = .ok (.imul, 1) := by decide +kernel
theorem dX4_also_76 : decode cX4_also 76 = .ok (.iload_n 2, 1) := by decide +kernel
theorem dX4_also_77 : decode cX4_also 77 = .ok (.iadd, 1) := by decide +kernel
theorem dX4_also_78 : decode cX4_also 78 = .ok (.iaload, 1) := by decide +kernel
theorem dX4_also_79 : decode cX4_also 79 = .ok (.iastore, 1) := by decide +kernel
theorem dX4_also_80 : decode cX4_also 80 = .ok (.iconst 1, 1) := by decide +kernel
theorem dX4_also_81 : decode cX4_also 81 = .ok (.ireturn, 1) := by decide +kernel
set_option maxRecDepth 20000 in
theorem ggX4_through_X4_refusal : GoodIn wsX4_through wsX4_refusal := goodIn_r _ [8, 9, 10, 11, 12, 7, 13, 14, 15, 16, 17, 18, 19, 20, 21, 22, 23, 24, 25, 26, 27, 28, 29, 30, 31] (by decide +kernel) (by decide +kernel)
set_option maxRecDepth 20000 in
theorem gX4_through_X4_refusal : GoodIn wsX4_through (wsV RX4 76 RX4 yX4_refusal wsX4_refusal) := goodIn_app (goodIn_of _ (by decide +kernel)) ggX4_through_X4_refusal
theorem dX4_through_0 : decode cX4_through 0 = .ok (.aload_n 0, 1) := by decide +kernel
theorem dX4_through_1 : decode cX4_through 1 = .ok (.iconst 0, 1) := by decide +kernel
theorem dX4_through_2 : decode cX4_through 2 = .ok (.putfield 34, 3) := by decide +kernel
theorem dX4_through_5 : decode cX4_through 5 = .ok (.aload_n 0, 1) := by decide +kernel
theorem dX4_through_6 : decode cX4_through 6 = .ok (.iload_n 1, 1) := by decide +kernel
theorem dX4_through_7 : decode cX4_through 7 = .ok (.iload_n 2, 1) := by decide +kernel
theorem dX4_through_8 : decode cX4_through 8 = .ok (.iload_n 3, 1) := by decide +kernel
theorem dX4_through_9 : decode cX4_through 9 = .ok (.invokevirtual 76, 3) := by decide +kernel
theorem dX4_through_12 : decode cX4_through 12 = .ok (.istore 4, 2) := by decide +kernel
theorem dX4_through_14 : decode cX4_through 14 = .ok (.iload 4, 2) := by decide +kernel
theorem dX4_through_16 : decode cX4_through 16 = .ok (.ifCond .eq 6, 3) := by decide +kernel
theorem dX4_through_19 : decode cX4_through 19 = .ok (.iload 4, 2) := by decide +kernel
theorem dX4_through_21 : decode cX4_through 21 = .ok (.ireturn, 1) := by decide +kernel
theorem dX4_through_22 : decode cX4_through 22 = .ok (.iload_n 2, 1) := by decide +kernel
theorem dX4_through_23 : decode cX4_through 23 = .ok (.iload_n 3, 1) := by decide +kernel
theorem dX4_through_24 : decode cX4_through 24 = .ok (.if_icmp .le 7, 3) := by decide +kernel
theorem dX4_through_27 : decode cX4_through 27 = .ok (.iconst (-1), 1) := by decide +kernel
theorem dX4_through_28 : decode cX4_through 28 = .ok (.goto 4, 3) := by decide +kernel
theorem dX4_through_31 : decode cX4_through 31 = .ok (.iconst 1, 1) := by decide +kernel
theorem dX4_through_32 : decode cX4_through 32 = .ok (.istore 5, 2) := by decide +kernel
theorem dX4_through_34 : decode cX4_through 34 = .ok (.iload_n 2, 1) := by decide +kernel
theorem dX4_through_35 : decode cX4_through 35 = .ok (.iload_n 3, 1) := by decide +kernel
theorem dX4_through_36 : decode cX4_through 36 = .ok (.if_icmp .le 11, 3) := by decide +kernel
theorem dX4_through_39 : decode cX4_through 39 = .ok (.iload_n 2, 1) := by decide +kernel
theorem dX4_through_40 : decode cX4_through 40 = .ok (.iload_n 3, 1) := by decide +kernel
theorem dX4_through_41 : decode cX4_through 41 = .ok (.isub, 1) := by decide +kernel
theorem dX4_through_42 : decode cX4_through 42 = .ok (.iconst 1, 1) := by decide +kernel
theorem dX4_through_43 : decode cX4_through 43 = .ok (.iadd, 1) := by decide +kernel
theorem dX4_through_44 : decode cX4_through 44 = .ok (.goto 8, 3) := by decide +kernel
theorem dX4_through_47 : decode cX4_through 47 = .ok (.iload_n 3, 1) := by decide +kernel
theorem dX4_through_48 : decode cX4_through 48 = .ok (.iload_n 2, 1) := by decide +kernel
theorem dX4_through_49 : decode cX4_through 49 = .ok (.isub, 1) := by decide +kernel
theorem dX4_through_50 : decode cX4_through 50 = .ok (.iconst 1, 1) := by decide +kernel
theorem dX4_through_51 : decode cX4_through 51 = .ok (.iadd, 1) := by decide +kernel
theorem dX4_through_52 : decode cX4_through 52 = .ok (.istore 6, 2) := by decide +kernel
theorem dX4_through_54 : decode cX4_through 54 = .ok (.iconst 0, 1) := by decide +kernel
theorem dX4_through_55 : decode cX4_through 55 = .ok (.istore 7, 2) := by decide +kernel
theorem dX4_through_57 : decode cX4_through 57 = .ok (.iload 7, 2) := by decide +kernel
theorem dX4_through_59 : decode cX4_through 59 = .ok (.iload 6, 2) := by decide +kernel
theorem dX4_through_61 : decode cX4_through 61 = .ok (.if_icmp .ge 33, 3) := by decide +kernel
theorem dX4_through_64 : decode cX4_through 64 = .ok (.aload_n 0, 1) := by decide +kernel
theorem dX4_through_65 : decode cX4_through 65 = .ok (.getfield 19, 3) := by decide +kernel
theorem dX4_through_68 : decode cX4_through 68 = .ok (.sipush 256, 3) := by decide +kernel
theorem dX4_through_71 : decode cX4_through 71 = .ok (.iload_n 1, 1) := by decide +kernel
theorem dX4_through_72 : decode cX4_through 72 = .ok (.imul, 1) := by decide +kernel
theorem dX4_through_73 : decode cX4_through 73 = .ok (.iload_n 2, 1) := by decide +kernel
theorem dX4_through_74 : decode cX4_through 74 = .ok (.iadd, 1) := by decide +kernel
theorem dX4_through_75 : decode cX4_through 75 = .ok (.iload 7, 2) := by decide +kernel
theorem dX4_through_77 : decode cX4_through 77 = .ok (.iload 5, 2) := by decide +kernel
theorem dX4_through_79 : decode cX4_through 79 = .ok (.imul, 1) := by decide +kernel
theorem dX4_through_80 : decode cX4_through 80 = .ok (.iadd, 1) := by decide +kernel
theorem dX4_through_81 : decode cX4_through 81 = .ok (.iaload, 1) := by decide +kernel
theorem dX4_through_82 : decode cX4_through 82 = .ok (.iconst (-1), 1) := by decide +kernel
theorem dX4_through_83 : decode cX4_through 83 = .ok (.if_icmp .eq 5, 3) := by decide +kernel
theorem dX4_through_86 : decode cX4_through 86 = .ok (.iconst 0, 1) := by decide +kernel
theorem dX4_through_87 : decode cX4_through 87 = .ok (.ireturn, 1) := by decide +kernel
theorem dX4_through_88 : decode cX4_through 88 = .ok (.iinc 7 1, 3) := by decide +kernel
theorem dX4_through_91 : decode cX4_through 91 = .ok (.goto (-34), 3) := by decide +kernel
theorem dX4_through_94 : decode cX4_through 94 = .ok (.iconst 0, 1) := by decide +kernel
theorem dX4_through_95 : decode cX4_through 95 = .ok (.istore 7, 2) := by decide +kernel
theorem dX4_through_97 : decode cX4_through 97 = .ok (.iload 7, 2) := by decide +kernel
theorem dX4_through_99 : decode cX4_through 99 = .ok (.iload 6, 2) := by decide +kernel
theorem dX4_through_101 : decode cX4_through 101 = .ok (.if_icmp .ge 43, 3) := by decide +kernel
theorem dX4_through_104 : decode cX4_through 104 = .ok (.aload_n 0, 1) := by decide +kernel
theorem dX4_through_105 : decode cX4_through 105 = .ok (.getfield 19, 3) := by decide +kernel
theorem dX4_through_108 : decode cX4_through 108 = .ok (.sipush 256, 3) := by decide +kernel
theorem dX4_through_111 : decode cX4_through 111 = .ok (.iload_n 1, 1) := by decide +kernel
theorem dX4_through_112 : decode cX4_through 112 = .ok (.imul, 1) := by decide +kernel
theorem dX4_through_113 : decode cX4_through 113 = .ok (.iload_n 2, 1) := by decide +kernel
theorem dX4_through_114 : decode cX4_through 114 = .ok (.iadd, 1) := by decide +kernel
theorem dX4_through_115 : decode cX4_through 115 = .ok (.iload 7, 2) := by decide +kernel
theorem dX4_through_117 : decode cX4_through 117 = .ok (.iload 5, 2) := by decide +kernel
theorem dX4_through_119 : decode cX4_through 119 = .ok (.imul, 1) := by decide +kernel
theorem dX4_through_120 : decode cX4_through 120 = .ok (.iadd, 1) := by decide +kernel
theorem dX4_through_121 : decode cX4_through 121 = .ok (.aload_n 0, 1) := by decide +kernel
theorem dX4_through_122 : decode cX4_through 122 = .ok (.getfield 22, 3) := by decide +kernel
theorem dX4_through_125 : decode cX4_through 125 = .ok (.iload_n 1, 1) := by decide +kernel
theorem dX4_through_126 : decode cX4_through 126 = .ok (.iaload, 1) := by decide +kernel
theorem dX4_through_127 : decode cX4_through 127 = .ok (.iastore, 1) := by decide +kernel
theorem dX4_through_128 : decode cX4_through 128 = .ok (.aload_n 0, 1) := by decide +kernel
theorem dX4_through_129 : decode cX4_through 129 = .ok (.getfield 22, 3) := by decide +kernel
theorem dX4_through_132 : decode cX4_through 132 = .ok (.iload_n 1, 1) := by decide +kernel
theorem dX4_through_133 : decode cX4_through 133 = .ok (.dup2, 1) := by decide +kernel
theorem dX4_through_134 : decode cX4_through 134 = .ok (.iaload, 1) := by decide +kernel
theorem dX4_through_135 : decode cX4_through 135 = .ok (.iconst 1, 1) := by decide +kernel
theorem dX4_through_136 : decode cX4_through 136 = .ok (.iadd, 1) := by decide +kernel
theorem dX4_through_137 : decode cX4_through 137 = .ok (.iastore, 1) := by decide +kernel
theorem dX4_through_138 : decode cX4_through 138 = .ok (.iinc 7 1, 3) := by decide +kernel
theorem dX4_through_141 : decode cX4_through 141 = .ok (.goto (-44), 3) := by decide +kernel
theorem dX4_through_144 : decode cX4_through 144 = .ok (.iload 6, 2) := by decide +kernel
theorem dX4_through_146 : decode cX4_through 146 = .ok (.ireturn, 1) := by decide +kernel
set_option maxRecDepth 20000 in
theorem ggX4_rank_X4_isOrder : GoodIn wsX4_rank wsX4_isOrder := goodIn_r _ [6, 7, 18, 19, 20, 21, 22, 23, 24, 25, 26, 27, 28, 29, 30, 31] (by decide +kernel) (by decide +kernel)
set_option maxRecDepth 20000 in
theorem gX4_rank_X4_isOrder : GoodIn wsX4_rank (wsV RX4 73 RX4 yX4_isOrder wsX4_isOrder) := goodIn_app (goodIn_of _ (by decide +kernel)) ggX4_rank_X4_isOrder
set_option maxRecDepth 20000 in
theorem ggX4_rank_X4_isCode : GoodIn wsX4_rank wsX4_isCode := goodIn_r _ [10] (by decide +kernel) (by decide +kernel)
set_option maxRecDepth 20000 in
theorem gX4_rank_X4_isCode : GoodIn wsX4_rank (va_wsS RX4 51 yX4_isCode wsX4_isCode) := goodIn_app (goodIn_of _ (by decide +kernel)) ggX4_rank_X4_isCode
set_option maxRecDepth 20000 in
theorem ggX4_rank_X4_rankOf : GoodIn wsX4_rank wsX4_rankOf := goodIn_r _ [14, 15, 16, 17, 18, 19, 20, 21, 22, 23, 24, 25, 26, 27, 28, 29, 30, 31] (by decide +kernel) (by decide +kernel)
set_option maxRecDepth 20000 in
theorem gX4_rank_X4_rankOf : GoodIn wsX4_rank (wsV RX4 79 RX4 yX4_rankOf wsX4_rankOf) := goodIn_app (goodIn_of _ (by decide +kernel)) ggX4_rank_X4_rankOf
theorem dX4_rank_0 : decode cX4_rank 0 = .ok (.aload_n 0, 1) := by decide +kernel
theorem dX4_rank_1 : decode cX4_rank 1 = .ok (.iconst 0, 1) := by decide +kernel
theorem dX4_rank_2 : decode cX4_rank 2 = .ok (.putfield 34, 3) := by decide +kernel
theorem dX4_rank_5 : decode cX4_rank 5 = .ok (.aload_n 0, 1) := by decide +kernel
theorem dX4_rank_6 : decode cX4_rank 6 = .ok (.iload_n 1, 1) := by decide +kernel
theorem dX4_rank_7 : decode cX4_rank 7 = .ok (.invokevirtual 73, 3) := by decide +kernel
theorem dX4_rank_10 : decode cX4_rank 10 = .ok (.ifCond .ne 6, 3) := by decide +kernel
theorem dX4_rank_13 : decode cX4_rank 13 = .ok (.bipush (-2), 2) := by decide +kernel
theorem dX4_rank_15 : decode cX4_rank 15 = .ok (.ireturn, 1) := by decide +kernel
theorem dX4_rank_16 : decode cX4_rank 16 = .ok (.iload_n 2, 1) := by decide +kernel
theorem dX4_rank_17 : decode cX4_rank 17 = .ok (.invokestatic 51, 3) := by decide +kernel
theorem dX4_rank_20 : decode cX4_rank 20 = .ok (.ifCond .eq 12, 3) := by decide +kernel
theorem dX4_rank_23 : decode cX4_rank 23 = .ok (.aload_n 0, 1) := by decide +kernel
theorem dX4_rank_24 : decode cX4_rank 24 = .ok (.iload_n 1, 1) := by decide +kernel
theorem dX4_rank_25 : decode cX4_rank 25 = .ok (.iload_n 2, 1) := by decide +kernel
theorem dX4_rank_26 : decode cX4_rank 26 = .ok (.invokevirtual 79, 3) := by decide +kernel
theorem dX4_rank_29 : decode cX4_rank 29 = .ok (.goto 5, 3) := by decide +kernel
theorem dX4_rank_32 : decode cX4_rank 32 = .ok (.bipush (-4), 2) := by decide +kernel
theorem dX4_rank_34 : decode cX4_rank 34 = .ok (.ireturn, 1) := by decide +kernel
set_option maxRecDepth 20000 in
theorem ggX4_high_X4_isOrder : GoodIn wsX4_high wsX4_isOrder := goodIn_r _ [6, 7, 15, 16, 17, 18, 19, 20, 21, 22, 23, 24, 25, 26, 27, 28] (by decide +kernel) (by decide +kernel)
set_option maxRecDepth 20000 in
theorem gX4_high_X4_isOrder : GoodIn wsX4_high (wsV RX4 73 RX4 yX4_isOrder wsX4_isOrder) := goodIn_app (goodIn_of _ (by decide +kernel)) ggX4_high_X4_isOrder
set_option maxRecDepth 20000 in
theorem ggX4_high_X4_rankOf : GoodIn wsX4_high wsX4_rankOf := goodIn_r _ [11, 12, 13, 14, 15, 16, 17, 18, 19, 20, 21, 22, 23, 24, 25, 26, 27, 28] (by decide +kernel) (by decide +kernel)
set_option maxRecDepth 20000 in
theorem gX4_high_X4_rankOf : GoodIn wsX4_high (wsV RX4 79 RX4 yX4_rankOf wsX4_rankOf) := goodIn_app (goodIn_of _ (by decide +kernel)) ggX4_high_X4_rankOf
theorem dX4_high_0 : decode cX4_high 0 = .ok (.aload_n 0, 1) := by decide +kernel
theorem dX4_high_1 : decode cX4_high 1 = .ok (.iconst 0, 1) := by decide +kernel
theorem dX4_high_2 : decode cX4_high 2 = .ok (.putfield 34, 3) := by decide +kernel
theorem dX4_high_5 : decode cX4_high 5 = .ok (.aload_n 0, 1) := by decide +kernel
theorem dX4_high_6 : decode cX4_high 6 = .ok (.iload_n 1, 1) := by decide +kernel
theorem dX4_high_7 : decode cX4_high 7 = .ok (.invokevirtual 73, 3) := by decide +kernel
theorem dX4_high_10 : decode cX4_high 10 = .ok (.ifCond .ne 6, 3) := by decide +kernel
theorem dX4_high_13 : decode cX4_high 13 = .ok (.bipush (-2), 2) := by decide +kernel
theorem dX4_high_15 : decode cX4_high 15 = .ok (.ireturn, 1) := by decide +kernel
theorem dX4_high_16 : decode cX4_high 16 = .ok (.iconst 0, 1) := by decide +kernel
theorem dX4_high_17 : decode cX4_high 17 = .ok (.istore_n 2, 1) := by decide +kernel
theorem dX4_high_18 : decode cX4_high 18 = .ok (.iconst 1, 1) := by decide +kernel
theorem dX4_high_19 : decode cX4_high 19 = .ok (.istore_n 3, 1) := by decide +kernel
theorem dX4_high_20 : decode cX4_high 20 = .ok (.iload_n 3, 1) := by decide +kernel
theorem dX4_high_21 : decode cX4_high 21 = .ok (.sipush 256, 3) := by decide +kernel
theorem dX4_high_24 : decode cX4_high 24 = .ok (.if_icmp .ge 30, 3) := by decide +kernel
theorem dX4_high_27 : decode cX4_high 27 = .ok (.aload_n 0, 1) := by decide +kernel
theorem dX4_high_28 : decode cX4_high 28 = .ok (.iload_n 1, 1) := by decide +kernel
theorem dX4_high_29 : decode cX4_high 29 = .ok (.iload_n 3, 1) := by decide +kernel
theorem dX4_high_30 : decode cX4_high 30 = .ok (.invokevirtual 79, 3) := by decide +kernel
theorem dX4_high_33 : decode cX4_high 33 = .ok (.aload_n 0, 1) := by decide +kernel
theorem dX4_high_34 : decode cX4_high 34 = .ok (.iload_n 1, 1) := by decide +kernel
theorem dX4_high_35 : decode cX4_high 35 = .ok (.iload_n 2, 1) := by decide +kernel
theorem dX4_high_36 : decode cX4_high 36 = .ok (.invokevirtual 79, 3) := by decide +kernel
theorem dX4_high_39 : decode cX4_high 39 = .ok (.if_icmp .lt 7, 3) := by decide +kernel
theorem dX4_high_42 : decode cX4_high 42 = .ok (.iload_n 3, 1) := by decide +kernel
theorem dX4_high_43 : decode cX4_high 43 = .ok (.goto 4, 3) := by decide +kernel
theorem dX4_high_46 : decode cX4_high 46 = .ok (.iload_n 2, 1) := by decide +kernel
theorem dX4_high_47 : decode cX4_high 47 = .ok (.istore_n 2, 1) := by decide +kernel
theorem dX4_high_48 : decode cX4_high 48 = .ok (.iinc 3 1, 3) := by decide +kernel
theorem dX4_high_51 : decode cX4_high 51 = .ok (.goto (-31), 3) := by decide +kernel
theorem dX4_high_54 : decode cX4_high 54 = .ok (.iload_n 2, 1) := by decide +kernel
theorem dX4_high_55 : decode cX4_high 55 = .ok (.ireturn, 1) := by decide +kernel
theorem dX4_text_0 : decode cX4_text 0 = .ok (.aload_n 0, 1) := by decide +kernel
theorem dX4_text_1 : decode cX4_text 1 = .ok (.iconst 0, 1) := by decide +kernel
theorem dX4_text_2 : decode cX4_text 2 = .ok (.putfield 34, 3) := by decide +kernel
theorem dX4_text_5 : decode cX4_text 5 = .ok (.aload_n 0, 1) := by decide +kernel
theorem dX4_text_6 : decode cX4_text 6 = .ok (.getfield 44, 3) := by decide +kernel
theorem dX4_text_9 : decode cX4_text 9 = .ok (.bipush 40, 2) := by decide +kernel
theorem dX4_text_11 : decode cX4_text 11 = .ok (.if_icmp .ne 5, 3) := by decide +kernel
theorem dX4_text_14 : decode cX4_text 14 = .ok (.iconst (-1), 1) := by decide +kernel
theorem dX4_text_15 : decode cX4_text 15 = .ok (.ireturn, 1) := by decide +kernel
theorem dX4_text_16 : decode cX4_text 16 = .ok (.aload_n 0, 1) := by decide +kernel
theorem dX4_text_17 : decode cX4_text 17 = .ok (.dup, 1) := by decide +kernel
theorem dX4_text_18 : decode cX4_text 18 = .ok (.getfield 44, 3) := by decide +kernel
theorem dX4_text_21 : decode cX4_text 21 = .ok (.iconst 1, 1) := by decide +kernel
theorem dX4_text_22 : decode cX4_text 22 = .ok (.iadd, 1) := by decide +kernel
theorem dX4_text_23 : decode cX4_text 23 = .ok (.putfield 44, 3) := by decide +kernel
theorem dX4_text_26 : decode cX4_text 26 = .ok (.aload_n 0, 1) := by decide +kernel
theorem dX4_text_27 : decode cX4_text 27 = .ok (.getfield 44, 3) := by decide +kernel
theorem dX4_text_30 : decode cX4_text 30 = .ok (.iconst 1, 1) := by decide +kernel
theorem dX4_text_31 : decode cX4_text 31 = .ok (.isub, 1) := by decide +kernel
theorem dX4_text_32 : decode cX4_text 32 = .ok (.ireturn, 1) := by decide +kernel
set_option maxRecDepth 20000 in
theorem ggX4_sign_X4_isText : GoodIn wsX4_sign wsX4_isText := goodIn_r _ [8, 9, 13, 14, 15, 16, 17, 18, 19, 20, 21, 22, 23, 24, 25, 26] (by decide +kernel) (by decide +kernel)
set_option maxRecDepth 20000 in
theorem gX4_sign_X4_isText : GoodIn wsX4_sign (wsV RX4 82 RX4 yX4_isText wsX4_isText) := goodIn_app (goodIn_of _ (by decide +kernel)) ggX4_sign_X4_isText
set_option maxRecDepth 20000 in
theorem ggX4_sign_X4_isCode : GoodIn wsX4_sign wsX4_isCode := goodIn_r _ [12] (by decide +kernel) (by decide +kernel)
set_option maxRecDepth 20000 in
theorem gX4_sign_X4_isCode : GoodIn wsX4_sign (va_wsS RX4 51 yX4_isCode wsX4_isCode) := goodIn_app (goodIn_of _ (by decide +kernel)) ggX4_sign_X4_isCode
theorem dX4_sign_0 : decode cX4_sign 0 = .ok (.aload_n 0, 1) := by decide +kernel
theorem dX4_sign_1 : decode cX4_sign 1 = .ok (.iconst 0, 1) := by decide +kernel
theorem dX4_sign_2 : decode cX4_sign 2 = .ok (.putfield 34, 3) := by decide +kernel
theorem dX4_sign_5 : decode cX4_sign 5 = .ok (.aload_n 0, 1) := by decide +kernel
theorem dX4_sign_6 : decode cX4_sign 6 = .ok (.iload_n 1, 1) := by decide +kernel
theorem dX4_sign_7 : decode cX4_sign 7 = .ok (.invokevirtual 82, 3) := by decide +kernel
theorem dX4_sign_10 : decode cX4_sign 10 = .ok (.ifCond .ne 6, 3) := by decide +kernel
theorem dX4_sign_13 : decode cX4_sign 13 = .ok (.bipush (-2), 2) := by decide +kernel
theorem dX4_sign_15 : decode cX4_sign 15 = .ok (.ireturn, 1) := by decide +kernel
theorem dX4_sign_16 : decode cX4_sign 16 = .ok (.iload_n 2, 1) := by decide +kernel
theorem dX4_sign_17 : decode cX4_sign 17 = .ok (.invokestatic 51, 3) := by decide +kernel
theorem dX4_sign_20 : decode cX4_sign 20 = .ok (.ifCond .ne 6, 3) := by decide +kernel
theorem dX4_sign_23 : decode cX4_sign 23 = .ok (.bipush (-4), 2) := by decide +kernel
theorem dX4_sign_25 : decode cX4_sign 25 = .ok (.ireturn, 1) := by decide +kernel
theorem dX4_sign_26 : decode cX4_sign 26 = .ok (.aload_n 0, 1) := by decide +kernel
theorem dX4_sign_27 : decode cX4_sign 27 = .ok (.getfield 28, 3) := by decide +kernel
theorem dX4_sign_30 : decode cX4_sign 30 = .ok (.iload_n 1, 1) := by decide +kernel
theorem dX4_sign_31 : decode cX4_sign 31 = .ok (.iaload, 1) := by decide +kernel
theorem dX4_sign_32 : decode cX4_sign 32 = .ok (.bipush 40, 2) := by decide +kernel
theorem dX4_sign_34 : decode cX4_sign 34 = .ok (.if_icmp .ne 5, 3) := by decide +kernel
theorem dX4_sign_37 : decode cX4_sign 37 = .ok (.iconst (-1), 1) := by decide +kernel
theorem dX4_sign_38 : decode cX4_sign 38 = .ok (.ireturn, 1) := by decide +kernel
theorem dX4_sign_39 : decode cX4_sign 39 = .ok (.aload_n 0, 1) := by decide +kernel
theorem dX4_sign_40 : decode cX4_sign 40 = .ok (.getfield 25, 3) := by decide +kernel
theorem dX4_sign_43 : decode cX4_sign 43 = .ok (.bipush 40, 2) := by decide +kernel
theorem dX4_sign_45 : decode cX4_sign 45 = .ok (.iload_n 1, 1) := by decide +kernel
theorem dX4_sign_46 : decode cX4_sign 46 = .ok (.imul, 1) := by decide +kernel
theorem dX4_sign_47 : decode cX4_sign 47 = .ok (.aload_n 0, 1) := by decide +kernel
theorem dX4_sign_48 : decode cX4_sign 48 = .ok (.getfield 28, 3) := by decide +kernel
theorem dX4_sign_51 : decode cX4_sign 51 = .ok (.iload_n 1, 1) := by decide +kernel
theorem dX4_sign_52 : decode cX4_sign 52 = .ok (.iaload, 1) := by decide +kernel
theorem dX4_sign_53 : decode cX4_sign 53 = .ok (.iadd, 1) := by decide +kernel
theorem dX4_sign_54 : decode cX4_sign 54 = .ok (.iload_n 2, 1) := by decide +kernel
theorem dX4_sign_55 : decode cX4_sign 55 = .ok (.iastore, 1) := by decide +kernel
theorem dX4_sign_56 : decode cX4_sign 56 = .ok (.aload_n 0, 1) := by decide +kernel
theorem dX4_sign_57 : decode cX4_sign 57 = .ok (.getfield 28, 3) := by decide +kernel
theorem dX4_sign_60 : decode cX4_sign 60 = .ok (.iload_n 1, 1) := by decide +kernel
theorem dX4_sign_61 : decode cX4_sign 61 = .ok (.dup2, 1) := by decide +kernel
theorem dX4_sign_62 : decode cX4_sign 62 = .ok (.iaload, 1) := by decide +kernel
theorem dX4_sign_63 : decode cX4_sign 63 = .ok (.iconst 1, 1) := by decide +kernel
theorem dX4_sign_64 : decode cX4_sign 64 = .ok (.iadd, 1) := by decide +kernel
theorem dX4_sign_65 : decode cX4_sign 65 = .ok (.iastore, 1) := by decide +kernel
theorem dX4_sign_66 : decode cX4_sign 66 = .ok (.aload_n 0, 1) := by decide +kernel
theorem dX4_sign_67 : decode cX4_sign 67 = .ok (.getfield 28, 3) := by decide +kernel
theorem dX4_sign_70 : decode cX4_sign 70 = .ok (.iload_n 1, 1) := by decide +kernel
theorem dX4_sign_71 : decode cX4_sign 71 = .ok (.iaload, 1) := by decide +kernel
theorem dX4_sign_72 : decode cX4_sign 72 = .ok (.ireturn, 1) := by decide +kernel
set_option maxRecDepth 20000 in
theorem ggX4_whole_X4_isText : GoodIn wsX4_whole wsX4_isText := goodIn_r _ [9, 10, 28, 29, 30, 31, 32, 33, 34, 35, 36, 37, 38, 39, 40, 41] (by decide +kernel) (by decide +kernel)
set_option maxRecDepth 20000 in
theorem gX4_whole_X4_isText : GoodIn wsX4_whole (wsV RX4 82 RX4 yX4_isText wsX4_isText) := goodIn_app (goodIn_of _ (by decide +kernel)) ggX4_whole_X4_isText
set_option maxRecDepth 20000 in
theorem ggX4_whole_X4_isPage : GoodIn wsX4_whole wsX4_isPage := goodIn_r _ [14, 15, 28, 29, 30, 31, 32, 33, 34, 35, 36, 37, 38, 39, 40, 41] (by decide +kernel) (by decide +kernel)
set_option maxRecDepth 20000 in
theorem gX4_whole_X4_isPage : GoodIn wsX4_whole (wsV RX4 47 RX4 yX4_isPage wsX4_isPage) := goodIn_app (goodIn_of _ (by decide +kernel)) ggX4_whole_X4_isPage
set_option maxRecDepth 20000 in
theorem ggX4_whole_X4_translated : GoodIn wsX4_whole wsX4_translated := goodIn_r _ [19, 20, 21, 22, 2, 23, 24, 25, 26, 8, 27, 28, 29, 30, 31, 32, 33, 34, 35, 36, 37, 38, 39, 40, 41] (by decide +kernel) (by decide +kernel)
set_option maxRecDepth 20000 in
theorem gX4_whole_X4_translated : GoodIn wsX4_whole (wsV RX4 65 RX4 yX4_translated wsX4_translated) := goodIn_app (goodIn_of _ (by decide +kernel)) ggX4_whole_X4_translated
theorem dX4_whole_0 : decode cX4_whole 0 = .ok (.aload_n 0, 1) := by decide +kernel
theorem dX4_whole_1 : decode cX4_whole 1 = .ok (.iconst 0, 1) := by decide +kernel
theorem dX4_whole_2 : decode cX4_whole 2 = .ok (.putfield 34, 3) := by decide +kernel
theorem dX4_whole_5 : decode cX4_whole 5 = .ok (.aload_n 0, 1) := by decide +kernel
theorem dX4_whole_6 : decode cX4_whole 6 = .ok (.iload_n 1, 1) := by decide +kernel
theorem dX4_whole_7 : decode cX4_whole 7 = .ok (.invokevirtual 82, 3) := by decide +kernel
theorem dX4_whole_10 : decode cX4_whole 10 = .ok (.ifCond .eq 19, 3) := by decide +kernel
theorem dX4_whole_13 : decode cX4_whole 13 = .ok (.aload_n 0, 1) := by decide +kernel
theorem dX4_whole_14 : decode cX4_whole 14 = .ok (.iload_n 2, 1) := by decide +kernel
theorem dX4_whole_15 : decode cX4_whole 15 = .ok (.invokevirtual 47, 3) := by decide +kernel
theorem dX4_whole_18 : decode cX4_whole 18 = .ok (.ifCond .eq 11, 3) := by decide +kernel
theorem dX4_whole_21 : decode cX4_whole 21 = .ok (.aload_n 0, 1) := by decide +kernel
theorem dX4_whole_22 : decode cX4_whole 22 = .ok (.iload_n 3, 1) := by decide +kernel
theorem dX4_whole_23 : decode cX4_whole 23 = .ok (.invokevirtual 47, 3) := by decide +kernel
theorem dX4_whole_26 : decode cX4_whole 26 = .ok (.ifCond .ne 6, 3) := by decide +kernel
theorem dX4_whole_29 : decode cX4_whole 29 = .ok (.bipush (-2), 2) := by decide +kernel
theorem dX4_whole_31 : decode cX4_whole 31 = .ok (.ireturn, 1) := by decide +kernel
theorem dX4_whole_32 : decode cX4_whole 32 = .ok (.aload_n 0, 1) := by decide +kernel
theorem dX4_whole_33 : decode cX4_whole 33 = .ok (.getfield 62, 3) := by decide +kernel
theorem dX4_whole_36 : decode cX4_whole 36 = .ok (.istore 4, 2) := by decide +kernel
theorem dX4_whole_38 : decode cX4_whole 38 = .ok (.bipush 40, 2) := by decide +kernel
theorem dX4_whole_40 : decode cX4_whole 40 = .ok (.iload_n 1, 1) := by decide +kernel
theorem dX4_whole_41 : decode cX4_whole 41 = .ok (.imul, 1) := by decide +kernel
theorem dX4_whole_42 : decode cX4_whole 42 = .ok (.istore 5, 2) := by decide +kernel
theorem dX4_whole_44 : decode cX4_whole 44 = .ok (.iload 5, 2) := by decide +kernel
theorem dX4_whole_46 : decode cX4_whole 46 = .ok (.bipush 40, 2) := by decide +kernel
theorem dX4_whole_48 : decode cX4_whole 48 = .ok (.iload_n 1, 1) := by decide +kernel
theorem dX4_whole_49 : decode cX4_whole 49 = .ok (.imul, 1) := by decide +kernel
theorem dX4_whole_50 : decode cX4_whole 50 = .ok (.aload_n 0, 1) := by decide +kernel
theorem dX4_whole_51 : decode cX4_whole 51 = .ok (.getfield 28, 3) := by decide +kernel
theorem dX4_whole_54 : decode cX4_whole 54 = .ok (.iload_n 1, 1) := by decide +kernel
theorem dX4_whole_55 : decode cX4_whole 55 = .ok (.iaload, 1) := by decide +kernel
theorem dX4_whole_56 : decode cX4_whole 56 = .ok (.iadd, 1) := by decide +kernel
theorem dX4_whole_57 : decode cX4_whole 57 = .ok (.if_icmp .ge 29, 3) := by decide +kernel
theorem dX4_whole_60 : decode cX4_whole 60 = .ok (.aload_n 0, 1) := by decide +kernel
theorem dX4_whole_61 : decode cX4_whole 61 = .ok (.getfield 25, 3) := by decide +kernel
theorem dX4_whole_64 : decode cX4_whole 64 = .ok (.iload 5, 2) := by decide +kernel
theorem dX4_whole_66 : decode cX4_whole 66 = .ok (.aload_n 0, 1) := by decide +kernel
theorem dX4_whole_67 : decode cX4_whole 67 = .ok (.aload_n 0, 1) := by decide +kernel
theorem dX4_whole_68 : decode cX4_whole 68 = .ok (.getfield 25, 3) := by decide +kernel
theorem dX4_whole_71 : decode cX4_whole 71 = .ok (.iload 5, 2) := by decide +kernel
theorem dX4_whole_73 : decode cX4_whole 73 = .ok (.iaload, 1) := by decide +kernel
theorem dX4_whole_74 : decode cX4_whole 74 = .ok (.iload_n 2, 1) := by decide +kernel
theorem dX4_whole_75 : decode cX4_whole 75 = .ok (.iload_n 3, 1) := by decide +kernel
theorem dX4_whole_76 : decode cX4_whole 76 = .ok (.invokevirtual 65, 3) := by decide +kernel
theorem dX4_whole_79 : decode cX4_whole 79 = .ok (.iastore, 1) := by decide +kernel
theorem dX4_whole_80 : decode cX4_whole 80 = .ok (.iinc 5 1, 3) := by decide +kernel
theorem dX4_whole_83 : decode cX4_whole 83 = .ok (.goto (-39), 3) := by decide +kernel
theorem dX4_whole_86 : decode cX4_whole 86 = .ok (.aload_n 0, 1) := by decide +kernel
theorem dX4_whole_87 : decode cX4_whole 87 = .ok (.getfield 62, 3) := by decide +kernel
theorem dX4_whole_90 : decode cX4_whole 90 = .ok (.iload 4, 2) := by decide +kernel
theorem dX4_whole_92 : decode cX4_whole 92 = .ok (.isub, 1) := by decide +kernel
theorem dX4_whole_93 : decode cX4_whole 93 = .ok (.ireturn, 1) := by decide +kernel
set_option maxRecDepth 20000 in
theorem ggX4_at_X4_isText : GoodIn wsX4_at wsX4_isText := goodIn_r _ [8, 9, 10, 11, 12, 13, 14, 15, 16, 17, 18, 19, 20, 21, 22, 23] (by decide +kernel) (by decide +kernel)
set_option maxRecDepth 20000 in
theorem gX4_at_X4_isText : GoodIn wsX4_at (wsV RX4 82 RX4 yX4_isText wsX4_isText) := goodIn_app (goodIn_of _ (by decide +kernel)) ggX4_at_X4_isText
theorem dX4_at_0 : decode cX4_at 0 = .ok (.aload_n 0, 1) := by decide +kernel
theorem dX4_at_1 : decode cX4_at 1 = .ok (.iconst 0, 1) := by decide +kernel
theorem dX4_at_2 : decode cX4_at 2 = .ok (.putfield 34, 3) := by decide +kernel
theorem dX4_at_5 : decode cX4_at 5 = .ok (.aload_n 0, 1) := by decide +kernel
theorem dX4_at_6 : decode cX4_at 6 = .ok (.iload_n 1, 1) := by decide +kernel
theorem dX4_at_7 : decode cX4_at 7 = .ok (.invokevirtual 82, 3) := by decide +kernel
theorem dX4_at_10 : decode cX4_at 10 = .ok (.ifCond .eq 31, 3) := by decide +kernel
theorem dX4_at_13 : decode cX4_at 13 = .ok (.iload_n 2, 1) := by decide +kernel
theorem dX4_at_14 : decode cX4_at 14 = .ok (.ifCond .lt 27, 3) := by decide +kernel
theorem dX4_at_17 : decode cX4_at 17 = .ok (.iload_n 2, 1) := by decide +kernel
theorem dX4_at_18 : decode cX4_at 18 = .ok (.aload_n 0, 1) := by decide +kernel
theorem dX4_at_19 : decode cX4_at 19 = .ok (.getfield 28, 3) := by decide +kernel
theorem dX4_at_22 : decode cX4_at 22 = .ok (.iload_n 1, 1) := by decide +kernel
theorem dX4_at_23 : decode cX4_at 23 = .ok (.iaload, 1) := by decide +kernel
theorem dX4_at_24 : decode cX4_at 24 = .ok (.if_icmp .ge 17, 3) := by decide +kernel
theorem dX4_at_27 : decode cX4_at 27 = .ok (.aload_n 0, 1) := by decide +kernel
theorem dX4_at_28 : decode cX4_at 28 = .ok (.getfield 25, 3) := by decide +kernel
theorem dX4_at_31 : decode cX4_at 31 = .ok (.bipush 40, 2) := by decide +kernel
theorem dX4_at_33 : decode cX4_at 33 = .ok (.iload_n 1, 1) := by decide +kernel
theorem dX4_at_34 : decode cX4_at 34 = .ok (.imul, 1) := by decide +kernel
theorem dX4_at_35 : decode cX4_at 35 = .ok (.iload_n 2, 1) := by decide +kernel
theorem dX4_at_36 : decode cX4_at 36 = .ok (.iadd, 1) := by decide +kernel
theorem dX4_at_37 : decode cX4_at 37 = .ok (.iaload, 1) := by decide +kernel
theorem dX4_at_38 : decode cX4_at 38 = .ok (.goto 4, 3) := by decide +kernel
theorem dX4_at_41 : decode cX4_at 41 = .ok (.iconst (-1), 1) := by decide +kernel
theorem dX4_at_42 : decode cX4_at 42 = .ok (.ireturn, 1) := by decide +kernel
theorem dX4_readAt_0 : decode cX4_readAt 0 = .ok (.iload_n 2, 1) := by decide +kernel
theorem dX4_readAt_1 : decode cX4_readAt 1 = .ok (.aload_n 0, 1) := by decide +kernel
theorem dX4_readAt_2 : decode cX4_readAt 2 = .ok (.getfield 28, 3) := by decide +kernel
theorem dX4_readAt_5 : decode cX4_readAt 5 = .ok (.iload_n 1, 1) := by decide +kernel
theorem dX4_readAt_6 : decode cX4_readAt 6 = .ok (.iaload, 1) := by decide +kernel
theorem dX4_readAt_7 : decode cX4_readAt 7 = .ok (.if_icmp .ge 17, 3) := by decide +kernel
theorem dX4_readAt_10 : decode cX4_readAt 10 = .ok (.aload_n 0, 1) := by decide +kernel
theorem dX4_readAt_11 : decode cX4_readAt 11 = .ok (.getfield 25, 3) := by decide +kernel
theorem dX4_readAt_14 : decode cX4_readAt 14 = .ok (.bipush 40, 2) := by decide +kernel
theorem dX4_readAt_16 : decode cX4_readAt 16 = .ok (.iload_n 1, 1) := by decide +kernel
theorem dX4_readAt_17 : decode cX4_readAt 17 = .ok (.imul, 1) := by decide +kernel
theorem dX4_readAt_18 : decode cX4_readAt 18 = .ok (.iload_n 2, 1) := by decide +kernel
theorem dX4_readAt_19 : decode cX4_readAt 19 = .ok (.iadd, 1) := by decide +kernel
theorem dX4_readAt_20 : decode cX4_readAt 20 = .ok (.iaload, 1) := by decide +kernel
theorem dX4_readAt_21 : decode cX4_readAt 21 = .ok (.goto 5, 3) := by decide +kernel
theorem dX4_readAt_24 : decode cX4_readAt 24 = .ok (.bipush 32, 2) := by decide +kernel
theorem dX4_readAt_26 : decode cX4_readAt 26 = .ok (.ireturn, 1) := by decide +kernel
set_option maxRecDepth 20000 in
theorem ggX4_compare_X4_isOrder : GoodIn wsX4_compare wsX4_isOrder := goodIn_r _ [6, 7, 26, 27, 28, 29, 30, 31, 32, 33, 34, 35, 36, 37, 38, 39] (by decide +kernel) (by decide +kernel)
set_option maxRecDepth 20000 in
theorem gX4_compare_X4_isOrder : GoodIn wsX4_compare (wsV RX4 73 RX4 yX4_isOrder wsX4_isOrder) := goodIn_app (goodIn_of _ (by decide +kernel)) ggX4_compare_X4_isOrder
set_option maxRecDepth 20000 in
theorem ggX4_compare_X4_isText : GoodIn wsX4_compare wsX4_isText := goodIn_r _ [11, 12, 26, 27, 28, 29, 30, 31, 32, 33, 34, 35, 36, 37, 38, 39] (by decide +kernel) (by decide +kernel)
set_option maxRecDepth 20000 in
theorem gX4_compare_X4_isText : GoodIn wsX4_compare (wsV RX4 82 RX4 yX4_isText wsX4_isText) := goodIn_app (goodIn_of _ (by decide +kernel)) ggX4_compare_X4_isText
set_option maxRecDepth 20000 in
theorem ggX4_compare_X4_readAt : GoodIn wsX4_compare wsX4_readAt := goodIn_r _ [16, 17, 18, 26, 27, 28, 29, 30, 31, 32, 33, 34, 35, 36, 37, 38, 39] (by decide +kernel) (by decide +kernel)
set_option maxRecDepth 20000 in
theorem gX4_compare_X4_readAt : GoodIn wsX4_compare (wsV RX4 85 RX4 yX4_readAt wsX4_readAt) := goodIn_app (goodIn_of _ (by decide +kernel)) ggX4_compare_X4_readAt
set_option maxRecDepth 20000 in
theorem ggX4_compare_X4_rankOf : GoodIn wsX4_compare wsX4_rankOf := goodIn_r _ [22, 23, 24, 25, 26, 27, 28, 29, 30, 31, 32, 33, 34, 35, 36, 37, 38, 39] (by decide +kernel) (by decide +kernel)
set_option maxRecDepth 20000 in
theorem gX4_compare_X4_rankOf : GoodIn wsX4_compare (wsV RX4 79 RX4 yX4_rankOf wsX4_rankOf) := goodIn_app (goodIn_of _ (by decide +kernel)) ggX4_compare_X4_rankOf
theorem dX4_compare_0 : decode cX4_compare 0 = .ok (.aload_n 0, 1) := by decide +kernel
theorem dX4_compare_1 : decode cX4_compare 1 = .ok (.iconst 0, 1) := by decide +kernel
theorem dX4_compare_2 : decode cX4_compare 2 = .ok (.putfield 34, 3) := by decide +kernel
theorem dX4_compare_5 : decode cX4_compare 5 = .ok (.aload_n 0, 1) := by decide +kernel
theorem dX4_compare_6 : decode cX4_compare 6 = .ok (.iload_n 1, 1) := by decide +kernel
theorem dX4_compare_7 : decode cX4_compare 7 = .ok (.invokevirtual 73, 3) := by decide +kernel
theorem dX4_compare_10 : decode cX4_compare 10 = .ok (.ifCond .eq 19, 3) := by decide +kernel
theorem dX4_compare_13 : decode cX4_compare 13 = .ok (.aload_n 0, 1) := by decide +kernel
theorem dX4_compare_14 : decode cX4_compare 14 = .ok (.iload_n 2, 1) := by decide +kernel
theorem dX4_compare_15 : decode cX4_compare 15 = .ok (.invokevirtual 82, 3) := by decide +kernel
theorem dX4_compare_18 : decode cX4_compare 18 = .ok (.ifCond .eq 11, 3) := by decide +kernel
theorem dX4_compare_21 : decode cX4_compare 21 = .ok (.aload_n 0, 1) := by decide +kernel
theorem dX4_compare_22 : decode cX4_compare 22 = .ok (.iload_n 3, 1) := by decide +kernel
theorem dX4_compare_23 : decode cX4_compare 23 = .ok (.invokevirtual 82, 3) := by decide +kernel
theorem dX4_compare_26 : decode cX4_compare 26 = .ok (.ifCond .ne 6, 3) := by decide +kernel
theorem dX4_compare_29 : decode cX4_compare 29 = .ok (.bipush (-2), 2) := by decide +kernel
theorem dX4_compare_31 : decode cX4_compare 31 = .ok (.ireturn, 1) := by decide +kernel
theorem dX4_compare_32 : decode cX4_compare 32 = .ok (.iconst 0, 1) := by decide +kernel
theorem dX4_compare_33 : decode cX4_compare 33 = .ok (.istore 4, 2) := by decide +kernel
theorem dX4_compare_35 : decode cX4_compare 35 = .ok (.iload 4, 2) := by decide +kernel
theorem dX4_compare_37 : decode cX4_compare 37 = .ok (.bipush 40, 2) := by decide +kernel
theorem dX4_compare_39 : decode cX4_compare 39 = .ok (.if_icmp .ge 57, 3) := by decide +kernel
theorem dX4_compare_42 : decode cX4_compare 42 = .ok (.aload_n 0, 1) := by decide +kernel
theorem dX4_compare_43 : decode cX4_compare 43 = .ok (.iload_n 1, 1) := by decide +kernel
theorem dX4_compare_44 : decode cX4_compare 44 = .ok (.aload_n 0, 1) := by decide +kernel
theorem dX4_compare_45 : decode cX4_compare 45 = .ok (.iload_n 2, 1) := by decide +kernel
theorem dX4_compare_46 : decode cX4_compare 46 = .ok (.iload 4, 2) := by decide +kernel
theorem dX4_compare_48 : decode cX4_compare 48 = .ok (.invokevirtual 85, 3) := by decide +kernel
theorem dX4_compare_51 : decode cX4_compare 51 = .ok (.invokevirtual 79, 3) := by decide +kernel
theorem dX4_compare_54 : decode cX4_compare 54 = .ok (.istore 5, 2) := by decide +kernel
theorem dX4_compare_56 : decode cX4_compare 56 = .ok (.aload_n 0, 1) := by decide +kernel
theorem dX4_compare_57 : decode cX4_compare 57 = .ok (.iload_n 1, 1) := by decide +kernel
theorem dX4_compare_58 : decode cX4_compare 58 = .ok (.aload_n 0, 1) := by decide +kernel
theorem dX4_compare_59 : decode cX4_compare 59 = .ok (.iload_n 3, 1) := by decide +kernel
theorem dX4_compare_60 : decode cX4_compare 60 = .ok (.iload 4, 2) := by decide +kernel
theorem dX4_compare_62 : decode cX4_compare 62 = .ok (.invokevirtual 85, 3) := by decide +kernel
theorem dX4_compare_65 : decode cX4_compare 65 = .ok (.invokevirtual 79, 3) := by decide +kernel
theorem dX4_compare_68 : decode cX4_compare 68 = .ok (.istore 6, 2) := by decide +kernel
theorem dX4_compare_70 : decode cX4_compare 70 = .ok (.iload 5, 2) := by decide +kernel
theorem dX4_compare_72 : decode cX4_compare 72 = .ok (.iload 6, 2) := by decide +kernel
theorem dX4_compare_74 : decode cX4_compare 74 = .ok (.if_icmp .eq 16, 3) := by decide +kernel
theorem dX4_compare_77 : decode cX4_compare 77 = .ok (.iload 5, 2) := by decide +kernel
theorem dX4_compare_79 : decode cX4_compare 79 = .ok (.iload 6, 2) := by decide +kernel
theorem dX4_compare_81 : decode cX4_compare 81 = .ok (.if_icmp .ge 7, 3) := by decide +kernel
theorem dX4_compare_84 : decode cX4_compare 84 = .ok (.iconst (-1), 1) := by decide +kernel
theorem dX4_compare_85 : decode cX4_compare 85 = .ok (.goto 4, 3) := by decide +kernel
theorem dX4_compare_88 : decode cX4_compare 88 = .ok (.iconst 1, 1) := by decide +kernel
theorem dX4_compare_89 : decode cX4_compare 89 = .ok (.ireturn, 1) := by decide +kernel
theorem dX4_compare_90 : decode cX4_compare 90 = .ok (.iinc 4 1, 3) := by decide +kernel
theorem dX4_compare_93 : decode cX4_compare 93 = .ok (.goto (-58), 3) := by decide +kernel
theorem dX4_compare_96 : decode cX4_compare 96 = .ok (.iconst 0, 1) := by decide +kernel
theorem dX4_compare_97 : decode cX4_compare 97 = .ok (.ireturn, 1) := by decide +kernel
theorem dX4_cls_0 : decode cX4_cls 0 = .ok (.aload_n 0, 1) := by decide +kernel
theorem dX4_cls_1 : decode cX4_cls 1 = .ok (.iconst 0, 1) := by decide +kernel
theorem dX4_cls_2 : decode cX4_cls 2 = .ok (.putfield 34, 3) := by decide +kernel
theorem dX4_cls_5 : decode cX4_cls 5 = .ok (.iload_n 1, 1) := by decide +kernel
theorem dX4_cls_6 : decode cX4_cls 6 = .ok (.bipush 65, 2) := by decide +kernel
theorem dX4_cls_8 : decode cX4_cls 8 = .ok (.if_icmp .lt 13, 3) := by decide +kernel
theorem dX4_cls_11 : decode cX4_cls 11 = .ok (.iload_n 1, 1) := by decide +kernel
theorem dX4_cls_12 : decode cX4_cls 12 = .ok (.bipush 90, 2) := by decide +kernel
theorem dX4_cls_14 : decode cX4_cls 14 = .ok (.if_icmp .gt 7, 3) := by decide +kernel
theorem dX4_cls_17 : decode cX4_cls 17 = .ok (.iconst 1, 1) := by decide +kernel
theorem dX4_cls_18 : decode cX4_cls 18 = .ok (.goto 4, 3) := by decide +kernel
theorem dX4_cls_21 : decode cX4_cls 21 = .ok (.iconst 0, 1) := by decide +kernel
theorem dX4_cls_22 : decode cX4_cls 22 = .ok (.istore_n 3, 1) := by decide +kernel
theorem dX4_cls_23 : decode cX4_cls 23 = .ok (.iload_n 1, 1) := by decide +kernel
theorem dX4_cls_24 : decode cX4_cls 24 = .ok (.bipush 97, 2) := by decide +kernel
theorem dX4_cls_26 : decode cX4_cls 26 = .ok (.if_icmp .lt 13, 3) := by decide +kernel
theorem dX4_cls_29 : decode cX4_cls 29 = .ok (.iload_n 1, 1) := by decide +kernel
theorem dX4_cls_30 : decode cX4_cls 30 = .ok (.bipush 122, 2) := by decide +kernel
theorem dX4_cls_32 : decode cX4_cls 32 = .ok (.if_icmp .gt 7, 3) := by decide +kernel
theorem dX4_cls_35 : decode cX4_cls 35 = .ok (.iconst 1, 1) := by decide +kernel
theorem dX4_cls_36 : decode cX4_cls 36 = .ok (.goto 4, 3) := by decide +kernel
theorem dX4_cls_39 : decode cX4_cls 39 = .ok (.iconst 0, 1) := by decide +kernel
theorem dX4_cls_40 : decode cX4_cls 40 = .ok (.istore 4, 2) := by decide +kernel
theorem dX4_cls_42 : decode cX4_cls 42 = .ok (.iload_n 2, 1) := by decide +kernel
theorem dX4_cls_43 : decode cX4_cls 43 = .ok (.tableswitch 109 0 5 #[37, 55, 70, 72, 75, 87], 37) := by decide +kernel
theorem dX4_cls_80 : decode cX4_cls 80 = .ok (.iload_n 1, 1) := by decide +kernel
theorem dX4_cls_81 : decode cX4_cls 81 = .ok (.bipush 48, 2) := by decide +kernel
theorem dX4_cls_83 : decode cX4_cls 83 = .ok (.if_icmp .lt 13, 3) := by decide +kernel
theorem dX4_cls_86 : decode cX4_cls 86 = .ok (.iload_n 1, 1) := by decide +kernel
theorem dX4_cls_87 : decode cX4_cls 87 = .ok (.bipush 57, 2) := by decide +kernel
theorem dX4_cls_89 : decode cX4_cls 89 = .ok (.if_icmp .gt 7, 3) := by decide +kernel
theorem dX4_cls_92 : decode cX4_cls 92 = .ok (.iconst 1, 1) := by decide +kernel
theorem dX4_cls_93 : decode cX4_cls 93 = .ok (.goto 4, 3) := by decide +kernel
theorem dX4_cls_96 : decode cX4_cls 96 = .ok (.iconst 0, 1) := by decide +kernel
theorem dX4_cls_97 : decode cX4_cls 97 = .ok (.ireturn, 1) := by decide +kernel
theorem dX4_cls_98 : decode cX4_cls 98 = .ok (.iload_n 3, 1) := by decide +kernel
theorem dX4_cls_99 : decode cX4_cls 99 = .ok (.ifCond .ne 8, 3) := by decide +kernel
theorem dX4_cls_102 : decode cX4_cls 102 = .ok (.iload 4, 2) := by decide +kernel
theorem dX4_cls_104 : decode cX4_cls 104 = .ok (.ifCond .eq 7, 3) := by decide +kernel
theorem dX4_cls_107 : decode cX4_cls 107 = .ok (.iconst 1, 1) := by decide +kernel
theorem dX4_cls_108 : decode cX4_cls 108 = .ok (.goto 4, 3) := by decide +kernel
theorem dX4_cls_111 : decode cX4_cls 111 = .ok (.iconst 0, 1) := by decide +kernel
theorem dX4_cls_112 : decode cX4_cls 112 = .ok (.ireturn, 1) := by decide +kernel
theorem dX4_cls_113 : decode cX4_cls 113 = .ok (.iload_n 3, 1) := by decide +kernel
theorem dX4_cls_114 : decode cX4_cls 114 = .ok (.ireturn, 1) := by decide +kernel
theorem dX4_cls_115 : decode cX4_cls 115 = .ok (.iload 4, 2) := by decide +kernel
theorem dX4_cls_117 : decode cX4_cls 117 = .ok (.ireturn, 1) := by decide +kernel
theorem dX4_cls_118 : decode cX4_cls 118 = .ok (.iload_n 1, 1) := by decide +kernel
theorem dX4_cls_119 : decode cX4_cls 119 = .ok (.bipush 32, 2) := by decide +kernel
theorem dX4_cls_121 : decode cX4_cls 121 = .ok (.if_icmp .ne 7, 3) := by decide +kernel
theorem dX4_cls_124 : decode cX4_cls 124 = .ok (.iconst 1, 1) := by decide +kernel
theorem dX4_cls_125 : decode cX4_cls 125 = .ok (.goto 4, 3) := by decide +kernel
theorem dX4_cls_128 : decode cX4_cls 128 = .ok (.iconst 0, 1) := by decide +kernel
theorem dX4_cls_129 : decode cX4_cls 129 = .ok (.ireturn, 1) := by decide +kernel
theorem dX4_cls_130 : decode cX4_cls 130 = .ok (.iload_n 1, 1) := by decide +kernel
theorem dX4_cls_131 : decode cX4_cls 131 = .ok (.ifCond .lt 9, 3) := by decide +kernel
theorem dX4_cls_134 : decode cX4_cls 134 = .ok (.iload_n 1, 1) := by decide +kernel
theorem dX4_cls_135 : decode cX4_cls 135 = .ok (.bipush 32, 2) := by decide +kernel
theorem dX4_cls_137 : decode cX4_cls 137 = .ok (.if_icmp .lt 9, 3) := by decide +kernel
theorem dX4_cls_140 : decode cX4_cls 140 = .ok (.iload_n 1, 1) := by decide +kernel
theorem dX4_cls_141 : decode cX4_cls 141 = .ok (.bipush 127, 2) := by decide +kernel
theorem dX4_cls_143 : decode cX4_cls 143 = .ok (.if_icmp .ne 7, 3) := by decide +kernel
theorem dX4_cls_146 : decode cX4_cls 146 = .ok (.iconst 1, 1) := by decide +kernel
theorem dX4_cls_147 : decode cX4_cls 147 = .ok (.goto 4, 3) := by decide +kernel
theorem dX4_cls_150 : decode cX4_cls 150 = .ok (.iconst 0, 1) := by decide +kernel
theorem dX4_cls_151 : decode cX4_cls 151 = .ok (.ireturn, 1) := by decide +kernel
theorem dX4_cls_152 : decode cX4_cls 152 = .ok (.iconst 0, 1) := by decide +kernel
theorem dX4_cls_153 : decode cX4_cls 153 = .ok (.ireturn, 1) := by decide +kernel
theorem dX4_half_0 : decode cX4_half 0 = .ok (.iload_n 0, 1) := by decide +kernel
theorem dX4_half_1 : decode cX4_half 1 = .ok (.bipush 10, 2) := by decide +kernel
theorem dX4_half_3 : decode cX4_half 3 = .ok (.if_icmp .ge 10, 3) := by decide +kernel
theorem dX4_half_6 : decode cX4_half 6 = .ok (.bipush 48, 2) := by decide +kernel
theorem dX4_half_8 : decode cX4_half 8 = .ok (.iload_n 0, 1) := by decide +kernel
theorem dX4_half_9 : decode cX4_half 9 = .ok (.iadd, 1) := by decide +kernel
theorem dX4_half_10 : decode cX4_half 10 = .ok (.goto 7, 3) := by decide +kernel
theorem dX4_half_13 : decode cX4_half 13 = .ok (.bipush 55, 2) := by decide +kernel
theorem dX4_half_15 : decode cX4_half 15 = .ok (.iload_n 0, 1) := by decide +kernel
theorem dX4_half_16 : decode cX4_half 16 = .ok (.iadd, 1) := by decide +kernel
theorem dX4_half_17 : decode cX4_half 17 = .ok (.i2b, 1) := by decide +kernel
theorem dX4_half_18 : decode cX4_half 18 = .ok (.ireturn, 1) := by decide +kernel
set_option maxRecDepth 20000 in
theorem ggX4_print_X4_isCode : GoodIn wsX4_print wsX4_isCode := goodIn_r _ [5] (by decide +kernel) (by decide +kernel)
set_option maxRecDepth 20000 in
theorem gX4_print_X4_isCode : GoodIn wsX4_print (va_wsS RX4 51 yX4_isCode wsX4_isCode) := goodIn_app (goodIn_of _ (by decide +kernel)) ggX4_print_X4_isCode
set_option maxRecDepth 20000 in
theorem ggX4_print_X4_half : GoodIn wsX4_print wsX4_half := goodIn_r _ [8] (by decide +kernel) (by decide +kernel)
set_option maxRecDepth 20000 in
theorem gX4_print_X4_half : GoodIn wsX4_print (va_wsS RX4 88 yX4_half wsX4_half) := goodIn_app (goodIn_of _ (by decide +kernel)) ggX4_print_X4_half
theorem dX4_print_0 : decode cX4_print 0 = .ok (.aload_n 0, 1) := by decide +kernel
theorem dX4_print_1 : decode cX4_print 1 = .ok (.iconst 0, 1) := by decide +kernel
theorem dX4_print_2 : decode cX4_print 2 = .ok (.putfield 34, 3) := by decide +kernel
theorem dX4_print_5 : decode cX4_print 5 = .ok (.iload_n 1, 1) := by decide +kernel
theorem dX4_print_6 : decode cX4_print 6 = .ok (.invokestatic 51, 3) := by decide +kernel
theorem dX4_print_9 : decode cX4_print 9 = .ok (.ifCond .ne 5, 3) := by decide +kernel
theorem dX4_print_12 : decode cX4_print 12 = .ok (.iconst 0, 1) := by decide +kernel
theorem dX4_print_13 : decode cX4_print 13 = .ok (.ireturn, 1) := by decide +kernel
theorem dX4_print_14 : decode cX4_print 14 = .ok (.iload_n 1, 1) := by decide +kernel
theorem dX4_print_15 : decode cX4_print 15 = .ok (.bipush 16, 2) := by decide +kernel
theorem dX4_print_17 : decode cX4_print 17 = .ok (.irem, 1) := by decide +kernel
theorem dX4_print_18 : decode cX4_print 18 = .ok (.istore_n 3, 1) := by decide +kernel
theorem dX4_print_19 : decode cX4_print 19 = .ok (.iload_n 2, 1) := by decide +kernel
theorem dX4_print_20 : decode cX4_print 20 = .ok (.tableswitch 73 0 2 #[28, 36, 41], 28) := by decide +kernel
theorem dX4_print_48 : decode cX4_print 48 = .ok (.iload_n 1, 1) := by decide +kernel
theorem dX4_print_49 : decode cX4_print 49 = .ok (.bipush 16, 2) := by decide +kernel
theorem dX4_print_51 : decode cX4_print 51 = .ok (.idiv, 1) := by decide +kernel
theorem dX4_print_52 : decode cX4_print 52 = .ok (.invokestatic 88, 3) := by decide +kernel
theorem dX4_print_55 : decode cX4_print 55 = .ok (.ireturn, 1) := by decide +kernel
theorem dX4_print_56 : decode cX4_print 56 = .ok (.iload_n 3, 1) := by decide +kernel
theorem dX4_print_57 : decode cX4_print 57 = .ok (.invokestatic 88, 3) := by decide +kernel
theorem dX4_print_60 : decode cX4_print 60 = .ok (.ireturn, 1) := by decide +kernel
theorem dX4_print_61 : decode cX4_print 61 = .ok (.iload_n 3, 1) := by decide +kernel
theorem dX4_print_62 : decode cX4_print 62 = .ok (.bipush 11, 2) := by decide +kernel
theorem dX4_print_64 : decode cX4_print 64 = .ok (.if_icmp .eq 9, 3) := by decide +kernel
theorem dX4_print_67 : decode cX4_print 67 = .ok (.iload_n 3, 1) := by decide +kernel
theorem dX4_print_68 : decode cX4_print 68 = .ok (.bipush 13, 2) := by decide +kernel
theorem dX4_print_70 : decode cX4_print 70 = .ok (.if_icmp .ne 8, 3) := by decide +kernel
theorem dX4_print_73 : decode cX4_print 73 = .ok (.bipush 45, 2) := by decide +kernel
theorem dX4_print_75 : decode cX4_print 75 = .ok (.goto 16, 3) := by decide +kernel
theorem dX4_print_78 : decode cX4_print 78 = .ok (.iload_n 3, 1) := by decide +kernel
theorem dX4_print_79 : decode cX4_print 79 = .ok (.bipush 9, 2) := by decide +kernel
theorem dX4_print_81 : decode cX4_print 81 = .ok (.if_icmp .le 8, 3) := by decide +kernel
theorem dX4_print_84 : decode cX4_print 84 = .ok (.bipush 43, 2) := by decide +kernel
theorem dX4_print_86 : decode cX4_print 86 = .ok (.goto 5, 3) := by decide +kernel
theorem dX4_print_89 : decode cX4_print 89 = .ok (.bipush 63, 2) := by decide +kernel
theorem dX4_print_91 : decode cX4_print 91 = .ok (.i2b, 1) := by decide +kernel
theorem dX4_print_92 : decode cX4_print 92 = .ok (.ireturn, 1) := by decide +kernel
theorem dX4_print_93 : decode cX4_print 93 = .ok (.iconst 0, 1) := by decide +kernel
theorem dX4_print_94 : decode cX4_print 94 = .ok (.ireturn, 1) := by decide +kernel
end
section
set_option maxRecDepth 20000 in
theorem ggL_row_X3_row : GoodIn wsL_row wsX3_row := goodIn_r _ [5, 6, 7, 8, 9, 10, 11, 12, 4, 13, 14, 15, 16, 17, 18, 19, 20, 21, 22, 23, 24, 25, 26, 27, 28, 29, 30, 31, 32, 33] (by decide +kernel) (by decide +kernel)
set_option maxRecDepth 20000 in
theorem gL_row_X3_row : GoodIn wsL_row (wsV RL 7 RX3 yX3_row wsX3_row) := goodIn_app (goodIn_of _ (by decide +kernel)) ggL_row_X3_row
theorem dL_row_0 : decode cL_row 0 = .ok (.aload_n 3, 1) := by decide +kernel
theorem dL_row_1 : decode cL_row 1 = .ok (.iconst 0, 1) := by decide +kernel
theorem dL_row_2 : decode cL_row 2 = .ok (.aload_n 0, 1) := by decide +kernel
theorem dL_row_3 : decode cL_row 3 = .ok (.iload_n 1, 1) := by decide +kernel
theorem dL_row_4 : decode cL_row 4 = .ok (.iload_n 2, 1) := by decide +kernel
theorem dL_row_5 : decode cL_row 5 = .ok (.invokevirtual 7, 3) := by decide +kernel
theorem dL_row_8 : decode cL_row 8 = .ok (.i2l, 1) := by decide +kernel
theorem dL_row_9 : decode cL_row 9 = .ok (.lastore, 1) := by decide +kernel
theorem dL_row_10 : decode cL_row 10 = .ok (.goto 7, 3) := by decide +kernel
theorem dL_row_13 : decode cL_row 13 = .ok (.astore 4, 2) := by decide +kernel
theorem dL_row_15 : decode cL_row 15 = .ok (.iconst 1, 1) := by decide +kernel
theorem dL_row_16 : decode cL_row 16 = .ok (.ireturn, 1) := by decide +kernel
theorem dL_row_17 : decode cL_row 17 = .ok (.iconst 0, 1) := by decide +kernel
theorem dL_row_18 : decode cL_row 18 = .ok (.ireturn, 1) := by decide +kernel
set_option maxRecDepth 20000 in
theorem ggL_law_X3_init : GoodIn wsL_law wsX3_init := goodIn_r _ [9, 10, 11, 12, 13, 14, 15, 16, 17, 18, 19, 20, 21, 22, 23, 24, 361, 362, 363, 364, 365, 366, 367, 368] (by decide +kernel) (by decide +kernel)
set_option maxRecDepth 20000 in
theorem gL_law_X3_init : GoodIn wsL_law (wsX3_init) := ggL_law_X3_init
set_option maxRecDepth 20000 in
theorem ggL_law_X4_init : GoodIn wsL_law wsX4_init := goodIn_r _ [27, 28, 11, 12, 19, 29, 30, 31, 32, 33, 34, 35, 36, 369, 370, 371, 372, 373, 374, 375, 376, 377, 378, 379, 380, 381, 382] (by decide +kernel) (by decide +kernel)
set_option maxRecDepth 20000 in
theorem gL_law_X4_init : GoodIn wsL_law (wsX4_init) := ggL_law_X4_init
set_option maxRecDepth 20000 in
theorem ggL_law_X3_page : GoodIn wsL_law wsX3_page := goodIn_r _ [40, 21, 14, 13, 41, 42, 43, 44, 2, 45, 46, 47, 48, 49, 11, 12, 19, 50, 51, 52, 53, 54, 361, 362, 363, 364, 365, 366, 367, 368, 383, 384] (by decide +kernel) (by decide +kernel)
set_option maxRecDepth 20000 in
theorem gL_law_X3_page : GoodIn wsL_law (wsV RL 19 RX3 yX3_page wsX3_page) := goodIn_app (goodIn_of _ (by decide +kernel)) ggL_law_X3_page
set_option maxRecDepth 20000 in
theorem ggL_law_X4_page : GoodIn wsL_law wsX4_page := goodIn_r _ [58, 59, 60, 29, 30, 369, 370, 371, 372, 373, 374, 375, 376, 377, 378, 379, 380, 381, 382] (by decide +kernel) (by decide +kernel)
set_option maxRecDepth 20000 in
theorem gL_law_X4_page : GoodIn wsL_law (wsV RL 23 RX4 yX4_page wsX4_page) := goodIn_app (goodIn_of _ (by decide +kernel)) ggL_law_X4_page
set_option maxRecDepth 20000 in
theorem ggL_law_X3_set : GoodIn wsL_law wsX3_set := goodIn_r _ [64, 65, 66, 67, 68, 2, 69, 14, 70, 71, 72, 73, 74, 75, 76, 77, 78, 79, 42, 80, 50, 383, 384, 361, 362, 363, 364, 365, 366, 367, 368] (by decide +kernel) (by decide +kernel)
set_option maxRecDepth 20000 in
theorem gL_law_X3_set : GoodIn wsL_law (wsV RL 24 RX3 yX3_set wsX3_set) := goodIn_app (goodIn_of _ (by decide +kernel)) ggL_law_X3_set
set_option maxRecDepth 20000 in
theorem ggL_law_X4_set : GoodIn wsL_law wsX4_set := goodIn_r _ [84, 59, 85, 29, 86, 87, 88, 5, 89, 60, 90, 91, 92, 93, 94, 95, 96, 369, 370, 371, 372, 373, 374, 375, 376, 377, 378, 379, 380, 381, 382] (by decide +kernel) (by decide +kernel)
set_option maxRecDepth 20000 in
theorem gL_law_X4_set : GoodIn wsL_law (wsV RL 28 RX4 yX4_set wsX4_set) := goodIn_app (goodIn_of _ (by decide +kernel)) ggL_law_X4_set
set_option maxRecDepth 20000 in
theorem ggL_law_L_row : GoodIn wsL_law wsL_row := goodIn_r _ [100, 101, 102, 103, 2, 104, 105, 106, 107, 65, 66, 67, 68, 69, 14, 70, 71, 72, 385, 386, 387, 388, 389, 390, 383, 384, 361, 362, 363, 364, 365, 366, 367, 368] (by decide +kernel) (by decide +kernel)
set_option maxRecDepth 20000 in
theorem gL_law_L_row : GoodIn wsL_law (va_wsS RL 29 yL_row wsL_row) := goodIn_app (goodIn_of _ (by decide +kernel)) ggL_law_L_row
set_option maxRecDepth 20000 in
theorem ggL_law_X4_row : GoodIn wsL_law wsX4_row := goodIn_r _ [111, 59, 29, 86, 87, 88, 5, 89, 60, 90, 91, 92, 369, 370, 371, 372, 373, 374, 375, 376, 377, 378, 379, 380, 381, 382] (by decide +kernel) (by decide +kernel)
set_option maxRecDepth 20000 in
theorem gL_law_X4_row : GoodIn wsL_law (wsV RL 34 RX4 yX4_row wsX4_row) := goodIn_app (goodIn_of _ (by decide +kernel)) ggL_law_X4_row
set_option maxRecDepth 20000 in
theorem ggL_law_X4_thrown : GoodIn wsL_law wsX4_thrown := goodIn_r _ [115, 59, 369, 370, 371, 372, 373, 374, 375, 376, 377, 378, 379, 380, 381, 382] (by decide +kernel) (by decide +kernel)
set_option maxRecDepth 20000 in
theorem gL_law_X4_thrown : GoodIn wsL_law (wsV RL 35 RX4 yX4_thrown wsX4_thrown) := goodIn_app (goodIn_of _ (by decide +kernel)) ggL_law_X4_thrown
set_option maxRecDepth 20000 in
theorem ggL_law_X3_standIn : GoodIn wsL_law wsX3_standIn := goodIn_r _ [119, 120, 66, 67, 68, 2, 69, 14, 70, 71, 72, 383, 384, 361, 362, 363, 364, 365, 366, 367, 368] (by decide +kernel) (by decide +kernel)
set_option maxRecDepth 20000 in
theorem gL_law_X3_standIn : GoodIn wsL_law (wsV RL 39 RX3 yX3_standIn wsX3_standIn) := goodIn_app (goodIn_of _ (by decide +kernel)) ggL_law_X3_standIn
set_option maxRecDepth 20000 in
theorem ggL_law_X4_standIn : GoodIn wsL_law wsX4_standIn := goodIn_r _ [124, 59, 30, 86, 87, 88, 5, 89, 60, 90, 91, 92, 369, 370, 371, 372, 373, 374, 375, 376, 377, 378, 379, 380, 381, 382] (by decide +kernel) (by decide +kernel)
set_option maxRecDepth 20000 in
theorem gL_law_X4_standIn : GoodIn wsL_law (wsV RL 42 RX4 yX4_standIn wsX4_standIn) := goodIn_app (goodIn_of _ (by decide +kernel)) ggL_law_X4_standIn
set_option maxRecDepth 20000 in
theorem ggL_law_X3_translate : GoodIn wsL_law wsX3_translate := goodIn_r _ [128, 120, 66, 67, 68, 2, 69, 14, 70, 71, 72, 129, 130, 131, 132, 65, 24, 20, 77, 78, 79, 42, 80, 50, 383, 384, 361, 362, 363, 364, 365, 366, 367, 368] (by decide +kernel) (by decide +kernel)
set_option maxRecDepth 20000 in
theorem gL_law_X3_translate : GoodIn wsL_law (wsV RL 43 RX3 yX3_translate wsX3_translate) := goodIn_app (goodIn_of _ (by decide +kernel)) ggL_law_X3_translate
set_option maxRecDepth 20000 in
theorem ggL_law_X4_translate : GoodIn wsL_law wsX4_translate := goodIn_r _ [136, 59, 86, 87, 88, 5, 89, 60, 90, 91, 92, 137, 138, 139, 140, 29, 141, 36, 142, 30, 93, 94, 95, 96, 369, 370, 371, 372, 373, 374, 375, 376, 377, 378, 379, 380, 381, 382] (by decide +kernel) (by decide +kernel)
set_option maxRecDepth 20000 in
theorem gL_law_X4_translate : GoodIn wsL_law (wsV RL 46 RX4 yX4_translate wsX4_translate) := goodIn_app (goodIn_of _ (by decide +kernel)) ggL_law_X4_translate
set_option maxRecDepth 20000 in
theorem ggL_law_X3_told : GoodIn wsL_law wsX3_told := goodIn_r _ [146, 24, 20, 361, 362, 363, 364, 365, 366, 367, 368] (by decide +kernel) (by decide +kernel)
set_option maxRecDepth 20000 in
theorem gL_law_X3_told : GoodIn wsL_law (wsV RL 47 RX3 yX3_told wsX3_told) := goodIn_app (goodIn_of _ (by decide +kernel)) ggL_law_X3_told
set_option maxRecDepth 20000 in
theorem ggL_law_X4_told : GoodIn wsL_law wsX4_told := goodIn_r _ [150, 59, 141, 36, 369, 370, 371, 372, 373, 374, 375, 376, 377, 378, 379, 380, 381, 382] (by decide +kernel) (by decide +kernel)
set_option maxRecDepth 20000 in
theorem gL_law_X4_told : GoodIn wsL_law (wsV RL 50 RX4 yX4_told wsX4_told) := goodIn_app (goodIn_of _ (by decide +kernel)) ggL_law_X4_told
set_option maxRecDepth 20000 in
theorem ggL_law_X3_order : GoodIn wsL_law wsX3_order := goodIn_r _ [154, 22, 15, 155, 156, 65, 16, 43, 44, 2, 45, 157, 158, 159, 160, 11, 12, 19, 161, 162, 163, 164, 165, 66, 67, 68, 69, 14, 166, 167, 168, 169, 170, 171, 172, 173, 361, 362, 363, 364, 365, 366, 367, 368, 391, 392, 393, 394, 383, 384] (by decide +kernel) (by decide +kernel)
set_option maxRecDepth 20000 in
theorem gL_law_X3_order : GoodIn wsL_law (wsV RL 51 RX3 yX3_order wsX3_order) := goodIn_app (goodIn_of _ (by decide +kernel)) ggL_law_X3_order
set_option maxRecDepth 20000 in
theorem ggL_law_X4_order : GoodIn wsL_law wsX4_order := goodIn_r _ [177, 59, 178, 31, 33, 32, 179, 180, 181, 5, 182, 60, 29, 369, 370, 371, 372, 373, 374, 375, 376, 377, 378, 379, 380, 381, 382] (by decide +kernel) (by decide +kernel)
set_option maxRecDepth 20000 in
theorem gL_law_X4_order : GoodIn wsL_law (wsV RL 54 RX4 yX4_order wsX4_order) := goodIn_app (goodIn_of _ (by decide +kernel)) ggL_law_X4_order
set_option maxRecDepth 20000 in
theorem ggL_law_X3_also : GoodIn wsL_law wsX3_also := goodIn_r _ [186, 187, 188, 189, 190, 2, 191, 16, 192, 193, 194, 70, 71, 72, 195, 196, 197, 156, 198, 163, 161, 199, 200, 201, 202, 164, 391, 392, 393, 394, 361, 362, 363, 364, 365, 366, 367, 368] (by decide +kernel) (by decide +kernel)
set_option maxRecDepth 20000 in
theorem gL_law_X3_also : GoodIn wsL_law (wsV RL 55 RX3 yX3_also wsX3_also) := goodIn_app (goodIn_of _ (by decide +kernel)) ggL_law_X3_also
set_option maxRecDepth 20000 in
theorem ggL_law_X4_also : GoodIn wsL_law wsX4_also := goodIn_r _ [206, 59, 32, 207, 208, 209, 5, 210, 31, 211, 212, 213, 214, 178, 90, 91, 92, 369, 370, 371, 372, 373, 374, 375, 376, 377, 378, 379, 380, 381, 382] (by decide +kernel) (by decide +kernel)
set_option maxRecDepth 20000 in
theorem gL_law_X4_also : GoodIn wsL_law (wsV RL 58 RX4 yX4_also wsX4_also) := goodIn_app (goodIn_of _ (by decide +kernel)) ggL_law_X4_also
set_option maxRecDepth 20000 in
theorem ggL_law_X3_through : GoodIn wsL_law wsX3_through := goodIn_r _ [218, 187, 219, 220, 221, 222, 188, 189, 190, 2, 191, 16, 192, 193, 194, 70, 71, 72, 223, 224, 225, 156, 226, 227, 228, 229, 230, 231, 232, 163, 161, 164, 233, 199, 200, 201, 202, 391, 392, 393, 394, 361, 362, 363, 364, 365, 366, 367, 368] (by decide +kernel) (by decide +kernel)
set_option maxRecDepth 20000 in
theorem gL_law_X3_through : GoodIn wsL_law (wsV RL 59 RX3 yX3_through wsX3_through) := goodIn_app (goodIn_of _ (by decide +kernel)) ggL_law_X3_through
set_option maxRecDepth 20000 in
theorem ggL_law_X4_through : GoodIn wsL_law wsX4_through := goodIn_r _ [237, 59, 32, 33, 207, 208, 209, 5, 210, 31, 211, 212, 213, 214, 178, 90, 91, 92, 369, 370, 371, 372, 373, 374, 375, 376, 377, 378, 379, 380, 381, 382] (by decide +kernel) (by decide +kernel)
set_option maxRecDepth 20000 in
theorem gL_law_X4_through : GoodIn wsL_law (wsV RL 62 RX4 yX4_through wsX4_through) := goodIn_app (goodIn_of _ (by decide +kernel)) ggL_law_X4_through
set_option maxRecDepth 20000 in
theorem ggL_law_X3_text : GoodIn wsL_law wsX3_text := goodIn_r _ [241, 23, 18, 17, 242, 243, 244, 245, 246, 11, 12, 19, 247, 248, 361, 362, 363, 364, 365, 366, 367, 368, 395, 396] (by decide +kernel) (by decide +kernel)
set_option maxRecDepth 20000 in
theorem gL_law_X3_text : GoodIn wsL_law (wsV RL 63 RX3 yX3_text wsX3_text) := goodIn_app (goodIn_of _ (by decide +kernel)) ggL_law_X3_text
set_option maxRecDepth 20000 in
theorem ggL_law_X4_text : GoodIn wsL_law wsX4_text := goodIn_r _ [252, 59, 253, 369, 370, 371, 372, 373, 374, 375, 376, 377, 378, 379, 380, 381, 382] (by decide +kernel) (by decide +kernel)
set_option maxRecDepth 20000 in
theorem gL_law_X4_text : GoodIn wsL_law (wsV RL 66 RX4 yX4_text wsX4_text) := goodIn_app (goodIn_of _ (by decide +kernel)) ggL_law_X4_text
set_option maxRecDepth 20000 in
theorem ggL_law_X3_sign : GoodIn wsL_law wsX3_sign := goodIn_r _ [257, 258, 259, 260, 261, 262, 2, 263, 18, 70, 71, 72, 395, 396, 361, 362, 363, 364, 365, 366, 367, 368] (by decide +kernel) (by decide +kernel)
set_option maxRecDepth 20000 in
theorem gL_law_X3_sign : GoodIn wsL_law (wsV RL 67 RX3 yX3_sign wsX3_sign) := goodIn_app (goodIn_of _ (by decide +kernel)) ggL_law_X3_sign
set_option maxRecDepth 20000 in
theorem ggL_law_X4_sign : GoodIn wsL_law wsX4_sign := goodIn_r _ [267, 59, 35, 34, 268, 269, 270, 5, 271, 253, 90, 91, 92, 369, 370, 371, 372, 373, 374, 375, 376, 377, 378, 379, 380, 381, 382] (by decide +kernel) (by decide +kernel)
set_option maxRecDepth 20000 in
theorem gL_law_X4_sign : GoodIn wsL_law (wsV RL 70 RX4 yX4_sign wsX4_sign) := goodIn_app (goodIn_of _ (by decide +kernel)) ggL_law_X4_sign
set_option maxRecDepth 20000 in
theorem ggL_law_X3_whole : GoodIn wsL_law wsX3_whole := goodIn_r _ [275, 258, 259, 120, 260, 261, 262, 2, 263, 18, 66, 67, 68, 69, 14, 129, 130, 131, 132, 65, 24, 20, 77, 78, 79, 42, 80, 50, 395, 396, 383, 384, 361, 362, 363, 364, 365, 366, 367, 368] (by decide +kernel) (by decide +kernel)
set_option maxRecDepth 20000 in
theorem gL_law_X3_whole : GoodIn wsL_law (wsV RL 71 RX3 yX3_whole wsX3_whole) := goodIn_app (goodIn_of _ (by decide +kernel)) ggL_law_X3_whole
set_option maxRecDepth 20000 in
theorem ggL_law_X4_whole : GoodIn wsL_law wsX4_whole := goodIn_r _ [279, 59, 142, 35, 34, 268, 269, 270, 5, 271, 253, 86, 87, 88, 89, 60, 137, 138, 139, 140, 29, 141, 36, 30, 93, 94, 95, 96, 369, 370, 371, 372, 373, 374, 375, 376, 377, 378, 379, 380, 381, 382] (by decide +kernel) (by decide +kernel)
set_option maxRecDepth 20000 in
theorem gL_law_X4_whole : GoodIn wsL_law (wsV RL 74 RX4 yX4_whole wsX4_whole) := goodIn_app (goodIn_of _ (by decide +kernel)) ggL_law_X4_whole
set_option maxRecDepth 20000 in
theorem ggL_law_X3_at : GoodIn wsL_law wsX3_at := goodIn_r _ [283, 258, 259, 260, 261, 262, 2, 263, 18, 395, 396, 361, 362, 363, 364, 365, 366, 367, 368] (by decide +kernel) (by decide +kernel)
set_option maxRecDepth 20000 in
theorem gL_law_X3_at : GoodIn wsL_law (wsV RL 75 RX3 yX3_at wsX3_at) := goodIn_app (goodIn_of _ (by decide +kernel)) ggL_law_X3_at
set_option maxRecDepth 20000 in
theorem ggL_law_X4_at : GoodIn wsL_law wsX4_at := goodIn_r _ [287, 59, 35, 34, 268, 269, 270, 5, 271, 253, 369, 370, 371, 372, 373, 374, 375, 376, 377, 378, 379, 380, 381, 382] (by decide +kernel) (by decide +kernel)
set_option maxRecDepth 20000 in
theorem gL_law_X4_at : GoodIn wsL_law (wsV RL 78 RX4 yX4_at wsX4_at) := goodIn_app (goodIn_of _ (by decide +kernel)) ggL_law_X4_at
set_option maxRecDepth 20000 in
theorem ggL_law_X3_compare : GoodIn wsL_law wsX3_compare := goodIn_r _ [291, 258, 292, 231, 221, 232, 293, 188, 189, 190, 2, 191, 16, 260, 261, 262, 263, 18, 294, 295, 296, 243, 297, 248, 247, 395, 396, 391, 392, 393, 394, 361, 362, 363, 364, 365, 366, 367, 368] (by decide +kernel) (by decide +kernel)
set_option maxRecDepth 20000 in
theorem gL_law_X3_compare : GoodIn wsL_law (wsV RL 79 RX3 yX3_compare wsX3_compare) := goodIn_app (goodIn_of _ (by decide +kernel)) ggL_law_X3_compare
set_option maxRecDepth 20000 in
theorem ggL_law_X4_compare : GoodIn wsL_law wsX4_compare := goodIn_r _ [301, 59, 211, 212, 213, 5, 214, 178, 268, 269, 270, 271, 253, 302, 303, 304, 305, 35, 34, 306, 307, 308, 309, 32, 31, 33, 369, 370, 371, 372, 373, 374, 375, 376, 377, 378, 379, 380, 381, 382] (by decide +kernel) (by decide +kernel)
set_option maxRecDepth 20000 in
theorem gL_law_X4_compare : GoodIn wsL_law (wsV RL 82 RX4 yX4_compare wsX4_compare) := goodIn_app (goodIn_of _ (by decide +kernel)) ggL_law_X4_compare
set_option maxRecDepth 20000 in
theorem ggL_law_X3_cls : GoodIn wsL_law wsX3_cls := goodIn_r _ [313, 314, 315, 2, 316, 317, 318, 319] (by decide +kernel) (by decide +kernel)
set_option maxRecDepth 20000 in
theorem gL_law_X3_cls : GoodIn wsL_law (wsV RL 83 RX3 yX3_cls wsX3_cls) := goodIn_app (goodIn_of _ (by decide +kernel)) ggL_law_X3_cls
set_option maxRecDepth 20000 in
theorem ggL_law_X4_cls : GoodIn wsL_law wsX4_cls := goodIn_r _ [323, 59, 369, 370, 371, 372, 373, 374, 375, 376, 377, 378, 379, 380, 381, 382] (by decide +kernel) (by decide +kernel)
set_option maxRecDepth 20000 in
theorem gL_law_X4_cls : GoodIn wsL_law (wsV RL 87 RX4 yX4_cls wsX4_cls) := goodIn_app (goodIn_of _ (by decide +kernel)) ggL_law_X4_cls
set_option maxRecDepth 20000 in
theorem ggL_law_X3_print : GoodIn wsL_law wsX3_print := goodIn_r _ [327, 70, 71, 2, 72, 328, 329, 330, 331, 332, 333] (by decide +kernel) (by decide +kernel)
set_option maxRecDepth 20000 in
theorem gL_law_X3_print : GoodIn wsL_law (wsV RL 88 RX3 yX3_print wsX3_print) := goodIn_app (goodIn_of _ (by decide +kernel)) ggL_law_X3_print
set_option maxRecDepth 20000 in
theorem ggL_law_X4_print : GoodIn wsL_law wsX4_print := goodIn_r _ [337, 59, 90, 91, 5, 92, 338, 339, 340, 369, 370, 371, 372, 373, 374, 375, 376, 377, 378, 379, 380, 381, 382] (by decide +kernel) (by decide +kernel)
set_option maxRecDepth 20000 in
theorem gL_law_X4_print : GoodIn wsL_law (wsV RL 92 RX4 yX4_print wsX4_print) := goodIn_app (goodIn_of _ (by decide +kernel)) ggL_law_X4_print
set_option maxRecDepth 20000 in
theorem ggL_law_X3_high : GoodIn wsL_law wsX3_high := goodIn_r _ [344, 188, 189, 190, 2, 191, 16, 345, 346, 347, 156, 348, 161, 361, 362, 363, 364, 365, 366, 367, 368, 391, 392, 393, 394] (by decide +kernel) (by decide +kernel)
set_option maxRecDepth 20000 in
theorem gL_law_X3_high : GoodIn wsL_law (wsV RL 93 RX3 yX3_high wsX3_high) := goodIn_app (goodIn_of _ (by decide +kernel)) ggL_law_X3_high
set_option maxRecDepth 20000 in
theorem ggL_law_X4_high : GoodIn wsL_law wsX4_high := goodIn_r _ [352, 59, 211, 212, 213, 5, 214, 178, 306, 307, 308, 309, 32, 31, 33, 369, 370, 371, 372, 373, 374, 375, 376, 377, 378, 379, 380, 381, 382] (by decide +kernel) (by decide +kernel)
set_option maxRecDepth 20000 in
theorem gL_law_X4_high : GoodIn wsL_law (wsV RL 96 RX4 yX4_high wsX4_high) := goodIn_app (goodIn_of _ (by decide +kernel)) ggL_law_X4_high
set_option maxRecDepth 20000 in
theorem ggL_law_X3_rank : GoodIn wsL_law wsX3_rank := goodIn_r _ [356, 293, 188, 189, 190, 2, 191, 16, 70, 71, 72, 391, 392, 393, 394, 361, 362, 363, 364, 365, 366, 367, 368] (by decide +kernel) (by decide +kernel)
set_option maxRecDepth 20000 in
theorem gL_law_X3_rank : GoodIn wsL_law (wsV RL 97 RX3 yX3_rank wsX3_rank) := goodIn_app (goodIn_of _ (by decide +kernel)) ggL_law_X3_rank
set_option maxRecDepth 20000 in
theorem ggL_law_X4_rank : GoodIn wsL_law wsX4_rank := goodIn_r _ [360, 59, 211, 212, 213, 5, 214, 178, 90, 91, 92, 306, 307, 308, 309, 32, 31, 33, 369, 370, 371, 372, 373, 374, 375, 376, 377, 378, 379, 380, 381, 382] (by decide +kernel) (by decide +kernel)
set_option maxRecDepth 20000 in
theorem gL_law_X4_rank : GoodIn wsL_law (wsV RL 100 RX4 yX4_rank wsX4_rank) := goodIn_app (goodIn_of _ (by decide +kernel)) ggL_law_X4_rank
theorem dL_law_0 : decode cL_law 0 = .ok (.new 8, 3) := by decide +kernel
theorem dL_law_3 : decode cL_law 3 = .ok (.dup, 1) := by decide +kernel
theorem dL_law_4 : decode cL_law 4 = .ok (.invokespecial 15, 3) := by decide +kernel
theorem dL_law_7 : decode cL_law 7 = .ok (.astore_n 1, 1) := by decide +kernel
theorem dL_law_8 : decode cL_law 8 = .ok (.new 16, 3) := by decide +kernel
theorem dL_law_11 : decode cL_law 11 = .ok (.dup, 1) := by decide +kernel
theorem dL_law_12 : decode cL_law 12 = .ok (.invokespecial 18, 3) := by decide +kernel
theorem dL_law_15 : decode cL_law 15 = .ok (.astore_n 2, 1) := by decide +kernel
theorem dL_law_16 : decode cL_law 16 = .ok (.iconst 1, 1) := by decide +kernel
theorem dL_law_17 : decode cL_law 17 = .ok (.newarray .long, 2) := by decide +kernel
theorem dL_law_19 : decode cL_law 19 = .ok (.astore_n 3, 1) := by decide +kernel
theorem dL_law_20 : decode cL_law 20 = .ok (.iconst 0, 1) := by decide +kernel
theorem dL_law_21 : decode cL_law 21 = .ok (.istore 4, 2) := by decide +kernel
theorem dL_law_23 : decode cL_law 23 = .ok (.iload 4, 2) := by decide +kernel
theorem dL_law_25 : decode cL_law 25 = .ok (.aload_n 0, 1) := by decide +kernel
theorem dL_law_26 : decode cL_law 26 = .ok (.arraylength, 1) := by decide +kernel
theorem dL_law_27 : decode cL_law 27 = .ok (.iconst 4, 1) := by decide +kernel
theorem dL_law_28 : decode cL_law 28 = .ok (.isub, 1) := by decide +kernel
theorem dL_law_29 : decode cL_law 29 = .ok (.if_icmp .gt 798, 3) := by decide +kernel
theorem dL_law_32 : decode cL_law 32 = .ok (.aload_n 0, 1) := by decide +kernel
theorem dL_law_33 : decode cL_law 33 = .ok (.iload 4, 2) := by decide +kernel
theorem dL_law_35 : decode cL_law 35 = .ok (.iaload, 1) := by decide +kernel
theorem dL_law_36 : decode cL_law 36 = .ok (.bipush 31, 2) := by decide +kernel
theorem dL_law_38 : decode cL_law 38 = .ok (.iand, 1) := by decide +kernel
theorem dL_law_39 : decode cL_law 39 = .ok (.tableswitch 782 0 17 #[85, 110, 159, 227, 264, 313, 338, 363, 412, 461, 474, 511, 560, 597, 646, 683, 720, 745], 85) := by decide +kernel
theorem dL_law_124 : decode cL_law 124 = .ok (.aload_n 1, 1) := by decide +kernel
theorem dL_law_125 : decode cL_law 125 = .ok (.aload_n 0, 1) := by decide +kernel
theorem dL_law_126 : decode cL_law 126 = .ok (.iload 4, 2) := by decide +kernel
theorem dL_law_128 : decode cL_law 128 = .ok (.iconst 1, 1) := by decide +kernel
theorem dL_law_129 : decode cL_law 129 = .ok (.iadd, 1) := by decide +kernel
theorem dL_law_130 : decode cL_law 130 = .ok (.iaload, 1) := by decide +kernel
theorem dL_law_131 : decode cL_law 131 = .ok (.invokevirtual 19, 3) := by decide +kernel
theorem dL_law_134 : decode cL_law 134 = .ok (.aload_n 2, 1) := by decide +kernel
theorem dL_law_135 : decode cL_law 135 = .ok (.aload_n 0, 1) := by decide +kernel
theorem dL_law_136 : decode cL_law 136 = .ok (.iload 4, 2) := by decide +kernel
theorem dL_law_138 : decode cL_law 138 = .ok (.iconst 1, 1) := by decide +kernel
theorem dL_law_139 : decode cL_law 139 = .ok (.iadd, 1) := by decide +kernel
theorem dL_law_140 : decode cL_law 140 = .ok (.iaload, 1) := by decide +kernel
theorem dL_law_141 : decode cL_law 141 = .ok (.invokevirtual 23, 3) := by decide +kernel
theorem dL_law_144 : decode cL_law 144 = .ok (.if_icmp .eq 677, 3) := by decide +kernel
theorem dL_law_147 : decode cL_law 147 = .ok (.iconst 0, 1) := by decide +kernel
theorem dL_law_148 : decode cL_law 148 = .ok (.ireturn, 1) := by decide +kernel
theorem dL_law_149 : decode cL_law 149 = .ok (.aload_n 1, 1) := by decide +kernel
theorem dL_law_150 : decode cL_law 150 = .ok (.aload_n 0, 1) := by decide +kernel
theorem dL_law_151 : decode cL_law 151 = .ok (.iload 4, 2) := by decide +kernel
theorem dL_law_153 : decode cL_law 153 = .ok (.iconst 1, 1) := by decide +kernel
theorem dL_law_154 : decode cL_law 154 = .ok (.iadd, 1) := by decide +kernel
theorem dL_law_155 : decode cL_law 155 = .ok (.iaload, 1) := by decide +kernel
theorem dL_law_156 : decode cL_law 156 = .ok (.aload_n 0, 1) := by decide +kernel
theorem dL_law_157 : decode cL_law 157 = .ok (.iload 4, 2) := by decide +kernel
theorem dL_law_159 : decode cL_law 159 = .ok (.iconst 2, 1) := by decide +kernel
theorem dL_law_160 : decode cL_law 160 = .ok (.iadd, 1) := by decide +kernel
theorem dL_law_161 : decode cL_law 161 = .ok (.iaload, 1) := by decide +kernel
theorem dL_law_162 : decode cL_law 162 = .ok (.aload_n 0, 1) := by decide +kernel
theorem dL_law_163 : decode cL_law 163 = .ok (.iload 4, 2) := by decide +kernel
theorem dL_law_165 : decode cL_law 165 = .ok (.iconst 3, 1) := by decide +kernel
theorem dL_law_166 : decode cL_law 166 = .ok (.iadd, 1) := by decide +kernel
theorem dL_law_167 : decode cL_law 167 = .ok (.iaload, 1) := by decide +kernel
theorem dL_law_168 : decode cL_law 168 = .ok (.invokevirtual 24, 3) := by decide +kernel
theorem dL_law_171 : decode cL_law 171 = .ok (.aload_n 2, 1) := by decide +kernel
theorem dL_law_172 : decode cL_law 172 = .ok (.aload_n 0, 1) := by decide +kernel
theorem dL_law_173 : decode cL_law 173 = .ok (.iload 4, 2) := by decide +kernel
theorem dL_law_175 : decode cL_law 175 = .ok (.iconst 1, 1) := by decide +kernel
theorem dL_law_176 : decode cL_law 176 = .ok (.iadd, 1) := by decide +kernel
theorem dL_law_177 : decode cL_law 177 = .ok (.iaload, 1) := by decide +kernel
theorem dL_law_178 : decode cL_law 178 = .ok (.aload_n 0, 1) := by decide +kernel
theorem dL_law_179 : decode cL_law 179 = .ok (.iload 4, 2) := by decide +kernel
theorem dL_law_181 : decode cL_law 181 = .ok (.iconst 2, 1) := by decide +kernel
theorem dL_law_182 : decode cL_law 182 = .ok (.iadd, 1) := by decide +kernel
theorem dL_law_183 : decode cL_law 183 = .ok (.iaload, 1) := by decide +kernel
theorem dL_law_184 : decode cL_law 184 = .ok (.aload_n 0, 1) := by decide +kernel
theorem dL_law_185 : decode cL_law 185 = .ok (.iload 4, 2) := by decide +kernel
theorem dL_law_187 : decode cL_law 187 = .ok (.iconst 3, 1) := by decide +kernel
theorem dL_law_188 : decode cL_law 188 = .ok (.iadd, 1) := by decide +kernel
theorem dL_law_189 : decode cL_law 189 = .ok (.iaload, 1) := by decide +kernel
theorem dL_law_190 : decode cL_law 190 = .ok (.invokevirtual 28, 3) := by decide +kernel
theorem dL_law_193 : decode cL_law 193 = .ok (.if_icmp .eq 628, 3) := by decide +kernel
theorem dL_law_196 : decode cL_law 196 = .ok (.iconst 0, 1) := by decide +kernel
theorem dL_law_197 : decode cL_law 197 = .ok (.ireturn, 1) := by decide +kernel
theorem dL_law_198 : decode cL_law 198 = .ok (.aload_n 1, 1) := by decide +kernel
theorem dL_law_199 : decode cL_law 199 = .ok (.aload_n 0, 1) := by decide +kernel
theorem dL_law_200 : decode cL_law 200 = .ok (.iload 4, 2) := by decide +kernel
theorem dL_law_202 : decode cL_law 202 = .ok (.iconst 1, 1) := by decide +kernel
theorem dL_law_203 : decode cL_law 203 = .ok (.iadd, 1) := by decide +kernel
theorem dL_law_204 : decode cL_law 204 = .ok (.iaload, 1) := by decide +kernel
theorem dL_law_205 : decode cL_law 205 = .ok (.aload_n 0, 1) := by decide +kernel
theorem dL_law_206 : decode cL_law 206 = .ok (.iload 4, 2) := by decide +kernel
theorem dL_law_208 : decode cL_law 208 = .ok (.iconst 2, 1) := by decide +kernel
theorem dL_law_209 : decode cL_law 209 = .ok (.iadd, 1) := by decide +kernel
theorem dL_law_210 : decode cL_law 210 = .ok (.iaload, 1) := by decide +kernel
theorem dL_law_211 : decode cL_law 211 = .ok (.aload_n 3, 1) := by decide +kernel
theorem dL_law_212 : decode cL_law 212 = .ok (.invokestatic 29, 3) := by decide +kernel
theorem dL_law_215 : decode cL_law 215 = .ok (.istore 5, 2) := by decide +kernel
theorem dL_law_217 : decode cL_law 217 = .ok (.aload_n 2, 1) := by decide +kernel
theorem dL_law_218 : decode cL_law 218 = .ok (.aload_n 0, 1) := by decide +kernel
theorem dL_law_219 : decode cL_law 219 = .ok (.iload 4, 2) := by decide +kernel
theorem dL_law_221 : decode cL_law 221 = .ok (.iconst 1, 1) := by decide +kernel
theorem dL_law_222 : decode cL_law 222 = .ok (.iadd, 1) := by decide +kernel
theorem dL_law_223 : decode cL_law 223 = .ok (.iaload, 1) := by decide +kernel
theorem dL_law_224 : decode cL_law 224 = .ok (.aload_n 0, 1) := by decide +kernel
theorem dL_law_225 : decode cL_law 225 = .ok (.iload 4, 2) := by decide +kernel
theorem dL_law_227 : decode cL_law 227 = .ok (.iconst 2, 1) := by decide +kernel
theorem dL_law_228 : decode cL_law 228 = .ok (.iadd, 1) := by decide +kernel
theorem dL_law_229 : decode cL_law 229 = .ok (.iaload, 1) := by decide +kernel
theorem dL_law_230 : decode cL_law 230 = .ok (.invokevirtual 34, 3) := by decide +kernel
theorem dL_law_233 : decode cL_law 233 = .ok (.istore 6, 2) := by decide +kernel
theorem dL_law_235 : decode cL_law 235 = .ok (.aload_n 2, 1) := by decide +kernel
theorem dL_law_236 : decode cL_law 236 = .ok (.invokevirtual 35, 3) := by decide +kernel
theorem dL_law_239 : decode cL_law 239 = .ok (.iload 5, 2) := by decide +kernel
theorem dL_law_241 : decode cL_law 241 = .ok (.if_icmp .eq 5, 3) := by decide +kernel
theorem dL_law_244 : decode cL_law 244 = .ok (.iconst 0, 1) := by decide +kernel
theorem dL_law_245 : decode cL_law 245 = .ok (.ireturn, 1) := by decide +kernel
theorem dL_law_246 : decode cL_law 246 = .ok (.iload 5, 2) := by decide +kernel
theorem dL_law_248 : decode cL_law 248 = .ok (.ifCond .ne 15, 3) := by decide +kernel
theorem dL_law_251 : decode cL_law 251 = .ok (.aload_n 3, 1) := by decide +kernel
theorem dL_law_252 : decode cL_law 252 = .ok (.iconst 0, 1) := by decide +kernel
theorem dL_law_253 : decode cL_law 253 = .ok (.laload, 1) := by decide +kernel
theorem dL_law_254 : decode cL_law 254 = .ok (.iload 6, 2) := by decide +kernel
theorem dL_law_256 : decode cL_law 256 = .ok (.i2l, 1) := by decide +kernel
theorem dL_law_257 : decode cL_law 257 = .ok (.lcmp, 1) := by decide +kernel
theorem dL_law_258 : decode cL_law 258 = .ok (.ifCond .eq 5, 3) := by decide +kernel
theorem dL_law_261 : decode cL_law 261 = .ok (.iconst 0, 1) := by decide +kernel
theorem dL_law_262 : decode cL_law 262 = .ok (.ireturn, 1) := by decide +kernel
theorem dL_law_263 : decode cL_law 263 = .ok (.goto 558, 3) := by decide +kernel
theorem dL_law_266 : decode cL_law 266 = .ok (.aload_n 1, 1) := by decide +kernel
theorem dL_law_267 : decode cL_law 267 = .ok (.aload_n 0, 1) := by decide +kernel
theorem dL_law_268 : decode cL_law 268 = .ok (.iload 4, 2) := by decide +kernel
theorem dL_law_270 : decode cL_law 270 = .ok (.iconst 1, 1) := by decide +kernel
theorem dL_law_271 : decode cL_law 271 = .ok (.iadd, 1) := by decide +kernel
theorem dL_law_272 : decode cL_law 272 = .ok (.iaload, 1) := by decide +kernel
theorem dL_law_273 : decode cL_law 273 = .ok (.aload_n 0, 1) := by decide +kernel
theorem dL_law_274 : decode cL_law 274 = .ok (.iload 4, 2) := by decide +kernel
theorem dL_law_276 : decode cL_law 276 = .ok (.iconst 2, 1) := by decide +kernel
theorem dL_law_277 : decode cL_law 277 = .ok (.iadd, 1) := by decide +kernel
theorem dL_law_278 : decode cL_law 278 = .ok (.iaload, 1) := by decide +kernel
theorem dL_law_279 : decode cL_law 279 = .ok (.invokevirtual 39, 3) := by decide +kernel
theorem dL_law_282 : decode cL_law 282 = .ok (.aload_n 2, 1) := by decide +kernel
theorem dL_law_283 : decode cL_law 283 = .ok (.aload_n 0, 1) := by decide +kernel
theorem dL_law_284 : decode cL_law 284 = .ok (.iload 4, 2) := by decide +kernel
theorem dL_law_286 : decode cL_law 286 = .ok (.iconst 1, 1) := by decide +kernel
theorem dL_law_287 : decode cL_law 287 = .ok (.iadd, 1) := by decide +kernel
theorem dL_law_288 : decode cL_law 288 = .ok (.iaload, 1) := by decide +kernel
theorem dL_law_289 : decode cL_law 289 = .ok (.aload_n 0, 1) := by decide +kernel
theorem dL_law_290 : decode cL_law 290 = .ok (.iload 4, 2) := by decide +kernel
theorem dL_law_292 : decode cL_law 292 = .ok (.iconst 2, 1) := by decide +kernel
theorem dL_law_293 : decode cL_law 293 = .ok (.iadd, 1) := by decide +kernel
theorem dL_law_294 : decode cL_law 294 = .ok (.iaload, 1) := by decide +kernel
theorem dL_law_295 : decode cL_law 295 = .ok (.invokevirtual 42, 3) := by decide +kernel
theorem dL_law_298 : decode cL_law 298 = .ok (.if_icmp .eq 523, 3) := by decide +kernel
theorem dL_law_301 : decode cL_law 301 = .ok (.iconst 0, 1) := by decide +kernel
theorem dL_law_302 : decode cL_law 302 = .ok (.ireturn, 1) := by decide +kernel
theorem dL_law_303 : decode cL_law 303 = .ok (.aload_n 1, 1) := by decide +kernel
theorem dL_law_304 : decode cL_law 304 = .ok (.aload_n 0, 1) := by decide +kernel
theorem dL_law_305 : decode cL_law 305 = .ok (.iload 4, 2) := by decide +kernel
theorem dL_law_307 : decode cL_law 307 = .ok (.iconst 1, 1) := by decide +kernel
theorem dL_law_308 : decode cL_law 308 = .ok (.iadd, 1) := by decide +kernel
theorem dL_law_309 : decode cL_law 309 = .ok (.iaload, 1) := by decide +kernel
theorem dL_law_310 : decode cL_law 310 = .ok (.aload_n 0, 1) := by decide +kernel
theorem dL_law_311 : decode cL_law 311 = .ok (.iload 4, 2) := by decide +kernel
theorem dL_law_313 : decode cL_law 313 = .ok (.iconst 2, 1) := by decide +kernel
theorem dL_law_314 : decode cL_law 314 = .ok (.iadd, 1) := by decide +kernel
theorem dL_law_315 : decode cL_law 315 = .ok (.iaload, 1) := by decide +kernel
theorem dL_law_316 : decode cL_law 316 = .ok (.aload_n 0, 1) := by decide +kernel
theorem dL_law_317 : decode cL_law 317 = .ok (.iload 4, 2) := by decide +kernel
theorem dL_law_319 : decode cL_law 319 = .ok (.iconst 3, 1) := by decide +kernel
theorem dL_law_320 : decode cL_law 320 = .ok (.iadd, 1) := by decide +kernel
theorem dL_law_321 : decode cL_law 321 = .ok (.iaload, 1) := by decide +kernel
theorem dL_law_322 : decode cL_law 322 = .ok (.invokevirtual 43, 3) := by decide +kernel
theorem dL_law_325 : decode cL_law 325 = .ok (.aload_n 2, 1) := by decide +kernel
theorem dL_law_326 : decode cL_law 326 = .ok (.aload_n 0, 1) := by decide +kernel
theorem dL_law_327 : decode cL_law 327 = .ok (.iload 4, 2) := by decide +kernel
theorem dL_law_329 : decode cL_law 329 = .ok (.iconst 1, 1) := by decide +kernel
theorem dL_law_330 : decode cL_law 330 = .ok (.iadd, 1) := by decide +kernel
theorem dL_law_331 : decode cL_law 331 = .ok (.iaload, 1) := by decide +kernel
theorem dL_law_332 : decode cL_law 332 = .ok (.aload_n 0, 1) := by decide +kernel
theorem dL_law_333 : decode cL_law 333 = .ok (.iload 4, 2) := by decide +kernel
theorem dL_law_335 : decode cL_law 335 = .ok (.iconst 2, 1) := by decide +kernel
theorem dL_law_336 : decode cL_law 336 = .ok (.iadd, 1) := by decide +kernel
theorem dL_law_337 : decode cL_law 337 = .ok (.iaload, 1) := by decide +kernel
theorem dL_law_338 : decode cL_law 338 = .ok (.aload_n 0, 1) := by decide +kernel
theorem dL_law_339 : decode cL_law 339 = .ok (.iload 4, 2) := by decide +kernel
theorem dL_law_341 : decode cL_law 341 = .ok (.iconst 3, 1) := by decide +kernel
theorem dL_law_342 : decode cL_law 342 = .ok (.iadd, 1) := by decide +kernel
theorem dL_law_343 : decode cL_law 343 = .ok (.iaload, 1) := by decide +kernel
theorem dL_law_344 : decode cL_law 344 = .ok (.invokevirtual 46, 3) := by decide +kernel
theorem dL_law_347 : decode cL_law 347 = .ok (.if_icmp .eq 474, 3) := by decide +kernel
theorem dL_law_350 : decode cL_law 350 = .ok (.iconst 0, 1) := by decide +kernel
theorem dL_law_351 : decode cL_law 351 = .ok (.ireturn, 1) := by decide +kernel
theorem dL_law_352 : decode cL_law 352 = .ok (.aload_n 1, 1) := by decide +kernel
theorem dL_law_353 : decode cL_law 353 = .ok (.aload_n 0, 1) := by decide +kernel
theorem dL_law_354 : decode cL_law 354 = .ok (.iload 4, 2) := by decide +kernel
theorem dL_law_356 : decode cL_law 356 = .ok (.iconst 1, 1) := by decide +kernel
theorem dL_law_357 : decode cL_law 357 = .ok (.iadd, 1) := by decide +kernel
theorem dL_law_358 : decode cL_law 358 = .ok (.iaload, 1) := by decide +kernel
theorem dL_law_359 : decode cL_law 359 = .ok (.invokevirtual 47, 3) := by decide +kernel
theorem dL_law_362 : decode cL_law 362 = .ok (.aload_n 2, 1) := by decide +kernel
theorem dL_law_363 : decode cL_law 363 = .ok (.aload_n 0, 1) := by decide +kernel
theorem dL_law_364 : decode cL_law 364 = .ok (.iload 4, 2) := by decide +kernel
theorem dL_law_366 : decode cL_law 366 = .ok (.iconst 1, 1) := by decide +kernel
theorem dL_law_367 : decode cL_law 367 = .ok (.iadd, 1) := by decide +kernel
theorem dL_law_368 : decode cL_law 368 = .ok (.iaload, 1) := by decide +kernel
theorem dL_law_369 : decode cL_law 369 = .ok (.invokevirtual 50, 3) := by decide +kernel
theorem dL_law_372 : decode cL_law 372 = .ok (.if_icmp .eq 449, 3) := by decide +kernel
theorem dL_law_375 : decode cL_law 375 = .ok (.iconst 0, 1) := by decide +kernel
theorem dL_law_376 : decode cL_law 376 = .ok (.ireturn, 1) := by decide +kernel
theorem dL_law_377 : decode cL_law 377 = .ok (.aload_n 1, 1) := by decide +kernel
theorem dL_law_378 : decode cL_law 378 = .ok (.aload_n 0, 1) := by decide +kernel
theorem dL_law_379 : decode cL_law 379 = .ok (.iload 4, 2) := by decide +kernel
theorem dL_law_381 : decode cL_law 381 = .ok (.iconst 1, 1) := by decide +kernel
theorem dL_law_382 : decode cL_law 382 = .ok (.iadd, 1) := by decide +kernel
theorem dL_law_383 : decode cL_law 383 = .ok (.iaload, 1) := by decide +kernel
theorem dL_law_384 : decode cL_law 384 = .ok (.invokevirtual 51, 3) := by decide +kernel
theorem dL_law_387 : decode cL_law 387 = .ok (.aload_n 2, 1) := by decide +kernel
theorem dL_law_388 : decode cL_law 388 = .ok (.aload_n 0, 1) := by decide +kernel
theorem dL_law_389 : decode cL_law 389 = .ok (.iload 4, 2) := by decide +kernel
theorem dL_law_391 : decode cL_law 391 = .ok (.iconst 1, 1) := by decide +kernel
theorem dL_law_392 : decode cL_law 392 = .ok (.iadd, 1) := by decide +kernel
theorem dL_law_393 : decode cL_law 393 = .ok (.iaload, 1) := by decide +kernel
theorem dL_law_394 : decode cL_law 394 = .ok (.invokevirtual 54, 3) := by decide +kernel
theorem dL_law_397 : decode cL_law 397 = .ok (.if_icmp .eq 424, 3) := by decide +kernel
theorem dL_law_400 : decode cL_law 400 = .ok (.iconst 0, 1) := by decide +kernel
theorem dL_law_401 : decode cL_law 401 = .ok (.ireturn, 1) := by decide +kernel
theorem dL_law_402 : decode cL_law 402 = .ok (.aload_n 1, 1) := by decide +kernel
theorem dL_law_403 : decode cL_law 403 = .ok (.aload_n 0, 1) := by decide +kernel
theorem dL_law_404 : decode cL_law 404 = .ok (.iload 4, 2) := by decide +kernel
theorem dL_law_406 : decode cL_law 406 = .ok (.iconst 1, 1) := by decide +kernel
theorem dL_law_407 : decode cL_law 407 = .ok (.iadd, 1) := by decide +kernel
theorem dL_law_408 : decode cL_law 408 = .ok (.iaload, 1) := by decide +kernel
theorem dL_law_409 : decode cL_law 409 = .ok (.aload_n 0, 1) := by decide +kernel
theorem dL_law_410 : decode cL_law 410 = .ok (.iload 4, 2) := by decide +kernel
theorem dL_law_412 : decode cL_law 412 = .ok (.iconst 2, 1) := by decide +kernel
theorem dL_law_413 : decode cL_law 413 = .ok (.iadd, 1) := by decide +kernel
theorem dL_law_414 : decode cL_law 414 = .ok (.iaload, 1) := by decide +kernel
theorem dL_law_415 : decode cL_law 415 = .ok (.aload_n 0, 1) := by decide +kernel
theorem dL_law_416 : decode cL_law 416 = .ok (.iload 4, 2) := by decide +kernel
theorem dL_law_418 : decode cL_law 418 = .ok (.iconst 3, 1) := by decide +kernel
theorem dL_law_419 : decode cL_law 419 = .ok (.iadd, 1) := by decide +kernel
theorem dL_law_420 : decode cL_law 420 = .ok (.iaload, 1) := by decide +kernel
theorem dL_law_421 : decode cL_law 421 = .ok (.invokevirtual 55, 3) := by decide +kernel
theorem dL_law_424 : decode cL_law 424 = .ok (.aload_n 2, 1) := by decide +kernel
theorem dL_law_425 : decode cL_law 425 = .ok (.aload_n 0, 1) := by decide +kernel
theorem dL_law_426 : decode cL_law 426 = .ok (.iload 4, 2) := by decide +kernel
theorem dL_law_428 : decode cL_law 428 = .ok (.iconst 1, 1) := by decide +kernel
theorem dL_law_429 : decode cL_law 429 = .ok (.iadd, 1) := by decide +kernel
theorem dL_law_430 : decode cL_law 430 = .ok (.iaload, 1) := by decide +kernel
theorem dL_law_431 : decode cL_law 431 = .ok (.aload_n 0, 1) := by decide +kernel
theorem dL_law_432 : decode cL_law 432 = .ok (.iload 4, 2) := by decide +kernel
theorem dL_law_434 : decode cL_law 434 = .ok (.iconst 2, 1) := by decide +kernel
theorem dL_law_435 : decode cL_law 435 = .ok (.iadd, 1) := by decide +kernel
theorem dL_law_436 : decode cL_law 436 = .ok (.iaload, 1) := by decide +kernel
theorem dL_law_437 : decode cL_law 437 = .ok (.aload_n 0, 1) := by decide +kernel
theorem dL_law_438 : decode cL_law 438 = .ok (.iload 4, 2) := by decide +kernel
theorem dL_law_440 : decode cL_law 440 = .ok (.iconst 3, 1) := by decide +kernel
theorem dL_law_441 : decode cL_law 441 = .ok (.iadd, 1) := by decide +kernel
theorem dL_law_442 : decode cL_law 442 = .ok (.iaload, 1) := by decide +kernel
theorem dL_law_443 : decode cL_law 443 = .ok (.invokevirtual 58, 3) := by decide +kernel
theorem dL_law_446 : decode cL_law 446 = .ok (.if_icmp .eq 375, 3) := by decide +kernel
theorem dL_law_449 : decode cL_law 449 = .ok (.iconst 0, 1) := by decide +kernel
theorem dL_law_450 : decode cL_law 450 = .ok (.ireturn, 1) := by decide +kernel
theorem dL_law_451 : decode cL_law 451 = .ok (.aload_n 1, 1) := by decide +kernel
theorem dL_law_452 : decode cL_law 452 = .ok (.aload_n 0, 1) := by decide +kernel
theorem dL_law_453 : decode cL_law 453 = .ok (.iload 4, 2) := by decide +kernel
theorem dL_law_455 : decode cL_law 455 = .ok (.iconst 1, 1) := by decide +kernel
theorem dL_law_456 : decode cL_law 456 = .ok (.iadd, 1) := by decide +kernel
theorem dL_law_457 : decode cL_law 457 = .ok (.iaload, 1) := by decide +kernel
theorem dL_law_458 : decode cL_law 458 = .ok (.aload_n 0, 1) := by decide +kernel
theorem dL_law_459 : decode cL_law 459 = .ok (.iload 4, 2) := by decide +kernel
theorem dL_law_461 : decode cL_law 461 = .ok (.iconst 2, 1) := by decide +kernel
theorem dL_law_462 : decode cL_law 462 = .ok (.iadd, 1) := by decide +kernel
theorem dL_law_463 : decode cL_law 463 = .ok (.iaload, 1) := by decide +kernel
theorem dL_law_464 : decode cL_law 464 = .ok (.aload_n 0, 1) := by decide +kernel
theorem dL_law_465 : decode cL_law 465 = .ok (.iload 4, 2) := by decide +kernel
theorem dL_law_467 : decode cL_law 467 = .ok (.iconst 3, 1) := by decide +kernel
theorem dL_law_468 : decode cL_law 468 = .ok (.iadd, 1) := by decide +kernel
theorem dL_law_469 : decode cL_law 469 = .ok (.iaload, 1) := by decide +kernel
theorem dL_law_470 : decode cL_law 470 = .ok (.invokevirtual 59, 3) := by decide +kernel
theorem dL_law_473 : decode cL_law 473 = .ok (.aload_n 2, 1) := by decide +kernel
theorem dL_law_474 : decode cL_law 474 = .ok (.aload_n 0, 1) := by decide +kernel
theorem dL_law_475 : decode cL_law 475 = .ok (.iload 4, 2) := by decide +kernel
theorem dL_law_477 : decode cL_law 477 = .ok (.iconst 1, 1) := by decide +kernel
theorem dL_law_478 : decode cL_law 478 = .ok (.iadd, 1) := by decide +kernel
theorem dL_law_479 : decode cL_law 479 = .ok (.iaload, 1) := by decide +kernel
theorem dL_law_480 : decode cL_law 480 = .ok (.aload_n 0, 1) := by decide +kernel
theorem dL_law_481 : decode cL_law 481 = .ok (.iload 4, 2) := by decide +kernel
theorem dL_law_483 : decode cL_law 483 = .ok (.iconst 2, 1) := by decide +kernel
theorem dL_law_484 : decode cL_law 484 = .ok (.iadd, 1) := by decide +kernel
theorem dL_law_485 : decode cL_law 485 = .ok (.iaload, 1) := by decide +kernel
theorem dL_law_486 : decode cL_law 486 = .ok (.aload_n 0, 1) := by decide +kernel
theorem dL_law_487 : decode cL_law 487 = .ok (.iload 4, 2) := by decide +kernel
theorem dL_law_489 : decode cL_law 489 = .ok (.iconst 3, 1) := by decide +kernel
theorem dL_law_490 : decode cL_law 490 = .ok (.iadd, 1) := by decide +kernel
theorem dL_law_491 : decode cL_law 491 = .ok (.iaload, 1) := by decide +kernel
theorem dL_law_492 : decode cL_law 492 = .ok (.invokevirtual 62, 3) := by decide +kernel
theorem dL_law_495 : decode cL_law 495 = .ok (.if_icmp .eq 326, 3) := by decide +kernel
theorem dL_law_498 : decode cL_law 498 = .ok (.iconst 0, 1) := by decide +kernel
theorem dL_law_499 : decode cL_law 499 = .ok (.ireturn, 1) := by decide +kernel
theorem dL_law_500 : decode cL_law 500 = .ok (.aload_n 1, 1) := by decide +kernel
theorem dL_law_501 : decode cL_law 501 = .ok (.invokevirtual 63, 3) := by decide +kernel
theorem dL_law_504 : decode cL_law 504 = .ok (.aload_n 2, 1) := by decide +kernel
theorem dL_law_505 : decode cL_law 505 = .ok (.invokevirtual 66, 3) := by decide +kernel
theorem dL_law_508 : decode cL_law 508 = .ok (.if_icmp .eq 313, 3) := by decide +kernel
theorem dL_law_511 : decode cL_law 511 = .ok (.iconst 0, 1) := by decide +kernel
theorem dL_law_512 : decode cL_law 512 = .ok (.ireturn, 1) := by decide +kernel
theorem dL_law_513 : decode cL_law 513 = .ok (.aload_n 1, 1) := by decide +kernel
theorem dL_law_514 : decode cL_law 514 = .ok (.aload_n 0, 1) := by decide +kernel
theorem dL_law_515 : decode cL_law 515 = .ok (.iload 4, 2) := by decide +kernel
theorem dL_law_517 : decode cL_law 517 = .ok (.iconst 1, 1) := by decide +kernel
theorem dL_law_518 : decode cL_law 518 = .ok (.iadd, 1) := by decide +kernel
theorem dL_law_519 : decode cL_law 519 = .ok (.iaload, 1) := by decide +kernel
theorem dL_law_520 : decode cL_law 520 = .ok (.aload_n 0, 1) := by decide +kernel
theorem dL_law_521 : decode cL_law 521 = .ok (.iload 4, 2) := by decide +kernel
theorem dL_law_523 : decode cL_law 523 = .ok (.iconst 2, 1) := by decide +kernel
theorem dL_law_524 : decode cL_law 524 = .ok (.iadd, 1) := by decide +kernel
theorem dL_law_525 : decode cL_law 525 = .ok (.iaload, 1) := by decide +kernel
theorem dL_law_526 : decode cL_law 526 = .ok (.invokevirtual 67, 3) := by decide +kernel
theorem dL_law_529 : decode cL_law 529 = .ok (.aload_n 2, 1) := by decide +kernel
theorem dL_law_530 : decode cL_law 530 = .ok (.aload_n 0, 1) := by decide +kernel
theorem dL_law_531 : decode cL_law 531 = .ok (.iload 4, 2) := by decide +kernel
theorem dL_law_533 : decode cL_law 533 = .ok (.iconst 1, 1) := by decide +kernel
theorem dL_law_534 : decode cL_law 534 = .ok (.iadd, 1) := by decide +kernel
theorem dL_law_535 : decode cL_law 535 = .ok (.iaload, 1) := by decide +kernel
theorem dL_law_536 : decode cL_law 536 = .ok (.aload_n 0, 1) := by decide +kernel
theorem dL_law_537 : decode cL_law 537 = .ok (.iload 4, 2) := by decide +kernel
theorem dL_law_539 : decode cL_law 539 = .ok (.iconst 2, 1) := by decide +kernel
theorem dL_law_540 : decode cL_law 540 = .ok (.iadd, 1) := by decide +kernel
theorem dL_law_541 : decode cL_law 541 = .ok (.iaload, 1) := by decide +kernel
theorem dL_law_542 : decode cL_law 542 = .ok (.invokevirtual 70, 3) := by decide +kernel
theorem dL_law_545 : decode cL_law 545 = .ok (.if_icmp .eq 276, 3) := by decide +kernel
theorem dL_law_548 : decode cL_law 548 = .ok (.iconst 0, 1) := by decide +kernel
theorem dL_law_549 : decode cL_law 549 = .ok (.ireturn, 1) := by decide +kernel
theorem dL_law_550 : decode cL_law 550 = .ok (.aload_n 1, 1) := by decide +kernel
theorem dL_law_551 : decode cL_law 551 = .ok (.aload_n 0, 1) := by decide +kernel
theorem dL_law_552 : decode cL_law 552 = .ok (.iload 4, 2) := by decide +kernel
theorem dL_law_554 : decode cL_law 554 = .ok (.iconst 1, 1) := by decide +kernel
theorem dL_law_555 : decode cL_law 555 = .ok (.iadd, 1) := by decide +kernel
theorem dL_law_556 : decode cL_law 556 = .ok (.iaload, 1) := by decide +kernel
theorem dL_law_557 : decode cL_law 557 = .ok (.aload_n 0, 1) := by decide +kernel
theorem dL_law_558 : decode cL_law 558 = .ok (.iload 4, 2) := by decide +kernel
theorem dL_law_560 : decode cL_law 560 = .ok (.iconst 2, 1) := by decide +kernel
theorem dL_law_561 : decode cL_law 561 = .ok (.iadd, 1) := by decide +kernel
theorem dL_law_562 : decode cL_law 562 = .ok (.iaload, 1) := by decide +kernel
theorem dL_law_563 : decode cL_law 563 = .ok (.aload_n 0, 1) := by decide +kernel
theorem dL_law_564 : decode cL_law 564 = .ok (.iload 4, 2) := by decide +kernel
theorem dL_law_566 : decode cL_law 566 = .ok (.iconst 3, 1) := by decide +kernel
theorem dL_law_567 : decode cL_law 567 = .ok (.iadd, 1) := by decide +kernel
theorem dL_law_568 : decode cL_law 568 = .ok (.iaload, 1) := by decide +kernel
theorem dL_law_569 : decode cL_law 569 = .ok (.invokevirtual 71, 3) := by decide +kernel
theorem dL_law_572 : decode cL_law 572 = .ok (.aload_n 2, 1) := by decide +kernel
theorem dL_law_573 : decode cL_law 573 = .ok (.aload_n 0, 1) := by decide +kernel
theorem dL_law_574 : decode cL_law 574 = .ok (.iload 4, 2) := by decide +kernel
theorem dL_law_576 : decode cL_law 576 = .ok (.iconst 1, 1) := by decide +kernel
theorem dL_law_577 : decode cL_law 577 = .ok (.iadd, 1) := by decide +kernel
theorem dL_law_578 : decode cL_law 578 = .ok (.iaload, 1) := by decide +kernel
theorem dL_law_579 : decode cL_law 579 = .ok (.aload_n 0, 1) := by decide +kernel
theorem dL_law_580 : decode cL_law 580 = .ok (.iload 4, 2) := by decide +kernel
theorem dL_law_582 : decode cL_law 582 = .ok (.iconst 2, 1) := by decide +kernel
theorem dL_law_583 : decode cL_law 583 = .ok (.iadd, 1) := by decide +kernel
theorem dL_law_584 : decode cL_law 584 = .ok (.iaload, 1) := by decide +kernel
theorem dL_law_585 : decode cL_law 585 = .ok (.aload_n 0, 1) := by decide +kernel
theorem dL_law_586 : decode cL_law 586 = .ok (.iload 4, 2) := by decide +kernel
theorem dL_law_588 : decode cL_law 588 = .ok (.iconst 3, 1) := by decide +kernel
theorem dL_law_589 : decode cL_law 589 = .ok (.iadd, 1) := by decide +kernel
theorem dL_law_590 : decode cL_law 590 = .ok (.iaload, 1) := by decide +kernel
theorem dL_law_591 : decode cL_law 591 = .ok (.invokevirtual 74, 3) := by decide +kernel
theorem dL_law_594 : decode cL_law 594 = .ok (.if_icmp .eq 227, 3) := by decide +kernel
theorem dL_law_597 : decode cL_law 597 = .ok (.iconst 0, 1) := by decide +kernel
theorem dL_law_598 : decode cL_law 598 = .ok (.ireturn, 1) := by decide +kernel
theorem dL_law_599 : decode cL_law 599 = .ok (.aload_n 1, 1) := by decide +kernel
theorem dL_law_600 : decode cL_law 600 = .ok (.aload_n 0, 1) := by decide +kernel
theorem dL_law_601 : decode cL_law 601 = .ok (.iload 4, 2) := by decide +kernel
theorem dL_law_603 : decode cL_law 603 = .ok (.iconst 1, 1) := by decide +kernel
theorem dL_law_604 : decode cL_law 604 = .ok (.iadd, 1) := by decide +kernel
theorem dL_law_605 : decode cL_law 605 = .ok (.iaload, 1) := by decide +kernel
theorem dL_law_606 : decode cL_law 606 = .ok (.aload_n 0, 1) := by decide +kernel
theorem dL_law_607 : decode cL_law 607 = .ok (.iload 4, 2) := by decide +kernel
theorem dL_law_609 : decode cL_law 609 = .ok (.iconst 2, 1) := by decide +kernel
theorem dL_law_610 : decode cL_law 610 = .ok (.iadd, 1) := by decide +kernel
theorem dL_law_611 : decode cL_law 611 = .ok (.iaload, 1) := by decide +kernel
theorem dL_law_612 : decode cL_law 612 = .ok (.invokevirtual 75, 3) := by decide +kernel
theorem dL_law_615 : decode cL_law 615 = .ok (.aload_n 2, 1) := by decide +kernel
theorem dL_law_616 : decode cL_law 616 = .ok (.aload_n 0, 1) := by decide +kernel
theorem dL_law_617 : decode cL_law 617 = .ok (.iload 4, 2) := by decide +kernel
theorem dL_law_619 : decode cL_law 619 = .ok (.iconst 1, 1) := by decide +kernel
theorem dL_law_620 : decode cL_law 620 = .ok (.iadd, 1) := by decide +kernel
theorem dL_law_621 : decode cL_law 621 = .ok (.iaload, 1) := by decide +kernel
theorem dL_law_622 : decode cL_law 622 = .ok (.aload_n 0, 1) := by decide +kernel
theorem dL_law_623 : decode cL_law 623 = .ok (.iload 4, 2) := by decide +kernel
theorem dL_law_625 : decode cL_law 625 = .ok (.iconst 2, 1) := by decide +kernel
theorem dL_law_626 : decode cL_law 626 = .ok (.iadd, 1) := by decide +kernel
theorem dL_law_627 : decode cL_law 627 = .ok (.iaload, 1) := by decide +kernel
theorem dL_law_628 : decode cL_law 628 = .ok (.invokevirtual 78, 3) := by decide +kernel
theorem dL_law_631 : decode cL_law 631 = .ok (.if_icmp .eq 190, 3) := by decide +kernel
theorem dL_law_634 : decode cL_law 634 = .ok (.iconst 0, 1) := by decide +kernel
theorem dL_law_635 : decode cL_law 635 = .ok (.ireturn, 1) := by decide +kernel
theorem dL_law_636 : decode cL_law 636 = .ok (.aload_n 1, 1) := by decide +kernel
theorem dL_law_637 : decode cL_law 637 = .ok (.aload_n 0, 1) := by decide +kernel
theorem dL_law_638 : decode cL_law 638 = .ok (.iload 4, 2) := by decide +kernel
theorem dL_law_640 : decode cL_law 640 = .ok (.iconst 1, 1) := by decide +kernel
theorem dL_law_641 : decode cL_law 641 = .ok (.iadd, 1) := by decide +kernel
theorem dL_law_642 : decode cL_law 642 = .ok (.iaload, 1) := by decide +kernel
theorem dL_law_643 : decode cL_law 643 = .ok (.aload_n 0, 1) := by decide +kernel
theorem dL_law_644 : decode cL_law 644 = .ok (.iload 4, 2) := by decide +kernel
theorem dL_law_646 : decode cL_law 646 = .ok (.iconst 2, 1) := by decide +kernel
theorem dL_law_647 : decode cL_law 647 = .ok (.iadd, 1) := by decide +kernel
theorem dL_law_648 : decode cL_law 648 = .ok (.iaload, 1) := by decide +kernel
theorem dL_law_649 : decode cL_law 649 = .ok (.aload_n 0, 1) := by decide +kernel
theorem dL_law_650 : decode cL_law 650 = .ok (.iload 4, 2) := by decide +kernel
theorem dL_law_652 : decode cL_law 652 = .ok (.iconst 3, 1) := by decide +kernel
theorem dL_law_653 : decode cL_law 653 = .ok (.iadd, 1) := by decide +kernel
theorem dL_law_654 : decode cL_law 654 = .ok (.iaload, 1) := by decide +kernel
theorem dL_law_655 : decode cL_law 655 = .ok (.invokevirtual 79, 3) := by decide +kernel
theorem dL_law_658 : decode cL_law 658 = .ok (.aload_n 2, 1) := by decide +kernel
theorem dL_law_659 : decode cL_law 659 = .ok (.aload_n 0, 1) := by decide +kernel
theorem dL_law_660 : decode cL_law 660 = .ok (.iload 4, 2) := by decide +kernel
theorem dL_law_662 : decode cL_law 662 = .ok (.iconst 1, 1) := by decide +kernel
theorem dL_law_663 : decode cL_law 663 = .ok (.iadd, 1) := by decide +kernel
theorem dL_law_664 : decode cL_law 664 = .ok (.iaload, 1) := by decide +kernel
theorem dL_law_665 : decode cL_law 665 = .ok (.aload_n 0, 1) := by decide +kernel
theorem dL_law_666 : decode cL_law 666 = .ok (.iload 4, 2) := by decide +kernel
theorem dL_law_668 : decode cL_law 668 = .ok (.iconst 2, 1) := by decide +kernel
theorem dL_law_669 : decode cL_law 669 = .ok (.iadd, 1) := by decide +kernel
theorem dL_law_670 : decode cL_law 670 = .ok (.iaload, 1) := by decide +kernel
theorem dL_law_671 : decode cL_law 671 = .ok (.aload_n 0, 1) := by decide +kernel
theorem dL_law_672 : decode cL_law 672 = .ok (.iload 4, 2) := by decide +kernel
theorem dL_law_674 : decode cL_law 674 = .ok (.iconst 3, 1) := by decide +kernel
theorem dL_law_675 : decode cL_law 675 = .ok (.iadd, 1) := by decide +kernel
theorem dL_law_676 : decode cL_law 676 = .ok (.iaload, 1) := by decide +kernel
theorem dL_law_677 : decode cL_law 677 = .ok (.invokevirtual 82, 3) := by decide +kernel
theorem dL_law_680 : decode cL_law 680 = .ok (.if_icmp .eq 141, 3) := by decide +kernel
theorem dL_law_683 : decode cL_law 683 = .ok (.iconst 0, 1) := by decide +kernel
theorem dL_law_684 : decode cL_law 684 = .ok (.ireturn, 1) := by decide +kernel
theorem dL_law_685 : decode cL_law 685 = .ok (.aload_n 1, 1) := by decide +kernel
theorem dL_law_686 : decode cL_law 686 = .ok (.aload_n 0, 1) := by decide +kernel
theorem dL_law_687 : decode cL_law 687 = .ok (.iload 4, 2) := by decide +kernel
theorem dL_law_689 : decode cL_law 689 = .ok (.iconst 1, 1) := by decide +kernel
theorem dL_law_690 : decode cL_law 690 = .ok (.iadd, 1) := by decide +kernel
theorem dL_law_691 : decode cL_law 691 = .ok (.iaload, 1) := by decide +kernel
theorem dL_law_692 : decode cL_law 692 = .ok (.aload_n 0, 1) := by decide +kernel
theorem dL_law_693 : decode cL_law 693 = .ok (.iload 4, 2) := by decide +kernel
theorem dL_law_695 : decode cL_law 695 = .ok (.iconst 2, 1) := by decide +kernel
theorem dL_law_696 : decode cL_law 696 = .ok (.iadd, 1) := by decide +kernel
theorem dL_law_697 : decode cL_law 697 = .ok (.iaload, 1) := by decide +kernel
theorem dL_law_698 : decode cL_law 698 = .ok (.invokevirtual 83, 3) := by decide +kernel
theorem dL_law_701 : decode cL_law 701 = .ok (.aload_n 2, 1) := by decide +kernel
theorem dL_law_702 : decode cL_law 702 = .ok (.aload_n 0, 1) := by decide +kernel
theorem dL_law_703 : decode cL_law 703 = .ok (.iload 4, 2) := by decide +kernel
theorem dL_law_705 : decode cL_law 705 = .ok (.iconst 1, 1) := by decide +kernel
theorem dL_law_706 : decode cL_law 706 = .ok (.iadd, 1) := by decide +kernel
theorem dL_law_707 : decode cL_law 707 = .ok (.iaload, 1) := by decide +kernel
theorem dL_law_708 : decode cL_law 708 = .ok (.aload_n 0, 1) := by decide +kernel
theorem dL_law_709 : decode cL_law 709 = .ok (.iload 4, 2) := by decide +kernel
theorem dL_law_711 : decode cL_law 711 = .ok (.iconst 2, 1) := by decide +kernel
theorem dL_law_712 : decode cL_law 712 = .ok (.iadd, 1) := by decide +kernel
theorem dL_law_713 : decode cL_law 713 = .ok (.iaload, 1) := by decide +kernel
theorem dL_law_714 : decode cL_law 714 = .ok (.invokevirtual 87, 3) := by decide +kernel
theorem dL_law_717 : decode cL_law 717 = .ok (.if_icmp .eq 104, 3) := by decide +kernel
theorem dL_law_720 : decode cL_law 720 = .ok (.iconst 0, 1) := by decide +kernel
theorem dL_law_721 : decode cL_law 721 = .ok (.ireturn, 1) := by decide +kernel
theorem dL_law_722 : decode cL_law 722 = .ok (.aload_n 1, 1) := by decide +kernel
theorem dL_law_723 : decode cL_law 723 = .ok (.aload_n 0, 1) := by decide +kernel
theorem dL_law_724 : decode cL_law 724 = .ok (.iload 4, 2) := by decide +kernel
theorem dL_law_726 : decode cL_law 726 = .ok (.iconst 1, 1) := by decide +kernel
theorem dL_law_727 : decode cL_law 727 = .ok (.iadd, 1) := by decide +kernel
theorem dL_law_728 : decode cL_law 728 = .ok (.iaload, 1) := by decide +kernel
theorem dL_law_729 : decode cL_law 729 = .ok (.aload_n 0, 1) := by decide +kernel
theorem dL_law_730 : decode cL_law 730 = .ok (.iload 4, 2) := by decide +kernel
theorem dL_law_732 : decode cL_law 732 = .ok (.iconst 2, 1) := by decide +kernel
theorem dL_law_733 : decode cL_law 733 = .ok (.iadd, 1) := by decide +kernel
theorem dL_law_734 : decode cL_law 734 = .ok (.iaload, 1) := by decide +kernel
theorem dL_law_735 : decode cL_law 735 = .ok (.invokevirtual 88, 3) := by decide +kernel
theorem dL_law_738 : decode cL_law 738 = .ok (.aload_n 2, 1) := by decide +kernel
theorem dL_law_739 : decode cL_law 739 = .ok (.aload_n 0, 1) := by decide +kernel
theorem dL_law_740 : decode cL_law 740 = .ok (.iload 4, 2) := by decide +kernel
theorem dL_law_742 : decode cL_law 742 = .ok (.iconst 1, 1) := by decide +kernel
theorem dL_law_743 : decode cL_law 743 = .ok (.iadd, 1) := by decide +kernel
theorem dL_law_744 : decode cL_law 744 = .ok (.iaload, 1) := by decide +kernel
theorem dL_law_745 : decode cL_law 745 = .ok (.aload_n 0, 1) := by decide +kernel
theorem dL_law_746 : decode cL_law 746 = .ok (.iload 4, 2) := by decide +kernel
theorem dL_law_748 : decode cL_law 748 = .ok (.iconst 2, 1) := by decide +kernel
theorem dL_law_749 : decode cL_law 749 = .ok (.iadd, 1) := by decide +kernel
theorem dL_law_750 : decode cL_law 750 = .ok (.iaload, 1) := by decide +kernel
theorem dL_law_751 : decode cL_law 751 = .ok (.invokevirtual 92, 3) := by decide +kernel
theorem dL_law_754 : decode cL_law 754 = .ok (.if_icmp .eq 67, 3) := by decide +kernel
theorem dL_law_757 : decode cL_law 757 = .ok (.iconst 0, 1) := by decide +kernel
theorem dL_law_758 : decode cL_law 758 = .ok (.ireturn, 1) := by decide +kernel
theorem dL_law_759 : decode cL_law 759 = .ok (.aload_n 1, 1) := by decide +kernel
theorem dL_law_760 : decode cL_law 760 = .ok (.aload_n 0, 1) := by decide +kernel
theorem dL_law_761 : decode cL_law 761 = .ok (.iload 4, 2) := by decide +kernel
theorem dL_law_763 : decode cL_law 763 = .ok (.iconst 1, 1) := by decide +kernel
theorem dL_law_764 : decode cL_law 764 = .ok (.iadd, 1) := by decide +kernel
theorem dL_law_765 : decode cL_law 765 = .ok (.iaload, 1) := by decide +kernel
theorem dL_law_766 : decode cL_law 766 = .ok (.invokevirtual 93, 3) := by decide +kernel
theorem dL_law_769 : decode cL_law 769 = .ok (.aload_n 2, 1) := by decide +kernel
theorem dL_law_770 : decode cL_law 770 = .ok (.aload_n 0, 1) := by decide +kernel
theorem dL_law_771 : decode cL_law 771 = .ok (.iload 4, 2) := by decide +kernel
theorem dL_law_773 : decode cL_law 773 = .ok (.iconst 1, 1) := by decide +kernel
theorem dL_law_774 : decode cL_law 774 = .ok (.iadd, 1) := by decide +kernel
theorem dL_law_775 : decode cL_law 775 = .ok (.iaload, 1) := by decide +kernel
theorem dL_law_776 : decode cL_law 776 = .ok (.invokevirtual 96, 3) := by decide +kernel
theorem dL_law_779 : decode cL_law 779 = .ok (.if_icmp .eq 42, 3) := by decide +kernel
theorem dL_law_782 : decode cL_law 782 = .ok (.iconst 0, 1) := by decide +kernel
theorem dL_law_783 : decode cL_law 783 = .ok (.ireturn, 1) := by decide +kernel
theorem dL_law_784 : decode cL_law 784 = .ok (.aload_n 1, 1) := by decide +kernel
theorem dL_law_785 : decode cL_law 785 = .ok (.aload_n 0, 1) := by decide +kernel
theorem dL_law_786 : decode cL_law 786 = .ok (.iload 4, 2) := by decide +kernel
theorem dL_law_788 : decode cL_law 788 = .ok (.iconst 1, 1) := by decide +kernel
theorem dL_law_789 : decode cL_law 789 = .ok (.iadd, 1) := by decide +kernel
theorem dL_law_790 : decode cL_law 790 = .ok (.iaload, 1) := by decide +kernel
theorem dL_law_791 : decode cL_law 791 = .ok (.aload_n 0, 1) := by decide +kernel
theorem dL_law_792 : decode cL_law 792 = .ok (.iload 4, 2) := by decide +kernel
theorem dL_law_794 : decode cL_law 794 = .ok (.iconst 2, 1) := by decide +kernel
theorem dL_law_795 : decode cL_law 795 = .ok (.iadd, 1) := by decide +kernel
theorem dL_law_796 : decode cL_law 796 = .ok (.iaload, 1) := by decide +kernel
theorem dL_law_797 : decode cL_law 797 = .ok (.invokevirtual 97, 3) := by decide +kernel
theorem dL_law_800 : decode cL_law 800 = .ok (.aload_n 2, 1) := by decide +kernel
theorem dL_law_801 : decode cL_law 801 = .ok (.aload_n 0, 1) := by decide +kernel
theorem dL_law_802 : decode cL_law 802 = .ok (.iload 4, 2) := by decide +kernel
theorem dL_law_804 : decode cL_law 804 = .ok (.iconst 1, 1) := by decide +kernel
theorem dL_law_805 : decode cL_law 805 = .ok (.iadd, 1) := by decide +kernel
theorem dL_law_806 : decode cL_law 806 = .ok (.iaload, 1) := by decide +kernel
theorem dL_law_807 : decode cL_law 807 = .ok (.aload_n 0, 1) := by decide +kernel
theorem dL_law_808 : decode cL_law 808 = .ok (.iload 4, 2) := by decide +kernel
theorem dL_law_810 : decode cL_law 810 = .ok (.iconst 2, 1) := by decide +kernel
theorem dL_law_811 : decode cL_law 811 = .ok (.iadd, 1) := by decide +kernel
theorem dL_law_812 : decode cL_law 812 = .ok (.iaload, 1) := by decide +kernel
theorem dL_law_813 : decode cL_law 813 = .ok (.invokevirtual 100, 3) := by decide +kernel
theorem dL_law_816 : decode cL_law 816 = .ok (.if_icmp .eq 5, 3) := by decide +kernel
theorem dL_law_819 : decode cL_law 819 = .ok (.iconst 0, 1) := by decide +kernel
theorem dL_law_820 : decode cL_law 820 = .ok (.ireturn, 1) := by decide +kernel
theorem dL_law_821 : decode cL_law 821 = .ok (.iinc 4 4, 3) := by decide +kernel
theorem dL_law_824 : decode cL_law 824 = .ok (.goto (-801), 3) := by decide +kernel
theorem dL_law_827 : decode cL_law 827 = .ok (.iconst 1, 1) := by decide +kernel
theorem dL_law_828 : decode cL_law 828 = .ok (.ireturn, 1) := by decide +kernel
end
section
/-! WORLDS BY ADDRESS: a partial map M from addresses to what stands there; a change is a change of the map at one address; calls hand the map on. -/
abbrev mw : Type := Nat → Option va_E
def mw_P (D : va_G) (cl : List vw_C) (M : mw) (H : Heap) : Prop := ∀ (a : Nat) (e : va_E), M a = some e → va_at D cl (a, e) H
def mw_I (A : Nat → Prop) (M : mw) : Prop := ∀ (a : Nat) (e : va_E), M a = some e → A a
def mw_Q (A : Nat → Prop) (D : va_G) (cl : List vw_C) (M : mw) (H : Heap) : Prop := mw_P D cl M H ∧ mw_I A M
def mw_up (M : mw) (a : Nat) (e : va_E) : mw := fun x => if x = a then some e else M x
theorem mw_up_s {M : mw} {a : Nat} {e : va_E} : mw_up M a e a = some e := if_pos rfl
theorem mw_up_n {M : mw} {a x : Nat} {e : va_E} (h : x ≠ a) : mw_up M a e x = M x := if_neg h
theorem mw_up_up {M : mw} {a : Nat} {e e2 : va_E} : mw_up (mw_up M a e) a e2 = mw_up M a e2 := by
  funext x
  by_cases h : x = a
  · rw [h, mw_up_s, mw_up_s]
  · rw [mw_up_n h, mw_up_n h, mw_up_n h]
theorem mw_up_id {M : mw} {a : Nat} {e : va_E} (h : M a = some e) : mw_up M a e = M := by
  funext x
  by_cases hx : x = a
  · rw [hx, mw_up_s, h]
  · rw [mw_up_n hx]
theorem mw_ne {M : mw} {a b : Nat} {e : va_E} (ha : M a = none) (hb : M b = some e) : b ≠ a := fun h => by rw [h, ha] at hb; cases hb
/-- which cells a method may change: those of its map, and new ones -/
def mw_A (M : mw) (sz : Nat) : Nat → Prop := fun q => (∃ e, M q = some e) ∨ sz ≤ q
theorem mw_P.lt {D : va_G} {cl : List vw_C} {M : mw} {H : Heap} (h : mw_P D cl M H) {a : Nat} {e : va_E} (ha : M a = some e) : a < H.size := (h a e ha).lt
theorem mw_P.one {D : va_G} {cl : List vw_C} {M : mw} {H : Heap} (h : mw_P D cl M H) {a : Nat} {e : va_E} (ha : M a = some e) : va_P D cl [(a, e)] H := by
  intro k q hk
  cases k with
  | zero => cases hk; exact h a e ha
  | succ k => simp at hk
theorem mw_P.kept {D : va_G} {cl : List vw_C} {M : mw} {H H1 : Heap} (h : mw_P D cl M H) (hq : ∀ (a : Nat) (e : va_E), M a = some e → H1[a]? = H[a]?) : mw_P D cl M H1 := fun a e ha => (h a e ha).kept (hq a e ha)
theorem mw_Q.set {A : Nat → Prop} {D : va_G} {cl : List vw_C} {M : mw} {H H1 : Heap} {a : Nat} {e0 e : va_E} (h : mw_Q A D cl M H) (ha : M a = some e0) (he : va_at D cl (a, e) H1) (oq : ∀ q : Nat, q ≠ a → H1[q]? = H[q]?) : mw_Q A D cl (mw_up M a e) H1 := by
  refine ⟨fun x ex hx => ?_, fun x ex hx => ?_⟩
  · by_cases hxa : x = a
    · subst hxa
      rw [mw_up_s] at hx
      cases hx
      exact he
    · rw [mw_up_n hxa] at hx
      exact (h.1 x ex hx).kept (oq x hxa)
  · by_cases hxa : x = a
    · subst hxa
      exact h.2 x e0 ha
    · rw [mw_up_n hxa] at hx
      exact h.2 x ex hx
theorem mw_Q.push {A : Nat → Prop} {D : va_G} {cl : List vw_C} {M : mw} {H H1 : Heap} {e : va_E} (h : mw_Q A D cl M H) (hA : A H.size) (he : va_at D cl (H.size, e) H1) (oq : ∀ q : Nat, q < H.size → H1[q]? = H[q]?) : mw_Q A D cl (mw_up M H.size e) H1 := by
  refine ⟨fun x ex hx => ?_, fun x ex hx => ?_⟩
  · by_cases hxa : x = H.size
    · subst hxa
      rw [mw_up_s] at hx
      cases hx
      exact he
    · rw [mw_up_n hxa] at hx
      exact (h.1 x ex hx).kept (oq x (h.1.lt hx))
  · by_cases hxa : x = H.size
    · subst hxa
      exact hA
    · rw [mw_up_n hxa] at hx
      exact h.2 x ex hx
theorem mw_fresh {D : va_G} {cl : List vw_C} {M : mw} {H : Heap} (h : mw_P D cl M H) : M H.size = none := by
  cases hM : M H.size with
  | none => rfl
  | some e => exact absurd (h.lt hM) (Nat.lt_irrefl _)
theorem mw_A.le {A : Nat → Prop} {D : va_G} {cl : List vw_C} {M : mw} {H H0 : Heap} {locs : List Loc} (h : mw_Q A D cl M H) (hS : va_S A H0 H locs) (hA : ∀ q, H0.size ≤ q → A q) : ∀ q, mw_A M H.size q → A q := by
  intro q hq
  rcases hq with ⟨e, he⟩ | hq
  · exact h.2 q e he
  · exact hA q (Nat.le_trans hS.1 hq)
theorem mw_I.self {M : mw} {sz : Nat} : mw_I (mw_A M sz) M := fun _ e h => Or.inl ⟨e, h⟩
/-- what holds all through a method: the machine, the code, the words, its class, the tables -/
def mw_E (p : Program) (c : Code) (cc : ByteArray) (s : State) (args : Array Value) (Ts : List Cond) (own : String) (m : MethodId) (D : va_G) (cl : List vw_C) (tys : List (ClassId × FieldType)) : Prop :=
  p.tables.exec = Jvm.exec ∧ c.code = cc ∧ (∀ w ∈ Ts, w.before args s = true) ∧ s.vm.findClass own = some m.cls ∧ va_K D cl tys s
section MW
variable {p : Program} {l : Launch} {e : Env} {R : Room} {s : State} {m : MethodId} {args : Array Value} {below : List Frame} {meth : Method} {c : Code} {H : Heap} {locs : List Loc} {cells slots : Nat} {Q : State → Prop}
variable {cc : ByteArray} {pc : Nat} {ls : Array Slot} {rest : List Value} {D : va_G} {cl : List vw_C} {A : Nat → Prop} {a : Nat} {tys : List (ClassId × FieldType)} {M : mw} {H0 : Heap} {Ts : List Cond} {own : String}
theorem mw_get (hE : mw_E p c cc s args Ts own m D cl tys) {ref C : String} {T : u_T} {N ci index : Nat} (hin : ∀ w ∈ u_ws C T N, w ∈ Ts) (hP : mw_Q A D cl M H) {fs : List Value} (he : M a = some (.inr (ci, fs))) (hc : cl[ci]? = some (C, T, N)) (k : Nat) (hk : k < N) (hlink : (Cond.fieldLink own index ref (T k).2.1 (T k).2.2.1).before args s = true) (href : (T k).1 = ref) {v : Value} (hv : fs[k]? = some v) (hdg : decode cc pc = .ok (.getfield index, 3))
    (kk : W p l e R s m args below meth c H locs cells slots Q (F0 m (pc + 3) ls (v :: rest))) : W p l e R s m args below meth c H locs cells slots Q (F0 m pc ls (.ref a :: rest)) :=
  va_get hE.1 hE.2.1 hE.2.2.1 hin hE.2.2.2.1 hE.2.2.2.2 (hP.1.one he) 0 rfl hc k hk hlink (fun x h => by rw [← href]; exact h) hv hdg kk
theorem mw_put (hE : mw_E p c cc s args Ts own m D cl tys) {ref C : String} {T : u_T} {N ci index : Nat} (hin : ∀ w ∈ u_ws C T N, w ∈ Ts) (ty0 : Nat → FieldType) (hty : ∀ k, k < N → parseFieldDescriptor (T k).2.2.1 = some (ty0 k)) (hnm : ∀ a, a < N → ∀ b, b < N → a ≠ b → (T a).2.1 ≠ (T b).2.1) (hP : mw_Q A D cl M H) (hS0 : va_S A H0 H locs) {fs : List Value} (he : M a = some (.inr (ci, fs))) (hc : cl[ci]? = some (C, T, N)) (k : Nat) (hk : k < N) (hlink : (Cond.fieldLink own index ref (T k).2.1 (T k).2.2.1).before args s = true) (href : (T k).1 = ref) (hfin : (T k).2.2.2 = false) {ty : FieldType} {v : Value} (hd : parseFieldDescriptor (T k).2.2.1 = some ty) (hn : narrow ty v = v) (hfit : fits ty v = true) (hl : k < fs.length)
    (hdg : decode cc pc = .ok (.putfield index, 3)) (kk : ∀ (H1 : Heap) (locs1 : List Loc), mw_Q A D cl (mw_up M a (.inr (ci, fs.set k v))) H1 → va_S A H0 H1 locs1 → W p l e R s m args below meth c H1 locs1 cells slots Q (F0 m (pc + 3) ls rest)) : W p l e R s m args below meth c H locs cells slots Q (F0 m pc ls (v :: .ref a :: rest)) := by
  obtain ⟨hexec, hb, hts, hown, hK⟩ := hE
  have hap := va_apart (own := own) hts hin ty0 hty hnm hK hc
  obtain ⟨r, h1, cell, q1, q2, q3, q4⟩ := hP.1 a _ he
  have hr : r = (C, T, N) := Option.some.inj (h1.symm.trans hc)
  subst hr
  obtain ⟨hS, hfc, kC, hkC, hkind⟩ := hK.1 ci _ hc
  obtain ⟨cf, kf, fi, f, hi, hsl⟩ := hS k hk
  have hlay := hts _ (hin _ (u_in_lay hk))
  unfold u_lay at hlay
  rw [if_neg (by rw [hfin]; decide)] at hlay
  have hst := (u_facts hfc hkC (u_lays hts hin hk) hi).1
  have h6 := u_store hfc hkC hkind hlay hi hd hn hfit
  have hi2 := hi
  rw [href] at hi2
  refine W.putK hexec hb (f := f) ⟨hown, hlink, ⟨_, _, _, hi2⟩, hst⟩ (by rw [q2]; exact h6) q1 q3 (by rw [hsl]; exact k2_hasslot (q4 k hk)) rfl rfl hdg fun H' e1 e2 e3 => ?_
  rw [hsl] at e1 ⊢
  exact kk H' _ (hP.set he ⟨_, hc, t_OB.to (V := updV (vp_V fs) k v) ⟨_, e1, q2, q3, t_set q4 hap hk v⟩ (fun j _ => vp_updV_set hl v j)⟩ e3) (hS0.put e2 e3 (hP.2 a _ he))
theorem mw_putF (hE : mw_E p c cc s args Ts own m D cl tys) {ref C : String} {T : u_T} {N ci index : Nat} (hin : ∀ w ∈ u_ws C T N, w ∈ Ts) (ty0 : Nat → FieldType) (hty : ∀ k, k < N → parseFieldDescriptor (T k).2.2.1 = some (ty0 k)) (hnm : ∀ a, a < N → ∀ b, b < N → a ≠ b → (T a).2.1 ≠ (T b).2.1) (hP : mw_Q A D cl M H) (hS0 : va_S A H0 H locs) {fs : List Value} (he : M a = some (.inr (ci, fs))) (hc : cl[ci]? = some (C, T, N)) (k : Nat) (hk : k < N) (hlink : (Cond.fieldLink own index ref (T k).2.1 (T k).2.2.1).before args s = true) (href : (T k).1 = ref) (hfin : (T k).2.2.2 = true) (hin2 : meth.name = "<init>") (hdecl : (T k).1 = own) {ty : FieldType} {v : Value} (hd : parseFieldDescriptor (T k).2.2.1 = some ty) (hn : narrow ty v = v) (hfit : fits ty v = true) (hl : k < fs.length)
    (hdg : decode cc pc = .ok (.putfield index, 3)) (kk : ∀ (H1 : Heap) (locs1 : List Loc), mw_Q A D cl (mw_up M a (.inr (ci, fs.set k v))) H1 → va_S A H0 H1 locs1 → W p l e R s m args below meth c H1 locs1 cells slots Q (F0 m (pc + 3) ls rest)) : W p l e R s m args below meth c H locs cells slots Q (F0 m pc ls (v :: .ref a :: rest)) := by
  obtain ⟨hexec, hb, hts, hown, hK⟩ := hE
  have hap := va_apart (own := own) hts hin ty0 hty hnm hK hc
  obtain ⟨r, h1, cell, q1, q2, q3, q4⟩ := hP.1 a _ he
  have hr : r = (C, T, N) := Option.some.inj (h1.symm.trans hc)
  subst hr
  obtain ⟨hS, hfc, kC, hkC, hkind⟩ := hK.1 ci _ hc
  obtain ⟨cf, kf, fi, f, hi, hsl⟩ := hS k hk
  have hlay := hts _ (hin _ (u_in_lay hk))
  unfold u_lay at hlay
  rw [if_pos hfin] at hlay
  have hst := (u_facts hfc hkC (u_lays hts hin hk) hi).1
  have hcf : m.cls = cf := by
    obtain ⟨_, _, c', _, _, _, -, -, hf', -, -, -, hown2, -⟩ := Cond.laysFinal_spec hlay
    have e1 : c' = cf := by have := hi.symm.trans hf'; simp at this; exact this.1.symm
    rw [hdecl] at hown2
    rw [← e1]; exact Option.some.inj (hown.symm.trans hown2)
  have h6 := u_fits hfc hkC hkind (Or.inr hlay) hi hd hn hfit
  have hi2 := hi
  rw [href] at hi2
  refine W.putFinK hexec hb hown hlink hi2 hst hcf hin2 (by rw [q2]; exact h6) q1 q3 (by rw [hsl]; exact k2_hasslot (q4 k hk)) rfl rfl hdg fun H' e1 e2 e3 => ?_
  rw [hsl] at e1 ⊢
  exact kk H' _ (hP.set he ⟨_, hc, t_OB.to (V := updV (vp_V fs) k v) ⟨_, e1, q2, q3, t_set q4 hap hk v⟩ (fun j _ => vp_updV_set hl v j)⟩ e3) (hS0.put e2 e3 (hP.2 a _ he))
theorem mw_iald (hE : mw_E p c cc s args Ts own m D cl tys) (hP : mw_Q A D cl M H) (t0 : Nat) {cA : ClassId} {n : Nat} {f : Nat → Int32} (ha : M a = some (.inl (cA, n, .inl f))) (ht : tys[t0]? = some (cA, .int)) {i : Int32} (hin : vp_in i n) (hdg : decode cc pc = .ok (.iaload, 1))
    (kk : W p l e R s m args below meth c H locs cells slots Q (F0 m (pc + 1) ls (.int (f i.toNatClampNeg) :: rest))) : W p l e R s m args below meth c H locs cells slots Q (F0 m pc ls (.int i :: .ref a :: rest)) :=
  va_iald hE.1 hE.2.1 hE.2.2.2.2 (hP.1.one ha) 0 t0 rfl ht hin hdg kk
theorem mw_bald (hE : mw_E p c cc s args Ts own m D cl tys) (hP : mw_Q A D cl M H) (t0 : Nat) {cA : ClassId} {n : Nat} {f : Nat → Int32} (ha : M a = some (.inl (cA, n, .inl f))) (ht : tys[t0]? = some (cA, .byte)) {i : Int32} (hin : vp_in i n) (hdg : decode cc pc = .ok (.baload, 1))
    (kk : W p l e R s m args below meth c H locs cells slots Q (F0 m (pc + 1) ls (.int (f i.toNatClampNeg) :: rest))) : W p l e R s m args below meth c H locs cells slots Q (F0 m pc ls (.int i :: .ref a :: rest)) :=
  va_bald hE.1 hE.2.1 hE.2.2.2.2 (hP.1.one ha) 0 t0 rfl ht hin hdg kk
theorem mw_zald (hE : mw_E p c cc s args Ts own m D cl tys) (hP : mw_Q A D cl M H) (t0 : Nat) {cA : ClassId} {n : Nat} {f : Nat → Int32} (ha : M a = some (.inl (cA, n, .inl f))) (ht : tys[t0]? = some (cA, .boolean)) {i : Int32} (hin : vp_in i n) (hdg : decode cc pc = .ok (.baload, 1))
    (kk : W p l e R s m args below meth c H locs cells slots Q (F0 m (pc + 1) ls (.int (f i.toNatClampNeg) :: rest))) : W p l e R s m args below meth c H locs cells slots Q (F0 m pc ls (.int i :: .ref a :: rest)) :=
  va_zald hE.1 hE.2.1 hE.2.2.2.2 (hP.1.one ha) 0 t0 rfl ht hin hdg kk
theorem mw_aald (hE : mw_E p c cc s args Ts own m D cl tys) (hP : mw_Q A D cl M H) (t0 : Nat) {cA : ClassId} {C : String} {n : Nat} {f : Nat → Option Nat} (ha : M a = some (.inl (cA, n, .inr (.inr (.inr (.inr f)))))) (ht : tys[t0]? = some (cA, .object C)) {i : Int32} (hin : vp_in i n) (hdg : decode cc pc = .ok (.aaload, 1))
    (kk : W p l e R s m args below meth c H locs cells slots Q (F0 m (pc + 1) ls (va_rf (f i.toNatClampNeg) :: rest))) : W p l e R s m args below meth c H locs cells slots Q (F0 m pc ls (.int i :: .ref a :: rest)) :=
  va_aldq hE.1 hE.2.1 hE.2.2.2.2 (hP.1.one ha) 0 t0 rfl ht hin hdg kk
theorem mw_alen (hE : mw_E p c cc s args Ts own m D cl tys) (hP : mw_Q A D cl M H) (t0 : Nat) {cA : ClassId} {x : vp_A} (ha : M a = some (.inl (cA, x))) {ty : FieldType} (ht : tys[t0]? = some (cA, ty)) {v : Int32} (hv : Int32.ofNat x.1 = v) (hdg : decode cc pc = .ok (.arraylength, 1))
    (kk : W p l e R s m args below meth c H locs cells slots Q (F0 m (pc + 1) ls (.int v :: rest))) : W p l e R s m args below meth c H locs cells slots Q (F0 m pc ls (.ref a :: rest)) :=
  va_alen hE.1 hE.2.1 hE.2.2.2.2 (hP.1.one ha) 0 t0 rfl ht hv hdg kk
theorem mw_iast (hE : mw_E p c cc s args Ts own m D cl tys) (hP : mw_Q A D cl M H) (hS : va_S A H0 H locs) (t0 : Nat) {cA : ClassId} {n : Nat} {f : Nat → Int32} (ha : M a = some (.inl (cA, n, .inl f))) (ht : tys[t0]? = some (cA, .int)) {i : Int32} {x : Int32} (hin : vp_in i n) (hdg : decode cc pc = .ok (.iastore, 1))
    (kk : ∀ (H1 : Heap) (locs1 : List Loc), mw_Q A D cl (mw_up M a (.inl (cA, n, .inl (upd f i.toNatClampNeg x)))) H1 → va_S A H0 H1 locs1 → W p l e R s m args below meth c H1 locs1 cells slots Q (F0 m (pc + 1) ls rest)) : W p l e R s m args below meth c H locs cells slots Q (F0 m pc ls (.int x :: .int i :: .ref a :: rest)) := by
  obtain ⟨hexec, hb, -, -, hK⟩ := hE
  refine W.iast hexec hb (hP.1 a _ ha) ((hK.2 t0 _ ht).1 n (fun j => .int (f j))) (fun q => by cases q) (by show ¬ (i < 0 ∨ (arrV _ _ _).slots.size ≤ _); rw [arrV_size]; exact hin) rfl rfl hdg fun H1 e z oq => ?_
  refine kk H1 _ (hP.set ha ?_ oq) (hS.put z oq (hP.2 a _ ha))
  show H1[a]? = some (vp_cell _ _)
  rw [e, vp_cell_i, vp_cell_i, arrV_store]
  congr 2
  funext q
  by_cases hq : q = i.toNatClampNeg
  · subst hq
    simp [updV, upd]
    try rfl
  · simp [updV, upd, hq]
theorem mw_bast (hE : mw_E p c cc s args Ts own m D cl tys) (hP : mw_Q A D cl M H) (hS : va_S A H0 H locs) (t0 : Nat) {cA : ClassId} {n : Nat} {f : Nat → Int32} (ha : M a = some (.inl (cA, n, .inl f))) (ht : tys[t0]? = some (cA, .byte)) {i : Int32} {x : Int32} (hin : vp_in i n) (hdg : decode cc pc = .ok (.bastore, 1))
    (kk : ∀ (H1 : Heap) (locs1 : List Loc), mw_Q A D cl (mw_up M a (.inl (cA, n, .inl (upd f i.toNatClampNeg (vp_nar .byte x))))) H1 → va_S A H0 H1 locs1 → W p l e R s m args below meth c H1 locs1 cells slots Q (F0 m (pc + 1) ls rest)) : W p l e R s m args below meth c H locs cells slots Q (F0 m pc ls (.int x :: .int i :: .ref a :: rest)) := by
  obtain ⟨hexec, hb, -, -, hK⟩ := hE
  refine W.bast hexec hb (hP.1 a _ ha) ((hK.2 t0 _ ht).1 n (fun j => .int (f j))) (fun q => by cases q) (by show ¬ (i < 0 ∨ (arrV _ _ _).slots.size ≤ _); rw [arrV_size]; exact hin) rfl rfl hdg fun H1 e z oq => ?_
  refine kk H1 _ (hP.set ha ?_ oq) (hS.put z oq (hP.2 a _ ha))
  show H1[a]? = some (vp_cell _ _)
  rw [e, vp_cell_i, vp_cell_i, arrV_store]
  congr 2
  funext q
  by_cases hq : q = i.toNatClampNeg
  · subst hq
    simp [updV, upd, vp_nar]
    try rfl
  · simp [updV, upd, hq]
theorem mw_zast (hE : mw_E p c cc s args Ts own m D cl tys) (hP : mw_Q A D cl M H) (hS : va_S A H0 H locs) (t0 : Nat) {cA : ClassId} {n : Nat} {f : Nat → Int32} (ha : M a = some (.inl (cA, n, .inl f))) (ht : tys[t0]? = some (cA, .boolean)) {i : Int32} {x : Int32} (hin : vp_in i n) (hdg : decode cc pc = .ok (.bastore, 1))
    (kk : ∀ (H1 : Heap) (locs1 : List Loc), mw_Q A D cl (mw_up M a (.inl (cA, n, .inl (upd f i.toNatClampNeg (vp_nar .boolean x))))) H1 → va_S A H0 H1 locs1 → W p l e R s m args below meth c H1 locs1 cells slots Q (F0 m (pc + 1) ls rest)) : W p l e R s m args below meth c H locs cells slots Q (F0 m pc ls (.int x :: .int i :: .ref a :: rest)) := by
  obtain ⟨hexec, hb, -, -, hK⟩ := hE
  refine W.zast hexec hb (hP.1 a _ ha) ((hK.2 t0 _ ht).1 n (fun j => .int (f j))) (fun q => by cases q) (by show ¬ (i < 0 ∨ (arrV _ _ _).slots.size ≤ _); rw [arrV_size]; exact hin) rfl rfl hdg fun H1 e z oq => ?_
  refine kk H1 _ (hP.set ha ?_ oq) (hS.put z oq (hP.2 a _ ha))
  show H1[a]? = some (vp_cell _ _)
  rw [e, vp_cell_i, vp_cell_i, arrV_store]
  congr 2
  funext q
  by_cases hq : q = i.toNatClampNeg
  · subst hq
    simp [updV, upd, vp_nar]
    try rfl
  · simp [updV, upd, hq]
theorem mw_aast (hE : mw_E p c cc s args Ts own m D cl tys) (hP : mw_Q A D cl M H) (hS : va_S A H0 H locs) (t0 ci : Nat) {cA : ClassId} {r : vw_C} {n v : Nat} {vs : List Value} {f : Nat → Option Nat} (ha : M a = some (.inl (cA, n, .inr (.inr (.inr (.inr f)))))) (ht : tys[t0]? = some (cA, .object r.1)) (hv : M v = some (.inr (ci, vs))) (hc : cl[ci]? = some r) {i : Int32} (hin : vp_in i n) (hdg : decode cc pc = .ok (.aastore, 1))
    (kk : ∀ (H1 : Heap) (locs1 : List Loc), mw_Q A D cl (mw_up M a (.inl (cA, n, .inr (.inr (.inr (.inr (va_up f i.toNatClampNeg (some v)))))))) H1 → va_S A H0 H1 locs1 → W p l e R s m args below meth c H1 locs1 cells slots Q (F0 m (pc + 1) ls rest)) : W p l e R s m args below meth c H locs cells slots Q (F0 m pc ls (.ref v :: .int i :: .ref a :: rest)) := by
  obtain ⟨hexec, hb, -, -, hK⟩ := hE
  have hlt : i.toNatClampNeg < n := Nat.not_le.mp fun q => hin (Or.inr q)
  have h0 : ¬ i < 0 := fun q => hin (Or.inl q)
  obtain ⟨r', hr', cellV, g1, g2, g3, -⟩ := hP.1 v _ hv
  have hcls := (hK.1 ci r hc).2
  obtain ⟨kA, comp, k1, k2, k3, -⟩ := (hK.2 t0 _ ht).2
  have hcomp : comp = D.1 ci := Option.some.inj (k3.symm.trans hcls.1)
  subst hcomp
  obtain ⟨kC, hkC, -⟩ := hcls.2
  refine W.aast hexec hb (hP.1 a _ ha) (fun q h => by cases h) (fun h => by cases h) k1 k2 rfl hkC ⟨h0, by show _ < (arrV _ _ _).slots.size; rw [arrV_size]; exact hlt⟩ g1 (fun q h => by rw [g3] at h; cases h) (by rw [g2]; exact hkC) (by rw [g2]; exact va_assign hcls) rfl rfl hdg fun H1 e z oq => ?_
  refine kk H1 _ (hP.set ha ?_ oq) (hS.put z oq (hP.2 a _ ha))
  show H1[a]? = some (vp_cell _ _)
  rw [e, vp_cell_q, vp_cell_q, arrV_store]
  congr 2
  funext q
  by_cases hq : q = i.toNatClampNeg
  · subst hq
    simp [updV, va_up, va_rf]
  · simp [updV, va_up, hq]
/-- a new array of numbers: its class is the one that the tables' list has -/
theorem mw_newa (hE : mw_E p c cc s args Ts own m D cl tys) {atype : ArrayType} (harr : (Cond.arrayClass (newarray.typeOf atype)).before args s = true) {ty : FieldType} (hty : newarray.typeOf atype = ty) (hnm : ∀ (U : State) (cA : ClassId), va_RA U cA ty → U.vm.findClass ("[" ++ ty.toString) = some cA) (hP : mw_Q A D cl M H) (hS : va_S A H0 H locs) (hA : ∀ q, H0.size ≤ q → A q) (t0 : Nat) {cA : ClassId} (ht : tys[t0]? = some (cA, ty))
    {n : Int32} {N' : Nat} {a0 : vp_A} (ha : vp_cell cA a0 = arrV cA N' (fun _ => defaultValue ty)) (hn : ¬ n < 0) (hN : n.toNatClampNeg = N') (hbytes : N' * componentBytes ty ≤ 536870912) (hcells : cells + 1 ≤ R.cells) (hslots : slots + N' ≤ R.slots) (hdg : decode cc pc = .ok (.newarray atype, 2))
    (kk : ∀ (q : Nat) (H1 : Heap), M q = none → mw_Q A D cl (mw_up M q (.inl (cA, a0))) H1 → va_S A H0 H1 locs →
      W p l e R s m args below meth c H1 locs (cells + 1) (slots + N') Q (F0 m (pc + 2) ls (.ref q :: rest))) : W p l e R s m args below meth c H locs cells slots Q (F0 m pc ls (.int n :: rest)) := by
  obtain ⟨hexec, hb, -, -, hK⟩ := hE
  subst hty
  refine va_newaK hexec hb harr rfl hdg rfl hn hN hbytes hcells hslots rfl fun H1 cB e1 z1 o1 hAr hNm => ?_
  have hcc : cB = cA := Option.some.inj (hNm.symm.trans (hnm s cA (hK.2 t0 _ ht).2))
  subst hcc
  refine kk H.size H1 (mw_fresh hP.1) (hP.push (hA _ hS.1) ?_ o1) ⟨Nat.le_trans hS.1 (by omega), fun x h1 h2 => (o1 x (Nat.lt_of_lt_of_le h1 hS.1)).trans (hS.2.1 x h1 h2), hS.2.2⟩
  show H1[H.size]? = some (vp_cell _ _)
  rw [ha]
  exact e1
theorem mw_newq (hE : mw_E p c cc s args Ts own m D cl tys) {C : String} {index : Nat} (hclink : (Cond.classLink own index C).before args s = true) (hover : (Cond.arrayOver (.object C)).before args s = true) (hP : mw_Q A D cl M H) (hS : va_S A H0 H locs) (hA : ∀ q, H0.size ≤ q → A q) (t0 : Nat) {cA : ClassId} (ht : tys[t0]? = some (cA, .object C))
    {n : Int32} {N' : Nat} (hn : ¬ n < 0) (hN : n.toNatClampNeg = N') (hbytes : N' * 4 ≤ 536870912) (hcells : cells + 1 ≤ R.cells) (hslots : slots + N' ≤ R.slots) (hdg : decode cc pc = .ok (.anewarray index, 3))
    (kk : ∀ (q : Nat) (H1 : Heap), M q = none → mw_Q A D cl (mw_up M q (.inl (cA, N', .inr (.inr (.inr (.inr (fun _ => none))))))) H1 → va_S A H0 H1 locs →
      W p l e R s m args below meth c H1 locs (cells + 1) (slots + N') Q (F0 m (pc + 3) ls (.ref q :: rest))) : W p l e R s m args below meth c H locs cells slots Q (F0 m pc ls (.int n :: rest)) := by
  obtain ⟨hexec, hb, -, hown, hK⟩ := hE
  subst hN
  refine W.anew hexec hb hown hclink hover rfl hdg rfl hn hbytes hcells hslots fun cB kA comp f1 f2 f3 f4 => ?_
  obtain ⟨_, _, _, _, _, k4⟩ := (hK.2 t0 _ ht).2
  have hcc : cB = cA := Option.some.inj (f1.symm.trans k4)
  subst hcc
  generalize hH1 : H.push ({ cls := cB, slots := Array.replicate n.toNatClampNeg .null, vm := .none } : Cell) = H1
  have z1 : H1.size = H.size + 1 := by rw [← hH1, Array.size_push]
  have e1 : H1[H.size]? = some (arrV cB n.toNatClampNeg (fun _ => .null)) := by rw [← hH1, Array.getElem?_push_size, ← arrV_new]
  have o1 : ∀ q : Nat, q < H.size → H1[q]? = H[q]? := fun q hq => by rw [← hH1, Array.getElem?_push, if_neg (Nat.ne_of_lt hq)]
  refine kk H.size H1 (mw_fresh hP.1) (hP.push (hA _ hS.1) ?_ o1) ⟨Nat.le_trans hS.1 (by omega), fun x h1 h2 => (o1 x (Nat.lt_of_lt_of_le h1 hS.1)).trans (hS.2.1 x h1 h2), hS.2.2⟩
  show H1[H.size]? = some (vp_cell _ _)
  rw [vp_cell_q]
  exact e1
theorem mw_new (hE : mw_E p c cc s args Ts own m D cl tys) {C : String} {T : u_T} {N ci index : Nat} (hin : ∀ w ∈ u_ws C T N, w ∈ Ts) (ty : Nat → FieldType) (hty : ∀ k, k < N → parseFieldDescriptor (T k).2.2.1 = some (ty k)) (hcl : (Cond.classLink own index C).before args s = true) (hinst : (Cond.instantiable C N).before args s = true) (hini : (Cond.initialized C).before args s = true)
    (hP : mw_Q A D cl M H) (hS : va_S A H0 H locs) (hA : ∀ q, H0.size ≤ q → A q) (hc : cl[ci]? = some (C, T, N)) {fs : List Value} (hfs : ∀ j, j < N → defaultValue (ty j) = vp_V fs j) (hcells : cells + 1 ≤ R.cells) (hslots : slots + N ≤ R.slots) (hdg : decode cc pc = .ok (.new index, 3))
    (kk : ∀ (q : Nat) (H1 : Heap), M q = none → mw_Q A D cl (mw_up M q (.inr (ci, fs))) H1 → va_S A H0 H1 locs →
      W p l e R s m args below meth c H1 locs (cells + 1) (slots + N) Q (F0 m (pc + 3) ls (.ref q :: rest))) : W p l e R s m args below meth c H locs cells slots Q (F0 m pc ls rest) := by
  obtain ⟨hexec, hb, hts, hown, hK⟩ := hE
  have hKn := hK.1 ci _ hc
  refine W.newcK hexec hb hown hcl hinst hini rfl hdg hcells hslots hKn.2.1 rfl fun H1 kC hkC e1 z1 o1 => ?_
  refine kk H.size H1 (mw_fresh hP.1) (hP.push (hA _ hS.1) ?_ o1) ⟨Nat.le_trans hS.1 (by omega), fun x h1 h2 => (o1 x (Nat.lt_of_lt_of_le h1 hS.1)).trans (hS.2.1 x h1 h2), hS.2.2⟩
  exact ⟨_, hc, (u_born ty hts hin hKn hkC e1 hty).to hfs⟩
theorem mw_recv (hE : mw_E p c cc s args Ts own m D cl tys) (hP : mw_Q A D cl M H) {ci : Nat} {q : vw_C} {fs : List Value} (hc : cl[ci]? = some q) (he : M a = some (.inr (ci, fs))) : ∃ cell : Cell, H[a]? = some cell ∧ cell.vm.isStatics = false ∧ s.vm.findClass q.1 = some cell.cls :=
  va_recv hE.2.2.2.2 (hP.1.one he) hc (q0 := 0) rfl
end MW
/-- a contract's start and end over a map -/
def mw_U (D : va_G) (cl : List vw_C) (tys : List (ClassId × FieldType)) (M : mw) (sz : Nat) (U : State) : Prop := U.heap.size = sz ∧ mw_P D cl M U.heap ∧ va_K D cl tys U
def mw_B (D : va_G) (cl : List vw_C) (M : mw) (sz : Nat) (M1 : mw) (t : State) : Prop := mw_P D cl M1 t.heap ∧ mw_I (mw_A M sz) M1
theorem mw_blind {D : va_G} {cl : List vw_C} {tys : List (ClassId × FieldType)} {M : mw} {sz : Nat} {av : List Value} : FrameBlind (va_Pc av (mw_U D cl tys M sz)) := fun a U g mk q => by
  obtain ⟨q0, q1, qP, qK⟩ := q
  exact ⟨q0, q1, qP, va_K.moved (u := U) (U := U.calling g mk a) (Vm.Alike.refl U.vm) qK⟩
section MWC
variable {p : Program} {l : Launch} {e : Env} {R : Room} {s : State} {m : MethodId} {args : Array Value} {below : List Frame} {meth : Method} {c : Code} {H : Heap} {locs : List Loc} {cells slots mc ms : Nat} {Q : State → Prop}
variable {cc : ByteArray} {pc : Nat} {ls : Array Slot} {rest st0 : List Value} {D : va_G} {cl : List vw_C} {A : Nat → Prop} {a : Nat} {av : Array Value} {tys : List (ClassId × FieldType)} {M : mw} {H0 : Heap} {Ts : List Cond} {own : String}
theorem mw_preV (hE : mw_E p c cc s args Ts own m D cl tys) (hP : mw_Q A D cl M H) {ci : Nat} {C : String} {q : vw_C} {fs : List Value} (hc : cl[ci]? = some q) (hq : q.1 = C) (he : M a = some (.inr (ci, fs))) (As : List Value) : PreV s H C a (va_Pc (.ref a :: As) (mw_U D cl tys M H.size)) As := by
  subst hq
  exact ⟨mw_blind, mw_recv hE hP hc he, fun U hU hW => ⟨rfl, by rw [hU], by rw [hU]; exact hP.1, va_K.moved hW.alike hE.2.2.2.2⟩⟩
theorem mw_preS (hE : mw_E p c cc s args Ts own m D cl tys) (hP : mw_Q A D cl M H) (As : List Value) : PreS s H (va_Pc As (mw_U D cl tys M H.size)) As :=
  ⟨mw_blind, fun U hU hW => ⟨rfl, by rw [hU], by rw [hU]; exact hP.1, va_K.moved hW.alike hE.2.2.2.2⟩⟩
theorem mw_back (hP : mw_Q A D cl M H) (hS : va_S A H0 H locs) (hA : ∀ q, H0.size ≤ q → A q) {M1 : mw} {t : State} {H1 : Heap} (ht : t.heap = H1) (hB : mw_B D cl M H.size M1 t) : mw_Q A D cl M1 H1 := by
  subst ht
  exact ⟨hB.1, fun x ex hx => mw_A.le hP hS hA x (hB.2 x ex hx)⟩
theorem mw_calli {post : Int32 → mw → Prop} (hP : mw_Q A D cl M H) (hS : va_S A H0 H locs) (hA : ∀ q, H0.size ≤ q → A q) (hr : va_Run p l e R s m args below meth c H locs cells slots mc ms (F0 m pc ls st0) rest (va_Qi post (mw_B D cl M H.size) (mw_A M H.size) av) (mw_A M H.size))
    (kk : ∀ (r : Int32) (M1 : mw) (H1 : Heap) (locs1 : List Loc), post r M1 → mw_Q A D cl M1 H1 → va_S A H0 H1 locs1 → W p l e R s m args below meth c H1 locs1 (cells + mc) (slots + ms) Q (F0 m (pc + 3) ls (.int r :: rest))) : W p l e R s m args below meth c H locs cells slots Q (F0 m pc ls st0) :=
  va_calli hr hS (fun q _ h => mw_A.le hP hS hA q h) (mw_A.le hP hS hA) (fun r M1 _ H1 locs1 ht _ hp hB _ _ hS1 => kk r M1 H1 locs1 hp (mw_back hP hS hA ht hB) hS1)
theorem mw_callv {post : mw → Prop} (hP : mw_Q A D cl M H) (hS : va_S A H0 H locs) (hA : ∀ q, H0.size ≤ q → A q) (hr : va_Run p l e R s m args below meth c H locs cells slots mc ms (F0 m pc ls st0) rest (va_Qv post (mw_B D cl M H.size) (mw_A M H.size) av) (mw_A M H.size))
    (kk : ∀ (M1 : mw) (H1 : Heap) (locs1 : List Loc), post M1 → mw_Q A D cl M1 H1 → va_S A H0 H1 locs1 → W p l e R s m args below meth c H1 locs1 (cells + mc) (slots + ms) Q (F0 m (pc + 3) ls rest)) : W p l e R s m args below meth c H locs cells slots Q (F0 m pc ls st0) :=
  va_callv hr hS (fun q _ h => mw_A.le hP hS hA q h) (mw_A.le hP hS hA) (fun M1 _ H1 locs1 ht _ hp hB _ _ hS1 => kk M1 H1 locs1 hp (mw_back hP hS hA ht hB) hS1)
end MWC
section MWD
variable {p : Program} {l : Launch} {e : Env} {R : Room} {s : State} {m : MethodId} {args : Array Value} {below : List Frame} {meth : Method} {c : Code} {H : Heap} {locs : List Loc} {cells slots mc ms : Nat} {Q : State → Prop}
variable {cc : ByteArray} {pc : Nat} {ls : Array Slot} {rest st0 : List Value} {D : va_G} {cl : List vw_C} {A : Nat → Prop} {a : Nat} {av : Array Value} {tys : List (ClassId × FieldType)} {M M0 : mw} {H0 : Heap} {Ts : List Cond} {own : String}
theorem mw_callq {post : Option Nat → mw → Prop} (hP : mw_Q A D cl M H) (hS : va_S A H0 H locs) (hA : ∀ q, H0.size ≤ q → A q) (hr : va_Run p l e R s m args below meth c H locs cells slots mc ms (F0 m pc ls st0) rest (va_Qq post (mw_B D cl M H.size) (mw_A M H.size) av) (mw_A M H.size))
    (kk : ∀ (r : Option Nat) (M1 : mw) (H1 : Heap) (locs1 : List Loc), post r M1 → mw_Q A D cl M1 H1 → va_S A H0 H1 locs1 → W p l e R s m args below meth c H1 locs1 (cells + mc) (slots + ms) Q (F0 m (pc + 3) ls (va_rf r :: rest))) : W p l e R s m args below meth c H locs cells slots Q (F0 m pc ls st0) :=
  va_callq hr hS (fun q _ h => mw_A.le hP hS hA q h) (mw_A.le hP hS hA) (fun r M1 _ H1 locs1 ht _ hp hB _ _ hS1 => kk r M1 H1 locs1 hp (mw_back hP hS hA ht hB) hS1)
/-- the ends -/
theorem mw_iret (hE : mw_E p c cc s args Ts own m D cl tys) {post : Int32 → mw → Prop} {v : Int32} (hr : meth.sig.returnType = some .int) (hlocks : meth.locks = false) (hP : mw_Q (mw_A M0 s.heap.size) D cl M H) (hS : va_S (mw_A M0 s.heap.size) s.heap H locs) (hdg : decode cc pc = .ok (.ireturn, 1)) (hp : post v M) :
    W p l e R s m args below meth c H locs cells slots (MQ below (va_Qi post (mw_B D cl M0 s.heap.size) (mw_A M0 s.heap.size)) args s cells slots (mw_A M0 s.heap.size)) (F0 m pc ls [.int v]) :=
  W.iret (v := v) hE.1 hE.2.1 hr (fun _ ht _ => ⟨⟨v, M, rfl, hp, by rw [ht]; exact hP.1, hP.2⟩, hS.F ht⟩) hS.2.2 hdg hlocks
theorem mw_zret (hE : mw_E p c cc s args Ts own m D cl tys) {post : Int32 → mw → Prop} {v : Int32} {ty : FieldType} (hr : meth.sig.returnType = some ty) (hlocks : meth.locks = false) (hP : mw_Q (mw_A M0 s.heap.size) D cl M H) (hS : va_S (mw_A M0 s.heap.size) s.heap H locs) (hdg : decode cc pc = .ok (.ireturn, 1)) (hn : narrow ty (.int v) = .int v) (hp : post v M) :
    W p l e R s m args below meth c H locs cells slots (MQ below (va_Qi post (mw_B D cl M0 s.heap.size) (mw_A M0 s.heap.size)) args s cells slots (mw_A M0 s.heap.size)) (F0 m pc ls [.int v]) :=
  W.zret (v := v) hE.1 hE.2.1 hr hn (fun _ ht _ => ⟨⟨v, M, rfl, hp, by rw [ht]; exact hP.1, hP.2⟩, hS.F ht⟩) hS.2.2 hdg hlocks
theorem mw_vret (hE : mw_E p c cc s args Ts own m D cl tys) {post : mw → Prop} (hr : meth.sig.returnType = none) (hlocks : meth.locks = false) (hP : mw_Q (mw_A M0 s.heap.size) D cl M H) (hS : va_S (mw_A M0 s.heap.size) s.heap H locs) (hdg : decode cc pc = .ok (.return_, 1)) (hp : post M) :
    W p l e R s m args below meth c H locs cells slots (MQ below (va_Qv post (mw_B D cl M0 s.heap.size) (mw_A M0 s.heap.size)) args s cells slots (mw_A M0 s.heap.size)) (F0 m pc ls []) :=
  W.vret hE.1 hE.2.1 hr (fun _ ht _ => ⟨⟨M, rfl, hp, by rw [ht]; exact hP.1, hP.2⟩, hS.F ht⟩) hS.2.2 hdg hlocks
theorem mw_aret (hE : mw_E p c cc s args Ts own m D cl tys) {post : Option Nat → mw → Prop} {r : Option Nat} {n : String} (hr : meth.sig.returnType = some (.object n)) (hlocks : meth.locks = false) (hP : mw_Q (mw_A M0 s.heap.size) D cl M H) (hS : va_S (mw_A M0 s.heap.size) s.heap H locs) (hdg : decode cc pc = .ok (.areturn, 1)) (hp : post r M) :
    W p l e R s m args below meth c H locs cells slots (MQ below (va_Qq post (mw_B D cl M0 s.heap.size) (mw_A M0 s.heap.size)) args s cells slots (mw_A M0 s.heap.size)) (F0 m pc ls [va_rf r]) :=
  W.aret (v := va_rf r) hE.1 hE.2.1 hr (Or.inl ⟨n, rfl⟩) (va_rf_or r) (fun _ ht _ => ⟨⟨r, M, rfl, hp, by rw [ht]; exact hP.1, hP.2⟩, hS.F ht⟩) hS.2.2 hdg hlocks
/-- a contract out of its body's walk -/
theorem mw_met {y : MethodName} {ws ws' : List Cond} {rm : Room} {Qc : Array Value → State → Outcome → State → Prop} {maxL sz : Nat} {ret : Option FieldType} {vs : List Value} {lv : List (Nat × Value)}
    (hy : plainName y.cls = true) (hw : ws = Cond.code y cc maxL ret :: ws') (hn : (lg_sl vs).length ≤ maxL) (hlv : lv_args 0 vs = lv)
    (body : ∀ (p : Program) (e : Env) (s : State) (m : MethodId) (below : List Frame) (meth : Method) (c : Code) (ls : Array Slot), mw_E p c cc s vs.toArray ws y.cls m D cl tys → meth.sig.returnType = ret → meth.locks = false → meth.name = y.name → c.maxLocals = maxL → s.heap.size = sz → mw_Q (mw_A M sz) D cl M s.heap → va_S (mw_A M sz) s.heap s.heap [] → lv_has ls maxL lv →
      W p l e rm s m vs.toArray below meth c s.heap [] 0 0 (MQ below Qc vs.toArray s mc ms (mw_A M sz)) (F0 m 0 ls [])) : Met l y ws rm (va_Pc vs (mw_U D cl tys M sz)) Qc mc ms (mw_A M sz) := by
  refine Met.ofW hy hw ?_
  intro p e s m args below meth c s₁ B hml hv
  obtain ⟨rfl, hsz, hP, hK⟩ := hv
  rw [lg_entry_eq]
  exact body p e s m below meth c _ ⟨B.exec, B.bytes, atoms_spec (ws := ws) B.pre, findClass_of_methodNamed B.named, hK⟩ B.returns B.notSynchronized (name_of_methodNamed B.named B.method).1 hml hsz ⟨hP, mw_I.self⟩ va_S.rf (hlv ▸ lv_entry vs hn)
end MWD
end
section
/-! rows with numbers as nI j; a top of the stack under another name -/
section RW
variable {p : Program} {l : Launch} {e : Env} {R : Room} {s : State} {m : MethodId} {args : Array Value} {below : List Frame} {meth : Method} {c : Code} {H : Heap} {locs : List Loc} {cells slots : Nat} {Q : State → Prop}
variable {cc : ByteArray} {pc : Nat} {ls : Array Slot} {rest : List Value} {D : va_G} {cl : List vw_C} {A : Nat → Prop} {a : Nat} {tys : List (ClassId × FieldType)} {M : mw} {H0 : Heap} {Ts : List Cond} {own : String}
theorem rw_i {x v : Int32} (h : x = v) (k : W p l e R s m args below meth c H locs cells slots Q (F0 m pc ls (.int v :: rest))) : W p l e R s m args below meth c H locs cells slots Q (F0 m pc ls (.int x :: rest)) := by
  subst h
  exact k
theorem rw_i2 {x v y w : Int32} (h : x = v) (h2 : y = w) (k : W p l e R s m args below meth c H locs cells slots Q (F0 m pc ls (.int v :: .int w :: rest))) : W p l e R s m args below meth c H locs cells slots Q (F0 m pc ls (.int x :: .int y :: rest)) := by
  subst h
  subst h2
  exact k
theorem rw_cs {k n : Nat} (h1 : cells ≤ k) (h2 : slots ≤ n) {g : JFrame} (kk : W p l e R s m args below meth c H locs k n Q g) : W p l e R s m args below meth c H locs cells slots Q g := W.widen h1 h2 kk
theorem rw_iald (hE : mw_E p c cc s args Ts own m D cl tys) (hP : mw_Q A D cl M H) (t0 : Nat) {cA : ClassId} {n : Nat} {f : Nat → Int32} (ha : M a = some (.inl (cA, n, .inl f))) (ht : tys[t0]? = some (cA, .int)) (hn : n < 2 ^ 31) {j : Nat} (hdg : decode cc pc = .ok (.iaload, 1)) (hj : j < n)
    (kk : W p l e R s m args below meth c H locs cells slots Q (F0 m (pc + 1) ls (.int (f j) :: rest))) : W p l e R s m args below meth c H locs cells slots Q (F0 m pc ls (.int (nI j) :: .ref a :: rest)) := by
  refine mw_iald hE hP t0 ha ht (vp_in_nI hj hn) hdg ?_
  rw [nI_clamp (by omega)]
  exact kk
theorem rw_zald (hE : mw_E p c cc s args Ts own m D cl tys) (hP : mw_Q A D cl M H) (t0 : Nat) {cA : ClassId} {n : Nat} {f : Nat → Int32} (ha : M a = some (.inl (cA, n, .inl f))) (ht : tys[t0]? = some (cA, .boolean)) (hn : n < 2 ^ 31) {j : Nat} (hdg : decode cc pc = .ok (.baload, 1)) (hj : j < n)
    (kk : W p l e R s m args below meth c H locs cells slots Q (F0 m (pc + 1) ls (.int (f j) :: rest))) : W p l e R s m args below meth c H locs cells slots Q (F0 m pc ls (.int (nI j) :: .ref a :: rest)) := by
  refine mw_zald hE hP t0 ha ht (vp_in_nI hj hn) hdg ?_
  rw [nI_clamp (by omega)]
  exact kk
theorem rw_aald (hE : mw_E p c cc s args Ts own m D cl tys) (hP : mw_Q A D cl M H) (t0 : Nat) {cA : ClassId} {C : String} {n : Nat} {f : Nat → Option Nat} (ha : M a = some (.inl (cA, n, .inr (.inr (.inr (.inr f)))))) (ht : tys[t0]? = some (cA, .object C)) (hn : n < 2 ^ 31) {j : Nat} (hdg : decode cc pc = .ok (.aaload, 1)) (hj : j < n)
    (kk : W p l e R s m args below meth c H locs cells slots Q (F0 m (pc + 1) ls (va_rf (f j) :: rest))) : W p l e R s m args below meth c H locs cells slots Q (F0 m pc ls (.int (nI j) :: .ref a :: rest)) := by
  refine mw_aald hE hP t0 ha ht (vp_in_nI hj hn) hdg ?_
  rw [nI_clamp (by omega)]
  exact kk
theorem rw_iast (hE : mw_E p c cc s args Ts own m D cl tys) (hP : mw_Q A D cl M H) (hS : va_S A H0 H locs) (t0 : Nat) {cA : ClassId} {n : Nat} {f : Nat → Int32} (ha : M a = some (.inl (cA, n, .inl f))) (ht : tys[t0]? = some (cA, .int)) (hn : n < 2 ^ 31) {j : Nat} {x : Int32} (hdg : decode cc pc = .ok (.iastore, 1)) (hj : j < n)
    (kk : ∀ (H1 : Heap) (locs1 : List Loc), mw_Q A D cl (mw_up M a (.inl (cA, n, .inl (upd f j x)))) H1 → va_S A H0 H1 locs1 → W p l e R s m args below meth c H1 locs1 cells slots Q (F0 m (pc + 1) ls rest)) : W p l e R s m args below meth c H locs cells slots Q (F0 m pc ls (.int x :: .int (nI j) :: .ref a :: rest)) := by
  refine mw_iast hE hP hS t0 ha ht (vp_in_nI hj hn) hdg ?_
  rw [nI_clamp (by omega)]
  exact kk
theorem rw_zast (hE : mw_E p c cc s args Ts own m D cl tys) (hP : mw_Q A D cl M H) (hS : va_S A H0 H locs) (t0 : Nat) {cA : ClassId} {n : Nat} {f : Nat → Int32} (ha : M a = some (.inl (cA, n, .inl f))) (ht : tys[t0]? = some (cA, .boolean)) (hn : n < 2 ^ 31) {j : Nat} {x : Int32} (hx : vp_nar .boolean x = x) (hdg : decode cc pc = .ok (.bastore, 1)) (hj : j < n)
    (kk : ∀ (H1 : Heap) (locs1 : List Loc), mw_Q A D cl (mw_up M a (.inl (cA, n, .inl (upd f j x)))) H1 → va_S A H0 H1 locs1 → W p l e R s m args below meth c H1 locs1 cells slots Q (F0 m (pc + 1) ls rest)) : W p l e R s m args below meth c H locs cells slots Q (F0 m pc ls (.int x :: .int (nI j) :: .ref a :: rest)) := by
  refine mw_zast hE hP hS t0 ha ht (vp_in_nI hj hn) hdg ?_
  rw [nI_clamp (by omega), hx]
  exact kk
theorem rw_aast (hE : mw_E p c cc s args Ts own m D cl tys) (hP : mw_Q A D cl M H) (hS : va_S A H0 H locs) (t0 ci : Nat) {cA : ClassId} {r : vw_C} {n v : Nat} {vs : List Value} {f : Nat → Option Nat} (ha : M a = some (.inl (cA, n, .inr (.inr (.inr (.inr f)))))) (ht : tys[t0]? = some (cA, .object r.1)) (hv : M v = some (.inr (ci, vs))) (hc : cl[ci]? = some r) (hn : n < 2 ^ 31) {j : Nat} (hdg : decode cc pc = .ok (.aastore, 1)) (hj : j < n)
    (kk : ∀ (H1 : Heap) (locs1 : List Loc), mw_Q A D cl (mw_up M a (.inl (cA, n, .inr (.inr (.inr (.inr (va_up f j (some v)))))))) H1 → va_S A H0 H1 locs1 → W p l e R s m args below meth c H1 locs1 cells slots Q (F0 m (pc + 1) ls rest)) : W p l e R s m args below meth c H locs cells slots Q (F0 m pc ls (.ref v :: .int (nI j) :: .ref a :: rest)) := by
  refine mw_aast hE hP hS t0 ci ha ht hv hc (vp_in_nI hj hn) hdg ?_
  rw [nI_clamp (by omega)]
  exact kk
end RW
theorem rw_in {x : Int32} {n : Nat} (hn : n < 2 ^ 31) : vp_in x n ↔ ¬ x < 0 ∧ ¬ nI n ≤ x := by
  constructor
  · intro h
    obtain ⟨j, hj, rfl⟩ := vp_in_of h hn
    exact ⟨nI_pos (by omega), nI_ge hj hn⟩
  · intro h
    rcases pk_ix x hn with h1 | h1 | ⟨j, hj, rfl⟩
    · exact absurd h1 h.1
    · exact absurd h1 h.2
    · exact vp_in_nI hj hn
theorem rw_inj {j k n : Nat} (hj : j < n) (hk : k < n) (hn : n ≤ 2 ^ 31) : nI j = nI k ↔ j = k := nI_eq (by omega) (by omega)
theorem rw_upd_s {f : Nat → Int32} {k : Nat} {x : Int32} : upd f k x k = x := pk_us
theorem rw_upd_n {f : Nat → Int32} {k j : Nat} {x : Int32} (h : j ≠ k) : upd f k x j = f j := pk_un h
/-! THE REFERENCE'S CELLS: its object at ad 0, the array of slot k at ad k; v: its numbers, g: its arrays, by their slots -/
abbrev mo_fs (ad : Nat → Nat) (v : Nat → Int32) : List Value := [.int (v 0), .ref (ad 1), .ref (ad 2), .int (v 3), .ref (ad 4), .ref (ad 5), .ref (ad 6), .int (v 7), .ref (ad 8), .ref (ad 9), .int (v 10), .ref (ad 11), .int (v 12), .int (v 13)]
def mo_len : Nat → Nat := fun k => match k with
  | 1 => 3072
  | 2 => 12
  | 4 => 12
  | 5 => 3072
  | 6 => 12
  | 8 => 1600
  | 9 => 40
  | 11 => 200
  | _ => 0
def mo_ks : List Nat := [1, 2, 4, 5, 6, 8, 9, 11]
def mo_N (ad : Nat → Nat) : Prop := (∀ k ∈ mo_ks, ad k ≠ ad 0) ∧ ∀ k ∈ mo_ks, ∀ j ∈ mo_ks, ad k = ad j → k = j
/-- the first of the slots ks whose array stands at x -/
def mo_at (ad : Nat → Nat) (x : Nat) : List Nat → Option Nat
  | [] => none
  | k :: ks => if x = ad k then some k else mo_at ad x ks
def mo_M (cI : ClassId) (ad : Nat → Nat) (v : Nat → Int32) (g : Nat → Nat → Int32) : mw := fun x => if x = ad 0 then some (.inr (5, mo_fs ad v)) else match mo_at ad x mo_ks with
  | none => none
  | some k => some (.inl (cI, mo_len k, .inl (g k)))
theorem mo_at_self {ad : Nat → Nat} {k : Nat} : ∀ (ks : List Nat), k ∈ ks → (∀ j ∈ ks, ad k = ad j → k = j) → mo_at ad (ad k) ks = some k
  | [], h, _ => absurd h List.not_mem_nil
  | j :: ks, h, hi => by
    unfold mo_at
    by_cases hj : ad k = ad j
    · rw [if_pos hj, hi j List.mem_cons_self hj]
    · rw [if_neg hj]
      rcases List.mem_cons.mp h with rfl | h
      · exact absurd rfl hj
      · exact mo_at_self ks h (fun i hi2 => hi i (List.mem_cons_of_mem _ hi2))
theorem mo_at_some {ad : Nat → Nat} {x k : Nat} : ∀ (ks : List Nat), mo_at ad x ks = some k → x = ad k ∧ k ∈ ks
  | [], h => by cases h
  | j :: ks, h => by
    unfold mo_at at h
    by_cases hj : x = ad j
    · rw [if_pos hj] at h
      cases h
      exact ⟨hj, List.mem_cons_self⟩
    · rw [if_neg hj] at h
      obtain ⟨h1, h2⟩ := mo_at_some ks h
      exact ⟨h1, List.mem_cons_of_mem _ h2⟩
theorem mo_o {cI : ClassId} {ad : Nat → Nat} {v : Nat → Int32} {g : Nat → Nat → Int32} : mo_M cI ad v g (ad 0) = some (.inr (5, mo_fs ad v)) := if_pos rfl
theorem mo_a {cI : ClassId} {ad : Nat → Nat} {v : Nat → Int32} {g : Nat → Nat → Int32} (hN : mo_N ad) {k : Nat} (hk : k ∈ mo_ks) : mo_M cI ad v g (ad k) = some (.inl (cI, mo_len k, .inl (g k))) := by
  unfold mo_M
  rw [if_neg (hN.1 k hk), mo_at_self mo_ks hk (fun j hj => hN.2 k hk j hj)]
theorem mo_so {cI : ClassId} {ad : Nat → Nat} {v v' : Nat → Int32} {g : Nat → Nat → Int32} {fs : List Value} (h : fs = mo_fs ad v') : mw_up (mo_M cI ad v g) (ad 0) (.inr (5, fs)) = mo_M cI ad v' g := by
  subst h
  funext x
  by_cases hx : x = ad 0
  · subst hx
    rw [mw_up_s, mo_o]
  · rw [mw_up_n hx]
    unfold mo_M
    rw [if_neg hx, if_neg hx]
theorem mo_sa {cI : ClassId} {ad : Nat → Nat} {v : Nat → Int32} {g : Nat → Nat → Int32} (hN : mo_N ad) {k : Nat} (hk : k ∈ mo_ks) {n : Nat} (hn : mo_len k = n) (f : Nat → Int32) : mw_up (mo_M cI ad v g) (ad k) (.inl (cI, n, .inl f)) = mo_M cI ad v (va_up g k f) := by
  subst hn
  funext x
  by_cases hx : x = ad k
  · subst hx
    rw [mw_up_s, mo_a hN hk, va_up_self]
  · rw [mw_up_n hx]
    unfold mo_M
    by_cases h0 : x = ad 0
    · rw [if_pos h0, if_pos h0]
    · rw [if_neg h0, if_neg h0]
      cases hm : mo_at ad x mo_ks with
      | none => rfl
      | some j =>
        have h1 := mo_at_some mo_ks hm
        have hjk : j ≠ k := fun h => hx (by rw [h1.1, h])
        dsimp only
        rw [va_up_ne _ _ hjk]
section MO
variable {p : Program} {l : Launch} {e : Env} {R : Room} {s : State} {m : MethodId} {args : Array Value} {below : List Frame} {meth : Method} {c : Code} {H : Heap} {locs : List Loc} {cells slots : Nat} {Q : State → Prop}
variable {cc : ByteArray} {pc : Nat} {ls : Array Slot} {rest : List Value} {D : va_G} {A : Nat → Prop} {tys : List (ClassId × FieldType)} {H0 : Heap} {Ts : List Cond} {cI : ClassId} {ad : Nat → Nat} {v : Nat → Int32} {g : Nat → Nat → Int32}
theorem mo_get (hE : mw_E p c cc s args Ts RX4 m D vwCl tys) (hin : ∀ w ∈ wsX40, w ∈ Ts) (hP : mw_Q A D vwCl (mo_M cI ad v g) H) (k : Nat) {index : Nat} (hk : k < 14) (hlink : Cond.fieldLink RX4 index "CodePagesModel" (TX4 k).2.1 (TX4 k).2.2.1 ∈ Ts) (hd : (TX4 k).1 = "CodePagesModel") {x : Value} (hv : (mo_fs ad v)[k]? = some x) (hdg : decode cc pc = .ok (.getfield index, 3))
    (kk : W p l e R s m args below meth c H locs cells slots Q (F0 m (pc + 3) ls (x :: rest))) : W p l e R s m args below meth c H locs cells slots Q (F0 m pc ls (.ref (ad 0) :: rest)) :=
  mw_get (ci := 5) (T := TX4) (N := 14) (C := RX4) hE hin hP mo_o rfl k hk (hE.2.2.1 _ hlink) hd hv hdg kk
theorem mo_put (hE : mw_E p c cc s args Ts RX4 m D vwCl tys) (hin : ∀ w ∈ wsX40, w ∈ Ts) (hP : mw_Q A D vwCl (mo_M cI ad v g) H) (hS : va_S A H0 H locs) (k : Nat) {index : Nat} {x : Int32} (hk : k < 14) (hlink : Cond.fieldLink RX4 index "CodePagesModel" (TX4 k).2.1 (TX4 k).2.2.1 ∈ Ts) (hd : (TX4 k).1 = "CodePagesModel") (hf : (TX4 k).2.2.2 = false) (ht : parseFieldDescriptor (TX4 k).2.2.1 = some .int) (hv : (mo_fs ad v).set k (.int x) = mo_fs ad (va_up v k x)) (hdg : decode cc pc = .ok (.putfield index, 3))
    (kk : ∀ (H : Heap) (locs : List Loc), mw_Q A D vwCl (mo_M cI ad (va_up v k x) g) H → va_S A H0 H locs → W p l e R s m args below meth c H locs cells slots Q (F0 m (pc + 3) ls rest)) : W p l e R s m args below meth c H locs cells slots Q (F0 m pc ls (.int x :: .ref (ad 0) :: rest)) := by
  refine mw_put (ci := 5) (T := TX4) (N := 14) (C := RX4) hE hin tyX4 tyX4_ok nmX4 hP hS mo_o rfl k hk (hE.2.2.1 _ hlink) hd hf ht rfl rfl hk hdg ?_
  rw [mo_so hv]
  exact kk
theorem mo_ld (hE : mw_E p c cc s args Ts RX4 m D vwCl tys) (hN : mo_N ad) (hP : mw_Q A D vwCl (mo_M cI ad v g) H) (t0 k : Nat) (ht : tys[t0]? = some (cI, .int)) (hk : k ∈ mo_ks) {n j : Nat} (hn : mo_len k = n) (hn2 : n < 2 ^ 31) (hdg : decode cc pc = .ok (.iaload, 1)) (hj : j < n)
    (kk : W p l e R s m args below meth c H locs cells slots Q (F0 m (pc + 1) ls (.int (g k j) :: rest))) : W p l e R s m args below meth c H locs cells slots Q (F0 m pc ls (.int (nI j) :: .ref (ad k) :: rest)) := by
  subst hn
  exact rw_iald hE hP t0 (mo_a hN hk) ht hn2 hdg hj kk
theorem mo_st (hE : mw_E p c cc s args Ts RX4 m D vwCl tys) (hN : mo_N ad) (hP : mw_Q A D vwCl (mo_M cI ad v g) H) (hS : va_S A H0 H locs) (t0 k : Nat) (ht : tys[t0]? = some (cI, .int)) (hk : k ∈ mo_ks) {n j : Nat} {x : Int32} (hn : mo_len k = n) (hn2 : n < 2 ^ 31) (hdg : decode cc pc = .ok (.iastore, 1)) (hj : j < n)
    (kk : ∀ (H : Heap) (locs : List Loc), mw_Q A D vwCl (mo_M cI ad v (va_up g k (upd (g k) j x))) H → va_S A H0 H locs → W p l e R s m args below meth c H locs cells slots Q (F0 m (pc + 1) ls rest)) : W p l e R s m args below meth c H locs cells slots Q (F0 m pc ls (.int x :: .int (nI j) :: .ref (ad k) :: rest)) := by
  refine rw_iast hE hP hS t0 (mo_a hN hk) ht (by rw [hn]; exact hn2) hdg (by rw [hn]; exact hj) ?_
  rw [mo_sa hN hk rfl]
  exact kk
end MO
theorem nn_le {a b : Nat} (h : nI a ≤ nI b) (ha : a < 2 ^ 31) (hb : b < 2 ^ 31) : a ≤ b := (nI_leI ha hb).mp h
theorem nn_nle {a b : Nat} (h : ¬ nI a ≤ nI b) (ha : b < 2 ^ 31) (hb : a < 2 ^ 31) : b < a := Nat.lt_of_not_le fun q => h ((nI_leI hb ha).mpr q)
theorem nn_lt {a b : Nat} (h : nI a < nI b) (ha : a < 2 ^ 31) (hb : b < 2 ^ 31) : a < b := (nI_ltI ha hb).mp h
theorem nn_nlt {a b : Nat} (h : ¬ nI a < nI b) (ha : b < 2 ^ 31) (hb : a < 2 ^ 31) : b ≤ a := Nat.le_of_not_lt fun q => h ((nI_ltI hb ha).mpr q)
theorem nn_eq {a b : Nat} (h : nI a = nI b) (ha : a < 2 ^ 31) (hb : b < 2 ^ 31) : a = b := (nI_eq ha hb).mp h
theorem nn_neq {a b : Nat} (h : ¬ nI a = nI b) (ha : a < 2 ^ 31) (hb : b < 2 ^ 31) : a ≠ b := fun q => h (by rw [q])
/-- the array classes: int, boolean, Page, Order, Text, long -/
abbrev TY (k : Nat → ClassId) : List (ClassId × FieldType) := [(k 0, .int), (k 1, .boolean), (k 2, .object RX1), (k 3, .object RX0), (k 4, .object RX2), (k 5, .long)]
end
section
/-! numbers and small functions -/
theorem sw_out {x : Int32} {n : Nat} (hn : n < 2 ^ 31) (h : ¬ vp_in x n) : x.toInt < 0 ∨ (n : Int) - 1 < x.toInt := by
  rw [vp_in_iff] at h
  omega
theorem sw_cases (x : Int32) (n : Nat) (hn : n < 2 ^ 31) : ¬ vp_in x n ∨ ∃ j : Nat, j < n ∧ x = nI j := by
  by_cases h : vp_in x n
  · exact Or.inr (vp_in_of h hn)
  · exact Or.inl h
theorem in_nI {j n : Nat} (hn : n < 2 ^ 31) (hj : j < 2 ^ 31) : vp_in (nI j) n ↔ j < n := by
  rw [vp_in_iff, nI_toInt hj]
  omega
/-- a truth as a number -/
def bz (P : Prop) [Decidable P] : Int32 := if P then 1 else 0
theorem bz_t {P : Prop} [Decidable P] (h : P) : bz P = 1 := if_pos h
theorem bz_f {P : Prop} [Decidable P] (h : ¬ P) : bz P = 0 := if_neg h
theorem bz_01 (P : Prop) [Decidable P] : bz P = 0 ∨ bz P = 1 := by
  by_cases h : P
  · exact Or.inr (bz_t h)
  · exact Or.inl (bz_f h)
theorem bz_z (P : Prop) [Decidable P] : narrow .boolean (.int (bz P)) = .int (bz P) := by
  rcases bz_01 P with h | h <;> rw [h] <;> rfl
/-- the meanings that may be told -/
def okm (u : Int32) : Prop := u = -1 ∨ vp_in u 65536
theorem okm_iff (u : Int32) : okm u ↔ ¬ u < -1 ∧ ¬ nI 65535 < u := by
  unfold okm
  rw [vp_in_iff, Int32.lt_iff_toInt_lt, Int32.lt_iff_toInt_lt, ← Int32.toInt_inj, nI_toInt (by decide)]
  have : (-1 : Int32).toInt = -1 := by decide
  rw [this]
  omega
/-- a half as it is printed -/
def hexn (q : Nat) : Nat := if q < 10 then 48 + q else 55 + q
def sgnn (q : Nat) : Nat := if q = 11 ∨ q = 13 then 45 else if 9 < q then 43 else 63
theorem byte_ok {n : Nat} (h : n < 128) : (nI n).toInt8.toInt32 = nI n := by
  have : ∀ i : Fin 128, (nI i.val).toInt8.toInt32 = nI i.val := by decide +kernel
  exact this ⟨n, h⟩
theorem byte_nar {n : Nat} (h : n < 128) : narrow .byte (.int (nI n)) = .int (nI n) := by
  have h1 := pk_nb (nI n)
  rwa [byte_ok h] at h1
/-- the first code from i on, n of them, that holds u; the last one below n -/
def ff (f : Nat → Int32) (u : Int32) (i : Nat) : Nat → Int32
  | 0 => -1
  | n + 1 => if f i = u then nI i else ff f u (i + 1) n
def fl (f : Nat → Int32) (u : Int32) : Nat → Int32
  | 0 => -1
  | n + 1 => if f n = u then nI n else fl f u n
theorem ff_step {f : Nat → Int32} {u : Int32} {i n : Nat} (h : i < n) : ff f u i (n - i) = if f i = u then nI i else ff f u (i + 1) (n - (i + 1)) := by
  obtain ⟨m, hm⟩ : ∃ m, n - i = m + 1 := ⟨n - i - 1, by omega⟩
  rw [hm, show n - (i + 1) = m by omega, ff]
theorem ff_end {f : Nat → Int32} {u : Int32} {i n : Nat} (h : n ≤ i) : ff f u i (n - i) = -1 := by
  rw [show n - i = 0 by omega, ff]
/-- what a page's look-up answers -/
def pfind (f : Nat → Int32) (u : Int32) : Int32 := if u = -1 then -1 else ff f u 0 256
abbrev cp_q (cA : ClassId) (len n : Nat) (pa : Nat → Nat) : va_E := .inl (cA, len, .inr (.inr (.inr (.inr (fun p => if p < n then some (pa p) else none)))))
abbrev cp_o (h : Nat → Nat) (w : Nat → Int32) : va_E := .inr (4, [.ref (h 1), .ref (h 2), .ref (h 3), .ref (h 4), .int (w 4), .int (w 5), .int (w 6), .int (w 7)])
end
section
/-! WHAT THE REFERENCE DOES, over its arrays g (by slots) and its counts n (pages, orders, texts, listed) -/
def mo_V (v : Nat → Int32) (n : Nat → Nat) : Prop := v 3 = nI (n 0) ∧ v 7 = nI (n 1) ∧ v 10 = nI (n 2) ∧ v 12 = nI (n 3)
def mo_B (n : Nat → Nat) : Prop := n 0 ≤ 12 ∧ n 1 ≤ 12 ∧ n 2 ≤ 40 ∧ n 3 ≤ 200
/-- the first codes' meanings by a page's kind -/
def fm (z i : Nat) : Int32 := if z = 0 then (if i < 128 then nI i else -1) else if z = 1 then nI ((167 * i + 13) % 256) else -1
/-- n places from a on hold h -/
def blk (f : Nat → Int32) (a n : Nat) (h : Nat → Int32) : Nat → Int32 := fun j => if a ≤ j ∧ j < a + n then h (j - a) else f j
theorem blk_0 {f : Nat → Int32} {a : Nat} {h : Nat → Int32} : blk f a 0 h = f := by
  funext j
  exact if_neg (by omega)
theorem blk_s {f : Nat → Int32} {a n : Nat} {h : Nat → Int32} {x : Int32} (hx : x = h n) : upd (blk f a n h) (a + n) x = blk f a (n + 1) h := by
  subst hx
  funext j
  unfold upd blk
  by_cases h1 : j = a + n
  · subst h1
    rw [if_pos rfl, if_pos (by omega), show a + n - a = n by omega]
  · rw [if_neg h1]
    by_cases h2 : a ≤ j ∧ j < a + n
    · rw [if_pos h2, if_pos (by omega)]
    · rw [if_neg h2, if_neg (by omega)]
theorem blk_in {f : Nat → Int32} {a n j : Nat} {h : Nat → Int32} (hj : j < n) : blk f a n h (a + j) = h j := by
  unfold blk
  rw [if_pos (by omega), show a + j - a = j by omega]
theorem blk_out {f : Nat → Int32} {a n j : Nat} {h : Nat → Int32} (hj : j < a ∨ a + n ≤ j) : blk f a n h j = f j := if_neg (by omega)
theorem blk_up {g : Nat → Nat → Int32} {k : Nat} (f h : Nat → Int32) : va_up (va_up g k f) k h = va_up g k h := by
  funext j
  by_cases hj : j = k
  · subst hj
    rw [va_up_self, va_up_self]
  · rw [va_up_ne _ _ hj, va_up_ne _ _ hj, va_up_ne _ _ hj]
theorem up_id {g : Nat → Nat → Int32} {k : Nat} : va_up g k (g k) = g := by
  funext j
  by_cases hj : j = k
  · subst hj
    rw [va_up_self]
  · rw [va_up_ne _ _ hj]
/-- the code of page p that means u, as the reference looks -/
def mf (g : Nat → Nat → Int32) (p : Nat) (u : Int32) : Int32 := if u = -1 then -1 else fl (fun i => g 1 (256 * p + i)) u 256
def R_page (n : Nat → Nat) (g : Nat → Nat → Int32) (x r : Int32) (n' : Nat → Nat) (g' : Nat → Nat → Int32) : Prop :=
  (¬ vp_in x 3 ∧ r = -4 ∧ n' = n ∧ g' = g) ∨ (vp_in x 3 ∧ n 0 = 12 ∧ r = -1 ∧ n' = n ∧ g' = g) ∨
  ∃ z : Nat, z < 3 ∧ x = nI z ∧ n 0 < 12 ∧ r = nI (n 0) ∧ n' = va_up n 0 (n 0 + 1) ∧ g' = va_up (va_up g 1 (blk (g 1) (256 * n 0) 256 (fm z))) 2 (upd (g 2) (n 0) (nI 63))
def R_set (n : Nat → Nat) (g : Nat → Nat → Int32) (x y u r : Int32) (g' : Nat → Nat → Int32) : Prop :=
  (¬ vp_in x (n 0) ∧ r = -2 ∧ g' = g) ∨ (vp_in x (n 0) ∧ (¬ vp_in y 256 ∨ ¬ okm u) ∧ r = -4 ∧ g' = g) ∨
  ∃ p j : Nat, p < n 0 ∧ j < 256 ∧ x = nI p ∧ y = nI j ∧ okm u ∧ ((r = 0 ∧ g' = g ∧ mf g p u ≠ -1 ∧ mf g p u ≠ nI j) ∨ (r = 1 ∧ (mf g p u = -1 ∨ mf g p u = nI j) ∧ g' = va_up g 1 (upd (g 1) (256 * p + j) u)))
def R_row (n : Nat → Nat) (g : Nat → Nat → Int32) (x y r c : Int32) : Prop :=
  (¬ (vp_in x (n 0) ∧ vp_in y 256) ∧ r = 0 ∧ c = 1) ∨ ∃ p j : Nat, p < n 0 ∧ j < 256 ∧ x = nI p ∧ y = nI j ∧ r = g 1 (256 * p + j) ∧ c = 0
def R_standIn (n : Nat → Nat) (g : Nat → Nat → Int32) (x y r : Int32) (g' : Nat → Nat → Int32) : Prop :=
  (¬ vp_in x (n 0) ∧ r = -2 ∧ g' = g) ∨ (vp_in x (n 0) ∧ ¬ vp_in y 256 ∧ r = -4 ∧ g' = g) ∨
  ∃ p j : Nat, p < n 0 ∧ j < 256 ∧ x = nI p ∧ y = nI j ∧ r = g 2 p ∧ g' = va_up g 2 (upd (g 2) p (nI j))
/-- one code j translated from page p to page q; d: how many it adds to those that were listed -/
def R_tr (n : Nat → Nat) (g : Nat → Nat → Int32) (j p q : Nat) (r : Int32) (n' : Nat → Nat) (g' : Nat → Nat → Int32) (d : Nat) : Prop :=
  (mf g q (g 1 (256 * p + j)) ≠ -1 ∧ r = mf g q (g 1 (256 * p + j)) ∧ n' = n ∧ g' = g ∧ d = 0) ∨
  (mf g q (g 1 (256 * p + j)) = -1 ∧ r = g 2 q ∧ d = 1 ∧ ((n 3 < 200 ∧ n' = va_up n 3 (n 3 + 1) ∧ g' = va_up g 11 (upd (g 11) (n 3) (nI j))) ∨ (¬ n 3 < 200 ∧ n' = n ∧ g' = g)))
def R_translate (n : Nat → Nat) (g : Nat → Nat → Int32) (x y z r : Int32) (n' : Nat → Nat) (g' : Nat → Nat → Int32) : Prop :=
  (¬ (vp_in y (n 0) ∧ vp_in z (n 0)) ∧ r = -2 ∧ n' = n ∧ g' = g) ∨ ((vp_in y (n 0) ∧ vp_in z (n 0)) ∧ ¬ vp_in x 256 ∧ r = -4 ∧ n' = n ∧ g' = g) ∨
  ∃ j p q d : Nat, j < 256 ∧ p < n 0 ∧ q < n 0 ∧ x = nI j ∧ y = nI p ∧ z = nI q ∧ R_tr n g j p q r n' g' d
def R_told (n : Nat → Nat) (g : Nat → Nat → Int32) (x r : Int32) : Prop := (¬ vp_in x (n 3) ∧ r = -1) ∨ ∃ i : Nat, i < n 3 ∧ x = nI i ∧ r = g 11 i
theorem rw_in1 {x : Int32} {n : Nat} (hn : n + 1 < 2 ^ 31) : vp_in x (n + 1) ↔ ¬ x < 0 ∧ ¬ nI n < x := by
  rw [vp_in_iff, Int32.lt_iff_toInt_lt, Int32.lt_iff_toInt_lt, nI_toInt (by omega)]
  have : (0 : Int32).toInt = 0 := by decide
  rw [this]
  omega
/-- the texts: their lengths L, their codes T -/
def mo_X (n : Nat → Nat) (g : Nat → Nat → Int32) (L : Nat → Nat) (T : Nat → Nat → Nat) : Prop := ∀ t, t < n 2 → L t ≤ 40 ∧ g 9 t = nI (L t) ∧ ∀ k, k < L t → T t k < 256 ∧ g 8 (40 * t + k) = nI (T t k)
def R_text (n : Nat → Nat) (r : Int32) (n' : Nat → Nat) : Prop := (n 2 = 40 ∧ r = -1 ∧ n' = n) ∨ (n 2 < 40 ∧ r = nI (n 2) ∧ n' = va_up n 2 (n 2 + 1))
def R_sign (n : Nat → Nat) (g : Nat → Nat → Int32) (L : Nat → Nat) (x y r : Int32) (g' : Nat → Nat → Int32) : Prop :=
  (¬ vp_in x (n 2) ∧ r = -2 ∧ g' = g) ∨ (vp_in x (n 2) ∧ ¬ vp_in y 256 ∧ r = -4 ∧ g' = g) ∨
  ∃ t j : Nat, t < n 2 ∧ j < 256 ∧ x = nI t ∧ y = nI j ∧ ((L t = 40 ∧ r = -1 ∧ g' = g) ∨ (L t < 40 ∧ r = nI (L t + 1) ∧ g' = va_up (va_up g 8 (upd (g 8) (40 * t + L t) (nI j))) 9 (upd (g 9) t (nI (L t + 1)))))
def R_at (n : Nat → Nat) (g : Nat → Nat → Int32) (L : Nat → Nat) (x y r : Int32) : Prop :=
  (¬ vp_in x (n 2) ∧ r = -1) ∨ ∃ t : Nat, t < n 2 ∧ x = nI t ∧ ((¬ vp_in y (L t) ∧ r = -1) ∨ ∃ j : Nat, j < L t ∧ y = nI j ∧ r = g 8 (40 * t + j))
/-- the code at place k of a text, filled with blanks -/
def rdn (L : Nat → Nat) (T : Nat → Nat → Nat) (t k : Nat) : Nat := if k < L t then T t k else 32
theorem rdn_lt {n : Nat → Nat} {g : Nat → Nat → Int32} {L : Nat → Nat} {T : Nat → Nat → Nat} (h : mo_X n g L T) {t : Nat} (ht : t < n 2) (k : Nat) : rdn L T t k < 256 := by
  unfold rdn
  by_cases hk : k < L t
  · rw [if_pos hk]
    exact ((h t ht).2.2 k hk).1
  · rw [if_neg hk]
    omega
end
section
/-! more of what the reference does: ranks, orders, comparing, classes, printing -/
/-- how many below c -/
def cntb (b : Nat → Bool) : Nat → Nat
  | 0 => 0
  | c + 1 => cntb b c + (if b c = true then 1 else 0)
theorem cntb_t {b : Nat → Bool} {c : Nat} (h : b c = true) : cntb b (c + 1) = cntb b c + 1 := by rw [cntb, if_pos h]
theorem cntb_f {b : Nat → Bool} {c : Nat} (h : b c = false) : cntb b (c + 1) = cntb b c := by rw [cntb, if_neg (by rw [h]; decide)]; rfl
theorem cntb_le (b : Nat → Bool) (c : Nat) : cntb b c ≤ c := by
  induction c with
  | zero => exact Nat.le_refl _
  | succ c ih =>
    rw [cntb]
    split <;> omega
def nob (g : Nat → Nat → Int32) (o d : Nat) : Bool := decide (g 5 (256 * o + d) = -1)
/-- the rank of a code -/
def rko (g : Nat → Nat → Int32) (o c : Nat) : Int32 := if g 4 o = nI 2 ∧ g 5 (256 * o + c) = -1 then g 6 o + nI (cntb (nob g o) c) else g 5 (256 * o + c)
/-- code d comes ahead of code c, by what page 0 means -/
def ahd (g : Nat → Nat → Int32) (c d : Nat) : Bool := decide (if g 1 d = -1 then g 1 c = -1 ∧ d < c else g 1 c = -1 ∨ g 1 d < g 1 c)
def mnt (n : Nat → Nat) (g : Nat → Nat → Int32) (c : Nat) : Nat := if n 0 = 0 then c else cntb (ahd g c) 256
def fo (n : Nat → Nat) (g : Nat → Nat → Int32) (z c : Nat) : Int32 := if z = 2 then -1 else if z = 0 then nI c else nI (mnt n g c)
def R_order (n : Nat → Nat) (g : Nat → Nat → Int32) (x r : Int32) (n' : Nat → Nat) (g' : Nat → Nat → Int32) : Prop :=
  (¬ vp_in x 3 ∧ r = -4 ∧ n' = n ∧ g' = g) ∨ (vp_in x 3 ∧ n 1 = 12 ∧ r = -1 ∧ n' = n ∧ g' = g) ∨
  ∃ z : Nat, z < 3 ∧ x = nI z ∧ n 1 < 12 ∧ r = nI (n 1) ∧ n' = va_up n 1 (n 1 + 1) ∧ g' = va_up (va_up (va_up g 4 (upd (g 4) (n 1) (nI z))) 6 (upd (g 6) (n 1) 0)) 5 (blk (g 5) (256 * n 1) 256 (fo n g z))
def R_ref (n : Nat → Nat) (g : Nat → Nat → Int32) (x y z r : Int32) : Prop :=
  (¬ vp_in x (n 1) ∧ r = -2) ∨ (vp_in x (n 1) ∧ ¬ (vp_in y 256 ∧ vp_in z 256) ∧ r = -4) ∨ (∃ o i j : Nat, o < n 1 ∧ i < 256 ∧ j < 256 ∧ x = nI o ∧ y = nI i ∧ z = nI j ∧ g 4 o ≠ nI 2 ∧ r = -5) ∨
  ∃ o i j : Nat, o < n 1 ∧ i < 256 ∧ j < 256 ∧ x = nI o ∧ y = nI i ∧ z = nI j ∧ g 4 o = nI 2 ∧ r = 0
def R_also (n : Nat → Nat) (g : Nat → Nat → Int32) (x y z r : Int32) (g' : Nat → Nat → Int32) : Prop :=
  (R_ref n g x y z r ∧ r ≠ 0 ∧ g' = g) ∨ ∃ o i j : Nat, o < n 1 ∧ i < 256 ∧ j < 256 ∧ x = nI o ∧ y = nI i ∧ z = nI j ∧ g 4 o = nI 2 ∧
    (((g 5 (256 * o + i) = -1 ∨ g 5 (256 * o + j) ≠ -1) ∧ r = 0 ∧ g' = g) ∨ ((g 5 (256 * o + i) ≠ -1 ∧ g 5 (256 * o + j) = -1) ∧ r = 1 ∧ g' = va_up g 5 (upd (g 5) (256 * o + j) (g 5 (256 * o + i)))))
/-- the k-th code of a range -/
def tix (up : Bool) (f k : Nat) : Nat := match up with
  | true => f + k
  | false => f - k
def tcn (up : Bool) (f t : Nat) : Nat := match up with
  | true => t - f + 1
  | false => f - t + 1
def thg (g : Nat → Nat → Int32) (o : Nat) (up : Bool) (f : Nat) : Nat → Nat → Nat → Int32
  | 0 => g
  | k + 1 => va_up (va_up (thg g o up f k) 5 (upd (thg g o up f k 5) (256 * o + tix up f k) (thg g o up f k 6 o))) 6 (upd (thg g o up f k 6) o (thg g o up f k 6 o + 1))
def R_through (n : Nat → Nat) (g : Nat → Nat → Int32) (x y z r : Int32) (g' : Nat → Nat → Int32) : Prop :=
  (R_ref n g x y z r ∧ r ≠ 0 ∧ g' = g) ∨ ∃ (o i j : Nat) (up : Bool), o < n 1 ∧ i < 256 ∧ j < 256 ∧ x = nI o ∧ y = nI i ∧ z = nI j ∧ g 4 o = nI 2 ∧ (up = true ↔ i ≤ j) ∧
    (((∃ k, k < tcn up i j ∧ g 5 (256 * o + tix up i k) ≠ -1) ∧ r = 0 ∧ g' = g) ∨ ((∀ k, k < tcn up i j → g 5 (256 * o + tix up i k) = -1) ∧ r = nI (tcn up i j) ∧ g' = thg g o up i (tcn up i j)))
def R_rank (n : Nat → Nat) (g : Nat → Nat → Int32) (x y r : Int32) : Prop :=
  (¬ vp_in x (n 1) ∧ r = -2) ∨ (vp_in x (n 1) ∧ ¬ vp_in y 256 ∧ r = -4) ∨ ∃ o j : Nat, o < n 1 ∧ j < 256 ∧ x = nI o ∧ y = nI j ∧ r = rko g o j
/-- the last one of the greatest, among 0 .. c -/
def hgh (f : Nat → Int32) : Nat → Nat
  | 0 => 0
  | c + 1 => if f (c + 1) < f (hgh f c) then hgh f c else c + 1
theorem hgh_le (f : Nat → Int32) (c : Nat) : hgh f c ≤ c := by
  induction c with
  | zero => exact Nat.le_refl _
  | succ c ih =>
    rw [hgh]
    split <;> omega
def R_high (n : Nat → Nat) (g : Nat → Nat → Int32) (x r : Int32) : Prop := (¬ vp_in x (n 1) ∧ r = -2) ∨ ∃ o : Nat, o < n 1 ∧ x = nI o ∧ r = nI (hgh (rko g o) 255)
def cmpf (f h : Nat → Int32) (k : Nat) : Nat → Int32
  | 0 => 0
  | m + 1 => if f k = h k then cmpf f h (k + 1) m else if f k < h k then -1 else 1
theorem cmpf_step {f h : Nat → Int32} {k n : Nat} (hk : k < n) : cmpf f h k (n - k) = if f k = h k then cmpf f h (k + 1) (n - (k + 1)) else if f k < h k then -1 else 1 := by
  obtain ⟨m, hm⟩ : ∃ m, n - k = m + 1 := ⟨n - k - 1, by omega⟩
  rw [hm, show n - (k + 1) = m by omega, cmpf]
theorem cmpf_end {f h : Nat → Int32} {k n : Nat} (hk : n ≤ k) : cmpf f h k (n - k) = 0 := by
  rw [show n - k = 0 by omega, cmpf]
def R_compare (n : Nat → Nat) (g : Nat → Nat → Int32) (L : Nat → Nat) (T : Nat → Nat → Nat) (x y z r : Int32) : Prop :=
  (¬ (vp_in x (n 1) ∧ vp_in y (n 2) ∧ vp_in z (n 2)) ∧ r = -2) ∨ ∃ o a b : Nat, o < n 1 ∧ a < n 2 ∧ b < n 2 ∧ x = nI o ∧ y = nI a ∧ z = nI b ∧ r = cmpf (fun k => rko g o (rdn L T a k)) (fun k => rko g o (rdn L T b k)) 0 40
/-- the first k codes of text t translated from page p to page q; d of them were listed -/
def R_wh (n : Nat → Nat) (g : Nat → Nat → Int32) (T : Nat → Nat → Nat) (t p q : Nat) : Nat → (Nat → Nat) → (Nat → Nat → Int32) → Nat → Prop
  | 0, n', g', d => n' = n ∧ g' = g ∧ d = 0
  | k + 1, n', g', d => ∃ n1 g1 d1 r n2 g2 d2, R_wh n g T t p q k n1 g1 d1 ∧ R_tr n1 g1 (T t k) p q r n2 g2 d2 ∧ n' = n2 ∧ g' = va_up g2 8 (upd (g2 8) (40 * t + k) r) ∧ d = d1 + d2
def R_whole (n : Nat → Nat) (g : Nat → Nat → Int32) (L : Nat → Nat) (T : Nat → Nat → Nat) (x y z r : Int32) (n' : Nat → Nat) (g' : Nat → Nat → Int32) : Prop :=
  (¬ (vp_in x (n 2) ∧ vp_in y (n 0) ∧ vp_in z (n 0)) ∧ r = -2 ∧ n' = n ∧ g' = g) ∨ ∃ t p q d : Nat, t < n 2 ∧ p < n 0 ∧ q < n 0 ∧ x = nI t ∧ y = nI p ∧ z = nI q ∧ r = nI d ∧ R_wh n g T t p q (L t) n' g' d
def clsf (x : Int32) (z : Nat) : Int32 := match z with
  | 0 => bz (¬ x < nI 48 ∧ ¬ nI 57 < x)
  | 1 => bz ((¬ x < nI 65 ∧ ¬ nI 90 < x) ∨ (¬ x < nI 97 ∧ ¬ nI 122 < x))
  | 2 => bz (¬ x < nI 65 ∧ ¬ nI 90 < x)
  | 3 => bz (¬ x < nI 97 ∧ ¬ nI 122 < x)
  | 4 => bz (x = nI 32)
  | _ => bz ((¬ x < 0 ∧ x < nI 32) ∨ x = nI 127)
def R_cls (x y r : Int32) : Prop := (¬ vp_in y 6 ∧ r = 0) ∨ ∃ z : Nat, z < 6 ∧ y = nI z ∧ r = clsf x z
def R_print (x y r : Int32) : Prop := (¬ vp_in x 256 ∧ r = 0) ∨ ∃ j : Nat, j < 256 ∧ x = nI j ∧ ((¬ vp_in y 3 ∧ r = 0) ∨ (y = nI 0 ∧ r = nI (hexn (j / 16))) ∨ (y = nI 1 ∧ r = nI (hexn (j % 16))) ∨ (y = nI 2 ∧ r = nI (sgnn (j % 16))))
theorem hexn_lt {q : Nat} (h : q < 16) : hexn q < 128 := by
  unfold hexn
  split <;> omega
theorem sgnn_lt (q : Nat) : sgnn q < 128 := by
  unfold sgnn
  split
  · omega
  · split <;> omega
theorem nI_dn {a b : Nat} (h : b ≤ a) : nI a + nI b * (-1) = nI (a - b) := by
  rw [← pk_sub h, Int32.mul_neg, Int32.mul_one, Int32.sub_eq_add_neg]
theorem i_cancel (a b : Int32) : a + b - a = b := by
  rw [Int32.add_comm]
  exact Int32.add_sub_cancel b a
theorem wh_B {n n2 : Nat → Nat} {g g2 : Nat → Nat → Int32} {j p q d : Nat} {r : Int32} (h : R_tr n g j p q r n2 g2 d) (hB : mo_B n) : mo_B n2 := by
  rcases h with ⟨-, -, rfl, -, -⟩ | ⟨-, -, -, ⟨h3, rfl, -⟩ | ⟨-, rfl, -⟩⟩
  · exact hB
  · exact ⟨hB.1, hB.2.1, hB.2.2.1, by show n 3 + 1 ≤ 200; omega⟩
  · exact hB
theorem wh_g {n n2 : Nat → Nat} {g g2 : Nat → Nat → Int32} {j p q d : Nat} {r : Int32} (h : R_tr n g j p q r n2 g2 d) {k : Nat} (hk : k ≠ 11) : g2 k = g k := by
  rcases h with ⟨-, -, -, rfl, -⟩ | ⟨-, -, -, ⟨-, -, rfl⟩ | ⟨-, -, rfl⟩⟩
  · rfl
  · exact va_up_ne _ _ hk
  · rfl
theorem wh_n {n n2 : Nat → Nat} {g g2 : Nat → Nat → Int32} {j p q d : Nat} {r : Int32} (h : R_tr n g j p q r n2 g2 d) {k : Nat} (hk : k ≠ 3) : n2 k = n k := by
  rcases h with ⟨-, -, rfl, -, -⟩ | ⟨-, -, -, ⟨-, rfl, -⟩ | ⟨-, rfl, -⟩⟩
  · rfl
  · exact va_up_ne _ _ hk
  · rfl
/-- what the walk over a text keeps -/
def wh_K (n : Nat → Nat) (g : Nat → Nat → Int32) (t kk : Nat) (n1 : Nat → Nat) (g1 : Nat → Nat → Int32) : Prop := n1 0 = n 0 ∧ (∀ i, g1 9 i = g 9 i) ∧ ∀ i, kk ≤ i → g1 8 (40 * t + i) = g 8 (40 * t + i)
theorem wh_k {n n1 n2 : Nat → Nat} {g g1 g2 : Nat → Nat → Int32} {t kk j p q d : Nat} {r : Int32} (hK : wh_K n g t kk n1 g1) (h : R_tr n1 g1 j p q r n2 g2 d) (x : Int32) : wh_K n g t (kk + 1) n2 (va_up g2 8 (upd (g2 8) (40 * t + kk) x)) := by
  refine ⟨(wh_n h (by decide)).trans hK.1, fun i => ?_, fun i hi => ?_⟩
  · rw [va_up_ne _ _ (by decide), wh_g h (by decide)]
    exact hK.2.1 i
  · rw [va_up_self, pk_un (by omega), wh_g h (by decide)]
    exact hK.2.2 i (by omega)
end
section
/-! pure words for the class's own orders and pages -/
theorem wh_nxt {f : Nat → Int32} {a : Nat} {h : Nat → Int32} {n : Nat} {x : Int32} (hx : x = h n) {j : Nat} (hj : j = a + n) : upd (blk f a n h) j x = blk f a (n + 1) h := by
  subst hj
  exact blk_s hx
/-- the key by which codes are sorted -/
def kx (f : Nat → Int32) (c : Nat) : Int32 := if f c = -1 then nI (65536 + c) else f c
def outb (u : Nat → Int32) (d : Nat) : Bool := decide (u d = 0)
/-- those outside, below i, ranked behind nx -/
def rto (u3 u4 : Nat → Int32) (nx : Int32) (i : Nat) : Nat → Int32 := fun j => if j < i ∧ u4 j = 0 then nx + nI (cntb (outb u4) j) else u3 j
theorem rto_0 {u3 u4 : Nat → Int32} {nx : Int32} : rto u3 u4 nx 0 = u3 := by
  funext j
  exact if_neg (by omega)
theorem rto_in {u3 u4 : Nat → Int32} {nx : Int32} {i : Nat} (h : ¬ u4 i = 0) : rto u3 u4 nx (i + 1) = rto u3 u4 nx i := by
  funext j
  unfold rto
  by_cases hj : j = i
  · subst hj
    rw [if_neg (fun q => h q.2), if_neg (fun q => h q.2)]
  · by_cases h1 : j < i ∧ u4 j = 0
    · rw [if_pos h1, if_pos ⟨by omega, h1.2⟩]
    · rw [if_neg h1, if_neg (fun q => h1 ⟨by omega, q.2⟩)]
theorem rto_out {u3 u4 : Nat → Int32} {nx w : Int32} {i : Nat} (h : u4 i = 0) (hw : w = nx + nI (cntb (outb u4) i)) : upd (rto u3 u4 nx i) i w = rto u3 u4 nx (i + 1) := by
  subst hw
  funext j
  by_cases hj : j = i
  · subst hj
    rw [pk_us]
    unfold rto
    rw [if_pos ⟨by omega, h⟩]
  · rw [pk_un hj]
    unfold rto
    by_cases h1 : j < i ∧ u4 j = 0
    · rw [if_pos h1, if_pos ⟨by omega, h1.2⟩]
    · rw [if_neg h1, if_neg (fun q => h1 ⟨by omega, q.2⟩)]
theorem abs_up {a b : Nat} (h : b ≤ a) (ha : a < 2 ^ 30) : (if 0 ≤ nI a - nI b then nI a - nI b else 0 - (nI a - nI b)) = nI (a - b) := by
  rw [pk_sub h, if_pos (nI_pos' (by omega))]
theorem abs_dn {a b : Nat} (h : a ≤ b) (hb : b < 2 ^ 30) : (if 0 ≤ nI a - nI b then nI a - nI b else 0 - (nI a - nI b)) = nI (b - a) := by
  by_cases he : a = b
  · subst he
    exact abs_up (Nat.le_refl _) hb
  · have h1 : nI a - nI b < 0 := pk_sneg hb (by omega)
    rw [if_neg (Int32.not_le.mpr h1), ← pk_sub h]
    apply Int32.toBitVec_inj.mp
    simp
/-- the distance of the i-th code of a range from its start -/
def dst (up : Bool) (f t i : Nat) : Nat := match up with
  | true => i
  | false => f - t - i
def tlo (up : Bool) (f t : Nat) : Nat := match up with
  | true => f
  | false => t
theorem max_up {a b : Nat} (h : a ≤ b) (hb : b < 2 ^ 31) : (if nI a < nI b then nI b else nI a) = nI b := by
  by_cases he : a = b
  · subst he
    split <;> rfl
  · rw [if_pos (nI_lt (by omega) hb)]
theorem tag_no {M : mw} {a b : Nat} (h : M a = none) {e : va_E} (hb : M b = some e) : a ≠ b := fun q => by rw [q, hb] at h; cases h
end
section
/-! sorting by insertion: K the keys; s the codes in their order -/
theorem cntb_ext {b b' : Nat → Bool} : ∀ {c : Nat}, (∀ y, y < c → b y = b' y) → cntb b c = cntb b' c
  | 0, _ => rfl
  | c + 1, h => by
    rw [cntb, cntb, cntb_ext (fun y hy => h y (by omega)), h c (by omega)]
theorem cntb_add {b b' : Nat → Bool} {x : Nat} (hb : b x = false) (hb' : b' x = true) (he : ∀ y, y ≠ x → b' y = b y) : ∀ {c : Nat}, x < c → cntb b' c = cntb b c + 1
  | 0, h => absurd h (Nat.not_lt_zero _)
  | c + 1, h => by
    by_cases hx : x = c
    · subst hx
      rw [cntb, cntb, cntb_ext (b := b') (b' := b) (fun y hy => he y (by omega)), hb, hb']
      simp
    · rw [cntb, cntb, cntb_add hb hb' he (show x < c by omega), he c (by omega)]
      omega
theorem cntb_no {b : Nat → Bool} : ∀ {c : Nat}, (∀ y, y < c → b y = false) → cntb b c = 0
  | 0, _ => rfl
  | c + 1, h => by
    rw [cntb, cntb_no (fun y hy => h y (by omega)), h c (by omega)]
    simp
def ltb (K : Nat → Int) (x y : Nat) : Bool := decide (K y < K x)
def srt (K : Nat → Int) (s : Nat → Nat) (c : Nat) : Prop := (∀ i, i < c → s i < c) ∧ (∀ i j, i < j → j < c → K (s i) < K (s j)) ∧ (∀ x, x < c → ∃ i, i < c ∧ s i = x) ∧ ∀ i, i < c → cntb (ltb K (s i)) c = i
def insn (s : Nat → Nat) (p c : Nat) : Nat → Nat := fun j => if j < p then s j else if j = p then c else s (j - 1)
theorem insn_lo {s : Nat → Nat} {p c j : Nat} (h : j < p) : insn s p c j = s j := if_pos h
theorem insn_at {s : Nat → Nat} {p c : Nat} : insn s p c p = c := by
  unfold insn
  rw [if_neg (by omega), if_pos rfl]
theorem insn_hi {s : Nat → Nat} {p c j : Nat} (h : p ≤ j) : insn s p c (j + 1) = s j := by
  unfold insn
  rw [if_neg (by omega), if_neg (by omega)]
  rfl
theorem srt_0 {K : Nat → Int} {s : Nat → Nat} : srt K s 0 := ⟨fun _ h => absurd h (Nat.not_lt_zero _), fun _ _ _ h => absurd h (Nat.not_lt_zero _), fun _ h => absurd h (Nat.not_lt_zero _), fun _ h => absurd h (Nat.not_lt_zero _)⟩
theorem srt_ins {K : Nat → Int} {s : Nat → Nat} {c p : Nat} (h : srt K s c) (hp : p ≤ c) (hhi : ∀ j, p ≤ j → j < c → K c < K (s j)) (hlo : p = 0 ∨ K (s (p - 1)) < K c) : srt K (insn s p c) (c + 1) := by
  obtain ⟨h1, h2, h3, h4⟩ := h
  have lo : ∀ j, j < p → K (s j) < K c := by
    intro j hj
    rcases hlo with h0 | h0
    · omega
    · by_cases hj1 : j = p - 1
      · rw [hj1]
        exact h0
      · exact Int.lt_trans (h2 j (p - 1) (by omega) (by omega)) h0
  -- how many are below c
  have hc : cntb (ltb K c) c = p := by
    by_cases h0 : p = 0
    · rw [h0]
      refine cntb_no (fun y hy => ?_)
      obtain ⟨i, hi, rfl⟩ := h3 y hy
      have := hhi i (by omega) hi
      exact decide_eq_false (by omega)
    · have hx := h1 (p - 1) (by omega)
      have key : cntb (ltb K c) c = cntb (ltb K (s (p - 1))) c + 1 := by
        have e1 : cntb (ltb K c) c = cntb (fun y => ltb K (s (p - 1)) y || decide (y = s (p - 1))) c := by
          refine cntb_ext (fun y hy => ?_)
          obtain ⟨i, hi, rfl⟩ := h3 y hy
          by_cases hip : i < p
          · have g1 := lo i hip
            by_cases hi1 : i = p - 1
            · rw [hi1]
              rw [hi1] at g1
              simp [ltb, g1]
            · have g2 := h2 i (p - 1) (by omega) (by omega)
              simp [ltb, g1, g2]
          · have g1 := hhi i (by omega) hi
            have g2 := h2 (p - 1) i (by omega) hi
            have g3 : s i ≠ s (p - 1) := fun q => by rw [q] at g2; omega
            have g4 : ¬ K (s i) < K c := by omega
            have g5 : ¬ K (s i) < K (s (p - 1)) := by omega
            simp [ltb, g3, g4, g5]
        rw [e1]
        refine cntb_add (x := s (p - 1)) ?_ ?_ (fun y hy => ?_) hx
        · exact decide_eq_false (by omega)
        · simp
        · simp [hy]
      rw [key, h4 (p - 1) (by omega)]
      omega
  refine ⟨fun i hi => ?_, fun i j hij hj => ?_, fun x hx => ?_, fun i hi => ?_⟩
  · by_cases g1 : i < p
    · rw [insn_lo g1]
      have := h1 i (by omega)
      omega
    · by_cases g2 : i = p
      · subst g2
        rw [insn_at]
        omega
      · obtain ⟨j, rfl⟩ : ∃ j, i = j + 1 := ⟨i - 1, by omega⟩
        rw [insn_hi (by omega)]
        have := h1 j (by omega)
        omega
  · by_cases g1 : i < p
    · rw [insn_lo g1]
      by_cases g2 : j < p
      · rw [insn_lo g2]
        exact h2 i j hij (by omega)
      · by_cases g3 : j = p
        · subst g3
          rw [insn_at]
          exact lo i g1
        · obtain ⟨j', rfl⟩ : ∃ j', j = j' + 1 := ⟨j - 1, by omega⟩
          rw [insn_hi (by omega)]
          exact Int.lt_trans (lo i g1) (hhi j' (by omega) (by omega))
    · by_cases g2 : i = p
      · subst g2
        rw [insn_at]
        obtain ⟨j', rfl⟩ : ∃ j', j = j' + 1 := ⟨j - 1, by omega⟩
        rw [insn_hi (by omega)]
        exact hhi j' (by omega) (by omega)
      · obtain ⟨i', rfl⟩ : ∃ i', i = i' + 1 := ⟨i - 1, by omega⟩
        obtain ⟨j', rfl⟩ : ∃ j', j = j' + 1 := ⟨j - 1, by omega⟩
        rw [insn_hi (by omega), insn_hi (by omega)]
        exact h2 i' j' (by omega) (by omega)
  · by_cases g1 : x = c
    · subst g1
      exact ⟨p, by omega, insn_at⟩
    · obtain ⟨i, hi, rfl⟩ := h3 x (by omega)
      by_cases g2 : i < p
      · exact ⟨i, by omega, insn_lo g2⟩
      · exact ⟨i + 1, by omega, insn_hi (by omega)⟩
  · by_cases g1 : i < p
    · rw [insn_lo g1]
      have g3 := lo i g1
      rw [cntb_f (show ltb K (s i) c = false from decide_eq_false (by omega))]
      exact h4 i (by omega)
    · by_cases g2 : i = p
      · subst g2
        rw [insn_at, cntb_f (show ltb K c c = false from decide_eq_false (by omega))]
        exact hc
      · obtain ⟨i', rfl⟩ : ∃ i', i = i' + 1 := ⟨i - 1, by omega⟩
        rw [insn_hi (by omega)]
        have g3 := hhi i' (by omega) (by omega)
        rw [cntb_t (show ltb K (s i') c = true from decide_eq_true g3), h4 i' (by omega)]
theorem nI_sub1 {p : Nat} (h : 0 < p) : nI p - 1 = nI (p - 1) := by
  obtain ⟨q, rfl⟩ : ∃ q, p = q + 1 := ⟨p - 1, by omega⟩
  exact nI_pred q
def Kx (f : Nat → Int32) (c : Nat) : Int := (kx f c).toInt
theorem lo_of {f : Nat → Int32} (hK : ∀ x y, x < 256 → y < 256 → kx f x = kx f y → x = y) {c x : Nat} (hc : c < 256) (hx : x < 256) (hne : x ≠ c) (h : kx f x ≤ kx f c) : Kx f x < Kx f c := by
  have h1 : (kx f x).toInt ≤ (kx f c).toInt := Int32.le_iff_toInt_le.mp h
  have h2 : (kx f x).toInt ≠ (kx f c).toInt := fun q => hne (hK x c hx hc (Int32.toInt_inj.mp q))
  unfold Kx
  omega
theorem ins_F {F1 : Nat → Int32} {s : Nat → Nat} {p c : Nat} (h1 : ∀ j, j < p → F1 j = nI (s j)) (h2 : ∀ j, p ≤ j → j < c → F1 (j + 1) = nI (s j)) : ∀ i, i < c + 1 → upd F1 p (nI c) i = nI (insn s p c i) := by
  intro i hi
  by_cases g1 : i < p
  · rw [pk_un (by omega), insn_lo g1, h1 i g1]
  · by_cases g2 : i = p
    · subst g2
      rw [pk_us, insn_at]
    · obtain ⟨j, rfl⟩ : ∃ j, i = j + 1 := ⟨i - 1, by omega⟩
      rw [pk_un g2, insn_hi (by omega), h2 j (by omega) (by omega)]
theorem sh_lo {F1 : Nat → Int32} {s : Nat → Nat} {p : Nat} {x : Int32} (h1 : ∀ j, j < p → F1 j = nI (s j)) (hp : 0 < p) : ∀ j, j < p - 1 → upd F1 p x j = nI (s j) := fun j hj => by rw [pk_un (by omega), h1 j (by omega)]
theorem sh_hi {F1 : Nat → Int32} {s : Nat → Nat} {p c : Nat} (h1 : ∀ j, j < p → F1 j = nI (s j)) (h2 : ∀ j, p ≤ j → j < c → F1 (j + 1) = nI (s j)) (hp : 0 < p) : ∀ j, p - 1 ≤ j → j < c → upd F1 p (F1 (p - 1)) (j + 1) = nI (s j) := fun j hj hc => by
  by_cases g : j = p - 1
  · subst g
    rw [show p - 1 + 1 = p by omega, pk_us, h1 (p - 1) (by omega)]
  · rw [pk_un (by omega), h2 j (by omega) hc]
theorem sh_k {f : Nat → Int32} {s : Nat → Nat} {p c : Nat} (h : ∀ j, p ≤ j → j < c → Kx f c < Kx f (s j)) (hp : 0 < p) (h1 : Kx f c < Kx f (s (p - 1))) : ∀ j, p - 1 ≤ j → j < c → Kx f c < Kx f (s j) := fun j hj hc => by
  by_cases g : j = p - 1
  · subst g
    exact h1
  · exact h j (by omega) hc
theorem rk_step {K : Nat → Int} {s : Nat → Nat} {R3 : Nat → Int32} {kk : Nat} (hs : srt K s 256) (h : ∀ i, i < kk → R3 (s i) = nI i) (hk : kk < 256) : ∀ i, i < kk + 1 → upd R3 (s kk) (nI kk) (s i) = nI i := by
  intro i hi
  by_cases g : i = kk
  · subst g
    exact pk_us
  · have := hs.2.1 i kk (by omega) hk
    rw [pk_un (fun q => by rw [q] at this; omega), h i (by omega)]
theorem rk_end {K : Nat → Int} {s : Nat → Nat} {R3 : Nat → Int32} (hs : srt K s 256) (h : ∀ i, i < 256 → R3 (s i) = nI i) : ∀ x, x < 256 → R3 x = nI (cntb (ltb K x) 256) := by
  intro x hx
  obtain ⟨i, hi, rfl⟩ := hs.2.2.1 x hx
  rw [h i hi, hs.2.2.2 i hi]
end
section
/-! THE CLASS'S CELLS: h its object and four arrays, b the objects and arrays of pages (1, 2), orders (3, 4, 5), texts (6, 7); n how many; c what they hold; T says of an address what it is -/
def up3 (c : Nat → Nat → Nat → Int32) (j i : Nat) (f : Nat → Int32) : Nat → Nat → Nat → Int32 := va_up c j (va_up (c j) i f)
theorem up3_s {c : Nat → Nat → Nat → Int32} {j i : Nat} {f : Nat → Int32} : up3 c j i f j i = f := by unfold up3; rw [va_up_self, va_up_self]
theorem up3_n {c : Nat → Nat → Nat → Int32} {j i q : Nat} {f : Nat → Int32} (h : q ≠ i) : up3 c j i f j q = c j q := by unfold up3; rw [va_up_self, va_up_ne _ _ h]
theorem up3_o {c : Nat → Nat → Nat → Int32} {j i q : Nat} {f : Nat → Int32} (h : q ≠ j) : up3 c j i f q = c q := by unfold up3; rw [va_up_ne _ _ h]
abbrev cp_r (h n : Nat → Nat) : va_E := .inr (4, [.ref (h 1), .ref (h 2), .ref (h 3), .ref (h 4), .int (nI (n 0)), .int (nI (n 1)), .int (nI (n 2)), .int (nI (n 3))])
abbrev cp_pg (b : Nat → Nat → Nat) (c : Nat → Nat → Nat → Int32) (p : Nat) : va_E := .inr (2, [.ref (b 2 p), .int (c 2 p 0)])
abbrev cp_or (b : Nat → Nat → Nat) (c : Nat → Nat → Nat → Int32) (o : Nat) : va_E := .inr (1, [.int (c 6 o 0), .ref (b 4 o), .ref (b 5 o), .int (c 5 o 0)])
abbrev cp_tx (b : Nat → Nat → Nat) (c : Nat → Nat → Nat → Int32) (t : Nat) : va_E := .inr (3, [.ref (b 7 t), .int (c 8 t 0)])
def cp_R (k : Nat → ClassId) (h : Nat → Nat) (b : Nat → Nat → Nat) (n : Nat → Nat) (c : Nat → Nat → Nat → Int32) (M : mw) : Prop :=
  (M (h 0) = some (cp_r h n) ∧ M (h 1) = some (cp_q (k 2) 12 (n 0) (b 1)) ∧ M (h 2) = some (cp_q (k 3) 12 (n 1) (b 3)) ∧ M (h 3) = some (cp_q (k 4) 40 (n 2) (b 6)) ∧ M (h 4) = some (.inl (k 0, 200, .inl (c 9 0)))) ∧
  (∀ p, p < n 0 → M (b 1 p) = some (cp_pg b c p) ∧ M (b 2 p) = some (.inl (k 0, 256, .inl (c 1 p)))) ∧
  (∀ o, o < n 1 → M (b 3 o) = some (cp_or b c o) ∧ M (b 4 o) = some (.inl (k 0, 256, .inl (c 3 o))) ∧ M (b 5 o) = some (.inl (k 1, 256, .inl (c 4 o)))) ∧
  (∀ t, t < n 2 → M (b 6 t) = some (cp_tx b c t) ∧ M (b 7 t) = some (.inl (k 0, 40, .inl (c 7 t))))
def cp_T (h : Nat → Nat) (b : Nat → Nat → Nat) (T : Nat → Nat × Nat) (n : Nat → Nat) : Prop :=
  (∀ j, j < 5 → T (h j) = (0, j)) ∧ (∀ p, p < n 0 → T (b 1 p) = (1, p) ∧ T (b 2 p) = (2, p)) ∧ (∀ o, o < n 1 → T (b 3 o) = (3, o) ∧ T (b 4 o) = (4, o) ∧ T (b 5 o) = (5, o)) ∧ (∀ t, t < n 2 → T (b 6 t) = (6, t) ∧ T (b 7 t) = (7, t))
theorem tg {T : Nat → Nat × Nat} {x y : Nat} {a b : Nat × Nat} (hx : T x = a) (hy : T y = b) (h : a ≠ b) : x ≠ y := fun e => h (by rw [← hx, ← hy, e])
theorem q_add {n : Nat} {pa : Nat → Nat} {a : Nat} : va_up (fun p => if p < n then some (pa p) else none) n (some a) = fun p => if p < n + 1 then some (va_up pa n a p) else none := by
  funext p
  by_cases h : p = n
  · subst h
    rw [va_up_self, if_pos (by omega), va_up_self]
  · rw [va_up_ne _ _ h, va_up_ne _ _ h]
    by_cases h2 : p < n
    · rw [if_pos h2, if_pos (by omega)]
    · rw [if_neg h2, if_neg (by omega)]
def up2 (b : Nat → Nat → Nat) (j i a : Nat) : Nat → Nat → Nat := va_up b j (va_up (b j) i a)
theorem up2_s {b : Nat → Nat → Nat} {j i a : Nat} : up2 b j i a j i = a := by unfold up2; rw [va_up_self, va_up_self]
theorem up2_n {b : Nat → Nat → Nat} {j i q a : Nat} (h : q ≠ i) : up2 b j i a j q = b j q := by unfold up2; rw [va_up_self, va_up_ne _ _ h]
theorem up2_o {b : Nat → Nat → Nat} {j i q a : Nat} (h : q ≠ j) : up2 b j i a q = b q := by unfold up2; rw [va_up_ne _ _ h]
section CP
variable {k : Nat → ClassId} {h : Nat → Nat} {b : Nat → Nat → Nat} {T : Nat → Nat × Nat} {n : Nat → Nat} {c : Nat → Nat → Nat → Int32} {M M1 : mw}
theorem cp_fix {M : mw} {a : Nat} {e e2 : va_E} (h : M a = some e) (he : e = e2) : M a = some e2 := he ▸ h
theorem cp_set1 (hR : cp_R k h b n c M) (hT : cp_T h b T n) {p : Nat} (hp : p < n 0) {f : Nat → Int32} (g1 : M1 (b 2 p) = some (.inl (k 0, 256, .inl f))) (hf : ∀ x, x ≠ b 2 p → M1 x = M x) : cp_R k h b n (up3 c 1 p f) M1 := by
  refine ⟨⟨(hf _ (tg (hT.1 0 (by decide)) (hT.2.1 p hp).2 (by simp))).trans hR.1.1, (hf _ (tg (hT.1 1 (by decide)) (hT.2.1 p hp).2 (by simp))).trans hR.1.2.1, (hf _ (tg (hT.1 2 (by decide)) (hT.2.1 p hp).2 (by simp))).trans hR.1.2.2.1, (hf _ (tg (hT.1 3 (by decide)) (hT.2.1 p hp).2 (by simp))).trans hR.1.2.2.2.1, (hf _ (tg (hT.1 4 (by decide)) (hT.2.1 p hp).2 (by simp))).trans hR.1.2.2.2.2⟩, ?_, ?_, ?_⟩
  · intro p9 hp9
    by_cases hq : p9 = p
    · subst hq
      refine ⟨?_, ?_⟩
      · exact cp_fix ((hf _ (tg (hT.2.1 p9 hp9).1 (hT.2.1 p9 hp9).2 (by simp))).trans (hR.2.1 p9 hp9).1) (by simp [cp_pg, cp_or, cp_tx, up3, va_up])
      · exact cp_fix (g1) (by simp [cp_pg, cp_or, cp_tx, up3, va_up])
    · refine ⟨?_, ?_⟩
      · exact cp_fix ((hf _ (tg (hT.2.1 p9 hp9).1 (hT.2.1 p hp).2 (by simp))).trans (hR.2.1 p9 hp9).1) (by simp [cp_pg, cp_or, cp_tx, up3, va_up, hq])
      · exact cp_fix ((hf _ (tg (hT.2.1 p9 hp9).2 (hT.2.1 p hp).2 (by simp [hq]))).trans (hR.2.1 p9 hp9).2) (by simp [cp_pg, cp_or, cp_tx, up3, va_up, hq])
  · intro o9 ho9
    refine ⟨?_, ?_, ?_⟩
    · exact cp_fix ((hf _ (tg (hT.2.2.1 o9 ho9).1 (hT.2.1 p hp).2 (by simp))).trans (hR.2.2.1 o9 ho9).1) (by simp [cp_pg, cp_or, cp_tx, up3, va_up])
    · exact cp_fix ((hf _ (tg (hT.2.2.1 o9 ho9).2.1 (hT.2.1 p hp).2 (by simp))).trans (hR.2.2.1 o9 ho9).2.1) (by simp [cp_pg, cp_or, cp_tx, up3, va_up])
    · exact cp_fix ((hf _ (tg (hT.2.2.1 o9 ho9).2.2 (hT.2.1 p hp).2 (by simp))).trans (hR.2.2.1 o9 ho9).2.2) (by simp [cp_pg, cp_or, cp_tx, up3, va_up])
  · intro t9 ht9
    refine ⟨?_, ?_⟩
    · exact cp_fix ((hf _ (tg (hT.2.2.2 t9 ht9).1 (hT.2.1 p hp).2 (by simp))).trans (hR.2.2.2 t9 ht9).1) (by simp [cp_pg, cp_or, cp_tx, up3, va_up])
    · exact cp_fix ((hf _ (tg (hT.2.2.2 t9 ht9).2 (hT.2.1 p hp).2 (by simp))).trans (hR.2.2.2 t9 ht9).2) (by simp [cp_pg, cp_or, cp_tx, up3, va_up])

theorem cp_set2 (hR : cp_R k h b n c M) (hT : cp_T h b T n) {p : Nat} (hp : p < n 0) {x : Int32} (g1 : M1 (b 1 p) = some (.inr (2, [.ref (b 2 p), .int x]))) (hf : ∀ x, x ≠ b 1 p → M1 x = M x) : cp_R k h b n (up3 c 2 p (fun _ => x)) M1 := by
  refine ⟨⟨(hf _ (tg (hT.1 0 (by decide)) (hT.2.1 p hp).1 (by simp))).trans hR.1.1, (hf _ (tg (hT.1 1 (by decide)) (hT.2.1 p hp).1 (by simp))).trans hR.1.2.1, (hf _ (tg (hT.1 2 (by decide)) (hT.2.1 p hp).1 (by simp))).trans hR.1.2.2.1, (hf _ (tg (hT.1 3 (by decide)) (hT.2.1 p hp).1 (by simp))).trans hR.1.2.2.2.1, (hf _ (tg (hT.1 4 (by decide)) (hT.2.1 p hp).1 (by simp))).trans hR.1.2.2.2.2⟩, ?_, ?_, ?_⟩
  · intro p9 hp9
    by_cases hq : p9 = p
    · subst hq
      refine ⟨?_, ?_⟩
      · exact cp_fix (g1) (by simp [cp_pg, cp_or, cp_tx, up3, va_up])
      · exact cp_fix ((hf _ (tg (hT.2.1 p9 hp9).2 (hT.2.1 p9 hp9).1 (by simp))).trans (hR.2.1 p9 hp9).2) (by simp [cp_pg, cp_or, cp_tx, up3, va_up])
    · refine ⟨?_, ?_⟩
      · exact cp_fix ((hf _ (tg (hT.2.1 p9 hp9).1 (hT.2.1 p hp).1 (by simp [hq]))).trans (hR.2.1 p9 hp9).1) (by simp [cp_pg, cp_or, cp_tx, up3, va_up, hq])
      · exact cp_fix ((hf _ (tg (hT.2.1 p9 hp9).2 (hT.2.1 p hp).1 (by simp))).trans (hR.2.1 p9 hp9).2) (by simp [cp_pg, cp_or, cp_tx, up3, va_up, hq])
  · intro o9 ho9
    refine ⟨?_, ?_, ?_⟩
    · exact cp_fix ((hf _ (tg (hT.2.2.1 o9 ho9).1 (hT.2.1 p hp).1 (by simp))).trans (hR.2.2.1 o9 ho9).1) (by simp [cp_pg, cp_or, cp_tx, up3, va_up])
    · exact cp_fix ((hf _ (tg (hT.2.2.1 o9 ho9).2.1 (hT.2.1 p hp).1 (by simp))).trans (hR.2.2.1 o9 ho9).2.1) (by simp [cp_pg, cp_or, cp_tx, up3, va_up])
    · exact cp_fix ((hf _ (tg (hT.2.2.1 o9 ho9).2.2 (hT.2.1 p hp).1 (by simp))).trans (hR.2.2.1 o9 ho9).2.2) (by simp [cp_pg, cp_or, cp_tx, up3, va_up])
  · intro t9 ht9
    refine ⟨?_, ?_⟩
    · exact cp_fix ((hf _ (tg (hT.2.2.2 t9 ht9).1 (hT.2.1 p hp).1 (by simp))).trans (hR.2.2.2 t9 ht9).1) (by simp [cp_pg, cp_or, cp_tx, up3, va_up])
    · exact cp_fix ((hf _ (tg (hT.2.2.2 t9 ht9).2 (hT.2.1 p hp).1 (by simp))).trans (hR.2.2.2 t9 ht9).2) (by simp [cp_pg, cp_or, cp_tx, up3, va_up])

theorem cp_cod (hR : cp_R k h b n c M) (hT : cp_T h b T n) {t : Nat} (ht : t < n 2) {f : Nat → Int32} (g1 : M1 (b 7 t) = some (.inl (k 0, 40, .inl f))) (hf : ∀ x, x ≠ b 7 t → M1 x = M x) : cp_R k h b n (up3 c 7 t f) M1 := by
  refine ⟨⟨(hf _ (tg (hT.1 0 (by decide)) (hT.2.2.2 t ht).2 (by simp))).trans hR.1.1, (hf _ (tg (hT.1 1 (by decide)) (hT.2.2.2 t ht).2 (by simp))).trans hR.1.2.1, (hf _ (tg (hT.1 2 (by decide)) (hT.2.2.2 t ht).2 (by simp))).trans hR.1.2.2.1, (hf _ (tg (hT.1 3 (by decide)) (hT.2.2.2 t ht).2 (by simp))).trans hR.1.2.2.2.1, (hf _ (tg (hT.1 4 (by decide)) (hT.2.2.2 t ht).2 (by simp))).trans hR.1.2.2.2.2⟩, ?_, ?_, ?_⟩
  · intro p9 hp9
    refine ⟨?_, ?_⟩
    · exact cp_fix ((hf _ (tg (hT.2.1 p9 hp9).1 (hT.2.2.2 t ht).2 (by simp))).trans (hR.2.1 p9 hp9).1) (by simp [cp_pg, cp_or, cp_tx, up3, va_up])
    · exact cp_fix ((hf _ (tg (hT.2.1 p9 hp9).2 (hT.2.2.2 t ht).2 (by simp))).trans (hR.2.1 p9 hp9).2) (by simp [cp_pg, cp_or, cp_tx, up3, va_up])
  · intro o9 ho9
    refine ⟨?_, ?_, ?_⟩
    · exact cp_fix ((hf _ (tg (hT.2.2.1 o9 ho9).1 (hT.2.2.2 t ht).2 (by simp))).trans (hR.2.2.1 o9 ho9).1) (by simp [cp_pg, cp_or, cp_tx, up3, va_up])
    · exact cp_fix ((hf _ (tg (hT.2.2.1 o9 ho9).2.1 (hT.2.2.2 t ht).2 (by simp))).trans (hR.2.2.1 o9 ho9).2.1) (by simp [cp_pg, cp_or, cp_tx, up3, va_up])
    · exact cp_fix ((hf _ (tg (hT.2.2.1 o9 ho9).2.2 (hT.2.2.2 t ht).2 (by simp))).trans (hR.2.2.1 o9 ho9).2.2) (by simp [cp_pg, cp_or, cp_tx, up3, va_up])
  · intro t9 ht9
    by_cases hq : t9 = t
    · subst hq
      refine ⟨?_, ?_⟩
      · exact cp_fix ((hf _ (tg (hT.2.2.2 t9 ht9).1 (hT.2.2.2 t9 ht9).2 (by simp))).trans (hR.2.2.2 t9 ht9).1) (by simp [cp_pg, cp_or, cp_tx, up3, va_up])
      · exact cp_fix (g1) (by simp [cp_pg, cp_or, cp_tx, up3, va_up])
    · refine ⟨?_, ?_⟩
      · exact cp_fix ((hf _ (tg (hT.2.2.2 t9 ht9).1 (hT.2.2.2 t ht).2 (by simp))).trans (hR.2.2.2 t9 ht9).1) (by simp [cp_pg, cp_or, cp_tx, up3, va_up, hq])
      · exact cp_fix ((hf _ (tg (hT.2.2.2 t9 ht9).2 (hT.2.2.2 t ht).2 (by simp [hq]))).trans (hR.2.2.2 t9 ht9).2) (by simp [cp_pg, cp_or, cp_tx, up3, va_up, hq])

theorem cp_sgn (hR : cp_R k h b n c M) (hT : cp_T h b T n) {t : Nat} (ht : t < n 2) {f : Nat → Int32} {x : Int32} (g1 : M1 (b 7 t) = some (.inl (k 0, 40, .inl f))) (g2 : M1 (b 6 t) = some (.inr (3, [.ref (b 7 t), .int x]))) (hf : ∀ x, x ≠ b 7 t → x ≠ b 6 t → M1 x = M x) : cp_R k h b n (up3 (up3 c 7 t f) 8 t (fun _ => x)) M1 := by
  refine ⟨⟨(hf _ (tg (hT.1 0 (by decide)) (hT.2.2.2 t ht).2 (by simp)) (tg (hT.1 0 (by decide)) (hT.2.2.2 t ht).1 (by simp))).trans hR.1.1, (hf _ (tg (hT.1 1 (by decide)) (hT.2.2.2 t ht).2 (by simp)) (tg (hT.1 1 (by decide)) (hT.2.2.2 t ht).1 (by simp))).trans hR.1.2.1, (hf _ (tg (hT.1 2 (by decide)) (hT.2.2.2 t ht).2 (by simp)) (tg (hT.1 2 (by decide)) (hT.2.2.2 t ht).1 (by simp))).trans hR.1.2.2.1, (hf _ (tg (hT.1 3 (by decide)) (hT.2.2.2 t ht).2 (by simp)) (tg (hT.1 3 (by decide)) (hT.2.2.2 t ht).1 (by simp))).trans hR.1.2.2.2.1, (hf _ (tg (hT.1 4 (by decide)) (hT.2.2.2 t ht).2 (by simp)) (tg (hT.1 4 (by decide)) (hT.2.2.2 t ht).1 (by simp))).trans hR.1.2.2.2.2⟩, ?_, ?_, ?_⟩
  · intro p9 hp9
    refine ⟨?_, ?_⟩
    · exact cp_fix ((hf _ (tg (hT.2.1 p9 hp9).1 (hT.2.2.2 t ht).2 (by simp)) (tg (hT.2.1 p9 hp9).1 (hT.2.2.2 t ht).1 (by simp))).trans (hR.2.1 p9 hp9).1) (by simp [cp_pg, cp_or, cp_tx, up3, va_up])
    · exact cp_fix ((hf _ (tg (hT.2.1 p9 hp9).2 (hT.2.2.2 t ht).2 (by simp)) (tg (hT.2.1 p9 hp9).2 (hT.2.2.2 t ht).1 (by simp))).trans (hR.2.1 p9 hp9).2) (by simp [cp_pg, cp_or, cp_tx, up3, va_up])
  · intro o9 ho9
    refine ⟨?_, ?_, ?_⟩
    · exact cp_fix ((hf _ (tg (hT.2.2.1 o9 ho9).1 (hT.2.2.2 t ht).2 (by simp)) (tg (hT.2.2.1 o9 ho9).1 (hT.2.2.2 t ht).1 (by simp))).trans (hR.2.2.1 o9 ho9).1) (by simp [cp_pg, cp_or, cp_tx, up3, va_up])
    · exact cp_fix ((hf _ (tg (hT.2.2.1 o9 ho9).2.1 (hT.2.2.2 t ht).2 (by simp)) (tg (hT.2.2.1 o9 ho9).2.1 (hT.2.2.2 t ht).1 (by simp))).trans (hR.2.2.1 o9 ho9).2.1) (by simp [cp_pg, cp_or, cp_tx, up3, va_up])
    · exact cp_fix ((hf _ (tg (hT.2.2.1 o9 ho9).2.2 (hT.2.2.2 t ht).2 (by simp)) (tg (hT.2.2.1 o9 ho9).2.2 (hT.2.2.2 t ht).1 (by simp))).trans (hR.2.2.1 o9 ho9).2.2) (by simp [cp_pg, cp_or, cp_tx, up3, va_up])
  · intro t9 ht9
    by_cases hq : t9 = t
    · subst hq
      refine ⟨?_, ?_⟩
      · exact cp_fix (g2) (by simp [cp_pg, cp_or, cp_tx, up3, va_up])
      · exact cp_fix (g1) (by simp [cp_pg, cp_or, cp_tx, up3, va_up])
    · refine ⟨?_, ?_⟩
      · exact cp_fix ((hf _ (tg (hT.2.2.2 t9 ht9).1 (hT.2.2.2 t ht).2 (by simp)) (tg (hT.2.2.2 t9 ht9).1 (hT.2.2.2 t ht).1 (by simp [hq]))).trans (hR.2.2.2 t9 ht9).1) (by simp [cp_pg, cp_or, cp_tx, up3, va_up, hq])
      · exact cp_fix ((hf _ (tg (hT.2.2.2 t9 ht9).2 (hT.2.2.2 t ht).2 (by simp [hq])) (tg (hT.2.2.2 t9 ht9).2 (hT.2.2.2 t ht).1 (by simp))).trans (hR.2.2.2 t9 ht9).2) (by simp [cp_pg, cp_or, cp_tx, up3, va_up, hq])

theorem cp_ord (hR : cp_R k h b n c M) (hT : cp_T h b T n) {o : Nat} (ho : o < n 1) {f3 f4 : Nat → Int32} {x : Int32} (g1 : M1 (b 3 o) = some (.inr (1, [.int (c 6 o 0), .ref (b 4 o), .ref (b 5 o), .int x]))) (g2 : M1 (b 4 o) = some (.inl (k 0, 256, .inl f3))) (g3 : M1 (b 5 o) = some (.inl (k 1, 256, .inl f4))) (hf : ∀ x, x ≠ b 3 o → x ≠ b 4 o → x ≠ b 5 o → M1 x = M x) : cp_R k h b n (up3 (up3 (up3 c 3 o f3) 4 o f4) 5 o (fun _ => x)) M1 := by
  refine ⟨⟨(hf _ (tg (hT.1 0 (by decide)) (hT.2.2.1 o ho).1 (by simp)) (tg (hT.1 0 (by decide)) (hT.2.2.1 o ho).2.1 (by simp)) (tg (hT.1 0 (by decide)) (hT.2.2.1 o ho).2.2 (by simp))).trans hR.1.1, (hf _ (tg (hT.1 1 (by decide)) (hT.2.2.1 o ho).1 (by simp)) (tg (hT.1 1 (by decide)) (hT.2.2.1 o ho).2.1 (by simp)) (tg (hT.1 1 (by decide)) (hT.2.2.1 o ho).2.2 (by simp))).trans hR.1.2.1, (hf _ (tg (hT.1 2 (by decide)) (hT.2.2.1 o ho).1 (by simp)) (tg (hT.1 2 (by decide)) (hT.2.2.1 o ho).2.1 (by simp)) (tg (hT.1 2 (by decide)) (hT.2.2.1 o ho).2.2 (by simp))).trans hR.1.2.2.1, (hf _ (tg (hT.1 3 (by decide)) (hT.2.2.1 o ho).1 (by simp)) (tg (hT.1 3 (by decide)) (hT.2.2.1 o ho).2.1 (by simp)) (tg (hT.1 3 (by decide)) (hT.2.2.1 o ho).2.2 (by simp))).trans hR.1.2.2.2.1, (hf _ (tg (hT.1 4 (by decide)) (hT.2.2.1 o ho).1 (by simp)) (tg (hT.1 4 (by decide)) (hT.2.2.1 o ho).2.1 (by simp)) (tg (hT.1 4 (by decide)) (hT.2.2.1 o ho).2.2 (by simp))).trans hR.1.2.2.2.2⟩, ?_, ?_, ?_⟩
  · intro p9 hp9
    refine ⟨?_, ?_⟩
    · exact cp_fix ((hf _ (tg (hT.2.1 p9 hp9).1 (hT.2.2.1 o ho).1 (by simp)) (tg (hT.2.1 p9 hp9).1 (hT.2.2.1 o ho).2.1 (by simp)) (tg (hT.2.1 p9 hp9).1 (hT.2.2.1 o ho).2.2 (by simp))).trans (hR.2.1 p9 hp9).1) (by simp [cp_pg, cp_or, cp_tx, up3, va_up])
    · exact cp_fix ((hf _ (tg (hT.2.1 p9 hp9).2 (hT.2.2.1 o ho).1 (by simp)) (tg (hT.2.1 p9 hp9).2 (hT.2.2.1 o ho).2.1 (by simp)) (tg (hT.2.1 p9 hp9).2 (hT.2.2.1 o ho).2.2 (by simp))).trans (hR.2.1 p9 hp9).2) (by simp [cp_pg, cp_or, cp_tx, up3, va_up])
  · intro o9 ho9
    by_cases hq : o9 = o
    · subst hq
      refine ⟨?_, ?_, ?_⟩
      · exact cp_fix (g1) (by simp [cp_pg, cp_or, cp_tx, up3, va_up])
      · exact cp_fix (g2) (by simp [cp_pg, cp_or, cp_tx, up3, va_up])
      · exact cp_fix (g3) (by simp [cp_pg, cp_or, cp_tx, up3, va_up])
    · refine ⟨?_, ?_, ?_⟩
      · exact cp_fix ((hf _ (tg (hT.2.2.1 o9 ho9).1 (hT.2.2.1 o ho).1 (by simp [hq])) (tg (hT.2.2.1 o9 ho9).1 (hT.2.2.1 o ho).2.1 (by simp)) (tg (hT.2.2.1 o9 ho9).1 (hT.2.2.1 o ho).2.2 (by simp))).trans (hR.2.2.1 o9 ho9).1) (by simp [cp_pg, cp_or, cp_tx, up3, va_up, hq])
      · exact cp_fix ((hf _ (tg (hT.2.2.1 o9 ho9).2.1 (hT.2.2.1 o ho).1 (by simp)) (tg (hT.2.2.1 o9 ho9).2.1 (hT.2.2.1 o ho).2.1 (by simp [hq])) (tg (hT.2.2.1 o9 ho9).2.1 (hT.2.2.1 o ho).2.2 (by simp))).trans (hR.2.2.1 o9 ho9).2.1) (by simp [cp_pg, cp_or, cp_tx, up3, va_up, hq])
      · exact cp_fix ((hf _ (tg (hT.2.2.1 o9 ho9).2.2 (hT.2.2.1 o ho).1 (by simp)) (tg (hT.2.2.1 o9 ho9).2.2 (hT.2.2.1 o ho).2.1 (by simp)) (tg (hT.2.2.1 o9 ho9).2.2 (hT.2.2.1 o ho).2.2 (by simp [hq]))).trans (hR.2.2.1 o9 ho9).2.2) (by simp [cp_pg, cp_or, cp_tx, up3, va_up, hq])
  · intro t9 ht9
    refine ⟨?_, ?_⟩
    · exact cp_fix ((hf _ (tg (hT.2.2.2 t9 ht9).1 (hT.2.2.1 o ho).1 (by simp)) (tg (hT.2.2.2 t9 ht9).1 (hT.2.2.1 o ho).2.1 (by simp)) (tg (hT.2.2.2 t9 ht9).1 (hT.2.2.1 o ho).2.2 (by simp))).trans (hR.2.2.2 t9 ht9).1) (by simp [cp_pg, cp_or, cp_tx, up3, va_up])
    · exact cp_fix ((hf _ (tg (hT.2.2.2 t9 ht9).2 (hT.2.2.1 o ho).1 (by simp)) (tg (hT.2.2.2 t9 ht9).2 (hT.2.2.1 o ho).2.1 (by simp)) (tg (hT.2.2.2 t9 ht9).2 (hT.2.2.1 o ho).2.2 (by simp))).trans (hR.2.2.2 t9 ht9).2) (by simp [cp_pg, cp_or, cp_tx, up3, va_up])

theorem cp_lst (hR : cp_R k h b n c M) (hT : cp_T h b T n) {f : Nat → Int32} (g1 : M1 (h 4) = some (.inl (k 0, 200, .inl f))) (g2 : M1 (h 0) = some (cp_r h (va_up n 3 (n 3 + 1)))) (hf : ∀ x, x ≠ h 4 → x ≠ h 0 → M1 x = M x) : cp_R k h b (va_up n 3 (n 3 + 1)) (up3 c 9 0 f) M1 := by
  refine ⟨⟨g2, (hf _ (tg (hT.1 1 (by decide)) (hT.1 4 (by decide)) (by simp)) (tg (hT.1 1 (by decide)) (hT.1 0 (by decide)) (by simp))).trans hR.1.2.1, (hf _ (tg (hT.1 2 (by decide)) (hT.1 4 (by decide)) (by simp)) (tg (hT.1 2 (by decide)) (hT.1 0 (by decide)) (by simp))).trans hR.1.2.2.1, (hf _ (tg (hT.1 3 (by decide)) (hT.1 4 (by decide)) (by simp)) (tg (hT.1 3 (by decide)) (hT.1 0 (by decide)) (by simp))).trans hR.1.2.2.2.1, g1⟩, ?_, ?_, ?_⟩
  · intro p9 hp9
    refine ⟨?_, ?_⟩
    · exact cp_fix ((hf _ (tg (hT.2.1 p9 hp9).1 (hT.1 4 (by decide)) (by simp)) (tg (hT.2.1 p9 hp9).1 (hT.1 0 (by decide)) (by simp))).trans (hR.2.1 p9 hp9).1) (by simp [cp_pg, cp_or, cp_tx, up3, va_up])
    · exact cp_fix ((hf _ (tg (hT.2.1 p9 hp9).2 (hT.1 4 (by decide)) (by simp)) (tg (hT.2.1 p9 hp9).2 (hT.1 0 (by decide)) (by simp))).trans (hR.2.1 p9 hp9).2) (by simp [cp_pg, cp_or, cp_tx, up3, va_up])
  · intro o9 ho9
    refine ⟨?_, ?_, ?_⟩
    · exact cp_fix ((hf _ (tg (hT.2.2.1 o9 ho9).1 (hT.1 4 (by decide)) (by simp)) (tg (hT.2.2.1 o9 ho9).1 (hT.1 0 (by decide)) (by simp))).trans (hR.2.2.1 o9 ho9).1) (by simp [cp_pg, cp_or, cp_tx, up3, va_up])
    · exact cp_fix ((hf _ (tg (hT.2.2.1 o9 ho9).2.1 (hT.1 4 (by decide)) (by simp)) (tg (hT.2.2.1 o9 ho9).2.1 (hT.1 0 (by decide)) (by simp))).trans (hR.2.2.1 o9 ho9).2.1) (by simp [cp_pg, cp_or, cp_tx, up3, va_up])
    · exact cp_fix ((hf _ (tg (hT.2.2.1 o9 ho9).2.2 (hT.1 4 (by decide)) (by simp)) (tg (hT.2.2.1 o9 ho9).2.2 (hT.1 0 (by decide)) (by simp))).trans (hR.2.2.1 o9 ho9).2.2) (by simp [cp_pg, cp_or, cp_tx, up3, va_up])
  · intro t9 ht9
    refine ⟨?_, ?_⟩
    · exact cp_fix ((hf _ (tg (hT.2.2.2 t9 ht9).1 (hT.1 4 (by decide)) (by simp)) (tg (hT.2.2.2 t9 ht9).1 (hT.1 0 (by decide)) (by simp))).trans (hR.2.2.2 t9 ht9).1) (by simp [cp_pg, cp_or, cp_tx, up3, va_up])
    · exact cp_fix ((hf _ (tg (hT.2.2.2 t9 ht9).2 (hT.1 4 (by decide)) (by simp)) (tg (hT.2.2.2 t9 ht9).2 (hT.1 0 (by decide)) (by simp))).trans (hR.2.2.2 t9 ht9).2) (by simp [cp_pg, cp_or, cp_tx, up3, va_up])

end CP
end
section
/-! THE CLASS AND THE REFERENCE SIDE BY SIDE: what the class holds (c) is what the reference holds (g); and what always holds of g -/
def sm_P (n : Nat → Nat) (c : Nat → Nat → Nat → Int32) (g : Nat → Nat → Int32) : Prop := ∀ p, p < n 0 → c 2 p 0 = g 2 p ∧ (∃ z, z < 256 ∧ g 2 p = nI z) ∧ (∀ i, i < 256 → c 1 p i = g 1 (256 * p + i) ∧ okm (g 1 (256 * p + i))) ∧ ∀ i j, i < 256 → j < 256 → g 1 (256 * p + i) = g 1 (256 * p + j) → g 1 (256 * p + i) ≠ -1 → i = j
def sm_O (n : Nat → Nat) (c : Nat → Nat → Nat → Int32) (g : Nat → Nat → Int32) : Prop := ∀ o, o < n 1 → c 6 o 0 = bz (g 4 o = nI 2) ∧ (∀ i, i < 256 → c 3 o i = rko g o i) ∧ (g 4 o = nI 2 → c 5 o 0 = g 6 o ∧ ∀ i, i < 256 → c 4 o i = bz (g 5 (256 * o + i) ≠ -1))
def sm_X (n : Nat → Nat) (c : Nat → Nat → Nat → Int32) (L : Nat → Nat) (X : Nat → Nat → Nat) : Prop := ∀ t, t < n 2 → c 8 t 0 = nI (L t) ∧ ∀ q, q < L t → c 7 t q = nI (X t q)
def sm (n : Nat → Nat) (c : Nat → Nat → Nat → Int32) (g : Nat → Nat → Int32) (L : Nat → Nat) (X : Nat → Nat → Nat) : Prop := sm_P n c g ∧ sm_O n c g ∧ sm_X n c L X ∧ mo_X n g L X ∧ ∀ j, j < n 3 → c 9 0 j = g 11 j
theorem ff_none {f : Nat → Int32} {u : Int32} : ∀ (m i : Nat), (∀ j, i ≤ j → j < i + m → f j ≠ u) → ff f u i m = -1
  | 0, _, _ => rfl
  | m + 1, i, h => by
    rw [ff, if_neg (h i (Nat.le_refl _) (by omega))]
    exact ff_none m (i + 1) (fun j h1 h2 => h j (by omega) (by omega))
theorem ff_one {f : Nat → Int32} {u : Int32} {j : Nat} (hj : f j = u) : ∀ (m i : Nat), i ≤ j → j < i + m → (∀ q, i ≤ q → q < j → f q ≠ u) → ff f u i m = nI j
  | 0, i, h1, h2, _ => absurd h2 (by omega)
  | m + 1, i, h1, h2, h => by
    by_cases he : i = j
    · subst he
      rw [ff, if_pos hj]
    · rw [ff, if_neg (h i (Nat.le_refl _) (by omega))]
      exact ff_one hj m (i + 1) (by omega) (by omega) (fun q a b => h q (by omega) b)
theorem fl_none {f : Nat → Int32} {u : Int32} : ∀ (m : Nat), (∀ j, j < m → f j ≠ u) → fl f u m = -1
  | 0, _ => rfl
  | m + 1, h => by
    rw [fl, if_neg (h m (by omega))]
    exact fl_none m (fun j hj => h j (by omega))
theorem fl_one {f : Nat → Int32} {u : Int32} {j : Nat} (hj : f j = u) : ∀ (m : Nat), j < m → (∀ q, j < q → q < m → f q ≠ u) → fl f u m = nI j
  | 0, h, _ => absurd h (by omega)
  | m + 1, h1, h => by
    by_cases he : j = m
    · subst he
      rw [fl, if_pos hj]
    · rw [fl, if_neg (h m (by omega) (by omega))]
      exact fl_one hj m (by omega) (fun q a b => h q a (by omega))
/-- what a look-up in the reference says -/
theorem mf_spec {n : Nat → Nat} {c : Nat → Nat → Nat → Int32} {g : Nat → Nat → Int32} (h : sm_P n c g) {p : Nat} (hp : p < n 0) (u : Int32) : pfind (c 1 p) u = mf g p u ∧ ((mf g p u = -1 ∧ (u = -1 ∨ ∀ i, i < 256 → g 1 (256 * p + i) ≠ u)) ∨ ∃ j, j < 256 ∧ mf g p u = nI j ∧ g 1 (256 * p + j) = u ∧ u ≠ -1) := by
  obtain ⟨-, -, h3, h4⟩ := h p hp
  unfold pfind mf
  by_cases hu : u = -1
  · rw [if_pos hu, if_pos hu]
    exact ⟨rfl, Or.inl ⟨rfl, Or.inl hu⟩⟩
  · rw [if_neg hu, if_neg hu]
    by_cases hx : ∃ j, j < 256 ∧ g 1 (256 * p + j) = u
    · obtain ⟨j, hj, he⟩ := hx
      have un : ∀ q, q < 256 → q ≠ j → g 1 (256 * p + q) ≠ u := fun q hq hqj e => hqj (h4 q j hq hj (e.trans he.symm) (by rw [e]; exact hu))
      rw [ff_one (j := j) ((h3 j hj).1.trans he) 256 0 (by omega) (by omega) (fun q _ hq => by rw [(h3 q (by omega)).1]; exact un q (by omega) (by omega)), fl_one (f := fun i => g 1 (256 * p + i)) (j := j) he 256 hj (fun q h1 h2 => un q h2 (by omega))]
      exact ⟨rfl, Or.inr ⟨j, hj, rfl, he, hu⟩⟩
    · have no : ∀ j, j < 256 → g 1 (256 * p + j) ≠ u := fun j hj e => hx ⟨j, hj, e⟩
      rw [ff_none 256 0 (fun j _ hj => by rw [(h3 j (by omega)).1]; exact no j (by omega)), fl_none 256 (fun j hj => no j hj)]
      exact ⟨rfl, Or.inl ⟨rfl, Or.inr no⟩⟩
theorem nI_m1 {j : Nat} (hj : j < 2 ^ 31) : nI j ≠ -1 := fun e => by
  have := congrArg Int32.toInt e
  rw [nI_toInt hj] at this
  have h2 : (-1 : Int32).toInt = -1 := by decide
  omega
/-- a meaning is told -/
theorem sm_set {n : Nat → Nat} {c : Nat → Nat → Nat → Int32} {g : Nat → Nat → Int32} {L : Nat → Nat} {X : Nat → Nat → Nat} (h : sm n c g L X) {p j : Nat} (hp : p < n 0) (hj : j < 256) {u : Int32} (hu : okm u) (hm : mf g p u = -1 ∨ mf g p u = nI j) : sm n (up3 c 1 p (upd (c 1 p) j u)) (va_up g 1 (upd (g 1) (256 * p + j) u)) L X := by
  obtain ⟨h1, h2, h3, h4, h5⟩ := h
  have hs := (mf_spec h1 hp u).2
  refine ⟨fun q hq => ?_, h2, h3, h4, h5⟩
  obtain ⟨a1, a2, a3, a4⟩ := h1 q hq
  refine ⟨a1, a2, fun i hi => ?_, fun i i2 hi hi2 e1 e2 => ?_⟩
  · rw [va_up_self]
    by_cases hqp : q = p
    · subst hqp
      rw [up3_s]
      by_cases hij : i = j
      · subst hij
        rw [pk_us, pk_us]
        exact ⟨rfl, hu⟩
      · rw [pk_un hij, pk_un (by omega)]
        exact a3 i hi
    · rw [up3_n hqp, pk_un (by omega)]
      exact a3 i hi
  · rw [va_up_self] at e1 e2
    by_cases hqp : q = p
    · subst hqp
      by_cases hij : i = j
      · by_cases hi2j : i2 = j
        · omega
        · subst hij
          rw [pk_us] at e1 e2
          rw [pk_un (by omega)] at e1
          rcases hs with ⟨-, hs | hs⟩ | ⟨j2, hj2, hs1, hs2, -⟩
          · exact absurd hs e2
          · exact absurd e1.symm (hs i2 hi2)
          · rcases hm with hm | hm
            · exact absurd (hs1.symm.trans hm) (nI_m1 (by omega))
            · have := (nI_eq (by omega) (by omega)).mp (hs1.symm.trans hm)
              subst this
              exact (a4 i2 j2 hi2 hj2 (e1.symm.trans hs2.symm) (by rw [← e1]; exact e2)).symm
      · by_cases hi2j : i2 = j
        · subst hi2j
          rw [pk_us] at e1
          rw [pk_un (by omega)] at e1 e2
          rcases hs with ⟨-, hs | hs⟩ | ⟨j2, hj2, hs1, hs2, -⟩
          · exact absurd (e1.trans hs) e2
          · exact absurd e1 (hs i hi)
          · rcases hm with hm | hm
            · exact absurd (hs1.symm.trans hm) (nI_m1 (by omega))
            · have := (nI_eq (by omega) (by omega)).mp (hs1.symm.trans hm)
              subst this
              exact a4 i j2 hi hj2 (e1.trans hs2.symm) e2
        · rw [pk_un (by omega), pk_un (by omega)] at e1
          rw [pk_un (by omega)] at e2
          exact a4 i i2 hi hi2 e1 e2
    · rw [pk_un (by omega), pk_un (by omega)] at e1
      rw [pk_un (by omega)] at e2
      exact a4 i i2 hi hi2 e1 e2
theorem sm_stand {n : Nat → Nat} {c : Nat → Nat → Nat → Int32} {g : Nat → Nat → Int32} {L : Nat → Nat} {X : Nat → Nat → Nat} (h : sm n c g L X) {p j : Nat} (hj : j < 256) : sm n (up3 c 2 p (fun _ => nI j)) (va_up g 2 (upd (g 2) p (nI j))) L X := by
  obtain ⟨h1, h2, h3, h4, h5⟩ := h
  refine ⟨fun q hq => ?_, h2, h3, h4, h5⟩
  obtain ⟨a1, a2, a3, a4⟩ := h1 q hq
  refine ⟨?_, ?_, a3, a4⟩
  · rw [va_up_self]
    by_cases hqp : q = p
    · subst hqp
      rw [up3_s, pk_us]
    · rw [up3_n hqp, pk_un hqp]
      exact a1
  · rw [va_up_self]
    by_cases hqp : q = p
    · subst hqp
      exact ⟨j, hj, pk_us⟩
    · rw [pk_un hqp]
      exact a2
theorem sm_lst {n : Nat → Nat} {c : Nat → Nat → Nat → Int32} {g : Nat → Nat → Int32} {L : Nat → Nat} {X : Nat → Nat → Nat} (h : sm n c g L X) (x : Int32) : sm (va_up n 3 (n 3 + 1)) (up3 c 9 0 (upd (c 9 0) (n 3) x)) (va_up g 11 (upd (g 11) (n 3) x)) L X := by
  obtain ⟨h1, h2, h3, h4, h5⟩ := h
  refine ⟨h1, h2, h3, h4, fun j hj => ?_⟩
  rw [up3_s, va_up_self]
  rw [va_up_self] at hj
  by_cases e : j = n 3
  · subst e
    rw [pk_us, pk_us]
  · rw [pk_un e, pk_un e]
    exact h5 j (by omega)
theorem sm_sgn {n : Nat → Nat} {c : Nat → Nat → Nat → Int32} {g : Nat → Nat → Int32} {L : Nat → Nat} {X : Nat → Nat → Nat} (h : sm n c g L X) {t j : Nat} (ht : t < n 2) (hj : j < 256) (hL : L t < 40) : sm n (up3 (up3 c 7 t (upd (c 7 t) (L t) (nI j))) 8 t (fun _ => nI (L t + 1))) (va_up (va_up g 8 (upd (g 8) (40 * t + L t) (nI j))) 9 (upd (g 9) t (nI (L t + 1)))) (va_up L t (L t + 1)) (va_up X t (va_up (X t) (L t) j)) := by
  obtain ⟨h1, h2, h3, h4, h5⟩ := h
  refine ⟨h1, h2, fun q hq => ?_, fun q hq => ?_, h5⟩
  · by_cases e : q = t
    · subst e
      obtain ⟨a1, a2⟩ := h3 q hq
      refine ⟨by rw [up3_s, va_up_self], fun i hi => ?_⟩
      rw [va_up_self] at hi
      rw [up3_o (by decide), up3_s, va_up_self]
      by_cases e2 : i = L q
      · subst e2
        rw [pk_us, va_up_self]
      · rw [pk_un e2, va_up_ne _ _ e2]
        exact a2 i (by omega)
    · obtain ⟨a1, a2⟩ := h3 q hq
      refine ⟨by rw [up3_n e, up3_o (by decide), va_up_ne _ _ e]; exact a1, fun i hi => ?_⟩
      rw [va_up_ne _ _ e] at hi
      rw [up3_o (by decide), up3_n e, va_up_ne _ _ e]
      exact a2 i hi
  · obtain ⟨b1, b2, b3⟩ := h4 q hq
    rw [va_up_self, va_up_ne (va_up g 8 _) _ (show 8 ≠ 9 by decide), va_up_self]
    by_cases e : q = t
    · subst e
      rw [va_up_self, va_up_self]
      refine ⟨by omega, pk_us, fun i hi => ?_⟩
      by_cases e2 : i = L q
      · subst e2
        rw [va_up_self, pk_us]
        exact ⟨hj, rfl⟩
      · rw [va_up_ne _ _ e2, pk_un (by omega)]
        exact b3 i (by omega)
    · rw [va_up_ne _ _ e, va_up_ne _ _ e]
      have := (h4 t ht).1
      refine ⟨b1, by rw [pk_un e]; exact b2, fun i hi => ?_⟩
      rw [pk_un (by omega)]
      exact b3 i hi
/-- a code of a text is changed -/
theorem sm_cod {n : Nat → Nat} {c : Nat → Nat → Nat → Int32} {g : Nat → Nat → Int32} {L : Nat → Nat} {X : Nat → Nat → Nat} (h : sm n c g L X) {t q j : Nat} (ht : t < n 2) (hj : j < 256) (hq : q < L t) : sm n (up3 c 7 t (upd (c 7 t) q (nI j))) (va_up g 8 (upd (g 8) (40 * t + q) (nI j))) L (va_up X t (va_up (X t) q j)) := by
  obtain ⟨h1, h2, h3, h4, h5⟩ := h
  refine ⟨h1, h2, fun y hy => ?_, fun y hy => ?_, h5⟩
  · obtain ⟨a1, a2⟩ := h3 y hy
    refine ⟨a1, fun i hi => ?_⟩
    by_cases e : y = t
    · subst e
      rw [up3_s, va_up_self]
      by_cases e2 : i = q
      · subst e2
        rw [pk_us, va_up_self]
      · rw [pk_un e2, va_up_ne _ _ e2]
        exact a2 i hi
    · rw [up3_n e, va_up_ne _ _ e]
      exact a2 i hi
  · obtain ⟨b1, b2, b3⟩ := h4 y hy
    refine ⟨b1, b2, fun i hi => ?_⟩
    rw [va_up_self]
    have := (h4 t ht).1
    by_cases e : y = t
    · subst e
      rw [va_up_self]
      by_cases e2 : i = q
      · subst e2
        rw [va_up_self, pk_us]
        exact ⟨hj, rfl⟩
      · rw [va_up_ne _ _ e2, pk_un (by omega)]
        exact b3 i hi
    · rw [va_up_ne _ _ e, pk_un (by omega)]
      exact b3 i hi
theorem hgh_ext {f f2 : Nat → Int32} : ∀ {c : Nat}, (∀ i, i ≤ c → f i = f2 i) → hgh f c = hgh f2 c
  | 0, _ => rfl
  | c + 1, h => by
    have e : hgh f c = hgh f2 c := hgh_ext (fun i hi => h i (by omega))
    have := hgh_le f2 c
    rw [hgh, hgh, e, h (c + 1) (Nat.le_refl _), h (hgh f2 c) (by omega)]
end
section
set_option maxHeartbeats 4000000 in
set_option maxRecDepth 100000 in
theorem tX3_isCode (l : Launch) (D : va_G) (k : Nat → ClassId) (M : mw) (sz : Nat) (x : Int32) : Met l yX3_isCode wsX3_isCode ({ frames := 0, cells := 0, slots := 0, locals := 0 }) (va_Pc [.int x] (mw_U D vwCl (TY k) M sz)) (va_Qi (fun r M1 => M1 = M ∧ (vp_in x 256 ∧ r = 1 ∨ ¬ vp_in x 256 ∧ r = 0)) (mw_B D vwCl M sz) (mw_A M sz)) 0 0 (mw_A M sz) := by
  refine mw_met (cc := cX3_isCode) (maxL := 1) (ret := (some .boolean)) (lv := [(0, .int x)]) (by decide) rfl (Nat.le_of_ble_eq_true rfl) rfl ?_
  intro p e s m below meth c ls hE hr hlocks hin hml hsz hP hS hl
  subst hsz
  have hx := hE.1
  have hb := hE.2.1
  have hA : ∀ q, s.heap.size ≤ q → mw_A M s.heap.size q := fun q h => Or.inr h
  refine lv_iload_n hx hb dX3_isCode_0 rfl (lv_at hl 0 rfl) ?_
  refine lv_if_lt (tgt := 15) hx hb dX3_isCode_1 (by decide) (fun c_1 => ?_) (fun c_1 => ?_)
  · refine lv_iconst (v := 0) hx hb dX3_isCode_15 (by decide) ?_
    exact mw_zret (v := 0) (ty := .boolean) hE hr hlocks hP hS dX3_isCode_16 (rfl) (by refine ⟨rfl, ?_⟩; simp only [rw_in (n := 256) (by decide)]; simp [c_1])
  · refine lv_iload_n hx hb dX3_isCode_4 rfl (lv_at hl 0 rfl) ?_
    refine lv_sipush (v := nI 256) hx hb dX3_isCode_5 (by decide) ?_
    refine lv_icmp_ge (tgt := 15) hx hb dX3_isCode_8 (by decide) (fun c_8 => ?_) (fun c_8 => ?_)
    · refine lv_iconst (v := 0) hx hb dX3_isCode_15 (by decide) ?_
      exact mw_zret (v := 0) (ty := .boolean) hE hr hlocks hP hS dX3_isCode_16 (rfl) (by refine ⟨rfl, ?_⟩; simp only [rw_in (n := 256) (by decide)]; simp [c_1, c_8])
    · refine lv_iconst (v := 1) hx hb dX3_isCode_11 (by decide) ?_
      refine lv_goto (tgt := 16) hx hb dX3_isCode_12 (by decide) ?_
      exact mw_zret (v := 1) (ty := .boolean) hE hr hlocks hP hS dX3_isCode_16 (rfl) (by refine ⟨rfl, ?_⟩; simp only [rw_in (n := 256) (by decide)]; simp [c_1, c_8])

set_option maxHeartbeats 4000000 in
set_option maxRecDepth 100000 in
theorem tX3_isKind (l : Launch) (D : va_G) (k : Nat → ClassId) (M : mw) (sz : Nat) (x : Int32) : Met l yX3_isKind wsX3_isKind ({ frames := 0, cells := 0, slots := 0, locals := 0 }) (va_Pc [.int x] (mw_U D vwCl (TY k) M sz)) (va_Qi (fun r M1 => M1 = M ∧ (vp_in x 3 ∧ r = 1 ∨ ¬ vp_in x 3 ∧ r = 0)) (mw_B D vwCl M sz) (mw_A M sz)) 0 0 (mw_A M sz) := by
  refine mw_met (cc := cX3_isKind) (maxL := 1) (ret := (some .boolean)) (lv := [(0, .int x)]) (by decide) rfl (Nat.le_of_ble_eq_true rfl) rfl ?_
  intro p e s m below meth c ls hE hr hlocks hin hml hsz hP hS hl
  subst hsz
  have hx := hE.1
  have hb := hE.2.1
  have hA : ∀ q, s.heap.size ≤ q → mw_A M s.heap.size q := fun q h => Or.inr h
  refine lv_iload_n hx hb dX3_isKind_0 rfl (lv_at hl 0 rfl) ?_
  refine lv_if_lt (tgt := 13) hx hb dX3_isKind_1 (by decide) (fun c_1 => ?_) (fun c_1 => ?_)
  · refine lv_iconst (v := 0) hx hb dX3_isKind_13 (by decide) ?_
    exact mw_zret (v := 0) (ty := .boolean) hE hr hlocks hP hS dX3_isKind_14 (rfl) (by refine ⟨rfl, ?_⟩; simp only [rw_in (n := 3) (by decide)]; simp [c_1])
  · refine lv_iload_n hx hb dX3_isKind_4 rfl (lv_at hl 0 rfl) ?_
    refine lv_iconst (v := nI 3) hx hb dX3_isKind_5 (by decide) ?_
    refine lv_icmp_ge (tgt := 13) hx hb dX3_isKind_6 (by decide) (fun c_6 => ?_) (fun c_6 => ?_)
    · refine lv_iconst (v := 0) hx hb dX3_isKind_13 (by decide) ?_
      exact mw_zret (v := 0) (ty := .boolean) hE hr hlocks hP hS dX3_isKind_14 (rfl) (by refine ⟨rfl, ?_⟩; simp only [rw_in (n := 3) (by decide)]; simp [c_1, c_6])
    · refine lv_iconst (v := 1) hx hb dX3_isKind_9 (by decide) ?_
      refine lv_goto (tgt := 14) hx hb dX3_isKind_10 (by decide) ?_
      exact mw_zret (v := 1) (ty := .boolean) hE hr hlocks hP hS dX3_isKind_14 (rfl) (by refine ⟨rfl, ?_⟩; simp only [rw_in (n := 3) (by decide)]; simp [c_1, c_6])

set_option maxHeartbeats 4000000 in
set_option maxRecDepth 100000 in
theorem tX4_isCode (l : Launch) (D : va_G) (k : Nat → ClassId) (M : mw) (sz : Nat) (x : Int32) : Met l yX4_isCode wsX4_isCode ({ frames := 0, cells := 0, slots := 0, locals := 0 }) (va_Pc [.int x] (mw_U D vwCl (TY k) M sz)) (va_Qi (fun r M1 => M1 = M ∧ (vp_in x 256 ∧ r = 1 ∨ ¬ vp_in x 256 ∧ r = 0)) (mw_B D vwCl M sz) (mw_A M sz)) 0 0 (mw_A M sz) := by
  refine mw_met (cc := cX4_isCode) (maxL := 1) (ret := (some .boolean)) (lv := [(0, .int x)]) (by decide) rfl (Nat.le_of_ble_eq_true rfl) rfl ?_
  intro p e s m below meth c ls hE hr hlocks hin hml hsz hP hS hl
  subst hsz
  have hx := hE.1
  have hb := hE.2.1
  have hA : ∀ q, s.heap.size ≤ q → mw_A M s.heap.size q := fun q h => Or.inr h
  refine lv_iload_n hx hb dX4_isCode_0 rfl (lv_at hl 0 rfl) ?_
  refine lv_if_lt (tgt := 15) hx hb dX4_isCode_1 (by decide) (fun c_1 => ?_) (fun c_1 => ?_)
  · refine lv_iconst (v := 0) hx hb dX4_isCode_15 (by decide) ?_
    exact mw_zret (v := 0) (ty := .boolean) hE hr hlocks hP hS dX4_isCode_16 (rfl) (by refine ⟨rfl, ?_⟩; simp only [rw_in (n := 256) (by decide)]; simp [c_1])
  · refine lv_iload_n hx hb dX4_isCode_4 rfl (lv_at hl 0 rfl) ?_
    refine lv_sipush (v := nI 256) hx hb dX4_isCode_5 (by decide) ?_
    refine lv_icmp_ge (tgt := 15) hx hb dX4_isCode_8 (by decide) (fun c_8 => ?_) (fun c_8 => ?_)
    · refine lv_iconst (v := 0) hx hb dX4_isCode_15 (by decide) ?_
      exact mw_zret (v := 0) (ty := .boolean) hE hr hlocks hP hS dX4_isCode_16 (rfl) (by refine ⟨rfl, ?_⟩; simp only [rw_in (n := 256) (by decide)]; simp [c_1, c_8])
    · refine lv_iconst (v := 1) hx hb dX4_isCode_11 (by decide) ?_
      refine lv_goto (tgt := 16) hx hb dX4_isCode_12 (by decide) ?_
      exact mw_zret (v := 1) (ty := .boolean) hE hr hlocks hP hS dX4_isCode_16 (rfl) (by refine ⟨rfl, ?_⟩; simp only [rw_in (n := 256) (by decide)]; simp [c_1, c_8])

set_option maxRecDepth 20000 in
theorem mX3_isMeaningOrNone_k150 : Cond.constant RX3 150 (65536) ∈ wsX3_isMeaningOrNone := by decide +kernel
set_option maxHeartbeats 4000000 in
set_option maxRecDepth 100000 in
theorem tX3_isMeaningOrNone (l : Launch) (D : va_G) (k : Nat → ClassId) (M : mw) (sz : Nat) (x : Int32) : Met l yX3_isMeaningOrNone wsX3_isMeaningOrNone ({ frames := 0, cells := 0, slots := 0, locals := 0 }) (va_Pc [.int x] (mw_U D vwCl (TY k) M sz)) (va_Qi (fun r M1 => M1 = M ∧ (okm x ∧ r = 1 ∨ ¬ okm x ∧ r = 0)) (mw_B D vwCl M sz) (mw_A M sz)) 0 0 (mw_A M sz) := by
  refine mw_met (cc := cX3_isMeaningOrNone) (maxL := 1) (ret := (some .boolean)) (lv := [(0, .int x)]) (by decide) rfl (Nat.le_of_ble_eq_true rfl) rfl ?_
  intro p e s m below meth c ls hE hr hlocks hin hml hsz hP hS hl
  subst hsz
  have hx := hE.1
  have hb := hE.2.1
  have hA : ∀ q, s.heap.size ≤ q → mw_A M s.heap.size q := fun q h => Or.inr h
  refine lv_iload_n hx hb dX3_isMeaningOrNone_0 rfl (lv_at hl 0 rfl) ?_
  refine lv_iconst (v := (-1)) hx hb dX3_isMeaningOrNone_1 (by decide) ?_
  refine lv_icmp_eq (tgt := 15) hx hb dX3_isMeaningOrNone_2 (by decide) (fun c_2 => ?_) (fun c_2 => ?_)
  · refine lv_iconst (v := 1) hx hb dX3_isMeaningOrNone_15 (by decide) ?_
    refine lv_goto (tgt := 20) hx hb dX3_isMeaningOrNone_16 (by decide) ?_
    exact mw_zret (v := 1) (ty := .boolean) hE hr hlocks hP hS dX3_isMeaningOrNone_20 (rfl) (by refine ⟨rfl, ?_⟩; simp only [okm, rw_in (n := 65536) (by decide)]; simp [c_2])
  · refine lv_iload_n hx hb dX3_isMeaningOrNone_5 rfl (lv_at hl 0 rfl) ?_
    refine lv_if_lt (tgt := 19) hx hb dX3_isMeaningOrNone_6 (by decide) (fun c_6 => ?_) (fun c_6 => ?_)
    · refine lv_iconst (v := 0) hx hb dX3_isMeaningOrNone_19 (by decide) ?_
      exact mw_zret (v := 0) (ty := .boolean) hE hr hlocks hP hS dX3_isMeaningOrNone_20 (rfl) (by refine ⟨rfl, ?_⟩; simp only [okm, rw_in (n := 65536) (by decide)]; simp [c_2, c_6])
    · refine lv_iload_n hx hb dX3_isMeaningOrNone_9 rfl (lv_at hl 0 rfl) ?_
      refine lv_ldc (v := nI 65536) hx hb hE.2.2.2.1 (hE.2.2.1 _ mX3_isMeaningOrNone_k150) dX3_isMeaningOrNone_10 ?_
      refine lv_icmp_ge (tgt := 19) hx hb dX3_isMeaningOrNone_12 (by decide) (fun c_12 => ?_) (fun c_12 => ?_)
      · refine lv_iconst (v := 0) hx hb dX3_isMeaningOrNone_19 (by decide) ?_
        exact mw_zret (v := 0) (ty := .boolean) hE hr hlocks hP hS dX3_isMeaningOrNone_20 (rfl) (by refine ⟨rfl, ?_⟩; simp only [okm, rw_in (n := 65536) (by decide)]; simp [c_2, c_6, c_12])
      · refine lv_iconst (v := 1) hx hb dX3_isMeaningOrNone_15 (by decide) ?_
        refine lv_goto (tgt := 20) hx hb dX3_isMeaningOrNone_16 (by decide) ?_
        exact mw_zret (v := 1) (ty := .boolean) hE hr hlocks hP hS dX3_isMeaningOrNone_20 (rfl) (by refine ⟨rfl, ?_⟩; simp only [okm, rw_in (n := 65536) (by decide)]; simp [c_2, c_6, c_12])

set_option maxHeartbeats 4000000 in
set_option maxRecDepth 100000 in
theorem tX3_isGreatLetter (l : Launch) (D : va_G) (k : Nat → ClassId) (M : mw) (sz : Nat) (x : Int32) : Met l yX3_isGreatLetter wsX3_isGreatLetter ({ frames := 0, cells := 0, slots := 0, locals := 0 }) (va_Pc [.int x] (mw_U D vwCl (TY k) M sz)) (va_Qi (fun r M1 => M1 = M ∧ r = bz (¬ x < nI 65 ∧ ¬ nI 90 < x)) (mw_B D vwCl M sz) (mw_A M sz)) 0 0 (mw_A M sz) := by
  refine mw_met (cc := cX3_isGreatLetter) (maxL := 1) (ret := (some .boolean)) (lv := [(0, .int x)]) (by decide) rfl (Nat.le_of_ble_eq_true rfl) rfl ?_
  intro p e s m below meth c ls hE hr hlocks hin hml hsz hP hS hl
  subst hsz
  have hx := hE.1
  have hb := hE.2.1
  have hA : ∀ q, s.heap.size ≤ q → mw_A M s.heap.size q := fun q h => Or.inr h
  refine lv_iload_n hx hb dX3_isGreatLetter_0 rfl (lv_at hl 0 rfl) ?_
  refine lv_bipush (v := nI 65) hx hb dX3_isGreatLetter_1 (by decide) ?_
  refine lv_icmp_lt (tgt := 16) hx hb dX3_isGreatLetter_3 (by decide) (fun c_3 => ?_) (fun c_3 => ?_)
  · refine lv_iconst (v := 0) hx hb dX3_isGreatLetter_16 (by decide) ?_
    exact mw_zret (v := 0) (ty := .boolean) hE hr hlocks hP hS dX3_isGreatLetter_17 (rfl) (by refine ⟨rfl, ?_⟩; simp [c_3, bz])
  · refine lv_iload_n hx hb dX3_isGreatLetter_6 rfl (lv_at hl 0 rfl) ?_
    refine lv_bipush (v := nI 90) hx hb dX3_isGreatLetter_7 (by decide) ?_
    refine lv_icmp_gt (tgt := 16) hx hb dX3_isGreatLetter_9 (by decide) (fun c_9 => ?_) (fun c_9 => ?_)
    · refine lv_iconst (v := 0) hx hb dX3_isGreatLetter_16 (by decide) ?_
      exact mw_zret (v := 0) (ty := .boolean) hE hr hlocks hP hS dX3_isGreatLetter_17 (rfl) (by refine ⟨rfl, ?_⟩; simp [c_3, c_9, bz])
    · refine lv_iconst (v := 1) hx hb dX3_isGreatLetter_12 (by decide) ?_
      refine lv_goto (tgt := 17) hx hb dX3_isGreatLetter_13 (by decide) ?_
      exact mw_zret (v := 1) (ty := .boolean) hE hr hlocks hP hS dX3_isGreatLetter_17 (rfl) (by refine ⟨rfl, ?_⟩; simp [c_3, c_9, bz])

set_option maxHeartbeats 4000000 in
set_option maxRecDepth 100000 in
theorem tX3_isSmallLetter (l : Launch) (D : va_G) (k : Nat → ClassId) (M : mw) (sz : Nat) (x : Int32) : Met l yX3_isSmallLetter wsX3_isSmallLetter ({ frames := 0, cells := 0, slots := 0, locals := 0 }) (va_Pc [.int x] (mw_U D vwCl (TY k) M sz)) (va_Qi (fun r M1 => M1 = M ∧ r = bz (¬ x < nI 97 ∧ ¬ nI 122 < x)) (mw_B D vwCl M sz) (mw_A M sz)) 0 0 (mw_A M sz) := by
  refine mw_met (cc := cX3_isSmallLetter) (maxL := 1) (ret := (some .boolean)) (lv := [(0, .int x)]) (by decide) rfl (Nat.le_of_ble_eq_true rfl) rfl ?_
  intro p e s m below meth c ls hE hr hlocks hin hml hsz hP hS hl
  subst hsz
  have hx := hE.1
  have hb := hE.2.1
  have hA : ∀ q, s.heap.size ≤ q → mw_A M s.heap.size q := fun q h => Or.inr h
  refine lv_iload_n hx hb dX3_isSmallLetter_0 rfl (lv_at hl 0 rfl) ?_
  refine lv_bipush (v := nI 97) hx hb dX3_isSmallLetter_1 (by decide) ?_
  refine lv_icmp_lt (tgt := 16) hx hb dX3_isSmallLetter_3 (by decide) (fun c_3 => ?_) (fun c_3 => ?_)
  · refine lv_iconst (v := 0) hx hb dX3_isSmallLetter_16 (by decide) ?_
    exact mw_zret (v := 0) (ty := .boolean) hE hr hlocks hP hS dX3_isSmallLetter_17 (rfl) (by refine ⟨rfl, ?_⟩; simp [c_3, bz])
  · refine lv_iload_n hx hb dX3_isSmallLetter_6 rfl (lv_at hl 0 rfl) ?_
    refine lv_bipush (v := nI 122) hx hb dX3_isSmallLetter_7 (by decide) ?_
    refine lv_icmp_gt (tgt := 16) hx hb dX3_isSmallLetter_9 (by decide) (fun c_9 => ?_) (fun c_9 => ?_)
    · refine lv_iconst (v := 0) hx hb dX3_isSmallLetter_16 (by decide) ?_
      exact mw_zret (v := 0) (ty := .boolean) hE hr hlocks hP hS dX3_isSmallLetter_17 (rfl) (by refine ⟨rfl, ?_⟩; simp [c_3, c_9, bz])
    · refine lv_iconst (v := 1) hx hb dX3_isSmallLetter_12 (by decide) ?_
      refine lv_goto (tgt := 17) hx hb dX3_isSmallLetter_13 (by decide) ?_
      exact mw_zret (v := 1) (ty := .boolean) hE hr hlocks hP hS dX3_isSmallLetter_17 (rfl) (by refine ⟨rfl, ?_⟩; simp [c_3, c_9, bz])

set_option maxHeartbeats 4000000 in
set_option maxRecDepth 100000 in
theorem tX3_hexDigit (l : Launch) (D : va_G) (k : Nat → ClassId) (M : mw) (sz : Nat) (q : Nat) (hq : q < 16) : Met l yX3_hexDigit wsX3_hexDigit ({ frames := 0, cells := 0, slots := 0, locals := 0 }) (va_Pc [.int (nI q)] (mw_U D vwCl (TY k) M sz)) (va_Qi (fun r M1 => M1 = M ∧ r = nI (hexn q)) (mw_B D vwCl M sz) (mw_A M sz)) 0 0 (mw_A M sz) := by
  refine mw_met (cc := cX3_hexDigit) (maxL := 1) (ret := (some .int)) (lv := [(0, .int (nI q))]) (by decide) rfl (Nat.le_of_ble_eq_true rfl) rfl ?_
  intro p e s m below meth c ls hE hr hlocks hin hml hsz hP hS hl
  subst hsz
  have hx := hE.1
  have hb := hE.2.1
  have hA : ∀ q, s.heap.size ≤ q → mw_A M s.heap.size q := fun q h => Or.inr h
  refine lv_iload_n hx hb dX3_hexDigit_0 rfl (lv_at hl 0 rfl) ?_
  refine lv_bipush (v := nI 10) hx hb dX3_hexDigit_1 (by decide) ?_
  refine lv_icmp_ge (tgt := 13) hx hb dX3_hexDigit_3 (by decide) (fun c_3 => ?_) (fun c_3 => ?_)
  · have k_3 : 10 ≤ q := nn_le (a := 10) (b := q) c_3 (by omega) (by omega)
    refine lv_bipush (v := nI 55) hx hb dX3_hexDigit_13 (by decide) ?_
    refine lv_iload_n hx hb dX3_hexDigit_15 rfl (lv_at hl 0 rfl) ?_
    refine lv_iadd hx hb dX3_hexDigit_16 ?_
    refine rw_i (v := nI (55 + q)) (nI_add _ _) ?_
    exact mw_iret (v := nI (55 + q)) hE hr hlocks hP hS dX3_hexDigit_17 (⟨rfl, by unfold hexn; rw [if_neg (by omega)]⟩)
  · have k_3 : q < 10 := nn_nle (a := 10) (b := q) c_3 (by omega) (by omega)
    refine lv_bipush (v := nI 48) hx hb dX3_hexDigit_6 (by decide) ?_
    refine lv_iload_n hx hb dX3_hexDigit_8 rfl (lv_at hl 0 rfl) ?_
    refine lv_iadd hx hb dX3_hexDigit_9 ?_
    refine rw_i (v := nI (48 + q)) (nI_add _ _) ?_
    refine lv_goto (tgt := 17) hx hb dX3_hexDigit_10 (by decide) ?_
    exact mw_iret (v := nI (48 + q)) hE hr hlocks hP hS dX3_hexDigit_17 (⟨rfl, by unfold hexn; rw [if_pos k_3]⟩)

set_option maxHeartbeats 4000000 in
set_option maxRecDepth 100000 in
theorem tX4_half (l : Launch) (D : va_G) (k : Nat → ClassId) (M : mw) (sz : Nat) (q : Nat) (hq : q < 16) : Met l yX4_half wsX4_half ({ frames := 0, cells := 0, slots := 0, locals := 0 }) (va_Pc [.int (nI q)] (mw_U D vwCl (TY k) M sz)) (va_Qi (fun r M1 => M1 = M ∧ r = nI (hexn q)) (mw_B D vwCl M sz) (mw_A M sz)) 0 0 (mw_A M sz) := by
  refine mw_met (cc := cX4_half) (maxL := 1) (ret := (some .byte)) (lv := [(0, .int (nI q))]) (by decide) rfl (Nat.le_of_ble_eq_true rfl) rfl ?_
  intro p e s m below meth c ls hE hr hlocks hin hml hsz hP hS hl
  subst hsz
  have hx := hE.1
  have hb := hE.2.1
  have hA : ∀ q, s.heap.size ≤ q → mw_A M s.heap.size q := fun q h => Or.inr h
  refine lv_iload_n hx hb dX4_half_0 rfl (lv_at hl 0 rfl) ?_
  refine lv_bipush (v := nI 10) hx hb dX4_half_1 (by decide) ?_
  refine lv_icmp_ge (tgt := 13) hx hb dX4_half_3 (by decide) (fun c_3 => ?_) (fun c_3 => ?_)
  · have k_3 : 10 ≤ q := nn_le (a := 10) (b := q) c_3 (by omega) (by omega)
    refine lv_bipush (v := nI 55) hx hb dX4_half_13 (by decide) ?_
    refine lv_iload_n hx hb dX4_half_15 rfl (lv_at hl 0 rfl) ?_
    refine lv_iadd hx hb dX4_half_16 ?_
    refine rw_i (v := nI (55 + q)) (nI_add _ _) ?_
    refine lv_i2b (v := nI (55 + q)) hx hb dX4_half_17 (byte_ok (by omega)) ?_
    exact mw_zret (v := nI (55 + q)) (ty := .byte) hE hr hlocks hP hS dX4_half_18 (byte_nar (by omega)) (⟨rfl, by unfold hexn; rw [if_neg (by omega)]⟩)
  · have k_3 : q < 10 := nn_nle (a := 10) (b := q) c_3 (by omega) (by omega)
    refine lv_bipush (v := nI 48) hx hb dX4_half_6 (by decide) ?_
    refine lv_iload_n hx hb dX4_half_8 rfl (lv_at hl 0 rfl) ?_
    refine lv_iadd hx hb dX4_half_9 ?_
    refine rw_i (v := nI (48 + q)) (nI_add _ _) ?_
    refine lv_goto (tgt := 17) hx hb dX4_half_10 (by decide) ?_
    refine lv_i2b (v := nI (48 + q)) hx hb dX4_half_17 (byte_ok (by omega)) ?_
    exact mw_zret (v := nI (48 + q)) (ty := .byte) hE hr hlocks hP hS dX4_half_18 (byte_nar (by omega)) (⟨rfl, by unfold hexn; rw [if_pos k_3]⟩)

set_option maxHeartbeats 4000000 in
set_option maxRecDepth 100000 in
theorem tX3_halfAsSign (l : Launch) (D : va_G) (k : Nat → ClassId) (M : mw) (sz : Nat) (q : Nat) (hq : q < 16) : Met l yX3_halfAsSign wsX3_halfAsSign ({ frames := 0, cells := 0, slots := 0, locals := 0 }) (va_Pc [.int (nI q)] (mw_U D vwCl (TY k) M sz)) (va_Qi (fun r M1 => M1 = M ∧ r = nI (sgnn q)) (mw_B D vwCl M sz) (mw_A M sz)) 0 0 (mw_A M sz) := by
  refine mw_met (cc := cX3_halfAsSign) (maxL := 1) (ret := (some .int)) (lv := [(0, .int (nI q))]) (by decide) rfl (Nat.le_of_ble_eq_true rfl) rfl ?_
  intro p e s m below meth c ls hE hr hlocks hin hml hsz hP hS hl
  subst hsz
  have hx := hE.1
  have hb := hE.2.1
  have hA : ∀ q, s.heap.size ≤ q → mw_A M s.heap.size q := fun q h => Or.inr h
  refine lv_iload_n hx hb dX3_halfAsSign_0 rfl (lv_at hl 0 rfl) ?_
  rcases (show q < 10 ∨ q = 10 ∨ q = 11 ∨ q = 12 ∨ q = 13 ∨ q = 14 ∨ q = 15 by omega) with hlo | rfl | rfl | rfl | rfl | rfl | rfl
  · refine lv_tableOut (tgt := 46) hx hb dX3_halfAsSign_1 (Or.inl (by rw [nI_toInt (by omega)]; omega)) (by decide) ?_
    refine lv_bipush (v := nI 63) hx hb dX3_halfAsSign_46 (by decide) ?_
    exact mw_iret (v := nI 63) hE hr hlocks hP hS dX3_halfAsSign_48 (⟨rfl, by unfold sgnn; rw [if_neg (by omega), if_neg (by omega)]⟩)
  · refine lv_tableIn (off := 39) (tgt := 40) hx hb dX3_halfAsSign_1 (by decide +kernel) (by decide +kernel) (by decide +kernel) (by decide) ?_
    refine lv_bipush (v := nI 43) hx hb dX3_halfAsSign_40 (by decide) ?_
    exact mw_iret (v := nI 43) hE hr hlocks hP hS dX3_halfAsSign_42 (⟨rfl, by decide +kernel⟩)
  · refine lv_tableIn (off := 42) (tgt := 43) hx hb dX3_halfAsSign_1 (by decide +kernel) (by decide +kernel) (by decide +kernel) (by decide) ?_
    refine lv_bipush (v := nI 45) hx hb dX3_halfAsSign_43 (by decide) ?_
    exact mw_iret (v := nI 45) hE hr hlocks hP hS dX3_halfAsSign_45 (⟨rfl, by decide +kernel⟩)
  · refine lv_tableIn (off := 39) (tgt := 40) hx hb dX3_halfAsSign_1 (by decide +kernel) (by decide +kernel) (by decide +kernel) (by decide) ?_
    refine lv_bipush (v := nI 43) hx hb dX3_halfAsSign_40 (by decide) ?_
    exact mw_iret (v := nI 43) hE hr hlocks hP hS dX3_halfAsSign_42 (⟨rfl, by decide +kernel⟩)
  · refine lv_tableIn (off := 42) (tgt := 43) hx hb dX3_halfAsSign_1 (by decide +kernel) (by decide +kernel) (by decide +kernel) (by decide) ?_
    refine lv_bipush (v := nI 45) hx hb dX3_halfAsSign_43 (by decide) ?_
    exact mw_iret (v := nI 45) hE hr hlocks hP hS dX3_halfAsSign_45 (⟨rfl, by decide +kernel⟩)
  · refine lv_tableIn (off := 39) (tgt := 40) hx hb dX3_halfAsSign_1 (by decide +kernel) (by decide +kernel) (by decide +kernel) (by decide) ?_
    refine lv_bipush (v := nI 43) hx hb dX3_halfAsSign_40 (by decide) ?_
    exact mw_iret (v := nI 43) hE hr hlocks hP hS dX3_halfAsSign_42 (⟨rfl, by decide +kernel⟩)
  · refine lv_tableIn (off := 39) (tgt := 40) hx hb dX3_halfAsSign_1 (by decide +kernel) (by decide +kernel) (by decide +kernel) (by decide) ?_
    refine lv_bipush (v := nI 43) hx hb dX3_halfAsSign_40 (by decide) ?_
    exact mw_iret (v := nI 43) hE hr hlocks hP hS dX3_halfAsSign_42 (⟨rfl, by decide +kernel⟩)

set_option maxRecDepth 20000 in
theorem mX3_pageAt_f11 : Cond.fieldLink RX3 11 "CodePages" "pages" "[LCodePages$Page;" ∈ wsX3_pageAt := by decide +kernel
set_option maxRecDepth 20000 in
theorem iX3_pageAt_X3 : ∀ w ∈ u_ws RX3 TX3 8, w ∈ wsX3_pageAt := by decide +kernel
set_option maxHeartbeats 4000000 in
set_option maxRecDepth 100000 in
theorem tX3_pageAt (l : Launch) (D : va_G) (k : Nat → ClassId) (M : mw) (sz : Nat) (h : Nat → Nat) (w : Nat → Int32) (n : Nat) (pa : Nat → Nat) (x : Int32) (hn9 : n ≤ 12) (f0 : M (h 0) = some (cp_o h w)) (f1 : M (h 1) = some (cp_q (k 2) 12 n pa)) : Met l yX3_pageAt wsX3_pageAt ({ frames := 0, cells := 0, slots := 0, locals := 0 }) (va_Pc [.ref (h 0), .int x] (mw_U D vwCl (TY k) M sz)) (va_Qq (fun r M1 => M1 = M ∧ ((∃ j : Nat, j < n ∧ x = nI j ∧ r = some (pa j)) ∨ (¬ vp_in x n ∧ r = none))) (mw_B D vwCl M sz) (mw_A M sz)) 0 0 (mw_A M sz) := by
  refine mw_met (cc := cX3_pageAt) (maxL := 2) (ret := (some (.object "CodePages$Page"))) (lv := [(0, .ref (h 0)), (1, .int x)]) (by decide) rfl (Nat.le_of_ble_eq_true rfl) rfl ?_
  intro p e s m below meth c ls hE hr hlocks hin hml hsz hP hS hl
  subst hsz
  have hx := hE.1
  have hb := hE.2.1
  have hA : ∀ q, s.heap.size ≤ q → mw_A M s.heap.size q := fun q h => Or.inr h
  refine lv_iload_n hx hb dX3_pageAt_0 rfl (lv_at hl 1 rfl) ?_
  refine lv_if_lt (tgt := 19) hx hb dX3_pageAt_1 (by decide) (fun c_1 => ?_) (fun c_1 => ?_)
  · refine lv_null hx hb dX3_pageAt_19 ?_
    exact mw_aret (r := none) hE hr hlocks hP hS dX3_pageAt_20 (⟨rfl, Or.inr ⟨fun q => by obtain ⟨j, hj, rfl⟩ := vp_in_of q (by omega); exact absurd c_1 (nI_pos (by omega)), rfl⟩⟩)
  · refine lv_iload_n hx hb dX3_pageAt_4 rfl (lv_at hl 1 rfl) ?_
    refine lv_bipush (v := nI 12) hx hb dX3_pageAt_5 (by decide) ?_
    refine lv_icmp_ge (tgt := 19) hx hb dX3_pageAt_7 (by decide) (fun c_7 => ?_) (fun c_7 => ?_)
    · refine lv_null hx hb dX3_pageAt_19 ?_
      exact mw_aret (r := none) hE hr hlocks hP hS dX3_pageAt_20 (⟨rfl, Or.inr ⟨fun q => by obtain ⟨j, hj, rfl⟩ := vp_in_of q (by omega); exact absurd (nn_le c_7 (by omega) (by omega)) (by omega), rfl⟩⟩)
    · refine lv_aload_n hx hb dX3_pageAt_10 rfl (lv_at hl 0 rfl) ?_
      refine mw_get (v := .ref (h 1)) (ci := 4) (T := TX3) (N := 8) (C := RX3) hE iX3_pageAt_X3 hP f0 rfl 0 (by decide) (hE.2.2.1 _ mX3_pageAt_f11) rfl rfl dX3_pageAt_11 ?_
      refine lv_iload_n hx hb dX3_pageAt_14 rfl (lv_at hl 1 rfl) ?_
      obtain ⟨j, hj, rfl⟩ := vp_in_of ((rw_in (x := x) (n := 12) (by decide)).mpr ⟨c_1, c_7⟩) (by decide)
      refine rw_aald hE hP 2 f1 rfl (by decide) dX3_pageAt_15 (by omega) ?_
      refine lv_goto (tgt := 20) hx hb dX3_pageAt_16 (by decide) ?_
      exact mw_aret (r := (fun p => if p < n then some (pa p) else none) j) hE hr hlocks hP hS dX3_pageAt_20 (⟨rfl, by by_cases hjn : j < n; exact Or.inl ⟨j, hjn, rfl, if_pos hjn⟩; exact Or.inr ⟨fun q => hjn ((in_nI (by omega) (by omega)).mp q), if_neg hjn⟩⟩)

set_option maxRecDepth 20000 in
theorem mX3_orderAt_f17 : Cond.fieldLink RX3 17 "CodePages" "orders" "[LCodePages$Order;" ∈ wsX3_orderAt := by decide +kernel
set_option maxRecDepth 20000 in
theorem iX3_orderAt_X3 : ∀ w ∈ u_ws RX3 TX3 8, w ∈ wsX3_orderAt := by decide +kernel
set_option maxHeartbeats 4000000 in
set_option maxRecDepth 100000 in
theorem tX3_orderAt (l : Launch) (D : va_G) (k : Nat → ClassId) (M : mw) (sz : Nat) (h : Nat → Nat) (w : Nat → Int32) (n : Nat) (pa : Nat → Nat) (x : Int32) (hn9 : n ≤ 12) (f0 : M (h 0) = some (cp_o h w)) (f1 : M (h 2) = some (cp_q (k 3) 12 n pa)) : Met l yX3_orderAt wsX3_orderAt ({ frames := 0, cells := 0, slots := 0, locals := 0 }) (va_Pc [.ref (h 0), .int x] (mw_U D vwCl (TY k) M sz)) (va_Qq (fun r M1 => M1 = M ∧ ((∃ j : Nat, j < n ∧ x = nI j ∧ r = some (pa j)) ∨ (¬ vp_in x n ∧ r = none))) (mw_B D vwCl M sz) (mw_A M sz)) 0 0 (mw_A M sz) := by
  refine mw_met (cc := cX3_orderAt) (maxL := 2) (ret := (some (.object "CodePages$Order"))) (lv := [(0, .ref (h 0)), (1, .int x)]) (by decide) rfl (Nat.le_of_ble_eq_true rfl) rfl ?_
  intro p e s m below meth c ls hE hr hlocks hin hml hsz hP hS hl
  subst hsz
  have hx := hE.1
  have hb := hE.2.1
  have hA : ∀ q, s.heap.size ≤ q → mw_A M s.heap.size q := fun q h => Or.inr h
  refine lv_iload_n hx hb dX3_orderAt_0 rfl (lv_at hl 1 rfl) ?_
  refine lv_if_lt (tgt := 19) hx hb dX3_orderAt_1 (by decide) (fun c_1 => ?_) (fun c_1 => ?_)
  · refine lv_null hx hb dX3_orderAt_19 ?_
    exact mw_aret (r := none) hE hr hlocks hP hS dX3_orderAt_20 (⟨rfl, Or.inr ⟨fun q => by obtain ⟨j, hj, rfl⟩ := vp_in_of q (by omega); exact absurd c_1 (nI_pos (by omega)), rfl⟩⟩)
  · refine lv_iload_n hx hb dX3_orderAt_4 rfl (lv_at hl 1 rfl) ?_
    refine lv_bipush (v := nI 12) hx hb dX3_orderAt_5 (by decide) ?_
    refine lv_icmp_ge (tgt := 19) hx hb dX3_orderAt_7 (by decide) (fun c_7 => ?_) (fun c_7 => ?_)
    · refine lv_null hx hb dX3_orderAt_19 ?_
      exact mw_aret (r := none) hE hr hlocks hP hS dX3_orderAt_20 (⟨rfl, Or.inr ⟨fun q => by obtain ⟨j, hj, rfl⟩ := vp_in_of q (by omega); exact absurd (nn_le c_7 (by omega) (by omega)) (by omega), rfl⟩⟩)
    · refine lv_aload_n hx hb dX3_orderAt_10 rfl (lv_at hl 0 rfl) ?_
      refine mw_get (v := .ref (h 2)) (ci := 4) (T := TX3) (N := 8) (C := RX3) hE iX3_orderAt_X3 hP f0 rfl 1 (by decide) (hE.2.2.1 _ mX3_orderAt_f17) rfl rfl dX3_orderAt_11 ?_
      refine lv_iload_n hx hb dX3_orderAt_14 rfl (lv_at hl 1 rfl) ?_
      obtain ⟨j, hj, rfl⟩ := vp_in_of ((rw_in (x := x) (n := 12) (by decide)).mpr ⟨c_1, c_7⟩) (by decide)
      refine rw_aald hE hP 3 f1 rfl (by decide) dX3_orderAt_15 (by omega) ?_
      refine lv_goto (tgt := 20) hx hb dX3_orderAt_16 (by decide) ?_
      exact mw_aret (r := (fun p => if p < n then some (pa p) else none) j) hE hr hlocks hP hS dX3_orderAt_20 (⟨rfl, by by_cases hjn : j < n; exact Or.inl ⟨j, hjn, rfl, if_pos hjn⟩; exact Or.inr ⟨fun q => hjn ((in_nI (by omega) (by omega)).mp q), if_neg hjn⟩⟩)

set_option maxRecDepth 20000 in
theorem mX3_textAt_f23 : Cond.fieldLink RX3 23 "CodePages" "texts" "[LCodePages$Text;" ∈ wsX3_textAt := by decide +kernel
set_option maxRecDepth 20000 in
theorem iX3_textAt_X3 : ∀ w ∈ u_ws RX3 TX3 8, w ∈ wsX3_textAt := by decide +kernel
set_option maxHeartbeats 4000000 in
set_option maxRecDepth 100000 in
theorem tX3_textAt (l : Launch) (D : va_G) (k : Nat → ClassId) (M : mw) (sz : Nat) (h : Nat → Nat) (w : Nat → Int32) (n : Nat) (pa : Nat → Nat) (x : Int32) (hn9 : n ≤ 40) (f0 : M (h 0) = some (cp_o h w)) (f1 : M (h 3) = some (cp_q (k 4) 40 n pa)) : Met l yX3_textAt wsX3_textAt ({ frames := 0, cells := 0, slots := 0, locals := 0 }) (va_Pc [.ref (h 0), .int x] (mw_U D vwCl (TY k) M sz)) (va_Qq (fun r M1 => M1 = M ∧ ((∃ j : Nat, j < n ∧ x = nI j ∧ r = some (pa j)) ∨ (¬ vp_in x n ∧ r = none))) (mw_B D vwCl M sz) (mw_A M sz)) 0 0 (mw_A M sz) := by
  refine mw_met (cc := cX3_textAt) (maxL := 2) (ret := (some (.object "CodePages$Text"))) (lv := [(0, .ref (h 0)), (1, .int x)]) (by decide) rfl (Nat.le_of_ble_eq_true rfl) rfl ?_
  intro p e s m below meth c ls hE hr hlocks hin hml hsz hP hS hl
  subst hsz
  have hx := hE.1
  have hb := hE.2.1
  have hA : ∀ q, s.heap.size ≤ q → mw_A M s.heap.size q := fun q h => Or.inr h
  refine lv_iload_n hx hb dX3_textAt_0 rfl (lv_at hl 1 rfl) ?_
  refine lv_if_lt (tgt := 19) hx hb dX3_textAt_1 (by decide) (fun c_1 => ?_) (fun c_1 => ?_)
  · refine lv_null hx hb dX3_textAt_19 ?_
    exact mw_aret (r := none) hE hr hlocks hP hS dX3_textAt_20 (⟨rfl, Or.inr ⟨fun q => by obtain ⟨j, hj, rfl⟩ := vp_in_of q (by omega); exact absurd c_1 (nI_pos (by omega)), rfl⟩⟩)
  · refine lv_iload_n hx hb dX3_textAt_4 rfl (lv_at hl 1 rfl) ?_
    refine lv_bipush (v := nI 40) hx hb dX3_textAt_5 (by decide) ?_
    refine lv_icmp_ge (tgt := 19) hx hb dX3_textAt_7 (by decide) (fun c_7 => ?_) (fun c_7 => ?_)
    · refine lv_null hx hb dX3_textAt_19 ?_
      exact mw_aret (r := none) hE hr hlocks hP hS dX3_textAt_20 (⟨rfl, Or.inr ⟨fun q => by obtain ⟨j, hj, rfl⟩ := vp_in_of q (by omega); exact absurd (nn_le c_7 (by omega) (by omega)) (by omega), rfl⟩⟩)
    · refine lv_aload_n hx hb dX3_textAt_10 rfl (lv_at hl 0 rfl) ?_
      refine mw_get (v := .ref (h 3)) (ci := 4) (T := TX3) (N := 8) (C := RX3) hE iX3_textAt_X3 hP f0 rfl 2 (by decide) (hE.2.2.1 _ mX3_textAt_f23) rfl rfl dX3_textAt_11 ?_
      refine lv_iload_n hx hb dX3_textAt_14 rfl (lv_at hl 1 rfl) ?_
      obtain ⟨j, hj, rfl⟩ := vp_in_of ((rw_in (x := x) (n := 40) (by decide)).mpr ⟨c_1, c_7⟩) (by decide)
      refine rw_aald hE hP 4 f1 rfl (by decide) dX3_textAt_15 (by omega) ?_
      refine lv_goto (tgt := 20) hx hb dX3_textAt_16 (by decide) ?_
      exact mw_aret (r := (fun p => if p < n then some (pa p) else none) j) hE hr hlocks hP hS dX3_textAt_20 (⟨rfl, by by_cases hjn : j < n; exact Or.inl ⟨j, hjn, rfl, if_pos hjn⟩; exact Or.inr ⟨fun q => hjn ((in_nI (by omega) (by omega)).mp q), if_neg hjn⟩⟩)

set_option maxRecDepth 20000 in
theorem mX1_codeThatMeans_f9 : Cond.fieldLink RX1 9 "CodePages$Page" "meanings" "[I" ∈ wsX1_codeThatMeans := by decide +kernel
set_option maxRecDepth 20000 in
theorem iX1_codeThatMeans_X1 : ∀ w ∈ u_ws RX1 TX1 2, w ∈ wsX1_codeThatMeans := by decide +kernel
set_option maxHeartbeats 4000000 in
set_option maxRecDepth 100000 in
theorem tX1_codeThatMeans (l : Launch) (D : va_G) (k : Nat → ClassId) (M : mw) (sz : Nat) (a b : Nat) (f : Nat → Int32) (sb u : Int32) (fa : M a = some (.inr (2, [.ref b, .int sb]))) (fb : M b = some (.inl (k 0, 256, .inl f))) : Met l yX1_codeThatMeans wsX1_codeThatMeans ({ frames := 0, cells := 0, slots := 0, locals := 0 }) (va_Pc [.ref a, .int u] (mw_U D vwCl (TY k) M sz)) (va_Qi (fun r M1 => M1 = M ∧ r = pfind f u) (mw_B D vwCl M sz) (mw_A M sz)) 0 0 (mw_A M sz) := by
  refine mw_met (cc := cX1_codeThatMeans) (maxL := 3) (ret := (some .int)) (lv := [(0, .ref a), (1, .int u)]) (by decide) rfl (Nat.le_of_ble_eq_true rfl) rfl ?_
  intro p e s m below meth c ls hE hr hlocks hin hml hsz hP hS hl
  subst hsz
  have hx := hE.1
  have hb := hE.2.1
  have hA : ∀ q, s.heap.size ≤ q → mw_A M s.heap.size q := fun q h => Or.inr h
  obtain ⟨Q, hQ⟩ : ∃ Q : State → Prop, Q = MQ below (va_Qi (fun r M1 => M1 = M ∧ r = pfind f u) (mw_B D vwCl M s.heap.size) (mw_A M s.heap.size)) ([.ref a, .int u] : List Value).toArray s 0 0 (mw_A M s.heap.size) := ⟨_, rfl⟩
  rw [← hQ]
  refine lv_iload_n hx hb dX1_codeThatMeans_0 rfl (lv_at hl 1 rfl) ?_
  refine lv_iconst (v := (-1)) hx hb dX1_codeThatMeans_1 (by decide) ?_
  refine lv_icmp_ne (tgt := 7) hx hb dX1_codeThatMeans_2 (by decide) (fun c_2 => ?_) (fun c_2 => ?_)
  · refine lv_iconst (v := 0) hx hb dX1_codeThatMeans_7 (by decide) ?_
    refine lv_istore_n (lv' := [(2, .int 0), (0, .ref a), (1, .int u)]) hx hb dX1_codeThatMeans_8 rfl hl (by decide) rfl (fun ls hl => ?_)
    have lp_9 : ∀ (fu : Nat) (i : Nat), (i ≤ 256) → (ff f u 0 256 = ff f u i (256 - i)) → 256 - i < fu → ∀ (H : Heap) (locs : List Loc), mw_Q (mw_A M s.heap.size) D vwCl M H → va_S (mw_A M s.heap.size) s.heap H locs → ∀ ls : Array Slot, lv_has ls 3 [(0, .ref a), (1, .int u), (2, .int (nI i))] → W p l e ({ frames := 0, cells := 0, slots := 0, locals := 0 } : Room) s m ([.ref a, .int u] : List Value).toArray below meth c H locs 0 0 Q (F0 m 9 ls []) := by
      intro fu
      induction fu with
      | zero => intro i hi hv hn; exact absurd hn (Nat.not_lt_zero _)
      | succ fu ih_9 =>
        intro i hi hv hn H locs hP hS ls hl
        refine lv_iload_n hx hb dX1_codeThatMeans_9 rfl (lv_at hl 2 rfl) ?_
        refine lv_sipush (v := nI 256) hx hb dX1_codeThatMeans_10 (by decide) ?_
        refine lv_icmp_ge (tgt := 34) hx hb dX1_codeThatMeans_13 (by decide) (fun c_13 => ?_) (fun c_13 => ?_)
        · have k_13 : 256 ≤ i := nn_le (a := 256) (b := i) c_13 (by omega) (by omega)
          refine lv_iconst (v := (-1)) hx hb dX1_codeThatMeans_34 (by decide) ?_
          rw [hQ]
          exact mw_iret (v := (-1)) hE hr hlocks hP hS dX1_codeThatMeans_35 (⟨rfl, by unfold pfind; rw [if_neg c_2, hv, ff_end k_13]⟩)
        · have k_13 : i < 256 := nn_nle (a := 256) (b := i) c_13 (by omega) (by omega)
          refine lv_aload_n hx hb dX1_codeThatMeans_16 rfl (lv_at hl 0 rfl) ?_
          refine mw_get (v := .ref b) (ci := 2) (T := TX1) (N := 2) (C := RX1) hE iX1_codeThatMeans_X1 hP fa rfl 0 (by decide) (hE.2.2.1 _ mX1_codeThatMeans_f9) rfl rfl dX1_codeThatMeans_17 ?_
          refine lv_iload_n hx hb dX1_codeThatMeans_20 rfl (lv_at hl 2 rfl) ?_
          refine rw_iald hE hP 0 fb rfl (by decide) dX1_codeThatMeans_21 (by omega) ?_
          refine lv_iload_n hx hb dX1_codeThatMeans_22 rfl (lv_at hl 1 rfl) ?_
          refine lv_icmp_ne (tgt := 28) hx hb dX1_codeThatMeans_23 (by decide) (fun c_23 => ?_) (fun c_23 => ?_)
          · refine lv_iinc (v := nI (i + 1)) (lv' := [(2, .int (nI (i + 1))), (0, .ref a), (1, .int u)]) hx hb dX1_codeThatMeans_28 hl (k := 2) rfl (nI_1 i) (by decide) rfl (fun ls hl => ?_)
            refine lv_goto (tgt := 9) hx hb dX1_codeThatMeans_31 (by decide) ?_
            exact ih_9 (i + 1) (by omega) (by rw [hv, ff_step k_13, if_neg c_23]) (by omega) H locs hP hS ls (lv_sub hl [1, 2, 0] rfl)
          · refine lv_iload_n hx hb dX1_codeThatMeans_26 rfl (lv_at hl 2 rfl) ?_
            rw [hQ]
            exact mw_iret (v := nI i) hE hr hlocks hP hS dX1_codeThatMeans_27 (⟨rfl, by unfold pfind; rw [if_neg c_2, hv, ff_step k_13, if_pos c_23]⟩)
    exact lp_9 (257) 0 (by omega) (rfl) (by omega) _ _ hP hS ls (lv_sub hl [1, 2, 0] rfl)
  · refine lv_iconst (v := (-1)) hx hb dX1_codeThatMeans_5 (by decide) ?_
    rw [hQ]
    exact mw_iret (v := (-1)) hE hr hlocks hP hS dX1_codeThatMeans_6 (⟨rfl, by unfold pfind; rw [if_pos c_2]⟩)
end
section
set_option maxRecDepth 20000 in
theorem mX4_thrown_f34 : Cond.fieldLink RX4 34 "CodePagesModel" "code" "I" ∈ wsX4_thrown := by decide +kernel
set_option maxRecDepth 20000 in
theorem iX4_thrown_X4 : ∀ w ∈ u_ws RX4 TX4 14, w ∈ wsX4_thrown := by decide +kernel
set_option maxHeartbeats 4000000 in
set_option maxRecDepth 100000 in
theorem tX4_thrown (l : Launch) (D : va_G) (k : Nat → ClassId) (M : mw) (sz : Nat) (ad : Nat → Nat) (v : Nat → Int32) (g : Nat → Nat → Int32) (n : Nat → Nat)  (hN : mo_N ad) (hV : mo_V v n) (hn9 : mo_B n) (hM : M = mo_M (k 0) ad v g) : Met l yX4_thrown wsX4_thrown ({ frames := 0, cells := 0, slots := 0, locals := 0 }) (va_Pc [.ref (ad 0)] (mw_U D vwCl (TY k) M sz)) (va_Qi (fun r M1 => M1 = mo_M (k 0) ad v g ∧ r = v 0) (mw_B D vwCl M sz) (mw_A M sz)) 0 0 (mw_A M sz) := by
  refine mw_met (cc := cX4_thrown) (maxL := 1) (ret := (some .int)) (lv := [(0, .ref (ad 0))]) (by decide) rfl (Nat.le_of_ble_eq_true rfl) rfl ?_
  intro p e s m below meth c ls hE hr hlocks hin hml hsz hP hS hl
  subst hsz
  have hx := hE.1
  have hb := hE.2.1
  have hA : ∀ q, s.heap.size ≤ q → mw_A M s.heap.size q := fun q h => Or.inr h
  have hP : mw_Q (mw_A M s.heap.size) D vwCl (mo_M (k 0) ad v g) s.heap := by rw [← hM]; exact hP
  obtain ⟨hb0, hb1, hb2, hb3⟩ := hn9
  refine lv_aload_n hx hb dX4_thrown_0 rfl (lv_at hl 0 rfl) ?_
  refine mo_get (x := .int (v 0)) hE iX4_thrown_X4 hP 0 (by decide) mX4_thrown_f34 rfl rfl dX4_thrown_1 ?_
  exact mw_iret (v := v 0) hE hr hlocks hP hS dX4_thrown_4 (⟨rfl, rfl⟩)

set_option maxRecDepth 20000 in
theorem mX4_isPage_f38 : Cond.fieldLink RX4 38 "CodePagesModel" "pages" "I" ∈ wsX4_isPage := by decide +kernel
set_option maxRecDepth 20000 in
theorem iX4_isPage_X4 : ∀ w ∈ u_ws RX4 TX4 14, w ∈ wsX4_isPage := by decide +kernel
set_option maxHeartbeats 4000000 in
set_option maxRecDepth 100000 in
theorem tX4_isPage (l : Launch) (D : va_G) (k : Nat → ClassId) (M : mw) (sz : Nat) (ad : Nat → Nat) (v : Nat → Int32) (g : Nat → Nat → Int32) (n : Nat → Nat) (x : Int32) (hN : mo_N ad) (hV : mo_V v n) (hn9 : mo_B n) (hM : M = mo_M (k 0) ad v g) : Met l yX4_isPage wsX4_isPage ({ frames := 0, cells := 0, slots := 0, locals := 0 }) (va_Pc [.ref (ad 0), .int x] (mw_U D vwCl (TY k) M sz)) (va_Qi (fun r M1 => M1 = mo_M (k 0) ad v g ∧ (vp_in x (n 0) ∧ r = 1 ∨ ¬ vp_in x (n 0) ∧ r = 0)) (mw_B D vwCl M sz) (mw_A M sz)) 0 0 (mw_A M sz) := by
  refine mw_met (cc := cX4_isPage) (maxL := 2) (ret := (some .boolean)) (lv := [(0, .ref (ad 0)), (1, .int x)]) (by decide) rfl (Nat.le_of_ble_eq_true rfl) rfl ?_
  intro p e s m below meth c ls hE hr hlocks hin hml hsz hP hS hl
  subst hsz
  have hx := hE.1
  have hb := hE.2.1
  have hA : ∀ q, s.heap.size ≤ q → mw_A M s.heap.size q := fun q h => Or.inr h
  have hP : mw_Q (mw_A M s.heap.size) D vwCl (mo_M (k 0) ad v g) s.heap := by rw [← hM]; exact hP
  obtain ⟨hb0, hb1, hb2, hb3⟩ := hn9
  refine lv_iload_n hx hb dX4_isPage_0 rfl (lv_at hl 1 rfl) ?_
  refine lv_if_lt (tgt := 16) hx hb dX4_isPage_1 (by decide) (fun c_1 => ?_) (fun c_1 => ?_)
  · refine lv_iconst (v := 0) hx hb dX4_isPage_16 (by decide) ?_
    exact mw_zret (v := 0) (ty := .boolean) hE hr hlocks hP hS dX4_isPage_17 (rfl) (by refine ⟨rfl, ?_⟩; simp only [rw_in (n := n 0) (by omega)]; simp [c_1])
  · refine lv_iload_n hx hb dX4_isPage_4 rfl (lv_at hl 1 rfl) ?_
    refine lv_aload_n hx hb dX4_isPage_5 rfl (lv_at hl 0 rfl) ?_
    refine mo_get (x := .int (v 3)) hE iX4_isPage_X4 hP 3 (by decide) mX4_isPage_f38 rfl rfl dX4_isPage_6 ?_
    refine rw_i (v := nI (n 0)) hV.1 ?_
    refine lv_icmp_ge (tgt := 16) hx hb dX4_isPage_9 (by decide) (fun c_9 => ?_) (fun c_9 => ?_)
    · refine lv_iconst (v := 0) hx hb dX4_isPage_16 (by decide) ?_
      exact mw_zret (v := 0) (ty := .boolean) hE hr hlocks hP hS dX4_isPage_17 (rfl) (by refine ⟨rfl, ?_⟩; simp only [rw_in (n := n 0) (by omega)]; simp [c_1, c_9])
    · refine lv_iconst (v := 1) hx hb dX4_isPage_12 (by decide) ?_
      refine lv_goto (tgt := 17) hx hb dX4_isPage_13 (by decide) ?_
      exact mw_zret (v := 1) (ty := .boolean) hE hr hlocks hP hS dX4_isPage_17 (rfl) (by refine ⟨rfl, ?_⟩; simp only [rw_in (n := n 0) (by omega)]; simp [c_1, c_9])

set_option maxRecDepth 20000 in
theorem mX4_isOrder_f41 : Cond.fieldLink RX4 41 "CodePagesModel" "orders" "I" ∈ wsX4_isOrder := by decide +kernel
set_option maxRecDepth 20000 in
theorem iX4_isOrder_X4 : ∀ w ∈ u_ws RX4 TX4 14, w ∈ wsX4_isOrder := by decide +kernel
set_option maxHeartbeats 4000000 in
set_option maxRecDepth 100000 in
theorem tX4_isOrder (l : Launch) (D : va_G) (k : Nat → ClassId) (M : mw) (sz : Nat) (ad : Nat → Nat) (v : Nat → Int32) (g : Nat → Nat → Int32) (n : Nat → Nat) (x : Int32) (hN : mo_N ad) (hV : mo_V v n) (hn9 : mo_B n) (hM : M = mo_M (k 0) ad v g) : Met l yX4_isOrder wsX4_isOrder ({ frames := 0, cells := 0, slots := 0, locals := 0 }) (va_Pc [.ref (ad 0), .int x] (mw_U D vwCl (TY k) M sz)) (va_Qi (fun r M1 => M1 = mo_M (k 0) ad v g ∧ (vp_in x (n 1) ∧ r = 1 ∨ ¬ vp_in x (n 1) ∧ r = 0)) (mw_B D vwCl M sz) (mw_A M sz)) 0 0 (mw_A M sz) := by
  refine mw_met (cc := cX4_isOrder) (maxL := 2) (ret := (some .boolean)) (lv := [(0, .ref (ad 0)), (1, .int x)]) (by decide) rfl (Nat.le_of_ble_eq_true rfl) rfl ?_
  intro p e s m below meth c ls hE hr hlocks hin hml hsz hP hS hl
  subst hsz
  have hx := hE.1
  have hb := hE.2.1
  have hA : ∀ q, s.heap.size ≤ q → mw_A M s.heap.size q := fun q h => Or.inr h
  have hP : mw_Q (mw_A M s.heap.size) D vwCl (mo_M (k 0) ad v g) s.heap := by rw [← hM]; exact hP
  obtain ⟨hb0, hb1, hb2, hb3⟩ := hn9
  refine lv_iload_n hx hb dX4_isOrder_0 rfl (lv_at hl 1 rfl) ?_
  refine lv_if_lt (tgt := 16) hx hb dX4_isOrder_1 (by decide) (fun c_1 => ?_) (fun c_1 => ?_)
  · refine lv_iconst (v := 0) hx hb dX4_isOrder_16 (by decide) ?_
    exact mw_zret (v := 0) (ty := .boolean) hE hr hlocks hP hS dX4_isOrder_17 (rfl) (by refine ⟨rfl, ?_⟩; simp only [rw_in (n := n 1) (by omega)]; simp [c_1])
  · refine lv_iload_n hx hb dX4_isOrder_4 rfl (lv_at hl 1 rfl) ?_
    refine lv_aload_n hx hb dX4_isOrder_5 rfl (lv_at hl 0 rfl) ?_
    refine mo_get (x := .int (v 7)) hE iX4_isOrder_X4 hP 7 (by decide) mX4_isOrder_f41 rfl rfl dX4_isOrder_6 ?_
    refine rw_i (v := nI (n 1)) hV.2.1 ?_
    refine lv_icmp_ge (tgt := 16) hx hb dX4_isOrder_9 (by decide) (fun c_9 => ?_) (fun c_9 => ?_)
    · refine lv_iconst (v := 0) hx hb dX4_isOrder_16 (by decide) ?_
      exact mw_zret (v := 0) (ty := .boolean) hE hr hlocks hP hS dX4_isOrder_17 (rfl) (by refine ⟨rfl, ?_⟩; simp only [rw_in (n := n 1) (by omega)]; simp [c_1, c_9])
    · refine lv_iconst (v := 1) hx hb dX4_isOrder_12 (by decide) ?_
      refine lv_goto (tgt := 17) hx hb dX4_isOrder_13 (by decide) ?_
      exact mw_zret (v := 1) (ty := .boolean) hE hr hlocks hP hS dX4_isOrder_17 (rfl) (by refine ⟨rfl, ?_⟩; simp only [rw_in (n := n 1) (by omega)]; simp [c_1, c_9])

set_option maxRecDepth 20000 in
theorem mX4_isText_f44 : Cond.fieldLink RX4 44 "CodePagesModel" "many" "I" ∈ wsX4_isText := by decide +kernel
set_option maxRecDepth 20000 in
theorem iX4_isText_X4 : ∀ w ∈ u_ws RX4 TX4 14, w ∈ wsX4_isText := by decide +kernel
set_option maxHeartbeats 4000000 in
set_option maxRecDepth 100000 in
theorem tX4_isText (l : Launch) (D : va_G) (k : Nat → ClassId) (M : mw) (sz : Nat) (ad : Nat → Nat) (v : Nat → Int32) (g : Nat → Nat → Int32) (n : Nat → Nat) (x : Int32) (hN : mo_N ad) (hV : mo_V v n) (hn9 : mo_B n) (hM : M = mo_M (k 0) ad v g) : Met l yX4_isText wsX4_isText ({ frames := 0, cells := 0, slots := 0, locals := 0 }) (va_Pc [.ref (ad 0), .int x] (mw_U D vwCl (TY k) M sz)) (va_Qi (fun r M1 => M1 = mo_M (k 0) ad v g ∧ (vp_in x (n 2) ∧ r = 1 ∨ ¬ vp_in x (n 2) ∧ r = 0)) (mw_B D vwCl M sz) (mw_A M sz)) 0 0 (mw_A M sz) := by
  refine mw_met (cc := cX4_isText) (maxL := 2) (ret := (some .boolean)) (lv := [(0, .ref (ad 0)), (1, .int x)]) (by decide) rfl (Nat.le_of_ble_eq_true rfl) rfl ?_
  intro p e s m below meth c ls hE hr hlocks hin hml hsz hP hS hl
  subst hsz
  have hx := hE.1
  have hb := hE.2.1
  have hA : ∀ q, s.heap.size ≤ q → mw_A M s.heap.size q := fun q h => Or.inr h
  have hP : mw_Q (mw_A M s.heap.size) D vwCl (mo_M (k 0) ad v g) s.heap := by rw [← hM]; exact hP
  obtain ⟨hb0, hb1, hb2, hb3⟩ := hn9
  refine lv_iload_n hx hb dX4_isText_0 rfl (lv_at hl 1 rfl) ?_
  refine lv_if_lt (tgt := 16) hx hb dX4_isText_1 (by decide) (fun c_1 => ?_) (fun c_1 => ?_)
  · refine lv_iconst (v := 0) hx hb dX4_isText_16 (by decide) ?_
    exact mw_zret (v := 0) (ty := .boolean) hE hr hlocks hP hS dX4_isText_17 (rfl) (by refine ⟨rfl, ?_⟩; simp only [rw_in (n := n 2) (by omega)]; simp [c_1])
  · refine lv_iload_n hx hb dX4_isText_4 rfl (lv_at hl 1 rfl) ?_
    refine lv_aload_n hx hb dX4_isText_5 rfl (lv_at hl 0 rfl) ?_
    refine mo_get (x := .int (v 10)) hE iX4_isText_X4 hP 10 (by decide) mX4_isText_f44 rfl rfl dX4_isText_6 ?_
    refine rw_i (v := nI (n 2)) hV.2.2.1 ?_
    refine lv_icmp_ge (tgt := 16) hx hb dX4_isText_9 (by decide) (fun c_9 => ?_) (fun c_9 => ?_)
    · refine lv_iconst (v := 0) hx hb dX4_isText_16 (by decide) ?_
      exact mw_zret (v := 0) (ty := .boolean) hE hr hlocks hP hS dX4_isText_17 (rfl) (by refine ⟨rfl, ?_⟩; simp only [rw_in (n := n 2) (by omega)]; simp [c_1, c_9])
    · refine lv_iconst (v := 1) hx hb dX4_isText_12 (by decide) ?_
      refine lv_goto (tgt := 17) hx hb dX4_isText_13 (by decide) ?_
      exact mw_zret (v := 1) (ty := .boolean) hE hr hlocks hP hS dX4_isText_17 (rfl) (by refine ⟨rfl, ?_⟩; simp only [rw_in (n := n 2) (by omega)]; simp [c_1, c_9])

set_option maxRecDepth 20000 in
theorem mX4_codeOf_f7 : Cond.fieldLink RX4 7 "CodePagesModel" "means" "[I" ∈ wsX4_codeOf := by decide +kernel
set_option maxRecDepth 20000 in
theorem iX4_codeOf_X4 : ∀ w ∈ u_ws RX4 TX4 14, w ∈ wsX4_codeOf := by decide +kernel
set_option maxHeartbeats 4000000 in
set_option maxRecDepth 100000 in
theorem tX4_codeOf (l : Launch) (D : va_G) (k : Nat → ClassId) (M : mw) (sz : Nat) (ad : Nat → Nat) (v : Nat → Int32) (g : Nat → Nat → Int32) (n : Nat → Nat) (p9 : Nat) (u : Int32) (hN : mo_N ad) (hV : mo_V v n) (hn9 : mo_B n) (hM : M = mo_M (k 0) ad v g) (hp9 : p9 < 12) : Met l yX4_codeOf wsX4_codeOf ({ frames := 0, cells := 0, slots := 0, locals := 0 }) (va_Pc [.ref (ad 0), .int (nI p9), .int u] (mw_U D vwCl (TY k) M sz)) (va_Qi (fun r M1 => M1 = mo_M (k 0) ad v g ∧ r = fl (fun i => g 1 (256 * p9 + i)) u 256) (mw_B D vwCl M sz) (mw_A M sz)) 0 0 (mw_A M sz) := by
  refine mw_met (cc := cX4_codeOf) (maxL := 5) (ret := (some .int)) (lv := [(0, .ref (ad 0)), (1, .int (nI p9)), (2, .int u)]) (by decide) rfl (Nat.le_of_ble_eq_true rfl) rfl ?_
  intro p e s m below meth c ls hE hr hlocks hin hml hsz hP hS hl
  subst hsz
  have hx := hE.1
  have hb := hE.2.1
  have hA : ∀ q, s.heap.size ≤ q → mw_A M s.heap.size q := fun q h => Or.inr h
  obtain ⟨Q, hQ⟩ : ∃ Q : State → Prop, Q = MQ below (va_Qi (fun r M1 => M1 = mo_M (k 0) ad v g ∧ r = fl (fun i => g 1 (256 * p9 + i)) u 256) (mw_B D vwCl M s.heap.size) (mw_A M s.heap.size)) ([.ref (ad 0), .int (nI p9), .int u] : List Value).toArray s 0 0 (mw_A M s.heap.size) := ⟨_, rfl⟩
  rw [← hQ]
  have hP : mw_Q (mw_A M s.heap.size) D vwCl (mo_M (k 0) ad v g) s.heap := by rw [← hM]; exact hP
  obtain ⟨hb0, hb1, hb2, hb3⟩ := hn9
  refine lv_iconst (v := (-1)) hx hb dX4_codeOf_0 (by decide) ?_
  refine lv_istore_n (lv' := [(3, .int (-1)), (0, .ref (ad 0)), (1, .int (nI p9)), (2, .int u)]) hx hb dX4_codeOf_1 rfl hl (by decide) rfl (fun ls hl => ?_)
  refine lv_iconst (v := 0) hx hb dX4_codeOf_2 (by decide) ?_
  refine lv_istore (lv' := [(4, .int 0), (3, .int (-1)), (0, .ref (ad 0)), (1, .int (nI p9)), (2, .int u)]) hx hb dX4_codeOf_3 hl (by decide) rfl (fun ls hl => ?_)
  have lp_5 : ∀ (fu : Nat) (i : Nat) (w : Int32), (i ≤ 256) → (w = fl (fun i => g 1 (256 * p9 + i)) u i) → 256 - i < fu → ∀ (H : Heap) (locs : List Loc), mw_Q (mw_A M s.heap.size) D vwCl (mo_M (k 0) ad v g) H → va_S (mw_A M s.heap.size) s.heap H locs → ∀ ls : Array Slot, lv_has ls 5 [(0, .ref (ad 0)), (1, .int (nI p9)), (2, .int u), (3, .int w), (4, .int (nI i))] → W p l e ({ frames := 0, cells := 0, slots := 0, locals := 0 } : Room) s m ([.ref (ad 0), .int (nI p9), .int u] : List Value).toArray below meth c H locs 0 0 Q (F0 m 5 ls []) := by
    intro fu
    induction fu with
    | zero => intro i w hi hw hn; exact absurd hn (Nat.not_lt_zero _)
    | succ fu ih_5 =>
      intro i w hi hw hn H locs hP hS ls hl
      refine lv_iload hx hb dX4_codeOf_5 (lv_at hl 4 rfl) ?_
      refine lv_sipush (v := nI 256) hx hb dX4_codeOf_7 (by decide) ?_
      refine lv_icmp_ge (tgt := 43) hx hb dX4_codeOf_10 (by decide) (fun c_10 => ?_) (fun c_10 => ?_)
      · have k_10 : 256 ≤ i := nn_le (a := 256) (b := i) c_10 (by omega) (by omega)
        refine lv_iload_n hx hb dX4_codeOf_43 rfl (lv_at hl 3 rfl) ?_
        rw [hQ]
        exact mw_iret (v := w) hE hr hlocks hP hS dX4_codeOf_44 (⟨rfl, by rw [hw, show i = 256 by omega]⟩)
      · have k_10 : i < 256 := nn_nle (a := 256) (b := i) c_10 (by omega) (by omega)
        refine lv_aload_n hx hb dX4_codeOf_13 rfl (lv_at hl 0 rfl) ?_
        refine mo_get (x := .ref (ad 1)) hE iX4_codeOf_X4 hP 1 (by decide) mX4_codeOf_f7 rfl rfl dX4_codeOf_14 ?_
        refine lv_sipush (v := nI 256) hx hb dX4_codeOf_17 (by decide) ?_
        refine lv_iload_n hx hb dX4_codeOf_20 rfl (lv_at hl 1 rfl) ?_
        refine lv_imul hx hb dX4_codeOf_21 ?_
        refine rw_i (v := nI (256 * p9)) (pk_mul _ _) ?_
        refine lv_iload hx hb dX4_codeOf_22 (lv_at hl 4 rfl) ?_
        refine lv_iadd hx hb dX4_codeOf_24 ?_
        refine rw_i (v := nI ((256 * p9) + i)) (nI_add _ _) ?_
        refine mo_ld (n := 3072) hE hN hP 0 1 rfl (by decide) rfl (by decide) dX4_codeOf_25 (by omega) ?_
        refine lv_iload_n hx hb dX4_codeOf_26 rfl (lv_at hl 2 rfl) ?_
        refine lv_icmp_ne (tgt := 35) hx hb dX4_codeOf_27 (by decide) (fun c_27 => ?_) (fun c_27 => ?_)
        · refine lv_iload_n hx hb dX4_codeOf_35 rfl (lv_at hl 3 rfl) ?_
          refine lv_istore_n (lv' := [(3, .int w), (0, .ref (ad 0)), (1, .int (nI p9)), (2, .int u), (4, .int (nI i))]) hx hb dX4_codeOf_36 rfl hl (by decide) rfl (fun ls hl => ?_)
          refine lv_iinc (v := nI (i + 1)) (lv' := [(4, .int (nI (i + 1))), (3, .int w), (0, .ref (ad 0)), (1, .int (nI p9)), (2, .int u)]) hx hb dX4_codeOf_37 hl (k := 4) rfl (nI_1 i) (by decide) rfl (fun ls hl => ?_)
          refine lv_goto (tgt := 5) hx hb dX4_codeOf_40 (by decide) ?_
          exact ih_5 (i + 1) w (by omega) (by rw [fl, if_neg c_27]; exact hw) (by omega) H locs hP hS ls (lv_sub hl [2, 3, 4, 1, 0] rfl)
        · refine lv_iload hx hb dX4_codeOf_30 (lv_at hl 4 rfl) ?_
          refine lv_goto (tgt := 36) hx hb dX4_codeOf_32 (by decide) ?_
          refine lv_istore_n (lv' := [(3, .int (nI i)), (0, .ref (ad 0)), (1, .int (nI p9)), (2, .int u), (4, .int (nI i))]) hx hb dX4_codeOf_36 rfl hl (by decide) rfl (fun ls hl => ?_)
          refine lv_iinc (v := nI (i + 1)) (lv' := [(4, .int (nI (i + 1))), (3, .int (nI i)), (0, .ref (ad 0)), (1, .int (nI p9)), (2, .int u)]) hx hb dX4_codeOf_37 hl (k := 4) rfl (nI_1 i) (by decide) rfl (fun ls hl => ?_)
          refine lv_goto (tgt := 5) hx hb dX4_codeOf_40 (by decide) ?_
          exact ih_5 (i + 1) (nI i) (by omega) (by rw [fl, if_pos c_27]) (by omega) H locs hP hS ls (lv_sub hl [2, 3, 4, 1, 0] rfl)
  exact lp_5 (257) 0 (-1) (by omega) (rfl) (by omega) _ _ hP hS ls (lv_sub hl [2, 3, 4, 1, 0] rfl)

set_option maxRecDepth 20000 in
theorem mX4_set_f34 : Cond.fieldLink RX4 34 "CodePagesModel" "code" "I" ∈ wsX4_set := by decide +kernel
set_option maxRecDepth 20000 in
theorem mX4_set_f7 : Cond.fieldLink RX4 7 "CodePagesModel" "means" "[I" ∈ wsX4_set := by decide +kernel
set_option maxRecDepth 20000 in
theorem mX4_set_k54 : Cond.constant RX4 54 (65535) ∈ wsX4_set := by decide +kernel
set_option maxRecDepth 20000 in
theorem iX4_set_X4 : ∀ w ∈ u_ws RX4 TX4 14, w ∈ wsX4_set := by decide +kernel
set_option maxHeartbeats 4000000 in
set_option maxRecDepth 100000 in
theorem tX4_set (l : Launch) (D : va_G) (k : Nat → ClassId) (M : mw) (sz : Nat) (ad : Nat → Nat) (v : Nat → Int32) (g : Nat → Nat → Int32) (n : Nat → Nat) (x y u : Int32) (hN : mo_N ad) (hV : mo_V v n) (hn9 : mo_B n) (hM : M = mo_M (k 0) ad v g) : Met l yX4_set wsX4_set ({ frames := 1, cells := 0, slots := 0, locals := 24 }) (va_Pc [.ref (ad 0), .int x, .int y, .int u] (mw_U D vwCl (TY k) M sz)) (va_Qi (fun r M1 => ∃ v1 g1, M1 = mo_M (k 0) ad v1 g1 ∧ mo_V v1 n ∧ R_set n g x y u r g1) (mw_B D vwCl M sz) (mw_A M sz)) 0 0 (mw_A M sz) := by
  refine mw_met (cc := cX4_set) (maxL := 5) (ret := (some .int)) (lv := [(0, .ref (ad 0)), (1, .int x), (2, .int y), (3, .int u)]) (by decide) rfl (Nat.le_of_ble_eq_true rfl) rfl ?_
  intro p e s m below meth c ls hE hr hlocks hin hml hsz hP hS hl
  subst hsz
  have hx := hE.1
  have hb := hE.2.1
  have hA : ∀ q, s.heap.size ≤ q → mw_A M s.heap.size q := fun q h => Or.inr h
  have hP : mw_Q (mw_A M s.heap.size) D vwCl (mo_M (k 0) ad v g) s.heap := by rw [← hM]; exact hP
  obtain ⟨hb0, hb1, hb2, hb3⟩ := hn9
  refine lv_aload_n hx hb dX4_set_0 rfl (lv_at hl 0 rfl) ?_
  refine lv_iconst (v := 0) hx hb dX4_set_1 (by decide) ?_
  refine mo_put hE iX4_set_X4 hP hS 0 (by decide) mX4_set_f34 rfl rfl (by decide +kernel) rfl dX4_set_2 (fun H locs hP hS => ?_)
  refine lv_aload_n hx hb dX4_set_5 rfl (lv_at hl 0 rfl) ?_
  refine lv_iload_n hx hb dX4_set_6 rfl (lv_at hl 1 rfl) ?_
  refine mw_calli hP hS hA (va_runV (As := [.int x]) (rest := []) ⟨hx, hb, hml, hE.2.2.2.1, hE.2.2.1⟩ (tX4_isPage l D k _ _ ad (va_up v 0 0) g n x hN hV ⟨hb0, hb1, hb2, hb3⟩ rfl) (cwV 1 hE.2.2.1 gX4_set_X4_isPage rfl rfl rfl (by decide +kernel) ⟨(Nat.le_of_ble_eq_true rfl), (Nat.le_of_ble_eq_true rfl)⟩) (mw_preV hE hP (ci := 5) rfl rfl mo_o [.int x]) rfl rfl hl.1 rfl (lv_room (Nat.le_of_ble_eq_true rfl)) dX4_set_7 ⟨(Nat.le_of_ble_eq_true rfl), (Nat.le_of_ble_eq_true rfl)⟩) (fun r_1 M1 H locs hw hP hS => ?_)
  obtain ⟨rfl, hw⟩ := hw
  rcases hw with ⟨hq_2, rfl⟩ | ⟨hq_2, rfl⟩
  · obtain ⟨pp, hpp, rfl⟩ := vp_in_of hq_2 (by omega)
    refine lv_if_ne (tgt := 16) hx hb dX4_set_10 (by decide) (fun _ => ?_) (fun c9 => absurd c9 (by decide))
    refine lv_iload_n hx hb dX4_set_16 rfl (lv_at hl 2 rfl) ?_
    refine mw_calli hP hS hA (va_runS (As := [.int y]) (rest := []) ⟨hx, hb, hml, hE.2.2.2.1, hE.2.2.1⟩ (tX4_isCode l D k _ _ y) (va_cwS 1 hE.2.2.1 gX4_set_X4_isCode rfl rfl rfl (by decide +kernel) ⟨(Nat.le_of_ble_eq_true rfl), (Nat.le_of_ble_eq_true rfl)⟩) (mw_preS hE hP [.int y]) rfl rfl hl.1 rfl (lv_room (Nat.le_of_ble_eq_true rfl)) dX4_set_17 ⟨(Nat.le_of_ble_eq_true rfl), (Nat.le_of_ble_eq_true rfl)⟩) (fun r_4 M1 H locs hw hP hS => ?_)
    obtain ⟨rfl, hw⟩ := hw
    rcases hw with ⟨hq_5, rfl⟩ | ⟨hq_5, rfl⟩
    · obtain ⟨j, hj, rfl⟩ := vp_in_of hq_5 (by omega)
      refine lv_if_eq (tgt := 34) hx hb dX4_set_20 (by decide) (fun c9 => absurd c9 (by decide)) (fun _ => ?_)
      refine lv_iload_n hx hb dX4_set_23 rfl (lv_at hl 3 rfl) ?_
      refine lv_iconst (v := (-1)) hx hb dX4_set_24 (by decide) ?_
      refine lv_icmp_lt (tgt := 34) hx hb dX4_set_25 (by decide) (fun c_25 => ?_) (fun c_25 => ?_)
      · refine lv_bipush (v := (-4)) hx hb dX4_set_34 (by decide) ?_
        exact mw_iret (v := (-4)) hE hr hlocks hP hS dX4_set_36 (⟨va_up v 0 0, g, rfl, hV, Or.inr (Or.inl ⟨vp_in_nI hpp (by omega), Or.inr (fun q => ((okm_iff _).mp q).1 c_25), rfl, rfl⟩)⟩)
      · refine lv_iload_n hx hb dX4_set_28 rfl (lv_at hl 3 rfl) ?_
        refine lv_ldc (v := nI 65535) hx hb hE.2.2.2.1 (hE.2.2.1 _ mX4_set_k54) dX4_set_29 ?_
        refine lv_icmp_le (tgt := 37) hx hb dX4_set_31 (by decide) (fun c_31 => ?_) (fun c_31 => ?_)
        · refine lv_iload_n hx hb dX4_set_37 rfl (lv_at hl 3 rfl) ?_
          refine lv_iconst (v := (-1)) hx hb dX4_set_38 (by decide) ?_
          refine lv_icmp_ne (tgt := 46) hx hb dX4_set_39 (by decide) (fun c_39 => ?_) (fun c_39 => ?_)
          · refine lv_aload_n hx hb dX4_set_46 rfl (lv_at hl 0 rfl) ?_
            refine lv_iload_n hx hb dX4_set_47 rfl (lv_at hl 1 rfl) ?_
            refine lv_iload_n hx hb dX4_set_48 rfl (lv_at hl 3 rfl) ?_
            refine mw_calli hP hS hA (va_runV (As := [.int (nI pp), .int u]) (rest := []) ⟨hx, hb, hml, hE.2.2.2.1, hE.2.2.1⟩ (tX4_codeOf l D k _ _ ad (va_up v 0 0) g n pp u hN hV ⟨hb0, hb1, hb2, hb3⟩ rfl (by omega)) (cwV 2 hE.2.2.1 gX4_set_X4_codeOf rfl rfl rfl (by decide +kernel) ⟨(Nat.le_of_ble_eq_true rfl), (Nat.le_of_ble_eq_true rfl)⟩) (mw_preV hE hP (ci := 5) rfl rfl mo_o [.int (nI pp), .int u]) rfl rfl hl.1 rfl (lv_room (Nat.le_of_ble_eq_true rfl)) dX4_set_49 ⟨(Nat.le_of_ble_eq_true rfl), (Nat.le_of_ble_eq_true rfl)⟩) (fun r_10 M1 H locs hw hP hS => ?_)
            obtain ⟨rfl, er_10⟩ := hw
            refine lv_istore (lv' := [(4, .int r_10), (0, .ref (ad 0)), (1, .int (nI pp)), (2, .int (nI j)), (3, .int u)]) hx hb dX4_set_52 hl (by decide) rfl (fun ls hl => ?_)
            refine lv_iload hx hb dX4_set_54 (lv_at hl 0 rfl) ?_
            refine lv_iconst (v := (-1)) hx hb dX4_set_56 (by decide) ?_
            refine lv_icmp_eq (tgt := 68) hx hb dX4_set_57 (by decide) (fun c_57 => ?_) (fun c_57 => ?_)
            · refine lv_aload_n hx hb dX4_set_68 rfl (lv_at hl 1 rfl) ?_
              refine mo_get (x := .ref (ad 1)) hE iX4_set_X4 hP 1 (by decide) mX4_set_f7 rfl rfl dX4_set_69 ?_
              refine lv_sipush (v := nI 256) hx hb dX4_set_72 (by decide) ?_
              refine lv_iload_n hx hb dX4_set_75 rfl (lv_at hl 2 rfl) ?_
              refine lv_imul hx hb dX4_set_76 ?_
              refine rw_i (v := nI (256 * pp)) (pk_mul _ _) ?_
              refine lv_iload_n hx hb dX4_set_77 rfl (lv_at hl 3 rfl) ?_
              refine lv_iadd hx hb dX4_set_78 ?_
              refine rw_i (v := nI ((256 * pp) + j)) (nI_add _ _) ?_
              refine lv_iload_n hx hb dX4_set_79 rfl (lv_at hl 4 rfl) ?_
              refine mo_st (n := 3072) hE hN hP hS 0 1 rfl (by decide) rfl (by decide) dX4_set_80 (by omega) (fun H locs hP hS => ?_)
              refine lv_iconst (v := 1) hx hb dX4_set_81 (by decide) ?_
              exact mw_iret (v := 1) hE hr hlocks hP hS dX4_set_82 (⟨va_up v 0 0, va_up g 1 (upd (g 1) ((256 * pp) + j) u), rfl, hV, Or.inr (Or.inr ⟨pp, j, hpp, hj, rfl, rfl, (okm_iff _).mpr ⟨c_25, Int32.not_lt.mpr c_31⟩, Or.inr ⟨rfl, Or.inl (by rw [(show mf g pp u = r_10 by unfold mf; rw [if_neg c_39, er_10])]; exact c_57), rfl⟩⟩)⟩)
            · refine lv_iload hx hb dX4_set_60 (lv_at hl 0 rfl) ?_
              refine lv_iload_n hx hb dX4_set_62 rfl (lv_at hl 3 rfl) ?_
              refine lv_icmp_eq (tgt := 68) hx hb dX4_set_63 (by decide) (fun c_63 => ?_) (fun c_63 => ?_)
              · refine lv_aload_n hx hb dX4_set_68 rfl (lv_at hl 1 rfl) ?_
                refine mo_get (x := .ref (ad 1)) hE iX4_set_X4 hP 1 (by decide) mX4_set_f7 rfl rfl dX4_set_69 ?_
                refine lv_sipush (v := nI 256) hx hb dX4_set_72 (by decide) ?_
                refine lv_iload_n hx hb dX4_set_75 rfl (lv_at hl 2 rfl) ?_
                refine lv_imul hx hb dX4_set_76 ?_
                refine rw_i (v := nI (256 * pp)) (pk_mul _ _) ?_
                refine lv_iload_n hx hb dX4_set_77 rfl (lv_at hl 3 rfl) ?_
                refine lv_iadd hx hb dX4_set_78 ?_
                refine rw_i (v := nI ((256 * pp) + j)) (nI_add _ _) ?_
                refine lv_iload_n hx hb dX4_set_79 rfl (lv_at hl 4 rfl) ?_
                refine mo_st (n := 3072) hE hN hP hS 0 1 rfl (by decide) rfl (by decide) dX4_set_80 (by omega) (fun H locs hP hS => ?_)
                refine lv_iconst (v := 1) hx hb dX4_set_81 (by decide) ?_
                exact mw_iret (v := 1) hE hr hlocks hP hS dX4_set_82 (⟨va_up v 0 0, va_up g 1 (upd (g 1) ((256 * pp) + j) u), rfl, hV, Or.inr (Or.inr ⟨pp, j, hpp, hj, rfl, rfl, (okm_iff _).mpr ⟨c_25, Int32.not_lt.mpr c_31⟩, Or.inr ⟨rfl, Or.inr (by rw [(show mf g pp u = r_10 by unfold mf; rw [if_neg c_39, er_10])]; exact c_63), rfl⟩⟩)⟩)
              · refine lv_iconst (v := 0) hx hb dX4_set_66 (by decide) ?_
                exact mw_iret (v := 0) hE hr hlocks hP hS dX4_set_67 (⟨va_up v 0 0, g, rfl, hV, Or.inr (Or.inr ⟨pp, j, hpp, hj, rfl, rfl, (okm_iff _).mpr ⟨c_25, Int32.not_lt.mpr c_31⟩, Or.inl ⟨rfl, rfl, by rw [(show mf g pp u = r_10 by unfold mf; rw [if_neg c_39, er_10])]; exact c_57, by rw [(show mf g pp u = r_10 by unfold mf; rw [if_neg c_39, er_10])]; exact c_63⟩⟩)⟩)
          · refine lv_iconst (v := (-1)) hx hb dX4_set_42 (by decide) ?_
            refine lv_goto (tgt := 52) hx hb dX4_set_43 (by decide) ?_
            refine lv_istore (lv' := [(4, .int (-1)), (0, .ref (ad 0)), (1, .int (nI pp)), (2, .int (nI j)), (3, .int u)]) hx hb dX4_set_52 hl (by decide) rfl (fun ls hl => ?_)
            refine lv_iload hx hb dX4_set_54 (lv_at hl 0 rfl) ?_
            refine lv_iconst (v := (-1)) hx hb dX4_set_56 (by decide) ?_
            refine lv_icmp_eq (tgt := 68) hx hb dX4_set_57 (by decide) (fun _ => ?_) (fun c9 => absurd (by decide) c9)
            refine lv_aload_n hx hb dX4_set_68 rfl (lv_at hl 1 rfl) ?_
            refine mo_get (x := .ref (ad 1)) hE iX4_set_X4 hP 1 (by decide) mX4_set_f7 rfl rfl dX4_set_69 ?_
            refine lv_sipush (v := nI 256) hx hb dX4_set_72 (by decide) ?_
            refine lv_iload_n hx hb dX4_set_75 rfl (lv_at hl 2 rfl) ?_
            refine lv_imul hx hb dX4_set_76 ?_
            refine rw_i (v := nI (256 * pp)) (pk_mul _ _) ?_
            refine lv_iload_n hx hb dX4_set_77 rfl (lv_at hl 3 rfl) ?_
            refine lv_iadd hx hb dX4_set_78 ?_
            refine rw_i (v := nI ((256 * pp) + j)) (nI_add _ _) ?_
            refine lv_iload_n hx hb dX4_set_79 rfl (lv_at hl 4 rfl) ?_
            refine mo_st (n := 3072) hE hN hP hS 0 1 rfl (by decide) rfl (by decide) dX4_set_80 (by omega) (fun H locs hP hS => ?_)
            refine lv_iconst (v := 1) hx hb dX4_set_81 (by decide) ?_
            exact mw_iret (v := 1) hE hr hlocks hP hS dX4_set_82 (⟨va_up v 0 0, va_up g 1 (upd (g 1) ((256 * pp) + j) u), rfl, hV, Or.inr (Or.inr ⟨pp, j, hpp, hj, rfl, rfl, (okm_iff _).mpr ⟨c_25, Int32.not_lt.mpr c_31⟩, Or.inr ⟨rfl, Or.inl (by rw [(show mf g pp u = -1 by unfold mf; rw [if_pos c_39])]), rfl⟩⟩)⟩)
        · refine lv_bipush (v := (-4)) hx hb dX4_set_34 (by decide) ?_
          exact mw_iret (v := (-4)) hE hr hlocks hP hS dX4_set_36 (⟨va_up v 0 0, g, rfl, hV, Or.inr (Or.inl ⟨vp_in_nI hpp (by omega), Or.inr (fun q => ((okm_iff _).mp q).2 (Int32.not_le.mp c_31)), rfl, rfl⟩)⟩)
    · refine lv_if_eq (tgt := 34) hx hb dX4_set_20 (by decide) (fun _ => ?_) (fun c9 => absurd (by decide) c9)
      refine lv_bipush (v := (-4)) hx hb dX4_set_34 (by decide) ?_
      exact mw_iret (v := (-4)) hE hr hlocks hP hS dX4_set_36 (⟨va_up v 0 0, g, rfl, hV, Or.inr (Or.inl ⟨vp_in_nI hpp (by omega), Or.inl hq_5, rfl, rfl⟩)⟩)
  · refine lv_if_ne (tgt := 16) hx hb dX4_set_10 (by decide) (fun c9 => absurd (by decide) c9) (fun _ => ?_)
    refine lv_bipush (v := (-2)) hx hb dX4_set_13 (by decide) ?_
    exact mw_iret (v := (-2)) hE hr hlocks hP hS dX4_set_15 (⟨va_up v 0 0, g, rfl, hV, Or.inl ⟨hq_2, rfl, rfl⟩⟩)
end
section
set_option maxRecDepth 20000 in
theorem mX4_page_f13 : Cond.fieldLink RX4 13 "CodePagesModel" "standIns" "[I" ∈ wsX4_page := by decide +kernel
set_option maxRecDepth 20000 in
theorem mX4_page_f34 : Cond.fieldLink RX4 34 "CodePagesModel" "code" "I" ∈ wsX4_page := by decide +kernel
set_option maxRecDepth 20000 in
theorem mX4_page_f38 : Cond.fieldLink RX4 38 "CodePagesModel" "pages" "I" ∈ wsX4_page := by decide +kernel
set_option maxRecDepth 20000 in
theorem mX4_page_f7 : Cond.fieldLink RX4 7 "CodePagesModel" "means" "[I" ∈ wsX4_page := by decide +kernel
set_option maxRecDepth 20000 in
theorem iX4_page_X4 : ∀ w ∈ u_ws RX4 TX4 14, w ∈ wsX4_page := by decide +kernel
set_option maxHeartbeats 4000000 in
set_option maxRecDepth 100000 in
theorem tX4_page (l : Launch) (D : va_G) (k : Nat → ClassId) (M : mw) (sz : Nat) (ad : Nat → Nat) (v : Nat → Int32) (g : Nat → Nat → Int32) (n : Nat → Nat) (x : Int32) (hN : mo_N ad) (hV : mo_V v n) (hn9 : mo_B n) (hM : M = mo_M (k 0) ad v g) : Met l yX4_page wsX4_page ({ frames := 0, cells := 0, slots := 0, locals := 0 }) (va_Pc [.ref (ad 0), .int x] (mw_U D vwCl (TY k) M sz)) (va_Qi (fun r M1 => ∃ v1 g1 n1, M1 = mo_M (k 0) ad v1 g1 ∧ mo_V v1 n1 ∧ R_page n g x r n1 g1) (mw_B D vwCl M sz) (mw_A M sz)) 0 0 (mw_A M sz) := by
  refine mw_met (cc := cX4_page) (maxL := 3) (ret := (some .int)) (lv := [(0, .ref (ad 0)), (1, .int x)]) (by decide) rfl (Nat.le_of_ble_eq_true rfl) rfl ?_
  intro p e s m below meth c ls hE hr hlocks hin hml hsz hP hS hl
  subst hsz
  have hx := hE.1
  have hb := hE.2.1
  have hA : ∀ q, s.heap.size ≤ q → mw_A M s.heap.size q := fun q h => Or.inr h
  obtain ⟨Q, hQ⟩ : ∃ Q : State → Prop, Q = MQ below (va_Qi (fun r M1 => ∃ v1 g1 n1, M1 = mo_M (k 0) ad v1 g1 ∧ mo_V v1 n1 ∧ R_page n g x r n1 g1) (mw_B D vwCl M s.heap.size) (mw_A M s.heap.size)) ([.ref (ad 0), .int x] : List Value).toArray s 0 0 (mw_A M s.heap.size) := ⟨_, rfl⟩
  rw [← hQ]
  have hP : mw_Q (mw_A M s.heap.size) D vwCl (mo_M (k 0) ad v g) s.heap := by rw [← hM]; exact hP
  obtain ⟨hb0, hb1, hb2, hb3⟩ := hn9
  refine lv_aload_n hx hb dX4_page_0 rfl (lv_at hl 0 rfl) ?_
  refine lv_iconst (v := 0) hx hb dX4_page_1 (by decide) ?_
  refine mo_put hE iX4_page_X4 hP hS 0 (by decide) mX4_page_f34 rfl rfl (by decide +kernel) rfl dX4_page_2 (fun H locs hP hS => ?_)
  refine lv_iload_n hx hb dX4_page_5 rfl (lv_at hl 1 rfl) ?_
  refine lv_if_lt (tgt := 14) hx hb dX4_page_6 (by decide) (fun c_6 => ?_) (fun c_6 => ?_)
  · refine lv_bipush (v := (-4)) hx hb dX4_page_14 (by decide) ?_
    rw [hQ]
    exact mw_iret (v := (-4)) hE hr hlocks hP hS dX4_page_16 (⟨va_up v 0 0, g, n, rfl, hV, Or.inl ⟨fun q => ((rw_in1 (n := 2) (by decide)).mp q).1 c_6, rfl, rfl, rfl⟩⟩)
  · refine lv_iload_n hx hb dX4_page_9 rfl (lv_at hl 1 rfl) ?_
    refine lv_iconst (v := nI 2) hx hb dX4_page_10 (by decide) ?_
    refine lv_icmp_le (tgt := 17) hx hb dX4_page_11 (by decide) (fun c_11 => ?_) (fun c_11 => ?_)
    · have hx3 := (show vp_in x 3 from (rw_in1 (n := 2) (by decide)).mpr ⟨c_6, Int32.not_lt.mpr c_11⟩)
      obtain ⟨z, hz, rfl⟩ := vp_in_of hx3 (by omega)
      refine lv_aload_n hx hb dX4_page_17 rfl (lv_at hl 0 rfl) ?_
      refine mo_get (x := .int (v 3)) hE iX4_page_X4 hP 3 (by decide) mX4_page_f38 rfl rfl dX4_page_18 ?_
      refine rw_i (v := nI (n 0)) hV.1 ?_
      refine lv_bipush (v := nI 12) hx hb dX4_page_21 (by decide) ?_
      refine lv_icmp_ne (tgt := 28) hx hb dX4_page_23 (by decide) (fun c_23 => ?_) (fun c_23 => ?_)
      · have k_23 : (n 0) ≠ 12 := nn_neq (a := (n 0)) (b := 12) c_23 (by omega) (by omega)
        refine lv_iconst (v := 0) hx hb dX4_page_28 (by decide) ?_
        refine lv_istore_n (lv' := [(2, .int 0), (0, .ref (ad 0)), (1, .int (nI z))]) hx hb dX4_page_29 rfl hl (by decide) rfl (fun ls hl => ?_)
        rw [show mo_M (k 0) ad (va_up v 0 0) g = mo_M (k 0) ad (va_up v 0 0) (va_up g 1 (blk (g 1) (256 * n 0) 0 (fm z))) by rw [blk_0, up_id]] at hP
        have lp_30 : ∀ (fu : Nat) (i : Nat), (i ≤ 256) → 256 - i < fu → ∀ (H : Heap) (locs : List Loc), mw_Q (mw_A M s.heap.size) D vwCl (mo_M (k 0) ad (va_up v 0 0) (va_up g 1 (blk (g 1) (256 * n 0) i (fm z)))) H → va_S (mw_A M s.heap.size) s.heap H locs → ∀ ls : Array Slot, lv_has ls 3 [(0, .ref (ad 0)), (1, .int (nI z)), (2, .int (nI i))] → W p l e ({ frames := 0, cells := 0, slots := 0, locals := 0 } : Room) s m ([.ref (ad 0), .int (nI z)] : List Value).toArray below meth c H locs 0 0 Q (F0 m 30 ls []) := by
          intro fu
          induction fu with
          | zero => intro i hi hn; exact absurd hn (Nat.not_lt_zero _)
          | succ fu ih_30 =>
            intro i hi hn H locs hP hS ls hl
            refine lv_iload_n hx hb dX4_page_30 rfl (lv_at hl 2 rfl) ?_
            refine lv_sipush (v := nI 256) hx hb dX4_page_31 (by decide) ?_
            refine lv_icmp_ge (tgt := 98) hx hb dX4_page_34 (by decide) (fun c_34 => ?_) (fun c_34 => ?_)
            · have k_34 : 256 ≤ i := nn_le (a := 256) (b := i) c_34 (by omega) (by omega)
              obtain rfl : i = 256 := by omega
              refine lv_aload_n hx hb dX4_page_98 rfl (lv_at hl 0 rfl) ?_
              refine mo_get (x := .ref (ad 2)) hE iX4_page_X4 hP 2 (by decide) mX4_page_f13 rfl rfl dX4_page_99 ?_
              refine lv_aload_n hx hb dX4_page_102 rfl (lv_at hl 0 rfl) ?_
              refine mo_get (x := .int (v 3)) hE iX4_page_X4 hP 3 (by decide) mX4_page_f38 rfl rfl dX4_page_103 ?_
              refine rw_i (v := nI (n 0)) hV.1 ?_
              refine lv_bipush (v := nI 63) hx hb dX4_page_106 (by decide) ?_
              refine mo_st (n := 12) hE hN hP hS 0 2 rfl (by decide) rfl (by decide) dX4_page_108 (by omega) (fun H locs hP hS => ?_)
              refine lv_aload_n hx hb dX4_page_109 rfl (lv_at hl 0 rfl) ?_
              refine lv_dup hx hb dX4_page_110 rfl ?_
              refine mo_get (x := .int (v 3)) hE iX4_page_X4 hP 3 (by decide) mX4_page_f38 rfl rfl dX4_page_111 ?_
              refine rw_i (v := nI (n 0)) hV.1 ?_
              refine lv_iconst (v := 1) hx hb dX4_page_114 (by decide) ?_
              refine lv_iadd hx hb dX4_page_115 ?_
              refine rw_i (v := nI ((n 0) + 1)) (nI_1 _) ?_
              refine mo_put hE iX4_page_X4 hP hS 3 (by decide) mX4_page_f38 rfl rfl (by decide +kernel) rfl dX4_page_116 (fun H locs hP hS => ?_)
              refine lv_aload_n hx hb dX4_page_119 rfl (lv_at hl 0 rfl) ?_
              refine mo_get (x := .int (nI ((n 0) + 1))) hE iX4_page_X4 hP 3 (by decide) mX4_page_f38 rfl rfl dX4_page_120 ?_
              refine lv_iconst (v := 1) hx hb dX4_page_123 (by decide) ?_
              refine lv_isub hx hb dX4_page_124 ?_
              refine rw_i (v := nI (n 0)) (nI_pred _) ?_
              rw [hQ]
              exact mw_iret (v := nI (n 0)) hE hr hlocks hP hS dX4_page_125 (⟨_, _, va_up n 0 (n 0 + 1), rfl, ⟨rfl, hV.2.1, hV.2.2.1, hV.2.2.2⟩, Or.inr (Or.inr ⟨z, hz, rfl, by omega, rfl, rfl, rfl⟩)⟩)
            · have k_34 : i < 256 := nn_nle (a := 256) (b := i) c_34 (by omega) (by omega)
              refine lv_aload_n hx hb dX4_page_37 rfl (lv_at hl 0 rfl) ?_
              refine mo_get (x := .ref (ad 1)) hE iX4_page_X4 hP 1 (by decide) mX4_page_f7 rfl rfl dX4_page_38 ?_
              refine lv_sipush (v := nI 256) hx hb dX4_page_41 (by decide) ?_
              refine lv_aload_n hx hb dX4_page_44 rfl (lv_at hl 0 rfl) ?_
              refine mo_get (x := .int (v 3)) hE iX4_page_X4 hP 3 (by decide) mX4_page_f38 rfl rfl dX4_page_45 ?_
              refine rw_i (v := nI (n 0)) hV.1 ?_
              refine lv_imul hx hb dX4_page_48 ?_
              refine rw_i (v := nI (256 * (n 0))) (pk_mul _ _) ?_
              refine lv_iload_n hx hb dX4_page_49 rfl (lv_at hl 2 rfl) ?_
              refine lv_iadd hx hb dX4_page_50 ?_
              refine rw_i (v := nI ((256 * (n 0)) + i)) (nI_add _ _) ?_
              refine lv_iload_n hx hb dX4_page_51 rfl (lv_at hl 1 rfl) ?_
              refine lv_if_ne (tgt := 70) hx hb dX4_page_52 (by decide) (fun c_52 => ?_) (fun c_52 => ?_)
              · have k_52 : z ≠ 0 := nn_neq (a := z) (b := 0) c_52 (by omega) (by omega)
                refine lv_iload_n hx hb dX4_page_70 rfl (lv_at hl 1 rfl) ?_
                refine lv_iconst (v := 1) hx hb dX4_page_71 (by decide) ?_
                refine lv_icmp_ne (tgt := 90) hx hb dX4_page_72 (by decide) (fun c_72 => ?_) (fun c_72 => ?_)
                · have k_72 : z ≠ 1 := nn_neq (a := z) (b := 1) c_72 (by omega) (by omega)
                  refine lv_iconst (v := (-1)) hx hb dX4_page_90 (by decide) ?_
                  refine mo_st (n := 3072) hE hN hP hS 0 1 rfl (by decide) rfl (by decide) dX4_page_91 (by omega) (fun H locs hP hS => ?_)
                  refine lv_iinc (v := nI (i + 1)) (lv' := [(2, .int (nI (i + 1))), (0, .ref (ad 0)), (1, .int (nI z))]) hx hb dX4_page_92 hl (k := 2) rfl (nI_1 i) (by decide) rfl (fun ls hl => ?_)
                  refine lv_goto (tgt := 30) hx hb dX4_page_95 (by decide) ?_
                  rw [blk_up, va_up_self, blk_s (show (-1) = fm z i by unfold fm; rw [if_neg k_52, if_neg k_72])] at hP
                  exact ih_30 (i + 1) (by omega) (by omega) H locs hP hS ls (lv_sub hl [1, 2, 0] rfl)
                · have k_72 : z = 1 := nn_eq (a := z) (b := 1) c_72 (by omega) (by omega)
                  refine lv_sipush (v := nI 167) hx hb dX4_page_75 (by decide) ?_
                  refine lv_iload_n hx hb dX4_page_78 rfl (lv_at hl 2 rfl) ?_
                  refine lv_imul hx hb dX4_page_79 ?_
                  refine rw_i (v := nI (167 * i)) (pk_mul _ _) ?_
                  refine lv_bipush (v := nI 13) hx hb dX4_page_80 (by decide) ?_
                  refine lv_iadd hx hb dX4_page_82 ?_
                  refine rw_i (v := nI ((167 * i) + 13)) (nI_add _ _) ?_
                  refine lv_sipush (v := nI 256) hx hb dX4_page_83 (by decide) ?_
                  refine lv_irem hx hb dX4_page_86 (by decide) ?_
                  refine rw_i (v := nI ((167 * i + 13) % 256)) (pk_rem (by omega) (by decide) (by decide)) ?_
                  refine lv_goto (tgt := 91) hx hb dX4_page_87 (by decide) ?_
                  refine mo_st (n := 3072) hE hN hP hS 0 1 rfl (by decide) rfl (by decide) dX4_page_91 (by omega) (fun H locs hP hS => ?_)
                  refine lv_iinc (v := nI (i + 1)) (lv' := [(2, .int (nI (i + 1))), (0, .ref (ad 0)), (1, .int (nI z))]) hx hb dX4_page_92 hl (k := 2) rfl (nI_1 i) (by decide) rfl (fun ls hl => ?_)
                  refine lv_goto (tgt := 30) hx hb dX4_page_95 (by decide) ?_
                  rw [blk_up, va_up_self, blk_s (show (nI ((167 * i + 13) % 256)) = fm z i by unfold fm; rw [if_neg k_52, if_pos k_72])] at hP
                  exact ih_30 (i + 1) (by omega) (by omega) H locs hP hS ls (lv_sub hl [1, 2, 0] rfl)
              · have k_52 : z = 0 := nn_eq (a := z) (b := 0) c_52 (by omega) (by omega)
                refine lv_iload_n hx hb dX4_page_55 rfl (lv_at hl 2 rfl) ?_
                refine lv_sipush (v := nI 128) hx hb dX4_page_56 (by decide) ?_
                refine lv_icmp_ge (tgt := 66) hx hb dX4_page_59 (by decide) (fun c_59 => ?_) (fun c_59 => ?_)
                · have k_59 : 128 ≤ i := nn_le (a := 128) (b := i) c_59 (by omega) (by omega)
                  refine lv_iconst (v := (-1)) hx hb dX4_page_66 (by decide) ?_
                  refine lv_goto (tgt := 91) hx hb dX4_page_67 (by decide) ?_
                  refine mo_st (n := 3072) hE hN hP hS 0 1 rfl (by decide) rfl (by decide) dX4_page_91 (by omega) (fun H locs hP hS => ?_)
                  refine lv_iinc (v := nI (i + 1)) (lv' := [(2, .int (nI (i + 1))), (0, .ref (ad 0)), (1, .int (nI z))]) hx hb dX4_page_92 hl (k := 2) rfl (nI_1 i) (by decide) rfl (fun ls hl => ?_)
                  refine lv_goto (tgt := 30) hx hb dX4_page_95 (by decide) ?_
                  rw [blk_up, va_up_self, blk_s (show (-1) = fm z i by unfold fm; rw [if_pos k_52, if_neg (by omega)])] at hP
                  exact ih_30 (i + 1) (by omega) (by omega) H locs hP hS ls (lv_sub hl [1, 2, 0] rfl)
                · have k_59 : i < 128 := nn_nle (a := 128) (b := i) c_59 (by omega) (by omega)
                  refine lv_iload_n hx hb dX4_page_62 rfl (lv_at hl 2 rfl) ?_
                  refine lv_goto (tgt := 91) hx hb dX4_page_63 (by decide) ?_
                  refine mo_st (n := 3072) hE hN hP hS 0 1 rfl (by decide) rfl (by decide) dX4_page_91 (by omega) (fun H locs hP hS => ?_)
                  refine lv_iinc (v := nI (i + 1)) (lv' := [(2, .int (nI (i + 1))), (0, .ref (ad 0)), (1, .int (nI z))]) hx hb dX4_page_92 hl (k := 2) rfl (nI_1 i) (by decide) rfl (fun ls hl => ?_)
                  refine lv_goto (tgt := 30) hx hb dX4_page_95 (by decide) ?_
                  rw [blk_up, va_up_self, blk_s (show (nI i) = fm z i by unfold fm; rw [if_pos k_52, if_pos k_59])] at hP
                  exact ih_30 (i + 1) (by omega) (by omega) H locs hP hS ls (lv_sub hl [1, 2, 0] rfl)
        exact lp_30 (257) 0 (by omega) (by omega) _ _ hP hS ls (lv_sub hl [1, 2, 0] rfl)
      · have k_23 : (n 0) = 12 := nn_eq (a := (n 0)) (b := 12) c_23 (by omega) (by omega)
        refine lv_iconst (v := (-1)) hx hb dX4_page_26 (by decide) ?_
        rw [hQ]
        exact mw_iret (v := (-1)) hE hr hlocks hP hS dX4_page_27 (⟨va_up v 0 0, g, n, rfl, hV, Or.inr (Or.inl ⟨hx3, k_23, rfl, rfl, rfl⟩)⟩)
    · refine lv_bipush (v := (-4)) hx hb dX4_page_14 (by decide) ?_
      rw [hQ]
      exact mw_iret (v := (-4)) hE hr hlocks hP hS dX4_page_16 (⟨va_up v 0 0, g, n, rfl, hV, Or.inl ⟨fun q => ((rw_in1 (n := 2) (by decide)).mp q).2 (Int32.not_le.mp c_11), rfl, rfl, rfl⟩⟩)

set_option maxRecDepth 20000 in
theorem mX4_row_f34 : Cond.fieldLink RX4 34 "CodePagesModel" "code" "I" ∈ wsX4_row := by decide +kernel
set_option maxRecDepth 20000 in
theorem mX4_row_f7 : Cond.fieldLink RX4 7 "CodePagesModel" "means" "[I" ∈ wsX4_row := by decide +kernel
set_option maxRecDepth 20000 in
theorem iX4_row_X4 : ∀ w ∈ u_ws RX4 TX4 14, w ∈ wsX4_row := by decide +kernel
set_option maxHeartbeats 4000000 in
set_option maxRecDepth 100000 in
theorem tX4_row (l : Launch) (D : va_G) (k : Nat → ClassId) (M : mw) (sz : Nat) (ad : Nat → Nat) (v : Nat → Int32) (g : Nat → Nat → Int32) (n : Nat → Nat) (x y : Int32) (hN : mo_N ad) (hV : mo_V v n) (hn9 : mo_B n) (hM : M = mo_M (k 0) ad v g) : Met l yX4_row wsX4_row ({ frames := 1, cells := 0, slots := 0, locals := 21 }) (va_Pc [.ref (ad 0), .int x, .int y] (mw_U D vwCl (TY k) M sz)) (va_Qi (fun r M1 => ∃ v1, M1 = mo_M (k 0) ad v1 g ∧ mo_V v1 n ∧ R_row n g x y r (v1 0)) (mw_B D vwCl M sz) (mw_A M sz)) 0 0 (mw_A M sz) := by
  refine mw_met (cc := cX4_row) (maxL := 4) (ret := (some .int)) (lv := [(0, .ref (ad 0)), (1, .int x), (2, .int y)]) (by decide) rfl (Nat.le_of_ble_eq_true rfl) rfl ?_
  intro p e s m below meth c ls hE hr hlocks hin hml hsz hP hS hl
  subst hsz
  have hx := hE.1
  have hb := hE.2.1
  have hA : ∀ q, s.heap.size ≤ q → mw_A M s.heap.size q := fun q h => Or.inr h
  have hP : mw_Q (mw_A M s.heap.size) D vwCl (mo_M (k 0) ad v g) s.heap := by rw [← hM]; exact hP
  obtain ⟨hb0, hb1, hb2, hb3⟩ := hn9
  refine lv_aload_n hx hb dX4_row_0 rfl (lv_at hl 0 rfl) ?_
  refine lv_iload_n hx hb dX4_row_1 rfl (lv_at hl 1 rfl) ?_
  refine mw_calli hP hS hA (va_runV (As := [.int x]) (rest := []) ⟨hx, hb, hml, hE.2.2.2.1, hE.2.2.1⟩ (tX4_isPage l D k _ _ ad v g n x hN hV ⟨hb0, hb1, hb2, hb3⟩ rfl) (cwV 1 hE.2.2.1 gX4_row_X4_isPage rfl rfl rfl (by decide +kernel) ⟨(Nat.le_of_ble_eq_true rfl), (Nat.le_of_ble_eq_true rfl)⟩) (mw_preV hE hP (ci := 5) rfl rfl mo_o [.int x]) rfl rfl hl.1 rfl (lv_room (Nat.le_of_ble_eq_true rfl)) dX4_row_2 ⟨(Nat.le_of_ble_eq_true rfl), (Nat.le_of_ble_eq_true rfl)⟩) (fun r_1 M1 H locs hw hP hS => ?_)
  obtain ⟨rfl, hw⟩ := hw
  rcases hw with ⟨hq_2, rfl⟩ | ⟨hq_2, rfl⟩
  · obtain ⟨pp, hpp, rfl⟩ := vp_in_of hq_2 (by omega)
    refine lv_if_eq (tgt := 19) hx hb dX4_row_5 (by decide) (fun c9 => absurd c9 (by decide)) (fun _ => ?_)
    refine lv_iload_n hx hb dX4_row_8 rfl (lv_at hl 2 rfl) ?_
    refine mw_calli hP hS hA (va_runS (As := [.int y]) (rest := []) ⟨hx, hb, hml, hE.2.2.2.1, hE.2.2.1⟩ (tX4_isCode l D k _ _ y) (va_cwS 1 hE.2.2.1 gX4_row_X4_isCode rfl rfl rfl (by decide +kernel) ⟨(Nat.le_of_ble_eq_true rfl), (Nat.le_of_ble_eq_true rfl)⟩) (mw_preS hE hP [.int y]) rfl rfl hl.1 rfl (lv_room (Nat.le_of_ble_eq_true rfl)) dX4_row_9 ⟨(Nat.le_of_ble_eq_true rfl), (Nat.le_of_ble_eq_true rfl)⟩) (fun r_4 M1 H locs hw hP hS => ?_)
    obtain ⟨rfl, hw⟩ := hw
    rcases hw with ⟨hq_5, rfl⟩ | ⟨hq_5, rfl⟩
    · obtain ⟨j, hj, rfl⟩ := vp_in_of hq_5 (by omega)
      refine lv_if_eq (tgt := 19) hx hb dX4_row_12 (by decide) (fun c9 => absurd c9 (by decide)) (fun _ => ?_)
      refine lv_iconst (v := 1) hx hb dX4_row_15 (by decide) ?_
      refine lv_goto (tgt := 20) hx hb dX4_row_16 (by decide) ?_
      refine lv_istore_n (lv' := [(3, .int 1), (0, .ref (ad 0)), (1, .int (nI pp)), (2, .int (nI j))]) hx hb dX4_row_20 rfl hl (by decide) rfl (fun ls hl => ?_)
      refine lv_aload_n hx hb dX4_row_21 rfl (lv_at hl 1 rfl) ?_
      refine lv_iload_n hx hb dX4_row_22 rfl (lv_at hl 0 rfl) ?_
      refine lv_if_eq (tgt := 30) hx hb dX4_row_23 (by decide) (fun c9 => absurd c9 (by decide)) (fun _ => ?_)
      refine lv_iconst (v := 0) hx hb dX4_row_26 (by decide) ?_
      refine lv_goto (tgt := 31) hx hb dX4_row_27 (by decide) ?_
      refine mo_put hE iX4_row_X4 hP hS 0 (by decide) mX4_row_f34 rfl rfl (by decide +kernel) rfl dX4_row_31 (fun H locs hP hS => ?_)
      refine lv_iload_n hx hb dX4_row_34 rfl (lv_at hl 0 rfl) ?_
      refine lv_if_eq (tgt := 53) hx hb dX4_row_35 (by decide) (fun c9 => absurd c9 (by decide)) (fun _ => ?_)
      refine lv_aload_n hx hb dX4_row_38 rfl (lv_at hl 1 rfl) ?_
      refine mo_get (x := .ref (ad 1)) hE iX4_row_X4 hP 1 (by decide) mX4_row_f7 rfl rfl dX4_row_39 ?_
      refine lv_sipush (v := nI 256) hx hb dX4_row_42 (by decide) ?_
      refine lv_iload_n hx hb dX4_row_45 rfl (lv_at hl 2 rfl) ?_
      refine lv_imul hx hb dX4_row_46 ?_
      refine rw_i (v := nI (256 * pp)) (pk_mul _ _) ?_
      refine lv_iload_n hx hb dX4_row_47 rfl (lv_at hl 3 rfl) ?_
      refine lv_iadd hx hb dX4_row_48 ?_
      refine rw_i (v := nI ((256 * pp) + j)) (nI_add _ _) ?_
      refine mo_ld (n := 3072) hE hN hP 0 1 rfl (by decide) rfl (by decide) dX4_row_49 (by omega) ?_
      refine lv_goto (tgt := 54) hx hb dX4_row_50 (by decide) ?_
      exact mw_iret (v := g 1 ((256 * pp) + j)) hE hr hlocks hP hS dX4_row_54 (⟨va_up v 0 0, rfl, hV, Or.inr ⟨pp, j, hpp, hj, rfl, rfl, rfl, rfl⟩⟩)
    · refine lv_if_eq (tgt := 19) hx hb dX4_row_12 (by decide) (fun _ => ?_) (fun c9 => absurd (by decide) c9)
      refine lv_iconst (v := 0) hx hb dX4_row_19 (by decide) ?_
      refine lv_istore_n (lv' := [(3, .int 0), (0, .ref (ad 0)), (1, .int (nI pp)), (2, .int y)]) hx hb dX4_row_20 rfl hl (by decide) rfl (fun ls hl => ?_)
      refine lv_aload_n hx hb dX4_row_21 rfl (lv_at hl 1 rfl) ?_
      refine lv_iload_n hx hb dX4_row_22 rfl (lv_at hl 0 rfl) ?_
      refine lv_if_eq (tgt := 30) hx hb dX4_row_23 (by decide) (fun _ => ?_) (fun c9 => absurd (by decide) c9)
      refine lv_iconst (v := 1) hx hb dX4_row_30 (by decide) ?_
      refine mo_put hE iX4_row_X4 hP hS 0 (by decide) mX4_row_f34 rfl rfl (by decide +kernel) rfl dX4_row_31 (fun H locs hP hS => ?_)
      refine lv_iload_n hx hb dX4_row_34 rfl (lv_at hl 0 rfl) ?_
      refine lv_if_eq (tgt := 53) hx hb dX4_row_35 (by decide) (fun _ => ?_) (fun c9 => absurd (by decide) c9)
      refine lv_iconst (v := 0) hx hb dX4_row_53 (by decide) ?_
      exact mw_iret (v := 0) hE hr hlocks hP hS dX4_row_54 (⟨va_up v 0 1, rfl, hV, Or.inl ⟨fun q => hq_5 q.2, rfl, rfl⟩⟩)
  · refine lv_if_eq (tgt := 19) hx hb dX4_row_5 (by decide) (fun _ => ?_) (fun c9 => absurd (by decide) c9)
    refine lv_iconst (v := 0) hx hb dX4_row_19 (by decide) ?_
    refine lv_istore_n (lv' := [(3, .int 0), (0, .ref (ad 0)), (1, .int x), (2, .int y)]) hx hb dX4_row_20 rfl hl (by decide) rfl (fun ls hl => ?_)
    refine lv_aload_n hx hb dX4_row_21 rfl (lv_at hl 1 rfl) ?_
    refine lv_iload_n hx hb dX4_row_22 rfl (lv_at hl 0 rfl) ?_
    refine lv_if_eq (tgt := 30) hx hb dX4_row_23 (by decide) (fun _ => ?_) (fun c9 => absurd (by decide) c9)
    refine lv_iconst (v := 1) hx hb dX4_row_30 (by decide) ?_
    refine mo_put hE iX4_row_X4 hP hS 0 (by decide) mX4_row_f34 rfl rfl (by decide +kernel) rfl dX4_row_31 (fun H locs hP hS => ?_)
    refine lv_iload_n hx hb dX4_row_34 rfl (lv_at hl 0 rfl) ?_
    refine lv_if_eq (tgt := 53) hx hb dX4_row_35 (by decide) (fun _ => ?_) (fun c9 => absurd (by decide) c9)
    refine lv_iconst (v := 0) hx hb dX4_row_53 (by decide) ?_
    exact mw_iret (v := 0) hE hr hlocks hP hS dX4_row_54 (⟨va_up v 0 1, rfl, hV, Or.inl ⟨fun q => hq_2 q.1, rfl, rfl⟩⟩)

set_option maxRecDepth 20000 in
theorem mX4_standIn_f13 : Cond.fieldLink RX4 13 "CodePagesModel" "standIns" "[I" ∈ wsX4_standIn := by decide +kernel
set_option maxRecDepth 20000 in
theorem mX4_standIn_f34 : Cond.fieldLink RX4 34 "CodePagesModel" "code" "I" ∈ wsX4_standIn := by decide +kernel
set_option maxRecDepth 20000 in
theorem iX4_standIn_X4 : ∀ w ∈ u_ws RX4 TX4 14, w ∈ wsX4_standIn := by decide +kernel
set_option maxHeartbeats 4000000 in
set_option maxRecDepth 100000 in
theorem tX4_standIn (l : Launch) (D : va_G) (k : Nat → ClassId) (M : mw) (sz : Nat) (ad : Nat → Nat) (v : Nat → Int32) (g : Nat → Nat → Int32) (n : Nat → Nat) (x y : Int32) (hN : mo_N ad) (hV : mo_V v n) (hn9 : mo_B n) (hM : M = mo_M (k 0) ad v g) : Met l yX4_standIn wsX4_standIn ({ frames := 1, cells := 0, slots := 0, locals := 21 }) (va_Pc [.ref (ad 0), .int x, .int y] (mw_U D vwCl (TY k) M sz)) (va_Qi (fun r M1 => ∃ v1 g1, M1 = mo_M (k 0) ad v1 g1 ∧ mo_V v1 n ∧ R_standIn n g x y r g1) (mw_B D vwCl M sz) (mw_A M sz)) 0 0 (mw_A M sz) := by
  refine mw_met (cc := cX4_standIn) (maxL := 4) (ret := (some .int)) (lv := [(0, .ref (ad 0)), (1, .int x), (2, .int y)]) (by decide) rfl (Nat.le_of_ble_eq_true rfl) rfl ?_
  intro p e s m below meth c ls hE hr hlocks hin hml hsz hP hS hl
  subst hsz
  have hx := hE.1
  have hb := hE.2.1
  have hA : ∀ q, s.heap.size ≤ q → mw_A M s.heap.size q := fun q h => Or.inr h
  have hP : mw_Q (mw_A M s.heap.size) D vwCl (mo_M (k 0) ad v g) s.heap := by rw [← hM]; exact hP
  obtain ⟨hb0, hb1, hb2, hb3⟩ := hn9
  refine lv_aload_n hx hb dX4_standIn_0 rfl (lv_at hl 0 rfl) ?_
  refine lv_iconst (v := 0) hx hb dX4_standIn_1 (by decide) ?_
  refine mo_put hE iX4_standIn_X4 hP hS 0 (by decide) mX4_standIn_f34 rfl rfl (by decide +kernel) rfl dX4_standIn_2 (fun H locs hP hS => ?_)
  refine lv_aload_n hx hb dX4_standIn_5 rfl (lv_at hl 0 rfl) ?_
  refine lv_iload_n hx hb dX4_standIn_6 rfl (lv_at hl 1 rfl) ?_
  refine mw_calli hP hS hA (va_runV (As := [.int x]) (rest := []) ⟨hx, hb, hml, hE.2.2.2.1, hE.2.2.1⟩ (tX4_isPage l D k _ _ ad (va_up v 0 0) g n x hN hV ⟨hb0, hb1, hb2, hb3⟩ rfl) (cwV 1 hE.2.2.1 gX4_standIn_X4_isPage rfl rfl rfl (by decide +kernel) ⟨(Nat.le_of_ble_eq_true rfl), (Nat.le_of_ble_eq_true rfl)⟩) (mw_preV hE hP (ci := 5) rfl rfl mo_o [.int x]) rfl rfl hl.1 rfl (lv_room (Nat.le_of_ble_eq_true rfl)) dX4_standIn_7 ⟨(Nat.le_of_ble_eq_true rfl), (Nat.le_of_ble_eq_true rfl)⟩) (fun r_1 M1 H locs hw hP hS => ?_)
  obtain ⟨rfl, hw⟩ := hw
  rcases hw with ⟨hq_2, rfl⟩ | ⟨hq_2, rfl⟩
  · obtain ⟨pp, hpp, rfl⟩ := vp_in_of hq_2 (by omega)
    refine lv_if_ne (tgt := 16) hx hb dX4_standIn_10 (by decide) (fun _ => ?_) (fun c9 => absurd c9 (by decide))
    refine lv_iload_n hx hb dX4_standIn_16 rfl (lv_at hl 2 rfl) ?_
    refine mw_calli hP hS hA (va_runS (As := [.int y]) (rest := []) ⟨hx, hb, hml, hE.2.2.2.1, hE.2.2.1⟩ (tX4_isCode l D k _ _ y) (va_cwS 1 hE.2.2.1 gX4_standIn_X4_isCode rfl rfl rfl (by decide +kernel) ⟨(Nat.le_of_ble_eq_true rfl), (Nat.le_of_ble_eq_true rfl)⟩) (mw_preS hE hP [.int y]) rfl rfl hl.1 rfl (lv_room (Nat.le_of_ble_eq_true rfl)) dX4_standIn_17 ⟨(Nat.le_of_ble_eq_true rfl), (Nat.le_of_ble_eq_true rfl)⟩) (fun r_4 M1 H locs hw hP hS => ?_)
    obtain ⟨rfl, hw⟩ := hw
    rcases hw with ⟨hq_5, rfl⟩ | ⟨hq_5, rfl⟩
    · obtain ⟨j, hj, rfl⟩ := vp_in_of hq_5 (by omega)
      refine lv_if_ne (tgt := 26) hx hb dX4_standIn_20 (by decide) (fun _ => ?_) (fun c9 => absurd c9 (by decide))
      refine lv_aload_n hx hb dX4_standIn_26 rfl (lv_at hl 0 rfl) ?_
      refine mo_get (x := .ref (ad 2)) hE iX4_standIn_X4 hP 2 (by decide) mX4_standIn_f13 rfl rfl dX4_standIn_27 ?_
      refine lv_iload_n hx hb dX4_standIn_30 rfl (lv_at hl 1 rfl) ?_
      refine mo_ld (n := 12) hE hN hP 0 2 rfl (by decide) rfl (by decide) dX4_standIn_31 (by omega) ?_
      refine lv_istore_n (lv' := [(3, .int (g 2 pp)), (0, .ref (ad 0)), (1, .int (nI pp)), (2, .int (nI j))]) hx hb dX4_standIn_32 rfl hl (by decide) rfl (fun ls hl => ?_)
      refine lv_aload_n hx hb dX4_standIn_33 rfl (lv_at hl 1 rfl) ?_
      refine mo_get (x := .ref (ad 2)) hE iX4_standIn_X4 hP 2 (by decide) mX4_standIn_f13 rfl rfl dX4_standIn_34 ?_
      refine lv_iload_n hx hb dX4_standIn_37 rfl (lv_at hl 2 rfl) ?_
      refine lv_iload_n hx hb dX4_standIn_38 rfl (lv_at hl 3 rfl) ?_
      refine mo_st (n := 12) hE hN hP hS 0 2 rfl (by decide) rfl (by decide) dX4_standIn_39 (by omega) (fun H locs hP hS => ?_)
      refine lv_iload_n hx hb dX4_standIn_40 rfl (lv_at hl 0 rfl) ?_
      exact mw_iret (v := g 2 pp) hE hr hlocks hP hS dX4_standIn_41 (⟨va_up v 0 0, va_up g 2 (upd (g 2) pp (nI j)), rfl, hV, Or.inr (Or.inr ⟨pp, j, hpp, hj, rfl, rfl, rfl, rfl⟩)⟩)
    · refine lv_if_ne (tgt := 26) hx hb dX4_standIn_20 (by decide) (fun c9 => absurd (by decide) c9) (fun _ => ?_)
      refine lv_bipush (v := (-4)) hx hb dX4_standIn_23 (by decide) ?_
      exact mw_iret (v := (-4)) hE hr hlocks hP hS dX4_standIn_25 (⟨va_up v 0 0, g, rfl, hV, Or.inr (Or.inl ⟨vp_in_nI hpp (by omega), hq_5, rfl, rfl⟩)⟩)
  · refine lv_if_ne (tgt := 16) hx hb dX4_standIn_10 (by decide) (fun c9 => absurd (by decide) c9) (fun _ => ?_)
    refine lv_bipush (v := (-2)) hx hb dX4_standIn_13 (by decide) ?_
    exact mw_iret (v := (-2)) hE hr hlocks hP hS dX4_standIn_15 (⟨va_up v 0 0, g, rfl, hV, Or.inl ⟨hq_2, rfl, rfl⟩⟩)

set_option maxRecDepth 20000 in
theorem mX4_translated_f13 : Cond.fieldLink RX4 13 "CodePagesModel" "standIns" "[I" ∈ wsX4_translated := by decide +kernel
set_option maxRecDepth 20000 in
theorem mX4_translated_f31 : Cond.fieldLink RX4 31 "CodePagesModel" "listed" "[I" ∈ wsX4_translated := by decide +kernel
set_option maxRecDepth 20000 in
theorem mX4_translated_f59 : Cond.fieldLink RX4 59 "CodePagesModel" "list" "I" ∈ wsX4_translated := by decide +kernel
set_option maxRecDepth 20000 in
theorem mX4_translated_f62 : Cond.fieldLink RX4 62 "CodePagesModel" "count" "I" ∈ wsX4_translated := by decide +kernel
set_option maxRecDepth 20000 in
theorem mX4_translated_f7 : Cond.fieldLink RX4 7 "CodePagesModel" "means" "[I" ∈ wsX4_translated := by decide +kernel
set_option maxRecDepth 20000 in
theorem iX4_translated_X4 : ∀ w ∈ u_ws RX4 TX4 14, w ∈ wsX4_translated := by decide +kernel
set_option maxHeartbeats 4000000 in
set_option maxRecDepth 100000 in
theorem tX4_translated (l : Launch) (D : va_G) (k : Nat → ClassId) (M : mw) (sz : Nat) (ad : Nat → Nat) (v : Nat → Int32) (g : Nat → Nat → Int32) (n : Nat → Nat) (j pp qq : Nat) (hN : mo_N ad) (hV : mo_V v n) (hn9 : mo_B n) (hM : M = mo_M (k 0) ad v g) (hj : j < 256) (hpp : pp < n 0) (hqq : qq < n 0) : Met l yX4_translated wsX4_translated ({ frames := 1, cells := 0, slots := 0, locals := 24 }) (va_Pc [.ref (ad 0), .int (nI j), .int (nI pp), .int (nI qq)] (mw_U D vwCl (TY k) M sz)) (va_Qi (fun r M1 => ∃ v1 g1 n1 d, M1 = mo_M (k 0) ad v1 g1 ∧ mo_V v1 n1 ∧ R_tr n g j pp qq r n1 g1 d ∧ v1 13 = v 13 + nI d ∧ v1 0 = v 0) (mw_B D vwCl M sz) (mw_A M sz)) 0 0 (mw_A M sz) := by
  refine mw_met (cc := cX4_translated) (maxL := 6) (ret := (some .int)) (lv := [(0, .ref (ad 0)), (1, .int (nI j)), (2, .int (nI pp)), (3, .int (nI qq))]) (by decide) rfl (Nat.le_of_ble_eq_true rfl) rfl ?_
  intro p e s m below meth c ls hE hr hlocks hin hml hsz hP hS hl
  subst hsz
  have hx := hE.1
  have hb := hE.2.1
  have hA : ∀ q, s.heap.size ≤ q → mw_A M s.heap.size q := fun q h => Or.inr h
  have hP : mw_Q (mw_A M s.heap.size) D vwCl (mo_M (k 0) ad v g) s.heap := by rw [← hM]; exact hP
  obtain ⟨hb0, hb1, hb2, hb3⟩ := hn9
  refine lv_aload_n hx hb dX4_translated_0 rfl (lv_at hl 0 rfl) ?_
  refine mo_get (x := .ref (ad 1)) hE iX4_translated_X4 hP 1 (by decide) mX4_translated_f7 rfl rfl dX4_translated_1 ?_
  refine lv_sipush (v := nI 256) hx hb dX4_translated_4 (by decide) ?_
  refine lv_iload_n hx hb dX4_translated_7 rfl (lv_at hl 2 rfl) ?_
  refine lv_imul hx hb dX4_translated_8 ?_
  refine rw_i (v := nI (256 * pp)) (pk_mul _ _) ?_
  refine lv_iload_n hx hb dX4_translated_9 rfl (lv_at hl 1 rfl) ?_
  refine lv_iadd hx hb dX4_translated_10 ?_
  refine rw_i (v := nI ((256 * pp) + j)) (nI_add _ _) ?_
  refine mo_ld (n := 3072) hE hN hP 0 1 rfl (by decide) rfl (by decide) dX4_translated_11 (by omega) ?_
  refine lv_istore (lv' := [(4, .int (g 1 ((256 * pp) + j))), (0, .ref (ad 0)), (1, .int (nI j)), (2, .int (nI pp)), (3, .int (nI qq))]) hx hb dX4_translated_12 hl (by decide) rfl (fun ls hl => ?_)
  refine lv_iload hx hb dX4_translated_14 (lv_at hl 0 rfl) ?_
  refine lv_iconst (v := (-1)) hx hb dX4_translated_16 (by decide) ?_
  refine lv_icmp_ne (tgt := 24) hx hb dX4_translated_17 (by decide) (fun c_17 => ?_) (fun c_17 => ?_)
  · refine lv_aload_n hx hb dX4_translated_24 rfl (lv_at hl 1 rfl) ?_
    refine lv_iload_n hx hb dX4_translated_25 rfl (lv_at hl 4 rfl) ?_
    refine lv_iload hx hb dX4_translated_26 (lv_at hl 0 rfl) ?_
    refine mw_calli hP hS hA (va_runV (As := [.int (nI qq), .int (g 1 ((256 * pp) + j))]) (rest := []) ⟨hx, hb, hml, hE.2.2.2.1, hE.2.2.1⟩ (tX4_codeOf l D k _ _ ad v g n qq (g 1 ((256 * pp) + j)) hN hV ⟨hb0, hb1, hb2, hb3⟩ rfl (by omega)) (cwV 2 hE.2.2.1 gX4_translated_X4_codeOf rfl rfl rfl (by decide +kernel) ⟨(Nat.le_of_ble_eq_true rfl), (Nat.le_of_ble_eq_true rfl)⟩) (mw_preV hE hP (ci := 5) rfl rfl mo_o [.int (nI qq), .int (g 1 ((256 * pp) + j))]) rfl rfl hl.1 rfl (lv_room (Nat.le_of_ble_eq_true rfl)) dX4_translated_28 ⟨(Nat.le_of_ble_eq_true rfl), (Nat.le_of_ble_eq_true rfl)⟩) (fun r_2 M1 H locs hw hP hS => ?_)
    obtain ⟨rfl, er_2⟩ := hw
    refine lv_istore (lv' := [(5, .int r_2), (4, .int (g 1 ((256 * pp) + j))), (0, .ref (ad 0)), (1, .int (nI j)), (2, .int (nI pp)), (3, .int (nI qq))]) hx hb dX4_translated_31 hl (by decide) rfl (fun ls hl => ?_)
    refine lv_iload hx hb dX4_translated_33 (lv_at hl 0 rfl) ?_
    refine lv_iconst (v := (-1)) hx hb dX4_translated_35 (by decide) ?_
    refine lv_icmp_eq (tgt := 42) hx hb dX4_translated_36 (by decide) (fun c_36 => ?_) (fun c_36 => ?_)
    · refine lv_aload_n hx hb dX4_translated_42 rfl (lv_at hl 2 rfl) ?_
      refine mo_get (x := .int (v 12)) hE iX4_translated_X4 hP 12 (by decide) mX4_translated_f59 rfl rfl dX4_translated_43 ?_
      refine rw_i (v := nI (n 3)) hV.2.2.2 ?_
      refine lv_sipush (v := nI 200) hx hb dX4_translated_46 (by decide) ?_
      refine lv_icmp_ge (tgt := 72) hx hb dX4_translated_49 (by decide) (fun c_49 => ?_) (fun c_49 => ?_)
      · have k_49 : 200 ≤ (n 3) := nn_le (a := 200) (b := (n 3)) c_49 (by omega) (by omega)
        refine lv_aload_n hx hb dX4_translated_72 rfl (lv_at hl 2 rfl) ?_
        refine lv_dup hx hb dX4_translated_73 rfl ?_
        refine mo_get (x := .int (v 13)) hE iX4_translated_X4 hP 13 (by decide) mX4_translated_f62 rfl rfl dX4_translated_74 ?_
        refine lv_iconst (v := 1) hx hb dX4_translated_77 (by decide) ?_
        refine lv_iadd hx hb dX4_translated_78 ?_
        refine mo_put hE iX4_translated_X4 hP hS 13 (by decide) mX4_translated_f62 rfl rfl (by decide +kernel) rfl dX4_translated_79 (fun H locs hP hS => ?_)
        refine lv_aload_n hx hb dX4_translated_82 rfl (lv_at hl 2 rfl) ?_
        refine mo_get (x := .ref (ad 2)) hE iX4_translated_X4 hP 2 (by decide) mX4_translated_f13 rfl rfl dX4_translated_83 ?_
        refine lv_iload_n hx hb dX4_translated_86 rfl (lv_at hl 5 rfl) ?_
        refine mo_ld (n := 12) hE hN hP 0 2 rfl (by decide) rfl (by decide) dX4_translated_87 (by omega) ?_
        exact mw_iret (v := g 2 qq) hE hr hlocks hP hS dX4_translated_88 (⟨_, _, n, 1, rfl, hV, Or.inr ⟨(by rw [show mf g qq (g 1 (256 * pp + j)) = r_2 by unfold mf; rw [if_neg c_17, er_2]]; exact c_36), rfl, rfl, Or.inr ⟨by omega, rfl, rfl⟩⟩, rfl, rfl⟩)
      · have k_49 : (n 3) < 200 := nn_nle (a := 200) (b := (n 3)) c_49 (by omega) (by omega)
        refine lv_aload_n hx hb dX4_translated_52 rfl (lv_at hl 2 rfl) ?_
        refine mo_get (x := .ref (ad 11)) hE iX4_translated_X4 hP 11 (by decide) mX4_translated_f31 rfl rfl dX4_translated_53 ?_
        refine lv_aload_n hx hb dX4_translated_56 rfl (lv_at hl 2 rfl) ?_
        refine mo_get (x := .int (v 12)) hE iX4_translated_X4 hP 12 (by decide) mX4_translated_f59 rfl rfl dX4_translated_57 ?_
        refine rw_i (v := nI (n 3)) hV.2.2.2 ?_
        refine lv_iload_n hx hb dX4_translated_60 rfl (lv_at hl 3 rfl) ?_
        refine mo_st (n := 200) hE hN hP hS 0 11 rfl (by decide) rfl (by decide) dX4_translated_61 (by omega) (fun H locs hP hS => ?_)
        refine lv_aload_n hx hb dX4_translated_62 rfl (lv_at hl 2 rfl) ?_
        refine lv_dup hx hb dX4_translated_63 rfl ?_
        refine mo_get (x := .int (v 12)) hE iX4_translated_X4 hP 12 (by decide) mX4_translated_f59 rfl rfl dX4_translated_64 ?_
        refine rw_i (v := nI (n 3)) hV.2.2.2 ?_
        refine lv_iconst (v := 1) hx hb dX4_translated_67 (by decide) ?_
        refine lv_iadd hx hb dX4_translated_68 ?_
        refine rw_i (v := nI ((n 3) + 1)) (nI_1 _) ?_
        refine mo_put hE iX4_translated_X4 hP hS 12 (by decide) mX4_translated_f59 rfl rfl (by decide +kernel) rfl dX4_translated_69 (fun H locs hP hS => ?_)
        refine lv_aload_n hx hb dX4_translated_72 rfl (lv_at hl 2 rfl) ?_
        refine lv_dup hx hb dX4_translated_73 rfl ?_
        refine mo_get (x := .int (v 13)) hE iX4_translated_X4 hP 13 (by decide) mX4_translated_f62 rfl rfl dX4_translated_74 ?_
        refine lv_iconst (v := 1) hx hb dX4_translated_77 (by decide) ?_
        refine lv_iadd hx hb dX4_translated_78 ?_
        refine mo_put hE iX4_translated_X4 hP hS 13 (by decide) mX4_translated_f62 rfl rfl (by decide +kernel) rfl dX4_translated_79 (fun H locs hP hS => ?_)
        refine lv_aload_n hx hb dX4_translated_82 rfl (lv_at hl 2 rfl) ?_
        refine mo_get (x := .ref (ad 2)) hE iX4_translated_X4 hP 2 (by decide) mX4_translated_f13 rfl rfl dX4_translated_83 ?_
        refine lv_iload_n hx hb dX4_translated_86 rfl (lv_at hl 5 rfl) ?_
        refine mo_ld (n := 12) hE hN hP 0 2 rfl (by decide) rfl (by decide) dX4_translated_87 (by omega) ?_
        refine rw_i (v := g 2 qq) rfl ?_
        exact mw_iret (v := g 2 qq) hE hr hlocks hP hS dX4_translated_88 (⟨_, _, va_up n 3 (n 3 + 1), 1, rfl, ⟨hV.1, hV.2.1, hV.2.2.1, rfl⟩, Or.inr ⟨(by rw [show mf g qq (g 1 (256 * pp + j)) = r_2 by unfold mf; rw [if_neg c_17, er_2]]; exact c_36), rfl, rfl, Or.inl ⟨by omega, rfl, rfl⟩⟩, rfl, rfl⟩)
    · refine lv_iload hx hb dX4_translated_39 (lv_at hl 0 rfl) ?_
      exact mw_iret (v := r_2) hE hr hlocks hP hS dX4_translated_41 (⟨v, g, n, 0, rfl, hV, Or.inl ⟨by rw [show mf g qq (g 1 (256 * pp + j)) = r_2 by unfold mf; rw [if_neg c_17, er_2]]; exact c_36, by rw [show mf g qq (g 1 (256 * pp + j)) = r_2 by unfold mf; rw [if_neg c_17, er_2]], rfl, rfl, rfl⟩, (Int32.add_zero _).symm, rfl⟩)
  · refine lv_iconst (v := (-1)) hx hb dX4_translated_20 (by decide) ?_
    refine lv_goto (tgt := 31) hx hb dX4_translated_21 (by decide) ?_
    refine lv_istore (lv' := [(5, .int (-1)), (4, .int (g 1 ((256 * pp) + j))), (0, .ref (ad 0)), (1, .int (nI j)), (2, .int (nI pp)), (3, .int (nI qq))]) hx hb dX4_translated_31 hl (by decide) rfl (fun ls hl => ?_)
    refine lv_iload hx hb dX4_translated_33 (lv_at hl 0 rfl) ?_
    refine lv_iconst (v := (-1)) hx hb dX4_translated_35 (by decide) ?_
    refine lv_icmp_eq (tgt := 42) hx hb dX4_translated_36 (by decide) (fun _ => ?_) (fun c9 => absurd (by decide) c9)
    refine lv_aload_n hx hb dX4_translated_42 rfl (lv_at hl 2 rfl) ?_
    refine mo_get (x := .int (v 12)) hE iX4_translated_X4 hP 12 (by decide) mX4_translated_f59 rfl rfl dX4_translated_43 ?_
    refine rw_i (v := nI (n 3)) hV.2.2.2 ?_
    refine lv_sipush (v := nI 200) hx hb dX4_translated_46 (by decide) ?_
    refine lv_icmp_ge (tgt := 72) hx hb dX4_translated_49 (by decide) (fun c_49 => ?_) (fun c_49 => ?_)
    · have k_49 : 200 ≤ (n 3) := nn_le (a := 200) (b := (n 3)) c_49 (by omega) (by omega)
      refine lv_aload_n hx hb dX4_translated_72 rfl (lv_at hl 2 rfl) ?_
      refine lv_dup hx hb dX4_translated_73 rfl ?_
      refine mo_get (x := .int (v 13)) hE iX4_translated_X4 hP 13 (by decide) mX4_translated_f62 rfl rfl dX4_translated_74 ?_
      refine lv_iconst (v := 1) hx hb dX4_translated_77 (by decide) ?_
      refine lv_iadd hx hb dX4_translated_78 ?_
      refine mo_put hE iX4_translated_X4 hP hS 13 (by decide) mX4_translated_f62 rfl rfl (by decide +kernel) rfl dX4_translated_79 (fun H locs hP hS => ?_)
      refine lv_aload_n hx hb dX4_translated_82 rfl (lv_at hl 2 rfl) ?_
      refine mo_get (x := .ref (ad 2)) hE iX4_translated_X4 hP 2 (by decide) mX4_translated_f13 rfl rfl dX4_translated_83 ?_
      refine lv_iload_n hx hb dX4_translated_86 rfl (lv_at hl 5 rfl) ?_
      refine mo_ld (n := 12) hE hN hP 0 2 rfl (by decide) rfl (by decide) dX4_translated_87 (by omega) ?_
      exact mw_iret (v := g 2 qq) hE hr hlocks hP hS dX4_translated_88 (⟨_, _, n, 1, rfl, hV, Or.inr ⟨(by rw [show mf g qq (g 1 (256 * pp + j)) = -1 by unfold mf; rw [if_pos c_17]]), rfl, rfl, Or.inr ⟨by omega, rfl, rfl⟩⟩, rfl, rfl⟩)
    · have k_49 : (n 3) < 200 := nn_nle (a := 200) (b := (n 3)) c_49 (by omega) (by omega)
      refine lv_aload_n hx hb dX4_translated_52 rfl (lv_at hl 2 rfl) ?_
      refine mo_get (x := .ref (ad 11)) hE iX4_translated_X4 hP 11 (by decide) mX4_translated_f31 rfl rfl dX4_translated_53 ?_
      refine lv_aload_n hx hb dX4_translated_56 rfl (lv_at hl 2 rfl) ?_
      refine mo_get (x := .int (v 12)) hE iX4_translated_X4 hP 12 (by decide) mX4_translated_f59 rfl rfl dX4_translated_57 ?_
      refine rw_i (v := nI (n 3)) hV.2.2.2 ?_
      refine lv_iload_n hx hb dX4_translated_60 rfl (lv_at hl 3 rfl) ?_
      refine mo_st (n := 200) hE hN hP hS 0 11 rfl (by decide) rfl (by decide) dX4_translated_61 (by omega) (fun H locs hP hS => ?_)
      refine lv_aload_n hx hb dX4_translated_62 rfl (lv_at hl 2 rfl) ?_
      refine lv_dup hx hb dX4_translated_63 rfl ?_
      refine mo_get (x := .int (v 12)) hE iX4_translated_X4 hP 12 (by decide) mX4_translated_f59 rfl rfl dX4_translated_64 ?_
      refine rw_i (v := nI (n 3)) hV.2.2.2 ?_
      refine lv_iconst (v := 1) hx hb dX4_translated_67 (by decide) ?_
      refine lv_iadd hx hb dX4_translated_68 ?_
      refine rw_i (v := nI ((n 3) + 1)) (nI_1 _) ?_
      refine mo_put hE iX4_translated_X4 hP hS 12 (by decide) mX4_translated_f59 rfl rfl (by decide +kernel) rfl dX4_translated_69 (fun H locs hP hS => ?_)
      refine lv_aload_n hx hb dX4_translated_72 rfl (lv_at hl 2 rfl) ?_
      refine lv_dup hx hb dX4_translated_73 rfl ?_
      refine mo_get (x := .int (v 13)) hE iX4_translated_X4 hP 13 (by decide) mX4_translated_f62 rfl rfl dX4_translated_74 ?_
      refine lv_iconst (v := 1) hx hb dX4_translated_77 (by decide) ?_
      refine lv_iadd hx hb dX4_translated_78 ?_
      refine mo_put hE iX4_translated_X4 hP hS 13 (by decide) mX4_translated_f62 rfl rfl (by decide +kernel) rfl dX4_translated_79 (fun H locs hP hS => ?_)
      refine lv_aload_n hx hb dX4_translated_82 rfl (lv_at hl 2 rfl) ?_
      refine mo_get (x := .ref (ad 2)) hE iX4_translated_X4 hP 2 (by decide) mX4_translated_f13 rfl rfl dX4_translated_83 ?_
      refine lv_iload_n hx hb dX4_translated_86 rfl (lv_at hl 5 rfl) ?_
      refine mo_ld (n := 12) hE hN hP 0 2 rfl (by decide) rfl (by decide) dX4_translated_87 (by omega) ?_
      refine rw_i (v := g 2 qq) rfl ?_
      exact mw_iret (v := g 2 qq) hE hr hlocks hP hS dX4_translated_88 (⟨_, _, va_up n 3 (n 3 + 1), 1, rfl, ⟨hV.1, hV.2.1, hV.2.2.1, rfl⟩, Or.inr ⟨(by rw [show mf g qq (g 1 (256 * pp + j)) = -1 by unfold mf; rw [if_pos c_17]]), rfl, rfl, Or.inl ⟨by omega, rfl, rfl⟩⟩, rfl, rfl⟩)

set_option maxRecDepth 20000 in
theorem mX4_translate_f34 : Cond.fieldLink RX4 34 "CodePagesModel" "code" "I" ∈ wsX4_translate := by decide +kernel
set_option maxRecDepth 20000 in
theorem iX4_translate_X4 : ∀ w ∈ u_ws RX4 TX4 14, w ∈ wsX4_translate := by decide +kernel
set_option maxHeartbeats 4000000 in
set_option maxRecDepth 100000 in
theorem tX4_translate (l : Launch) (D : va_G) (k : Nat → ClassId) (M : mw) (sz : Nat) (ad : Nat → Nat) (v : Nat → Int32) (g : Nat → Nat → Int32) (n : Nat → Nat) (x y z : Int32) (hN : mo_N ad) (hV : mo_V v n) (hn9 : mo_B n) (hM : M = mo_M (k 0) ad v g) : Met l yX4_translate wsX4_translate ({ frames := 2, cells := 0, slots := 0, locals := 49 }) (va_Pc [.ref (ad 0), .int x, .int y, .int z] (mw_U D vwCl (TY k) M sz)) (va_Qi (fun r M1 => ∃ v1 g1 n1, M1 = mo_M (k 0) ad v1 g1 ∧ mo_V v1 n1 ∧ R_translate n g x y z r n1 g1) (mw_B D vwCl M sz) (mw_A M sz)) 0 0 (mw_A M sz) := by
  refine mw_met (cc := cX4_translate) (maxL := 4) (ret := (some .int)) (lv := [(0, .ref (ad 0)), (1, .int x), (2, .int y), (3, .int z)]) (by decide) rfl (Nat.le_of_ble_eq_true rfl) rfl ?_
  intro p e s m below meth c ls hE hr hlocks hin hml hsz hP hS hl
  subst hsz
  have hx := hE.1
  have hb := hE.2.1
  have hA : ∀ q, s.heap.size ≤ q → mw_A M s.heap.size q := fun q h => Or.inr h
  have hP : mw_Q (mw_A M s.heap.size) D vwCl (mo_M (k 0) ad v g) s.heap := by rw [← hM]; exact hP
  obtain ⟨hb0, hb1, hb2, hb3⟩ := hn9
  refine lv_aload_n hx hb dX4_translate_0 rfl (lv_at hl 0 rfl) ?_
  refine lv_iconst (v := 0) hx hb dX4_translate_1 (by decide) ?_
  refine mo_put hE iX4_translate_X4 hP hS 0 (by decide) mX4_translate_f34 rfl rfl (by decide +kernel) rfl dX4_translate_2 (fun H locs hP hS => ?_)
  refine lv_aload_n hx hb dX4_translate_5 rfl (lv_at hl 0 rfl) ?_
  refine lv_iload_n hx hb dX4_translate_6 rfl (lv_at hl 2 rfl) ?_
  refine mw_calli hP hS hA (va_runV (As := [.int y]) (rest := []) ⟨hx, hb, hml, hE.2.2.2.1, hE.2.2.1⟩ (tX4_isPage l D k _ _ ad (va_up v 0 0) g n y hN hV ⟨hb0, hb1, hb2, hb3⟩ rfl) (cwV 1 hE.2.2.1 gX4_translate_X4_isPage rfl rfl rfl (by decide +kernel) ⟨(Nat.le_of_ble_eq_true rfl), (Nat.le_of_ble_eq_true rfl)⟩) (mw_preV hE hP (ci := 5) rfl rfl mo_o [.int y]) rfl rfl hl.1 rfl (lv_room (Nat.le_of_ble_eq_true rfl)) dX4_translate_7 ⟨(Nat.le_of_ble_eq_true rfl), (Nat.le_of_ble_eq_true rfl)⟩) (fun r_1 M1 H locs hw hP hS => ?_)
  obtain ⟨rfl, hw⟩ := hw
  rcases hw with ⟨hq_2, rfl⟩ | ⟨hq_2, rfl⟩
  · obtain ⟨pp, hpp, rfl⟩ := vp_in_of hq_2 (by omega)
    refine lv_if_eq (tgt := 21) hx hb dX4_translate_10 (by decide) (fun c9 => absurd c9 (by decide)) (fun _ => ?_)
    refine lv_aload_n hx hb dX4_translate_13 rfl (lv_at hl 0 rfl) ?_
    refine lv_iload_n hx hb dX4_translate_14 rfl (lv_at hl 3 rfl) ?_
    refine mw_calli hP hS hA (va_runV (As := [.int z]) (rest := []) ⟨hx, hb, hml, hE.2.2.2.1, hE.2.2.1⟩ (tX4_isPage l D k _ _ ad (va_up v 0 0) g n z hN hV ⟨hb0, hb1, hb2, hb3⟩ rfl) (cwV 1 hE.2.2.1 gX4_translate_X4_isPage rfl rfl rfl (by decide +kernel) ⟨(Nat.le_of_ble_eq_true rfl), (Nat.le_of_ble_eq_true rfl)⟩) (mw_preV hE hP (ci := 5) rfl rfl mo_o [.int z]) rfl rfl hl.1 rfl (lv_room (Nat.le_of_ble_eq_true rfl)) dX4_translate_15 ⟨(Nat.le_of_ble_eq_true rfl), (Nat.le_of_ble_eq_true rfl)⟩) (fun r_4 M1 H locs hw hP hS => ?_)
    obtain ⟨rfl, hw⟩ := hw
    rcases hw with ⟨hq_5, rfl⟩ | ⟨hq_5, rfl⟩
    · obtain ⟨qq, hqq, rfl⟩ := vp_in_of hq_5 (by omega)
      refine lv_if_ne (tgt := 24) hx hb dX4_translate_18 (by decide) (fun _ => ?_) (fun c9 => absurd c9 (by decide))
      refine lv_iload_n hx hb dX4_translate_24 rfl (lv_at hl 1 rfl) ?_
      refine mw_calli hP hS hA (va_runS (As := [.int x]) (rest := []) ⟨hx, hb, hml, hE.2.2.2.1, hE.2.2.1⟩ (tX4_isCode l D k _ _ x) (va_cwS 1 hE.2.2.1 gX4_translate_X4_isCode rfl rfl rfl (by decide +kernel) ⟨(Nat.le_of_ble_eq_true rfl), (Nat.le_of_ble_eq_true rfl)⟩) (mw_preS hE hP [.int x]) rfl rfl hl.1 rfl (lv_room (Nat.le_of_ble_eq_true rfl)) dX4_translate_25 ⟨(Nat.le_of_ble_eq_true rfl), (Nat.le_of_ble_eq_true rfl)⟩) (fun r_7 M1 H locs hw hP hS => ?_)
      obtain ⟨rfl, hw⟩ := hw
      rcases hw with ⟨hq_8, rfl⟩ | ⟨hq_8, rfl⟩
      · obtain ⟨j, hj, rfl⟩ := vp_in_of hq_8 (by omega)
        refine lv_if_eq (tgt := 41) hx hb dX4_translate_28 (by decide) (fun c9 => absurd c9 (by decide)) (fun _ => ?_)
        refine lv_aload_n hx hb dX4_translate_31 rfl (lv_at hl 0 rfl) ?_
        refine lv_iload_n hx hb dX4_translate_32 rfl (lv_at hl 1 rfl) ?_
        refine lv_iload_n hx hb dX4_translate_33 rfl (lv_at hl 2 rfl) ?_
        refine lv_iload_n hx hb dX4_translate_34 rfl (lv_at hl 3 rfl) ?_
        refine mw_calli hP hS hA (va_runV (As := [.int (nI j), .int (nI pp), .int (nI qq)]) (rest := []) ⟨hx, hb, hml, hE.2.2.2.1, hE.2.2.1⟩ (tX4_translated l D k _ _ ad (va_up v 0 0) g n j pp qq hN hV ⟨hb0, hb1, hb2, hb3⟩ rfl (by omega) (by omega) (by omega)) (cwV 3 hE.2.2.1 gX4_translate_X4_translated rfl rfl rfl (by decide +kernel) ⟨(Nat.le_of_ble_eq_true rfl), (Nat.le_of_ble_eq_true rfl)⟩) (mw_preV hE hP (ci := 5) rfl rfl mo_o [.int (nI j), .int (nI pp), .int (nI qq)]) rfl rfl hl.1 rfl (lv_room (Nat.le_of_ble_eq_true rfl)) dX4_translate_35 ⟨(Nat.le_of_ble_eq_true rfl), (Nat.le_of_ble_eq_true rfl)⟩) (fun r_10 M1 H locs hw hP hS => ?_)
        obtain ⟨v1, g1, n1, d1, rfl, hV1, hR1, hc1, h01⟩ := hw
        refine lv_goto (tgt := 43) hx hb dX4_translate_38 (by decide) ?_
        exact mw_iret (v := r_10) hE hr hlocks hP hS dX4_translate_43 (⟨v1, g1, n1, rfl, hV1, Or.inr (Or.inr ⟨j, pp, qq, d1, hj, hpp, hqq, rfl, rfl, rfl, hR1⟩)⟩)
      · refine lv_if_eq (tgt := 41) hx hb dX4_translate_28 (by decide) (fun _ => ?_) (fun c9 => absurd (by decide) c9)
        refine lv_bipush (v := (-4)) hx hb dX4_translate_41 (by decide) ?_
        exact mw_iret (v := (-4)) hE hr hlocks hP hS dX4_translate_43 (⟨va_up v 0 0, g, n, rfl, hV, Or.inr (Or.inl ⟨⟨vp_in_nI hpp (by omega), vp_in_nI hqq (by omega)⟩, hq_8, rfl, rfl, rfl⟩)⟩)
    · refine lv_if_ne (tgt := 24) hx hb dX4_translate_18 (by decide) (fun c9 => absurd (by decide) c9) (fun _ => ?_)
      refine lv_bipush (v := (-2)) hx hb dX4_translate_21 (by decide) ?_
      exact mw_iret (v := (-2)) hE hr hlocks hP hS dX4_translate_23 (⟨va_up v 0 0, g, n, rfl, hV, Or.inl ⟨fun h => hq_5 h.2, rfl, rfl, rfl⟩⟩)
  · refine lv_if_eq (tgt := 21) hx hb dX4_translate_10 (by decide) (fun _ => ?_) (fun c9 => absurd (by decide) c9)
    refine lv_bipush (v := (-2)) hx hb dX4_translate_21 (by decide) ?_
    exact mw_iret (v := (-2)) hE hr hlocks hP hS dX4_translate_23 (⟨va_up v 0 0, g, n, rfl, hV, Or.inl ⟨fun h => hq_2 h.1, rfl, rfl, rfl⟩⟩)

set_option maxRecDepth 20000 in
theorem mX4_told_f31 : Cond.fieldLink RX4 31 "CodePagesModel" "listed" "[I" ∈ wsX4_told := by decide +kernel
set_option maxRecDepth 20000 in
theorem mX4_told_f34 : Cond.fieldLink RX4 34 "CodePagesModel" "code" "I" ∈ wsX4_told := by decide +kernel
set_option maxRecDepth 20000 in
theorem mX4_told_f59 : Cond.fieldLink RX4 59 "CodePagesModel" "list" "I" ∈ wsX4_told := by decide +kernel
set_option maxRecDepth 20000 in
theorem iX4_told_X4 : ∀ w ∈ u_ws RX4 TX4 14, w ∈ wsX4_told := by decide +kernel
set_option maxHeartbeats 4000000 in
set_option maxRecDepth 100000 in
theorem tX4_told (l : Launch) (D : va_G) (k : Nat → ClassId) (M : mw) (sz : Nat) (ad : Nat → Nat) (v : Nat → Int32) (g : Nat → Nat → Int32) (n : Nat → Nat) (x : Int32) (hN : mo_N ad) (hV : mo_V v n) (hn9 : mo_B n) (hM : M = mo_M (k 0) ad v g) : Met l yX4_told wsX4_told ({ frames := 0, cells := 0, slots := 0, locals := 0 }) (va_Pc [.ref (ad 0), .int x] (mw_U D vwCl (TY k) M sz)) (va_Qi (fun r M1 => ∃ v1, M1 = mo_M (k 0) ad v1 g ∧ mo_V v1 n ∧ R_told n g x r) (mw_B D vwCl M sz) (mw_A M sz)) 0 0 (mw_A M sz) := by
  refine mw_met (cc := cX4_told) (maxL := 2) (ret := (some .int)) (lv := [(0, .ref (ad 0)), (1, .int x)]) (by decide) rfl (Nat.le_of_ble_eq_true rfl) rfl ?_
  intro p e s m below meth c ls hE hr hlocks hin hml hsz hP hS hl
  subst hsz
  have hx := hE.1
  have hb := hE.2.1
  have hA : ∀ q, s.heap.size ≤ q → mw_A M s.heap.size q := fun q h => Or.inr h
  have hP : mw_Q (mw_A M s.heap.size) D vwCl (mo_M (k 0) ad v g) s.heap := by rw [← hM]; exact hP
  obtain ⟨hb0, hb1, hb2, hb3⟩ := hn9
  refine lv_aload_n hx hb dX4_told_0 rfl (lv_at hl 0 rfl) ?_
  refine lv_iconst (v := 0) hx hb dX4_told_1 (by decide) ?_
  refine mo_put hE iX4_told_X4 hP hS 0 (by decide) mX4_told_f34 rfl rfl (by decide +kernel) rfl dX4_told_2 (fun H locs hP hS => ?_)
  refine lv_iload_n hx hb dX4_told_5 rfl (lv_at hl 1 rfl) ?_
  refine lv_if_lt (tgt := 26) hx hb dX4_told_6 (by decide) (fun c_6 => ?_) (fun c_6 => ?_)
  · refine lv_iconst (v := (-1)) hx hb dX4_told_26 (by decide) ?_
    exact mw_iret (v := (-1)) hE hr hlocks hP hS dX4_told_27 (⟨va_up v 0 0, rfl, hV, Or.inl ⟨fun q => ((rw_in (n := n 3) (by omega)).mp q).1 c_6, rfl⟩⟩)
  · refine lv_iload_n hx hb dX4_told_9 rfl (lv_at hl 1 rfl) ?_
    refine lv_aload_n hx hb dX4_told_10 rfl (lv_at hl 0 rfl) ?_
    refine mo_get (x := .int (v 12)) hE iX4_told_X4 hP 12 (by decide) mX4_told_f59 rfl rfl dX4_told_11 ?_
    refine rw_i (v := nI (n 3)) hV.2.2.2 ?_
    refine lv_icmp_ge (tgt := 26) hx hb dX4_told_14 (by decide) (fun c_14 => ?_) (fun c_14 => ?_)
    · refine lv_iconst (v := (-1)) hx hb dX4_told_26 (by decide) ?_
      exact mw_iret (v := (-1)) hE hr hlocks hP hS dX4_told_27 (⟨va_up v 0 0, rfl, hV, Or.inl ⟨fun q => ((rw_in (n := n 3) (by omega)).mp q).2 c_14, rfl⟩⟩)
    · obtain ⟨i, hi, rfl⟩ := vp_in_of ((rw_in (n := n 3) (by omega)).mpr ⟨c_6, c_14⟩) (by omega)
      refine lv_aload_n hx hb dX4_told_17 rfl (lv_at hl 0 rfl) ?_
      refine mo_get (x := .ref (ad 11)) hE iX4_told_X4 hP 11 (by decide) mX4_told_f31 rfl rfl dX4_told_18 ?_
      refine lv_iload_n hx hb dX4_told_21 rfl (lv_at hl 1 rfl) ?_
      refine mo_ld (n := 200) hE hN hP 0 11 rfl (by decide) rfl (by decide) dX4_told_22 (by omega) ?_
      refine lv_goto (tgt := 27) hx hb dX4_told_23 (by decide) ?_
      exact mw_iret (v := g 11 i) hE hr hlocks hP hS dX4_told_27 (⟨va_up v 0 0, rfl, hV, Or.inr ⟨i, hi, rfl, rfl⟩⟩)

set_option maxRecDepth 20000 in
theorem mX4_text_f34 : Cond.fieldLink RX4 34 "CodePagesModel" "code" "I" ∈ wsX4_text := by decide +kernel
set_option maxRecDepth 20000 in
theorem mX4_text_f44 : Cond.fieldLink RX4 44 "CodePagesModel" "many" "I" ∈ wsX4_text := by decide +kernel
set_option maxRecDepth 20000 in
theorem iX4_text_X4 : ∀ w ∈ u_ws RX4 TX4 14, w ∈ wsX4_text := by decide +kernel
set_option maxHeartbeats 4000000 in
set_option maxRecDepth 100000 in
theorem tX4_text (l : Launch) (D : va_G) (k : Nat → ClassId) (M : mw) (sz : Nat) (ad : Nat → Nat) (v : Nat → Int32) (g : Nat → Nat → Int32) (n : Nat → Nat)  (hN : mo_N ad) (hV : mo_V v n) (hn9 : mo_B n) (hM : M = mo_M (k 0) ad v g) : Met l yX4_text wsX4_text ({ frames := 0, cells := 0, slots := 0, locals := 0 }) (va_Pc [.ref (ad 0)] (mw_U D vwCl (TY k) M sz)) (va_Qi (fun r M1 => ∃ v1 n1, M1 = mo_M (k 0) ad v1 g ∧ mo_V v1 n1 ∧ R_text n r n1) (mw_B D vwCl M sz) (mw_A M sz)) 0 0 (mw_A M sz) := by
  refine mw_met (cc := cX4_text) (maxL := 1) (ret := (some .int)) (lv := [(0, .ref (ad 0))]) (by decide) rfl (Nat.le_of_ble_eq_true rfl) rfl ?_
  intro p e s m below meth c ls hE hr hlocks hin hml hsz hP hS hl
  subst hsz
  have hx := hE.1
  have hb := hE.2.1
  have hA : ∀ q, s.heap.size ≤ q → mw_A M s.heap.size q := fun q h => Or.inr h
  have hP : mw_Q (mw_A M s.heap.size) D vwCl (mo_M (k 0) ad v g) s.heap := by rw [← hM]; exact hP
  obtain ⟨hb0, hb1, hb2, hb3⟩ := hn9
  refine lv_aload_n hx hb dX4_text_0 rfl (lv_at hl 0 rfl) ?_
  refine lv_iconst (v := 0) hx hb dX4_text_1 (by decide) ?_
  refine mo_put hE iX4_text_X4 hP hS 0 (by decide) mX4_text_f34 rfl rfl (by decide +kernel) rfl dX4_text_2 (fun H locs hP hS => ?_)
  refine lv_aload_n hx hb dX4_text_5 rfl (lv_at hl 0 rfl) ?_
  refine mo_get (x := .int (v 10)) hE iX4_text_X4 hP 10 (by decide) mX4_text_f44 rfl rfl dX4_text_6 ?_
  refine rw_i (v := nI (n 2)) hV.2.2.1 ?_
  refine lv_bipush (v := nI 40) hx hb dX4_text_9 (by decide) ?_
  refine lv_icmp_ne (tgt := 16) hx hb dX4_text_11 (by decide) (fun c_11 => ?_) (fun c_11 => ?_)
  · have k_11 : (n 2) ≠ 40 := nn_neq (a := (n 2)) (b := 40) c_11 (by omega) (by omega)
    refine lv_aload_n hx hb dX4_text_16 rfl (lv_at hl 0 rfl) ?_
    refine lv_dup hx hb dX4_text_17 rfl ?_
    refine mo_get (x := .int (v 10)) hE iX4_text_X4 hP 10 (by decide) mX4_text_f44 rfl rfl dX4_text_18 ?_
    refine rw_i (v := nI (n 2)) hV.2.2.1 ?_
    refine lv_iconst (v := 1) hx hb dX4_text_21 (by decide) ?_
    refine lv_iadd hx hb dX4_text_22 ?_
    refine rw_i (v := nI ((n 2) + 1)) (nI_1 _) ?_
    refine mo_put hE iX4_text_X4 hP hS 10 (by decide) mX4_text_f44 rfl rfl (by decide +kernel) rfl dX4_text_23 (fun H locs hP hS => ?_)
    refine lv_aload_n hx hb dX4_text_26 rfl (lv_at hl 0 rfl) ?_
    refine mo_get (x := .int (nI ((n 2) + 1))) hE iX4_text_X4 hP 10 (by decide) mX4_text_f44 rfl rfl dX4_text_27 ?_
    refine lv_iconst (v := 1) hx hb dX4_text_30 (by decide) ?_
    refine lv_isub hx hb dX4_text_31 ?_
    refine rw_i (v := nI (n 2)) (nI_pred _) ?_
    exact mw_iret (v := nI (n 2)) hE hr hlocks hP hS dX4_text_32 (⟨_, va_up n 2 (n 2 + 1), rfl, ⟨hV.1, hV.2.1, rfl, hV.2.2.2⟩, Or.inr ⟨by omega, rfl, rfl⟩⟩)
  · have k_11 : (n 2) = 40 := nn_eq (a := (n 2)) (b := 40) c_11 (by omega) (by omega)
    refine lv_iconst (v := (-1)) hx hb dX4_text_14 (by decide) ?_
    exact mw_iret (v := (-1)) hE hr hlocks hP hS dX4_text_15 (⟨_, n, rfl, hV, Or.inl ⟨k_11, rfl, rfl⟩⟩)

set_option maxRecDepth 20000 in
theorem mX4_sign_f25 : Cond.fieldLink RX4 25 "CodePagesModel" "texts" "[I" ∈ wsX4_sign := by decide +kernel
set_option maxRecDepth 20000 in
theorem mX4_sign_f28 : Cond.fieldLink RX4 28 "CodePagesModel" "lengths" "[I" ∈ wsX4_sign := by decide +kernel
set_option maxRecDepth 20000 in
theorem mX4_sign_f34 : Cond.fieldLink RX4 34 "CodePagesModel" "code" "I" ∈ wsX4_sign := by decide +kernel
set_option maxRecDepth 20000 in
theorem iX4_sign_X4 : ∀ w ∈ u_ws RX4 TX4 14, w ∈ wsX4_sign := by decide +kernel
set_option maxHeartbeats 4000000 in
set_option maxRecDepth 100000 in
theorem tX4_sign (l : Launch) (D : va_G) (k : Nat → ClassId) (M : mw) (sz : Nat) (ad : Nat → Nat) (v : Nat → Int32) (g : Nat → Nat → Int32) (n : Nat → Nat) (L : Nat → Nat) (T : Nat → Nat → Nat) (x y : Int32) (hN : mo_N ad) (hV : mo_V v n) (hn9 : mo_B n) (hM : M = mo_M (k 0) ad v g) (hX : mo_X n g L T) : Met l yX4_sign wsX4_sign ({ frames := 1, cells := 0, slots := 0, locals := 21 }) (va_Pc [.ref (ad 0), .int x, .int y] (mw_U D vwCl (TY k) M sz)) (va_Qi (fun r M1 => ∃ v1 g1, M1 = mo_M (k 0) ad v1 g1 ∧ mo_V v1 n ∧ R_sign n g L x y r g1) (mw_B D vwCl M sz) (mw_A M sz)) 0 0 (mw_A M sz) := by
  refine mw_met (cc := cX4_sign) (maxL := 3) (ret := (some .int)) (lv := [(0, .ref (ad 0)), (1, .int x), (2, .int y)]) (by decide) rfl (Nat.le_of_ble_eq_true rfl) rfl ?_
  intro p e s m below meth c ls hE hr hlocks hin hml hsz hP hS hl
  subst hsz
  have hx := hE.1
  have hb := hE.2.1
  have hA : ∀ q, s.heap.size ≤ q → mw_A M s.heap.size q := fun q h => Or.inr h
  have hP : mw_Q (mw_A M s.heap.size) D vwCl (mo_M (k 0) ad v g) s.heap := by rw [← hM]; exact hP
  obtain ⟨hb0, hb1, hb2, hb3⟩ := hn9
  refine lv_aload_n hx hb dX4_sign_0 rfl (lv_at hl 0 rfl) ?_
  refine lv_iconst (v := 0) hx hb dX4_sign_1 (by decide) ?_
  refine mo_put hE iX4_sign_X4 hP hS 0 (by decide) mX4_sign_f34 rfl rfl (by decide +kernel) rfl dX4_sign_2 (fun H locs hP hS => ?_)
  refine lv_aload_n hx hb dX4_sign_5 rfl (lv_at hl 0 rfl) ?_
  refine lv_iload_n hx hb dX4_sign_6 rfl (lv_at hl 1 rfl) ?_
  refine mw_calli hP hS hA (va_runV (As := [.int x]) (rest := []) ⟨hx, hb, hml, hE.2.2.2.1, hE.2.2.1⟩ (tX4_isText l D k _ _ ad (va_up v 0 0) g n x hN hV ⟨hb0, hb1, hb2, hb3⟩ rfl) (cwV 1 hE.2.2.1 gX4_sign_X4_isText rfl rfl rfl (by decide +kernel) ⟨(Nat.le_of_ble_eq_true rfl), (Nat.le_of_ble_eq_true rfl)⟩) (mw_preV hE hP (ci := 5) rfl rfl mo_o [.int x]) rfl rfl hl.1 rfl (lv_room (Nat.le_of_ble_eq_true rfl)) dX4_sign_7 ⟨(Nat.le_of_ble_eq_true rfl), (Nat.le_of_ble_eq_true rfl)⟩) (fun r_1 M1 H locs hw hP hS => ?_)
  obtain ⟨rfl, hw⟩ := hw
  rcases hw with ⟨hq_2, rfl⟩ | ⟨hq_2, rfl⟩
  · obtain ⟨t, ht, rfl⟩ := vp_in_of hq_2 (by omega)
    refine lv_if_ne (tgt := 16) hx hb dX4_sign_10 (by decide) (fun _ => ?_) (fun c9 => absurd c9 (by decide))
    refine lv_iload_n hx hb dX4_sign_16 rfl (lv_at hl 2 rfl) ?_
    refine mw_calli hP hS hA (va_runS (As := [.int y]) (rest := []) ⟨hx, hb, hml, hE.2.2.2.1, hE.2.2.1⟩ (tX4_isCode l D k _ _ y) (va_cwS 1 hE.2.2.1 gX4_sign_X4_isCode rfl rfl rfl (by decide +kernel) ⟨(Nat.le_of_ble_eq_true rfl), (Nat.le_of_ble_eq_true rfl)⟩) (mw_preS hE hP [.int y]) rfl rfl hl.1 rfl (lv_room (Nat.le_of_ble_eq_true rfl)) dX4_sign_17 ⟨(Nat.le_of_ble_eq_true rfl), (Nat.le_of_ble_eq_true rfl)⟩) (fun r_4 M1 H locs hw hP hS => ?_)
    obtain ⟨rfl, hw⟩ := hw
    rcases hw with ⟨hq_5, rfl⟩ | ⟨hq_5, rfl⟩
    · obtain ⟨j, hj, rfl⟩ := vp_in_of hq_5 (by omega)
      refine lv_if_ne (tgt := 26) hx hb dX4_sign_20 (by decide) (fun _ => ?_) (fun c9 => absurd c9 (by decide))
      obtain ⟨hL4, hL9, hT9⟩ := hX t ht
      refine lv_aload_n hx hb dX4_sign_26 rfl (lv_at hl 0 rfl) ?_
      refine mo_get (x := .ref (ad 9)) hE iX4_sign_X4 hP 9 (by decide) mX4_sign_f28 rfl rfl dX4_sign_27 ?_
      refine lv_iload_n hx hb dX4_sign_30 rfl (lv_at hl 1 rfl) ?_
      refine mo_ld (n := 40) hE hN hP 0 9 rfl (by decide) rfl (by decide) dX4_sign_31 (by omega) ?_
      refine rw_i (v := nI (L t)) hL9 ?_
      refine lv_bipush (v := nI 40) hx hb dX4_sign_32 (by decide) ?_
      refine lv_icmp_ne (tgt := 39) hx hb dX4_sign_34 (by decide) (fun c_34 => ?_) (fun c_34 => ?_)
      · have k_34 : (L t) ≠ 40 := nn_neq (a := (L t)) (b := 40) c_34 (by omega) (by omega)
        refine lv_aload_n hx hb dX4_sign_39 rfl (lv_at hl 0 rfl) ?_
        refine mo_get (x := .ref (ad 8)) hE iX4_sign_X4 hP 8 (by decide) mX4_sign_f25 rfl rfl dX4_sign_40 ?_
        refine lv_bipush (v := nI 40) hx hb dX4_sign_43 (by decide) ?_
        refine lv_iload_n hx hb dX4_sign_45 rfl (lv_at hl 1 rfl) ?_
        refine lv_imul hx hb dX4_sign_46 ?_
        refine rw_i (v := nI (40 * t)) (pk_mul _ _) ?_
        refine lv_aload_n hx hb dX4_sign_47 rfl (lv_at hl 0 rfl) ?_
        refine mo_get (x := .ref (ad 9)) hE iX4_sign_X4 hP 9 (by decide) mX4_sign_f28 rfl rfl dX4_sign_48 ?_
        refine lv_iload_n hx hb dX4_sign_51 rfl (lv_at hl 1 rfl) ?_
        refine mo_ld (n := 40) hE hN hP 0 9 rfl (by decide) rfl (by decide) dX4_sign_52 (by omega) ?_
        refine rw_i (v := nI (L t)) hL9 ?_
        refine lv_iadd hx hb dX4_sign_53 ?_
        refine rw_i (v := nI ((40 * t) + (L t))) (nI_add _ _) ?_
        refine lv_iload_n hx hb dX4_sign_54 rfl (lv_at hl 2 rfl) ?_
        refine mo_st (n := 1600) hE hN hP hS 0 8 rfl (by decide) rfl (by decide) dX4_sign_55 (by omega) (fun H locs hP hS => ?_)
        refine lv_aload_n hx hb dX4_sign_56 rfl (lv_at hl 0 rfl) ?_
        refine mo_get (x := .ref (ad 9)) hE iX4_sign_X4 hP 9 (by decide) mX4_sign_f28 rfl rfl dX4_sign_57 ?_
        refine lv_iload_n hx hb dX4_sign_60 rfl (lv_at hl 1 rfl) ?_
        refine lv_dup2_11 hx hb dX4_sign_61 rfl rfl ?_
        refine mo_ld (n := 40) hE hN hP 0 9 rfl (by decide) rfl (by decide) dX4_sign_62 (by omega) ?_
        refine rw_i (v := g 9 t) rfl ?_
        refine rw_i (v := nI (L t)) hL9 ?_
        refine lv_iconst (v := 1) hx hb dX4_sign_63 (by decide) ?_
        refine lv_iadd hx hb dX4_sign_64 ?_
        refine rw_i (v := nI ((L t) + 1)) (nI_1 _) ?_
        refine mo_st (n := 40) hE hN hP hS 0 9 rfl (by decide) rfl (by decide) dX4_sign_65 (by omega) (fun H locs hP hS => ?_)
        refine lv_aload_n hx hb dX4_sign_66 rfl (lv_at hl 0 rfl) ?_
        refine mo_get (x := .ref (ad 9)) hE iX4_sign_X4 hP 9 (by decide) mX4_sign_f28 rfl rfl dX4_sign_67 ?_
        refine lv_iload_n hx hb dX4_sign_70 rfl (lv_at hl 1 rfl) ?_
        refine mo_ld (n := 40) hE hN hP 0 9 rfl (by decide) rfl (by decide) dX4_sign_71 (by omega) ?_
        refine rw_i (v := (upd (g 9) t (nI ((L t) + 1))) t) rfl ?_
        refine rw_i (v := nI (L t + 1)) pk_us ?_
        exact mw_iret (v := nI (L t + 1)) hE hr hlocks hP hS dX4_sign_72 (⟨va_up v 0 0, va_up (va_up g 8 (upd (g 8) ((40 * t) + (L t)) (nI j))) 9 (upd (g 9) t (nI ((L t) + 1))), rfl, hV, Or.inr (Or.inr ⟨t, j, ht, hj, rfl, rfl, Or.inr ⟨by omega, rfl, rfl⟩⟩)⟩)
      · have k_34 : (L t) = 40 := nn_eq (a := (L t)) (b := 40) c_34 (by omega) (by omega)
        refine lv_iconst (v := (-1)) hx hb dX4_sign_37 (by decide) ?_
        exact mw_iret (v := (-1)) hE hr hlocks hP hS dX4_sign_38 (⟨va_up v 0 0, g, rfl, hV, Or.inr (Or.inr ⟨t, j, ht, hj, rfl, rfl, Or.inl ⟨k_34, rfl, rfl⟩⟩)⟩)
    · refine lv_if_ne (tgt := 26) hx hb dX4_sign_20 (by decide) (fun c9 => absurd (by decide) c9) (fun _ => ?_)
      refine lv_bipush (v := (-4)) hx hb dX4_sign_23 (by decide) ?_
      exact mw_iret (v := (-4)) hE hr hlocks hP hS dX4_sign_25 (⟨va_up v 0 0, g, rfl, hV, Or.inr (Or.inl ⟨vp_in_nI ht (by omega), hq_5, rfl, rfl⟩)⟩)
  · refine lv_if_ne (tgt := 16) hx hb dX4_sign_10 (by decide) (fun c9 => absurd (by decide) c9) (fun _ => ?_)
    refine lv_bipush (v := (-2)) hx hb dX4_sign_13 (by decide) ?_
    exact mw_iret (v := (-2)) hE hr hlocks hP hS dX4_sign_15 (⟨va_up v 0 0, g, rfl, hV, Or.inl ⟨hq_2, rfl, rfl⟩⟩)
end
section
set_option maxRecDepth 20000 in
theorem mX4_at_f25 : Cond.fieldLink RX4 25 "CodePagesModel" "texts" "[I" ∈ wsX4_at := by decide +kernel
set_option maxRecDepth 20000 in
theorem mX4_at_f28 : Cond.fieldLink RX4 28 "CodePagesModel" "lengths" "[I" ∈ wsX4_at := by decide +kernel
set_option maxRecDepth 20000 in
theorem mX4_at_f34 : Cond.fieldLink RX4 34 "CodePagesModel" "code" "I" ∈ wsX4_at := by decide +kernel
set_option maxRecDepth 20000 in
theorem iX4_at_X4 : ∀ w ∈ u_ws RX4 TX4 14, w ∈ wsX4_at := by decide +kernel
set_option maxHeartbeats 4000000 in
set_option maxRecDepth 100000 in
theorem tX4_at (l : Launch) (D : va_G) (k : Nat → ClassId) (M : mw) (sz : Nat) (ad : Nat → Nat) (v : Nat → Int32) (g : Nat → Nat → Int32) (n : Nat → Nat) (L : Nat → Nat) (T : Nat → Nat → Nat) (x y : Int32) (hN : mo_N ad) (hV : mo_V v n) (hn9 : mo_B n) (hM : M = mo_M (k 0) ad v g) (hX : mo_X n g L T) : Met l yX4_at wsX4_at ({ frames := 1, cells := 0, slots := 0, locals := 21 }) (va_Pc [.ref (ad 0), .int x, .int y] (mw_U D vwCl (TY k) M sz)) (va_Qi (fun r M1 => ∃ v1, M1 = mo_M (k 0) ad v1 g ∧ mo_V v1 n ∧ R_at n g L x y r) (mw_B D vwCl M sz) (mw_A M sz)) 0 0 (mw_A M sz) := by
  refine mw_met (cc := cX4_at) (maxL := 3) (ret := (some .int)) (lv := [(0, .ref (ad 0)), (1, .int x), (2, .int y)]) (by decide) rfl (Nat.le_of_ble_eq_true rfl) rfl ?_
  intro p e s m below meth c ls hE hr hlocks hin hml hsz hP hS hl
  subst hsz
  have hx := hE.1
  have hb := hE.2.1
  have hA : ∀ q, s.heap.size ≤ q → mw_A M s.heap.size q := fun q h => Or.inr h
  have hP : mw_Q (mw_A M s.heap.size) D vwCl (mo_M (k 0) ad v g) s.heap := by rw [← hM]; exact hP
  obtain ⟨hb0, hb1, hb2, hb3⟩ := hn9
  refine lv_aload_n hx hb dX4_at_0 rfl (lv_at hl 0 rfl) ?_
  refine lv_iconst (v := 0) hx hb dX4_at_1 (by decide) ?_
  refine mo_put hE iX4_at_X4 hP hS 0 (by decide) mX4_at_f34 rfl rfl (by decide +kernel) rfl dX4_at_2 (fun H locs hP hS => ?_)
  refine lv_aload_n hx hb dX4_at_5 rfl (lv_at hl 0 rfl) ?_
  refine lv_iload_n hx hb dX4_at_6 rfl (lv_at hl 1 rfl) ?_
  refine mw_calli hP hS hA (va_runV (As := [.int x]) (rest := []) ⟨hx, hb, hml, hE.2.2.2.1, hE.2.2.1⟩ (tX4_isText l D k _ _ ad (va_up v 0 0) g n x hN hV ⟨hb0, hb1, hb2, hb3⟩ rfl) (cwV 1 hE.2.2.1 gX4_at_X4_isText rfl rfl rfl (by decide +kernel) ⟨(Nat.le_of_ble_eq_true rfl), (Nat.le_of_ble_eq_true rfl)⟩) (mw_preV hE hP (ci := 5) rfl rfl mo_o [.int x]) rfl rfl hl.1 rfl (lv_room (Nat.le_of_ble_eq_true rfl)) dX4_at_7 ⟨(Nat.le_of_ble_eq_true rfl), (Nat.le_of_ble_eq_true rfl)⟩) (fun r_1 M1 H locs hw hP hS => ?_)
  obtain ⟨rfl, hw⟩ := hw
  rcases hw with ⟨hq_2, rfl⟩ | ⟨hq_2, rfl⟩
  · obtain ⟨t, ht, rfl⟩ := vp_in_of hq_2 (by omega)
    refine lv_if_eq (tgt := 41) hx hb dX4_at_10 (by decide) (fun c9 => absurd c9 (by decide)) (fun _ => ?_)
    obtain ⟨hL4, hL9, hT9⟩ := hX t ht
    refine lv_iload_n hx hb dX4_at_13 rfl (lv_at hl 2 rfl) ?_
    refine lv_if_lt (tgt := 41) hx hb dX4_at_14 (by decide) (fun c_14 => ?_) (fun c_14 => ?_)
    · refine lv_iconst (v := (-1)) hx hb dX4_at_41 (by decide) ?_
      exact mw_iret (v := (-1)) hE hr hlocks hP hS dX4_at_42 (⟨_, rfl, hV, Or.inr ⟨t, ht, rfl, Or.inl ⟨fun q => ((rw_in (n := L t) (by omega)).mp q).1 c_14, rfl⟩⟩⟩)
    · refine lv_iload_n hx hb dX4_at_17 rfl (lv_at hl 2 rfl) ?_
      refine lv_aload_n hx hb dX4_at_18 rfl (lv_at hl 0 rfl) ?_
      refine mo_get (x := .ref (ad 9)) hE iX4_at_X4 hP 9 (by decide) mX4_at_f28 rfl rfl dX4_at_19 ?_
      refine lv_iload_n hx hb dX4_at_22 rfl (lv_at hl 1 rfl) ?_
      refine mo_ld (n := 40) hE hN hP 0 9 rfl (by decide) rfl (by decide) dX4_at_23 (by omega) ?_
      refine rw_i (v := nI (L t)) hL9 ?_
      refine lv_icmp_ge (tgt := 41) hx hb dX4_at_24 (by decide) (fun c_24 => ?_) (fun c_24 => ?_)
      · refine lv_iconst (v := (-1)) hx hb dX4_at_41 (by decide) ?_
        exact mw_iret (v := (-1)) hE hr hlocks hP hS dX4_at_42 (⟨_, rfl, hV, Or.inr ⟨t, ht, rfl, Or.inl ⟨fun q => ((rw_in (n := L t) (by omega)).mp q).2 c_24, rfl⟩⟩⟩)
      · obtain ⟨j, hj, rfl⟩ := vp_in_of ((rw_in (n := L t) (by omega)).mpr ⟨c_14, c_24⟩) (by omega)
        refine lv_aload_n hx hb dX4_at_27 rfl (lv_at hl 0 rfl) ?_
        refine mo_get (x := .ref (ad 8)) hE iX4_at_X4 hP 8 (by decide) mX4_at_f25 rfl rfl dX4_at_28 ?_
        refine lv_bipush (v := nI 40) hx hb dX4_at_31 (by decide) ?_
        refine lv_iload_n hx hb dX4_at_33 rfl (lv_at hl 1 rfl) ?_
        refine lv_imul hx hb dX4_at_34 ?_
        refine rw_i (v := nI (40 * t)) (pk_mul _ _) ?_
        refine lv_iload_n hx hb dX4_at_35 rfl (lv_at hl 2 rfl) ?_
        refine lv_iadd hx hb dX4_at_36 ?_
        refine rw_i (v := nI ((40 * t) + j)) (nI_add _ _) ?_
        refine mo_ld (n := 1600) hE hN hP 0 8 rfl (by decide) rfl (by decide) dX4_at_37 (by omega) ?_
        refine lv_goto (tgt := 42) hx hb dX4_at_38 (by decide) ?_
        exact mw_iret (v := g 8 ((40 * t) + j)) hE hr hlocks hP hS dX4_at_42 (⟨_, rfl, hV, Or.inr ⟨t, ht, rfl, Or.inr ⟨j, hj, rfl, rfl⟩⟩⟩)
  · refine lv_if_eq (tgt := 41) hx hb dX4_at_10 (by decide) (fun _ => ?_) (fun c9 => absurd (by decide) c9)
    refine lv_iconst (v := (-1)) hx hb dX4_at_41 (by decide) ?_
    exact mw_iret (v := (-1)) hE hr hlocks hP hS dX4_at_42 (⟨_, rfl, hV, Or.inl ⟨hq_2, rfl⟩⟩)

set_option maxRecDepth 20000 in
theorem mX4_readAt_f25 : Cond.fieldLink RX4 25 "CodePagesModel" "texts" "[I" ∈ wsX4_readAt := by decide +kernel
set_option maxRecDepth 20000 in
theorem mX4_readAt_f28 : Cond.fieldLink RX4 28 "CodePagesModel" "lengths" "[I" ∈ wsX4_readAt := by decide +kernel
set_option maxRecDepth 20000 in
theorem iX4_readAt_X4 : ∀ w ∈ u_ws RX4 TX4 14, w ∈ wsX4_readAt := by decide +kernel
set_option maxHeartbeats 4000000 in
set_option maxRecDepth 100000 in
theorem tX4_readAt (l : Launch) (D : va_G) (k : Nat → ClassId) (M : mw) (sz : Nat) (ad : Nat → Nat) (v : Nat → Int32) (g : Nat → Nat → Int32) (n : Nat → Nat) (L : Nat → Nat) (T : Nat → Nat → Nat) (t kk : Nat) (hN : mo_N ad) (hV : mo_V v n) (hn9 : mo_B n) (hM : M = mo_M (k 0) ad v g) (hX : mo_X n g L T) (ht : t < n 2) (hkk : kk < 40) : Met l yX4_readAt wsX4_readAt ({ frames := 0, cells := 0, slots := 0, locals := 0 }) (va_Pc [.ref (ad 0), .int (nI t), .int (nI kk)] (mw_U D vwCl (TY k) M sz)) (va_Qi (fun r M1 => M1 = mo_M (k 0) ad v g ∧ r = nI (rdn L T t kk)) (mw_B D vwCl M sz) (mw_A M sz)) 0 0 (mw_A M sz) := by
  refine mw_met (cc := cX4_readAt) (maxL := 3) (ret := (some .int)) (lv := [(0, .ref (ad 0)), (1, .int (nI t)), (2, .int (nI kk))]) (by decide) rfl (Nat.le_of_ble_eq_true rfl) rfl ?_
  intro p e s m below meth c ls hE hr hlocks hin hml hsz hP hS hl
  subst hsz
  have hx := hE.1
  have hb := hE.2.1
  have hA : ∀ q, s.heap.size ≤ q → mw_A M s.heap.size q := fun q h => Or.inr h
  have hP : mw_Q (mw_A M s.heap.size) D vwCl (mo_M (k 0) ad v g) s.heap := by rw [← hM]; exact hP
  obtain ⟨hb0, hb1, hb2, hb3⟩ := hn9
  obtain ⟨hL4, hL9, hT9⟩ := hX t ht
  refine lv_iload_n hx hb dX4_readAt_0 rfl (lv_at hl 2 rfl) ?_
  refine lv_aload_n hx hb dX4_readAt_1 rfl (lv_at hl 0 rfl) ?_
  refine mo_get (x := .ref (ad 9)) hE iX4_readAt_X4 hP 9 (by decide) mX4_readAt_f28 rfl rfl dX4_readAt_2 ?_
  refine lv_iload_n hx hb dX4_readAt_5 rfl (lv_at hl 1 rfl) ?_
  refine mo_ld (n := 40) hE hN hP 0 9 rfl (by decide) rfl (by decide) dX4_readAt_6 (by omega) ?_
  refine rw_i (v := nI (L t)) hL9 ?_
  refine lv_icmp_ge (tgt := 24) hx hb dX4_readAt_7 (by decide) (fun c_7 => ?_) (fun c_7 => ?_)
  · have k_7 : (L t) ≤ kk := nn_le (a := (L t)) (b := kk) c_7 (by omega) (by omega)
    refine lv_bipush (v := nI 32) hx hb dX4_readAt_24 (by decide) ?_
    exact mw_iret (v := nI 32) hE hr hlocks hP hS dX4_readAt_26 (⟨rfl, by unfold rdn; rw [if_neg (by omega)]⟩)
  · have k_7 : kk < (L t) := nn_nle (a := (L t)) (b := kk) c_7 (by omega) (by omega)
    refine lv_aload_n hx hb dX4_readAt_10 rfl (lv_at hl 0 rfl) ?_
    refine mo_get (x := .ref (ad 8)) hE iX4_readAt_X4 hP 8 (by decide) mX4_readAt_f25 rfl rfl dX4_readAt_11 ?_
    refine lv_bipush (v := nI 40) hx hb dX4_readAt_14 (by decide) ?_
    refine lv_iload_n hx hb dX4_readAt_16 rfl (lv_at hl 1 rfl) ?_
    refine lv_imul hx hb dX4_readAt_17 ?_
    refine rw_i (v := nI (40 * t)) (pk_mul _ _) ?_
    refine lv_iload_n hx hb dX4_readAt_18 rfl (lv_at hl 2 rfl) ?_
    refine lv_iadd hx hb dX4_readAt_19 ?_
    refine rw_i (v := nI ((40 * t) + kk)) (nI_add _ _) ?_
    refine mo_ld (n := 1600) hE hN hP 0 8 rfl (by decide) rfl (by decide) dX4_readAt_20 (by omega) ?_
    refine lv_goto (tgt := 26) hx hb dX4_readAt_21 (by decide) ?_
    exact mw_iret (v := g 8 ((40 * t) + kk)) hE hr hlocks hP hS dX4_readAt_26 (⟨rfl, by unfold rdn; rw [if_pos k_7, (hT9 kk k_7).2]⟩)

set_option maxRecDepth 20000 in
theorem mX4_refusal_f16 : Cond.fieldLink RX4 16 "CodePagesModel" "kinds" "[I" ∈ wsX4_refusal := by decide +kernel
set_option maxRecDepth 20000 in
theorem iX4_refusal_X4 : ∀ w ∈ u_ws RX4 TX4 14, w ∈ wsX4_refusal := by decide +kernel
set_option maxHeartbeats 4000000 in
set_option maxRecDepth 100000 in
theorem tX4_refusal (l : Launch) (D : va_G) (k : Nat → ClassId) (M : mw) (sz : Nat) (ad : Nat → Nat) (v : Nat → Int32) (g : Nat → Nat → Int32) (n : Nat → Nat) (x y z : Int32) (hN : mo_N ad) (hV : mo_V v n) (hn9 : mo_B n) (hM : M = mo_M (k 0) ad v g) : Met l yX4_refusal wsX4_refusal ({ frames := 1, cells := 0, slots := 0, locals := 21 }) (va_Pc [.ref (ad 0), .int x, .int y, .int z] (mw_U D vwCl (TY k) M sz)) (va_Qi (fun r M1 => M1 = mo_M (k 0) ad v g ∧ R_ref n g x y z r) (mw_B D vwCl M sz) (mw_A M sz)) 0 0 (mw_A M sz) := by
  refine mw_met (cc := cX4_refusal) (maxL := 4) (ret := (some .int)) (lv := [(0, .ref (ad 0)), (1, .int x), (2, .int y), (3, .int z)]) (by decide) rfl (Nat.le_of_ble_eq_true rfl) rfl ?_
  intro p e s m below meth c ls hE hr hlocks hin hml hsz hP hS hl
  subst hsz
  have hx := hE.1
  have hb := hE.2.1
  have hA : ∀ q, s.heap.size ≤ q → mw_A M s.heap.size q := fun q h => Or.inr h
  have hP : mw_Q (mw_A M s.heap.size) D vwCl (mo_M (k 0) ad v g) s.heap := by rw [← hM]; exact hP
  obtain ⟨hb0, hb1, hb2, hb3⟩ := hn9
  refine lv_aload_n hx hb dX4_refusal_0 rfl (lv_at hl 0 rfl) ?_
  refine lv_iload_n hx hb dX4_refusal_1 rfl (lv_at hl 1 rfl) ?_
  refine mw_calli hP hS hA (va_runV (As := [.int x]) (rest := []) ⟨hx, hb, hml, hE.2.2.2.1, hE.2.2.1⟩ (tX4_isOrder l D k _ _ ad v g n x hN hV ⟨hb0, hb1, hb2, hb3⟩ rfl) (cwV 1 hE.2.2.1 gX4_refusal_X4_isOrder rfl rfl rfl (by decide +kernel) ⟨(Nat.le_of_ble_eq_true rfl), (Nat.le_of_ble_eq_true rfl)⟩) (mw_preV hE hP (ci := 5) rfl rfl mo_o [.int x]) rfl rfl hl.1 rfl (lv_room (Nat.le_of_ble_eq_true rfl)) dX4_refusal_2 ⟨(Nat.le_of_ble_eq_true rfl), (Nat.le_of_ble_eq_true rfl)⟩) (fun r_1 M1 H locs hw hP hS => ?_)
  obtain ⟨rfl, hw⟩ := hw
  rcases hw with ⟨hq_2, rfl⟩ | ⟨hq_2, rfl⟩
  · obtain ⟨oo, hoo, rfl⟩ := vp_in_of hq_2 (by omega)
    refine lv_if_ne (tgt := 13) hx hb dX4_refusal_5 (by decide) (fun _ => ?_) (fun c9 => absurd c9 (by decide))
    refine lv_iload_n hx hb dX4_refusal_13 rfl (lv_at hl 2 rfl) ?_
    refine mw_calli hP hS hA (va_runS (As := [.int y]) (rest := []) ⟨hx, hb, hml, hE.2.2.2.1, hE.2.2.1⟩ (tX4_isCode l D k _ _ y) (va_cwS 1 hE.2.2.1 gX4_refusal_X4_isCode rfl rfl rfl (by decide +kernel) ⟨(Nat.le_of_ble_eq_true rfl), (Nat.le_of_ble_eq_true rfl)⟩) (mw_preS hE hP [.int y]) rfl rfl hl.1 rfl (lv_room (Nat.le_of_ble_eq_true rfl)) dX4_refusal_14 ⟨(Nat.le_of_ble_eq_true rfl), (Nat.le_of_ble_eq_true rfl)⟩) (fun r_4 M1 H locs hw hP hS => ?_)
    obtain ⟨rfl, hw⟩ := hw
    rcases hw with ⟨hq_5, rfl⟩ | ⟨hq_5, rfl⟩
    · obtain ⟨i, hi, rfl⟩ := vp_in_of hq_5 (by omega)
      refine lv_if_eq (tgt := 27) hx hb dX4_refusal_17 (by decide) (fun c9 => absurd c9 (by decide)) (fun _ => ?_)
      refine lv_iload_n hx hb dX4_refusal_20 rfl (lv_at hl 3 rfl) ?_
      refine mw_calli hP hS hA (va_runS (As := [.int z]) (rest := []) ⟨hx, hb, hml, hE.2.2.2.1, hE.2.2.1⟩ (tX4_isCode l D k _ _ z) (va_cwS 1 hE.2.2.1 gX4_refusal_X4_isCode rfl rfl rfl (by decide +kernel) ⟨(Nat.le_of_ble_eq_true rfl), (Nat.le_of_ble_eq_true rfl)⟩) (mw_preS hE hP [.int z]) rfl rfl hl.1 rfl (lv_room (Nat.le_of_ble_eq_true rfl)) dX4_refusal_21 ⟨(Nat.le_of_ble_eq_true rfl), (Nat.le_of_ble_eq_true rfl)⟩) (fun r_7 M1 H locs hw hP hS => ?_)
      obtain ⟨rfl, hw⟩ := hw
      rcases hw with ⟨hq_8, rfl⟩ | ⟨hq_8, rfl⟩
      · obtain ⟨j, hj, rfl⟩ := vp_in_of hq_8 (by omega)
        refine lv_if_ne (tgt := 32) hx hb dX4_refusal_24 (by decide) (fun _ => ?_) (fun c9 => absurd c9 (by decide))
        refine lv_aload_n hx hb dX4_refusal_32 rfl (lv_at hl 0 rfl) ?_
        refine mo_get (x := .ref (ad 4)) hE iX4_refusal_X4 hP 4 (by decide) mX4_refusal_f16 rfl rfl dX4_refusal_33 ?_
        refine lv_iload_n hx hb dX4_refusal_36 rfl (lv_at hl 1 rfl) ?_
        refine mo_ld (n := 12) hE hN hP 0 4 rfl (by decide) rfl (by decide) dX4_refusal_37 (by omega) ?_
        refine lv_iconst (v := nI 2) hx hb dX4_refusal_38 (by decide) ?_
        refine lv_icmp_eq (tgt := 47) hx hb dX4_refusal_39 (by decide) (fun c_39 => ?_) (fun c_39 => ?_)
        · refine lv_iconst (v := 0) hx hb dX4_refusal_47 (by decide) ?_
          exact mw_iret (v := 0) hE hr hlocks hP hS dX4_refusal_48 (⟨rfl, Or.inr (Or.inr (Or.inr ⟨oo, i, j, hoo, hi, hj, rfl, rfl, rfl, c_39, rfl⟩))⟩)
        · refine lv_bipush (v := (-5)) hx hb dX4_refusal_42 (by decide) ?_
          refine lv_goto (tgt := 48) hx hb dX4_refusal_44 (by decide) ?_
          exact mw_iret (v := (-5)) hE hr hlocks hP hS dX4_refusal_48 (⟨rfl, Or.inr (Or.inr (Or.inl ⟨oo, i, j, hoo, hi, hj, rfl, rfl, rfl, c_39, rfl⟩))⟩)
      · refine lv_if_ne (tgt := 32) hx hb dX4_refusal_24 (by decide) (fun c9 => absurd (by decide) c9) (fun _ => ?_)
        refine lv_bipush (v := (-4)) hx hb dX4_refusal_27 (by decide) ?_
        refine lv_goto (tgt := 48) hx hb dX4_refusal_29 (by decide) ?_
        exact mw_iret (v := (-4)) hE hr hlocks hP hS dX4_refusal_48 (⟨rfl, Or.inr (Or.inl ⟨vp_in_nI hoo (by omega), fun h => hq_8 h.2, rfl⟩)⟩)
    · refine lv_if_eq (tgt := 27) hx hb dX4_refusal_17 (by decide) (fun _ => ?_) (fun c9 => absurd (by decide) c9)
      refine lv_bipush (v := (-4)) hx hb dX4_refusal_27 (by decide) ?_
      refine lv_goto (tgt := 48) hx hb dX4_refusal_29 (by decide) ?_
      exact mw_iret (v := (-4)) hE hr hlocks hP hS dX4_refusal_48 (⟨rfl, Or.inr (Or.inl ⟨vp_in_nI hoo (by omega), fun h => hq_5 h.1, rfl⟩)⟩)
  · refine lv_if_ne (tgt := 13) hx hb dX4_refusal_5 (by decide) (fun c9 => absurd (by decide) c9) (fun _ => ?_)
    refine lv_bipush (v := (-2)) hx hb dX4_refusal_8 (by decide) ?_
    refine lv_goto (tgt := 48) hx hb dX4_refusal_10 (by decide) ?_
    exact mw_iret (v := (-2)) hE hr hlocks hP hS dX4_refusal_48 (⟨rfl, Or.inl ⟨hq_2, rfl⟩⟩)

set_option maxRecDepth 20000 in
theorem mX4_rankOf_f16 : Cond.fieldLink RX4 16 "CodePagesModel" "kinds" "[I" ∈ wsX4_rankOf := by decide +kernel
set_option maxRecDepth 20000 in
theorem mX4_rankOf_f19 : Cond.fieldLink RX4 19 "CodePagesModel" "ranks" "[I" ∈ wsX4_rankOf := by decide +kernel
set_option maxRecDepth 20000 in
theorem mX4_rankOf_f22 : Cond.fieldLink RX4 22 "CodePagesModel" "next" "[I" ∈ wsX4_rankOf := by decide +kernel
set_option maxRecDepth 20000 in
theorem iX4_rankOf_X4 : ∀ w ∈ u_ws RX4 TX4 14, w ∈ wsX4_rankOf := by decide +kernel
set_option maxHeartbeats 4000000 in
set_option maxRecDepth 100000 in
theorem tX4_rankOf (l : Launch) (D : va_G) (k : Nat → ClassId) (M : mw) (sz : Nat) (ad : Nat → Nat) (v : Nat → Int32) (g : Nat → Nat → Int32) (n : Nat → Nat) (oo cc9 : Nat) (hN : mo_N ad) (hV : mo_V v n) (hn9 : mo_B n) (hM : M = mo_M (k 0) ad v g) (hoo : oo < 12) (hc9 : cc9 < 256) : Met l yX4_rankOf wsX4_rankOf ({ frames := 0, cells := 0, slots := 0, locals := 0 }) (va_Pc [.ref (ad 0), .int (nI oo), .int (nI cc9)] (mw_U D vwCl (TY k) M sz)) (va_Qi (fun r M1 => M1 = mo_M (k 0) ad v g ∧ r = rko g oo cc9) (mw_B D vwCl M sz) (mw_A M sz)) 0 0 (mw_A M sz) := by
  refine mw_met (cc := cX4_rankOf) (maxL := 6) (ret := (some .int)) (lv := [(0, .ref (ad 0)), (1, .int (nI oo)), (2, .int (nI cc9))]) (by decide) rfl (Nat.le_of_ble_eq_true rfl) rfl ?_
  intro p e s m below meth c ls hE hr hlocks hin hml hsz hP hS hl
  subst hsz
  have hx := hE.1
  have hb := hE.2.1
  have hA : ∀ q, s.heap.size ≤ q → mw_A M s.heap.size q := fun q h => Or.inr h
  obtain ⟨Q, hQ⟩ : ∃ Q : State → Prop, Q = MQ below (va_Qi (fun r M1 => M1 = mo_M (k 0) ad v g ∧ r = rko g oo cc9) (mw_B D vwCl M s.heap.size) (mw_A M s.heap.size)) ([.ref (ad 0), .int (nI oo), .int (nI cc9)] : List Value).toArray s 0 0 (mw_A M s.heap.size) := ⟨_, rfl⟩
  rw [← hQ]
  have hP : mw_Q (mw_A M s.heap.size) D vwCl (mo_M (k 0) ad v g) s.heap := by rw [← hM]; exact hP
  obtain ⟨hb0, hb1, hb2, hb3⟩ := hn9
  refine lv_aload_n hx hb dX4_rankOf_0 rfl (lv_at hl 0 rfl) ?_
  refine mo_get (x := .ref (ad 5)) hE iX4_rankOf_X4 hP 5 (by decide) mX4_rankOf_f19 rfl rfl dX4_rankOf_1 ?_
  refine lv_sipush (v := nI 256) hx hb dX4_rankOf_4 (by decide) ?_
  refine lv_iload_n hx hb dX4_rankOf_7 rfl (lv_at hl 1 rfl) ?_
  refine lv_imul hx hb dX4_rankOf_8 ?_
  refine rw_i (v := nI (256 * oo)) (pk_mul _ _) ?_
  refine lv_iload_n hx hb dX4_rankOf_9 rfl (lv_at hl 2 rfl) ?_
  refine lv_iadd hx hb dX4_rankOf_10 ?_
  refine rw_i (v := nI ((256 * oo) + cc9)) (nI_add _ _) ?_
  refine mo_ld (n := 3072) hE hN hP 0 5 rfl (by decide) rfl (by decide) dX4_rankOf_11 (by omega) ?_
  refine lv_istore_n (lv' := [(3, .int (g 5 ((256 * oo) + cc9))), (0, .ref (ad 0)), (1, .int (nI oo)), (2, .int (nI cc9))]) hx hb dX4_rankOf_12 rfl hl (by decide) rfl (fun ls hl => ?_)
  refine lv_aload_n hx hb dX4_rankOf_13 rfl (lv_at hl 1 rfl) ?_
  refine mo_get (x := .ref (ad 4)) hE iX4_rankOf_X4 hP 4 (by decide) mX4_rankOf_f16 rfl rfl dX4_rankOf_14 ?_
  refine lv_iload_n hx hb dX4_rankOf_17 rfl (lv_at hl 2 rfl) ?_
  refine mo_ld (n := 12) hE hN hP 0 4 rfl (by decide) rfl (by decide) dX4_rankOf_18 (by omega) ?_
  refine lv_iconst (v := nI 2) hx hb dX4_rankOf_19 (by decide) ?_
  refine lv_icmp_ne (tgt := 28) hx hb dX4_rankOf_20 (by decide) (fun c_20 => ?_) (fun c_20 => ?_)
  · refine lv_iload_n hx hb dX4_rankOf_28 rfl (lv_at hl 0 rfl) ?_
    rw [hQ]
    exact mw_iret (v := g 5 ((256 * oo) + cc9)) hE hr hlocks hP hS dX4_rankOf_29 (⟨rfl, by unfold rko; rw [if_neg (fun h => c_20 h.1)]⟩)
  · refine lv_iload_n hx hb dX4_rankOf_23 rfl (lv_at hl 0 rfl) ?_
    refine lv_iconst (v := (-1)) hx hb dX4_rankOf_24 (by decide) ?_
    refine lv_icmp_eq (tgt := 30) hx hb dX4_rankOf_25 (by decide) (fun c_25 => ?_) (fun c_25 => ?_)
    · refine lv_aload_n hx hb dX4_rankOf_30 rfl (lv_at hl 1 rfl) ?_
      refine mo_get (x := .ref (ad 6)) hE iX4_rankOf_X4 hP 6 (by decide) mX4_rankOf_f22 rfl rfl dX4_rankOf_31 ?_
      refine lv_iload_n hx hb dX4_rankOf_34 rfl (lv_at hl 2 rfl) ?_
      refine mo_ld (n := 12) hE hN hP 0 6 rfl (by decide) rfl (by decide) dX4_rankOf_35 (by omega) ?_
      refine lv_istore (lv' := [(4, .int (g 6 oo)), (3, .int (g 5 ((256 * oo) + cc9))), (0, .ref (ad 0)), (1, .int (nI oo)), (2, .int (nI cc9))]) hx hb dX4_rankOf_36 hl (by decide) rfl (fun ls hl => ?_)
      refine lv_iconst (v := 0) hx hb dX4_rankOf_38 (by decide) ?_
      refine lv_istore (lv' := [(5, .int 0), (4, .int (g 6 oo)), (3, .int (g 5 ((256 * oo) + cc9))), (0, .ref (ad 0)), (1, .int (nI oo)), (2, .int (nI cc9))]) hx hb dX4_rankOf_39 hl (by decide) rfl (fun ls hl => ?_)
      have lp_41 : ∀ (fu : Nat) (d : Nat) (w : Int32), (d ≤ cc9) → (w = g 6 oo + nI (cntb (nob g oo) d)) → cc9 - d < fu → ∀ (H : Heap) (locs : List Loc), mw_Q (mw_A M s.heap.size) D vwCl (mo_M (k 0) ad v g) H → va_S (mw_A M s.heap.size) s.heap H locs → ∀ ls : Array Slot, lv_has ls 6 [(0, .ref (ad 0)), (1, .int (nI oo)), (2, .int (nI cc9)), (4, .int w), (5, .int (nI d))] → W p l e ({ frames := 0, cells := 0, slots := 0, locals := 0 } : Room) s m ([.ref (ad 0), .int (nI oo), .int (nI cc9)] : List Value).toArray below meth c H locs 0 0 Q (F0 m 41 ls []) := by
        intro fu
        induction fu with
        | zero => intro d w hd hw hn; exact absurd hn (Nat.not_lt_zero _)
        | succ fu ih_41 =>
          intro d w hd hw hn H locs hP hS ls hl
          refine lv_iload hx hb dX4_rankOf_41 (lv_at hl 4 rfl) ?_
          refine lv_iload_n hx hb dX4_rankOf_43 rfl (lv_at hl 2 rfl) ?_
          refine lv_icmp_ge (tgt := 80) hx hb dX4_rankOf_44 (by decide) (fun c_44 => ?_) (fun c_44 => ?_)
          · have k_44 : cc9 ≤ d := nn_le (a := cc9) (b := d) c_44 (by omega) (by omega)
            refine lv_iload hx hb dX4_rankOf_80 (lv_at hl 3 rfl) ?_
            rw [hQ]
            exact mw_iret (v := w) hE hr hlocks hP hS dX4_rankOf_82 (⟨rfl, by unfold rko; rw [if_pos ⟨c_20, c_25⟩, hw, show d = cc9 by omega]⟩)
          · have k_44 : d < cc9 := nn_nle (a := cc9) (b := d) c_44 (by omega) (by omega)
            refine lv_iload hx hb dX4_rankOf_47 (lv_at hl 3 rfl) ?_
            refine lv_aload_n hx hb dX4_rankOf_49 rfl (lv_at hl 0 rfl) ?_
            refine mo_get (x := .ref (ad 5)) hE iX4_rankOf_X4 hP 5 (by decide) mX4_rankOf_f19 rfl rfl dX4_rankOf_50 ?_
            refine lv_sipush (v := nI 256) hx hb dX4_rankOf_53 (by decide) ?_
            refine lv_iload_n hx hb dX4_rankOf_56 rfl (lv_at hl 1 rfl) ?_
            refine lv_imul hx hb dX4_rankOf_57 ?_
            refine rw_i (v := nI (256 * oo)) (pk_mul _ _) ?_
            refine lv_iload hx hb dX4_rankOf_58 (lv_at hl 4 rfl) ?_
            refine lv_iadd hx hb dX4_rankOf_60 ?_
            refine rw_i (v := nI ((256 * oo) + d)) (nI_add _ _) ?_
            refine mo_ld (n := 3072) hE hN hP 0 5 rfl (by decide) rfl (by decide) dX4_rankOf_61 (by omega) ?_
            refine lv_iconst (v := (-1)) hx hb dX4_rankOf_62 (by decide) ?_
            refine lv_icmp_ne (tgt := 70) hx hb dX4_rankOf_63 (by decide) (fun c_63 => ?_) (fun c_63 => ?_)
            · refine lv_iconst (v := 0) hx hb dX4_rankOf_70 (by decide) ?_
              refine lv_iadd hx hb dX4_rankOf_71 ?_
              refine rw_i (v := w) (Int32.add_zero _) ?_
              refine lv_topi (fun w1 ew1 => ?_)
              refine lv_istore (lv' := [(4, .int w1), (0, .ref (ad 0)), (1, .int (nI oo)), (2, .int (nI cc9)), (5, .int (nI d))]) hx hb dX4_rankOf_72 hl (by decide) rfl (fun ls hl => ?_)
              refine lv_iinc (v := nI (d + 1)) (lv' := [(5, .int (nI (d + 1))), (4, .int w1), (0, .ref (ad 0)), (1, .int (nI oo)), (2, .int (nI cc9))]) hx hb dX4_rankOf_74 hl (k := 4) rfl (nI_1 d) (by decide) rfl (fun ls hl => ?_)
              refine lv_goto (tgt := 41) hx hb dX4_rankOf_77 (by decide) ?_
              exact ih_41 (d + 1) w1 (by omega) (by rw [ew1, hw, cntb_f (show nob g oo d = false from decide_eq_false c_63)]) (by omega) H locs hP hS ls (lv_sub hl [2, 3, 4, 1, 0] rfl)
            · refine lv_iconst (v := 1) hx hb dX4_rankOf_66 (by decide) ?_
              refine lv_goto (tgt := 71) hx hb dX4_rankOf_67 (by decide) ?_
              refine lv_iadd hx hb dX4_rankOf_71 ?_
              refine lv_topi (fun w1 ew1 => ?_)
              refine lv_istore (lv' := [(4, .int w1), (0, .ref (ad 0)), (1, .int (nI oo)), (2, .int (nI cc9)), (5, .int (nI d))]) hx hb dX4_rankOf_72 hl (by decide) rfl (fun ls hl => ?_)
              refine lv_iinc (v := nI (d + 1)) (lv' := [(5, .int (nI (d + 1))), (4, .int w1), (0, .ref (ad 0)), (1, .int (nI oo)), (2, .int (nI cc9))]) hx hb dX4_rankOf_74 hl (k := 4) rfl (nI_1 d) (by decide) rfl (fun ls hl => ?_)
              refine lv_goto (tgt := 41) hx hb dX4_rankOf_77 (by decide) ?_
              exact ih_41 (d + 1) w1 (by omega) (by rw [ew1, hw, cntb_t (show nob g oo d = true from decide_eq_true c_63), Int32.add_assoc, nI_1]) (by omega) H locs hP hS ls (lv_sub hl [2, 3, 4, 1, 0] rfl)
      exact lp_41 (257) 0 (g 6 oo) (by omega) (by show _ = g 6 oo + nI 0; rw [nI_0, Int32.add_zero]) (by omega) _ _ hP hS ls (lv_sub hl [3, 4, 5, 1, 0] rfl)
    · refine lv_iload_n hx hb dX4_rankOf_28 rfl (lv_at hl 0 rfl) ?_
      rw [hQ]
      exact mw_iret (v := g 5 ((256 * oo) + cc9)) hE hr hlocks hP hS dX4_rankOf_29 (⟨rfl, by unfold rko; rw [if_neg (fun h => c_25 h.2)]⟩)

set_option maxRecDepth 20000 in
theorem mX4_rank_f34 : Cond.fieldLink RX4 34 "CodePagesModel" "code" "I" ∈ wsX4_rank := by decide +kernel
set_option maxRecDepth 20000 in
theorem iX4_rank_X4 : ∀ w ∈ u_ws RX4 TX4 14, w ∈ wsX4_rank := by decide +kernel
set_option maxHeartbeats 4000000 in
set_option maxRecDepth 100000 in
theorem tX4_rank (l : Launch) (D : va_G) (k : Nat → ClassId) (M : mw) (sz : Nat) (ad : Nat → Nat) (v : Nat → Int32) (g : Nat → Nat → Int32) (n : Nat → Nat) (x y : Int32) (hN : mo_N ad) (hV : mo_V v n) (hn9 : mo_B n) (hM : M = mo_M (k 0) ad v g) : Met l yX4_rank wsX4_rank ({ frames := 1, cells := 0, slots := 0, locals := 25 }) (va_Pc [.ref (ad 0), .int x, .int y] (mw_U D vwCl (TY k) M sz)) (va_Qi (fun r M1 => ∃ v1, M1 = mo_M (k 0) ad v1 g ∧ mo_V v1 n ∧ R_rank n g x y r) (mw_B D vwCl M sz) (mw_A M sz)) 0 0 (mw_A M sz) := by
  refine mw_met (cc := cX4_rank) (maxL := 3) (ret := (some .int)) (lv := [(0, .ref (ad 0)), (1, .int x), (2, .int y)]) (by decide) rfl (Nat.le_of_ble_eq_true rfl) rfl ?_
  intro p e s m below meth c ls hE hr hlocks hin hml hsz hP hS hl
  subst hsz
  have hx := hE.1
  have hb := hE.2.1
  have hA : ∀ q, s.heap.size ≤ q → mw_A M s.heap.size q := fun q h => Or.inr h
  have hP : mw_Q (mw_A M s.heap.size) D vwCl (mo_M (k 0) ad v g) s.heap := by rw [← hM]; exact hP
  obtain ⟨hb0, hb1, hb2, hb3⟩ := hn9
  refine lv_aload_n hx hb dX4_rank_0 rfl (lv_at hl 0 rfl) ?_
  refine lv_iconst (v := 0) hx hb dX4_rank_1 (by decide) ?_
  refine mo_put hE iX4_rank_X4 hP hS 0 (by decide) mX4_rank_f34 rfl rfl (by decide +kernel) rfl dX4_rank_2 (fun H locs hP hS => ?_)
  refine lv_aload_n hx hb dX4_rank_5 rfl (lv_at hl 0 rfl) ?_
  refine lv_iload_n hx hb dX4_rank_6 rfl (lv_at hl 1 rfl) ?_
  refine mw_calli hP hS hA (va_runV (As := [.int x]) (rest := []) ⟨hx, hb, hml, hE.2.2.2.1, hE.2.2.1⟩ (tX4_isOrder l D k _ _ ad (va_up v 0 0) g n x hN hV ⟨hb0, hb1, hb2, hb3⟩ rfl) (cwV 1 hE.2.2.1 gX4_rank_X4_isOrder rfl rfl rfl (by decide +kernel) ⟨(Nat.le_of_ble_eq_true rfl), (Nat.le_of_ble_eq_true rfl)⟩) (mw_preV hE hP (ci := 5) rfl rfl mo_o [.int x]) rfl rfl hl.1 rfl (lv_room (Nat.le_of_ble_eq_true rfl)) dX4_rank_7 ⟨(Nat.le_of_ble_eq_true rfl), (Nat.le_of_ble_eq_true rfl)⟩) (fun r_1 M1 H locs hw hP hS => ?_)
  obtain ⟨rfl, hw⟩ := hw
  rcases hw with ⟨hq_2, rfl⟩ | ⟨hq_2, rfl⟩
  · obtain ⟨oo, hoo, rfl⟩ := vp_in_of hq_2 (by omega)
    refine lv_if_ne (tgt := 16) hx hb dX4_rank_10 (by decide) (fun _ => ?_) (fun c9 => absurd c9 (by decide))
    refine lv_iload_n hx hb dX4_rank_16 rfl (lv_at hl 2 rfl) ?_
    refine mw_calli hP hS hA (va_runS (As := [.int y]) (rest := []) ⟨hx, hb, hml, hE.2.2.2.1, hE.2.2.1⟩ (tX4_isCode l D k _ _ y) (va_cwS 1 hE.2.2.1 gX4_rank_X4_isCode rfl rfl rfl (by decide +kernel) ⟨(Nat.le_of_ble_eq_true rfl), (Nat.le_of_ble_eq_true rfl)⟩) (mw_preS hE hP [.int y]) rfl rfl hl.1 rfl (lv_room (Nat.le_of_ble_eq_true rfl)) dX4_rank_17 ⟨(Nat.le_of_ble_eq_true rfl), (Nat.le_of_ble_eq_true rfl)⟩) (fun r_4 M1 H locs hw hP hS => ?_)
    obtain ⟨rfl, hw⟩ := hw
    rcases hw with ⟨hq_5, rfl⟩ | ⟨hq_5, rfl⟩
    · obtain ⟨j, hj, rfl⟩ := vp_in_of hq_5 (by omega)
      refine lv_if_eq (tgt := 32) hx hb dX4_rank_20 (by decide) (fun c9 => absurd c9 (by decide)) (fun _ => ?_)
      refine lv_aload_n hx hb dX4_rank_23 rfl (lv_at hl 0 rfl) ?_
      refine lv_iload_n hx hb dX4_rank_24 rfl (lv_at hl 1 rfl) ?_
      refine lv_iload_n hx hb dX4_rank_25 rfl (lv_at hl 2 rfl) ?_
      refine mw_calli hP hS hA (va_runV (As := [.int (nI oo), .int (nI j)]) (rest := []) ⟨hx, hb, hml, hE.2.2.2.1, hE.2.2.1⟩ (tX4_rankOf l D k _ _ ad (va_up v 0 0) g n oo j hN hV ⟨hb0, hb1, hb2, hb3⟩ rfl (by omega) (by omega)) (cwV 2 hE.2.2.1 gX4_rank_X4_rankOf rfl rfl rfl (by decide +kernel) ⟨(Nat.le_of_ble_eq_true rfl), (Nat.le_of_ble_eq_true rfl)⟩) (mw_preV hE hP (ci := 5) rfl rfl mo_o [.int (nI oo), .int (nI j)]) rfl rfl hl.1 rfl (lv_room (Nat.le_of_ble_eq_true rfl)) dX4_rank_26 ⟨(Nat.le_of_ble_eq_true rfl), (Nat.le_of_ble_eq_true rfl)⟩) (fun r_7 M1 H locs hw1 hP hS => ?_)
      obtain ⟨rfl, er_7⟩ := hw1
      refine lv_goto (tgt := 34) hx hb dX4_rank_29 (by decide) ?_
      exact mw_iret (v := r_7) hE hr hlocks hP hS dX4_rank_34 (⟨_, rfl, hV, Or.inr (Or.inr ⟨oo, j, hoo, hj, rfl, rfl, er_7⟩)⟩)
    · refine lv_if_eq (tgt := 32) hx hb dX4_rank_20 (by decide) (fun _ => ?_) (fun c9 => absurd (by decide) c9)
      refine lv_bipush (v := (-4)) hx hb dX4_rank_32 (by decide) ?_
      exact mw_iret (v := (-4)) hE hr hlocks hP hS dX4_rank_34 (⟨_, rfl, hV, Or.inr (Or.inl ⟨vp_in_nI hoo (by omega), hq_5, rfl⟩)⟩)
  · refine lv_if_ne (tgt := 16) hx hb dX4_rank_10 (by decide) (fun c9 => absurd (by decide) c9) (fun _ => ?_)
    refine lv_bipush (v := (-2)) hx hb dX4_rank_13 (by decide) ?_
    exact mw_iret (v := (-2)) hE hr hlocks hP hS dX4_rank_15 (⟨_, rfl, hV, Or.inl ⟨hq_2, rfl⟩⟩)

set_option maxRecDepth 20000 in
theorem mX4_high_f34 : Cond.fieldLink RX4 34 "CodePagesModel" "code" "I" ∈ wsX4_high := by decide +kernel
set_option maxRecDepth 20000 in
theorem iX4_high_X4 : ∀ w ∈ u_ws RX4 TX4 14, w ∈ wsX4_high := by decide +kernel
set_option maxHeartbeats 4000000 in
set_option maxRecDepth 100000 in
theorem tX4_high (l : Launch) (D : va_G) (k : Nat → ClassId) (M : mw) (sz : Nat) (ad : Nat → Nat) (v : Nat → Int32) (g : Nat → Nat → Int32) (n : Nat → Nat) (x : Int32) (hN : mo_N ad) (hV : mo_V v n) (hn9 : mo_B n) (hM : M = mo_M (k 0) ad v g) : Met l yX4_high wsX4_high ({ frames := 1, cells := 0, slots := 0, locals := 25 }) (va_Pc [.ref (ad 0), .int x] (mw_U D vwCl (TY k) M sz)) (va_Qi (fun r M1 => ∃ v1, M1 = mo_M (k 0) ad v1 g ∧ mo_V v1 n ∧ R_high n g x r) (mw_B D vwCl M sz) (mw_A M sz)) 0 0 (mw_A M sz) := by
  refine mw_met (cc := cX4_high) (maxL := 4) (ret := (some .int)) (lv := [(0, .ref (ad 0)), (1, .int x)]) (by decide) rfl (Nat.le_of_ble_eq_true rfl) rfl ?_
  intro p e s m below meth c ls hE hr hlocks hin hml hsz hP hS hl
  subst hsz
  have hx := hE.1
  have hb := hE.2.1
  have hA : ∀ q, s.heap.size ≤ q → mw_A M s.heap.size q := fun q h => Or.inr h
  obtain ⟨Q, hQ⟩ : ∃ Q : State → Prop, Q = MQ below (va_Qi (fun r M1 => ∃ v1, M1 = mo_M (k 0) ad v1 g ∧ mo_V v1 n ∧ R_high n g x r) (mw_B D vwCl M s.heap.size) (mw_A M s.heap.size)) ([.ref (ad 0), .int x] : List Value).toArray s 0 0 (mw_A M s.heap.size) := ⟨_, rfl⟩
  rw [← hQ]
  have hP : mw_Q (mw_A M s.heap.size) D vwCl (mo_M (k 0) ad v g) s.heap := by rw [← hM]; exact hP
  obtain ⟨hb0, hb1, hb2, hb3⟩ := hn9
  refine lv_aload_n hx hb dX4_high_0 rfl (lv_at hl 0 rfl) ?_
  refine lv_iconst (v := 0) hx hb dX4_high_1 (by decide) ?_
  refine mo_put hE iX4_high_X4 hP hS 0 (by decide) mX4_high_f34 rfl rfl (by decide +kernel) rfl dX4_high_2 (fun H locs hP hS => ?_)
  refine lv_aload_n hx hb dX4_high_5 rfl (lv_at hl 0 rfl) ?_
  refine lv_iload_n hx hb dX4_high_6 rfl (lv_at hl 1 rfl) ?_
  refine mw_calli hP hS hA (va_runV (As := [.int x]) (rest := []) ⟨hx, hb, hml, hE.2.2.2.1, hE.2.2.1⟩ (tX4_isOrder l D k _ _ ad (va_up v 0 0) g n x hN hV ⟨hb0, hb1, hb2, hb3⟩ rfl) (cwV 1 hE.2.2.1 gX4_high_X4_isOrder rfl rfl rfl (by decide +kernel) ⟨(Nat.le_of_ble_eq_true rfl), (Nat.le_of_ble_eq_true rfl)⟩) (mw_preV hE hP (ci := 5) rfl rfl mo_o [.int x]) rfl rfl hl.1 rfl (lv_room (Nat.le_of_ble_eq_true rfl)) dX4_high_7 ⟨(Nat.le_of_ble_eq_true rfl), (Nat.le_of_ble_eq_true rfl)⟩) (fun r_1 M1 H locs hw hP hS => ?_)
  obtain ⟨rfl, hw⟩ := hw
  rcases hw with ⟨hq_2, rfl⟩ | ⟨hq_2, rfl⟩
  · obtain ⟨oo, hoo, rfl⟩ := vp_in_of hq_2 (by omega)
    refine lv_if_ne (tgt := 16) hx hb dX4_high_10 (by decide) (fun _ => ?_) (fun c9 => absurd c9 (by decide))
    refine lv_iconst (v := 0) hx hb dX4_high_16 (by decide) ?_
    refine lv_istore_n (lv' := [(2, .int 0), (0, .ref (ad 0)), (1, .int (nI oo))]) hx hb dX4_high_17 rfl hl (by decide) rfl (fun ls hl => ?_)
    refine lv_iconst (v := 1) hx hb dX4_high_18 (by decide) ?_
    refine lv_istore_n (lv' := [(3, .int 1), (2, .int 0), (0, .ref (ad 0)), (1, .int (nI oo))]) hx hb dX4_high_19 rfl hl (by decide) rfl (fun ls hl => ?_)
    have lp_20 : ∀ (fu : Nat) (cc9 bb : Nat), (cc9 < 256) → (bb ≤ cc9) → (bb = hgh (rko g oo) cc9) → 256 - cc9 < fu → ∀ (H : Heap) (locs : List Loc), mw_Q (mw_A M s.heap.size) D vwCl (mo_M (k 0) ad (va_up v 0 0) g) H → va_S (mw_A M s.heap.size) s.heap H locs → ∀ ls : Array Slot, lv_has ls 4 [(0, .ref (ad 0)), (1, .int (nI oo)), (2, .int (nI bb)), (3, .int (nI (cc9 + 1)))] → W p l e ({ frames := 1, cells := 0, slots := 0, locals := 25 } : Room) s m ([.ref (ad 0), .int (nI oo)] : List Value).toArray below meth c H locs 0 0 Q (F0 m 20 ls []) := by
      intro fu
      induction fu with
      | zero => intro cc9 bb hc9 hb9 hbb hn; exact absurd hn (Nat.not_lt_zero _)
      | succ fu ih_20 =>
        intro cc9 bb hc9 hb9 hbb hn H locs hP hS ls hl
        refine lv_iload_n hx hb dX4_high_20 rfl (lv_at hl 3 rfl) ?_
        refine lv_sipush (v := nI 256) hx hb dX4_high_21 (by decide) ?_
        refine lv_icmp_ge (tgt := 54) hx hb dX4_high_24 (by decide) (fun c_24 => ?_) (fun c_24 => ?_)
        · have k_24 : 256 ≤ (cc9 + 1) := nn_le (a := 256) (b := (cc9 + 1)) c_24 (by omega) (by omega)
          refine lv_iload_n hx hb dX4_high_54 rfl (lv_at hl 2 rfl) ?_
          rw [hQ]
          exact mw_iret (v := nI bb) hE hr hlocks hP hS dX4_high_55 (⟨_, rfl, hV, Or.inr ⟨oo, hoo, rfl, by rw [hbb, show cc9 = 255 by omega]⟩⟩)
        · have k_24 : (cc9 + 1) < 256 := nn_nle (a := 256) (b := (cc9 + 1)) c_24 (by omega) (by omega)
          refine lv_aload_n hx hb dX4_high_27 rfl (lv_at hl 0 rfl) ?_
          refine lv_iload_n hx hb dX4_high_28 rfl (lv_at hl 1 rfl) ?_
          refine lv_iload_n hx hb dX4_high_29 rfl (lv_at hl 3 rfl) ?_
          refine mw_calli hP hS hA (va_runV (As := [.int (nI oo), .int (nI (cc9 + 1))]) (rest := []) ⟨hx, hb, hml, hE.2.2.2.1, hE.2.2.1⟩ (tX4_rankOf l D k _ _ ad (va_up v 0 0) g n oo (cc9 + 1) hN hV ⟨hb0, hb1, hb2, hb3⟩ rfl (by omega) (by omega)) (cwV 2 hE.2.2.1 gX4_high_X4_rankOf rfl rfl rfl (by decide +kernel) ⟨(Nat.le_of_ble_eq_true rfl), (Nat.le_of_ble_eq_true rfl)⟩) (mw_preV hE hP (ci := 5) rfl rfl mo_o [.int (nI oo), .int (nI (cc9 + 1))]) rfl rfl hl.1 rfl (lv_room (Nat.le_of_ble_eq_true rfl)) dX4_high_30 ⟨(Nat.le_of_ble_eq_true rfl), (Nat.le_of_ble_eq_true rfl)⟩) (fun r_5 M1 H locs hw1 hP hS => ?_)
          obtain ⟨rfl, er_5⟩ := hw1
          refine lv_aload_n hx hb dX4_high_33 rfl (lv_at hl 0 rfl) ?_
          refine lv_iload_n hx hb dX4_high_34 rfl (lv_at hl 1 rfl) ?_
          refine lv_iload_n hx hb dX4_high_35 rfl (lv_at hl 2 rfl) ?_
          refine mw_calli hP hS hA (va_runV (As := [.int (nI oo), .int (nI bb)]) (rest := [.int r_5]) ⟨hx, hb, hml, hE.2.2.2.1, hE.2.2.1⟩ (tX4_rankOf l D k _ _ ad (va_up v 0 0) g n oo bb hN hV ⟨hb0, hb1, hb2, hb3⟩ rfl (by omega) (by omega)) (cwV 2 hE.2.2.1 gX4_high_X4_rankOf rfl rfl rfl (by decide +kernel) ⟨(Nat.le_of_ble_eq_true rfl), (Nat.le_of_ble_eq_true rfl)⟩) (mw_preV hE hP (ci := 5) rfl rfl mo_o [.int (nI oo), .int (nI bb)]) rfl rfl hl.1 rfl (lv_room (Nat.le_of_ble_eq_true rfl)) dX4_high_36 ⟨(Nat.le_of_ble_eq_true rfl), (Nat.le_of_ble_eq_true rfl)⟩) (fun r_6 M1 H locs hw1 hP hS => ?_)
          obtain ⟨rfl, er_6⟩ := hw1
          refine lv_icmp_lt (tgt := 46) hx hb dX4_high_39 (by decide) (fun c_39 => ?_) (fun c_39 => ?_)
          · refine lv_iload_n hx hb dX4_high_46 rfl (lv_at hl 2 rfl) ?_
            refine lv_istore_n (lv' := [(2, .int (nI bb)), (0, .ref (ad 0)), (1, .int (nI oo)), (3, .int (nI (cc9 + 1)))]) hx hb dX4_high_47 rfl hl (by decide) rfl (fun ls hl => ?_)
            refine lv_iinc (v := nI ((cc9 + 1) + 1)) (lv' := [(3, .int (nI ((cc9 + 1) + 1))), (2, .int (nI bb)), (0, .ref (ad 0)), (1, .int (nI oo))]) hx hb dX4_high_48 hl (k := 3) rfl (nI_1 (cc9 + 1)) (by decide) rfl (fun ls hl => ?_)
            refine lv_goto (tgt := 20) hx hb dX4_high_51 (by decide) ?_
            exact ih_20 (cc9 + 1) bb (by omega) (by omega) (by rw [hgh, if_pos (by rw [← er_5, ← hbb, ← er_6]; exact c_39), hbb]) (by omega) H locs hP hS ls (lv_sub hl [2, 3, 1, 0] rfl)
          · refine lv_iload_n hx hb dX4_high_42 rfl (lv_at hl 3 rfl) ?_
            refine lv_goto (tgt := 47) hx hb dX4_high_43 (by decide) ?_
            refine lv_istore_n (lv' := [(2, .int (nI (cc9 + 1))), (0, .ref (ad 0)), (1, .int (nI oo)), (3, .int (nI (cc9 + 1)))]) hx hb dX4_high_47 rfl hl (by decide) rfl (fun ls hl => ?_)
            refine lv_iinc (v := nI ((cc9 + 1) + 1)) (lv' := [(3, .int (nI ((cc9 + 1) + 1))), (2, .int (nI (cc9 + 1))), (0, .ref (ad 0)), (1, .int (nI oo))]) hx hb dX4_high_48 hl (k := 3) rfl (nI_1 (cc9 + 1)) (by decide) rfl (fun ls hl => ?_)
            refine lv_goto (tgt := 20) hx hb dX4_high_51 (by decide) ?_
            exact ih_20 (cc9 + 1) (cc9 + 1) (by omega) (by omega) (by rw [hgh, if_neg (by rw [← er_5, ← hbb, ← er_6]; exact c_39)]) (by omega) H locs hP hS ls (lv_sub hl [2, 3, 1, 0] rfl)
    exact lp_20 (257) 0 0 (by omega) (by omega) (rfl) (by omega) _ _ hP hS ls (lv_sub hl [2, 3, 1, 0] rfl)
  · refine lv_if_ne (tgt := 16) hx hb dX4_high_10 (by decide) (fun c9 => absurd (by decide) c9) (fun _ => ?_)
    refine lv_bipush (v := (-2)) hx hb dX4_high_13 (by decide) ?_
    rw [hQ]
    exact mw_iret (v := (-2)) hE hr hlocks hP hS dX4_high_15 (⟨_, rfl, hV, Or.inl ⟨hq_2, rfl⟩⟩)

set_option maxRecDepth 20000 in
theorem mX4_meant_f38 : Cond.fieldLink RX4 38 "CodePagesModel" "pages" "I" ∈ wsX4_meant := by decide +kernel
set_option maxRecDepth 20000 in
theorem mX4_meant_f7 : Cond.fieldLink RX4 7 "CodePagesModel" "means" "[I" ∈ wsX4_meant := by decide +kernel
set_option maxRecDepth 20000 in
theorem iX4_meant_X4 : ∀ w ∈ u_ws RX4 TX4 14, w ∈ wsX4_meant := by decide +kernel
set_option maxHeartbeats 4000000 in
set_option maxRecDepth 100000 in
theorem tX4_meant (l : Launch) (D : va_G) (k : Nat → ClassId) (M : mw) (sz : Nat) (ad : Nat → Nat) (v : Nat → Int32) (g : Nat → Nat → Int32) (n : Nat → Nat) (cc9 : Nat) (hN : mo_N ad) (hV : mo_V v n) (hn9 : mo_B n) (hM : M = mo_M (k 0) ad v g) (hc9 : cc9 < 256) : Met l yX4_meant wsX4_meant ({ frames := 0, cells := 0, slots := 0, locals := 0 }) (va_Pc [.ref (ad 0), .int (nI cc9)] (mw_U D vwCl (TY k) M sz)) (va_Qi (fun r M1 => M1 = mo_M (k 0) ad v g ∧ r = nI (mnt n g cc9)) (mw_B D vwCl M sz) (mw_A M sz)) 0 0 (mw_A M sz) := by
  refine mw_met (cc := cX4_meant) (maxL := 5) (ret := (some .int)) (lv := [(0, .ref (ad 0)), (1, .int (nI cc9))]) (by decide) rfl (Nat.le_of_ble_eq_true rfl) rfl ?_
  intro p e s m below meth c ls hE hr hlocks hin hml hsz hP hS hl
  subst hsz
  have hx := hE.1
  have hb := hE.2.1
  have hA : ∀ q, s.heap.size ≤ q → mw_A M s.heap.size q := fun q h => Or.inr h
  obtain ⟨Q, hQ⟩ : ∃ Q : State → Prop, Q = MQ below (va_Qi (fun r M1 => M1 = mo_M (k 0) ad v g ∧ r = nI (mnt n g cc9)) (mw_B D vwCl M s.heap.size) (mw_A M s.heap.size)) ([.ref (ad 0), .int (nI cc9)] : List Value).toArray s 0 0 (mw_A M s.heap.size) := ⟨_, rfl⟩
  rw [← hQ]
  have hP : mw_Q (mw_A M s.heap.size) D vwCl (mo_M (k 0) ad v g) s.heap := by rw [← hM]; exact hP
  obtain ⟨hb0, hb1, hb2, hb3⟩ := hn9
  refine lv_aload_n hx hb dX4_meant_0 rfl (lv_at hl 0 rfl) ?_
  refine mo_get (x := .int (v 3)) hE iX4_meant_X4 hP 3 (by decide) mX4_meant_f38 rfl rfl dX4_meant_1 ?_
  refine rw_i (v := nI (n 0)) hV.1 ?_
  refine lv_if_ne (tgt := 9) hx hb dX4_meant_4 (by decide) (fun c_4 => ?_) (fun c_4 => ?_)
  · have k_4 : (n 0) ≠ 0 := nn_neq (a := (n 0)) (b := 0) c_4 (by omega) (by omega)
    refine lv_iconst (v := 0) hx hb dX4_meant_9 (by decide) ?_
    refine lv_istore_n (lv' := [(2, .int 0), (0, .ref (ad 0)), (1, .int (nI cc9))]) hx hb dX4_meant_10 rfl hl (by decide) rfl (fun ls hl => ?_)
    refine lv_iconst (v := 0) hx hb dX4_meant_11 (by decide) ?_
    refine lv_istore_n (lv' := [(3, .int 0), (2, .int 0), (0, .ref (ad 0)), (1, .int (nI cc9))]) hx hb dX4_meant_12 rfl hl (by decide) rfl (fun ls hl => ?_)
    have lp_13 : ∀ (fu : Nat) (d mm : Nat), (d ≤ 256) → (mm = cntb (ahd g cc9) d) → 256 - d < fu → ∀ (H : Heap) (locs : List Loc), mw_Q (mw_A M s.heap.size) D vwCl (mo_M (k 0) ad v g) H → va_S (mw_A M s.heap.size) s.heap H locs → ∀ ls : Array Slot, lv_has ls 5 [(0, .ref (ad 0)), (1, .int (nI cc9)), (2, .int (nI mm)), (3, .int (nI d))] → W p l e ({ frames := 0, cells := 0, slots := 0, locals := 0 } : Room) s m ([.ref (ad 0), .int (nI cc9)] : List Value).toArray below meth c H locs 0 0 Q (F0 m 13 ls []) := by
      intro fu
      induction fu with
      | zero => intro d mm hd hm hn; exact absurd hn (Nat.not_lt_zero _)
      | succ fu ih_13 =>
        intro d mm hd hm hn H locs hP hS ls hl
        refine lv_iload_n hx hb dX4_meant_13 rfl (lv_at hl 3 rfl) ?_
        refine lv_sipush (v := nI 256) hx hb dX4_meant_14 (by decide) ?_
        refine lv_icmp_ge (tgt := 104) hx hb dX4_meant_17 (by decide) (fun c_17 => ?_) (fun c_17 => ?_)
        · have k_17 : 256 ≤ d := nn_le (a := 256) (b := d) c_17 (by omega) (by omega)
          refine lv_iload_n hx hb dX4_meant_104 rfl (lv_at hl 2 rfl) ?_
          rw [hQ]
          exact mw_iret (v := nI mm) hE hr hlocks hP hS dX4_meant_105 (⟨rfl, by unfold mnt; rw [if_neg k_4, hm, show d = 256 by omega]⟩)
        · have k_17 : d < 256 := nn_nle (a := 256) (b := d) c_17 (by omega) (by omega)
          refine lv_aload_n hx hb dX4_meant_20 rfl (lv_at hl 0 rfl) ?_
          refine mo_get (x := .ref (ad 1)) hE iX4_meant_X4 hP 1 (by decide) mX4_meant_f7 rfl rfl dX4_meant_21 ?_
          refine lv_iload_n hx hb dX4_meant_24 rfl (lv_at hl 3 rfl) ?_
          refine mo_ld (n := 3072) hE hN hP 0 1 rfl (by decide) rfl (by decide) dX4_meant_25 (by omega) ?_
          refine lv_iconst (v := (-1)) hx hb dX4_meant_26 (by decide) ?_
          refine lv_icmp_ne (tgt := 53) hx hb dX4_meant_27 (by decide) (fun c_27 => ?_) (fun c_27 => ?_)
          · refine lv_aload_n hx hb dX4_meant_53 rfl (lv_at hl 0 rfl) ?_
            refine mo_get (x := .ref (ad 1)) hE iX4_meant_X4 hP 1 (by decide) mX4_meant_f7 rfl rfl dX4_meant_54 ?_
            refine lv_iload_n hx hb dX4_meant_57 rfl (lv_at hl 1 rfl) ?_
            refine mo_ld (n := 3072) hE hN hP 0 1 rfl (by decide) rfl (by decide) dX4_meant_58 (by omega) ?_
            refine lv_iconst (v := (-1)) hx hb dX4_meant_59 (by decide) ?_
            refine lv_icmp_eq (tgt := 78) hx hb dX4_meant_60 (by decide) (fun c_60 => ?_) (fun c_60 => ?_)
            · refine lv_iconst (v := 1) hx hb dX4_meant_78 (by decide) ?_
              refine lv_goto (tgt := 83) hx hb dX4_meant_79 (by decide) ?_
              refine lv_istore (lv' := [(4, .int 1), (0, .ref (ad 0)), (1, .int (nI cc9)), (2, .int (nI mm)), (3, .int (nI d))]) hx hb dX4_meant_83 hl (by decide) rfl (fun ls hl => ?_)
              refine lv_iload_n hx hb dX4_meant_85 rfl (lv_at hl 3 rfl) ?_
              refine lv_iload hx hb dX4_meant_86 (lv_at hl 0 rfl) ?_
              refine lv_if_eq (tgt := 95) hx hb dX4_meant_88 (by decide) (fun c9 => absurd c9 (by decide)) (fun _ => ?_)
              refine lv_iconst (v := 1) hx hb dX4_meant_91 (by decide) ?_
              refine lv_goto (tgt := 96) hx hb dX4_meant_92 (by decide) ?_
              refine lv_iadd hx hb dX4_meant_96 ?_
              refine rw_i (v := nI (mm + 1)) (nI_1 _) ?_
              refine lv_istore_n (lv' := [(2, .int (nI (mm + 1))), (4, .int 1), (0, .ref (ad 0)), (1, .int (nI cc9)), (3, .int (nI d))]) hx hb dX4_meant_97 rfl hl (by decide) rfl (fun ls hl => ?_)
              refine lv_iinc (v := nI (d + 1)) (lv' := [(3, .int (nI (d + 1))), (2, .int (nI (mm + 1))), (4, .int 1), (0, .ref (ad 0)), (1, .int (nI cc9))]) hx hb dX4_meant_98 hl (k := 4) rfl (nI_1 d) (by decide) rfl (fun ls hl => ?_)
              refine lv_goto (tgt := 13) hx hb dX4_meant_101 (by decide) ?_
              exact ih_13 (d + 1) (mm + 1) (by omega) (by rw [cntb_t (show ahd g cc9 d = true by unfold ahd; simp [c_27, c_60]), hm]) (by omega) H locs hP hS ls (lv_sub hl [3, 4, 1, 0] rfl)
            · refine lv_aload_n hx hb dX4_meant_63 rfl (lv_at hl 0 rfl) ?_
              refine mo_get (x := .ref (ad 1)) hE iX4_meant_X4 hP 1 (by decide) mX4_meant_f7 rfl rfl dX4_meant_64 ?_
              refine lv_iload_n hx hb dX4_meant_67 rfl (lv_at hl 3 rfl) ?_
              refine mo_ld (n := 3072) hE hN hP 0 1 rfl (by decide) rfl (by decide) dX4_meant_68 (by omega) ?_
              refine lv_aload_n hx hb dX4_meant_69 rfl (lv_at hl 0 rfl) ?_
              refine mo_get (x := .ref (ad 1)) hE iX4_meant_X4 hP 1 (by decide) mX4_meant_f7 rfl rfl dX4_meant_70 ?_
              refine lv_iload_n hx hb dX4_meant_73 rfl (lv_at hl 1 rfl) ?_
              refine mo_ld (n := 3072) hE hN hP 0 1 rfl (by decide) rfl (by decide) dX4_meant_74 (by omega) ?_
              refine lv_icmp_ge (tgt := 82) hx hb dX4_meant_75 (by decide) (fun c_75 => ?_) (fun c_75 => ?_)
              · refine lv_iconst (v := 0) hx hb dX4_meant_82 (by decide) ?_
                refine lv_istore (lv' := [(4, .int 0), (0, .ref (ad 0)), (1, .int (nI cc9)), (2, .int (nI mm)), (3, .int (nI d))]) hx hb dX4_meant_83 hl (by decide) rfl (fun ls hl => ?_)
                refine lv_iload_n hx hb dX4_meant_85 rfl (lv_at hl 3 rfl) ?_
                refine lv_iload hx hb dX4_meant_86 (lv_at hl 0 rfl) ?_
                refine lv_if_eq (tgt := 95) hx hb dX4_meant_88 (by decide) (fun _ => ?_) (fun c9 => absurd (by decide) c9)
                refine lv_iconst (v := 0) hx hb dX4_meant_95 (by decide) ?_
                refine lv_iadd hx hb dX4_meant_96 ?_
                refine rw_i (v := nI mm) (Int32.add_zero _) ?_
                refine lv_istore_n (lv' := [(2, .int (nI mm)), (4, .int 0), (0, .ref (ad 0)), (1, .int (nI cc9)), (3, .int (nI d))]) hx hb dX4_meant_97 rfl hl (by decide) rfl (fun ls hl => ?_)
                refine lv_iinc (v := nI (d + 1)) (lv' := [(3, .int (nI (d + 1))), (2, .int (nI mm)), (4, .int 0), (0, .ref (ad 0)), (1, .int (nI cc9))]) hx hb dX4_meant_98 hl (k := 4) rfl (nI_1 d) (by decide) rfl (fun ls hl => ?_)
                refine lv_goto (tgt := 13) hx hb dX4_meant_101 (by decide) ?_
                exact ih_13 (d + 1) mm (by omega) (by rw [cntb_f (show ahd g cc9 d = false by unfold ahd; simp [c_27, c_60, c_75]), hm]) (by omega) H locs hP hS ls (lv_sub hl [3, 4, 1, 0] rfl)
              · refine lv_iconst (v := 1) hx hb dX4_meant_78 (by decide) ?_
                refine lv_goto (tgt := 83) hx hb dX4_meant_79 (by decide) ?_
                refine lv_istore (lv' := [(4, .int 1), (0, .ref (ad 0)), (1, .int (nI cc9)), (2, .int (nI mm)), (3, .int (nI d))]) hx hb dX4_meant_83 hl (by decide) rfl (fun ls hl => ?_)
                refine lv_iload_n hx hb dX4_meant_85 rfl (lv_at hl 3 rfl) ?_
                refine lv_iload hx hb dX4_meant_86 (lv_at hl 0 rfl) ?_
                refine lv_if_eq (tgt := 95) hx hb dX4_meant_88 (by decide) (fun c9 => absurd c9 (by decide)) (fun _ => ?_)
                refine lv_iconst (v := 1) hx hb dX4_meant_91 (by decide) ?_
                refine lv_goto (tgt := 96) hx hb dX4_meant_92 (by decide) ?_
                refine lv_iadd hx hb dX4_meant_96 ?_
                refine rw_i (v := nI (mm + 1)) (nI_1 _) ?_
                refine lv_istore_n (lv' := [(2, .int (nI (mm + 1))), (4, .int 1), (0, .ref (ad 0)), (1, .int (nI cc9)), (3, .int (nI d))]) hx hb dX4_meant_97 rfl hl (by decide) rfl (fun ls hl => ?_)
                refine lv_iinc (v := nI (d + 1)) (lv' := [(3, .int (nI (d + 1))), (2, .int (nI (mm + 1))), (4, .int 1), (0, .ref (ad 0)), (1, .int (nI cc9))]) hx hb dX4_meant_98 hl (k := 4) rfl (nI_1 d) (by decide) rfl (fun ls hl => ?_)
                refine lv_goto (tgt := 13) hx hb dX4_meant_101 (by decide) ?_
                exact ih_13 (d + 1) (mm + 1) (by omega) (by rw [cntb_t (show ahd g cc9 d = true by unfold ahd; simp [c_27, c_60, Int32.not_le.mp c_75]), hm]) (by omega) H locs hP hS ls (lv_sub hl [3, 4, 1, 0] rfl)
          · refine lv_aload_n hx hb dX4_meant_30 rfl (lv_at hl 0 rfl) ?_
            refine mo_get (x := .ref (ad 1)) hE iX4_meant_X4 hP 1 (by decide) mX4_meant_f7 rfl rfl dX4_meant_31 ?_
            refine lv_iload_n hx hb dX4_meant_34 rfl (lv_at hl 1 rfl) ?_
            refine mo_ld (n := 3072) hE hN hP 0 1 rfl (by decide) rfl (by decide) dX4_meant_35 (by omega) ?_
            refine lv_iconst (v := (-1)) hx hb dX4_meant_36 (by decide) ?_
            refine lv_icmp_ne (tgt := 49) hx hb dX4_meant_37 (by decide) (fun c_37 => ?_) (fun c_37 => ?_)
            · refine lv_iconst (v := 0) hx hb dX4_meant_49 (by decide) ?_
              refine lv_goto (tgt := 83) hx hb dX4_meant_50 (by decide) ?_
              refine lv_istore (lv' := [(4, .int 0), (0, .ref (ad 0)), (1, .int (nI cc9)), (2, .int (nI mm)), (3, .int (nI d))]) hx hb dX4_meant_83 hl (by decide) rfl (fun ls hl => ?_)
              refine lv_iload_n hx hb dX4_meant_85 rfl (lv_at hl 3 rfl) ?_
              refine lv_iload hx hb dX4_meant_86 (lv_at hl 0 rfl) ?_
              refine lv_if_eq (tgt := 95) hx hb dX4_meant_88 (by decide) (fun _ => ?_) (fun c9 => absurd (by decide) c9)
              refine lv_iconst (v := 0) hx hb dX4_meant_95 (by decide) ?_
              refine lv_iadd hx hb dX4_meant_96 ?_
              refine rw_i (v := nI mm) (Int32.add_zero _) ?_
              refine lv_istore_n (lv' := [(2, .int (nI mm)), (4, .int 0), (0, .ref (ad 0)), (1, .int (nI cc9)), (3, .int (nI d))]) hx hb dX4_meant_97 rfl hl (by decide) rfl (fun ls hl => ?_)
              refine lv_iinc (v := nI (d + 1)) (lv' := [(3, .int (nI (d + 1))), (2, .int (nI mm)), (4, .int 0), (0, .ref (ad 0)), (1, .int (nI cc9))]) hx hb dX4_meant_98 hl (k := 4) rfl (nI_1 d) (by decide) rfl (fun ls hl => ?_)
              refine lv_goto (tgt := 13) hx hb dX4_meant_101 (by decide) ?_
              exact ih_13 (d + 1) mm (by omega) (by rw [cntb_f (show ahd g cc9 d = false by unfold ahd; simp [c_27, c_37]), hm]) (by omega) H locs hP hS ls (lv_sub hl [3, 4, 1, 0] rfl)
            · refine lv_iload_n hx hb dX4_meant_40 rfl (lv_at hl 3 rfl) ?_
              refine lv_iload_n hx hb dX4_meant_41 rfl (lv_at hl 1 rfl) ?_
              refine lv_icmp_ge (tgt := 49) hx hb dX4_meant_42 (by decide) (fun c_42 => ?_) (fun c_42 => ?_)
              · have k_42 : cc9 ≤ d := nn_le (a := cc9) (b := d) c_42 (by omega) (by omega)
                refine lv_iconst (v := 0) hx hb dX4_meant_49 (by decide) ?_
                refine lv_goto (tgt := 83) hx hb dX4_meant_50 (by decide) ?_
                refine lv_istore (lv' := [(4, .int 0), (0, .ref (ad 0)), (1, .int (nI cc9)), (2, .int (nI mm)), (3, .int (nI d))]) hx hb dX4_meant_83 hl (by decide) rfl (fun ls hl => ?_)
                refine lv_iload_n hx hb dX4_meant_85 rfl (lv_at hl 3 rfl) ?_
                refine lv_iload hx hb dX4_meant_86 (lv_at hl 0 rfl) ?_
                refine lv_if_eq (tgt := 95) hx hb dX4_meant_88 (by decide) (fun _ => ?_) (fun c9 => absurd (by decide) c9)
                refine lv_iconst (v := 0) hx hb dX4_meant_95 (by decide) ?_
                refine lv_iadd hx hb dX4_meant_96 ?_
                refine rw_i (v := nI mm) (Int32.add_zero _) ?_
                refine lv_istore_n (lv' := [(2, .int (nI mm)), (4, .int 0), (0, .ref (ad 0)), (1, .int (nI cc9)), (3, .int (nI d))]) hx hb dX4_meant_97 rfl hl (by decide) rfl (fun ls hl => ?_)
                refine lv_iinc (v := nI (d + 1)) (lv' := [(3, .int (nI (d + 1))), (2, .int (nI mm)), (4, .int 0), (0, .ref (ad 0)), (1, .int (nI cc9))]) hx hb dX4_meant_98 hl (k := 4) rfl (nI_1 d) (by decide) rfl (fun ls hl => ?_)
                refine lv_goto (tgt := 13) hx hb dX4_meant_101 (by decide) ?_
                exact ih_13 (d + 1) mm (by omega) (by rw [cntb_f (show ahd g cc9 d = false by unfold ahd; simp [c_27, c_37]; omega), hm]) (by omega) H locs hP hS ls (lv_sub hl [3, 4, 1, 0] rfl)
              · have k_42 : d < cc9 := nn_nle (a := cc9) (b := d) c_42 (by omega) (by omega)
                refine lv_iconst (v := 1) hx hb dX4_meant_45 (by decide) ?_
                refine lv_goto (tgt := 83) hx hb dX4_meant_46 (by decide) ?_
                refine lv_istore (lv' := [(4, .int 1), (0, .ref (ad 0)), (1, .int (nI cc9)), (2, .int (nI mm)), (3, .int (nI d))]) hx hb dX4_meant_83 hl (by decide) rfl (fun ls hl => ?_)
                refine lv_iload_n hx hb dX4_meant_85 rfl (lv_at hl 3 rfl) ?_
                refine lv_iload hx hb dX4_meant_86 (lv_at hl 0 rfl) ?_
                refine lv_if_eq (tgt := 95) hx hb dX4_meant_88 (by decide) (fun c9 => absurd c9 (by decide)) (fun _ => ?_)
                refine lv_iconst (v := 1) hx hb dX4_meant_91 (by decide) ?_
                refine lv_goto (tgt := 96) hx hb dX4_meant_92 (by decide) ?_
                refine lv_iadd hx hb dX4_meant_96 ?_
                refine rw_i (v := nI (mm + 1)) (nI_1 _) ?_
                refine lv_istore_n (lv' := [(2, .int (nI (mm + 1))), (4, .int 1), (0, .ref (ad 0)), (1, .int (nI cc9)), (3, .int (nI d))]) hx hb dX4_meant_97 rfl hl (by decide) rfl (fun ls hl => ?_)
                refine lv_iinc (v := nI (d + 1)) (lv' := [(3, .int (nI (d + 1))), (2, .int (nI (mm + 1))), (4, .int 1), (0, .ref (ad 0)), (1, .int (nI cc9))]) hx hb dX4_meant_98 hl (k := 4) rfl (nI_1 d) (by decide) rfl (fun ls hl => ?_)
                refine lv_goto (tgt := 13) hx hb dX4_meant_101 (by decide) ?_
                exact ih_13 (d + 1) (mm + 1) (by omega) (by rw [cntb_t (show ahd g cc9 d = true by unfold ahd; simp [c_27, c_37, c_42, k_42]), hm]) (by omega) H locs hP hS ls (lv_sub hl [3, 4, 1, 0] rfl)
    exact lp_13 (257) 0 0 (by omega) (rfl) (by omega) _ _ hP hS ls (lv_sub hl [2, 3, 1, 0] rfl)
  · have k_4 : (n 0) = 0 := nn_eq (a := (n 0)) (b := 0) c_4 (by omega) (by omega)
    refine lv_iload_n hx hb dX4_meant_7 rfl (lv_at hl 1 rfl) ?_
    rw [hQ]
    exact mw_iret (v := nI cc9) hE hr hlocks hP hS dX4_meant_8 (⟨rfl, by unfold mnt; rw [if_pos k_4]⟩)
end
section
set_option maxRecDepth 20000 in
theorem mX4_order_f16 : Cond.fieldLink RX4 16 "CodePagesModel" "kinds" "[I" ∈ wsX4_order := by decide +kernel
set_option maxRecDepth 20000 in
theorem mX4_order_f19 : Cond.fieldLink RX4 19 "CodePagesModel" "ranks" "[I" ∈ wsX4_order := by decide +kernel
set_option maxRecDepth 20000 in
theorem mX4_order_f22 : Cond.fieldLink RX4 22 "CodePagesModel" "next" "[I" ∈ wsX4_order := by decide +kernel
set_option maxRecDepth 20000 in
theorem mX4_order_f34 : Cond.fieldLink RX4 34 "CodePagesModel" "code" "I" ∈ wsX4_order := by decide +kernel
set_option maxRecDepth 20000 in
theorem mX4_order_f41 : Cond.fieldLink RX4 41 "CodePagesModel" "orders" "I" ∈ wsX4_order := by decide +kernel
set_option maxRecDepth 20000 in
theorem iX4_order_X4 : ∀ w ∈ u_ws RX4 TX4 14, w ∈ wsX4_order := by decide +kernel
set_option maxHeartbeats 4000000 in
set_option maxRecDepth 100000 in
theorem tX4_order (l : Launch) (D : va_G) (k : Nat → ClassId) (M : mw) (sz : Nat) (ad : Nat → Nat) (v : Nat → Int32) (g : Nat → Nat → Int32) (n : Nat → Nat) (x : Int32) (hN : mo_N ad) (hV : mo_V v n) (hn9 : mo_B n) (hM : M = mo_M (k 0) ad v g) : Met l yX4_order wsX4_order ({ frames := 1, cells := 0, slots := 0, locals := 24 }) (va_Pc [.ref (ad 0), .int x] (mw_U D vwCl (TY k) M sz)) (va_Qi (fun r M1 => ∃ v1 g1 n1, M1 = mo_M (k 0) ad v1 g1 ∧ mo_V v1 n1 ∧ R_order n g x r n1 g1) (mw_B D vwCl M sz) (mw_A M sz)) 0 0 (mw_A M sz) := by
  refine mw_met (cc := cX4_order) (maxL := 3) (ret := (some .int)) (lv := [(0, .ref (ad 0)), (1, .int x)]) (by decide) rfl (Nat.le_of_ble_eq_true rfl) rfl ?_
  intro p e s m below meth c ls hE hr hlocks hin hml hsz hP hS hl
  subst hsz
  have hx := hE.1
  have hb := hE.2.1
  have hA : ∀ q, s.heap.size ≤ q → mw_A M s.heap.size q := fun q h => Or.inr h
  obtain ⟨Q, hQ⟩ : ∃ Q : State → Prop, Q = MQ below (va_Qi (fun r M1 => ∃ v1 g1 n1, M1 = mo_M (k 0) ad v1 g1 ∧ mo_V v1 n1 ∧ R_order n g x r n1 g1) (mw_B D vwCl M s.heap.size) (mw_A M s.heap.size)) ([.ref (ad 0), .int x] : List Value).toArray s 0 0 (mw_A M s.heap.size) := ⟨_, rfl⟩
  rw [← hQ]
  have hP : mw_Q (mw_A M s.heap.size) D vwCl (mo_M (k 0) ad v g) s.heap := by rw [← hM]; exact hP
  obtain ⟨hb0, hb1, hb2, hb3⟩ := hn9
  refine lv_aload_n hx hb dX4_order_0 rfl (lv_at hl 0 rfl) ?_
  refine lv_iconst (v := 0) hx hb dX4_order_1 (by decide) ?_
  refine mo_put hE iX4_order_X4 hP hS 0 (by decide) mX4_order_f34 rfl rfl (by decide +kernel) rfl dX4_order_2 (fun H locs hP hS => ?_)
  refine lv_iload_n hx hb dX4_order_5 rfl (lv_at hl 1 rfl) ?_
  refine lv_if_lt (tgt := 14) hx hb dX4_order_6 (by decide) (fun c_6 => ?_) (fun c_6 => ?_)
  · refine lv_bipush (v := (-4)) hx hb dX4_order_14 (by decide) ?_
    rw [hQ]
    exact mw_iret (v := (-4)) hE hr hlocks hP hS dX4_order_16 (⟨va_up v 0 0, g, n, rfl, hV, Or.inl ⟨fun q => ((rw_in1 (n := 2) (by decide)).mp q).1 c_6, rfl, rfl, rfl⟩⟩)
  · refine lv_iload_n hx hb dX4_order_9 rfl (lv_at hl 1 rfl) ?_
    refine lv_iconst (v := nI 2) hx hb dX4_order_10 (by decide) ?_
    refine lv_icmp_le (tgt := 17) hx hb dX4_order_11 (by decide) (fun c_11 => ?_) (fun c_11 => ?_)
    · have hx3 := (show vp_in x 3 from (rw_in1 (n := 2) (by decide)).mpr ⟨c_6, Int32.not_lt.mpr c_11⟩)
      obtain ⟨z, hz, rfl⟩ := vp_in_of hx3 (by omega)
      refine lv_aload_n hx hb dX4_order_17 rfl (lv_at hl 0 rfl) ?_
      refine mo_get (x := .int (v 7)) hE iX4_order_X4 hP 7 (by decide) mX4_order_f41 rfl rfl dX4_order_18 ?_
      refine rw_i (v := nI (n 1)) hV.2.1 ?_
      refine lv_bipush (v := nI 12) hx hb dX4_order_21 (by decide) ?_
      refine lv_icmp_ne (tgt := 28) hx hb dX4_order_23 (by decide) (fun c_23 => ?_) (fun c_23 => ?_)
      · have k_23 : (n 1) ≠ 12 := nn_neq (a := (n 1)) (b := 12) c_23 (by omega) (by omega)
        refine lv_aload_n hx hb dX4_order_28 rfl (lv_at hl 0 rfl) ?_
        refine mo_get (x := .ref (ad 4)) hE iX4_order_X4 hP 4 (by decide) mX4_order_f16 rfl rfl dX4_order_29 ?_
        refine lv_aload_n hx hb dX4_order_32 rfl (lv_at hl 0 rfl) ?_
        refine mo_get (x := .int (v 7)) hE iX4_order_X4 hP 7 (by decide) mX4_order_f41 rfl rfl dX4_order_33 ?_
        refine rw_i (v := nI (n 1)) hV.2.1 ?_
        refine lv_iload_n hx hb dX4_order_36 rfl (lv_at hl 1 rfl) ?_
        refine mo_st (n := 12) hE hN hP hS 0 4 rfl (by decide) rfl (by decide) dX4_order_37 (by omega) (fun H locs hP hS => ?_)
        refine lv_aload_n hx hb dX4_order_38 rfl (lv_at hl 0 rfl) ?_
        refine mo_get (x := .ref (ad 6)) hE iX4_order_X4 hP 6 (by decide) mX4_order_f22 rfl rfl dX4_order_39 ?_
        refine lv_aload_n hx hb dX4_order_42 rfl (lv_at hl 0 rfl) ?_
        refine mo_get (x := .int (v 7)) hE iX4_order_X4 hP 7 (by decide) mX4_order_f41 rfl rfl dX4_order_43 ?_
        refine rw_i (v := nI (n 1)) hV.2.1 ?_
        refine lv_iconst (v := 0) hx hb dX4_order_46 (by decide) ?_
        refine mo_st (n := 12) hE hN hP hS 0 6 rfl (by decide) rfl (by decide) dX4_order_47 (by omega) (fun H locs hP hS => ?_)
        refine lv_iconst (v := 0) hx hb dX4_order_48 (by decide) ?_
        refine lv_istore_n (lv' := [(2, .int 0), (0, .ref (ad 0)), (1, .int (nI z))]) hx hb dX4_order_49 rfl hl (by decide) rfl (fun ls hl => ?_)
        have hP : mw_Q (mw_A M s.heap.size) D vwCl (mo_M (k 0) ad (va_up v 0 0) (va_up (va_up (va_up g 4 (upd (g 4) (n 1) (nI z))) 6 (upd (g 6) (n 1) 0)) 5 (blk (g 5) (256 * n 1) 0 (fo n g z)))) H := by rw [blk_0, show va_up (va_up (va_up g 4 (upd (g 4) (n 1) (nI z))) 6 (upd (g 6) (n 1) 0)) 5 (g 5) = va_up (va_up g 4 (upd (g 4) (n 1) (nI z))) 6 (upd (g 6) (n 1) 0) from up_id (g := va_up (va_up g 4 (upd (g 4) (n 1) (nI z))) 6 (upd (g 6) (n 1) 0)) (k := 5)]; exact hP
        have lp_50 : ∀ (fu : Nat) (i : Nat), (i ≤ 256) → 256 - i < fu → ∀ (H : Heap) (locs : List Loc), mw_Q (mw_A M s.heap.size) D vwCl (mo_M (k 0) ad (va_up v 0 0) (va_up (va_up (va_up g 4 (upd (g 4) (n 1) (nI z))) 6 (upd (g 6) (n 1) 0)) 5 (blk (g 5) (256 * n 1) i (fo n g z)))) H → va_S (mw_A M s.heap.size) s.heap H locs → ∀ ls : Array Slot, lv_has ls 3 [(0, .ref (ad 0)), (1, .int (nI z)), (2, .int (nI i))] → W p l e ({ frames := 1, cells := 0, slots := 0, locals := 24 } : Room) s m ([.ref (ad 0), .int (nI z)] : List Value).toArray below meth c H locs 0 0 Q (F0 m 50 ls []) := by
          intro fu
          induction fu with
          | zero => intro i hi hn; exact absurd hn (Nat.not_lt_zero _)
          | succ fu ih_50 =>
            intro i hi hn H locs hP hS ls hl
            refine lv_iload_n hx hb dX4_order_50 rfl (lv_at hl 2 rfl) ?_
            refine lv_sipush (v := nI 256) hx hb dX4_order_51 (by decide) ?_
            refine lv_icmp_ge (tgt := 100) hx hb dX4_order_54 (by decide) (fun c_54 => ?_) (fun c_54 => ?_)
            · have k_54 : 256 ≤ i := nn_le (a := 256) (b := i) c_54 (by omega) (by omega)
              obtain rfl : i = 256 := by omega
              refine lv_aload_n hx hb dX4_order_100 rfl (lv_at hl 0 rfl) ?_
              refine lv_dup hx hb dX4_order_101 rfl ?_
              refine mo_get (x := .int (v 7)) hE iX4_order_X4 hP 7 (by decide) mX4_order_f41 rfl rfl dX4_order_102 ?_
              refine rw_i (v := nI (n 1)) hV.2.1 ?_
              refine lv_iconst (v := 1) hx hb dX4_order_105 (by decide) ?_
              refine lv_iadd hx hb dX4_order_106 ?_
              refine rw_i (v := nI ((n 1) + 1)) (nI_1 _) ?_
              refine mo_put hE iX4_order_X4 hP hS 7 (by decide) mX4_order_f41 rfl rfl (by decide +kernel) rfl dX4_order_107 (fun H locs hP hS => ?_)
              refine lv_aload_n hx hb dX4_order_110 rfl (lv_at hl 0 rfl) ?_
              refine mo_get (x := .int (nI ((n 1) + 1))) hE iX4_order_X4 hP 7 (by decide) mX4_order_f41 rfl rfl dX4_order_111 ?_
              refine lv_iconst (v := 1) hx hb dX4_order_114 (by decide) ?_
              refine lv_isub hx hb dX4_order_115 ?_
              refine rw_i (v := nI (n 1)) (nI_pred _) ?_
              rw [hQ]
              exact mw_iret (v := nI (n 1)) hE hr hlocks hP hS dX4_order_116 (⟨_, _, va_up n 1 (n 1 + 1), rfl, ⟨hV.1, rfl, hV.2.2.1, hV.2.2.2⟩, Or.inr (Or.inr ⟨z, hz, rfl, by omega, rfl, rfl, rfl⟩)⟩)
            · have k_54 : i < 256 := nn_nle (a := 256) (b := i) c_54 (by omega) (by omega)
              refine lv_aload_n hx hb dX4_order_57 rfl (lv_at hl 0 rfl) ?_
              refine mo_get (x := .ref (ad 5)) hE iX4_order_X4 hP 5 (by decide) mX4_order_f19 rfl rfl dX4_order_58 ?_
              refine lv_sipush (v := nI 256) hx hb dX4_order_61 (by decide) ?_
              refine lv_aload_n hx hb dX4_order_64 rfl (lv_at hl 0 rfl) ?_
              refine mo_get (x := .int (v 7)) hE iX4_order_X4 hP 7 (by decide) mX4_order_f41 rfl rfl dX4_order_65 ?_
              refine rw_i (v := nI (n 1)) hV.2.1 ?_
              refine lv_imul hx hb dX4_order_68 ?_
              refine rw_i (v := nI (256 * (n 1))) (pk_mul _ _) ?_
              refine lv_iload_n hx hb dX4_order_69 rfl (lv_at hl 2 rfl) ?_
              refine lv_iadd hx hb dX4_order_70 ?_
              refine rw_i (v := nI ((256 * (n 1)) + i)) (nI_add _ _) ?_
              refine lv_iload_n hx hb dX4_order_71 rfl (lv_at hl 1 rfl) ?_
              refine lv_iconst (v := nI 2) hx hb dX4_order_72 (by decide) ?_
              refine lv_icmp_ne (tgt := 80) hx hb dX4_order_73 (by decide) (fun c_73 => ?_) (fun c_73 => ?_)
              · have k_73 : z ≠ 2 := nn_neq (a := z) (b := 2) c_73 (by omega) (by omega)
                refine lv_iload_n hx hb dX4_order_80 rfl (lv_at hl 1 rfl) ?_
                refine lv_if_ne (tgt := 88) hx hb dX4_order_81 (by decide) (fun c_81 => ?_) (fun c_81 => ?_)
                · have k_81 : z ≠ 0 := nn_neq (a := z) (b := 0) c_81 (by omega) (by omega)
                  refine lv_aload_n hx hb dX4_order_88 rfl (lv_at hl 0 rfl) ?_
                  refine lv_iload_n hx hb dX4_order_89 rfl (lv_at hl 2 rfl) ?_
                  refine mw_calli hP hS hA (va_runV (As := [.int (nI i)]) (rest := [.int (nI ((256 * (n 1)) + i)), .ref (ad 5)]) ⟨hx, hb, hml, hE.2.2.2.1, hE.2.2.1⟩ (tX4_meant l D k _ _ ad (va_up v 0 0) (va_up (va_up (va_up g 4 (upd (g 4) (n 1) (nI z))) 6 (upd (g 6) (n 1) 0)) 5 (blk (g 5) (256 * n 1) i (fo n g z))) n i hN hV ⟨hb0, hb1, hb2, hb3⟩ rfl (by omega)) (cwV 1 hE.2.2.1 gX4_order_X4_meant rfl rfl rfl (by decide +kernel) ⟨(Nat.le_of_ble_eq_true rfl), (Nat.le_of_ble_eq_true rfl)⟩) (mw_preV hE hP (ci := 5) rfl rfl mo_o [.int (nI i)]) rfl rfl hl.1 rfl (lv_room (Nat.le_of_ble_eq_true rfl)) dX4_order_90 ⟨(Nat.le_of_ble_eq_true rfl), (Nat.le_of_ble_eq_true rfl)⟩) (fun r_7 M1 H locs hw1 hP hS => ?_)
                  obtain ⟨rfl, er_7⟩ := hw1
                  have er_7 : r_7 = nI (mnt n g i) := er_7
                  refine mo_st (n := 3072) hE hN hP hS 0 5 rfl (by decide) rfl (by decide) dX4_order_93 (by omega) (fun H locs hP hS => ?_)
                  refine lv_iinc (v := nI (i + 1)) (lv' := [(2, .int (nI (i + 1))), (0, .ref (ad 0)), (1, .int (nI z))]) hx hb dX4_order_94 hl (k := 2) rfl (nI_1 i) (by decide) rfl (fun ls hl => ?_)
                  refine lv_goto (tgt := 50) hx hb dX4_order_97 (by decide) ?_
                  rw [blk_up, va_up_self, blk_s (show r_7 = fo n g z i by unfold fo; rw [if_neg k_73, if_neg k_81, er_7])] at hP
                  exact ih_50 (i + 1) (by omega) (by omega) H locs hP hS ls (lv_sub hl [1, 2, 0] rfl)
                · have k_81 : z = 0 := nn_eq (a := z) (b := 0) c_81 (by omega) (by omega)
                  refine lv_iload_n hx hb dX4_order_84 rfl (lv_at hl 2 rfl) ?_
                  refine lv_goto (tgt := 93) hx hb dX4_order_85 (by decide) ?_
                  refine mo_st (n := 3072) hE hN hP hS 0 5 rfl (by decide) rfl (by decide) dX4_order_93 (by omega) (fun H locs hP hS => ?_)
                  refine lv_iinc (v := nI (i + 1)) (lv' := [(2, .int (nI (i + 1))), (0, .ref (ad 0)), (1, .int (nI z))]) hx hb dX4_order_94 hl (k := 2) rfl (nI_1 i) (by decide) rfl (fun ls hl => ?_)
                  refine lv_goto (tgt := 50) hx hb dX4_order_97 (by decide) ?_
                  rw [blk_up, va_up_self, blk_s (show (nI i) = fo n g z i by unfold fo; rw [if_neg k_73, if_pos k_81])] at hP
                  exact ih_50 (i + 1) (by omega) (by omega) H locs hP hS ls (lv_sub hl [1, 2, 0] rfl)
              · have k_73 : z = 2 := nn_eq (a := z) (b := 2) c_73 (by omega) (by omega)
                refine lv_iconst (v := (-1)) hx hb dX4_order_76 (by decide) ?_
                refine lv_goto (tgt := 93) hx hb dX4_order_77 (by decide) ?_
                refine mo_st (n := 3072) hE hN hP hS 0 5 rfl (by decide) rfl (by decide) dX4_order_93 (by omega) (fun H locs hP hS => ?_)
                refine lv_iinc (v := nI (i + 1)) (lv' := [(2, .int (nI (i + 1))), (0, .ref (ad 0)), (1, .int (nI z))]) hx hb dX4_order_94 hl (k := 2) rfl (nI_1 i) (by decide) rfl (fun ls hl => ?_)
                refine lv_goto (tgt := 50) hx hb dX4_order_97 (by decide) ?_
                rw [blk_up, va_up_self, blk_s (show (-1) = fo n g z i by unfold fo; rw [if_pos k_73])] at hP
                exact ih_50 (i + 1) (by omega) (by omega) H locs hP hS ls (lv_sub hl [1, 2, 0] rfl)
        exact lp_50 (257) 0 (by omega) (by omega) _ _ hP hS ls (lv_sub hl [1, 2, 0] rfl)
      · have k_23 : (n 1) = 12 := nn_eq (a := (n 1)) (b := 12) c_23 (by omega) (by omega)
        refine lv_iconst (v := (-1)) hx hb dX4_order_26 (by decide) ?_
        rw [hQ]
        exact mw_iret (v := (-1)) hE hr hlocks hP hS dX4_order_27 (⟨va_up v 0 0, g, n, rfl, hV, Or.inr (Or.inl ⟨hx3, k_23, rfl, rfl, rfl⟩)⟩)
    · refine lv_bipush (v := (-4)) hx hb dX4_order_14 (by decide) ?_
      rw [hQ]
      exact mw_iret (v := (-4)) hE hr hlocks hP hS dX4_order_16 (⟨va_up v 0 0, g, n, rfl, hV, Or.inl ⟨fun q => ((rw_in1 (n := 2) (by decide)).mp q).2 (Int32.not_le.mp c_11), rfl, rfl, rfl⟩⟩)

set_option maxRecDepth 20000 in
theorem mX4_also_f19 : Cond.fieldLink RX4 19 "CodePagesModel" "ranks" "[I" ∈ wsX4_also := by decide +kernel
set_option maxRecDepth 20000 in
theorem mX4_also_f34 : Cond.fieldLink RX4 34 "CodePagesModel" "code" "I" ∈ wsX4_also := by decide +kernel
set_option maxRecDepth 20000 in
theorem iX4_also_X4 : ∀ w ∈ u_ws RX4 TX4 14, w ∈ wsX4_also := by decide +kernel
set_option maxHeartbeats 4000000 in
set_option maxRecDepth 100000 in
theorem tX4_also (l : Launch) (D : va_G) (k : Nat → ClassId) (M : mw) (sz : Nat) (ad : Nat → Nat) (v : Nat → Int32) (g : Nat → Nat → Int32) (n : Nat → Nat) (x y z : Int32) (hN : mo_N ad) (hV : mo_V v n) (hn9 : mo_B n) (hM : M = mo_M (k 0) ad v g) : Met l yX4_also wsX4_also ({ frames := 2, cells := 0, slots := 0, locals := 44 }) (va_Pc [.ref (ad 0), .int x, .int y, .int z] (mw_U D vwCl (TY k) M sz)) (va_Qi (fun r M1 => ∃ v1 g1, M1 = mo_M (k 0) ad v1 g1 ∧ mo_V v1 n ∧ R_also n g x y z r g1) (mw_B D vwCl M sz) (mw_A M sz)) 0 0 (mw_A M sz) := by
  refine mw_met (cc := cX4_also) (maxL := 5) (ret := (some .int)) (lv := [(0, .ref (ad 0)), (1, .int x), (2, .int y), (3, .int z)]) (by decide) rfl (Nat.le_of_ble_eq_true rfl) rfl ?_
  intro p e s m below meth c ls hE hr hlocks hin hml hsz hP hS hl
  subst hsz
  have hx := hE.1
  have hb := hE.2.1
  have hA : ∀ q, s.heap.size ≤ q → mw_A M s.heap.size q := fun q h => Or.inr h
  have hP : mw_Q (mw_A M s.heap.size) D vwCl (mo_M (k 0) ad v g) s.heap := by rw [← hM]; exact hP
  obtain ⟨hb0, hb1, hb2, hb3⟩ := hn9
  refine lv_aload_n hx hb dX4_also_0 rfl (lv_at hl 0 rfl) ?_
  refine lv_iconst (v := 0) hx hb dX4_also_1 (by decide) ?_
  refine mo_put hE iX4_also_X4 hP hS 0 (by decide) mX4_also_f34 rfl rfl (by decide +kernel) rfl dX4_also_2 (fun H locs hP hS => ?_)
  refine lv_aload_n hx hb dX4_also_5 rfl (lv_at hl 0 rfl) ?_
  refine lv_iload_n hx hb dX4_also_6 rfl (lv_at hl 1 rfl) ?_
  refine lv_iload_n hx hb dX4_also_7 rfl (lv_at hl 2 rfl) ?_
  refine lv_iload_n hx hb dX4_also_8 rfl (lv_at hl 3 rfl) ?_
  refine mw_calli hP hS hA (va_runV (As := [.int x, .int y, .int z]) (rest := []) ⟨hx, hb, hml, hE.2.2.2.1, hE.2.2.1⟩ (tX4_refusal l D k _ _ ad (va_up v 0 0) g n x y z hN hV ⟨hb0, hb1, hb2, hb3⟩ rfl) (cwV 3 hE.2.2.1 gX4_also_X4_refusal rfl rfl rfl (by decide +kernel) ⟨(Nat.le_of_ble_eq_true rfl), (Nat.le_of_ble_eq_true rfl)⟩) (mw_preV hE hP (ci := 5) rfl rfl mo_o [.int x, .int y, .int z]) rfl rfl hl.1 rfl (lv_room (Nat.le_of_ble_eq_true rfl)) dX4_also_9 ⟨(Nat.le_of_ble_eq_true rfl), (Nat.le_of_ble_eq_true rfl)⟩) (fun r_1 M1 H locs hw hP hS => ?_)
  obtain ⟨rfl, hw⟩ := hw
  rcases hw with ⟨q1, rfl⟩ | ⟨q1, q2, rfl⟩ | ⟨oo, i, j, hoo, hi, hj, rfl, rfl, rfl, hk2, rfl⟩ | ⟨oo, i, j, hoo, hi, hj, rfl, rfl, rfl, hk2, rfl⟩
  · skip
    refine lv_istore (lv' := [(4, .int (-2)), (0, .ref (ad 0)), (1, .int x), (2, .int y), (3, .int z)]) hx hb dX4_also_12 hl (by decide) rfl (fun ls hl => ?_)
    refine lv_iload hx hb dX4_also_14 (lv_at hl 0 rfl) ?_
    refine lv_if_eq (tgt := 22) hx hb dX4_also_16 (by decide) (fun c9 => absurd c9 (by decide)) (fun _ => ?_)
    refine lv_iload hx hb dX4_also_19 (lv_at hl 0 rfl) ?_
    exact mw_iret (v := (-2)) hE hr hlocks hP hS dX4_also_21 (⟨_, _, rfl, hV, Or.inl ⟨Or.inl ⟨q1, rfl⟩, by decide, rfl⟩⟩)
  · skip
    refine lv_istore (lv' := [(4, .int (-4)), (0, .ref (ad 0)), (1, .int x), (2, .int y), (3, .int z)]) hx hb dX4_also_12 hl (by decide) rfl (fun ls hl => ?_)
    refine lv_iload hx hb dX4_also_14 (lv_at hl 0 rfl) ?_
    refine lv_if_eq (tgt := 22) hx hb dX4_also_16 (by decide) (fun c9 => absurd c9 (by decide)) (fun _ => ?_)
    refine lv_iload hx hb dX4_also_19 (lv_at hl 0 rfl) ?_
    exact mw_iret (v := (-4)) hE hr hlocks hP hS dX4_also_21 (⟨_, _, rfl, hV, Or.inl ⟨Or.inr (Or.inl ⟨q1, q2, rfl⟩), by decide, rfl⟩⟩)
  · skip
    refine lv_istore (lv' := [(4, .int (-5)), (0, .ref (ad 0)), (1, .int (nI oo)), (2, .int (nI i)), (3, .int (nI j))]) hx hb dX4_also_12 hl (by decide) rfl (fun ls hl => ?_)
    refine lv_iload hx hb dX4_also_14 (lv_at hl 0 rfl) ?_
    refine lv_if_eq (tgt := 22) hx hb dX4_also_16 (by decide) (fun c9 => absurd c9 (by decide)) (fun _ => ?_)
    refine lv_iload hx hb dX4_also_19 (lv_at hl 0 rfl) ?_
    exact mw_iret (v := (-5)) hE hr hlocks hP hS dX4_also_21 (⟨_, _, rfl, hV, Or.inl ⟨Or.inr (Or.inr (Or.inl ⟨oo, i, j, hoo, hi, hj, rfl, rfl, rfl, hk2, rfl⟩)), by decide, rfl⟩⟩)
  · skip
    refine lv_istore (lv' := [(4, .int 0), (0, .ref (ad 0)), (1, .int (nI oo)), (2, .int (nI i)), (3, .int (nI j))]) hx hb dX4_also_12 hl (by decide) rfl (fun ls hl => ?_)
    refine lv_iload hx hb dX4_also_14 (lv_at hl 0 rfl) ?_
    refine lv_if_eq (tgt := 22) hx hb dX4_also_16 (by decide) (fun _ => ?_) (fun c9 => absurd (by decide) c9)
    refine lv_aload_n hx hb dX4_also_22 rfl (lv_at hl 1 rfl) ?_
    refine mo_get (x := .ref (ad 5)) hE iX4_also_X4 hP 5 (by decide) mX4_also_f19 rfl rfl dX4_also_23 ?_
    refine lv_sipush (v := nI 256) hx hb dX4_also_26 (by decide) ?_
    refine lv_iload_n hx hb dX4_also_29 rfl (lv_at hl 2 rfl) ?_
    refine lv_imul hx hb dX4_also_30 ?_
    refine rw_i (v := nI (256 * oo)) (pk_mul _ _) ?_
    refine lv_iload_n hx hb dX4_also_31 rfl (lv_at hl 3 rfl) ?_
    refine lv_iadd hx hb dX4_also_32 ?_
    refine rw_i (v := nI ((256 * oo) + i)) (nI_add _ _) ?_
    refine mo_ld (n := 3072) hE hN hP 0 5 rfl (by decide) rfl (by decide) dX4_also_33 (by omega) ?_
    refine lv_iconst (v := (-1)) hx hb dX4_also_34 (by decide) ?_
    refine lv_icmp_eq (tgt := 54) hx hb dX4_also_35 (by decide) (fun c_35 => ?_) (fun c_35 => ?_)
    · refine lv_iconst (v := 0) hx hb dX4_also_54 (by decide) ?_
      exact mw_iret (v := 0) hE hr hlocks hP hS dX4_also_55 (⟨_, _, rfl, hV, Or.inr ⟨oo, i, j, hoo, hi, hj, rfl, rfl, rfl, hk2, Or.inl ⟨Or.inl c_35, rfl, rfl⟩⟩⟩)
    · refine lv_aload_n hx hb dX4_also_38 rfl (lv_at hl 1 rfl) ?_
      refine mo_get (x := .ref (ad 5)) hE iX4_also_X4 hP 5 (by decide) mX4_also_f19 rfl rfl dX4_also_39 ?_
      refine lv_sipush (v := nI 256) hx hb dX4_also_42 (by decide) ?_
      refine lv_iload_n hx hb dX4_also_45 rfl (lv_at hl 2 rfl) ?_
      refine lv_imul hx hb dX4_also_46 ?_
      refine rw_i (v := nI (256 * oo)) (pk_mul _ _) ?_
      refine lv_iload_n hx hb dX4_also_47 rfl (lv_at hl 4 rfl) ?_
      refine lv_iadd hx hb dX4_also_48 ?_
      refine rw_i (v := nI ((256 * oo) + j)) (nI_add _ _) ?_
      refine mo_ld (n := 3072) hE hN hP 0 5 rfl (by decide) rfl (by decide) dX4_also_49 (by omega) ?_
      refine lv_iconst (v := (-1)) hx hb dX4_also_50 (by decide) ?_
      refine lv_icmp_eq (tgt := 56) hx hb dX4_also_51 (by decide) (fun c_51 => ?_) (fun c_51 => ?_)
      · refine lv_aload_n hx hb dX4_also_56 rfl (lv_at hl 1 rfl) ?_
        refine mo_get (x := .ref (ad 5)) hE iX4_also_X4 hP 5 (by decide) mX4_also_f19 rfl rfl dX4_also_57 ?_
        refine lv_sipush (v := nI 256) hx hb dX4_also_60 (by decide) ?_
        refine lv_iload_n hx hb dX4_also_63 rfl (lv_at hl 2 rfl) ?_
        refine lv_imul hx hb dX4_also_64 ?_
        refine rw_i (v := nI (256 * oo)) (pk_mul _ _) ?_
        refine lv_iload_n hx hb dX4_also_65 rfl (lv_at hl 4 rfl) ?_
        refine lv_iadd hx hb dX4_also_66 ?_
        refine rw_i (v := nI ((256 * oo) + j)) (nI_add _ _) ?_
        refine lv_aload_n hx hb dX4_also_67 rfl (lv_at hl 1 rfl) ?_
        refine mo_get (x := .ref (ad 5)) hE iX4_also_X4 hP 5 (by decide) mX4_also_f19 rfl rfl dX4_also_68 ?_
        refine lv_sipush (v := nI 256) hx hb dX4_also_71 (by decide) ?_
        refine lv_iload_n hx hb dX4_also_74 rfl (lv_at hl 2 rfl) ?_
        refine lv_imul hx hb dX4_also_75 ?_
        refine rw_i (v := nI (256 * oo)) (pk_mul _ _) ?_
        refine lv_iload_n hx hb dX4_also_76 rfl (lv_at hl 3 rfl) ?_
        refine lv_iadd hx hb dX4_also_77 ?_
        refine rw_i (v := nI ((256 * oo) + i)) (nI_add _ _) ?_
        refine mo_ld (n := 3072) hE hN hP 0 5 rfl (by decide) rfl (by decide) dX4_also_78 (by omega) ?_
        refine mo_st (n := 3072) hE hN hP hS 0 5 rfl (by decide) rfl (by decide) dX4_also_79 (by omega) (fun H locs hP hS => ?_)
        refine lv_iconst (v := 1) hx hb dX4_also_80 (by decide) ?_
        exact mw_iret (v := 1) hE hr hlocks hP hS dX4_also_81 (⟨_, _, rfl, hV, Or.inr ⟨oo, i, j, hoo, hi, hj, rfl, rfl, rfl, hk2, Or.inr ⟨⟨c_35, c_51⟩, rfl, rfl⟩⟩⟩)
      · refine lv_iconst (v := 0) hx hb dX4_also_54 (by decide) ?_
        exact mw_iret (v := 0) hE hr hlocks hP hS dX4_also_55 (⟨_, _, rfl, hV, Or.inr ⟨oo, i, j, hoo, hi, hj, rfl, rfl, rfl, hk2, Or.inl ⟨Or.inr c_51, rfl, rfl⟩⟩⟩)

set_option maxRecDepth 20000 in
theorem mX4_through_f19 : Cond.fieldLink RX4 19 "CodePagesModel" "ranks" "[I" ∈ wsX4_through := by decide +kernel
set_option maxRecDepth 20000 in
theorem mX4_through_f22 : Cond.fieldLink RX4 22 "CodePagesModel" "next" "[I" ∈ wsX4_through := by decide +kernel
set_option maxRecDepth 20000 in
theorem mX4_through_f34 : Cond.fieldLink RX4 34 "CodePagesModel" "code" "I" ∈ wsX4_through := by decide +kernel
set_option maxRecDepth 20000 in
theorem iX4_through_X4 : ∀ w ∈ u_ws RX4 TX4 14, w ∈ wsX4_through := by decide +kernel
set_option maxHeartbeats 4000000 in
set_option maxRecDepth 100000 in
theorem tX4_through (l : Launch) (D : va_G) (k : Nat → ClassId) (M : mw) (sz : Nat) (ad : Nat → Nat) (v : Nat → Int32) (g : Nat → Nat → Int32) (n : Nat → Nat) (x y z : Int32) (hN : mo_N ad) (hV : mo_V v n) (hn9 : mo_B n) (hM : M = mo_M (k 0) ad v g) : Met l yX4_through wsX4_through ({ frames := 2, cells := 0, slots := 0, locals := 44 }) (va_Pc [.ref (ad 0), .int x, .int y, .int z] (mw_U D vwCl (TY k) M sz)) (va_Qi (fun r M1 => ∃ v1 g1, M1 = mo_M (k 0) ad v1 g1 ∧ mo_V v1 n ∧ R_through n g x y z r g1) (mw_B D vwCl M sz) (mw_A M sz)) 0 0 (mw_A M sz) := by
  refine mw_met (cc := cX4_through) (maxL := 8) (ret := (some .int)) (lv := [(0, .ref (ad 0)), (1, .int x), (2, .int y), (3, .int z)]) (by decide) rfl (Nat.le_of_ble_eq_true rfl) rfl ?_
  intro p e s m below meth c ls hE hr hlocks hin hml hsz hP hS hl
  subst hsz
  have hx := hE.1
  have hb := hE.2.1
  have hA : ∀ q, s.heap.size ≤ q → mw_A M s.heap.size q := fun q h => Or.inr h
  obtain ⟨Q, hQ⟩ : ∃ Q : State → Prop, Q = MQ below (va_Qi (fun r M1 => ∃ v1 g1, M1 = mo_M (k 0) ad v1 g1 ∧ mo_V v1 n ∧ R_through n g x y z r g1) (mw_B D vwCl M s.heap.size) (mw_A M s.heap.size)) ([.ref (ad 0), .int x, .int y, .int z] : List Value).toArray s 0 0 (mw_A M s.heap.size) := ⟨_, rfl⟩
  rw [← hQ]
  have hP : mw_Q (mw_A M s.heap.size) D vwCl (mo_M (k 0) ad v g) s.heap := by rw [← hM]; exact hP
  obtain ⟨hb0, hb1, hb2, hb3⟩ := hn9
  refine lv_aload_n hx hb dX4_through_0 rfl (lv_at hl 0 rfl) ?_
  refine lv_iconst (v := 0) hx hb dX4_through_1 (by decide) ?_
  refine mo_put hE iX4_through_X4 hP hS 0 (by decide) mX4_through_f34 rfl rfl (by decide +kernel) rfl dX4_through_2 (fun H locs hP hS => ?_)
  refine lv_aload_n hx hb dX4_through_5 rfl (lv_at hl 0 rfl) ?_
  refine lv_iload_n hx hb dX4_through_6 rfl (lv_at hl 1 rfl) ?_
  refine lv_iload_n hx hb dX4_through_7 rfl (lv_at hl 2 rfl) ?_
  refine lv_iload_n hx hb dX4_through_8 rfl (lv_at hl 3 rfl) ?_
  refine mw_calli hP hS hA (va_runV (As := [.int x, .int y, .int z]) (rest := []) ⟨hx, hb, hml, hE.2.2.2.1, hE.2.2.1⟩ (tX4_refusal l D k _ _ ad (va_up v 0 0) g n x y z hN hV ⟨hb0, hb1, hb2, hb3⟩ rfl) (cwV 3 hE.2.2.1 gX4_through_X4_refusal rfl rfl rfl (by decide +kernel) ⟨(Nat.le_of_ble_eq_true rfl), (Nat.le_of_ble_eq_true rfl)⟩) (mw_preV hE hP (ci := 5) rfl rfl mo_o [.int x, .int y, .int z]) rfl rfl hl.1 rfl (lv_room (Nat.le_of_ble_eq_true rfl)) dX4_through_9 ⟨(Nat.le_of_ble_eq_true rfl), (Nat.le_of_ble_eq_true rfl)⟩) (fun r_1 M1 H locs hw hP hS => ?_)
  obtain ⟨rfl, hw⟩ := hw
  rcases hw with ⟨q1, rfl⟩ | ⟨q1, q2, rfl⟩ | ⟨oo, i, j, hoo, hi, hj, rfl, rfl, rfl, hk2, rfl⟩ | ⟨oo, i, j, hoo, hi, hj, rfl, rfl, rfl, hk2, rfl⟩
  · skip
    refine lv_istore (lv' := [(4, .int (-2)), (0, .ref (ad 0)), (1, .int x), (2, .int y), (3, .int z)]) hx hb dX4_through_12 hl (by decide) rfl (fun ls hl => ?_)
    refine lv_iload hx hb dX4_through_14 (lv_at hl 0 rfl) ?_
    refine lv_if_eq (tgt := 22) hx hb dX4_through_16 (by decide) (fun c9 => absurd c9 (by decide)) (fun _ => ?_)
    refine lv_iload hx hb dX4_through_19 (lv_at hl 0 rfl) ?_
    rw [hQ]
    exact mw_iret (v := (-2)) hE hr hlocks hP hS dX4_through_21 (⟨_, _, rfl, hV, Or.inl ⟨Or.inl ⟨q1, rfl⟩, by decide, rfl⟩⟩)
  · skip
    refine lv_istore (lv' := [(4, .int (-4)), (0, .ref (ad 0)), (1, .int x), (2, .int y), (3, .int z)]) hx hb dX4_through_12 hl (by decide) rfl (fun ls hl => ?_)
    refine lv_iload hx hb dX4_through_14 (lv_at hl 0 rfl) ?_
    refine lv_if_eq (tgt := 22) hx hb dX4_through_16 (by decide) (fun c9 => absurd c9 (by decide)) (fun _ => ?_)
    refine lv_iload hx hb dX4_through_19 (lv_at hl 0 rfl) ?_
    rw [hQ]
    exact mw_iret (v := (-4)) hE hr hlocks hP hS dX4_through_21 (⟨_, _, rfl, hV, Or.inl ⟨Or.inr (Or.inl ⟨q1, q2, rfl⟩), by decide, rfl⟩⟩)
  · skip
    refine lv_istore (lv' := [(4, .int (-5)), (0, .ref (ad 0)), (1, .int (nI oo)), (2, .int (nI i)), (3, .int (nI j))]) hx hb dX4_through_12 hl (by decide) rfl (fun ls hl => ?_)
    refine lv_iload hx hb dX4_through_14 (lv_at hl 0 rfl) ?_
    refine lv_if_eq (tgt := 22) hx hb dX4_through_16 (by decide) (fun c9 => absurd c9 (by decide)) (fun _ => ?_)
    refine lv_iload hx hb dX4_through_19 (lv_at hl 0 rfl) ?_
    rw [hQ]
    exact mw_iret (v := (-5)) hE hr hlocks hP hS dX4_through_21 (⟨_, _, rfl, hV, Or.inl ⟨Or.inr (Or.inr (Or.inl ⟨oo, i, j, hoo, hi, hj, rfl, rfl, rfl, hk2, rfl⟩)), by decide, rfl⟩⟩)
  · skip
    refine lv_istore (lv' := [(4, .int 0), (0, .ref (ad 0)), (1, .int (nI oo)), (2, .int (nI i)), (3, .int (nI j))]) hx hb dX4_through_12 hl (by decide) rfl (fun ls hl => ?_)
    refine lv_iload hx hb dX4_through_14 (lv_at hl 0 rfl) ?_
    refine lv_if_eq (tgt := 22) hx hb dX4_through_16 (by decide) (fun _ => ?_) (fun c9 => absurd (by decide) c9)
    refine lv_iload_n hx hb dX4_through_22 rfl (lv_at hl 3 rfl) ?_
    refine lv_iload_n hx hb dX4_through_23 rfl (lv_at hl 4 rfl) ?_
    refine lv_icmp_le (tgt := 31) hx hb dX4_through_24 (by decide) (fun c_24 => ?_) (fun c_24 => ?_)
    · have k_24 : i ≤ j := nn_le (a := i) (b := j) c_24 (by omega) (by omega)
      refine lv_iconst (v := 1) hx hb dX4_through_31 (by decide) ?_
      refine lv_istore (lv' := [(5, .int 1), (4, .int 0), (0, .ref (ad 0)), (1, .int (nI oo)), (2, .int (nI i)), (3, .int (nI j))]) hx hb dX4_through_32 hl (by decide) rfl (fun ls hl => ?_)
      refine lv_iload_n hx hb dX4_through_34 rfl (lv_at hl 4 rfl) ?_
      refine lv_iload_n hx hb dX4_through_35 rfl (lv_at hl 5 rfl) ?_
      refine lv_icmp_le (tgt := 47) hx hb dX4_through_36 (by decide) (fun c_36 => ?_) (fun c_36 => absurd c_24 c_36)
      have k_36 : i ≤ j := nn_le (a := i) (b := j) c_36 (by omega) (by omega)
      refine lv_iload_n hx hb dX4_through_47 rfl (lv_at hl 5 rfl) ?_
      refine lv_iload_n hx hb dX4_through_48 rfl (lv_at hl 4 rfl) ?_
      refine lv_isub hx hb dX4_through_49 ?_
      refine rw_i (v := nI (j - i)) (pk_sub (by omega)) ?_
      refine lv_iconst (v := 1) hx hb dX4_through_50 (by decide) ?_
      refine lv_iadd hx hb dX4_through_51 ?_
      refine rw_i (v := nI ((j - i) + 1)) (nI_1 _) ?_
      refine lv_istore (lv' := [(6, .int (nI ((j - i) + 1))), (5, .int 1), (4, .int 0), (0, .ref (ad 0)), (1, .int (nI oo)), (2, .int (nI i)), (3, .int (nI j))]) hx hb dX4_through_52 hl (by decide) rfl (fun ls hl => ?_)
      refine lv_iconst (v := 0) hx hb dX4_through_54 (by decide) ?_
      refine lv_istore (lv' := [(7, .int 0), (6, .int (nI ((j - i) + 1))), (5, .int 1), (4, .int 0), (0, .ref (ad 0)), (1, .int (nI oo)), (2, .int (nI i)), (3, .int (nI j))]) hx hb dX4_through_55 hl (by decide) rfl (fun ls hl => ?_)
      have lp_57 : ∀ (fu : Nat) (kk : Nat), (kk ≤ j - i + 1) → (∀ q, q < kk → g 5 (256 * oo + tix true i q) = -1) → (j - i + 1) - kk < fu → ∀ (H : Heap) (locs : List Loc), mw_Q (mw_A M s.heap.size) D vwCl (mo_M (k 0) ad (va_up v 0 0) g) H → va_S (mw_A M s.heap.size) s.heap H locs → ∀ ls : Array Slot, lv_has ls 8 [(0, .ref (ad 0)), (1, .int (nI oo)), (2, .int (nI i)), (3, .int (nI j)), (5, .int 1), (6, .int (nI (j - i + 1))), (7, .int (nI kk))] → W p l e ({ frames := 2, cells := 0, slots := 0, locals := 44 } : Room) s m ([.ref (ad 0), .int (nI oo), .int (nI i), .int (nI j)] : List Value).toArray below meth c H locs 0 0 Q (F0 m 57 ls []) := by
        intro fu
        induction fu with
        | zero => intro kk hkk hal hn; exact absurd hn (Nat.not_lt_zero _)
        | succ fu ih_57 =>
          intro kk hkk hal hn H locs hP hS ls hl
          refine lv_iload hx hb dX4_through_57 (lv_at hl 6 rfl) ?_
          refine lv_iload hx hb dX4_through_59 (lv_at hl 5 rfl) ?_
          refine lv_icmp_ge (tgt := 94) hx hb dX4_through_61 (by decide) (fun c_61 => ?_) (fun c_61 => ?_)
          · have k_61 : (j - i + 1) ≤ kk := nn_le (a := (j - i + 1)) (b := kk) c_61 (by omega) (by omega)
            have hal9 : ∀ q, q < tcn true i j → g 5 (256 * oo + tix true i q) = -1 := fun q h => hal q (by have h : q < j - i + 1 := h; omega)
            refine lv_iconst (v := 0) hx hb dX4_through_94 (by decide) ?_
            refine lv_istore (lv' := [(7, .int 0), (0, .ref (ad 0)), (1, .int (nI oo)), (2, .int (nI i)), (3, .int (nI j)), (5, .int 1), (6, .int (nI (j - i + 1)))]) hx hb dX4_through_95 hl (by decide) rfl (fun ls hl => ?_)
            have lp_97 : ∀ (fu : Nat) (kk : Nat), (kk ≤ j - i + 1) → (j - i + 1) - kk < fu → ∀ (H : Heap) (locs : List Loc), mw_Q (mw_A M s.heap.size) D vwCl (mo_M (k 0) ad (va_up v 0 0) (thg g oo true i kk)) H → va_S (mw_A M s.heap.size) s.heap H locs → ∀ ls : Array Slot, lv_has ls 8 [(0, .ref (ad 0)), (1, .int (nI oo)), (2, .int (nI i)), (3, .int (nI j)), (5, .int 1), (6, .int (nI (j - i + 1))), (7, .int (nI kk))] → W p l e ({ frames := 2, cells := 0, slots := 0, locals := 44 } : Room) s m ([.ref (ad 0), .int (nI oo), .int (nI i), .int (nI j)] : List Value).toArray below meth c H locs 0 0 Q (F0 m 97 ls []) := by
              intro fu
              induction fu with
              | zero => intro kk hkk hn; exact absurd hn (Nat.not_lt_zero _)
              | succ fu ih_97 =>
                intro kk hkk hn H locs hP hS ls hl
                refine lv_iload hx hb dX4_through_97 (lv_at hl 6 rfl) ?_
                refine lv_iload hx hb dX4_through_99 (lv_at hl 5 rfl) ?_
                refine lv_icmp_ge (tgt := 144) hx hb dX4_through_101 (by decide) (fun c_101 => ?_) (fun c_101 => ?_)
                · have k_101 : (j - i + 1) ≤ kk := nn_le (a := (j - i + 1)) (b := kk) c_101 (by omega) (by omega)
                  refine lv_iload hx hb dX4_through_144 (lv_at hl 5 rfl) ?_
                  rw [hQ]
                  exact mw_iret (v := nI (j - i + 1)) hE hr hlocks hP hS dX4_through_146 (⟨_, _, rfl, hV, Or.inr ⟨oo, i, j, true, hoo, hi, hj, rfl, rfl, rfl, hk2, ⟨fun _ => by omega, fun _ => rfl⟩, Or.inr ⟨hal9, rfl, by rw [show kk = tcn true i j from (by show kk = j - i + 1; omega)]⟩⟩⟩)
                · have k_101 : kk < (j - i + 1) := nn_nle (a := (j - i + 1)) (b := kk) c_101 (by omega) (by omega)
                  refine lv_aload_n hx hb dX4_through_104 rfl (lv_at hl 0 rfl) ?_
                  refine mo_get (x := .ref (ad 5)) hE iX4_through_X4 hP 5 (by decide) mX4_through_f19 rfl rfl dX4_through_105 ?_
                  refine lv_sipush (v := nI 256) hx hb dX4_through_108 (by decide) ?_
                  refine lv_iload_n hx hb dX4_through_111 rfl (lv_at hl 1 rfl) ?_
                  refine lv_imul hx hb dX4_through_112 ?_
                  refine rw_i (v := nI (256 * oo)) (pk_mul _ _) ?_
                  refine lv_iload_n hx hb dX4_through_113 rfl (lv_at hl 2 rfl) ?_
                  refine lv_iadd hx hb dX4_through_114 ?_
                  refine rw_i (v := nI ((256 * oo) + i)) (nI_add _ _) ?_
                  refine lv_iload hx hb dX4_through_115 (lv_at hl 6 rfl) ?_
                  refine lv_iload hx hb dX4_through_117 (lv_at hl 4 rfl) ?_
                  refine lv_imul hx hb dX4_through_119 ?_
                  refine rw_i (v := nI kk) (Int32.mul_one _) ?_
                  refine lv_iadd hx hb dX4_through_120 ?_
                  refine rw_i (v := nI (256 * oo + tix true i kk)) (by rw [nI_add]; exact congrArg nI (by show 256 * oo + i + kk = 256 * oo + (i + kk); omega)) ?_
                  refine lv_aload_n hx hb dX4_through_121 rfl (lv_at hl 0 rfl) ?_
                  refine mo_get (x := .ref (ad 6)) hE iX4_through_X4 hP 6 (by decide) mX4_through_f22 rfl rfl dX4_through_122 ?_
                  refine lv_iload_n hx hb dX4_through_125 rfl (lv_at hl 1 rfl) ?_
                  refine mo_ld (n := 12) hE hN hP 0 6 rfl (by decide) rfl (by decide) dX4_through_126 (by omega) ?_
                  refine mo_st (n := 3072) hE hN hP hS 0 5 rfl (by decide) rfl (by decide) dX4_through_127 (by have := hkk; unfold tix; dsimp only; omega) (fun H locs hP hS => ?_)
                  refine lv_aload_n hx hb dX4_through_128 rfl (lv_at hl 0 rfl) ?_
                  refine mo_get (x := .ref (ad 6)) hE iX4_through_X4 hP 6 (by decide) mX4_through_f22 rfl rfl dX4_through_129 ?_
                  refine lv_iload_n hx hb dX4_through_132 rfl (lv_at hl 1 rfl) ?_
                  refine lv_dup2_11 hx hb dX4_through_133 rfl rfl ?_
                  refine mo_ld (n := 12) hE hN hP 0 6 rfl (by decide) rfl (by decide) dX4_through_134 (by omega) ?_
                  refine rw_i (v := ((thg g oo true i kk) 6) oo) rfl ?_
                  refine lv_iconst (v := 1) hx hb dX4_through_135 (by decide) ?_
                  refine lv_iadd hx hb dX4_through_136 ?_
                  refine mo_st (n := 12) hE hN hP hS 0 6 rfl (by decide) rfl (by decide) dX4_through_137 (by omega) (fun H locs hP hS => ?_)
                  refine lv_iinc (v := nI (kk + 1)) (lv' := [(7, .int (nI (kk + 1))), (0, .ref (ad 0)), (1, .int (nI oo)), (2, .int (nI i)), (3, .int (nI j)), (5, .int 1), (6, .int (nI (j - i + 1)))]) hx hb dX4_through_138 hl (k := 6) rfl (nI_1 kk) (by decide) rfl (fun ls hl => ?_)
                  refine lv_goto (tgt := 97) hx hb dX4_through_141 (by decide) ?_
                  exact ih_97 (kk + 1) (by omega) (by omega) H locs hP hS ls (lv_sub hl [1, 2, 3, 4, 5, 6, 0] rfl)
            exact lp_97 (300) 0 (by omega) (by omega) _ _ hP hS ls (lv_sub hl [1, 2, 3, 4, 5, 6, 0] rfl)
          · have k_61 : kk < (j - i + 1) := nn_nle (a := (j - i + 1)) (b := kk) c_61 (by omega) (by omega)
            refine lv_aload_n hx hb dX4_through_64 rfl (lv_at hl 0 rfl) ?_
            refine mo_get (x := .ref (ad 5)) hE iX4_through_X4 hP 5 (by decide) mX4_through_f19 rfl rfl dX4_through_65 ?_
            refine lv_sipush (v := nI 256) hx hb dX4_through_68 (by decide) ?_
            refine lv_iload_n hx hb dX4_through_71 rfl (lv_at hl 1 rfl) ?_
            refine lv_imul hx hb dX4_through_72 ?_
            refine rw_i (v := nI (256 * oo)) (pk_mul _ _) ?_
            refine lv_iload_n hx hb dX4_through_73 rfl (lv_at hl 2 rfl) ?_
            refine lv_iadd hx hb dX4_through_74 ?_
            refine rw_i (v := nI ((256 * oo) + i)) (nI_add _ _) ?_
            refine lv_iload hx hb dX4_through_75 (lv_at hl 6 rfl) ?_
            refine lv_iload hx hb dX4_through_77 (lv_at hl 4 rfl) ?_
            refine lv_imul hx hb dX4_through_79 ?_
            refine rw_i (v := nI kk) (Int32.mul_one _) ?_
            refine lv_iadd hx hb dX4_through_80 ?_
            refine rw_i (v := nI (256 * oo + tix true i kk)) (by rw [nI_add]; exact congrArg nI (by show 256 * oo + i + kk = 256 * oo + (i + kk); omega)) ?_
            refine mo_ld (n := 3072) hE hN hP 0 5 rfl (by decide) rfl (by decide) dX4_through_81 (by have := hkk; unfold tix; dsimp only; omega) ?_
            refine lv_iconst (v := (-1)) hx hb dX4_through_82 (by decide) ?_
            refine lv_icmp_eq (tgt := 88) hx hb dX4_through_83 (by decide) (fun c_83 => ?_) (fun c_83 => ?_)
            · refine lv_iinc (v := nI (kk + 1)) (lv' := [(7, .int (nI (kk + 1))), (0, .ref (ad 0)), (1, .int (nI oo)), (2, .int (nI i)), (3, .int (nI j)), (5, .int 1), (6, .int (nI (j - i + 1)))]) hx hb dX4_through_88 hl (k := 6) rfl (nI_1 kk) (by decide) rfl (fun ls hl => ?_)
              refine lv_goto (tgt := 57) hx hb dX4_through_91 (by decide) ?_
              exact ih_57 (kk + 1) (by omega) (lt_s (p := fun q => g 5 (256 * oo + tix true i q) = -1) hal c_83) (by omega) H locs hP hS ls (lv_sub hl [1, 2, 3, 4, 5, 6, 0] rfl)
            · refine lv_iconst (v := 0) hx hb dX4_through_86 (by decide) ?_
              rw [hQ]
              exact mw_iret (v := 0) hE hr hlocks hP hS dX4_through_87 (⟨_, _, rfl, hV, Or.inr ⟨oo, i, j, true, hoo, hi, hj, rfl, rfl, rfl, hk2, ⟨fun _ => by omega, fun _ => rfl⟩, Or.inl ⟨⟨kk, k_61, c_83⟩, rfl, rfl⟩⟩⟩)
      exact lp_57 (300) 0 (by omega) (fun q h => absurd h (Nat.not_lt_zero _)) (by omega) _ _ hP hS ls (lv_sub hl [4, 5, 6, 7, 2, 1, 0] rfl)
    · have k_24 : j < i := nn_nle (a := i) (b := j) c_24 (by omega) (by omega)
      refine lv_iconst (v := (-1)) hx hb dX4_through_27 (by decide) ?_
      refine lv_goto (tgt := 32) hx hb dX4_through_28 (by decide) ?_
      refine lv_istore (lv' := [(5, .int (-1)), (4, .int 0), (0, .ref (ad 0)), (1, .int (nI oo)), (2, .int (nI i)), (3, .int (nI j))]) hx hb dX4_through_32 hl (by decide) rfl (fun ls hl => ?_)
      refine lv_iload_n hx hb dX4_through_34 rfl (lv_at hl 4 rfl) ?_
      refine lv_iload_n hx hb dX4_through_35 rfl (lv_at hl 5 rfl) ?_
      refine lv_icmp_le (tgt := 47) hx hb dX4_through_36 (by decide) (fun c_36 => absurd c_36 c_24) (fun c_36 => ?_)
      have k_36 : j < i := nn_nle (a := i) (b := j) c_36 (by omega) (by omega)
      refine lv_iload_n hx hb dX4_through_39 rfl (lv_at hl 4 rfl) ?_
      refine lv_iload_n hx hb dX4_through_40 rfl (lv_at hl 5 rfl) ?_
      refine lv_isub hx hb dX4_through_41 ?_
      refine rw_i (v := nI (i - j)) (pk_sub (by omega)) ?_
      refine lv_iconst (v := 1) hx hb dX4_through_42 (by decide) ?_
      refine lv_iadd hx hb dX4_through_43 ?_
      refine rw_i (v := nI ((i - j) + 1)) (nI_1 _) ?_
      refine lv_goto (tgt := 52) hx hb dX4_through_44 (by decide) ?_
      refine lv_istore (lv' := [(6, .int (nI ((i - j) + 1))), (5, .int (-1)), (4, .int 0), (0, .ref (ad 0)), (1, .int (nI oo)), (2, .int (nI i)), (3, .int (nI j))]) hx hb dX4_through_52 hl (by decide) rfl (fun ls hl => ?_)
      refine lv_iconst (v := 0) hx hb dX4_through_54 (by decide) ?_
      refine lv_istore (lv' := [(7, .int 0), (6, .int (nI ((i - j) + 1))), (5, .int (-1)), (4, .int 0), (0, .ref (ad 0)), (1, .int (nI oo)), (2, .int (nI i)), (3, .int (nI j))]) hx hb dX4_through_55 hl (by decide) rfl (fun ls hl => ?_)
      have lp_57 : ∀ (fu : Nat) (kk : Nat), (kk ≤ i - j + 1) → (∀ q, q < kk → g 5 (256 * oo + tix false i q) = -1) → (i - j + 1) - kk < fu → ∀ (H : Heap) (locs : List Loc), mw_Q (mw_A M s.heap.size) D vwCl (mo_M (k 0) ad (va_up v 0 0) g) H → va_S (mw_A M s.heap.size) s.heap H locs → ∀ ls : Array Slot, lv_has ls 8 [(0, .ref (ad 0)), (1, .int (nI oo)), (2, .int (nI i)), (3, .int (nI j)), (5, .int (-1)), (6, .int (nI (i - j + 1))), (7, .int (nI kk))] → W p l e ({ frames := 2, cells := 0, slots := 0, locals := 44 } : Room) s m ([.ref (ad 0), .int (nI oo), .int (nI i), .int (nI j)] : List Value).toArray below meth c H locs 0 0 Q (F0 m 57 ls []) := by
        intro fu
        induction fu with
        | zero => intro kk hkk hal hn; exact absurd hn (Nat.not_lt_zero _)
        | succ fu ih_57 =>
          intro kk hkk hal hn H locs hP hS ls hl
          refine lv_iload hx hb dX4_through_57 (lv_at hl 6 rfl) ?_
          refine lv_iload hx hb dX4_through_59 (lv_at hl 5 rfl) ?_
          refine lv_icmp_ge (tgt := 94) hx hb dX4_through_61 (by decide) (fun c_61 => ?_) (fun c_61 => ?_)
          · have k_61 : (i - j + 1) ≤ kk := nn_le (a := (i - j + 1)) (b := kk) c_61 (by omega) (by omega)
            have hal9 : ∀ q, q < tcn false i j → g 5 (256 * oo + tix false i q) = -1 := fun q h => hal q (by have h : q < i - j + 1 := h; omega)
            refine lv_iconst (v := 0) hx hb dX4_through_94 (by decide) ?_
            refine lv_istore (lv' := [(7, .int 0), (0, .ref (ad 0)), (1, .int (nI oo)), (2, .int (nI i)), (3, .int (nI j)), (5, .int (-1)), (6, .int (nI (i - j + 1)))]) hx hb dX4_through_95 hl (by decide) rfl (fun ls hl => ?_)
            have lp_97 : ∀ (fu : Nat) (kk : Nat), (kk ≤ i - j + 1) → (i - j + 1) - kk < fu → ∀ (H : Heap) (locs : List Loc), mw_Q (mw_A M s.heap.size) D vwCl (mo_M (k 0) ad (va_up v 0 0) (thg g oo false i kk)) H → va_S (mw_A M s.heap.size) s.heap H locs → ∀ ls : Array Slot, lv_has ls 8 [(0, .ref (ad 0)), (1, .int (nI oo)), (2, .int (nI i)), (3, .int (nI j)), (5, .int (-1)), (6, .int (nI (i - j + 1))), (7, .int (nI kk))] → W p l e ({ frames := 2, cells := 0, slots := 0, locals := 44 } : Room) s m ([.ref (ad 0), .int (nI oo), .int (nI i), .int (nI j)] : List Value).toArray below meth c H locs 0 0 Q (F0 m 97 ls []) := by
              intro fu
              induction fu with
              | zero => intro kk hkk hn; exact absurd hn (Nat.not_lt_zero _)
              | succ fu ih_97 =>
                intro kk hkk hn H locs hP hS ls hl
                refine lv_iload hx hb dX4_through_97 (lv_at hl 6 rfl) ?_
                refine lv_iload hx hb dX4_through_99 (lv_at hl 5 rfl) ?_
                refine lv_icmp_ge (tgt := 144) hx hb dX4_through_101 (by decide) (fun c_101 => ?_) (fun c_101 => ?_)
                · have k_101 : (i - j + 1) ≤ kk := nn_le (a := (i - j + 1)) (b := kk) c_101 (by omega) (by omega)
                  refine lv_iload hx hb dX4_through_144 (lv_at hl 5 rfl) ?_
                  rw [hQ]
                  exact mw_iret (v := nI (i - j + 1)) hE hr hlocks hP hS dX4_through_146 (⟨_, _, rfl, hV, Or.inr ⟨oo, i, j, false, hoo, hi, hj, rfl, rfl, rfl, hk2, ⟨fun h => absurd h (by decide), fun h => absurd h (by omega)⟩, Or.inr ⟨hal9, rfl, by rw [show kk = tcn false i j from (by show kk = i - j + 1; omega)]⟩⟩⟩)
                · have k_101 : kk < (i - j + 1) := nn_nle (a := (i - j + 1)) (b := kk) c_101 (by omega) (by omega)
                  refine lv_aload_n hx hb dX4_through_104 rfl (lv_at hl 0 rfl) ?_
                  refine mo_get (x := .ref (ad 5)) hE iX4_through_X4 hP 5 (by decide) mX4_through_f19 rfl rfl dX4_through_105 ?_
                  refine lv_sipush (v := nI 256) hx hb dX4_through_108 (by decide) ?_
                  refine lv_iload_n hx hb dX4_through_111 rfl (lv_at hl 1 rfl) ?_
                  refine lv_imul hx hb dX4_through_112 ?_
                  refine rw_i (v := nI (256 * oo)) (pk_mul _ _) ?_
                  refine lv_iload_n hx hb dX4_through_113 rfl (lv_at hl 2 rfl) ?_
                  refine lv_iadd hx hb dX4_through_114 ?_
                  refine rw_i (v := nI ((256 * oo) + i)) (nI_add _ _) ?_
                  refine lv_iload hx hb dX4_through_115 (lv_at hl 6 rfl) ?_
                  refine lv_iload hx hb dX4_through_117 (lv_at hl 4 rfl) ?_
                  refine lv_imul hx hb dX4_through_119 ?_
                  refine rw_i (v := nI kk * (-1)) rfl ?_
                  refine lv_iadd hx hb dX4_through_120 ?_
                  refine rw_i (v := nI (256 * oo + tix false i kk)) (by rw [nI_dn (by omega)]; exact congrArg nI (by show 256 * oo + i - kk = 256 * oo + (i - kk); omega)) ?_
                  refine lv_aload_n hx hb dX4_through_121 rfl (lv_at hl 0 rfl) ?_
                  refine mo_get (x := .ref (ad 6)) hE iX4_through_X4 hP 6 (by decide) mX4_through_f22 rfl rfl dX4_through_122 ?_
                  refine lv_iload_n hx hb dX4_through_125 rfl (lv_at hl 1 rfl) ?_
                  refine mo_ld (n := 12) hE hN hP 0 6 rfl (by decide) rfl (by decide) dX4_through_126 (by omega) ?_
                  refine mo_st (n := 3072) hE hN hP hS 0 5 rfl (by decide) rfl (by decide) dX4_through_127 (by have := hkk; unfold tix; dsimp only; omega) (fun H locs hP hS => ?_)
                  refine lv_aload_n hx hb dX4_through_128 rfl (lv_at hl 0 rfl) ?_
                  refine mo_get (x := .ref (ad 6)) hE iX4_through_X4 hP 6 (by decide) mX4_through_f22 rfl rfl dX4_through_129 ?_
                  refine lv_iload_n hx hb dX4_through_132 rfl (lv_at hl 1 rfl) ?_
                  refine lv_dup2_11 hx hb dX4_through_133 rfl rfl ?_
                  refine mo_ld (n := 12) hE hN hP 0 6 rfl (by decide) rfl (by decide) dX4_through_134 (by omega) ?_
                  refine rw_i (v := ((thg g oo false i kk) 6) oo) rfl ?_
                  refine lv_iconst (v := 1) hx hb dX4_through_135 (by decide) ?_
                  refine lv_iadd hx hb dX4_through_136 ?_
                  refine mo_st (n := 12) hE hN hP hS 0 6 rfl (by decide) rfl (by decide) dX4_through_137 (by omega) (fun H locs hP hS => ?_)
                  refine lv_iinc (v := nI (kk + 1)) (lv' := [(7, .int (nI (kk + 1))), (0, .ref (ad 0)), (1, .int (nI oo)), (2, .int (nI i)), (3, .int (nI j)), (5, .int (-1)), (6, .int (nI (i - j + 1)))]) hx hb dX4_through_138 hl (k := 6) rfl (nI_1 kk) (by decide) rfl (fun ls hl => ?_)
                  refine lv_goto (tgt := 97) hx hb dX4_through_141 (by decide) ?_
                  exact ih_97 (kk + 1) (by omega) (by omega) H locs hP hS ls (lv_sub hl [1, 2, 3, 4, 5, 6, 0] rfl)
            exact lp_97 (300) 0 (by omega) (by omega) _ _ hP hS ls (lv_sub hl [1, 2, 3, 4, 5, 6, 0] rfl)
          · have k_61 : kk < (i - j + 1) := nn_nle (a := (i - j + 1)) (b := kk) c_61 (by omega) (by omega)
            refine lv_aload_n hx hb dX4_through_64 rfl (lv_at hl 0 rfl) ?_
            refine mo_get (x := .ref (ad 5)) hE iX4_through_X4 hP 5 (by decide) mX4_through_f19 rfl rfl dX4_through_65 ?_
            refine lv_sipush (v := nI 256) hx hb dX4_through_68 (by decide) ?_
            refine lv_iload_n hx hb dX4_through_71 rfl (lv_at hl 1 rfl) ?_
            refine lv_imul hx hb dX4_through_72 ?_
            refine rw_i (v := nI (256 * oo)) (pk_mul _ _) ?_
            refine lv_iload_n hx hb dX4_through_73 rfl (lv_at hl 2 rfl) ?_
            refine lv_iadd hx hb dX4_through_74 ?_
            refine rw_i (v := nI ((256 * oo) + i)) (nI_add _ _) ?_
            refine lv_iload hx hb dX4_through_75 (lv_at hl 6 rfl) ?_
            refine lv_iload hx hb dX4_through_77 (lv_at hl 4 rfl) ?_
            refine lv_imul hx hb dX4_through_79 ?_
            refine rw_i (v := nI kk * (-1)) rfl ?_
            refine lv_iadd hx hb dX4_through_80 ?_
            refine rw_i (v := nI (256 * oo + tix false i kk)) (by rw [nI_dn (by omega)]; exact congrArg nI (by show 256 * oo + i - kk = 256 * oo + (i - kk); omega)) ?_
            refine mo_ld (n := 3072) hE hN hP 0 5 rfl (by decide) rfl (by decide) dX4_through_81 (by have := hkk; unfold tix; dsimp only; omega) ?_
            refine lv_iconst (v := (-1)) hx hb dX4_through_82 (by decide) ?_
            refine lv_icmp_eq (tgt := 88) hx hb dX4_through_83 (by decide) (fun c_83 => ?_) (fun c_83 => ?_)
            · refine lv_iinc (v := nI (kk + 1)) (lv' := [(7, .int (nI (kk + 1))), (0, .ref (ad 0)), (1, .int (nI oo)), (2, .int (nI i)), (3, .int (nI j)), (5, .int (-1)), (6, .int (nI (i - j + 1)))]) hx hb dX4_through_88 hl (k := 6) rfl (nI_1 kk) (by decide) rfl (fun ls hl => ?_)
              refine lv_goto (tgt := 57) hx hb dX4_through_91 (by decide) ?_
              exact ih_57 (kk + 1) (by omega) (lt_s (p := fun q => g 5 (256 * oo + tix false i q) = -1) hal c_83) (by omega) H locs hP hS ls (lv_sub hl [1, 2, 3, 4, 5, 6, 0] rfl)
            · refine lv_iconst (v := 0) hx hb dX4_through_86 (by decide) ?_
              rw [hQ]
              exact mw_iret (v := 0) hE hr hlocks hP hS dX4_through_87 (⟨_, _, rfl, hV, Or.inr ⟨oo, i, j, false, hoo, hi, hj, rfl, rfl, rfl, hk2, ⟨fun h => absurd h (by decide), fun h => absurd h (by omega)⟩, Or.inl ⟨⟨kk, k_61, c_83⟩, rfl, rfl⟩⟩⟩)
      exact lp_57 (300) 0 (by omega) (fun q h => absurd h (Nat.not_lt_zero _)) (by omega) _ _ hP hS ls (lv_sub hl [4, 5, 6, 7, 2, 1, 0] rfl)
end
section
set_option maxRecDepth 20000 in
theorem mX4_whole_f25 : Cond.fieldLink RX4 25 "CodePagesModel" "texts" "[I" ∈ wsX4_whole := by decide +kernel
set_option maxRecDepth 20000 in
theorem mX4_whole_f28 : Cond.fieldLink RX4 28 "CodePagesModel" "lengths" "[I" ∈ wsX4_whole := by decide +kernel
set_option maxRecDepth 20000 in
theorem mX4_whole_f34 : Cond.fieldLink RX4 34 "CodePagesModel" "code" "I" ∈ wsX4_whole := by decide +kernel
set_option maxRecDepth 20000 in
theorem mX4_whole_f62 : Cond.fieldLink RX4 62 "CodePagesModel" "count" "I" ∈ wsX4_whole := by decide +kernel
set_option maxRecDepth 20000 in
theorem iX4_whole_X4 : ∀ w ∈ u_ws RX4 TX4 14, w ∈ wsX4_whole := by decide +kernel
set_option maxHeartbeats 4000000 in
set_option maxRecDepth 100000 in
theorem tX4_whole (l : Launch) (D : va_G) (k : Nat → ClassId) (M : mw) (sz : Nat) (ad : Nat → Nat) (v : Nat → Int32) (g : Nat → Nat → Int32) (n : Nat → Nat) (L : Nat → Nat) (T : Nat → Nat → Nat) (x y z : Int32) (hN : mo_N ad) (hV : mo_V v n) (hn9 : mo_B n) (hM : M = mo_M (k 0) ad v g) (hX : mo_X n g L T) : Met l yX4_whole wsX4_whole ({ frames := 2, cells := 0, slots := 0, locals := 49 }) (va_Pc [.ref (ad 0), .int x, .int y, .int z] (mw_U D vwCl (TY k) M sz)) (va_Qi (fun r M1 => ∃ v1 g1 n1, M1 = mo_M (k 0) ad v1 g1 ∧ mo_V v1 n1 ∧ R_whole n g L T x y z r n1 g1) (mw_B D vwCl M sz) (mw_A M sz)) 0 0 (mw_A M sz) := by
  refine mw_met (cc := cX4_whole) (maxL := 6) (ret := (some .int)) (lv := [(0, .ref (ad 0)), (1, .int x), (2, .int y), (3, .int z)]) (by decide) rfl (Nat.le_of_ble_eq_true rfl) rfl ?_
  intro p e s m below meth c ls hE hr hlocks hin hml hsz hP hS hl
  subst hsz
  have hx := hE.1
  have hb := hE.2.1
  have hA : ∀ q, s.heap.size ≤ q → mw_A M s.heap.size q := fun q h => Or.inr h
  obtain ⟨Q, hQ⟩ : ∃ Q : State → Prop, Q = MQ below (va_Qi (fun r M1 => ∃ v1 g1 n1, M1 = mo_M (k 0) ad v1 g1 ∧ mo_V v1 n1 ∧ R_whole n g L T x y z r n1 g1) (mw_B D vwCl M s.heap.size) (mw_A M s.heap.size)) ([.ref (ad 0), .int x, .int y, .int z] : List Value).toArray s 0 0 (mw_A M s.heap.size) := ⟨_, rfl⟩
  rw [← hQ]
  have hP : mw_Q (mw_A M s.heap.size) D vwCl (mo_M (k 0) ad v g) s.heap := by rw [← hM]; exact hP
  obtain ⟨hb0, hb1, hb2, hb3⟩ := hn9
  refine lv_aload_n hx hb dX4_whole_0 rfl (lv_at hl 0 rfl) ?_
  refine lv_iconst (v := 0) hx hb dX4_whole_1 (by decide) ?_
  refine mo_put hE iX4_whole_X4 hP hS 0 (by decide) mX4_whole_f34 rfl rfl (by decide +kernel) rfl dX4_whole_2 (fun H locs hP hS => ?_)
  refine lv_aload_n hx hb dX4_whole_5 rfl (lv_at hl 0 rfl) ?_
  refine lv_iload_n hx hb dX4_whole_6 rfl (lv_at hl 1 rfl) ?_
  refine mw_calli hP hS hA (va_runV (As := [.int x]) (rest := []) ⟨hx, hb, hml, hE.2.2.2.1, hE.2.2.1⟩ (tX4_isText l D k _ _ ad (va_up v 0 0) g n x hN hV ⟨hb0, hb1, hb2, hb3⟩ rfl) (cwV 1 hE.2.2.1 gX4_whole_X4_isText rfl rfl rfl (by decide +kernel) ⟨(Nat.le_of_ble_eq_true rfl), (Nat.le_of_ble_eq_true rfl)⟩) (mw_preV hE hP (ci := 5) rfl rfl mo_o [.int x]) rfl rfl hl.1 rfl (lv_room (Nat.le_of_ble_eq_true rfl)) dX4_whole_7 ⟨(Nat.le_of_ble_eq_true rfl), (Nat.le_of_ble_eq_true rfl)⟩) (fun r_1 M1 H locs hw hP hS => ?_)
  obtain ⟨rfl, hw⟩ := hw
  rcases hw with ⟨hq_2, rfl⟩ | ⟨hq_2, rfl⟩
  · obtain ⟨t, ht, rfl⟩ := vp_in_of hq_2 (by omega)
    refine lv_if_eq (tgt := 29) hx hb dX4_whole_10 (by decide) (fun c9 => absurd c9 (by decide)) (fun _ => ?_)
    refine lv_aload_n hx hb dX4_whole_13 rfl (lv_at hl 0 rfl) ?_
    refine lv_iload_n hx hb dX4_whole_14 rfl (lv_at hl 2 rfl) ?_
    refine mw_calli hP hS hA (va_runV (As := [.int y]) (rest := []) ⟨hx, hb, hml, hE.2.2.2.1, hE.2.2.1⟩ (tX4_isPage l D k _ _ ad (va_up v 0 0) g n y hN hV ⟨hb0, hb1, hb2, hb3⟩ rfl) (cwV 1 hE.2.2.1 gX4_whole_X4_isPage rfl rfl rfl (by decide +kernel) ⟨(Nat.le_of_ble_eq_true rfl), (Nat.le_of_ble_eq_true rfl)⟩) (mw_preV hE hP (ci := 5) rfl rfl mo_o [.int y]) rfl rfl hl.1 rfl (lv_room (Nat.le_of_ble_eq_true rfl)) dX4_whole_15 ⟨(Nat.le_of_ble_eq_true rfl), (Nat.le_of_ble_eq_true rfl)⟩) (fun r_4 M1 H locs hw hP hS => ?_)
    obtain ⟨rfl, hw⟩ := hw
    rcases hw with ⟨hq_5, rfl⟩ | ⟨hq_5, rfl⟩
    · obtain ⟨pp, hpp, rfl⟩ := vp_in_of hq_5 (by omega)
      refine lv_if_eq (tgt := 29) hx hb dX4_whole_18 (by decide) (fun c9 => absurd c9 (by decide)) (fun _ => ?_)
      refine lv_aload_n hx hb dX4_whole_21 rfl (lv_at hl 0 rfl) ?_
      refine lv_iload_n hx hb dX4_whole_22 rfl (lv_at hl 3 rfl) ?_
      refine mw_calli hP hS hA (va_runV (As := [.int z]) (rest := []) ⟨hx, hb, hml, hE.2.2.2.1, hE.2.2.1⟩ (tX4_isPage l D k _ _ ad (va_up v 0 0) g n z hN hV ⟨hb0, hb1, hb2, hb3⟩ rfl) (cwV 1 hE.2.2.1 gX4_whole_X4_isPage rfl rfl rfl (by decide +kernel) ⟨(Nat.le_of_ble_eq_true rfl), (Nat.le_of_ble_eq_true rfl)⟩) (mw_preV hE hP (ci := 5) rfl rfl mo_o [.int z]) rfl rfl hl.1 rfl (lv_room (Nat.le_of_ble_eq_true rfl)) dX4_whole_23 ⟨(Nat.le_of_ble_eq_true rfl), (Nat.le_of_ble_eq_true rfl)⟩) (fun r_7 M1 H locs hw hP hS => ?_)
      obtain ⟨rfl, hw⟩ := hw
      rcases hw with ⟨hq_8, rfl⟩ | ⟨hq_8, rfl⟩
      · obtain ⟨qq, hqq, rfl⟩ := vp_in_of hq_8 (by omega)
        refine lv_if_ne (tgt := 32) hx hb dX4_whole_26 (by decide) (fun _ => ?_) (fun c9 => absurd c9 (by decide))
        obtain ⟨hL4, hL9, hT9⟩ := hX t ht
        refine lv_aload_n hx hb dX4_whole_32 rfl (lv_at hl 0 rfl) ?_
        refine mo_get (x := .int (v 13)) hE iX4_whole_X4 hP 13 (by decide) mX4_whole_f62 rfl rfl dX4_whole_33 ?_
        refine lv_istore (lv' := [(4, .int (v 13)), (0, .ref (ad 0)), (1, .int (nI t)), (2, .int (nI pp)), (3, .int (nI qq))]) hx hb dX4_whole_36 hl (by decide) rfl (fun ls hl => ?_)
        refine lv_bipush (v := nI 40) hx hb dX4_whole_38 (by decide) ?_
        refine lv_iload_n hx hb dX4_whole_40 rfl (lv_at hl 2 rfl) ?_
        refine lv_imul hx hb dX4_whole_41 ?_
        refine rw_i (v := nI (40 * t)) (pk_mul _ _) ?_
        refine lv_istore (lv' := [(5, .int (nI (40 * t))), (4, .int (v 13)), (0, .ref (ad 0)), (1, .int (nI t)), (2, .int (nI pp)), (3, .int (nI qq))]) hx hb dX4_whole_42 hl (by decide) rfl (fun ls hl => ?_)
        have lp_44 : ∀ (fu : Nat) (kk : Nat) (v1 : Nat → Int32) (g1 : Nat → Nat → Int32) (n1 : Nat → Nat) (dd : Nat), (kk ≤ L t) → (mo_V v1 n1) → (R_wh n g T t pp qq kk n1 g1 dd) → (v1 13 = v 13 + nI dd) → (mo_B n1) → (wh_K n g t kk n1 g1) → L t - kk < fu → ∀ (H : Heap) (locs : List Loc), mw_Q (mw_A M s.heap.size) D vwCl (mo_M (k 0) ad v1 g1) H → va_S (mw_A M s.heap.size) s.heap H locs → ∀ ls : Array Slot, lv_has ls 6 [(0, .ref (ad 0)), (1, .int (nI t)), (2, .int (nI pp)), (3, .int (nI qq)), (4, .int (v 13)), (5, .int (nI (40 * t + kk)))] → W p l e ({ frames := 2, cells := 0, slots := 0, locals := 49 } : Room) s m ([.ref (ad 0), .int (nI t), .int (nI pp), .int (nI qq)] : List Value).toArray below meth c H locs 0 0 Q (F0 m 44 ls []) := by
          intro fu
          induction fu with
          | zero => intro kk v1 g1 n1 dd hkk hV1 hR hc hB1 hKe hn; exact absurd hn (Nat.not_lt_zero _)
          | succ fu ih_44 =>
            intro kk v1 g1 n1 dd hkk hV1 hR hc hB1 hKe hn H locs hP hS ls hl
            refine lv_iload hx hb dX4_whole_44 (lv_at hl 5 rfl) ?_
            refine lv_bipush (v := nI 40) hx hb dX4_whole_46 (by decide) ?_
            refine lv_iload_n hx hb dX4_whole_48 rfl (lv_at hl 1 rfl) ?_
            refine lv_imul hx hb dX4_whole_49 ?_
            refine rw_i (v := nI (40 * t)) (pk_mul _ _) ?_
            refine lv_aload_n hx hb dX4_whole_50 rfl (lv_at hl 0 rfl) ?_
            refine mo_get (x := .ref (ad 9)) hE iX4_whole_X4 hP 9 (by decide) mX4_whole_f28 rfl rfl dX4_whole_51 ?_
            refine lv_iload_n hx hb dX4_whole_54 rfl (lv_at hl 1 rfl) ?_
            refine mo_ld (n := 40) hE hN hP 0 9 rfl (by decide) rfl (by decide) dX4_whole_55 (by omega) ?_
            refine rw_i (v := nI (L t)) (by rw [hKe.2.1]; exact hL9) ?_
            refine lv_iadd hx hb dX4_whole_56 ?_
            refine rw_i (v := nI ((40 * t) + (L t))) (nI_add _ _) ?_
            refine lv_icmp_ge (tgt := 86) hx hb dX4_whole_57 (by decide) (fun c_57 => ?_) (fun c_57 => ?_)
            · have k_57 : ((40 * t) + (L t)) ≤ (40 * t + kk) := nn_le (a := ((40 * t) + (L t))) (b := (40 * t + kk)) c_57 (by omega) (by omega)
              refine lv_aload_n hx hb dX4_whole_86 rfl (lv_at hl 0 rfl) ?_
              refine mo_get (x := .int (v1 13)) hE iX4_whole_X4 hP 13 (by decide) mX4_whole_f62 rfl rfl dX4_whole_87 ?_
              refine lv_iload hx hb dX4_whole_90 (lv_at hl 4 rfl) ?_
              refine lv_isub hx hb dX4_whole_92 ?_
              refine rw_i (v := nI dd) (by rw [hc]; exact i_cancel _ _) ?_
              rw [hQ]
              exact mw_iret (v := nI dd) hE hr hlocks hP hS dX4_whole_93 (⟨v1, g1, n1, rfl, hV1, Or.inr ⟨t, pp, qq, dd, ht, hpp, hqq, rfl, rfl, rfl, rfl, by rw [show L t = kk by omega]; exact hR⟩⟩)
            · have k_57 : (40 * t + kk) < ((40 * t) + (L t)) := nn_nle (a := ((40 * t) + (L t))) (b := (40 * t + kk)) c_57 (by omega) (by omega)
              refine lv_aload_n hx hb dX4_whole_60 rfl (lv_at hl 0 rfl) ?_
              refine mo_get (x := .ref (ad 8)) hE iX4_whole_X4 hP 8 (by decide) mX4_whole_f25 rfl rfl dX4_whole_61 ?_
              refine lv_iload hx hb dX4_whole_64 (lv_at hl 5 rfl) ?_
              refine lv_aload_n hx hb dX4_whole_66 rfl (lv_at hl 0 rfl) ?_
              refine lv_aload_n hx hb dX4_whole_67 rfl (lv_at hl 0 rfl) ?_
              refine mo_get (x := .ref (ad 8)) hE iX4_whole_X4 hP 8 (by decide) mX4_whole_f25 rfl rfl dX4_whole_68 ?_
              refine lv_iload hx hb dX4_whole_71 (lv_at hl 5 rfl) ?_
              refine mo_ld (n := 1600) hE hN hP 0 8 rfl (by decide) rfl (by decide) dX4_whole_73 (by omega) ?_
              refine rw_i (v := nI (T t kk)) (by rw [hKe.2.2 kk (Nat.le_refl _)]; exact (hT9 kk (by omega)).2) ?_
              refine lv_iload_n hx hb dX4_whole_74 rfl (lv_at hl 2 rfl) ?_
              refine lv_iload_n hx hb dX4_whole_75 rfl (lv_at hl 3 rfl) ?_
              refine mw_calli hP hS hA (va_runV (As := [.int (nI (T t kk)), .int (nI pp), .int (nI qq)]) (rest := [.int (nI (40 * t + kk)), .ref (ad 8)]) ⟨hx, hb, hml, hE.2.2.2.1, hE.2.2.1⟩ (tX4_translated l D k _ _ ad v1 g1 n1 (T t kk) pp qq hN hV1 hB1 rfl ((hT9 kk (by omega)).1) (by rw [hKe.1]; exact hpp) (by rw [hKe.1]; exact hqq)) (cwV 3 hE.2.2.1 gX4_whole_X4_translated rfl rfl rfl (by decide +kernel) ⟨(Nat.le_of_ble_eq_true rfl), (Nat.le_of_ble_eq_true rfl)⟩) (mw_preV hE hP (ci := 5) rfl rfl mo_o [.int (nI (T t kk)), .int (nI pp), .int (nI qq)]) rfl rfl hl.1 rfl (lv_room (Nat.le_of_ble_eq_true rfl)) dX4_whole_76 ⟨(Nat.le_of_ble_eq_true rfl), (Nat.le_of_ble_eq_true rfl)⟩) (fun r_11 M1 H locs hw hP hS => ?_)
              obtain ⟨v2, g2, n2, d2, rfl, hV2, hR2, hc2, h02⟩ := hw
              refine mo_st (n := 1600) hE hN hP hS 0 8 rfl (by decide) rfl (by decide) dX4_whole_79 (by omega) (fun H locs hP hS => ?_)
              refine lv_iinc (v := nI ((40 * t + kk) + 1)) (lv' := [(5, .int (nI ((40 * t + kk) + 1))), (0, .ref (ad 0)), (1, .int (nI t)), (2, .int (nI pp)), (3, .int (nI qq)), (4, .int (v 13))]) hx hb dX4_whole_80 hl (k := 5) rfl (nI_1 (40 * t + kk)) (by decide) rfl (fun ls hl => ?_)
              refine lv_goto (tgt := 44) hx hb dX4_whole_83 (by decide) ?_
              exact ih_44 (kk + 1) v2 (va_up g2 8 (upd (g2 8) (40 * t + kk) r_11)) n2 (dd + d2) (by omega) (hV2) (⟨n1, g1, dd, r_11, n2, g2, d2, hR, hR2, rfl, rfl, rfl⟩) (by rw [hc2, hc, Int32.add_assoc, nI_add]) (wh_B hR2 hB1) (wh_k hKe hR2 _) (by omega) H locs hP hS ls (lv_sub hl [1, 2, 3, 4, 5, 0] rfl)
        exact lp_44 (50) 0 (va_up v 0 0) g n 0 (by omega) (hV) (⟨rfl, rfl, rfl⟩) ((Int32.add_zero _).symm) (⟨hb0, hb1, hb2, hb3⟩) (⟨rfl, fun _ => rfl, fun _ _ => rfl⟩) (by omega) _ _ hP hS ls (lv_sub hl [2, 3, 4, 5, 1, 0] rfl)
      · refine lv_if_ne (tgt := 32) hx hb dX4_whole_26 (by decide) (fun c9 => absurd (by decide) c9) (fun _ => ?_)
        refine lv_bipush (v := (-2)) hx hb dX4_whole_29 (by decide) ?_
        rw [hQ]
        exact mw_iret (v := (-2)) hE hr hlocks hP hS dX4_whole_31 (⟨_, _, n, rfl, hV, Or.inl ⟨fun h => hq_8 h.2.2, rfl, rfl, rfl⟩⟩)
    · refine lv_if_eq (tgt := 29) hx hb dX4_whole_18 (by decide) (fun _ => ?_) (fun c9 => absurd (by decide) c9)
      refine lv_bipush (v := (-2)) hx hb dX4_whole_29 (by decide) ?_
      rw [hQ]
      exact mw_iret (v := (-2)) hE hr hlocks hP hS dX4_whole_31 (⟨_, _, n, rfl, hV, Or.inl ⟨fun h => hq_5 h.2.1, rfl, rfl, rfl⟩⟩)
  · refine lv_if_eq (tgt := 29) hx hb dX4_whole_10 (by decide) (fun _ => ?_) (fun c9 => absurd (by decide) c9)
    refine lv_bipush (v := (-2)) hx hb dX4_whole_29 (by decide) ?_
    rw [hQ]
    exact mw_iret (v := (-2)) hE hr hlocks hP hS dX4_whole_31 (⟨_, _, n, rfl, hV, Or.inl ⟨fun h => hq_2 h.1, rfl, rfl, rfl⟩⟩)

set_option maxRecDepth 20000 in
theorem mX4_compare_f34 : Cond.fieldLink RX4 34 "CodePagesModel" "code" "I" ∈ wsX4_compare := by decide +kernel
set_option maxRecDepth 20000 in
theorem iX4_compare_X4 : ∀ w ∈ u_ws RX4 TX4 14, w ∈ wsX4_compare := by decide +kernel
set_option maxHeartbeats 4000000 in
set_option maxRecDepth 100000 in
theorem tX4_compare (l : Launch) (D : va_G) (k : Nat → ClassId) (M : mw) (sz : Nat) (ad : Nat → Nat) (v : Nat → Int32) (g : Nat → Nat → Int32) (n : Nat → Nat) (L : Nat → Nat) (T : Nat → Nat → Nat) (x y z : Int32) (hN : mo_N ad) (hV : mo_V v n) (hn9 : mo_B n) (hM : M = mo_M (k 0) ad v g) (hX : mo_X n g L T) : Met l yX4_compare wsX4_compare ({ frames := 1, cells := 0, slots := 0, locals := 25 }) (va_Pc [.ref (ad 0), .int x, .int y, .int z] (mw_U D vwCl (TY k) M sz)) (va_Qi (fun r M1 => ∃ v1, M1 = mo_M (k 0) ad v1 g ∧ mo_V v1 n ∧ R_compare n g L T x y z r) (mw_B D vwCl M sz) (mw_A M sz)) 0 0 (mw_A M sz) := by
  refine mw_met (cc := cX4_compare) (maxL := 7) (ret := (some .int)) (lv := [(0, .ref (ad 0)), (1, .int x), (2, .int y), (3, .int z)]) (by decide) rfl (Nat.le_of_ble_eq_true rfl) rfl ?_
  intro p e s m below meth c ls hE hr hlocks hin hml hsz hP hS hl
  subst hsz
  have hx := hE.1
  have hb := hE.2.1
  have hA : ∀ q, s.heap.size ≤ q → mw_A M s.heap.size q := fun q h => Or.inr h
  obtain ⟨Q, hQ⟩ : ∃ Q : State → Prop, Q = MQ below (va_Qi (fun r M1 => ∃ v1, M1 = mo_M (k 0) ad v1 g ∧ mo_V v1 n ∧ R_compare n g L T x y z r) (mw_B D vwCl M s.heap.size) (mw_A M s.heap.size)) ([.ref (ad 0), .int x, .int y, .int z] : List Value).toArray s 0 0 (mw_A M s.heap.size) := ⟨_, rfl⟩
  rw [← hQ]
  have hP : mw_Q (mw_A M s.heap.size) D vwCl (mo_M (k 0) ad v g) s.heap := by rw [← hM]; exact hP
  obtain ⟨hb0, hb1, hb2, hb3⟩ := hn9
  refine lv_aload_n hx hb dX4_compare_0 rfl (lv_at hl 0 rfl) ?_
  refine lv_iconst (v := 0) hx hb dX4_compare_1 (by decide) ?_
  refine mo_put hE iX4_compare_X4 hP hS 0 (by decide) mX4_compare_f34 rfl rfl (by decide +kernel) rfl dX4_compare_2 (fun H locs hP hS => ?_)
  refine lv_aload_n hx hb dX4_compare_5 rfl (lv_at hl 0 rfl) ?_
  refine lv_iload_n hx hb dX4_compare_6 rfl (lv_at hl 1 rfl) ?_
  refine mw_calli hP hS hA (va_runV (As := [.int x]) (rest := []) ⟨hx, hb, hml, hE.2.2.2.1, hE.2.2.1⟩ (tX4_isOrder l D k _ _ ad (va_up v 0 0) g n x hN hV ⟨hb0, hb1, hb2, hb3⟩ rfl) (cwV 1 hE.2.2.1 gX4_compare_X4_isOrder rfl rfl rfl (by decide +kernel) ⟨(Nat.le_of_ble_eq_true rfl), (Nat.le_of_ble_eq_true rfl)⟩) (mw_preV hE hP (ci := 5) rfl rfl mo_o [.int x]) rfl rfl hl.1 rfl (lv_room (Nat.le_of_ble_eq_true rfl)) dX4_compare_7 ⟨(Nat.le_of_ble_eq_true rfl), (Nat.le_of_ble_eq_true rfl)⟩) (fun r_1 M1 H locs hw hP hS => ?_)
  obtain ⟨rfl, hw⟩ := hw
  rcases hw with ⟨hq_2, rfl⟩ | ⟨hq_2, rfl⟩
  · obtain ⟨oo, hoo, rfl⟩ := vp_in_of hq_2 (by omega)
    refine lv_if_eq (tgt := 29) hx hb dX4_compare_10 (by decide) (fun c9 => absurd c9 (by decide)) (fun _ => ?_)
    refine lv_aload_n hx hb dX4_compare_13 rfl (lv_at hl 0 rfl) ?_
    refine lv_iload_n hx hb dX4_compare_14 rfl (lv_at hl 2 rfl) ?_
    refine mw_calli hP hS hA (va_runV (As := [.int y]) (rest := []) ⟨hx, hb, hml, hE.2.2.2.1, hE.2.2.1⟩ (tX4_isText l D k _ _ ad (va_up v 0 0) g n y hN hV ⟨hb0, hb1, hb2, hb3⟩ rfl) (cwV 1 hE.2.2.1 gX4_compare_X4_isText rfl rfl rfl (by decide +kernel) ⟨(Nat.le_of_ble_eq_true rfl), (Nat.le_of_ble_eq_true rfl)⟩) (mw_preV hE hP (ci := 5) rfl rfl mo_o [.int y]) rfl rfl hl.1 rfl (lv_room (Nat.le_of_ble_eq_true rfl)) dX4_compare_15 ⟨(Nat.le_of_ble_eq_true rfl), (Nat.le_of_ble_eq_true rfl)⟩) (fun r_4 M1 H locs hw hP hS => ?_)
    obtain ⟨rfl, hw⟩ := hw
    rcases hw with ⟨hq_5, rfl⟩ | ⟨hq_5, rfl⟩
    · obtain ⟨ta, hta, rfl⟩ := vp_in_of hq_5 (by omega)
      refine lv_if_eq (tgt := 29) hx hb dX4_compare_18 (by decide) (fun c9 => absurd c9 (by decide)) (fun _ => ?_)
      refine lv_aload_n hx hb dX4_compare_21 rfl (lv_at hl 0 rfl) ?_
      refine lv_iload_n hx hb dX4_compare_22 rfl (lv_at hl 3 rfl) ?_
      refine mw_calli hP hS hA (va_runV (As := [.int z]) (rest := []) ⟨hx, hb, hml, hE.2.2.2.1, hE.2.2.1⟩ (tX4_isText l D k _ _ ad (va_up v 0 0) g n z hN hV ⟨hb0, hb1, hb2, hb3⟩ rfl) (cwV 1 hE.2.2.1 gX4_compare_X4_isText rfl rfl rfl (by decide +kernel) ⟨(Nat.le_of_ble_eq_true rfl), (Nat.le_of_ble_eq_true rfl)⟩) (mw_preV hE hP (ci := 5) rfl rfl mo_o [.int z]) rfl rfl hl.1 rfl (lv_room (Nat.le_of_ble_eq_true rfl)) dX4_compare_23 ⟨(Nat.le_of_ble_eq_true rfl), (Nat.le_of_ble_eq_true rfl)⟩) (fun r_7 M1 H locs hw hP hS => ?_)
      obtain ⟨rfl, hw⟩ := hw
      rcases hw with ⟨hq_8, rfl⟩ | ⟨hq_8, rfl⟩
      · obtain ⟨tb, htb, rfl⟩ := vp_in_of hq_8 (by omega)
        refine lv_if_ne (tgt := 32) hx hb dX4_compare_26 (by decide) (fun _ => ?_) (fun c9 => absurd c9 (by decide))
        refine lv_iconst (v := 0) hx hb dX4_compare_32 (by decide) ?_
        refine lv_istore (lv' := [(4, .int 0), (0, .ref (ad 0)), (1, .int (nI oo)), (2, .int (nI ta)), (3, .int (nI tb))]) hx hb dX4_compare_33 hl (by decide) rfl (fun ls hl => ?_)
        have lp_35 : ∀ (fu : Nat) (kk : Nat), (kk ≤ 40) → (cmpf (fun k => rko g oo (rdn L T ta k)) (fun k => rko g oo (rdn L T tb k)) 0 40 = cmpf (fun k => rko g oo (rdn L T ta k)) (fun k => rko g oo (rdn L T tb k)) kk (40 - kk)) → 40 - kk < fu → ∀ (H : Heap) (locs : List Loc), mw_Q (mw_A M s.heap.size) D vwCl (mo_M (k 0) ad (va_up v 0 0) g) H → va_S (mw_A M s.heap.size) s.heap H locs → ∀ ls : Array Slot, lv_has ls 7 [(0, .ref (ad 0)), (1, .int (nI oo)), (2, .int (nI ta)), (3, .int (nI tb)), (4, .int (nI kk))] → W p l e ({ frames := 1, cells := 0, slots := 0, locals := 25 } : Room) s m ([.ref (ad 0), .int (nI oo), .int (nI ta), .int (nI tb)] : List Value).toArray below meth c H locs 0 0 Q (F0 m 35 ls []) := by
          intro fu
          induction fu with
          | zero => intro kk hkk hv hn; exact absurd hn (Nat.not_lt_zero _)
          | succ fu ih_35 =>
            intro kk hkk hv hn H locs hP hS ls hl
            refine lv_iload hx hb dX4_compare_35 (lv_at hl 4 rfl) ?_
            refine lv_bipush (v := nI 40) hx hb dX4_compare_37 (by decide) ?_
            refine lv_icmp_ge (tgt := 96) hx hb dX4_compare_39 (by decide) (fun c_39 => ?_) (fun c_39 => ?_)
            · have k_39 : 40 ≤ kk := nn_le (a := 40) (b := kk) c_39 (by omega) (by omega)
              refine lv_iconst (v := 0) hx hb dX4_compare_96 (by decide) ?_
              rw [hQ]
              exact mw_iret (v := 0) hE hr hlocks hP hS dX4_compare_97 (⟨_, rfl, hV, Or.inr ⟨oo, ta, tb, hoo, hta, htb, rfl, rfl, rfl, by rw [hv, cmpf_end (by omega)]⟩⟩)
            · have k_39 : kk < 40 := nn_nle (a := 40) (b := kk) c_39 (by omega) (by omega)
              refine lv_aload_n hx hb dX4_compare_42 rfl (lv_at hl 0 rfl) ?_
              refine lv_iload_n hx hb dX4_compare_43 rfl (lv_at hl 1 rfl) ?_
              refine lv_aload_n hx hb dX4_compare_44 rfl (lv_at hl 0 rfl) ?_
              refine lv_iload_n hx hb dX4_compare_45 rfl (lv_at hl 2 rfl) ?_
              refine lv_iload hx hb dX4_compare_46 (lv_at hl 4 rfl) ?_
              refine mw_calli hP hS hA (va_runV (As := [.int (nI ta), .int (nI kk)]) (rest := [.int (nI oo), .ref (ad 0)]) ⟨hx, hb, hml, hE.2.2.2.1, hE.2.2.1⟩ (tX4_readAt l D k _ _ ad (va_up v 0 0) g n L T ta kk hN hV ⟨hb0, hb1, hb2, hb3⟩ rfl hX hta (by omega)) (cwV 2 hE.2.2.1 gX4_compare_X4_readAt rfl rfl rfl (by decide +kernel) ⟨(Nat.le_of_ble_eq_true rfl), (Nat.le_of_ble_eq_true rfl)⟩) (mw_preV hE hP (ci := 5) rfl rfl mo_o [.int (nI ta), .int (nI kk)]) rfl rfl hl.1 rfl (lv_room (Nat.le_of_ble_eq_true rfl)) dX4_compare_48 ⟨(Nat.le_of_ble_eq_true rfl), (Nat.le_of_ble_eq_true rfl)⟩) (fun r_11 M1 H locs hw hP hS => ?_)
              obtain ⟨rfl, rfl⟩ := hw
              refine mw_calli hP hS hA (va_runV (As := [.int (nI oo), .int (nI (rdn L T ta kk))]) (rest := []) ⟨hx, hb, hml, hE.2.2.2.1, hE.2.2.1⟩ (tX4_rankOf l D k _ _ ad (va_up v 0 0) g n oo (rdn L T ta kk) hN hV ⟨hb0, hb1, hb2, hb3⟩ rfl (by omega) (rdn_lt hX hta _)) (cwV 2 hE.2.2.1 gX4_compare_X4_rankOf rfl rfl rfl (by decide +kernel) ⟨(Nat.le_of_ble_eq_true rfl), (Nat.le_of_ble_eq_true rfl)⟩) (mw_preV hE hP (ci := 5) rfl rfl mo_o [.int (nI oo), .int (nI (rdn L T ta kk))]) rfl rfl hl.1 rfl (lv_room (Nat.le_of_ble_eq_true rfl)) dX4_compare_51 ⟨(Nat.le_of_ble_eq_true rfl), (Nat.le_of_ble_eq_true rfl)⟩) (fun r_12 M1 H locs hw1 hP hS => ?_)
              obtain ⟨rfl, er_12⟩ := hw1
              refine lv_istore (lv' := [(5, .int r_12), (0, .ref (ad 0)), (1, .int (nI oo)), (2, .int (nI ta)), (3, .int (nI tb)), (4, .int (nI kk))]) hx hb dX4_compare_54 hl (by decide) rfl (fun ls hl => ?_)
              refine lv_aload_n hx hb dX4_compare_56 rfl (lv_at hl 1 rfl) ?_
              refine lv_iload_n hx hb dX4_compare_57 rfl (lv_at hl 2 rfl) ?_
              refine lv_aload_n hx hb dX4_compare_58 rfl (lv_at hl 1 rfl) ?_
              refine lv_iload_n hx hb dX4_compare_59 rfl (lv_at hl 4 rfl) ?_
              refine lv_iload hx hb dX4_compare_60 (lv_at hl 5 rfl) ?_
              refine mw_calli hP hS hA (va_runV (As := [.int (nI tb), .int (nI kk)]) (rest := [.int (nI oo), .ref (ad 0)]) ⟨hx, hb, hml, hE.2.2.2.1, hE.2.2.1⟩ (tX4_readAt l D k _ _ ad (va_up v 0 0) g n L T tb kk hN hV ⟨hb0, hb1, hb2, hb3⟩ rfl hX htb (by omega)) (cwV 2 hE.2.2.1 gX4_compare_X4_readAt rfl rfl rfl (by decide +kernel) ⟨(Nat.le_of_ble_eq_true rfl), (Nat.le_of_ble_eq_true rfl)⟩) (mw_preV hE hP (ci := 5) rfl rfl mo_o [.int (nI tb), .int (nI kk)]) rfl rfl hl.1 rfl (lv_room (Nat.le_of_ble_eq_true rfl)) dX4_compare_62 ⟨(Nat.le_of_ble_eq_true rfl), (Nat.le_of_ble_eq_true rfl)⟩) (fun r_13 M1 H locs hw hP hS => ?_)
              obtain ⟨rfl, rfl⟩ := hw
              refine mw_calli hP hS hA (va_runV (As := [.int (nI oo), .int (nI (rdn L T tb kk))]) (rest := []) ⟨hx, hb, hml, hE.2.2.2.1, hE.2.2.1⟩ (tX4_rankOf l D k _ _ ad (va_up v 0 0) g n oo (rdn L T tb kk) hN hV ⟨hb0, hb1, hb2, hb3⟩ rfl (by omega) (rdn_lt hX htb _)) (cwV 2 hE.2.2.1 gX4_compare_X4_rankOf rfl rfl rfl (by decide +kernel) ⟨(Nat.le_of_ble_eq_true rfl), (Nat.le_of_ble_eq_true rfl)⟩) (mw_preV hE hP (ci := 5) rfl rfl mo_o [.int (nI oo), .int (nI (rdn L T tb kk))]) rfl rfl hl.1 rfl (lv_room (Nat.le_of_ble_eq_true rfl)) dX4_compare_65 ⟨(Nat.le_of_ble_eq_true rfl), (Nat.le_of_ble_eq_true rfl)⟩) (fun r_14 M1 H locs hw1 hP hS => ?_)
              obtain ⟨rfl, er_14⟩ := hw1
              refine lv_istore (lv' := [(6, .int r_14), (5, .int r_12), (0, .ref (ad 0)), (1, .int (nI oo)), (2, .int (nI ta)), (3, .int (nI tb)), (4, .int (nI kk))]) hx hb dX4_compare_68 hl (by decide) rfl (fun ls hl => ?_)
              refine lv_iload hx hb dX4_compare_70 (lv_at hl 1 rfl) ?_
              refine lv_iload hx hb dX4_compare_72 (lv_at hl 0 rfl) ?_
              refine lv_icmp_eq (tgt := 90) hx hb dX4_compare_74 (by decide) (fun c_74 => ?_) (fun c_74 => ?_)
              · refine lv_iinc (v := nI (kk + 1)) (lv' := [(4, .int (nI (kk + 1))), (6, .int r_14), (5, .int r_12), (0, .ref (ad 0)), (1, .int (nI oo)), (2, .int (nI ta)), (3, .int (nI tb))]) hx hb dX4_compare_90 hl (k := 6) rfl (nI_1 kk) (by decide) rfl (fun ls hl => ?_)
                refine lv_goto (tgt := 35) hx hb dX4_compare_93 (by decide) ?_
                exact ih_35 (kk + 1) (by omega) (by rw [hv, cmpf_step k_39, if_pos (show (fun k => rko g oo (rdn L T ta k)) kk = (fun k => rko g oo (rdn L T tb k)) kk by show rko g oo (rdn L T ta kk) = rko g oo (rdn L T tb kk); rw [← er_12, ← er_14]; exact c_74)]) (by omega) H locs hP hS ls (lv_sub hl [3, 4, 5, 6, 0] rfl)
              · refine lv_iload hx hb dX4_compare_77 (lv_at hl 1 rfl) ?_
                refine lv_iload hx hb dX4_compare_79 (lv_at hl 0 rfl) ?_
                refine lv_icmp_ge (tgt := 88) hx hb dX4_compare_81 (by decide) (fun c_81 => ?_) (fun c_81 => ?_)
                · refine lv_iconst (v := 1) hx hb dX4_compare_88 (by decide) ?_
                  rw [hQ]
                  exact mw_iret (v := 1) hE hr hlocks hP hS dX4_compare_89 (⟨_, rfl, hV, Or.inr ⟨oo, ta, tb, hoo, hta, htb, rfl, rfl, rfl, by rw [hv, cmpf_step k_39, if_neg (show ¬ (fun k => rko g oo (rdn L T ta k)) kk = (fun k => rko g oo (rdn L T tb k)) kk by show ¬ rko g oo (rdn L T ta kk) = rko g oo (rdn L T tb kk); rw [← er_12, ← er_14]; exact c_74), if_neg (show ¬ (fun k => rko g oo (rdn L T ta k)) kk < (fun k => rko g oo (rdn L T tb k)) kk by show ¬ rko g oo (rdn L T ta kk) < rko g oo (rdn L T tb kk); rw [← er_12, ← er_14]; exact Int32.not_lt.mpr c_81)]⟩⟩)
                · refine lv_iconst (v := (-1)) hx hb dX4_compare_84 (by decide) ?_
                  refine lv_goto (tgt := 89) hx hb dX4_compare_85 (by decide) ?_
                  rw [hQ]
                  exact mw_iret (v := (-1)) hE hr hlocks hP hS dX4_compare_89 (⟨_, rfl, hV, Or.inr ⟨oo, ta, tb, hoo, hta, htb, rfl, rfl, rfl, by rw [hv, cmpf_step k_39, if_neg (show ¬ (fun k => rko g oo (rdn L T ta k)) kk = (fun k => rko g oo (rdn L T tb k)) kk by show ¬ rko g oo (rdn L T ta kk) = rko g oo (rdn L T tb kk); rw [← er_12, ← er_14]; exact c_74), if_pos (show (fun k => rko g oo (rdn L T ta k)) kk < (fun k => rko g oo (rdn L T tb k)) kk by show rko g oo (rdn L T ta kk) < rko g oo (rdn L T tb kk); rw [← er_12, ← er_14]; exact Int32.not_le.mp c_81)]⟩⟩)
        exact lp_35 (50) 0 (by omega) (rfl) (by omega) _ _ hP hS ls (lv_sub hl [1, 2, 3, 4, 0] rfl)
      · refine lv_if_ne (tgt := 32) hx hb dX4_compare_26 (by decide) (fun c9 => absurd (by decide) c9) (fun _ => ?_)
        refine lv_bipush (v := (-2)) hx hb dX4_compare_29 (by decide) ?_
        rw [hQ]
        exact mw_iret (v := (-2)) hE hr hlocks hP hS dX4_compare_31 (⟨_, rfl, hV, Or.inl ⟨fun h => hq_8 h.2.2, rfl⟩⟩)
    · refine lv_if_eq (tgt := 29) hx hb dX4_compare_18 (by decide) (fun _ => ?_) (fun c9 => absurd (by decide) c9)
      refine lv_bipush (v := (-2)) hx hb dX4_compare_29 (by decide) ?_
      rw [hQ]
      exact mw_iret (v := (-2)) hE hr hlocks hP hS dX4_compare_31 (⟨_, rfl, hV, Or.inl ⟨fun h => hq_5 h.2.1, rfl⟩⟩)
  · refine lv_if_eq (tgt := 29) hx hb dX4_compare_10 (by decide) (fun _ => ?_) (fun c9 => absurd (by decide) c9)
    refine lv_bipush (v := (-2)) hx hb dX4_compare_29 (by decide) ?_
    rw [hQ]
    exact mw_iret (v := (-2)) hE hr hlocks hP hS dX4_compare_31 (⟨_, rfl, hV, Or.inl ⟨fun h => hq_2 h.1, rfl⟩⟩)
end
section
set_option maxRecDepth 20000 in
theorem mX4_cls_f34 : Cond.fieldLink RX4 34 "CodePagesModel" "code" "I" ∈ wsX4_cls := by decide +kernel
set_option maxRecDepth 20000 in
theorem iX4_cls_X4 : ∀ w ∈ u_ws RX4 TX4 14, w ∈ wsX4_cls := by decide +kernel
set_option maxHeartbeats 4000000 in
set_option maxRecDepth 100000 in
theorem tX4_cls (l : Launch) (D : va_G) (k : Nat → ClassId) (M : mw) (sz : Nat) (ad : Nat → Nat) (v : Nat → Int32) (g : Nat → Nat → Int32) (n : Nat → Nat) (x y : Int32) (hN : mo_N ad) (hV : mo_V v n) (hn9 : mo_B n) (hM : M = mo_M (k 0) ad v g) : Met l yX4_cls wsX4_cls ({ frames := 0, cells := 0, slots := 0, locals := 0 }) (va_Pc [.ref (ad 0), .int x, .int y] (mw_U D vwCl (TY k) M sz)) (va_Qi (fun r M1 => ∃ v1, M1 = mo_M (k 0) ad v1 g ∧ mo_V v1 n ∧ R_cls x y r) (mw_B D vwCl M sz) (mw_A M sz)) 0 0 (mw_A M sz) := by
  refine mw_met (cc := cX4_cls) (maxL := 5) (ret := (some .boolean)) (lv := [(0, .ref (ad 0)), (1, .int x), (2, .int y)]) (by decide) rfl (Nat.le_of_ble_eq_true rfl) rfl ?_
  intro p e s m below meth c ls hE hr hlocks hin hml hsz hP hS hl
  subst hsz
  have hx := hE.1
  have hb := hE.2.1
  have hA : ∀ q, s.heap.size ≤ q → mw_A M s.heap.size q := fun q h => Or.inr h
  have hP : mw_Q (mw_A M s.heap.size) D vwCl (mo_M (k 0) ad v g) s.heap := by rw [← hM]; exact hP
  obtain ⟨hb0, hb1, hb2, hb3⟩ := hn9
  refine lv_aload_n hx hb dX4_cls_0 rfl (lv_at hl 0 rfl) ?_
  refine lv_iconst (v := 0) hx hb dX4_cls_1 (by decide) ?_
  refine mo_put hE iX4_cls_X4 hP hS 0 (by decide) mX4_cls_f34 rfl rfl (by decide +kernel) rfl dX4_cls_2 (fun H locs hP hS => ?_)
  refine lv_iload_n hx hb dX4_cls_5 rfl (lv_at hl 1 rfl) ?_
  refine lv_bipush (v := nI 65) hx hb dX4_cls_6 (by decide) ?_
  refine lv_icmp_lt (tgt := 21) hx hb dX4_cls_8 (by decide) (fun c_8 => ?_) (fun c_8 => ?_)
  · refine lv_iconst (v := 0) hx hb dX4_cls_21 (by decide) ?_
    refine lv_istore_n (lv' := [(3, .int 0), (0, .ref (ad 0)), (1, .int x), (2, .int y)]) hx hb dX4_cls_22 rfl hl (by decide) rfl (fun ls hl => ?_)
    refine lv_iload_n hx hb dX4_cls_23 rfl (lv_at hl 2 rfl) ?_
    refine lv_bipush (v := nI 97) hx hb dX4_cls_24 (by decide) ?_
    refine lv_icmp_lt (tgt := 39) hx hb dX4_cls_26 (by decide) (fun c_26 => ?_) (fun c_26 => ?_)
    · refine lv_iconst (v := 0) hx hb dX4_cls_39 (by decide) ?_
      refine lv_istore (lv' := [(4, .int 0), (3, .int 0), (0, .ref (ad 0)), (1, .int x), (2, .int y)]) hx hb dX4_cls_40 hl (by decide) rfl (fun ls hl => ?_)
      refine lv_iload_n hx hb dX4_cls_42 rfl (lv_at hl 4 rfl) ?_
      rcases sw_cases y 6 (by decide) with hw_3 | ⟨jw_3, hjw_3, ew_3⟩
      · refine lv_tableOut (tgt := 152) hx hb dX4_cls_43 (sw_out (by decide) hw_3) (by decide) ?_
        refine lv_iconst (v := 0) hx hb dX4_cls_152 (by decide) ?_
        exact mw_zret (v := 0) (ty := .boolean) hE hr hlocks hP hS dX4_cls_153 (rfl) (⟨_, rfl, hV, Or.inl ⟨hw_3, rfl⟩⟩)
      · rcases (show jw_3 = 0 ∨ jw_3 = 1 ∨ jw_3 = 2 ∨ jw_3 = 3 ∨ jw_3 = 4 ∨ jw_3 = 5 by omega) with rfl | rfl | rfl | rfl | rfl | rfl
        · subst ew_3
          refine lv_tableIn (off := (37)) (tgt := 80) hx hb dX4_cls_43 (by decide +kernel) (by decide +kernel) (by decide +kernel) (by decide) ?_
          refine lv_iload_n hx hb dX4_cls_80 rfl (lv_at hl 3 rfl) ?_
          refine lv_bipush (v := nI 48) hx hb dX4_cls_81 (by decide) ?_
          refine lv_icmp_lt (tgt := 96) hx hb dX4_cls_83 (by decide) (fun c_83 => ?_) (fun c_83 => ?_)
          · refine lv_iconst (v := 0) hx hb dX4_cls_96 (by decide) ?_
            exact mw_zret (v := 0) (ty := .boolean) hE hr hlocks hP hS dX4_cls_97 (rfl) (⟨_, rfl, hV, Or.inr ⟨0, by decide, rfl, by simp [clsf, bz, c_8, c_26, c_83]⟩⟩)
          · refine lv_iload_n hx hb dX4_cls_86 rfl (lv_at hl 3 rfl) ?_
            refine lv_bipush (v := nI 57) hx hb dX4_cls_87 (by decide) ?_
            refine lv_icmp_gt (tgt := 96) hx hb dX4_cls_89 (by decide) (fun c_89 => ?_) (fun c_89 => ?_)
            · refine lv_iconst (v := 0) hx hb dX4_cls_96 (by decide) ?_
              exact mw_zret (v := 0) (ty := .boolean) hE hr hlocks hP hS dX4_cls_97 (rfl) (⟨_, rfl, hV, Or.inr ⟨0, by decide, rfl, by simp [clsf, bz, c_8, c_26, c_83, c_89]⟩⟩)
            · refine lv_iconst (v := 1) hx hb dX4_cls_92 (by decide) ?_
              refine lv_goto (tgt := 97) hx hb dX4_cls_93 (by decide) ?_
              exact mw_zret (v := 1) (ty := .boolean) hE hr hlocks hP hS dX4_cls_97 (rfl) (⟨_, rfl, hV, Or.inr ⟨0, by decide, rfl, by simp [clsf, bz, c_8, c_26, c_83, c_89]⟩⟩)
        · subst ew_3
          refine lv_tableIn (off := (55)) (tgt := 98) hx hb dX4_cls_43 (by decide +kernel) (by decide +kernel) (by decide +kernel) (by decide) ?_
          refine lv_iload_n hx hb dX4_cls_98 rfl (lv_at hl 1 rfl) ?_
          refine lv_if_ne (tgt := 107) hx hb dX4_cls_99 (by decide) (fun c9 => absurd (by decide) c9) (fun _ => ?_)
          refine lv_iload hx hb dX4_cls_102 (lv_at hl 0 rfl) ?_
          refine lv_if_eq (tgt := 111) hx hb dX4_cls_104 (by decide) (fun _ => ?_) (fun c9 => absurd (by decide) c9)
          refine lv_iconst (v := 0) hx hb dX4_cls_111 (by decide) ?_
          exact mw_zret (v := 0) (ty := .boolean) hE hr hlocks hP hS dX4_cls_112 (rfl) (⟨_, rfl, hV, Or.inr ⟨1, by decide, rfl, by simp [clsf, bz, c_8, c_26]⟩⟩)
        · subst ew_3
          refine lv_tableIn (off := (70)) (tgt := 113) hx hb dX4_cls_43 (by decide +kernel) (by decide +kernel) (by decide +kernel) (by decide) ?_
          refine lv_iload_n hx hb dX4_cls_113 rfl (lv_at hl 1 rfl) ?_
          exact mw_zret (v := 0) (ty := .boolean) hE hr hlocks hP hS dX4_cls_114 (rfl) (⟨_, rfl, hV, Or.inr ⟨2, by decide, rfl, by simp [clsf, bz, c_8, c_26]⟩⟩)
        · subst ew_3
          refine lv_tableIn (off := (72)) (tgt := 115) hx hb dX4_cls_43 (by decide +kernel) (by decide +kernel) (by decide +kernel) (by decide) ?_
          refine lv_iload hx hb dX4_cls_115 (lv_at hl 0 rfl) ?_
          exact mw_zret (v := 0) (ty := .boolean) hE hr hlocks hP hS dX4_cls_117 (rfl) (⟨_, rfl, hV, Or.inr ⟨3, by decide, rfl, by simp [clsf, bz, c_8, c_26]⟩⟩)
        · subst ew_3
          refine lv_tableIn (off := (75)) (tgt := 118) hx hb dX4_cls_43 (by decide +kernel) (by decide +kernel) (by decide +kernel) (by decide) ?_
          refine lv_iload_n hx hb dX4_cls_118 rfl (lv_at hl 3 rfl) ?_
          refine lv_bipush (v := nI 32) hx hb dX4_cls_119 (by decide) ?_
          refine lv_icmp_ne (tgt := 128) hx hb dX4_cls_121 (by decide) (fun c_121 => ?_) (fun c_121 => ?_)
          · refine lv_iconst (v := 0) hx hb dX4_cls_128 (by decide) ?_
            exact mw_zret (v := 0) (ty := .boolean) hE hr hlocks hP hS dX4_cls_129 (rfl) (⟨_, rfl, hV, Or.inr ⟨4, by decide, rfl, by simp [clsf, bz, c_8, c_26, c_121]⟩⟩)
          · refine lv_iconst (v := 1) hx hb dX4_cls_124 (by decide) ?_
            refine lv_goto (tgt := 129) hx hb dX4_cls_125 (by decide) ?_
            exact mw_zret (v := 1) (ty := .boolean) hE hr hlocks hP hS dX4_cls_129 (rfl) (⟨_, rfl, hV, Or.inr ⟨4, by decide, rfl, by simp [clsf, bz, c_8, c_26, c_121]⟩⟩)
        · subst ew_3
          refine lv_tableIn (off := (87)) (tgt := 130) hx hb dX4_cls_43 (by decide +kernel) (by decide +kernel) (by decide +kernel) (by decide) ?_
          refine lv_iload_n hx hb dX4_cls_130 rfl (lv_at hl 3 rfl) ?_
          refine lv_if_lt (tgt := 140) hx hb dX4_cls_131 (by decide) (fun c_131 => ?_) (fun c_131 => ?_)
          · refine lv_iload_n hx hb dX4_cls_140 rfl (lv_at hl 3 rfl) ?_
            refine lv_bipush (v := nI 127) hx hb dX4_cls_141 (by decide) ?_
            refine lv_icmp_ne (tgt := 150) hx hb dX4_cls_143 (by decide) (fun c_143 => ?_) (fun c_143 => ?_)
            · refine lv_iconst (v := 0) hx hb dX4_cls_150 (by decide) ?_
              exact mw_zret (v := 0) (ty := .boolean) hE hr hlocks hP hS dX4_cls_151 (rfl) (⟨_, rfl, hV, Or.inr ⟨5, by decide, rfl, by simp [clsf, bz, c_8, c_26, c_131, c_143]⟩⟩)
            · refine lv_iconst (v := 1) hx hb dX4_cls_146 (by decide) ?_
              refine lv_goto (tgt := 151) hx hb dX4_cls_147 (by decide) ?_
              exact mw_zret (v := 1) (ty := .boolean) hE hr hlocks hP hS dX4_cls_151 (rfl) (⟨_, rfl, hV, Or.inr ⟨5, by decide, rfl, by simp [clsf, bz, c_8, c_26, c_131, c_143]⟩⟩)
          · refine lv_iload_n hx hb dX4_cls_134 rfl (lv_at hl 3 rfl) ?_
            refine lv_bipush (v := nI 32) hx hb dX4_cls_135 (by decide) ?_
            refine lv_icmp_lt (tgt := 146) hx hb dX4_cls_137 (by decide) (fun c_137 => ?_) (fun c_137 => ?_)
            · refine lv_iconst (v := 1) hx hb dX4_cls_146 (by decide) ?_
              refine lv_goto (tgt := 151) hx hb dX4_cls_147 (by decide) ?_
              exact mw_zret (v := 1) (ty := .boolean) hE hr hlocks hP hS dX4_cls_151 (rfl) (⟨_, rfl, hV, Or.inr ⟨5, by decide, rfl, by simp [clsf, bz, c_8, c_26, c_131, c_137]⟩⟩)
            · refine lv_iload_n hx hb dX4_cls_140 rfl (lv_at hl 3 rfl) ?_
              refine lv_bipush (v := nI 127) hx hb dX4_cls_141 (by decide) ?_
              refine lv_icmp_ne (tgt := 150) hx hb dX4_cls_143 (by decide) (fun c_143 => ?_) (fun c_143 => ?_)
              · refine lv_iconst (v := 0) hx hb dX4_cls_150 (by decide) ?_
                exact mw_zret (v := 0) (ty := .boolean) hE hr hlocks hP hS dX4_cls_151 (rfl) (⟨_, rfl, hV, Or.inr ⟨5, by decide, rfl, by simp [clsf, bz, c_8, c_26, c_131, c_137, c_143]⟩⟩)
              · refine lv_iconst (v := 1) hx hb dX4_cls_146 (by decide) ?_
                refine lv_goto (tgt := 151) hx hb dX4_cls_147 (by decide) ?_
                exact mw_zret (v := 1) (ty := .boolean) hE hr hlocks hP hS dX4_cls_151 (rfl) (⟨_, rfl, hV, Or.inr ⟨5, by decide, rfl, by simp [clsf, bz, c_8, c_26, c_131, c_137, c_143]⟩⟩)
    · refine lv_iload_n hx hb dX4_cls_29 rfl (lv_at hl 2 rfl) ?_
      refine lv_bipush (v := nI 122) hx hb dX4_cls_30 (by decide) ?_
      refine lv_icmp_gt (tgt := 39) hx hb dX4_cls_32 (by decide) (fun c_32 => ?_) (fun c_32 => ?_)
      · refine lv_iconst (v := 0) hx hb dX4_cls_39 (by decide) ?_
        refine lv_istore (lv' := [(4, .int 0), (3, .int 0), (0, .ref (ad 0)), (1, .int x), (2, .int y)]) hx hb dX4_cls_40 hl (by decide) rfl (fun ls hl => ?_)
        refine lv_iload_n hx hb dX4_cls_42 rfl (lv_at hl 4 rfl) ?_
        rcases sw_cases y 6 (by decide) with hw_14 | ⟨jw_14, hjw_14, ew_14⟩
        · refine lv_tableOut (tgt := 152) hx hb dX4_cls_43 (sw_out (by decide) hw_14) (by decide) ?_
          refine lv_iconst (v := 0) hx hb dX4_cls_152 (by decide) ?_
          exact mw_zret (v := 0) (ty := .boolean) hE hr hlocks hP hS dX4_cls_153 (rfl) (⟨_, rfl, hV, Or.inl ⟨hw_14, rfl⟩⟩)
        · rcases (show jw_14 = 0 ∨ jw_14 = 1 ∨ jw_14 = 2 ∨ jw_14 = 3 ∨ jw_14 = 4 ∨ jw_14 = 5 by omega) with rfl | rfl | rfl | rfl | rfl | rfl
          · subst ew_14
            refine lv_tableIn (off := (37)) (tgt := 80) hx hb dX4_cls_43 (by decide +kernel) (by decide +kernel) (by decide +kernel) (by decide) ?_
            refine lv_iload_n hx hb dX4_cls_80 rfl (lv_at hl 3 rfl) ?_
            refine lv_bipush (v := nI 48) hx hb dX4_cls_81 (by decide) ?_
            refine lv_icmp_lt (tgt := 96) hx hb dX4_cls_83 (by decide) (fun c_83 => ?_) (fun c_83 => ?_)
            · refine lv_iconst (v := 0) hx hb dX4_cls_96 (by decide) ?_
              exact mw_zret (v := 0) (ty := .boolean) hE hr hlocks hP hS dX4_cls_97 (rfl) (⟨_, rfl, hV, Or.inr ⟨0, by decide, rfl, by simp [clsf, bz, c_8, c_26, c_32, c_83]⟩⟩)
            · refine lv_iload_n hx hb dX4_cls_86 rfl (lv_at hl 3 rfl) ?_
              refine lv_bipush (v := nI 57) hx hb dX4_cls_87 (by decide) ?_
              refine lv_icmp_gt (tgt := 96) hx hb dX4_cls_89 (by decide) (fun c_89 => ?_) (fun c_89 => ?_)
              · refine lv_iconst (v := 0) hx hb dX4_cls_96 (by decide) ?_
                exact mw_zret (v := 0) (ty := .boolean) hE hr hlocks hP hS dX4_cls_97 (rfl) (⟨_, rfl, hV, Or.inr ⟨0, by decide, rfl, by simp [clsf, bz, c_8, c_26, c_32, c_83, c_89]⟩⟩)
              · refine lv_iconst (v := 1) hx hb dX4_cls_92 (by decide) ?_
                refine lv_goto (tgt := 97) hx hb dX4_cls_93 (by decide) ?_
                exact mw_zret (v := 1) (ty := .boolean) hE hr hlocks hP hS dX4_cls_97 (rfl) (⟨_, rfl, hV, Or.inr ⟨0, by decide, rfl, by simp [clsf, bz, c_8, c_26, c_32, c_83, c_89]⟩⟩)
          · subst ew_14
            refine lv_tableIn (off := (55)) (tgt := 98) hx hb dX4_cls_43 (by decide +kernel) (by decide +kernel) (by decide +kernel) (by decide) ?_
            refine lv_iload_n hx hb dX4_cls_98 rfl (lv_at hl 1 rfl) ?_
            refine lv_if_ne (tgt := 107) hx hb dX4_cls_99 (by decide) (fun c9 => absurd (by decide) c9) (fun _ => ?_)
            refine lv_iload hx hb dX4_cls_102 (lv_at hl 0 rfl) ?_
            refine lv_if_eq (tgt := 111) hx hb dX4_cls_104 (by decide) (fun _ => ?_) (fun c9 => absurd (by decide) c9)
            refine lv_iconst (v := 0) hx hb dX4_cls_111 (by decide) ?_
            exact mw_zret (v := 0) (ty := .boolean) hE hr hlocks hP hS dX4_cls_112 (rfl) (⟨_, rfl, hV, Or.inr ⟨1, by decide, rfl, by simp [clsf, bz, c_8, c_26, c_32]⟩⟩)
          · subst ew_14
            refine lv_tableIn (off := (70)) (tgt := 113) hx hb dX4_cls_43 (by decide +kernel) (by decide +kernel) (by decide +kernel) (by decide) ?_
            refine lv_iload_n hx hb dX4_cls_113 rfl (lv_at hl 1 rfl) ?_
            exact mw_zret (v := 0) (ty := .boolean) hE hr hlocks hP hS dX4_cls_114 (rfl) (⟨_, rfl, hV, Or.inr ⟨2, by decide, rfl, by simp [clsf, bz, c_8, c_26, c_32]⟩⟩)
          · subst ew_14
            refine lv_tableIn (off := (72)) (tgt := 115) hx hb dX4_cls_43 (by decide +kernel) (by decide +kernel) (by decide +kernel) (by decide) ?_
            refine lv_iload hx hb dX4_cls_115 (lv_at hl 0 rfl) ?_
            exact mw_zret (v := 0) (ty := .boolean) hE hr hlocks hP hS dX4_cls_117 (rfl) (⟨_, rfl, hV, Or.inr ⟨3, by decide, rfl, by simp [clsf, bz, c_8, c_26, c_32]⟩⟩)
          · subst ew_14
            refine lv_tableIn (off := (75)) (tgt := 118) hx hb dX4_cls_43 (by decide +kernel) (by decide +kernel) (by decide +kernel) (by decide) ?_
            refine lv_iload_n hx hb dX4_cls_118 rfl (lv_at hl 3 rfl) ?_
            refine lv_bipush (v := nI 32) hx hb dX4_cls_119 (by decide) ?_
            refine lv_icmp_ne (tgt := 128) hx hb dX4_cls_121 (by decide) (fun c_121 => ?_) (fun c_121 => ?_)
            · refine lv_iconst (v := 0) hx hb dX4_cls_128 (by decide) ?_
              exact mw_zret (v := 0) (ty := .boolean) hE hr hlocks hP hS dX4_cls_129 (rfl) (⟨_, rfl, hV, Or.inr ⟨4, by decide, rfl, by simp [clsf, bz, c_8, c_26, c_32, c_121]⟩⟩)
            · refine lv_iconst (v := 1) hx hb dX4_cls_124 (by decide) ?_
              refine lv_goto (tgt := 129) hx hb dX4_cls_125 (by decide) ?_
              exact mw_zret (v := 1) (ty := .boolean) hE hr hlocks hP hS dX4_cls_129 (rfl) (⟨_, rfl, hV, Or.inr ⟨4, by decide, rfl, by simp [clsf, bz, c_8, c_26, c_32, c_121]⟩⟩)
          · subst ew_14
            refine lv_tableIn (off := (87)) (tgt := 130) hx hb dX4_cls_43 (by decide +kernel) (by decide +kernel) (by decide +kernel) (by decide) ?_
            refine lv_iload_n hx hb dX4_cls_130 rfl (lv_at hl 3 rfl) ?_
            refine lv_if_lt (tgt := 140) hx hb dX4_cls_131 (by decide) (fun c_131 => ?_) (fun c_131 => ?_)
            · refine lv_iload_n hx hb dX4_cls_140 rfl (lv_at hl 3 rfl) ?_
              refine lv_bipush (v := nI 127) hx hb dX4_cls_141 (by decide) ?_
              refine lv_icmp_ne (tgt := 150) hx hb dX4_cls_143 (by decide) (fun c_143 => ?_) (fun c_143 => ?_)
              · refine lv_iconst (v := 0) hx hb dX4_cls_150 (by decide) ?_
                exact mw_zret (v := 0) (ty := .boolean) hE hr hlocks hP hS dX4_cls_151 (rfl) (⟨_, rfl, hV, Or.inr ⟨5, by decide, rfl, by simp [clsf, bz, c_8, c_26, c_32, c_131, c_143]⟩⟩)
              · refine lv_iconst (v := 1) hx hb dX4_cls_146 (by decide) ?_
                refine lv_goto (tgt := 151) hx hb dX4_cls_147 (by decide) ?_
                exact mw_zret (v := 1) (ty := .boolean) hE hr hlocks hP hS dX4_cls_151 (rfl) (⟨_, rfl, hV, Or.inr ⟨5, by decide, rfl, by simp [clsf, bz, c_8, c_26, c_32, c_131, c_143]⟩⟩)
            · refine lv_iload_n hx hb dX4_cls_134 rfl (lv_at hl 3 rfl) ?_
              refine lv_bipush (v := nI 32) hx hb dX4_cls_135 (by decide) ?_
              refine lv_icmp_lt (tgt := 146) hx hb dX4_cls_137 (by decide) (fun c_137 => ?_) (fun c_137 => ?_)
              · refine lv_iconst (v := 1) hx hb dX4_cls_146 (by decide) ?_
                refine lv_goto (tgt := 151) hx hb dX4_cls_147 (by decide) ?_
                exact mw_zret (v := 1) (ty := .boolean) hE hr hlocks hP hS dX4_cls_151 (rfl) (⟨_, rfl, hV, Or.inr ⟨5, by decide, rfl, by simp [clsf, bz, c_8, c_26, c_32, c_131, c_137]⟩⟩)
              · refine lv_iload_n hx hb dX4_cls_140 rfl (lv_at hl 3 rfl) ?_
                refine lv_bipush (v := nI 127) hx hb dX4_cls_141 (by decide) ?_
                refine lv_icmp_ne (tgt := 150) hx hb dX4_cls_143 (by decide) (fun c_143 => ?_) (fun c_143 => ?_)
                · refine lv_iconst (v := 0) hx hb dX4_cls_150 (by decide) ?_
                  exact mw_zret (v := 0) (ty := .boolean) hE hr hlocks hP hS dX4_cls_151 (rfl) (⟨_, rfl, hV, Or.inr ⟨5, by decide, rfl, by simp [clsf, bz, c_8, c_26, c_32, c_131, c_137, c_143]⟩⟩)
                · refine lv_iconst (v := 1) hx hb dX4_cls_146 (by decide) ?_
                  refine lv_goto (tgt := 151) hx hb dX4_cls_147 (by decide) ?_
                  exact mw_zret (v := 1) (ty := .boolean) hE hr hlocks hP hS dX4_cls_151 (rfl) (⟨_, rfl, hV, Or.inr ⟨5, by decide, rfl, by simp [clsf, bz, c_8, c_26, c_32, c_131, c_137, c_143]⟩⟩)
      · refine lv_iconst (v := 1) hx hb dX4_cls_35 (by decide) ?_
        refine lv_goto (tgt := 40) hx hb dX4_cls_36 (by decide) ?_
        refine lv_istore (lv' := [(4, .int 1), (3, .int 0), (0, .ref (ad 0)), (1, .int x), (2, .int y)]) hx hb dX4_cls_40 hl (by decide) rfl (fun ls hl => ?_)
        refine lv_iload_n hx hb dX4_cls_42 rfl (lv_at hl 4 rfl) ?_
        rcases sw_cases y 6 (by decide) with hw_24 | ⟨jw_24, hjw_24, ew_24⟩
        · refine lv_tableOut (tgt := 152) hx hb dX4_cls_43 (sw_out (by decide) hw_24) (by decide) ?_
          refine lv_iconst (v := 0) hx hb dX4_cls_152 (by decide) ?_
          exact mw_zret (v := 0) (ty := .boolean) hE hr hlocks hP hS dX4_cls_153 (rfl) (⟨_, rfl, hV, Or.inl ⟨hw_24, rfl⟩⟩)
        · rcases (show jw_24 = 0 ∨ jw_24 = 1 ∨ jw_24 = 2 ∨ jw_24 = 3 ∨ jw_24 = 4 ∨ jw_24 = 5 by omega) with rfl | rfl | rfl | rfl | rfl | rfl
          · subst ew_24
            refine lv_tableIn (off := (37)) (tgt := 80) hx hb dX4_cls_43 (by decide +kernel) (by decide +kernel) (by decide +kernel) (by decide) ?_
            refine lv_iload_n hx hb dX4_cls_80 rfl (lv_at hl 3 rfl) ?_
            refine lv_bipush (v := nI 48) hx hb dX4_cls_81 (by decide) ?_
            refine lv_icmp_lt (tgt := 96) hx hb dX4_cls_83 (by decide) (fun c_83 => ?_) (fun c_83 => ?_)
            · refine lv_iconst (v := 0) hx hb dX4_cls_96 (by decide) ?_
              exact mw_zret (v := 0) (ty := .boolean) hE hr hlocks hP hS dX4_cls_97 (rfl) (⟨_, rfl, hV, Or.inr ⟨0, by decide, rfl, by simp [clsf, bz, c_8, c_26, c_32, c_83]⟩⟩)
            · refine lv_iload_n hx hb dX4_cls_86 rfl (lv_at hl 3 rfl) ?_
              refine lv_bipush (v := nI 57) hx hb dX4_cls_87 (by decide) ?_
              refine lv_icmp_gt (tgt := 96) hx hb dX4_cls_89 (by decide) (fun c_89 => ?_) (fun c_89 => ?_)
              · refine lv_iconst (v := 0) hx hb dX4_cls_96 (by decide) ?_
                exact mw_zret (v := 0) (ty := .boolean) hE hr hlocks hP hS dX4_cls_97 (rfl) (⟨_, rfl, hV, Or.inr ⟨0, by decide, rfl, by simp [clsf, bz, c_8, c_26, c_32, c_83, c_89]⟩⟩)
              · refine lv_iconst (v := 1) hx hb dX4_cls_92 (by decide) ?_
                refine lv_goto (tgt := 97) hx hb dX4_cls_93 (by decide) ?_
                exact mw_zret (v := 1) (ty := .boolean) hE hr hlocks hP hS dX4_cls_97 (rfl) (⟨_, rfl, hV, Or.inr ⟨0, by decide, rfl, by simp [clsf, bz, c_8, c_26, c_32, c_83, c_89]⟩⟩)
          · subst ew_24
            refine lv_tableIn (off := (55)) (tgt := 98) hx hb dX4_cls_43 (by decide +kernel) (by decide +kernel) (by decide +kernel) (by decide) ?_
            refine lv_iload_n hx hb dX4_cls_98 rfl (lv_at hl 1 rfl) ?_
            refine lv_if_ne (tgt := 107) hx hb dX4_cls_99 (by decide) (fun c9 => absurd (by decide) c9) (fun _ => ?_)
            refine lv_iload hx hb dX4_cls_102 (lv_at hl 0 rfl) ?_
            refine lv_if_eq (tgt := 111) hx hb dX4_cls_104 (by decide) (fun c9 => absurd c9 (by decide)) (fun _ => ?_)
            refine lv_iconst (v := 1) hx hb dX4_cls_107 (by decide) ?_
            refine lv_goto (tgt := 112) hx hb dX4_cls_108 (by decide) ?_
            exact mw_zret (v := 1) (ty := .boolean) hE hr hlocks hP hS dX4_cls_112 (rfl) (⟨_, rfl, hV, Or.inr ⟨1, by decide, rfl, by simp [clsf, bz, c_8, c_26, c_32]⟩⟩)
          · subst ew_24
            refine lv_tableIn (off := (70)) (tgt := 113) hx hb dX4_cls_43 (by decide +kernel) (by decide +kernel) (by decide +kernel) (by decide) ?_
            refine lv_iload_n hx hb dX4_cls_113 rfl (lv_at hl 1 rfl) ?_
            exact mw_zret (v := 0) (ty := .boolean) hE hr hlocks hP hS dX4_cls_114 (rfl) (⟨_, rfl, hV, Or.inr ⟨2, by decide, rfl, by simp [clsf, bz, c_8, c_26, c_32]⟩⟩)
          · subst ew_24
            refine lv_tableIn (off := (72)) (tgt := 115) hx hb dX4_cls_43 (by decide +kernel) (by decide +kernel) (by decide +kernel) (by decide) ?_
            refine lv_iload hx hb dX4_cls_115 (lv_at hl 0 rfl) ?_
            exact mw_zret (v := 1) (ty := .boolean) hE hr hlocks hP hS dX4_cls_117 (rfl) (⟨_, rfl, hV, Or.inr ⟨3, by decide, rfl, by simp [clsf, bz, c_8, c_26, c_32]⟩⟩)
          · subst ew_24
            refine lv_tableIn (off := (75)) (tgt := 118) hx hb dX4_cls_43 (by decide +kernel) (by decide +kernel) (by decide +kernel) (by decide) ?_
            refine lv_iload_n hx hb dX4_cls_118 rfl (lv_at hl 3 rfl) ?_
            refine lv_bipush (v := nI 32) hx hb dX4_cls_119 (by decide) ?_
            refine lv_icmp_ne (tgt := 128) hx hb dX4_cls_121 (by decide) (fun c_121 => ?_) (fun c_121 => ?_)
            · refine lv_iconst (v := 0) hx hb dX4_cls_128 (by decide) ?_
              exact mw_zret (v := 0) (ty := .boolean) hE hr hlocks hP hS dX4_cls_129 (rfl) (⟨_, rfl, hV, Or.inr ⟨4, by decide, rfl, by simp [clsf, bz, c_8, c_26, c_32, c_121]⟩⟩)
            · refine lv_iconst (v := 1) hx hb dX4_cls_124 (by decide) ?_
              refine lv_goto (tgt := 129) hx hb dX4_cls_125 (by decide) ?_
              exact mw_zret (v := 1) (ty := .boolean) hE hr hlocks hP hS dX4_cls_129 (rfl) (⟨_, rfl, hV, Or.inr ⟨4, by decide, rfl, by simp [clsf, bz, c_8, c_26, c_32, c_121]⟩⟩)
          · subst ew_24
            refine lv_tableIn (off := (87)) (tgt := 130) hx hb dX4_cls_43 (by decide +kernel) (by decide +kernel) (by decide +kernel) (by decide) ?_
            refine lv_iload_n hx hb dX4_cls_130 rfl (lv_at hl 3 rfl) ?_
            refine lv_if_lt (tgt := 140) hx hb dX4_cls_131 (by decide) (fun c_131 => ?_) (fun c_131 => ?_)
            · refine lv_iload_n hx hb dX4_cls_140 rfl (lv_at hl 3 rfl) ?_
              refine lv_bipush (v := nI 127) hx hb dX4_cls_141 (by decide) ?_
              refine lv_icmp_ne (tgt := 150) hx hb dX4_cls_143 (by decide) (fun c_143 => ?_) (fun c_143 => ?_)
              · refine lv_iconst (v := 0) hx hb dX4_cls_150 (by decide) ?_
                exact mw_zret (v := 0) (ty := .boolean) hE hr hlocks hP hS dX4_cls_151 (rfl) (⟨_, rfl, hV, Or.inr ⟨5, by decide, rfl, by simp [clsf, bz, c_8, c_26, c_32, c_131, c_143]⟩⟩)
              · refine lv_iconst (v := 1) hx hb dX4_cls_146 (by decide) ?_
                refine lv_goto (tgt := 151) hx hb dX4_cls_147 (by decide) ?_
                exact mw_zret (v := 1) (ty := .boolean) hE hr hlocks hP hS dX4_cls_151 (rfl) (⟨_, rfl, hV, Or.inr ⟨5, by decide, rfl, by simp [clsf, bz, c_8, c_26, c_32, c_131, c_143]⟩⟩)
            · refine lv_iload_n hx hb dX4_cls_134 rfl (lv_at hl 3 rfl) ?_
              refine lv_bipush (v := nI 32) hx hb dX4_cls_135 (by decide) ?_
              refine lv_icmp_lt (tgt := 146) hx hb dX4_cls_137 (by decide) (fun c_137 => ?_) (fun c_137 => ?_)
              · refine lv_iconst (v := 1) hx hb dX4_cls_146 (by decide) ?_
                refine lv_goto (tgt := 151) hx hb dX4_cls_147 (by decide) ?_
                exact mw_zret (v := 1) (ty := .boolean) hE hr hlocks hP hS dX4_cls_151 (rfl) (⟨_, rfl, hV, Or.inr ⟨5, by decide, rfl, by simp [clsf, bz, c_8, c_26, c_32, c_131, c_137]⟩⟩)
              · refine lv_iload_n hx hb dX4_cls_140 rfl (lv_at hl 3 rfl) ?_
                refine lv_bipush (v := nI 127) hx hb dX4_cls_141 (by decide) ?_
                refine lv_icmp_ne (tgt := 150) hx hb dX4_cls_143 (by decide) (fun c_143 => ?_) (fun c_143 => ?_)
                · refine lv_iconst (v := 0) hx hb dX4_cls_150 (by decide) ?_
                  exact mw_zret (v := 0) (ty := .boolean) hE hr hlocks hP hS dX4_cls_151 (rfl) (⟨_, rfl, hV, Or.inr ⟨5, by decide, rfl, by simp [clsf, bz, c_8, c_26, c_32, c_131, c_137, c_143]⟩⟩)
                · refine lv_iconst (v := 1) hx hb dX4_cls_146 (by decide) ?_
                  refine lv_goto (tgt := 151) hx hb dX4_cls_147 (by decide) ?_
                  exact mw_zret (v := 1) (ty := .boolean) hE hr hlocks hP hS dX4_cls_151 (rfl) (⟨_, rfl, hV, Or.inr ⟨5, by decide, rfl, by simp [clsf, bz, c_8, c_26, c_32, c_131, c_137, c_143]⟩⟩)
  · refine lv_iload_n hx hb dX4_cls_11 rfl (lv_at hl 1 rfl) ?_
    refine lv_bipush (v := nI 90) hx hb dX4_cls_12 (by decide) ?_
    refine lv_icmp_gt (tgt := 21) hx hb dX4_cls_14 (by decide) (fun c_14 => ?_) (fun c_14 => ?_)
    · refine lv_iconst (v := 0) hx hb dX4_cls_21 (by decide) ?_
      refine lv_istore_n (lv' := [(3, .int 0), (0, .ref (ad 0)), (1, .int x), (2, .int y)]) hx hb dX4_cls_22 rfl hl (by decide) rfl (fun ls hl => ?_)
      refine lv_iload_n hx hb dX4_cls_23 rfl (lv_at hl 2 rfl) ?_
      refine lv_bipush (v := nI 97) hx hb dX4_cls_24 (by decide) ?_
      refine lv_icmp_lt (tgt := 39) hx hb dX4_cls_26 (by decide) (fun c_26 => ?_) (fun c_26 => ?_)
      · refine lv_iconst (v := 0) hx hb dX4_cls_39 (by decide) ?_
        refine lv_istore (lv' := [(4, .int 0), (3, .int 0), (0, .ref (ad 0)), (1, .int x), (2, .int y)]) hx hb dX4_cls_40 hl (by decide) rfl (fun ls hl => ?_)
        refine lv_iload_n hx hb dX4_cls_42 rfl (lv_at hl 4 rfl) ?_
        rcases sw_cases y 6 (by decide) with hw_36 | ⟨jw_36, hjw_36, ew_36⟩
        · refine lv_tableOut (tgt := 152) hx hb dX4_cls_43 (sw_out (by decide) hw_36) (by decide) ?_
          refine lv_iconst (v := 0) hx hb dX4_cls_152 (by decide) ?_
          exact mw_zret (v := 0) (ty := .boolean) hE hr hlocks hP hS dX4_cls_153 (rfl) (⟨_, rfl, hV, Or.inl ⟨hw_36, rfl⟩⟩)
        · rcases (show jw_36 = 0 ∨ jw_36 = 1 ∨ jw_36 = 2 ∨ jw_36 = 3 ∨ jw_36 = 4 ∨ jw_36 = 5 by omega) with rfl | rfl | rfl | rfl | rfl | rfl
          · subst ew_36
            refine lv_tableIn (off := (37)) (tgt := 80) hx hb dX4_cls_43 (by decide +kernel) (by decide +kernel) (by decide +kernel) (by decide) ?_
            refine lv_iload_n hx hb dX4_cls_80 rfl (lv_at hl 3 rfl) ?_
            refine lv_bipush (v := nI 48) hx hb dX4_cls_81 (by decide) ?_
            refine lv_icmp_lt (tgt := 96) hx hb dX4_cls_83 (by decide) (fun c_83 => ?_) (fun c_83 => ?_)
            · refine lv_iconst (v := 0) hx hb dX4_cls_96 (by decide) ?_
              exact mw_zret (v := 0) (ty := .boolean) hE hr hlocks hP hS dX4_cls_97 (rfl) (⟨_, rfl, hV, Or.inr ⟨0, by decide, rfl, by simp [clsf, bz, c_8, c_14, c_26, c_83]⟩⟩)
            · refine lv_iload_n hx hb dX4_cls_86 rfl (lv_at hl 3 rfl) ?_
              refine lv_bipush (v := nI 57) hx hb dX4_cls_87 (by decide) ?_
              refine lv_icmp_gt (tgt := 96) hx hb dX4_cls_89 (by decide) (fun c_89 => ?_) (fun c_89 => ?_)
              · refine lv_iconst (v := 0) hx hb dX4_cls_96 (by decide) ?_
                exact mw_zret (v := 0) (ty := .boolean) hE hr hlocks hP hS dX4_cls_97 (rfl) (⟨_, rfl, hV, Or.inr ⟨0, by decide, rfl, by simp [clsf, bz, c_8, c_14, c_26, c_83, c_89]⟩⟩)
              · refine lv_iconst (v := 1) hx hb dX4_cls_92 (by decide) ?_
                refine lv_goto (tgt := 97) hx hb dX4_cls_93 (by decide) ?_
                exact mw_zret (v := 1) (ty := .boolean) hE hr hlocks hP hS dX4_cls_97 (rfl) (⟨_, rfl, hV, Or.inr ⟨0, by decide, rfl, by simp [clsf, bz, c_8, c_14, c_26, c_83, c_89]⟩⟩)
          · subst ew_36
            refine lv_tableIn (off := (55)) (tgt := 98) hx hb dX4_cls_43 (by decide +kernel) (by decide +kernel) (by decide +kernel) (by decide) ?_
            refine lv_iload_n hx hb dX4_cls_98 rfl (lv_at hl 1 rfl) ?_
            refine lv_if_ne (tgt := 107) hx hb dX4_cls_99 (by decide) (fun c9 => absurd (by decide) c9) (fun _ => ?_)
            refine lv_iload hx hb dX4_cls_102 (lv_at hl 0 rfl) ?_
            refine lv_if_eq (tgt := 111) hx hb dX4_cls_104 (by decide) (fun _ => ?_) (fun c9 => absurd (by decide) c9)
            refine lv_iconst (v := 0) hx hb dX4_cls_111 (by decide) ?_
            exact mw_zret (v := 0) (ty := .boolean) hE hr hlocks hP hS dX4_cls_112 (rfl) (⟨_, rfl, hV, Or.inr ⟨1, by decide, rfl, by simp [clsf, bz, c_8, c_14, c_26]⟩⟩)
          · subst ew_36
            refine lv_tableIn (off := (70)) (tgt := 113) hx hb dX4_cls_43 (by decide +kernel) (by decide +kernel) (by decide +kernel) (by decide) ?_
            refine lv_iload_n hx hb dX4_cls_113 rfl (lv_at hl 1 rfl) ?_
            exact mw_zret (v := 0) (ty := .boolean) hE hr hlocks hP hS dX4_cls_114 (rfl) (⟨_, rfl, hV, Or.inr ⟨2, by decide, rfl, by simp [clsf, bz, c_8, c_14, c_26]⟩⟩)
          · subst ew_36
            refine lv_tableIn (off := (72)) (tgt := 115) hx hb dX4_cls_43 (by decide +kernel) (by decide +kernel) (by decide +kernel) (by decide) ?_
            refine lv_iload hx hb dX4_cls_115 (lv_at hl 0 rfl) ?_
            exact mw_zret (v := 0) (ty := .boolean) hE hr hlocks hP hS dX4_cls_117 (rfl) (⟨_, rfl, hV, Or.inr ⟨3, by decide, rfl, by simp [clsf, bz, c_8, c_14, c_26]⟩⟩)
          · subst ew_36
            refine lv_tableIn (off := (75)) (tgt := 118) hx hb dX4_cls_43 (by decide +kernel) (by decide +kernel) (by decide +kernel) (by decide) ?_
            refine lv_iload_n hx hb dX4_cls_118 rfl (lv_at hl 3 rfl) ?_
            refine lv_bipush (v := nI 32) hx hb dX4_cls_119 (by decide) ?_
            refine lv_icmp_ne (tgt := 128) hx hb dX4_cls_121 (by decide) (fun c_121 => ?_) (fun c_121 => ?_)
            · refine lv_iconst (v := 0) hx hb dX4_cls_128 (by decide) ?_
              exact mw_zret (v := 0) (ty := .boolean) hE hr hlocks hP hS dX4_cls_129 (rfl) (⟨_, rfl, hV, Or.inr ⟨4, by decide, rfl, by simp [clsf, bz, c_8, c_14, c_26, c_121]⟩⟩)
            · refine lv_iconst (v := 1) hx hb dX4_cls_124 (by decide) ?_
              refine lv_goto (tgt := 129) hx hb dX4_cls_125 (by decide) ?_
              exact mw_zret (v := 1) (ty := .boolean) hE hr hlocks hP hS dX4_cls_129 (rfl) (⟨_, rfl, hV, Or.inr ⟨4, by decide, rfl, by simp [clsf, bz, c_8, c_14, c_26, c_121]⟩⟩)
          · subst ew_36
            refine lv_tableIn (off := (87)) (tgt := 130) hx hb dX4_cls_43 (by decide +kernel) (by decide +kernel) (by decide +kernel) (by decide) ?_
            refine lv_iload_n hx hb dX4_cls_130 rfl (lv_at hl 3 rfl) ?_
            refine lv_if_lt (tgt := 140) hx hb dX4_cls_131 (by decide) (fun c_131 => ?_) (fun c_131 => ?_)
            · refine lv_iload_n hx hb dX4_cls_140 rfl (lv_at hl 3 rfl) ?_
              refine lv_bipush (v := nI 127) hx hb dX4_cls_141 (by decide) ?_
              refine lv_icmp_ne (tgt := 150) hx hb dX4_cls_143 (by decide) (fun c_143 => ?_) (fun c_143 => ?_)
              · refine lv_iconst (v := 0) hx hb dX4_cls_150 (by decide) ?_
                exact mw_zret (v := 0) (ty := .boolean) hE hr hlocks hP hS dX4_cls_151 (rfl) (⟨_, rfl, hV, Or.inr ⟨5, by decide, rfl, by simp [clsf, bz, c_8, c_14, c_26, c_131, c_143]⟩⟩)
              · refine lv_iconst (v := 1) hx hb dX4_cls_146 (by decide) ?_
                refine lv_goto (tgt := 151) hx hb dX4_cls_147 (by decide) ?_
                exact mw_zret (v := 1) (ty := .boolean) hE hr hlocks hP hS dX4_cls_151 (rfl) (⟨_, rfl, hV, Or.inr ⟨5, by decide, rfl, by simp [clsf, bz, c_8, c_14, c_26, c_131, c_143]⟩⟩)
            · refine lv_iload_n hx hb dX4_cls_134 rfl (lv_at hl 3 rfl) ?_
              refine lv_bipush (v := nI 32) hx hb dX4_cls_135 (by decide) ?_
              refine lv_icmp_lt (tgt := 146) hx hb dX4_cls_137 (by decide) (fun c_137 => ?_) (fun c_137 => ?_)
              · refine lv_iconst (v := 1) hx hb dX4_cls_146 (by decide) ?_
                refine lv_goto (tgt := 151) hx hb dX4_cls_147 (by decide) ?_
                exact mw_zret (v := 1) (ty := .boolean) hE hr hlocks hP hS dX4_cls_151 (rfl) (⟨_, rfl, hV, Or.inr ⟨5, by decide, rfl, by simp [clsf, bz, c_8, c_14, c_26, c_131, c_137]⟩⟩)
              · refine lv_iload_n hx hb dX4_cls_140 rfl (lv_at hl 3 rfl) ?_
                refine lv_bipush (v := nI 127) hx hb dX4_cls_141 (by decide) ?_
                refine lv_icmp_ne (tgt := 150) hx hb dX4_cls_143 (by decide) (fun c_143 => ?_) (fun c_143 => ?_)
                · refine lv_iconst (v := 0) hx hb dX4_cls_150 (by decide) ?_
                  exact mw_zret (v := 0) (ty := .boolean) hE hr hlocks hP hS dX4_cls_151 (rfl) (⟨_, rfl, hV, Or.inr ⟨5, by decide, rfl, by simp [clsf, bz, c_8, c_14, c_26, c_131, c_137, c_143]⟩⟩)
                · refine lv_iconst (v := 1) hx hb dX4_cls_146 (by decide) ?_
                  refine lv_goto (tgt := 151) hx hb dX4_cls_147 (by decide) ?_
                  exact mw_zret (v := 1) (ty := .boolean) hE hr hlocks hP hS dX4_cls_151 (rfl) (⟨_, rfl, hV, Or.inr ⟨5, by decide, rfl, by simp [clsf, bz, c_8, c_14, c_26, c_131, c_137, c_143]⟩⟩)
      · refine lv_iload_n hx hb dX4_cls_29 rfl (lv_at hl 2 rfl) ?_
        refine lv_bipush (v := nI 122) hx hb dX4_cls_30 (by decide) ?_
        refine lv_icmp_gt (tgt := 39) hx hb dX4_cls_32 (by decide) (fun c_32 => ?_) (fun c_32 => ?_)
        · refine lv_iconst (v := 0) hx hb dX4_cls_39 (by decide) ?_
          refine lv_istore (lv' := [(4, .int 0), (3, .int 0), (0, .ref (ad 0)), (1, .int x), (2, .int y)]) hx hb dX4_cls_40 hl (by decide) rfl (fun ls hl => ?_)
          refine lv_iload_n hx hb dX4_cls_42 rfl (lv_at hl 4 rfl) ?_
          rcases sw_cases y 6 (by decide) with hw_47 | ⟨jw_47, hjw_47, ew_47⟩
          · refine lv_tableOut (tgt := 152) hx hb dX4_cls_43 (sw_out (by decide) hw_47) (by decide) ?_
            refine lv_iconst (v := 0) hx hb dX4_cls_152 (by decide) ?_
            exact mw_zret (v := 0) (ty := .boolean) hE hr hlocks hP hS dX4_cls_153 (rfl) (⟨_, rfl, hV, Or.inl ⟨hw_47, rfl⟩⟩)
          · rcases (show jw_47 = 0 ∨ jw_47 = 1 ∨ jw_47 = 2 ∨ jw_47 = 3 ∨ jw_47 = 4 ∨ jw_47 = 5 by omega) with rfl | rfl | rfl | rfl | rfl | rfl
            · subst ew_47
              refine lv_tableIn (off := (37)) (tgt := 80) hx hb dX4_cls_43 (by decide +kernel) (by decide +kernel) (by decide +kernel) (by decide) ?_
              refine lv_iload_n hx hb dX4_cls_80 rfl (lv_at hl 3 rfl) ?_
              refine lv_bipush (v := nI 48) hx hb dX4_cls_81 (by decide) ?_
              refine lv_icmp_lt (tgt := 96) hx hb dX4_cls_83 (by decide) (fun c_83 => ?_) (fun c_83 => ?_)
              · refine lv_iconst (v := 0) hx hb dX4_cls_96 (by decide) ?_
                exact mw_zret (v := 0) (ty := .boolean) hE hr hlocks hP hS dX4_cls_97 (rfl) (⟨_, rfl, hV, Or.inr ⟨0, by decide, rfl, by simp [clsf, bz, c_8, c_14, c_26, c_32, c_83]⟩⟩)
              · refine lv_iload_n hx hb dX4_cls_86 rfl (lv_at hl 3 rfl) ?_
                refine lv_bipush (v := nI 57) hx hb dX4_cls_87 (by decide) ?_
                refine lv_icmp_gt (tgt := 96) hx hb dX4_cls_89 (by decide) (fun c_89 => ?_) (fun c_89 => ?_)
                · refine lv_iconst (v := 0) hx hb dX4_cls_96 (by decide) ?_
                  exact mw_zret (v := 0) (ty := .boolean) hE hr hlocks hP hS dX4_cls_97 (rfl) (⟨_, rfl, hV, Or.inr ⟨0, by decide, rfl, by simp [clsf, bz, c_8, c_14, c_26, c_32, c_83, c_89]⟩⟩)
                · refine lv_iconst (v := 1) hx hb dX4_cls_92 (by decide) ?_
                  refine lv_goto (tgt := 97) hx hb dX4_cls_93 (by decide) ?_
                  exact mw_zret (v := 1) (ty := .boolean) hE hr hlocks hP hS dX4_cls_97 (rfl) (⟨_, rfl, hV, Or.inr ⟨0, by decide, rfl, by simp [clsf, bz, c_8, c_14, c_26, c_32, c_83, c_89]⟩⟩)
            · subst ew_47
              refine lv_tableIn (off := (55)) (tgt := 98) hx hb dX4_cls_43 (by decide +kernel) (by decide +kernel) (by decide +kernel) (by decide) ?_
              refine lv_iload_n hx hb dX4_cls_98 rfl (lv_at hl 1 rfl) ?_
              refine lv_if_ne (tgt := 107) hx hb dX4_cls_99 (by decide) (fun c9 => absurd (by decide) c9) (fun _ => ?_)
              refine lv_iload hx hb dX4_cls_102 (lv_at hl 0 rfl) ?_
              refine lv_if_eq (tgt := 111) hx hb dX4_cls_104 (by decide) (fun _ => ?_) (fun c9 => absurd (by decide) c9)
              refine lv_iconst (v := 0) hx hb dX4_cls_111 (by decide) ?_
              exact mw_zret (v := 0) (ty := .boolean) hE hr hlocks hP hS dX4_cls_112 (rfl) (⟨_, rfl, hV, Or.inr ⟨1, by decide, rfl, by simp [clsf, bz, c_8, c_14, c_26, c_32]⟩⟩)
            · subst ew_47
              refine lv_tableIn (off := (70)) (tgt := 113) hx hb dX4_cls_43 (by decide +kernel) (by decide +kernel) (by decide +kernel) (by decide) ?_
              refine lv_iload_n hx hb dX4_cls_113 rfl (lv_at hl 1 rfl) ?_
              exact mw_zret (v := 0) (ty := .boolean) hE hr hlocks hP hS dX4_cls_114 (rfl) (⟨_, rfl, hV, Or.inr ⟨2, by decide, rfl, by simp [clsf, bz, c_8, c_14, c_26, c_32]⟩⟩)
            · subst ew_47
              refine lv_tableIn (off := (72)) (tgt := 115) hx hb dX4_cls_43 (by decide +kernel) (by decide +kernel) (by decide +kernel) (by decide) ?_
              refine lv_iload hx hb dX4_cls_115 (lv_at hl 0 rfl) ?_
              exact mw_zret (v := 0) (ty := .boolean) hE hr hlocks hP hS dX4_cls_117 (rfl) (⟨_, rfl, hV, Or.inr ⟨3, by decide, rfl, by simp [clsf, bz, c_8, c_14, c_26, c_32]⟩⟩)
            · subst ew_47
              refine lv_tableIn (off := (75)) (tgt := 118) hx hb dX4_cls_43 (by decide +kernel) (by decide +kernel) (by decide +kernel) (by decide) ?_
              refine lv_iload_n hx hb dX4_cls_118 rfl (lv_at hl 3 rfl) ?_
              refine lv_bipush (v := nI 32) hx hb dX4_cls_119 (by decide) ?_
              refine lv_icmp_ne (tgt := 128) hx hb dX4_cls_121 (by decide) (fun c_121 => ?_) (fun c_121 => ?_)
              · refine lv_iconst (v := 0) hx hb dX4_cls_128 (by decide) ?_
                exact mw_zret (v := 0) (ty := .boolean) hE hr hlocks hP hS dX4_cls_129 (rfl) (⟨_, rfl, hV, Or.inr ⟨4, by decide, rfl, by simp [clsf, bz, c_8, c_14, c_26, c_32, c_121]⟩⟩)
              · refine lv_iconst (v := 1) hx hb dX4_cls_124 (by decide) ?_
                refine lv_goto (tgt := 129) hx hb dX4_cls_125 (by decide) ?_
                exact mw_zret (v := 1) (ty := .boolean) hE hr hlocks hP hS dX4_cls_129 (rfl) (⟨_, rfl, hV, Or.inr ⟨4, by decide, rfl, by simp [clsf, bz, c_8, c_14, c_26, c_32, c_121]⟩⟩)
            · subst ew_47
              refine lv_tableIn (off := (87)) (tgt := 130) hx hb dX4_cls_43 (by decide +kernel) (by decide +kernel) (by decide +kernel) (by decide) ?_
              refine lv_iload_n hx hb dX4_cls_130 rfl (lv_at hl 3 rfl) ?_
              refine lv_if_lt (tgt := 140) hx hb dX4_cls_131 (by decide) (fun c_131 => ?_) (fun c_131 => ?_)
              · refine lv_iload_n hx hb dX4_cls_140 rfl (lv_at hl 3 rfl) ?_
                refine lv_bipush (v := nI 127) hx hb dX4_cls_141 (by decide) ?_
                refine lv_icmp_ne (tgt := 150) hx hb dX4_cls_143 (by decide) (fun c_143 => ?_) (fun c_143 => ?_)
                · refine lv_iconst (v := 0) hx hb dX4_cls_150 (by decide) ?_
                  exact mw_zret (v := 0) (ty := .boolean) hE hr hlocks hP hS dX4_cls_151 (rfl) (⟨_, rfl, hV, Or.inr ⟨5, by decide, rfl, by simp [clsf, bz, c_8, c_14, c_26, c_32, c_131, c_143]⟩⟩)
                · refine lv_iconst (v := 1) hx hb dX4_cls_146 (by decide) ?_
                  refine lv_goto (tgt := 151) hx hb dX4_cls_147 (by decide) ?_
                  exact mw_zret (v := 1) (ty := .boolean) hE hr hlocks hP hS dX4_cls_151 (rfl) (⟨_, rfl, hV, Or.inr ⟨5, by decide, rfl, by simp [clsf, bz, c_8, c_14, c_26, c_32, c_131, c_143]⟩⟩)
              · refine lv_iload_n hx hb dX4_cls_134 rfl (lv_at hl 3 rfl) ?_
                refine lv_bipush (v := nI 32) hx hb dX4_cls_135 (by decide) ?_
                refine lv_icmp_lt (tgt := 146) hx hb dX4_cls_137 (by decide) (fun c_137 => ?_) (fun c_137 => ?_)
                · refine lv_iconst (v := 1) hx hb dX4_cls_146 (by decide) ?_
                  refine lv_goto (tgt := 151) hx hb dX4_cls_147 (by decide) ?_
                  exact mw_zret (v := 1) (ty := .boolean) hE hr hlocks hP hS dX4_cls_151 (rfl) (⟨_, rfl, hV, Or.inr ⟨5, by decide, rfl, by simp [clsf, bz, c_8, c_14, c_26, c_32, c_131, c_137]⟩⟩)
                · refine lv_iload_n hx hb dX4_cls_140 rfl (lv_at hl 3 rfl) ?_
                  refine lv_bipush (v := nI 127) hx hb dX4_cls_141 (by decide) ?_
                  refine lv_icmp_ne (tgt := 150) hx hb dX4_cls_143 (by decide) (fun c_143 => ?_) (fun c_143 => ?_)
                  · refine lv_iconst (v := 0) hx hb dX4_cls_150 (by decide) ?_
                    exact mw_zret (v := 0) (ty := .boolean) hE hr hlocks hP hS dX4_cls_151 (rfl) (⟨_, rfl, hV, Or.inr ⟨5, by decide, rfl, by simp [clsf, bz, c_8, c_14, c_26, c_32, c_131, c_137, c_143]⟩⟩)
                  · refine lv_iconst (v := 1) hx hb dX4_cls_146 (by decide) ?_
                    refine lv_goto (tgt := 151) hx hb dX4_cls_147 (by decide) ?_
                    exact mw_zret (v := 1) (ty := .boolean) hE hr hlocks hP hS dX4_cls_151 (rfl) (⟨_, rfl, hV, Or.inr ⟨5, by decide, rfl, by simp [clsf, bz, c_8, c_14, c_26, c_32, c_131, c_137, c_143]⟩⟩)
        · refine lv_iconst (v := 1) hx hb dX4_cls_35 (by decide) ?_
          refine lv_goto (tgt := 40) hx hb dX4_cls_36 (by decide) ?_
          refine lv_istore (lv' := [(4, .int 1), (3, .int 0), (0, .ref (ad 0)), (1, .int x), (2, .int y)]) hx hb dX4_cls_40 hl (by decide) rfl (fun ls hl => ?_)
          refine lv_iload_n hx hb dX4_cls_42 rfl (lv_at hl 4 rfl) ?_
          rcases sw_cases y 6 (by decide) with hw_57 | ⟨jw_57, hjw_57, ew_57⟩
          · refine lv_tableOut (tgt := 152) hx hb dX4_cls_43 (sw_out (by decide) hw_57) (by decide) ?_
            refine lv_iconst (v := 0) hx hb dX4_cls_152 (by decide) ?_
            exact mw_zret (v := 0) (ty := .boolean) hE hr hlocks hP hS dX4_cls_153 (rfl) (⟨_, rfl, hV, Or.inl ⟨hw_57, rfl⟩⟩)
          · rcases (show jw_57 = 0 ∨ jw_57 = 1 ∨ jw_57 = 2 ∨ jw_57 = 3 ∨ jw_57 = 4 ∨ jw_57 = 5 by omega) with rfl | rfl | rfl | rfl | rfl | rfl
            · subst ew_57
              refine lv_tableIn (off := (37)) (tgt := 80) hx hb dX4_cls_43 (by decide +kernel) (by decide +kernel) (by decide +kernel) (by decide) ?_
              refine lv_iload_n hx hb dX4_cls_80 rfl (lv_at hl 3 rfl) ?_
              refine lv_bipush (v := nI 48) hx hb dX4_cls_81 (by decide) ?_
              refine lv_icmp_lt (tgt := 96) hx hb dX4_cls_83 (by decide) (fun c_83 => ?_) (fun c_83 => ?_)
              · refine lv_iconst (v := 0) hx hb dX4_cls_96 (by decide) ?_
                exact mw_zret (v := 0) (ty := .boolean) hE hr hlocks hP hS dX4_cls_97 (rfl) (⟨_, rfl, hV, Or.inr ⟨0, by decide, rfl, by simp [clsf, bz, c_8, c_14, c_26, c_32, c_83]⟩⟩)
              · refine lv_iload_n hx hb dX4_cls_86 rfl (lv_at hl 3 rfl) ?_
                refine lv_bipush (v := nI 57) hx hb dX4_cls_87 (by decide) ?_
                refine lv_icmp_gt (tgt := 96) hx hb dX4_cls_89 (by decide) (fun c_89 => ?_) (fun c_89 => ?_)
                · refine lv_iconst (v := 0) hx hb dX4_cls_96 (by decide) ?_
                  exact mw_zret (v := 0) (ty := .boolean) hE hr hlocks hP hS dX4_cls_97 (rfl) (⟨_, rfl, hV, Or.inr ⟨0, by decide, rfl, by simp [clsf, bz, c_8, c_14, c_26, c_32, c_83, c_89]⟩⟩)
                · refine lv_iconst (v := 1) hx hb dX4_cls_92 (by decide) ?_
                  refine lv_goto (tgt := 97) hx hb dX4_cls_93 (by decide) ?_
                  exact mw_zret (v := 1) (ty := .boolean) hE hr hlocks hP hS dX4_cls_97 (rfl) (⟨_, rfl, hV, Or.inr ⟨0, by decide, rfl, by simp [clsf, bz, c_8, c_14, c_26, c_32, c_83, c_89]⟩⟩)
            · subst ew_57
              refine lv_tableIn (off := (55)) (tgt := 98) hx hb dX4_cls_43 (by decide +kernel) (by decide +kernel) (by decide +kernel) (by decide) ?_
              refine lv_iload_n hx hb dX4_cls_98 rfl (lv_at hl 1 rfl) ?_
              refine lv_if_ne (tgt := 107) hx hb dX4_cls_99 (by decide) (fun c9 => absurd (by decide) c9) (fun _ => ?_)
              refine lv_iload hx hb dX4_cls_102 (lv_at hl 0 rfl) ?_
              refine lv_if_eq (tgt := 111) hx hb dX4_cls_104 (by decide) (fun c9 => absurd c9 (by decide)) (fun _ => ?_)
              refine lv_iconst (v := 1) hx hb dX4_cls_107 (by decide) ?_
              refine lv_goto (tgt := 112) hx hb dX4_cls_108 (by decide) ?_
              exact mw_zret (v := 1) (ty := .boolean) hE hr hlocks hP hS dX4_cls_112 (rfl) (⟨_, rfl, hV, Or.inr ⟨1, by decide, rfl, by simp [clsf, bz, c_8, c_14, c_26, c_32]⟩⟩)
            · subst ew_57
              refine lv_tableIn (off := (70)) (tgt := 113) hx hb dX4_cls_43 (by decide +kernel) (by decide +kernel) (by decide +kernel) (by decide) ?_
              refine lv_iload_n hx hb dX4_cls_113 rfl (lv_at hl 1 rfl) ?_
              exact mw_zret (v := 0) (ty := .boolean) hE hr hlocks hP hS dX4_cls_114 (rfl) (⟨_, rfl, hV, Or.inr ⟨2, by decide, rfl, by simp [clsf, bz, c_8, c_14, c_26, c_32]⟩⟩)
            · subst ew_57
              refine lv_tableIn (off := (72)) (tgt := 115) hx hb dX4_cls_43 (by decide +kernel) (by decide +kernel) (by decide +kernel) (by decide) ?_
              refine lv_iload hx hb dX4_cls_115 (lv_at hl 0 rfl) ?_
              exact mw_zret (v := 1) (ty := .boolean) hE hr hlocks hP hS dX4_cls_117 (rfl) (⟨_, rfl, hV, Or.inr ⟨3, by decide, rfl, by simp [clsf, bz, c_8, c_14, c_26, c_32]⟩⟩)
            · subst ew_57
              refine lv_tableIn (off := (75)) (tgt := 118) hx hb dX4_cls_43 (by decide +kernel) (by decide +kernel) (by decide +kernel) (by decide) ?_
              refine lv_iload_n hx hb dX4_cls_118 rfl (lv_at hl 3 rfl) ?_
              refine lv_bipush (v := nI 32) hx hb dX4_cls_119 (by decide) ?_
              refine lv_icmp_ne (tgt := 128) hx hb dX4_cls_121 (by decide) (fun c_121 => ?_) (fun c_121 => ?_)
              · refine lv_iconst (v := 0) hx hb dX4_cls_128 (by decide) ?_
                exact mw_zret (v := 0) (ty := .boolean) hE hr hlocks hP hS dX4_cls_129 (rfl) (⟨_, rfl, hV, Or.inr ⟨4, by decide, rfl, by simp [clsf, bz, c_8, c_14, c_26, c_32, c_121]⟩⟩)
              · refine lv_iconst (v := 1) hx hb dX4_cls_124 (by decide) ?_
                refine lv_goto (tgt := 129) hx hb dX4_cls_125 (by decide) ?_
                exact mw_zret (v := 1) (ty := .boolean) hE hr hlocks hP hS dX4_cls_129 (rfl) (⟨_, rfl, hV, Or.inr ⟨4, by decide, rfl, by simp [clsf, bz, c_8, c_14, c_26, c_32, c_121]⟩⟩)
            · subst ew_57
              refine lv_tableIn (off := (87)) (tgt := 130) hx hb dX4_cls_43 (by decide +kernel) (by decide +kernel) (by decide +kernel) (by decide) ?_
              refine lv_iload_n hx hb dX4_cls_130 rfl (lv_at hl 3 rfl) ?_
              refine lv_if_lt (tgt := 140) hx hb dX4_cls_131 (by decide) (fun c_131 => ?_) (fun c_131 => ?_)
              · refine lv_iload_n hx hb dX4_cls_140 rfl (lv_at hl 3 rfl) ?_
                refine lv_bipush (v := nI 127) hx hb dX4_cls_141 (by decide) ?_
                refine lv_icmp_ne (tgt := 150) hx hb dX4_cls_143 (by decide) (fun c_143 => ?_) (fun c_143 => ?_)
                · refine lv_iconst (v := 0) hx hb dX4_cls_150 (by decide) ?_
                  exact mw_zret (v := 0) (ty := .boolean) hE hr hlocks hP hS dX4_cls_151 (rfl) (⟨_, rfl, hV, Or.inr ⟨5, by decide, rfl, by simp [clsf, bz, c_8, c_14, c_26, c_32, c_131, c_143]⟩⟩)
                · refine lv_iconst (v := 1) hx hb dX4_cls_146 (by decide) ?_
                  refine lv_goto (tgt := 151) hx hb dX4_cls_147 (by decide) ?_
                  exact mw_zret (v := 1) (ty := .boolean) hE hr hlocks hP hS dX4_cls_151 (rfl) (⟨_, rfl, hV, Or.inr ⟨5, by decide, rfl, by simp [clsf, bz, c_8, c_14, c_26, c_32, c_131, c_143]⟩⟩)
              · refine lv_iload_n hx hb dX4_cls_134 rfl (lv_at hl 3 rfl) ?_
                refine lv_bipush (v := nI 32) hx hb dX4_cls_135 (by decide) ?_
                refine lv_icmp_lt (tgt := 146) hx hb dX4_cls_137 (by decide) (fun c_137 => ?_) (fun c_137 => ?_)
                · refine lv_iconst (v := 1) hx hb dX4_cls_146 (by decide) ?_
                  refine lv_goto (tgt := 151) hx hb dX4_cls_147 (by decide) ?_
                  exact mw_zret (v := 1) (ty := .boolean) hE hr hlocks hP hS dX4_cls_151 (rfl) (⟨_, rfl, hV, Or.inr ⟨5, by decide, rfl, by simp [clsf, bz, c_8, c_14, c_26, c_32, c_131, c_137]⟩⟩)
                · refine lv_iload_n hx hb dX4_cls_140 rfl (lv_at hl 3 rfl) ?_
                  refine lv_bipush (v := nI 127) hx hb dX4_cls_141 (by decide) ?_
                  refine lv_icmp_ne (tgt := 150) hx hb dX4_cls_143 (by decide) (fun c_143 => ?_) (fun c_143 => ?_)
                  · refine lv_iconst (v := 0) hx hb dX4_cls_150 (by decide) ?_
                    exact mw_zret (v := 0) (ty := .boolean) hE hr hlocks hP hS dX4_cls_151 (rfl) (⟨_, rfl, hV, Or.inr ⟨5, by decide, rfl, by simp [clsf, bz, c_8, c_14, c_26, c_32, c_131, c_137, c_143]⟩⟩)
                  · refine lv_iconst (v := 1) hx hb dX4_cls_146 (by decide) ?_
                    refine lv_goto (tgt := 151) hx hb dX4_cls_147 (by decide) ?_
                    exact mw_zret (v := 1) (ty := .boolean) hE hr hlocks hP hS dX4_cls_151 (rfl) (⟨_, rfl, hV, Or.inr ⟨5, by decide, rfl, by simp [clsf, bz, c_8, c_14, c_26, c_32, c_131, c_137, c_143]⟩⟩)
    · refine lv_iconst (v := 1) hx hb dX4_cls_17 (by decide) ?_
      refine lv_goto (tgt := 22) hx hb dX4_cls_18 (by decide) ?_
      refine lv_istore_n (lv' := [(3, .int 1), (0, .ref (ad 0)), (1, .int x), (2, .int y)]) hx hb dX4_cls_22 rfl hl (by decide) rfl (fun ls hl => ?_)
      refine lv_iload_n hx hb dX4_cls_23 rfl (lv_at hl 2 rfl) ?_
      refine lv_bipush (v := nI 97) hx hb dX4_cls_24 (by decide) ?_
      refine lv_icmp_lt (tgt := 39) hx hb dX4_cls_26 (by decide) (fun c_26 => ?_) (fun c_26 => ?_)
      · refine lv_iconst (v := 0) hx hb dX4_cls_39 (by decide) ?_
        refine lv_istore (lv' := [(4, .int 0), (3, .int 1), (0, .ref (ad 0)), (1, .int x), (2, .int y)]) hx hb dX4_cls_40 hl (by decide) rfl (fun ls hl => ?_)
        refine lv_iload_n hx hb dX4_cls_42 rfl (lv_at hl 4 rfl) ?_
        rcases sw_cases y 6 (by decide) with hw_68 | ⟨jw_68, hjw_68, ew_68⟩
        · refine lv_tableOut (tgt := 152) hx hb dX4_cls_43 (sw_out (by decide) hw_68) (by decide) ?_
          refine lv_iconst (v := 0) hx hb dX4_cls_152 (by decide) ?_
          exact mw_zret (v := 0) (ty := .boolean) hE hr hlocks hP hS dX4_cls_153 (rfl) (⟨_, rfl, hV, Or.inl ⟨hw_68, rfl⟩⟩)
        · rcases (show jw_68 = 0 ∨ jw_68 = 1 ∨ jw_68 = 2 ∨ jw_68 = 3 ∨ jw_68 = 4 ∨ jw_68 = 5 by omega) with rfl | rfl | rfl | rfl | rfl | rfl
          · subst ew_68
            refine lv_tableIn (off := (37)) (tgt := 80) hx hb dX4_cls_43 (by decide +kernel) (by decide +kernel) (by decide +kernel) (by decide) ?_
            refine lv_iload_n hx hb dX4_cls_80 rfl (lv_at hl 3 rfl) ?_
            refine lv_bipush (v := nI 48) hx hb dX4_cls_81 (by decide) ?_
            refine lv_icmp_lt (tgt := 96) hx hb dX4_cls_83 (by decide) (fun c_83 => ?_) (fun c_83 => ?_)
            · refine lv_iconst (v := 0) hx hb dX4_cls_96 (by decide) ?_
              exact mw_zret (v := 0) (ty := .boolean) hE hr hlocks hP hS dX4_cls_97 (rfl) (⟨_, rfl, hV, Or.inr ⟨0, by decide, rfl, by simp [clsf, bz, c_8, c_14, c_26, c_83]⟩⟩)
            · refine lv_iload_n hx hb dX4_cls_86 rfl (lv_at hl 3 rfl) ?_
              refine lv_bipush (v := nI 57) hx hb dX4_cls_87 (by decide) ?_
              refine lv_icmp_gt (tgt := 96) hx hb dX4_cls_89 (by decide) (fun c_89 => ?_) (fun c_89 => ?_)
              · refine lv_iconst (v := 0) hx hb dX4_cls_96 (by decide) ?_
                exact mw_zret (v := 0) (ty := .boolean) hE hr hlocks hP hS dX4_cls_97 (rfl) (⟨_, rfl, hV, Or.inr ⟨0, by decide, rfl, by simp [clsf, bz, c_8, c_14, c_26, c_83, c_89]⟩⟩)
              · refine lv_iconst (v := 1) hx hb dX4_cls_92 (by decide) ?_
                refine lv_goto (tgt := 97) hx hb dX4_cls_93 (by decide) ?_
                exact mw_zret (v := 1) (ty := .boolean) hE hr hlocks hP hS dX4_cls_97 (rfl) (⟨_, rfl, hV, Or.inr ⟨0, by decide, rfl, by simp [clsf, bz, c_8, c_14, c_26, c_83, c_89]⟩⟩)
          · subst ew_68
            refine lv_tableIn (off := (55)) (tgt := 98) hx hb dX4_cls_43 (by decide +kernel) (by decide +kernel) (by decide +kernel) (by decide) ?_
            refine lv_iload_n hx hb dX4_cls_98 rfl (lv_at hl 1 rfl) ?_
            refine lv_if_ne (tgt := 107) hx hb dX4_cls_99 (by decide) (fun _ => ?_) (fun c9 => absurd c9 (by decide))
            refine lv_iconst (v := 1) hx hb dX4_cls_107 (by decide) ?_
            refine lv_goto (tgt := 112) hx hb dX4_cls_108 (by decide) ?_
            exact mw_zret (v := 1) (ty := .boolean) hE hr hlocks hP hS dX4_cls_112 (rfl) (⟨_, rfl, hV, Or.inr ⟨1, by decide, rfl, by simp [clsf, bz, c_8, c_14, c_26]⟩⟩)
          · subst ew_68
            refine lv_tableIn (off := (70)) (tgt := 113) hx hb dX4_cls_43 (by decide +kernel) (by decide +kernel) (by decide +kernel) (by decide) ?_
            refine lv_iload_n hx hb dX4_cls_113 rfl (lv_at hl 1 rfl) ?_
            exact mw_zret (v := 1) (ty := .boolean) hE hr hlocks hP hS dX4_cls_114 (rfl) (⟨_, rfl, hV, Or.inr ⟨2, by decide, rfl, by simp [clsf, bz, c_8, c_14, c_26]⟩⟩)
          · subst ew_68
            refine lv_tableIn (off := (72)) (tgt := 115) hx hb dX4_cls_43 (by decide +kernel) (by decide +kernel) (by decide +kernel) (by decide) ?_
            refine lv_iload hx hb dX4_cls_115 (lv_at hl 0 rfl) ?_
            exact mw_zret (v := 0) (ty := .boolean) hE hr hlocks hP hS dX4_cls_117 (rfl) (⟨_, rfl, hV, Or.inr ⟨3, by decide, rfl, by simp [clsf, bz, c_8, c_14, c_26]⟩⟩)
          · subst ew_68
            refine lv_tableIn (off := (75)) (tgt := 118) hx hb dX4_cls_43 (by decide +kernel) (by decide +kernel) (by decide +kernel) (by decide) ?_
            refine lv_iload_n hx hb dX4_cls_118 rfl (lv_at hl 3 rfl) ?_
            refine lv_bipush (v := nI 32) hx hb dX4_cls_119 (by decide) ?_
            refine lv_icmp_ne (tgt := 128) hx hb dX4_cls_121 (by decide) (fun c_121 => ?_) (fun c_121 => ?_)
            · refine lv_iconst (v := 0) hx hb dX4_cls_128 (by decide) ?_
              exact mw_zret (v := 0) (ty := .boolean) hE hr hlocks hP hS dX4_cls_129 (rfl) (⟨_, rfl, hV, Or.inr ⟨4, by decide, rfl, by simp [clsf, bz, c_8, c_14, c_26, c_121]⟩⟩)
            · refine lv_iconst (v := 1) hx hb dX4_cls_124 (by decide) ?_
              refine lv_goto (tgt := 129) hx hb dX4_cls_125 (by decide) ?_
              exact mw_zret (v := 1) (ty := .boolean) hE hr hlocks hP hS dX4_cls_129 (rfl) (⟨_, rfl, hV, Or.inr ⟨4, by decide, rfl, by simp [clsf, bz, c_8, c_14, c_26, c_121]⟩⟩)
          · subst ew_68
            refine lv_tableIn (off := (87)) (tgt := 130) hx hb dX4_cls_43 (by decide +kernel) (by decide +kernel) (by decide +kernel) (by decide) ?_
            refine lv_iload_n hx hb dX4_cls_130 rfl (lv_at hl 3 rfl) ?_
            refine lv_if_lt (tgt := 140) hx hb dX4_cls_131 (by decide) (fun c_131 => ?_) (fun c_131 => ?_)
            · refine lv_iload_n hx hb dX4_cls_140 rfl (lv_at hl 3 rfl) ?_
              refine lv_bipush (v := nI 127) hx hb dX4_cls_141 (by decide) ?_
              refine lv_icmp_ne (tgt := 150) hx hb dX4_cls_143 (by decide) (fun c_143 => ?_) (fun c_143 => ?_)
              · refine lv_iconst (v := 0) hx hb dX4_cls_150 (by decide) ?_
                exact mw_zret (v := 0) (ty := .boolean) hE hr hlocks hP hS dX4_cls_151 (rfl) (⟨_, rfl, hV, Or.inr ⟨5, by decide, rfl, by simp [clsf, bz, c_8, c_14, c_26, c_131, c_143]⟩⟩)
              · refine lv_iconst (v := 1) hx hb dX4_cls_146 (by decide) ?_
                refine lv_goto (tgt := 151) hx hb dX4_cls_147 (by decide) ?_
                exact mw_zret (v := 1) (ty := .boolean) hE hr hlocks hP hS dX4_cls_151 (rfl) (⟨_, rfl, hV, Or.inr ⟨5, by decide, rfl, by simp [clsf, bz, c_8, c_14, c_26, c_131, c_143]⟩⟩)
            · refine lv_iload_n hx hb dX4_cls_134 rfl (lv_at hl 3 rfl) ?_
              refine lv_bipush (v := nI 32) hx hb dX4_cls_135 (by decide) ?_
              refine lv_icmp_lt (tgt := 146) hx hb dX4_cls_137 (by decide) (fun c_137 => ?_) (fun c_137 => ?_)
              · refine lv_iconst (v := 1) hx hb dX4_cls_146 (by decide) ?_
                refine lv_goto (tgt := 151) hx hb dX4_cls_147 (by decide) ?_
                exact mw_zret (v := 1) (ty := .boolean) hE hr hlocks hP hS dX4_cls_151 (rfl) (⟨_, rfl, hV, Or.inr ⟨5, by decide, rfl, by simp [clsf, bz, c_8, c_14, c_26, c_131, c_137]⟩⟩)
              · refine lv_iload_n hx hb dX4_cls_140 rfl (lv_at hl 3 rfl) ?_
                refine lv_bipush (v := nI 127) hx hb dX4_cls_141 (by decide) ?_
                refine lv_icmp_ne (tgt := 150) hx hb dX4_cls_143 (by decide) (fun c_143 => ?_) (fun c_143 => ?_)
                · refine lv_iconst (v := 0) hx hb dX4_cls_150 (by decide) ?_
                  exact mw_zret (v := 0) (ty := .boolean) hE hr hlocks hP hS dX4_cls_151 (rfl) (⟨_, rfl, hV, Or.inr ⟨5, by decide, rfl, by simp [clsf, bz, c_8, c_14, c_26, c_131, c_137, c_143]⟩⟩)
                · refine lv_iconst (v := 1) hx hb dX4_cls_146 (by decide) ?_
                  refine lv_goto (tgt := 151) hx hb dX4_cls_147 (by decide) ?_
                  exact mw_zret (v := 1) (ty := .boolean) hE hr hlocks hP hS dX4_cls_151 (rfl) (⟨_, rfl, hV, Or.inr ⟨5, by decide, rfl, by simp [clsf, bz, c_8, c_14, c_26, c_131, c_137, c_143]⟩⟩)
      · refine lv_iload_n hx hb dX4_cls_29 rfl (lv_at hl 2 rfl) ?_
        refine lv_bipush (v := nI 122) hx hb dX4_cls_30 (by decide) ?_
        refine lv_icmp_gt (tgt := 39) hx hb dX4_cls_32 (by decide) (fun c_32 => ?_) (fun c_32 => ?_)
        · refine lv_iconst (v := 0) hx hb dX4_cls_39 (by decide) ?_
          refine lv_istore (lv' := [(4, .int 0), (3, .int 1), (0, .ref (ad 0)), (1, .int x), (2, .int y)]) hx hb dX4_cls_40 hl (by decide) rfl (fun ls hl => ?_)
          refine lv_iload_n hx hb dX4_cls_42 rfl (lv_at hl 4 rfl) ?_
          rcases sw_cases y 6 (by decide) with hw_78 | ⟨jw_78, hjw_78, ew_78⟩
          · refine lv_tableOut (tgt := 152) hx hb dX4_cls_43 (sw_out (by decide) hw_78) (by decide) ?_
            refine lv_iconst (v := 0) hx hb dX4_cls_152 (by decide) ?_
            exact mw_zret (v := 0) (ty := .boolean) hE hr hlocks hP hS dX4_cls_153 (rfl) (⟨_, rfl, hV, Or.inl ⟨hw_78, rfl⟩⟩)
          · rcases (show jw_78 = 0 ∨ jw_78 = 1 ∨ jw_78 = 2 ∨ jw_78 = 3 ∨ jw_78 = 4 ∨ jw_78 = 5 by omega) with rfl | rfl | rfl | rfl | rfl | rfl
            · subst ew_78
              refine lv_tableIn (off := (37)) (tgt := 80) hx hb dX4_cls_43 (by decide +kernel) (by decide +kernel) (by decide +kernel) (by decide) ?_
              refine lv_iload_n hx hb dX4_cls_80 rfl (lv_at hl 3 rfl) ?_
              refine lv_bipush (v := nI 48) hx hb dX4_cls_81 (by decide) ?_
              refine lv_icmp_lt (tgt := 96) hx hb dX4_cls_83 (by decide) (fun c_83 => ?_) (fun c_83 => ?_)
              · refine lv_iconst (v := 0) hx hb dX4_cls_96 (by decide) ?_
                exact mw_zret (v := 0) (ty := .boolean) hE hr hlocks hP hS dX4_cls_97 (rfl) (⟨_, rfl, hV, Or.inr ⟨0, by decide, rfl, by simp [clsf, bz, c_8, c_14, c_26, c_32, c_83]⟩⟩)
              · refine lv_iload_n hx hb dX4_cls_86 rfl (lv_at hl 3 rfl) ?_
                refine lv_bipush (v := nI 57) hx hb dX4_cls_87 (by decide) ?_
                refine lv_icmp_gt (tgt := 96) hx hb dX4_cls_89 (by decide) (fun c_89 => ?_) (fun c_89 => ?_)
                · refine lv_iconst (v := 0) hx hb dX4_cls_96 (by decide) ?_
                  exact mw_zret (v := 0) (ty := .boolean) hE hr hlocks hP hS dX4_cls_97 (rfl) (⟨_, rfl, hV, Or.inr ⟨0, by decide, rfl, by simp [clsf, bz, c_8, c_14, c_26, c_32, c_83, c_89]⟩⟩)
                · refine lv_iconst (v := 1) hx hb dX4_cls_92 (by decide) ?_
                  refine lv_goto (tgt := 97) hx hb dX4_cls_93 (by decide) ?_
                  exact mw_zret (v := 1) (ty := .boolean) hE hr hlocks hP hS dX4_cls_97 (rfl) (⟨_, rfl, hV, Or.inr ⟨0, by decide, rfl, by simp [clsf, bz, c_8, c_14, c_26, c_32, c_83, c_89]⟩⟩)
            · subst ew_78
              refine lv_tableIn (off := (55)) (tgt := 98) hx hb dX4_cls_43 (by decide +kernel) (by decide +kernel) (by decide +kernel) (by decide) ?_
              refine lv_iload_n hx hb dX4_cls_98 rfl (lv_at hl 1 rfl) ?_
              refine lv_if_ne (tgt := 107) hx hb dX4_cls_99 (by decide) (fun _ => ?_) (fun c9 => absurd c9 (by decide))
              refine lv_iconst (v := 1) hx hb dX4_cls_107 (by decide) ?_
              refine lv_goto (tgt := 112) hx hb dX4_cls_108 (by decide) ?_
              exact mw_zret (v := 1) (ty := .boolean) hE hr hlocks hP hS dX4_cls_112 (rfl) (⟨_, rfl, hV, Or.inr ⟨1, by decide, rfl, by simp [clsf, bz, c_8, c_14, c_26, c_32]⟩⟩)
            · subst ew_78
              refine lv_tableIn (off := (70)) (tgt := 113) hx hb dX4_cls_43 (by decide +kernel) (by decide +kernel) (by decide +kernel) (by decide) ?_
              refine lv_iload_n hx hb dX4_cls_113 rfl (lv_at hl 1 rfl) ?_
              exact mw_zret (v := 1) (ty := .boolean) hE hr hlocks hP hS dX4_cls_114 (rfl) (⟨_, rfl, hV, Or.inr ⟨2, by decide, rfl, by simp [clsf, bz, c_8, c_14, c_26, c_32]⟩⟩)
            · subst ew_78
              refine lv_tableIn (off := (72)) (tgt := 115) hx hb dX4_cls_43 (by decide +kernel) (by decide +kernel) (by decide +kernel) (by decide) ?_
              refine lv_iload hx hb dX4_cls_115 (lv_at hl 0 rfl) ?_
              exact mw_zret (v := 0) (ty := .boolean) hE hr hlocks hP hS dX4_cls_117 (rfl) (⟨_, rfl, hV, Or.inr ⟨3, by decide, rfl, by simp [clsf, bz, c_8, c_14, c_26, c_32]⟩⟩)
            · subst ew_78
              refine lv_tableIn (off := (75)) (tgt := 118) hx hb dX4_cls_43 (by decide +kernel) (by decide +kernel) (by decide +kernel) (by decide) ?_
              refine lv_iload_n hx hb dX4_cls_118 rfl (lv_at hl 3 rfl) ?_
              refine lv_bipush (v := nI 32) hx hb dX4_cls_119 (by decide) ?_
              refine lv_icmp_ne (tgt := 128) hx hb dX4_cls_121 (by decide) (fun c_121 => ?_) (fun c_121 => ?_)
              · refine lv_iconst (v := 0) hx hb dX4_cls_128 (by decide) ?_
                exact mw_zret (v := 0) (ty := .boolean) hE hr hlocks hP hS dX4_cls_129 (rfl) (⟨_, rfl, hV, Or.inr ⟨4, by decide, rfl, by simp [clsf, bz, c_8, c_14, c_26, c_32, c_121]⟩⟩)
              · refine lv_iconst (v := 1) hx hb dX4_cls_124 (by decide) ?_
                refine lv_goto (tgt := 129) hx hb dX4_cls_125 (by decide) ?_
                exact mw_zret (v := 1) (ty := .boolean) hE hr hlocks hP hS dX4_cls_129 (rfl) (⟨_, rfl, hV, Or.inr ⟨4, by decide, rfl, by simp [clsf, bz, c_8, c_14, c_26, c_32, c_121]⟩⟩)
            · subst ew_78
              refine lv_tableIn (off := (87)) (tgt := 130) hx hb dX4_cls_43 (by decide +kernel) (by decide +kernel) (by decide +kernel) (by decide) ?_
              refine lv_iload_n hx hb dX4_cls_130 rfl (lv_at hl 3 rfl) ?_
              refine lv_if_lt (tgt := 140) hx hb dX4_cls_131 (by decide) (fun c_131 => ?_) (fun c_131 => ?_)
              · refine lv_iload_n hx hb dX4_cls_140 rfl (lv_at hl 3 rfl) ?_
                refine lv_bipush (v := nI 127) hx hb dX4_cls_141 (by decide) ?_
                refine lv_icmp_ne (tgt := 150) hx hb dX4_cls_143 (by decide) (fun c_143 => ?_) (fun c_143 => ?_)
                · refine lv_iconst (v := 0) hx hb dX4_cls_150 (by decide) ?_
                  exact mw_zret (v := 0) (ty := .boolean) hE hr hlocks hP hS dX4_cls_151 (rfl) (⟨_, rfl, hV, Or.inr ⟨5, by decide, rfl, by simp [clsf, bz, c_8, c_14, c_26, c_32, c_131, c_143]⟩⟩)
                · refine lv_iconst (v := 1) hx hb dX4_cls_146 (by decide) ?_
                  refine lv_goto (tgt := 151) hx hb dX4_cls_147 (by decide) ?_
                  exact mw_zret (v := 1) (ty := .boolean) hE hr hlocks hP hS dX4_cls_151 (rfl) (⟨_, rfl, hV, Or.inr ⟨5, by decide, rfl, by simp [clsf, bz, c_8, c_14, c_26, c_32, c_131, c_143]⟩⟩)
              · refine lv_iload_n hx hb dX4_cls_134 rfl (lv_at hl 3 rfl) ?_
                refine lv_bipush (v := nI 32) hx hb dX4_cls_135 (by decide) ?_
                refine lv_icmp_lt (tgt := 146) hx hb dX4_cls_137 (by decide) (fun c_137 => ?_) (fun c_137 => ?_)
                · refine lv_iconst (v := 1) hx hb dX4_cls_146 (by decide) ?_
                  refine lv_goto (tgt := 151) hx hb dX4_cls_147 (by decide) ?_
                  exact mw_zret (v := 1) (ty := .boolean) hE hr hlocks hP hS dX4_cls_151 (rfl) (⟨_, rfl, hV, Or.inr ⟨5, by decide, rfl, by simp [clsf, bz, c_8, c_14, c_26, c_32, c_131, c_137]⟩⟩)
                · refine lv_iload_n hx hb dX4_cls_140 rfl (lv_at hl 3 rfl) ?_
                  refine lv_bipush (v := nI 127) hx hb dX4_cls_141 (by decide) ?_
                  refine lv_icmp_ne (tgt := 150) hx hb dX4_cls_143 (by decide) (fun c_143 => ?_) (fun c_143 => ?_)
                  · refine lv_iconst (v := 0) hx hb dX4_cls_150 (by decide) ?_
                    exact mw_zret (v := 0) (ty := .boolean) hE hr hlocks hP hS dX4_cls_151 (rfl) (⟨_, rfl, hV, Or.inr ⟨5, by decide, rfl, by simp [clsf, bz, c_8, c_14, c_26, c_32, c_131, c_137, c_143]⟩⟩)
                  · refine lv_iconst (v := 1) hx hb dX4_cls_146 (by decide) ?_
                    refine lv_goto (tgt := 151) hx hb dX4_cls_147 (by decide) ?_
                    exact mw_zret (v := 1) (ty := .boolean) hE hr hlocks hP hS dX4_cls_151 (rfl) (⟨_, rfl, hV, Or.inr ⟨5, by decide, rfl, by simp [clsf, bz, c_8, c_14, c_26, c_32, c_131, c_137, c_143]⟩⟩)
        · refine lv_iconst (v := 1) hx hb dX4_cls_35 (by decide) ?_
          refine lv_goto (tgt := 40) hx hb dX4_cls_36 (by decide) ?_
          refine lv_istore (lv' := [(4, .int 1), (3, .int 1), (0, .ref (ad 0)), (1, .int x), (2, .int y)]) hx hb dX4_cls_40 hl (by decide) rfl (fun ls hl => ?_)
          refine lv_iload_n hx hb dX4_cls_42 rfl (lv_at hl 4 rfl) ?_
          rcases sw_cases y 6 (by decide) with hw_87 | ⟨jw_87, hjw_87, ew_87⟩
          · refine lv_tableOut (tgt := 152) hx hb dX4_cls_43 (sw_out (by decide) hw_87) (by decide) ?_
            refine lv_iconst (v := 0) hx hb dX4_cls_152 (by decide) ?_
            exact mw_zret (v := 0) (ty := .boolean) hE hr hlocks hP hS dX4_cls_153 (rfl) (⟨_, rfl, hV, Or.inl ⟨hw_87, rfl⟩⟩)
          · rcases (show jw_87 = 0 ∨ jw_87 = 1 ∨ jw_87 = 2 ∨ jw_87 = 3 ∨ jw_87 = 4 ∨ jw_87 = 5 by omega) with rfl | rfl | rfl | rfl | rfl | rfl
            · subst ew_87
              refine lv_tableIn (off := (37)) (tgt := 80) hx hb dX4_cls_43 (by decide +kernel) (by decide +kernel) (by decide +kernel) (by decide) ?_
              refine lv_iload_n hx hb dX4_cls_80 rfl (lv_at hl 3 rfl) ?_
              refine lv_bipush (v := nI 48) hx hb dX4_cls_81 (by decide) ?_
              refine lv_icmp_lt (tgt := 96) hx hb dX4_cls_83 (by decide) (fun c_83 => ?_) (fun c_83 => ?_)
              · refine lv_iconst (v := 0) hx hb dX4_cls_96 (by decide) ?_
                exact mw_zret (v := 0) (ty := .boolean) hE hr hlocks hP hS dX4_cls_97 (rfl) (⟨_, rfl, hV, Or.inr ⟨0, by decide, rfl, by simp [clsf, bz, c_8, c_14, c_26, c_32, c_83]⟩⟩)
              · refine lv_iload_n hx hb dX4_cls_86 rfl (lv_at hl 3 rfl) ?_
                refine lv_bipush (v := nI 57) hx hb dX4_cls_87 (by decide) ?_
                refine lv_icmp_gt (tgt := 96) hx hb dX4_cls_89 (by decide) (fun c_89 => ?_) (fun c_89 => ?_)
                · refine lv_iconst (v := 0) hx hb dX4_cls_96 (by decide) ?_
                  exact mw_zret (v := 0) (ty := .boolean) hE hr hlocks hP hS dX4_cls_97 (rfl) (⟨_, rfl, hV, Or.inr ⟨0, by decide, rfl, by simp [clsf, bz, c_8, c_14, c_26, c_32, c_83, c_89]⟩⟩)
                · refine lv_iconst (v := 1) hx hb dX4_cls_92 (by decide) ?_
                  refine lv_goto (tgt := 97) hx hb dX4_cls_93 (by decide) ?_
                  exact mw_zret (v := 1) (ty := .boolean) hE hr hlocks hP hS dX4_cls_97 (rfl) (⟨_, rfl, hV, Or.inr ⟨0, by decide, rfl, by simp [clsf, bz, c_8, c_14, c_26, c_32, c_83, c_89]⟩⟩)
            · subst ew_87
              refine lv_tableIn (off := (55)) (tgt := 98) hx hb dX4_cls_43 (by decide +kernel) (by decide +kernel) (by decide +kernel) (by decide) ?_
              refine lv_iload_n hx hb dX4_cls_98 rfl (lv_at hl 1 rfl) ?_
              refine lv_if_ne (tgt := 107) hx hb dX4_cls_99 (by decide) (fun _ => ?_) (fun c9 => absurd c9 (by decide))
              refine lv_iconst (v := 1) hx hb dX4_cls_107 (by decide) ?_
              refine lv_goto (tgt := 112) hx hb dX4_cls_108 (by decide) ?_
              exact mw_zret (v := 1) (ty := .boolean) hE hr hlocks hP hS dX4_cls_112 (rfl) (⟨_, rfl, hV, Or.inr ⟨1, by decide, rfl, by simp [clsf, bz, c_8, c_14, c_26, c_32]⟩⟩)
            · subst ew_87
              refine lv_tableIn (off := (70)) (tgt := 113) hx hb dX4_cls_43 (by decide +kernel) (by decide +kernel) (by decide +kernel) (by decide) ?_
              refine lv_iload_n hx hb dX4_cls_113 rfl (lv_at hl 1 rfl) ?_
              exact mw_zret (v := 1) (ty := .boolean) hE hr hlocks hP hS dX4_cls_114 (rfl) (⟨_, rfl, hV, Or.inr ⟨2, by decide, rfl, by simp [clsf, bz, c_8, c_14, c_26, c_32]⟩⟩)
            · subst ew_87
              refine lv_tableIn (off := (72)) (tgt := 115) hx hb dX4_cls_43 (by decide +kernel) (by decide +kernel) (by decide +kernel) (by decide) ?_
              refine lv_iload hx hb dX4_cls_115 (lv_at hl 0 rfl) ?_
              exact mw_zret (v := 1) (ty := .boolean) hE hr hlocks hP hS dX4_cls_117 (rfl) (⟨_, rfl, hV, Or.inr ⟨3, by decide, rfl, by simp [clsf, bz, c_8, c_14, c_26, c_32]⟩⟩)
            · subst ew_87
              refine lv_tableIn (off := (75)) (tgt := 118) hx hb dX4_cls_43 (by decide +kernel) (by decide +kernel) (by decide +kernel) (by decide) ?_
              refine lv_iload_n hx hb dX4_cls_118 rfl (lv_at hl 3 rfl) ?_
              refine lv_bipush (v := nI 32) hx hb dX4_cls_119 (by decide) ?_
              refine lv_icmp_ne (tgt := 128) hx hb dX4_cls_121 (by decide) (fun c_121 => ?_) (fun c_121 => ?_)
              · refine lv_iconst (v := 0) hx hb dX4_cls_128 (by decide) ?_
                exact mw_zret (v := 0) (ty := .boolean) hE hr hlocks hP hS dX4_cls_129 (rfl) (⟨_, rfl, hV, Or.inr ⟨4, by decide, rfl, by simp [clsf, bz, c_8, c_14, c_26, c_32, c_121]⟩⟩)
              · refine lv_iconst (v := 1) hx hb dX4_cls_124 (by decide) ?_
                refine lv_goto (tgt := 129) hx hb dX4_cls_125 (by decide) ?_
                exact mw_zret (v := 1) (ty := .boolean) hE hr hlocks hP hS dX4_cls_129 (rfl) (⟨_, rfl, hV, Or.inr ⟨4, by decide, rfl, by simp [clsf, bz, c_8, c_14, c_26, c_32, c_121]⟩⟩)
            · subst ew_87
              refine lv_tableIn (off := (87)) (tgt := 130) hx hb dX4_cls_43 (by decide +kernel) (by decide +kernel) (by decide +kernel) (by decide) ?_
              refine lv_iload_n hx hb dX4_cls_130 rfl (lv_at hl 3 rfl) ?_
              refine lv_if_lt (tgt := 140) hx hb dX4_cls_131 (by decide) (fun c_131 => ?_) (fun c_131 => ?_)
              · refine lv_iload_n hx hb dX4_cls_140 rfl (lv_at hl 3 rfl) ?_
                refine lv_bipush (v := nI 127) hx hb dX4_cls_141 (by decide) ?_
                refine lv_icmp_ne (tgt := 150) hx hb dX4_cls_143 (by decide) (fun c_143 => ?_) (fun c_143 => ?_)
                · refine lv_iconst (v := 0) hx hb dX4_cls_150 (by decide) ?_
                  exact mw_zret (v := 0) (ty := .boolean) hE hr hlocks hP hS dX4_cls_151 (rfl) (⟨_, rfl, hV, Or.inr ⟨5, by decide, rfl, by simp [clsf, bz, c_8, c_14, c_26, c_32, c_131, c_143]⟩⟩)
                · refine lv_iconst (v := 1) hx hb dX4_cls_146 (by decide) ?_
                  refine lv_goto (tgt := 151) hx hb dX4_cls_147 (by decide) ?_
                  exact mw_zret (v := 1) (ty := .boolean) hE hr hlocks hP hS dX4_cls_151 (rfl) (⟨_, rfl, hV, Or.inr ⟨5, by decide, rfl, by simp [clsf, bz, c_8, c_14, c_26, c_32, c_131, c_143]⟩⟩)
              · refine lv_iload_n hx hb dX4_cls_134 rfl (lv_at hl 3 rfl) ?_
                refine lv_bipush (v := nI 32) hx hb dX4_cls_135 (by decide) ?_
                refine lv_icmp_lt (tgt := 146) hx hb dX4_cls_137 (by decide) (fun c_137 => ?_) (fun c_137 => ?_)
                · refine lv_iconst (v := 1) hx hb dX4_cls_146 (by decide) ?_
                  refine lv_goto (tgt := 151) hx hb dX4_cls_147 (by decide) ?_
                  exact mw_zret (v := 1) (ty := .boolean) hE hr hlocks hP hS dX4_cls_151 (rfl) (⟨_, rfl, hV, Or.inr ⟨5, by decide, rfl, by simp [clsf, bz, c_8, c_14, c_26, c_32, c_131, c_137]⟩⟩)
                · refine lv_iload_n hx hb dX4_cls_140 rfl (lv_at hl 3 rfl) ?_
                  refine lv_bipush (v := nI 127) hx hb dX4_cls_141 (by decide) ?_
                  refine lv_icmp_ne (tgt := 150) hx hb dX4_cls_143 (by decide) (fun c_143 => ?_) (fun c_143 => ?_)
                  · refine lv_iconst (v := 0) hx hb dX4_cls_150 (by decide) ?_
                    exact mw_zret (v := 0) (ty := .boolean) hE hr hlocks hP hS dX4_cls_151 (rfl) (⟨_, rfl, hV, Or.inr ⟨5, by decide, rfl, by simp [clsf, bz, c_8, c_14, c_26, c_32, c_131, c_137, c_143]⟩⟩)
                  · refine lv_iconst (v := 1) hx hb dX4_cls_146 (by decide) ?_
                    refine lv_goto (tgt := 151) hx hb dX4_cls_147 (by decide) ?_
                    exact mw_zret (v := 1) (ty := .boolean) hE hr hlocks hP hS dX4_cls_151 (rfl) (⟨_, rfl, hV, Or.inr ⟨5, by decide, rfl, by simp [clsf, bz, c_8, c_14, c_26, c_32, c_131, c_137, c_143]⟩⟩)

set_option maxRecDepth 20000 in
theorem mX4_print_f34 : Cond.fieldLink RX4 34 "CodePagesModel" "code" "I" ∈ wsX4_print := by decide +kernel
set_option maxRecDepth 20000 in
theorem iX4_print_X4 : ∀ w ∈ u_ws RX4 TX4 14, w ∈ wsX4_print := by decide +kernel
set_option maxHeartbeats 4000000 in
set_option maxRecDepth 100000 in
theorem tX4_print (l : Launch) (D : va_G) (k : Nat → ClassId) (M : mw) (sz : Nat) (ad : Nat → Nat) (v : Nat → Int32) (g : Nat → Nat → Int32) (n : Nat → Nat) (x y : Int32) (hN : mo_N ad) (hV : mo_V v n) (hn9 : mo_B n) (hM : M = mo_M (k 0) ad v g) : Met l yX4_print wsX4_print ({ frames := 1, cells := 0, slots := 0, locals := 20 }) (va_Pc [.ref (ad 0), .int x, .int y] (mw_U D vwCl (TY k) M sz)) (va_Qi (fun r M1 => ∃ v1, M1 = mo_M (k 0) ad v1 g ∧ mo_V v1 n ∧ R_print x y r) (mw_B D vwCl M sz) (mw_A M sz)) 0 0 (mw_A M sz) := by
  refine mw_met (cc := cX4_print) (maxL := 4) (ret := (some .byte)) (lv := [(0, .ref (ad 0)), (1, .int x), (2, .int y)]) (by decide) rfl (Nat.le_of_ble_eq_true rfl) rfl ?_
  intro p e s m below meth c ls hE hr hlocks hin hml hsz hP hS hl
  subst hsz
  have hx := hE.1
  have hb := hE.2.1
  have hA : ∀ q, s.heap.size ≤ q → mw_A M s.heap.size q := fun q h => Or.inr h
  have hP : mw_Q (mw_A M s.heap.size) D vwCl (mo_M (k 0) ad v g) s.heap := by rw [← hM]; exact hP
  obtain ⟨hb0, hb1, hb2, hb3⟩ := hn9
  refine lv_aload_n hx hb dX4_print_0 rfl (lv_at hl 0 rfl) ?_
  refine lv_iconst (v := 0) hx hb dX4_print_1 (by decide) ?_
  refine mo_put hE iX4_print_X4 hP hS 0 (by decide) mX4_print_f34 rfl rfl (by decide +kernel) rfl dX4_print_2 (fun H locs hP hS => ?_)
  refine lv_iload_n hx hb dX4_print_5 rfl (lv_at hl 1 rfl) ?_
  refine mw_calli hP hS hA (va_runS (As := [.int x]) (rest := []) ⟨hx, hb, hml, hE.2.2.2.1, hE.2.2.1⟩ (tX4_isCode l D k _ _ x) (va_cwS 1 hE.2.2.1 gX4_print_X4_isCode rfl rfl rfl (by decide +kernel) ⟨(Nat.le_of_ble_eq_true rfl), (Nat.le_of_ble_eq_true rfl)⟩) (mw_preS hE hP [.int x]) rfl rfl hl.1 rfl (lv_room (Nat.le_of_ble_eq_true rfl)) dX4_print_6 ⟨(Nat.le_of_ble_eq_true rfl), (Nat.le_of_ble_eq_true rfl)⟩) (fun r_1 M1 H locs hw hP hS => ?_)
  obtain ⟨rfl, hw⟩ := hw
  rcases hw with ⟨hq_2, rfl⟩ | ⟨hq_2, rfl⟩
  · obtain ⟨j, hj, rfl⟩ := vp_in_of hq_2 (by omega)
    refine lv_if_ne (tgt := 14) hx hb dX4_print_9 (by decide) (fun _ => ?_) (fun c9 => absurd c9 (by decide))
    refine lv_iload_n hx hb dX4_print_14 rfl (lv_at hl 1 rfl) ?_
    refine lv_bipush (v := nI 16) hx hb dX4_print_15 (by decide) ?_
    refine lv_irem hx hb dX4_print_17 (by decide) ?_
    refine rw_i (v := nI (j % 16)) (pk_rem (by omega) (by decide) (by decide)) ?_
    refine lv_istore_n (lv' := [(3, .int (nI (j % 16))), (0, .ref (ad 0)), (1, .int (nI j)), (2, .int y)]) hx hb dX4_print_18 rfl hl (by decide) rfl (fun ls hl => ?_)
    refine lv_iload_n hx hb dX4_print_19 rfl (lv_at hl 3 rfl) ?_
    rcases sw_cases y 3 (by decide) with hw_4 | ⟨jw_4, hjw_4, ew_4⟩
    · refine lv_tableOut (tgt := 93) hx hb dX4_print_20 (sw_out (by decide) hw_4) (by decide) ?_
      refine lv_iconst (v := 0) hx hb dX4_print_93 (by decide) ?_
      exact mw_zret (v := 0) (ty := .byte) hE hr hlocks hP hS dX4_print_94 (rfl) (⟨_, rfl, hV, Or.inr ⟨j, hj, rfl, Or.inl ⟨hw_4, rfl⟩⟩⟩)
    · rcases (show jw_4 = 0 ∨ jw_4 = 1 ∨ jw_4 = 2 by omega) with rfl | rfl | rfl
      · subst ew_4
        refine lv_tableIn (off := (28)) (tgt := 48) hx hb dX4_print_20 (by decide +kernel) (by decide +kernel) (by decide +kernel) (by decide) ?_
        refine lv_iload_n hx hb dX4_print_48 rfl (lv_at hl 2 rfl) ?_
        refine lv_bipush (v := nI 16) hx hb dX4_print_49 (by decide) ?_
        refine lv_idiv hx hb dX4_print_51 (by decide) ?_
        refine rw_i (v := nI (j / 16)) (pk_div (by omega) (by decide) (by decide)) ?_
        refine mw_calli hP hS hA (va_runS (As := [.int (nI (j / 16))]) (rest := []) ⟨hx, hb, hml, hE.2.2.2.1, hE.2.2.1⟩ (tX4_half l D k _ _ (j / 16) (by omega)) (va_cwS 1 hE.2.2.1 gX4_print_X4_half rfl rfl rfl (by decide +kernel) ⟨(Nat.le_of_ble_eq_true rfl), (Nat.le_of_ble_eq_true rfl)⟩) (mw_preS hE hP [.int (nI (j / 16))]) rfl rfl hl.1 rfl (lv_room (Nat.le_of_ble_eq_true rfl)) dX4_print_52 ⟨(Nat.le_of_ble_eq_true rfl), (Nat.le_of_ble_eq_true rfl)⟩) (fun r_5 M1 H locs hw hP hS => ?_)
        obtain ⟨rfl, rfl⟩ := hw
        exact mw_zret (v := nI (hexn (j / 16))) (ty := .byte) hE hr hlocks hP hS dX4_print_55 (byte_nar (hexn_lt (by omega))) (⟨_, rfl, hV, Or.inr ⟨j, hj, rfl, Or.inr (Or.inl ⟨rfl, rfl⟩)⟩⟩)
      · subst ew_4
        refine lv_tableIn (off := (36)) (tgt := 56) hx hb dX4_print_20 (by decide +kernel) (by decide +kernel) (by decide +kernel) (by decide) ?_
        refine lv_iload_n hx hb dX4_print_56 rfl (lv_at hl 0 rfl) ?_
        refine mw_calli hP hS hA (va_runS (As := [.int (nI (j % 16))]) (rest := []) ⟨hx, hb, hml, hE.2.2.2.1, hE.2.2.1⟩ (tX4_half l D k _ _ (j % 16) (by omega)) (va_cwS 1 hE.2.2.1 gX4_print_X4_half rfl rfl rfl (by decide +kernel) ⟨(Nat.le_of_ble_eq_true rfl), (Nat.le_of_ble_eq_true rfl)⟩) (mw_preS hE hP [.int (nI (j % 16))]) rfl rfl hl.1 rfl (lv_room (Nat.le_of_ble_eq_true rfl)) dX4_print_57 ⟨(Nat.le_of_ble_eq_true rfl), (Nat.le_of_ble_eq_true rfl)⟩) (fun r_6 M1 H locs hw hP hS => ?_)
        obtain ⟨rfl, rfl⟩ := hw
        exact mw_zret (v := nI (hexn (j % 16))) (ty := .byte) hE hr hlocks hP hS dX4_print_60 (byte_nar (hexn_lt (by omega))) (⟨_, rfl, hV, Or.inr ⟨j, hj, rfl, Or.inr (Or.inr (Or.inl ⟨rfl, rfl⟩))⟩⟩)
      · subst ew_4
        refine lv_tableIn (off := (41)) (tgt := 61) hx hb dX4_print_20 (by decide +kernel) (by decide +kernel) (by decide +kernel) (by decide) ?_
        refine lv_iload_n hx hb dX4_print_61 rfl (lv_at hl 0 rfl) ?_
        refine lv_bipush (v := nI 11) hx hb dX4_print_62 (by decide) ?_
        refine lv_icmp_eq (tgt := 73) hx hb dX4_print_64 (by decide) (fun c_64 => ?_) (fun c_64 => ?_)
        · have k_64 : (j % 16) = 11 := nn_eq (a := (j % 16)) (b := 11) c_64 (by omega) (by omega)
          refine lv_bipush (v := nI 45) hx hb dX4_print_73 (by decide) ?_
          refine lv_goto (tgt := 91) hx hb dX4_print_75 (by decide) ?_
          refine lv_i2b (v := nI 45) hx hb dX4_print_91 (byte_ok (by decide)) ?_
          exact mw_zret (v := nI 45) (ty := .byte) hE hr hlocks hP hS dX4_print_92 (byte_nar (by decide)) (⟨_, rfl, hV, Or.inr ⟨j, hj, rfl, Or.inr (Or.inr (Or.inr ⟨rfl, by unfold sgnn; rw [if_pos (by omega)]⟩))⟩⟩)
        · have k_64 : (j % 16) ≠ 11 := nn_neq (a := (j % 16)) (b := 11) c_64 (by omega) (by omega)
          refine lv_iload_n hx hb dX4_print_67 rfl (lv_at hl 0 rfl) ?_
          refine lv_bipush (v := nI 13) hx hb dX4_print_68 (by decide) ?_
          refine lv_icmp_ne (tgt := 78) hx hb dX4_print_70 (by decide) (fun c_70 => ?_) (fun c_70 => ?_)
          · have k_70 : (j % 16) ≠ 13 := nn_neq (a := (j % 16)) (b := 13) c_70 (by omega) (by omega)
            refine lv_iload_n hx hb dX4_print_78 rfl (lv_at hl 0 rfl) ?_
            refine lv_bipush (v := nI 9) hx hb dX4_print_79 (by decide) ?_
            refine lv_icmp_le (tgt := 89) hx hb dX4_print_81 (by decide) (fun c_81 => ?_) (fun c_81 => ?_)
            · have k_81 : (j % 16) ≤ 9 := nn_le (a := (j % 16)) (b := 9) c_81 (by omega) (by omega)
              refine lv_bipush (v := nI 63) hx hb dX4_print_89 (by decide) ?_
              refine lv_i2b (v := nI 63) hx hb dX4_print_91 (byte_ok (by decide)) ?_
              exact mw_zret (v := nI 63) (ty := .byte) hE hr hlocks hP hS dX4_print_92 (byte_nar (by decide)) (⟨_, rfl, hV, Or.inr ⟨j, hj, rfl, Or.inr (Or.inr (Or.inr ⟨rfl, by unfold sgnn; rw [if_neg (by omega), if_neg (by omega)]⟩))⟩⟩)
            · have k_81 : 9 < (j % 16) := nn_nle (a := (j % 16)) (b := 9) c_81 (by omega) (by omega)
              refine lv_bipush (v := nI 43) hx hb dX4_print_84 (by decide) ?_
              refine lv_goto (tgt := 91) hx hb dX4_print_86 (by decide) ?_
              refine lv_i2b (v := nI 43) hx hb dX4_print_91 (byte_ok (by decide)) ?_
              exact mw_zret (v := nI 43) (ty := .byte) hE hr hlocks hP hS dX4_print_92 (byte_nar (by decide)) (⟨_, rfl, hV, Or.inr ⟨j, hj, rfl, Or.inr (Or.inr (Or.inr ⟨rfl, by unfold sgnn; rw [if_neg (by omega), if_pos (by omega)]⟩))⟩⟩)
          · have k_70 : (j % 16) = 13 := nn_eq (a := (j % 16)) (b := 13) c_70 (by omega) (by omega)
            refine lv_bipush (v := nI 45) hx hb dX4_print_73 (by decide) ?_
            refine lv_goto (tgt := 91) hx hb dX4_print_75 (by decide) ?_
            refine lv_i2b (v := nI 45) hx hb dX4_print_91 (byte_ok (by decide)) ?_
            exact mw_zret (v := nI 45) (ty := .byte) hE hr hlocks hP hS dX4_print_92 (byte_nar (by decide)) (⟨_, rfl, hV, Or.inr ⟨j, hj, rfl, Or.inr (Or.inr (Or.inr ⟨rfl, by unfold sgnn; rw [if_pos (by omega)]⟩))⟩⟩)
  · refine lv_if_ne (tgt := 14) hx hb dX4_print_9 (by decide) (fun c9 => absurd (by decide) c9) (fun _ => ?_)
    refine lv_iconst (v := 0) hx hb dX4_print_12 (by decide) ?_
    exact mw_zret (v := 0) (ty := .byte) hE hr hlocks hP hS dX4_print_13 (rfl) (⟨_, rfl, hV, Or.inl ⟨hq_2, rfl⟩⟩)
end
section
set_option maxHeartbeats 4000000 in
set_option maxRecDepth 100000 in
theorem tX1_firstMeaning (l : Launch) (D : va_G) (k : Nat → ClassId) (M : mw) (sz : Nat) (z i : Nat) (hz : z < 3) (hi : i < 256) : Met l yX1_firstMeaning wsX1_firstMeaning ({ frames := 0, cells := 0, slots := 0, locals := 0 }) (va_Pc [.int (nI z), .int (nI i)] (mw_U D vwCl (TY k) M sz)) (va_Qi (fun r M1 => M1 = M ∧ r = fm z i) (mw_B D vwCl M sz) (mw_A M sz)) 0 0 (mw_A M sz) := by
  refine mw_met (cc := cX1_firstMeaning) (maxL := 2) (ret := (some .int)) (lv := [(0, .int (nI z)), (1, .int (nI i))]) (by decide) rfl (Nat.le_of_ble_eq_true rfl) rfl ?_
  intro p e s m below meth c ls hE hr hlocks hin hml hsz hP hS hl
  subst hsz
  have hx := hE.1
  have hb := hE.2.1
  have hA : ∀ q, s.heap.size ≤ q → mw_A M s.heap.size q := fun q h => Or.inr h
  refine lv_iload_n hx hb dX1_firstMeaning_0 rfl (lv_at hl 0 rfl) ?_
  refine lv_if_ne (tgt := 17) hx hb dX1_firstMeaning_1 (by decide) (fun c_1 => ?_) (fun c_1 => ?_)
  · have k_1 : z ≠ 0 := nn_neq (a := z) (b := 0) c_1 (by omega) (by omega)
    refine lv_iload_n hx hb dX1_firstMeaning_17 rfl (lv_at hl 0 rfl) ?_
    refine lv_iconst (v := 1) hx hb dX1_firstMeaning_18 (by decide) ?_
    refine lv_icmp_ne (tgt := 37) hx hb dX1_firstMeaning_19 (by decide) (fun c_19 => ?_) (fun c_19 => ?_)
    · have k_19 : z ≠ 1 := nn_neq (a := z) (b := 1) c_19 (by omega) (by omega)
      refine lv_iconst (v := (-1)) hx hb dX1_firstMeaning_37 (by decide) ?_
      exact mw_iret (v := (-1)) hE hr hlocks hP hS dX1_firstMeaning_38 (⟨rfl, by unfold fm; rw [if_neg k_1, if_neg k_19]⟩)
    · have k_19 : z = 1 := nn_eq (a := z) (b := 1) c_19 (by omega) (by omega)
      refine lv_sipush (v := nI 167) hx hb dX1_firstMeaning_22 (by decide) ?_
      refine lv_iload_n hx hb dX1_firstMeaning_25 rfl (lv_at hl 1 rfl) ?_
      refine lv_imul hx hb dX1_firstMeaning_26 ?_
      refine rw_i (v := nI (167 * i)) (pk_mul _ _) ?_
      refine lv_bipush (v := nI 13) hx hb dX1_firstMeaning_27 (by decide) ?_
      refine lv_iadd hx hb dX1_firstMeaning_29 ?_
      refine rw_i (v := nI ((167 * i) + 13)) (nI_add _ _) ?_
      refine lv_sipush (v := nI 256) hx hb dX1_firstMeaning_30 (by decide) ?_
      refine lv_irem hx hb dX1_firstMeaning_33 (by decide) ?_
      refine rw_i (v := nI ((167 * i + 13) % 256)) (pk_rem (by omega) (by decide) (by decide)) ?_
      refine lv_goto (tgt := 38) hx hb dX1_firstMeaning_34 (by decide) ?_
      exact mw_iret (v := nI ((167 * i + 13) % 256)) hE hr hlocks hP hS dX1_firstMeaning_38 (⟨rfl, by unfold fm; rw [if_neg k_1, if_pos k_19]⟩)
  · have k_1 : z = 0 := nn_eq (a := z) (b := 0) c_1 (by omega) (by omega)
    refine lv_iload_n hx hb dX1_firstMeaning_4 rfl (lv_at hl 1 rfl) ?_
    refine lv_sipush (v := nI 128) hx hb dX1_firstMeaning_5 (by decide) ?_
    refine lv_icmp_ge (tgt := 15) hx hb dX1_firstMeaning_8 (by decide) (fun c_8 => ?_) (fun c_8 => ?_)
    · have k_8 : 128 ≤ i := nn_le (a := 128) (b := i) c_8 (by omega) (by omega)
      refine lv_iconst (v := (-1)) hx hb dX1_firstMeaning_15 (by decide) ?_
      exact mw_iret (v := (-1)) hE hr hlocks hP hS dX1_firstMeaning_16 (⟨rfl, by unfold fm; rw [if_pos k_1, if_neg (by omega)]⟩)
    · have k_8 : i < 128 := nn_nle (a := 128) (b := i) c_8 (by omega) (by omega)
      refine lv_iload_n hx hb dX1_firstMeaning_11 rfl (lv_at hl 1 rfl) ?_
      refine lv_goto (tgt := 16) hx hb dX1_firstMeaning_12 (by decide) ?_
      exact mw_iret (v := nI i) hE hr hlocks hP hS dX1_firstMeaning_16 (⟨rfl, by unfold fm; rw [if_pos k_1, if_pos k_8]⟩)

set_option maxRecDepth 20000 in
theorem mX1_init_f15 : Cond.fieldLink RX1 15 "CodePages$Page" "substitute" "I" ∈ wsX1_init := by decide +kernel
set_option maxRecDepth 20000 in
theorem mX1_init_f9 : Cond.fieldLink RX1 9 "CodePages$Page" "meanings" "[I" ∈ wsX1_init := by decide +kernel
set_option maxRecDepth 20000 in
theorem iX1_init_X1 : ∀ w ∈ u_ws RX1 TX1 2, w ∈ wsX1_init := by decide +kernel
set_option maxRecDepth 20000 in
theorem mX1_init_arrint : Cond.arrayClass .int ∈ wsX1_init := by decide +kernel
set_option maxRecDepth 20000 in
theorem mX1_init_cobj : Cond.code objectInit ⟨#[0xb1]⟩ 1 none ∈ wsX1_init := by decide +kernel
set_option maxRecDepth 20000 in
theorem mX1_init_imobjectInit : Cond.instanceMethod objectInit ∈ wsX1_init := by decide +kernel
set_option maxRecDepth 20000 in
theorem mX1_init_ml3 : Cond.methodLink RX1 3 objectInit ∈ wsX1_init := by decide +kernel
set_option maxHeartbeats 4000000 in
set_option maxRecDepth 100000 in
theorem tX1_init (l : Launch) (D : va_G) (k : Nat → ClassId) (M : mw) (sz : Nat) (a z : Nat) (hz : z < 3) (fa : M a = some (.inr (2, [.null, .int 0]))) : Met l yX1_init wsX1_init ({ frames := 1, cells := 1, slots := 256, locals := 21 }) (va_Pc [.ref a, .int (nI z)] (mw_U D vwCl (TY k) M sz)) (va_Qv (fun M1 => ∃ q, M q = none ∧ M1 a = some (.inr (2, [.ref q, .int (nI 63)])) ∧ M1 q = some (.inl (k 0, 256, .inl (blk (fun _ => 0) 0 256 (fm z)))) ∧ ∀ x, x ≠ a → x ≠ q → M1 x = M x) (mw_B D vwCl M sz) (mw_A M sz)) 1 256 (mw_A M sz) := by
  refine mw_met (cc := cX1_init) (maxL := 3) (ret := none) (lv := [(0, .ref a), (1, .int (nI z))]) (by decide) rfl (Nat.le_of_ble_eq_true rfl) rfl ?_
  intro p e s m below meth c ls hE hr hlocks hin hml hsz hP hS hl
  subst hsz
  have hx := hE.1
  have hb := hE.2.1
  have hA : ∀ q, s.heap.size ≤ q → mw_A M s.heap.size q := fun q h => Or.inr h
  obtain ⟨Q, hQ⟩ : ∃ Q : State → Prop, Q = MQ below (va_Qv (fun M1 => ∃ q, M q = none ∧ M1 a = some (.inr (2, [.ref q, .int (nI 63)])) ∧ M1 q = some (.inl (k 0, 256, .inl (blk (fun _ => 0) 0 256 (fm z)))) ∧ ∀ x, x ≠ a → x ≠ q → M1 x = M x) (mw_B D vwCl M s.heap.size) (mw_A M s.heap.size)) ([.ref a, .int (nI z)] : List Value).toArray s 1 256 (mw_A M s.heap.size) := ⟨_, rfl⟩
  rw [← hQ]
  refine lv_aload_n hx hb dX1_init_0 rfl (lv_at hl 0 rfl) ?_
  refine W.objInit hx hb hE.2.2.2.1 (hE.2.2.1 _ mX1_init_ml3) (hE.2.2.1 _ mX1_init_imobjectInit) (hE.2.2.1 _ mX1_init_cobj) rfl (by rw [hml]; exact hl.1) rfl dX1_init_1 (Nat.le_of_ble_eq_true rfl) (Nat.le_of_ble_eq_true rfl) ?_
  refine W.eq (g2 := F0 m 4 ls []) rfl ?_
  refine lv_aload_n hx hb dX1_init_4 rfl (lv_at hl 0 rfl) ?_
  refine lv_sipush (v := nI 256) hx hb dX1_init_5 (by decide) ?_
  refine mw_newa (atype := .int) (N' := 256) (a0 := (256, .inl (fun _ => 0))) hE (hE.2.2.1 _ mX1_init_arrint) rfl (fun _ _ h => h) hP hS hA 0 rfl rfl (by decide) (by decide) (by decide) (by decide) (by decide) dX1_init_8 (fun q9 H hMq9 hP hS => ?_)
  refine rw_cs (k := 1) (n := 256) (by decide) (by decide) ?_
  obtain ⟨M_1, eM_1⟩ : ∃ Z, Z = mw_up M q9 (.inl (k 0, 256, .inl (fun _ => 0))) := ⟨_, rfl⟩
  have hP : mw_Q (mw_A M s.heap.size) D vwCl M_1 H := by rw [eM_1]; exact hP
  have nf_2_q9 : a ≠ q9 := mw_ne hMq9 fa
  have f_2 : M_1 a = some (.inr (2, [.null, .int 0])) := by rw [eM_1, mw_up_n nf_2_q9]; exact fa
  have f_3 : M_1 q9 = some (.inl (k 0, 256, .inl (fun _ => 0))) := by rw [eM_1]; exact mw_up_s
  refine mw_putF (ty := .array .int) (v := .ref q9) (ci := 2) (T := TX1) (N := 2) (C := RX1) hE iX1_init_X1 tyX1 tyX1_ok nmX1 hP hS f_2 rfl 0 (by decide) (hE.2.2.1 _ mX1_init_f9) rfl rfl hin rfl (by decide +kernel) rfl rfl (Nat.le_of_ble_eq_true rfl) dX1_init_10 (fun H locs hP hS => ?_)
  obtain ⟨M_4, eM_4⟩ : ∃ Z, Z = mw_up M_1 a (.inr (2, [.ref q9, .int 0])) := ⟨_, rfl⟩
  have hP : mw_Q (mw_A M s.heap.size) D vwCl M_4 H := by rw [eM_4]; exact hP
  have f_5 : M_4 a = some (.inr (2, [.ref q9, .int 0])) := by rw [eM_4]; exact mw_up_s
  have f_6 : M_4 q9 = some (.inl ((k 0), 256, .inl (fun _ => 0))) := by rw [eM_4, mw_up_n (Ne.symm nf_2_q9)]; exact f_3
  have hq9 := hMq9
  refine lv_aload_n hx hb dX1_init_13 rfl (lv_at hl 0 rfl) ?_
  refine lv_bipush (v := nI 63) hx hb dX1_init_14 (by decide) ?_
  refine mw_put (ty := .int) (v := .int (nI 63)) (ci := 2) (T := TX1) (N := 2) (C := RX1) hE iX1_init_X1 tyX1 tyX1_ok nmX1 hP hS f_5 rfl 1 (by decide) (hE.2.2.1 _ mX1_init_f15) rfl rfl (by decide +kernel) rfl rfl (Nat.le_of_ble_eq_true rfl) dX1_init_16 (fun H locs hP hS => ?_)
  obtain ⟨M_7, eM_7⟩ : ∃ Z, Z = mw_up M_4 a (.inr (2, [.ref q9, .int (nI 63)])) := ⟨_, rfl⟩
  have hP : mw_Q (mw_A M s.heap.size) D vwCl M_7 H := by rw [eM_7]; exact hP
  have f_8 : M_7 a = some (.inr (2, [.ref q9, .int (nI 63)])) := by rw [eM_7]; exact mw_up_s
  have f_9 : M_7 q9 = some (.inl ((k 0), 256, .inl (fun _ => 0))) := by rw [eM_7, mw_up_n (Ne.symm nf_2_q9)]; exact f_6
  refine lv_iconst (v := 0) hx hb dX1_init_19 (by decide) ?_
  refine lv_istore_n (lv' := [(2, .int 0), (0, .ref a), (1, .int (nI z))]) hx hb dX1_init_20 rfl hl (by decide) rfl (fun ls hl => ?_)
  have hfr0 : ∀ x, x ≠ a → x ≠ q9 → M_7 x = M x := fun x h1 h2 => by rw [eM_7, mw_up_n h1, eM_4, mw_up_n h1, eM_1, mw_up_n h2]
  have lp_21 : ∀ (fu : Nat) (i : Nat) (M1 : mw), (i ≤ 256) → (M1 a = some (.inr (2, [.ref q9, .int (nI 63)]))) → (M1 q9 = some (.inl (k 0, 256, .inl (blk (fun _ => 0) 0 i (fm z))))) → (∀ x, x ≠ a → x ≠ q9 → M1 x = M x) → 256 - i < fu → ∀ (H : Heap) (locs : List Loc), mw_Q (mw_A M s.heap.size) D vwCl M1 H → va_S (mw_A M s.heap.size) s.heap H locs → ∀ ls : Array Slot, lv_has ls 3 [(0, .ref a), (1, .int (nI z)), (2, .int (nI i))] → W p l e ({ frames := 1, cells := 1, slots := 256, locals := 21 } : Room) s m ([.ref a, .int (nI z)] : List Value).toArray below meth c H locs 1 256 Q (F0 m 21 ls []) := by
    intro fu
    induction fu with
    | zero => intro i M1 hi g1 g2 hf hn; exact absurd hn (Nat.not_lt_zero _)
    | succ fu ih_21 =>
      intro i M1 hi g1 g2 hf hn H locs hP hS ls hl
      refine lv_iload_n hx hb dX1_init_21 rfl (lv_at hl 2 rfl) ?_
      refine lv_sipush (v := nI 256) hx hb dX1_init_22 (by decide) ?_
      refine lv_icmp_ge (tgt := 45) hx hb dX1_init_25 (by decide) (fun c_25 => ?_) (fun c_25 => ?_)
      · have k_25 : 256 ≤ i := nn_le (a := 256) (b := i) c_25 (by omega) (by omega)
        rw [hQ]
        exact mw_vret hE hr hlocks hP hS dX1_init_45 (⟨q9, hq9, g1, by rw [g2, show i = 256 by omega], hf⟩)
      · have k_25 : i < 256 := nn_nle (a := 256) (b := i) c_25 (by omega) (by omega)
        refine lv_aload_n hx hb dX1_init_28 rfl (lv_at hl 0 rfl) ?_
        refine mw_get (v := .ref q9) (ci := 2) (T := TX1) (N := 2) (C := RX1) hE iX1_init_X1 hP g1 rfl 0 (by decide) (hE.2.2.1 _ mX1_init_f9) rfl rfl dX1_init_29 ?_
        refine lv_iload_n hx hb dX1_init_32 rfl (lv_at hl 2 rfl) ?_
        refine lv_iload_n hx hb dX1_init_33 rfl (lv_at hl 1 rfl) ?_
        refine lv_iload_n hx hb dX1_init_34 rfl (lv_at hl 2 rfl) ?_
        refine mw_calli hP hS hA (va_runS (As := [.int (nI z), .int (nI i)]) (rest := [.int (nI i), .ref q9]) ⟨hx, hb, hml, hE.2.2.2.1, hE.2.2.1⟩ (tX1_firstMeaning l D k _ _ z i hz (by omega)) (va_cwS 2 hE.2.2.1 gX1_init_X1_firstMeaning rfl rfl rfl (by decide +kernel) ⟨(Nat.le_of_ble_eq_true rfl), (Nat.le_of_ble_eq_true rfl)⟩) (mw_preS hE hP [.int (nI z), .int (nI i)]) rfl rfl hl.1 rfl (lv_room (Nat.le_of_ble_eq_true rfl)) dX1_init_35 ⟨(Nat.le_of_ble_eq_true rfl), (Nat.le_of_ble_eq_true rfl)⟩) (fun r_11 M2 H locs hw hP hS => ?_)
        obtain ⟨hM2, er_11⟩ := hw
        rw [hM2] at hP
        refine rw_iast hE hP hS 0 g2 rfl (by decide) dX1_init_38 (by omega) (fun H locs hP hS => ?_)
        obtain ⟨M_12, eM_12⟩ : ∃ Z, Z = mw_up M1 q9 (.inl ((k 0), 256, .inl (upd (blk (fun _ => 0) 0 i (fm z)) i r_11))) := ⟨_, rfl⟩
        have hP : mw_Q (mw_A M s.heap.size) D vwCl M_12 H := by rw [eM_12]; exact hP
        have f_13 : M_12 a = some (.inr (2, [.ref q9, .int (nI 63)])) := by rw [eM_12, mw_up_n nf_2_q9]; exact g1
        have f_14 : M_12 q9 = some (.inl ((k 0), 256, .inl (upd (blk (fun _ => 0) 0 i (fm z)) i r_11))) := by rw [eM_12]; exact mw_up_s
        refine lv_iinc (v := nI (i + 1)) (lv' := [(2, .int (nI (i + 1))), (0, .ref a), (1, .int (nI z))]) hx hb dX1_init_39 hl (k := 2) rfl (nI_1 i) (by decide) rfl (fun ls hl => ?_)
        refine lv_goto (tgt := 21) hx hb dX1_init_42 (by decide) ?_
        have hfr9 : ∀ x, x ≠ a → x ≠ q9 → M_12 x = M x := fun x h1 h2 => by rw [eM_12, mw_up_n h2]; exact hf x h1 h2
        exact ih_21 (i + 1) M_12 (by omega) (f_13) (by rw [f_14, wh_nxt (n := i) er_11 (by omega)]) (hfr9) (by omega) H locs hP hS ls (lv_sub hl [1, 2, 0] rfl)
  exact lp_21 (257) 0 M_7 (by omega) (f_8) (by rw [f_9, blk_0]) (hfr0) (by omega) _ _ hP hS ls (lv_sub hl [1, 2, 0] rfl)

set_option maxRecDepth 20000 in
theorem mX0_sortKey_k31 : Cond.constant RX0 31 (65536) ∈ wsX0_sortKey := by decide +kernel
set_option maxHeartbeats 4000000 in
set_option maxRecDepth 100000 in
theorem tX0_sortKey (l : Launch) (D : va_G) (k : Nat → ClassId) (M : mw) (sz : Nat) (a c9 : Nat) (f : Nat → Int32) (hc9 : c9 < 256) (fa : M a = some (.inl (k 0, 256, .inl f))) : Met l yX0_sortKey wsX0_sortKey ({ frames := 0, cells := 0, slots := 0, locals := 0 }) (va_Pc [.ref a, .int (nI c9)] (mw_U D vwCl (TY k) M sz)) (va_Qi (fun r M1 => M1 = M ∧ r = kx f c9) (mw_B D vwCl M sz) (mw_A M sz)) 0 0 (mw_A M sz) := by
  refine mw_met (cc := cX0_sortKey) (maxL := 2) (ret := (some .int)) (lv := [(0, .ref a), (1, .int (nI c9))]) (by decide) rfl (Nat.le_of_ble_eq_true rfl) rfl ?_
  intro p e s m below meth c ls hE hr hlocks hin hml hsz hP hS hl
  subst hsz
  have hx := hE.1
  have hb := hE.2.1
  have hA : ∀ q, s.heap.size ≤ q → mw_A M s.heap.size q := fun q h => Or.inr h
  refine lv_aload_n hx hb dX0_sortKey_0 rfl (lv_at hl 0 rfl) ?_
  refine lv_iload_n hx hb dX0_sortKey_1 rfl (lv_at hl 1 rfl) ?_
  refine rw_iald hE hP 0 fa rfl (by decide) dX0_sortKey_2 (by omega) ?_
  refine lv_iconst (v := (-1)) hx hb dX0_sortKey_3 (by decide) ?_
  refine lv_icmp_ne (tgt := 14) hx hb dX0_sortKey_4 (by decide) (fun c_4 => ?_) (fun c_4 => ?_)
  · refine lv_aload_n hx hb dX0_sortKey_14 rfl (lv_at hl 0 rfl) ?_
    refine lv_iload_n hx hb dX0_sortKey_15 rfl (lv_at hl 1 rfl) ?_
    refine rw_iald hE hP 0 fa rfl (by decide) dX0_sortKey_16 (by omega) ?_
    exact mw_iret (v := f c9) hE hr hlocks hP hS dX0_sortKey_17 (⟨rfl, by unfold kx; rw [if_neg c_4]⟩)
  · refine lv_ldc (v := nI 65536) hx hb hE.2.2.2.1 (hE.2.2.1 _ mX0_sortKey_k31) dX0_sortKey_7 ?_
    refine lv_iload_n hx hb dX0_sortKey_9 rfl (lv_at hl 1 rfl) ?_
    refine lv_iadd hx hb dX0_sortKey_10 ?_
    refine rw_i (v := nI (65536 + c9)) (nI_add _ _) ?_
    refine lv_goto (tgt := 17) hx hb dX0_sortKey_11 (by decide) ?_
    exact mw_iret (v := nI (65536 + c9)) hE hr hlocks hP hS dX0_sortKey_17 (⟨rfl, by unfold kx; rw [if_pos c_4]⟩)

set_option maxRecDepth 20000 in
theorem mX2_codeOrBlank_f15 : Cond.fieldLink RX2 15 "CodePages$Text" "size" "I" ∈ wsX2_codeOrBlank := by decide +kernel
set_option maxRecDepth 20000 in
theorem mX2_codeOrBlank_f9 : Cond.fieldLink RX2 9 "CodePages$Text" "codes" "[I" ∈ wsX2_codeOrBlank := by decide +kernel
set_option maxRecDepth 20000 in
theorem iX2_codeOrBlank_X2 : ∀ w ∈ u_ws RX2 TX2 2, w ∈ wsX2_codeOrBlank := by decide +kernel
set_option maxHeartbeats 4000000 in
set_option maxRecDepth 100000 in
theorem tX2_codeOrBlank (l : Launch) (D : va_G) (k : Nat → ClassId) (M : mw) (sz : Nat) (a b9 kk sz9 : Nat) (f : Nat → Int32) (hkk : kk < 40) (hs9 : sz9 ≤ 40) (fa : M a = some (.inr (3, [.ref b9, .int (nI sz9)]))) (fb : M b9 = some (.inl (k 0, 40, .inl f))) : Met l yX2_codeOrBlank wsX2_codeOrBlank ({ frames := 0, cells := 0, slots := 0, locals := 0 }) (va_Pc [.ref a, .int (nI kk)] (mw_U D vwCl (TY k) M sz)) (va_Qi (fun r M1 => M1 = M ∧ r = (if kk < sz9 then f kk else nI 32)) (mw_B D vwCl M sz) (mw_A M sz)) 0 0 (mw_A M sz) := by
  refine mw_met (cc := cX2_codeOrBlank) (maxL := 2) (ret := (some .int)) (lv := [(0, .ref a), (1, .int (nI kk))]) (by decide) rfl (Nat.le_of_ble_eq_true rfl) rfl ?_
  intro p e s m below meth c ls hE hr hlocks hin hml hsz hP hS hl
  subst hsz
  have hx := hE.1
  have hb := hE.2.1
  have hA : ∀ q, s.heap.size ≤ q → mw_A M s.heap.size q := fun q h => Or.inr h
  refine lv_iload_n hx hb dX2_codeOrBlank_0 rfl (lv_at hl 1 rfl) ?_
  refine lv_if_lt (tgt := 21) hx hb dX2_codeOrBlank_1 (by decide) (fun c_1 => absurd c_1 (nI_pos (by omega))) (fun c_1 => ?_)
  have k_1 : 0 ≤ kk := nn_nlt (a := kk) (b := 0) c_1 (by omega) (by omega)
  refine lv_iload_n hx hb dX2_codeOrBlank_4 rfl (lv_at hl 1 rfl) ?_
  refine lv_aload_n hx hb dX2_codeOrBlank_5 rfl (lv_at hl 0 rfl) ?_
  refine mw_get (v := .int (nI sz9)) (ci := 3) (T := TX2) (N := 2) (C := RX2) hE iX2_codeOrBlank_X2 hP fa rfl 1 (by decide) (hE.2.2.1 _ mX2_codeOrBlank_f15) rfl rfl dX2_codeOrBlank_6 ?_
  refine lv_icmp_ge (tgt := 21) hx hb dX2_codeOrBlank_9 (by decide) (fun c_9 => ?_) (fun c_9 => ?_)
  · have k_9 : sz9 ≤ kk := nn_le (a := sz9) (b := kk) c_9 (by omega) (by omega)
    refine lv_bipush (v := nI 32) hx hb dX2_codeOrBlank_21 (by decide) ?_
    exact mw_iret (v := nI 32) hE hr hlocks hP hS dX2_codeOrBlank_23 (⟨rfl, by rw [if_neg (by omega)]⟩)
  · have k_9 : kk < sz9 := nn_nle (a := sz9) (b := kk) c_9 (by omega) (by omega)
    refine lv_aload_n hx hb dX2_codeOrBlank_12 rfl (lv_at hl 0 rfl) ?_
    refine mw_get (v := .ref b9) (ci := 3) (T := TX2) (N := 2) (C := RX2) hE iX2_codeOrBlank_X2 hP fa rfl 0 (by decide) (hE.2.2.1 _ mX2_codeOrBlank_f9) rfl rfl dX2_codeOrBlank_13 ?_
    refine lv_iload_n hx hb dX2_codeOrBlank_16 rfl (lv_at hl 1 rfl) ?_
    refine rw_iald hE hP 0 fb rfl (by decide) dX2_codeOrBlank_17 (by omega) ?_
    refine lv_goto (tgt := 23) hx hb dX2_codeOrBlank_18 (by decide) ?_
    exact mw_iret (v := f kk) hE hr hlocks hP hS dX2_codeOrBlank_23 (⟨rfl, by rw [if_pos k_9]⟩)

set_option maxRecDepth 20000 in
theorem mX0_lastCode_f9 : Cond.fieldLink RX0 9 "CodePages$Order" "ranks" "[I" ∈ wsX0_lastCode := by decide +kernel
set_option maxRecDepth 20000 in
theorem iX0_lastCode_X0 : ∀ w ∈ u_ws RX0 TX0 4, w ∈ wsX0_lastCode := by decide +kernel
set_option maxHeartbeats 4000000 in
set_option maxRecDepth 100000 in
theorem tX0_lastCode (l : Launch) (D : va_G) (k : Nat → ClassId) (M : mw) (sz : Nat) (a b4 b5 : Nat) (al nx : Int32) (u3 u4 : Nat → Int32) (fa : M a = some (.inr (1, [.int al, .ref b4, .ref b5, .int nx]))) (fb : M b4 = some (.inl (k 0, 256, .inl u3))) (fc : M b5 = some (.inl (k 1, 256, .inl u4))) : Met l yX0_lastCode wsX0_lastCode ({ frames := 0, cells := 0, slots := 0, locals := 0 }) (va_Pc [.ref a] (mw_U D vwCl (TY k) M sz)) (va_Qi (fun r M1 => M1 = M ∧ r = nI (hgh u3 255)) (mw_B D vwCl M sz) (mw_A M sz)) 0 0 (mw_A M sz) := by
  refine mw_met (cc := cX0_lastCode) (maxL := 3) (ret := (some .int)) (lv := [(0, .ref a)]) (by decide) rfl (Nat.le_of_ble_eq_true rfl) rfl ?_
  intro p e s m below meth c ls hE hr hlocks hin hml hsz hP hS hl
  subst hsz
  have hx := hE.1
  have hb := hE.2.1
  have hA : ∀ q, s.heap.size ≤ q → mw_A M s.heap.size q := fun q h => Or.inr h
  obtain ⟨Q, hQ⟩ : ∃ Q : State → Prop, Q = MQ below (va_Qi (fun r M1 => M1 = M ∧ r = nI (hgh u3 255)) (mw_B D vwCl M s.heap.size) (mw_A M s.heap.size)) ([.ref a] : List Value).toArray s 0 0 (mw_A M s.heap.size) := ⟨_, rfl⟩
  rw [← hQ]
  refine lv_iconst (v := 0) hx hb dX0_lastCode_0 (by decide) ?_
  refine lv_istore_n (lv' := [(1, .int 0), (0, .ref a)]) hx hb dX0_lastCode_1 rfl hl (by decide) rfl (fun ls hl => ?_)
  refine lv_iconst (v := 1) hx hb dX0_lastCode_2 (by decide) ?_
  refine lv_istore_n (lv' := [(2, .int 1), (1, .int 0), (0, .ref a)]) hx hb dX0_lastCode_3 rfl hl (by decide) rfl (fun ls hl => ?_)
  have lp_4 : ∀ (fu : Nat) (cc9 bb : Nat), (cc9 < 256) → (bb ≤ cc9) → (bb = hgh u3 cc9) → 256 - cc9 < fu → ∀ (H : Heap) (locs : List Loc), mw_Q (mw_A M s.heap.size) D vwCl M H → va_S (mw_A M s.heap.size) s.heap H locs → ∀ ls : Array Slot, lv_has ls 3 [(0, .ref a), (1, .int (nI bb)), (2, .int (nI (cc9 + 1)))] → W p l e ({ frames := 0, cells := 0, slots := 0, locals := 0 } : Room) s m ([.ref a] : List Value).toArray below meth c H locs 0 0 Q (F0 m 4 ls []) := by
    intro fu
    induction fu with
    | zero => intro cc9 bb hc9 hb9 hbb hn; exact absurd hn (Nat.not_lt_zero _)
    | succ fu ih_4 =>
      intro cc9 bb hc9 hb9 hbb hn H locs hP hS ls hl
      refine lv_iload_n hx hb dX0_lastCode_4 rfl (lv_at hl 2 rfl) ?_
      refine lv_sipush (v := nI 256) hx hb dX0_lastCode_5 (by decide) ?_
      refine lv_icmp_ge (tgt := 34) hx hb dX0_lastCode_8 (by decide) (fun c_8 => ?_) (fun c_8 => ?_)
      · have k_8 : 256 ≤ (cc9 + 1) := nn_le (a := 256) (b := (cc9 + 1)) c_8 (by omega) (by omega)
        refine lv_iload_n hx hb dX0_lastCode_34 rfl (lv_at hl 1 rfl) ?_
        rw [hQ]
        exact mw_iret (v := nI bb) hE hr hlocks hP hS dX0_lastCode_35 (⟨rfl, by rw [hbb, show cc9 = 255 by omega]⟩)
      · have k_8 : (cc9 + 1) < 256 := nn_nle (a := 256) (b := (cc9 + 1)) c_8 (by omega) (by omega)
        refine lv_aload_n hx hb dX0_lastCode_11 rfl (lv_at hl 0 rfl) ?_
        refine mw_get (v := .ref b4) (ci := 1) (T := TX0) (N := 4) (C := RX0) hE iX0_lastCode_X0 hP fa rfl 1 (by decide) (hE.2.2.1 _ mX0_lastCode_f9) rfl rfl dX0_lastCode_12 ?_
        refine lv_iload_n hx hb dX0_lastCode_15 rfl (lv_at hl 2 rfl) ?_
        refine rw_iald hE hP 0 fb rfl (by decide) dX0_lastCode_16 (by omega) ?_
        refine lv_aload_n hx hb dX0_lastCode_17 rfl (lv_at hl 0 rfl) ?_
        refine mw_get (v := .ref b4) (ci := 1) (T := TX0) (N := 4) (C := RX0) hE iX0_lastCode_X0 hP fa rfl 1 (by decide) (hE.2.2.1 _ mX0_lastCode_f9) rfl rfl dX0_lastCode_18 ?_
        refine lv_iload_n hx hb dX0_lastCode_21 rfl (lv_at hl 1 rfl) ?_
        refine rw_iald hE hP 0 fb rfl (by decide) dX0_lastCode_22 (by omega) ?_
        refine lv_icmp_lt (tgt := 28) hx hb dX0_lastCode_23 (by decide) (fun c_23 => ?_) (fun c_23 => ?_)
        · refine lv_iinc (v := nI ((cc9 + 1) + 1)) (lv' := [(2, .int (nI ((cc9 + 1) + 1))), (0, .ref a), (1, .int (nI bb))]) hx hb dX0_lastCode_28 hl (k := 2) rfl (nI_1 (cc9 + 1)) (by decide) rfl (fun ls hl => ?_)
          refine lv_goto (tgt := 4) hx hb dX0_lastCode_31 (by decide) ?_
          exact ih_4 (cc9 + 1) bb (by omega) (by omega) (by rw [hgh, if_pos (by rw [← hbb]; exact c_23), hbb]) (by omega) H locs hP hS ls (lv_sub hl [1, 2, 0] rfl)
        · refine lv_iload_n hx hb dX0_lastCode_26 rfl (lv_at hl 2 rfl) ?_
          refine lv_istore_n (lv' := [(1, .int (nI (cc9 + 1))), (0, .ref a), (2, .int (nI (cc9 + 1)))]) hx hb dX0_lastCode_27 rfl hl (by decide) rfl (fun ls hl => ?_)
          refine lv_iinc (v := nI ((cc9 + 1) + 1)) (lv' := [(2, .int (nI ((cc9 + 1) + 1))), (1, .int (nI (cc9 + 1))), (0, .ref a)]) hx hb dX0_lastCode_28 hl (k := 2) rfl (nI_1 (cc9 + 1)) (by decide) rfl (fun ls hl => ?_)
          refine lv_goto (tgt := 4) hx hb dX0_lastCode_31 (by decide) ?_
          exact ih_4 (cc9 + 1) (cc9 + 1) (by omega) (by omega) (by rw [hgh, if_neg (by rw [← hbb]; exact c_23)]) (by omega) H locs hP hS ls (lv_sub hl [2, 1, 0] rfl)
  exact lp_4 (257) 0 0 (by omega) (by omega) (rfl) (by omega) _ _ hP hS ls (lv_sub hl [2, 1, 0] rfl)

set_option maxRecDepth 20000 in
theorem mX0_rankThoseOutside_f15 : Cond.fieldLink RX0 15 "CodePages$Order" "inside" "[Z" ∈ wsX0_rankThoseOutside := by decide +kernel
set_option maxRecDepth 20000 in
theorem mX0_rankThoseOutside_f19 : Cond.fieldLink RX0 19 "CodePages$Order" "nextRank" "I" ∈ wsX0_rankThoseOutside := by decide +kernel
set_option maxRecDepth 20000 in
theorem mX0_rankThoseOutside_f9 : Cond.fieldLink RX0 9 "CodePages$Order" "ranks" "[I" ∈ wsX0_rankThoseOutside := by decide +kernel
set_option maxRecDepth 20000 in
theorem iX0_rankThoseOutside_X0 : ∀ w ∈ u_ws RX0 TX0 4, w ∈ wsX0_rankThoseOutside := by decide +kernel
set_option maxHeartbeats 4000000 in
set_option maxRecDepth 100000 in
theorem tX0_rankThoseOutside (l : Launch) (D : va_G) (k : Nat → ClassId) (M : mw) (sz : Nat) (a b4 b5 : Nat) (al nx : Int32) (u3 u4 : Nat → Int32) (fa : M a = some (.inr (1, [.int al, .ref b4, .ref b5, .int nx]))) (fb : M b4 = some (.inl (k 0, 256, .inl u3))) (fc : M b5 = some (.inl (k 1, 256, .inl u4))) (hne : b4 ≠ b5) : Met l yX0_rankThoseOutside wsX0_rankThoseOutside ({ frames := 0, cells := 0, slots := 0, locals := 0 }) (va_Pc [.ref a] (mw_U D vwCl (TY k) M sz)) (va_Qv (fun M1 => M1 b4 = some (.inl (k 0, 256, .inl (rto u3 u4 nx 256))) ∧ ∀ x, x ≠ b4 → M1 x = M x) (mw_B D vwCl M sz) (mw_A M sz)) 0 0 (mw_A M sz) := by
  refine mw_met (cc := cX0_rankThoseOutside) (maxL := 3) (ret := none) (lv := [(0, .ref a)]) (by decide) rfl (Nat.le_of_ble_eq_true rfl) rfl ?_
  intro p e s m below meth c ls hE hr hlocks hin hml hsz hP hS hl
  subst hsz
  have hx := hE.1
  have hb := hE.2.1
  have hA : ∀ q, s.heap.size ≤ q → mw_A M s.heap.size q := fun q h => Or.inr h
  obtain ⟨Q, hQ⟩ : ∃ Q : State → Prop, Q = MQ below (va_Qv (fun M1 => M1 b4 = some (.inl (k 0, 256, .inl (rto u3 u4 nx 256))) ∧ ∀ x, x ≠ b4 → M1 x = M x) (mw_B D vwCl M s.heap.size) (mw_A M s.heap.size)) ([.ref a] : List Value).toArray s 0 0 (mw_A M s.heap.size) := ⟨_, rfl⟩
  rw [← hQ]
  refine lv_aload_n hx hb dX0_rankThoseOutside_0 rfl (lv_at hl 0 rfl) ?_
  refine mw_get (v := .int nx) (ci := 1) (T := TX0) (N := 4) (C := RX0) hE iX0_rankThoseOutside_X0 hP fa rfl 3 (by decide) (hE.2.2.1 _ mX0_rankThoseOutside_f19) rfl rfl dX0_rankThoseOutside_1 ?_
  refine lv_istore_n (lv' := [(1, .int nx), (0, .ref a)]) hx hb dX0_rankThoseOutside_4 rfl hl (by decide) rfl (fun ls hl => ?_)
  refine lv_iconst (v := 0) hx hb dX0_rankThoseOutside_5 (by decide) ?_
  refine lv_istore_n (lv' := [(2, .int 0), (1, .int nx), (0, .ref a)]) hx hb dX0_rankThoseOutside_6 rfl hl (by decide) rfl (fun ls hl => ?_)
  have lp_7 : ∀ (fu : Nat) (i : Nat) (w : Int32) (M1 : mw), (i ≤ 256) → (w = nx + nI (cntb (outb u4) i)) → (M1 a = some (.inr (1, [.int al, .ref b4, .ref b5, .int nx]))) → (M1 b4 = some (.inl (k 0, 256, .inl (rto u3 u4 nx i)))) → (M1 b5 = some (.inl (k 1, 256, .inl u4))) → (∀ x, x ≠ b4 → M1 x = M x) → 256 - i < fu → ∀ (H : Heap) (locs : List Loc), mw_Q (mw_A M s.heap.size) D vwCl M1 H → va_S (mw_A M s.heap.size) s.heap H locs → ∀ ls : Array Slot, lv_has ls 3 [(0, .ref a), (1, .int w), (2, .int (nI i))] → W p l e ({ frames := 0, cells := 0, slots := 0, locals := 0 } : Room) s m ([.ref a] : List Value).toArray below meth c H locs 0 0 Q (F0 m 7 ls []) := by
    intro fu
    induction fu with
    | zero => intro i w M1 hi hw g1 g2 g3 hf hn; exact absurd hn (Nat.not_lt_zero _)
    | succ fu ih_7 =>
      intro i w M1 hi hw g1 g2 g3 hf hn H locs hP hS ls hl
      refine lv_iload_n hx hb dX0_rankThoseOutside_7 rfl (lv_at hl 2 rfl) ?_
      refine lv_sipush (v := nI 256) hx hb dX0_rankThoseOutside_8 (by decide) ?_
      refine lv_icmp_ge (tgt := 39) hx hb dX0_rankThoseOutside_11 (by decide) (fun c_11 => ?_) (fun c_11 => ?_)
      · have k_11 : 256 ≤ i := nn_le (a := 256) (b := i) c_11 (by omega) (by omega)
        rw [hQ]
        exact mw_vret hE hr hlocks hP hS dX0_rankThoseOutside_39 (⟨by rw [g2, show i = 256 by omega], hf⟩)
      · have k_11 : i < 256 := nn_nle (a := 256) (b := i) c_11 (by omega) (by omega)
        refine lv_aload_n hx hb dX0_rankThoseOutside_14 rfl (lv_at hl 0 rfl) ?_
        refine mw_get (v := .ref b5) (ci := 1) (T := TX0) (N := 4) (C := RX0) hE iX0_rankThoseOutside_X0 hP g1 rfl 2 (by decide) (hE.2.2.1 _ mX0_rankThoseOutside_f15) rfl rfl dX0_rankThoseOutside_15 ?_
        refine lv_iload_n hx hb dX0_rankThoseOutside_18 rfl (lv_at hl 2 rfl) ?_
        refine rw_zald hE hP 1 g3 rfl (by decide) dX0_rankThoseOutside_19 (by omega) ?_
        refine lv_if_ne (tgt := 33) hx hb dX0_rankThoseOutside_20 (by decide) (fun c_20 => ?_) (fun c_20 => ?_)
        · refine lv_iinc (v := nI (i + 1)) (lv' := [(2, .int (nI (i + 1))), (0, .ref a), (1, .int w)]) hx hb dX0_rankThoseOutside_33 hl (k := 2) rfl (nI_1 i) (by decide) rfl (fun ls hl => ?_)
          refine lv_goto (tgt := 7) hx hb dX0_rankThoseOutside_36 (by decide) ?_
          exact ih_7 (i + 1) w M1 (by omega) (by rw [cntb_f (show outb u4 i = false from decide_eq_false c_20)]; exact hw) (g1) (by rw [rto_in c_20]; exact g2) (g3) (hf) (by omega) H locs hP hS ls (lv_sub hl [1, 2, 0] rfl)
        · refine lv_aload_n hx hb dX0_rankThoseOutside_23 rfl (lv_at hl 0 rfl) ?_
          refine mw_get (v := .ref b4) (ci := 1) (T := TX0) (N := 4) (C := RX0) hE iX0_rankThoseOutside_X0 hP g1 rfl 1 (by decide) (hE.2.2.1 _ mX0_rankThoseOutside_f9) rfl rfl dX0_rankThoseOutside_24 ?_
          refine lv_iload_n hx hb dX0_rankThoseOutside_27 rfl (lv_at hl 2 rfl) ?_
          refine lv_iload_n hx hb dX0_rankThoseOutside_28 rfl (lv_at hl 1 rfl) ?_
          refine rw_iast hE hP hS 0 g2 rfl (by decide) dX0_rankThoseOutside_29 (by omega) (fun H locs hP hS => ?_)
          obtain ⟨M_3, eM_3⟩ : ∃ Z, Z = mw_up M1 b4 (.inl ((k 0), 256, .inl (upd (rto u3 u4 nx i) i w))) := ⟨_, rfl⟩
          have hP : mw_Q (mw_A M s.heap.size) D vwCl M_3 H := by rw [eM_3]; exact hP
          have f_4 : M_3 a = some (.inr (1, [.int al, .ref b4, .ref b5, .int nx])) := by rw [eM_3, mw_up_n (fun h => by have h1 := g1; rw [h, g2] at h1; cases h1)]; exact g1
          have f_5 : M_3 b4 = some (.inl ((k 0), 256, .inl (upd (rto u3 u4 nx i) i w))) := by rw [eM_3]; exact mw_up_s
          have f_6 : M_3 b5 = some (.inl ((k 1), 256, .inl u4)) := by rw [eM_3, mw_up_n (Ne.symm hne)]; exact g3
          refine lv_iinc (v := w + 1) (lv' := [(1, .int (w + 1)), (0, .ref a), (2, .int (nI i))]) hx hb dX0_rankThoseOutside_30 hl (k := 1) rfl (rfl) (by decide) rfl (fun ls hl => ?_)
          refine lv_iinc (v := nI (i + 1)) (lv' := [(2, .int (nI (i + 1))), (1, .int (w + 1)), (0, .ref a)]) hx hb dX0_rankThoseOutside_33 hl (k := 2) rfl (nI_1 i) (by decide) rfl (fun ls hl => ?_)
          refine lv_goto (tgt := 7) hx hb dX0_rankThoseOutside_36 (by decide) ?_
          have hfr9 : ∀ x, x ≠ b4 → M_3 x = M x := fun x h1 => by rw [eM_3, mw_up_n h1]; exact hf x h1
          exact ih_7 (i + 1) (w + 1) M_3 (by omega) (by rw [hw, cntb_t (show outb u4 i = true from decide_eq_true c_20), Int32.add_assoc, nI_1]) (f_4) (by rw [f_5, rto_out c_20 hw]) (f_6) (hfr9) (by omega) H locs hP hS ls (lv_sub hl [2, 1, 0] rfl)
  exact lp_7 (257) 0 nx M (by omega) ((Int32.add_zero _).symm) (fa) (by rw [rto_0]; exact fb) (fc) (fun _ _ => rfl) (by omega) _ _ hP hS ls (lv_sub hl [2, 1, 0] rfl)
end
section
set_option maxRecDepth 20000 in
theorem mX0_init_f15 : Cond.fieldLink RX0 15 "CodePages$Order" "inside" "[Z" ∈ wsX0_init := by decide +kernel
set_option maxRecDepth 20000 in
theorem mX0_init_f19 : Cond.fieldLink RX0 19 "CodePages$Order" "nextRank" "I" ∈ wsX0_init := by decide +kernel
set_option maxRecDepth 20000 in
theorem mX0_init_f23 : Cond.fieldLink RX0 23 "CodePages$Order" "alphabet" "Z" ∈ wsX0_init := by decide +kernel
set_option maxRecDepth 20000 in
theorem mX0_init_f9 : Cond.fieldLink RX0 9 "CodePages$Order" "ranks" "[I" ∈ wsX0_init := by decide +kernel
set_option maxRecDepth 20000 in
theorem iX0_init_X0 : ∀ w ∈ u_ws RX0 TX0 4, w ∈ wsX0_init := by decide +kernel
set_option maxRecDepth 20000 in
theorem mX0_init_arrboolean : Cond.arrayClass .boolean ∈ wsX0_init := by decide +kernel
set_option maxRecDepth 20000 in
theorem mX0_init_arrint : Cond.arrayClass .int ∈ wsX0_init := by decide +kernel
set_option maxRecDepth 20000 in
theorem mX0_init_cobj : Cond.code objectInit ⟨#[0xb1]⟩ 1 none ∈ wsX0_init := by decide +kernel
set_option maxRecDepth 20000 in
theorem mX0_init_imobjectInit : Cond.instanceMethod objectInit ∈ wsX0_init := by decide +kernel
set_option maxRecDepth 20000 in
theorem mX0_init_ml3 : Cond.methodLink RX0 3 objectInit ∈ wsX0_init := by decide +kernel
set_option maxHeartbeats 4000000 in
set_option maxRecDepth 100000 in
theorem tX0_init (l : Launch) (D : va_G) (k : Nat → ClassId) (M : mw) (sz : Nat) (a : Nat) (al : Int32) (hal : al = 0 ∨ al = 1) (fa : M a = some (.inr (1, [.int 0, .null, .null, .int 0]))) : Met l yX0_init wsX0_init ({ frames := 1, cells := 2, slots := 512, locals := 12 }) (va_Pc [.ref a, .int al] (mw_U D vwCl (TY k) M sz)) (va_Qv (fun M1 => ∃ q1 q2, M q1 = none ∧ M q2 = none ∧ q1 ≠ q2 ∧ M1 a = some (.inr (1, [.int al, .ref q1, .ref q2, .int 0])) ∧ M1 q1 = some (.inl (k 0, 256, .inl (blk (fun _ => 0) 0 256 nI))) ∧ M1 q2 = some (.inl (k 1, 256, .inl (fun _ => 0))) ∧ ∀ x, x ≠ a → x ≠ q1 → x ≠ q2 → M1 x = M x) (mw_B D vwCl M sz) (mw_A M sz)) 2 512 (mw_A M sz) := by
  refine mw_met (cc := cX0_init) (maxL := 3) (ret := none) (lv := [(0, .ref a), (1, .int al)]) (by decide) rfl (Nat.le_of_ble_eq_true rfl) rfl ?_
  intro p e s m below meth c ls hE hr hlocks hin hml hsz hP hS hl
  subst hsz
  have hx := hE.1
  have hb := hE.2.1
  have hA : ∀ q, s.heap.size ≤ q → mw_A M s.heap.size q := fun q h => Or.inr h
  obtain ⟨Q, hQ⟩ : ∃ Q : State → Prop, Q = MQ below (va_Qv (fun M1 => ∃ q1 q2, M q1 = none ∧ M q2 = none ∧ q1 ≠ q2 ∧ M1 a = some (.inr (1, [.int al, .ref q1, .ref q2, .int 0])) ∧ M1 q1 = some (.inl (k 0, 256, .inl (blk (fun _ => 0) 0 256 nI))) ∧ M1 q2 = some (.inl (k 1, 256, .inl (fun _ => 0))) ∧ ∀ x, x ≠ a → x ≠ q1 → x ≠ q2 → M1 x = M x) (mw_B D vwCl M s.heap.size) (mw_A M s.heap.size)) ([.ref a, .int al] : List Value).toArray s 2 512 (mw_A M s.heap.size) := ⟨_, rfl⟩
  rw [← hQ]
  refine lv_aload_n hx hb dX0_init_0 rfl (lv_at hl 0 rfl) ?_
  refine W.objInit hx hb hE.2.2.2.1 (hE.2.2.1 _ mX0_init_ml3) (hE.2.2.1 _ mX0_init_imobjectInit) (hE.2.2.1 _ mX0_init_cobj) rfl (by rw [hml]; exact hl.1) rfl dX0_init_1 (Nat.le_of_ble_eq_true rfl) (Nat.le_of_ble_eq_true rfl) ?_
  refine W.eq (g2 := F0 m 4 ls []) rfl ?_
  refine lv_aload_n hx hb dX0_init_4 rfl (lv_at hl 0 rfl) ?_
  refine lv_sipush (v := nI 256) hx hb dX0_init_5 (by decide) ?_
  refine mw_newa (atype := .int) (N' := 256) (a0 := (256, .inl (fun _ => 0))) hE (hE.2.2.1 _ mX0_init_arrint) rfl (fun _ _ h => h) hP hS hA 0 rfl rfl (by decide) (by decide) (by decide) (by decide) (by decide) dX0_init_8 (fun q1 H hMq1 hP hS => ?_)
  refine rw_cs (k := 1) (n := 256) (by decide) (by decide) ?_
  obtain ⟨M_1, eM_1⟩ : ∃ Z, Z = mw_up M q1 (.inl (k 0, 256, .inl (fun _ => 0))) := ⟨_, rfl⟩
  have hP : mw_Q (mw_A M s.heap.size) D vwCl M_1 H := by rw [eM_1]; exact hP
  have nf_2_q1 : a ≠ q1 := mw_ne hMq1 fa
  have f_2 : M_1 a = some (.inr (1, [.int 0, .null, .null, .int 0])) := by rw [eM_1, mw_up_n nf_2_q1]; exact fa
  have f_3 : M_1 q1 = some (.inl (k 0, 256, .inl (fun _ => 0))) := by rw [eM_1]; exact mw_up_s
  refine mw_putF (ty := .array .int) (v := .ref q1) (ci := 1) (T := TX0) (N := 4) (C := RX0) hE iX0_init_X0 tyX0 tyX0_ok nmX0 hP hS f_2 rfl 1 (by decide) (hE.2.2.1 _ mX0_init_f9) rfl rfl hin rfl (by decide +kernel) rfl rfl (Nat.le_of_ble_eq_true rfl) dX0_init_10 (fun H locs hP hS => ?_)
  obtain ⟨M_4, eM_4⟩ : ∃ Z, Z = mw_up M_1 a (.inr (1, [.int 0, .ref q1, .null, .int 0])) := ⟨_, rfl⟩
  have hP : mw_Q (mw_A M s.heap.size) D vwCl M_4 H := by rw [eM_4]; exact hP
  have f_5 : M_4 a = some (.inr (1, [.int 0, .ref q1, .null, .int 0])) := by rw [eM_4]; exact mw_up_s
  have f_6 : M_4 q1 = some (.inl ((k 0), 256, .inl (fun _ => 0))) := by rw [eM_4, mw_up_n (Ne.symm nf_2_q1)]; exact f_3
  refine lv_aload_n hx hb dX0_init_13 rfl (lv_at hl 0 rfl) ?_
  refine lv_sipush (v := nI 256) hx hb dX0_init_14 (by decide) ?_
  refine mw_newa (atype := .boolean) (N' := 256) (a0 := (256, .inl (fun _ => 0))) hE (hE.2.2.1 _ mX0_init_arrboolean) rfl (fun _ _ h => h) hP hS hA 1 rfl rfl (by decide) (by decide) (by decide) (by decide) (by decide) dX0_init_17 (fun q2 H hMq2 hP hS => ?_)
  refine rw_cs (k := 2) (n := 512) (by decide) (by decide) ?_
  obtain ⟨M_7, eM_7⟩ : ∃ Z, Z = mw_up M_4 q2 (.inl (k 1, 256, .inl (fun _ => 0))) := ⟨_, rfl⟩
  have hP : mw_Q (mw_A M s.heap.size) D vwCl M_7 H := by rw [eM_7]; exact hP
  have nf_8_q2 : a ≠ q2 := mw_ne hMq2 f_5
  have f_8 : M_7 a = some (.inr (1, [.int 0, .ref q1, .null, .int 0])) := by rw [eM_7, mw_up_n nf_8_q2]; exact f_5
  have nf_9_q2 : q1 ≠ q2 := mw_ne hMq2 f_6
  have f_9 : M_7 q1 = some (.inl ((k 0), 256, .inl (fun _ => 0))) := by rw [eM_7, mw_up_n nf_9_q2]; exact f_6
  have f_10 : M_7 q2 = some (.inl (k 1, 256, .inl (fun _ => 0))) := by rw [eM_7]; exact mw_up_s
  refine mw_putF (ty := .array .boolean) (v := .ref q2) (ci := 1) (T := TX0) (N := 4) (C := RX0) hE iX0_init_X0 tyX0 tyX0_ok nmX0 hP hS f_8 rfl 2 (by decide) (hE.2.2.1 _ mX0_init_f15) rfl rfl hin rfl (by decide +kernel) rfl rfl (Nat.le_of_ble_eq_true rfl) dX0_init_19 (fun H locs hP hS => ?_)
  obtain ⟨M_11, eM_11⟩ : ∃ Z, Z = mw_up M_7 a (.inr (1, [.int 0, .ref q1, .ref q2, .int 0])) := ⟨_, rfl⟩
  have hP : mw_Q (mw_A M s.heap.size) D vwCl M_11 H := by rw [eM_11]; exact hP
  have f_12 : M_11 a = some (.inr (1, [.int 0, .ref q1, .ref q2, .int 0])) := by rw [eM_11]; exact mw_up_s
  have f_13 : M_11 q1 = some (.inl ((k 0), 256, .inl (fun _ => 0))) := by rw [eM_11, mw_up_n (Ne.symm nf_2_q1)]; exact f_9
  have f_14 : M_11 q2 = some (.inl ((k 1), 256, .inl (fun _ => 0))) := by rw [eM_11, mw_up_n (Ne.symm nf_8_q2)]; exact f_10
  have hq2 : M q2 = none := by have h := hMq2; rw [eM_4, mw_up_n (Ne.symm nf_8_q2), eM_1, mw_up_n (Ne.symm nf_9_q2)] at h; exact h
  have hq12 : q1 ≠ q2 := nf_9_q2
  refine lv_aload_n hx hb dX0_init_22 rfl (lv_at hl 0 rfl) ?_
  refine lv_iconst (v := 0) hx hb dX0_init_23 (by decide) ?_
  refine mw_put (ty := .int) (v := .int 0) (ci := 1) (T := TX0) (N := 4) (C := RX0) hE iX0_init_X0 tyX0 tyX0_ok nmX0 hP hS f_12 rfl 3 (by decide) (hE.2.2.1 _ mX0_init_f19) rfl rfl (by decide +kernel) rfl rfl (Nat.le_of_ble_eq_true rfl) dX0_init_24 (fun H locs hP hS => ?_)
  obtain ⟨M_15, eM_15⟩ : ∃ Z, Z = mw_up M_11 a (.inr (1, [.int 0, .ref q1, .ref q2, .int 0])) := ⟨_, rfl⟩
  have hP : mw_Q (mw_A M s.heap.size) D vwCl M_15 H := by rw [eM_15]; exact hP
  have f_16 : M_15 a = some (.inr (1, [.int 0, .ref q1, .ref q2, .int 0])) := by rw [eM_15]; exact mw_up_s
  have f_17 : M_15 q1 = some (.inl ((k 0), 256, .inl (fun _ => 0))) := by rw [eM_15, mw_up_n (Ne.symm nf_2_q1)]; exact f_13
  have f_18 : M_15 q2 = some (.inl ((k 1), 256, .inl (fun _ => 0))) := by rw [eM_15, mw_up_n (Ne.symm nf_8_q2)]; exact f_14
  refine lv_aload_n hx hb dX0_init_27 rfl (lv_at hl 0 rfl) ?_
  refine lv_iload_n hx hb dX0_init_28 rfl (lv_at hl 1 rfl) ?_
  refine mw_putF (ty := .boolean) (v := .int al) (ci := 1) (T := TX0) (N := 4) (C := RX0) hE iX0_init_X0 tyX0 tyX0_ok nmX0 hP hS f_16 rfl 0 (by decide) (hE.2.2.1 _ mX0_init_f23) rfl rfl hin rfl (by decide +kernel) (by rcases hal with rfl | rfl <;> rfl) (by rcases hal with rfl | rfl <;> rfl) (Nat.le_of_ble_eq_true rfl) dX0_init_29 (fun H locs hP hS => ?_)
  obtain ⟨M_19, eM_19⟩ : ∃ Z, Z = mw_up M_15 a (.inr (1, [.int al, .ref q1, .ref q2, .int 0])) := ⟨_, rfl⟩
  have hP : mw_Q (mw_A M s.heap.size) D vwCl M_19 H := by rw [eM_19]; exact hP
  have f_20 : M_19 a = some (.inr (1, [.int al, .ref q1, .ref q2, .int 0])) := by rw [eM_19]; exact mw_up_s
  have f_21 : M_19 q1 = some (.inl ((k 0), 256, .inl (fun _ => 0))) := by rw [eM_19, mw_up_n (Ne.symm nf_2_q1)]; exact f_17
  have f_22 : M_19 q2 = some (.inl ((k 1), 256, .inl (fun _ => 0))) := by rw [eM_19, mw_up_n (Ne.symm nf_8_q2)]; exact f_18
  refine lv_iconst (v := 0) hx hb dX0_init_32 (by decide) ?_
  refine lv_istore_n (lv' := [(2, .int 0), (0, .ref a), (1, .int al)]) hx hb dX0_init_33 rfl hl (by decide) rfl (fun ls hl => ?_)
  have hfr0 : ∀ x, x ≠ a → x ≠ q1 → x ≠ q2 → M_19 x = M x := fun x h1 h2 h3 => by rw [eM_19, mw_up_n h1, eM_15, mw_up_n h1, eM_11, mw_up_n h1, eM_7, mw_up_n h3, eM_4, mw_up_n h1, eM_1, mw_up_n h2]
  have lp_34 : ∀ (fu : Nat) (i : Nat) (M1 : mw), (i ≤ 256) → (M1 a = some (.inr (1, [.int al, .ref q1, .ref q2, .int 0]))) → (M1 q1 = some (.inl (k 0, 256, .inl (blk (fun _ => 0) 0 i nI)))) → (M1 q2 = some (.inl (k 1, 256, .inl (fun _ => 0)))) → (∀ x, x ≠ a → x ≠ q1 → x ≠ q2 → M1 x = M x) → 256 - i < fu → ∀ (H : Heap) (locs : List Loc), mw_Q (mw_A M s.heap.size) D vwCl M1 H → va_S (mw_A M s.heap.size) s.heap H locs → ∀ ls : Array Slot, lv_has ls 3 [(0, .ref a), (2, .int (nI i))] → W p l e ({ frames := 1, cells := 2, slots := 512, locals := 12 } : Room) s m ([.ref a, .int al] : List Value).toArray below meth c H locs 2 512 Q (F0 m 34 ls []) := by
    intro fu
    induction fu with
    | zero => intro i M1 hi g1 g2 g3 hf hn; exact absurd hn (Nat.not_lt_zero _)
    | succ fu ih_34 =>
      intro i M1 hi g1 g2 g3 hf hn H locs hP hS ls hl
      refine lv_iload_n hx hb dX0_init_34 rfl (lv_at hl 1 rfl) ?_
      refine lv_sipush (v := nI 256) hx hb dX0_init_35 (by decide) ?_
      refine lv_icmp_ge (tgt := 54) hx hb dX0_init_38 (by decide) (fun c_38 => ?_) (fun c_38 => ?_)
      · have k_38 : 256 ≤ i := nn_le (a := 256) (b := i) c_38 (by omega) (by omega)
        rw [hQ]
        exact mw_vret hE hr hlocks hP hS dX0_init_54 (⟨q1, q2, hMq1, hq2, hq12, g1, by rw [g2, show i = 256 by omega], g3, hf⟩)
      · have k_38 : i < 256 := nn_nle (a := 256) (b := i) c_38 (by omega) (by omega)
        refine lv_aload_n hx hb dX0_init_41 rfl (lv_at hl 0 rfl) ?_
        refine mw_get (v := .ref q1) (ci := 1) (T := TX0) (N := 4) (C := RX0) hE iX0_init_X0 hP g1 rfl 1 (by decide) (hE.2.2.1 _ mX0_init_f9) rfl rfl dX0_init_42 ?_
        refine lv_iload_n hx hb dX0_init_45 rfl (lv_at hl 1 rfl) ?_
        refine lv_iload_n hx hb dX0_init_46 rfl (lv_at hl 1 rfl) ?_
        refine rw_iast hE hP hS 0 g2 rfl (by decide) dX0_init_47 (by omega) (fun H locs hP hS => ?_)
        obtain ⟨M_24, eM_24⟩ : ∃ Z, Z = mw_up M1 q1 (.inl ((k 0), 256, .inl (upd (blk (fun _ => 0) 0 i nI) i (nI i)))) := ⟨_, rfl⟩
        have hP : mw_Q (mw_A M s.heap.size) D vwCl M_24 H := by rw [eM_24]; exact hP
        have f_25 : M_24 a = some (.inr (1, [.int al, .ref q1, .ref q2, .int 0])) := by rw [eM_24, mw_up_n nf_2_q1]; exact g1
        have f_26 : M_24 q1 = some (.inl ((k 0), 256, .inl (upd (blk (fun _ => 0) 0 i nI) i (nI i)))) := by rw [eM_24]; exact mw_up_s
        have f_27 : M_24 q2 = some (.inl ((k 1), 256, .inl (fun _ => 0))) := by rw [eM_24, mw_up_n (Ne.symm nf_9_q2)]; exact g3
        refine lv_iinc (v := nI (i + 1)) (lv' := [(2, .int (nI (i + 1))), (0, .ref a)]) hx hb dX0_init_48 hl (k := 1) rfl (nI_1 i) (by decide) rfl (fun ls hl => ?_)
        refine lv_goto (tgt := 34) hx hb dX0_init_51 (by decide) ?_
        have hfr9 : ∀ x, x ≠ a → x ≠ q1 → x ≠ q2 → M_24 x = M x := fun x h1 h2 h3 => by rw [eM_24, mw_up_n h2]; exact hf x h1 h2 h3
        exact ih_34 (i + 1) M_24 (by omega) (f_25) (by rw [f_26, wh_nxt (n := i) rfl (by omega)]) (f_27) (hfr9) (by omega) H locs hP hS ls (lv_sub hl [1, 0] rfl)
  exact lp_34 (257) 0 M_19 (by omega) (f_20) (by rw [f_21, blk_0]) (f_22) (hfr0) (by omega) _ _ hP hS ls (lv_sub hl [1, 0] rfl)

set_option maxRecDepth 20000 in
theorem mX2_init_f15 : Cond.fieldLink RX2 15 "CodePages$Text" "size" "I" ∈ wsX2_init := by decide +kernel
set_option maxRecDepth 20000 in
theorem mX2_init_f9 : Cond.fieldLink RX2 9 "CodePages$Text" "codes" "[I" ∈ wsX2_init := by decide +kernel
set_option maxRecDepth 20000 in
theorem iX2_init_X2 : ∀ w ∈ u_ws RX2 TX2 2, w ∈ wsX2_init := by decide +kernel
set_option maxRecDepth 20000 in
theorem mX2_init_arrint : Cond.arrayClass .int ∈ wsX2_init := by decide +kernel
set_option maxRecDepth 20000 in
theorem mX2_init_cobj : Cond.code objectInit ⟨#[0xb1]⟩ 1 none ∈ wsX2_init := by decide +kernel
set_option maxRecDepth 20000 in
theorem mX2_init_imobjectInit : Cond.instanceMethod objectInit ∈ wsX2_init := by decide +kernel
set_option maxRecDepth 20000 in
theorem mX2_init_ml3 : Cond.methodLink RX2 3 objectInit ∈ wsX2_init := by decide +kernel
set_option maxHeartbeats 4000000 in
set_option maxRecDepth 100000 in
theorem tX2_init (l : Launch) (D : va_G) (k : Nat → ClassId) (M : mw) (sz : Nat) (a : Nat) (fa : M a = some (.inr (3, [.null, .int 0]))) : Met l yX2_init wsX2_init ({ frames := 1, cells := 1, slots := 40, locals := 12 }) (va_Pc [.ref a] (mw_U D vwCl (TY k) M sz)) (va_Qv (fun M1 => ∃ q1, M q1 = none ∧ M1 a = some (.inr (3, [.ref q1, .int 0])) ∧ M1 q1 = some (.inl (k 0, 40, .inl (fun _ => 0))) ∧ ∀ x, x ≠ a → x ≠ q1 → M1 x = M x) (mw_B D vwCl M sz) (mw_A M sz)) 1 40 (mw_A M sz) := by
  refine mw_met (cc := cX2_init) (maxL := 1) (ret := none) (lv := [(0, .ref a)]) (by decide) rfl (Nat.le_of_ble_eq_true rfl) rfl ?_
  intro p e s m below meth c ls hE hr hlocks hin hml hsz hP hS hl
  subst hsz
  have hx := hE.1
  have hb := hE.2.1
  have hA : ∀ q, s.heap.size ≤ q → mw_A M s.heap.size q := fun q h => Or.inr h
  refine lv_aload_n hx hb dX2_init_0 rfl (lv_at hl 0 rfl) ?_
  refine W.objInit hx hb hE.2.2.2.1 (hE.2.2.1 _ mX2_init_ml3) (hE.2.2.1 _ mX2_init_imobjectInit) (hE.2.2.1 _ mX2_init_cobj) rfl (by rw [hml]; exact hl.1) rfl dX2_init_1 (Nat.le_of_ble_eq_true rfl) (Nat.le_of_ble_eq_true rfl) ?_
  refine W.eq (g2 := F0 m 4 ls []) rfl ?_
  refine lv_aload_n hx hb dX2_init_4 rfl (lv_at hl 0 rfl) ?_
  refine lv_bipush (v := nI 40) hx hb dX2_init_5 (by decide) ?_
  refine mw_newa (atype := .int) (N' := 40) (a0 := (40, .inl (fun _ => 0))) hE (hE.2.2.1 _ mX2_init_arrint) rfl (fun _ _ h => h) hP hS hA 0 rfl rfl (by decide) (by decide) (by decide) (by decide) (by decide) dX2_init_7 (fun q1 H hMq1 hP hS => ?_)
  refine rw_cs (k := 1) (n := 40) (by decide) (by decide) ?_
  obtain ⟨M_1, eM_1⟩ : ∃ Z, Z = mw_up M q1 (.inl (k 0, 40, .inl (fun _ => 0))) := ⟨_, rfl⟩
  have hP : mw_Q (mw_A M s.heap.size) D vwCl M_1 H := by rw [eM_1]; exact hP
  have nf_2_q1 : a ≠ q1 := mw_ne hMq1 fa
  have f_2 : M_1 a = some (.inr (3, [.null, .int 0])) := by rw [eM_1, mw_up_n nf_2_q1]; exact fa
  have f_3 : M_1 q1 = some (.inl (k 0, 40, .inl (fun _ => 0))) := by rw [eM_1]; exact mw_up_s
  refine mw_putF (ty := .array .int) (v := .ref q1) (ci := 3) (T := TX2) (N := 2) (C := RX2) hE iX2_init_X2 tyX2 tyX2_ok nmX2 hP hS f_2 rfl 0 (by decide) (hE.2.2.1 _ mX2_init_f9) rfl rfl hin rfl (by decide +kernel) rfl rfl (Nat.le_of_ble_eq_true rfl) dX2_init_9 (fun H locs hP hS => ?_)
  obtain ⟨M_4, eM_4⟩ : ∃ Z, Z = mw_up M_1 a (.inr (3, [.ref q1, .int 0])) := ⟨_, rfl⟩
  have hP : mw_Q (mw_A M s.heap.size) D vwCl M_4 H := by rw [eM_4]; exact hP
  have f_5 : M_4 a = some (.inr (3, [.ref q1, .int 0])) := by rw [eM_4]; exact mw_up_s
  have f_6 : M_4 q1 = some (.inl ((k 0), 40, .inl (fun _ => 0))) := by rw [eM_4, mw_up_n (Ne.symm nf_2_q1)]; exact f_3
  refine lv_aload_n hx hb dX2_init_12 rfl (lv_at hl 0 rfl) ?_
  refine lv_iconst (v := 0) hx hb dX2_init_13 (by decide) ?_
  refine mw_put (ty := .int) (v := .int 0) (ci := 3) (T := TX2) (N := 2) (C := RX2) hE iX2_init_X2 tyX2 tyX2_ok nmX2 hP hS f_5 rfl 1 (by decide) (hE.2.2.1 _ mX2_init_f15) rfl rfl (by decide +kernel) rfl rfl (Nat.le_of_ble_eq_true rfl) dX2_init_14 (fun H locs hP hS => ?_)
  obtain ⟨M_7, eM_7⟩ : ∃ Z, Z = mw_up M_4 a (.inr (3, [.ref q1, .int 0])) := ⟨_, rfl⟩
  have hP : mw_Q (mw_A M s.heap.size) D vwCl M_7 H := by rw [eM_7]; exact hP
  have f_8 : M_7 a = some (.inr (3, [.ref q1, .int 0])) := by rw [eM_7]; exact mw_up_s
  have f_9 : M_7 q1 = some (.inl ((k 0), 40, .inl (fun _ => 0))) := by rw [eM_7, mw_up_n (Ne.symm nf_2_q1)]; exact f_6
  have hfr0 : ∀ x, x ≠ a → x ≠ q1 → M_7 x = M x := fun x h1 h2 => by rw [eM_7, mw_up_n h1, eM_4, mw_up_n h1, eM_1, mw_up_n h2]
  exact mw_vret hE hr hlocks hP hS dX2_init_17 (⟨q1, hMq1, f_8, f_9, hfr0⟩)

set_option maxRecDepth 20000 in
theorem mX0_addEqual_f15 : Cond.fieldLink RX0 15 "CodePages$Order" "inside" "[Z" ∈ wsX0_addEqual := by decide +kernel
set_option maxRecDepth 20000 in
theorem mX0_addEqual_f9 : Cond.fieldLink RX0 9 "CodePages$Order" "ranks" "[I" ∈ wsX0_addEqual := by decide +kernel
set_option maxRecDepth 20000 in
theorem iX0_addEqual_X0 : ∀ w ∈ u_ws RX0 TX0 4, w ∈ wsX0_addEqual := by decide +kernel
set_option maxHeartbeats 4000000 in
set_option maxRecDepth 100000 in
theorem tX0_addEqual (l : Launch) (D : va_G) (k : Nat → ClassId) (M : mw) (sz : Nat) (a b4 b5 : Nat) (al nx : Int32) (u3 u4 : Nat → Int32) (fa : M a = some (.inr (1, [.int al, .ref b4, .ref b5, .int nx]))) (fb : M b4 = some (.inl (k 0, 256, .inl u3))) (fc : M b5 = some (.inl (k 1, 256, .inl u4))) (hne : b4 ≠ b5) (i j : Nat) (hi : i < 256) (hj : j < 256) : Met l yX0_addEqual wsX0_addEqual ({ frames := 1, cells := 0, slots := 0, locals := 22 }) (va_Pc [.ref a, .int (nI i), .int (nI j)] (mw_U D vwCl (TY k) M sz)) (va_Qi (fun r M1 => ((u4 i = 0 ∨ ¬ u4 j = 0) ∧ r = 0 ∧ M1 = M) ∨ (¬ u4 i = 0 ∧ u4 j = 0 ∧ r = 1 ∧ M1 b5 = some (.inl (k 1, 256, .inl (upd u4 j 1))) ∧ M1 b4 = some (.inl (k 0, 256, .inl (rto (upd u3 j (u3 i)) (upd u4 j 1) nx 256))) ∧ ∀ x, x ≠ b4 → x ≠ b5 → M1 x = M x)) (mw_B D vwCl M sz) (mw_A M sz)) 0 0 (mw_A M sz) := by
  refine mw_met (cc := cX0_addEqual) (maxL := 3) (ret := (some .boolean)) (lv := [(0, .ref a), (1, .int (nI i)), (2, .int (nI j))]) (by decide) rfl (Nat.le_of_ble_eq_true rfl) rfl ?_
  intro p e s m below meth c ls hE hr hlocks hin hml hsz hP hS hl
  subst hsz
  have hx := hE.1
  have hb := hE.2.1
  have hA : ∀ q, s.heap.size ≤ q → mw_A M s.heap.size q := fun q h => Or.inr h
  refine lv_aload_n hx hb dX0_addEqual_0 rfl (lv_at hl 0 rfl) ?_
  refine mw_get (v := .ref b5) (ci := 1) (T := TX0) (N := 4) (C := RX0) hE iX0_addEqual_X0 hP fa rfl 2 (by decide) (hE.2.2.1 _ mX0_addEqual_f15) rfl rfl dX0_addEqual_1 ?_
  refine lv_iload_n hx hb dX0_addEqual_4 rfl (lv_at hl 1 rfl) ?_
  refine rw_zald hE hP 1 fc rfl (by decide) dX0_addEqual_5 (by omega) ?_
  refine lv_if_eq (tgt := 18) hx hb dX0_addEqual_6 (by decide) (fun c_6 => ?_) (fun c_6 => ?_)
  · refine lv_iconst (v := 0) hx hb dX0_addEqual_18 (by decide) ?_
    exact mw_zret (v := 0) (ty := .boolean) hE hr hlocks hP hS dX0_addEqual_19 (rfl) (Or.inl ⟨Or.inl c_6, rfl, rfl⟩)
  · refine lv_aload_n hx hb dX0_addEqual_9 rfl (lv_at hl 0 rfl) ?_
    refine mw_get (v := .ref b5) (ci := 1) (T := TX0) (N := 4) (C := RX0) hE iX0_addEqual_X0 hP fa rfl 2 (by decide) (hE.2.2.1 _ mX0_addEqual_f15) rfl rfl dX0_addEqual_10 ?_
    refine lv_iload_n hx hb dX0_addEqual_13 rfl (lv_at hl 2 rfl) ?_
    refine rw_zald hE hP 1 fc rfl (by decide) dX0_addEqual_14 (by omega) ?_
    refine lv_if_eq (tgt := 20) hx hb dX0_addEqual_15 (by decide) (fun c_15 => ?_) (fun c_15 => ?_)
    · refine lv_aload_n hx hb dX0_addEqual_20 rfl (lv_at hl 0 rfl) ?_
      refine mw_get (v := .ref b5) (ci := 1) (T := TX0) (N := 4) (C := RX0) hE iX0_addEqual_X0 hP fa rfl 2 (by decide) (hE.2.2.1 _ mX0_addEqual_f15) rfl rfl dX0_addEqual_21 ?_
      refine lv_iload_n hx hb dX0_addEqual_24 rfl (lv_at hl 2 rfl) ?_
      refine lv_iconst (v := 1) hx hb dX0_addEqual_25 (by decide) ?_
      refine rw_zast hE hP hS 1 fc rfl (by decide) (by decide) dX0_addEqual_26 (by omega) (fun H locs hP hS => ?_)
      obtain ⟨M_3, eM_3⟩ : ∃ Z, Z = mw_up M b5 (.inl ((k 1), 256, .inl (upd u4 j 1))) := ⟨_, rfl⟩
      have hP : mw_Q (mw_A M s.heap.size) D vwCl M_3 H := by rw [eM_3]; exact hP
      have f_4 : M_3 a = some (.inr (1, [.int al, .ref b4, .ref b5, .int nx])) := by rw [eM_3, mw_up_n (fun h => by have h1 := fa; rw [h, fc] at h1; cases h1)]; exact fa
      have f_5 : M_3 b4 = some (.inl ((k 0), 256, .inl u3)) := by rw [eM_3, mw_up_n hne]; exact fb
      have f_6 : M_3 b5 = some (.inl ((k 1), 256, .inl (upd u4 j 1))) := by rw [eM_3]; exact mw_up_s
      refine lv_aload_n hx hb dX0_addEqual_27 rfl (lv_at hl 0 rfl) ?_
      refine mw_get (v := .ref b4) (ci := 1) (T := TX0) (N := 4) (C := RX0) hE iX0_addEqual_X0 hP f_4 rfl 1 (by decide) (hE.2.2.1 _ mX0_addEqual_f9) rfl rfl dX0_addEqual_28 ?_
      refine lv_iload_n hx hb dX0_addEqual_31 rfl (lv_at hl 2 rfl) ?_
      refine lv_aload_n hx hb dX0_addEqual_32 rfl (lv_at hl 0 rfl) ?_
      refine mw_get (v := .ref b4) (ci := 1) (T := TX0) (N := 4) (C := RX0) hE iX0_addEqual_X0 hP f_4 rfl 1 (by decide) (hE.2.2.1 _ mX0_addEqual_f9) rfl rfl dX0_addEqual_33 ?_
      refine lv_iload_n hx hb dX0_addEqual_36 rfl (lv_at hl 1 rfl) ?_
      refine rw_iald hE hP 0 f_5 rfl (by decide) dX0_addEqual_37 (by omega) ?_
      refine rw_iast hE hP hS 0 f_5 rfl (by decide) dX0_addEqual_38 (by omega) (fun H locs hP hS => ?_)
      obtain ⟨M_7, eM_7⟩ : ∃ Z, Z = mw_up M_3 b4 (.inl ((k 0), 256, .inl (upd u3 j (u3 i)))) := ⟨_, rfl⟩
      have hP : mw_Q (mw_A M s.heap.size) D vwCl M_7 H := by rw [eM_7]; exact hP
      have f_8 : M_7 a = some (.inr (1, [.int al, .ref b4, .ref b5, .int nx])) := by rw [eM_7, mw_up_n (fun h => by have h1 := f_4; rw [h, f_5] at h1; cases h1)]; exact f_4
      have f_9 : M_7 b4 = some (.inl ((k 0), 256, .inl (upd u3 j (u3 i)))) := by rw [eM_7]; exact mw_up_s
      have f_10 : M_7 b5 = some (.inl ((k 1), 256, .inl (upd u4 j 1))) := by rw [eM_7, mw_up_n (Ne.symm hne)]; exact f_6
      refine lv_aload_n hx hb dX0_addEqual_39 rfl (lv_at hl 0 rfl) ?_
      refine mw_callv hP hS hA (va_runV (As := []) (rest := []) ⟨hx, hb, hml, hE.2.2.2.1, hE.2.2.1⟩ (tX0_rankThoseOutside l D k _ _ a b4 b5 al nx (upd u3 j (u3 i)) (upd u4 j 1) f_8 f_9 f_10 hne) (cwV 0 hE.2.2.1 gX0_addEqual_X0_rankThoseOutside rfl rfl rfl (by decide +kernel) ⟨(Nat.le_of_ble_eq_true rfl), (Nat.le_of_ble_eq_true rfl)⟩) (mw_preV hE hP (ci := 1) rfl rfl f_8 []) rfl rfl hl.1 rfl (lv_room (Nat.le_of_ble_eq_true rfl)) dX0_addEqual_40 ⟨(Nat.le_of_ble_eq_true rfl), (Nat.le_of_ble_eq_true rfl)⟩) (fun M9 H locs hw hP hS => ?_)
      obtain ⟨h91, h92⟩ := hw
      refine lv_iconst (v := 1) hx hb dX0_addEqual_43 (by decide) ?_
      exact mw_zret (v := 1) (ty := .boolean) hE hr hlocks hP hS dX0_addEqual_44 (rfl) (Or.inr ⟨c_6, c_15, rfl, (h92 b5 (Ne.symm hne)).trans f_10, h91, fun x h1 h2 => by rw [h92 x h1, eM_7, mw_up_n h1, eM_3, mw_up_n h2]⟩)
    · refine lv_iconst (v := 0) hx hb dX0_addEqual_18 (by decide) ?_
      exact mw_zret (v := 0) (ty := .boolean) hE hr hlocks hP hS dX0_addEqual_19 (rfl) (Or.inl ⟨Or.inr c_15, rfl, rfl⟩)

set_option maxRecDepth 20000 in
theorem mX0_addRange_f15 : Cond.fieldLink RX0 15 "CodePages$Order" "inside" "[Z" ∈ wsX0_addRange := by decide +kernel
set_option maxRecDepth 20000 in
theorem mX0_addRange_f19 : Cond.fieldLink RX0 19 "CodePages$Order" "nextRank" "I" ∈ wsX0_addRange := by decide +kernel
set_option maxRecDepth 20000 in
theorem mX0_addRange_f9 : Cond.fieldLink RX0 9 "CodePages$Order" "ranks" "[I" ∈ wsX0_addRange := by decide +kernel
set_option maxRecDepth 20000 in
theorem iX0_addRange_X0 : ∀ w ∈ u_ws RX0 TX0 4, w ∈ wsX0_addRange := by decide +kernel
set_option maxRecDepth 20000 in
theorem mX0_addRange_inijavalangMath : Cond.initialized "java/lang/Math" ∈ wsX0_addRange := by decide +kernel
set_option maxRecDepth 20000 in
theorem mX0_addRange_mathabs : Cond.code Lib.Math.abs.name Lib.Math.abs.code 1 (some .int) ∈ wsX0_addRange := by decide +kernel
set_option maxRecDepth 20000 in
theorem mX0_addRange_mathmax : Cond.code Lib.Math.max.name Lib.Math.max.code 2 (some .int) ∈ wsX0_addRange := by decide +kernel
set_option maxRecDepth 20000 in
theorem mX0_addRange_mathmin : Cond.code Lib.Math.min.name Lib.Math.min.code 2 (some .int) ∈ wsX0_addRange := by decide +kernel
set_option maxRecDepth 20000 in
theorem mX0_addRange_ml35 : Cond.methodLink RX0 35 Lib.Math.min.name ∈ wsX0_addRange := by decide +kernel
set_option maxRecDepth 20000 in
theorem mX0_addRange_ml41 : Cond.methodLink RX0 41 Lib.Math.max.name ∈ wsX0_addRange := by decide +kernel
set_option maxRecDepth 20000 in
theorem mX0_addRange_ml44 : Cond.methodLink RX0 44 Lib.Math.abs.name ∈ wsX0_addRange := by decide +kernel
set_option maxRecDepth 20000 in
theorem mX0_addRange_stLibMathabsname : Cond.static Lib.Math.abs.name ∈ wsX0_addRange := by decide +kernel
set_option maxRecDepth 20000 in
theorem mX0_addRange_stLibMathmaxname : Cond.static Lib.Math.max.name ∈ wsX0_addRange := by decide +kernel
set_option maxRecDepth 20000 in
theorem mX0_addRange_stLibMathminname : Cond.static Lib.Math.min.name ∈ wsX0_addRange := by decide +kernel
set_option maxHeartbeats 4000000 in
set_option maxRecDepth 100000 in
theorem tX0_addRange (l : Launch) (D : va_G) (k : Nat → ClassId) (M : mw) (sz : Nat) (a b4 b5 : Nat) (al nx : Int32) (u3 u4 : Nat → Int32) (fa : M a = some (.inr (1, [.int al, .ref b4, .ref b5, .int nx]))) (fb : M b4 = some (.inl (k 0, 256, .inl u3))) (fc : M b5 = some (.inl (k 1, 256, .inl u4))) (hne : b4 ≠ b5) (ff tt : Nat) (hff : ff < 256) (htt : tt < 256) : Met l yX0_addRange wsX0_addRange ({ frames := 1, cells := 0, slots := 0, locals := 22 }) (va_Pc [.ref a, .int (nI ff), .int (nI tt)] (mw_U D vwCl (TY k) M sz)) (va_Qi (fun r M1 => ∃ up : Bool, (up = true ↔ ff ≤ tt) ∧ (((∃ q, q < tcn up ff tt ∧ ¬ u4 (tlo up ff tt + q) = 0) ∧ r = 0 ∧ M1 = M) ∨ ((∀ q, q < tcn up ff tt → u4 (tlo up ff tt + q) = 0) ∧ r = 1 ∧ M1 b5 = some (.inl (k 1, 256, .inl (blk u4 (tlo up ff tt) (tcn up ff tt) (fun _ => 1)))) ∧ M1 b4 = some (.inl (k 0, 256, .inl (rto (blk u3 (tlo up ff tt) (tcn up ff tt) (fun q => nx + nI (dst up ff tt q))) (blk u4 (tlo up ff tt) (tcn up ff tt) (fun _ => 1)) (nx + nI (tcn up ff tt)) 256))) ∧ M1 a = some (.inr (1, [.int al, .ref b4, .ref b5, .int (nx + nI (tcn up ff tt))])) ∧ ∀ x, x ≠ a → x ≠ b4 → x ≠ b5 → M1 x = M x))) (mw_B D vwCl M sz) (mw_A M sz)) 0 0 (mw_A M sz) := by
  refine mw_met (cc := cX0_addRange) (maxL := 6) (ret := (some .boolean)) (lv := [(0, .ref a), (1, .int (nI ff)), (2, .int (nI tt))]) (by decide) rfl (Nat.le_of_ble_eq_true rfl) rfl ?_
  intro p e s m below meth c ls hE hr hlocks hin hml hsz hP hS hl
  subst hsz
  have hx := hE.1
  have hb := hE.2.1
  have hA : ∀ q, s.heap.size ≤ q → mw_A M s.heap.size q := fun q h => Or.inr h
  obtain ⟨Q, hQ⟩ : ∃ Q : State → Prop, Q = MQ below (va_Qi (fun r M1 => ∃ up : Bool, (up = true ↔ ff ≤ tt) ∧ (((∃ q, q < tcn up ff tt ∧ ¬ u4 (tlo up ff tt + q) = 0) ∧ r = 0 ∧ M1 = M) ∨ ((∀ q, q < tcn up ff tt → u4 (tlo up ff tt + q) = 0) ∧ r = 1 ∧ M1 b5 = some (.inl (k 1, 256, .inl (blk u4 (tlo up ff tt) (tcn up ff tt) (fun _ => 1)))) ∧ M1 b4 = some (.inl (k 0, 256, .inl (rto (blk u3 (tlo up ff tt) (tcn up ff tt) (fun q => nx + nI (dst up ff tt q))) (blk u4 (tlo up ff tt) (tcn up ff tt) (fun _ => 1)) (nx + nI (tcn up ff tt)) 256))) ∧ M1 a = some (.inr (1, [.int al, .ref b4, .ref b5, .int (nx + nI (tcn up ff tt))])) ∧ ∀ x, x ≠ a → x ≠ b4 → x ≠ b5 → M1 x = M x))) (mw_B D vwCl M s.heap.size) (mw_A M s.heap.size)) ([.ref a, .int (nI ff), .int (nI tt)] : List Value).toArray s 0 0 (mw_A M s.heap.size) := ⟨_, rfl⟩
  rw [← hQ]
  have nab4 : a ≠ b4 := fun h => by have h1 := fa; rw [h, fb] at h1; cases h1
  rcases Nat.lt_or_ge tt ff with hud | hud
  · skip
    refine lv_iload_n hx hb dX0_addRange_0 rfl (lv_at hl 1 rfl) ?_
    refine lv_iload_n hx hb dX0_addRange_1 rfl (lv_at hl 2 rfl) ?_
    refine va_mmin hx hb (by rw [hml]; exact hl.1.symm) hE.2.2.2.1 (hE.2.2.1 _ mX0_addRange_ml35) (hE.2.2.1 _ mX0_addRange_stLibMathminname) (hE.2.2.1 _ mX0_addRange_inijavalangMath) (hE.2.2.1 _ mX0_addRange_mathmin) (by decide) (Nat.le_of_ble_eq_true rfl) (by decide) (by decide) dX0_addRange_2 ?_
    refine rw_i (v := nI tt) (if_pos (nI_lt hud (by omega))) ?_
    refine lv_istore_n (lv' := [(3, .int (nI tt)), (0, .ref a), (1, .int (nI ff)), (2, .int (nI tt))]) hx hb dX0_addRange_5 rfl hl (by decide) rfl (fun ls hl => ?_)
    refine lv_iload_n hx hb dX0_addRange_6 rfl (lv_at hl 2 rfl) ?_
    refine lv_iload_n hx hb dX0_addRange_7 rfl (lv_at hl 3 rfl) ?_
    refine va_mmax hx hb (by rw [hml]; exact hl.1.symm) hE.2.2.2.1 (hE.2.2.1 _ mX0_addRange_ml41) (hE.2.2.1 _ mX0_addRange_stLibMathmaxname) (hE.2.2.1 _ mX0_addRange_inijavalangMath) (hE.2.2.1 _ mX0_addRange_mathmax) (by decide) (Nat.le_of_ble_eq_true rfl) (by decide) (by decide) dX0_addRange_8 ?_
    refine rw_i (v := nI ff) (if_neg (nI_nlt (Nat.le_of_lt hud) (by omega))) ?_
    refine lv_istore (lv' := [(4, .int (nI ff)), (3, .int (nI tt)), (0, .ref a), (1, .int (nI ff)), (2, .int (nI tt))]) hx hb dX0_addRange_11 hl (by decide) rfl (fun ls hl => ?_)
    refine lv_iload_n hx hb dX0_addRange_13 rfl (lv_at hl 1 rfl) ?_
    refine lv_istore (lv' := [(5, .int (nI tt)), (4, .int (nI ff)), (3, .int (nI tt)), (0, .ref a), (1, .int (nI ff)), (2, .int (nI tt))]) hx hb dX0_addRange_14 hl (by decide) rfl (fun ls hl => ?_)
    have lp_16 : ∀ (fu : Nat) (i : Nat), (i ≤ ff - tt + 1) → (∀ q, q < i → u4 (tt + q) = 0) → (ff - tt + 1) - i < fu → ∀ (H : Heap) (locs : List Loc), mw_Q (mw_A M s.heap.size) D vwCl M H → va_S (mw_A M s.heap.size) s.heap H locs → ∀ ls : Array Slot, lv_has ls 6 [(0, .ref a), (1, .int (nI ff)), (2, .int (nI tt)), (3, .int (nI tt)), (4, .int (nI ff)), (5, .int (nI (tt + i)))] → W p l e ({ frames := 1, cells := 0, slots := 0, locals := 22 } : Room) s m ([.ref a, .int (nI ff), .int (nI tt)] : List Value).toArray below meth c H locs 0 0 Q (F0 m 16 ls []) := by
      intro fu
      induction fu with
      | zero => intro i hi hal hn; exact absurd hn (Nat.not_lt_zero _)
      | succ fu ih_16 =>
        intro i hi hal hn H locs hP hS ls hl
        refine lv_iload hx hb dX0_addRange_16 (lv_at hl 5 rfl) ?_
        refine lv_iload hx hb dX0_addRange_18 (lv_at hl 4 rfl) ?_
        refine lv_icmp_gt (tgt := 41) hx hb dX0_addRange_20 (by decide) (fun c_20 => ?_) (fun c_20 => ?_)
        · have k_20 : ff < (tt + i) := nn_lt (a := ff) (b := (tt + i)) c_20 (by omega) (by omega)
          have hal9 : ∀ q, q < tcn false ff tt → u4 (tlo false ff tt + q) = 0 := fun q h => hal q (by have h : q < ff - tt + 1 := h; omega)
          refine lv_iload_n hx hb dX0_addRange_41 rfl (lv_at hl 3 rfl) ?_
          refine lv_istore (lv' := [(5, .int (nI tt)), (0, .ref a), (1, .int (nI ff)), (2, .int (nI tt)), (3, .int (nI tt)), (4, .int (nI ff))]) hx hb dX0_addRange_42 hl (by decide) rfl (fun ls hl => ?_)
          have lp_44 : ∀ (fu : Nat) (i : Nat) (M1 : mw), (i ≤ ff - tt + 1) → (M1 a = some (.inr (1, [.int al, .ref b4, .ref b5, .int nx]))) → (M1 b4 = some (.inl (k 0, 256, .inl (blk u3 tt i (fun q => nx + nI (dst false ff tt q)))))) → (M1 b5 = some (.inl (k 1, 256, .inl (blk u4 tt i (fun _ => 1))))) → (∀ x, x ≠ b4 → x ≠ b5 → M1 x = M x) → (ff - tt + 1) - i < fu → ∀ (H : Heap) (locs : List Loc), mw_Q (mw_A M s.heap.size) D vwCl M1 H → va_S (mw_A M s.heap.size) s.heap H locs → ∀ ls : Array Slot, lv_has ls 6 [(0, .ref a), (1, .int (nI ff)), (2, .int (nI tt)), (3, .int (nI tt)), (4, .int (nI ff)), (5, .int (nI (tt + i)))] → W p l e ({ frames := 1, cells := 0, slots := 0, locals := 22 } : Room) s m ([.ref a, .int (nI ff), .int (nI tt)] : List Value).toArray below meth c H locs 0 0 Q (F0 m 44 ls []) := by
            intro fu
            induction fu with
            | zero => intro i M1 hi g1 g2 g3 hf hn; exact absurd hn (Nat.not_lt_zero _)
            | succ fu ih_44 =>
              intro i M1 hi g1 g2 g3 hf hn H locs hP hS ls hl
              refine lv_iload hx hb dX0_addRange_44 (lv_at hl 5 rfl) ?_
              refine lv_iload hx hb dX0_addRange_46 (lv_at hl 4 rfl) ?_
              refine lv_icmp_gt (tgt := 84) hx hb dX0_addRange_48 (by decide) (fun c_48 => ?_) (fun c_48 => ?_)
              · have k_48 : ff < (tt + i) := nn_lt (a := ff) (b := (tt + i)) c_48 (by omega) (by omega)
                obtain rfl : i = ff - tt + 1 := by omega
                refine lv_aload_n hx hb dX0_addRange_84 rfl (lv_at hl 0 rfl) ?_
                refine lv_dup hx hb dX0_addRange_85 rfl ?_
                refine mw_get (v := .int nx) (ci := 1) (T := TX0) (N := 4) (C := RX0) hE iX0_addRange_X0 hP g1 rfl 3 (by decide) (hE.2.2.1 _ mX0_addRange_f19) rfl rfl dX0_addRange_86 ?_
                refine lv_iload hx hb dX0_addRange_89 (lv_at hl 4 rfl) ?_
                refine lv_iload_n hx hb dX0_addRange_91 rfl (lv_at hl 3 rfl) ?_
                refine lv_isub hx hb dX0_addRange_92 ?_
                refine rw_i (v := nI (ff - tt)) (pk_sub (by omega)) ?_
                refine lv_iconst (v := 1) hx hb dX0_addRange_93 (by decide) ?_
                refine lv_iadd hx hb dX0_addRange_94 ?_
                refine rw_i (v := nI ((ff - tt) + 1)) (nI_1 _) ?_
                refine lv_iadd hx hb dX0_addRange_95 ?_
                refine mw_put (ty := .int) (v := .int (nx + (nI ((ff - tt) + 1)))) (ci := 1) (T := TX0) (N := 4) (C := RX0) hE iX0_addRange_X0 tyX0 tyX0_ok nmX0 hP hS g1 rfl 3 (by decide) (hE.2.2.1 _ mX0_addRange_f19) rfl rfl (by decide +kernel) rfl rfl (Nat.le_of_ble_eq_true rfl) dX0_addRange_96 (fun H locs hP hS => ?_)
                obtain ⟨M_3, eM_3⟩ : ∃ Z, Z = mw_up M1 a (.inr (1, [.int al, .ref b4, .ref b5, .int (nx + (nI ((ff - tt) + 1)))])) := ⟨_, rfl⟩
                have hP : mw_Q (mw_A M s.heap.size) D vwCl M_3 H := by rw [eM_3]; exact hP
                have f_4 : M_3 a = some (.inr (1, [.int al, .ref b4, .ref b5, .int (nx + (nI ((ff - tt) + 1)))])) := by rw [eM_3]; exact mw_up_s
                have f_5 : M_3 b4 = some (.inl ((k 0), 256, .inl (blk u3 tt (ff - tt + 1) (fun q => nx + nI (dst false ff tt q))))) := by rw [eM_3, mw_up_n (fun h => by have h1 := g2; rw [h, g1] at h1; cases h1)]; exact g2
                have f_6 : M_3 b5 = some (.inl ((k 1), 256, .inl (blk u4 tt (ff - tt + 1) (fun _ => 1)))) := by rw [eM_3, mw_up_n (fun h => by have h1 := g3; rw [h, g1] at h1; cases h1)]; exact g3
                refine lv_aload_n hx hb dX0_addRange_99 rfl (lv_at hl 0 rfl) ?_
                refine mw_callv hP hS hA (va_runV (As := []) (rest := []) ⟨hx, hb, hml, hE.2.2.2.1, hE.2.2.1⟩ (tX0_rankThoseOutside l D k _ _ a b4 b5 al (nx + (nI ((ff - tt) + 1))) (blk u3 tt (ff - tt + 1) (fun q => nx + nI (dst false ff tt q))) (blk u4 tt (ff - tt + 1) (fun _ => 1)) f_4 f_5 f_6 hne) (cwV 0 hE.2.2.1 gX0_addRange_X0_rankThoseOutside rfl rfl rfl (by decide +kernel) ⟨(Nat.le_of_ble_eq_true rfl), (Nat.le_of_ble_eq_true rfl)⟩) (mw_preV hE hP (ci := 1) rfl rfl f_4 []) rfl rfl hl.1 rfl (lv_room (Nat.le_of_ble_eq_true rfl)) dX0_addRange_100 ⟨(Nat.le_of_ble_eq_true rfl), (Nat.le_of_ble_eq_true rfl)⟩) (fun M9 H locs hw hP hS => ?_)
                obtain ⟨h91, h92⟩ := hw
                refine lv_iconst (v := 1) hx hb dX0_addRange_103 (by decide) ?_
                rw [hQ]
                exact mw_zret (v := 1) (ty := .boolean) hE hr hlocks hP hS dX0_addRange_104 (rfl) (⟨false, ⟨fun h => absurd h (by decide), fun h => absurd h (by omega)⟩, Or.inr ⟨hal9, rfl, (h92 b5 (Ne.symm hne)).trans f_6, h91, (h92 a nab4).trans f_4, fun x h1 h2 h3 => by rw [h92 x h2, eM_3, mw_up_n h1]; exact hf x h2 h3⟩⟩)
              · have k_48 : (tt + i) ≤ ff := nn_nlt (a := ff) (b := (tt + i)) c_48 (by omega) (by omega)
                refine lv_aload_n hx hb dX0_addRange_51 rfl (lv_at hl 0 rfl) ?_
                refine mw_get (v := .ref b5) (ci := 1) (T := TX0) (N := 4) (C := RX0) hE iX0_addRange_X0 hP g1 rfl 2 (by decide) (hE.2.2.1 _ mX0_addRange_f15) rfl rfl dX0_addRange_52 ?_
                refine lv_iload hx hb dX0_addRange_55 (lv_at hl 5 rfl) ?_
                refine lv_iconst (v := 1) hx hb dX0_addRange_57 (by decide) ?_
                refine rw_zast hE hP hS 1 g3 rfl (by decide) (by decide) dX0_addRange_58 (by omega) (fun H locs hP hS => ?_)
                obtain ⟨M_7, eM_7⟩ : ∃ Z, Z = mw_up M1 b5 (.inl ((k 1), 256, .inl (upd (blk u4 tt i (fun _ => 1)) (tt + i) 1))) := ⟨_, rfl⟩
                have hP : mw_Q (mw_A M s.heap.size) D vwCl M_7 H := by rw [eM_7]; exact hP
                have f_8 : M_7 a = some (.inr (1, [.int al, .ref b4, .ref b5, .int nx])) := by rw [eM_7, mw_up_n (fun h => by have h1 := g1; rw [h, g3] at h1; cases h1)]; exact g1
                have f_9 : M_7 b4 = some (.inl ((k 0), 256, .inl (blk u3 tt i (fun q => nx + nI (dst false ff tt q))))) := by rw [eM_7, mw_up_n hne]; exact g2
                have f_10 : M_7 b5 = some (.inl ((k 1), 256, .inl (upd (blk u4 tt i (fun _ => 1)) (tt + i) 1))) := by rw [eM_7]; exact mw_up_s
                refine lv_aload_n hx hb dX0_addRange_59 rfl (lv_at hl 0 rfl) ?_
                refine mw_get (v := .ref b4) (ci := 1) (T := TX0) (N := 4) (C := RX0) hE iX0_addRange_X0 hP f_8 rfl 1 (by decide) (hE.2.2.1 _ mX0_addRange_f9) rfl rfl dX0_addRange_60 ?_
                refine lv_iload hx hb dX0_addRange_63 (lv_at hl 5 rfl) ?_
                refine lv_aload_n hx hb dX0_addRange_65 rfl (lv_at hl 0 rfl) ?_
                refine mw_get (v := .int nx) (ci := 1) (T := TX0) (N := 4) (C := RX0) hE iX0_addRange_X0 hP f_8 rfl 3 (by decide) (hE.2.2.1 _ mX0_addRange_f19) rfl rfl dX0_addRange_66 ?_
                refine lv_iload hx hb dX0_addRange_69 (lv_at hl 5 rfl) ?_
                refine lv_iload_n hx hb dX0_addRange_71 rfl (lv_at hl 1 rfl) ?_
                refine lv_isub hx hb dX0_addRange_72 ?_
                refine va_mabs hx hb (by rw [hml]; exact hl.1.symm) hE.2.2.2.1 (hE.2.2.1 _ mX0_addRange_ml44) (hE.2.2.1 _ mX0_addRange_stLibMathabsname) (hE.2.2.1 _ mX0_addRange_inijavalangMath) (hE.2.2.1 _ mX0_addRange_mathabs) (by decide) (Nat.le_of_ble_eq_true rfl) (by decide) (by decide) dX0_addRange_73 ?_
                refine rw_i (v := nI (dst false ff tt i)) (by rw [abs_dn (by omega) (by omega)]; exact congrArg nI (by show ff - (tt + i) = ff - tt - i; omega)) ?_
                refine lv_iadd hx hb dX0_addRange_76 ?_
                refine rw_iast hE hP hS 0 f_9 rfl (by decide) dX0_addRange_77 (by omega) (fun H locs hP hS => ?_)
                obtain ⟨M_11, eM_11⟩ : ∃ Z, Z = mw_up M_7 b4 (.inl ((k 0), 256, .inl (upd (blk u3 tt i (fun q => nx + nI (dst false ff tt q))) (tt + i) (nx + (nI (dst false ff tt i)))))) := ⟨_, rfl⟩
                have hP : mw_Q (mw_A M s.heap.size) D vwCl M_11 H := by rw [eM_11]; exact hP
                have f_12 : M_11 a = some (.inr (1, [.int al, .ref b4, .ref b5, .int nx])) := by rw [eM_11, mw_up_n (fun h => by have h1 := f_8; rw [h, f_9] at h1; cases h1)]; exact f_8
                have f_13 : M_11 b4 = some (.inl ((k 0), 256, .inl (upd (blk u3 tt i (fun q => nx + nI (dst false ff tt q))) (tt + i) (nx + (nI (dst false ff tt i)))))) := by rw [eM_11]; exact mw_up_s
                have f_14 : M_11 b5 = some (.inl ((k 1), 256, .inl (upd (blk u4 tt i (fun _ => 1)) (tt + i) 1))) := by rw [eM_11, mw_up_n (Ne.symm hne)]; exact f_10
                refine lv_iinc (v := nI ((tt + i) + 1)) (lv' := [(5, .int (nI ((tt + i) + 1))), (0, .ref a), (1, .int (nI ff)), (2, .int (nI tt)), (3, .int (nI tt)), (4, .int (nI ff))]) hx hb dX0_addRange_78 hl (k := 5) rfl (nI_1 (tt + i)) (by decide) rfl (fun ls hl => ?_)
                refine lv_goto (tgt := 44) hx hb dX0_addRange_81 (by decide) ?_
                have hfr9 : ∀ x, x ≠ b4 → x ≠ b5 → M_11 x = M x := fun x h1 h2 => by rw [eM_11, mw_up_n h1, eM_7, mw_up_n h2]; exact hf x h1 h2
                exact ih_44 (i + 1) M_11 (by omega) (f_12) (by rw [f_13, blk_s (by rfl)]) (by rw [f_14, blk_s (by rfl)]) (hfr9) (by omega) H locs hP hS ls (lv_sub hl [1, 2, 3, 4, 5, 0] rfl)
          exact lp_44 (300) 0 M (by omega) (fa) (by rw [blk_0]; exact fb) (by rw [blk_0]; exact fc) (fun _ _ _ => rfl) (by omega) _ _ hP hS ls (lv_sub hl [1, 2, 3, 4, 5, 0] rfl)
        · have k_20 : (tt + i) ≤ ff := nn_nlt (a := ff) (b := (tt + i)) c_20 (by omega) (by omega)
          refine lv_aload_n hx hb dX0_addRange_23 rfl (lv_at hl 0 rfl) ?_
          refine mw_get (v := .ref b5) (ci := 1) (T := TX0) (N := 4) (C := RX0) hE iX0_addRange_X0 hP fa rfl 2 (by decide) (hE.2.2.1 _ mX0_addRange_f15) rfl rfl dX0_addRange_24 ?_
          refine lv_iload hx hb dX0_addRange_27 (lv_at hl 5 rfl) ?_
          refine rw_zald hE hP 1 fc rfl (by decide) dX0_addRange_29 (by omega) ?_
          refine lv_if_eq (tgt := 35) hx hb dX0_addRange_30 (by decide) (fun c_30 => ?_) (fun c_30 => ?_)
          · refine lv_iinc (v := nI ((tt + i) + 1)) (lv' := [(5, .int (nI ((tt + i) + 1))), (0, .ref a), (1, .int (nI ff)), (2, .int (nI tt)), (3, .int (nI tt)), (4, .int (nI ff))]) hx hb dX0_addRange_35 hl (k := 5) rfl (nI_1 (tt + i)) (by decide) rfl (fun ls hl => ?_)
            refine lv_goto (tgt := 16) hx hb dX0_addRange_38 (by decide) ?_
            exact ih_16 (i + 1) (by omega) (lt_s (p := fun q => u4 (tt + q) = 0) hal c_30) (by omega) H locs hP hS ls (lv_sub hl [1, 2, 3, 4, 5, 0] rfl)
          · refine lv_iconst (v := 0) hx hb dX0_addRange_33 (by decide) ?_
            rw [hQ]
            exact mw_zret (v := 0) (ty := .boolean) hE hr hlocks hP hS dX0_addRange_34 (rfl) (⟨false, ⟨fun h => absurd h (by decide), fun h => absurd h (by omega)⟩, Or.inl ⟨⟨i, by show i < ff - tt + 1; omega, c_30⟩, rfl, rfl⟩⟩)
    exact lp_16 (300) 0 (by omega) (fun q h => absurd h (Nat.not_lt_zero _)) (by omega) _ _ hP hS ls (lv_sub hl [3, 4, 5, 2, 1, 0] rfl)
  · skip
    refine lv_iload_n hx hb dX0_addRange_0 rfl (lv_at hl 1 rfl) ?_
    refine lv_iload_n hx hb dX0_addRange_1 rfl (lv_at hl 2 rfl) ?_
    refine va_mmin hx hb (by rw [hml]; exact hl.1.symm) hE.2.2.2.1 (hE.2.2.1 _ mX0_addRange_ml35) (hE.2.2.1 _ mX0_addRange_stLibMathminname) (hE.2.2.1 _ mX0_addRange_inijavalangMath) (hE.2.2.1 _ mX0_addRange_mathmin) (by decide) (Nat.le_of_ble_eq_true rfl) (by decide) (by decide) dX0_addRange_2 ?_
    refine rw_i (v := nI ff) (if_neg (nI_nlt hud (by omega))) ?_
    refine lv_istore_n (lv' := [(3, .int (nI ff)), (0, .ref a), (1, .int (nI ff)), (2, .int (nI tt))]) hx hb dX0_addRange_5 rfl hl (by decide) rfl (fun ls hl => ?_)
    refine lv_iload_n hx hb dX0_addRange_6 rfl (lv_at hl 2 rfl) ?_
    refine lv_iload_n hx hb dX0_addRange_7 rfl (lv_at hl 3 rfl) ?_
    refine va_mmax hx hb (by rw [hml]; exact hl.1.symm) hE.2.2.2.1 (hE.2.2.1 _ mX0_addRange_ml41) (hE.2.2.1 _ mX0_addRange_stLibMathmaxname) (hE.2.2.1 _ mX0_addRange_inijavalangMath) (hE.2.2.1 _ mX0_addRange_mathmax) (by decide) (Nat.le_of_ble_eq_true rfl) (by decide) (by decide) dX0_addRange_8 ?_
    refine rw_i (v := nI tt) (max_up hud (by omega)) ?_
    refine lv_istore (lv' := [(4, .int (nI tt)), (3, .int (nI ff)), (0, .ref a), (1, .int (nI ff)), (2, .int (nI tt))]) hx hb dX0_addRange_11 hl (by decide) rfl (fun ls hl => ?_)
    refine lv_iload_n hx hb dX0_addRange_13 rfl (lv_at hl 1 rfl) ?_
    refine lv_istore (lv' := [(5, .int (nI ff)), (4, .int (nI tt)), (3, .int (nI ff)), (0, .ref a), (1, .int (nI ff)), (2, .int (nI tt))]) hx hb dX0_addRange_14 hl (by decide) rfl (fun ls hl => ?_)
    have lp_16 : ∀ (fu : Nat) (i : Nat), (i ≤ tt - ff + 1) → (∀ q, q < i → u4 (ff + q) = 0) → (tt - ff + 1) - i < fu → ∀ (H : Heap) (locs : List Loc), mw_Q (mw_A M s.heap.size) D vwCl M H → va_S (mw_A M s.heap.size) s.heap H locs → ∀ ls : Array Slot, lv_has ls 6 [(0, .ref a), (1, .int (nI ff)), (2, .int (nI tt)), (3, .int (nI ff)), (4, .int (nI tt)), (5, .int (nI (ff + i)))] → W p l e ({ frames := 1, cells := 0, slots := 0, locals := 22 } : Room) s m ([.ref a, .int (nI ff), .int (nI tt)] : List Value).toArray below meth c H locs 0 0 Q (F0 m 16 ls []) := by
      intro fu
      induction fu with
      | zero => intro i hi hal hn; exact absurd hn (Nat.not_lt_zero _)
      | succ fu ih_16 =>
        intro i hi hal hn H locs hP hS ls hl
        refine lv_iload hx hb dX0_addRange_16 (lv_at hl 5 rfl) ?_
        refine lv_iload hx hb dX0_addRange_18 (lv_at hl 4 rfl) ?_
        refine lv_icmp_gt (tgt := 41) hx hb dX0_addRange_20 (by decide) (fun c_20 => ?_) (fun c_20 => ?_)
        · have k_20 : tt < (ff + i) := nn_lt (a := tt) (b := (ff + i)) c_20 (by omega) (by omega)
          have hal9 : ∀ q, q < tcn true ff tt → u4 (tlo true ff tt + q) = 0 := fun q h => hal q (by have h : q < tt - ff + 1 := h; omega)
          refine lv_iload_n hx hb dX0_addRange_41 rfl (lv_at hl 3 rfl) ?_
          refine lv_istore (lv' := [(5, .int (nI ff)), (0, .ref a), (1, .int (nI ff)), (2, .int (nI tt)), (3, .int (nI ff)), (4, .int (nI tt))]) hx hb dX0_addRange_42 hl (by decide) rfl (fun ls hl => ?_)
          have lp_44 : ∀ (fu : Nat) (i : Nat) (M1 : mw), (i ≤ tt - ff + 1) → (M1 a = some (.inr (1, [.int al, .ref b4, .ref b5, .int nx]))) → (M1 b4 = some (.inl (k 0, 256, .inl (blk u3 ff i (fun q => nx + nI (dst true ff tt q)))))) → (M1 b5 = some (.inl (k 1, 256, .inl (blk u4 ff i (fun _ => 1))))) → (∀ x, x ≠ b4 → x ≠ b5 → M1 x = M x) → (tt - ff + 1) - i < fu → ∀ (H : Heap) (locs : List Loc), mw_Q (mw_A M s.heap.size) D vwCl M1 H → va_S (mw_A M s.heap.size) s.heap H locs → ∀ ls : Array Slot, lv_has ls 6 [(0, .ref a), (1, .int (nI ff)), (2, .int (nI tt)), (3, .int (nI ff)), (4, .int (nI tt)), (5, .int (nI (ff + i)))] → W p l e ({ frames := 1, cells := 0, slots := 0, locals := 22 } : Room) s m ([.ref a, .int (nI ff), .int (nI tt)] : List Value).toArray below meth c H locs 0 0 Q (F0 m 44 ls []) := by
            intro fu
            induction fu with
            | zero => intro i M1 hi g1 g2 g3 hf hn; exact absurd hn (Nat.not_lt_zero _)
            | succ fu ih_44 =>
              intro i M1 hi g1 g2 g3 hf hn H locs hP hS ls hl
              refine lv_iload hx hb dX0_addRange_44 (lv_at hl 5 rfl) ?_
              refine lv_iload hx hb dX0_addRange_46 (lv_at hl 4 rfl) ?_
              refine lv_icmp_gt (tgt := 84) hx hb dX0_addRange_48 (by decide) (fun c_48 => ?_) (fun c_48 => ?_)
              · have k_48 : tt < (ff + i) := nn_lt (a := tt) (b := (ff + i)) c_48 (by omega) (by omega)
                obtain rfl : i = tt - ff + 1 := by omega
                refine lv_aload_n hx hb dX0_addRange_84 rfl (lv_at hl 0 rfl) ?_
                refine lv_dup hx hb dX0_addRange_85 rfl ?_
                refine mw_get (v := .int nx) (ci := 1) (T := TX0) (N := 4) (C := RX0) hE iX0_addRange_X0 hP g1 rfl 3 (by decide) (hE.2.2.1 _ mX0_addRange_f19) rfl rfl dX0_addRange_86 ?_
                refine lv_iload hx hb dX0_addRange_89 (lv_at hl 4 rfl) ?_
                refine lv_iload_n hx hb dX0_addRange_91 rfl (lv_at hl 3 rfl) ?_
                refine lv_isub hx hb dX0_addRange_92 ?_
                refine rw_i (v := nI (tt - ff)) (pk_sub (by omega)) ?_
                refine lv_iconst (v := 1) hx hb dX0_addRange_93 (by decide) ?_
                refine lv_iadd hx hb dX0_addRange_94 ?_
                refine rw_i (v := nI ((tt - ff) + 1)) (nI_1 _) ?_
                refine lv_iadd hx hb dX0_addRange_95 ?_
                refine mw_put (ty := .int) (v := .int (nx + (nI ((tt - ff) + 1)))) (ci := 1) (T := TX0) (N := 4) (C := RX0) hE iX0_addRange_X0 tyX0 tyX0_ok nmX0 hP hS g1 rfl 3 (by decide) (hE.2.2.1 _ mX0_addRange_f19) rfl rfl (by decide +kernel) rfl rfl (Nat.le_of_ble_eq_true rfl) dX0_addRange_96 (fun H locs hP hS => ?_)
                obtain ⟨M_18, eM_18⟩ : ∃ Z, Z = mw_up M1 a (.inr (1, [.int al, .ref b4, .ref b5, .int (nx + (nI ((tt - ff) + 1)))])) := ⟨_, rfl⟩
                have hP : mw_Q (mw_A M s.heap.size) D vwCl M_18 H := by rw [eM_18]; exact hP
                have f_19 : M_18 a = some (.inr (1, [.int al, .ref b4, .ref b5, .int (nx + (nI ((tt - ff) + 1)))])) := by rw [eM_18]; exact mw_up_s
                have f_20 : M_18 b4 = some (.inl ((k 0), 256, .inl (blk u3 ff (tt - ff + 1) (fun q => nx + nI (dst true ff tt q))))) := by rw [eM_18, mw_up_n (fun h => by have h1 := g2; rw [h, g1] at h1; cases h1)]; exact g2
                have f_21 : M_18 b5 = some (.inl ((k 1), 256, .inl (blk u4 ff (tt - ff + 1) (fun _ => 1)))) := by rw [eM_18, mw_up_n (fun h => by have h1 := g3; rw [h, g1] at h1; cases h1)]; exact g3
                refine lv_aload_n hx hb dX0_addRange_99 rfl (lv_at hl 0 rfl) ?_
                refine mw_callv hP hS hA (va_runV (As := []) (rest := []) ⟨hx, hb, hml, hE.2.2.2.1, hE.2.2.1⟩ (tX0_rankThoseOutside l D k _ _ a b4 b5 al (nx + (nI ((tt - ff) + 1))) (blk u3 ff (tt - ff + 1) (fun q => nx + nI (dst true ff tt q))) (blk u4 ff (tt - ff + 1) (fun _ => 1)) f_19 f_20 f_21 hne) (cwV 0 hE.2.2.1 gX0_addRange_X0_rankThoseOutside rfl rfl rfl (by decide +kernel) ⟨(Nat.le_of_ble_eq_true rfl), (Nat.le_of_ble_eq_true rfl)⟩) (mw_preV hE hP (ci := 1) rfl rfl f_19 []) rfl rfl hl.1 rfl (lv_room (Nat.le_of_ble_eq_true rfl)) dX0_addRange_100 ⟨(Nat.le_of_ble_eq_true rfl), (Nat.le_of_ble_eq_true rfl)⟩) (fun M9 H locs hw hP hS => ?_)
                obtain ⟨h91, h92⟩ := hw
                refine lv_iconst (v := 1) hx hb dX0_addRange_103 (by decide) ?_
                rw [hQ]
                exact mw_zret (v := 1) (ty := .boolean) hE hr hlocks hP hS dX0_addRange_104 (rfl) (⟨true, ⟨fun _ => hud, fun _ => rfl⟩, Or.inr ⟨hal9, rfl, (h92 b5 (Ne.symm hne)).trans f_21, h91, (h92 a nab4).trans f_19, fun x h1 h2 h3 => by rw [h92 x h2, eM_18, mw_up_n h1]; exact hf x h2 h3⟩⟩)
              · have k_48 : (ff + i) ≤ tt := nn_nlt (a := tt) (b := (ff + i)) c_48 (by omega) (by omega)
                refine lv_aload_n hx hb dX0_addRange_51 rfl (lv_at hl 0 rfl) ?_
                refine mw_get (v := .ref b5) (ci := 1) (T := TX0) (N := 4) (C := RX0) hE iX0_addRange_X0 hP g1 rfl 2 (by decide) (hE.2.2.1 _ mX0_addRange_f15) rfl rfl dX0_addRange_52 ?_
                refine lv_iload hx hb dX0_addRange_55 (lv_at hl 5 rfl) ?_
                refine lv_iconst (v := 1) hx hb dX0_addRange_57 (by decide) ?_
                refine rw_zast hE hP hS 1 g3 rfl (by decide) (by decide) dX0_addRange_58 (by omega) (fun H locs hP hS => ?_)
                obtain ⟨M_22, eM_22⟩ : ∃ Z, Z = mw_up M1 b5 (.inl ((k 1), 256, .inl (upd (blk u4 ff i (fun _ => 1)) (ff + i) 1))) := ⟨_, rfl⟩
                have hP : mw_Q (mw_A M s.heap.size) D vwCl M_22 H := by rw [eM_22]; exact hP
                have f_23 : M_22 a = some (.inr (1, [.int al, .ref b4, .ref b5, .int nx])) := by rw [eM_22, mw_up_n (fun h => by have h1 := g1; rw [h, g3] at h1; cases h1)]; exact g1
                have f_24 : M_22 b4 = some (.inl ((k 0), 256, .inl (blk u3 ff i (fun q => nx + nI (dst true ff tt q))))) := by rw [eM_22, mw_up_n hne]; exact g2
                have f_25 : M_22 b5 = some (.inl ((k 1), 256, .inl (upd (blk u4 ff i (fun _ => 1)) (ff + i) 1))) := by rw [eM_22]; exact mw_up_s
                refine lv_aload_n hx hb dX0_addRange_59 rfl (lv_at hl 0 rfl) ?_
                refine mw_get (v := .ref b4) (ci := 1) (T := TX0) (N := 4) (C := RX0) hE iX0_addRange_X0 hP f_23 rfl 1 (by decide) (hE.2.2.1 _ mX0_addRange_f9) rfl rfl dX0_addRange_60 ?_
                refine lv_iload hx hb dX0_addRange_63 (lv_at hl 5 rfl) ?_
                refine lv_aload_n hx hb dX0_addRange_65 rfl (lv_at hl 0 rfl) ?_
                refine mw_get (v := .int nx) (ci := 1) (T := TX0) (N := 4) (C := RX0) hE iX0_addRange_X0 hP f_23 rfl 3 (by decide) (hE.2.2.1 _ mX0_addRange_f19) rfl rfl dX0_addRange_66 ?_
                refine lv_iload hx hb dX0_addRange_69 (lv_at hl 5 rfl) ?_
                refine lv_iload_n hx hb dX0_addRange_71 rfl (lv_at hl 1 rfl) ?_
                refine lv_isub hx hb dX0_addRange_72 ?_
                refine va_mabs hx hb (by rw [hml]; exact hl.1.symm) hE.2.2.2.1 (hE.2.2.1 _ mX0_addRange_ml44) (hE.2.2.1 _ mX0_addRange_stLibMathabsname) (hE.2.2.1 _ mX0_addRange_inijavalangMath) (hE.2.2.1 _ mX0_addRange_mathabs) (by decide) (Nat.le_of_ble_eq_true rfl) (by decide) (by decide) dX0_addRange_73 ?_
                refine rw_i (v := nI (dst true ff tt i)) (by rw [abs_up (by omega) (by omega)]; exact congrArg nI (by show ff + i - ff = i; omega)) ?_
                refine lv_iadd hx hb dX0_addRange_76 ?_
                refine rw_iast hE hP hS 0 f_24 rfl (by decide) dX0_addRange_77 (by omega) (fun H locs hP hS => ?_)
                obtain ⟨M_26, eM_26⟩ : ∃ Z, Z = mw_up M_22 b4 (.inl ((k 0), 256, .inl (upd (blk u3 ff i (fun q => nx + nI (dst true ff tt q))) (ff + i) (nx + (nI (dst true ff tt i)))))) := ⟨_, rfl⟩
                have hP : mw_Q (mw_A M s.heap.size) D vwCl M_26 H := by rw [eM_26]; exact hP
                have f_27 : M_26 a = some (.inr (1, [.int al, .ref b4, .ref b5, .int nx])) := by rw [eM_26, mw_up_n (fun h => by have h1 := f_23; rw [h, f_24] at h1; cases h1)]; exact f_23
                have f_28 : M_26 b4 = some (.inl ((k 0), 256, .inl (upd (blk u3 ff i (fun q => nx + nI (dst true ff tt q))) (ff + i) (nx + (nI (dst true ff tt i)))))) := by rw [eM_26]; exact mw_up_s
                have f_29 : M_26 b5 = some (.inl ((k 1), 256, .inl (upd (blk u4 ff i (fun _ => 1)) (ff + i) 1))) := by rw [eM_26, mw_up_n (Ne.symm hne)]; exact f_25
                refine lv_iinc (v := nI ((ff + i) + 1)) (lv' := [(5, .int (nI ((ff + i) + 1))), (0, .ref a), (1, .int (nI ff)), (2, .int (nI tt)), (3, .int (nI ff)), (4, .int (nI tt))]) hx hb dX0_addRange_78 hl (k := 5) rfl (nI_1 (ff + i)) (by decide) rfl (fun ls hl => ?_)
                refine lv_goto (tgt := 44) hx hb dX0_addRange_81 (by decide) ?_
                have hfr9 : ∀ x, x ≠ b4 → x ≠ b5 → M_26 x = M x := fun x h1 h2 => by rw [eM_26, mw_up_n h1, eM_22, mw_up_n h2]; exact hf x h1 h2
                exact ih_44 (i + 1) M_26 (by omega) (f_27) (by rw [f_28, blk_s (by rfl)]) (by rw [f_29, blk_s (by rfl)]) (hfr9) (by omega) H locs hP hS ls (lv_sub hl [1, 2, 3, 4, 5, 0] rfl)
          exact lp_44 (300) 0 M (by omega) (fa) (by rw [blk_0]; exact fb) (by rw [blk_0]; exact fc) (fun _ _ _ => rfl) (by omega) _ _ hP hS ls (lv_sub hl [1, 2, 3, 4, 5, 0] rfl)
        · have k_20 : (ff + i) ≤ tt := nn_nlt (a := tt) (b := (ff + i)) c_20 (by omega) (by omega)
          refine lv_aload_n hx hb dX0_addRange_23 rfl (lv_at hl 0 rfl) ?_
          refine mw_get (v := .ref b5) (ci := 1) (T := TX0) (N := 4) (C := RX0) hE iX0_addRange_X0 hP fa rfl 2 (by decide) (hE.2.2.1 _ mX0_addRange_f15) rfl rfl dX0_addRange_24 ?_
          refine lv_iload hx hb dX0_addRange_27 (lv_at hl 5 rfl) ?_
          refine rw_zald hE hP 1 fc rfl (by decide) dX0_addRange_29 (by omega) ?_
          refine lv_if_eq (tgt := 35) hx hb dX0_addRange_30 (by decide) (fun c_30 => ?_) (fun c_30 => ?_)
          · refine lv_iinc (v := nI ((ff + i) + 1)) (lv' := [(5, .int (nI ((ff + i) + 1))), (0, .ref a), (1, .int (nI ff)), (2, .int (nI tt)), (3, .int (nI ff)), (4, .int (nI tt))]) hx hb dX0_addRange_35 hl (k := 5) rfl (nI_1 (ff + i)) (by decide) rfl (fun ls hl => ?_)
            refine lv_goto (tgt := 16) hx hb dX0_addRange_38 (by decide) ?_
            exact ih_16 (i + 1) (by omega) (lt_s (p := fun q => u4 (ff + q) = 0) hal c_30) (by omega) H locs hP hS ls (lv_sub hl [1, 2, 3, 4, 5, 0] rfl)
          · refine lv_iconst (v := 0) hx hb dX0_addRange_33 (by decide) ?_
            rw [hQ]
            exact mw_zret (v := 0) (ty := .boolean) hE hr hlocks hP hS dX0_addRange_34 (rfl) (⟨true, ⟨fun _ => hud, fun _ => rfl⟩, Or.inl ⟨⟨i, by show i < tt - ff + 1; omega, c_30⟩, rfl, rfl⟩⟩)
    exact lp_16 (300) 0 (by omega) (fun q h => absurd h (Nat.not_lt_zero _)) (by omega) _ _ hP hS ls (lv_sub hl [3, 4, 5, 2, 1, 0] rfl)
end
section
set_option maxRecDepth 20000 in
theorem mX0_rankBy_f9 : Cond.fieldLink RX0 9 "CodePages$Order" "ranks" "[I" ∈ wsX0_rankBy := by decide +kernel
set_option maxRecDepth 20000 in
theorem iX0_rankBy_X0 : ∀ w ∈ u_ws RX0 TX0 4, w ∈ wsX0_rankBy := by decide +kernel
set_option maxRecDepth 20000 in
theorem mX0_rankBy_arrint : Cond.arrayClass .int ∈ wsX0_rankBy := by decide +kernel
set_option maxHeartbeats 4000000 in
set_option maxRecDepth 100000 in
theorem tX0_rankBy (l : Launch) (D : va_G) (k : Nat → ClassId) (M : mw) (sz : Nat) (a b4 b5 : Nat) (al nx : Int32) (u3 u4 : Nat → Int32) (fa : M a = some (.inr (1, [.int al, .ref b4, .ref b5, .int nx]))) (fb : M b4 = some (.inl (k 0, 256, .inl u3))) (fc : M b5 = some (.inl (k 1, 256, .inl u4))) (pm : Nat) (f : Nat → Int32) (fm9 : M pm = some (.inl (k 0, 256, .inl f))) (hK : ∀ x y, x < 256 → y < 256 → kx f x = kx f y → x = y) : Met l yX0_rankBy wsX0_rankBy ({ frames := 1, cells := 1, slots := 256, locals := 21 }) (va_Pc [.ref a, .ref pm] (mw_U D vwCl (TY k) M sz)) (va_Qv (fun M1 => ∃ R3 q, M q = none ∧ M1 b4 = some (.inl (k 0, 256, .inl R3)) ∧ (∀ x, x < 256 → R3 x = nI (cntb (ltb (Kx f) x) 256)) ∧ ∀ x, x ≠ q → x ≠ b4 → M1 x = M x) (mw_B D vwCl M sz) (mw_A M sz)) 1 256 (mw_A M sz) := by
  refine mw_met (cc := cX0_rankBy) (maxL := 5) (ret := none) (lv := [(0, .ref a), (1, .ref pm)]) (by decide) rfl (Nat.le_of_ble_eq_true rfl) rfl ?_
  intro p e s m below meth c ls hE hr hlocks hin hml hsz hP hS hl
  subst hsz
  have hx := hE.1
  have hb := hE.2.1
  have hA : ∀ q, s.heap.size ≤ q → mw_A M s.heap.size q := fun q h => Or.inr h
  obtain ⟨Q, hQ⟩ : ∃ Q : State → Prop, Q = MQ below (va_Qv (fun M1 => ∃ R3 q, M q = none ∧ M1 b4 = some (.inl (k 0, 256, .inl R3)) ∧ (∀ x, x < 256 → R3 x = nI (cntb (ltb (Kx f) x) 256)) ∧ ∀ x, x ≠ q → x ≠ b4 → M1 x = M x) (mw_B D vwCl M s.heap.size) (mw_A M s.heap.size)) ([.ref a, .ref pm] : List Value).toArray s 1 256 (mw_A M s.heap.size) := ⟨_, rfl⟩
  rw [← hQ]
  have nab4 : a ≠ b4 := fun h => by have h1 := fa; rw [h, fb] at h1; cases h1
  refine lv_sipush (v := nI 256) hx hb dX0_rankBy_0 (by decide) ?_
  refine mw_newa (atype := .int) (N' := 256) (a0 := (256, .inl (fun _ => 0))) hE (hE.2.2.1 _ mX0_rankBy_arrint) rfl (fun _ _ h => h) hP hS hA 0 rfl rfl (by decide) (by decide) (by decide) (by decide) (by decide) dX0_rankBy_3 (fun q9 H hMq9 hP hS => ?_)
  refine rw_cs (k := 1) (n := 256) (by decide) (by decide) ?_
  obtain ⟨M_1, eM_1⟩ : ∃ Z, Z = mw_up M q9 (.inl (k 0, 256, .inl (fun _ => 0))) := ⟨_, rfl⟩
  have hP : mw_Q (mw_A M s.heap.size) D vwCl M_1 H := by rw [eM_1]; exact hP
  have nf_2_q9 : a ≠ q9 := mw_ne hMq9 fa
  have f_2 : M_1 a = some (.inr (1, [.int al, .ref b4, .ref b5, .int nx])) := by rw [eM_1, mw_up_n nf_2_q9]; exact fa
  have nf_3_q9 : b4 ≠ q9 := mw_ne hMq9 fb
  have f_3 : M_1 b4 = some (.inl ((k 0), 256, .inl u3)) := by rw [eM_1, mw_up_n nf_3_q9]; exact fb
  have nf_4_q9 : b5 ≠ q9 := mw_ne hMq9 fc
  have f_4 : M_1 b5 = some (.inl ((k 1), 256, .inl u4)) := by rw [eM_1, mw_up_n nf_4_q9]; exact fc
  have f_5 : M_1 q9 = some (.inl (k 0, 256, .inl (fun _ => 0))) := by rw [eM_1]; exact mw_up_s
  have naq := mw_ne hMq9 fa
  have nbq := mw_ne hMq9 fb
  have npmq := mw_ne hMq9 fm9
  refine lv_astore_n (lv' := [(2, .ref q9), (0, .ref a), (1, .ref pm)]) hx hb dX0_rankBy_5 rfl hl (by decide) rfl (fun ls hl => ?_)
  refine lv_iconst (v := 0) hx hb dX0_rankBy_6 (by decide) ?_
  refine lv_istore_n (lv' := [(3, .int 0), (2, .ref q9), (0, .ref a), (1, .ref pm)]) hx hb dX0_rankBy_7 rfl hl (by decide) rfl (fun ls hl => ?_)
  have lp_8 : ∀ (fu : Nat) (c9 : Nat) (s9 : Nat → Nat) (F : Nat → Int32) (M1 : mw), (c9 ≤ 256) → (srt (Kx f) s9 c9) → (∀ i, i < c9 → F i = nI (s9 i)) → (M1 q9 = some (.inl (k 0, 256, .inl F))) → (∀ x, x ≠ q9 → M1 x = M x) → 256 - c9 < fu → ∀ (H : Heap) (locs : List Loc), mw_Q (mw_A M s.heap.size) D vwCl M1 H → va_S (mw_A M s.heap.size) s.heap H locs → ∀ ls : Array Slot, lv_has ls 5 [(0, .ref a), (1, .ref pm), (2, .ref q9), (3, .int (nI c9))] → W p l e ({ frames := 1, cells := 1, slots := 256, locals := 21 } : Room) s m ([.ref a, .ref pm] : List Value).toArray below meth c H locs 1 256 Q (F0 m 8 ls []) := by
    intro fu
    induction fu with
    | zero => intro c9 s9 F M1 hc9 hsr hF g2 hf hn; exact absurd hn (Nat.not_lt_zero _)
    | succ fu ih_8 =>
      intro c9 s9 F M1 hc9 hsr hF g2 hf hn H locs hP hS ls hl
      refine lv_iload_n hx hb dX0_rankBy_8 rfl (lv_at hl 3 rfl) ?_
      refine lv_sipush (v := nI 256) hx hb dX0_rankBy_9 (by decide) ?_
      refine lv_icmp_ge (tgt := 68) hx hb dX0_rankBy_12 (by decide) (fun c_12 => ?_) (fun c_12 => ?_)
      · have k_12 : 256 ≤ c9 := nn_le (a := 256) (b := c9) c_12 (by omega) (by omega)
        obtain rfl : c9 = 256 := by omega
        refine lv_iconst (v := 0) hx hb dX0_rankBy_68 (by decide) ?_
        refine lv_istore_n (lv' := [(3, .int 0), (0, .ref a), (1, .ref pm), (2, .ref q9)]) hx hb dX0_rankBy_69 rfl hl (by decide) rfl (fun ls hl => ?_)
        have lp_70 : ∀ (fu : Nat) (kk : Nat) (R3 : Nat → Int32) (M3 : mw), (kk ≤ 256) → (∀ i, i < kk → R3 (s9 i) = nI i) → (M3 b4 = some (.inl (k 0, 256, .inl R3))) → (M3 q9 = some (.inl (k 0, 256, .inl F))) → (∀ x, x ≠ q9 → x ≠ b4 → M3 x = M x) → 256 - kk < fu → ∀ (H : Heap) (locs : List Loc), mw_Q (mw_A M s.heap.size) D vwCl M3 H → va_S (mw_A M s.heap.size) s.heap H locs → ∀ ls : Array Slot, lv_has ls 5 [(0, .ref a), (1, .ref pm), (2, .ref q9), (3, .int (nI kk))] → W p l e ({ frames := 1, cells := 1, slots := 256, locals := 21 } : Room) s m ([.ref a, .ref pm] : List Value).toArray below meth c H locs 1 256 Q (F0 m 70 ls []) := by
          intro fu
          induction fu with
          | zero => intro kk R3 M3 hkk hR3 g4 g5 hf3 hn; exact absurd hn (Nat.not_lt_zero _)
          | succ fu ih_70 =>
            intro kk R3 M3 hkk hR3 g4 g5 hf3 hn H locs hP hS ls hl
            refine lv_iload_n hx hb dX0_rankBy_70 rfl (lv_at hl 3 rfl) ?_
            refine lv_sipush (v := nI 256) hx hb dX0_rankBy_71 (by decide) ?_
            refine lv_icmp_ge (tgt := 92) hx hb dX0_rankBy_74 (by decide) (fun c_74 => ?_) (fun c_74 => ?_)
            · have k_74 : 256 ≤ kk := nn_le (a := 256) (b := kk) c_74 (by omega) (by omega)
              rw [hQ]
              exact mw_vret hE hr hlocks hP hS dX0_rankBy_92 (⟨R3, q9, hMq9, g4, rk_end hsr (by rw [← show kk = 256 by omega]; exact hR3), hf3⟩)
            · have k_74 : kk < 256 := nn_nle (a := 256) (b := kk) c_74 (by omega) (by omega)
              refine lv_aload_n hx hb dX0_rankBy_77 rfl (lv_at hl 0 rfl) ?_
              refine mw_get (v := .ref b4) (ci := 1) (T := TX0) (N := 4) (C := RX0) hE iX0_rankBy_X0 hP ((hf3 a naq nab4).trans fa) rfl 1 (by decide) (hE.2.2.1 _ mX0_rankBy_f9) rfl rfl dX0_rankBy_78 ?_
              refine lv_aload_n hx hb dX0_rankBy_81 rfl (lv_at hl 2 rfl) ?_
              refine lv_iload_n hx hb dX0_rankBy_82 rfl (lv_at hl 3 rfl) ?_
              refine rw_iald hE hP 0 g5 rfl (by decide) dX0_rankBy_83 (by omega) ?_
              refine rw_i (v := nI (s9 kk)) (hF kk (by omega)) ?_
              refine lv_iload_n hx hb dX0_rankBy_84 rfl (lv_at hl 3 rfl) ?_
              refine rw_iast hE hP hS 0 g4 rfl (by decide) dX0_rankBy_85 (hsr.1 kk (by omega)) (fun H locs hP hS => ?_)
              obtain ⟨M_8, eM_8⟩ : ∃ Z, Z = mw_up M3 b4 (.inl ((k 0), 256, .inl (upd R3 (s9 kk) (nI kk)))) := ⟨_, rfl⟩
              have hP : mw_Q (mw_A M s.heap.size) D vwCl M_8 H := by rw [eM_8]; exact hP
              have f_9 : M_8 b4 = some (.inl ((k 0), 256, .inl (upd R3 (s9 kk) (nI kk)))) := by rw [eM_8]; exact mw_up_s
              have f_10 : M_8 q9 = some (.inl ((k 0), 256, .inl F)) := by rw [eM_8, mw_up_n (Ne.symm nbq)]; exact g5
              refine lv_iinc (v := nI (kk + 1)) (lv' := [(3, .int (nI (kk + 1))), (0, .ref a), (1, .ref pm), (2, .ref q9)]) hx hb dX0_rankBy_86 hl (k := 3) rfl (nI_1 kk) (by decide) rfl (fun ls hl => ?_)
              refine lv_goto (tgt := 70) hx hb dX0_rankBy_89 (by decide) ?_
              have hfr9 : ∀ x, x ≠ q9 → x ≠ b4 → M_8 x = M x := fun x h1 h2 => by rw [eM_8, mw_up_n h2]; exact hf3 x h1 h2
              exact ih_70 (kk + 1) (upd R3 (s9 kk) (nI kk)) M_8 (by omega) (rk_step hsr hR3 (by omega)) (f_9) (f_10) (hfr9) (by omega) H locs hP hS ls (lv_sub hl [1, 2, 3, 0] rfl)
        exact lp_70 (257) 0 u3 M1 (by omega) (fun _ h => absurd h (Nat.not_lt_zero _)) ((hf b4 nbq).trans fb) (g2) (fun x h1 _ => hf x h1) (by omega) _ _ hP hS ls (lv_sub hl [1, 2, 3, 0] rfl)
      · have k_12 : c9 < 256 := nn_nle (a := 256) (b := c9) c_12 (by omega) (by omega)
        refine lv_iload_n hx hb dX0_rankBy_15 rfl (lv_at hl 3 rfl) ?_
        refine lv_istore (lv' := [(4, .int (nI c9)), (0, .ref a), (1, .ref pm), (2, .ref q9), (3, .int (nI c9))]) hx hb dX0_rankBy_16 hl (by decide) rfl (fun ls hl => ?_)
        have lp_18 : ∀ (fu : Nat) (p9 : Nat) (F1 : Nat → Int32) (M2 : mw), (p9 ≤ c9) → (∀ j, j < p9 → F1 j = nI (s9 j)) → (∀ j, p9 ≤ j → j < c9 → F1 (j + 1) = nI (s9 j)) → (∀ j, p9 ≤ j → j < c9 → Kx f c9 < Kx f (s9 j)) → (M2 q9 = some (.inl (k 0, 256, .inl F1))) → (∀ x, x ≠ q9 → M2 x = M x) → p9 < fu → ∀ (H : Heap) (locs : List Loc), mw_Q (mw_A M s.heap.size) D vwCl M2 H → va_S (mw_A M s.heap.size) s.heap H locs → ∀ ls : Array Slot, lv_has ls 5 [(0, .ref a), (1, .ref pm), (2, .ref q9), (3, .int (nI c9)), (4, .int (nI p9))] → W p l e ({ frames := 1, cells := 1, slots := 256, locals := 21 } : Room) s m ([.ref a, .ref pm] : List Value).toArray below meth c H locs 1 256 Q (F0 m 18 ls []) := by
          intro fu
          induction fu with
          | zero => intro p9 F1 M2 hp9 hlo1 hhi1 hhi9 g3 hf2 hn; exact absurd hn (Nat.not_lt_zero _)
          | succ fu ih_18 =>
            intro p9 F1 M2 hp9 hlo1 hhi1 hhi9 g3 hf2 hn H locs hP hS ls hl
            refine lv_iload hx hb dX0_rankBy_18 (lv_at hl 4 rfl) ?_
            refine lv_if_le (tgt := 57) hx hb dX0_rankBy_20 (by decide) (fun c_20 => ?_) (fun c_20 => ?_)
            · have k_20 : p9 ≤ 0 := nn_le (a := p9) (b := 0) c_20 (by omega) (by omega)
              refine lv_aload_n hx hb dX0_rankBy_57 rfl (lv_at hl 2 rfl) ?_
              refine lv_iload hx hb dX0_rankBy_58 (lv_at hl 4 rfl) ?_
              refine lv_iload_n hx hb dX0_rankBy_60 rfl (lv_at hl 3 rfl) ?_
              refine rw_iast hE hP hS 0 g3 rfl (by decide) dX0_rankBy_61 (by omega) (fun H locs hP hS => ?_)
              obtain ⟨M_12, eM_12⟩ : ∃ Z, Z = mw_up M2 q9 (.inl ((k 0), 256, .inl (upd F1 p9 (nI c9)))) := ⟨_, rfl⟩
              have hP : mw_Q (mw_A M s.heap.size) D vwCl M_12 H := by rw [eM_12]; exact hP
              have f_13 : M_12 q9 = some (.inl ((k 0), 256, .inl (upd F1 p9 (nI c9)))) := by rw [eM_12]; exact mw_up_s
              refine lv_iinc (v := nI (c9 + 1)) (lv' := [(3, .int (nI (c9 + 1))), (0, .ref a), (1, .ref pm), (2, .ref q9), (4, .int (nI p9))]) hx hb dX0_rankBy_62 hl (k := 3) rfl (nI_1 c9) (by decide) rfl (fun ls hl => ?_)
              refine lv_goto (tgt := 8) hx hb dX0_rankBy_65 (by decide) ?_
              have hfr9 : ∀ x, x ≠ q9 → M_12 x = M x := fun x h1 => by rw [eM_12, mw_up_n h1]; exact hf2 x h1
              have hsr9 := srt_ins hsr hp9 hhi9 (Or.inl (by omega))
              have hF9 : ∀ i, i < c9 + 1 → upd F1 p9 (nI c9) i = nI (insn s9 p9 c9 i) := ins_F hlo1 hhi1
              exact ih_8 (c9 + 1) (insn s9 p9 c9) (upd F1 p9 (nI c9)) M_12 (by omega) (hsr9) (hF9) (f_13) (hfr9) (by omega) H locs hP hS ls (lv_sub hl [1, 2, 3, 0] rfl)
            · have k_20 : 0 < p9 := nn_nle (a := p9) (b := 0) c_20 (by omega) (by omega)
              refine lv_aload_n hx hb dX0_rankBy_23 rfl (lv_at hl 1 rfl) ?_
              refine lv_iload_n hx hb dX0_rankBy_24 rfl (lv_at hl 3 rfl) ?_
              refine mw_calli hP hS hA (va_runS (As := [.ref pm, .int (nI c9)]) (rest := []) ⟨hx, hb, hml, hE.2.2.2.1, hE.2.2.1⟩ (tX0_sortKey l D k _ _ pm c9 f (by omega) ((hf2 pm npmq).trans fm9)) (va_cwS 2 hE.2.2.1 gX0_rankBy_X0_sortKey rfl rfl rfl (by decide +kernel) ⟨(Nat.le_of_ble_eq_true rfl), (Nat.le_of_ble_eq_true rfl)⟩) (mw_preS hE hP [.ref pm, .int (nI c9)]) rfl rfl hl.1 rfl (lv_room (Nat.le_of_ble_eq_true rfl)) dX0_rankBy_25 ⟨(Nat.le_of_ble_eq_true rfl), (Nat.le_of_ble_eq_true rfl)⟩) (fun r_14 M8 H locs hw hP hS => ?_)
              obtain ⟨hM8, er_14⟩ := hw
              rw [hM8] at hP
              refine lv_aload_n hx hb dX0_rankBy_28 rfl (lv_at hl 1 rfl) ?_
              refine lv_aload_n hx hb dX0_rankBy_29 rfl (lv_at hl 2 rfl) ?_
              refine lv_iload hx hb dX0_rankBy_30 (lv_at hl 4 rfl) ?_
              refine lv_iconst (v := 1) hx hb dX0_rankBy_32 (by decide) ?_
              refine lv_isub hx hb dX0_rankBy_33 ?_
              refine rw_i (v := nI (p9 - 1)) (nI_sub1 k_20) ?_
              refine rw_iald hE hP 0 g3 rfl (by decide) dX0_rankBy_34 (by omega) ?_
              refine rw_i (v := nI (s9 (p9 - 1))) (hlo1 (p9 - 1) (by omega)) ?_
              refine mw_calli hP hS hA (va_runS (As := [.ref pm, .int (nI (s9 (p9 - 1)))]) (rest := [.int r_14]) ⟨hx, hb, hml, hE.2.2.2.1, hE.2.2.1⟩ (tX0_sortKey l D k _ _ pm (s9 (p9 - 1)) f (by have := hsr.1 (p9 - 1) (by omega); omega) ((hf2 pm npmq).trans fm9)) (va_cwS 2 hE.2.2.1 gX0_rankBy_X0_sortKey rfl rfl rfl (by decide +kernel) ⟨(Nat.le_of_ble_eq_true rfl), (Nat.le_of_ble_eq_true rfl)⟩) (mw_preS hE hP [.ref pm, .int (nI (s9 (p9 - 1)))]) rfl rfl hl.1 rfl (lv_room (Nat.le_of_ble_eq_true rfl)) dX0_rankBy_35 ⟨(Nat.le_of_ble_eq_true rfl), (Nat.le_of_ble_eq_true rfl)⟩) (fun r_15 M8 H locs hw hP hS => ?_)
              obtain ⟨hM8, er_15⟩ := hw
              rw [hM8] at hP
              refine lv_icmp_ge (tgt := 57) hx hb dX0_rankBy_38 (by decide) (fun c_38 => ?_) (fun c_38 => ?_)
              · refine lv_aload_n hx hb dX0_rankBy_57 rfl (lv_at hl 2 rfl) ?_
                refine lv_iload hx hb dX0_rankBy_58 (lv_at hl 4 rfl) ?_
                refine lv_iload_n hx hb dX0_rankBy_60 rfl (lv_at hl 3 rfl) ?_
                refine rw_iast hE hP hS 0 g3 rfl (by decide) dX0_rankBy_61 (by omega) (fun H locs hP hS => ?_)
                obtain ⟨M_17, eM_17⟩ : ∃ Z, Z = mw_up M2 q9 (.inl ((k 0), 256, .inl (upd F1 p9 (nI c9)))) := ⟨_, rfl⟩
                have hP : mw_Q (mw_A M s.heap.size) D vwCl M_17 H := by rw [eM_17]; exact hP
                have f_18 : M_17 q9 = some (.inl ((k 0), 256, .inl (upd F1 p9 (nI c9)))) := by rw [eM_17]; exact mw_up_s
                refine lv_iinc (v := nI (c9 + 1)) (lv' := [(3, .int (nI (c9 + 1))), (0, .ref a), (1, .ref pm), (2, .ref q9), (4, .int (nI p9))]) hx hb dX0_rankBy_62 hl (k := 3) rfl (nI_1 c9) (by decide) rfl (fun ls hl => ?_)
                refine lv_goto (tgt := 8) hx hb dX0_rankBy_65 (by decide) ?_
                have hfr9 : ∀ x, x ≠ q9 → M_17 x = M x := fun x h1 => by rw [eM_17, mw_up_n h1]; exact hf2 x h1
                have hsr9 := srt_ins hsr hp9 hhi9 (Or.inr (lo_of hK (by omega) (by have := hsr.1 (p9 - 1) (by omega); omega) (fun q => by have := hsr.1 (p9 - 1) (by omega); omega) (by rw [← er_15, ← er_14]; exact c_38)))
                have hF9 : ∀ i, i < c9 + 1 → upd F1 p9 (nI c9) i = nI (insn s9 p9 c9 i) := ins_F hlo1 hhi1
                exact ih_8 (c9 + 1) (insn s9 p9 c9) (upd F1 p9 (nI c9)) M_17 (by omega) (hsr9) (hF9) (f_18) (hfr9) (by omega) H locs hP hS ls (lv_sub hl [1, 2, 3, 0] rfl)
              · refine lv_aload_n hx hb dX0_rankBy_41 rfl (lv_at hl 2 rfl) ?_
                refine lv_iload hx hb dX0_rankBy_42 (lv_at hl 4 rfl) ?_
                refine lv_aload_n hx hb dX0_rankBy_44 rfl (lv_at hl 2 rfl) ?_
                refine lv_iload hx hb dX0_rankBy_45 (lv_at hl 4 rfl) ?_
                refine lv_iconst (v := 1) hx hb dX0_rankBy_47 (by decide) ?_
                refine lv_isub hx hb dX0_rankBy_48 ?_
                refine rw_i (v := nI (p9 - 1)) (nI_sub1 k_20) ?_
                refine rw_iald hE hP 0 g3 rfl (by decide) dX0_rankBy_49 (by omega) ?_
                refine rw_iast hE hP hS 0 g3 rfl (by decide) dX0_rankBy_50 (by omega) (fun H locs hP hS => ?_)
                obtain ⟨M_19, eM_19⟩ : ∃ Z, Z = mw_up M2 q9 (.inl ((k 0), 256, .inl (upd F1 p9 (F1 (p9 - 1))))) := ⟨_, rfl⟩
                have hP : mw_Q (mw_A M s.heap.size) D vwCl M_19 H := by rw [eM_19]; exact hP
                have f_20 : M_19 q9 = some (.inl ((k 0), 256, .inl (upd F1 p9 (F1 (p9 - 1))))) := by rw [eM_19]; exact mw_up_s
                refine lv_iinc (v := nI (p9 - 1)) (lv' := [(4, .int (nI (p9 - 1))), (0, .ref a), (1, .ref pm), (2, .ref q9), (3, .int (nI c9))]) hx hb dX0_rankBy_51 hl (k := 4) rfl (by rw [show Int32.ofInt (-1) = -1 by decide]; exact sb_m1 k_20) (by decide) rfl (fun ls hl => ?_)
                refine lv_goto (tgt := 18) hx hb dX0_rankBy_54 (by decide) ?_
                have hfr9 : ∀ x, x ≠ q9 → M_19 x = M x := fun x h1 => by rw [eM_19, mw_up_n h1]; exact hf2 x h1
                exact ih_18 (p9 - 1) (upd F1 p9 (F1 (p9 - 1))) M_19 (by omega) (sh_lo hlo1 k_20) (sh_hi hlo1 hhi1 k_20) (sh_k hhi9 k_20 (by show (kx f c9).toInt < (kx f (s9 (p9 - 1))).toInt; rw [← er_14, ← er_15]; exact Int32.lt_iff_toInt_lt.mp (Int32.not_le.mp c_38))) (f_20) (hfr9) (by omega) H locs hP hS ls (lv_sub hl [1, 2, 3, 4, 0] rfl)
        exact lp_18 (300) c9 F M1 (Nat.le_refl _) (hF) (fun j h1 h2 => absurd h1 (by omega)) (fun j h1 h2 => absurd h1 (by omega)) (g2) (hf) (by omega) _ _ hP hS ls (lv_sub hl [1, 2, 3, 4, 0] rfl)
  exact lp_8 (257) 0 (fun _ => 0) (fun _ => 0) M_1 (by omega) (srt_0) (fun _ h => absurd h (Nat.not_lt_zero _)) (f_5) (fun x h1 => by rw [eM_1, mw_up_n h1]) (by omega) _ _ hP hS ls (lv_sub hl [2, 3, 1, 0] rfl)
end
section
set_option maxRecDepth 20000 in
theorem mX3_told_f27 : Cond.fieldLink RX3 27 "CodePages" "listed" "[I" ∈ wsX3_told := by decide +kernel
set_option maxRecDepth 20000 in
theorem mX3_told_f41 : Cond.fieldLink RX3 41 "CodePages" "listedCount" "I" ∈ wsX3_told := by decide +kernel
set_option maxRecDepth 20000 in
theorem iX3_told_X3 : ∀ w ∈ u_ws RX3 TX3 8, w ∈ wsX3_told := by decide +kernel
set_option maxHeartbeats 4000000 in
set_option maxRecDepth 100000 in
theorem tX3_told (l : Launch) (D : va_G) (k : Nat → ClassId) (M : mw) (sz : Nat) (h : Nat → Nat) (b : Nat → Nat → Nat) (T : Nat → Nat × Nat) (n : Nat → Nat) (c9 : Nat → Nat → Nat → Int32) (g : Nat → Nat → Int32) (L : Nat → Nat) (X : Nat → Nat → Nat) (x : Int32) (hR : cp_R k h b n c9 M) (hT : cp_T h b T n) (hn9 : mo_B n) (hs : sm n c9 g L X) : Met l yX3_told wsX3_told ({ frames := 0, cells := 0, slots := 0, locals := 0 }) (va_Pc [.ref (h 0), .int x] (mw_U D vwCl (TY k) M sz)) (va_Qi (fun r M1 => M1 = M ∧ R_told n g x r) (mw_B D vwCl M sz) (mw_A M sz)) 0 0 (mw_A M sz) := by
  refine mw_met (cc := cX3_told) (maxL := 2) (ret := (some .int)) (lv := [(0, .ref (h 0)), (1, .int x)]) (by decide) rfl (Nat.le_of_ble_eq_true rfl) rfl ?_
  intro p e s m below meth c ls hE hr hlocks hin hml hsz hP hS hl
  subst hsz
  have hx := hE.1
  have hb := hE.2.1
  have hA : ∀ q, s.heap.size ≤ q → mw_A M s.heap.size q := fun q h => Or.inr h
  obtain ⟨hb0, hb1, hb2, hb3⟩ := id hn9
  obtain ⟨⟨f0, f1, f2, f3, f4⟩, fP, fO, fX⟩ := id hR
  obtain ⟨sP, sO, sX, sG, sL⟩ := id hs
  refine lv_iload_n hx hb dX3_told_0 rfl (lv_at hl 1 rfl) ?_
  refine lv_if_lt (tgt := 21) hx hb dX3_told_1 (by decide) (fun c_1 => ?_) (fun c_1 => ?_)
  · refine lv_iconst (v := (-1)) hx hb dX3_told_21 (by decide) ?_
    exact mw_iret (v := (-1)) hE hr hlocks hP hS dX3_told_22 (⟨rfl, Or.inl ⟨fun q => ((rw_in (n := n 3) (by omega)).mp q).1 c_1, rfl⟩⟩)
  · refine lv_iload_n hx hb dX3_told_4 rfl (lv_at hl 1 rfl) ?_
    refine lv_aload_n hx hb dX3_told_5 rfl (lv_at hl 0 rfl) ?_
    refine mw_get (v := .int (nI (n 3))) (ci := 4) (T := TX3) (N := 8) (C := RX3) hE iX3_told_X3 hP f0 rfl 7 (by decide) (hE.2.2.1 _ mX3_told_f41) rfl rfl dX3_told_6 ?_
    refine lv_icmp_ge (tgt := 21) hx hb dX3_told_9 (by decide) (fun c_9 => ?_) (fun c_9 => ?_)
    · refine lv_iconst (v := (-1)) hx hb dX3_told_21 (by decide) ?_
      exact mw_iret (v := (-1)) hE hr hlocks hP hS dX3_told_22 (⟨rfl, Or.inl ⟨fun q => ((rw_in (n := n 3) (by omega)).mp q).2 c_9, rfl⟩⟩)
    · obtain ⟨i, hi, rfl⟩ := vp_in_of ((rw_in (n := n 3) (by omega)).mpr ⟨c_1, c_9⟩) (by omega)
      refine lv_aload_n hx hb dX3_told_12 rfl (lv_at hl 0 rfl) ?_
      refine mw_get (v := .ref (h 4)) (ci := 4) (T := TX3) (N := 8) (C := RX3) hE iX3_told_X3 hP f0 rfl 3 (by decide) (hE.2.2.1 _ mX3_told_f27) rfl rfl dX3_told_13 ?_
      refine lv_iload_n hx hb dX3_told_16 rfl (lv_at hl 1 rfl) ?_
      refine rw_iald hE hP 0 f4 rfl (by decide) dX3_told_17 (by omega) ?_
      refine lv_goto (tgt := 22) hx hb dX3_told_18 (by decide) ?_
      exact mw_iret (v := (c9 9 0) i) hE hr hlocks hP hS dX3_told_22 (⟨rfl, Or.inr ⟨i, hi, rfl, sL i hi⟩⟩)

set_option maxRecDepth 20000 in
theorem mX3_set_f65 : Cond.fieldLink RX3 65 "CodePages$Page" "meanings" "[I" ∈ wsX3_set := by decide +kernel
set_option maxRecDepth 20000 in
theorem iX3_set_X1 : ∀ w ∈ u_ws RX1 TX1 2, w ∈ wsX3_set := by decide +kernel
set_option maxHeartbeats 4000000 in
set_option maxRecDepth 100000 in
theorem tX3_set (l : Launch) (D : va_G) (k : Nat → ClassId) (M : mw) (sz : Nat) (h : Nat → Nat) (b : Nat → Nat → Nat) (T : Nat → Nat × Nat) (n : Nat → Nat) (c9 : Nat → Nat → Nat → Int32) (g : Nat → Nat → Int32) (L : Nat → Nat) (X : Nat → Nat → Nat) (x y u : Int32) (hR : cp_R k h b n c9 M) (hT : cp_T h b T n) (hn9 : mo_B n) (hs : sm n c9 g L X) : Met l yX3_set wsX3_set ({ frames := 1, cells := 0, slots := 0, locals := 22 }) (va_Pc [.ref (h 0), .int x, .int y, .int u] (mw_U D vwCl (TY k) M sz)) (va_Qi (fun r M1 => ∃ c1 g1, cp_R k h b n c1 M1 ∧ sm n c1 g1 L X ∧ R_set n g x y u r g1) (mw_B D vwCl M sz) (mw_A M sz)) 0 0 (mw_A M sz) := by
  refine mw_met (cc := cX3_set) (maxL := 6) (ret := (some .int)) (lv := [(0, .ref (h 0)), (1, .int x), (2, .int y), (3, .int u)]) (by decide) rfl (Nat.le_of_ble_eq_true rfl) rfl ?_
  intro p e s m below meth c ls hE hr hlocks hin hml hsz hP hS hl
  subst hsz
  have hx := hE.1
  have hb := hE.2.1
  have hA : ∀ q, s.heap.size ≤ q → mw_A M s.heap.size q := fun q h => Or.inr h
  obtain ⟨hb0, hb1, hb2, hb3⟩ := id hn9
  obtain ⟨⟨f0, f1, f2, f3, f4⟩, fP, fO, fX⟩ := id hR
  obtain ⟨sP, sO, sX, sG, sL⟩ := id hs
  refine lv_aload_n hx hb dX3_set_0 rfl (lv_at hl 0 rfl) ?_
  refine lv_iload_n hx hb dX3_set_1 rfl (lv_at hl 1 rfl) ?_
  refine mw_callq hP hS hA (va_runV (As := [.int x]) (rest := []) ⟨hx, hb, hml, hE.2.2.2.1, hE.2.2.1⟩ (tX3_pageAt l D k _ _ h (fun j => nI (n (j - 4))) (n 0) (b 1) x hb0 f0 f1) (cwV 1 hE.2.2.1 gX3_set_X3_pageAt rfl rfl rfl (by decide +kernel) ⟨(Nat.le_of_ble_eq_true rfl), (Nat.le_of_ble_eq_true rfl)⟩) (mw_preV hE hP (ci := 4) rfl rfl f0 [.int x]) rfl rfl hl.1 rfl (lv_room (Nat.le_of_ble_eq_true rfl)) dX3_set_2 ⟨(Nat.le_of_ble_eq_true rfl), (Nat.le_of_ble_eq_true rfl)⟩) (fun r_1 M1 H locs hw hP hS => ?_)
  obtain ⟨hM1, hw⟩ := hw
  rw [hM1] at hP
  rcases hw with ⟨pp, hpp, rfl, rfl⟩ | ⟨hq_2, rfl⟩
  · skip
    refine lv_astore (lv' := [(4, .ref (b 1 pp)), (0, .ref (h 0)), (1, .int (nI pp)), (2, .int y), (3, .int u)]) hx hb dX3_set_5 hl (by decide) rfl (fun ls hl => ?_)
    refine lv_aload hx hb dX3_set_7 (lv_at hl 0 rfl) ?_
    refine lv_ifnonnull (tgt := 15) hx hb dX3_set_9 (by decide) ?_
    refine lv_iload_n hx hb dX3_set_15 rfl (lv_at hl 3 rfl) ?_
    refine mw_calli hP hS hA (va_runS (As := [.int y]) (rest := []) ⟨hx, hb, hml, hE.2.2.2.1, hE.2.2.1⟩ (tX3_isCode l D k _ _ y) (va_cwS 1 hE.2.2.1 gX3_set_X3_isCode rfl rfl rfl (by decide +kernel) ⟨(Nat.le_of_ble_eq_true rfl), (Nat.le_of_ble_eq_true rfl)⟩) (mw_preS hE hP [.int y]) rfl rfl hl.1 rfl (lv_room (Nat.le_of_ble_eq_true rfl)) dX3_set_16 ⟨(Nat.le_of_ble_eq_true rfl), (Nat.le_of_ble_eq_true rfl)⟩) (fun r_3 M1 H locs hw hP hS => ?_)
    obtain ⟨hM1, hw⟩ := hw
    rw [hM1] at hP
    rcases hw with ⟨hq_4, rfl⟩ | ⟨hq_4, rfl⟩
    · obtain ⟨j, hj, rfl⟩ := vp_in_of hq_4 (by omega)
      skip
      refine lv_if_eq (tgt := 29) hx hb dX3_set_19 (by decide) (fun c9 => absurd c9 (by decide)) (fun _ => ?_)
      refine lv_iload_n hx hb dX3_set_22 rfl (lv_at hl 4 rfl) ?_
      refine mw_calli hP hS hA (va_runS (As := [.int u]) (rest := []) ⟨hx, hb, hml, hE.2.2.2.1, hE.2.2.1⟩ (tX3_isMeaningOrNone l D k _ _ u) (va_cwS 1 hE.2.2.1 gX3_set_X3_isMeaningOrNone rfl rfl rfl (by decide +kernel) ⟨(Nat.le_of_ble_eq_true rfl), (Nat.le_of_ble_eq_true rfl)⟩) (mw_preS hE hP [.int u]) rfl rfl hl.1 rfl (lv_room (Nat.le_of_ble_eq_true rfl)) dX3_set_23 ⟨(Nat.le_of_ble_eq_true rfl), (Nat.le_of_ble_eq_true rfl)⟩) (fun r_6 M1 H locs hw hP hS => ?_)
      obtain ⟨hM1, hw⟩ := hw
      rw [hM1] at hP
      rcases hw with ⟨hq_7, rfl⟩ | ⟨hq_7, rfl⟩
      · skip
        refine lv_if_ne (tgt := 32) hx hb dX3_set_26 (by decide) (fun _ => ?_) (fun c9 => absurd c9 (by decide))
        refine lv_aload hx hb dX3_set_32 (lv_at hl 0 rfl) ?_
        refine lv_iload_n hx hb dX3_set_34 rfl (lv_at hl 4 rfl) ?_
        refine mw_calli hP hS hA (va_runV (As := [.int u]) (rest := []) ⟨hx, hb, hml, hE.2.2.2.1, hE.2.2.1⟩ (tX1_codeThatMeans l D k _ _ (b 1 pp) (b 2 pp) (c9 1 pp) (c9 2 pp 0) u (fP pp hpp).1 (fP pp hpp).2) (cwV 1 hE.2.2.1 gX3_set_X1_codeThatMeans rfl rfl rfl (by decide +kernel) ⟨(Nat.le_of_ble_eq_true rfl), (Nat.le_of_ble_eq_true rfl)⟩) (mw_preV hE hP (ci := 2) rfl rfl ((fP pp hpp).1) [.int u]) rfl rfl hl.1 rfl (lv_room (Nat.le_of_ble_eq_true rfl)) dX3_set_35 ⟨(Nat.le_of_ble_eq_true rfl), (Nat.le_of_ble_eq_true rfl)⟩) (fun r_9 M1 H locs hw hP hS => ?_)
        obtain ⟨hM1, er_9⟩ := hw
        rw [hM1] at hP
        rw [(mf_spec sP hpp u).1] at er_9
        refine lv_istore (lv' := [(5, .int r_9), (4, .ref (b 1 pp)), (0, .ref (h 0)), (1, .int (nI pp)), (2, .int (nI j)), (3, .int u)]) hx hb dX3_set_38 hl (by decide) rfl (fun ls hl => ?_)
        refine lv_iload hx hb dX3_set_40 (lv_at hl 0 rfl) ?_
        refine lv_iconst (v := (-1)) hx hb dX3_set_42 (by decide) ?_
        refine lv_icmp_eq (tgt := 54) hx hb dX3_set_43 (by decide) (fun c_43 => ?_) (fun c_43 => ?_)
        · refine lv_aload hx hb dX3_set_54 (lv_at hl 1 rfl) ?_
          refine mw_get (v := .ref (b 2 pp)) (ci := 2) (T := TX1) (N := 2) (C := RX1) hE iX3_set_X1 hP ((fP pp hpp).1) rfl 0 (by decide) (hE.2.2.1 _ mX3_set_f65) rfl rfl dX3_set_56 ?_
          refine lv_iload_n hx hb dX3_set_59 rfl (lv_at hl 4 rfl) ?_
          refine lv_iload_n hx hb dX3_set_60 rfl (lv_at hl 5 rfl) ?_
          refine rw_iast hE hP hS 0 ((fP pp hpp).2) rfl (by decide) dX3_set_61 (by omega) (fun H locs hP hS => ?_)
          obtain ⟨M_11, eM_11⟩ : ∃ Z, Z = mw_up M (b 2 pp) (.inl ((k 0), 256, .inl (upd (c9 1 pp) j u))) := ⟨_, rfl⟩
          have hP : mw_Q (mw_A M s.heap.size) D vwCl M_11 H := by rw [eM_11]; exact hP
          have f_12 : M_11 (b 2 pp) = some (.inl ((k 0), 256, .inl (upd (c9 1 pp) j u))) := by rw [eM_11]; exact mw_up_s
          refine lv_iconst (v := 1) hx hb dX3_set_62 (by decide) ?_
          exact mw_iret (v := 1) hE hr hlocks hP hS dX3_set_63 (⟨_, _, cp_set1 hR hT hpp f_12 (fun x hx => by rw [eM_11, mw_up_n hx]), sm_set hs hpp hj hq_7 (Or.inl (by rw [← er_9]; exact c_43)), Or.inr (Or.inr ⟨pp, j, hpp, hj, rfl, rfl, hq_7, Or.inr ⟨rfl, (Or.inl (by rw [← er_9]; exact c_43)), rfl⟩⟩)⟩)
        · refine lv_iload hx hb dX3_set_46 (lv_at hl 0 rfl) ?_
          refine lv_iload_n hx hb dX3_set_48 rfl (lv_at hl 4 rfl) ?_
          refine lv_icmp_eq (tgt := 54) hx hb dX3_set_49 (by decide) (fun c_49 => ?_) (fun c_49 => ?_)
          · refine lv_aload hx hb dX3_set_54 (lv_at hl 1 rfl) ?_
            refine mw_get (v := .ref (b 2 pp)) (ci := 2) (T := TX1) (N := 2) (C := RX1) hE iX3_set_X1 hP ((fP pp hpp).1) rfl 0 (by decide) (hE.2.2.1 _ mX3_set_f65) rfl rfl dX3_set_56 ?_
            refine lv_iload_n hx hb dX3_set_59 rfl (lv_at hl 4 rfl) ?_
            refine lv_iload_n hx hb dX3_set_60 rfl (lv_at hl 5 rfl) ?_
            refine rw_iast hE hP hS 0 ((fP pp hpp).2) rfl (by decide) dX3_set_61 (by omega) (fun H locs hP hS => ?_)
            obtain ⟨M_14, eM_14⟩ : ∃ Z, Z = mw_up M (b 2 pp) (.inl ((k 0), 256, .inl (upd (c9 1 pp) j u))) := ⟨_, rfl⟩
            have hP : mw_Q (mw_A M s.heap.size) D vwCl M_14 H := by rw [eM_14]; exact hP
            have f_15 : M_14 (b 2 pp) = some (.inl ((k 0), 256, .inl (upd (c9 1 pp) j u))) := by rw [eM_14]; exact mw_up_s
            refine lv_iconst (v := 1) hx hb dX3_set_62 (by decide) ?_
            exact mw_iret (v := 1) hE hr hlocks hP hS dX3_set_63 (⟨_, _, cp_set1 hR hT hpp f_15 (fun x hx => by rw [eM_14, mw_up_n hx]), sm_set hs hpp hj hq_7 (Or.inr (by rw [← er_9]; exact c_49)), Or.inr (Or.inr ⟨pp, j, hpp, hj, rfl, rfl, hq_7, Or.inr ⟨rfl, (Or.inr (by rw [← er_9]; exact c_49)), rfl⟩⟩)⟩)
          · refine lv_iconst (v := 0) hx hb dX3_set_52 (by decide) ?_
            exact mw_iret (v := 0) hE hr hlocks hP hS dX3_set_53 (⟨c9, g, hR, hs, Or.inr (Or.inr ⟨pp, j, hpp, hj, rfl, rfl, hq_7, Or.inl ⟨rfl, rfl, by rw [← er_9]; exact c_43, by rw [← er_9]; exact c_49⟩⟩)⟩)
      · skip
        refine lv_if_ne (tgt := 32) hx hb dX3_set_26 (by decide) (fun c9 => absurd (by decide) c9) (fun _ => ?_)
        refine lv_bipush (v := (-4)) hx hb dX3_set_29 (by decide) ?_
        exact mw_iret (v := (-4)) hE hr hlocks hP hS dX3_set_31 (⟨c9, g, hR, hs, Or.inr (Or.inl ⟨vp_in_nI hpp (by omega), Or.inr hq_7, rfl, rfl⟩)⟩)
    · skip
      refine lv_if_eq (tgt := 29) hx hb dX3_set_19 (by decide) (fun _ => ?_) (fun c9 => absurd (by decide) c9)
      refine lv_bipush (v := (-4)) hx hb dX3_set_29 (by decide) ?_
      exact mw_iret (v := (-4)) hE hr hlocks hP hS dX3_set_31 (⟨c9, g, hR, hs, Or.inr (Or.inl ⟨vp_in_nI hpp (by omega), Or.inl hq_4, rfl, rfl⟩)⟩)
  · skip
    refine lv_astoreN (lv' := [(4, .null), (0, .ref (h 0)), (1, .int x), (2, .int y), (3, .int u)]) hx hb dX3_set_5 hl (by decide) rfl (fun ls hl => ?_)
    refine lv_aloadN hx hb dX3_set_7 (lv_at hl 0 rfl) ?_
    refine lv_ifnonnullN hx hb dX3_set_9 ?_
    refine lv_bipush (v := (-2)) hx hb dX3_set_12 (by decide) ?_
    exact mw_iret (v := (-2)) hE hr hlocks hP hS dX3_set_14 (⟨c9, g, hR, hs, Or.inl ⟨hq_2, rfl, rfl⟩⟩)

set_option maxRecDepth 20000 in
theorem mX3_standIn_f75 : Cond.fieldLink RX3 75 "CodePages$Page" "substitute" "I" ∈ wsX3_standIn := by decide +kernel
set_option maxRecDepth 20000 in
theorem iX3_standIn_X1 : ∀ w ∈ u_ws RX1 TX1 2, w ∈ wsX3_standIn := by decide +kernel
set_option maxHeartbeats 4000000 in
set_option maxRecDepth 100000 in
theorem tX3_standIn (l : Launch) (D : va_G) (k : Nat → ClassId) (M : mw) (sz : Nat) (h : Nat → Nat) (b : Nat → Nat → Nat) (T : Nat → Nat × Nat) (n : Nat → Nat) (c9 : Nat → Nat → Nat → Int32) (g : Nat → Nat → Int32) (L : Nat → Nat) (X : Nat → Nat → Nat) (x y : Int32) (hR : cp_R k h b n c9 M) (hT : cp_T h b T n) (hn9 : mo_B n) (hs : sm n c9 g L X) : Met l yX3_standIn wsX3_standIn ({ frames := 1, cells := 0, slots := 0, locals := 21 }) (va_Pc [.ref (h 0), .int x, .int y] (mw_U D vwCl (TY k) M sz)) (va_Qi (fun r M1 => ∃ c1 g1, cp_R k h b n c1 M1 ∧ sm n c1 g1 L X ∧ R_standIn n g x y r g1) (mw_B D vwCl M sz) (mw_A M sz)) 0 0 (mw_A M sz) := by
  refine mw_met (cc := cX3_standIn) (maxL := 5) (ret := (some .int)) (lv := [(0, .ref (h 0)), (1, .int x), (2, .int y)]) (by decide) rfl (Nat.le_of_ble_eq_true rfl) rfl ?_
  intro p e s m below meth c ls hE hr hlocks hin hml hsz hP hS hl
  subst hsz
  have hx := hE.1
  have hb := hE.2.1
  have hA : ∀ q, s.heap.size ≤ q → mw_A M s.heap.size q := fun q h => Or.inr h
  obtain ⟨hb0, hb1, hb2, hb3⟩ := id hn9
  obtain ⟨⟨f0, f1, f2, f3, f4⟩, fP, fO, fX⟩ := id hR
  obtain ⟨sP, sO, sX, sG, sL⟩ := id hs
  refine lv_aload_n hx hb dX3_standIn_0 rfl (lv_at hl 0 rfl) ?_
  refine lv_iload_n hx hb dX3_standIn_1 rfl (lv_at hl 1 rfl) ?_
  refine mw_callq hP hS hA (va_runV (As := [.int x]) (rest := []) ⟨hx, hb, hml, hE.2.2.2.1, hE.2.2.1⟩ (tX3_pageAt l D k _ _ h (fun j => nI (n (j - 4))) (n 0) (b 1) x hb0 f0 f1) (cwV 1 hE.2.2.1 gX3_standIn_X3_pageAt rfl rfl rfl (by decide +kernel) ⟨(Nat.le_of_ble_eq_true rfl), (Nat.le_of_ble_eq_true rfl)⟩) (mw_preV hE hP (ci := 4) rfl rfl f0 [.int x]) rfl rfl hl.1 rfl (lv_room (Nat.le_of_ble_eq_true rfl)) dX3_standIn_2 ⟨(Nat.le_of_ble_eq_true rfl), (Nat.le_of_ble_eq_true rfl)⟩) (fun r_1 M1 H locs hw hP hS => ?_)
  obtain ⟨hM1, hw⟩ := hw
  rw [hM1] at hP
  rcases hw with ⟨pp, hpp, rfl, rfl⟩ | ⟨hq_2, rfl⟩
  · skip
    refine lv_astore_n (lv' := [(3, .ref (b 1 pp)), (0, .ref (h 0)), (1, .int (nI pp)), (2, .int y)]) hx hb dX3_standIn_5 rfl hl (by decide) rfl (fun ls hl => ?_)
    refine lv_aload_n hx hb dX3_standIn_6 rfl (lv_at hl 0 rfl) ?_
    refine lv_ifnonnull (tgt := 13) hx hb dX3_standIn_7 (by decide) ?_
    refine lv_iload_n hx hb dX3_standIn_13 rfl (lv_at hl 3 rfl) ?_
    refine mw_calli hP hS hA (va_runS (As := [.int y]) (rest := []) ⟨hx, hb, hml, hE.2.2.2.1, hE.2.2.1⟩ (tX3_isCode l D k _ _ y) (va_cwS 1 hE.2.2.1 gX3_standIn_X3_isCode rfl rfl rfl (by decide +kernel) ⟨(Nat.le_of_ble_eq_true rfl), (Nat.le_of_ble_eq_true rfl)⟩) (mw_preS hE hP [.int y]) rfl rfl hl.1 rfl (lv_room (Nat.le_of_ble_eq_true rfl)) dX3_standIn_14 ⟨(Nat.le_of_ble_eq_true rfl), (Nat.le_of_ble_eq_true rfl)⟩) (fun r_3 M1 H locs hw hP hS => ?_)
    obtain ⟨hM1, hw⟩ := hw
    rw [hM1] at hP
    rcases hw with ⟨hq_4, rfl⟩ | ⟨hq_4, rfl⟩
    · obtain ⟨j, hj, rfl⟩ := vp_in_of hq_4 (by omega)
      skip
      refine lv_if_ne (tgt := 23) hx hb dX3_standIn_17 (by decide) (fun _ => ?_) (fun c9 => absurd c9 (by decide))
      refine lv_aload_n hx hb dX3_standIn_23 rfl (lv_at hl 0 rfl) ?_
      refine mw_get (v := .int (c9 2 pp 0)) (ci := 2) (T := TX1) (N := 2) (C := RX1) hE iX3_standIn_X1 hP ((fP pp hpp).1) rfl 1 (by decide) (hE.2.2.1 _ mX3_standIn_f75) rfl rfl dX3_standIn_24 ?_
      refine lv_istore (lv' := [(4, .int (c9 2 pp 0)), (3, .ref (b 1 pp)), (0, .ref (h 0)), (1, .int (nI pp)), (2, .int (nI j))]) hx hb dX3_standIn_27 hl (by decide) rfl (fun ls hl => ?_)
      refine lv_aload_n hx hb dX3_standIn_29 rfl (lv_at hl 1 rfl) ?_
      refine lv_iload_n hx hb dX3_standIn_30 rfl (lv_at hl 4 rfl) ?_
      refine mw_put (ty := .int) (v := .int (nI j)) (ci := 2) (T := TX1) (N := 2) (C := RX1) hE iX3_standIn_X1 tyX1 tyX1_ok nmX1 hP hS ((fP pp hpp).1) rfl 1 (by decide) (hE.2.2.1 _ mX3_standIn_f75) rfl rfl (by decide +kernel) rfl rfl (Nat.le_of_ble_eq_true rfl) dX3_standIn_31 (fun H locs hP hS => ?_)
      obtain ⟨M_6, eM_6⟩ : ∃ Z, Z = mw_up M (b 1 pp) (.inr (2, [.ref (b 2 pp), .int (nI j)])) := ⟨_, rfl⟩
      have hP : mw_Q (mw_A M s.heap.size) D vwCl M_6 H := by rw [eM_6]; exact hP
      have f_7 : M_6 (b 1 pp) = some (.inr (2, [.ref (b 2 pp), .int (nI j)])) := by rw [eM_6]; exact mw_up_s
      refine lv_iload hx hb dX3_standIn_34 (lv_at hl 0 rfl) ?_
      exact mw_iret (v := c9 2 pp 0) hE hr hlocks hP hS dX3_standIn_36 (⟨_, _, cp_set2 hR hT hpp f_7 (fun x hx => by rw [eM_6, mw_up_n hx]), sm_stand hs hj, Or.inr (Or.inr ⟨pp, j, hpp, hj, rfl, rfl, (sP pp hpp).1, rfl⟩)⟩)
    · skip
      refine lv_if_ne (tgt := 23) hx hb dX3_standIn_17 (by decide) (fun c9 => absurd (by decide) c9) (fun _ => ?_)
      refine lv_bipush (v := (-4)) hx hb dX3_standIn_20 (by decide) ?_
      exact mw_iret (v := (-4)) hE hr hlocks hP hS dX3_standIn_22 (⟨c9, g, hR, hs, Or.inr (Or.inl ⟨vp_in_nI hpp (by omega), hq_4, rfl, rfl⟩)⟩)
  · skip
    refine lv_astore_nN (lv' := [(3, .null), (0, .ref (h 0)), (1, .int x), (2, .int y)]) hx hb dX3_standIn_5 rfl hl (by decide) rfl (fun ls hl => ?_)
    refine lv_aload_nN hx hb dX3_standIn_6 rfl (lv_at hl 0 rfl) ?_
    refine lv_ifnonnullN hx hb dX3_standIn_7 ?_
    refine lv_bipush (v := (-2)) hx hb dX3_standIn_10 (by decide) ?_
    exact mw_iret (v := (-2)) hE hr hlocks hP hS dX3_standIn_12 (⟨c9, g, hR, hs, Or.inl ⟨hq_2, rfl, rfl⟩⟩)

set_option maxRecDepth 20000 in
theorem mX3_at_f118 : Cond.fieldLink RX3 118 "CodePages$Text" "size" "I" ∈ wsX3_at := by decide +kernel
set_option maxRecDepth 20000 in
theorem mX3_at_f121 : Cond.fieldLink RX3 121 "CodePages$Text" "codes" "[I" ∈ wsX3_at := by decide +kernel
set_option maxRecDepth 20000 in
theorem iX3_at_X2 : ∀ w ∈ u_ws RX2 TX2 2, w ∈ wsX3_at := by decide +kernel
set_option maxHeartbeats 4000000 in
set_option maxRecDepth 100000 in
theorem tX3_at (l : Launch) (D : va_G) (k : Nat → ClassId) (M : mw) (sz : Nat) (h : Nat → Nat) (b : Nat → Nat → Nat) (T : Nat → Nat × Nat) (n : Nat → Nat) (c9 : Nat → Nat → Nat → Int32) (g : Nat → Nat → Int32) (L : Nat → Nat) (X : Nat → Nat → Nat) (x y : Int32) (hR : cp_R k h b n c9 M) (hT : cp_T h b T n) (hn9 : mo_B n) (hs : sm n c9 g L X) : Met l yX3_at wsX3_at ({ frames := 1, cells := 0, slots := 0, locals := 21 }) (va_Pc [.ref (h 0), .int x, .int y] (mw_U D vwCl (TY k) M sz)) (va_Qi (fun r M1 => M1 = M ∧ R_at n g L x y r) (mw_B D vwCl M sz) (mw_A M sz)) 0 0 (mw_A M sz) := by
  refine mw_met (cc := cX3_at) (maxL := 4) (ret := (some .int)) (lv := [(0, .ref (h 0)), (1, .int x), (2, .int y)]) (by decide) rfl (Nat.le_of_ble_eq_true rfl) rfl ?_
  intro p e s m below meth c ls hE hr hlocks hin hml hsz hP hS hl
  subst hsz
  have hx := hE.1
  have hb := hE.2.1
  have hA : ∀ q, s.heap.size ≤ q → mw_A M s.heap.size q := fun q h => Or.inr h
  obtain ⟨hb0, hb1, hb2, hb3⟩ := id hn9
  obtain ⟨⟨f0, f1, f2, f3, f4⟩, fP, fO, fX⟩ := id hR
  obtain ⟨sP, sO, sX, sG, sL⟩ := id hs
  refine lv_aload_n hx hb dX3_at_0 rfl (lv_at hl 0 rfl) ?_
  refine lv_iload_n hx hb dX3_at_1 rfl (lv_at hl 1 rfl) ?_
  refine mw_callq hP hS hA (va_runV (As := [.int x]) (rest := []) ⟨hx, hb, hml, hE.2.2.2.1, hE.2.2.1⟩ (tX3_textAt l D k _ _ h (fun j => nI (n (j - 4))) (n 2) (b 6) x hb2 f0 f3) (cwV 1 hE.2.2.1 gX3_at_X3_textAt rfl rfl rfl (by decide +kernel) ⟨(Nat.le_of_ble_eq_true rfl), (Nat.le_of_ble_eq_true rfl)⟩) (mw_preV hE hP (ci := 4) rfl rfl f0 [.int x]) rfl rfl hl.1 rfl (lv_room (Nat.le_of_ble_eq_true rfl)) dX3_at_2 ⟨(Nat.le_of_ble_eq_true rfl), (Nat.le_of_ble_eq_true rfl)⟩) (fun r_1 M1 H locs hw hP hS => ?_)
  obtain ⟨hM1, hw⟩ := hw
  rw [hM1] at hP
  rcases hw with ⟨t, ht, rfl, rfl⟩ | ⟨hq_2, rfl⟩
  · skip
    refine lv_astore_n (lv' := [(3, .ref (b 6 t)), (0, .ref (h 0)), (1, .int (nI t)), (2, .int y)]) hx hb dX3_at_5 rfl hl (by decide) rfl (fun ls hl => ?_)
    refine lv_aload_n hx hb dX3_at_6 rfl (lv_at hl 0 rfl) ?_
    refine lv_ifnull hx hb dX3_at_7 ?_
    obtain ⟨a1, a2⟩ := sX t ht
    obtain ⟨d1, d2, d3⟩ := sG t ht
    refine lv_iload_n hx hb dX3_at_10 rfl (lv_at hl 3 rfl) ?_
    refine lv_if_lt (tgt := 31) hx hb dX3_at_11 (by decide) (fun c_11 => ?_) (fun c_11 => ?_)
    · refine lv_iconst (v := (-1)) hx hb dX3_at_31 (by decide) ?_
      exact mw_iret (v := (-1)) hE hr hlocks hP hS dX3_at_32 (⟨rfl, Or.inr ⟨t, ht, rfl, Or.inl ⟨fun q => ((rw_in (n := L t) (by omega)).mp q).1 c_11, rfl⟩⟩⟩)
    · refine lv_iload_n hx hb dX3_at_14 rfl (lv_at hl 3 rfl) ?_
      refine lv_aload_n hx hb dX3_at_15 rfl (lv_at hl 0 rfl) ?_
      refine mw_get (v := .int (c9 8 t 0)) (ci := 3) (T := TX2) (N := 2) (C := RX2) hE iX3_at_X2 hP ((fX t ht).1) rfl 1 (by decide) (hE.2.2.1 _ mX3_at_f118) rfl rfl dX3_at_16 ?_
      refine rw_i (v := nI (L t)) a1 ?_
      refine lv_icmp_ge (tgt := 31) hx hb dX3_at_19 (by decide) (fun c_19 => ?_) (fun c_19 => ?_)
      · refine lv_iconst (v := (-1)) hx hb dX3_at_31 (by decide) ?_
        exact mw_iret (v := (-1)) hE hr hlocks hP hS dX3_at_32 (⟨rfl, Or.inr ⟨t, ht, rfl, Or.inl ⟨fun q => ((rw_in (n := L t) (by omega)).mp q).2 c_19, rfl⟩⟩⟩)
      · obtain ⟨j, hj, rfl⟩ := vp_in_of ((rw_in (n := L t) (by omega)).mpr ⟨c_11, c_19⟩) (by omega)
        refine lv_aload_n hx hb dX3_at_22 rfl (lv_at hl 0 rfl) ?_
        refine mw_get (v := .ref (b 7 t)) (ci := 3) (T := TX2) (N := 2) (C := RX2) hE iX3_at_X2 hP ((fX t ht).1) rfl 0 (by decide) (hE.2.2.1 _ mX3_at_f121) rfl rfl dX3_at_23 ?_
        refine lv_iload_n hx hb dX3_at_26 rfl (lv_at hl 3 rfl) ?_
        refine rw_iald hE hP 0 ((fX t ht).2) rfl (by decide) dX3_at_27 (by omega) ?_
        refine lv_goto (tgt := 32) hx hb dX3_at_28 (by decide) ?_
        exact mw_iret (v := (c9 7 t) j) hE hr hlocks hP hS dX3_at_32 (⟨rfl, Or.inr ⟨t, ht, rfl, Or.inr ⟨j, hj, rfl, (a2 j hj).trans (d3 j hj).2.symm⟩⟩⟩)
  · skip
    refine lv_astore_nN (lv' := [(3, .null), (0, .ref (h 0)), (1, .int x), (2, .int y)]) hx hb dX3_at_5 rfl hl (by decide) rfl (fun ls hl => ?_)
    refine lv_aload_nN hx hb dX3_at_6 rfl (lv_at hl 0 rfl) ?_
    refine lv_ifnullN (tgt := 31) hx hb dX3_at_7 (by decide) ?_
    refine lv_iconst (v := (-1)) hx hb dX3_at_31 (by decide) ?_
    exact mw_iret (v := (-1)) hE hr hlocks hP hS dX3_at_32 (⟨rfl, Or.inl ⟨hq_2, rfl⟩⟩)

set_option maxRecDepth 20000 in
theorem mX3_sign_f118 : Cond.fieldLink RX3 118 "CodePages$Text" "size" "I" ∈ wsX3_sign := by decide +kernel
set_option maxRecDepth 20000 in
theorem mX3_sign_f121 : Cond.fieldLink RX3 121 "CodePages$Text" "codes" "[I" ∈ wsX3_sign := by decide +kernel
set_option maxRecDepth 20000 in
theorem iX3_sign_X2 : ∀ w ∈ u_ws RX2 TX2 2, w ∈ wsX3_sign := by decide +kernel
set_option maxHeartbeats 4000000 in
set_option maxRecDepth 100000 in
theorem tX3_sign (l : Launch) (D : va_G) (k : Nat → ClassId) (M : mw) (sz : Nat) (h : Nat → Nat) (b : Nat → Nat → Nat) (T : Nat → Nat × Nat) (n : Nat → Nat) (c9 : Nat → Nat → Nat → Int32) (g : Nat → Nat → Int32) (L : Nat → Nat) (X : Nat → Nat → Nat) (x y : Int32) (hR : cp_R k h b n c9 M) (hT : cp_T h b T n) (hn9 : mo_B n) (hs : sm n c9 g L X) : Met l yX3_sign wsX3_sign ({ frames := 1, cells := 0, slots := 0, locals := 21 }) (va_Pc [.ref (h 0), .int x, .int y] (mw_U D vwCl (TY k) M sz)) (va_Qi (fun r M1 => ∃ c1 g1 L1 X1, cp_R k h b n c1 M1 ∧ sm n c1 g1 L1 X1 ∧ R_sign n g L x y r g1) (mw_B D vwCl M sz) (mw_A M sz)) 0 0 (mw_A M sz) := by
  refine mw_met (cc := cX3_sign) (maxL := 4) (ret := (some .int)) (lv := [(0, .ref (h 0)), (1, .int x), (2, .int y)]) (by decide) rfl (Nat.le_of_ble_eq_true rfl) rfl ?_
  intro p e s m below meth c ls hE hr hlocks hin hml hsz hP hS hl
  subst hsz
  have hx := hE.1
  have hb := hE.2.1
  have hA : ∀ q, s.heap.size ≤ q → mw_A M s.heap.size q := fun q h => Or.inr h
  obtain ⟨hb0, hb1, hb2, hb3⟩ := id hn9
  obtain ⟨⟨f0, f1, f2, f3, f4⟩, fP, fO, fX⟩ := id hR
  obtain ⟨sP, sO, sX, sG, sL⟩ := id hs
  refine lv_aload_n hx hb dX3_sign_0 rfl (lv_at hl 0 rfl) ?_
  refine lv_iload_n hx hb dX3_sign_1 rfl (lv_at hl 1 rfl) ?_
  refine mw_callq hP hS hA (va_runV (As := [.int x]) (rest := []) ⟨hx, hb, hml, hE.2.2.2.1, hE.2.2.1⟩ (tX3_textAt l D k _ _ h (fun j => nI (n (j - 4))) (n 2) (b 6) x hb2 f0 f3) (cwV 1 hE.2.2.1 gX3_sign_X3_textAt rfl rfl rfl (by decide +kernel) ⟨(Nat.le_of_ble_eq_true rfl), (Nat.le_of_ble_eq_true rfl)⟩) (mw_preV hE hP (ci := 4) rfl rfl f0 [.int x]) rfl rfl hl.1 rfl (lv_room (Nat.le_of_ble_eq_true rfl)) dX3_sign_2 ⟨(Nat.le_of_ble_eq_true rfl), (Nat.le_of_ble_eq_true rfl)⟩) (fun r_1 M1 H locs hw hP hS => ?_)
  obtain ⟨hM1, hw⟩ := hw
  rw [hM1] at hP
  rcases hw with ⟨t, ht, rfl, rfl⟩ | ⟨hq_2, rfl⟩
  · skip
    refine lv_astore_n (lv' := [(3, .ref (b 6 t)), (0, .ref (h 0)), (1, .int (nI t)), (2, .int y)]) hx hb dX3_sign_5 rfl hl (by decide) rfl (fun ls hl => ?_)
    refine lv_aload_n hx hb dX3_sign_6 rfl (lv_at hl 0 rfl) ?_
    refine lv_ifnonnull (tgt := 13) hx hb dX3_sign_7 (by decide) ?_
    refine lv_iload_n hx hb dX3_sign_13 rfl (lv_at hl 3 rfl) ?_
    refine mw_calli hP hS hA (va_runS (As := [.int y]) (rest := []) ⟨hx, hb, hml, hE.2.2.2.1, hE.2.2.1⟩ (tX3_isCode l D k _ _ y) (va_cwS 1 hE.2.2.1 gX3_sign_X3_isCode rfl rfl rfl (by decide +kernel) ⟨(Nat.le_of_ble_eq_true rfl), (Nat.le_of_ble_eq_true rfl)⟩) (mw_preS hE hP [.int y]) rfl rfl hl.1 rfl (lv_room (Nat.le_of_ble_eq_true rfl)) dX3_sign_14 ⟨(Nat.le_of_ble_eq_true rfl), (Nat.le_of_ble_eq_true rfl)⟩) (fun r_3 M1 H locs hw hP hS => ?_)
    obtain ⟨hM1, hw⟩ := hw
    rw [hM1] at hP
    rcases hw with ⟨hq_4, rfl⟩ | ⟨hq_4, rfl⟩
    · obtain ⟨j, hj, rfl⟩ := vp_in_of hq_4 (by omega)
      skip
      refine lv_if_ne (tgt := 23) hx hb dX3_sign_17 (by decide) (fun _ => ?_) (fun c9 => absurd c9 (by decide))
      obtain ⟨a1, a2⟩ := sX t ht
      obtain ⟨d1, d2, d3⟩ := sG t ht
      refine lv_aload_n hx hb dX3_sign_23 rfl (lv_at hl 0 rfl) ?_
      refine mw_get (v := .int (c9 8 t 0)) (ci := 3) (T := TX2) (N := 2) (C := RX2) hE iX3_sign_X2 hP ((fX t ht).1) rfl 1 (by decide) (hE.2.2.1 _ mX3_sign_f118) rfl rfl dX3_sign_24 ?_
      refine rw_i (v := nI (L t)) a1 ?_
      refine lv_bipush (v := nI 40) hx hb dX3_sign_27 (by decide) ?_
      refine lv_icmp_lt (tgt := 34) hx hb dX3_sign_29 (by decide) (fun c_29 => ?_) (fun c_29 => ?_)
      · have k_29 : (L t) < 40 := nn_lt (a := (L t)) (b := 40) c_29 (by omega) (by omega)
        refine lv_aload_n hx hb dX3_sign_34 rfl (lv_at hl 0 rfl) ?_
        refine mw_get (v := .ref (b 7 t)) (ci := 3) (T := TX2) (N := 2) (C := RX2) hE iX3_sign_X2 hP ((fX t ht).1) rfl 0 (by decide) (hE.2.2.1 _ mX3_sign_f121) rfl rfl dX3_sign_35 ?_
        refine lv_aload_n hx hb dX3_sign_38 rfl (lv_at hl 0 rfl) ?_
        refine mw_get (v := .int (c9 8 t 0)) (ci := 3) (T := TX2) (N := 2) (C := RX2) hE iX3_sign_X2 hP ((fX t ht).1) rfl 1 (by decide) (hE.2.2.1 _ mX3_sign_f118) rfl rfl dX3_sign_39 ?_
        refine rw_i (v := nI (L t)) a1 ?_
        refine lv_iload_n hx hb dX3_sign_42 rfl (lv_at hl 3 rfl) ?_
        refine rw_iast hE hP hS 0 ((fX t ht).2) rfl (by decide) dX3_sign_43 (by omega) (fun H locs hP hS => ?_)
        obtain ⟨M_7, eM_7⟩ : ∃ Z, Z = mw_up M (b 7 t) (.inl ((k 0), 40, .inl (upd (c9 7 t) (L t) (nI j)))) := ⟨_, rfl⟩
        have hP : mw_Q (mw_A M s.heap.size) D vwCl M_7 H := by rw [eM_7]; exact hP
        have f_8 : M_7 (b 7 t) = some (.inl ((k 0), 40, .inl (upd (c9 7 t) (L t) (nI j)))) := by rw [eM_7]; exact mw_up_s
        have f_9 : M_7 (b 6 t) = some (.inr (3, [.ref (b 7 t), .int (c9 8 t 0)])) := by rw [eM_7, mw_up_n (fun h => by have h1 := (fX t ht).1; rw [h, (fX t ht).2] at h1; cases h1)]; exact (fX t ht).1
        refine lv_aload_n hx hb dX3_sign_44 rfl (lv_at hl 0 rfl) ?_
        refine lv_dup hx hb dX3_sign_45 rfl ?_
        refine mw_get (v := .int (c9 8 t 0)) (ci := 3) (T := TX2) (N := 2) (C := RX2) hE iX3_sign_X2 hP f_9 rfl 1 (by decide) (hE.2.2.1 _ mX3_sign_f118) rfl rfl dX3_sign_46 ?_
        refine rw_i (v := nI (L t)) a1 ?_
        refine lv_iconst (v := 1) hx hb dX3_sign_49 (by decide) ?_
        refine lv_iadd hx hb dX3_sign_50 ?_
        refine rw_i (v := nI ((L t) + 1)) (nI_1 _) ?_
        refine mw_put (ty := .int) (v := .int (nI ((L t) + 1))) (ci := 3) (T := TX2) (N := 2) (C := RX2) hE iX3_sign_X2 tyX2 tyX2_ok nmX2 hP hS f_9 rfl 1 (by decide) (hE.2.2.1 _ mX3_sign_f118) rfl rfl (by decide +kernel) rfl rfl (Nat.le_of_ble_eq_true rfl) dX3_sign_51 (fun H locs hP hS => ?_)
        obtain ⟨M_10, eM_10⟩ : ∃ Z, Z = mw_up M_7 (b 6 t) (.inr (3, [.ref (b 7 t), .int (nI ((L t) + 1))])) := ⟨_, rfl⟩
        have hP : mw_Q (mw_A M s.heap.size) D vwCl M_10 H := by rw [eM_10]; exact hP
        have f_11 : M_10 (b 7 t) = some (.inl ((k 0), 40, .inl (upd (c9 7 t) (L t) (nI j)))) := by rw [eM_10, mw_up_n (fun h => by have h1 := f_8; rw [h, f_9] at h1; cases h1)]; exact f_8
        have f_12 : M_10 (b 6 t) = some (.inr (3, [.ref (b 7 t), .int (nI ((L t) + 1))])) := by rw [eM_10]; exact mw_up_s
        refine lv_aload_n hx hb dX3_sign_54 rfl (lv_at hl 0 rfl) ?_
        refine mw_get (v := .int (nI ((L t) + 1))) (ci := 3) (T := TX2) (N := 2) (C := RX2) hE iX3_sign_X2 hP f_12 rfl 1 (by decide) (hE.2.2.1 _ mX3_sign_f118) rfl rfl dX3_sign_55 ?_
        exact mw_iret (v := nI ((L t) + 1)) hE hr hlocks hP hS dX3_sign_58 (⟨_, _, _, _, cp_sgn hR hT ht f_11 f_12 (fun x h1 h2 => by rw [eM_10, mw_up_n h2, eM_7, mw_up_n h1]), sm_sgn hs ht hj (by omega), Or.inr (Or.inr ⟨t, j, ht, hj, rfl, rfl, Or.inr ⟨by omega, rfl, rfl⟩⟩)⟩)
      · have k_29 : 40 ≤ (L t) := nn_nlt (a := (L t)) (b := 40) c_29 (by omega) (by omega)
        refine lv_iconst (v := (-1)) hx hb dX3_sign_32 (by decide) ?_
        exact mw_iret (v := (-1)) hE hr hlocks hP hS dX3_sign_33 (⟨c9, g, L, X, hR, hs, Or.inr (Or.inr ⟨t, j, ht, hj, rfl, rfl, Or.inl ⟨by omega, rfl, rfl⟩⟩)⟩)
    · skip
      refine lv_if_ne (tgt := 23) hx hb dX3_sign_17 (by decide) (fun c9 => absurd (by decide) c9) (fun _ => ?_)
      refine lv_bipush (v := (-4)) hx hb dX3_sign_20 (by decide) ?_
      exact mw_iret (v := (-4)) hE hr hlocks hP hS dX3_sign_22 (⟨c9, g, L, X, hR, hs, Or.inr (Or.inl ⟨vp_in_nI ht (by omega), hq_4, rfl, rfl⟩)⟩)
  · skip
    refine lv_astore_nN (lv' := [(3, .null), (0, .ref (h 0)), (1, .int x), (2, .int y)]) hx hb dX3_sign_5 rfl hl (by decide) rfl (fun ls hl => ?_)
    refine lv_aload_nN hx hb dX3_sign_6 rfl (lv_at hl 0 rfl) ?_
    refine lv_ifnonnullN hx hb dX3_sign_7 ?_
    refine lv_bipush (v := (-2)) hx hb dX3_sign_10 (by decide) ?_
    exact mw_iret (v := (-2)) hE hr hlocks hP hS dX3_sign_12 (⟨c9, g, L, X, hR, hs, Or.inl ⟨hq_2, rfl, rfl⟩⟩)

set_option maxRecDepth 20000 in
theorem mX3_rank_f128 : Cond.fieldLink RX3 128 "CodePages$Order" "ranks" "[I" ∈ wsX3_rank := by decide +kernel
set_option maxRecDepth 20000 in
theorem iX3_rank_X0 : ∀ w ∈ u_ws RX0 TX0 4, w ∈ wsX3_rank := by decide +kernel
set_option maxHeartbeats 4000000 in
set_option maxRecDepth 100000 in
theorem tX3_rank (l : Launch) (D : va_G) (k : Nat → ClassId) (M : mw) (sz : Nat) (h : Nat → Nat) (b : Nat → Nat → Nat) (T : Nat → Nat × Nat) (n : Nat → Nat) (c9 : Nat → Nat → Nat → Int32) (g : Nat → Nat → Int32) (L : Nat → Nat) (X : Nat → Nat → Nat) (x y : Int32) (hR : cp_R k h b n c9 M) (hT : cp_T h b T n) (hn9 : mo_B n) (hs : sm n c9 g L X) : Met l yX3_rank wsX3_rank ({ frames := 1, cells := 0, slots := 0, locals := 21 }) (va_Pc [.ref (h 0), .int x, .int y] (mw_U D vwCl (TY k) M sz)) (va_Qi (fun r M1 => M1 = M ∧ R_rank n g x y r) (mw_B D vwCl M sz) (mw_A M sz)) 0 0 (mw_A M sz) := by
  refine mw_met (cc := cX3_rank) (maxL := 4) (ret := (some .int)) (lv := [(0, .ref (h 0)), (1, .int x), (2, .int y)]) (by decide) rfl (Nat.le_of_ble_eq_true rfl) rfl ?_
  intro p e s m below meth c ls hE hr hlocks hin hml hsz hP hS hl
  subst hsz
  have hx := hE.1
  have hb := hE.2.1
  have hA : ∀ q, s.heap.size ≤ q → mw_A M s.heap.size q := fun q h => Or.inr h
  obtain ⟨hb0, hb1, hb2, hb3⟩ := id hn9
  obtain ⟨⟨f0, f1, f2, f3, f4⟩, fP, fO, fX⟩ := id hR
  obtain ⟨sP, sO, sX, sG, sL⟩ := id hs
  refine lv_aload_n hx hb dX3_rank_0 rfl (lv_at hl 0 rfl) ?_
  refine lv_iload_n hx hb dX3_rank_1 rfl (lv_at hl 1 rfl) ?_
  refine mw_callq hP hS hA (va_runV (As := [.int x]) (rest := []) ⟨hx, hb, hml, hE.2.2.2.1, hE.2.2.1⟩ (tX3_orderAt l D k _ _ h (fun j => nI (n (j - 4))) (n 1) (b 3) x hb1 f0 f2) (cwV 1 hE.2.2.1 gX3_rank_X3_orderAt rfl rfl rfl (by decide +kernel) ⟨(Nat.le_of_ble_eq_true rfl), (Nat.le_of_ble_eq_true rfl)⟩) (mw_preV hE hP (ci := 4) rfl rfl f0 [.int x]) rfl rfl hl.1 rfl (lv_room (Nat.le_of_ble_eq_true rfl)) dX3_rank_2 ⟨(Nat.le_of_ble_eq_true rfl), (Nat.le_of_ble_eq_true rfl)⟩) (fun r_1 M1 H locs hw hP hS => ?_)
  obtain ⟨hM1, hw⟩ := hw
  rw [hM1] at hP
  rcases hw with ⟨oo, hoo, rfl, rfl⟩ | ⟨hq_2, rfl⟩
  · skip
    refine lv_astore_n (lv' := [(3, .ref (b 3 oo)), (0, .ref (h 0)), (1, .int (nI oo)), (2, .int y)]) hx hb dX3_rank_5 rfl hl (by decide) rfl (fun ls hl => ?_)
    refine lv_aload_n hx hb dX3_rank_6 rfl (lv_at hl 0 rfl) ?_
    refine lv_ifnonnull (tgt := 13) hx hb dX3_rank_7 (by decide) ?_
    refine lv_iload_n hx hb dX3_rank_13 rfl (lv_at hl 3 rfl) ?_
    refine mw_calli hP hS hA (va_runS (As := [.int y]) (rest := []) ⟨hx, hb, hml, hE.2.2.2.1, hE.2.2.1⟩ (tX3_isCode l D k _ _ y) (va_cwS 1 hE.2.2.1 gX3_rank_X3_isCode rfl rfl rfl (by decide +kernel) ⟨(Nat.le_of_ble_eq_true rfl), (Nat.le_of_ble_eq_true rfl)⟩) (mw_preS hE hP [.int y]) rfl rfl hl.1 rfl (lv_room (Nat.le_of_ble_eq_true rfl)) dX3_rank_14 ⟨(Nat.le_of_ble_eq_true rfl), (Nat.le_of_ble_eq_true rfl)⟩) (fun r_3 M1 H locs hw hP hS => ?_)
    obtain ⟨hM1, hw⟩ := hw
    rw [hM1] at hP
    rcases hw with ⟨hq_4, rfl⟩ | ⟨hq_4, rfl⟩
    · obtain ⟨j, hj, rfl⟩ := vp_in_of hq_4 (by omega)
      skip
      refine lv_if_eq (tgt := 29) hx hb dX3_rank_17 (by decide) (fun c9 => absurd c9 (by decide)) (fun _ => ?_)
      refine lv_aload_n hx hb dX3_rank_20 rfl (lv_at hl 0 rfl) ?_
      refine mw_get (v := .ref (b 4 oo)) (ci := 1) (T := TX0) (N := 4) (C := RX0) hE iX3_rank_X0 hP ((fO oo hoo).1) rfl 1 (by decide) (hE.2.2.1 _ mX3_rank_f128) rfl rfl dX3_rank_21 ?_
      refine lv_iload_n hx hb dX3_rank_24 rfl (lv_at hl 3 rfl) ?_
      refine rw_iald hE hP 0 ((fO oo hoo).2.1) rfl (by decide) dX3_rank_25 (by omega) ?_
      refine lv_goto (tgt := 31) hx hb dX3_rank_26 (by decide) ?_
      exact mw_iret (v := (c9 3 oo) j) hE hr hlocks hP hS dX3_rank_31 (⟨rfl, Or.inr (Or.inr ⟨oo, j, hoo, hj, rfl, rfl, (sO oo hoo).2.1 j hj⟩)⟩)
    · skip
      refine lv_if_eq (tgt := 29) hx hb dX3_rank_17 (by decide) (fun _ => ?_) (fun c9 => absurd (by decide) c9)
      refine lv_bipush (v := (-4)) hx hb dX3_rank_29 (by decide) ?_
      exact mw_iret (v := (-4)) hE hr hlocks hP hS dX3_rank_31 (⟨rfl, Or.inr (Or.inl ⟨vp_in_nI hoo (by omega), hq_4, rfl⟩)⟩)
  · skip
    refine lv_astore_nN (lv' := [(3, .null), (0, .ref (h 0)), (1, .int x), (2, .int y)]) hx hb dX3_rank_5 rfl hl (by decide) rfl (fun ls hl => ?_)
    refine lv_aload_nN hx hb dX3_rank_6 rfl (lv_at hl 0 rfl) ?_
    refine lv_ifnonnullN hx hb dX3_rank_7 ?_
    refine lv_bipush (v := (-2)) hx hb dX3_rank_10 (by decide) ?_
    exact mw_iret (v := (-2)) hE hr hlocks hP hS dX3_rank_12 (⟨rfl, Or.inl ⟨hq_2, rfl⟩⟩)

set_option maxHeartbeats 4000000 in
set_option maxRecDepth 100000 in
theorem tX3_high (l : Launch) (D : va_G) (k : Nat → ClassId) (M : mw) (sz : Nat) (h : Nat → Nat) (b : Nat → Nat → Nat) (T : Nat → Nat × Nat) (n : Nat → Nat) (c9 : Nat → Nat → Nat → Int32) (g : Nat → Nat → Int32) (L : Nat → Nat) (X : Nat → Nat → Nat) (x : Int32) (hR : cp_R k h b n c9 M) (hT : cp_T h b T n) (hn9 : mo_B n) (hs : sm n c9 g L X) : Met l yX3_high wsX3_high ({ frames := 1, cells := 0, slots := 0, locals := 22 }) (va_Pc [.ref (h 0), .int x] (mw_U D vwCl (TY k) M sz)) (va_Qi (fun r M1 => M1 = M ∧ R_high n g x r) (mw_B D vwCl M sz) (mw_A M sz)) 0 0 (mw_A M sz) := by
  refine mw_met (cc := cX3_high) (maxL := 3) (ret := (some .int)) (lv := [(0, .ref (h 0)), (1, .int x)]) (by decide) rfl (Nat.le_of_ble_eq_true rfl) rfl ?_
  intro p e s m below meth c ls hE hr hlocks hin hml hsz hP hS hl
  subst hsz
  have hx := hE.1
  have hb := hE.2.1
  have hA : ∀ q, s.heap.size ≤ q → mw_A M s.heap.size q := fun q h => Or.inr h
  obtain ⟨hb0, hb1, hb2, hb3⟩ := id hn9
  obtain ⟨⟨f0, f1, f2, f3, f4⟩, fP, fO, fX⟩ := id hR
  obtain ⟨sP, sO, sX, sG, sL⟩ := id hs
  refine lv_aload_n hx hb dX3_high_0 rfl (lv_at hl 0 rfl) ?_
  refine lv_iload_n hx hb dX3_high_1 rfl (lv_at hl 1 rfl) ?_
  refine mw_callq hP hS hA (va_runV (As := [.int x]) (rest := []) ⟨hx, hb, hml, hE.2.2.2.1, hE.2.2.1⟩ (tX3_orderAt l D k _ _ h (fun j => nI (n (j - 4))) (n 1) (b 3) x hb1 f0 f2) (cwV 1 hE.2.2.1 gX3_high_X3_orderAt rfl rfl rfl (by decide +kernel) ⟨(Nat.le_of_ble_eq_true rfl), (Nat.le_of_ble_eq_true rfl)⟩) (mw_preV hE hP (ci := 4) rfl rfl f0 [.int x]) rfl rfl hl.1 rfl (lv_room (Nat.le_of_ble_eq_true rfl)) dX3_high_2 ⟨(Nat.le_of_ble_eq_true rfl), (Nat.le_of_ble_eq_true rfl)⟩) (fun r_1 M1 H locs hw hP hS => ?_)
  obtain ⟨hM1, hw⟩ := hw
  rw [hM1] at hP
  rcases hw with ⟨oo, hoo, rfl, rfl⟩ | ⟨hq_2, rfl⟩
  · skip
    refine lv_astore_n (lv' := [(2, .ref (b 3 oo)), (0, .ref (h 0)), (1, .int (nI oo))]) hx hb dX3_high_5 rfl hl (by decide) rfl (fun ls hl => ?_)
    refine lv_aload_n hx hb dX3_high_6 rfl (lv_at hl 0 rfl) ?_
    refine lv_ifnonnull (tgt := 15) hx hb dX3_high_7 (by decide) ?_
    refine lv_aload_n hx hb dX3_high_15 rfl (lv_at hl 0 rfl) ?_
    refine mw_calli hP hS hA (va_runV (As := []) (rest := []) ⟨hx, hb, hml, hE.2.2.2.1, hE.2.2.1⟩ (tX0_lastCode l D k _ _ (b 3 oo) (b 4 oo) (b 5 oo) (c9 6 oo 0) (c9 5 oo 0) (c9 3 oo) (c9 4 oo) (fO oo hoo).1 (fO oo hoo).2.1 (fO oo hoo).2.2) (cwV 0 hE.2.2.1 gX3_high_X0_lastCode rfl rfl rfl (by decide +kernel) ⟨(Nat.le_of_ble_eq_true rfl), (Nat.le_of_ble_eq_true rfl)⟩) (mw_preV hE hP (ci := 1) rfl rfl ((fO oo hoo).1) []) rfl rfl hl.1 rfl (lv_room (Nat.le_of_ble_eq_true rfl)) dX3_high_16 ⟨(Nat.le_of_ble_eq_true rfl), (Nat.le_of_ble_eq_true rfl)⟩) (fun r_3 M1 H locs hw hP hS => ?_)
    obtain ⟨hM1, er_3⟩ := hw
    rw [hM1] at hP
    exact mw_iret (v := r_3) hE hr hlocks hP hS dX3_high_19 (⟨rfl, Or.inr ⟨oo, hoo, rfl, by rw [er_3, hgh_ext (fun i hi => (sO oo hoo).2.1 i (by omega))]⟩⟩)
  · skip
    refine lv_astore_nN (lv' := [(2, .null), (0, .ref (h 0)), (1, .int x)]) hx hb dX3_high_5 rfl hl (by decide) rfl (fun ls hl => ?_)
    refine lv_aload_nN hx hb dX3_high_6 rfl (lv_at hl 0 rfl) ?_
    refine lv_ifnonnullN hx hb dX3_high_7 ?_
    refine lv_bipush (v := (-2)) hx hb dX3_high_10 (by decide) ?_
    refine lv_goto (tgt := 19) hx hb dX3_high_12 (by decide) ?_
    exact mw_iret (v := (-2)) hE hr hlocks hP hS dX3_high_19 (⟨rfl, Or.inl ⟨hq_2, rfl⟩⟩)

set_option maxHeartbeats 4000000 in
set_option maxRecDepth 100000 in
theorem tX3_cls (l : Launch) (D : va_G) (k : Nat → ClassId) (M : mw) (sz : Nat) (h : Nat → Nat) (b : Nat → Nat → Nat) (T : Nat → Nat × Nat) (n : Nat → Nat) (c9 : Nat → Nat → Nat → Int32) (g : Nat → Nat → Int32) (L : Nat → Nat) (X : Nat → Nat → Nat) (x y : Int32) (hR : cp_R k h b n c9 M) (hT : cp_T h b T n) (hn9 : mo_B n) (hs : sm n c9 g L X) : Met l yX3_cls wsX3_cls ({ frames := 1, cells := 0, slots := 0, locals := 20 }) (va_Pc [.ref (h 0), .int x, .int y] (mw_U D vwCl (TY k) M sz)) (va_Qi (fun r M1 => M1 = M ∧ R_cls x y r) (mw_B D vwCl M sz) (mw_A M sz)) 0 0 (mw_A M sz) := by
  refine mw_met (cc := cX3_cls) (maxL := 3) (ret := (some .boolean)) (lv := [(0, .ref (h 0)), (1, .int x), (2, .int y)]) (by decide) rfl (Nat.le_of_ble_eq_true rfl) rfl ?_
  intro p e s m below meth c ls hE hr hlocks hin hml hsz hP hS hl
  subst hsz
  have hx := hE.1
  have hb := hE.2.1
  have hA : ∀ q, s.heap.size ≤ q → mw_A M s.heap.size q := fun q h => Or.inr h
  obtain ⟨hb0, hb1, hb2, hb3⟩ := id hn9
  obtain ⟨⟨f0, f1, f2, f3, f4⟩, fP, fO, fX⟩ := id hR
  obtain ⟨sP, sO, sX, sG, sL⟩ := id hs
  refine lv_iload_n hx hb dX3_cls_0 rfl (lv_at hl 2 rfl) ?_
  rcases sw_cases y 6 (by decide) with hw_1 | ⟨jw_1, hjw_1, ew_1⟩
  · refine lv_tableOut (tgt := 122) hx hb dX3_cls_1 (sw_out (by decide) hw_1) (by decide) ?_
    refine lv_iconst (v := 0) hx hb dX3_cls_122 (by decide) ?_
    exact mw_zret (v := 0) (ty := .boolean) hE hr hlocks hP hS dX3_cls_123 (rfl) (⟨rfl, Or.inl ⟨hw_1, rfl⟩⟩)
  · rcases (show jw_1 = 0 ∨ jw_1 = 1 ∨ jw_1 = 2 ∨ jw_1 = 3 ∨ jw_1 = 4 ∨ jw_1 = 5 by omega) with rfl | rfl | rfl | rfl | rfl | rfl
    · subst ew_1
      refine lv_tableIn (off := (39)) (tgt := 40) hx hb dX3_cls_1 (by decide +kernel) (by decide +kernel) (by decide +kernel) (by decide) ?_
      refine lv_iload_n hx hb dX3_cls_40 rfl (lv_at hl 1 rfl) ?_
      refine lv_bipush (v := nI 48) hx hb dX3_cls_41 (by decide) ?_
      refine lv_icmp_lt (tgt := 56) hx hb dX3_cls_43 (by decide) (fun c_43 => ?_) (fun c_43 => ?_)
      · refine lv_iconst (v := 0) hx hb dX3_cls_56 (by decide) ?_
        exact mw_zret (v := 0) (ty := .boolean) hE hr hlocks hP hS dX3_cls_57 (rfl) (⟨rfl, Or.inr ⟨0, by decide, rfl, by simp [clsf, bz, c_43]⟩⟩)
      · refine lv_iload_n hx hb dX3_cls_46 rfl (lv_at hl 1 rfl) ?_
        refine lv_bipush (v := nI 57) hx hb dX3_cls_47 (by decide) ?_
        refine lv_icmp_gt (tgt := 56) hx hb dX3_cls_49 (by decide) (fun c_49 => ?_) (fun c_49 => ?_)
        · refine lv_iconst (v := 0) hx hb dX3_cls_56 (by decide) ?_
          exact mw_zret (v := 0) (ty := .boolean) hE hr hlocks hP hS dX3_cls_57 (rfl) (⟨rfl, Or.inr ⟨0, by decide, rfl, by simp [clsf, bz, c_43, c_49]⟩⟩)
        · refine lv_iconst (v := 1) hx hb dX3_cls_52 (by decide) ?_
          refine lv_goto (tgt := 57) hx hb dX3_cls_53 (by decide) ?_
          exact mw_zret (v := 1) (ty := .boolean) hE hr hlocks hP hS dX3_cls_57 (rfl) (⟨rfl, Or.inr ⟨0, by decide, rfl, by simp [clsf, bz, c_43, c_49]⟩⟩)
    · subst ew_1
      refine lv_tableIn (off := (57)) (tgt := 58) hx hb dX3_cls_1 (by decide +kernel) (by decide +kernel) (by decide +kernel) (by decide) ?_
      refine lv_iload_n hx hb dX3_cls_58 rfl (lv_at hl 1 rfl) ?_
      refine mw_calli hP hS hA (va_runS (As := [.int x]) (rest := []) ⟨hx, hb, hml, hE.2.2.2.1, hE.2.2.1⟩ (tX3_isGreatLetter l D k _ _ x) (va_cwS 1 hE.2.2.1 gX3_cls_X3_isGreatLetter rfl rfl rfl (by decide +kernel) ⟨(Nat.le_of_ble_eq_true rfl), (Nat.le_of_ble_eq_true rfl)⟩) (mw_preS hE hP [.int x]) rfl rfl hl.1 rfl (lv_room (Nat.le_of_ble_eq_true rfl)) dX3_cls_59 ⟨(Nat.le_of_ble_eq_true rfl), (Nat.le_of_ble_eq_true rfl)⟩) (fun r_4 M1 H locs hw hP hS => ?_)
      obtain ⟨hM1, er_4⟩ := hw
      rw [hM1] at hP
      by_cases hq_5 : ¬ x < nI 65 ∧ ¬ nI 90 < x
      · obtain rfl : r_4 = 1 := er_4.trans (bz_t hq_5)
        refine lv_if_ne (tgt := 72) hx hb dX3_cls_62 (by decide) (fun _ => ?_) (fun c9 => absurd c9 (by decide))
        refine lv_iconst (v := 1) hx hb dX3_cls_72 (by decide) ?_
        refine lv_goto (tgt := 77) hx hb dX3_cls_73 (by decide) ?_
        exact mw_zret (v := 1) (ty := .boolean) hE hr hlocks hP hS dX3_cls_77 (rfl) (⟨rfl, Or.inr ⟨1, by decide, rfl, (bz_t (Or.inl hq_5)).symm⟩⟩)
      · obtain rfl : r_4 = 0 := er_4.trans (bz_f hq_5)
        refine lv_if_ne (tgt := 72) hx hb dX3_cls_62 (by decide) (fun c9 => absurd (by decide) c9) (fun _ => ?_)
        refine lv_iload_n hx hb dX3_cls_65 rfl (lv_at hl 1 rfl) ?_
        refine mw_calli hP hS hA (va_runS (As := [.int x]) (rest := []) ⟨hx, hb, hml, hE.2.2.2.1, hE.2.2.1⟩ (tX3_isSmallLetter l D k _ _ x) (va_cwS 1 hE.2.2.1 gX3_cls_X3_isSmallLetter rfl rfl rfl (by decide +kernel) ⟨(Nat.le_of_ble_eq_true rfl), (Nat.le_of_ble_eq_true rfl)⟩) (mw_preS hE hP [.int x]) rfl rfl hl.1 rfl (lv_room (Nat.le_of_ble_eq_true rfl)) dX3_cls_66 ⟨(Nat.le_of_ble_eq_true rfl), (Nat.le_of_ble_eq_true rfl)⟩) (fun r_8 M1 H locs hw hP hS => ?_)
        obtain ⟨hM1, er_8⟩ := hw
        rw [hM1] at hP
        by_cases hq_9 : ¬ x < nI 97 ∧ ¬ nI 122 < x
        · obtain rfl : r_8 = 1 := er_8.trans (bz_t hq_9)
          refine lv_if_eq (tgt := 76) hx hb dX3_cls_69 (by decide) (fun c9 => absurd c9 (by decide)) (fun _ => ?_)
          refine lv_iconst (v := 1) hx hb dX3_cls_72 (by decide) ?_
          refine lv_goto (tgt := 77) hx hb dX3_cls_73 (by decide) ?_
          exact mw_zret (v := 1) (ty := .boolean) hE hr hlocks hP hS dX3_cls_77 (rfl) (⟨rfl, Or.inr ⟨1, by decide, rfl, (bz_t (Or.inr hq_9)).symm⟩⟩)
        · obtain rfl : r_8 = 0 := er_8.trans (bz_f hq_9)
          refine lv_if_eq (tgt := 76) hx hb dX3_cls_69 (by decide) (fun _ => ?_) (fun c9 => absurd (by decide) c9)
          refine lv_iconst (v := 0) hx hb dX3_cls_76 (by decide) ?_
          exact mw_zret (v := 0) (ty := .boolean) hE hr hlocks hP hS dX3_cls_77 (rfl) (⟨rfl, Or.inr ⟨1, by decide, rfl, (bz_f (fun h => h.elim hq_5 hq_9)).symm⟩⟩)
    · subst ew_1
      refine lv_tableIn (off := (77)) (tgt := 78) hx hb dX3_cls_1 (by decide +kernel) (by decide +kernel) (by decide +kernel) (by decide) ?_
      refine lv_iload_n hx hb dX3_cls_78 rfl (lv_at hl 1 rfl) ?_
      refine mw_calli hP hS hA (va_runS (As := [.int x]) (rest := []) ⟨hx, hb, hml, hE.2.2.2.1, hE.2.2.1⟩ (tX3_isGreatLetter l D k _ _ x) (va_cwS 1 hE.2.2.1 gX3_cls_X3_isGreatLetter rfl rfl rfl (by decide +kernel) ⟨(Nat.le_of_ble_eq_true rfl), (Nat.le_of_ble_eq_true rfl)⟩) (mw_preS hE hP [.int x]) rfl rfl hl.1 rfl (lv_room (Nat.le_of_ble_eq_true rfl)) dX3_cls_79 ⟨(Nat.le_of_ble_eq_true rfl), (Nat.le_of_ble_eq_true rfl)⟩) (fun r_12 M1 H locs hw hP hS => ?_)
      obtain ⟨hM1, er_12⟩ := hw
      rw [hM1] at hP
      by_cases hq_13 : ¬ x < nI 65 ∧ ¬ nI 90 < x
      · obtain rfl : r_12 = 1 := er_12.trans (bz_t hq_13)
        exact mw_zret (v := 1) (ty := .boolean) hE hr hlocks hP hS dX3_cls_82 (rfl) (⟨rfl, Or.inr ⟨2, by decide, rfl, (bz_t hq_13).symm⟩⟩)
      · obtain rfl : r_12 = 0 := er_12.trans (bz_f hq_13)
        exact mw_zret (v := 0) (ty := .boolean) hE hr hlocks hP hS dX3_cls_82 (rfl) (⟨rfl, Or.inr ⟨2, by decide, rfl, (bz_f hq_13).symm⟩⟩)
    · subst ew_1
      refine lv_tableIn (off := (82)) (tgt := 83) hx hb dX3_cls_1 (by decide +kernel) (by decide +kernel) (by decide +kernel) (by decide) ?_
      refine lv_iload_n hx hb dX3_cls_83 rfl (lv_at hl 1 rfl) ?_
      refine mw_calli hP hS hA (va_runS (As := [.int x]) (rest := []) ⟨hx, hb, hml, hE.2.2.2.1, hE.2.2.1⟩ (tX3_isSmallLetter l D k _ _ x) (va_cwS 1 hE.2.2.1 gX3_cls_X3_isSmallLetter rfl rfl rfl (by decide +kernel) ⟨(Nat.le_of_ble_eq_true rfl), (Nat.le_of_ble_eq_true rfl)⟩) (mw_preS hE hP [.int x]) rfl rfl hl.1 rfl (lv_room (Nat.le_of_ble_eq_true rfl)) dX3_cls_84 ⟨(Nat.le_of_ble_eq_true rfl), (Nat.le_of_ble_eq_true rfl)⟩) (fun r_14 M1 H locs hw hP hS => ?_)
      obtain ⟨hM1, er_14⟩ := hw
      rw [hM1] at hP
      by_cases hq_15 : ¬ x < nI 97 ∧ ¬ nI 122 < x
      · obtain rfl : r_14 = 1 := er_14.trans (bz_t hq_15)
        exact mw_zret (v := 1) (ty := .boolean) hE hr hlocks hP hS dX3_cls_87 (rfl) (⟨rfl, Or.inr ⟨3, by decide, rfl, (bz_t hq_15).symm⟩⟩)
      · obtain rfl : r_14 = 0 := er_14.trans (bz_f hq_15)
        exact mw_zret (v := 0) (ty := .boolean) hE hr hlocks hP hS dX3_cls_87 (rfl) (⟨rfl, Or.inr ⟨3, by decide, rfl, (bz_f hq_15).symm⟩⟩)
    · subst ew_1
      refine lv_tableIn (off := (87)) (tgt := 88) hx hb dX3_cls_1 (by decide +kernel) (by decide +kernel) (by decide +kernel) (by decide) ?_
      refine lv_iload_n hx hb dX3_cls_88 rfl (lv_at hl 1 rfl) ?_
      refine lv_bipush (v := nI 32) hx hb dX3_cls_89 (by decide) ?_
      refine lv_icmp_ne (tgt := 98) hx hb dX3_cls_91 (by decide) (fun c_91 => ?_) (fun c_91 => ?_)
      · refine lv_iconst (v := 0) hx hb dX3_cls_98 (by decide) ?_
        exact mw_zret (v := 0) (ty := .boolean) hE hr hlocks hP hS dX3_cls_99 (rfl) (⟨rfl, Or.inr ⟨4, by decide, rfl, by simp [clsf, bz, c_91]⟩⟩)
      · refine lv_iconst (v := 1) hx hb dX3_cls_94 (by decide) ?_
        refine lv_goto (tgt := 99) hx hb dX3_cls_95 (by decide) ?_
        exact mw_zret (v := 1) (ty := .boolean) hE hr hlocks hP hS dX3_cls_99 (rfl) (⟨rfl, Or.inr ⟨4, by decide, rfl, by simp [clsf, bz, c_91]⟩⟩)
    · subst ew_1
      refine lv_tableIn (off := (99)) (tgt := 100) hx hb dX3_cls_1 (by decide +kernel) (by decide +kernel) (by decide +kernel) (by decide) ?_
      refine lv_iload_n hx hb dX3_cls_100 rfl (lv_at hl 1 rfl) ?_
      refine lv_if_lt (tgt := 110) hx hb dX3_cls_101 (by decide) (fun c_101 => ?_) (fun c_101 => ?_)
      · refine lv_iload_n hx hb dX3_cls_110 rfl (lv_at hl 1 rfl) ?_
        refine lv_bipush (v := nI 127) hx hb dX3_cls_111 (by decide) ?_
        refine lv_icmp_ne (tgt := 120) hx hb dX3_cls_113 (by decide) (fun c_113 => ?_) (fun c_113 => ?_)
        · refine lv_iconst (v := 0) hx hb dX3_cls_120 (by decide) ?_
          exact mw_zret (v := 0) (ty := .boolean) hE hr hlocks hP hS dX3_cls_121 (rfl) (⟨rfl, Or.inr ⟨5, by decide, rfl, by simp [clsf, bz, c_101, c_113]⟩⟩)
        · refine lv_iconst (v := 1) hx hb dX3_cls_116 (by decide) ?_
          refine lv_goto (tgt := 121) hx hb dX3_cls_117 (by decide) ?_
          exact mw_zret (v := 1) (ty := .boolean) hE hr hlocks hP hS dX3_cls_121 (rfl) (⟨rfl, Or.inr ⟨5, by decide, rfl, by simp [clsf, bz, c_101, c_113]⟩⟩)
      · refine lv_iload_n hx hb dX3_cls_104 rfl (lv_at hl 1 rfl) ?_
        refine lv_bipush (v := nI 32) hx hb dX3_cls_105 (by decide) ?_
        refine lv_icmp_lt (tgt := 116) hx hb dX3_cls_107 (by decide) (fun c_107 => ?_) (fun c_107 => ?_)
        · refine lv_iconst (v := 1) hx hb dX3_cls_116 (by decide) ?_
          refine lv_goto (tgt := 121) hx hb dX3_cls_117 (by decide) ?_
          exact mw_zret (v := 1) (ty := .boolean) hE hr hlocks hP hS dX3_cls_121 (rfl) (⟨rfl, Or.inr ⟨5, by decide, rfl, by simp [clsf, bz, c_101, c_107]⟩⟩)
        · refine lv_iload_n hx hb dX3_cls_110 rfl (lv_at hl 1 rfl) ?_
          refine lv_bipush (v := nI 127) hx hb dX3_cls_111 (by decide) ?_
          refine lv_icmp_ne (tgt := 120) hx hb dX3_cls_113 (by decide) (fun c_113 => ?_) (fun c_113 => ?_)
          · refine lv_iconst (v := 0) hx hb dX3_cls_120 (by decide) ?_
            exact mw_zret (v := 0) (ty := .boolean) hE hr hlocks hP hS dX3_cls_121 (rfl) (⟨rfl, Or.inr ⟨5, by decide, rfl, by simp [clsf, bz, c_101, c_107, c_113]⟩⟩)
          · refine lv_iconst (v := 1) hx hb dX3_cls_116 (by decide) ?_
            refine lv_goto (tgt := 121) hx hb dX3_cls_117 (by decide) ?_
            exact mw_zret (v := 1) (ty := .boolean) hE hr hlocks hP hS dX3_cls_121 (rfl) (⟨rfl, Or.inr ⟨5, by decide, rfl, by simp [clsf, bz, c_101, c_107, c_113]⟩⟩)

set_option maxHeartbeats 4000000 in
set_option maxRecDepth 100000 in
theorem tX3_print (l : Launch) (D : va_G) (k : Nat → ClassId) (M : mw) (sz : Nat) (h : Nat → Nat) (b : Nat → Nat → Nat) (T : Nat → Nat × Nat) (n : Nat → Nat) (c9 : Nat → Nat → Nat → Int32) (g : Nat → Nat → Int32) (L : Nat → Nat) (X : Nat → Nat → Nat) (x y : Int32) (hR : cp_R k h b n c9 M) (hT : cp_T h b T n) (hn9 : mo_B n) (hs : sm n c9 g L X) : Met l yX3_print wsX3_print ({ frames := 1, cells := 0, slots := 0, locals := 20 }) (va_Pc [.ref (h 0), .int x, .int y] (mw_U D vwCl (TY k) M sz)) (va_Qi (fun r M1 => M1 = M ∧ R_print x y r) (mw_B D vwCl M sz) (mw_A M sz)) 0 0 (mw_A M sz) := by
  refine mw_met (cc := cX3_print) (maxL := 3) (ret := (some .byte)) (lv := [(0, .ref (h 0)), (1, .int x), (2, .int y)]) (by decide) rfl (Nat.le_of_ble_eq_true rfl) rfl ?_
  intro p e s m below meth c ls hE hr hlocks hin hml hsz hP hS hl
  subst hsz
  have hx := hE.1
  have hb := hE.2.1
  have hA : ∀ q, s.heap.size ≤ q → mw_A M s.heap.size q := fun q h => Or.inr h
  obtain ⟨hb0, hb1, hb2, hb3⟩ := id hn9
  obtain ⟨⟨f0, f1, f2, f3, f4⟩, fP, fO, fX⟩ := id hR
  obtain ⟨sP, sO, sX, sG, sL⟩ := id hs
  refine lv_iload_n hx hb dX3_print_0 rfl (lv_at hl 1 rfl) ?_
  refine mw_calli hP hS hA (va_runS (As := [.int x]) (rest := []) ⟨hx, hb, hml, hE.2.2.2.1, hE.2.2.1⟩ (tX3_isCode l D k _ _ x) (va_cwS 1 hE.2.2.1 gX3_print_X3_isCode rfl rfl rfl (by decide +kernel) ⟨(Nat.le_of_ble_eq_true rfl), (Nat.le_of_ble_eq_true rfl)⟩) (mw_preS hE hP [.int x]) rfl rfl hl.1 rfl (lv_room (Nat.le_of_ble_eq_true rfl)) dX3_print_1 ⟨(Nat.le_of_ble_eq_true rfl), (Nat.le_of_ble_eq_true rfl)⟩) (fun r_1 M1 H locs hw hP hS => ?_)
  obtain ⟨hM1, hw⟩ := hw
  rw [hM1] at hP
  rcases hw with ⟨hq_2, rfl⟩ | ⟨hq_2, rfl⟩
  · obtain ⟨j, hj, rfl⟩ := vp_in_of hq_2 (by omega)
    skip
    refine lv_if_ne (tgt := 9) hx hb dX3_print_4 (by decide) (fun _ => ?_) (fun c9 => absurd c9 (by decide))
    refine lv_iload_n hx hb dX3_print_9 rfl (lv_at hl 2 rfl) ?_
    rcases sw_cases y 3 (by decide) with hw_4 | ⟨jw_4, hjw_4, ew_4⟩
    · refine lv_tableOut (tgt := 62) hx hb dX3_print_10 (sw_out (by decide) hw_4) (by decide) ?_
      refine lv_iconst (v := 0) hx hb dX3_print_62 (by decide) ?_
      exact mw_zret (v := 0) (ty := .byte) hE hr hlocks hP hS dX3_print_63 (rfl) (⟨rfl, Or.inr ⟨j, hj, rfl, Or.inl ⟨hw_4, rfl⟩⟩⟩)
    · rcases (show jw_4 = 0 ∨ jw_4 = 1 ∨ jw_4 = 2 by omega) with rfl | rfl | rfl
      · subst ew_4
        refine lv_tableIn (off := (26)) (tgt := 36) hx hb dX3_print_10 (by decide +kernel) (by decide +kernel) (by decide +kernel) (by decide) ?_
        refine lv_iload_n hx hb dX3_print_36 rfl (lv_at hl 1 rfl) ?_
        refine lv_iconst (v := nI 4) hx hb dX3_print_37 (by decide) ?_
        refine lv_ishr hx hb dX3_print_38 ?_
        refine rw_i (v := nI (j / 16)) (pk_shrN (by omega) _ 4 (by decide)) ?_
        refine mw_calli hP hS hA (va_runS (As := [.int (nI (j / 16))]) (rest := []) ⟨hx, hb, hml, hE.2.2.2.1, hE.2.2.1⟩ (tX3_hexDigit l D k _ _ (j / 16) (by omega)) (va_cwS 1 hE.2.2.1 gX3_print_X3_hexDigit rfl rfl rfl (by decide +kernel) ⟨(Nat.le_of_ble_eq_true rfl), (Nat.le_of_ble_eq_true rfl)⟩) (mw_preS hE hP [.int (nI (j / 16))]) rfl rfl hl.1 rfl (lv_room (Nat.le_of_ble_eq_true rfl)) dX3_print_39 ⟨(Nat.le_of_ble_eq_true rfl), (Nat.le_of_ble_eq_true rfl)⟩) (fun r_5 M1 H locs hw hP hS => ?_)
        obtain ⟨hM1, rfl⟩ := hw
        rw [hM1] at hP
        refine lv_i2b (v := nI (hexn (j / 16))) hx hb dX3_print_42 (byte_ok (hexn_lt (by omega))) ?_
        exact mw_zret (v := nI (hexn (j / 16))) (ty := .byte) hE hr hlocks hP hS dX3_print_43 (byte_nar (hexn_lt (by omega))) (⟨rfl, Or.inr ⟨j, hj, rfl, Or.inr (Or.inl ⟨rfl, rfl⟩)⟩⟩)
      · subst ew_4
        refine lv_tableIn (off := (34)) (tgt := 44) hx hb dX3_print_10 (by decide +kernel) (by decide +kernel) (by decide +kernel) (by decide) ?_
        refine lv_iload_n hx hb dX3_print_44 rfl (lv_at hl 1 rfl) ?_
        refine lv_bipush (v := nI 15) hx hb dX3_print_45 (by decide) ?_
        refine lv_iand hx hb dX3_print_47 ?_
        refine rw_i (v := nI (j % 16)) (pk_andN (by omega) 4 (by decide)) ?_
        refine mw_calli hP hS hA (va_runS (As := [.int (nI (j % 16))]) (rest := []) ⟨hx, hb, hml, hE.2.2.2.1, hE.2.2.1⟩ (tX3_hexDigit l D k _ _ (j % 16) (by omega)) (va_cwS 1 hE.2.2.1 gX3_print_X3_hexDigit rfl rfl rfl (by decide +kernel) ⟨(Nat.le_of_ble_eq_true rfl), (Nat.le_of_ble_eq_true rfl)⟩) (mw_preS hE hP [.int (nI (j % 16))]) rfl rfl hl.1 rfl (lv_room (Nat.le_of_ble_eq_true rfl)) dX3_print_48 ⟨(Nat.le_of_ble_eq_true rfl), (Nat.le_of_ble_eq_true rfl)⟩) (fun r_6 M1 H locs hw hP hS => ?_)
        obtain ⟨hM1, rfl⟩ := hw
        rw [hM1] at hP
        refine lv_i2b (v := nI (hexn (j % 16))) hx hb dX3_print_51 (byte_ok (hexn_lt (by omega))) ?_
        exact mw_zret (v := nI (hexn (j % 16))) (ty := .byte) hE hr hlocks hP hS dX3_print_52 (byte_nar (hexn_lt (by omega))) (⟨rfl, Or.inr ⟨j, hj, rfl, Or.inr (Or.inr (Or.inl ⟨rfl, rfl⟩))⟩⟩)
      · subst ew_4
        refine lv_tableIn (off := (43)) (tgt := 53) hx hb dX3_print_10 (by decide +kernel) (by decide +kernel) (by decide +kernel) (by decide) ?_
        refine lv_iload_n hx hb dX3_print_53 rfl (lv_at hl 1 rfl) ?_
        refine lv_bipush (v := nI 15) hx hb dX3_print_54 (by decide) ?_
        refine lv_iand hx hb dX3_print_56 ?_
        refine rw_i (v := nI (j % 16)) (pk_andN (by omega) 4 (by decide)) ?_
        refine mw_calli hP hS hA (va_runS (As := [.int (nI (j % 16))]) (rest := []) ⟨hx, hb, hml, hE.2.2.2.1, hE.2.2.1⟩ (tX3_halfAsSign l D k _ _ (j % 16) (by omega)) (va_cwS 1 hE.2.2.1 gX3_print_X3_halfAsSign rfl rfl rfl (by decide +kernel) ⟨(Nat.le_of_ble_eq_true rfl), (Nat.le_of_ble_eq_true rfl)⟩) (mw_preS hE hP [.int (nI (j % 16))]) rfl rfl hl.1 rfl (lv_room (Nat.le_of_ble_eq_true rfl)) dX3_print_57 ⟨(Nat.le_of_ble_eq_true rfl), (Nat.le_of_ble_eq_true rfl)⟩) (fun r_7 M1 H locs hw hP hS => ?_)
        obtain ⟨hM1, rfl⟩ := hw
        rw [hM1] at hP
        refine lv_i2b (v := nI (sgnn (j % 16))) hx hb dX3_print_60 (byte_ok (sgnn_lt _)) ?_
        exact mw_zret (v := nI (sgnn (j % 16))) (ty := .byte) hE hr hlocks hP hS dX3_print_61 (byte_nar (sgnn_lt _)) (⟨rfl, Or.inr ⟨j, hj, rfl, Or.inr (Or.inr (Or.inr ⟨rfl, rfl⟩))⟩⟩)
  · skip
    refine lv_if_ne (tgt := 9) hx hb dX3_print_4 (by decide) (fun c9 => absurd (by decide) c9) (fun _ => ?_)
    refine lv_iconst (v := 0) hx hb dX3_print_7 (by decide) ?_
    exact mw_zret (v := 0) (ty := .byte) hE hr hlocks hP hS dX3_print_8 (rfl) (⟨rfl, Or.inl ⟨hq_2, rfl⟩⟩)
end
