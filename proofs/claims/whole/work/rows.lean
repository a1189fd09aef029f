section
-- ===== PART A: goes FIRST, ahead of the names: the tables' words, and 'selects' of the private methods out of them =====
/-- a private method of a class that the tables say can be made, by its rows of tables_1 -/
def lw_okq (q : MethodName × Nat) : Prop := (q.1.cls ≠ "java/lang/invoke/MethodHandle" ∧ q.1.cls ≠ "java/lang/invoke/VarHandle") ∧ Cond.instantiable q.1.cls q.2 ∈ tables_1 ∧ Cond.privateMethod q.1 ∈ tables_1 ∧ Cond.instanceMethod q.1 ∈ tables_1
theorem lw_p0 : lw_okq (⟨"CodePages", "pageAt", "(I)LCodePages$Page;"⟩, 8) := ⟨⟨by decide +kernel, by decide +kernel⟩, List.mem_of_getElem? (i := 13) (by decide +kernel), List.mem_of_getElem? (i := 81) (by decide +kernel), List.mem_of_getElem? (i := 82) (by decide +kernel)⟩
theorem lw_p1 : lw_okq (⟨"CodePages", "findOrEnlist", "(ILCodePages$Page;LCodePages$Page;)I"⟩, 8) := ⟨⟨by decide +kernel, by decide +kernel⟩, List.mem_of_getElem? (i := 13) (by decide +kernel), List.mem_of_getElem? (i := 104) (by decide +kernel), List.mem_of_getElem? (i := 105) (by decide +kernel)⟩
theorem lw_p2 : lw_okq (⟨"CodePages", "orderAt", "(I)LCodePages$Order;"⟩, 8) := ⟨⟨by decide +kernel, by decide +kernel⟩, List.mem_of_getElem? (i := 13) (by decide +kernel), List.mem_of_getElem? (i := 149) (by decide +kernel), List.mem_of_getElem? (i := 150) (by decide +kernel)⟩
theorem lw_p3 : lw_okq (⟨"CodePages", "textAt", "(I)LCodePages$Text;"⟩, 8) := ⟨⟨by decide +kernel, by decide +kernel⟩, List.mem_of_getElem? (i := 13) (by decide +kernel), List.mem_of_getElem? (i := 204) (by decide +kernel), List.mem_of_getElem? (i := 205) (by decide +kernel)⟩
theorem lw_p4 : lw_okq (⟨"java/lang/Throwable", "fillInStackTrace", "(I)Ljava/lang/Throwable;"⟩, 6) := ⟨⟨by decide +kernel, by decide +kernel⟩, List.mem_of_getElem? (i := 303) (by decide +kernel), List.mem_of_getElem? (i := 301) (by decide +kernel), List.mem_of_getElem? (i := 302) (by decide +kernel)⟩
theorem lw_p5 : lw_okq (⟨"CodePagesModel", "isPage", "(I)Z"⟩, 14) := ⟨⟨by decide +kernel, by decide +kernel⟩, List.mem_of_getElem? (i := 336) (by decide +kernel), List.mem_of_getElem? (i := 397) (by decide +kernel), List.mem_of_getElem? (i := 398) (by decide +kernel)⟩
theorem lw_p6 : lw_okq (⟨"CodePagesModel", "codeOf", "(II)I"⟩, 14) := ⟨⟨by decide +kernel, by decide +kernel⟩, List.mem_of_getElem? (i := 336) (by decide +kernel), List.mem_of_getElem? (i := 405) (by decide +kernel), List.mem_of_getElem? (i := 406) (by decide +kernel)⟩
theorem lw_p7 : lw_okq (⟨"CodePagesModel", "translated", "(III)I"⟩, 14) := ⟨⟨by decide +kernel, by decide +kernel⟩, List.mem_of_getElem? (i := 336) (by decide +kernel), List.mem_of_getElem? (i := 421) (by decide +kernel), List.mem_of_getElem? (i := 422) (by decide +kernel)⟩
theorem lw_p8 : lw_okq (⟨"CodePagesModel", "meant", "(I)I"⟩, 14) := ⟨⟨by decide +kernel, by decide +kernel⟩, List.mem_of_getElem? (i := 336) (by decide +kernel), List.mem_of_getElem? (i := 433) (by decide +kernel), List.mem_of_getElem? (i := 434) (by decide +kernel)⟩
theorem lw_p9 : lw_okq (⟨"CodePagesModel", "refusal", "(III)I"⟩, 14) := ⟨⟨by decide +kernel, by decide +kernel⟩, List.mem_of_getElem? (i := 336) (by decide +kernel), List.mem_of_getElem? (i := 441) (by decide +kernel), List.mem_of_getElem? (i := 442) (by decide +kernel)⟩
theorem lw_p10 : lw_okq (⟨"CodePagesModel", "isOrder", "(I)Z"⟩, 14) := ⟨⟨by decide +kernel, by decide +kernel⟩, List.mem_of_getElem? (i := 336) (by decide +kernel), List.mem_of_getElem? (i := 445) (by decide +kernel), List.mem_of_getElem? (i := 446) (by decide +kernel)⟩
theorem lw_p11 : lw_okq (⟨"CodePagesModel", "rankOf", "(II)I"⟩, 14) := ⟨⟨by decide +kernel, by decide +kernel⟩, List.mem_of_getElem? (i := 336) (by decide +kernel), List.mem_of_getElem? (i := 457) (by decide +kernel), List.mem_of_getElem? (i := 458) (by decide +kernel)⟩
theorem lw_p12 : lw_okq (⟨"CodePagesModel", "isText", "(I)Z"⟩, 14) := ⟨⟨by decide +kernel, by decide +kernel⟩, List.mem_of_getElem? (i := 336) (by decide +kernel), List.mem_of_getElem? (i := 473) (by decide +kernel), List.mem_of_getElem? (i := 474) (by decide +kernel)⟩
theorem lw_p13 : lw_okq (⟨"CodePagesModel", "readAt", "(II)I"⟩, 14) := ⟨⟨by decide +kernel, by decide +kernel⟩, List.mem_of_getElem? (i := 336) (by decide +kernel), List.mem_of_getElem? (i := 489) (by decide +kernel), List.mem_of_getElem? (i := 490) (by decide +kernel)⟩
def lw_privs_1 : List (MethodName × Nat) := [(⟨"CodePages", "pageAt", "(I)LCodePages$Page;"⟩, 8), (⟨"CodePages", "findOrEnlist", "(ILCodePages$Page;LCodePages$Page;)I"⟩, 8), (⟨"CodePages", "orderAt", "(I)LCodePages$Order;"⟩, 8), (⟨"CodePages", "textAt", "(I)LCodePages$Text;"⟩, 8), (⟨"java/lang/Throwable", "fillInStackTrace", "(I)Ljava/lang/Throwable;"⟩, 6), (⟨"CodePagesModel", "isPage", "(I)Z"⟩, 14), (⟨"CodePagesModel", "codeOf", "(II)I"⟩, 14), (⟨"CodePagesModel", "translated", "(III)I"⟩, 14), (⟨"CodePagesModel", "meant", "(I)I"⟩, 14), (⟨"CodePagesModel", "refusal", "(III)I"⟩, 14), (⟨"CodePagesModel", "isOrder", "(I)Z"⟩, 14), (⟨"CodePagesModel", "rankOf", "(II)I"⟩, 14), (⟨"CodePagesModel", "isText", "(I)Z"⟩, 14), (⟨"CodePagesModel", "readAt", "(II)I"⟩, 14)]
theorem lw_r1 : ∀ q ∈ lw_privs_1, lw_okq q := List.forall_mem_cons.mpr ⟨lw_p0, List.forall_mem_cons.mpr ⟨lw_p1, List.forall_mem_cons.mpr ⟨lw_p2, List.forall_mem_cons.mpr ⟨lw_p3, List.forall_mem_cons.mpr ⟨lw_p4, List.forall_mem_cons.mpr ⟨lw_p5, List.forall_mem_cons.mpr ⟨lw_p6, List.forall_mem_cons.mpr ⟨lw_p7, List.forall_mem_cons.mpr ⟨lw_p8, List.forall_mem_cons.mpr ⟨lw_p9, List.forall_mem_cons.mpr ⟨lw_p10, List.forall_mem_cons.mpr ⟨lw_p11, List.forall_mem_cons.mpr ⟨lw_p12, List.forall_mem_cons.mpr ⟨lw_p13, fun _ h => absurd h List.not_mem_nil⟩⟩⟩⟩⟩⟩⟩⟩⟩⟩⟩⟩⟩⟩
def lw_privs : List (MethodName × Nat) := lw_privs_1
def lw_tbl : List Cond := k2_sels lw_privs ++ tables_1
theorem lw_privs_ok : ∀ q ∈ lw_privs, lw_okq q := lw_r1
end
section
/-! ===== BEGIN words of one list among another's, by their places ===== -/
theorem goodIn_r {big : List Cond} (ws : List Cond) (ps : List Nat) (hp : ws = ps.filterMap (fun i => big[i]?)) (h : ws.all goodWord = true) : GoodIn big ws := by
  intro w hw
  have h1 := List.all_eq_true.mp h w hw
  rw [hp] at hw
  obtain ⟨i, -, hi⟩ := List.mem_filterMap.mp hw
  have hm : w ∈ big := by first | exact List.mem_of_getElem? hi | exact List.getElem?_mem hi
  exact ⟨hm, good_of_word h1⟩
theorem goodIn_app {big a b : List Cond} (ha : GoodIn big a) (hb : GoodIn big b) : GoodIn big (a ++ b) := fun w h => (List.mem_append.mp h).elim (ha w) (hb w)
theorem goodIn_ca {big a b : List Cond} {c : Cond} (ha : GoodIn big (c :: a)) (hb : GoodIn big b) : GoodIn big (c :: (a ++ b)) := fun w h => (List.mem_cons.mp h).elim (fun e => ha w (List.mem_cons.mpr (Or.inl e))) (fun h => (List.mem_append.mp h).elim (fun h => ha w (List.mem_cons.mpr (Or.inr h))) (hb w))
theorem goodIn_sub {big ws : List Cond} (hm : ∀ w ∈ ws, w ∈ big) (h : ws.all goodWord = true) : GoodIn big ws := fun w hw => ⟨hm w hw, good_of_word (List.all_eq_true.mp h w hw)⟩
/-! ===== END ===== -/

/-! ===== BEGIN printed: names, fields, word lists, decode rows ===== -/
def RX0 : String := "CodePages$Order"
def TX0 : u_T := fun k => match k with
  | 0 => ("CodePages$Order", "alphabet", "Z", true)
  | 1 => ("CodePages$Order", "ranks", "[I", true)
  | 2 => ("CodePages$Order", "inside", "[Z", true)
  | _ => ("CodePages$Order", "nextRank", "I", false)
def tyX0 : Nat → FieldType := fun k => match k with
  | 0 => .boolean
  | 1 => .array .int
  | 2 => .array .boolean
  | _ => .int
abbrev wsX00 : List Cond := u_ws RX0 TX0 4
theorem nmX0 : ∀ a, a < 4 → ∀ b, b < 4 → a ≠ b → (TX0 a).2.1 ≠ (TX0 b).2.1 := by decide +kernel
theorem tyX0_ok : ∀ k, k < 4 → parseFieldDescriptor (TX0 k).2.2.1 = some (tyX0 k) := by decide +kernel
abbrev cX0_init : ByteArray := prog_2_method_1_code
def yX0_init : MethodName := ⟨RX0, "<init>", "(Z)V"⟩
abbrev cX0_rankBy : ByteArray := prog_2_method_2_code
def yX0_rankBy : MethodName := ⟨RX0, "rankBy", "([I)V"⟩
abbrev cX0_sortKey : ByteArray := prog_2_method_3_code
def yX0_sortKey : MethodName := ⟨RX0, "sortKey", "([II)I"⟩
abbrev cX0_addEqual : ByteArray := prog_2_method_4_code
def yX0_addEqual : MethodName := ⟨RX0, "addEqual", "(II)Z"⟩
abbrev cX0_addRange : ByteArray := prog_2_method_5_code
def yX0_addRange : MethodName := ⟨RX0, "addRange", "(II)Z"⟩
abbrev cX0_rankThoseOutside : ByteArray := prog_2_method_6_code
def yX0_rankThoseOutside : MethodName := ⟨RX0, "rankThoseOutside", "()V"⟩
abbrev cX0_lastCode : ByteArray := prog_2_method_7_code
def yX0_lastCode : MethodName := ⟨RX0, "lastCode", "()I"⟩
def RX1 : String := "CodePages$Page"
def TX1 : u_T := fun k => match k with
  | 0 => ("CodePages$Page", "meanings", "[I", true)
  | _ => ("CodePages$Page", "substitute", "I", false)
def tyX1 : Nat → FieldType := fun k => match k with
  | 0 => .array .int
  | _ => .int
abbrev wsX10 : List Cond := u_ws RX1 TX1 2
theorem nmX1 : ∀ a, a < 2 → ∀ b, b < 2 → a ≠ b → (TX1 a).2.1 ≠ (TX1 b).2.1 := by decide +kernel
theorem tyX1_ok : ∀ k, k < 2 → parseFieldDescriptor (TX1 k).2.2.1 = some (tyX1 k) := by decide +kernel
abbrev cX1_init : ByteArray := prog_3_method_1_code
def yX1_init : MethodName := ⟨RX1, "<init>", "(I)V"⟩
abbrev cX1_firstMeaning : ByteArray := prog_3_method_2_code
def yX1_firstMeaning : MethodName := ⟨RX1, "firstMeaning", "(II)I"⟩
abbrev cX1_codeThatMeans : ByteArray := prog_3_method_3_code
def yX1_codeThatMeans : MethodName := ⟨RX1, "codeThatMeans", "(I)I"⟩
def RX2 : String := "CodePages$Text"
def TX2 : u_T := fun k => match k with
  | 0 => ("CodePages$Text", "codes", "[I", true)
  | _ => ("CodePages$Text", "size", "I", false)
def tyX2 : Nat → FieldType := fun k => match k with
  | 0 => .array .int
  | _ => .int
abbrev wsX20 : List Cond := u_ws RX2 TX2 2
theorem nmX2 : ∀ a, a < 2 → ∀ b, b < 2 → a ≠ b → (TX2 a).2.1 ≠ (TX2 b).2.1 := by decide +kernel
theorem tyX2_ok : ∀ k, k < 2 → parseFieldDescriptor (TX2 k).2.2.1 = some (tyX2 k) := by decide +kernel
abbrev cX2_init : ByteArray := prog_4_method_1_code
def yX2_init : MethodName := ⟨RX2, "<init>", "()V"⟩
abbrev cX2_codeOrBlank : ByteArray := prog_4_method_2_code
def yX2_codeOrBlank : MethodName := ⟨RX2, "codeOrBlank", "(I)I"⟩
def RX3 : String := "CodePages"
def TX3 : u_T := fun k => match k with
  | 0 => ("CodePages", "pages", "[LCodePages$Page;", true)
  | 1 => ("CodePages", "orders", "[LCodePages$Order;", true)
  | 2 => ("CodePages", "texts", "[LCodePages$Text;", true)
  | 3 => ("CodePages", "listed", "[I", true)
  | 4 => ("CodePages", "pageCount", "I", false)
  | 5 => ("CodePages", "orderCount", "I", false)
  | 6 => ("CodePages", "textCount", "I", false)
  | _ => ("CodePages", "listedCount", "I", false)
def tyX3 : Nat → FieldType := fun k => match k with
  | 0 => .array (.object "CodePages$Page")
  | 1 => .array (.object "CodePages$Order")
  | 2 => .array (.object "CodePages$Text")
  | 3 => .array .int
  | 4 => .int
  | 5 => .int
  | 6 => .int
  | _ => .int
abbrev wsX30 : List Cond := u_ws RX3 TX3 8
theorem nmX3 : ∀ a, a < 8 → ∀ b, b < 8 → a ≠ b → (TX3 a).2.1 ≠ (TX3 b).2.1 := by decide +kernel
theorem tyX3_ok : ∀ k, k < 8 → parseFieldDescriptor (TX3 k).2.2.1 = some (tyX3 k) := by decide +kernel
abbrev cX3_init : ByteArray := prog_1_method_1_code
def yX3_init : MethodName := ⟨RX3, "<init>", "()V"⟩
abbrev cX3_page : ByteArray := prog_1_method_2_code
def yX3_page : MethodName := ⟨RX3, "page", "(I)I"⟩
abbrev cX3_set : ByteArray := prog_1_method_3_code
def yX3_set : MethodName := ⟨RX3, "set", "(III)I"⟩
abbrev cX3_row : ByteArray := prog_1_method_4_code
def yX3_row : MethodName := ⟨RX3, "row", "(II)I"⟩
abbrev cX3_standIn : ByteArray := prog_1_method_5_code
def yX3_standIn : MethodName := ⟨RX3, "standIn", "(II)I"⟩
abbrev cX3_translate : ByteArray := prog_1_method_6_code
def yX3_translate : MethodName := ⟨RX3, "translate", "(III)I"⟩
abbrev cX3_told : ByteArray := prog_1_method_7_code
def yX3_told : MethodName := ⟨RX3, "told", "(I)I"⟩
abbrev cX3_order : ByteArray := prog_1_method_8_code
def yX3_order : MethodName := ⟨RX3, "order", "(I)I"⟩
abbrev cX3_also : ByteArray := prog_1_method_9_code
def yX3_also : MethodName := ⟨RX3, "also", "(III)I"⟩
abbrev cX3_through : ByteArray := prog_1_method_10_code
def yX3_through : MethodName := ⟨RX3, "through", "(III)I"⟩
abbrev cX3_text : ByteArray := prog_1_method_11_code
def yX3_text : MethodName := ⟨RX3, "text", "()I"⟩
abbrev cX3_sign : ByteArray := prog_1_method_12_code
def yX3_sign : MethodName := ⟨RX3, "sign", "(II)I"⟩
abbrev cX3_whole : ByteArray := prog_1_method_13_code
def yX3_whole : MethodName := ⟨RX3, "whole", "(III)I"⟩
abbrev cX3_at : ByteArray := prog_1_method_14_code
def yX3_at : MethodName := ⟨RX3, "at", "(II)I"⟩
abbrev cX3_compare : ByteArray := prog_1_method_15_code
def yX3_compare : MethodName := ⟨RX3, "compare", "(III)I"⟩
abbrev cX3_cls : ByteArray := prog_1_method_16_code
def yX3_cls : MethodName := ⟨RX3, "cls", "(II)Z"⟩
abbrev cX3_print : ByteArray := prog_1_method_17_code
def yX3_print : MethodName := ⟨RX3, "print", "(II)B"⟩
abbrev cX3_high : ByteArray := prog_1_method_18_code
def yX3_high : MethodName := ⟨RX3, "high", "(I)I"⟩
abbrev cX3_rank : ByteArray := prog_1_method_19_code
def yX3_rank : MethodName := ⟨RX3, "rank", "(II)I"⟩
abbrev cX3_isCode : ByteArray := prog_1_method_20_code
def yX3_isCode : MethodName := ⟨RX3, "isCode", "(I)Z"⟩
abbrev cX3_isMeaningOrNone : ByteArray := prog_1_method_21_code
def yX3_isMeaningOrNone : MethodName := ⟨RX3, "isMeaningOrNone", "(I)Z"⟩
abbrev cX3_isKind : ByteArray := prog_1_method_22_code
def yX3_isKind : MethodName := ⟨RX3, "isKind", "(I)Z"⟩
abbrev cX3_pageAt : ByteArray := prog_1_method_23_code
def yX3_pageAt : MethodName := ⟨RX3, "pageAt", "(I)LCodePages$Page;"⟩
abbrev cX3_orderAt : ByteArray := prog_1_method_24_code
def yX3_orderAt : MethodName := ⟨RX3, "orderAt", "(I)LCodePages$Order;"⟩
abbrev cX3_textAt : ByteArray := prog_1_method_25_code
def yX3_textAt : MethodName := ⟨RX3, "textAt", "(I)LCodePages$Text;"⟩
abbrev cX3_findOrEnlist : ByteArray := prog_1_method_26_code
def yX3_findOrEnlist : MethodName := ⟨RX3, "findOrEnlist", "(ILCodePages$Page;LCodePages$Page;)I"⟩
abbrev cX3_alphabetRefusal : ByteArray := prog_1_method_27_code
def yX3_alphabetRefusal : MethodName := ⟨RX3, "alphabetRefusal", "(ZII)I"⟩
abbrev cX3_isGreatLetter : ByteArray := prog_1_method_28_code
def yX3_isGreatLetter : MethodName := ⟨RX3, "isGreatLetter", "(I)Z"⟩
abbrev cX3_isSmallLetter : ByteArray := prog_1_method_29_code
def yX3_isSmallLetter : MethodName := ⟨RX3, "isSmallLetter", "(I)Z"⟩
abbrev cX3_hexDigit : ByteArray := prog_1_method_30_code
def yX3_hexDigit : MethodName := ⟨RX3, "hexDigit", "(I)I"⟩
abbrev cX3_halfAsSign : ByteArray := prog_1_method_31_code
def yX3_halfAsSign : MethodName := ⟨RX3, "halfAsSign", "(I)I"⟩
def RX4 : String := "CodePagesModel"
def TX4 : u_T := fun k => match k with
  | 0 => ("CodePagesModel", "code", "I", false)
  | 1 => ("CodePagesModel", "means", "[I", true)
  | 2 => ("CodePagesModel", "standIns", "[I", true)
  | 3 => ("CodePagesModel", "pages", "I", false)
  | 4 => ("CodePagesModel", "kinds", "[I", true)
  | 5 => ("CodePagesModel", "ranks", "[I", true)
  | 6 => ("CodePagesModel", "next", "[I", true)
  | 7 => ("CodePagesModel", "orders", "I", false)
  | 8 => ("CodePagesModel", "texts", "[I", true)
  | 9 => ("CodePagesModel", "lengths", "[I", true)
  | 10 => ("CodePagesModel", "many", "I", false)
  | 11 => ("CodePagesModel", "listed", "[I", true)
  | 12 => ("CodePagesModel", "list", "I", false)
  | _ => ("CodePagesModel", "count", "I", false)
def tyX4 : Nat → FieldType := fun k => match k with
  | 0 => .int
  | 1 => .array .int
  | 2 => .array .int
  | 3 => .int
  | 4 => .array .int
  | 5 => .array .int
  | 6 => .array .int
  | 7 => .int
  | 8 => .array .int
  | 9 => .array .int
  | 10 => .int
  | 11 => .array .int
  | 12 => .int
  | _ => .int
abbrev wsX40 : List Cond := u_ws RX4 TX4 14
theorem nmX4 : ∀ a, a < 14 → ∀ b, b < 14 → a ≠ b → (TX4 a).2.1 ≠ (TX4 b).2.1 := by decide +kernel
theorem tyX4_ok : ∀ k, k < 14 → parseFieldDescriptor (TX4 k).2.2.1 = some (tyX4 k) := by decide +kernel
abbrev cX4_init : ByteArray := prog_6_method_1_code
def yX4_init : MethodName := ⟨RX4, "<init>", "()V"⟩
abbrev cX4_thrown : ByteArray := prog_6_method_2_code
def yX4_thrown : MethodName := ⟨RX4, "thrown", "()I"⟩
abbrev cX4_isCode : ByteArray := prog_6_method_3_code
def yX4_isCode : MethodName := ⟨RX4, "isCode", "(I)Z"⟩
abbrev cX4_isPage : ByteArray := prog_6_method_4_code
def yX4_isPage : MethodName := ⟨RX4, "isPage", "(I)Z"⟩
abbrev cX4_isOrder : ByteArray := prog_6_method_5_code
def yX4_isOrder : MethodName := ⟨RX4, "isOrder", "(I)Z"⟩
abbrev cX4_isText : ByteArray := prog_6_method_6_code
def yX4_isText : MethodName := ⟨RX4, "isText", "(I)Z"⟩
abbrev cX4_page : ByteArray := prog_6_method_7_code
def yX4_page : MethodName := ⟨RX4, "page", "(I)I"⟩
abbrev cX4_codeOf : ByteArray := prog_6_method_8_code
def yX4_codeOf : MethodName := ⟨RX4, "codeOf", "(II)I"⟩
abbrev cX4_set : ByteArray := prog_6_method_9_code
def yX4_set : MethodName := ⟨RX4, "set", "(III)I"⟩
abbrev cX4_row : ByteArray := prog_6_method_10_code
def yX4_row : MethodName := ⟨RX4, "row", "(II)I"⟩
abbrev cX4_standIn : ByteArray := prog_6_method_11_code
def yX4_standIn : MethodName := ⟨RX4, "standIn", "(II)I"⟩
abbrev cX4_translated : ByteArray := prog_6_method_12_code
def yX4_translated : MethodName := ⟨RX4, "translated", "(III)I"⟩
abbrev cX4_translate : ByteArray := prog_6_method_13_code
def yX4_translate : MethodName := ⟨RX4, "translate", "(III)I"⟩
abbrev cX4_told : ByteArray := prog_6_method_14_code
def yX4_told : MethodName := ⟨RX4, "told", "(I)I"⟩
abbrev cX4_order : ByteArray := prog_6_method_15_code
def yX4_order : MethodName := ⟨RX4, "order", "(I)I"⟩
abbrev cX4_meant : ByteArray := prog_6_method_16_code
def yX4_meant : MethodName := ⟨RX4, "meant", "(I)I"⟩
abbrev cX4_rankOf : ByteArray := prog_6_method_17_code
def yX4_rankOf : MethodName := ⟨RX4, "rankOf", "(II)I"⟩
abbrev cX4_refusal : ByteArray := prog_6_method_18_code
def yX4_refusal : MethodName := ⟨RX4, "refusal", "(III)I"⟩
abbrev cX4_also : ByteArray := prog_6_method_19_code
def yX4_also : MethodName := ⟨RX4, "also", "(III)I"⟩
abbrev cX4_through : ByteArray := prog_6_method_20_code
def yX4_through : MethodName := ⟨RX4, "through", "(III)I"⟩
abbrev cX4_rank : ByteArray := prog_6_method_21_code
def yX4_rank : MethodName := ⟨RX4, "rank", "(II)I"⟩
abbrev cX4_high : ByteArray := prog_6_method_22_code
def yX4_high : MethodName := ⟨RX4, "high", "(I)I"⟩
abbrev cX4_text : ByteArray := prog_6_method_23_code
def yX4_text : MethodName := ⟨RX4, "text", "()I"⟩
abbrev cX4_sign : ByteArray := prog_6_method_24_code
def yX4_sign : MethodName := ⟨RX4, "sign", "(II)I"⟩
abbrev cX4_whole : ByteArray := prog_6_method_25_code
def yX4_whole : MethodName := ⟨RX4, "whole", "(III)I"⟩
abbrev cX4_at : ByteArray := prog_6_method_26_code
def yX4_at : MethodName := ⟨RX4, "at", "(II)I"⟩
abbrev cX4_readAt : ByteArray := prog_6_method_27_code
def yX4_readAt : MethodName := ⟨RX4, "readAt", "(II)I"⟩
abbrev cX4_compare : ByteArray := prog_6_method_28_code
def yX4_compare : MethodName := ⟨RX4, "compare", "(III)I"⟩
abbrev cX4_cls : ByteArray := prog_6_method_29_code
def yX4_cls : MethodName := ⟨RX4, "cls", "(II)Z"⟩
abbrev cX4_half : ByteArray := prog_6_method_30_code
def yX4_half : MethodName := ⟨RX4, "half", "(I)B"⟩
abbrev cX4_print : ByteArray := prog_6_method_31_code
def yX4_print : MethodName := ⟨RX4, "print", "(II)B"⟩
def RJx00060 : String := "java/lang/ArrayIndexOutOfBoundsException"
def TJx00060 : u_T := fun k => match k with
  | 0 => ("java/lang/Throwable", "cause", "Ljava/lang/Throwable;", false)
  | 1 => ("java/lang/Throwable", "stackTrace", "[Ljava/lang/StackTraceElement;", false)
  | 2 => ("java/lang/Throwable", "suppressedExceptions", "Ljava/util/List;", false)
  | 3 => ("java/lang/Throwable", "detailMessage", "Ljava/lang/String;", false)
  | 4 => ("java/lang/Throwable", "backtrace", "Ljava/lang/Object;", false)
  | _ => ("java/lang/Throwable", "depth", "I", false)
def tyJx00060 : Nat → FieldType := fun k => match k with
  | 0 => .object "java/lang/Throwable"
  | 1 => .array (.object "java/lang/StackTraceElement")
  | 2 => .object "java/util/List"
  | 3 => .object "java/lang/String"
  | 4 => .object "java/lang/Object"
  | _ => .int
abbrev wsJx000600 : List Cond := u_ws RJx00060 TJx00060 6
theorem nmJx00060 : ∀ a, a < 6 → ∀ b, b < 6 → a ≠ b → (TJx00060 a).2.1 ≠ (TJx00060 b).2.1 := by decide +kernel
theorem tyJx00060_ok : ∀ k, k < 6 → parseFieldDescriptor (TJx00060 k).2.2.1 = some (tyJx00060 k) := by decide +kernel
abbrev cJx00060_init_a7421 : ByteArray := prog_7_method_2_code
def yJx00060_init_a7421 : MethodName := ⟨RJx00060, "<init>", "(Ljava/lang/String;)V"⟩
def RJ9 : String := "java/lang/Math"
def TJ9 : u_T := fun k => match k with
  | _ => ("", "", "", false)
def tyJ9 : Nat → FieldType := fun k => match k with
  | _ => .int
abbrev wsJ90 : List Cond := u_ws RJ9 TJ9 0
theorem nmJ9 : ∀ a, a < 0 → ∀ b, b < 0 → a ≠ b → (TJ9 a).2.1 ≠ (TJ9 b).2.1 := by decide +kernel
theorem tyJ9_ok : ∀ k, k < 0 → parseFieldDescriptor (TJ9 k).2.2.1 = some (tyJ9 k) := by decide +kernel
abbrev cJ9_abs_0f7a4 : ByteArray := prog_10_method_59_code
def yJ9_abs_0f7a4 : MethodName := ⟨RJ9, "abs", "(I)I"⟩
abbrev cJ9_max_7cf53 : ByteArray := prog_10_method_65_code
def yJ9_max_7cf53 : MethodName := ⟨RJ9, "max", "(II)I"⟩
abbrev cJ9_min_7cf53 : ByteArray := prog_10_method_69_code
def yJ9_min_7cf53 : MethodName := ⟨RJ9, "min", "(II)I"⟩
def RJ0 : String := "java/lang/String"
def TJ0 : u_T := fun k => match k with
  | _ => ("", "", "", false)
def tyJ0 : Nat → FieldType := fun k => match k with
  | _ => .int
abbrev wsJ00 : List Cond := u_ws RJ0 TJ0 0
theorem nmJ0 : ∀ a, a < 0 → ∀ b, b < 0 → a ≠ b → (TJ0 a).2.1 ≠ (TJ0 b).2.1 := by decide +kernel
theorem tyJ0_ok : ∀ k, k < 0 → parseFieldDescriptor (TJ0 k).2.2.1 = some (tyJ0 k) := by decide +kernel
def RL : String := "CodePagesLaw"
abbrev cL_row : ByteArray := method_3_code
def yL_row : MethodName := ⟨RL, "row", "(LCodePages;II[J)I"⟩
abbrev cL_law : ByteArray := code
def yL_law : MethodName := ⟨RL, "law", "([I)Z"⟩
def wsX0_init : List Cond := .code yX0_init cX0_init 3 none :: ([.methodLink RX0 3 objectInit, .instanceMethod objectInit, .code objectInit ⟨#[0xb1]⟩ 1 none, .arrayClass .int, .fieldLink RX0 9 "CodePages$Order" "ranks" "[I", .arrayClass .boolean, .fieldLink RX0 15 "CodePages$Order" "inside" "[Z", .fieldLink RX0 19 "CodePages$Order" "nextRank" "I", .fieldLink RX0 23 "CodePages$Order" "alphabet" "Z"] ++ wsX00)
def wsX0_sortKey : List Cond := .code yX0_sortKey cX0_sortKey 2 (some .int) :: ([.constant RX0 31 (65536)])
def wsX0_rankBy : List Cond := .code yX0_rankBy cX0_rankBy 5 none :: ([.arrayClass .int, .fieldLink RX0 9 "CodePages$Order" "ranks" "[I", .methodLink RX0 27 yX0_sortKey, .static yX0_sortKey, .initialized RX0, .code yX0_sortKey cX0_sortKey 2 (some .int), .constant RX0 31 (65536)] ++ wsX00)
def wsX0_rankThoseOutside : List Cond := .code yX0_rankThoseOutside cX0_rankThoseOutside 3 none :: ([.fieldLink RX0 19 "CodePages$Order" "nextRank" "I", .fieldLink RX0 15 "CodePages$Order" "inside" "[Z", .fieldLink RX0 9 "CodePages$Order" "ranks" "[I"] ++ wsX00)
def wsX0_addEqual : List Cond := .code yX0_addEqual cX0_addEqual 3 (some .boolean) :: ([.fieldLink RX0 15 "CodePages$Order" "inside" "[Z", .fieldLink RX0 9 "CodePages$Order" "ranks" "[I", .methodLink RX0 32 yX0_rankThoseOutside, .instanceMethod yX0_rankThoseOutside, .selects RX0 yX0_rankThoseOutside yX0_rankThoseOutside, .initialized RX0, .code yX0_rankThoseOutside cX0_rankThoseOutside 3 none, .fieldLink RX0 19 "CodePages$Order" "nextRank" "I"] ++ wsX00)
def wsX0_addRange : List Cond := .code yX0_addRange cX0_addRange 6 (some .boolean) :: ([.methodLink RX0 35 Lib.Math.min.name, .static Lib.Math.min.name, .initialized "java/lang/Math", .code Lib.Math.min.name Lib.Math.min.code 2 (some .int), .methodLink RX0 41 Lib.Math.max.name, .static Lib.Math.max.name, .code Lib.Math.max.name Lib.Math.max.code 2 (some .int), .fieldLink RX0 15 "CodePages$Order" "inside" "[Z", .fieldLink RX0 9 "CodePages$Order" "ranks" "[I", .fieldLink RX0 19 "CodePages$Order" "nextRank" "I", .methodLink RX0 44 Lib.Math.abs.name, .static Lib.Math.abs.name, .code Lib.Math.abs.name Lib.Math.abs.code 1 (some .int), .methodLink RX0 32 yX0_rankThoseOutside, .instanceMethod yX0_rankThoseOutside, .selects RX0 yX0_rankThoseOutside yX0_rankThoseOutside, .initialized RX0, .code yX0_rankThoseOutside cX0_rankThoseOutside 3 none] ++ wsX00)
def wsX0_lastCode : List Cond := .code yX0_lastCode cX0_lastCode 3 (some .int) :: ([.fieldLink RX0 9 "CodePages$Order" "ranks" "[I"] ++ wsX00)
def wsX1_firstMeaning : List Cond := .code yX1_firstMeaning cX1_firstMeaning 2 (some .int) :: ([])
def wsX1_init : List Cond := .code yX1_init cX1_init 3 none :: ([.methodLink RX1 3 objectInit, .instanceMethod objectInit, .code objectInit ⟨#[0xb1]⟩ 1 none, .arrayClass .int, .fieldLink RX1 9 "CodePages$Page" "meanings" "[I", .fieldLink RX1 15 "CodePages$Page" "substitute" "I", .methodLink RX1 19 yX1_firstMeaning, .static yX1_firstMeaning, .initialized RX1, .code yX1_firstMeaning cX1_firstMeaning 2 (some .int)] ++ wsX10)
def wsX1_codeThatMeans : List Cond := .code yX1_codeThatMeans cX1_codeThatMeans 3 (some .int) :: ([.fieldLink RX1 9 "CodePages$Page" "meanings" "[I"] ++ wsX10)
def wsX2_init : List Cond := .code yX2_init cX2_init 1 none :: ([.methodLink RX2 3 objectInit, .instanceMethod objectInit, .code objectInit ⟨#[0xb1]⟩ 1 none, .arrayClass .int, .fieldLink RX2 9 "CodePages$Text" "codes" "[I", .fieldLink RX2 15 "CodePages$Text" "size" "I"] ++ wsX20)
def wsX2_codeOrBlank : List Cond := .code yX2_codeOrBlank cX2_codeOrBlank 2 (some .int) :: ([.fieldLink RX2 15 "CodePages$Text" "size" "I", .fieldLink RX2 9 "CodePages$Text" "codes" "[I"] ++ wsX20)
def wsX3_init : List Cond := .code yX3_init cX3_init 1 none :: ([.methodLink RX3 1 objectInit, .instanceMethod objectInit, .code objectInit ⟨#[0xb1]⟩ 1 none, .classLink RX3 9 RX1, .fieldLink RX3 11 "CodePages" "pages" "[LCodePages$Page;", .classLink RX3 15 RX0, .fieldLink RX3 17 "CodePages" "orders" "[LCodePages$Order;", .classLink RX3 21 RX2, .fieldLink RX3 23 "CodePages" "texts" "[LCodePages$Text;", .arrayClass .int, .fieldLink RX3 27 "CodePages" "listed" "[I", .fieldLink RX3 31 "CodePages" "pageCount" "I", .fieldLink RX3 35 "CodePages" "orderCount" "I", .fieldLink RX3 38 "CodePages" "textCount" "I", .fieldLink RX3 41 "CodePages" "listedCount" "I"] ++ wsX30)
def wsX3_isKind : List Cond := .code yX3_isKind cX3_isKind 1 (some .boolean) :: ([])
def wsX3_page : List Cond := .code yX3_page cX3_page 2 (some .int) :: ([.fieldLink RX3 31 "CodePages" "pageCount" "I", .fieldLink RX3 11 "CodePages" "pages" "[LCodePages$Page;", .classLink RX3 9 RX1, .instantiable RX1 2, .initialized RX1, .methodLink RX3 44 yX3_isKind, .static yX3_isKind, .initialized RX3, .code yX3_isKind cX3_isKind 1 (some .boolean), .methodLink RX3 48 yX1_init, .instanceMethod yX1_init, .code yX1_init cX1_init 3 none, .methodLink RX1 3 objectInit, .instanceMethod objectInit, .code objectInit ⟨#[0xb1]⟩ 1 none, .arrayClass .int, .fieldLink RX1 9 "CodePages$Page" "meanings" "[I", .fieldLink RX1 15 "CodePages$Page" "substitute" "I", .methodLink RX1 19 yX1_firstMeaning, .static yX1_firstMeaning, .code yX1_firstMeaning cX1_firstMeaning 2 (some .int)] ++ wsX30 ++ wsX10)
def wsX3_pageAt : List Cond := .code yX3_pageAt cX3_pageAt 2 (some (.object "CodePages$Page")) :: ([.fieldLink RX3 11 "CodePages" "pages" "[LCodePages$Page;"] ++ wsX30)
def wsX3_isCode : List Cond := .code yX3_isCode cX3_isCode 1 (some .boolean) :: ([])
def wsX3_isMeaningOrNone : List Cond := .code yX3_isMeaningOrNone cX3_isMeaningOrNone 1 (some .boolean) :: ([.constant RX3 150 (65536)])
def wsX3_set : List Cond := .code yX3_set cX3_set 6 (some .int) :: ([.fieldLink RX3 65 "CodePages$Page" "meanings" "[I", .methodLink RX3 51 yX3_pageAt, .instanceMethod yX3_pageAt, .selects RX3 yX3_pageAt yX3_pageAt, .initialized RX3, .code yX3_pageAt cX3_pageAt 2 (some (.object "CodePages$Page")), .fieldLink RX3 11 "CodePages" "pages" "[LCodePages$Page;", .methodLink RX3 55 yX3_isCode, .static yX3_isCode, .code yX3_isCode cX3_isCode 1 (some .boolean), .methodLink RX3 58 yX3_isMeaningOrNone, .static yX3_isMeaningOrNone, .code yX3_isMeaningOrNone cX3_isMeaningOrNone 1 (some .boolean), .constant RX3 150 (65536), .methodLink RX3 61 yX1_codeThatMeans, .instanceMethod yX1_codeThatMeans, .selects RX1 yX1_codeThatMeans yX1_codeThatMeans, .initialized RX1, .code yX1_codeThatMeans cX1_codeThatMeans 3 (some .int), .fieldLink RX1 9 "CodePages$Page" "meanings" "[I"] ++ wsX10 ++ wsX30)
def wsX3_row : List Cond := .code yX3_row cX3_row 4 (some .int) :: ([.classLink RX3 68 RJx00060, .instantiable RJx00060 6, .initialized RJx00060, .fieldLink RX3 65 "CodePages$Page" "meanings" "[I", .methodLink RX3 51 yX3_pageAt, .instanceMethod yX3_pageAt, .selects RX3 yX3_pageAt yX3_pageAt, .initialized RX3, .code yX3_pageAt cX3_pageAt 2 (some (.object "CodePages$Page")), .fieldLink RX3 11 "CodePages" "pages" "[LCodePages$Page;", .methodLink RX3 55 yX3_isCode, .static yX3_isCode, .code yX3_isCode cX3_isCode 1 (some .boolean)] ++ wsJx000600 ++ wsX10 ++ wsX30)
def wsX3_standIn : List Cond := .code yX3_standIn cX3_standIn 5 (some .int) :: ([.fieldLink RX3 75 "CodePages$Page" "substitute" "I", .methodLink RX3 51 yX3_pageAt, .instanceMethod yX3_pageAt, .selects RX3 yX3_pageAt yX3_pageAt, .initialized RX3, .code yX3_pageAt cX3_pageAt 2 (some (.object "CodePages$Page")), .fieldLink RX3 11 "CodePages" "pages" "[LCodePages$Page;", .methodLink RX3 55 yX3_isCode, .static yX3_isCode, .code yX3_isCode cX3_isCode 1 (some .boolean)] ++ wsX10 ++ wsX30)
def wsX3_findOrEnlist : List Cond := .code yX3_findOrEnlist cX3_findOrEnlist 5 (some .int) :: ([.fieldLink RX3 65 "CodePages$Page" "meanings" "[I", .fieldLink RX3 41 "CodePages" "listedCount" "I", .fieldLink RX3 27 "CodePages" "listed" "[I", .methodLink RX3 61 yX1_codeThatMeans, .instanceMethod yX1_codeThatMeans, .selects RX1 yX1_codeThatMeans yX1_codeThatMeans, .initialized RX1, .code yX1_codeThatMeans cX1_codeThatMeans 3 (some .int), .fieldLink RX1 9 "CodePages$Page" "meanings" "[I"] ++ wsX10 ++ wsX30)
def wsX3_translate : List Cond := .code yX3_translate cX3_translate 7 (some .int) :: ([.fieldLink RX3 75 "CodePages$Page" "substitute" "I", .methodLink RX3 51 yX3_pageAt, .instanceMethod yX3_pageAt, .selects RX3 yX3_pageAt yX3_pageAt, .initialized RX3, .code yX3_pageAt cX3_pageAt 2 (some (.object "CodePages$Page")), .fieldLink RX3 11 "CodePages" "pages" "[LCodePages$Page;", .methodLink RX3 55 yX3_isCode, .static yX3_isCode, .code yX3_isCode cX3_isCode 1 (some .boolean), .methodLink RX3 78 yX3_findOrEnlist, .instanceMethod yX3_findOrEnlist, .selects RX3 yX3_findOrEnlist yX3_findOrEnlist, .code yX3_findOrEnlist cX3_findOrEnlist 5 (some .int), .fieldLink RX3 65 "CodePages$Page" "meanings" "[I", .fieldLink RX3 41 "CodePages" "listedCount" "I", .fieldLink RX3 27 "CodePages" "listed" "[I", .methodLink RX3 61 yX1_codeThatMeans, .instanceMethod yX1_codeThatMeans, .selects RX1 yX1_codeThatMeans yX1_codeThatMeans, .initialized RX1, .code yX1_codeThatMeans cX1_codeThatMeans 3 (some .int), .fieldLink RX1 9 "CodePages$Page" "meanings" "[I"] ++ wsX10 ++ wsX30)
def wsX3_told : List Cond := .code yX3_told cX3_told 2 (some .int) :: ([.fieldLink RX3 41 "CodePages" "listedCount" "I", .fieldLink RX3 27 "CodePages" "listed" "[I"] ++ wsX30)
def wsX3_order_r1 : List Cond := [Cond.fieldLink RX3 35 "CodePages" "orderCount" "I", Cond.classLink RX3 15 RX0, Cond.instantiable RX0 4, Cond.initialized RX0, Cond.fieldLink RX3 65 "CodePages$Page" "meanings" "[I", Cond.fieldLink RX3 17 "CodePages" "orders" "[LCodePages$Order;", Cond.methodLink RX3 44 yX3_isKind, Cond.static yX3_isKind, Cond.initialized RX3, Cond.code yX3_isKind cX3_isKind 1 (some .boolean), Cond.methodLink RX3 82 yX0_init, Cond.instanceMethod yX0_init, Cond.code yX0_init cX0_init 3 none, Cond.methodLink RX0 3 objectInit, Cond.instanceMethod objectInit, Cond.code objectInit ⟨#[0xb1]⟩ 1 none, Cond.arrayClass .int, Cond.fieldLink RX0 9 "CodePages$Order" "ranks" "[I", Cond.arrayClass .boolean, Cond.fieldLink RX0 15 "CodePages$Order" "inside" "[Z", Cond.fieldLink RX0 19 "CodePages$Order" "nextRank" "I", Cond.fieldLink RX0 23 "CodePages$Order" "alphabet" "Z", Cond.methodLink RX3 51 yX3_pageAt, Cond.instanceMethod yX3_pageAt]
def wsX3_order_r2 : List Cond := [Cond.selects RX3 yX3_pageAt yX3_pageAt, Cond.code yX3_pageAt cX3_pageAt 2 (some (.object "CodePages$Page")), Cond.fieldLink RX3 11 "CodePages" "pages" "[LCodePages$Page;", Cond.methodLink RX3 85 yX0_rankBy, Cond.instanceMethod yX0_rankBy, Cond.selects RX0 yX0_rankBy yX0_rankBy, Cond.code yX0_rankBy cX0_rankBy 5 none, Cond.methodLink RX0 27 yX0_sortKey, Cond.static yX0_sortKey, Cond.code yX0_sortKey cX0_sortKey 2 (some .int), Cond.constant RX0 31 (65536)]
def wsX3_order : List Cond := .code yX3_order cX3_order 4 (some .int) :: ((wsX3_order_r1 ++ wsX3_order_r2) ++ wsX30 ++ wsX00 ++ wsX10)
def wsX3_orderAt : List Cond := .code yX3_orderAt cX3_orderAt 2 (some (.object "CodePages$Order")) :: ([.fieldLink RX3 17 "CodePages" "orders" "[LCodePages$Order;"] ++ wsX30)
def wsX3_alphabetRefusal : List Cond := .code yX3_alphabetRefusal cX3_alphabetRefusal 3 (some .int) :: ([.methodLink RX3 55 yX3_isCode, .static yX3_isCode, .initialized RX3, .code yX3_isCode cX3_isCode 1 (some .boolean)])
def wsX3_also_r1 : List Cond := [Cond.fieldLink RX3 93 "CodePages$Order" "alphabet" "Z", Cond.methodLink RX3 89 yX3_orderAt, Cond.instanceMethod yX3_orderAt, Cond.selects RX3 yX3_orderAt yX3_orderAt, Cond.initialized RX3, Cond.code yX3_orderAt cX3_orderAt 2 (some (.object "CodePages$Order")), Cond.fieldLink RX3 17 "CodePages" "orders" "[LCodePages$Order;", Cond.methodLink RX3 97 yX3_alphabetRefusal, Cond.static yX3_alphabetRefusal, Cond.code yX3_alphabetRefusal cX3_alphabetRefusal 3 (some .int), Cond.methodLink RX3 55 yX3_isCode, Cond.static yX3_isCode, Cond.code yX3_isCode cX3_isCode 1 (some .boolean), Cond.methodLink RX3 101 yX0_addEqual, Cond.instanceMethod yX0_addEqual, Cond.selects RX0 yX0_addEqual yX0_addEqual, Cond.initialized RX0, Cond.code yX0_addEqual cX0_addEqual 3 (some .boolean), Cond.fieldLink RX0 15 "CodePages$Order" "inside" "[Z", Cond.fieldLink RX0 9 "CodePages$Order" "ranks" "[I", Cond.methodLink RX0 32 yX0_rankThoseOutside, Cond.instanceMethod yX0_rankThoseOutside, Cond.selects RX0 yX0_rankThoseOutside yX0_rankThoseOutside, Cond.code yX0_rankThoseOutside cX0_rankThoseOutside 3 none]
def wsX3_also_r2 : List Cond := [Cond.fieldLink RX0 19 "CodePages$Order" "nextRank" "I"]
def wsX3_also : List Cond := .code yX3_also cX3_also 6 (some .int) :: ((wsX3_also_r1 ++ wsX3_also_r2) ++ wsX00 ++ wsX30)
def wsX3_through_r1 : List Cond := [Cond.fieldLink RX3 93 "CodePages$Order" "alphabet" "Z", Cond.methodLink RX3 108 Lib.Math.abs.name, Cond.static Lib.Math.abs.name, Cond.initialized "java/lang/Math", Cond.code Lib.Math.abs.name Lib.Math.abs.code 1 (some .int), Cond.methodLink RX3 89 yX3_orderAt, Cond.instanceMethod yX3_orderAt, Cond.selects RX3 yX3_orderAt yX3_orderAt, Cond.initialized RX3, Cond.code yX3_orderAt cX3_orderAt 2 (some (.object "CodePages$Order")), Cond.fieldLink RX3 17 "CodePages" "orders" "[LCodePages$Order;", Cond.methodLink RX3 97 yX3_alphabetRefusal, Cond.static yX3_alphabetRefusal, Cond.code yX3_alphabetRefusal cX3_alphabetRefusal 3 (some .int), Cond.methodLink RX3 55 yX3_isCode, Cond.static yX3_isCode, Cond.code yX3_isCode cX3_isCode 1 (some .boolean), Cond.methodLink RX3 105 yX0_addRange, Cond.instanceMethod yX0_addRange, Cond.selects RX0 yX0_addRange yX0_addRange, Cond.initialized RX0, Cond.code yX0_addRange cX0_addRange 6 (some .boolean), Cond.methodLink RX0 35 Lib.Math.min.name, Cond.static Lib.Math.min.name]
def wsX3_through_r2 : List Cond := [Cond.code Lib.Math.min.name Lib.Math.min.code 2 (some .int), Cond.methodLink RX0 41 Lib.Math.max.name, Cond.static Lib.Math.max.name, Cond.code Lib.Math.max.name Lib.Math.max.code 2 (some .int), Cond.fieldLink RX0 15 "CodePages$Order" "inside" "[Z", Cond.fieldLink RX0 9 "CodePages$Order" "ranks" "[I", Cond.fieldLink RX0 19 "CodePages$Order" "nextRank" "I", Cond.methodLink RX0 44 Lib.Math.abs.name, Cond.methodLink RX0 32 yX0_rankThoseOutside, Cond.instanceMethod yX0_rankThoseOutside, Cond.selects RX0 yX0_rankThoseOutside yX0_rankThoseOutside, Cond.code yX0_rankThoseOutside cX0_rankThoseOutside 3 none]
def wsX3_through : List Cond := .code yX3_through cX3_through 6 (some .int) :: ((wsX3_through_r1 ++ wsX3_through_r2) ++ wsX00 ++ wsX30)
def wsX3_text : List Cond := .code yX3_text cX3_text 1 (some .int) :: ([.fieldLink RX3 38 "CodePages" "textCount" "I", .fieldLink RX3 23 "CodePages" "texts" "[LCodePages$Text;", .classLink RX3 21 RX2, .instantiable RX2 2, .initialized RX2, .instanceMethod yX2_init, .code yX2_init cX2_init 1 none, .methodLink RX2 3 objectInit, .instanceMethod objectInit, .code objectInit ⟨#[0xb1]⟩ 1 none, .arrayClass .int, .fieldLink RX2 9 "CodePages$Text" "codes" "[I", .fieldLink RX2 15 "CodePages$Text" "size" "I"] ++ wsX30 ++ wsX20)
def wsX3_textAt : List Cond := .code yX3_textAt cX3_textAt 2 (some (.object "CodePages$Text")) :: ([.fieldLink RX3 23 "CodePages" "texts" "[LCodePages$Text;"] ++ wsX30)
def wsX3_sign : List Cond := .code yX3_sign cX3_sign 4 (some .int) :: ([.fieldLink RX3 118 "CodePages$Text" "size" "I", .fieldLink RX3 121 "CodePages$Text" "codes" "[I", .methodLink RX3 114 yX3_textAt, .instanceMethod yX3_textAt, .selects RX3 yX3_textAt yX3_textAt, .initialized RX3, .code yX3_textAt cX3_textAt 2 (some (.object "CodePages$Text")), .fieldLink RX3 23 "CodePages" "texts" "[LCodePages$Text;", .methodLink RX3 55 yX3_isCode, .static yX3_isCode, .code yX3_isCode cX3_isCode 1 (some .boolean)] ++ wsX20 ++ wsX30)
def wsX3_whole_r1 : List Cond := [Cond.fieldLink RX3 118 "CodePages$Text" "size" "I", Cond.fieldLink RX3 121 "CodePages$Text" "codes" "[I", Cond.fieldLink RX3 75 "CodePages$Page" "substitute" "I", Cond.methodLink RX3 114 yX3_textAt, Cond.instanceMethod yX3_textAt, Cond.selects RX3 yX3_textAt yX3_textAt, Cond.initialized RX3, Cond.code yX3_textAt cX3_textAt 2 (some (.object "CodePages$Text")), Cond.fieldLink RX3 23 "CodePages" "texts" "[LCodePages$Text;", Cond.methodLink RX3 51 yX3_pageAt, Cond.instanceMethod yX3_pageAt, Cond.selects RX3 yX3_pageAt yX3_pageAt, Cond.code yX3_pageAt cX3_pageAt 2 (some (.object "CodePages$Page")), Cond.fieldLink RX3 11 "CodePages" "pages" "[LCodePages$Page;", Cond.methodLink RX3 78 yX3_findOrEnlist, Cond.instanceMethod yX3_findOrEnlist, Cond.selects RX3 yX3_findOrEnlist yX3_findOrEnlist, Cond.code yX3_findOrEnlist cX3_findOrEnlist 5 (some .int), Cond.fieldLink RX3 65 "CodePages$Page" "meanings" "[I", Cond.fieldLink RX3 41 "CodePages" "listedCount" "I", Cond.fieldLink RX3 27 "CodePages" "listed" "[I", Cond.methodLink RX3 61 yX1_codeThatMeans, Cond.instanceMethod yX1_codeThatMeans, Cond.selects RX1 yX1_codeThatMeans yX1_codeThatMeans]
def wsX3_whole_r2 : List Cond := [Cond.initialized RX1, Cond.code yX1_codeThatMeans cX1_codeThatMeans 3 (some .int), Cond.fieldLink RX1 9 "CodePages$Page" "meanings" "[I"]
def wsX3_whole : List Cond := .code yX3_whole cX3_whole 10 (some .int) :: ((wsX3_whole_r1 ++ wsX3_whole_r2) ++ wsX20 ++ wsX10 ++ wsX30)
def wsX3_at : List Cond := .code yX3_at cX3_at 4 (some .int) :: ([.fieldLink RX3 118 "CodePages$Text" "size" "I", .fieldLink RX3 121 "CodePages$Text" "codes" "[I", .methodLink RX3 114 yX3_textAt, .instanceMethod yX3_textAt, .selects RX3 yX3_textAt yX3_textAt, .initialized RX3, .code yX3_textAt cX3_textAt 2 (some (.object "CodePages$Text")), .fieldLink RX3 23 "CodePages" "texts" "[LCodePages$Text;"] ++ wsX20 ++ wsX30)
def wsX3_compare : List Cond := .code yX3_compare cX3_compare 11 (some .int) :: ([.fieldLink RX3 118 "CodePages$Text" "size" "I", .methodLink RX3 124 Lib.Math.max.name, .static Lib.Math.max.name, .initialized "java/lang/Math", .code Lib.Math.max.name Lib.Math.max.code 2 (some .int), .fieldLink RX3 128 "CodePages$Order" "ranks" "[I", .methodLink RX3 89 yX3_orderAt, .instanceMethod yX3_orderAt, .selects RX3 yX3_orderAt yX3_orderAt, .initialized RX3, .code yX3_orderAt cX3_orderAt 2 (some (.object "CodePages$Order")), .fieldLink RX3 17 "CodePages" "orders" "[LCodePages$Order;", .methodLink RX3 114 yX3_textAt, .instanceMethod yX3_textAt, .selects RX3 yX3_textAt yX3_textAt, .code yX3_textAt cX3_textAt 2 (some (.object "CodePages$Text")), .fieldLink RX3 23 "CodePages" "texts" "[LCodePages$Text;", .methodLink RX3 131 yX2_codeOrBlank, .instanceMethod yX2_codeOrBlank, .selects RX2 yX2_codeOrBlank yX2_codeOrBlank, .initialized RX2, .code yX2_codeOrBlank cX2_codeOrBlank 2 (some .int), .fieldLink RX2 15 "CodePages$Text" "size" "I", .fieldLink RX2 9 "CodePages$Text" "codes" "[I"] ++ wsX20 ++ wsX00 ++ wsX30)
def wsX3_isGreatLetter : List Cond := .code yX3_isGreatLetter cX3_isGreatLetter 1 (some .boolean) :: ([])
def wsX3_isSmallLetter : List Cond := .code yX3_isSmallLetter cX3_isSmallLetter 1 (some .boolean) :: ([])
def wsX3_cls : List Cond := .code yX3_cls cX3_cls 3 (some .boolean) :: ([.methodLink RX3 134 yX3_isGreatLetter, .static yX3_isGreatLetter, .initialized RX3, .code yX3_isGreatLetter cX3_isGreatLetter 1 (some .boolean), .methodLink RX3 137 yX3_isSmallLetter, .static yX3_isSmallLetter, .code yX3_isSmallLetter cX3_isSmallLetter 1 (some .boolean)])
def wsX3_hexDigit : List Cond := .code yX3_hexDigit cX3_hexDigit 1 (some .int) :: ([])
def wsX3_halfAsSign : List Cond := .code yX3_halfAsSign cX3_halfAsSign 1 (some .int) :: ([])
def wsX3_print : List Cond := .code yX3_print cX3_print 3 (some .byte) :: ([.methodLink RX3 55 yX3_isCode, .static yX3_isCode, .initialized RX3, .code yX3_isCode cX3_isCode 1 (some .boolean), .methodLink RX3 140 yX3_hexDigit, .static yX3_hexDigit, .code yX3_hexDigit cX3_hexDigit 1 (some .int), .methodLink RX3 143 yX3_halfAsSign, .static yX3_halfAsSign, .code yX3_halfAsSign cX3_halfAsSign 1 (some .int)])
def wsX3_high : List Cond := .code yX3_high cX3_high 3 (some .int) :: ([.methodLink RX3 89 yX3_orderAt, .instanceMethod yX3_orderAt, .selects RX3 yX3_orderAt yX3_orderAt, .initialized RX3, .code yX3_orderAt cX3_orderAt 2 (some (.object "CodePages$Order")), .fieldLink RX3 17 "CodePages" "orders" "[LCodePages$Order;", .methodLink RX3 146 yX0_lastCode, .instanceMethod yX0_lastCode, .selects RX0 yX0_lastCode yX0_lastCode, .initialized RX0, .code yX0_lastCode cX0_lastCode 3 (some .int), .fieldLink RX0 9 "CodePages$Order" "ranks" "[I"] ++ wsX30 ++ wsX00)
def wsX3_rank : List Cond := .code yX3_rank cX3_rank 4 (some .int) :: ([.fieldLink RX3 128 "CodePages$Order" "ranks" "[I", .methodLink RX3 89 yX3_orderAt, .instanceMethod yX3_orderAt, .selects RX3 yX3_orderAt yX3_orderAt, .initialized RX3, .code yX3_orderAt cX3_orderAt 2 (some (.object "CodePages$Order")), .fieldLink RX3 17 "CodePages" "orders" "[LCodePages$Order;", .methodLink RX3 55 yX3_isCode, .static yX3_isCode, .code yX3_isCode cX3_isCode 1 (some .boolean)] ++ wsX00 ++ wsX30)
def wsX4_init : List Cond := .code yX4_init cX4_init 1 none :: ([.methodLink RX4 1 objectInit, .instanceMethod objectInit, .code objectInit ⟨#[0xb1]⟩ 1 none, .arrayClass .int, .fieldLink RX4 7 "CodePagesModel" "means" "[I", .fieldLink RX4 13 "CodePagesModel" "standIns" "[I", .fieldLink RX4 16 "CodePagesModel" "kinds" "[I", .fieldLink RX4 19 "CodePagesModel" "ranks" "[I", .fieldLink RX4 22 "CodePagesModel" "next" "[I", .fieldLink RX4 25 "CodePagesModel" "texts" "[I", .fieldLink RX4 28 "CodePagesModel" "lengths" "[I", .fieldLink RX4 31 "CodePagesModel" "listed" "[I"] ++ wsX40)
def wsX4_thrown : List Cond := .code yX4_thrown cX4_thrown 1 (some .int) :: ([.fieldLink RX4 34 "CodePagesModel" "code" "I"] ++ wsX40)
def wsX4_isCode : List Cond := .code yX4_isCode cX4_isCode 1 (some .boolean) :: ([])
def wsX4_isPage : List Cond := .code yX4_isPage cX4_isPage 2 (some .boolean) :: ([.fieldLink RX4 38 "CodePagesModel" "pages" "I"] ++ wsX40)
def wsX4_isOrder : List Cond := .code yX4_isOrder cX4_isOrder 2 (some .boolean) :: ([.fieldLink RX4 41 "CodePagesModel" "orders" "I"] ++ wsX40)
def wsX4_isText : List Cond := .code yX4_isText cX4_isText 2 (some .boolean) :: ([.fieldLink RX4 44 "CodePagesModel" "many" "I"] ++ wsX40)
def wsX4_page : List Cond := .code yX4_page cX4_page 3 (some .int) :: ([.fieldLink RX4 34 "CodePagesModel" "code" "I", .fieldLink RX4 38 "CodePagesModel" "pages" "I", .fieldLink RX4 7 "CodePagesModel" "means" "[I", .fieldLink RX4 13 "CodePagesModel" "standIns" "[I"] ++ wsX40)
def wsX4_codeOf : List Cond := .code yX4_codeOf cX4_codeOf 5 (some .int) :: ([.fieldLink RX4 7 "CodePagesModel" "means" "[I"] ++ wsX40)
def wsX4_set : List Cond := .code yX4_set cX4_set 5 (some .int) :: ([.fieldLink RX4 34 "CodePagesModel" "code" "I", .constant RX4 54 (65535), .fieldLink RX4 7 "CodePagesModel" "means" "[I", .methodLink RX4 47 yX4_isPage, .instanceMethod yX4_isPage, .selects RX4 yX4_isPage yX4_isPage, .initialized RX4, .code yX4_isPage cX4_isPage 2 (some .boolean), .fieldLink RX4 38 "CodePagesModel" "pages" "I", .methodLink RX4 51 yX4_isCode, .static yX4_isCode, .code yX4_isCode cX4_isCode 1 (some .boolean), .methodLink RX4 55 yX4_codeOf, .instanceMethod yX4_codeOf, .selects RX4 yX4_codeOf yX4_codeOf, .code yX4_codeOf cX4_codeOf 5 (some .int)] ++ wsX40)
def wsX4_row : List Cond := .code yX4_row cX4_row 4 (some .int) :: ([.fieldLink RX4 34 "CodePagesModel" "code" "I", .fieldLink RX4 7 "CodePagesModel" "means" "[I", .methodLink RX4 47 yX4_isPage, .instanceMethod yX4_isPage, .selects RX4 yX4_isPage yX4_isPage, .initialized RX4, .code yX4_isPage cX4_isPage 2 (some .boolean), .fieldLink RX4 38 "CodePagesModel" "pages" "I", .methodLink RX4 51 yX4_isCode, .static yX4_isCode, .code yX4_isCode cX4_isCode 1 (some .boolean)] ++ wsX40)
def wsX4_standIn : List Cond := .code yX4_standIn cX4_standIn 4 (some .int) :: ([.fieldLink RX4 34 "CodePagesModel" "code" "I", .fieldLink RX4 13 "CodePagesModel" "standIns" "[I", .methodLink RX4 47 yX4_isPage, .instanceMethod yX4_isPage, .selects RX4 yX4_isPage yX4_isPage, .initialized RX4, .code yX4_isPage cX4_isPage 2 (some .boolean), .fieldLink RX4 38 "CodePagesModel" "pages" "I", .methodLink RX4 51 yX4_isCode, .static yX4_isCode, .code yX4_isCode cX4_isCode 1 (some .boolean)] ++ wsX40)
def wsX4_translated : List Cond := .code yX4_translated cX4_translated 6 (some .int) :: ([.fieldLink RX4 7 "CodePagesModel" "means" "[I", .fieldLink RX4 59 "CodePagesModel" "list" "I", .fieldLink RX4 31 "CodePagesModel" "listed" "[I", .fieldLink RX4 62 "CodePagesModel" "count" "I", .fieldLink RX4 13 "CodePagesModel" "standIns" "[I", .methodLink RX4 55 yX4_codeOf, .instanceMethod yX4_codeOf, .selects RX4 yX4_codeOf yX4_codeOf, .initialized RX4, .code yX4_codeOf cX4_codeOf 5 (some .int)] ++ wsX40)
def wsX4_translate : List Cond := .code yX4_translate cX4_translate 4 (some .int) :: ([.fieldLink RX4 34 "CodePagesModel" "code" "I", .methodLink RX4 47 yX4_isPage, .instanceMethod yX4_isPage, .selects RX4 yX4_isPage yX4_isPage, .initialized RX4, .code yX4_isPage cX4_isPage 2 (some .boolean), .fieldLink RX4 38 "CodePagesModel" "pages" "I", .methodLink RX4 51 yX4_isCode, .static yX4_isCode, .code yX4_isCode cX4_isCode 1 (some .boolean), .methodLink RX4 65 yX4_translated, .instanceMethod yX4_translated, .selects RX4 yX4_translated yX4_translated, .code yX4_translated cX4_translated 6 (some .int), .fieldLink RX4 7 "CodePagesModel" "means" "[I", .fieldLink RX4 59 "CodePagesModel" "list" "I", .fieldLink RX4 31 "CodePagesModel" "listed" "[I", .fieldLink RX4 62 "CodePagesModel" "count" "I", .fieldLink RX4 13 "CodePagesModel" "standIns" "[I", .methodLink RX4 55 yX4_codeOf, .instanceMethod yX4_codeOf, .selects RX4 yX4_codeOf yX4_codeOf, .code yX4_codeOf cX4_codeOf 5 (some .int)] ++ wsX40)
def wsX4_told : List Cond := .code yX4_told cX4_told 2 (some .int) :: ([.fieldLink RX4 34 "CodePagesModel" "code" "I", .fieldLink RX4 59 "CodePagesModel" "list" "I", .fieldLink RX4 31 "CodePagesModel" "listed" "[I"] ++ wsX40)
def wsX4_meant : List Cond := .code yX4_meant cX4_meant 5 (some .int) :: ([.fieldLink RX4 38 "CodePagesModel" "pages" "I", .fieldLink RX4 7 "CodePagesModel" "means" "[I"] ++ wsX40)
def wsX4_order : List Cond := .code yX4_order cX4_order 3 (some .int) :: ([.fieldLink RX4 34 "CodePagesModel" "code" "I", .fieldLink RX4 41 "CodePagesModel" "orders" "I", .fieldLink RX4 16 "CodePagesModel" "kinds" "[I", .fieldLink RX4 22 "CodePagesModel" "next" "[I", .fieldLink RX4 19 "CodePagesModel" "ranks" "[I", .methodLink RX4 69 yX4_meant, .instanceMethod yX4_meant, .selects RX4 yX4_meant yX4_meant, .initialized RX4, .code yX4_meant cX4_meant 5 (some .int), .fieldLink RX4 38 "CodePagesModel" "pages" "I", .fieldLink RX4 7 "CodePagesModel" "means" "[I"] ++ wsX40)
def wsX4_rankOf : List Cond := .code yX4_rankOf cX4_rankOf 6 (some .int) :: ([.fieldLink RX4 19 "CodePagesModel" "ranks" "[I", .fieldLink RX4 16 "CodePagesModel" "kinds" "[I", .fieldLink RX4 22 "CodePagesModel" "next" "[I"] ++ wsX40)
def wsX4_refusal : List Cond := .code yX4_refusal cX4_refusal 4 (some .int) :: ([.fieldLink RX4 16 "CodePagesModel" "kinds" "[I", .methodLink RX4 73 yX4_isOrder, .instanceMethod yX4_isOrder, .selects RX4 yX4_isOrder yX4_isOrder, .initialized RX4, .code yX4_isOrder cX4_isOrder 2 (some .boolean), .fieldLink RX4 41 "CodePagesModel" "orders" "I", .methodLink RX4 51 yX4_isCode, .static yX4_isCode, .code yX4_isCode cX4_isCode 1 (some .boolean)] ++ wsX40)
def wsX4_also : List Cond := .code yX4_also cX4_also 5 (some .int) :: ([.fieldLink RX4 34 "CodePagesModel" "code" "I", .fieldLink RX4 19 "CodePagesModel" "ranks" "[I", .methodLink RX4 76 yX4_refusal, .instanceMethod yX4_refusal, .selects RX4 yX4_refusal yX4_refusal, .initialized RX4, .code yX4_refusal cX4_refusal 4 (some .int), .fieldLink RX4 16 "CodePagesModel" "kinds" "[I", .methodLink RX4 73 yX4_isOrder, .instanceMethod yX4_isOrder, .selects RX4 yX4_isOrder yX4_isOrder, .code yX4_isOrder cX4_isOrder 2 (some .boolean), .fieldLink RX4 41 "CodePagesModel" "orders" "I", .methodLink RX4 51 yX4_isCode, .static yX4_isCode, .code yX4_isCode cX4_isCode 1 (some .boolean)] ++ wsX40)
def wsX4_through : List Cond := .code yX4_through cX4_through 8 (some .int) :: ([.fieldLink RX4 34 "CodePagesModel" "code" "I", .fieldLink RX4 19 "CodePagesModel" "ranks" "[I", .fieldLink RX4 22 "CodePagesModel" "next" "[I", .methodLink RX4 76 yX4_refusal, .instanceMethod yX4_refusal, .selects RX4 yX4_refusal yX4_refusal, .initialized RX4, .code yX4_refusal cX4_refusal 4 (some .int), .fieldLink RX4 16 "CodePagesModel" "kinds" "[I", .methodLink RX4 73 yX4_isOrder, .instanceMethod yX4_isOrder, .selects RX4 yX4_isOrder yX4_isOrder, .code yX4_isOrder cX4_isOrder 2 (some .boolean), .fieldLink RX4 41 "CodePagesModel" "orders" "I", .methodLink RX4 51 yX4_isCode, .static yX4_isCode, .code yX4_isCode cX4_isCode 1 (some .boolean)] ++ wsX40)
def wsX4_rank : List Cond := .code yX4_rank cX4_rank 3 (some .int) :: ([.fieldLink RX4 34 "CodePagesModel" "code" "I", .methodLink RX4 73 yX4_isOrder, .instanceMethod yX4_isOrder, .selects RX4 yX4_isOrder yX4_isOrder, .initialized RX4, .code yX4_isOrder cX4_isOrder 2 (some .boolean), .fieldLink RX4 41 "CodePagesModel" "orders" "I", .methodLink RX4 51 yX4_isCode, .static yX4_isCode, .code yX4_isCode cX4_isCode 1 (some .boolean), .methodLink RX4 79 yX4_rankOf, .instanceMethod yX4_rankOf, .selects RX4 yX4_rankOf yX4_rankOf, .code yX4_rankOf cX4_rankOf 6 (some .int), .fieldLink RX4 19 "CodePagesModel" "ranks" "[I", .fieldLink RX4 16 "CodePagesModel" "kinds" "[I", .fieldLink RX4 22 "CodePagesModel" "next" "[I"] ++ wsX40)
def wsX4_high : List Cond := .code yX4_high cX4_high 4 (some .int) :: ([.fieldLink RX4 34 "CodePagesModel" "code" "I", .methodLink RX4 73 yX4_isOrder, .instanceMethod yX4_isOrder, .selects RX4 yX4_isOrder yX4_isOrder, .initialized RX4, .code yX4_isOrder cX4_isOrder 2 (some .boolean), .fieldLink RX4 41 "CodePagesModel" "orders" "I", .methodLink RX4 79 yX4_rankOf, .instanceMethod yX4_rankOf, .selects RX4 yX4_rankOf yX4_rankOf, .code yX4_rankOf cX4_rankOf 6 (some .int), .fieldLink RX4 19 "CodePagesModel" "ranks" "[I", .fieldLink RX4 16 "CodePagesModel" "kinds" "[I", .fieldLink RX4 22 "CodePagesModel" "next" "[I"] ++ wsX40)
def wsX4_text : List Cond := .code yX4_text cX4_text 1 (some .int) :: ([.fieldLink RX4 34 "CodePagesModel" "code" "I", .fieldLink RX4 44 "CodePagesModel" "many" "I"] ++ wsX40)
def wsX4_sign : List Cond := .code yX4_sign cX4_sign 3 (some .int) :: ([.fieldLink RX4 34 "CodePagesModel" "code" "I", .fieldLink RX4 28 "CodePagesModel" "lengths" "[I", .fieldLink RX4 25 "CodePagesModel" "texts" "[I", .methodLink RX4 82 yX4_isText, .instanceMethod yX4_isText, .selects RX4 yX4_isText yX4_isText, .initialized RX4, .code yX4_isText cX4_isText 2 (some .boolean), .fieldLink RX4 44 "CodePagesModel" "many" "I", .methodLink RX4 51 yX4_isCode, .static yX4_isCode, .code yX4_isCode cX4_isCode 1 (some .boolean)] ++ wsX40)
def wsX4_whole_r1 : List Cond := [Cond.fieldLink RX4 34 "CodePagesModel" "code" "I", Cond.fieldLink RX4 62 "CodePagesModel" "count" "I", Cond.fieldLink RX4 28 "CodePagesModel" "lengths" "[I", Cond.fieldLink RX4 25 "CodePagesModel" "texts" "[I", Cond.methodLink RX4 82 yX4_isText, Cond.instanceMethod yX4_isText, Cond.selects RX4 yX4_isText yX4_isText, Cond.initialized RX4, Cond.code yX4_isText cX4_isText 2 (some .boolean), Cond.fieldLink RX4 44 "CodePagesModel" "many" "I", Cond.methodLink RX4 47 yX4_isPage, Cond.instanceMethod yX4_isPage, Cond.selects RX4 yX4_isPage yX4_isPage, Cond.code yX4_isPage cX4_isPage 2 (some .boolean), Cond.fieldLink RX4 38 "CodePagesModel" "pages" "I", Cond.methodLink RX4 65 yX4_translated, Cond.instanceMethod yX4_translated, Cond.selects RX4 yX4_translated yX4_translated, Cond.code yX4_translated cX4_translated 6 (some .int), Cond.fieldLink RX4 7 "CodePagesModel" "means" "[I", Cond.fieldLink RX4 59 "CodePagesModel" "list" "I", Cond.fieldLink RX4 31 "CodePagesModel" "listed" "[I", Cond.fieldLink RX4 13 "CodePagesModel" "standIns" "[I", Cond.methodLink RX4 55 yX4_codeOf]
def wsX4_whole_r2 : List Cond := [Cond.instanceMethod yX4_codeOf, Cond.selects RX4 yX4_codeOf yX4_codeOf, Cond.code yX4_codeOf cX4_codeOf 5 (some .int)]
def wsX4_whole : List Cond := .code yX4_whole cX4_whole 6 (some .int) :: ((wsX4_whole_r1 ++ wsX4_whole_r2) ++ wsX40)
def wsX4_at : List Cond := .code yX4_at cX4_at 3 (some .int) :: ([.fieldLink RX4 34 "CodePagesModel" "code" "I", .fieldLink RX4 28 "CodePagesModel" "lengths" "[I", .fieldLink RX4 25 "CodePagesModel" "texts" "[I", .methodLink RX4 82 yX4_isText, .instanceMethod yX4_isText, .selects RX4 yX4_isText yX4_isText, .initialized RX4, .code yX4_isText cX4_isText 2 (some .boolean), .fieldLink RX4 44 "CodePagesModel" "many" "I"] ++ wsX40)
def wsX4_readAt : List Cond := .code yX4_readAt cX4_readAt 3 (some .int) :: ([.fieldLink RX4 28 "CodePagesModel" "lengths" "[I", .fieldLink RX4 25 "CodePagesModel" "texts" "[I"] ++ wsX40)
def wsX4_compare_r1 : List Cond := [Cond.fieldLink RX4 34 "CodePagesModel" "code" "I", Cond.methodLink RX4 73 yX4_isOrder, Cond.instanceMethod yX4_isOrder, Cond.selects RX4 yX4_isOrder yX4_isOrder, Cond.initialized RX4, Cond.code yX4_isOrder cX4_isOrder 2 (some .boolean), Cond.fieldLink RX4 41 "CodePagesModel" "orders" "I", Cond.methodLink RX4 82 yX4_isText, Cond.instanceMethod yX4_isText, Cond.selects RX4 yX4_isText yX4_isText, Cond.code yX4_isText cX4_isText 2 (some .boolean), Cond.fieldLink RX4 44 "CodePagesModel" "many" "I", Cond.methodLink RX4 85 yX4_readAt, Cond.instanceMethod yX4_readAt, Cond.selects RX4 yX4_readAt yX4_readAt, Cond.code yX4_readAt cX4_readAt 3 (some .int), Cond.fieldLink RX4 28 "CodePagesModel" "lengths" "[I", Cond.fieldLink RX4 25 "CodePagesModel" "texts" "[I", Cond.methodLink RX4 79 yX4_rankOf, Cond.instanceMethod yX4_rankOf, Cond.selects RX4 yX4_rankOf yX4_rankOf, Cond.code yX4_rankOf cX4_rankOf 6 (some .int), Cond.fieldLink RX4 19 "CodePagesModel" "ranks" "[I", Cond.fieldLink RX4 16 "CodePagesModel" "kinds" "[I"]
def wsX4_compare_r2 : List Cond := [Cond.fieldLink RX4 22 "CodePagesModel" "next" "[I"]
def wsX4_compare : List Cond := .code yX4_compare cX4_compare 7 (some .int) :: ((wsX4_compare_r1 ++ wsX4_compare_r2) ++ wsX40)
def wsX4_cls : List Cond := .code yX4_cls cX4_cls 5 (some .boolean) :: ([.fieldLink RX4 34 "CodePagesModel" "code" "I"] ++ wsX40)
def wsX4_half : List Cond := .code yX4_half cX4_half 1 (some .byte) :: ([])
def wsX4_print : List Cond := .code yX4_print cX4_print 4 (some .byte) :: ([.fieldLink RX4 34 "CodePagesModel" "code" "I", .methodLink RX4 51 yX4_isCode, .static yX4_isCode, .initialized RX4, .code yX4_isCode cX4_isCode 1 (some .boolean), .methodLink RX4 88 yX4_half, .static yX4_half, .code yX4_half cX4_half 1 (some .byte)] ++ wsX40)
def wsJx00060_init_a7421 : List Cond := .code yJx00060_init_a7421 cJx00060_init_a7421 2 none :: ([])
def wsJ9_abs_0f7a4 : List Cond := .code yJ9_abs_0f7a4 cJ9_abs_0f7a4 1 (some .int) :: ([])
def wsJ9_max_7cf53 : List Cond := .code yJ9_max_7cf53 cJ9_max_7cf53 2 (some .int) :: ([])
def wsJ9_min_7cf53 : List Cond := .code yJ9_min_7cf53 cJ9_min_7cf53 2 (some .int) :: ([])
def wsL_row : List Cond := .codeWith yL_row cL_row 5 (some .int) [(0, 10, 13, 13)] :: ([.methodLink RL 7 yX3_row, .instanceMethod yX3_row, .selects RX3 yX3_row yX3_row, .initialized RX3, .code yX3_row cX3_row 4 (some .int), .classLink RX3 68 RJx00060, .instantiable RJx00060 6, .initialized RJx00060, .fieldLink RX3 65 "CodePages$Page" "meanings" "[I", .methodLink RX3 51 yX3_pageAt, .instanceMethod yX3_pageAt, .selects RX3 yX3_pageAt yX3_pageAt, .code yX3_pageAt cX3_pageAt 2 (some (.object "CodePages$Page")), .fieldLink RX3 11 "CodePages" "pages" "[LCodePages$Page;", .methodLink RX3 55 yX3_isCode, .static yX3_isCode, .code yX3_isCode cX3_isCode 1 (some .boolean)] ++ wsJx000600 ++ wsX10 ++ wsX30)
def wsL_law_r1 : List Cond := [Cond.classLink RL 8 RX3, Cond.instantiable RX3 8, Cond.initialized RX3, Cond.classLink RL 16 RX4, Cond.instantiable RX4 14, Cond.initialized RX4, Cond.arrayClass .long, Cond.methodLink RL 15 yX3_init, Cond.instanceMethod yX3_init, Cond.code yX3_init cX3_init 1 none, Cond.methodLink RX3 1 objectInit, Cond.instanceMethod objectInit, Cond.code objectInit ⟨#[0xb1]⟩ 1 none, Cond.classLink RX3 9 RX1, Cond.fieldLink RX3 11 "CodePages" "pages" "[LCodePages$Page;", Cond.classLink RX3 15 RX0, Cond.fieldLink RX3 17 "CodePages" "orders" "[LCodePages$Order;", Cond.classLink RX3 21 RX2, Cond.fieldLink RX3 23 "CodePages" "texts" "[LCodePages$Text;", Cond.arrayClass .int, Cond.fieldLink RX3 27 "CodePages" "listed" "[I", Cond.fieldLink RX3 31 "CodePages" "pageCount" "I", Cond.fieldLink RX3 35 "CodePages" "orderCount" "I", Cond.fieldLink RX3 38 "CodePages" "textCount" "I"]
def wsL_law_r2 : List Cond := [Cond.fieldLink RX3 41 "CodePages" "listedCount" "I", Cond.methodLink RL 18 yX4_init, Cond.instanceMethod yX4_init, Cond.code yX4_init cX4_init 1 none, Cond.methodLink RX4 1 objectInit, Cond.fieldLink RX4 7 "CodePagesModel" "means" "[I", Cond.fieldLink RX4 13 "CodePagesModel" "standIns" "[I", Cond.fieldLink RX4 16 "CodePagesModel" "kinds" "[I", Cond.fieldLink RX4 19 "CodePagesModel" "ranks" "[I", Cond.fieldLink RX4 22 "CodePagesModel" "next" "[I", Cond.fieldLink RX4 25 "CodePagesModel" "texts" "[I", Cond.fieldLink RX4 28 "CodePagesModel" "lengths" "[I", Cond.fieldLink RX4 31 "CodePagesModel" "listed" "[I", Cond.methodLink RL 19 yX3_page, Cond.instanceMethod yX3_page, Cond.selects RX3 yX3_page yX3_page, Cond.code yX3_page cX3_page 2 (some .int), Cond.instantiable RX1 2, Cond.initialized RX1, Cond.methodLink RX3 44 yX3_isKind, Cond.static yX3_isKind, Cond.code yX3_isKind cX3_isKind 1 (some .boolean), Cond.methodLink RX3 48 yX1_init, Cond.instanceMethod yX1_init]
def wsL_law_r3 : List Cond := [Cond.code yX1_init cX1_init 3 none, Cond.methodLink RX1 3 objectInit, Cond.fieldLink RX1 9 "CodePages$Page" "meanings" "[I", Cond.fieldLink RX1 15 "CodePages$Page" "substitute" "I", Cond.methodLink RX1 19 yX1_firstMeaning, Cond.static yX1_firstMeaning, Cond.code yX1_firstMeaning cX1_firstMeaning 2 (some .int), Cond.methodLink RL 23 yX4_page, Cond.instanceMethod yX4_page, Cond.selects RX4 yX4_page yX4_page, Cond.code yX4_page cX4_page 3 (some .int), Cond.fieldLink RX4 34 "CodePagesModel" "code" "I", Cond.fieldLink RX4 38 "CodePagesModel" "pages" "I", Cond.methodLink RL 24 yX3_set, Cond.instanceMethod yX3_set, Cond.selects RX3 yX3_set yX3_set, Cond.code yX3_set cX3_set 6 (some .int), Cond.fieldLink RX3 65 "CodePages$Page" "meanings" "[I", Cond.methodLink RX3 51 yX3_pageAt, Cond.instanceMethod yX3_pageAt, Cond.selects RX3 yX3_pageAt yX3_pageAt, Cond.code yX3_pageAt cX3_pageAt 2 (some (.object "CodePages$Page")), Cond.methodLink RX3 55 yX3_isCode, Cond.static yX3_isCode]
def wsL_law_r4 : List Cond := [Cond.code yX3_isCode cX3_isCode 1 (some .boolean), Cond.methodLink RX3 58 yX3_isMeaningOrNone, Cond.static yX3_isMeaningOrNone, Cond.code yX3_isMeaningOrNone cX3_isMeaningOrNone 1 (some .boolean), Cond.constant RX3 150 (65536), Cond.methodLink RX3 61 yX1_codeThatMeans, Cond.instanceMethod yX1_codeThatMeans, Cond.selects RX1 yX1_codeThatMeans yX1_codeThatMeans, Cond.code yX1_codeThatMeans cX1_codeThatMeans 3 (some .int), Cond.methodLink RL 28 yX4_set, Cond.instanceMethod yX4_set, Cond.selects RX4 yX4_set yX4_set, Cond.code yX4_set cX4_set 5 (some .int), Cond.constant RX4 54 (65535), Cond.methodLink RX4 47 yX4_isPage, Cond.instanceMethod yX4_isPage, Cond.selects RX4 yX4_isPage yX4_isPage, Cond.code yX4_isPage cX4_isPage 2 (some .boolean), Cond.methodLink RX4 51 yX4_isCode, Cond.static yX4_isCode, Cond.code yX4_isCode cX4_isCode 1 (some .boolean), Cond.methodLink RX4 55 yX4_codeOf, Cond.instanceMethod yX4_codeOf, Cond.selects RX4 yX4_codeOf yX4_codeOf]
def wsL_law_r5 : List Cond := [Cond.code yX4_codeOf cX4_codeOf 5 (some .int), Cond.methodLink RL 29 yL_row, Cond.static yL_row, Cond.initialized RL, Cond.codeWith yL_row cL_row 5 (some .int) [(0, 10, 13, 13)], Cond.methodLink RL 7 yX3_row, Cond.instanceMethod yX3_row, Cond.selects RX3 yX3_row yX3_row, Cond.code yX3_row cX3_row 4 (some .int), Cond.classLink RX3 68 RJx00060, Cond.instantiable RJx00060 6, Cond.initialized RJx00060, Cond.methodLink RL 34 yX4_row, Cond.instanceMethod yX4_row, Cond.selects RX4 yX4_row yX4_row, Cond.code yX4_row cX4_row 4 (some .int), Cond.methodLink RL 35 yX4_thrown, Cond.instanceMethod yX4_thrown, Cond.selects RX4 yX4_thrown yX4_thrown, Cond.code yX4_thrown cX4_thrown 1 (some .int), Cond.methodLink RL 39 yX3_standIn, Cond.instanceMethod yX3_standIn, Cond.selects RX3 yX3_standIn yX3_standIn, Cond.code yX3_standIn cX3_standIn 5 (some .int)]
def wsL_law_r6 : List Cond := [Cond.fieldLink RX3 75 "CodePages$Page" "substitute" "I", Cond.methodLink RL 42 yX4_standIn, Cond.instanceMethod yX4_standIn, Cond.selects RX4 yX4_standIn yX4_standIn, Cond.code yX4_standIn cX4_standIn 4 (some .int), Cond.methodLink RL 43 yX3_translate, Cond.instanceMethod yX3_translate, Cond.selects RX3 yX3_translate yX3_translate, Cond.code yX3_translate cX3_translate 7 (some .int), Cond.methodLink RX3 78 yX3_findOrEnlist, Cond.instanceMethod yX3_findOrEnlist, Cond.selects RX3 yX3_findOrEnlist yX3_findOrEnlist, Cond.code yX3_findOrEnlist cX3_findOrEnlist 5 (some .int), Cond.methodLink RL 46 yX4_translate, Cond.instanceMethod yX4_translate, Cond.selects RX4 yX4_translate yX4_translate, Cond.code yX4_translate cX4_translate 4 (some .int), Cond.methodLink RX4 65 yX4_translated, Cond.instanceMethod yX4_translated, Cond.selects RX4 yX4_translated yX4_translated, Cond.code yX4_translated cX4_translated 6 (some .int), Cond.fieldLink RX4 59 "CodePagesModel" "list" "I", Cond.fieldLink RX4 62 "CodePagesModel" "count" "I", Cond.methodLink RL 47 yX3_told]
def wsL_law_r7 : List Cond := [Cond.instanceMethod yX3_told, Cond.selects RX3 yX3_told yX3_told, Cond.code yX3_told cX3_told 2 (some .int), Cond.methodLink RL 50 yX4_told, Cond.instanceMethod yX4_told, Cond.selects RX4 yX4_told yX4_told, Cond.code yX4_told cX4_told 2 (some .int), Cond.methodLink RL 51 yX3_order, Cond.instanceMethod yX3_order, Cond.selects RX3 yX3_order yX3_order, Cond.code yX3_order cX3_order 4 (some .int), Cond.instantiable RX0 4, Cond.initialized RX0, Cond.methodLink RX3 82 yX0_init, Cond.instanceMethod yX0_init, Cond.code yX0_init cX0_init 3 none, Cond.methodLink RX0 3 objectInit, Cond.fieldLink RX0 9 "CodePages$Order" "ranks" "[I", Cond.arrayClass .boolean, Cond.fieldLink RX0 15 "CodePages$Order" "inside" "[Z", Cond.fieldLink RX0 19 "CodePages$Order" "nextRank" "I", Cond.fieldLink RX0 23 "CodePages$Order" "alphabet" "Z", Cond.methodLink RX3 85 yX0_rankBy, Cond.instanceMethod yX0_rankBy]
def wsL_law_r8 : List Cond := [Cond.selects RX0 yX0_rankBy yX0_rankBy, Cond.code yX0_rankBy cX0_rankBy 5 none, Cond.methodLink RX0 27 yX0_sortKey, Cond.static yX0_sortKey, Cond.code yX0_sortKey cX0_sortKey 2 (some .int), Cond.constant RX0 31 (65536), Cond.methodLink RL 54 yX4_order, Cond.instanceMethod yX4_order, Cond.selects RX4 yX4_order yX4_order, Cond.code yX4_order cX4_order 3 (some .int), Cond.fieldLink RX4 41 "CodePagesModel" "orders" "I", Cond.methodLink RX4 69 yX4_meant, Cond.instanceMethod yX4_meant, Cond.selects RX4 yX4_meant yX4_meant, Cond.code yX4_meant cX4_meant 5 (some .int), Cond.methodLink RL 55 yX3_also, Cond.instanceMethod yX3_also, Cond.selects RX3 yX3_also yX3_also, Cond.code yX3_also cX3_also 6 (some .int), Cond.fieldLink RX3 93 "CodePages$Order" "alphabet" "Z", Cond.methodLink RX3 89 yX3_orderAt, Cond.instanceMethod yX3_orderAt, Cond.selects RX3 yX3_orderAt yX3_orderAt, Cond.code yX3_orderAt cX3_orderAt 2 (some (.object "CodePages$Order"))]
def wsL_law_r9 : List Cond := [Cond.methodLink RX3 97 yX3_alphabetRefusal, Cond.static yX3_alphabetRefusal, Cond.code yX3_alphabetRefusal cX3_alphabetRefusal 3 (some .int), Cond.methodLink RX3 101 yX0_addEqual, Cond.instanceMethod yX0_addEqual, Cond.selects RX0 yX0_addEqual yX0_addEqual, Cond.code yX0_addEqual cX0_addEqual 3 (some .boolean), Cond.methodLink RX0 32 yX0_rankThoseOutside, Cond.instanceMethod yX0_rankThoseOutside, Cond.selects RX0 yX0_rankThoseOutside yX0_rankThoseOutside, Cond.code yX0_rankThoseOutside cX0_rankThoseOutside 3 none, Cond.methodLink RL 58 yX4_also, Cond.instanceMethod yX4_also, Cond.selects RX4 yX4_also yX4_also, Cond.code yX4_also cX4_also 5 (some .int), Cond.methodLink RX4 76 yX4_refusal, Cond.instanceMethod yX4_refusal, Cond.selects RX4 yX4_refusal yX4_refusal, Cond.code yX4_refusal cX4_refusal 4 (some .int), Cond.methodLink RX4 73 yX4_isOrder, Cond.instanceMethod yX4_isOrder, Cond.selects RX4 yX4_isOrder yX4_isOrder, Cond.code yX4_isOrder cX4_isOrder 2 (some .boolean), Cond.methodLink RL 59 yX3_through]
def wsL_law_r10 : List Cond := [Cond.instanceMethod yX3_through, Cond.selects RX3 yX3_through yX3_through, Cond.code yX3_through cX3_through 6 (some .int), Cond.methodLink RX3 108 Lib.Math.abs.name, Cond.static Lib.Math.abs.name, Cond.initialized "java/lang/Math", Cond.code Lib.Math.abs.name Lib.Math.abs.code 1 (some .int), Cond.methodLink RX3 105 yX0_addRange, Cond.instanceMethod yX0_addRange, Cond.selects RX0 yX0_addRange yX0_addRange, Cond.code yX0_addRange cX0_addRange 6 (some .boolean), Cond.methodLink RX0 35 Lib.Math.min.name, Cond.static Lib.Math.min.name, Cond.code Lib.Math.min.name Lib.Math.min.code 2 (some .int), Cond.methodLink RX0 41 Lib.Math.max.name, Cond.static Lib.Math.max.name, Cond.code Lib.Math.max.name Lib.Math.max.code 2 (some .int), Cond.methodLink RX0 44 Lib.Math.abs.name, Cond.methodLink RL 62 yX4_through, Cond.instanceMethod yX4_through, Cond.selects RX4 yX4_through yX4_through, Cond.code yX4_through cX4_through 8 (some .int), Cond.methodLink RL 63 yX3_text, Cond.instanceMethod yX3_text]
def wsL_law_r11 : List Cond := [Cond.selects RX3 yX3_text yX3_text, Cond.code yX3_text cX3_text 1 (some .int), Cond.instantiable RX2 2, Cond.initialized RX2, Cond.instanceMethod yX2_init, Cond.code yX2_init cX2_init 1 none, Cond.methodLink RX2 3 objectInit, Cond.fieldLink RX2 9 "CodePages$Text" "codes" "[I", Cond.fieldLink RX2 15 "CodePages$Text" "size" "I", Cond.methodLink RL 66 yX4_text, Cond.instanceMethod yX4_text, Cond.selects RX4 yX4_text yX4_text, Cond.code yX4_text cX4_text 1 (some .int), Cond.fieldLink RX4 44 "CodePagesModel" "many" "I", Cond.methodLink RL 67 yX3_sign, Cond.instanceMethod yX3_sign, Cond.selects RX3 yX3_sign yX3_sign, Cond.code yX3_sign cX3_sign 4 (some .int), Cond.fieldLink RX3 118 "CodePages$Text" "size" "I", Cond.fieldLink RX3 121 "CodePages$Text" "codes" "[I", Cond.methodLink RX3 114 yX3_textAt, Cond.instanceMethod yX3_textAt, Cond.selects RX3 yX3_textAt yX3_textAt, Cond.code yX3_textAt cX3_textAt 2 (some (.object "CodePages$Text"))]
def wsL_law_r12 : List Cond := [Cond.methodLink RL 70 yX4_sign, Cond.instanceMethod yX4_sign, Cond.selects RX4 yX4_sign yX4_sign, Cond.code yX4_sign cX4_sign 3 (some .int), Cond.methodLink RX4 82 yX4_isText, Cond.instanceMethod yX4_isText, Cond.selects RX4 yX4_isText yX4_isText, Cond.code yX4_isText cX4_isText 2 (some .boolean), Cond.methodLink RL 71 yX3_whole, Cond.instanceMethod yX3_whole, Cond.selects RX3 yX3_whole yX3_whole, Cond.code yX3_whole cX3_whole 10 (some .int), Cond.methodLink RL 74 yX4_whole, Cond.instanceMethod yX4_whole, Cond.selects RX4 yX4_whole yX4_whole, Cond.code yX4_whole cX4_whole 6 (some .int), Cond.methodLink RL 75 yX3_at, Cond.instanceMethod yX3_at, Cond.selects RX3 yX3_at yX3_at, Cond.code yX3_at cX3_at 4 (some .int), Cond.methodLink RL 78 yX4_at, Cond.instanceMethod yX4_at, Cond.selects RX4 yX4_at yX4_at, Cond.code yX4_at cX4_at 3 (some .int)]
def wsL_law_r13 : List Cond := [Cond.methodLink RL 79 yX3_compare, Cond.instanceMethod yX3_compare, Cond.selects RX3 yX3_compare yX3_compare, Cond.code yX3_compare cX3_compare 11 (some .int), Cond.methodLink RX3 124 Lib.Math.max.name, Cond.fieldLink RX3 128 "CodePages$Order" "ranks" "[I", Cond.methodLink RX3 131 yX2_codeOrBlank, Cond.instanceMethod yX2_codeOrBlank, Cond.selects RX2 yX2_codeOrBlank yX2_codeOrBlank, Cond.code yX2_codeOrBlank cX2_codeOrBlank 2 (some .int), Cond.methodLink RL 82 yX4_compare, Cond.instanceMethod yX4_compare, Cond.selects RX4 yX4_compare yX4_compare, Cond.code yX4_compare cX4_compare 7 (some .int), Cond.methodLink RX4 85 yX4_readAt, Cond.instanceMethod yX4_readAt, Cond.selects RX4 yX4_readAt yX4_readAt, Cond.code yX4_readAt cX4_readAt 3 (some .int), Cond.methodLink RX4 79 yX4_rankOf, Cond.instanceMethod yX4_rankOf, Cond.selects RX4 yX4_rankOf yX4_rankOf, Cond.code yX4_rankOf cX4_rankOf 6 (some .int), Cond.methodLink RL 83 yX3_cls, Cond.instanceMethod yX3_cls]
def wsL_law_r14 : List Cond := [Cond.selects RX3 yX3_cls yX3_cls, Cond.code yX3_cls cX3_cls 3 (some .boolean), Cond.methodLink RX3 134 yX3_isGreatLetter, Cond.static yX3_isGreatLetter, Cond.code yX3_isGreatLetter cX3_isGreatLetter 1 (some .boolean), Cond.methodLink RX3 137 yX3_isSmallLetter, Cond.static yX3_isSmallLetter, Cond.code yX3_isSmallLetter cX3_isSmallLetter 1 (some .boolean), Cond.methodLink RL 87 yX4_cls, Cond.instanceMethod yX4_cls, Cond.selects RX4 yX4_cls yX4_cls, Cond.code yX4_cls cX4_cls 5 (some .boolean), Cond.methodLink RL 88 yX3_print, Cond.instanceMethod yX3_print, Cond.selects RX3 yX3_print yX3_print, Cond.code yX3_print cX3_print 3 (some .byte), Cond.methodLink RX3 140 yX3_hexDigit, Cond.static yX3_hexDigit, Cond.code yX3_hexDigit cX3_hexDigit 1 (some .int), Cond.methodLink RX3 143 yX3_halfAsSign, Cond.static yX3_halfAsSign, Cond.code yX3_halfAsSign cX3_halfAsSign 1 (some .int), Cond.methodLink RL 92 yX4_print, Cond.instanceMethod yX4_print]
def wsL_law_r15 : List Cond := [Cond.selects RX4 yX4_print yX4_print, Cond.code yX4_print cX4_print 4 (some .byte), Cond.methodLink RX4 88 yX4_half, Cond.static yX4_half, Cond.code yX4_half cX4_half 1 (some .byte), Cond.methodLink RL 93 yX3_high, Cond.instanceMethod yX3_high, Cond.selects RX3 yX3_high yX3_high, Cond.code yX3_high cX3_high 3 (some .int), Cond.methodLink RX3 146 yX0_lastCode, Cond.instanceMethod yX0_lastCode, Cond.selects RX0 yX0_lastCode yX0_lastCode, Cond.code yX0_lastCode cX0_lastCode 3 (some .int), Cond.methodLink RL 96 yX4_high, Cond.instanceMethod yX4_high, Cond.selects RX4 yX4_high yX4_high, Cond.code yX4_high cX4_high 4 (some .int), Cond.methodLink RL 97 yX3_rank, Cond.instanceMethod yX3_rank, Cond.selects RX3 yX3_rank yX3_rank, Cond.code yX3_rank cX3_rank 4 (some .int), Cond.methodLink RL 100 yX4_rank, Cond.instanceMethod yX4_rank, Cond.selects RX4 yX4_rank yX4_rank]
def wsL_law_r16 : List Cond := [Cond.code yX4_rank cX4_rank 3 (some .int)]
def wsL_law : List Cond := (wsL_law_r1 ++ (wsL_law_r2 ++ (wsL_law_r3 ++ (wsL_law_r4 ++ (wsL_law_r5 ++ (wsL_law_r6 ++ (wsL_law_r7 ++ (wsL_law_r8 ++ (wsL_law_r9 ++ (wsL_law_r10 ++ (wsL_law_r11 ++ (wsL_law_r12 ++ (wsL_law_r13 ++ (wsL_law_r14 ++ (wsL_law_r15 ++ wsL_law_r16))))))))))))))) ++ wsX30 ++ wsX40 ++ wsX10 ++ wsJx000600 ++ wsX00 ++ wsX20 ++ ([] : List Cond)
set_option maxRecDepth 20000 in
theorem wsL_law_in : ∀ w ∈ wsL_law, w ∈ lw_tbl := fun w h => (goodIn_p wsL_law [30, 33, 353, 69, 72, 76, 80, 405, 93, 97, 100, 103, 108, 409, 413, 416, 421, 277, 425, 401, 112, 429, 116, 120, 433, 437, 124, 441, 128, 132, 153, 156, 445, 449, 161, 165, 168, 172, 176, 453, 457, 461, 180, 193, 184, 187, 190, 465, 198, 202, 481, 216, 220, 485, 489, 224, 493, 228, 497, 232, 237, 501, 505, 473, 241, 244, 247, 509, 251, 254, 257, 513, 516, 261, 265, 477, 269, 469] (by decide +kernel) (by decide +kernel) w h).1
theorem inlX0 : ∀ w ∈ wsX00, w ∈ wsL_law := fun _ h => List.mem_append_left _ (List.mem_append_left _ (List.mem_append_right _ h))
theorem inX0 : ∀ w ∈ wsX00, w ∈ lw_tbl := fun w h => wsL_law_in w (inlX0 w h)
theorem inlX1 : ∀ w ∈ wsX10, w ∈ wsL_law := fun _ h => List.mem_append_left _ (List.mem_append_left _ (List.mem_append_left _ (List.mem_append_left _ (List.mem_append_right _ h))))
theorem inX1 : ∀ w ∈ wsX10, w ∈ lw_tbl := fun w h => wsL_law_in w (inlX1 w h)
theorem inlX2 : ∀ w ∈ wsX20, w ∈ wsL_law := fun _ h => List.mem_append_left _ (List.mem_append_right _ h)
theorem inX2 : ∀ w ∈ wsX20, w ∈ lw_tbl := fun w h => wsL_law_in w (inlX2 w h)
theorem inlX3 : ∀ w ∈ wsX30, w ∈ wsL_law := fun _ h => List.mem_append_left _ (List.mem_append_left _ (List.mem_append_left _ (List.mem_append_left _ (List.mem_append_left _ (List.mem_append_left _ (List.mem_append_right _ h))))))
theorem inX3 : ∀ w ∈ wsX30, w ∈ lw_tbl := fun w h => wsL_law_in w (inlX3 w h)
theorem inlX4 : ∀ w ∈ wsX40, w ∈ wsL_law := fun _ h => List.mem_append_left _ (List.mem_append_left _ (List.mem_append_left _ (List.mem_append_left _ (List.mem_append_left _ (List.mem_append_right _ h)))))
theorem inX4 : ∀ w ∈ wsX40, w ∈ lw_tbl := fun w h => wsL_law_in w (inlX4 w h)
theorem inlJx00060 : ∀ w ∈ wsJx000600, w ∈ wsL_law := fun _ h => List.mem_append_left _ (List.mem_append_left _ (List.mem_append_left _ (List.mem_append_right _ h)))
theorem inJx00060 : ∀ w ∈ wsJx000600, w ∈ lw_tbl := fun w h => wsL_law_in w (inlJx00060 w h)
theorem inJ9 : ∀ w ∈ wsJ90, w ∈ lw_tbl := by decide +kernel
theorem inJ0 : ∀ w ∈ wsJ00, w ∈ lw_tbl := by decide +kernel
abbrev vwCl : List vw_C := [(RJx00060, TJx00060, 6), (RX0, TX0, 4), (RX1, TX1, 2), (RX2, TX2, 2), (RX3, TX3, 8), (RX4, TX4, 14)]
end
section
theorem dJx00060_init_a7421_0 : decode cJx00060_init_a7421 0 = .ok (.aload_n 0, 1) := by decide +kernel
theorem dJx00060_init_a7421_1 : decode cJx00060_init_a7421 1 = .ok (.aload_n 1, 1) := by decide +kernel
theorem dJx00060_init_a7421_2 : decode cJx00060_init_a7421 2 = .ok (.invokespecial 7, 3) := by decide +kernel
theorem dJx00060_init_a7421_5 : decode cJx00060_init_a7421 5 = .ok (.return_, 1) := by decide +kernel
theorem dJ9_abs_0f7a4_0 : decode cJ9_abs_0f7a4 0 = .ok (.iload_n 0, 1) := by decide +kernel
theorem dJ9_abs_0f7a4_1 : decode cJ9_abs_0f7a4 1 = .ok (.ifCond .ge 8, 3) := by decide +kernel
theorem dJ9_abs_0f7a4_4 : decode cJ9_abs_0f7a4 4 = .ok (.iload_n 0, 1) := by decide +kernel
theorem dJ9_abs_0f7a4_5 : decode cJ9_abs_0f7a4 5 = .ok (.ineg, 1) := by decide +kernel
theorem dJ9_abs_0f7a4_6 : decode cJ9_abs_0f7a4 6 = .ok (.goto 4, 3) := by decide +kernel
theorem dJ9_abs_0f7a4_9 : decode cJ9_abs_0f7a4 9 = .ok (.iload_n 0, 1) := by decide +kernel
theorem dJ9_abs_0f7a4_10 : decode cJ9_abs_0f7a4 10 = .ok (.ireturn, 1) := by decide +kernel
theorem dJ9_max_7cf53_0 : decode cJ9_max_7cf53 0 = .ok (.iload_n 0, 1) := by decide +kernel
theorem dJ9_max_7cf53_1 : decode cJ9_max_7cf53 1 = .ok (.iload_n 1, 1) := by decide +kernel
theorem dJ9_max_7cf53_2 : decode cJ9_max_7cf53 2 = .ok (.if_icmp .lt 7, 3) := by decide +kernel
theorem dJ9_max_7cf53_5 : decode cJ9_max_7cf53 5 = .ok (.iload_n 0, 1) := by decide +kernel
theorem dJ9_max_7cf53_6 : decode cJ9_max_7cf53 6 = .ok (.goto 4, 3) := by decide +kernel
theorem dJ9_max_7cf53_9 : decode cJ9_max_7cf53 9 = .ok (.iload_n 1, 1) := by decide +kernel
theorem dJ9_max_7cf53_10 : decode cJ9_max_7cf53 10 = .ok (.ireturn, 1) := by decide +kernel
theorem dJ9_min_7cf53_0 : decode cJ9_min_7cf53 0 = .ok (.iload_n 0, 1) := by decide +kernel
theorem dJ9_min_7cf53_1 : decode cJ9_min_7cf53 1 = .ok (.iload_n 1, 1) := by decide +kernel
theorem dJ9_min_7cf53_2 : decode cJ9_min_7cf53 2 = .ok (.if_icmp .gt 7, 3) := by decide +kernel
theorem dJ9_min_7cf53_5 : decode cJ9_min_7cf53 5 = .ok (.iload_n 0, 1) := by decide +kernel
theorem dJ9_min_7cf53_6 : decode cJ9_min_7cf53 6 = .ok (.goto 4, 3) := by decide +kernel
theorem dJ9_min_7cf53_9 : decode cJ9_min_7cf53 9 = .ok (.iload_n 1, 1) := by decide +kernel
theorem dJ9_min_7cf53_10 : decode cJ9_min_7cf53 10 = .ok (.ireturn, 1) := by decide +kernel
theorem dX0_init_0 : decode cX0_init 0 = .ok (.aload_n 0, 1) := by decide +kernel
theorem dX0_init_1 : decode cX0_init 1 = .ok (.invokespecial 3, 3) := by decide +kernel
theorem dX0_init_4 : decode cX0_init 4 = .ok (.aload_n 0, 1) := by decide +kernel
theorem dX0_init_5 : decode cX0_init 5 = .ok (.sipush 256, 3) := by decide +kernel
theorem dX0_init_8 : decode cX0_init 8 = .ok (.newarray .int, 2) := by decide +kernel
theorem dX0_init_10 : decode cX0_init 10 = .ok (.putfield 9, 3) := by decide +kernel
theorem dX0_init_13 : decode cX0_init 13 = .ok (.aload_n 0, 1) := by decide +kernel
theorem dX0_init_14 : decode cX0_init 14 = .ok (.sipush 256, 3) := by decide +kernel
theorem dX0_init_17 : decode cX0_init 17 = .ok (.newarray .boolean, 2) := by decide +kernel
theorem dX0_init_19 : decode cX0_init 19 = .ok (.putfield 15, 3) := by decide +kernel
theorem dX0_init_22 : decode cX0_init 22 = .ok (.aload_n 0, 1) := by decide +kernel
theorem dX0_init_23 : decode cX0_init 23 = .ok (.iconst 0, 1) := by decide +kernel
theorem dX0_init_24 : decode cX0_init 24 = .ok (.putfield 19, 3) := by decide +kernel
theorem dX0_init_27 : decode cX0_init 27 = .ok (.aload_n 0, 1) := by decide +kernel
theorem dX0_init_28 : decode cX0_init 28 = .ok (.iload_n 1, 1) := by decide +kernel
theorem dX0_init_29 : decode cX0_init 29 = .ok (.putfield 23, 3) := by decide +kernel
theorem dX0_init_32 : decode cX0_init 32 = .ok (.iconst 0, 1) := by decide +kernel
theorem dX0_init_33 : decode cX0_init 33 = .ok (.istore_n 2, 1) := by decide +kernel
theorem dX0_init_34 : decode cX0_init 34 = .ok (.iload_n 2, 1) := by decide +kernel
theorem dX0_init_35 : decode cX0_init 35 = .ok (.sipush 256, 3) := by decide +kernel
theorem dX0_init_38 : decode cX0_init 38 = .ok (.if_icmp .ge 16, 3) := by decide +kernel
theorem dX0_init_41 : decode cX0_init 41 = .ok (.aload_n 0, 1) := by decide +kernel
theorem dX0_init_42 : decode cX0_init 42 = .ok (.getfield 9, 3) := by decide +kernel
theorem dX0_init_45 : decode cX0_init 45 = .ok (.iload_n 2, 1) := by decide +kernel
theorem dX0_init_46 : decode cX0_init 46 = .ok (.iload_n 2, 1) := by decide +kernel
theorem dX0_init_47 : decode cX0_init 47 = .ok (.iastore, 1) := by decide +kernel
theorem dX0_init_48 : decode cX0_init 48 = .ok (.iinc 2 1, 3) := by decide +kernel
theorem dX0_init_51 : decode cX0_init 51 = .ok (.goto (-17), 3) := by decide +kernel
theorem dX0_init_54 : decode cX0_init 54 = .ok (.return_, 1) := by decide +kernel
set_option maxRecDepth 20000 in
theorem ggX0_rankBy_X0_sortKey : GoodIn wsX0_rankBy wsX0_sortKey := goodIn_r _ [6, 7] (by decide +kernel) (by decide +kernel)
set_option maxRecDepth 20000 in
theorem gX0_rankBy_X0_sortKey : GoodIn wsX0_rankBy (va_wsS RX0 27 yX0_sortKey wsX0_sortKey) := goodIn_app (goodIn_of _ (by decide +kernel)) ggX0_rankBy_X0_sortKey
theorem dX0_rankBy_0 : decode cX0_rankBy 0 = .ok (.sipush 256, 3) := by decide +kernel
theorem dX0_rankBy_3 : decode cX0_rankBy 3 = .ok (.newarray .int, 2) := by decide +kernel
theorem dX0_rankBy_5 : decode cX0_rankBy 5 = .ok (.astore_n 2, 1) := by decide +kernel
theorem dX0_rankBy_6 : decode cX0_rankBy 6 = .ok (.iconst 0, 1) := by decide +kernel
theorem dX0_rankBy_7 : decode cX0_rankBy 7 = .ok (.istore_n 3, 1) := by decide +kernel
theorem dX0_rankBy_8 : decode cX0_rankBy 8 = .ok (.iload_n 3, 1) := by decide +kernel
theorem dX0_rankBy_9 : decode cX0_rankBy 9 = .ok (.sipush 256, 3) := by decide +kernel
theorem dX0_rankBy_12 : decode cX0_rankBy 12 = .ok (.if_icmp .ge 56, 3) := by decide +kernel
theorem dX0_rankBy_15 : decode cX0_rankBy 15 = .ok (.iload_n 3, 1) := by decide +kernel
theorem dX0_rankBy_16 : decode cX0_rankBy 16 = .ok (.istore 4, 2) := by decide +kernel
theorem dX0_rankBy_18 : decode cX0_rankBy 18 = .ok (.iload 4, 2) := by decide +kernel
theorem dX0_rankBy_20 : decode cX0_rankBy 20 = .ok (.ifCond .le 37, 3) := by decide +kernel
theorem dX0_rankBy_23 : decode cX0_rankBy 23 = .ok (.aload_n 1, 1) := by decide +kernel
theorem dX0_rankBy_24 : decode cX0_rankBy 24 = .ok (.iload_n 3, 1) := by decide +kernel
theorem dX0_rankBy_25 : decode cX0_rankBy 25 = .ok (.invokestatic 27, 3) := by decide +kernel
theorem dX0_rankBy_28 : decode cX0_rankBy 28 = .ok (.aload_n 1, 1) := by decide +kernel
theorem dX0_rankBy_29 : decode cX0_rankBy 29 = .ok (.aload_n 2, 1) := by decide +kernel
theorem dX0_rankBy_30 : decode cX0_rankBy 30 = .ok (.iload 4, 2) := by decide +kernel
theorem dX0_rankBy_32 : decode cX0_rankBy 32 = .ok (.iconst 1, 1) := by decide +kernel
theorem dX0_rankBy_33 : decode cX0_rankBy 33 = .ok (.isub, 1) := by decide +kernel
theorem dX0_rankBy_34 : decode cX0_rankBy 34 = .ok (.iaload, 1) := by decide +kernel
theorem dX0_rankBy_35 : decode cX0_rankBy 35 = .ok (.invokestatic 27, 3) := by decide +kernel
theorem dX0_rankBy_38 : decode cX0_rankBy 38 = .ok (.if_icmp .ge 19, 3) := by decide +kernel
theorem dX0_rankBy_41 : decode cX0_rankBy 41 = .ok (.aload_n 2, 1) := by decide +kernel
theorem dX0_rankBy_42 : decode cX0_rankBy 42 = .ok (.iload 4, 2) := by decide +kernel
theorem dX0_rankBy_44 : decode cX0_rankBy 44 = .ok (.aload_n 2, 1) := by decide +kernel
theorem dX0_rankBy_45 : decode cX0_rankBy 45 = .ok (.iload 4, 2) := by decide +kernel
theorem dX0_rankBy_47 : decode cX0_rankBy 47 = .ok (.iconst 1, 1) := by decide +kernel
theorem dX0_rankBy_48 : decode cX0_rankBy 48 = .ok (.isub, 1) := by decide +kernel
theorem dX0_rankBy_49 : decode cX0_rankBy 49 = .ok (.iaload, 1) := by decide +kernel
theorem dX0_rankBy_50 : decode cX0_rankBy 50 = .ok (.iastore, 1) := by decide +kernel
theorem dX0_rankBy_51 : decode cX0_rankBy 51 = .ok (.iinc 4 (-1), 3) := by decide +kernel
theorem dX0_rankBy_54 : decode cX0_rankBy 54 = .ok (.goto (-36), 3) := by decide +kernel
theorem dX0_rankBy_57 : decode cX0_rankBy 57 = .ok (.aload_n 2, 1) := by decide +kernel
theorem dX0_rankBy_58 : decode cX0_rankBy 58 = .ok (.iload 4, 2) := by decide +kernel
theorem dX0_rankBy_60 : decode cX0_rankBy 60 = .ok (.iload_n 3, 1) := by decide +kernel
theorem dX0_rankBy_61 : decode cX0_rankBy 61 = .ok (.iastore, 1) := by decide +kernel
theorem dX0_rankBy_62 : decode cX0_rankBy 62 = .ok (.iinc 3 1, 3) := by decide +kernel
theorem dX0_rankBy_65 : decode cX0_rankBy 65 = .ok (.goto (-57), 3) := by decide +kernel
theorem dX0_rankBy_68 : decode cX0_rankBy 68 = .ok (.iconst 0, 1) := by decide +kernel
theorem dX0_rankBy_69 : decode cX0_rankBy 69 = .ok (.istore_n 3, 1) := by decide +kernel
theorem dX0_rankBy_70 : decode cX0_rankBy 70 = .ok (.iload_n 3, 1) := by decide +kernel
theorem dX0_rankBy_71 : decode cX0_rankBy 71 = .ok (.sipush 256, 3) := by decide +kernel
theorem dX0_rankBy_74 : decode cX0_rankBy 74 = .ok (.if_icmp .ge 18, 3) := by decide +kernel
theorem dX0_rankBy_77 : decode cX0_rankBy 77 = .ok (.aload_n 0, 1) := by decide +kernel
theorem dX0_rankBy_78 : decode cX0_rankBy 78 = .ok (.getfield 9, 3) := by decide +kernel
theorem dX0_rankBy_81 : decode cX0_rankBy 81 = .ok (.aload_n 2, 1) := by decide +kernel
theorem dX0_rankBy_82 : decode cX0_rankBy 82 = .ok (.iload_n 3, 1) := by decide +kernel
theorem dX0_rankBy_83 : decode cX0_rankBy 83 = .ok (.iaload, 1) := by decide +kernel
theorem dX0_rankBy_84 : decode cX0_rankBy 84 = .ok (.iload_n 3, 1) := by decide +kernel
theorem dX0_rankBy_85 : decode cX0_rankBy 85 = .ok (.iastore, 1) := by decide +kernel
theorem dX0_rankBy_86 : decode cX0_rankBy 86 = .ok (.iinc 3 1, 3) := by decide +kernel
theorem dX0_rankBy_89 : decode cX0_rankBy 89 = .ok (.goto (-19), 3) := by decide +kernel
theorem dX0_rankBy_92 : decode cX0_rankBy 92 = .ok (.return_, 1) := by decide +kernel
theorem dX0_sortKey_0 : decode cX0_sortKey 0 = .ok (.aload_n 0, 1) := by decide +kernel
theorem dX0_sortKey_1 : decode cX0_sortKey 1 = .ok (.iload_n 1, 1) := by decide +kernel
theorem dX0_sortKey_2 : decode cX0_sortKey 2 = .ok (.iaload, 1) := by decide +kernel
theorem dX0_sortKey_3 : decode cX0_sortKey 3 = .ok (.iconst (-1), 1) := by decide +kernel
theorem dX0_sortKey_4 : decode cX0_sortKey 4 = .ok (.if_icmp .ne 10, 3) := by decide +kernel
theorem dX0_sortKey_7 : decode cX0_sortKey 7 = .ok (.ldc 31, 2) := by decide +kernel
theorem dX0_sortKey_9 : decode cX0_sortKey 9 = .ok (.iload_n 1, 1) := by decide +kernel
theorem dX0_sortKey_10 : decode cX0_sortKey 10 = .ok (.iadd, 1) := by decide +kernel
theorem dX0_sortKey_11 : decode cX0_sortKey 11 = .ok (.goto 6, 3) := by decide +kernel
theorem dX0_sortKey_14 : decode cX0_sortKey 14 = .ok (.aload_n 0, 1) := by decide +kernel
theorem dX0_sortKey_15 : decode cX0_sortKey 15 = .ok (.iload_n 1, 1) := by decide +kernel
theorem dX0_sortKey_16 : decode cX0_sortKey 16 = .ok (.iaload, 1) := by decide +kernel
theorem dX0_sortKey_17 : decode cX0_sortKey 17 = .ok (.ireturn, 1) := by decide +kernel
set_option maxRecDepth 20000 in
theorem ggX0_addEqual_X0_rankThoseOutside : GoodIn wsX0_addEqual wsX0_rankThoseOutside := goodIn_r _ [7, 8, 1, 2, 9, 10, 11, 12] (by decide +kernel) (by decide +kernel)
set_option maxRecDepth 20000 in
theorem gX0_addEqual_X0_rankThoseOutside : GoodIn wsX0_addEqual (wsV RX0 32 RX0 yX0_rankThoseOutside wsX0_rankThoseOutside) := goodIn_app (goodIn_of _ (by decide +kernel)) ggX0_addEqual_X0_rankThoseOutside
theorem dX0_addEqual_0 : decode cX0_addEqual 0 = .ok (.aload_n 0, 1) := by decide +kernel
theorem dX0_addEqual_1 : decode cX0_addEqual 1 = .ok (.getfield 15, 3) := by decide +kernel
theorem dX0_addEqual_4 : decode cX0_addEqual 4 = .ok (.iload_n 1, 1) := by decide +kernel
theorem dX0_addEqual_5 : decode cX0_addEqual 5 = .ok (.baload, 1) := by decide +kernel
theorem dX0_addEqual_6 : decode cX0_addEqual 6 = .ok (.ifCond .eq 12, 3) := by decide +kernel
theorem dX0_addEqual_9 : decode cX0_addEqual 9 = .ok (.aload_n 0, 1) := by decide +kernel
theorem dX0_addEqual_10 : decode cX0_addEqual 10 = .ok (.getfield 15, 3) := by decide +kernel
theorem dX0_addEqual_13 : decode cX0_addEqual 13 = .ok (.iload_n 2, 1) := by decide +kernel
theorem dX0_addEqual_14 : decode cX0_addEqual 14 = .ok (.baload, 1) := by decide +kernel
theorem dX0_addEqual_15 : decode cX0_addEqual 15 = .ok (.ifCond .eq 5, 3) := by decide +kernel
theorem dX0_addEqual_18 : decode cX0_addEqual 18 = .ok (.iconst 0, 1) := by decide +kernel
theorem dX0_addEqual_19 : decode cX0_addEqual 19 = .ok (.ireturn, 1) := by decide +kernel
theorem dX0_addEqual_20 : decode cX0_addEqual 20 = .ok (.aload_n 0, 1) := by decide +kernel
theorem dX0_addEqual_21 : decode cX0_addEqual 21 = .ok (.getfield 15, 3) := by decide +kernel
theorem dX0_addEqual_24 : decode cX0_addEqual 24 = .ok (.iload_n 2, 1) := by decide +kernel
theorem dX0_addEqual_25 : decode cX0_addEqual 25 = .ok (.iconst 1, 1) := by decide +kernel
theorem dX0_addEqual_26 : decode cX0_addEqual 26 = .ok (.bastore, 1) := by decide +kernel
theorem dX0_addEqual_27 : decode cX0_addEqual 27 = .ok (.aload_n 0, 1) := by decide +kernel
theorem dX0_addEqual_28 : decode cX0_addEqual 28 = .ok (.getfield 9, 3) := by decide +kernel
theorem dX0_addEqual_31 : decode cX0_addEqual 31 = .ok (.iload_n 2, 1) := by decide +kernel
theorem dX0_addEqual_32 : decode cX0_addEqual 32 = .ok (.aload_n 0, 1) := by decide +kernel
theorem dX0_addEqual_33 : decode cX0_addEqual 33 = .ok (.getfield 9, 3) := by decide +kernel
theorem dX0_addEqual_36 : decode cX0_addEqual 36 = .ok (.iload_n 1, 1) := by decide +kernel
theorem dX0_addEqual_37 : decode cX0_addEqual 37 = .ok (.iaload, 1) := by decide +kernel
theorem dX0_addEqual_38 : decode cX0_addEqual 38 = .ok (.iastore, 1) := by decide +kernel
theorem dX0_addEqual_39 : decode cX0_addEqual 39 = .ok (.aload_n 0, 1) := by decide +kernel
theorem dX0_addEqual_40 : decode cX0_addEqual 40 = .ok (.invokevirtual 32, 3) := by decide +kernel
theorem dX0_addEqual_43 : decode cX0_addEqual 43 = .ok (.iconst 1, 1) := by decide +kernel
theorem dX0_addEqual_44 : decode cX0_addEqual 44 = .ok (.ireturn, 1) := by decide +kernel
set_option maxRecDepth 20000 in
theorem ggX0_addRange_X0_rankThoseOutside : GoodIn wsX0_addRange wsX0_rankThoseOutside := goodIn_r _ [18, 10, 8, 9, 19, 20, 21, 22] (by decide +kernel) (by decide +kernel)
set_option maxRecDepth 20000 in
theorem gX0_addRange_X0_rankThoseOutside : GoodIn wsX0_addRange (wsV RX0 32 RX0 yX0_rankThoseOutside wsX0_rankThoseOutside) := goodIn_app (goodIn_of _ (by decide +kernel)) ggX0_addRange_X0_rankThoseOutside
theorem dX0_addRange_0 : decode cX0_addRange 0 = .ok (.iload_n 1, 1) := by decide +kernel
theorem dX0_addRange_1 : decode cX0_addRange 1 = .ok (.iload_n 2, 1) := by decide +kernel
theorem dX0_addRange_2 : decode cX0_addRange 2 = .ok (.invokestatic 35, 3) := by decide +kernel
theorem dX0_addRange_5 : decode cX0_addRange 5 = .ok (.istore_n 3, 1) := by decide +kernel
theorem dX0_addRange_6 : decode cX0_addRange 6 = .ok (.iload_n 1, 1) := by decide +kernel
theorem dX0_addRange_7 : decode cX0_addRange 7 = .ok (.iload_n 2, 1) := by decide +kernel
theorem dX0_addRange_8 : decode cX0_addRange 8 = .ok (.invokestatic 41, 3) := by decide +kernel
theorem dX0_addRange_11 : decode cX0_addRange 11 = .ok (.istore 4, 2) := by decide +kernel
theorem dX0_addRange_13 : decode cX0_addRange 13 = .ok (.iload_n 3, 1) := by decide +kernel
theorem dX0_addRange_14 : decode cX0_addRange 14 = .ok (.istore 5, 2) := by decide +kernel
theorem dX0_addRange_16 : decode cX0_addRange 16 = .ok (.iload 5, 2) := by decide +kernel
theorem dX0_addRange_18 : decode cX0_addRange 18 = .ok (.iload 4, 2) := by decide +kernel
theorem dX0_addRange_20 : decode cX0_addRange 20 = .ok (.if_icmp .gt 21, 3) := by decide +kernel
theorem dX0_addRange_23 : decode cX0_addRange 23 = .ok (.aload_n 0, 1) := by decide +kernel
theorem dX0_addRange_24 : decode cX0_addRange 24 = .ok (.getfield 15, 3) := by decide +kernel
theorem dX0_addRange_27 : decode cX0_addRange 27 = .ok (.iload 5, 2) := by decide +kernel
theorem dX0_addRange_29 : decode cX0_addRange 29 = .ok (.baload, 1) := by decide +kernel
theorem dX0_addRange_30 : decode cX0_addRange 30 = .ok (.ifCond .eq 5, 3) := by decide +kernel
theorem dX0_addRange_33 : decode cX0_addRange 33 = .ok (.iconst 0, 1) := by decide +kernel
theorem dX0_addRange_34 : decode cX0_addRange 34 = .ok (.ireturn, 1) := by decide +kernel
theorem dX0_addRange_35 : decode cX0_addRange 35 = .ok (.iinc 5 1, 3) := by decide +kernel
theorem dX0_addRange_38 : decode cX0_addRange 38 = .ok (.goto (-22), 3) := by decide +kernel
theorem dX0_addRange_41 : decode cX0_addRange 41 = .ok (.iload_n 3, 1) := by decide +kernel
theorem dX0_addRange_42 : decode cX0_addRange 42 = .ok (.istore 5, 2) := by decide +kernel
theorem dX0_addRange_44 : decode cX0_addRange 44 = .ok (.iload 5, 2) := by decide +kernel
theorem dX0_addRange_46 : decode cX0_addRange 46 = .ok (.iload 4, 2) := by decide +kernel
theorem dX0_addRange_48 : decode cX0_addRange 48 = .ok (.if_icmp .gt 36, 3) := by decide +kernel
theorem dX0_addRange_51 : decode cX0_addRange 51 = .ok (.aload_n 0, 1) := by decide +kernel
theorem dX0_addRange_52 : decode cX0_addRange 52 = .ok (.getfield 15, 3) := by decide +kernel
theorem dX0_addRange_55 : decode cX0_addRange 55 = .ok (.iload 5, 2) := by decide +kernel
theorem dX0_addRange_57 : decode cX0_addRange 57 = .ok (.iconst 1, 1) := by decide +kernel
theorem dX0_addRange_58 : decode cX0_addRange 58 = .ok (.bastore, 1) := by decide +kernel
theorem dX0_addRange_59 : decode cX0_addRange 59 = .ok (.aload_n 0, 1) := by decide +kernel
theorem dX0_addRange_60 : decode cX0_addRange 60 = .ok (.getfield 9, 3) := by decide +kernel
theorem dX0_addRange_63 : decode cX0_addRange 63 = .ok (.iload 5, 2) := by decide +kernel
theorem dX0_addRange_65 : decode cX0_addRange 65 = .ok (.aload_n 0, 1) := by decide +kernel
theorem dX0_addRange_66 : decode cX0_addRange 66 = .ok (.getfield 19, 3) := by decide +kernel
theorem dX0_addRange_69 : decode cX0_addRange 69 = .ok (.iload 5, 2) := by decide +kernel
theorem dX0_addRange_71 : decode cX0_addRange 71 = .ok (.iload_n 1, 1) := by decide +kernel
theorem dX0_addRange_72 : decode cX0_addRange 72 = .ok (.isub, 1) := by decide +kernel
theorem dX0_addRange_73 : decode cX0_addRange 73 = .ok (.invokestatic 44, 3) := by decide +kernel
theorem dX0_addRange_76 : decode cX0_addRange 76 = .ok (.iadd, 1) := by decide +kernel
theorem dX0_addRange_77 : decode cX0_addRange 77 = .ok (.iastore, 1) := by decide +kernel
theorem dX0_addRange_78 : decode cX0_addRange 78 = .ok (.iinc 5 1, 3) := by decide +kernel
theorem dX0_addRange_81 : decode cX0_addRange 81 = .ok (.goto (-37), 3) := by decide +kernel
theorem dX0_addRange_84 : decode cX0_addRange 84 = .ok (.aload_n 0, 1) := by decide +kernel
theorem dX0_addRange_85 : decode cX0_addRange 85 = .ok (.dup, 1) := by decide +kernel
theorem dX0_addRange_86 : decode cX0_addRange 86 = .ok (.getfield 19, 3) := by decide +kernel
theorem dX0_addRange_89 : decode cX0_addRange 89 = .ok (.iload 4, 2) := by decide +kernel
theorem dX0_addRange_91 : decode cX0_addRange 91 = .ok (.iload_n 3, 1) := by decide +kernel
theorem dX0_addRange_92 : decode cX0_addRange 92 = .ok (.isub, 1) := by decide +kernel
theorem dX0_addRange_93 : decode cX0_addRange 93 = .ok (.iconst 1, 1) := by decide +kernel
theorem dX0_addRange_94 : decode cX0_addRange 94 = .ok (.iadd, 1) := by decide +kernel
theorem dX0_addRange_95 : decode cX0_addRange 95 = .ok (.iadd, 1) := by decide +kernel
theorem dX0_addRange_96 : decode cX0_addRange 96 = .ok (.putfield 19, 3) := by decide +kernel
theorem dX0_addRange_99 : decode cX0_addRange 99 = .ok (.aload_n 0, 1) := by decide +kernel
theorem dX0_addRange_100 : decode cX0_addRange 100 = .ok (.invokevirtual 32, 3) := by decide +kernel
theorem dX0_addRange_103 : decode cX0_addRange 103 = .ok (.iconst 1, 1) := by decide +kernel
theorem dX0_addRange_104 : decode cX0_addRange 104 = .ok (.ireturn, 1) := by decide +kernel
theorem dX0_rankThoseOutside_0 : decode cX0_rankThoseOutside 0 = .ok (.aload_n 0, 1) := by decide +kernel
theorem dX0_rankThoseOutside_1 : decode cX0_rankThoseOutside 1 = .ok (.getfield 19, 3) := by decide +kernel
theorem dX0_rankThoseOutside_4 : decode cX0_rankThoseOutside 4 = .ok (.istore_n 1, 1) := by decide +kernel
theorem dX0_rankThoseOutside_5 : decode cX0_rankThoseOutside 5 = .ok (.iconst 0, 1) := by decide +kernel
theorem dX0_rankThoseOutside_6 : decode cX0_rankThoseOutside 6 = .ok (.istore_n 2, 1) := by decide +kernel
theorem dX0_rankThoseOutside_7 : decode cX0_rankThoseOutside 7 = .ok (.iload_n 2, 1) := by decide +kernel
theorem dX0_rankThoseOutside_8 : decode cX0_rankThoseOutside 8 = .ok (.sipush 256, 3) := by decide +kernel
theorem dX0_rankThoseOutside_11 : decode cX0_rankThoseOutside 11 = .ok (.if_icmp .ge 28, 3) := by decide +kernel
theorem dX0_rankThoseOutside_14 : decode cX0_rankThoseOutside 14 = .ok (.aload_n 0, 1) := by decide +kernel
theorem dX0_rankThoseOutside_15 : decode cX0_rankThoseOutside 15 = .ok (.getfield 15, 3) := by decide +kernel
theorem dX0_rankThoseOutside_18 : decode cX0_rankThoseOutside 18 = .ok (.iload_n 2, 1) := by decide +kernel
theorem dX0_rankThoseOutside_19 : decode cX0_rankThoseOutside 19 = .ok (.baload, 1) := by decide +kernel
theorem dX0_rankThoseOutside_20 : decode cX0_rankThoseOutside 20 = .ok (.ifCond .ne 13, 3) := by decide +kernel
theorem dX0_rankThoseOutside_23 : decode cX0_rankThoseOutside 23 = .ok (.aload_n 0, 1) := by decide +kernel
theorem dX0_rankThoseOutside_24 : decode cX0_rankThoseOutside 24 = .ok (.getfield 9, 3) := by decide +kernel
theorem dX0_rankThoseOutside_27 : decode cX0_rankThoseOutside 27 = .ok (.iload_n 2, 1) := by decide +kernel
theorem dX0_rankThoseOutside_28 : decode cX0_rankThoseOutside 28 = .ok (.iload_n 1, 1) := by decide +kernel
theorem dX0_rankThoseOutside_29 : decode cX0_rankThoseOutside 29 = .ok (.iastore, 1) := by decide +kernel
theorem dX0_rankThoseOutside_30 : decode cX0_rankThoseOutside 30 = .ok (.iinc 1 1, 3) := by decide +kernel
theorem dX0_rankThoseOutside_33 : decode cX0_rankThoseOutside 33 = .ok (.iinc 2 1, 3) := by decide +kernel
theorem dX0_rankThoseOutside_36 : decode cX0_rankThoseOutside 36 = .ok (.goto (-29), 3) := by decide +kernel
theorem dX0_rankThoseOutside_39 : decode cX0_rankThoseOutside 39 = .ok (.return_, 1) := by decide +kernel
theorem dX0_lastCode_0 : decode cX0_lastCode 0 = .ok (.iconst 0, 1) := by decide +kernel
theorem dX0_lastCode_1 : decode cX0_lastCode 1 = .ok (.istore_n 1, 1) := by decide +kernel
theorem dX0_lastCode_2 : decode cX0_lastCode 2 = .ok (.iconst 1, 1) := by decide +kernel
theorem dX0_lastCode_3 : decode cX0_lastCode 3 = .ok (.istore_n 2, 1) := by decide +kernel
theorem dX0_lastCode_4 : decode cX0_lastCode 4 = .ok (.iload_n 2, 1) := by decide +kernel
theorem dX0_lastCode_5 : decode cX0_lastCode 5 = .ok (.sipush 256, 3) := by decide +kernel
theorem dX0_lastCode_8 : decode cX0_lastCode 8 = .ok (.if_icmp .ge 26, 3) := by decide +kernel
theorem dX0_lastCode_11 : decode cX0_lastCode 11 = .ok (.aload_n 0, 1) := by decide +kernel
theorem dX0_lastCode_12 : decode cX0_lastCode 12 = .ok (.getfield 9, 3) := by decide +kernel
theorem dX0_lastCode_15 : decode cX0_lastCode 15 = .ok (.iload_n 2, 1) := by decide +kernel
theorem dX0_lastCode_16 : decode cX0_lastCode 16 = .ok (.iaload, 1) := by decide +kernel
theorem dX0_lastCode_17 : decode cX0_lastCode 17 = .ok (.aload_n 0, 1) := by decide +kernel
theorem dX0_lastCode_18 : decode cX0_lastCode 18 = .ok (.getfield 9, 3) := by decide +kernel
theorem dX0_lastCode_21 : decode cX0_lastCode 21 = .ok (.iload_n 1, 1) := by decide +kernel
theorem dX0_lastCode_22 : decode cX0_lastCode 22 = .ok (.iaload, 1) := by decide +kernel
theorem dX0_lastCode_23 : decode cX0_lastCode 23 = .ok (.if_icmp .lt 5, 3) := by decide +kernel
theorem dX0_lastCode_26 : decode cX0_lastCode 26 = .ok (.iload_n 2, 1) := by decide +kernel
theorem dX0_lastCode_27 : decode cX0_lastCode 27 = .ok (.istore_n 1, 1) := by decide +kernel
theorem dX0_lastCode_28 : decode cX0_lastCode 28 = .ok (.iinc 2 1, 3) := by decide +kernel
theorem dX0_lastCode_31 : decode cX0_lastCode 31 = .ok (.goto (-27), 3) := by decide +kernel
theorem dX0_lastCode_34 : decode cX0_lastCode 34 = .ok (.iload_n 1, 1) := by decide +kernel
theorem dX0_lastCode_35 : decode cX0_lastCode 35 = .ok (.ireturn, 1) := by decide +kernel
set_option maxRecDepth 20000 in
theorem ggX1_init_X1_firstMeaning : GoodIn wsX1_init wsX1_firstMeaning := goodIn_r _ [10] (by decide +kernel) (by decide +kernel)
set_option maxRecDepth 20000 in
theorem gX1_init_X1_firstMeaning : GoodIn wsX1_init (va_wsS RX1 19 yX1_firstMeaning wsX1_firstMeaning) := goodIn_app (goodIn_of _ (by decide +kernel)) ggX1_init_X1_firstMeaning
theorem dX1_init_0 : decode cX1_init 0 = .ok (.aload_n 0, 1) := by decide +kernel
theorem dX1_init_1 : decode cX1_init 1 = .ok (.invokespecial 3, 3) := by decide +kernel
theorem dX1_init_4 : decode cX1_init 4 = .ok (.aload_n 0, 1) := by decide +kernel
theorem dX1_init_5 : decode cX1_init 5 = .ok (.sipush 256, 3) := by decide +kernel
theorem dX1_init_8 : decode cX1_init 8 = .ok (.newarray .int, 2) := by decide +kernel
theorem dX1_init_10 : decode cX1_init 10 = .ok (.putfield 9, 3) := by decide +kernel
theorem dX1_init_13 : decode cX1_init 13 = .ok (.aload_n 0, 1) := by decide +kernel
theorem dX1_init_14 : decode cX1_init 14 = .ok (.bipush 63, 2) := by decide +kernel
theorem dX1_init_16 : decode cX1_init 16 = .ok (.putfield 15, 3) := by decide +kernel
theorem dX1_init_19 : decode cX1_init 19 = .ok (.iconst 0, 1) := by decide +kernel
theorem dX1_init_20 : decode cX1_init 20 = .ok (.istore_n 2, 1) := by decide +kernel
theorem dX1_init_21 : decode cX1_init 21 = .ok (.iload_n 2, 1) := by decide +kernel
theorem dX1_init_22 : decode cX1_init 22 = .ok (.sipush 256, 3) := by decide +kernel
theorem dX1_init_25 : decode cX1_init 25 = .ok (.if_icmp .ge 20, 3) := by decide +kernel
theorem dX1_init_28 : decode cX1_init 28 = .ok (.aload_n 0, 1) := by decide +kernel
theorem dX1_init_29 : decode cX1_init 29 = .ok (.getfield 9, 3) := by decide +kernel
theorem dX1_init_32 : decode cX1_init 32 = .ok (.iload_n 2, 1) := by decide +kernel
theorem dX1_init_33 : decode cX1_init 33 = .ok (.iload_n 1, 1) := by decide +kernel
theorem dX1_init_34 : decode cX1_init 34 = .ok (.iload_n 2, 1) := by decide +kernel
theorem dX1_init_35 : decode cX1_init 35 = .ok (.invokestatic 19, 3) := by decide +kernel
theorem dX1_init_38 : decode cX1_init 38 = .ok (.iastore, 1) := by decide +kernel
theorem dX1_init_39 : decode cX1_init 39 = .ok (.iinc 2 1, 3) := by decide +kernel
theorem dX1_init_42 : decode cX1_init 42 = .ok (.goto (-21), 3) := by decide +kernel
theorem dX1_init_45 : decode cX1_init 45 = .ok (.return_, 1) := by decide +kernel
theorem dX1_firstMeaning_0 : decode cX1_firstMeaning 0 = .ok (.iload_n 0, 1) := by decide +kernel
theorem dX1_firstMeaning_1 : decode cX1_firstMeaning 1 = .ok (.ifCond .ne 16, 3) := by decide +kernel
theorem dX1_firstMeaning_4 : decode cX1_firstMeaning 4 = .ok (.iload_n 1, 1) := by decide +kernel
theorem dX1_firstMeaning_5 : decode cX1_firstMeaning 5 = .ok (.sipush 128, 3) := by decide +kernel
theorem dX1_firstMeaning_8 : decode cX1_firstMeaning 8 = .ok (.if_icmp .ge 7, 3) := by decide +kernel
theorem dX1_firstMeaning_11 : decode cX1_firstMeaning 11 = .ok (.iload_n 1, 1) := by decide +kernel
theorem dX1_firstMeaning_12 : decode cX1_firstMeaning 12 = .ok (.goto 4, 3) := by decide +kernel
theorem dX1_firstMeaning_15 : decode cX1_firstMeaning 15 = .ok (.iconst (-1), 1) := by decide +kernel
theorem dX1_firstMeaning_16 : decode cX1_firstMeaning 16 = .ok (.ireturn, 1) := by decide +kernel
theorem dX1_firstMeaning_17 : decode cX1_firstMeaning 17 = .ok (.iload_n 0, 1) := by decide +kernel
theorem dX1_firstMeaning_18 : decode cX1_firstMeaning 18 = .ok (.iconst 1, 1) := by decide +kernel
theorem dX1_firstMeaning_19 : decode cX1_firstMeaning 19 = .ok (.if_icmp .ne 18, 3) := by decide +kernel
theorem dX1_firstMeaning_22 : decode cX1_firstMeaning 22 = .ok (.sipush 167, 3) := by decide +kernel
theorem dX1_firstMeaning_25 : decode cX1_firstMeaning 25 = .ok (.iload_n 1, 1) := by decide +kernel
theorem dX1_firstMeaning_26 : decode cX1_firstMeaning 26 = .ok (.imul, 1) := by decide +kernel
theorem dX1_firstMeaning_27 : decode cX1_firstMeaning 27 = .ok (.bipush 13, 2) := by decide +kernel
theorem dX1_firstMeaning_29 : decode cX1_firstMeaning 29 = .ok (.iadd, 1) := by decide +kernel
theorem dX1_firstMeaning_30 : decode cX1_firstMeaning 30 = .ok (.sipush 256, 3) := by decide +kernel
theorem dX1_firstMeaning_33 : decode cX1_firstMeaning 33 = .ok (.irem, 1) := by decide +kernel
theorem dX1_firstMeaning_34 : decode cX1_firstMeaning 34 = .ok (.goto 4, 3) := by decide +kernel
theorem dX1_firstMeaning_37 : decode cX1_firstMeaning 37 = .ok (.iconst (-1), 1) := by decide +kernel
theorem dX1_firstMeaning_38 : decode cX1_firstMeaning 38 = .ok (.ireturn, 1) := by decide +kernel
theorem dX1_codeThatMeans_0 : decode cX1_codeThatMeans 0 = .ok (.iload_n 1, 1) := by decide +kernel
theorem dX1_codeThatMeans_1 : decode cX1_codeThatMeans 1 = .ok (.iconst (-1), 1) := by decide +kernel
theorem dX1_codeThatMeans_2 : decode cX1_codeThatMeans 2 = .ok (.if_icmp .ne 5, 3) := by decide +kernel
theorem dX1_codeThatMeans_5 : decode cX1_codeThatMeans 5 = .ok (.iconst (-1), 1) := by decide +kernel
theorem dX1_codeThatMeans_6 : decode cX1_codeThatMeans 6 = .ok (.ireturn, 1) := by decide +kernel
theorem dX1_codeThatMeans_7 : decode cX1_codeThatMeans 7 = .ok (.iconst 0, 1) := by decide +kernel
theorem dX1_codeThatMeans_8 : decode cX1_codeThatMeans 8 = .ok (.istore_n 2, 1) := by decide +kernel
theorem dX1_codeThatMeans_9 : decode cX1_codeThatMeans 9 = .ok (.iload_n 2, 1) := by decide +kernel
theorem dX1_codeThatMeans_10 : decode cX1_codeThatMeans 10 = .ok (.sipush 256, 3) := by decide +kernel
theorem dX1_codeThatMeans_13 : decode cX1_codeThatMeans 13 = .ok (.if_icmp .ge 21, 3) := by decide +kernel
theorem dX1_codeThatMeans_16 : decode cX1_codeThatMeans 16 = .ok (.aload_n 0, 1) := by decide +kernel
theorem dX1_codeThatMeans_17 : decode cX1_codeThatMeans 17 = .ok (.getfield 9, 3) := by decide +kernel
theorem dX1_codeThatMeans_20 : decode cX1_codeThatMeans 20 = .ok (.iload_n 2, 1) := by decide +kernel
theorem dX1_codeThatMeans_21 : decode cX1_codeThatMeans 21 = .ok (.iaload, 1) := by decide +kernel
theorem dX1_codeThatMeans_22 : decode cX1_codeThatMeans 22 = .ok (.iload_n 1, 1) := by decide +kernel
theorem dX1_codeThatMeans_23 : decode cX1_codeThatMeans 23 = .ok (.if_icmp .ne 5, 3) := by decide +kernel
theorem dX1_codeThatMeans_26 : decode cX1_codeThatMeans 26 = .ok (.iload_n 2, 1) := by decide +kernel
theorem dX1_codeThatMeans_27 : decode cX1_codeThatMeans 27 = .ok (.ireturn, 1) := by decide +kernel
theorem dX1_codeThatMeans_28 : decode cX1_codeThatMeans 28 = .ok (.iinc 2 1, 3) := by decide +kernel
theorem dX1_codeThatMeans_31 : decode cX1_codeThatMeans 31 = .ok (.goto (-22), 3) := by decide +kernel
theorem dX1_codeThatMeans_34 : decode cX1_codeThatMeans 34 = .ok (.iconst (-1), 1) := by decide +kernel
theorem dX1_codeThatMeans_35 : decode cX1_codeThatMeans 35 = .ok (.ireturn, 1) := by decide +kernel
theorem dX2_init_0 : decode cX2_init 0 = .ok (.aload_n 0, 1) := by decide +kernel
theorem dX2_init_1 : decode cX2_init 1 = .ok (.invokespecial 3, 3) := by decide +kernel
theorem dX2_init_4 : decode cX2_init 4 = .ok (.aload_n 0, 1) := by decide +kernel
theorem dX2_init_5 : decode cX2_init 5 = .ok (.bipush 40, 2) := by decide +kernel
theorem dX2_init_7 : decode cX2_init 7 = .ok (.newarray .int, 2) := by decide +kernel
theorem dX2_init_9 : decode cX2_init 9 = .ok (.putfield 9, 3) := by decide +kernel
theorem dX2_init_12 : decode cX2_init 12 = .ok (.aload_n 0, 1) := by decide +kernel
theorem dX2_init_13 : decode cX2_init 13 = .ok (.iconst 0, 1) := by decide +kernel
theorem dX2_init_14 : decode cX2_init 14 = .ok (.putfield 15, 3) := by decide +kernel
theorem dX2_init_17 : decode cX2_init 17 = .ok (.return_, 1) := by decide +kernel
theorem dX2_codeOrBlank_0 : decode cX2_codeOrBlank 0 = .ok (.iload_n 1, 1) := by decide +kernel
theorem dX2_codeOrBlank_1 : decode cX2_codeOrBlank 1 = .ok (.ifCond .lt 20, 3) := by decide +kernel
theorem dX2_codeOrBlank_4 : decode cX2_codeOrBlank 4 = .ok (.iload_n 1, 1) := by decide +kernel
theorem dX2_codeOrBlank_5 : decode cX2_codeOrBlank 5 = .ok (.aload_n 0, 1) := by decide +kernel
theorem dX2_codeOrBlank_6 : decode cX2_codeOrBlank 6 = .ok (.getfield 15, 3) := by decide +kernel
theorem dX2_codeOrBlank_9 : decode cX2_codeOrBlank 9 = .ok (.if_icmp .ge 12, 3) := by decide +kernel
theorem dX2_codeOrBlank_12 : decode cX2_codeOrBlank 12 = .ok (.aload_n 0, 1) := by decide +kernel
theorem dX2_codeOrBlank_13 : decode cX2_codeOrBlank 13 = .ok (.getfield 9, 3) := by decide +kernel
theorem dX2_codeOrBlank_16 : decode cX2_codeOrBlank 16 = .ok (.iload_n 1, 1) := by decide +kernel
theorem dX2_codeOrBlank_17 : decode cX2_codeOrBlank 17 = .ok (.iaload, 1) := by decide +kernel
theorem dX2_codeOrBlank_18 : decode cX2_codeOrBlank 18 = .ok (.goto 5, 3) := by decide +kernel
theorem dX2_codeOrBlank_21 : decode cX2_codeOrBlank 21 = .ok (.bipush 32, 2) := by decide +kernel
theorem dX2_codeOrBlank_23 : decode cX2_codeOrBlank 23 = .ok (.ireturn, 1) := by decide +kernel
theorem dX3_init_0 : decode cX3_init 0 = .ok (.aload_n 0, 1) := by decide +kernel
theorem dX3_init_1 : decode cX3_init 1 = .ok (.invokespecial 1, 3) := by decide +kernel
theorem dX3_init_4 : decode cX3_init 4 = .ok (.aload_n 0, 1) := by decide +kernel
theorem dX3_init_5 : decode cX3_init 5 = .ok (.bipush 12, 2) := by decide +kernel
theorem dX3_init_7 : decode cX3_init 7 = .ok (.anewarray 9, 3) := by decide +kernel
theorem dX3_init_10 : decode cX3_init 10 = .ok (.putfield 11, 3) := by decide +kernel
theorem dX3_init_13 : decode cX3_init 13 = .ok (.aload_n 0, 1) := by decide +kernel
theorem dX3_init_14 : decode cX3_init 14 = .ok (.bipush 12, 2) := by decide +kernel
theorem dX3_init_16 : decode cX3_init 16 = .ok (.anewarray 15, 3) := by decide +kernel
theorem dX3_init_19 : decode cX3_init 19 = .ok (.putfield 17, 3) := by decide +kernel
theorem dX3_init_22 : decode cX3_init 22 = .ok (.aload_n 0, 1) := by decide +kernel
theorem dX3_init_23 : decode cX3_init 23 = .ok (.bipush 40, 2) := by decide +kernel
theorem dX3_init_25 : decode cX3_init 25 = .ok (.anewarray 21, 3) := by decide +kernel
theorem dX3_init_28 : decode cX3_init 28 = .ok (.putfield 23, 3) := by decide +kernel
theorem dX3_init_31 : decode cX3_init 31 = .ok (.aload_n 0, 1) := by decide +kernel
theorem dX3_init_32 : decode cX3_init 32 = .ok (.sipush 200, 3) := by decide +kernel
theorem dX3_init_35 : decode cX3_init 35 = .ok (.newarray .int, 2) := by decide +kernel
theorem dX3_init_37 : decode cX3_init 37 = .ok (.putfield 27, 3) := by decide +kernel
theorem dX3_init_40 : decode cX3_init 40 = .ok (.aload_n 0, 1) := by decide +kernel
theorem dX3_init_41 : decode cX3_init 41 = .ok (.iconst 0, 1) := by decide +kernel
theorem dX3_init_42 : decode cX3_init 42 = .ok (.putfield 31, 3) := by decide +kernel
theorem dX3_init_45 : decode cX3_init 45 = .ok (.aload_n 0, 1) := by decide +kernel
theorem dX3_init_46 : decode cX3_init 46 = .ok (.iconst 0, 1) := by decide +kernel
theorem dX3_init_47 : decode cX3_init 47 = .ok (.putfield 35, 3) := by decide +kernel
theorem dX3_init_50 : decode cX3_init 50 = .ok (.aload_n 0, 1) := by decide +kernel
theorem dX3_init_51 : decode cX3_init 51 = .ok (.iconst 0, 1) := by decide +kernel
theorem dX3_init_52 : decode cX3_init 52 = .ok (.putfield 38, 3) := by decide +kernel
theorem dX3_init_55 : decode cX3_init 55 = .ok (.aload_n 0, 1) := by decide +kernel
theorem dX3_init_56 : decode cX3_init 56 = .ok (.iconst 0, 1) := by decide +kernel
theorem dX3_init_57 : decode cX3_init 57 = .ok (.putfield 41, 3) := by decide +kernel
theorem dX3_init_60 : decode cX3_init 60 = .ok (.return_, 1) := by decide +kernel
set_option maxRecDepth 20000 in
theorem ggX3_page_X3_isKind : GoodIn wsX3_page wsX3_isKind := goodIn_r _ [9] (by decide +kernel) (by decide +kernel)
set_option maxRecDepth 20000 in
theorem gX3_page_X3_isKind : GoodIn wsX3_page (va_wsS RX3 44 yX3_isKind wsX3_isKind) := goodIn_app (goodIn_of _ (by decide +kernel)) ggX3_page_X3_isKind
set_option maxRecDepth 20000 in
theorem ggX3_page_X1_init : GoodIn wsX3_page wsX1_init := goodIn_r _ [12, 13, 14, 15, 16, 17, 18, 19, 20, 5, 21, 30, 31] (by decide +kernel) (by decide +kernel)
set_option maxRecDepth 20000 in
theorem gX3_page_X1_init : GoodIn wsX3_page (wsX1_init) := ggX3_page_X1_init
theorem dX3_page_0 : decode cX3_page 0 = .ok (.iload_n 1, 1) := by decide +kernel
theorem dX3_page_1 : decode cX3_page 1 = .ok (.invokestatic 44, 3) := by decide +kernel
theorem dX3_page_4 : decode cX3_page 4 = .ok (.ifCond .ne 6, 3) := by decide +kernel
theorem dX3_page_7 : decode cX3_page 7 = .ok (.bipush (-4), 2) := by decide +kernel
theorem dX3_page_9 : decode cX3_page 9 = .ok (.ireturn, 1) := by decide +kernel
theorem dX3_page_10 : decode cX3_page 10 = .ok (.aload_n 0, 1) := by decide +kernel
theorem dX3_page_11 : decode cX3_page 11 = .ok (.getfield 31, 3) := by decide +kernel
theorem dX3_page_14 : decode cX3_page 14 = .ok (.bipush 12, 2) := by decide +kernel
theorem dX3_page_16 : decode cX3_page 16 = .ok (.if_icmp .lt 5, 3) := by decide +kernel
theorem dX3_page_19 : decode cX3_page 19 = .ok (.iconst (-1), 1) := by decide +kernel
theorem dX3_page_20 : decode cX3_page 20 = .ok (.ireturn, 1) := by decide +kernel
theorem dX3_page_21 : decode cX3_page 21 = .ok (.aload_n 0, 1) := by decide +kernel
theorem dX3_page_22 : decode cX3_page 22 = .ok (.getfield 11, 3) := by decide +kernel
theorem dX3_page_25 : decode cX3_page 25 = .ok (.aload_n 0, 1) := by decide +kernel
theorem dX3_page_26 : decode cX3_page 26 = .ok (.getfield 31, 3) := by decide +kernel
theorem dX3_page_29 : decode cX3_page 29 = .ok (.new 9, 3) := by decide +kernel
theorem dX3_page_32 : decode cX3_page 32 = .ok (.dup, 1) := by decide +kernel
theorem dX3_page_33 : decode cX3_page 33 = .ok (.iload_n 1, 1) := by decide +kernel
theorem dX3_page_34 : decode cX3_page 34 = .ok (.invokespecial 48, 3) := by decide +kernel
theorem dX3_page_37 : decode cX3_page 37 = .ok (.aastore, 1) := by decide +kernel
theorem dX3_page_38 : decode cX3_page 38 = .ok (.aload_n 0, 1) := by decide +kernel
theorem dX3_page_39 : decode cX3_page 39 = .ok (.dup, 1) := by decide +kernel
theorem dX3_page_40 : decode cX3_page 40 = .ok (.getfield 31, 3) := by decide +kernel
theorem dX3_page_43 : decode cX3_page 43 = .ok (.dup_x1, 1) := by decide +kernel
theorem dX3_page_44 : decode cX3_page 44 = .ok (.iconst 1, 1) := by decide +kernel
theorem dX3_page_45 : decode cX3_page 45 = .ok (.iadd, 1) := by decide +kernel
theorem dX3_page_46 : decode cX3_page 46 = .ok (.putfield 31, 3) := by decide +kernel
theorem dX3_page_49 : decode cX3_page 49 = .ok (.ireturn, 1) := by decide +kernel
set_option maxRecDepth 20000 in
theorem ggX3_set_X3_pageAt : GoodIn wsX3_set wsX3_pageAt := goodIn_r _ [6, 7, 23, 24, 25, 26, 27, 28, 29, 30] (by decide +kernel) (by decide +kernel)
set_option maxRecDepth 20000 in
theorem gX3_set_X3_pageAt : GoodIn wsX3_set (wsV RX3 51 RX3 yX3_pageAt wsX3_pageAt) := goodIn_app (goodIn_of _ (by decide +kernel)) ggX3_set_X3_pageAt
set_option maxRecDepth 20000 in
theorem ggX3_set_X3_isCode : GoodIn wsX3_set wsX3_isCode := goodIn_r _ [10] (by decide +kernel) (by decide +kernel)
set_option maxRecDepth 20000 in
theorem gX3_set_X3_isCode : GoodIn wsX3_set (va_wsS RX3 55 yX3_isCode wsX3_isCode) := goodIn_app (goodIn_of _ (by decide +kernel)) ggX3_set_X3_isCode
set_option maxRecDepth 20000 in
theorem ggX3_set_X3_isMeaningOrNone : GoodIn wsX3_set wsX3_isMeaningOrNone := goodIn_r _ [13, 14] (by decide +kernel) (by decide +kernel)
set_option maxRecDepth 20000 in
theorem gX3_set_X3_isMeaningOrNone : GoodIn wsX3_set (va_wsS RX3 58 yX3_isMeaningOrNone wsX3_isMeaningOrNone) := goodIn_app (goodIn_of _ (by decide +kernel)) ggX3_set_X3_isMeaningOrNone
set_option maxRecDepth 20000 in
theorem ggX3_set_X1_codeThatMeans : GoodIn wsX3_set wsX1_codeThatMeans := goodIn_r _ [19, 20, 21, 22] (by decide +kernel) (by decide +kernel)
set_option maxRecDepth 20000 in
theorem gX3_set_X1_codeThatMeans : GoodIn wsX3_set (wsV RX3 61 RX1 yX1_codeThatMeans wsX1_codeThatMeans) := goodIn_app (goodIn_of _ (by decide +kernel)) ggX3_set_X1_codeThatMeans
theorem dX3_set_0 : decode cX3_set 0 = .ok (.aload_n 0, 1) := by decide +kernel
theorem dX3_set_1 : decode cX3_set 1 = .ok (.iload_n 1, 1) := by decide +kernel
theorem dX3_set_2 : decode cX3_set 2 = .ok (.invokevirtual 51, 3) := by decide +kernel
theorem dX3_set_5 : decode cX3_set 5 = .ok (.astore 4, 2) := by decide +kernel
theorem dX3_set_7 : decode cX3_set 7 = .ok (.aload 4, 2) := by decide +kernel
theorem dX3_set_9 : decode cX3_set 9 = .ok (.ifnonnull 6, 3) := by decide +kernel
theorem dX3_set_12 : decode cX3_set 12 = .ok (.bipush (-2), 2) := by decide +kernel
theorem dX3_set_14 : decode cX3_set 14 = .ok (.ireturn, 1) := by decide +kernel
theorem dX3_set_15 : decode cX3_set 15 = .ok (.iload_n 2, 1) := by decide +kernel
theorem dX3_set_16 : decode cX3_set 16 = .ok (.invokestatic 55, 3) := by decide +kernel
theorem dX3_set_19 : decode cX3_set 19 = .ok (.ifCond .eq 10, 3) := by decide +kernel
theorem dX3_set_22 : decode cX3_set 22 = .ok (.iload_n 3, 1) := by decide +kernel
theorem dX3_set_23 : decode cX3_set 23 = .ok (.invokestatic 58, 3) := by decide +kernel
theorem dX3_set_26 : decode cX3_set 26 = .ok (.ifCond .ne 6, 3) := by decide +kernel
theorem dX3_set_29 : decode cX3_set 29 = .ok (.bipush (-4), 2) := by decide +kernel
theorem dX3_set_31 : decode cX3_set 31 = .ok (.ireturn, 1) := by decide +kernel
theorem dX3_set_32 : decode cX3_set 32 = .ok (.aload 4, 2) := by decide +kernel
theorem dX3_set_34 : decode cX3_set 34 = .ok (.iload_n 3, 1) := by decide +kernel
theorem dX3_set_35 : decode cX3_set 35 = .ok (.invokevirtual 61, 3) := by decide +kernel
theorem dX3_set_38 : decode cX3_set 38 = .ok (.istore 5, 2) := by decide +kernel
theorem dX3_set_40 : decode cX3_set 40 = .ok (.iload 5, 2) := by decide +kernel
theorem dX3_set_42 : decode cX3_set 42 = .ok (.iconst (-1), 1) := by decide +kernel
theorem dX3_set_43 : decode cX3_set 43 = .ok (.if_icmp .eq 11, 3) := by decide +kernel
theorem dX3_set_46 : decode cX3_set 46 = .ok (.iload 5, 2) := by decide +kernel
theorem dX3_set_48 : decode cX3_set 48 = .ok (.iload_n 2, 1) := by decide +kernel
theorem dX3_set_49 : decode cX3_set 49 = .ok (.if_icmp .eq 5, 3) := by decide +kernel
theorem dX3_set_52 : decode cX3_set 52 = .ok (.iconst 0, 1) := by decide +kernel
theorem dX3_set_53 : decode cX3_set 53 = .ok (.ireturn, 1) := by decide +kernel
theorem dX3_set_54 : decode cX3_set 54 = .ok (.aload 4, 2) := by decide +kernel
theorem dX3_set_56 : decode cX3_set 56 = .ok (.getfield 65, 3) := by decide +kernel
theorem dX3_set_59 : decode cX3_set 59 = .ok (.iload_n 2, 1) := by decide +kernel
theorem dX3_set_60 : decode cX3_set 60 = .ok (.iload_n 3, 1) := by decide +kernel
theorem dX3_set_61 : decode cX3_set 61 = .ok (.iastore, 1) := by decide +kernel
theorem dX3_set_62 : decode cX3_set 62 = .ok (.iconst 1, 1) := by decide +kernel
theorem dX3_set_63 : decode cX3_set 63 = .ok (.ireturn, 1) := by decide +kernel
set_option maxRecDepth 20000 in
theorem ggX3_row_X3_pageAt : GoodIn wsX3_row wsX3_pageAt := goodIn_r _ [9, 10, 22, 23, 24, 25, 26, 27, 28, 29] (by decide +kernel) (by decide +kernel)
set_option maxRecDepth 20000 in
theorem gX3_row_X3_pageAt : GoodIn wsX3_row (wsV RX3 51 RX3 yX3_pageAt wsX3_pageAt) := goodIn_app (goodIn_of _ (by decide +kernel)) ggX3_row_X3_pageAt
set_option maxRecDepth 20000 in
theorem ggX3_row_X3_isCode : GoodIn wsX3_row wsX3_isCode := goodIn_r _ [13] (by decide +kernel) (by decide +kernel)
set_option maxRecDepth 20000 in
theorem gX3_row_X3_isCode : GoodIn wsX3_row (va_wsS RX3 55 yX3_isCode wsX3_isCode) := goodIn_app (goodIn_of _ (by decide +kernel)) ggX3_row_X3_isCode
theorem dX3_row_0 : decode cX3_row 0 = .ok (.aload_n 0, 1) := by decide +kernel
theorem dX3_row_1 : decode cX3_row 1 = .ok (.iload_n 1, 1) := by decide +kernel
theorem dX3_row_2 : decode cX3_row 2 = .ok (.invokevirtual 51, 3) := by decide +kernel
theorem dX3_row_5 : decode cX3_row 5 = .ok (.astore_n 3, 1) := by decide +kernel
theorem dX3_row_6 : decode cX3_row 6 = .ok (.aload_n 3, 1) := by decide +kernel
theorem dX3_row_7 : decode cX3_row 7 = .ok (.ifnull 10, 3) := by decide +kernel
theorem dX3_row_10 : decode cX3_row 10 = .ok (.iload_n 2, 1) := by decide +kernel
theorem dX3_row_11 : decode cX3_row 11 = .ok (.invokestatic 55, 3) := by decide +kernel
theorem dX3_row_14 : decode cX3_row 14 = .ok (.ifCond .ne 13, 3) := by decide +kernel
theorem dX3_row_17 : decode cX3_row 17 = .ok (.new 68, 3) := by decide +kernel
theorem dX3_row_20 : decode cX3_row 20 = .ok (.dup, 1) := by decide +kernel
theorem dX3_row_21 : decode cX3_row 21 = .ok (.ldc 70, 2) := by decide +kernel
theorem dX3_row_23 : decode cX3_row 23 = .ok (.invokespecial 72, 3) := by decide +kernel
theorem dX3_row_26 : decode cX3_row 26 = .ok (.athrow, 1) := by decide +kernel
theorem dX3_row_27 : decode cX3_row 27 = .ok (.aload_n 3, 1) := by decide +kernel
theorem dX3_row_28 : decode cX3_row 28 = .ok (.getfield 65, 3) := by decide +kernel
theorem dX3_row_31 : decode cX3_row 31 = .ok (.iload_n 2, 1) := by decide +kernel
theorem dX3_row_32 : decode cX3_row 32 = .ok (.iaload, 1) := by decide +kernel
theorem dX3_row_33 : decode cX3_row 33 = .ok (.ireturn, 1) := by decide +kernel
set_option maxRecDepth 20000 in
theorem ggX3_standIn_X3_pageAt : GoodIn wsX3_standIn wsX3_pageAt := goodIn_r _ [6, 7, 13, 14, 15, 16, 17, 18, 19, 20] (by decide +kernel) (by decide +kernel)
set_option maxRecDepth 20000 in
theorem gX3_standIn_X3_pageAt : GoodIn wsX3_standIn (wsV RX3 51 RX3 yX3_pageAt wsX3_pageAt) := goodIn_app (goodIn_of _ (by decide +kernel)) ggX3_standIn_X3_pageAt
set_option maxRecDepth 20000 in
theorem ggX3_standIn_X3_isCode : GoodIn wsX3_standIn wsX3_isCode := goodIn_r _ [10] (by decide +kernel) (by decide +kernel)
set_option maxRecDepth 20000 in
theorem gX3_standIn_X3_isCode : GoodIn wsX3_standIn (va_wsS RX3 55 yX3_isCode wsX3_isCode) := goodIn_app (goodIn_of _ (by decide +kernel)) ggX3_standIn_X3_isCode
theorem dX3_standIn_0 : decode cX3_standIn 0 = .ok (.aload_n 0, 1) := by decide +kernel
theorem dX3_standIn_1 : decode cX3_standIn 1 = .ok (.iload_n 1, 1) := by decide +kernel
theorem dX3_standIn_2 : decode cX3_standIn 2 = .ok (.invokevirtual 51, 3) := by decide +kernel
theorem dX3_standIn_5 : decode cX3_standIn 5 = .ok (.astore_n 3, 1) := by decide +kernel
theorem dX3_standIn_6 : decode cX3_standIn 6 = .ok (.aload_n 3, 1) := by decide +kernel
theorem dX3_standIn_7 : decode cX3_standIn 7 = .ok (.ifnonnull 6, 3) := by decide +kernel
theorem dX3_standIn_10 : decode cX3_standIn 10 = .ok (.bipush (-2), 2) := by decide +kernel
theorem dX3_standIn_12 : decode cX3_standIn 12 = .ok (.ireturn, 1) := by decide +kernel
theorem dX3_standIn_13 : decode cX3_standIn 13 = .ok (.iload_n 2, 1) := by decide +kernel
theorem dX3_standIn_14 : decode cX3_standIn 14 = .ok (.invokestatic 55, 3) := by decide +kernel
theorem dX3_standIn_17 : decode cX3_standIn 17 = .ok (.ifCond .ne 6, 3) := by decide +kernel
theorem dX3_standIn_20 : decode cX3_standIn 20 = .ok (.bipush (-4), 2) := by decide +kernel
theorem dX3_standIn_22 : decode cX3_standIn 22 = .ok (.ireturn, 1) := by decide +kernel
theorem dX3_standIn_23 : decode cX3_standIn 23 = .ok (.aload_n 3, 1) := by decide +kernel
theorem dX3_standIn_24 : decode cX3_standIn 24 = .ok (.getfield 75, 3) := by decide +kernel
theorem dX3_standIn_27 : decode cX3_standIn 27 = .ok (.istore 4, 2) := by decide +kernel
theorem dX3_standIn_29 : decode cX3_standIn 29 = .ok (.aload_n 3, 1) := by decide +kernel
theorem dX3_standIn_30 : decode cX3_standIn 30 = .ok (.iload_n 2, 1) := by decide +kernel
theorem dX3_standIn_31 : decode cX3_standIn 31 = .ok (.putfield 75, 3) := by decide +kernel
theorem dX3_standIn_34 : decode cX3_standIn 34 = .ok (.iload 4, 2) := by decide +kernel
theorem dX3_standIn_36 : decode cX3_standIn 36 = .ok (.ireturn, 1) := by decide +kernel
set_option maxRecDepth 20000 in
theorem ggX3_translate_X3_pageAt : GoodIn wsX3_translate wsX3_pageAt := goodIn_r _ [6, 7, 26, 27, 28, 29, 30, 31, 32, 33] (by decide +kernel) (by decide +kernel)
set_option maxRecDepth 20000 in
theorem gX3_translate_X3_pageAt : GoodIn wsX3_translate (wsV RX3 51 RX3 yX3_pageAt wsX3_pageAt) := goodIn_app (goodIn_of _ (by decide +kernel)) ggX3_translate_X3_pageAt
set_option maxRecDepth 20000 in
theorem ggX3_translate_X3_isCode : GoodIn wsX3_translate wsX3_isCode := goodIn_r _ [10] (by decide +kernel) (by decide +kernel)
set_option maxRecDepth 20000 in
theorem gX3_translate_X3_isCode : GoodIn wsX3_translate (va_wsS RX3 55 yX3_isCode wsX3_isCode) := goodIn_app (goodIn_of _ (by decide +kernel)) ggX3_translate_X3_isCode
set_option maxRecDepth 20000 in
theorem ggX3_translate_X3_findOrEnlist : GoodIn wsX3_translate wsX3_findOrEnlist := goodIn_r _ [14, 15, 16, 17, 18, 19, 20, 21, 22, 23, 24, 25, 26, 27, 28, 29, 30, 31, 32, 33] (by decide +kernel) (by decide +kernel)
set_option maxRecDepth 20000 in
theorem gX3_translate_X3_findOrEnlist : GoodIn wsX3_translate (wsV RX3 78 RX3 yX3_findOrEnlist wsX3_findOrEnlist) := goodIn_app (goodIn_of _ (by decide +kernel)) ggX3_translate_X3_findOrEnlist
theorem dX3_translate_0 : decode cX3_translate 0 = .ok (.aload_n 0, 1) := by decide +kernel
theorem dX3_translate_1 : decode cX3_translate 1 = .ok (.iload_n 2, 1) := by decide +kernel
theorem dX3_translate_2 : decode cX3_translate 2 = .ok (.invokevirtual 51, 3) := by decide +kernel
theorem dX3_translate_5 : decode cX3_translate 5 = .ok (.astore 4, 2) := by decide +kernel
theorem dX3_translate_7 : decode cX3_translate 7 = .ok (.aload_n 0, 1) := by decide +kernel
theorem dX3_translate_8 : decode cX3_translate 8 = .ok (.iload_n 3, 1) := by decide +kernel
theorem dX3_translate_9 : decode cX3_translate 9 = .ok (.invokevirtual 51, 3) := by decide +kernel
theorem dX3_translate_12 : decode cX3_translate 12 = .ok (.astore 5, 2) := by decide +kernel
theorem dX3_translate_14 : decode cX3_translate 14 = .ok (.aload 4, 2) := by decide +kernel
theorem dX3_translate_16 : decode cX3_translate 16 = .ok (.ifnull 8, 3) := by decide +kernel
theorem dX3_translate_19 : decode cX3_translate 19 = .ok (.aload 5, 2) := by decide +kernel
theorem dX3_translate_21 : decode cX3_translate 21 = .ok (.ifnonnull 6, 3) := by decide +kernel
theorem dX3_translate_24 : decode cX3_translate 24 = .ok (.bipush (-2), 2) := by decide +kernel
theorem dX3_translate_26 : decode cX3_translate 26 = .ok (.ireturn, 1) := by decide +kernel
theorem dX3_translate_27 : decode cX3_translate 27 = .ok (.iload_n 1, 1) := by decide +kernel
theorem dX3_translate_28 : decode cX3_translate 28 = .ok (.invokestatic 55, 3) := by decide +kernel
theorem dX3_translate_31 : decode cX3_translate 31 = .ok (.ifCond .ne 6, 3) := by decide +kernel
theorem dX3_translate_34 : decode cX3_translate 34 = .ok (.bipush (-4), 2) := by decide +kernel
theorem dX3_translate_36 : decode cX3_translate 36 = .ok (.ireturn, 1) := by decide +kernel
theorem dX3_translate_37 : decode cX3_translate 37 = .ok (.aload_n 0, 1) := by decide +kernel
theorem dX3_translate_38 : decode cX3_translate 38 = .ok (.iload_n 1, 1) := by decide +kernel
theorem dX3_translate_39 : decode cX3_translate 39 = .ok (.aload 4, 2) := by decide +kernel
theorem dX3_translate_41 : decode cX3_translate 41 = .ok (.aload 5, 2) := by decide +kernel
theorem dX3_translate_43 : decode cX3_translate 43 = .ok (.invokevirtual 78, 3) := by decide +kernel
theorem dX3_translate_46 : decode cX3_translate 46 = .ok (.istore 6, 2) := by decide +kernel
theorem dX3_translate_48 : decode cX3_translate 48 = .ok (.iload 6, 2) := by decide +kernel
theorem dX3_translate_50 : decode cX3_translate 50 = .ok (.iconst (-1), 1) := by decide +kernel
theorem dX3_translate_51 : decode cX3_translate 51 = .ok (.if_icmp .eq 8, 3) := by decide +kernel
theorem dX3_translate_54 : decode cX3_translate 54 = .ok (.iload 6, 2) := by decide +kernel
theorem dX3_translate_56 : decode cX3_translate 56 = .ok (.goto 8, 3) := by decide +kernel
theorem dX3_translate_59 : decode cX3_translate 59 = .ok (.aload 5, 2) := by decide +kernel
theorem dX3_translate_61 : decode cX3_translate 61 = .ok (.getfield 75, 3) := by decide +kernel
theorem dX3_translate_64 : decode cX3_translate 64 = .ok (.ireturn, 1) := by decide +kernel
theorem dX3_told_0 : decode cX3_told 0 = .ok (.iload_n 1, 1) := by decide +kernel
theorem dX3_told_1 : decode cX3_told 1 = .ok (.ifCond .lt 20, 3) := by decide +kernel
theorem dX3_told_4 : decode cX3_told 4 = .ok (.iload_n 1, 1) := by decide +kernel
theorem dX3_told_5 : decode cX3_told 5 = .ok (.aload_n 0, 1) := by decide +kernel
theorem dX3_told_6 : decode cX3_told 6 = .ok (.getfield 41, 3) := by decide +kernel
theorem dX3_told_9 : decode cX3_told 9 = .ok (.if_icmp .ge 12, 3) := by decide +kernel
theorem dX3_told_12 : decode cX3_told 12 = .ok (.aload_n 0, 1) := by decide +kernel
theorem dX3_told_13 : decode cX3_told 13 = .ok (.getfield 27, 3) := by decide +kernel
theorem dX3_told_16 : decode cX3_told 16 = .ok (.iload_n 1, 1) := by decide +kernel
theorem dX3_told_17 : decode cX3_told 17 = .ok (.iaload, 1) := by decide +kernel
theorem dX3_told_18 : decode cX3_told 18 = .ok (.goto 4, 3) := by decide +kernel
theorem dX3_told_21 : decode cX3_told 21 = .ok (.iconst (-1), 1) := by decide +kernel
theorem dX3_told_22 : decode cX3_told 22 = .ok (.ireturn, 1) := by decide +kernel
set_option maxRecDepth 20000 in
theorem ggX3_order_X3_isKind : GoodIn wsX3_order wsX3_isKind := goodIn_r _ [10] (by decide +kernel) (by decide +kernel)
set_option maxRecDepth 20000 in
theorem gX3_order_X3_isKind : GoodIn wsX3_order (va_wsS RX3 44 yX3_isKind wsX3_isKind) := goodIn_app (goodIn_of _ (by decide +kernel)) ggX3_order_X3_isKind
set_option maxRecDepth 20000 in
theorem ggX3_order_X0_init : GoodIn wsX3_order wsX0_init := goodIn_r _ [13, 14, 15, 16, 17, 18, 19, 20, 21, 22, 44, 45, 46, 47] (by decide +kernel) (by decide +kernel)
set_option maxRecDepth 20000 in
theorem gX3_order_X0_init : GoodIn wsX3_order (wsX0_init) := ggX3_order_X0_init
set_option maxRecDepth 20000 in
theorem ggX3_order_X3_pageAt : GoodIn wsX3_order wsX3_pageAt := goodIn_r _ [26, 27, 36, 37, 38, 39, 40, 41, 42, 43] (by decide +kernel) (by decide +kernel)
set_option maxRecDepth 20000 in
theorem gX3_order_X3_pageAt : GoodIn wsX3_order (wsV RX3 51 RX3 yX3_pageAt wsX3_pageAt) := goodIn_app (goodIn_of _ (by decide +kernel)) ggX3_order_X3_pageAt
set_option maxRecDepth 20000 in
theorem ggX3_order_X0_rankBy : GoodIn wsX3_order wsX0_rankBy := goodIn_r _ [31, 17, 18, 32, 33, 4, 34, 35, 44, 45, 46, 47] (by decide +kernel) (by decide +kernel)
set_option maxRecDepth 20000 in
theorem gX3_order_X0_rankBy : GoodIn wsX3_order (wsV RX3 85 RX0 yX0_rankBy wsX0_rankBy) := goodIn_app (goodIn_of _ (by decide +kernel)) ggX3_order_X0_rankBy
theorem dX3_order_0 : decode cX3_order 0 = .ok (.iload_n 1, 1) := by decide +kernel
theorem dX3_order_1 : decode cX3_order 1 = .ok (.invokestatic 44, 3) := by decide +kernel
theorem dX3_order_4 : decode cX3_order 4 = .ok (.ifCond .ne 6, 3) := by decide +kernel
theorem dX3_order_7 : decode cX3_order 7 = .ok (.bipush (-4), 2) := by decide +kernel
theorem dX3_order_9 : decode cX3_order 9 = .ok (.ireturn, 1) := by decide +kernel
theorem dX3_order_10 : decode cX3_order 10 = .ok (.aload_n 0, 1) := by decide +kernel
theorem dX3_order_11 : decode cX3_order 11 = .ok (.getfield 35, 3) := by decide +kernel
theorem dX3_order_14 : decode cX3_order 14 = .ok (.bipush 12, 2) := by decide +kernel
theorem dX3_order_16 : decode cX3_order 16 = .ok (.if_icmp .lt 5, 3) := by decide +kernel
theorem dX3_order_19 : decode cX3_order 19 = .ok (.iconst (-1), 1) := by decide +kernel
theorem dX3_order_20 : decode cX3_order 20 = .ok (.ireturn, 1) := by decide +kernel
theorem dX3_order_21 : decode cX3_order 21 = .ok (.new 15, 3) := by decide +kernel
theorem dX3_order_24 : decode cX3_order 24 = .ok (.dup, 1) := by decide +kernel
theorem dX3_order_25 : decode cX3_order 25 = .ok (.iload_n 1, 1) := by decide +kernel
theorem dX3_order_26 : decode cX3_order 26 = .ok (.iconst 2, 1) := by decide +kernel
theorem dX3_order_27 : decode cX3_order 27 = .ok (.if_icmp .ne 7, 3) := by decide +kernel
theorem dX3_order_30 : decode cX3_order 30 = .ok (.iconst 1, 1) := by decide +kernel
theorem dX3_order_31 : decode cX3_order 31 = .ok (.goto 4, 3) := by decide +kernel
theorem dX3_order_34 : decode cX3_order 34 = .ok (.iconst 0, 1) := by decide +kernel
theorem dX3_order_35 : decode cX3_order 35 = .ok (.invokespecial 82, 3) := by decide +kernel
theorem dX3_order_38 : decode cX3_order 38 = .ok (.astore_n 2, 1) := by decide +kernel
theorem dX3_order_39 : decode cX3_order 39 = .ok (.aload_n 0, 1) := by decide +kernel
theorem dX3_order_40 : decode cX3_order 40 = .ok (.iconst 0, 1) := by decide +kernel
theorem dX3_order_41 : decode cX3_order 41 = .ok (.invokevirtual 51, 3) := by decide +kernel
theorem dX3_order_44 : decode cX3_order 44 = .ok (.astore_n 3, 1) := by decide +kernel
theorem dX3_order_45 : decode cX3_order 45 = .ok (.iload_n 1, 1) := by decide +kernel
theorem dX3_order_46 : decode cX3_order 46 = .ok (.iconst 1, 1) := by decide +kernel
theorem dX3_order_47 : decode cX3_order 47 = .ok (.if_icmp .ne 15, 3) := by decide +kernel
theorem dX3_order_50 : decode cX3_order 50 = .ok (.aload_n 3, 1) := by decide +kernel
theorem dX3_order_51 : decode cX3_order 51 = .ok (.ifnull 11, 3) := by decide +kernel
theorem dX3_order_54 : decode cX3_order 54 = .ok (.aload_n 2, 1) := by decide +kernel
theorem dX3_order_55 : decode cX3_order 55 = .ok (.aload_n 3, 1) := by decide +kernel
theorem dX3_order_56 : decode cX3_order 56 = .ok (.getfield 65, 3) := by decide +kernel
theorem dX3_order_59 : decode cX3_order 59 = .ok (.invokevirtual 85, 3) := by decide +kernel
theorem dX3_order_62 : decode cX3_order 62 = .ok (.aload_n 0, 1) := by decide +kernel
theorem dX3_order_63 : decode cX3_order 63 = .ok (.getfield 17, 3) := by decide +kernel
theorem dX3_order_66 : decode cX3_order 66 = .ok (.aload_n 0, 1) := by decide +kernel
theorem dX3_order_67 : decode cX3_order 67 = .ok (.getfield 35, 3) := by decide +kernel
theorem dX3_order_70 : decode cX3_order 70 = .ok (.aload_n 2, 1) := by decide +kernel
theorem dX3_order_71 : decode cX3_order 71 = .ok (.aastore, 1) := by decide +kernel
theorem dX3_order_72 : decode cX3_order 72 = .ok (.aload_n 0, 1) := by decide +kernel
theorem dX3_order_73 : decode cX3_order 73 = .ok (.dup, 1) := by decide +kernel
theorem dX3_order_74 : decode cX3_order 74 = .ok (.getfield 35, 3) := by decide +kernel
theorem dX3_order_77 : decode cX3_order 77 = .ok (.dup_x1, 1) := by decide +kernel
theorem dX3_order_78 : decode cX3_order 78 = .ok (.iconst 1, 1) := by decide +kernel
theorem dX3_order_79 : decode cX3_order 79 = .ok (.iadd, 1) := by decide +kernel
theorem dX3_order_80 : decode cX3_order 80 = .ok (.putfield 35, 3) := by decide +kernel
theorem dX3_order_83 : decode cX3_order 83 = .ok (.ireturn, 1) := by decide +kernel
set_option maxRecDepth 20000 in
theorem ggX3_also_X3_orderAt : GoodIn wsX3_also wsX3_orderAt := goodIn_r _ [6, 7, 30, 31, 32, 33, 34, 35, 36, 37] (by decide +kernel) (by decide +kernel)
set_option maxRecDepth 20000 in
theorem gX3_also_X3_orderAt : GoodIn wsX3_also (wsV RX3 89 RX3 yX3_orderAt wsX3_orderAt) := goodIn_app (goodIn_of _ (by decide +kernel)) ggX3_also_X3_orderAt
set_option maxRecDepth 20000 in
theorem ggX3_also_X3_alphabetRefusal : GoodIn wsX3_also wsX3_alphabetRefusal := goodIn_r _ [10, 11, 12, 5, 13] (by decide +kernel) (by decide +kernel)
set_option maxRecDepth 20000 in
theorem gX3_also_X3_alphabetRefusal : GoodIn wsX3_also (va_wsS RX3 97 yX3_alphabetRefusal wsX3_alphabetRefusal) := goodIn_app (goodIn_of _ (by decide +kernel)) ggX3_also_X3_alphabetRefusal
set_option maxRecDepth 20000 in
theorem ggX3_also_X0_addEqual : GoodIn wsX3_also wsX0_addEqual := goodIn_r _ [18, 19, 20, 21, 22, 23, 17, 24, 25, 26, 27, 28, 29] (by decide +kernel) (by decide +kernel)
set_option maxRecDepth 20000 in
theorem gX3_also_X0_addEqual : GoodIn wsX3_also (wsV RX3 101 RX0 yX0_addEqual wsX0_addEqual) := goodIn_app (goodIn_of _ (by decide +kernel)) ggX3_also_X0_addEqual
theorem dX3_also_0 : decode cX3_also 0 = .ok (.aload_n 0, 1) := by decide +kernel
theorem dX3_also_1 : decode cX3_also 1 = .ok (.iload_n 1, 1) := by decide +kernel
theorem dX3_also_2 : decode cX3_also 2 = .ok (.invokevirtual 89, 3) := by decide +kernel
theorem dX3_also_5 : decode cX3_also 5 = .ok (.astore 4, 2) := by decide +kernel
theorem dX3_also_7 : decode cX3_also 7 = .ok (.aload 4, 2) := by decide +kernel
theorem dX3_also_9 : decode cX3_also 9 = .ok (.ifnonnull 6, 3) := by decide +kernel
theorem dX3_also_12 : decode cX3_also 12 = .ok (.bipush (-2), 2) := by decide +kernel
theorem dX3_also_14 : decode cX3_also 14 = .ok (.ireturn, 1) := by decide +kernel
theorem dX3_also_15 : decode cX3_also 15 = .ok (.aload 4, 2) := by decide +kernel
theorem dX3_also_17 : decode cX3_also 17 = .ok (.getfield 93, 3) := by decide +kernel
theorem dX3_also_20 : decode cX3_also 20 = .ok (.iload_n 2, 1) := by decide +kernel
theorem dX3_also_21 : decode cX3_also 21 = .ok (.iload_n 3, 1) := by decide +kernel
theorem dX3_also_22 : decode cX3_also 22 = .ok (.invokestatic 97, 3) := by decide +kernel
theorem dX3_also_25 : decode cX3_also 25 = .ok (.istore 5, 2) := by decide +kernel
theorem dX3_also_27 : decode cX3_also 27 = .ok (.iload 5, 2) := by decide +kernel
theorem dX3_also_29 : decode cX3_also 29 = .ok (.ifCond .eq 6, 3) := by decide +kernel
theorem dX3_also_32 : decode cX3_also 32 = .ok (.iload 5, 2) := by decide +kernel
theorem dX3_also_34 : decode cX3_also 34 = .ok (.ireturn, 1) := by decide +kernel
theorem dX3_also_35 : decode cX3_also 35 = .ok (.aload 4, 2) := by decide +kernel
theorem dX3_also_37 : decode cX3_also 37 = .ok (.iload_n 2, 1) := by decide +kernel
theorem dX3_also_38 : decode cX3_also 38 = .ok (.iload_n 3, 1) := by decide +kernel
theorem dX3_also_39 : decode cX3_also 39 = .ok (.invokevirtual 101, 3) := by decide +kernel
theorem dX3_also_42 : decode cX3_also 42 = .ok (.ifCond .eq 7, 3) := by decide +kernel
theorem dX3_also_45 : decode cX3_also 45 = .ok (.iconst 1, 1) := by decide +kernel
theorem dX3_also_46 : decode cX3_also 46 = .ok (.goto 4, 3) := by decide +kernel
theorem dX3_also_49 : decode cX3_also 49 = .ok (.iconst 0, 1) := by decide +kernel
theorem dX3_also_50 : decode cX3_also 50 = .ok (.ireturn, 1) := by decide +kernel
set_option maxRecDepth 20000 in
theorem ggX3_through_X3_orderAt : GoodIn wsX3_through wsX3_orderAt := goodIn_r _ [10, 11, 41, 42, 43, 44, 45, 46, 47, 48] (by decide +kernel) (by decide +kernel)
set_option maxRecDepth 20000 in
theorem gX3_through_X3_orderAt : GoodIn wsX3_through (wsV RX3 89 RX3 yX3_orderAt wsX3_orderAt) := goodIn_app (goodIn_of _ (by decide +kernel)) ggX3_through_X3_orderAt
set_option maxRecDepth 20000 in
theorem ggX3_through_X3_alphabetRefusal : GoodIn wsX3_through wsX3_alphabetRefusal := goodIn_r _ [14, 15, 16, 9, 17] (by decide +kernel) (by decide +kernel)
set_option maxRecDepth 20000 in
theorem gX3_through_X3_alphabetRefusal : GoodIn wsX3_through (va_wsS RX3 97 yX3_alphabetRefusal wsX3_alphabetRefusal) := goodIn_app (goodIn_of _ (by decide +kernel)) ggX3_through_X3_alphabetRefusal
set_option maxRecDepth 20000 in
theorem ggX3_through_X0_addRange : GoodIn wsX3_through wsX0_addRange := goodIn_r _ [22, 23, 24, 4, 25, 26, 27, 28, 29, 30, 31, 32, 3, 5, 33, 34, 35, 21, 36, 37, 38, 39, 40] (by decide +kernel) (by decide +kernel)
set_option maxRecDepth 20000 in
theorem gX3_through_X0_addRange : GoodIn wsX3_through (wsV RX3 105 RX0 yX0_addRange wsX0_addRange) := goodIn_app (goodIn_of _ (by decide +kernel)) ggX3_through_X0_addRange
theorem dX3_through_0 : decode cX3_through 0 = .ok (.aload_n 0, 1) := by decide +kernel
theorem dX3_through_1 : decode cX3_through 1 = .ok (.iload_n 1, 1) := by decide +kernel
theorem dX3_through_2 : decode cX3_through 2 = .ok (.invokevirtual 89, 3) := by decide +kernel
theorem dX3_through_5 : decode cX3_through 5 = .ok (.astore 4, 2) := by decide +kernel
theorem dX3_through_7 : decode cX3_through 7 = .ok (.aload 4, 2) := by decide +kernel
theorem dX3_through_9 : decode cX3_through 9 = .ok (.ifnonnull 6, 3) := by decide +kernel
theorem dX3_through_12 : decode cX3_through 12 = .ok (.bipush (-2), 2) := by decide +kernel
theorem dX3_through_14 : decode cX3_through 14 = .ok (.ireturn, 1) := by decide +kernel
theorem dX3_through_15 : decode cX3_through 15 = .ok (.aload 4, 2) := by decide +kernel
theorem dX3_through_17 : decode cX3_through 17 = .ok (.getfield 93, 3) := by decide +kernel
theorem dX3_through_20 : decode cX3_through 20 = .ok (.iload_n 2, 1) := by decide +kernel
theorem dX3_through_21 : decode cX3_through 21 = .ok (.iload_n 3, 1) := by decide +kernel
theorem dX3_through_22 : decode cX3_through 22 = .ok (.invokestatic 97, 3) := by decide +kernel
theorem dX3_through_25 : decode cX3_through 25 = .ok (.istore 5, 2) := by decide +kernel
theorem dX3_through_27 : decode cX3_through 27 = .ok (.iload 5, 2) := by decide +kernel
theorem dX3_through_29 : decode cX3_through 29 = .ok (.ifCond .eq 6, 3) := by decide +kernel
theorem dX3_through_32 : decode cX3_through 32 = .ok (.iload 5, 2) := by decide +kernel
theorem dX3_through_34 : decode cX3_through 34 = .ok (.ireturn, 1) := by decide +kernel
theorem dX3_through_35 : decode cX3_through 35 = .ok (.aload 4, 2) := by decide +kernel
theorem dX3_through_37 : decode cX3_through 37 = .ok (.iload_n 2, 1) := by decide +kernel
theorem dX3_through_38 : decode cX3_through 38 = .ok (.iload_n 3, 1) := by decide +kernel
theorem dX3_through_39 : decode cX3_through 39 = .ok (.invokevirtual 105, 3) := by decide +kernel
theorem dX3_through_42 : decode cX3_through 42 = .ok (.ifCond .eq 14, 3) := by decide +kernel
theorem dX3_through_45 : decode cX3_through 45 = .ok (.iload_n 3, 1) := by decide +kernel
theorem dX3_through_46 : decode cX3_through 46 = .ok (.iload_n 2, 1) := by decide +kernel
theorem dX3_through_47 : decode cX3_through 47 = .ok (.isub, 1) := by decide +kernel
theorem dX3_through_48 : decode cX3_through 48 = .ok (.invokestatic 108, 3) := by decide +kernel
theorem dX3_through_51 : decode cX3_through 51 = .ok (.iconst 1, 1) := by decide +kernel
theorem dX3_through_52 : decode cX3_through 52 = .ok (.iadd, 1) := by decide +kernel
theorem dX3_through_53 : decode cX3_through 53 = .ok (.goto 4, 3) := by decide +kernel
theorem dX3_through_56 : decode cX3_through 56 = .ok (.iconst 0, 1) := by decide +kernel
theorem dX3_through_57 : decode cX3_through 57 = .ok (.ireturn, 1) := by decide +kernel
set_option maxRecDepth 20000 in
theorem ggX3_text_X2_init : GoodIn wsX3_text wsX2_init := goodIn_r _ [7, 8, 9, 10, 11, 12, 13, 22, 23] (by decide +kernel) (by decide +kernel)
set_option maxRecDepth 20000 in
theorem gX3_text_X2_init_n113 : GoodIn wsX3_text (wsX2_init) := ggX3_text_X2_init
theorem dX3_text_0 : decode cX3_text 0 = .ok (.aload_n 0, 1) := by decide +kernel
theorem dX3_text_1 : decode cX3_text 1 = .ok (.getfield 38, 3) := by decide +kernel
theorem dX3_text_4 : decode cX3_text 4 = .ok (.bipush 40, 2) := by decide +kernel
theorem dX3_text_6 : decode cX3_text 6 = .ok (.if_icmp .lt 5, 3) := by decide +kernel
theorem dX3_text_9 : decode cX3_text 9 = .ok (.iconst (-1), 1) := by decide +kernel
theorem dX3_text_10 : decode cX3_text 10 = .ok (.ireturn, 1) := by decide +kernel
theorem dX3_text_11 : decode cX3_text 11 = .ok (.aload_n 0, 1) := by decide +kernel
theorem dX3_text_12 : decode cX3_text 12 = .ok (.getfield 23, 3) := by decide +kernel
theorem dX3_text_15 : decode cX3_text 15 = .ok (.aload_n 0, 1) := by decide +kernel
theorem dX3_text_16 : decode cX3_text 16 = .ok (.getfield 38, 3) := by decide +kernel
theorem dX3_text_19 : decode cX3_text 19 = .ok (.new 21, 3) := by decide +kernel
theorem dX3_text_22 : decode cX3_text 22 = .ok (.dup, 1) := by decide +kernel
theorem dX3_text_23 : decode cX3_text 23 = .ok (.invokespecial 113, 3) := by decide +kernel
theorem dX3_text_26 : decode cX3_text 26 = .ok (.aastore, 1) := by decide +kernel
theorem dX3_text_27 : decode cX3_text 27 = .ok (.aload_n 0, 1) := by decide +kernel
theorem dX3_text_28 : decode cX3_text 28 = .ok (.dup, 1) := by decide +kernel
theorem dX3_text_29 : decode cX3_text 29 = .ok (.getfield 38, 3) := by decide +kernel
theorem dX3_text_32 : decode cX3_text 32 = .ok (.dup_x1, 1) := by decide +kernel
theorem dX3_text_33 : decode cX3_text 33 = .ok (.iconst 1, 1) := by decide +kernel
theorem dX3_text_34 : decode cX3_text 34 = .ok (.iadd, 1) := by decide +kernel
theorem dX3_text_35 : decode cX3_text 35 = .ok (.putfield 38, 3) := by decide +kernel
theorem dX3_text_38 : decode cX3_text 38 = .ok (.ireturn, 1) := by decide +kernel
set_option maxRecDepth 20000 in
theorem ggX3_sign_X3_textAt : GoodIn wsX3_sign wsX3_textAt := goodIn_r _ [7, 8, 14, 15, 16, 17, 18, 19, 20, 21] (by decide +kernel) (by decide +kernel)
set_option maxRecDepth 20000 in
theorem gX3_sign_X3_textAt : GoodIn wsX3_sign (wsV RX3 114 RX3 yX3_textAt wsX3_textAt) := goodIn_app (goodIn_of _ (by decide +kernel)) ggX3_sign_X3_textAt
set_option maxRecDepth 20000 in
theorem ggX3_sign_X3_isCode : GoodIn wsX3_sign wsX3_isCode := goodIn_r _ [11] (by decide +kernel) (by decide +kernel)
set_option maxRecDepth 20000 in
theorem gX3_sign_X3_isCode : GoodIn wsX3_sign (va_wsS RX3 55 yX3_isCode wsX3_isCode) := goodIn_app (goodIn_of _ (by decide +kernel)) ggX3_sign_X3_isCode
theorem dX3_sign_0 : decode cX3_sign 0 = .ok (.aload_n 0, 1) := by decide +kernel
theorem dX3_sign_1 : decode cX3_sign 1 = .ok (.iload_n 1, 1) := by decide +kernel
theorem dX3_sign_2 : decode cX3_sign 2 = .ok (.invokevirtual 114, 3) := by decide +kernel
theorem dX3_sign_5 : decode cX3_sign 5 = .ok (.astore_n 3, 1) := by decide +kernel
theorem dX3_sign_6 : decode cX3_sign 6 = .ok (.aload_n 3, 1) := by decide +kernel
theorem dX3_sign_7 : decode cX3_sign 7 = .ok (.ifnonnull 6, 3) := by decide +kernel
theorem dX3_sign_10 : decode cX3_sign 10 = .ok (.bipush (-2), 2) := by decide +kernel
theorem dX3_sign_12 : decode cX3_sign 12 = .ok (.ireturn, 1) := by decide +kernel
theorem dX3_sign_13 : decode cX3_sign 13 = .ok (.iload_n 2, 1) := by decide +kernel
theorem dX3_sign_14 : decode cX3_sign 14 = .ok (.invokestatic 55, 3) := by decide +kernel
theorem dX3_sign_17 : decode cX3_sign 17 = .ok (.ifCond .ne 6, 3) := by decide +kernel
theorem dX3_sign_20 : decode cX3_sign 20 = .ok (.bipush (-4), 2) := by decide +kernel
theorem dX3_sign_22 : decode cX3_sign 22 = .ok (.ireturn, 1) := by decide +kernel
theorem dX3_sign_23 : decode cX3_sign 23 = .ok (.aload_n 3, 1) := by decide +kernel
theorem dX3_sign_24 : decode cX3_sign 24 = .ok (.getfield 118, 3) := by decide +kernel
theorem dX3_sign_27 : decode cX3_sign 27 = .ok (.bipush 40, 2) := by decide +kernel
theorem dX3_sign_29 : decode cX3_sign 29 = .ok (.if_icmp .lt 5, 3) := by decide +kernel
theorem dX3_sign_32 : decode cX3_sign 32 = .ok (.iconst (-1), 1) := by decide +kernel
theorem dX3_sign_33 : decode cX3_sign 33 = .ok (.ireturn, 1) := by decide +kernel
theorem dX3_sign_34 : decode cX3_sign 34 = .ok (.aload_n 3, 1) := by decide +kernel
theorem dX3_sign_35 : decode cX3_sign 35 = .ok (.getfield 121, 3) := by decide +kernel
theorem dX3_sign_38 : decode cX3_sign 38 = .ok (.aload_n 3, 1) := by decide +kernel
theorem dX3_sign_39 : decode cX3_sign 39 = .ok (.getfield 118, 3) := by decide +kernel
theorem dX3_sign_42 : decode cX3_sign 42 = .ok (.iload_n 2, 1) := by decide +kernel
theorem dX3_sign_43 : decode cX3_sign 43 = .ok (.iastore, 1) := by decide +kernel
theorem dX3_sign_44 : decode cX3_sign 44 = .ok (.aload_n 3, 1) := by decide +kernel
theorem dX3_sign_45 : decode cX3_sign 45 = .ok (.dup, 1) := by decide +kernel
theorem dX3_sign_46 : decode cX3_sign 46 = .ok (.getfield 118, 3) := by decide +kernel
theorem dX3_sign_49 : decode cX3_sign 49 = .ok (.iconst 1, 1) := by decide +kernel
theorem dX3_sign_50 : decode cX3_sign 50 = .ok (.iadd, 1) := by decide +kernel
theorem dX3_sign_51 : decode cX3_sign 51 = .ok (.putfield 118, 3) := by decide +kernel
theorem dX3_sign_54 : decode cX3_sign 54 = .ok (.aload_n 3, 1) := by decide +kernel
theorem dX3_sign_55 : decode cX3_sign 55 = .ok (.getfield 118, 3) := by decide +kernel
theorem dX3_sign_58 : decode cX3_sign 58 = .ok (.ireturn, 1) := by decide +kernel
set_option maxRecDepth 20000 in
theorem ggX3_whole_X3_textAt : GoodIn wsX3_whole wsX3_textAt := goodIn_r _ [8, 9, 32, 33, 34, 35, 36, 37, 38, 39] (by decide +kernel) (by decide +kernel)
set_option maxRecDepth 20000 in
theorem gX3_whole_X3_textAt : GoodIn wsX3_whole (wsV RX3 114 RX3 yX3_textAt wsX3_textAt) := goodIn_app (goodIn_of _ (by decide +kernel)) ggX3_whole_X3_textAt
set_option maxRecDepth 20000 in
theorem ggX3_whole_X3_pageAt : GoodIn wsX3_whole wsX3_pageAt := goodIn_r _ [13, 14, 32, 33, 34, 35, 36, 37, 38, 39] (by decide +kernel) (by decide +kernel)
set_option maxRecDepth 20000 in
theorem gX3_whole_X3_pageAt : GoodIn wsX3_whole (wsV RX3 51 RX3 yX3_pageAt wsX3_pageAt) := goodIn_app (goodIn_of _ (by decide +kernel)) ggX3_whole_X3_pageAt
set_option maxRecDepth 20000 in
theorem ggX3_whole_X3_findOrEnlist : GoodIn wsX3_whole wsX3_findOrEnlist := goodIn_r _ [18, 19, 20, 21, 22, 23, 24, 25, 26, 27, 30, 31, 32, 33, 34, 35, 36, 37, 38, 39] (by decide +kernel) (by decide +kernel)
set_option maxRecDepth 20000 in
theorem gX3_whole_X3_findOrEnlist : GoodIn wsX3_whole (wsV RX3 78 RX3 yX3_findOrEnlist wsX3_findOrEnlist) := goodIn_app (goodIn_of _ (by decide +kernel)) ggX3_whole_X3_findOrEnlist
theorem dX3_whole_0 : decode cX3_whole 0 = .ok (.aload_n 0, 1) := by decide +kernel
theorem dX3_whole_1 : decode cX3_whole 1 = .ok (.iload_n 1, 1) := by decide +kernel
theorem dX3_whole_2 : decode cX3_whole 2 = .ok (.invokevirtual 114, 3) := by decide +kernel
theorem dX3_whole_5 : decode cX3_whole 5 = .ok (.astore 4, 2) := by decide +kernel
theorem dX3_whole_7 : decode cX3_whole 7 = .ok (.aload_n 0, 1) := by decide +kernel
theorem dX3_whole_8 : decode cX3_whole 8 = .ok (.iload_n 2, 1) := by decide +kernel
theorem dX3_whole_9 : decode cX3_whole 9 = .ok (.invokevirtual 51, 3) := by decide +kernel
theorem dX3_whole_12 : decode cX3_whole 12 = .ok (.astore 5, 2) := by decide +kernel
theorem dX3_whole_14 : decode cX3_whole 14 = .ok (.aload_n 0, 1) := by decide +kernel
theorem dX3_whole_15 : decode cX3_whole 15 = .ok (.iload_n 3, 1) := by decide +kernel
theorem dX3_whole_16 : decode cX3_whole 16 = .ok (.invokevirtual 51, 3) := by decide +kernel
theorem dX3_whole_19 : decode cX3_whole 19 = .ok (.astore 6, 2) := by decide +kernel
theorem dX3_whole_21 : decode cX3_whole 21 = .ok (.aload 4, 2) := by decide +kernel
theorem dX3_whole_23 : decode cX3_whole 23 = .ok (.ifnull 13, 3) := by decide +kernel
theorem dX3_whole_26 : decode cX3_whole 26 = .ok (.aload 5, 2) := by decide +kernel
theorem dX3_whole_28 : decode cX3_whole 28 = .ok (.ifnull 8, 3) := by decide +kernel
theorem dX3_whole_31 : decode cX3_whole 31 = .ok (.aload 6, 2) := by decide +kernel
theorem dX3_whole_33 : decode cX3_whole 33 = .ok (.ifnonnull 6, 3) := by decide +kernel
theorem dX3_whole_36 : decode cX3_whole 36 = .ok (.bipush (-2), 2) := by decide +kernel
theorem dX3_whole_38 : decode cX3_whole 38 = .ok (.ireturn, 1) := by decide +kernel
theorem dX3_whole_39 : decode cX3_whole 39 = .ok (.iconst 0, 1) := by decide +kernel
theorem dX3_whole_40 : decode cX3_whole 40 = .ok (.istore 7, 2) := by decide +kernel
theorem dX3_whole_42 : decode cX3_whole 42 = .ok (.iconst 0, 1) := by decide +kernel
theorem dX3_whole_43 : decode cX3_whole 43 = .ok (.istore 8, 2) := by decide +kernel
theorem dX3_whole_45 : decode cX3_whole 45 = .ok (.iload 8, 2) := by decide +kernel
theorem dX3_whole_47 : decode cX3_whole 47 = .ok (.aload 4, 2) := by decide +kernel
theorem dX3_whole_49 : decode cX3_whole 49 = .ok (.getfield 118, 3) := by decide +kernel
theorem dX3_whole_52 : decode cX3_whole 52 = .ok (.if_icmp .ge 53, 3) := by decide +kernel
theorem dX3_whole_55 : decode cX3_whole 55 = .ok (.aload_n 0, 1) := by decide +kernel
theorem dX3_whole_56 : decode cX3_whole 56 = .ok (.aload 4, 2) := by decide +kernel
theorem dX3_whole_58 : decode cX3_whole 58 = .ok (.getfield 121, 3) := by decide +kernel
theorem dX3_whole_61 : decode cX3_whole 61 = .ok (.iload 8, 2) := by decide +kernel
theorem dX3_whole_63 : decode cX3_whole 63 = .ok (.iaload, 1) := by decide +kernel
theorem dX3_whole_64 : decode cX3_whole 64 = .ok (.aload 5, 2) := by decide +kernel
theorem dX3_whole_66 : decode cX3_whole 66 = .ok (.aload 6, 2) := by decide +kernel
theorem dX3_whole_68 : decode cX3_whole 68 = .ok (.invokevirtual 78, 3) := by decide +kernel
theorem dX3_whole_71 : decode cX3_whole 71 = .ok (.istore 9, 2) := by decide +kernel
theorem dX3_whole_73 : decode cX3_whole 73 = .ok (.iload 9, 2) := by decide +kernel
theorem dX3_whole_75 : decode cX3_whole 75 = .ok (.iconst (-1), 1) := by decide +kernel
theorem dX3_whole_76 : decode cX3_whole 76 = .ok (.if_icmp .ne 13, 3) := by decide +kernel
theorem dX3_whole_79 : decode cX3_whole 79 = .ok (.iinc 7 1, 3) := by decide +kernel
theorem dX3_whole_82 : decode cX3_whole 82 = .ok (.aload 6, 2) := by decide +kernel
theorem dX3_whole_84 : decode cX3_whole 84 = .ok (.getfield 75, 3) := by decide +kernel
theorem dX3_whole_87 : decode cX3_whole 87 = .ok (.istore 9, 2) := by decide +kernel
theorem dX3_whole_89 : decode cX3_whole 89 = .ok (.aload 4, 2) := by decide +kernel
theorem dX3_whole_91 : decode cX3_whole 91 = .ok (.getfield 121, 3) := by decide +kernel
theorem dX3_whole_94 : decode cX3_whole 94 = .ok (.iload 8, 2) := by decide +kernel
theorem dX3_whole_96 : decode cX3_whole 96 = .ok (.iload 9, 2) := by decide +kernel
theorem dX3_whole_98 : decode cX3_whole 98 = .ok (.iastore, 1) := by decide +kernel
theorem dX3_whole_99 : decode cX3_whole 99 = .ok (.iinc 8 1, 3) := by decide +kernel
theorem dX3_whole_102 : decode cX3_whole 102 = .ok (.goto (-57), 3) := by decide +kernel
theorem dX3_whole_105 : decode cX3_whole 105 = .ok (.iload 7, 2) := by decide +kernel
theorem dX3_whole_107 : decode cX3_whole 107 = .ok (.ireturn, 1) := by decide +kernel
set_option maxRecDepth 20000 in
theorem ggX3_at_X3_textAt : GoodIn wsX3_at wsX3_textAt := goodIn_r _ [7, 8, 11, 12, 13, 14, 15, 16, 17, 18] (by decide +kernel) (by decide +kernel)
set_option maxRecDepth 20000 in
theorem gX3_at_X3_textAt : GoodIn wsX3_at (wsV RX3 114 RX3 yX3_textAt wsX3_textAt) := goodIn_app (goodIn_of _ (by decide +kernel)) ggX3_at_X3_textAt
theorem dX3_at_0 : decode cX3_at 0 = .ok (.aload_n 0, 1) := by decide +kernel
theorem dX3_at_1 : decode cX3_at 1 = .ok (.iload_n 1, 1) := by decide +kernel
theorem dX3_at_2 : decode cX3_at 2 = .ok (.invokevirtual 114, 3) := by decide +kernel
theorem dX3_at_5 : decode cX3_at 5 = .ok (.astore_n 3, 1) := by decide +kernel
theorem dX3_at_6 : decode cX3_at 6 = .ok (.aload_n 3, 1) := by decide +kernel
theorem dX3_at_7 : decode cX3_at 7 = .ok (.ifnull 24, 3) := by decide +kernel
theorem dX3_at_10 : decode cX3_at 10 = .ok (.iload_n 2, 1) := by decide +kernel
theorem dX3_at_11 : decode cX3_at 11 = .ok (.ifCond .lt 20, 3) := by decide +kernel
theorem dX3_at_14 : decode cX3_at 14 = .ok (.iload_n 2, 1) := by decide +kernel
theorem dX3_at_15 : decode cX3_at 15 = .ok (.aload_n 3, 1) := by decide +kernel
theorem dX3_at_16 : decode cX3_at 16 = .ok (.getfield 118, 3) := by decide +kernel
theorem dX3_at_19 : decode cX3_at 19 = .ok (.if_icmp .ge 12, 3) := by decide +kernel
theorem dX3_at_22 : decode cX3_at 22 = .ok (.aload_n 3, 1) := by decide +kernel
theorem dX3_at_23 : decode cX3_at 23 = .ok (.getfield 121, 3) := by decide +kernel
theorem dX3_at_26 : decode cX3_at 26 = .ok (.iload_n 2, 1) := by decide +kernel
theorem dX3_at_27 : decode cX3_at 27 = .ok (.iaload, 1) := by decide +kernel
theorem dX3_at_28 : decode cX3_at 28 = .ok (.goto 4, 3) := by decide +kernel
theorem dX3_at_31 : decode cX3_at 31 = .ok (.iconst (-1), 1) := by decide +kernel
theorem dX3_at_32 : decode cX3_at 32 = .ok (.ireturn, 1) := by decide +kernel
set_option maxRecDepth 20000 in
theorem ggX3_compare_X3_orderAt : GoodIn wsX3_compare wsX3_orderAt := goodIn_r _ [11, 12, 31, 32, 33, 34, 35, 36, 37, 38] (by decide +kernel) (by decide +kernel)
set_option maxRecDepth 20000 in
theorem gX3_compare_X3_orderAt : GoodIn wsX3_compare (wsV RX3 89 RX3 yX3_orderAt wsX3_orderAt) := goodIn_app (goodIn_of _ (by decide +kernel)) ggX3_compare_X3_orderAt
set_option maxRecDepth 20000 in
theorem ggX3_compare_X3_textAt : GoodIn wsX3_compare wsX3_textAt := goodIn_r _ [16, 17, 31, 32, 33, 34, 35, 36, 37, 38] (by decide +kernel) (by decide +kernel)
set_option maxRecDepth 20000 in
theorem gX3_compare_X3_textAt : GoodIn wsX3_compare (wsV RX3 114 RX3 yX3_textAt wsX3_textAt) := goodIn_app (goodIn_of _ (by decide +kernel)) ggX3_compare_X3_textAt
set_option maxRecDepth 20000 in
theorem ggX3_compare_X2_codeOrBlank : GoodIn wsX3_compare wsX2_codeOrBlank := goodIn_r _ [22, 23, 24, 25, 26] (by decide +kernel) (by decide +kernel)
set_option maxRecDepth 20000 in
theorem gX3_compare_X2_codeOrBlank : GoodIn wsX3_compare (wsV RX3 131 RX2 yX2_codeOrBlank wsX2_codeOrBlank) := goodIn_app (goodIn_of _ (by decide +kernel)) ggX3_compare_X2_codeOrBlank
theorem dX3_compare_0 : decode cX3_compare 0 = .ok (.aload_n 0, 1) := by decide +kernel
theorem dX3_compare_1 : decode cX3_compare 1 = .ok (.iload_n 1, 1) := by decide +kernel
theorem dX3_compare_2 : decode cX3_compare 2 = .ok (.invokevirtual 89, 3) := by decide +kernel
theorem dX3_compare_5 : decode cX3_compare 5 = .ok (.astore 4, 2) := by decide +kernel
theorem dX3_compare_7 : decode cX3_compare 7 = .ok (.aload_n 0, 1) := by decide +kernel
theorem dX3_compare_8 : decode cX3_compare 8 = .ok (.iload_n 2, 1) := by decide +kernel
theorem dX3_compare_9 : decode cX3_compare 9 = .ok (.invokevirtual 114, 3) := by decide +kernel
theorem dX3_compare_12 : decode cX3_compare 12 = .ok (.astore 5, 2) := by decide +kernel
theorem dX3_compare_14 : decode cX3_compare 14 = .ok (.aload_n 0, 1) := by decide +kernel
theorem dX3_compare_15 : decode cX3_compare 15 = .ok (.iload_n 3, 1) := by decide +kernel
theorem dX3_compare_16 : decode cX3_compare 16 = .ok (.invokevirtual 114, 3) := by decide +kernel
theorem dX3_compare_19 : decode cX3_compare 19 = .ok (.astore 6, 2) := by decide +kernel
theorem dX3_compare_21 : decode cX3_compare 21 = .ok (.aload 4, 2) := by decide +kernel
theorem dX3_compare_23 : decode cX3_compare 23 = .ok (.ifnull 13, 3) := by decide +kernel
theorem dX3_compare_26 : decode cX3_compare 26 = .ok (.aload 5, 2) := by decide +kernel
theorem dX3_compare_28 : decode cX3_compare 28 = .ok (.ifnull 8, 3) := by decide +kernel
theorem dX3_compare_31 : decode cX3_compare 31 = .ok (.aload 6, 2) := by decide +kernel
theorem dX3_compare_33 : decode cX3_compare 33 = .ok (.ifnonnull 6, 3) := by decide +kernel
theorem dX3_compare_36 : decode cX3_compare 36 = .ok (.bipush (-2), 2) := by decide +kernel
theorem dX3_compare_38 : decode cX3_compare 38 = .ok (.ireturn, 1) := by decide +kernel
theorem dX3_compare_39 : decode cX3_compare 39 = .ok (.aload 5, 2) := by decide +kernel
theorem dX3_compare_41 : decode cX3_compare 41 = .ok (.getfield 118, 3) := by decide +kernel
theorem dX3_compare_44 : decode cX3_compare 44 = .ok (.aload 6, 2) := by decide +kernel
theorem dX3_compare_46 : decode cX3_compare 46 = .ok (.getfield 118, 3) := by decide +kernel
theorem dX3_compare_49 : decode cX3_compare 49 = .ok (.invokestatic 124, 3) := by decide +kernel
theorem dX3_compare_52 : decode cX3_compare 52 = .ok (.istore 7, 2) := by decide +kernel
theorem dX3_compare_54 : decode cX3_compare 54 = .ok (.iconst 0, 1) := by decide +kernel
theorem dX3_compare_55 : decode cX3_compare 55 = .ok (.istore 8, 2) := by decide +kernel
theorem dX3_compare_57 : decode cX3_compare 57 = .ok (.iload 8, 2) := by decide +kernel
theorem dX3_compare_59 : decode cX3_compare 59 = .ok (.iload 7, 2) := by decide +kernel
theorem dX3_compare_61 : decode cX3_compare 61 = .ok (.if_icmp .ge 59, 3) := by decide +kernel
theorem dX3_compare_64 : decode cX3_compare 64 = .ok (.aload 4, 2) := by decide +kernel
theorem dX3_compare_66 : decode cX3_compare 66 = .ok (.getfield 128, 3) := by decide +kernel
theorem dX3_compare_69 : decode cX3_compare 69 = .ok (.aload 5, 2) := by decide +kernel
theorem dX3_compare_71 : decode cX3_compare 71 = .ok (.iload 8, 2) := by decide +kernel
theorem dX3_compare_73 : decode cX3_compare 73 = .ok (.invokevirtual 131, 3) := by decide +kernel
theorem dX3_compare_76 : decode cX3_compare 76 = .ok (.iaload, 1) := by decide +kernel
theorem dX3_compare_77 : decode cX3_compare 77 = .ok (.istore 9, 2) := by decide +kernel
theorem dX3_compare_79 : decode cX3_compare 79 = .ok (.aload 4, 2) := by decide +kernel
theorem dX3_compare_81 : decode cX3_compare 81 = .ok (.getfield 128, 3) := by decide +kernel
theorem dX3_compare_84 : decode cX3_compare 84 = .ok (.aload 6, 2) := by decide +kernel
theorem dX3_compare_86 : decode cX3_compare 86 = .ok (.iload 8, 2) := by decide +kernel
theorem dX3_compare_88 : decode cX3_compare 88 = .ok (.invokevirtual 131, 3) := by decide +kernel
theorem dX3_compare_91 : decode cX3_compare 91 = .ok (.iaload, 1) := by decide +kernel
theorem dX3_compare_92 : decode cX3_compare 92 = .ok (.istore 10, 2) := by decide +kernel
theorem dX3_compare_94 : decode cX3_compare 94 = .ok (.iload 9, 2) := by decide +kernel
theorem dX3_compare_96 : decode cX3_compare 96 = .ok (.iload 10, 2) := by decide +kernel
theorem dX3_compare_98 : decode cX3_compare 98 = .ok (.if_icmp .eq 16, 3) := by decide +kernel
theorem dX3_compare_101 : decode cX3_compare 101 = .ok (.iload 9, 2) := by decide +kernel
theorem dX3_compare_103 : decode cX3_compare 103 = .ok (.iload 10, 2) := by decide +kernel
theorem dX3_compare_105 : decode cX3_compare 105 = .ok (.if_icmp .ge 7, 3) := by decide +kernel
theorem dX3_compare_108 : decode cX3_compare 108 = .ok (.iconst (-1), 1) := by decide +kernel
theorem dX3_compare_109 : decode cX3_compare 109 = .ok (.goto 4, 3) := by decide +kernel
theorem dX3_compare_112 : decode cX3_compare 112 = .ok (.iconst 1, 1) := by decide +kernel
theorem dX3_compare_113 : decode cX3_compare 113 = .ok (.ireturn, 1) := by decide +kernel
theorem dX3_compare_114 : decode cX3_compare 114 = .ok (.iinc 8 1, 3) := by decide +kernel
theorem dX3_compare_117 : decode cX3_compare 117 = .ok (.goto (-60), 3) := by decide +kernel
theorem dX3_compare_120 : decode cX3_compare 120 = .ok (.iconst 0, 1) := by decide +kernel
theorem dX3_compare_121 : decode cX3_compare 121 = .ok (.ireturn, 1) := by decide +kernel
set_option maxRecDepth 20000 in
theorem ggX3_cls_X3_isGreatLetter : GoodIn wsX3_cls wsX3_isGreatLetter := goodIn_r _ [4] (by decide +kernel) (by decide +kernel)
set_option maxRecDepth 20000 in
theorem gX3_cls_X3_isGreatLetter : GoodIn wsX3_cls (va_wsS RX3 134 yX3_isGreatLetter wsX3_isGreatLetter) := goodIn_app (goodIn_of _ (by decide +kernel)) ggX3_cls_X3_isGreatLetter
set_option maxRecDepth 20000 in
theorem ggX3_cls_X3_isSmallLetter : GoodIn wsX3_cls wsX3_isSmallLetter := goodIn_r _ [7] (by decide +kernel) (by decide +kernel)
set_option maxRecDepth 20000 in
theorem gX3_cls_X3_isSmallLetter : GoodIn wsX3_cls (va_wsS RX3 137 yX3_isSmallLetter wsX3_isSmallLetter) := goodIn_app (goodIn_of _ (by decide +kernel)) ggX3_cls_X3_isSmallLetter
theorem dX3_cls_0 : decode cX3_cls 0 = .ok (.iload_n 2, 1) := by decide +kernel
theorem dX3_cls_1 : decode cX3_cls 1 = .ok (.tableswitch 121 0 5 #[39, 57, 77, 82, 87, 99], 39) := by decide +kernel
theorem dX3_cls_40 : decode cX3_cls 40 = .ok (.iload_n 1, 1) := by decide +kernel
theorem dX3_cls_41 : decode cX3_cls 41 = .ok (.bipush 48, 2) := by decide +kernel
theorem dX3_cls_43 : decode cX3_cls 43 = .ok (.if_icmp .lt 13, 3) := by decide +kernel
theorem dX3_cls_46 : decode cX3_cls 46 = .ok (.iload_n 1, 1) := by decide +kernel
theorem dX3_cls_47 : decode cX3_cls 47 = .ok (.bipush 57, 2) := by decide +kernel
theorem dX3_cls_49 : decode cX3_cls 49 = .ok (.if_icmp .gt 7, 3) := by decide +kernel
theorem dX3_cls_52 : decode cX3_cls 52 = .ok (.iconst 1, 1) := by decide +kernel
theorem dX3_cls_53 : decode cX3_cls 53 = .ok (.goto 4, 3) := by decide +kernel
theorem dX3_cls_56 : decode cX3_cls 56 = .ok (.iconst 0, 1) := by decide +kernel
theorem dX3_cls_57 : decode cX3_cls 57 = .ok (.ireturn, 1) := by decide +kernel
theorem dX3_cls_58 : decode cX3_cls 58 = .ok (.iload_n 1, 1) := by decide +kernel
theorem dX3_cls_59 : decode cX3_cls 59 = .ok (.invokestatic 134, 3) := by decide +kernel
theorem dX3_cls_62 : decode cX3_cls 62 = .ok (.ifCond .ne 10, 3) := by decide +kernel
theorem dX3_cls_65 : decode cX3_cls 65 = .ok (.iload_n 1, 1) := by decide +kernel
theorem dX3_cls_66 : decode cX3_cls 66 = .ok (.invokestatic 137, 3) := by decide +kernel
theorem dX3_cls_69 : decode cX3_cls 69 = .ok (.ifCond .eq 7, 3) := by decide +kernel
theorem dX3_cls_72 : decode cX3_cls 72 = .ok (.iconst 1, 1) := by decide +kernel
theorem dX3_cls_73 : decode cX3_cls 73 = .ok (.goto 4, 3) := by decide +kernel
theorem dX3_cls_76 : decode cX3_cls 76 = .ok (.iconst 0, 1) := by decide +kernel
theorem dX3_cls_77 : decode cX3_cls 77 = .ok (.ireturn, 1) := by decide +kernel
theorem dX3_cls_78 : decode cX3_cls 78 = .ok (.iload_n 1, 1) := by decide +kernel
theorem dX3_cls_79 : decode cX3_cls 79 = .ok (.invokestatic 134, 3) := by decide +kernel
theorem dX3_cls_82 : decode cX3_cls 82 = .ok (.ireturn, 1) := by decide +kernel
theorem dX3_cls_83 : decode cX3_cls 83 = .ok (.iload_n 1, 1) := by decide +kernel
theorem dX3_cls_84 : decode cX3_cls 84 = .ok (.invokestatic 137, 3) := by decide +kernel
theorem dX3_cls_87 : decode cX3_cls 87 = .ok (.ireturn, 1) := by decide +kernel
theorem dX3_cls_88 : decode cX3_cls 88 = .ok (.iload_n 1, 1) := by decide +kernel
theorem dX3_cls_89 : decode cX3_cls 89 = .ok (.bipush 32, 2) := by decide +kernel
theorem dX3_cls_91 : decode cX3_cls 91 = .ok (.if_icmp .ne 7, 3) := by decide +kernel
theorem dX3_cls_94 : decode cX3_cls 94 = .ok (.iconst 1, 1) := by decide +kernel
theorem dX3_cls_95 : decode cX3_cls 95 = .ok (.goto 4, 3) := by decide +kernel
theorem dX3_cls_98 : decode cX3_cls 98 = .ok (.iconst 0, 1) := by decide +kernel
theorem dX3_cls_99 : decode cX3_cls 99 = .ok (.ireturn, 1) := by decide +kernel
theorem dX3_cls_100 : decode cX3_cls 100 = .ok (.iload_n 1, 1) := by decide +kernel
theorem dX3_cls_101 : decode cX3_cls 101 = .ok (.ifCond .lt 9, 3) := by decide +kernel
theorem dX3_cls_104 : decode cX3_cls 104 = .ok (.iload_n 1, 1) := by decide +kernel
theorem dX3_cls_105 : decode cX3_cls 105 = .ok (.bipush 32, 2) := by decide +kernel
theorem dX3_cls_107 : decode cX3_cls 107 = .ok (.if_icmp .lt 9, 3) := by decide +kernel
theorem dX3_cls_110 : decode cX3_cls 110 = .ok (.iload_n 1, 1) := by decide +kernel
theorem dX3_cls_111 : decode cX3_cls 111 = .ok (.bipush 127, 2) := by decide +kernel
theorem dX3_cls_113 : decode cX3_cls 113 = .ok (.if_icmp .ne 7, 3) := by decide +kernel
theorem dX3_cls_116 : decode cX3_cls 116 = .ok (.iconst 1, 1) := by decide +kernel
theorem dX3_cls_117 : decode cX3_cls 117 = .ok (.goto 4, 3) := by decide +kernel
theorem dX3_cls_120 : decode cX3_cls 120 = .ok (.iconst 0, 1) := by decide +kernel
theorem dX3_cls_121 : decode cX3_cls 121 = .ok (.ireturn, 1) := by decide +kernel
theorem dX3_cls_122 : decode cX3_cls 122 = .ok (.iconst 0, 1) := by decide +kernel
theorem dX3_cls_123 : decode cX3_cls 123 = .ok (.ireturn, 1) := by decide +kernel
set_option maxRecDepth 20000 in
theorem ggX3_print_X3_isCode : GoodIn wsX3_print wsX3_isCode := goodIn_r _ [4] (by decide +kernel) (by decide +kernel)
set_option maxRecDepth 20000 in
theorem gX3_print_X3_isCode : GoodIn wsX3_print (va_wsS RX3 55 yX3_isCode wsX3_isCode) := goodIn_app (goodIn_of _ (by decide +kernel)) ggX3_print_X3_isCode
set_option maxRecDepth 20000 in
theorem ggX3_print_X3_hexDigit : GoodIn wsX3_print wsX3_hexDigit := goodIn_r _ [7] (by decide +kernel) (by decide +kernel)
set_option maxRecDepth 20000 in
theorem gX3_print_X3_hexDigit : GoodIn wsX3_print (va_wsS RX3 140 yX3_hexDigit wsX3_hexDigit) := goodIn_app (goodIn_of _ (by decide +kernel)) ggX3_print_X3_hexDigit
set_option maxRecDepth 20000 in
theorem ggX3_print_X3_halfAsSign : GoodIn wsX3_print wsX3_halfAsSign := goodIn_r _ [10] (by decide +kernel) (by decide +kernel)
set_option maxRecDepth 20000 in
theorem gX3_print_X3_halfAsSign : GoodIn wsX3_print (va_wsS RX3 143 yX3_halfAsSign wsX3_halfAsSign) := goodIn_app (goodIn_of _ (by decide +kernel)) ggX3_print_X3_halfAsSign
theorem dX3_print_0 : decode cX3_print 0 = .ok (.iload_n 1, 1) := by decide +kernel
theorem dX3_print_1 : decode cX3_print 1 = .ok (.invokestatic 55, 3) := by decide +kernel
theorem dX3_print_4 : decode cX3_print 4 = .ok (.ifCond .ne 5, 3) := by decide +kernel
theorem dX3_print_7 : decode cX3_print 7 = .ok (.iconst 0, 1) := by decide +kernel
theorem dX3_print_8 : decode cX3_print 8 = .ok (.ireturn, 1) := by decide +kernel
theorem dX3_print_9 : decode cX3_print 9 = .ok (.iload_n 2, 1) := by decide +kernel
theorem dX3_print_10 : decode cX3_print 10 = .ok (.tableswitch 52 0 2 #[26, 34, 43], 26) := by decide +kernel
theorem dX3_print_36 : decode cX3_print 36 = .ok (.iload_n 1, 1) := by decide +kernel
theorem dX3_print_37 : decode cX3_print 37 = .ok (.iconst 4, 1) := by decide +kernel
theorem dX3_print_38 : decode cX3_print 38 = .ok (.ishr, 1) := by decide +kernel
theorem dX3_print_39 : decode cX3_print 39 = .ok (.invokestatic 140, 3) := by decide +kernel
theorem dX3_print_42 : decode cX3_print 42 = .ok (.i2b, 1) := by decide +kernel
theorem dX3_print_43 : decode cX3_print 43 = .ok (.ireturn, 1) := by decide +kernel
theorem dX3_print_44 : decode cX3_print 44 = .ok (.iload_n 1, 1) := by decide +kernel
theorem dX3_print_45 : decode cX3_print 45 = .ok (.bipush 15, 2) := by decide +kernel
theorem dX3_print_47 : decode cX3_print 47 = .ok (.iand, 1) := by decide +kernel
theorem dX3_print_48 : decode cX3_print 48 = .ok (.invokestatic 140, 3) := by decide +kernel
theorem dX3_print_51 : decode cX3_print 51 = .ok (.i2b, 1) := by decide +kernel
theorem dX3_print_52 : decode cX3_print 52 = .ok (.ireturn, 1) := by decide +kernel
theorem dX3_print_53 : decode cX3_print 53 = .ok (.iload_n 1, 1) := by decide +kernel
theorem dX3_print_54 : decode cX3_print 54 = .ok (.bipush 15, 2) := by decide +kernel
theorem dX3_print_56 : decode cX3_print 56 = .ok (.iand, 1) := by decide +kernel
theorem dX3_print_57 : decode cX3_print 57 = .ok (.invokestatic 143, 3) := by decide +kernel
theorem dX3_print_60 : decode cX3_print 60 = .ok (.i2b, 1) := by decide +kernel
theorem dX3_print_61 : decode cX3_print 61 = .ok (.ireturn, 1) := by decide +kernel
theorem dX3_print_62 : decode cX3_print 62 = .ok (.iconst 0, 1) := by decide +kernel
theorem dX3_print_63 : decode cX3_print 63 = .ok (.ireturn, 1) := by decide +kernel
set_option maxRecDepth 20000 in
theorem ggX3_high_X3_orderAt : GoodIn wsX3_high wsX3_orderAt := goodIn_r _ [5, 6, 13, 14, 15, 16, 17, 18, 19, 20] (by decide +kernel) (by decide +kernel)
set_option maxRecDepth 20000 in
theorem gX3_high_X3_orderAt : GoodIn wsX3_high (wsV RX3 89 RX3 yX3_orderAt wsX3_orderAt) := goodIn_app (goodIn_of _ (by decide +kernel)) ggX3_high_X3_orderAt
set_option maxRecDepth 20000 in
theorem ggX3_high_X0_lastCode : GoodIn wsX3_high wsX0_lastCode := goodIn_r _ [11, 12, 21, 22, 23, 24] (by decide +kernel) (by decide +kernel)
set_option maxRecDepth 20000 in
theorem gX3_high_X0_lastCode : GoodIn wsX3_high (wsV RX3 146 RX0 yX0_lastCode wsX0_lastCode) := goodIn_app (goodIn_of _ (by decide +kernel)) ggX3_high_X0_lastCode
theorem dX3_high_0 : decode cX3_high 0 = .ok (.aload_n 0, 1) := by decide +kernel
theorem dX3_high_1 : decode cX3_high 1 = .ok (.iload_n 1, 1) := by decide +kernel
theorem dX3_high_2 : decode cX3_high 2 = .ok (.invokevirtual 89, 3) := by decide +kernel
theorem dX3_high_5 : decode cX3_high 5 = .ok (.astore_n 2, 1) := by decide +kernel
theorem dX3_high_6 : decode cX3_high 6 = .ok (.aload_n 2, 1) := by decide +kernel
theorem dX3_high_7 : decode cX3_high 7 = .ok (.ifnonnull 8, 3) := by decide +kernel
theorem dX3_high_10 : decode cX3_high 10 = .ok (.bipush (-2), 2) := by decide +kernel
theorem dX3_high_12 : decode cX3_high 12 = .ok (.goto 7, 3) := by decide +kernel
theorem dX3_high_15 : decode cX3_high 15 = .ok (.aload_n 2, 1) := by decide +kernel
theorem dX3_high_16 : decode cX3_high 16 = .ok (.invokevirtual 146, 3) := by decide +kernel
theorem dX3_high_19 : decode cX3_high 19 = .ok (.ireturn, 1) := by decide +kernel
set_option maxRecDepth 20000 in
theorem ggX3_rank_X3_orderAt : GoodIn wsX3_rank wsX3_orderAt := goodIn_r _ [6, 7, 15, 16, 17, 18, 19, 20, 21, 22] (by decide +kernel) (by decide +kernel)
set_option maxRecDepth 20000 in
theorem gX3_rank_X3_orderAt : GoodIn wsX3_rank (wsV RX3 89 RX3 yX3_orderAt wsX3_orderAt) := goodIn_app (goodIn_of _ (by decide +kernel)) ggX3_rank_X3_orderAt
set_option maxRecDepth 20000 in
theorem ggX3_rank_X3_isCode : GoodIn wsX3_rank wsX3_isCode := goodIn_r _ [10] (by decide +kernel) (by decide +kernel)
set_option maxRecDepth 20000 in
theorem gX3_rank_X3_isCode : GoodIn wsX3_rank (va_wsS RX3 55 yX3_isCode wsX3_isCode) := goodIn_app (goodIn_of _ (by decide +kernel)) ggX3_rank_X3_isCode
theorem dX3_rank_0 : decode cX3_rank 0 = .ok (.aload_n 0, 1) := by decide +kernel
theorem dX3_rank_1 : decode cX3_rank 1 = .ok (.iload_n 1, 1) := by decide +kernel
theorem dX3_rank_2 : decode cX3_rank 2 = .ok (.invokevirtual 89, 3) := by decide +kernel
theorem dX3_rank_5 : decode cX3_rank 5 = .ok (.astore_n 3, 1) := by decide +kernel
theorem dX3_rank_6 : decode cX3_rank 6 = .ok (.aload_n 3, 1) := by decide +kernel
theorem dX3_rank_7 : decode cX3_rank 7 = .ok (.ifnonnull 6, 3) := by decide +kernel
theorem dX3_rank_10 : decode cX3_rank 10 = .ok (.bipush (-2), 2) := by decide +kernel
theorem dX3_rank_12 : decode cX3_rank 12 = .ok (.ireturn, 1) := by decide +kernel
theorem dX3_rank_13 : decode cX3_rank 13 = .ok (.iload_n 2, 1) := by decide +kernel
theorem dX3_rank_14 : decode cX3_rank 14 = .ok (.invokestatic 55, 3) := by decide +kernel
theorem dX3_rank_17 : decode cX3_rank 17 = .ok (.ifCond .eq 12, 3) := by decide +kernel
theorem dX3_rank_20 : decode cX3_rank 20 = .ok (.aload_n 3, 1) := by decide +kernel
theorem dX3_rank_21 : decode cX3_rank 21 = .ok (.getfield 128, 3) := by decide +kernel
theorem dX3_rank_24 : decode cX3_rank 24 = .ok (.iload_n 2, 1) := by decide +kernel
theorem dX3_rank_25 : decode cX3_rank 25 = .ok (.iaload, 1) := by decide +kernel
theorem dX3_rank_26 : decode cX3_rank 26 = .ok (.goto 5, 3) := by decide +kernel
theorem dX3_rank_29 : decode cX3_rank 29 = .ok (.bipush (-4), 2) := by decide +kernel
theorem dX3_rank_31 : decode cX3_rank 31 = .ok (.ireturn, 1) := by decide +kernel
theorem dX3_isCode_0 : decode cX3_isCode 0 = .ok (.iload_n 0, 1) := by decide +kernel
theorem dX3_isCode_1 : decode cX3_isCode 1 = .ok (.ifCond .lt 14, 3) := by decide +kernel
theorem dX3_isCode_4 : decode cX3_isCode 4 = .ok (.iload_n 0, 1) := by decide +kernel
theorem dX3_isCode_5 : decode cX3_isCode 5 = .ok (.sipush 256, 3) := by decide +kernel
theorem dX3_isCode_8 : decode cX3_isCode 8 = .ok (.if_icmp .ge 7, 3) := by decide +kernel
theorem dX3_isCode_11 : decode cX3_isCode 11 = .ok (.iconst 1, 1) := by decide +kernel
theorem dX3_isCode_12 : decode cX3_isCode 12 = .ok (.goto 4, 3) := by decide +kernel
theorem dX3_isCode_15 : decode cX3_isCode 15 = .ok (.iconst 0, 1) := by decide +kernel
theorem dX3_isCode_16 : decode cX3_isCode 16 = .ok (.ireturn, 1) := by decide +kernel
theorem dX3_isMeaningOrNone_0 : decode cX3_isMeaningOrNone 0 = .ok (.iload_n 0, 1) := by decide +kernel
theorem dX3_isMeaningOrNone_1 : decode cX3_isMeaningOrNone 1 = .ok (.iconst (-1), 1) := by decide +kernel
theorem dX3_isMeaningOrNone_2 : decode cX3_isMeaningOrNone 2 = .ok (.if_icmp .eq 13, 3) := by decide +kernel
theorem dX3_isMeaningOrNone_5 : decode cX3_isMeaningOrNone 5 = .ok (.iload_n 0, 1) := by decide +kernel
theorem dX3_isMeaningOrNone_6 : decode cX3_isMeaningOrNone 6 = .ok (.ifCond .lt 13, 3) := by decide +kernel
theorem dX3_isMeaningOrNone_9 : decode cX3_isMeaningOrNone 9 = .ok (.iload_n 0, 1) := by decide +kernel
theorem dX3_isMeaningOrNone_10 : decode cX3_isMeaningOrNone 10 = .ok (.ldc 150, 2) := by decide +kernel
theorem dX3_isMeaningOrNone_12 : decode cX3_isMeaningOrNone 12 = .ok (.if_icmp .ge 7, 3) := by decide +kernel
theorem dX3_isMeaningOrNone_15 : decode cX3_isMeaningOrNone 15 = .ok (.iconst 1, 1) := by decide +kernel
theorem dX3_isMeaningOrNone_16 : decode cX3_isMeaningOrNone 16 = .ok (.goto 4, 3) := by decide +kernel
theorem dX3_isMeaningOrNone_19 : decode cX3_isMeaningOrNone 19 = .ok (.iconst 0, 1) := by decide +kernel
theorem dX3_isMeaningOrNone_20 : decode cX3_isMeaningOrNone 20 = .ok (.ireturn, 1) := by decide +kernel
theorem dX3_isKind_0 : decode cX3_isKind 0 = .ok (.iload_n 0, 1) := by decide +kernel
theorem dX3_isKind_1 : decode cX3_isKind 1 = .ok (.ifCond .lt 12, 3) := by decide +kernel
theorem dX3_isKind_4 : decode cX3_isKind 4 = .ok (.iload_n 0, 1) := by decide +kernel
theorem dX3_isKind_5 : decode cX3_isKind 5 = .ok (.iconst 3, 1) := by decide +kernel
theorem dX3_isKind_6 : decode cX3_isKind 6 = .ok (.if_icmp .ge 7, 3) := by decide +kernel
theorem dX3_isKind_9 : decode cX3_isKind 9 = .ok (.iconst 1, 1) := by decide +kernel
theorem dX3_isKind_10 : decode cX3_isKind 10 = .ok (.goto 4, 3) := by decide +kernel
theorem dX3_isKind_13 : decode cX3_isKind 13 = .ok (.iconst 0, 1) := by decide +kernel
theorem dX3_isKind_14 : decode cX3_isKind 14 = .ok (.ireturn, 1) := by decide +kernel
theorem dX3_pageAt_0 : decode cX3_pageAt 0 = .ok (.iload_n 1, 1) := by decide +kernel
theorem dX3_pageAt_1 : decode cX3_pageAt 1 = .ok (.ifCond .lt 18, 3) := by decide +kernel
theorem dX3_pageAt_4 : decode cX3_pageAt 4 = .ok (.iload_n 1, 1) := by decide +kernel
theorem dX3_pageAt_5 : decode cX3_pageAt 5 = .ok (.bipush 12, 2) := by decide +kernel
theorem dX3_pageAt_7 : decode cX3_pageAt 7 = .ok (.if_icmp .ge 12, 3) := by decide +kernel
theorem dX3_pageAt_10 : decode cX3_pageAt 10 = .ok (.aload_n 0, 1) := by decide +kernel
theorem dX3_pageAt_11 : decode cX3_pageAt 11 = .ok (.getfield 11, 3) := by decide +kernel
theorem dX3_pageAt_14 : decode cX3_pageAt 14 = .ok (.iload_n 1, 1) := by decide +kernel
theorem dX3_pageAt_15 : decode cX3_pageAt 15 = .ok (.aaload, 1) := by decide +kernel
theorem dX3_pageAt_16 : decode cX3_pageAt 16 = .ok (.goto 4, 3) := by decide +kernel
theorem dX3_pageAt_19 : decode cX3_pageAt 19 = .ok (.aconst_null, 1) := by decide +kernel
theorem dX3_pageAt_20 : decode cX3_pageAt 20 = .ok (.areturn, 1) := by decide +kernel
theorem dX3_orderAt_0 : decode cX3_orderAt 0 = .ok (.iload_n 1, 1) := by decide +kernel
theorem dX3_orderAt_1 : decode cX3_orderAt 1 = .ok (.ifCond .lt 18, 3) := by decide +kernel
theorem dX3_orderAt_4 : decode cX3_orderAt 4 = .ok (.iload_n 1, 1) := by decide +kernel
theorem dX3_orderAt_5 : decode cX3_orderAt 5 = .ok (.bipush 12, 2) := by decide +kernel
theorem dX3_orderAt_7 : decode cX3_orderAt 7 = .ok (.if_icmp .ge 12, 3) := by decide +kernel
theorem dX3_orderAt_10 : decode cX3_orderAt 10 = .ok (.aload_n 0, 1) := by decide +kernel
theorem dX3_orderAt_11 : decode cX3_orderAt 11 = .ok (.getfield 17, 3) := by decide +kernel
theorem dX3_orderAt_14 : decode cX3_orderAt 14 = .ok (.iload_n 1, 1) := by decide +kernel
theorem dX3_orderAt_15 : decode cX3_orderAt 15 = .ok (.aaload, 1) := by decide +kernel
theorem dX3_orderAt_16 : decode cX3_orderAt 16 = .ok (.goto 4, 3) := by decide +kernel
theorem dX3_orderAt_19 : decode cX3_orderAt 19 = .ok (.aconst_null, 1) := by decide +kernel
theorem dX3_orderAt_20 : decode cX3_orderAt 20 = .ok (.areturn, 1) := by decide +kernel
theorem dX3_textAt_0 : decode cX3_textAt 0 = .ok (.iload_n 1, 1) := by decide +kernel
theorem dX3_textAt_1 : decode cX3_textAt 1 = .ok (.ifCond .lt 18, 3) := by decide +kernel
theorem dX3_textAt_4 : decode cX3_textAt 4 = .ok (.iload_n 1, 1) := by decide +kernel
theorem dX3_textAt_5 : decode cX3_textAt 5 = .ok (.bipush 40, 2) := by decide +kernel
theorem dX3_textAt_7 : decode cX3_textAt 7 = .ok (.if_icmp .ge 12, 3) := by decide +kernel
theorem dX3_textAt_10 : decode cX3_textAt 10 = .ok (.aload_n 0, 1) := by decide +kernel
theorem dX3_textAt_11 : decode cX3_textAt 11 = .ok (.getfield 23, 3) := by decide +kernel
theorem dX3_textAt_14 : decode cX3_textAt 14 = .ok (.iload_n 1, 1) := by decide +kernel
theorem dX3_textAt_15 : decode cX3_textAt 15 = .ok (.aaload, 1) := by decide +kernel
theorem dX3_textAt_16 : decode cX3_textAt 16 = .ok (.goto 4, 3) := by decide +kernel
theorem dX3_textAt_19 : decode cX3_textAt 19 = .ok (.aconst_null, 1) := by decide +kernel
theorem dX3_textAt_20 : decode cX3_textAt 20 = .ok (.areturn, 1) := by decide +kernel
set_option maxRecDepth 20000 in
theorem ggX3_findOrEnlist_X1_codeThatMeans : GoodIn wsX3_findOrEnlist wsX1_codeThatMeans := goodIn_r _ [8, 9, 10, 11] (by decide +kernel) (by decide +kernel)
set_option maxRecDepth 20000 in
theorem gX3_findOrEnlist_X1_codeThatMeans : GoodIn wsX3_findOrEnlist (wsV RX3 61 RX1 yX1_codeThatMeans wsX1_codeThatMeans) := goodIn_app (goodIn_of _ (by decide +kernel)) ggX3_findOrEnlist_X1_codeThatMeans
theorem dX3_findOrEnlist_0 : decode cX3_findOrEnlist 0 = .ok (.aload_n 3, 1) := by decide +kernel
theorem dX3_findOrEnlist_1 : decode cX3_findOrEnlist 1 = .ok (.aload_n 2, 1) := by decide +kernel
theorem dX3_findOrEnlist_2 : decode cX3_findOrEnlist 2 = .ok (.getfield 65, 3) := by decide +kernel
theorem dX3_findOrEnlist_5 : decode cX3_findOrEnlist 5 = .ok (.iload_n 1, 1) := by decide +kernel
theorem dX3_findOrEnlist_6 : decode cX3_findOrEnlist 6 = .ok (.iaload, 1) := by decide +kernel
theorem dX3_findOrEnlist_7 : decode cX3_findOrEnlist 7 = .ok (.invokevirtual 61, 3) := by decide +kernel
theorem dX3_findOrEnlist_10 : decode cX3_findOrEnlist 10 = .ok (.istore 4, 2) := by decide +kernel
theorem dX3_findOrEnlist_12 : decode cX3_findOrEnlist 12 = .ok (.iload 4, 2) := by decide +kernel
theorem dX3_findOrEnlist_14 : decode cX3_findOrEnlist 14 = .ok (.iconst (-1), 1) := by decide +kernel
theorem dX3_findOrEnlist_15 : decode cX3_findOrEnlist 15 = .ok (.if_icmp .ne 33, 3) := by decide +kernel
theorem dX3_findOrEnlist_18 : decode cX3_findOrEnlist 18 = .ok (.aload_n 0, 1) := by decide +kernel
theorem dX3_findOrEnlist_19 : decode cX3_findOrEnlist 19 = .ok (.getfield 41, 3) := by decide +kernel
theorem dX3_findOrEnlist_22 : decode cX3_findOrEnlist 22 = .ok (.sipush 200, 3) := by decide +kernel
theorem dX3_findOrEnlist_25 : decode cX3_findOrEnlist 25 = .ok (.if_icmp .ge 23, 3) := by decide +kernel
theorem dX3_findOrEnlist_28 : decode cX3_findOrEnlist 28 = .ok (.aload_n 0, 1) := by decide +kernel
theorem dX3_findOrEnlist_29 : decode cX3_findOrEnlist 29 = .ok (.getfield 27, 3) := by decide +kernel
theorem dX3_findOrEnlist_32 : decode cX3_findOrEnlist 32 = .ok (.aload_n 0, 1) := by decide +kernel
theorem dX3_findOrEnlist_33 : decode cX3_findOrEnlist 33 = .ok (.getfield 41, 3) := by decide +kernel
theorem dX3_findOrEnlist_36 : decode cX3_findOrEnlist 36 = .ok (.iload_n 1, 1) := by decide +kernel
theorem dX3_findOrEnlist_37 : decode cX3_findOrEnlist 37 = .ok (.iastore, 1) := by decide +kernel
theorem dX3_findOrEnlist_38 : decode cX3_findOrEnlist 38 = .ok (.aload_n 0, 1) := by decide +kernel
theorem dX3_findOrEnlist_39 : decode cX3_findOrEnlist 39 = .ok (.dup, 1) := by decide +kernel
theorem dX3_findOrEnlist_40 : decode cX3_findOrEnlist 40 = .ok (.getfield 41, 3) := by decide +kernel
theorem dX3_findOrEnlist_43 : decode cX3_findOrEnlist 43 = .ok (.iconst 1, 1) := by decide +kernel
theorem dX3_findOrEnlist_44 : decode cX3_findOrEnlist 44 = .ok (.iadd, 1) := by decide +kernel
theorem dX3_findOrEnlist_45 : decode cX3_findOrEnlist 45 = .ok (.putfield 41, 3) := by decide +kernel
theorem dX3_findOrEnlist_48 : decode cX3_findOrEnlist 48 = .ok (.iload 4, 2) := by decide +kernel
theorem dX3_findOrEnlist_50 : decode cX3_findOrEnlist 50 = .ok (.ireturn, 1) := by decide +kernel
set_option maxRecDepth 20000 in
theorem ggX3_alphabetRefusal_X3_isCode : GoodIn wsX3_alphabetRefusal wsX3_isCode := goodIn_r _ [4] (by decide +kernel) (by decide +kernel)
set_option maxRecDepth 20000 in
theorem gX3_alphabetRefusal_X3_isCode : GoodIn wsX3_alphabetRefusal (va_wsS RX3 55 yX3_isCode wsX3_isCode) := goodIn_app (goodIn_of _ (by decide +kernel)) ggX3_alphabetRefusal_X3_isCode
theorem dX3_alphabetRefusal_0 : decode cX3_alphabetRefusal 0 = .ok (.iload_n 1, 1) := by decide +kernel
theorem dX3_alphabetRefusal_1 : decode cX3_alphabetRefusal 1 = .ok (.invokestatic 55, 3) := by decide +kernel
theorem dX3_alphabetRefusal_4 : decode cX3_alphabetRefusal 4 = .ok (.ifCond .eq 10, 3) := by decide +kernel
theorem dX3_alphabetRefusal_7 : decode cX3_alphabetRefusal 7 = .ok (.iload_n 2, 1) := by decide +kernel
theorem dX3_alphabetRefusal_8 : decode cX3_alphabetRefusal 8 = .ok (.invokestatic 55, 3) := by decide +kernel
theorem dX3_alphabetRefusal_11 : decode cX3_alphabetRefusal 11 = .ok (.ifCond .ne 6, 3) := by decide +kernel
theorem dX3_alphabetRefusal_14 : decode cX3_alphabetRefusal 14 = .ok (.bipush (-4), 2) := by decide +kernel
theorem dX3_alphabetRefusal_16 : decode cX3_alphabetRefusal 16 = .ok (.ireturn, 1) := by decide +kernel
theorem dX3_alphabetRefusal_17 : decode cX3_alphabetRefusal 17 = .ok (.iload_n 0, 1) := by decide +kernel
theorem dX3_alphabetRefusal_18 : decode cX3_alphabetRefusal 18 = .ok (.ifCond .eq 7, 3) := by decide +kernel
theorem dX3_alphabetRefusal_21 : decode cX3_alphabetRefusal 21 = .ok (.iconst 0, 1) := by decide +kernel
theorem dX3_alphabetRefusal_22 : decode cX3_alphabetRefusal 22 = .ok (.goto 5, 3) := by decide +kernel
theorem dX3_alphabetRefusal_25 : decode cX3_alphabetRefusal 25 = .ok (.bipush (-5), 2) := by decide +kernel
theorem dX3_alphabetRefusal_27 : decode cX3_alphabetRefusal 27 = .ok (.ireturn, 1) := by decide +kernel
theorem dX3_isGreatLetter_0 : decode cX3_isGreatLetter 0 = .ok (.iload_n 0, 1) := by decide +kernel
theorem dX3_isGreatLetter_1 : decode cX3_isGreatLetter 1 = .ok (.bipush 65, 2) := by decide +kernel
theorem dX3_isGreatLetter_3 : decode cX3_isGreatLetter 3 = .ok (.if_icmp .lt 13, 3) := by decide +kernel
theorem dX3_isGreatLetter_6 : decode cX3_isGreatLetter 6 = .ok (.iload_n 0, 1) := by decide +kernel
theorem dX3_isGreatLetter_7 : decode cX3_isGreatLetter 7 = .ok (.bipush 90, 2) := by decide +kernel
theorem dX3_isGreatLetter_9 : decode cX3_isGreatLetter 9 = .ok (.if_icmp .gt 7, 3) := by decide +kernel
theorem dX3_isGreatLetter_12 : decode cX3_isGreatLetter 12 = .ok (.iconst 1, 1) := by decide +kernel
theorem dX3_isGreatLetter_13 : decode cX3_isGreatLetter 13 = .ok (.goto 4, 3) := by decide +kernel
theorem dX3_isGreatLetter_16 : decode cX3_isGreatLetter 16 = .ok (.iconst 0, 1) := by decide +kernel
theorem dX3_isGreatLetter_17 : decode cX3_isGreatLetter 17 = .ok (.ireturn, 1) := by decide +kernel
theorem dX3_isSmallLetter_0 : decode cX3_isSmallLetter 0 = .ok (.iload_n 0, 1) := by decide +kernel
theorem dX3_isSmallLetter_1 : decode cX3_isSmallLetter 1 = .ok (.bipush 97, 2) := by decide +kernel
theorem dX3_isSmallLetter_3 : decode cX3_isSmallLetter 3 = .ok (.if_icmp .lt 13, 3) := by decide +kernel
theorem dX3_isSmallLetter_6 : decode cX3_isSmallLetter 6 = .ok (.iload_n 0, 1) := by decide +kernel
theorem dX3_isSmallLetter_7 : decode cX3_isSmallLetter 7 = .ok (.bipush 122, 2) := by decide +kernel
theorem dX3_isSmallLetter_9 : decode cX3_isSmallLetter 9 = .ok (.if_icmp .gt 7, 3) := by decide +kernel
theorem dX3_isSmallLetter_12 : decode cX3_isSmallLetter 12 = .ok (.iconst 1, 1) := by decide +kernel
theorem dX3_isSmallLetter_13 : decode cX3_isSmallLetter 13 = .ok (.goto 4, 3) := by decide +kernel
theorem dX3_isSmallLetter_16 : decode cX3_isSmallLetter 16 = .ok (.iconst 0, 1) := by decide +kernel
theorem dX3_isSmallLetter_17 : decode cX3_isSmallLetter 17 = .ok (.ireturn, 1) := by decide +kernel
theorem dX3_hexDigit_0 : decode cX3_hexDigit 0 = .ok (.iload_n 0, 1) := by decide +kernel
theorem dX3_hexDigit_1 : decode cX3_hexDigit 1 = .ok (.bipush 10, 2) := by decide +kernel
theorem dX3_hexDigit_3 : decode cX3_hexDigit 3 = .ok (.if_icmp .ge 10, 3) := by decide +kernel
theorem dX3_hexDigit_6 : decode cX3_hexDigit 6 = .ok (.bipush 48, 2) := by decide +kernel
theorem dX3_hexDigit_8 : decode cX3_hexDigit 8 = .ok (.iload_n 0, 1) := by decide +kernel
theorem dX3_hexDigit_9 : decode cX3_hexDigit 9 = .ok (.iadd, 1) := by decide +kernel
theorem dX3_hexDigit_10 : decode cX3_hexDigit 10 = .ok (.goto 7, 3) := by decide +kernel
theorem dX3_hexDigit_13 : decode cX3_hexDigit 13 = .ok (.bipush 55, 2) := by decide +kernel
theorem dX3_hexDigit_15 : decode cX3_hexDigit 15 = .ok (.iload_n 0, 1) := by decide +kernel
theorem dX3_hexDigit_16 : decode cX3_hexDigit 16 = .ok (.iadd, 1) := by decide +kernel
theorem dX3_hexDigit_17 : decode cX3_hexDigit 17 = .ok (.ireturn, 1) := by decide +kernel
theorem dX3_halfAsSign_0 : decode cX3_halfAsSign 0 = .ok (.iload_n 0, 1) := by decide +kernel
theorem dX3_halfAsSign_1 : decode cX3_halfAsSign 1 = .ok (.tableswitch 45 10 15 #[39, 42, 39, 42, 39, 39], 39) := by decide +kernel
theorem dX3_halfAsSign_40 : decode cX3_halfAsSign 40 = .ok (.bipush 43, 2) := by decide +kernel
theorem dX3_halfAsSign_42 : decode cX3_halfAsSign 42 = .ok (.ireturn, 1) := by decide +kernel
theorem dX3_halfAsSign_43 : decode cX3_halfAsSign 43 = .ok (.bipush 45, 2) := by decide +kernel
theorem dX3_halfAsSign_45 : decode cX3_halfAsSign 45 = .ok (.ireturn, 1) := by decide +kernel
theorem dX3_halfAsSign_46 : decode cX3_halfAsSign 46 = .ok (.bipush 63, 2) := by decide +kernel
theorem dX3_halfAsSign_48 : decode cX3_halfAsSign 48 = .ok (.ireturn, 1) := by decide +kernel
end
section
theorem dX4_init_0 : decode cX4_init 0 = .ok (.aload_n 0, 1) := by decide +kernel
theorem dX4_init_1 : decode cX4_init 1 = .ok (.invokespecial 1, 3) := by decide +kernel
theorem dX4_init_4 : decode cX4_init 4 = .ok (.aload_n 0, 1) := by decide +kernel
theorem dX4_init_5 : decode cX4_init 5 = .ok (.sipush 3072, 3) := by decide +kernel
theorem dX4_init_8 : decode cX4_init 8 = .ok (.newarray .int, 2) := by decide +kernel
theorem dX4_init_10 : decode cX4_init 10 = .ok (.putfield 7, 3) := by decide +kernel
theorem dX4_init_13 : decode cX4_init 13 = .ok (.aload_n 0, 1) := by decide +kernel
theorem dX4_init_14 : decode cX4_init 14 = .ok (.bipush 12, 2) := by decide +kernel
theorem dX4_init_16 : decode cX4_init 16 = .ok (.newarray .int, 2) := by decide +kernel
theorem dX4_init_18 : decode cX4_init 18 = .ok (.putfield 13, 3) := by decide +kernel
theorem dX4_init_21 : decode cX4_init 21 = .ok (.aload_n 0, 1) := by decide +kernel
theorem dX4_init_22 : decode cX4_init 22 = .ok (.bipush 12, 2) := by decide +kernel
theorem dX4_init_24 : decode cX4_init 24 = .ok (.newarray .int, 2) := by decide +kernel
theorem dX4_init_26 : decode cX4_init 26 = .ok (.putfield 16, 3) := by decide +kernel
theorem dX4_init_29 : decode cX4_init 29 = .ok (.aload_n 0, 1) := by decide +kernel
theorem dX4_init_30 : decode cX4_init 30 = .ok (.sipush 3072, 3) := by decide +kernel
theorem dX4_init_33 : decode cX4_init 33 = .ok (.newarray .int, 2) := by decide +kernel
theorem dX4_init_35 : decode cX4_init 35 = .ok (.putfield 19, 3) := by decide +kernel
theorem dX4_init_38 : decode cX4_init 38 = .ok (.aload_n 0, 1) := by decide +kernel
theorem dX4_init_39 : decode cX4_init 39 = .ok (.bipush 12, 2) := by decide +kernel
theorem dX4_init_41 : decode cX4_init 41 = .ok (.newarray .int, 2) := by decide +kernel
theorem dX4_init_43 : decode cX4_init 43 = .ok (.putfield 22, 3) := by decide +kernel
theorem dX4_init_46 : decode cX4_init 46 = .ok (.aload_n 0, 1) := by decide +kernel
theorem dX4_init_47 : decode cX4_init 47 = .ok (.sipush 1600, 3) := by decide +kernel
theorem dX4_init_50 : decode cX4_init 50 = .ok (.newarray .int, 2) := by decide +kernel
theorem dX4_init_52 : decode cX4_init 52 = .ok (.putfield 25, 3) := by decide +kernel
theorem dX4_init_55 : decode cX4_init 55 = .ok (.aload_n 0, 1) := by decide +kernel
theorem dX4_init_56 : decode cX4_init 56 = .ok (.bipush 40, 2) := by decide +kernel
theorem dX4_init_58 : decode cX4_init 58 = .ok (.newarray .int, 2) := by decide +kernel
theorem dX4_init_60 : decode cX4_init 60 = .ok (.putfield 28, 3) := by decide +kernel
theorem dX4_init_63 : decode cX4_init 63 = .ok (.aload_n 0, 1) := by decide +kernel
theorem dX4_init_64 : decode cX4_init 64 = .ok (.sipush 200, 3) := by decide +kernel
theorem dX4_init_67 : decode cX4_init 67 = .ok (.newarray .int, 2) := by decide +kernel
theorem dX4_init_69 : decode cX4_init 69 = .ok (.putfield 31, 3) := by decide +kernel
theorem dX4_init_72 : decode cX4_init 72 = .ok (.return_, 1) := by decide +kernel
theorem dX4_thrown_0 : decode cX4_thrown 0 = .ok (.aload_n 0, 1) := by decide +kernel
theorem dX4_thrown_1 : decode cX4_thrown 1 = .ok (.getfield 34, 3) := by decide +kernel
theorem dX4_thrown_4 : decode cX4_thrown 4 = .ok (.ireturn, 1) := by decide +kernel
theorem dX4_isCode_0 : decode cX4_isCode 0 = .ok (.iload_n 0, 1) := by decide +kernel
theorem dX4_isCode_1 : decode cX4_isCode 1 = .ok (.ifCond .lt 14, 3) := by decide +kernel
theorem dX4_isCode_4 : decode cX4_isCode 4 = .ok (.iload_n 0, 1) := by decide +kernel
theorem dX4_isCode_5 : decode cX4_isCode 5 = .ok (.sipush 256, 3) := by decide +kernel
theorem dX4_isCode_8 : decode cX4_isCode 8 = .ok (.if_icmp .ge 7, 3) := by decide +kernel
theorem dX4_isCode_11 : decode cX4_isCode 11 = .ok (.iconst 1, 1) := by decide +kernel
theorem dX4_isCode_12 : decode cX4_isCode 12 = .ok (.goto 4, 3) := by decide +kernel
theorem dX4_isCode_15 : decode cX4_isCode 15 = .ok (.iconst 0, 1) := by decide +kernel
theorem dX4_isCode_16 : decode cX4_isCode 16 = .ok (.ireturn, 1) := by decide +kernel
theorem dX4_isPage_0 : decode cX4_isPage 0 = .ok (.iload_n 1, 1) := by decide +kernel
theorem dX4_isPage_1 : decode cX4_isPage 1 = .ok (.ifCond .lt 15, 3) := by decide +kernel
theorem dX4_isPage_4 : decode cX4_isPage 4 = .ok (.iload_n 1, 1) := by decide +kernel
theorem dX4_isPage_5 : decode cX4_isPage 5 = .ok (.aload_n 0, 1) := by decide +kernel
theorem dX4_isPage_6 : decode cX4_isPage 6 = .ok (.getfield 38, 3) := by decide +kernel
theorem dX4_isPage_9 : decode cX4_isPage 9 = .ok (.if_icmp .ge 7, 3) := by decide +kernel
theorem dX4_isPage_12 : decode cX4_isPage 12 = .ok (.iconst 1, 1) := by decide +kernel
theorem dX4_isPage_13 : decode cX4_isPage 13 = .ok (.goto 4, 3) := by decide +kernel
theorem dX4_isPage_16 : decode cX4_isPage 16 = .ok (.iconst 0, 1) := by decide +kernel
theorem dX4_isPage_17 : decode cX4_isPage 17 = .ok (.ireturn, 1) := by decide +kernel
theorem dX4_isOrder_0 : decode cX4_isOrder 0 = .ok (.iload_n 1, 1) := by decide +kernel
theorem dX4_isOrder_1 : decode cX4_isOrder 1 = .ok (.ifCond .lt 15, 3) := by decide +kernel
theorem dX4_isOrder_4 : decode cX4_isOrder 4 = .ok (.iload_n 1, 1) := by decide +kernel
theorem dX4_isOrder_5 : decode cX4_isOrder 5 = .ok (.aload_n 0, 1) := by decide +kernel
theorem dX4_isOrder_6 : decode cX4_isOrder 6 = .ok (.getfield 41, 3) := by decide +kernel
theorem dX4_isOrder_9 : decode cX4_isOrder 9 = .ok (.if_icmp .ge 7, 3) := by decide +kernel
theorem dX4_isOrder_12 : decode cX4_isOrder 12 = .ok (.iconst 1, 1) := by decide +kernel
theorem dX4_isOrder_13 : decode cX4_isOrder 13 = .ok (.goto 4, 3) := by decide +kernel
theorem dX4_isOrder_16 : decode cX4_isOrder 16 = .ok (.iconst 0, 1) := by decide +kernel
theorem dX4_isOrder_17 : decode cX4_isOrder 17 = .ok (.ireturn, 1) := by decide +kernel
theorem dX4_isText_0 : decode cX4_isText 0 = .ok (.iload_n 1, 1) := by decide +kernel
theorem dX4_isText_1 : decode cX4_isText 1 = .ok (.ifCond .lt 15, 3) := by decide +kernel
theorem dX4_isText_4 : decode cX4_isText 4 = .ok (.iload_n 1, 1) := by decide +kernel
theorem dX4_isText_5 : decode cX4_isText 5 = .ok (.aload_n 0, 1) := by decide +kernel
theorem dX4_isText_6 : decode cX4_isText 6 = .ok (.getfield 44, 3) := by decide +kernel
theorem dX4_isText_9 : decode cX4_isText 9 = .ok (.if_icmp .ge 7, 3) := by decide +kernel
theorem dX4_isText_12 : decode cX4_isText 12 = .ok (.iconst 1, 1) := by decide +kernel
theorem dX4_isText_13 : decode cX4_isText 13 = .ok (.goto 4, 3) := by decide +kernel
theorem dX4_isText_16 : decode cX4_isText 16 = .ok (.iconst 0, 1) := by decide +kernel
theorem dX4_isText_17 : decode cX4_isText 17 = .ok (.ireturn, 1) := by decide +kernel
theorem dX4_page_0 : decode cX4_page 0 = .ok (.aload_n 0, 1) := by decide +kernel
theorem dX4_page_1 : decode cX4_page 1 = .ok (.iconst 0, 1) := by decide +kernel
theorem dX4_page_2 : decode cX4_page 2 = .ok (.putfield 34, 3) := by decide +kernel
theorem dX4_page_5 : decode cX4_page 5 = .ok (.iload_n 1, 1) := by decide +kernel
theorem dX4_page_6 : decode cX4_page 6 = .ok (.ifCond .lt 8, 3) := by decide +kernel
theorem dX4_page_9 : decode cX4_page 9 = .ok (.iload_n 1, 1) := by decide +kernel
theorem dX4_page_10 : decode cX4_page 10 = .ok (.iconst 2, 1) := by decide +kernel
theorem dX4_page_11 : decode cX4_page 11 = .ok (.if_icmp .le 6, 3) := by decide +kernel
theorem dX4_page_14 : decode cX4_page 14 = .ok (.bipush (-4), 2) := by decide +kernel
theorem dX4_page_16 : decode cX4_page 16 = .ok (.ireturn, 1) := by decide +kernel
theorem dX4_page_17 : decode cX4_page 17 = .ok (.aload_n 0, 1) := by decide +kernel
theorem dX4_page_18 : decode cX4_page 18 = .ok (.getfield 38, 3) := by decide +kernel
theorem dX4_page_21 : decode cX4_page 21 = .ok (.bipush 12, 2) := by decide +kernel
theorem dX4_page_23 : decode cX4_page 23 = .ok (.if_icmp .ne 5, 3) := by decide +kernel
theorem dX4_page_26 : decode cX4_page 26 = .ok (.iconst (-1), 1) := by decide +kernel
theorem dX4_page_27 : decode cX4_page 27 = .ok (.ireturn, 1) := by decide +kernel
theorem dX4_page_28 : decode cX4_page 28 = .ok (.iconst 0, 1) := by decide +kernel
theorem dX4_page_29 : decode cX4_page 29 = .ok (.istore_n 2, 1) := by decide +kernel
theorem dX4_page_30 : decode cX4_page 30 = .ok (.iload_n 2, 1) := by decide +kernel
theorem dX4_page_31 : decode cX4_page 31 = .ok (.sipush 256, 3) := by decide +kernel
theorem dX4_page_34 : decode cX4_page 34 = .ok (.if_icmp .ge 64, 3) := by decide +kernel
theorem dX4_page_37 : decode cX4_page 37 = .ok (.aload_n 0, 1) := by decide +kernel
theorem dX4_page_38 : decode cX4_page 38 = .ok (.getfield 7, 3) := by decide +kernel
theorem dX4_page_41 : decode cX4_page 41 = .ok (.sipush 256, 3) := by decide +kernel
theorem dX4_page_44 : decode cX4_page 44 = .ok (.aload_n 0, 1) := by decide +kernel
theorem dX4_page_45 : decode cX4_page 45 = .ok (.getfield 38, 3) := by decide +kernel
theorem dX4_page_48 : decode cX4_page 48 = .ok (.imul, 1) := by decide +kernel
theorem dX4_page_49 : decode cX4_page 49 = .ok (.iload_n 2, 1) := by decide +kernel
theorem dX4_page_50 : decode cX4_page 50 = .ok (.iadd, 1) := by decide +kernel
theorem dX4_page_51 : decode cX4_page 51 = .ok (.iload_n 1, 1) := by decide +kernel
theorem dX4_page_52 : decode cX4_page 52 = .ok (.ifCond .ne 18, 3) := by decide +kernel
theorem dX4_page_55 : decode cX4_page 55 = .ok (.iload_n 2, 1) := by decide +kernel
theorem dX4_page_56 : decode cX4_page 56 = .ok (.sipush 128, 3) := by decide +kernel
theorem dX4_page_59 : decode cX4_page 59 = .ok (.if_icmp .ge 7, 3) := by decide +kernel
theorem dX4_page_62 : decode cX4_page 62 = .ok (.iload_n 2, 1) := by decide +kernel
theorem dX4_page_63 : decode cX4_page 63 = .ok (.goto 28, 3) := by decide +kernel
theorem dX4_page_66 : decode cX4_page 66 = .ok (.iconst (-1), 1) := by decide +kernel
theorem dX4_page_67 : decode cX4_page 67 = .ok (.goto 24, 3) := by decide +kernel
theorem dX4_page_70 : decode cX4_page 70 = .ok (.iload_n 1, 1) := by decide +kernel
theorem dX4_page_71 : decode cX4_page 71 = .ok (.iconst 1, 1) := by decide +kernel
theorem dX4_page_72 : decode cX4_page 72 = .ok (.if_icmp .ne 18, 3) := by decide +kernel
theorem dX4_page_75 : decode cX4_page 75 = .ok (.sipush 167, 3) := by decide +kernel
theorem dX4_page_78 : decode cX4_page 78 = .ok (.iload_n 2, 1) := by decide +kernel
theorem dX4_page_79 : decode cX4_page 79 = .ok (.imul, 1) := by decide +kernel
theorem dX4_page_80 : decode cX4_page 80 = .ok (.bipush 13, 2) := by decide +kernel
theorem dX4_page_82 : decode cX4_page 82 = .ok (.iadd, 1) := by decide +kernel
theorem dX4_page_83 : decode cX4_page 83 = .ok (.sipush 256, 3) := by decide +kernel
theorem dX4_page_86 : decode cX4_page 86 = .ok (.irem, 1) := by decide +kernel
theorem dX4_page_87 : decode cX4_page 87 = .ok (.goto 4, 3) := by decide +kernel
theorem dX4_page_90 : decode cX4_page 90 = .ok (.iconst (-1), 1) := by decide +kernel
theorem dX4_page_91 : decode cX4_page 91 = .ok (.iastore, 1) := by decide +kernel
theorem dX4_page_92 : decode cX4_page 92 = .ok (.iinc 2 1, 3) := by decide +kernel
theorem dX4_page_95 : decode cX4_page 95 = .ok (.goto (-65), 3) := by decide +kernel
theorem dX4_page_98 : decode cX4_page 98 = .ok (.aload_n 0, 1) := by decide +kernel
theorem dX4_page_99 : decode cX4_page 99 = .ok (.getfield 13, 3) := by decide +kernel
theorem dX4_page_102 : decode cX4_page 102 = .ok (.aload_n 0, 1) := by decide +kernel
theorem dX4_page_103 : decode cX4_page 103 = .ok (.getfield 38, 3) := by decide +kernel
theorem dX4_page_106 : decode cX4_page 106 = .ok (.bipush 63, 2) := by decide +kernel
theorem dX4_page_108 : decode cX4_page 108 = .ok (.iastore, 1) := by decide +kernel
theorem dX4_page_109 : decode cX4_page 109 = .ok (.aload_n 0, 1) := by decide +kernel
theorem dX4_page_110 : decode cX4_page 110 = .ok (.dup, 1) := by decide +kernel
theorem dX4_page_111 : decode cX4_page 111 = .ok (.getfield 38, 3) := by decide +kernel
theorem dX4_page_114 : decode cX4_page 114 = .ok (.iconst 1, 1) := by decide +kernel
theorem dX4_page_115 : decode cX4_page 115 = .ok (.iadd, 1) := by decide +kernel
theorem dX4_page_116 : decode cX4_page 116 = .ok (.putfield 38, 3) := by decide +kernel
theorem dX4_page_119 : decode cX4_page 119 = .ok (.aload_n 0, 1) := by decide +kernel
theorem dX4_page_120 : decode cX4_page 120 = .ok (.getfield 38, 3) := by decide +kernel
theorem dX4_page_123 : decode cX4_page 123 = .ok (.iconst 1, 1) := by decide +kernel
theorem dX4_page_124 : decode cX4_page 124 = .ok (.isub, 1) := by decide +kernel
theorem dX4_page_125 : decode cX4_page 125 = .ok (.ireturn, 1) := by decide +kernel
theorem dX4_codeOf_0 : decode cX4_codeOf 0 = .ok (.iconst (-1), 1) := by decide +kernel
theorem dX4_codeOf_1 : decode cX4_codeOf 1 = .ok (.istore_n 3, 1) := by decide +kernel
theorem dX4_codeOf_2 : decode cX4_codeOf 2 = .ok (.iconst 0, 1) := by decide +kernel
theorem dX4_codeOf_3 : decode cX4_codeOf 3 = .ok (.istore 4, 2) := by decide +kernel
theorem dX4_codeOf_5 : decode cX4_codeOf 5 = .ok (.iload 4, 2) := by decide +kernel
theorem dX4_codeOf_7 : decode cX4_codeOf 7 = .ok (.sipush 256, 3) := by decide +kernel
theorem dX4_codeOf_10 : decode cX4_codeOf 10 = .ok (.if_icmp .ge 33, 3) := by decide +kernel
theorem dX4_codeOf_13 : decode cX4_codeOf 13 = .ok (.aload_n 0, 1) := by decide +kernel
theorem dX4_codeOf_14 : decode cX4_codeOf 14 = .ok (.getfield 7, 3) := by decide +kernel
theorem dX4_codeOf_17 : decode cX4_codeOf 17 = .ok (.sipush 256, 3) := by decide +kernel
theorem dX4_codeOf_20 : decode cX4_codeOf 20 = .ok (.iload_n 1, 1) := by decide +kernel
theorem dX4_codeOf_21 : decode cX4_codeOf 21 = .ok (.imul, 1) := by decide +kernel
theorem dX4_codeOf_22 : decode cX4_codeOf 22 = .ok (.iload 4, 2) := by decide +kernel
theorem dX4_codeOf_24 : decode cX4_codeOf 24 = .ok (.iadd, 1) := by decide +kernel
theorem dX4_codeOf_25 : decode cX4_codeOf 25 = .ok (.iaload, 1) := by decide +kernel
theorem dX4_codeOf_26 : decode cX4_codeOf 26 = .ok (.iload_n 2, 1) := by decide +kernel
theorem dX4_codeOf_27 : decode cX4_codeOf 27 = .ok (.if_icmp .ne 8, 3) := by decide +kernel
theorem dX4_codeOf_30 : decode cX4_codeOf 30 = .ok (.iload 4, 2) := by decide +kernel
theorem dX4_codeOf_32 : decode cX4_codeOf 32 = .ok (.goto 4, 3) := by decide +kernel
theorem dX4_codeOf_35 : decode cX4_codeOf 35 = .ok (.iload_n 3, 1) := by decide +kernel
theorem dX4_codeOf_36 : decode cX4_codeOf 36 = .ok (.istore_n 3, 1) := by decide +kernel
theorem dX4_codeOf_37 : decode cX4_codeOf 37 = .ok (.iinc 4 1, 3) := by decide +kernel
theorem dX4_codeOf_40 : decode cX4_codeOf 40 = .ok (.goto (-35), 3) := by decide +kernel
theorem dX4_codeOf_43 : decode cX4_codeOf 43 = .ok (.iload_n 3, 1) := by decide +kernel
theorem dX4_codeOf_44 : decode cX4_codeOf 44 = .ok (.ireturn, 1) := by decide +kernel
set_option maxRecDepth 20000 in
theorem ggX4_set_X4_isPage : GoodIn wsX4_set wsX4_isPage := goodIn_r _ [8, 9, 17, 18, 19, 20, 21, 22, 23, 24, 25, 26, 27, 28, 29, 30] (by decide +kernel) (by decide +kernel)
set_option maxRecDepth 20000 in
theorem gX4_set_X4_isPage : GoodIn wsX4_set (wsV RX4 47 RX4 yX4_isPage wsX4_isPage) := goodIn_app (goodIn_of _ (by decide +kernel)) ggX4_set_X4_isPage
set_option maxRecDepth 20000 in
theorem ggX4_set_X4_isCode : GoodIn wsX4_set wsX4_isCode := goodIn_r _ [12] (by decide +kernel) (by decide +kernel)
set_option maxRecDepth 20000 in
theorem gX4_set_X4_isCode : GoodIn wsX4_set (va_wsS RX4 51 yX4_isCode wsX4_isCode) := goodIn_app (goodIn_of _ (by decide +kernel)) ggX4_set_X4_isCode
set_option maxRecDepth 20000 in
theorem ggX4_set_X4_codeOf : GoodIn wsX4_set wsX4_codeOf := goodIn_r _ [16, 3, 17, 18, 19, 20, 21, 22, 23, 24, 25, 26, 27, 28, 29, 30] (by decide +kernel) (by decide +kernel)
set_option maxRecDepth 20000 in
theorem gX4_set_X4_codeOf : GoodIn wsX4_set (wsV RX4 55 RX4 yX4_codeOf wsX4_codeOf) := goodIn_app (goodIn_of _ (by decide +kernel)) ggX4_set_X4_codeOf
theorem dX4_set_0 : decode cX4_set 0 = .ok (.aload_n 0, 1) := by decide +kernel
theorem dX4_set_1 : decode cX4_set 1 = .ok (.iconst 0, 1) := by decide +kernel
theorem dX4_set_2 : decode cX4_set 2 = .ok (.putfield 34, 3) := by decide +kernel
theorem dX4_set_5 : decode cX4_set 5 = .ok (.aload_n 0, 1) := by decide +kernel
theorem dX4_set_6 : decode cX4_set 6 = .ok (.iload_n 1, 1) := by decide +kernel
theorem dX4_set_7 : decode cX4_set 7 = .ok (.invokevirtual 47, 3) := by decide +kernel
theorem dX4_set_10 : decode cX4_set 10 = .ok (.ifCond .ne 6, 3) := by decide +kernel
theorem dX4_set_13 : decode cX4_set 13 = .ok (.bipush (-2), 2) := by decide +kernel
theorem dX4_set_15 : decode cX4_set 15 = .ok (.ireturn, 1) := by decide +kernel
theorem dX4_set_16 : decode cX4_set 16 = .ok (.iload_n 2, 1) := by decide +kernel
theorem dX4_set_17 : decode cX4_set 17 = .ok (.invokestatic 51, 3) := by decide +kernel
theorem dX4_set_20 : decode cX4_set 20 = .ok (.ifCond .eq 14, 3) := by decide +kernel
theorem dX4_set_23 : decode cX4_set 23 = .ok (.iload_n 3, 1) := by decide +kernel
theorem dX4_set_24 : decode cX4_set 24 = .ok (.iconst (-1), 1) := by decide +kernel
theorem dX4_set_25 : decode cX4_set 25 = .ok (.if_icmp .lt 9, 3) := by decide +kernel
theorem dX4_set_28 : decode cX4_set 28 = .ok (.iload_n 3, 1) := by decide +kernel
theorem dX4_set_29 : decode cX4_set 29 = .ok (.ldc 54, 2) := by decide +kernel
theorem dX4_set_31 : decode cX4_set 31 = .ok (.if_icmp .le 6, 3) := by decide +kernel
theorem dX4_set_34 : decode cX4_set 34 = .ok (.bipush (-4), 2) := by decide +kernel
theorem dX4_set_36 : decode cX4_set 36 = .ok (.ireturn, 1) := by decide +kernel
theorem dX4_set_37 : decode cX4_set 37 = .ok (.iload_n 3, 1) := by decide +kernel
theorem dX4_set_38 : decode cX4_set 38 = .ok (.iconst (-1), 1) := by decide +kernel
theorem dX4_set_39 : decode cX4_set 39 = .ok (.if_icmp .ne 7, 3) := by decide +kernel
theorem dX4_set_42 : decode cX4_set 42 = .ok (.iconst (-1), 1) := by decide +kernel
theorem dX4_set_43 : decode cX4_set 43 = .ok (.goto 9, 3) := by decide +kernel
theorem dX4_set_46 : decode cX4_set 46 = .ok (.aload_n 0, 1) := by decide +kernel
theorem dX4_set_47 : decode cX4_set 47 = .ok (.iload_n 1, 1) := by decide +kernel
theorem dX4_set_48 : decode cX4_set 48 = .ok (.iload_n 3, 1) := by decide +kernel
theorem dX4_set_49 : decode cX4_set 49 = .ok (.invokevirtual 55, 3) := by decide +kernel
theorem dX4_set_52 : decode cX4_set 52 = .ok (.istore 4, 2) := by decide +kernel
theorem dX4_set_54 : decode cX4_set 54 = .ok (.iload 4, 2) := by decide +kernel
theorem dX4_set_56 : decode cX4_set 56 = .ok (.iconst (-1), 1) := by decide +kernel
theorem dX4_set_57 : decode cX4_set 57 = .ok (.if_icmp .eq 11, 3) := by decide +kernel
theorem dX4_set_60 : decode cX4_set 60 = .ok (.iload 4, 2) := by decide +kernel
theorem dX4_set_62 : decode cX4_set 62 = .ok (.iload_n 2, 1) := by decide +kernel
theorem dX4_set_63 : decode cX4_set 63 = .ok (.if_icmp .eq 5, 3) := by decide +kernel
theorem dX4_set_66 : decode cX4_set 66 = .ok (.iconst 0, 1) := by decide +kernel
theorem dX4_set_67 : decode cX4_set 67 = .ok (.ireturn, 1) := by decide +kernel
theorem dX4_set_68 : decode cX4_set 68 = .ok (.aload_n 0, 1) := by decide +kernel
theorem dX4_set_69 : decode cX4_set 69 = .ok (.getfield 7, 3) := by decide +kernel
theorem dX4_set_72 : decode cX4_set 72 = .ok (.sipush 256, 3) := by decide +kernel
theorem dX4_set_75 : decode cX4_set 75 = .ok (.iload_n 1, 1) := by decide +kernel
theorem dX4_set_76 : decode cX4_set 76 = .ok (.imul, 1) := by decide +kernel
theorem dX4_set_77 : decode cX4_set 77 = .ok (.iload_n 2, 1) := by decide +kernel
theorem dX4_set_78 : decode cX4_set 78 = .ok (.iadd, 1) := by decide +kernel
theorem dX4_set_79 : decode cX4_set 79 = .ok (.iload_n 3, 1) := by decide +kernel
theorem dX4_set_80 : decode cX4_set 80 = .ok (.iastore, 1) := by decide +kernel
theorem dX4_set_81 : decode cX4_set 81 = .ok (.iconst 1, 1) := by decide +kernel
theorem dX4_set_82 : decode cX4_set 82 = .ok (.ireturn, 1) := by decide +kernel
set_option maxRecDepth 20000 in
theorem ggX4_row_X4_isPage : GoodIn wsX4_row wsX4_isPage := goodIn_r _ [7, 8, 12, 13, 14, 15, 16, 17, 18, 19, 20, 21, 22, 23, 24, 25] (by decide +kernel) (by decide +kernel)
set_option maxRecDepth 20000 in
theorem gX4_row_X4_isPage : GoodIn wsX4_row (wsV RX4 47 RX4 yX4_isPage wsX4_isPage) := goodIn_app (goodIn_of _ (by decide +kernel)) ggX4_row_X4_isPage
set_option maxRecDepth 20000 in
theorem ggX4_row_X4_isCode : GoodIn wsX4_row wsX4_isCode := goodIn_r _ [11] (by decide +kernel) (by decide +kernel)
set_option maxRecDepth 20000 in
theorem gX4_row_X4_isCode : GoodIn wsX4_row (va_wsS RX4 51 yX4_isCode wsX4_isCode) := goodIn_app (goodIn_of _ (by decide +kernel)) ggX4_row_X4_isCode
theorem dX4_row_0 : decode cX4_row 0 = .ok (.aload_n 0, 1) := by decide +kernel
theorem dX4_row_1 : decode cX4_row 1 = .ok (.iload_n 1, 1) := by decide +kernel
theorem dX4_row_2 : decode cX4_row 2 = .ok (.invokevirtual 47, 3) := by decide +kernel
theorem dX4_row_5 : decode cX4_row 5 = .ok (.ifCond .eq 14, 3) := by decide +kernel
theorem dX4_row_8 : decode cX4_row 8 = .ok (.iload_n 2, 1) := by decide +kernel
theorem dX4_row_9 : decode cX4_row 9 = .ok (.invokestatic 51, 3) := by decide +kernel
theorem dX4_row_12 : decode cX4_row 12 = .ok (.ifCond .eq 7, 3) := by decide +kernel
theorem dX4_row_15 : decode cX4_row 15 = .ok (.iconst 1, 1) := by decide +kernel
theorem dX4_row_16 : decode cX4_row 16 = .ok (.goto 4, 3) := by decide +kernel
theorem dX4_row_19 : decode cX4_row 19 = .ok (.iconst 0, 1) := by decide +kernel
theorem dX4_row_20 : decode cX4_row 20 = .ok (.istore_n 3, 1) := by decide +kernel
theorem dX4_row_21 : decode cX4_row 21 = .ok (.aload_n 0, 1) := by decide +kernel
theorem dX4_row_22 : decode cX4_row 22 = .ok (.iload_n 3, 1) := by decide +kernel
theorem dX4_row_23 : decode cX4_row 23 = .ok (.ifCond .eq 7, 3) := by decide +kernel
theorem dX4_row_26 : decode cX4_row 26 = .ok (.iconst 0, 1) := by decide +kernel
theorem dX4_row_27 : decode cX4_row 27 = .ok (.goto 4, 3) := by decide +kernel
theorem dX4_row_30 : decode cX4_row 30 = .ok (.iconst 1, 1) := by decide +kernel
theorem dX4_row_31 : decode cX4_row 31 = .ok (.putfield 34, 3) := by decide +kernel
theorem dX4_row_34 : decode cX4_row 34 = .ok (.iload_n 3, 1) := by decide +kernel
theorem dX4_row_35 : decode cX4_row 35 = .ok (.ifCond .eq 18, 3) := by decide +kernel
theorem dX4_row_38 : decode cX4_row 38 = .ok (.aload_n 0, 1) := by decide +kernel
theorem dX4_row_39 : decode cX4_row 39 = .ok (.getfield 7, 3) := by decide +kernel
theorem dX4_row_42 : decode cX4_row 42 = .ok (.sipush 256, 3) := by decide +kernel
theorem dX4_row_45 : decode cX4_row 45 = .ok (.iload_n 1, 1) := by decide +kernel
theorem dX4_row_46 : decode cX4_row 46 = .ok (.imul, 1) := by decide +kernel
theorem dX4_row_47 : decode cX4_row 47 = .ok (.iload_n 2, 1) := by decide +kernel
theorem dX4_row_48 : decode cX4_row 48 = .ok (.iadd, 1) := by decide +kernel
theorem dX4_row_49 : decode cX4_row 49 = .ok (.iaload, 1) := by decide +kernel
theorem dX4_row_50 : decode cX4_row 50 = .ok (.goto 4, 3) := by decide +kernel
theorem dX4_row_53 : decode cX4_row 53 = .ok (.iconst 0, 1) := by decide +kernel
theorem dX4_row_54 : decode cX4_row 54 = .ok (.ireturn, 1) := by decide +kernel
set_option maxRecDepth 20000 in
theorem ggX4_standIn_X4_isPage : GoodIn wsX4_standIn wsX4_isPage := goodIn_r _ [7, 8, 12, 13, 14, 15, 16, 17, 18, 19, 20, 21, 22, 23, 24, 25] (by decide +kernel) (by decide +kernel)
set_option maxRecDepth 20000 in
theorem gX4_standIn_X4_isPage : GoodIn wsX4_standIn (wsV RX4 47 RX4 yX4_isPage wsX4_isPage) := goodIn_app (goodIn_of _ (by decide +kernel)) ggX4_standIn_X4_isPage
set_option maxRecDepth 20000 in
theorem ggX4_standIn_X4_isCode : GoodIn wsX4_standIn wsX4_isCode := goodIn_r _ [11] (by decide +kernel) (by decide +kernel)
set_option maxRecDepth 20000 in
theorem gX4_standIn_X4_isCode : GoodIn wsX4_standIn (va_wsS RX4 51 yX4_isCode wsX4_isCode) := goodIn_app (goodIn_of _ (by decide +kernel)) ggX4_standIn_X4_isCode
theorem dX4_standIn_0 : decode cX4_standIn 0 = .ok (.aload_n 0, 1) := by decide +kernel
theorem dX4_standIn_1 : decode cX4_standIn 1 = .ok (.iconst 0, 1) := by decide +kernel
theorem dX4_standIn_2 : decode cX4_standIn 2 = .ok (.putfield 34, 3) := by decide +kernel
theorem dX4_standIn_5 : decode cX4_standIn 5 = .ok (.aload_n 0, 1) := by decide +kernel
theorem dX4_standIn_6 : decode cX4_standIn 6 = .ok (.iload_n 1, 1) := by decide +kernel
theorem dX4_standIn_7 : decode cX4_standIn 7 = .ok (.invokevirtual 47, 3) := by decide +kernel
theorem dX4_standIn_10 : decode cX4_standIn 10 = .ok (.ifCond .ne 6, 3) := by decide +kernel
theorem dX4_standIn_13 : decode cX4_standIn 13 = .ok (.bipush (-2), 2) := by decide +kernel
theorem dX4_standIn_15 : decode cX4_standIn 15 = .ok (.ireturn, 1) := by decide +kernel
theorem dX4_standIn_16 : decode cX4_standIn 16 = .ok (.iload_n 2, 1) := by decide +kernel
theorem dX4_standIn_17 : decode cX4_standIn 17 = .ok (.invokestatic 51, 3) := by decide +kernel
theorem dX4_standIn_20 : decode cX4_standIn 20 = .ok (.ifCond .ne 6, 3) := by decide +kernel
theorem dX4_standIn_23 : decode cX4_standIn 23 = .ok (.bipush (-4), 2) := by decide +kernel
theorem dX4_standIn_25 : decode cX4_standIn 25 = .ok (.ireturn, 1) := by decide +kernel
theorem dX4_standIn_26 : decode cX4_standIn 26 = .ok (.aload_n 0, 1) := by decide +kernel
theorem dX4_standIn_27 : decode cX4_standIn 27 = .ok (.getfield 13, 3) := by decide +kernel
theorem dX4_standIn_30 : decode cX4_standIn 30 = .ok (.iload_n 1, 1) := by decide +kernel
theorem dX4_standIn_31 : decode cX4_standIn 31 = .ok (.iaload, 1) := by decide +kernel
theorem dX4_standIn_32 : decode cX4_standIn 32 = .ok (.istore_n 3, 1) := by decide +kernel
theorem dX4_standIn_33 : decode cX4_standIn 33 = .ok (.aload_n 0, 1) := by decide +kernel
theorem dX4_standIn_34 : decode cX4_standIn 34 = .ok (.getfield 13, 3) := by decide +kernel
theorem dX4_standIn_37 : decode cX4_standIn 37 = .ok (.iload_n 1, 1) := by decide +kernel
theorem dX4_standIn_38 : decode cX4_standIn 38 = .ok (.iload_n 2, 1) := by decide +kernel
theorem dX4_standIn_39 : decode cX4_standIn 39 = .ok (.iastore, 1) := by decide +kernel
theorem dX4_standIn_40 : decode cX4_standIn 40 = .ok (.iload_n 3, 1) := by decide +kernel
theorem dX4_standIn_41 : decode cX4_standIn 41 = .ok (.ireturn, 1) := by decide +kernel
set_option maxRecDepth 20000 in
theorem ggX4_translated_X4_codeOf : GoodIn wsX4_translated wsX4_codeOf := goodIn_r _ [10, 1, 11, 12, 13, 14, 15, 16, 17, 18, 19, 20, 21, 22, 23, 24] (by decide +kernel) (by decide +kernel)
set_option maxRecDepth 20000 in
theorem gX4_translated_X4_codeOf : GoodIn wsX4_translated (wsV RX4 55 RX4 yX4_codeOf wsX4_codeOf) := goodIn_app (goodIn_of _ (by decide +kernel)) ggX4_translated_X4_codeOf
theorem dX4_translated_0 : decode cX4_translated 0 = .ok (.aload_n 0, 1) := by decide +kernel
theorem dX4_translated_1 : decode cX4_translated 1 = .ok (.getfield 7, 3) := by decide +kernel
theorem dX4_translated_4 : decode cX4_translated 4 = .ok (.sipush 256, 3) := by decide +kernel
theorem dX4_translated_7 : decode cX4_translated 7 = .ok (.iload_n 2, 1) := by decide +kernel
theorem dX4_translated_8 : decode cX4_translated 8 = .ok (.imul, 1) := by decide +kernel
theorem dX4_translated_9 : decode cX4_translated 9 = .ok (.iload_n 1, 1) := by decide +kernel
theorem dX4_translated_10 : decode cX4_translated 10 = .ok (.iadd, 1) := by decide +kernel
theorem dX4_translated_11 : decode cX4_translated 11 = .ok (.iaload, 1) := by decide +kernel
theorem dX4_translated_12 : decode cX4_translated 12 = .ok (.istore 4, 2) := by decide +kernel
theorem dX4_translated_14 : decode cX4_translated 14 = .ok (.iload 4, 2) := by decide +kernel
theorem dX4_translated_16 : decode cX4_translated 16 = .ok (.iconst (-1), 1) := by decide +kernel
theorem dX4_translated_17 : decode cX4_translated 17 = .ok (.if_icmp .ne 7, 3) := by decide +kernel
theorem dX4_translated_20 : decode cX4_translated 20 = .ok (.iconst (-1), 1) := by decide +kernel
theorem dX4_translated_21 : decode cX4_translated 21 = .ok (.goto 10, 3) := by decide +kernel
theorem dX4_translated_24 : decode cX4_translated 24 = .ok (.aload_n 0, 1) := by decide +kernel
theorem dX4_translated_25 : decode cX4_translated 25 = .ok (.iload_n 3, 1) := by decide +kernel
theorem dX4_translated_26 : decode cX4_translated 26 = .ok (.iload 4, 2) := by decide +kernel
theorem dX4_translated_28 : decode cX4_translated 28 = .ok (.invokevirtual 55, 3) := by decide +kernel
theorem dX4_translated_31 : decode cX4_translated 31 = .ok (.istore 5, 2) := by decide +kernel
theorem dX4_translated_33 : decode cX4_translated 33 = .ok (.iload 5, 2) := by decide +kernel
theorem dX4_translated_35 : decode cX4_translated 35 = .ok (.iconst (-1), 1) := by decide +kernel
theorem dX4_translated_36 : decode cX4_translated 36 = .ok (.if_icmp .eq 6, 3) := by decide +kernel
theorem dX4_translated_39 : decode cX4_translated 39 = .ok (.iload 5, 2) := by decide +kernel
theorem dX4_translated_41 : decode cX4_translated 41 = .ok (.ireturn, 1) := by decide +kernel
theorem dX4_translated_42 : decode cX4_translated 42 = .ok (.aload_n 0, 1) := by decide +kernel
theorem dX4_translated_43 : decode cX4_translated 43 = .ok (.getfield 59, 3) := by decide +kernel
theorem dX4_translated_46 : decode cX4_translated 46 = .ok (.sipush 200, 3) := by decide +kernel
theorem dX4_translated_49 : decode cX4_translated 49 = .ok (.if_icmp .ge 23, 3) := by decide +kernel
theorem dX4_translated_52 : decode cX4_translated 52 = .ok (.aload_n 0, 1) := by decide +kernel
theorem dX4_translated_53 : decode cX4_translated 53 = .ok (.getfield 31, 3) := by decide +kernel
theorem dX4_translated_56 : decode cX4_translated 56 = .ok (.aload_n 0, 1) := by decide +kernel
theorem dX4_translated_57 : decode cX4_translated 57 = .ok (.getfield 59, 3) := by decide +kernel
theorem dX4_translated_60 : decode cX4_translated 60 = .ok (.iload_n 1, 1) := by decide +kernel
theorem dX4_translated_61 : decode cX4_translated 61 = .ok (.iastore, 1) := by decide +kernel
theorem dX4_translated_62 : decode cX4_translated 62 = .ok (.aload_n 0, 1) := by decide +kernel
theorem dX4_translated_63 : decode cX4_translated 63 = .ok (.dup, 1) := by decide +kernel
theorem dX4_translated_64 : decode cX4_translated 64 = .ok (.getfield 59, 3) := by decide +kernel
theorem dX4_translated_67 : decode cX4_translated 67 = .ok (.iconst 1, 1) := by decide +kernel
theorem dX4_translated_68 : decode cX4_translated 68 = .ok (.iadd, 1) := by decide +kernel
theorem dX4_translated_69 : decode cX4_translated 69 = .ok (.putfield 59, 3) := by decide +kernel
theorem dX4_translated_72 : decode cX4_translated 72 = .ok (.aload_n 0, 1) := by decide +kernel
theorem dX4_translated_73 : decode cX4_translated 73 = .ok (.dup, 1) := by decide +kernel
theorem dX4_translated_74 : decode cX4_translated 74 = .ok (.getfield 62, 3) := by decide +kernel
theorem dX4_translated_77 : decode cX4_translated 77 = .ok (.iconst 1, 1) := by decide +kernel
theorem dX4_translated_78 : decode cX4_translated 78 = .ok (.iadd, 1) := by decide +kernel
theorem dX4_translated_79 : decode cX4_translated 79 = .ok (.putfield 62, 3) := by decide +kernel
theorem dX4_translated_82 : decode cX4_translated 82 = .ok (.aload_n 0, 1) := by decide +kernel
theorem dX4_translated_83 : decode cX4_translated 83 = .ok (.getfield 13, 3) := by decide +kernel
theorem dX4_translated_86 : decode cX4_translated 86 = .ok (.iload_n 3, 1) := by decide +kernel
theorem dX4_translated_87 : decode cX4_translated 87 = .ok (.iaload, 1) := by decide +kernel
theorem dX4_translated_88 : decode cX4_translated 88 = .ok (.ireturn, 1) := by decide +kernel
set_option maxRecDepth 20000 in
theorem ggX4_translate_X4_isPage : GoodIn wsX4_translate wsX4_isPage := goodIn_r _ [6, 7, 24, 25, 26, 27, 28, 29, 30, 31, 32, 33, 34, 35, 36, 37] (by decide +kernel) (by decide +kernel)
set_option maxRecDepth 20000 in
theorem gX4_translate_X4_isPage : GoodIn wsX4_translate (wsV RX4 47 RX4 yX4_isPage wsX4_isPage) := goodIn_app (goodIn_of _ (by decide +kernel)) ggX4_translate_X4_isPage
set_option maxRecDepth 20000 in
theorem ggX4_translate_X4_isCode : GoodIn wsX4_translate wsX4_isCode := goodIn_r _ [10] (by decide +kernel) (by decide +kernel)
set_option maxRecDepth 20000 in
theorem gX4_translate_X4_isCode : GoodIn wsX4_translate (va_wsS RX4 51 yX4_isCode wsX4_isCode) := goodIn_app (goodIn_of _ (by decide +kernel)) ggX4_translate_X4_isCode
set_option maxRecDepth 20000 in
theorem ggX4_translate_X4_translated : GoodIn wsX4_translate wsX4_translated := goodIn_r _ [14, 15, 16, 17, 18, 19, 20, 21, 22, 5, 23, 24, 25, 26, 27, 28, 29, 30, 31, 32, 33, 34, 35, 36, 37] (by decide +kernel) (by decide +kernel)
set_option maxRecDepth 20000 in
theorem gX4_translate_X4_translated : GoodIn wsX4_translate (wsV RX4 65 RX4 yX4_translated wsX4_translated) := goodIn_app (goodIn_of _ (by decide +kernel)) ggX4_translate_X4_translated
theorem dX4_translate_0 : decode cX4_translate 0 = .ok (.aload_n 0, 1) := by decide +kernel
theorem dX4_translate_1 : decode cX4_translate 1 = .ok (.iconst 0, 1) := by decide +kernel
theorem dX4_translate_2 : decode cX4_translate 2 = .ok (.putfield 34, 3) := by decide +kernel
theorem dX4_translate_5 : decode cX4_translate 5 = .ok (.aload_n 0, 1) := by decide +kernel
theorem dX4_translate_6 : decode cX4_translate 6 = .ok (.iload_n 2, 1) := by decide +kernel
theorem dX4_translate_7 : decode cX4_translate 7 = .ok (.invokevirtual 47, 3) := by decide +kernel
theorem dX4_translate_10 : decode cX4_translate 10 = .ok (.ifCond .eq 11, 3) := by decide +kernel
theorem dX4_translate_13 : decode cX4_translate 13 = .ok (.aload_n 0, 1) := by decide +kernel
theorem dX4_translate_14 : decode cX4_translate 14 = .ok (.iload_n 3, 1) := by decide +kernel
theorem dX4_translate_15 : decode cX4_translate 15 = .ok (.invokevirtual 47, 3) := by decide +kernel
theorem dX4_translate_18 : decode cX4_translate 18 = .ok (.ifCond .ne 6, 3) := by decide +kernel
theorem dX4_translate_21 : decode cX4_translate 21 = .ok (.bipush (-2), 2) := by decide +kernel
theorem dX4_translate_23 : decode cX4_translate 23 = .ok (.ireturn, 1) := by decide +kernel
theorem dX4_translate_24 : decode cX4_translate 24 = .ok (.iload_n 1, 1) := by decide +kernel
theorem dX4_translate_25 : decode cX4_translate 25 = .ok (.invokestatic 51, 3) := by decide +kernel
theorem dX4_translate_28 : decode cX4_translate 28 = .ok (.ifCond .eq 13, 3) := by decide +kernel
theorem dX4_translate_31 : decode cX4_translate 31 = .ok (.aload_n 0, 1) := by decide +kernel
theorem dX4_translate_32 : decode cX4_translate 32 = .ok (.iload_n 1, 1) := by decide +kernel
theorem dX4_translate_33 : decode cX4_translate 33 = .ok (.iload_n 2, 1) := by decide +kernel
theorem dX4_translate_34 : decode cX4_translate 34 = .ok (.iload_n 3, 1) := by decide +kernel
theorem dX4_translate_35 : decode cX4_translate 35 = .ok (.invokevirtual 65, 3) := by decide +kernel
theorem dX4_translate_38 : decode cX4_translate 38 = .ok (.goto 5, 3) := by decide +kernel
theorem dX4_translate_41 : decode cX4_translate 41 = .ok (.bipush (-4), 2) := by decide +kernel
theorem dX4_translate_43 : decode cX4_translate 43 = .ok (.ireturn, 1) := by decide +kernel
theorem dX4_told_0 : decode cX4_told 0 = .ok (.aload_n 0, 1) := by decide +kernel
theorem dX4_told_1 : decode cX4_told 1 = .ok (.iconst 0, 1) := by decide +kernel
theorem dX4_told_2 : decode cX4_told 2 = .ok (.putfield 34, 3) := by decide +kernel
theorem dX4_told_5 : decode cX4_told 5 = .ok (.iload_n 1, 1) := by decide +kernel
theorem dX4_told_6 : decode cX4_told 6 = .ok (.ifCond .lt 20, 3) := by decide +kernel
theorem dX4_told_9 : decode cX4_told 9 = .ok (.iload_n 1, 1) := by decide +kernel
theorem dX4_told_10 : decode cX4_told 10 = .ok (.aload_n 0, 1) := by decide +kernel
theorem dX4_told_11 : decode cX4_told 11 = .ok (.getfield 59, 3) := by decide +kernel
theorem dX4_told_14 : decode cX4_told 14 = .ok (.if_icmp .ge 12, 3) := by decide +kernel
theorem dX4_told_17 : decode cX4_told 17 = .ok (.aload_n 0, 1) := by decide +kernel
theorem dX4_told_18 : decode cX4_told 18 = .ok (.getfield 31, 3) := by decide +kernel
theorem dX4_told_21 : decode cX4_told 21 = .ok (.iload_n 1, 1) := by decide +kernel
theorem dX4_told_22 : decode cX4_told 22 = .ok (.iaload, 1) := by decide +kernel
theorem dX4_told_23 : decode cX4_told 23 = .ok (.goto 4, 3) := by decide +kernel
theorem dX4_told_26 : decode cX4_told 26 = .ok (.iconst (-1), 1) := by decide +kernel
theorem dX4_told_27 : decode cX4_told 27 = .ok (.ireturn, 1) := by decide +kernel
set_option maxRecDepth 20000 in
theorem ggX4_order_X4_meant : GoodIn wsX4_order wsX4_meant := goodIn_r _ [10, 11, 12, 13, 14, 15, 16, 17, 18, 19, 20, 21, 22, 23, 24, 25, 26] (by decide +kernel) (by decide +kernel)
set_option maxRecDepth 20000 in
theorem gX4_order_X4_meant : GoodIn wsX4_order (wsV RX4 69 RX4 yX4_meant wsX4_meant) := goodIn_app (goodIn_of _ (by decide +kernel)) ggX4_order_X4_meant
theorem dX4_order_0 : decode cX4_order 0 = .ok (.aload_n 0, 1) := by decide +kernel
theorem dX4_order_1 : decode cX4_order 1 = .ok (.iconst 0, 1) := by decide +kernel
theorem dX4_order_2 : decode cX4_order 2 = .ok (.putfield 34, 3) := by decide +kernel
theorem dX4_order_5 : decode cX4_order 5 = .ok (.iload_n 1, 1) := by decide +kernel
theorem dX4_order_6 : decode cX4_order 6 = .ok (.ifCond .lt 8, 3) := by decide +kernel
theorem dX4_order_9 : decode cX4_order 9 = .ok (.iload_n 1, 1) := by decide +kernel
theorem dX4_order_10 : decode cX4_order 10 = .ok (.iconst 2, 1) := by decide +kernel
theorem dX4_order_11 : decode cX4_order 11 = .ok (.if_icmp .le 6, 3) := by decide +kernel
theorem dX4_order_14 : decode cX4_order 14 = .ok (.bipush (-4), 2) := by decide +kernel
theorem dX4_order_16 : decode cX4_order 16 = .ok (.ireturn, 1) := by decide +kernel
theorem dX4_order_17 : decode cX4_order 17 = .ok (.aload_n 0, 1) := by decide +kernel
theorem dX4_order_18 : decode cX4_order 18 = .ok (.getfield 41, 3) := by decide +kernel
theorem dX4_order_21 : decode cX4_order 21 = .ok (.bipush 12, 2) := by decide +kernel
theorem dX4_order_23 : decode cX4_order 23 = .ok (.if_icmp .ne 5, 3) := by decide +kernel
theorem dX4_order_26 : decode cX4_order 26 = .ok (.iconst (-1), 1) := by decide +kernel
theorem dX4_order_27 : decode cX4_order 27 = .ok (.ireturn, 1) := by decide +kernel
theorem dX4_order_28 : decode cX4_order 28 = .ok (.aload_n 0, 1) := by decide +kernel
theorem dX4_order_29 : decode cX4_order 29 = .ok (.getfield 16, 3) := by decide +kernel
theorem dX4_order_32 : decode cX4_order 32 = .ok (.aload_n 0, 1) := by decide +kernel
theorem dX4_order_33 : decode cX4_order 33 = .ok (.getfield 41, 3) := by decide +kernel
theorem dX4_order_36 : decode cX4_order 36 = .ok (.iload_n 1, 1) := by decide +kernel
theorem dX4_order_37 : decode cX4_order 37 = .ok (.iastore, 1) := by decide +kernel
theorem dX4_order_38 : decode cX4_order 38 = .ok (.aload_n 0, 1) := by decide +kernel
theorem dX4_order_39 : decode cX4_order 39 = .ok (.getfield 22, 3) := by decide +kernel
theorem dX4_order_42 : decode cX4_order 42 = .ok (.aload_n 0, 1) := by decide +kernel
theorem dX4_order_43 : decode cX4_order 43 = .ok (.getfield 41, 3) := by decide +kernel
theorem dX4_order_46 : decode cX4_order 46 = .ok (.iconst 0, 1) := by decide +kernel
theorem dX4_order_47 : decode cX4_order 47 = .ok (.iastore, 1) := by decide +kernel
theorem dX4_order_48 : decode cX4_order 48 = .ok (.iconst 0, 1) := by decide +kernel
theorem dX4_order_49 : decode cX4_order 49 = .ok (.istore_n 2, 1) := by decide +kernel
theorem dX4_order_50 : decode cX4_order 50 = .ok (.iload_n 2, 1) := by decide +kernel
theorem dX4_order_51 : decode cX4_order 51 = .ok (.sipush 256, 3) := by decide +kernel
theorem dX4_order_54 : decode cX4_order 54 = .ok (.if_icmp .ge 46, 3) := by decide +kernel
theorem dX4_order_57 : decode cX4_order 57 = .ok (.aload_n 0, 1) := by decide +kernel
theorem dX4_order_58 : decode cX4_order 58 = .ok (.getfield 19, 3) := by decide +kernel
theorem dX4_order_61 : decode cX4_order 61 = .ok (.sipush 256, 3) := by decide +kernel
theorem dX4_order_64 : decode cX4_order 64 = .ok (.aload_n 0, 1) := by decide +kernel
theorem dX4_order_65 : decode cX4_order 65 = .ok (.getfield 41, 3) := by decide +kernel
theorem dX4_order_68 : decode cX4_order 68 = .ok (.imul, 1) := by decide +kernel
theorem dX4_order_69 : decode cX4_order 69 = .ok (.iload_n 2, 1) := by decide +kernel
theorem dX4_order_70 : decode cX4_order 70 = .ok (.iadd, 1) := by decide +kernel
theorem dX4_order_71 : decode cX4_order 71 = .ok (.iload_n 1, 1) := by decide +kernel
theorem dX4_order_72 : decode cX4_order 72 = .ok (.iconst 2, 1) := by decide +kernel
theorem dX4_order_73 : decode cX4_order 73 = .ok (.if_icmp .ne 7, 3) := by decide +kernel
theorem dX4_order_76 : decode cX4_order 76 = .ok (.iconst (-1), 1) := by decide +kernel
theorem dX4_order_77 : decode cX4_order 77 = .ok (.goto 16, 3) := by decide +kernel
theorem dX4_order_80 : decode cX4_order 80 = .ok (.iload_n 1, 1) := by decide +kernel
theorem dX4_order_81 : decode cX4_order 81 = .ok (.ifCond .ne 7, 3) := by decide +kernel
theorem dX4_order_84 : decode cX4_order 84 = .ok (.iload_n 2, 1) := by decide +kernel
theorem dX4_order_85 : decode cX4_order 85 = .ok (.goto 8, 3) := by decide +kernel
theorem dX4_order_88 : decode cX4_order 88 = .ok (.aload_n 0, 1) := by decide +kernel
theorem dX4_order_89 : decode cX4_order 89 = .ok (.iload_n 2, 1) := by decide +kernel
theorem dX4_order_90 : decode cX4_order 90 = .ok (.invokevirtual 69, 3) := by decide +kernel
theorem dX4_order_93 : decode cX4_order 93 = .ok (.iastore, 1) := by decide +kernel
theorem dX4_order_94 : decode cX4_order 94 = .ok (.iinc 2 1, 3) := by decide +kernel
theorem dX4_order_97 : decode cX4_order 97 = .ok (.goto (-47), 3) := by decide +kernel
theorem dX4_order_100 : decode cX4_order 100 = .ok (.aload_n 0, 1) := by decide +kernel
theorem dX4_order_101 : decode cX4_order 101 = .ok (.dup, 1) := by decide +kernel
theorem dX4_order_102 : decode cX4_order 102 = .ok (.getfield 41, 3) := by decide +kernel
theorem dX4_order_105 : decode cX4_order 105 = .ok (.iconst 1, 1) := by decide +kernel
theorem dX4_order_106 : decode cX4_order 106 = .ok (.iadd, 1) := by decide +kernel
theorem dX4_order_107 : decode cX4_order 107 = .ok (.putfield 41, 3) := by decide +kernel
theorem dX4_order_110 : decode cX4_order 110 = .ok (.aload_n 0, 1) := by decide +kernel
theorem dX4_order_111 : decode cX4_order 111 = .ok (.getfield 41, 3) := by decide +kernel
theorem dX4_order_114 : decode cX4_order 114 = .ok (.iconst 1, 1) := by decide +kernel
theorem dX4_order_115 : decode cX4_order 115 = .ok (.isub, 1) := by decide +kernel
theorem dX4_order_116 : decode cX4_order 116 = .ok (.ireturn, 1) := by decide +kernel
theorem dX4_meant_0 : decode cX4_meant 0 = .ok (.aload_n 0, 1) := by decide +kernel
theorem dX4_meant_1 : decode cX4_meant 1 = .ok (.getfield 38, 3) := by decide +kernel
theorem dX4_meant_4 : decode cX4_meant 4 = .ok (.ifCond .ne 5, 3) := by decide +kernel
theorem dX4_meant_7 : decode cX4_meant 7 = .ok (.iload_n 1, 1) := by decide +kernel
theorem dX4_meant_8 : decode cX4_meant 8 = .ok (.ireturn, 1) := by decide +kernel
theorem dX4_meant_9 : decode cX4_meant 9 = .ok (.iconst 0, 1) := by decide +kernel
theorem dX4_meant_10 : decode cX4_meant 10 = .ok (.istore_n 2, 1) := by decide +kernel
theorem dX4_meant_11 : decode cX4_meant 11 = .ok (.iconst 0, 1) := by decide +kernel
theorem dX4_meant_12 : decode cX4_meant 12 = .ok (.istore_n 3, 1) := by decide +kernel
theorem dX4_meant_13 : decode cX4_meant 13 = .ok (.iload_n 3, 1) := by decide +kernel
theorem dX4_meant_14 : decode cX4_meant 14 = .ok (.sipush 256, 3) := by decide +kernel
theorem dX4_meant_17 : decode cX4_meant 17 = .ok (.if_icmp .ge 87, 3) := by decide +kernel
theorem dX4_meant_20 : decode cX4_meant 20 = .ok (.aload_n 0, 1) := by decide +kernel
theorem dX4_meant_21 : decode cX4_meant 21 = .ok (.getfield 7, 3) := by decide +kernel
theorem dX4_meant_24 : decode cX4_meant 24 = .ok (.iload_n 3, 1) := by decide +kernel
theorem dX4_meant_25 : decode cX4_meant 25 = .ok (.iaload, 1) := by decide +kernel
theorem dX4_meant_26 : decode cX4_meant 26 = .ok (.iconst (-1), 1) := by decide +kernel
theorem dX4_meant_27 : decode cX4_meant 27 = .ok (.if_icmp .ne 26, 3) := by decide +kernel
theorem dX4_meant_30 : decode cX4_meant 30 = .ok (.aload_n 0, 1) := by decide +kernel
theorem dX4_meant_31 : decode cX4_meant 31 = .ok (.getfield 7, 3) := by decide +kernel
theorem dX4_meant_34 : decode cX4_meant 34 = .ok (.iload_n 1, 1) := by decide +kernel
theorem dX4_meant_35 : decode cX4_meant 35 = .ok (.iaload, 1) := by decide +kernel
theorem dX4_meant_36 : decode cX4_meant 36 = .ok (.iconst (-1), 1) := by decide +kernel
theorem dX4_meant_37 : decode cX4_meant 37 = .ok (.if_icmp .ne 12, 3) := by decide +kernel
theorem dX4_meant_40 : decode cX4_meant 40 = .ok (.iload_n 3, 1) := by decide +kernel
theorem dX4_meant_41 : decode cX4_meant 41 = .ok (.iload_n 1, 1) := by decide +kernel
theorem dX4_meant_42 : decode cX4_meant 42 = .ok (.if_icmp .ge 7, 3) := by decide +kernel
theorem dX4_meant_45 : decode cX4_meant 45 = .ok (.iconst 1, 1) := by decide +kernel
theorem dX4_meant_46 : decode cX4_meant 46 = .ok (.goto 37, 3) := by decide +kernel
theorem dX4_meant_49 : decode cX4_meant 49 = .ok (.iconst 0, 1) := by decide +kernel
theorem dX4_meant_50 : decode cX4_meant 50 = .ok (.goto 33, 3) := by decide +kernel
theorem dX4_meant_53 : decode cX4_meant 53 = .ok (.aload_n 0, 1) := by decide +kernel
theorem dX4_meant_54 : decode cX4_meant 54 = .ok (.getfield 7, 3) := by decide +kernel
theorem dX4_meant_57 : decode cX4_meant 57 = .ok (.iload_n 1, 1) := by decide +kernel
theorem dX4_meant_58 : decode cX4_meant 58 = .ok (.iaload, 1) := by decide +kernel
theorem dX4_meant_59 : decode cX4_meant 59 = .ok (.iconst (-1), 1) := by decide +kernel
theorem dX4_meant_60 : decode cX4_meant 60 = .ok (.if_icmp .eq 18, 3) := by decide +kernel
theorem dX4_meant_63 : decode cX4_meant 63 = .ok (.aload_n 0, 1) := by decide +kernel
theorem dX4_meant_64 : decode cX4_meant 64 = .ok (.getfield 7, 3) := by decide +kernel
theorem dX4_meant_67 : decode cX4_meant 67 = .ok (.iload_n 3, 1) := by decide +kernel
theorem dX4_meant_68 : decode cX4_meant 68 = .ok (.iaload, 1) := by decide +kernel
theorem dX4_meant_69 : decode cX4_meant 69 = .ok (.aload_n 0, 1) := by decide +kernel
theorem dX4_meant_70 : decode cX4_meant 70 = .ok (.getfield 7, 3) := by decide +kernel
theorem dX4_meant_73 : decode cX4_meant 73 = .ok (.iload_n 1, 1) := by decide +kernel
theorem dX4_meant_74 : decode cX4_meant 74 = .ok (.iaload, 1) := by decide +kernel
theorem dX4_meant_75 : decode cX4_meant 75 = .ok (.if_icmp .ge 7, 3) := by decide +kernel
theorem dX4_meant_78 : decode cX4_meant 78 = .ok (.iconst 1, 1) := by decide +kernel
theorem dX4_meant_79 : decode cX4_meant 79 = .ok (.goto 4, 3) := by decide +kernel
theorem dX4_meant_82 : decode cX4_meant 82 = .ok (.iconst 0, 1) := by decide +kernel
theorem dX4_meant_83 : decode cX4_meant 83 = .ok (.istore 4, 2) := by decide +kernel
theorem dX4_meant_85 : decode cX4_meant 85 = .ok (.iload_n 2, 1) := by decide +kernel
theorem dX4_meant_86 : decode cX4_meant 86 = .ok (.iload 4, 2) := by decide +kernel
theorem dX4_meant_88 : decode cX4_meant 88 = .ok (.ifCond .eq 7, 3) := by decide +kernel
theorem dX4_meant_91 : decode cX4_meant 91 = .ok (.iconst 1, 1) := by decide +kernel
theorem dX4_meant_92 : decode cX4_meant 92 = .ok (.goto 4, 3) := by decide +kernel
theorem dX4_meant_95 : decode cX4_meant 95 = .ok (.iconst 0, 1) := by decide +kernel
theorem dX4_meant_96 : decode cX4_meant 96 = .ok (.iadd, 1) := by decide +kernel
theorem dX4_meant_97 : decode cX4_meant 97 = .ok (.istore_n 2, 1) := by decide +kernel
theorem dX4_meant_98 : decode cX4_meant 98 = .ok (.iinc 3 1, 3) := by decide +kernel
theorem dX4_meant_101 : decode cX4_meant 101 = .ok (.goto (-88), 3) := by decide +kernel
theorem dX4_meant_104 : decode cX4_meant 104 = .ok (.iload_n 2, 1) := by decide +kernel
theorem dX4_meant_105 : decode cX4_meant 105 = .ok (.ireturn, 1) := by decide +kernel
theorem dX4_rankOf_0 : decode cX4_rankOf 0 = .ok (.aload_n 0, 1) := by decide +kernel
theorem dX4_rankOf_1 : decode cX4_rankOf 1 = .ok (.getfield 19, 3) := by decide +kernel
theorem dX4_rankOf_4 : decode cX4_rankOf 4 = .ok (.sipush 256, 3) := by decide +kernel
theorem dX4_rankOf_7 : decode cX4_rankOf 7 = .ok (.iload_n 1, 1) := by decide +kernel
theorem dX4_rankOf_8 : decode cX4_rankOf 8 = .ok (.imul, 1) := by decide +kernel
theorem dX4_rankOf_9 : decode cX4_rankOf 9 = .ok (.iload_n 2, 1) := by decide +kernel
theorem dX4_rankOf_10 : decode cX4_rankOf 10 = .ok (.iadd, 1) := by decide +kernel
theorem dX4_rankOf_11 : decode cX4_rankOf 11 = .ok (.iaload, 1) := by decide +kernel
theorem dX4_rankOf_12 : decode cX4_rankOf 12 = .ok (.istore_n 3, 1) := by decide +kernel
theorem dX4_rankOf_13 : decode cX4_rankOf 13 = .ok (.aload_n 0, 1) := by decide +kernel
theorem dX4_rankOf_14 : decode cX4_rankOf 14 = .ok (.getfield 16, 3) := by decide +kernel
theorem dX4_rankOf_17 : decode cX4_rankOf 17 = .ok (.iload_n 1, 1) := by decide +kernel
theorem dX4_rankOf_18 : decode cX4_rankOf 18 = .ok (.iaload, 1) := by decide +kernel
theorem dX4_rankOf_19 : decode cX4_rankOf 19 = .ok (.iconst 2, 1) := by decide +kernel
theorem dX4_rankOf_20 : decode cX4_rankOf 20 = .ok (.if_icmp .ne 8, 3) := by decide +kernel
theorem dX4_rankOf_23 : decode cX4_rankOf 23 = .ok (.iload_n 3, 1) := by decide +kernel
theorem dX4_rankOf_24 : decode cX4_rankOf 24 = .ok (.iconst (-1), 1) := by decide +kernel
theorem dX4_rankOf_25 : decode cX4_rankOf 25 = .ok (.if_icmp .eq 5, 3) := by decide +kernel
theorem dX4_rankOf_28 : decode cX4_rankOf 28 = .ok (.iload_n 3, 1) := by decide +kernel
theorem dX4_rankOf_29 : decode cX4_rankOf 29 = .ok (.ireturn, 1) := by decide +kernel
theorem dX4_rankOf_30 : decode cX4_rankOf 30 = .ok (.aload_n 0, 1) := by decide +kernel
theorem dX4_rankOf_31 : decode cX4_rankOf 31 = .ok (.getfield 22, 3) := by decide +kernel
theorem dX4_rankOf_34 : decode cX4_rankOf 34 = .ok (.iload_n 1, 1) := by decide +kernel
theorem dX4_rankOf_35 : decode cX4_rankOf 35 = .ok (.iaload, 1) := by decide +kernel
theorem dX4_rankOf_36 : decode cX4_rankOf 36 = .ok (.istore 4, 2) := by decide +kernel
theorem dX4_rankOf_38 : decode cX4_rankOf 38 = .ok (.iconst 0, 1) := by decide +kernel
theorem dX4_rankOf_39 : decode cX4_rankOf 39 = .ok (.istore 5, 2) := by decide +kernel
theorem dX4_rankOf_41 : decode cX4_rankOf 41 = .ok (.iload 5, 2) := by decide +kernel
theorem dX4_rankOf_43 : decode cX4_rankOf 43 = .ok (.iload_n 2, 1) := by decide +kernel
theorem dX4_rankOf_44 : decode cX4_rankOf 44 = .ok (.if_icmp .ge 36, 3) := by decide +kernel
theorem dX4_rankOf_47 : decode cX4_rankOf 47 = .ok (.iload 4, 2) := by decide +kernel
theorem dX4_rankOf_49 : decode cX4_rankOf 49 = .ok (.aload_n 0, 1) := by decide +kernel
theorem dX4_rankOf_50 : decode cX4_rankOf 50 = .ok (.getfield 19, 3) := by decide +kernel
theorem dX4_rankOf_53 : decode cX4_rankOf 53 = .ok (.sipush 256, 3) := by decide +kernel
theorem dX4_rankOf_56 : decode cX4_rankOf 56 = .ok (.iload_n 1, 1) := by decide +kernel
theorem dX4_rankOf_57 : decode cX4_rankOf 57 = .ok (.imul, 1) := by decide +kernel
theorem dX4_rankOf_58 : decode cX4_rankOf 58 = .ok (.iload 5, 2) := by decide +kernel
theorem dX4_rankOf_60 : decode cX4_rankOf 60 = .ok (.iadd, 1) := by decide +kernel
theorem dX4_rankOf_61 : decode cX4_rankOf 61 = .ok (.iaload, 1) := by decide +kernel
theorem dX4_rankOf_62 : decode cX4_rankOf 62 = .ok (.iconst (-1), 1) := by decide +kernel
theorem dX4_rankOf_63 : decode cX4_rankOf 63 = .ok (.if_icmp .ne 7, 3) := by decide +kernel
theorem dX4_rankOf_66 : decode cX4_rankOf 66 = .ok (.iconst 1, 1) := by decide +kernel
theorem dX4_rankOf_67 : decode cX4_rankOf 67 = .ok (.goto 4, 3) := by decide +kernel
theorem dX4_rankOf_70 : decode cX4_rankOf 70 = .ok (.iconst 0, 1) := by decide +kernel
theorem dX4_rankOf_71 : decode cX4_rankOf 71 = .ok (.iadd, 1) := by decide +kernel
theorem dX4_rankOf_72 : decode cX4_rankOf 72 = .ok (.istore 4, 2) := by decide +kernel
theorem dX4_rankOf_74 : decode cX4_rankOf 74 = .ok (.iinc 5 1, 3) := by decide +kernel
theorem dX4_rankOf_77 : decode cX4_rankOf 77 = .ok (.goto (-36), 3) := by decide +kernel
theorem dX4_rankOf_80 : decode cX4_rankOf 80 = .ok (.iload 4, 2) := by decide +kernel
theorem dX4_rankOf_82 : decode cX4_rankOf 82 = .ok (.ireturn, 1) := by decide +kernel
set_option maxRecDepth 20000 in
theorem ggX4_refusal_X4_isOrder : GoodIn wsX4_refusal wsX4_isOrder := goodIn_r _ [6, 7, 11, 12, 13, 14, 15, 16, 17, 18, 19, 20, 21, 22, 23, 24] (by decide +kernel) (by decide +kernel)
set_option maxRecDepth 20000 in
theorem gX4_refusal_X4_isOrder : GoodIn wsX4_refusal (wsV RX4 73 RX4 yX4_isOrder wsX4_isOrder) := goodIn_app (goodIn_of _ (by decide +kernel)) ggX4_refusal_X4_isOrder
set_option maxRecDepth 20000 in
theorem ggX4_refusal_X4_isCode : GoodIn wsX4_refusal wsX4_isCode := goodIn_r _ [10] (by decide +kernel) (by decide +kernel)
set_option maxRecDepth 20000 in
theorem gX4_refusal_X4_isCode : GoodIn wsX4_refusal (va_wsS RX4 51 yX4_isCode wsX4_isCode) := goodIn_app (goodIn_of _ (by decide +kernel)) ggX4_refusal_X4_isCode
theorem dX4_refusal_0 : decode cX4_refusal 0 = .ok (.aload_n 0, 1) := by decide +kernel
theorem dX4_refusal_1 : decode cX4_refusal 1 = .ok (.iload_n 1, 1) := by decide +kernel
theorem dX4_refusal_2 : decode cX4_refusal 2 = .ok (.invokevirtual 73, 3) := by decide +kernel
theorem dX4_refusal_5 : decode cX4_refusal 5 = .ok (.ifCond .ne 8, 3) := by decide +kernel
theorem dX4_refusal_8 : decode cX4_refusal 8 = .ok (.bipush (-2), 2) := by decide +kernel
theorem dX4_refusal_10 : decode cX4_refusal 10 = .ok (.goto 38, 3) := by decide +kernel
theorem dX4_refusal_13 : decode cX4_refusal 13 = .ok (.iload_n 2, 1) := by decide +kernel
theorem dX4_refusal_14 : decode cX4_refusal 14 = .ok (.invokestatic 51, 3) := by decide +kernel
theorem dX4_refusal_17 : decode cX4_refusal 17 = .ok (.ifCond .eq 10, 3) := by decide +kernel
theorem dX4_refusal_20 : decode cX4_refusal 20 = .ok (.iload_n 3, 1) := by decide +kernel
theorem dX4_refusal_21 : decode cX4_refusal 21 = .ok (.invokestatic 51, 3) := by decide +kernel
theorem dX4_refusal_24 : decode cX4_refusal 24 = .ok (.ifCond .ne 8, 3) := by decide +kernel
theorem dX4_refusal_27 : decode cX4_refusal 27 = .ok (.bipush (-4), 2) := by decide +kernel
theorem dX4_refusal_29 : decode cX4_refusal 29 = .ok (.goto 19, 3) := by decide +kernel
theorem dX4_refusal_32 : decode cX4_refusal 32 = .ok (.aload_n 0, 1) := by decide +kernel
theorem dX4_refusal_33 : decode cX4_refusal 33 = .ok (.getfield 16, 3) := by decide +kernel
theorem dX4_refusal_36 : decode cX4_refusal 36 = .ok (.iload_n 1, 1) := by decide +kernel
theorem dX4_refusal_37 : decode cX4_refusal 37 = .ok (.iaload, 1) := by decide +kernel
theorem dX4_refusal_38 : decode cX4_refusal 38 = .ok (.iconst 2, 1) := by decide +kernel
theorem dX4_refusal_39 : decode cX4_refusal 39 = .ok (.if_icmp .eq 8, 3) := by decide +kernel
theorem dX4_refusal_42 : decode cX4_refusal 42 = .ok (.bipush (-5), 2) := by decide +kernel
theorem dX4_refusal_44 : decode cX4_refusal 44 = .ok (.goto 4, 3) := by decide +kernel
theorem dX4_refusal_47 : decode cX4_refusal 47 = .ok (.iconst 0, 1) := by decide +kernel
theorem dX4_refusal_48 : decode cX4_refusal 48 = .ok (.ireturn, 1) := by decide +kernel
set_option maxRecDepth 20000 in
theorem ggX4_also_X4_refusal : GoodIn wsX4_also wsX4_refusal := goodIn_r _ [7, 8, 9, 10, 11, 6, 12, 13, 14, 15, 16, 17, 18, 19, 20, 21, 22, 23, 24, 25, 26, 27, 28, 29, 30] (by decide +kernel) (by decide +kernel)
set_option maxRecDepth 20000 in
theorem gX4_also_X4_refusal : GoodIn wsX4_also (wsV RX4 76 RX4 yX4_refusal wsX4_refusal) := goodIn_app (goodIn_of _ (by decide +kernel)) ggX4_also_X4_refusal
theorem dX4_also_0 : decode cX4_also 0 = .ok (.aload_n 0, 1) := by decide +kernel
theorem dX4_also_1 : decode cX4_also 1 = .ok (.iconst 0, 1) := by decide +kernel
theorem dX4_also_2 : decode cX4_also 2 = .ok (.putfield 34, 3) := by decide +kernel
theorem dX4_also_5 : decode cX4_also 5 = .ok (.aload_n 0, 1) := by decide +kernel
theorem dX4_also_6 : decode cX4_also 6 = .ok (.iload_n 1, 1) := by decide +kernel
theorem dX4_also_7 : decode cX4_also 7 = .ok (.iload_n 2, 1) := by decide +kernel
theorem dX4_also_8 : decode cX4_also 8 = .ok (.iload_n 3, 1) := by decide +kernel
theorem dX4_also_9 : decode cX4_also 9 = .ok (.invokevirtual 76, 3) := by decide +kernel
theorem dX4_also_12 : decode cX4_also 12 = .ok (.istore 4, 2) := by decide +kernel
theorem dX4_also_14 : decode cX4_also 14 = .ok (.iload 4, 2) := by decide +kernel
theorem dX4_also_16 : decode cX4_also 16 = .ok (.ifCond .eq 6, 3) := by decide +kernel
theorem dX4_also_19 : decode cX4_also 19 = .ok (.iload 4, 2) := by decide +kernel
theorem dX4_also_21 : decode cX4_also 21 = .ok (.ireturn, 1) := by decide +kernel
theorem dX4_also_22 : decode cX4_also 22 = .ok (.aload_n 0, 1) := by decide +kernel
theorem dX4_also_23 : decode cX4_also 23 = .ok (.getfield 19, 3) := by decide +kernel
theorem dX4_also_26 : decode cX4_also 26 = .ok (.sipush 256, 3) := by decide +kernel
theorem dX4_also_29 : decode cX4_also 29 = .ok (.iload_n 1, 1) := by decide +kernel
theorem dX4_also_30 : decode cX4_also 30 = .ok (.imul, 1) := by decide +kernel
theorem dX4_also_31 : decode cX4_also 31 = .ok (.iload_n 2, 1) := by decide +kernel
theorem dX4_also_32 : decode cX4_also 32 = .ok (.iadd, 1) := by decide +kernel
theorem dX4_also_33 : decode cX4_also 33 = .ok (.iaload, 1) := by decide +kernel
theorem dX4_also_34 : decode cX4_also 34 = .ok (.iconst (-1), 1) := by decide +kernel
theorem dX4_also_35 : decode cX4_also 35 = .ok (.if_icmp .eq 19, 3) := by decide +kernel
theorem dX4_also_38 : decode cX4_also 38 = .ok (.aload_n 0, 1) := by decide +kernel
theorem dX4_also_39 : decode cX4_also 39 = .ok (.getfield 19, 3) := by decide +kernel
theorem dX4_also_42 : decode cX4_also 42 = .ok (.sipush 256, 3) := by decide +kernel
theorem dX4_also_45 : decode cX4_also 45 = .ok (.iload_n 1, 1) := by decide +kernel
theorem dX4_also_46 : decode cX4_also 46 = .ok (.imul, 1) := by decide +kernel
theorem dX4_also_47 : decode cX4_also 47 = .ok (.iload_n 3, 1) := by decide +kernel
theorem dX4_also_48 : decode cX4_also 48 = .ok (.iadd, 1) := by decide +kernel
theorem dX4_also_49 : decode cX4_also 49 = .ok (.iaload, 1) := by decide +kernel
theorem dX4_also_50 : decode cX4_also 50 = .ok (.iconst (-1), 1) := by decide +kernel
theorem dX4_also_51 : decode cX4_also 51 = .ok (.if_icmp .eq 5, 3) := by decide +kernel
theorem dX4_also_54 : decode cX4_also 54 = .ok (.iconst 0, 1) := by decide +kernel
theorem dX4_also_55 : decode cX4_also 55 = .ok (.ireturn, 1) := by decide +kernel
theorem dX4_also_56 : decode cX4_also 56 = .ok (.aload_n 0, 1) := by decide +kernel
theorem dX4_also_57 : decode cX4_also 57 = .ok (.getfield 19, 3) := by decide +kernel
theorem dX4_also_60 : decode cX4_also 60 = .ok (.sipush 256, 3) := by decide +kernel
theorem dX4_also_63 : decode cX4_also 63 = .ok (.iload_n 1, 1) := by decide +kernel
theorem dX4_also_64 : decode cX4_also 64 = .ok (.imul, 1) := by decide +kernel
theorem dX4_also_65 : decode cX4_also 65 = .ok (.iload_n 3, 1) := by decide +kernel
theorem dX4_also_66 : decode cX4_also 66 = .ok (.iadd, 1) := by decide +kernel
theorem dX4_also_67 : decode cX4_also 67 = .ok (.aload_n 0, 1) := by decide +kernel
theorem dX4_also_68 : decode cX4_also 68 = .ok (.getfield 19, 3) := by decide +kernel
theorem dX4_also_71 : decode cX4_also 71 = .ok (.sipush 256, 3) := by decide +kernel
theorem dX4_also_74 : decode cX4_also 74 = .ok (.iload_n 1, 1) := by decide +kernel
theorem dX4_also_75 : decode cX4_also 75 = .ok (.imul, 1) := by decide +kernel
theorem dX4_also_76 : decode cX4_also 76 = .ok (.iload_n 2, 1) := by decide +kernel
theorem dX4_also_77 : decode cX4_also 77 = .ok (.iadd, 1) := by decide +kernel
theorem dX4_also_78 : decode cX4_also 78 = .ok (.iaload, 1) := by decide +kernel
theorem dX4_also_79 : decode cX4_also 79 = .ok (.iastore, 1) := by decide +kernel
theorem dX4_also_80 : decode cX4_also 80 = .ok (.iconst 1, 1) := by decide +kernel
theorem dX4_also_81 : decode cX4_also 81 = .ok (.ireturn, 1) := by decide +kernel
set_option maxRecDepth 20000 in
theorem ggX4_through_X4_refusal : GoodIn wsX4_through wsX4_refusal := goodIn_r _ [8, 9, 10, 11, 12, 7, 13, 14, 15, 16, 17, 18, 19, 20, 21, 22, 23, 24, 25, 26, 27, 28, 29, 30, 31] (by decide +kernel) (by decide +kernel)
set_option maxRecDepth 20000 in
theorem gX4_through_X4_refusal : GoodIn wsX4_through (wsV RX4 76 RX4 yX4_refusal wsX4_refusal) := goodIn_app (goodIn_of _ (by decide +kernel)) ggX4_through_X4_refusal
theorem dX4_through_0 : decode cX4_through 0 = .ok (.aload_n 0, 1) := by decide +kernel
theorem dX4_through_1 : decode cX4_through 1 = .ok (.iconst 0, 1) := by decide +kernel
theorem dX4_through_2 : decode cX4_through 2 = .ok (.putfield 34, 3) := by decide +kernel
theorem dX4_through_5 : decode cX4_through 5 = .ok (.aload_n 0, 1) := by decide +kernel
theorem dX4_through_6 : decode cX4_through 6 = .ok (.iload_n 1, 1) := by decide +kernel
theorem dX4_through_7 : decode cX4_through 7 = .ok (.iload_n 2, 1) := by decide +kernel
theorem dX4_through_8 : decode cX4_through 8 = .ok (.iload_n 3, 1) := by decide +kernel
theorem dX4_through_9 : decode cX4_through 9 = .ok (.invokevirtual 76, 3) := by decide +kernel
theorem dX4_through_12 : decode cX4_through 12 = .ok (.istore 4, 2) := by decide +kernel
theorem dX4_through_14 : decode cX4_through 14 = .ok (.iload 4, 2) := by decide +kernel
theorem dX4_through_16 : decode cX4_through 16 = .ok (.ifCond .eq 6, 3) := by decide +kernel
theorem dX4_through_19 : decode cX4_through 19 = .ok (.iload 4, 2) := by decide +kernel
theorem dX4_through_21 : decode cX4_through 21 = .ok (.ireturn, 1) := by decide +kernel
theorem dX4_through_22 : decode cX4_through 22 = .ok (.iload_n 2, 1) := by decide +kernel
theorem dX4_through_23 : decode cX4_through 23 = .ok (.iload_n 3, 1) := by decide +kernel
theorem dX4_through_24 : decode cX4_through 24 = .ok (.if_icmp .le 7, 3) := by decide +kernel
theorem dX4_through_27 : decode cX4_through 27 = .ok (.iconst (-1), 1) := by decide +kernel
theorem dX4_through_28 : decode cX4_through 28 = .ok (.goto 4, 3) := by decide +kernel
theorem dX4_through_31 : decode cX4_through 31 = .ok (.iconst 1, 1) := by decide +kernel
theorem dX4_through_32 : decode cX4_through 32 = .ok (.istore 5, 2) := by decide +kernel
theorem dX4_through_34 : decode cX4_through 34 = .ok (.iload_n 2, 1) := by decide +kernel
theorem dX4_through_35 : decode cX4_through 35 = .ok (.iload_n 3, 1) := by decide +kernel
theorem dX4_through_36 : decode cX4_through 36 = .ok (.if_icmp .le 11, 3) := by decide +kernel
theorem dX4_through_39 : decode cX4_through 39 = .ok (.iload_n 2, 1) := by decide +kernel
theorem dX4_through_40 : decode cX4_through 40 = .ok (.iload_n 3, 1) := by decide +kernel
theorem dX4_through_41 : decode cX4_through 41 = .ok (.isub, 1) := by decide +kernel
theorem dX4_through_42 : decode cX4_through 42 = .ok (.iconst 1, 1) := by decide +kernel
theorem dX4_through_43 : decode cX4_through 43 = .ok (.iadd, 1) := by decide +kernel
theorem dX4_through_44 : decode cX4_through 44 = .ok (.goto 8, 3) := by decide +kernel
theorem dX4_through_47 : decode cX4_through 47 = .ok (.iload_n 3, 1) := by decide +kernel
theorem dX4_through_48 : decode cX4_through 48 = .ok (.iload_n 2, 1) := by decide +kernel
theorem dX4_through_49 : decode cX4_through 49 = .ok (.isub, 1) := by decide +kernel
theorem dX4_through_50 : decode cX4_through 50 = .ok (.iconst 1, 1) := by decide +kernel
theorem dX4_through_51 : decode cX4_through 51 = .ok (.iadd, 1) := by decide +kernel
theorem dX4_through_52 : decode cX4_through 52 = .ok (.istore 6, 2) := by decide +kernel
theorem dX4_through_54 : decode cX4_through 54 = .ok (.iconst 0, 1) := by decide +kernel
theorem dX4_through_55 : decode cX4_through 55 = .ok (.istore 7, 2) := by decide +kernel
theorem dX4_through_57 : decode cX4_through 57 = .ok (.iload 7, 2) := by decide +kernel
theorem dX4_through_59 : decode cX4_through 59 = .ok (.iload 6, 2) := by decide +kernel
theorem dX4_through_61 : decode cX4_through 61 = .ok (.if_icmp .ge 33, 3) := by decide +kernel
theorem dX4_through_64 : decode cX4_through 64 = .ok (.aload_n 0, 1) := by decide +kernel
theorem dX4_through_65 : decode cX4_through 65 = .ok (.getfield 19, 3) := by decide +kernel
theorem dX4_through_68 : decode cX4_through 68 = .ok (.sipush 256, 3) := by decide +kernel
theorem dX4_through_71 : decode cX4_through 71 = .ok (.iload_n 1, 1) := by decide +kernel
theorem dX4_through_72 : decode cX4_through 72 = .ok (.imul, 1) := by decide +kernel
theorem dX4_through_73 : decode cX4_through 73 = .ok (.iload_n 2, 1) := by decide +kernel
theorem dX4_through_74 : decode cX4_through 74 = .ok (.iadd, 1) := by decide +kernel
theorem dX4_through_75 : decode cX4_through 75 = .ok (.iload 7, 2) := by decide +kernel
theorem dX4_through_77 : decode cX4_through 77 = .ok (.iload 5, 2) := by decide +kernel
theorem dX4_through_79 : decode cX4_through 79 = .ok (.imul, 1) := by decide +kernel
theorem dX4_through_80 : decode cX4_through 80 = .ok (.iadd, 1) := by decide +kernel
theorem dX4_through_81 : decode cX4_through 81 = .ok (.iaload, 1) := by decide +kernel
theorem dX4_through_82 : decode cX4_through 82 = .ok (.iconst (-1), 1) := by decide +kernel
theorem dX4_through_83 : decode cX4_through 83 = .ok (.if_icmp .eq 5, 3) := by decide +kernel
theorem dX4_through_86 : decode cX4_through 86 = .ok (.iconst 0, 1) := by decide +kernel
theorem dX4_through_87 : decode cX4_through 87 = .ok (.ireturn, 1) := by decide +kernel
theorem dX4_through_88 : decode cX4_through 88 = .ok (.iinc 7 1, 3) := by decide +kernel
theorem dX4_through_91 : decode cX4_through 91 = .ok (.goto (-34), 3) := by decide +kernel
theorem dX4_through_94 : decode cX4_through 94 = .ok (.iconst 0, 1) := by decide +kernel
theorem dX4_through_95 : decode cX4_through 95 = .ok (.istore 7, 2) := by decide +kernel
theorem dX4_through_97 : decode cX4_through 97 = .ok (.iload 7, 2) := by decide +kernel
theorem dX4_through_99 : decode cX4_through 99 = .ok (.iload 6, 2) := by decide +kernel
theorem dX4_through_101 : decode cX4_through 101 = .ok (.if_icmp .ge 43, 3) := by decide +kernel
theorem dX4_through_104 : decode cX4_through 104 = .ok (.aload_n 0, 1) := by decide +kernel
theorem dX4_through_105 : decode cX4_through 105 = .ok (.getfield 19, 3) := by decide +kernel
theorem dX4_through_108 : decode cX4_through 108 = .ok (.sipush 256, 3) := by decide +kernel
theorem dX4_through_111 : decode cX4_through 111 = .ok (.iload_n 1, 1) := by decide +kernel
theorem dX4_through_112 : decode cX4_through 112 = .ok (.imul, 1) := by decide +kernel
theorem dX4_through_113 : decode cX4_through 113 = .ok (.iload_n 2, 1) := by decide +kernel
theorem dX4_through_114 : decode cX4_through 114 = .ok (.iadd, 1) := by decide +kernel
theorem dX4_through_115 : decode cX4_through 115 = .ok (.iload 7, 2) := by decide +kernel
theorem dX4_through_117 : decode cX4_through 117 = .ok (.iload 5, 2) := by decide +kernel
theorem dX4_through_119 : decode cX4_through 119 = .ok (.imul, 1) := by decide +kernel
theorem dX4_through_120 : decode cX4_through 120 = .ok (.iadd, 1) := by decide +kernel
theorem dX4_through_121 : decode cX4_through 121 = .ok (.aload_n 0, 1) := by decide +kernel
theorem dX4_through_122 : decode cX4_through 122 = .ok (.getfield 22, 3) := by decide +kernel
theorem dX4_through_125 : decode cX4_through 125 = .ok (.iload_n 1, 1) := by decide +kernel
theorem dX4_through_126 : decode cX4_through 126 = .ok (.iaload, 1) := by decide +kernel
theorem dX4_through_127 : decode cX4_through 127 = .ok (.iastore, 1) := by decide +kernel
theorem dX4_through_128 : decode cX4_through 128 = .ok (.aload_n 0, 1) := by decide +kernel
theorem dX4_through_129 : decode cX4_through 129 = .ok (.getfield 22, 3) := by decide +kernel
theorem dX4_through_132 : decode cX4_through 132 = .ok (.iload_n 1, 1) := by decide +kernel
theorem dX4_through_133 : decode cX4_through 133 = .ok (.dup2, 1) := by decide +kernel
theorem dX4_through_134 : decode cX4_through 134 = .ok (.iaload, 1) := by decide +kernel
theorem dX4_through_135 : decode cX4_through 135 = .ok (.iconst 1, 1) := by decide +kernel
theorem dX4_through_136 : decode cX4_through 136 = .ok (.iadd, 1) := by decide +kernel
theorem dX4_through_137 : decode cX4_through 137 = .ok (.iastore, 1) := by decide +kernel
theorem dX4_through_138 : decode cX4_through 138 = .ok (.iinc 7 1, 3) := by decide +kernel
theorem dX4_through_141 : decode cX4_through 141 = .ok (.goto (-44), 3) := by decide +kernel
theorem dX4_through_144 : decode cX4_through 144 = .ok (.iload 6, 2) := by decide +kernel
theorem dX4_through_146 : decode cX4_through 146 = .ok (.ireturn, 1) := by decide +kernel
set_option maxRecDepth 20000 in
theorem ggX4_rank_X4_isOrder : GoodIn wsX4_rank wsX4_isOrder := goodIn_r _ [6, 7, 18, 19, 20, 21, 22, 23, 24, 25, 26, 27, 28, 29, 30, 31] (by decide +kernel) (by decide +kernel)
set_option maxRecDepth 20000 in
theorem gX4_rank_X4_isOrder : GoodIn wsX4_rank (wsV RX4 73 RX4 yX4_isOrder wsX4_isOrder) := goodIn_app (goodIn_of _ (by decide +kernel)) ggX4_rank_X4_isOrder
set_option maxRecDepth 20000 in
theorem ggX4_rank_X4_isCode : GoodIn wsX4_rank wsX4_isCode := goodIn_r _ [10] (by decide +kernel) (by decide +kernel)
set_option maxRecDepth 20000 in
theorem gX4_rank_X4_isCode : GoodIn wsX4_rank (va_wsS RX4 51 yX4_isCode wsX4_isCode) := goodIn_app (goodIn_of _ (by decide +kernel)) ggX4_rank_X4_isCode
set_option maxRecDepth 20000 in
theorem ggX4_rank_X4_rankOf : GoodIn wsX4_rank wsX4_rankOf := goodIn_r _ [14, 15, 16, 17, 18, 19, 20, 21, 22, 23, 24, 25, 26, 27, 28, 29, 30, 31] (by decide +kernel) (by decide +kernel)
set_option maxRecDepth 20000 in
theorem gX4_rank_X4_rankOf : GoodIn wsX4_rank (wsV RX4 79 RX4 yX4_rankOf wsX4_rankOf) := goodIn_app (goodIn_of _ (by decide +kernel)) ggX4_rank_X4_rankOf
theorem dX4_rank_0 : decode cX4_rank 0 = .ok (.aload_n 0, 1) := by decide +kernel
theorem dX4_rank_1 : decode cX4_rank 1 = .ok (.iconst 0, 1) := by decide +kernel
theorem dX4_rank_2 : decode cX4_rank 2 = .ok (.putfield 34, 3) := by decide +kernel
theorem dX4_rank_5 : decode cX4_rank 5 = .ok (.aload_n 0, 1) := by decide +kernel
theorem dX4_rank_6 : decode cX4_rank 6 = .ok (.iload_n 1, 1) := by decide +kernel
theorem dX4_rank_7 : decode cX4_rank 7 = .ok (.invokevirtual 73, 3) := by decide +kernel
theorem dX4_rank_10 : decode cX4_rank 10 = .ok (.ifCond .ne 6, 3) := by decide +kernel
theorem dX4_rank_13 : decode cX4_rank 13 = .ok (.bipush (-2), 2) := by decide +kernel
theorem dX4_rank_15 : decode cX4_rank 15 = .ok (.ireturn, 1) := by decide +kernel
theorem dX4_rank_16 : decode cX4_rank 16 = .ok (.iload_n 2, 1) := by decide +kernel
theorem dX4_rank_17 : decode cX4_rank 17 = .ok (.invokestatic 51, 3) := by decide +kernel
theorem dX4_rank_20 : decode cX4_rank 20 = .ok (.ifCond .eq 12, 3) := by decide +kernel
theorem dX4_rank_23 : decode cX4_rank 23 = .ok (.aload_n 0, 1) := by decide +kernel
theorem dX4_rank_24 : decode cX4_rank 24 = .ok (.iload_n 1, 1) := by decide +kernel
theorem dX4_rank_25 : decode cX4_rank 25 = .ok (.iload_n 2, 1) := by decide +kernel
theorem dX4_rank_26 : decode cX4_rank 26 = .ok (.invokevirtual 79, 3) := by decide +kernel
theorem dX4_rank_29 : decode cX4_rank 29 = .ok (.goto 5, 3) := by decide +kernel
theorem dX4_rank_32 : decode cX4_rank 32 = .ok (.bipush (-4), 2) := by decide +kernel
theorem dX4_rank_34 : decode cX4_rank 34 = .ok (.ireturn, 1) := by decide +kernel
set_option maxRecDepth 20000 in
theorem ggX4_high_X4_isOrder : GoodIn wsX4_high wsX4_isOrder := goodIn_r _ [6, 7, 15, 16, 17, 18, 19, 20, 21, 22, 23, 24, 25, 26, 27, 28] (by decide +kernel) (by decide +kernel)
set_option maxRecDepth 20000 in
theorem gX4_high_X4_isOrder : GoodIn wsX4_high (wsV RX4 73 RX4 yX4_isOrder wsX4_isOrder) := goodIn_app (goodIn_of _ (by decide +kernel)) ggX4_high_X4_isOrder
set_option maxRecDepth 20000 in
theorem ggX4_high_X4_rankOf : GoodIn wsX4_high wsX4_rankOf := goodIn_r _ [11, 12, 13, 14, 15, 16, 17, 18, 19, 20, 21, 22, 23, 24, 25, 26, 27, 28] (by decide +kernel) (by decide +kernel)
set_option maxRecDepth 20000 in
theorem gX4_high_X4_rankOf : GoodIn wsX4_high (wsV RX4 79 RX4 yX4_rankOf wsX4_rankOf) := goodIn_app (goodIn_of _ (by decide +kernel)) ggX4_high_X4_rankOf
theorem dX4_high_0 : decode cX4_high 0 = .ok (.aload_n 0, 1) := by decide +kernel
theorem dX4_high_1 : decode cX4_high 1 = .ok (.iconst 0, 1) := by decide +kernel
theorem dX4_high_2 : decode cX4_high 2 = .ok (.putfield 34, 3) := by decide +kernel
theorem dX4_high_5 : decode cX4_high 5 = .ok (.aload_n 0, 1) := by decide +kernel
theorem dX4_high_6 : decode cX4_high 6 = .ok (.iload_n 1, 1) := by decide +kernel
theorem dX4_high_7 : decode cX4_high 7 = .ok (.invokevirtual 73, 3) := by decide +kernel
theorem dX4_high_10 : decode cX4_high 10 = .ok (.ifCond .ne 6, 3) := by decide +kernel
theorem dX4_high_13 : decode cX4_high 13 = .ok (.bipush (-2), 2) := by decide +kernel
theorem dX4_high_15 : decode cX4_high 15 = .ok (.ireturn, 1) := by decide +kernel
theorem dX4_high_16 : decode cX4_high 16 = .ok (.iconst 0, 1) := by decide +kernel
theorem dX4_high_17 : decode cX4_high 17 = .ok (.istore_n 2, 1) := by decide +kernel
theorem dX4_high_18 : decode cX4_high 18 = .ok (.iconst 1, 1) := by decide +kernel
theorem dX4_high_19 : decode cX4_high 19 = .ok (.istore_n 3, 1) := by decide +kernel
theorem dX4_high_20 : decode cX4_high 20 = .ok (.iload_n 3, 1) := by decide +kernel
theorem dX4_high_21 : decode cX4_high 21 = .ok (.sipush 256, 3) := by decide +kernel
theorem dX4_high_24 : decode cX4_high 24 = .ok (.if_icmp .ge 30, 3) := by decide +kernel
theorem dX4_high_27 : decode cX4_high 27 = .ok (.aload_n 0, 1) := by decide +kernel
theorem dX4_high_28 : decode cX4_high 28 = .ok (.iload_n 1, 1) := by decide +kernel
theorem dX4_high_29 : decode cX4_high 29 = .ok (.iload_n 3, 1) := by decide +kernel
theorem dX4_high_30 : decode cX4_high 30 = .ok (.invokevirtual 79, 3) := by decide +kernel
theorem dX4_high_33 : decode cX4_high 33 = .ok (.aload_n 0, 1) := by decide +kernel
theorem dX4_high_34 : decode cX4_high 34 = .ok (.iload_n 1, 1) := by decide +kernel
theorem dX4_high_35 : decode cX4_high 35 = .ok (.iload_n 2, 1) := by decide +kernel
theorem dX4_high_36 : decode cX4_high 36 = .ok (.invokevirtual 79, 3) := by decide +kernel
theorem dX4_high_39 : decode cX4_high 39 = .ok (.if_icmp .lt 7, 3) := by decide +kernel
theorem dX4_high_42 : decode cX4_high 42 = .ok (.iload_n 3, 1) := by decide +kernel
theorem dX4_high_43 : decode cX4_high 43 = .ok (.goto 4, 3) := by decide +kernel
theorem dX4_high_46 : decode cX4_high 46 = .ok (.iload_n 2, 1) := by decide +kernel
theorem dX4_high_47 : decode cX4_high 47 = .ok (.istore_n 2, 1) := by decide +kernel
theorem dX4_high_48 : decode cX4_high 48 = .ok (.iinc 3 1, 3) := by decide +kernel
theorem dX4_high_51 : decode cX4_high 51 = .ok (.goto (-31), 3) := by decide +kernel
theorem dX4_high_54 : decode cX4_high 54 = .ok (.iload_n 2, 1) := by decide +kernel
theorem dX4_high_55 : decode cX4_high 55 = .ok (.ireturn, 1) := by decide +kernel
theorem dX4_text_0 : decode cX4_text 0 = .ok (.aload_n 0, 1) := by decide +kernel
theorem dX4_text_1 : decode cX4_text 1 = .ok (.iconst 0, 1) := by decide +kernel
theorem dX4_text_2 : decode cX4_text 2 = .ok (.putfield 34, 3) := by decide +kernel
theorem dX4_text_5 : decode cX4_text 5 = .ok (.aload_n 0, 1) := by decide +kernel
theorem dX4_text_6 : decode cX4_text 6 = .ok (.getfield 44, 3) := by decide +kernel
theorem dX4_text_9 : decode cX4_text 9 = .ok (.bipush 40, 2) := by decide +kernel
theorem dX4_text_11 : decode cX4_text 11 = .ok (.if_icmp .ne 5, 3) := by decide +kernel
theorem dX4_text_14 : decode cX4_text 14 = .ok (.iconst (-1), 1) := by decide +kernel
theorem dX4_text_15 : decode cX4_text 15 = .ok (.ireturn, 1) := by decide +kernel
theorem dX4_text_16 : decode cX4_text 16 = .ok (.aload_n 0, 1) := by decide +kernel
theorem dX4_text_17 : decode cX4_text 17 = .ok (.dup, 1) := by decide +kernel
theorem dX4_text_18 : decode cX4_text 18 = .ok (.getfield 44, 3) := by decide +kernel
theorem dX4_text_21 : decode cX4_text 21 = .ok (.iconst 1, 1) := by decide +kernel
theorem dX4_text_22 : decode cX4_text 22 = .ok (.iadd, 1) := by decide +kernel
theorem dX4_text_23 : decode cX4_text 23 = .ok (.putfield 44, 3) := by decide +kernel
theorem dX4_text_26 : decode cX4_text 26 = .ok (.aload_n 0, 1) := by decide +kernel
theorem dX4_text_27 : decode cX4_text 27 = .ok (.getfield 44, 3) := by decide +kernel
theorem dX4_text_30 : decode cX4_text 30 = .ok (.iconst 1, 1) := by decide +kernel
theorem dX4_text_31 : decode cX4_text 31 = .ok (.isub, 1) := by decide +kernel
theorem dX4_text_32 : decode cX4_text 32 = .ok (.ireturn, 1) := by decide +kernel
set_option maxRecDepth 20000 in
theorem ggX4_sign_X4_isText : GoodIn wsX4_sign wsX4_isText := goodIn_r _ [8, 9, 13, 14, 15, 16, 17, 18, 19, 20, 21, 22, 23, 24, 25, 26] (by decide +kernel) (by decide +kernel)
set_option maxRecDepth 20000 in
theorem gX4_sign_X4_isText : GoodIn wsX4_sign (wsV RX4 82 RX4 yX4_isText wsX4_isText) := goodIn_app (goodIn_of _ (by decide +kernel)) ggX4_sign_X4_isText
set_option maxRecDepth 20000 in
theorem ggX4_sign_X4_isCode : GoodIn wsX4_sign wsX4_isCode := goodIn_r _ [12] (by decide +kernel) (by decide +kernel)
set_option maxRecDepth 20000 in
theorem gX4_sign_X4_isCode : GoodIn wsX4_sign (va_wsS RX4 51 yX4_isCode wsX4_isCode) := goodIn_app (goodIn_of _ (by decide +kernel)) ggX4_sign_X4_isCode
theorem dX4_sign_0 : decode cX4_sign 0 = .ok (.aload_n 0, 1) := by decide +kernel
theorem dX4_sign_1 : decode cX4_sign 1 = .ok (.iconst 0, 1) := by decide +kernel
theorem dX4_sign_2 : decode cX4_sign 2 = .ok (.putfield 34, 3) := by decide +kernel
theorem dX4_sign_5 : decode cX4_sign 5 = .ok (.aload_n 0, 1) := by decide +kernel
theorem dX4_sign_6 : decode cX4_sign 6 = .ok (.iload_n 1, 1) := by decide +kernel
theorem dX4_sign_7 : decode cX4_sign 7 = .ok (.invokevirtual 82, 3) := by decide +kernel
theorem dX4_sign_10 : decode cX4_sign 10 = .ok (.ifCond .ne 6, 3) := by decide +kernel
theorem dX4_sign_13 : decode cX4_sign 13 = .ok (.bipush (-2), 2) := by decide +kernel
theorem dX4_sign_15 : decode cX4_sign 15 = .ok (.ireturn, 1) := by decide +kernel
theorem dX4_sign_16 : decode cX4_sign 16 = .ok (.iload_n 2, 1) := by decide +kernel
theorem dX4_sign_17 : decode cX4_sign 17 = .ok (.invokestatic 51, 3) := by decide +kernel
theorem dX4_sign_20 : decode cX4_sign 20 = .ok (.ifCond .ne 6, 3) := by decide +kernel
theorem dX4_sign_23 : decode cX4_sign 23 = .ok (.bipush (-4), 2) := by decide +kernel
theorem dX4_sign_25 : decode cX4_sign 25 = .ok (.ireturn, 1) := by decide +kernel
theorem dX4_sign_26 : decode cX4_sign 26 = .ok (.aload_n 0, 1) := by decide +kernel
theorem dX4_sign_27 : decode cX4_sign 27 = .ok (.getfield 28, 3) := by decide +kernel
theorem dX4_sign_30 : decode cX4_sign 30 = .ok (.iload_n 1, 1) := by decide +kernel
theorem dX4_sign_31 : decode cX4_sign 31 = .ok (.iaload, 1) := by decide +kernel
theorem dX4_sign_32 : decode cX4_sign 32 = .ok (.bipush 40, 2) := by decide +kernel
theorem dX4_sign_34 : decode cX4_sign 34 = .ok (.if_icmp .ne 5, 3) := by decide +kernel
theorem dX4_sign_37 : decode cX4_sign 37 = .ok (.iconst (-1), 1) := by decide +kernel
theorem dX4_sign_38 : decode cX4_sign 38 = .ok (.ireturn, 1) := by decide +kernel
theorem dX4_sign_39 : decode cX4_sign 39 = .ok (.aload_n 0, 1) := by decide +kernel
theorem dX4_sign_40 : decode cX4_sign 40 = .ok (.getfield 25, 3) := by decide +kernel
theorem dX4_sign_43 : decode cX4_sign 43 = .ok (.bipush 40, 2) := by decide +kernel
theorem dX4_sign_45 : decode cX4_sign 45 = .ok (.iload_n 1, 1) := by decide +kernel
theorem dX4_sign_46 : decode cX4_sign 46 = .ok (.imul, 1) := by decide +kernel
theorem dX4_sign_47 : decode cX4_sign 47 = .ok (.aload_n 0, 1) := by decide +kernel
theorem dX4_sign_48 : decode cX4_sign 48 = .ok (.getfield 28, 3) := by decide +kernel
theorem dX4_sign_51 : decode cX4_sign 51 = .ok (.iload_n 1, 1) := by decide +kernel
theorem dX4_sign_52 : decode cX4_sign 52 = .ok (.iaload, 1) := by decide +kernel
theorem dX4_sign_53 : decode cX4_sign 53 = .ok (.iadd, 1) := by decide +kernel
theorem dX4_sign_54 : decode cX4_sign 54 = .ok (.iload_n 2, 1) := by decide +kernel
theorem dX4_sign_55 : decode cX4_sign 55 = .ok (.iastore, 1) := by decide +kernel
theorem dX4_sign_56 : decode cX4_sign 56 = .ok (.aload_n 0, 1) := by decide +kernel
theorem dX4_sign_57 : decode cX4_sign 57 = .ok (.getfield 28, 3) := by decide +kernel
theorem dX4_sign_60 : decode cX4_sign 60 = .ok (.iload_n 1, 1) := by decide +kernel
theorem dX4_sign_61 : decode cX4_sign 61 = .ok (.dup2, 1) := by decide +kernel
theorem dX4_sign_62 : decode cX4_sign 62 = .ok (.iaload, 1) := by decide +kernel
theorem dX4_sign_63 : decode cX4_sign 63 = .ok (.iconst 1, 1) := by decide +kernel
theorem dX4_sign_64 : decode cX4_sign 64 = .ok (.iadd, 1) := by decide +kernel
theorem dX4_sign_65 : decode cX4_sign 65 = .ok (.iastore, 1) := by decide +kernel
theorem dX4_sign_66 : decode cX4_sign 66 = .ok (.aload_n 0, 1) := by decide +kernel
theorem dX4_sign_67 : decode cX4_sign 67 = .ok (.getfield 28, 3) := by decide +kernel
theorem dX4_sign_70 : decode cX4_sign 70 = .ok (.iload_n 1, 1) := by decide +kernel
theorem dX4_sign_71 : decode cX4_sign 71 = .ok (.iaload, 1) := by decide +kernel
theorem dX4_sign_72 : decode cX4_sign 72 = .ok (.ireturn, 1) := by decide +kernel
set_option maxRecDepth 20000 in
theorem ggX4_whole_X4_isText : GoodIn wsX4_whole wsX4_isText := goodIn_r _ [9, 10, 28, 29, 30, 31, 32, 33, 34, 35, 36, 37, 38, 39, 40, 41] (by decide +kernel) (by decide +kernel)
set_option maxRecDepth 20000 in
theorem gX4_whole_X4_isText : GoodIn wsX4_whole (wsV RX4 82 RX4 yX4_isText wsX4_isText) := goodIn_app (goodIn_of _ (by decide +kernel)) ggX4_whole_X4_isText
set_option maxRecDepth 20000 in
theorem ggX4_whole_X4_isPage : GoodIn wsX4_whole wsX4_isPage := goodIn_r _ [14, 15, 28, 29, 30, 31, 32, 33, 34, 35, 36, 37, 38, 39, 40, 41] (by decide +kernel) (by decide +kernel)
set_option maxRecDepth 20000 in
theorem gX4_whole_X4_isPage : GoodIn wsX4_whole (wsV RX4 47 RX4 yX4_isPage wsX4_isPage) := goodIn_app (goodIn_of _ (by decide +kernel)) ggX4_whole_X4_isPage
set_option maxRecDepth 20000 in
theorem ggX4_whole_X4_translated : GoodIn wsX4_whole wsX4_translated := goodIn_r _ [19, 20, 21, 22, 2, 23, 24, 25, 26, 8, 27, 28, 29, 30, 31, 32, 33, 34, 35, 36, 37, 38, 39, 40, 41] (by decide +kernel) (by decide +kernel)
set_option maxRecDepth 20000 in
theorem gX4_whole_X4_translated : GoodIn wsX4_whole (wsV RX4 65 RX4 yX4_translated wsX4_translated) := goodIn_app (goodIn_of _ (by decide +kernel)) ggX4_whole_X4_translated
theorem dX4_whole_0 : decode cX4_whole 0 = .ok (.aload_n 0, 1) := by decide +kernel
theorem dX4_whole_1 : decode cX4_whole 1 = .ok (.iconst 0, 1) := by decide +kernel
theorem dX4_whole_2 : decode cX4_whole 2 = .ok (.putfield 34, 3) := by decide +kernel
theorem dX4_whole_5 : decode cX4_whole 5 = .ok (.aload_n 0, 1) := by decide +kernel
theorem dX4_whole_6 : decode cX4_whole 6 = .ok (.iload_n 1, 1) := by decide +kernel
theorem dX4_whole_7 : decode cX4_whole 7 = .ok (.invokevirtual 82, 3) := by decide +kernel
theorem dX4_whole_10 : decode cX4_whole 10 = .ok (.ifCond .eq 19, 3) := by decide +kernel
theorem dX4_whole_13 : decode cX4_whole 13 = .ok (.aload_n 0, 1) := by decide +kernel
theorem dX4_whole_14 : decode cX4_whole 14 = .ok (.iload_n 2, 1) := by decide +kernel
theorem dX4_whole_15 : decode cX4_whole 15 = .ok (.invokevirtual 47, 3) := by decide +kernel
theorem dX4_whole_18 : decode cX4_whole 18 = .ok (.ifCond .eq 11, 3) := by decide +kernel
theorem dX4_whole_21 : decode cX4_whole 21 = .ok (.aload_n 0, 1) := by decide +kernel
theorem dX4_whole_22 : decode cX4_whole 22 = .ok (.iload_n 3, 1) := by decide +kernel
theorem dX4_whole_23 : decode cX4_whole 23 = .ok (.invokevirtual 47, 3) := by decide +kernel
theorem dX4_whole_26 : decode cX4_whole 26 = .ok (.ifCond .ne 6, 3) := by decide +kernel
theorem dX4_whole_29 : decode cX4_whole 29 = .ok (.bipush (-2), 2) := by decide +kernel
theorem dX4_whole_31 : decode cX4_whole 31 = .ok (.ireturn, 1) := by decide +kernel
theorem dX4_whole_32 : decode cX4_whole 32 = .ok (.aload_n 0, 1) := by decide +kernel
theorem dX4_whole_33 : decode cX4_whole 33 = .ok (.getfield 62, 3) := by decide +kernel
theorem dX4_whole_36 : decode cX4_whole 36 = .ok (.istore 4, 2) := by decide +kernel
theorem dX4_whole_38 : decode cX4_whole 38 = .ok (.bipush 40, 2) := by decide +kernel
theorem dX4_whole_40 : decode cX4_whole 40 = .ok (.iload_n 1, 1) := by decide +kernel
theorem dX4_whole_41 : decode cX4_whole 41 = .ok (.imul, 1) := by decide +kernel
theorem dX4_whole_42 : decode cX4_whole 42 = .ok (.istore 5, 2) := by decide +kernel
theorem dX4_whole_44 : decode cX4_whole 44 = .ok (.iload 5, 2) := by decide +kernel
theorem dX4_whole_46 : decode cX4_whole 46 = .ok (.bipush 40, 2) := by decide +kernel
theorem dX4_whole_48 : decode cX4_whole 48 = .ok (.iload_n 1, 1) := by decide +kernel
theorem dX4_whole_49 : decode cX4_whole 49 = .ok (.imul, 1) := by decide +kernel
theorem dX4_whole_50 : decode cX4_whole 50 = .ok (.aload_n 0, 1) := by decide +kernel
theorem dX4_whole_51 : decode cX4_whole 51 = .ok (.getfield 28, 3) := by decide +kernel
theorem dX4_whole_54 : decode cX4_whole 54 = .ok (.iload_n 1, 1) := by decide +kernel
theorem dX4_whole_55 : decode cX4_whole 55 = .ok (.iaload, 1) := by decide +kernel
theorem dX4_whole_56 : decode cX4_whole 56 = .ok (.iadd, 1) := by decide +kernel
theorem dX4_whole_57 : decode cX4_whole 57 = .ok (.if_icmp .ge 29, 3) := by decide +kernel
theorem dX4_whole_60 : decode cX4_whole 60 = .ok (.aload_n 0, 1) := by decide +kernel
theorem dX4_whole_61 : decode cX4_whole 61 = .ok (.getfield 25, 3) := by decide +kernel
theorem dX4_whole_64 : decode cX4_whole 64 = .ok (.iload 5, 2) := by decide +kernel
theorem dX4_whole_66 : decode cX4_whole 66 = .ok (.aload_n 0, 1) := by decide +kernel
theorem dX4_whole_67 : decode cX4_whole 67 = .ok (.aload_n 0, 1) := by decide +kernel
theorem dX4_whole_68 : decode cX4_whole 68 = .ok (.getfield 25, 3) := by decide +kernel
theorem dX4_whole_71 : decode cX4_whole 71 = .ok (.iload 5, 2) := by decide +kernel
theorem dX4_whole_73 : decode cX4_whole 73 = .ok (.iaload, 1) := by decide +kernel
theorem dX4_whole_74 : decode cX4_whole 74 = .ok (.iload_n 2, 1) := by decide +kernel
theorem dX4_whole_75 : decode cX4_whole 75 = .ok (.iload_n 3, 1) := by decide +kernel
theorem dX4_whole_76 : decode cX4_whole 76 = .ok (.invokevirtual 65, 3) := by decide +kernel
theorem dX4_whole_79 : decode cX4_whole 79 = .ok (.iastore, 1) := by decide +kernel
theorem dX4_whole_80 : decode cX4_whole 80 = .ok (.iinc 5 1, 3) := by decide +kernel
theorem dX4_whole_83 : decode cX4_whole 83 = .ok (.goto (-39), 3) := by decide +kernel
theorem dX4_whole_86 : decode cX4_whole 86 = .ok (.aload_n 0, 1) := by decide +kernel
theorem dX4_whole_87 : decode cX4_whole 87 = .ok (.getfield 62, 3) := by decide +kernel
theorem dX4_whole_90 : decode cX4_whole 90 = .ok (.iload 4, 2) := by decide +kernel
theorem dX4_whole_92 : decode cX4_whole 92 = .ok (.isub, 1) := by decide +kernel
theorem dX4_whole_93 : decode cX4_whole 93 = .ok (.ireturn, 1) := by decide +kernel
set_option maxRecDepth 20000 in
theorem ggX4_at_X4_isText : GoodIn wsX4_at wsX4_isText := goodIn_r _ [8, 9, 10, 11, 12, 13, 14, 15, 16, 17, 18, 19, 20, 21, 22, 23] (by decide +kernel) (by decide +kernel)
set_option maxRecDepth 20000 in
theorem gX4_at_X4_isText : GoodIn wsX4_at (wsV RX4 82 RX4 yX4_isText wsX4_isText) := goodIn_app (goodIn_of _ (by decide +kernel)) ggX4_at_X4_isText
theorem dX4_at_0 : decode cX4_at 0 = .ok (.aload_n 0, 1) := by decide +kernel
theorem dX4_at_1 : decode cX4_at 1 = .ok (.iconst 0, 1) := by decide +kernel
theorem dX4_at_2 : decode cX4_at 2 = .ok (.putfield 34, 3) := by decide +kernel
theorem dX4_at_5 : decode cX4_at 5 = .ok (.aload_n 0, 1) := by decide +kernel
theorem dX4_at_6 : decode cX4_at 6 = .ok (.iload_n 1, 1) := by decide +kernel
theorem dX4_at_7 : decode cX4_at 7 = .ok (.invokevirtual 82, 3) := by decide +kernel
theorem dX4_at_10 : decode cX4_at 10 = .ok (.ifCond .eq 31, 3) := by decide +kernel
theorem dX4_at_13 : decode cX4_at 13 = .ok (.iload_n 2, 1) := by decide +kernel
theorem dX4_at_14 : decode cX4_at 14 = .ok (.ifCond .lt 27, 3) := by decide +kernel
theorem dX4_at_17 : decode cX4_at 17 = .ok (.iload_n 2, 1) := by decide +kernel
theorem dX4_at_18 : decode cX4_at 18 = .ok (.aload_n 0, 1) := by decide +kernel
theorem dX4_at_19 : decode cX4_at 19 = .ok (.getfield 28, 3) := by decide +kernel
theorem dX4_at_22 : decode cX4_at 22 = .ok (.iload_n 1, 1) := by decide +kernel
theorem dX4_at_23 : decode cX4_at 23 = .ok (.iaload, 1) := by decide +kernel
theorem dX4_at_24 : decode cX4_at 24 = .ok (.if_icmp .ge 17, 3) := by decide +kernel
theorem dX4_at_27 : decode cX4_at 27 = .ok (.aload_n 0, 1) := by decide +kernel
theorem dX4_at_28 : decode cX4_at 28 = .ok (.getfield 25, 3) := by decide +kernel
theorem dX4_at_31 : decode cX4_at 31 = .ok (.bipush 40, 2) := by decide +kernel
theorem dX4_at_33 : decode cX4_at 33 = .ok (.iload_n 1, 1) := by decide +kernel
theorem dX4_at_34 : decode cX4_at 34 = .ok (.imul, 1) := by decide +kernel
theorem dX4_at_35 : decode cX4_at 35 = .ok (.iload_n 2, 1) := by decide +kernel
theorem dX4_at_36 : decode cX4_at 36 = .ok (.iadd, 1) := by decide +kernel
theorem dX4_at_37 : decode cX4_at 37 = .ok (.iaload, 1) := by decide +kernel
theorem dX4_at_38 : decode cX4_at 38 = .ok (.goto 4, 3) := by decide +kernel
theorem dX4_at_41 : decode cX4_at 41 = .ok (.iconst (-1), 1) := by decide +kernel
theorem dX4_at_42 : decode cX4_at 42 = .ok (.ireturn, 1) := by decide +kernel
theorem dX4_readAt_0 : decode cX4_readAt 0 = .ok (.iload_n 2, 1) := by decide +kernel
theorem dX4_readAt_1 : decode cX4_readAt 1 = .ok (.aload_n 0, 1) := by decide +kernel
theorem dX4_readAt_2 : decode cX4_readAt 2 = .ok (.getfield 28, 3) := by decide +kernel
theorem dX4_readAt_5 : decode cX4_readAt 5 = .ok (.iload_n 1, 1) := by decide +kernel
theorem dX4_readAt_6 : decode cX4_readAt 6 = .ok (.iaload, 1) := by decide +kernel
theorem dX4_readAt_7 : decode cX4_readAt 7 = .ok (.if_icmp .ge 17, 3) := by decide +kernel
theorem dX4_readAt_10 : decode cX4_readAt 10 = .ok (.aload_n 0, 1) := by decide +kernel
theorem dX4_readAt_11 : decode cX4_readAt 11 = .ok (.getfield 25, 3) := by decide +kernel
theorem dX4_readAt_14 : decode cX4_readAt 14 = .ok (.bipush 40, 2) := by decide +kernel
theorem dX4_readAt_16 : decode cX4_readAt 16 = .ok (.iload_n 1, 1) := by decide +kernel
theorem dX4_readAt_17 : decode cX4_readAt 17 = .ok (.imul, 1) := by decide +kernel
theorem dX4_readAt_18 : decode cX4_readAt 18 = .ok (.iload_n 2, 1) := by decide +kernel
theorem dX4_readAt_19 : decode cX4_readAt 19 = .ok (.iadd, 1) := by decide +kernel
theorem dX4_readAt_20 : decode cX4_readAt 20 = .ok (.iaload, 1) := by decide +kernel
theorem dX4_readAt_21 : decode cX4_readAt 21 = .ok (.goto 5, 3) := by decide +kernel
theorem dX4_readAt_24 : decode cX4_readAt 24 = .ok (.bipush 32, 2) := by decide +kernel
theorem dX4_readAt_26 : decode cX4_readAt 26 = .ok (.ireturn, 1) := by decide +kernel
set_option maxRecDepth 20000 in
theorem ggX4_compare_X4_isOrder : GoodIn wsX4_compare wsX4_isOrder := goodIn_r _ [6, 7, 26, 27, 28, 29, 30, 31, 32, 33, 34, 35, 36, 37, 38, 39] (by decide +kernel) (by decide +kernel)
set_option maxRecDepth 20000 in
theorem gX4_compare_X4_isOrder : GoodIn wsX4_compare (wsV RX4 73 RX4 yX4_isOrder wsX4_isOrder) := goodIn_app (goodIn_of _ (by decide +kernel)) ggX4_compare_X4_isOrder
set_option maxRecDepth 20000 in
theorem ggX4_compare_X4_isText : GoodIn wsX4_compare wsX4_isText := goodIn_r _ [11, 12, 26, 27, 28, 29, 30, 31, 32, 33, 34, 35, 36, 37, 38, 39] (by decide +kernel) (by decide +kernel)
set_option maxRecDepth 20000 in
theorem gX4_compare_X4_isText : GoodIn wsX4_compare (wsV RX4 82 RX4 yX4_isText wsX4_isText) := goodIn_app (goodIn_of _ (by decide +kernel)) ggX4_compare_X4_isText
set_option maxRecDepth 20000 in
theorem ggX4_compare_X4_readAt : GoodIn wsX4_compare wsX4_readAt := goodIn_r _ [16, 17, 18, 26, 27, 28, 29, 30, 31, 32, 33, 34, 35, 36, 37, 38, 39] (by decide +kernel) (by decide +kernel)
set_option maxRecDepth 20000 in
theorem gX4_compare_X4_readAt : GoodIn wsX4_compare (wsV RX4 85 RX4 yX4_readAt wsX4_readAt) := goodIn_app (goodIn_of _ (by decide +kernel)) ggX4_compare_X4_readAt
set_option maxRecDepth 20000 in
theorem ggX4_compare_X4_rankOf : GoodIn wsX4_compare wsX4_rankOf := goodIn_r _ [22, 23, 24, 25, 26, 27, 28, 29, 30, 31, 32, 33, 34, 35, 36, 37, 38, 39] (by decide +kernel) (by decide +kernel)
set_option maxRecDepth 20000 in
theorem gX4_compare_X4_rankOf : GoodIn wsX4_compare (wsV RX4 79 RX4 yX4_rankOf wsX4_rankOf) := goodIn_app (goodIn_of _ (by decide +kernel)) ggX4_compare_X4_rankOf
theorem dX4_compare_0 : decode cX4_compare 0 = .ok (.aload_n 0, 1) := by decide +kernel
theorem dX4_compare_1 : decode cX4_compare 1 = .ok (.iconst 0, 1) := by decide +kernel
theorem dX4_compare_2 : decode cX4_compare 2 = .ok (.putfield 34, 3) := by decide +kernel
theorem dX4_compare_5 : decode cX4_compare 5 = .ok (.aload_n 0, 1) := by decide +kernel
theorem dX4_compare_6 : decode cX4_compare 6 = .ok (.iload_n 1, 1) := by decide +kernel
theorem dX4_compare_7 : decode cX4_compare 7 = .ok (.invokevirtual 73, 3) := by decide +kernel
theorem dX4_compare_10 : decode cX4_compare 10 = .ok (.ifCond .eq 19, 3) := by decide +kernel
theorem dX4_compare_13 : decode cX4_compare 13 = .ok (.aload_n 0, 1) := by decide +kernel
theorem dX4_compare_14 : decode cX4_compare 14 = .ok (.iload_n 2, 1) := by decide +kernel
theorem dX4_compare_15 : decode cX4_compare 15 = .ok (.invokevirtual 82, 3) := by decide +kernel
theorem dX4_compare_18 : decode cX4_compare 18 = .ok (.ifCond .eq 11, 3) := by decide +kernel
theorem dX4_compare_21 : decode cX4_compare 21 = .ok (.aload_n 0, 1) := by decide +kernel
theorem dX4_compare_22 : decode cX4_compare 22 = .ok (.iload_n 3, 1) := by decide +kernel
theorem dX4_compare_23 : decode cX4_compare 23 = .ok (.invokevirtual 82, 3) := by decide +kernel
theorem dX4_compare_26 : decode cX4_compare 26 = .ok (.ifCond .ne 6, 3) := by decide +kernel
theorem dX4_compare_29 : decode cX4_compare 29 = .ok (.bipush (-2), 2) := by decide +kernel
theorem dX4_compare_31 : decode cX4_compare 31 = .ok (.ireturn, 1) := by decide +kernel
theorem dX4_compare_32 : decode cX4_compare 32 = .ok (.iconst 0, 1) := by decide +kernel
theorem dX4_compare_33 : decode cX4_compare 33 = .ok (.istore 4, 2) := by decide +kernel
theorem dX4_compare_35 : decode cX4_compare 35 = .ok (.iload 4, 2) := by decide +kernel
theorem dX4_compare_37 : decode cX4_compare 37 = .ok (.bipush 40, 2) := by decide +kernel
theorem dX4_compare_39 : decode cX4_compare 39 = .ok (.if_icmp .ge 57, 3) := by decide +kernel
theorem dX4_compare_42 : decode cX4_compare 42 = .ok (.aload_n 0, 1) := by decide +kernel
theorem dX4_compare_43 : decode cX4_compare 43 = .ok (.iload_n 1, 1) := by decide +kernel
theorem dX4_compare_44 : decode cX4_compare 44 = .ok (.aload_n 0, 1) := by decide +kernel
theorem dX4_compare_45 : decode cX4_compare 45 = .ok (.iload_n 2, 1) := by decide +kernel
theorem dX4_compare_46 : decode cX4_compare 46 = .ok (.iload 4, 2) := by decide +kernel
theorem dX4_compare_48 : decode cX4_compare 48 = .ok (.invokevirtual 85, 3) := by decide +kernel
theorem dX4_compare_51 : decode cX4_compare 51 = .ok (.invokevirtual 79, 3) := by decide +kernel
theorem dX4_compare_54 : decode cX4_compare 54 = .ok (.istore 5, 2) := by decide +kernel
theorem dX4_compare_56 : decode cX4_compare 56 = .ok (.aload_n 0, 1) := by decide +kernel
theorem dX4_compare_57 : decode cX4_compare 57 = .ok (.iload_n 1, 1) := by decide +kernel
theorem dX4_compare_58 : decode cX4_compare 58 = .ok (.aload_n 0, 1) := by decide +kernel
theorem dX4_compare_59 : decode cX4_compare 59 = .ok (.iload_n 3, 1) := by decide +kernel
theorem dX4_compare_60 : decode cX4_compare 60 = .ok (.iload 4, 2) := by decide +kernel
theorem dX4_compare_62 : decode cX4_compare 62 = .ok (.invokevirtual 85, 3) := by decide +kernel
theorem dX4_compare_65 : decode cX4_compare 65 = .ok (.invokevirtual 79, 3) := by decide +kernel
theorem dX4_compare_68 : decode cX4_compare 68 = .ok (.istore 6, 2) := by decide +kernel
theorem dX4_compare_70 : decode cX4_compare 70 = .ok (.iload 5, 2) := by decide +kernel
theorem dX4_compare_72 : decode cX4_compare 72 = .ok (.iload 6, 2) := by decide +kernel
theorem dX4_compare_74 : decode cX4_compare 74 = .ok (.if_icmp .eq 16, 3) := by decide +kernel
theorem dX4_compare_77 : decode cX4_compare 77 = .ok (.iload 5, 2) := by decide +kernel
theorem dX4_compare_79 : decode cX4_compare 79 = .ok (.iload 6, 2) := by decide +kernel
theorem dX4_compare_81 : decode cX4_compare 81 = .ok (.if_icmp .ge 7, 3) := by decide +kernel
theorem dX4_compare_84 : decode cX4_compare 84 = .ok (.iconst (-1), 1) := by decide +kernel
theorem dX4_compare_85 : decode cX4_compare 85 = .ok (.goto 4, 3) := by decide +kernel
theorem dX4_compare_88 : decode cX4_compare 88 = .ok (.iconst 1, 1) := by decide +kernel
theorem dX4_compare_89 : decode cX4_compare 89 = .ok (.ireturn, 1) := by decide +kernel
theorem dX4_compare_90 : decode cX4_compare 90 = .ok (.iinc 4 1, 3) := by decide +kernel
theorem dX4_compare_93 : decode cX4_compare 93 = .ok (.goto (-58), 3) := by decide +kernel
theorem dX4_compare_96 : decode cX4_compare 96 = .ok (.iconst 0, 1) := by decide +kernel
theorem dX4_compare_97 : decode cX4_compare 97 = .ok (.ireturn, 1) := by decide +kernel
theorem dX4_cls_0 : decode cX4_cls 0 = .ok (.aload_n 0, 1) := by decide +kernel
theorem dX4_cls_1 : decode cX4_cls 1 = .ok (.iconst 0, 1) := by decide +kernel
theorem dX4_cls_2 : decode cX4_cls 2 = .ok (.putfield 34, 3) := by decide +kernel
theorem dX4_cls_5 : decode cX4_cls 5 = .ok (.iload_n 1, 1) := by decide +kernel
theorem dX4_cls_6 : decode cX4_cls 6 = .ok (.bipush 65, 2) := by decide +kernel
theorem dX4_cls_8 : decode cX4_cls 8 = .ok (.if_icmp .lt 13, 3) := by decide +kernel
theorem dX4_cls_11 : decode cX4_cls 11 = .ok (.iload_n 1, 1) := by decide +kernel
theorem dX4_cls_12 : decode cX4_cls 12 = .ok (.bipush 90, 2) := by decide +kernel
theorem dX4_cls_14 : decode cX4_cls 14 = .ok (.if_icmp .gt 7, 3) := by decide +kernel
theorem dX4_cls_17 : decode cX4_cls 17 = .ok (.iconst 1, 1) := by decide +kernel
theorem dX4_cls_18 : decode cX4_cls 18 = .ok (.goto 4, 3) := by decide +kernel
theorem dX4_cls_21 : decode cX4_cls 21 = .ok (.iconst 0, 1) := by decide +kernel
theorem dX4_cls_22 : decode cX4_cls 22 = .ok (.istore_n 3, 1) := by decide +kernel
theorem dX4_cls_23 : decode cX4_cls 23 = .ok (.iload_n 1, 1) := by decide +kernel
theorem dX4_cls_24 : decode cX4_cls 24 = .ok (.bipush 97, 2) := by decide +kernel
theorem dX4_cls_26 : decode cX4_cls 26 = .ok (.if_icmp .lt 13, 3) := by decide +kernel
theorem dX4_cls_29 : decode cX4_cls 29 = .ok (.iload_n 1, 1) := by decide +kernel
theorem dX4_cls_30 : decode cX4_cls 30 = .ok (.bipush 122, 2) := by decide +kernel
theorem dX4_cls_32 : decode cX4_cls 32 = .ok (.if_icmp .gt 7, 3) := by decide +kernel
theorem dX4_cls_35 : decode cX4_cls 35 = .ok (.iconst 1, 1) := by decide +kernel
theorem dX4_cls_36 : decode cX4_cls 36 = .ok (.goto 4, 3) := by decide +kernel
theorem dX4_cls_39 : decode cX4_cls 39 = .ok (.iconst 0, 1) := by decide +kernel
theorem dX4_cls_40 : decode cX4_cls 40 = .ok (.istore 4, 2) := by decide +kernel
theorem dX4_cls_42 : decode cX4_cls 42 = .ok (.iload_n 2, 1) := by decide +kernel
theorem dX4_cls_43 : decode cX4_cls 43 = .ok (.tableswitch 109 0 5 #[37, 55, 70, 72, 75, 87], 37) := by decide +kernel
theorem dX4_cls_80 : decode cX4_cls 80 = .ok (.iload_n 1, 1) := by decide +kernel
theorem dX4_cls_81 : decode cX4_cls 81 = .ok (.bipush 48, 2) := by decide +kernel
theorem dX4_cls_83 : decode cX4_cls 83 = .ok (.if_icmp .lt 13, 3) := by decide +kernel
theorem dX4_cls_86 : decode cX4_cls 86 = .ok (.iload_n 1, 1) := by decide +kernel
theorem dX4_cls_87 : decode cX4_cls 87 = .ok (.bipush 57, 2) := by decide +kernel
theorem dX4_cls_89 : decode cX4_cls 89 = .ok (.if_icmp .gt 7, 3) := by decide +kernel
theorem dX4_cls_92 : decode cX4_cls 92 = .ok (.iconst 1, 1) := by decide +kernel
theorem dX4_cls_93 : decode cX4_cls 93 = .ok (.goto 4, 3) := by decide +kernel
theorem dX4_cls_96 : decode cX4_cls 96 = .ok (.iconst 0, 1) := by decide +kernel
theorem dX4_cls_97 : decode cX4_cls 97 = .ok (.ireturn, 1) := by decide +kernel
theorem dX4_cls_98 : decode cX4_cls 98 = .ok (.iload_n 3, 1) := by decide +kernel
theorem dX4_cls_99 : decode cX4_cls 99 = .ok (.ifCond .ne 8, 3) := by decide +kernel
theorem dX4_cls_102 : decode cX4_cls 102 = .ok (.iload 4, 2) := by decide +kernel
theorem dX4_cls_104 : decode cX4_cls 104 = .ok (.ifCond .eq 7, 3) := by decide +kernel
theorem dX4_cls_107 : decode cX4_cls 107 = .ok (.iconst 1, 1) := by decide +kernel
theorem dX4_cls_108 : decode cX4_cls 108 = .ok (.goto 4, 3) := by decide +kernel
theorem dX4_cls_111 : decode cX4_cls 111 = .ok (.iconst 0, 1) := by decide +kernel
theorem dX4_cls_112 : decode cX4_cls 112 = .ok (.ireturn, 1) := by decide +kernel
theorem dX4_cls_113 : decode cX4_cls 113 = .ok (.iload_n 3, 1) := by decide +kernel
theorem dX4_cls_114 : decode cX4_cls 114 = .ok (.ireturn, 1) := by decide +kernel
theorem dX4_cls_115 : decode cX4_cls 115 = .ok (.iload 4, 2) := by decide +kernel
theorem dX4_cls_117 : decode cX4_cls 117 = .ok (.ireturn, 1) := by decide +kernel
theorem dX4_cls_118 : decode cX4_cls 118 = .ok (.iload_n 1, 1) := by decide +kernel
theorem dX4_cls_119 : decode cX4_cls 119 = .ok (.bipush 32, 2) := by decide +kernel
theorem dX4_cls_121 : decode cX4_cls 121 = .ok (.if_icmp .ne 7, 3) := by decide +kernel
theorem dX4_cls_124 : decode cX4_cls 124 = .ok (.iconst 1, 1) := by decide +kernel
theorem dX4_cls_125 : decode cX4_cls 125 = .ok (.goto 4, 3) := by decide +kernel
theorem dX4_cls_128 : decode cX4_cls 128 = .ok (.iconst 0, 1) := by decide +kernel
theorem dX4_cls_129 : decode cX4_cls 129 = .ok (.ireturn, 1) := by decide +kernel
theorem dX4_cls_130 : decode cX4_cls 130 = .ok (.iload_n 1, 1) := by decide +kernel
theorem dX4_cls_131 : decode cX4_cls 131 = .ok (.ifCond .lt 9, 3) := by decide +kernel
theorem dX4_cls_134 : decode cX4_cls 134 = .ok (.iload_n 1, 1) := by decide +kernel
theorem dX4_cls_135 : decode cX4_cls 135 = .ok (.bipush 32, 2) := by decide +kernel
theorem dX4_cls_137 : decode cX4_cls 137 = .ok (.if_icmp .lt 9, 3) := by decide +kernel
theorem dX4_cls_140 : decode cX4_cls 140 = .ok (.iload_n 1, 1) := by decide +kernel
theorem dX4_cls_141 : decode cX4_cls 141 = .ok (.bipush 127, 2) := by decide +kernel
theorem dX4_cls_143 : decode cX4_cls 143 = .ok (.if_icmp .ne 7, 3) := by decide +kernel
theorem dX4_cls_146 : decode cX4_cls 146 = .ok (.iconst 1, 1) := by decide +kernel
theorem dX4_cls_147 : decode cX4_cls 147 = .ok (.goto 4, 3) := by decide +kernel
theorem dX4_cls_150 : decode cX4_cls 150 = .ok (.iconst 0, 1) := by decide +kernel
theorem dX4_cls_151 : decode cX4_cls 151 = .ok (.ireturn, 1) := by decide +kernel
theorem dX4_cls_152 : decode cX4_cls 152 = .ok (.iconst 0, 1) := by decide +kernel
theorem dX4_cls_153 : decode cX4_cls 153 = .ok (.ireturn, 1) := by decide +kernel
theorem dX4_half_0 : decode cX4_half 0 = .ok (.iload_n 0, 1) := by decide +kernel
theorem dX4_half_1 : decode cX4_half 1 = .ok (.bipush 10, 2) := by decide +kernel
theorem dX4_half_3 : decode cX4_half 3 = .ok (.if_icmp .ge 10, 3) := by decide +kernel
theorem dX4_half_6 : decode cX4_half 6 = .ok (.bipush 48, 2) := by decide +kernel
theorem dX4_half_8 : decode cX4_half 8 = .ok (.iload_n 0, 1) := by decide +kernel
theorem dX4_half_9 : decode cX4_half 9 = .ok (.iadd, 1) := by decide +kernel
theorem dX4_half_10 : decode cX4_half 10 = .ok (.goto 7, 3) := by decide +kernel
theorem dX4_half_13 : decode cX4_half 13 = .ok (.bipush 55, 2) := by decide +kernel
theorem dX4_half_15 : decode cX4_half 15 = .ok (.iload_n 0, 1) := by decide +kernel
theorem dX4_half_16 : decode cX4_half 16 = .ok (.iadd, 1) := by decide +kernel
theorem dX4_half_17 : decode cX4_half 17 = .ok (.i2b, 1) := by decide +kernel
theorem dX4_half_18 : decode cX4_half 18 = .ok (.ireturn, 1) := by decide +kernel
set_option maxRecDepth 20000 in
theorem ggX4_print_X4_isCode : GoodIn wsX4_print wsX4_isCode := goodIn_r _ [5] (by decide +kernel) (by decide +kernel)
set_option maxRecDepth 20000 in
theorem gX4_print_X4_isCode : GoodIn wsX4_print (va_wsS RX4 51 yX4_isCode wsX4_isCode) := goodIn_app (goodIn_of _ (by decide +kernel)) ggX4_print_X4_isCode
set_option maxRecDepth 20000 in
theorem ggX4_print_X4_half : GoodIn wsX4_print wsX4_half := goodIn_r _ [8] (by decide +kernel) (by decide +kernel)
set_option maxRecDepth 20000 in
theorem gX4_print_X4_half : GoodIn wsX4_print (va_wsS RX4 88 yX4_half wsX4_half) := goodIn_app (goodIn_of _ (by decide +kernel)) ggX4_print_X4_half
theorem dX4_print_0 : decode cX4_print 0 = .ok (.aload_n 0, 1) := by decide +kernel
theorem dX4_print_1 : decode cX4_print 1 = .ok (.iconst 0, 1) := by decide +kernel
theorem dX4_print_2 : decode cX4_print 2 = .ok (.putfield 34, 3) := by decide +kernel
theorem dX4_print_5 : decode cX4_print 5 = .ok (.iload_n 1, 1) := by decide +kernel
theorem dX4_print_6 : decode cX4_print 6 = .ok (.invokestatic 51, 3) := by decide +kernel
theorem dX4_print_9 : decode cX4_print 9 = .ok (.ifCond .ne 5, 3) := by decide +kernel
theorem dX4_print_12 : decode cX4_print 12 = .ok (.iconst 0, 1) := by decide +kernel
theorem dX4_print_13 : decode cX4_print 13 = .ok (.ireturn, 1) := by decide +kernel
theorem dX4_print_14 : decode cX4_print 14 = .ok (.iload_n 1, 1) := by decide +kernel
theorem dX4_print_15 : decode cX4_print 15 = .ok (.bipush 16, 2) := by decide +kernel
theorem dX4_print_17 : decode cX4_print 17 = .ok (.irem, 1) := by decide +kernel
theorem dX4_print_18 : decode cX4_print 18 = .ok (.istore_n 3, 1) := by decide +kernel
theorem dX4_print_19 : decode cX4_print 19 = .ok (.iload_n 2, 1) := by decide +kernel
theorem dX4_print_20 : decode cX4_print 20 = .ok (.tableswitch 73 0 2 #[28, 36, 41], 28) := by decide +kernel
theorem dX4_print_48 : decode cX4_print 48 = .ok (.iload_n 1, 1) := by decide +kernel
theorem dX4_print_49 : decode cX4_print 49 = .ok (.bipush 16, 2) := by decide +kernel
theorem dX4_print_51 : decode cX4_print 51 = .ok (.idiv, 1) := by decide +kernel
theorem dX4_print_52 : decode cX4_print 52 = .ok (.invokestatic 88, 3) := by decide +kernel
theorem dX4_print_55 : decode cX4_print 55 = .ok (.ireturn, 1) := by decide +kernel
theorem dX4_print_56 : decode cX4_print 56 = .ok (.iload_n 3, 1) := by decide +kernel
theorem dX4_print_57 : decode cX4_print 57 = .ok (.invokestatic 88, 3) := by decide +kernel
theorem dX4_print_60 : decode cX4_print 60 = .ok (.ireturn, 1) := by decide +kernel
theorem dX4_print_61 : decode cX4_print 61 = .ok (.iload_n 3, 1) := by decide +kernel
theorem dX4_print_62 : decode cX4_print 62 = .ok (.bipush 11, 2) := by decide +kernel
theorem dX4_print_64 : decode cX4_print 64 = .ok (.if_icmp .eq 9, 3) := by decide +kernel
theorem dX4_print_67 : decode cX4_print 67 = .ok (.iload_n 3, 1) := by decide +kernel
theorem dX4_print_68 : decode cX4_print 68 = .ok (.bipush 13, 2) := by decide +kernel
theorem dX4_print_70 : decode cX4_print 70 = .ok (.if_icmp .ne 8, 3) := by decide +kernel
theorem dX4_print_73 : decode cX4_print 73 = .ok (.bipush 45, 2) := by decide +kernel
theorem dX4_print_75 : decode cX4_print 75 = .ok (.goto 16, 3) := by decide +kernel
theorem dX4_print_78 : decode cX4_print 78 = .ok (.iload_n 3, 1) := by decide +kernel
theorem dX4_print_79 : decode cX4_print 79 = .ok (.bipush 9, 2) := by decide +kernel
theorem dX4_print_81 : decode cX4_print 81 = .ok (.if_icmp .le 8, 3) := by decide +kernel
theorem dX4_print_84 : decode cX4_print 84 = .ok (.bipush 43, 2) := by decide +kernel
theorem dX4_print_86 : decode cX4_print 86 = .ok (.goto 5, 3) := by decide +kernel
theorem dX4_print_89 : decode cX4_print 89 = .ok (.bipush 63, 2) := by decide +kernel
theorem dX4_print_91 : decode cX4_print 91 = .ok (.i2b, 1) := by decide +kernel
theorem dX4_print_92 : decode cX4_print 92 = .ok (.ireturn, 1) := by decide +kernel
theorem dX4_print_93 : decode cX4_print 93 = .ok (.iconst 0, 1) := by decide +kernel
theorem dX4_print_94 : decode cX4_print 94 = .ok (.ireturn, 1) := by decide +kernel
end
section
set_option maxRecDepth 20000 in
theorem ggL_row_X3_row : GoodIn wsL_row wsX3_row := goodIn_r _ [5, 6, 7, 8, 9, 10, 11, 12, 4, 13, 14, 15, 16, 17, 18, 19, 20, 21, 22, 23, 24, 25, 26, 27, 28, 29, 30, 31, 32, 33] (by decide +kernel) (by decide +kernel)
set_option maxRecDepth 20000 in
theorem gL_row_X3_row : GoodIn wsL_row (wsV RL 7 RX3 yX3_row wsX3_row) := goodIn_app (goodIn_of _ (by decide +kernel)) ggL_row_X3_row
theorem dL_row_0 : decode cL_row 0 = .ok (.aload_n 3, 1) := by decide +kernel
theorem dL_row_1 : decode cL_row 1 = .ok (.iconst 0, 1) := by decide +kernel
theorem dL_row_2 : decode cL_row 2 = .ok (.aload_n 0, 1) := by decide +kernel
theorem dL_row_3 : decode cL_row 3 = .ok (.iload_n 1, 1) := by decide +kernel
theorem dL_row_4 : decode cL_row 4 = .ok (.iload_n 2, 1) := by decide +kernel
theorem dL_row_5 : decode cL_row 5 = .ok (.invokevirtual 7, 3) := by decide +kernel
theorem dL_row_8 : decode cL_row 8 = .ok (.i2l, 1) := by decide +kernel
theorem dL_row_9 : decode cL_row 9 = .ok (.lastore, 1) := by decide +kernel
theorem dL_row_10 : decode cL_row 10 = .ok (.goto 7, 3) := by decide +kernel
theorem dL_row_13 : decode cL_row 13 = .ok (.astore 4, 2) := by decide +kernel
theorem dL_row_15 : decode cL_row 15 = .ok (.iconst 1, 1) := by decide +kernel
theorem dL_row_16 : decode cL_row 16 = .ok (.ireturn, 1) := by decide +kernel
theorem dL_row_17 : decode cL_row 17 = .ok (.iconst 0, 1) := by decide +kernel
theorem dL_row_18 : decode cL_row 18 = .ok (.ireturn, 1) := by decide +kernel
set_option maxRecDepth 20000 in
theorem ggL_law_X3_init : GoodIn wsL_law wsX3_init := goodIn_r _ [9, 10, 11, 12, 13, 14, 15, 16, 17, 18, 19, 20, 21, 22, 23, 24, 361, 362, 363, 364, 365, 366, 367, 368] (by decide +kernel) (by decide +kernel)
set_option maxRecDepth 20000 in
theorem gL_law_X3_init : GoodIn wsL_law (wsX3_init) := ggL_law_X3_init
set_option maxRecDepth 20000 in
theorem ggL_law_X4_init : GoodIn wsL_law wsX4_init := goodIn_r _ [27, 28, 11, 12, 19, 29, 30, 31, 32, 33, 34, 35, 36, 369, 370, 371, 372, 373, 374, 375, 376, 377, 378, 379, 380, 381, 382] (by decide +kernel) (by decide +kernel)
set_option maxRecDepth 20000 in
theorem gL_law_X4_init : GoodIn wsL_law (wsX4_init) := ggL_law_X4_init
set_option maxRecDepth 20000 in
theorem ggL_law_X3_page : GoodIn wsL_law wsX3_page := goodIn_r _ [40, 21, 14, 13, 41, 42, 43, 44, 2, 45, 46, 47, 48, 49, 11, 12, 19, 50, 51, 52, 53, 54, 361, 362, 363, 364, 365, 366, 367, 368, 383, 384] (by decide +kernel) (by decide +kernel)
set_option maxRecDepth 20000 in
theorem gL_law_X3_page : GoodIn wsL_law (wsV RL 19 RX3 yX3_page wsX3_page) := goodIn_app (goodIn_of _ (by decide +kernel)) ggL_law_X3_page
set_option maxRecDepth 20000 in
theorem ggL_law_X4_page : GoodIn wsL_law wsX4_page := goodIn_r _ [58, 59, 60, 29, 30, 369, 370, 371, 372, 373, 374, 375, 376, 377, 378, 379, 380, 381, 382] (by decide +kernel) (by decide +kernel)
set_option maxRecDepth 20000 in
theorem gL_law_X4_page : GoodIn wsL_law (wsV RL 23 RX4 yX4_page wsX4_page) := goodIn_app (goodIn_of _ (by decide +kernel)) ggL_law_X4_page
set_option maxRecDepth 20000 in
theorem ggL_law_X3_set : GoodIn wsL_law wsX3_set := goodIn_r _ [64, 65, 66, 67, 68, 2, 69, 14, 70, 71, 72, 73, 74, 75, 76, 77, 78, 79, 42, 80, 50, 383, 384, 361, 362, 363, 364, 365, 366, 367, 368] (by decide +kernel) (by decide +kernel)
set_option maxRecDepth 20000 in
theorem gL_law_X3_set : GoodIn wsL_law (wsV RL 24 RX3 yX3_set wsX3_set) := goodIn_app (goodIn_of _ (by decide +kernel)) ggL_law_X3_set
set_option maxRecDepth 20000 in
theorem ggL_law_X4_set : GoodIn wsL_law wsX4_set := goodIn_r _ [84, 59, 85, 29, 86, 87, 88, 5, 89, 60, 90, 91, 92, 93, 94, 95, 96, 369, 370, 371, 372, 373, 374, 375, 376, 377, 378, 379, 380, 381, 382] (by decide +kernel) (by decide +kernel)
set_option maxRecDepth 20000 in
theorem gL_law_X4_set : GoodIn wsL_law (wsV RL 28 RX4 yX4_set wsX4_set) := goodIn_app (goodIn_of _ (by decide +kernel)) ggL_law_X4_set
set_option maxRecDepth 20000 in
theorem ggL_law_L_row : GoodIn wsL_law wsL_row := goodIn_r _ [100, 101, 102, 103, 2, 104, 105, 106, 107, 65, 66, 67, 68, 69, 14, 70, 71, 72, 385, 386, 387, 388, 389, 390, 383, 384, 361, 362, 363, 364, 365, 366, 367, 368] (by decide +kernel) (by decide +kernel)
set_option maxRecDepth 20000 in
theorem gL_law_L_row : GoodIn wsL_law (va_wsS RL 29 yL_row wsL_row) := goodIn_app (goodIn_of _ (by decide +kernel)) ggL_law_L_row
set_option maxRecDepth 20000 in
theorem ggL_law_X4_row : GoodIn wsL_law wsX4_row := goodIn_r _ [111, 59, 29, 86, 87, 88, 5, 89, 60, 90, 91, 92, 369, 370, 371, 372, 373, 374, 375, 376, 377, 378, 379, 380, 381, 382] (by decide +kernel) (by decide +kernel)
set_option maxRecDepth 20000 in
theorem gL_law_X4_row : GoodIn wsL_law (wsV RL 34 RX4 yX4_row wsX4_row) := goodIn_app (goodIn_of _ (by decide +kernel)) ggL_law_X4_row
set_option maxRecDepth 20000 in
theorem ggL_law_X4_thrown : GoodIn wsL_law wsX4_thrown := goodIn_r _ [115, 59, 369, 370, 371, 372, 373, 374, 375, 376, 377, 378, 379, 380, 381, 382] (by decide +kernel) (by decide +kernel)
set_option maxRecDepth 20000 in
theorem gL_law_X4_thrown : GoodIn wsL_law (wsV RL 35 RX4 yX4_thrown wsX4_thrown) := goodIn_app (goodIn_of _ (by decide +kernel)) ggL_law_X4_thrown
set_option maxRecDepth 20000 in
theorem ggL_law_X3_standIn : GoodIn wsL_law wsX3_standIn := goodIn_r _ [119, 120, 66, 67, 68, 2, 69, 14, 70, 71, 72, 383, 384, 361, 362, 363, 364, 365, 366, 367, 368] (by decide +kernel) (by decide +kernel)
set_option maxRecDepth 20000 in
theorem gL_law_X3_standIn : GoodIn wsL_law (wsV RL 39 RX3 yX3_standIn wsX3_standIn) := goodIn_app (goodIn_of _ (by decide +kernel)) ggL_law_X3_standIn
set_option maxRecDepth 20000 in
theorem ggL_law_X4_standIn : GoodIn wsL_law wsX4_standIn := goodIn_r _ [124, 59, 30, 86, 87, 88, 5, 89, 60, 90, 91, 92, 369, 370, 371, 372, 373, 374, 375, 376, 377, 378, 379, 380, 381, 382] (by decide +kernel) (by decide +kernel)
set_option maxRecDepth 20000 in
theorem gL_law_X4_standIn : GoodIn wsL_law (wsV RL 42 RX4 yX4_standIn wsX4_standIn) := goodIn_app (goodIn_of _ (by decide +kernel)) ggL_law_X4_standIn
set_option maxRecDepth 20000 in
theorem ggL_law_X3_translate : GoodIn wsL_law wsX3_translate := goodIn_r _ [128, 120, 66, 67, 68, 2, 69, 14, 70, 71, 72, 129, 130, 131, 132, 65, 24, 20, 77, 78, 79, 42, 80, 50, 383, 384, 361, 362, 363, 364, 365, 366, 367, 368] (by decide +kernel) (by decide +kernel)
set_option maxRecDepth 20000 in
theorem gL_law_X3_translate : GoodIn wsL_law (wsV RL 43 RX3 yX3_translate wsX3_translate) := goodIn_app (goodIn_of _ (by decide +kernel)) ggL_law_X3_translate
set_option maxRecDepth 20000 in
theorem ggL_law_X4_translate : GoodIn wsL_law wsX4_translate := goodIn_r _ [136, 59, 86, 87, 88, 5, 89, 60, 90, 91, 92, 137, 138, 139, 140, 29, 141, 36, 142, 30, 93, 94, 95, 96, 369, 370, 371, 372, 373, 374, 375, 376, 377, 378, 379, 380, 381, 382] (by decide +kernel) (by decide +kernel)
set_option maxRecDepth 20000 in
theorem gL_law_X4_translate : GoodIn wsL_law (wsV RL 46 RX4 yX4_translate wsX4_translate) := goodIn_app (goodIn_of _ (by decide +kernel)) ggL_law_X4_translate
set_option maxRecDepth 20000 in
theorem ggL_law_X3_told : GoodIn wsL_law wsX3_told := goodIn_r _ [146, 24, 20, 361, 362, 363, 364, 365, 366, 367, 368] (by decide +kernel) (by decide +kernel)
set_option maxRecDepth 20000 in
theorem gL_law_X3_told : GoodIn wsL_law (wsV RL 47 RX3 yX3_told wsX3_told) := goodIn_app (goodIn_of _ (by decide +kernel)) ggL_law_X3_told
set_option maxRecDepth 20000 in
theorem ggL_law_X4_told : GoodIn wsL_law wsX4_told := goodIn_r _ [150, 59, 141, 36, 369, 370, 371, 372, 373, 374, 375, 376, 377, 378, 379, 380, 381, 382] (by decide +kernel) (by decide +kernel)
set_option maxRecDepth 20000 in
theorem gL_law_X4_told : GoodIn wsL_law (wsV RL 50 RX4 yX4_told wsX4_told) := goodIn_app (goodIn_of _ (by decide +kernel)) ggL_law_X4_told
set_option maxRecDepth 20000 in
theorem ggL_law_X3_order : GoodIn wsL_law wsX3_order := goodIn_r _ [154, 22, 15, 155, 156, 65, 16, 43, 44, 2, 45, 157, 158, 159, 160, 11, 12, 19, 161, 162, 163, 164, 165, 66, 67, 68, 69, 14, 166, 167, 168, 169, 170, 171, 172, 173, 361, 362, 363, 364, 365, 366, 367, 368, 391, 392, 393, 394, 383, 384] (by decide +kernel) (by decide +kernel)
set_option maxRecDepth 20000 in
theorem gL_law_X3_order : GoodIn wsL_law (wsV RL 51 RX3 yX3_order wsX3_order) := goodIn_app (goodIn_of _ (by decide +kernel)) ggL_law_X3_order
set_option maxRecDepth 20000 in
theorem ggL_law_X4_order : GoodIn wsL_law wsX4_order := goodIn_r _ [177, 59, 178, 31, 33, 32, 179, 180, 181, 5, 182, 60, 29, 369, 370, 371, 372, 373, 374, 375, 376, 377, 378, 379, 380, 381, 382] (by decide +kernel) (by decide +kernel)
set_option maxRecDepth 20000 in
theorem gL_law_X4_order : GoodIn wsL_law (wsV RL 54 RX4 yX4_order wsX4_order) := goodIn_app (goodIn_of _ (by decide +kernel)) ggL_law_X4_order
set_option maxRecDepth 20000 in
theorem ggL_law_X3_also : GoodIn wsL_law wsX3_also := goodIn_r _ [186, 187, 188, 189, 190, 2, 191, 16, 192, 193, 194, 70, 71, 72, 195, 196, 197, 156, 198, 163, 161, 199, 200, 201, 202, 164, 391, 392, 393, 394, 361, 362, 363, 364, 365, 366, 367, 368] (by decide +kernel) (by decide +kernel)
set_option maxRecDepth 20000 in
theorem gL_law_X3_also : GoodIn wsL_law (wsV RL 55 RX3 yX3_also wsX3_also) := goodIn_app (goodIn_of _ (by decide +kernel)) ggL_law_X3_also
set_option maxRecDepth 20000 in
theorem ggL_law_X4_also : GoodIn wsL_law wsX4_also := goodIn_r _ [206, 59, 32, 207, 208, 209, 5, 210, 31, 211, 212, 213, 214, 178, 90, 91, 92, 369, 370, 371, 372, 373, 374, 375, 376, 377, 378, 379, 380, 381, 382] (by decide +kernel) (by decide +kernel)
set_option maxRecDepth 20000 in
theorem gL_law_X4_also : GoodIn wsL_law (wsV RL 58 RX4 yX4_also wsX4_also) := goodIn_app (goodIn_of _ (by decide +kernel)) ggL_law_X4_also
set_option maxRecDepth 20000 in
theorem ggL_law_X3_through : GoodIn wsL_law wsX3_through := goodIn_r _ [218, 187, 219, 220, 221, 222, 188, 189, 190, 2, 191, 16, 192, 193, 194, 70, 71, 72, 223, 224, 225, 156, 226, 227, 228, 229, 230, 231, 232, 163, 161, 164, 233, 199, 200, 201, 202, 391, 392, 393, 394, 361, 362, 363, 364, 365, 366, 367, 368] (by decide +kernel) (by decide +kernel)
set_option maxRecDepth 20000 in
theorem gL_law_X3_through : GoodIn wsL_law (wsV RL 59 RX3 yX3_through wsX3_through) := goodIn_app (goodIn_of _ (by decide +kernel)) ggL_law_X3_through
set_option maxRecDepth 20000 in
theorem ggL_law_X4_through : GoodIn wsL_law wsX4_through := goodIn_r _ [237, 59, 32, 33, 207, 208, 209, 5, 210, 31, 211, 212, 213, 214, 178, 90, 91, 92, 369, 370, 371, 372, 373, 374, 375, 376, 377, 378, 379, 380, 381, 382] (by decide +kernel) (by decide +kernel)
set_option maxRecDepth 20000 in
theorem gL_law_X4_through : GoodIn wsL_law (wsV RL 62 RX4 yX4_through wsX4_through) := goodIn_app (goodIn_of _ (by decide +kernel)) ggL_law_X4_through
set_option maxRecDepth 20000 in
theorem ggL_law_X3_text : GoodIn wsL_law wsX3_text := goodIn_r _ [241, 23, 18, 17, 242, 243, 244, 245, 246, 11, 12, 19, 247, 248, 361, 362, 363, 364, 365, 366, 367, 368, 395, 396] (by decide +kernel) (by decide +kernel)
set_option maxRecDepth 20000 in
theorem gL_law_X3_text : GoodIn wsL_law (wsV RL 63 RX3 yX3_text wsX3_text) := goodIn_app (goodIn_of _ (by decide +kernel)) ggL_law_X3_text
set_option maxRecDepth 20000 in
theorem ggL_law_X4_text : GoodIn wsL_law wsX4_text := goodIn_r _ [252, 59, 253, 369, 370, 371, 372, 373, 374, 375, 376, 377, 378, 379, 380, 381, 382] (by decide +kernel) (by decide +kernel)
set_option maxRecDepth 20000 in
theorem gL_law_X4_text : GoodIn wsL_law (wsV RL 66 RX4 yX4_text wsX4_text) := goodIn_app (goodIn_of _ (by decide +kernel)) ggL_law_X4_text
set_option maxRecDepth 20000 in
theorem ggL_law_X3_sign : GoodIn wsL_law wsX3_sign := goodIn_r _ [257, 258, 259, 260, 261, 262, 2, 263, 18, 70, 71, 72, 395, 396, 361, 362, 363, 364, 365, 366, 367, 368] (by decide +kernel) (by decide +kernel)
set_option maxRecDepth 20000 in
theorem gL_law_X3_sign : GoodIn wsL_law (wsV RL 67 RX3 yX3_sign wsX3_sign) := goodIn_app (goodIn_of _ (by decide +kernel)) ggL_law_X3_sign
set_option maxRecDepth 20000 in
theorem ggL_law_X4_sign : GoodIn wsL_law wsX4_sign := goodIn_r _ [267, 59, 35, 34, 268, 269, 270, 5, 271, 253, 90, 91, 92, 369, 370, 371, 372, 373, 374, 375, 376, 377, 378, 379, 380, 381, 382] (by decide +kernel) (by decide +kernel)
set_option maxRecDepth 20000 in
theorem gL_law_X4_sign : GoodIn wsL_law (wsV RL 70 RX4 yX4_sign wsX4_sign) := goodIn_app (goodIn_of _ (by decide +kernel)) ggL_law_X4_sign
set_option maxRecDepth 20000 in
theorem ggL_law_X3_whole : GoodIn wsL_law wsX3_whole := goodIn_r _ [275, 258, 259, 120, 260, 261, 262, 2, 263, 18, 66, 67, 68, 69, 14, 129, 130, 131, 132, 65, 24, 20, 77, 78, 79, 42, 80, 50, 395, 396, 383, 384, 361, 362, 363, 364, 365, 366, 367, 368] (by decide +kernel) (by decide +kernel)
set_option maxRecDepth 20000 in
theorem gL_law_X3_whole : GoodIn wsL_law (wsV RL 71 RX3 yX3_whole wsX3_whole) := goodIn_app (goodIn_of _ (by decide +kernel)) ggL_law_X3_whole
set_option maxRecDepth 20000 in
theorem ggL_law_X4_whole : GoodIn wsL_law wsX4_whole := goodIn_r _ [279, 59, 142, 35, 34, 268, 269, 270, 5, 271, 253, 86, 87, 88, 89, 60, 137, 138, 139, 140, 29, 141, 36, 30, 93, 94, 95, 96, 369, 370, 371, 372, 373, 374, 375, 376, 377, 378, 379, 380, 381, 382] (by decide +kernel) (by decide +kernel)
set_option maxRecDepth 20000 in
theorem gL_law_X4_whole : GoodIn wsL_law (wsV RL 74 RX4 yX4_whole wsX4_whole) := goodIn_app (goodIn_of _ (by decide +kernel)) ggL_law_X4_whole
set_option maxRecDepth 20000 in
theorem ggL_law_X3_at : GoodIn wsL_law wsX3_at := goodIn_r _ [283, 258, 259, 260, 261, 262, 2, 263, 18, 395, 396, 361, 362, 363, 364, 365, 366, 367, 368] (by decide +kernel) (by decide +kernel)
set_option maxRecDepth 20000 in
theorem gL_law_X3_at : GoodIn wsL_law (wsV RL 75 RX3 yX3_at wsX3_at) := goodIn_app (goodIn_of _ (by decide +kernel)) ggL_law_X3_at
set_option maxRecDepth 20000 in
theorem ggL_law_X4_at : GoodIn wsL_law wsX4_at := goodIn_r _ [287, 59, 35, 34, 268, 269, 270, 5, 271, 253, 369, 370, 371, 372, 373, 374, 375, 376, 377, 378, 379, 380, 381, 382] (by decide +kernel) (by decide +kernel)
set_option maxRecDepth 20000 in
theorem gL_law_X4_at : GoodIn wsL_law (wsV RL 78 RX4 yX4_at wsX4_at) := goodIn_app (goodIn_of _ (by decide +kernel)) ggL_law_X4_at
set_option maxRecDepth 20000 in
theorem ggL_law_X3_compare : GoodIn wsL_law wsX3_compare := goodIn_r _ [291, 258, 292, 231, 221, 232, 293, 188, 189, 190, 2, 191, 16, 260, 261, 262, 263, 18, 294, 295, 296, 243, 297, 248, 247, 395, 396, 391, 392, 393, 394, 361, 362, 363, 364, 365, 366, 367, 368] (by decide +kernel) (by decide +kernel)
set_option maxRecDepth 20000 in
theorem gL_law_X3_compare : GoodIn wsL_law (wsV RL 79 RX3 yX3_compare wsX3_compare) := goodIn_app (goodIn_of _ (by decide +kernel)) ggL_law_X3_compare
set_option maxRecDepth 20000 in
theorem ggL_law_X4_compare : GoodIn wsL_law wsX4_compare := goodIn_r _ [301, 59, 211, 212, 213, 5, 214, 178, 268, 269, 270, 271, 253, 302, 303, 304, 305, 35, 34, 306, 307, 308, 309, 32, 31, 33, 369, 370, 371, 372, 373, 374, 375, 376, 377, 378, 379, 380, 381, 382] (by decide +kernel) (by decide +kernel)
set_option maxRecDepth 20000 in
theorem gL_law_X4_compare : GoodIn wsL_law (wsV RL 82 RX4 yX4_compare wsX4_compare) := goodIn_app (goodIn_of _ (by decide +kernel)) ggL_law_X4_compare
set_option maxRecDepth 20000 in
theorem ggL_law_X3_cls : GoodIn wsL_law wsX3_cls := goodIn_r _ [313, 314, 315, 2, 316, 317, 318, 319] (by decide +kernel) (by decide +kernel)
set_option maxRecDepth 20000 in
theorem gL_law_X3_cls : GoodIn wsL_law (wsV RL 83 RX3 yX3_cls wsX3_cls) := goodIn_app (goodIn_of _ (by decide +kernel)) ggL_law_X3_cls
set_option maxRecDepth 20000 in
theorem ggL_law_X4_cls : GoodIn wsL_law wsX4_cls := goodIn_r _ [323, 59, 369, 370, 371, 372, 373, 374, 375, 376, 377, 378, 379, 380, 381, 382] (by decide +kernel) (by decide +kernel)
set_option maxRecDepth 20000 in
theorem gL_law_X4_cls : GoodIn wsL_law (wsV RL 87 RX4 yX4_cls wsX4_cls) := goodIn_app (goodIn_of _ (by decide +kernel)) ggL_law_X4_cls
set_option maxRecDepth 20000 in
theorem ggL_law_X3_print : GoodIn wsL_law wsX3_print := goodIn_r _ [327, 70, 71, 2, 72, 328, 329, 330, 331, 332, 333] (by decide +kernel) (by decide +kernel)
set_option maxRecDepth 20000 in
theorem gL_law_X3_print : GoodIn wsL_law (wsV RL 88 RX3 yX3_print wsX3_print) := goodIn_app (goodIn_of _ (by decide +kernel)) ggL_law_X3_print
set_option maxRecDepth 20000 in
theorem ggL_law_X4_print : GoodIn wsL_law wsX4_print := goodIn_r _ [337, 59, 90, 91, 5, 92, 338, 339, 340, 369, 370, 371, 372, 373, 374, 375, 376, 377, 378, 379, 380, 381, 382] (by decide +kernel) (by decide +kernel)
set_option maxRecDepth 20000 in
theorem gL_law_X4_print : GoodIn wsL_law (wsV RL 92 RX4 yX4_print wsX4_print) := goodIn_app (goodIn_of _ (by decide +kernel)) ggL_law_X4_print
set_option maxRecDepth 20000 in
theorem ggL_law_X3_high : GoodIn wsL_law wsX3_high := goodIn_r _ [344, 188, 189, 190, 2, 191, 16, 345, 346, 347, 156, 348, 161, 361, 362, 363, 364, 365, 366, 367, 368, 391, 392, 393, 394] (by decide +kernel) (by decide +kernel)
set_option maxRecDepth 20000 in
theorem gL_law_X3_high : GoodIn wsL_law (wsV RL 93 RX3 yX3_high wsX3_high) := goodIn_app (goodIn_of _ (by decide +kernel)) ggL_law_X3_high
set_option maxRecDepth 20000 in
theorem ggL_law_X4_high : GoodIn wsL_law wsX4_high := goodIn_r _ [352, 59, 211, 212, 213, 5, 214, 178, 306, 307, 308, 309, 32, 31, 33, 369, 370, 371, 372, 373, 374, 375, 376, 377, 378, 379, 380, 381, 382] (by decide +kernel) (by decide +kernel)
set_option maxRecDepth 20000 in
theorem gL_law_X4_high : GoodIn wsL_law (wsV RL 96 RX4 yX4_high wsX4_high) := goodIn_app (goodIn_of _ (by decide +kernel)) ggL_law_X4_high
set_option maxRecDepth 20000 in
theorem ggL_law_X3_rank : GoodIn wsL_law wsX3_rank := goodIn_r _ [356, 293, 188, 189, 190, 2, 191, 16, 70, 71, 72, 391, 392, 393, 394, 361, 362, 363, 364, 365, 366, 367, 368] (by decide +kernel) (by decide +kernel)
set_option maxRecDepth 20000 in
theorem gL_law_X3_rank : GoodIn wsL_law (wsV RL 97 RX3 yX3_rank wsX3_rank) := goodIn_app (goodIn_of _ (by decide +kernel)) ggL_law_X3_rank
set_option maxRecDepth 20000 in
theorem ggL_law_X4_rank : GoodIn wsL_law wsX4_rank := goodIn_r _ [360, 59, 211, 212, 213, 5, 214, 178, 90, 91, 92, 306, 307, 308, 309, 32, 31, 33, 369, 370, 371, 372, 373, 374, 375, 376, 377, 378, 379, 380, 381, 382] (by decide +kernel) (by decide +kernel)
set_option maxRecDepth 20000 in
theorem gL_law_X4_rank : GoodIn wsL_law (wsV RL 100 RX4 yX4_rank wsX4_rank) := goodIn_app (goodIn_of _ (by decide +kernel)) ggL_law_X4_rank
theorem dL_law_0 : decode cL_law 0 = .ok (.new 8, 3) := by decide +kernel
theorem dL_law_3 : decode cL_law 3 = .ok (.dup, 1) := by decide +kernel
theorem dL_law_4 : decode cL_law 4 = .ok (.invokespecial 15, 3) := by decide +kernel
theorem dL_law_7 : decode cL_law 7 = .ok (.astore_n 1, 1) := by decide +kernel
theorem dL_law_8 : decode cL_law 8 = .ok (.new 16, 3) := by decide +kernel
theorem dL_law_11 : decode cL_law 11 = .ok (.dup, 1) := by decide +kernel
theorem dL_law_12 : decode cL_law 12 = .ok (.invokespecial 18, 3) := by decide +kernel
theorem dL_law_15 : decode cL_law 15 = .ok (.astore_n 2, 1) := by decide +kernel
theorem dL_law_16 : decode cL_law 16 = .ok (.iconst 1, 1) := by decide +kernel
theorem dL_law_17 : decode cL_law 17 = .ok (.newarray .long, 2) := by decide +kernel
theorem dL_law_19 : decode cL_law 19 = .ok (.astore_n 3, 1) := by decide +kernel
theorem dL_law_20 : decode cL_law 20 = .ok (.iconst 0, 1) := by decide +kernel
theorem dL_law_21 : decode cL_law 21 = .ok (.istore 4, 2) := by decide +kernel
theorem dL_law_23 : decode cL_law 23 = .ok (.iload 4, 2) := by decide +kernel
theorem dL_law_25 : decode cL_law 25 = .ok (.aload_n 0, 1) := by decide +kernel
theorem dL_law_26 : decode cL_law 26 = .ok (.arraylength, 1) := by decide +kernel
theorem dL_law_27 : decode cL_law 27 = .ok (.iconst 4, 1) := by decide +kernel
theorem dL_law_28 : decode cL_law 28 = .ok (.isub, 1) := by decide +kernel
theorem dL_law_29 : decode cL_law 29 = .ok (.if_icmp .gt 798, 3) := by decide +kernel
theorem dL_law_32 : decode cL_law 32 = .ok (.aload_n 0, 1) := by decide +kernel
theorem dL_law_33 : decode cL_law 33 = .ok (.iload 4, 2) := by decide +kernel
theorem dL_law_35 : decode cL_law 35 = .ok (.iaload, 1) := by decide +kernel
theorem dL_law_36 : decode cL_law 36 = .ok (.bipush 31, 2) := by decide +kernel
theorem dL_law_38 : decode cL_law 38 = .ok (.iand, 1) := by decide +kernel
theorem dL_law_39 : decode cL_law 39 = .ok (.tableswitch 782 0 17 #[85, 110, 159, 227, 264, 313, 338, 363, 412, 461, 474, 511, 560, 597, 646, 683, 720, 745], 85) := by decide +kernel
theorem dL_law_124 : decode cL_law 124 = .ok (.aload_n 1, 1) := by decide +kernel
theorem dL_law_125 : decode cL_law 125 = .ok (.aload_n 0, 1) := by decide +kernel
theorem dL_law_126 : decode cL_law 126 = .ok (.iload 4, 2) := by decide +kernel
theorem dL_law_128 : decode cL_law 128 = .ok (.iconst 1, 1) := by decide +kernel
theorem dL_law_129 : decode cL_law 129 = .ok (.iadd, 1) := by decide +kernel
theorem dL_law_130 : decode cL_law 130 = .ok (.iaload, 1) := by decide +kernel
theorem dL_law_131 : decode cL_law 131 = .ok (.invokevirtual 19, 3) := by decide +kernel
theorem dL_law_134 : decode cL_law 134 = .ok (.aload_n 2, 1) := by decide +kernel
theorem dL_law_135 : decode cL_law 135 = .ok (.aload_n 0, 1) := by decide +kernel
theorem dL_law_136 : decode cL_law 136 = .ok (.iload 4, 2) := by decide +kernel
theorem dL_law_138 : decode cL_law 138 = .ok (.iconst 1, 1) := by decide +kernel
theorem dL_law_139 : decode cL_law 139 = .ok (.iadd, 1) := by decide +kernel
theorem dL_law_140 : decode cL_law 140 = .ok (.iaload, 1) := by decide +kernel
theorem dL_law_141 : decode cL_law 141 = .ok (.invokevirtual 23, 3) := by decide +kernel
theorem dL_law_144 : decode cL_law 144 = .ok (.if_icmp .eq 677, 3) := by decide +kernel
theorem dL_law_147 : decode cL_law 147 = .ok (.iconst 0, 1) := by decide +kernel
theorem dL_law_148 : decode cL_law 148 = .ok (.ireturn, 1) := by decide +kernel
theorem dL_law_149 : decode cL_law 149 = .ok (.aload_n 1, 1) := by decide +kernel
theorem dL_law_150 : decode cL_law 150 = .ok (.aload_n 0, 1) := by decide +kernel
theorem dL_law_151 : decode cL_law 151 = .ok (.iload 4, 2) := by decide +kernel
theorem dL_law_153 : decode cL_law 153 = .ok (.iconst 1, 1) := by decide +kernel
theorem dL_law_154 : decode cL_law 154 = .ok (.iadd, 1) := by decide +kernel
theorem dL_law_155 : decode cL_law 155 = .ok (.iaload, 1) := by decide +kernel
theorem dL_law_156 : decode cL_law 156 = .ok (.aload_n 0, 1) := by decide +kernel
theorem dL_law_157 : decode cL_law 157 = .ok (.iload 4, 2) := by decide +kernel
theorem dL_law_159 : decode cL_law 159 = .ok (.iconst 2, 1) := by decide +kernel
theorem dL_law_160 : decode cL_law 160 = .ok (.iadd, 1) := by decide +kernel
theorem dL_law_161 : decode cL_law 161 = .ok (.iaload, 1) := by decide +kernel
theorem dL_law_162 : decode cL_law 162 = .ok (.aload_n 0, 1) := by decide +kernel
theorem dL_law_163 : decode cL_law 163 = .ok (.iload 4, 2) := by decide +kernel
theorem dL_law_165 : decode cL_law 165 = .ok (.iconst 3, 1) := by decide +kernel
theorem dL_law_166 : decode cL_law 166 = .ok (.iadd, 1) := by decide +kernel
theorem dL_law_167 : decode cL_law 167 = .ok (.iaload, 1) := by decide +kernel
theorem dL_law_168 : decode cL_law 168 = .ok (.invokevirtual 24, 3) := by decide +kernel
theorem dL_law_171 : decode cL_law 171 = .ok (.aload_n 2, 1) := by decide +kernel
theorem dL_law_172 : decode cL_law 172 = .ok (.aload_n 0, 1) := by decide +kernel
theorem dL_law_173 : decode cL_law 173 = .ok (.iload 4, 2) := by decide +kernel
theorem dL_law_175 : decode cL_law 175 = .ok (.iconst 1, 1) := by decide +kernel
theorem dL_law_176 : decode cL_law 176 = .ok (.iadd, 1) := by decide +kernel
theorem dL_law_177 : decode cL_law 177 = .ok (.iaload, 1) := by decide +kernel
theorem dL_law_178 : decode cL_law 178 = .ok (.aload_n 0, 1) := by decide +kernel
theorem dL_law_179 : decode cL_law 179 = .ok (.iload 4, 2) := by decide +kernel
theorem dL_law_181 : decode cL_law 181 = .ok (.iconst 2, 1) := by decide +kernel
theorem dL_law_182 : decode cL_law 182 = .ok (.iadd, 1) := by decide +kernel
theorem dL_law_183 : decode cL_law 183 = .ok (.iaload, 1) := by decide +kernel
theorem dL_law_184 : decode cL_law 184 = .ok (.aload_n 0, 1) := by decide +kernel
theorem dL_law_185 : decode cL_law 185 = .ok (.iload 4, 2) := by decide +kernel
theorem dL_law_187 : decode cL_law 187 = .ok (.iconst 3, 1) := by decide +kernel
theorem dL_law_188 : decode cL_law 188 = .ok (.iadd, 1) := by decide +kernel
theorem dL_law_189 : decode cL_law 189 = .ok (.iaload, 1) := by decide +kernel
theorem dL_law_190 : decode cL_law 190 = .ok (.invokevirtual 28, 3) := by decide +kernel
theorem dL_law_193 : decode cL_law 193 = .ok (.if_icmp .eq 628, 3) := by decide +kernel
theorem dL_law_196 : decode cL_law 196 = .ok (.iconst 0, 1) := by decide +kernel
theorem dL_law_197 : decode cL_law 197 = .ok (.ireturn, 1) := by decide +kernel
theorem dL_law_198 : decode cL_law 198 = .ok (.aload_n 1, 1) := by decide +kernel
theorem dL_law_199 : decode cL_law 199 = .ok (.aload_n 0, 1) := by decide +kernel
theorem dL_law_200 : decode cL_law 200 = .ok (.iload 4, 2) := by decide +kernel
theorem dL_law_202 : decode cL_law 202 = .ok (.iconst 1, 1) := by decide +kernel
theorem dL_law_203 : decode cL_law 203 = .ok (.iadd, 1) := by decide +kernel
theorem dL_law_204 : decode cL_law 204 = .ok (.iaload, 1) := by decide +kernel
theorem dL_law_205 : decode cL_law 205 = .ok (.aload_n 0, 1) := by decide +kernel
theorem dL_law_206 : decode cL_law 206 = .ok (.iload 4, 2) := by decide +kernel
theorem dL_law_208 : decode cL_law 208 = .ok (.iconst 2, 1) := by decide +kernel
theorem dL_law_209 : decode cL_law 209 = .ok (.iadd, 1) := by decide +kernel
theorem dL_law_210 : decode cL_law 210 = .ok (.iaload, 1) := by decide +kernel
theorem dL_law_211 : decode cL_law 211 = .ok (.aload_n 3, 1) := by decide +kernel
theorem dL_law_212 : decode cL_law 212 = .ok (.invokestatic 29, 3) := by decide +kernel
theorem dL_law_215 : decode cL_law 215 = .ok (.istore 5, 2) := by decide +kernel
theorem dL_law_217 : decode cL_law 217 = .ok (.aload_n 2, 1) := by decide +kernel
theorem dL_law_218 : decode cL_law 218 = .ok (.aload_n 0, 1) := by decide +kernel
theorem dL_law_219 : decode cL_law 219 = .ok (.iload 4, 2) := by decide +kernel
theorem dL_law_221 : decode cL_law 221 = .ok (.iconst 1, 1) := by decide +kernel
theorem dL_law_222 : decode cL_law 222 = .ok (.iadd, 1) := by decide +kernel
theorem dL_law_223 : decode cL_law 223 = .ok (.iaload, 1) := by decide +kernel
theorem dL_law_224 : decode cL_law 224 = .ok (.aload_n 0, 1) := by decide +kernel
theorem dL_law_225 : decode cL_law 225 = .ok (.iload 4, 2) := by decide +kernel
theorem dL_law_227 : decode cL_law 227 = .ok (.iconst 2, 1) := by decide +kernel
theorem dL_law_228 : decode cL_law 228 = .ok (.iadd, 1) := by decide +kernel
theorem dL_law_229 : decode cL_law 229 = .ok (.iaload, 1) := by decide +kernel
theorem dL_law_230 : decode cL_law 230 = .ok (.invokevirtual 34, 3) := by decide +kernel
theorem dL_law_233 : decode cL_law 233 = .ok (.istore 6, 2) := by decide +kernel
theorem dL_law_235 : decode cL_law 235 = .ok (.aload_n 2, 1) := by decide +kernel
theorem dL_law_236 : decode cL_law 236 = .ok (.invokevirtual 35, 3) := by decide +kernel
theorem dL_law_239 : decode cL_law 239 = .ok (.iload 5, 2) := by decide +kernel
theorem dL_law_241 : decode cL_law 241 = .ok (.if_icmp .eq 5, 3) := by decide +kernel
theorem dL_law_244 : decode cL_law 244 = .ok (.iconst 0, 1) := by decide +kernel
theorem dL_law_245 : decode cL_law 245 = .ok (.ireturn, 1) := by decide +kernel
theorem dL_law_246 : decode cL_law 246 = .ok (.iload 5, 2) := by decide +kernel
theorem dL_law_248 : decode cL_law 248 = .ok (.ifCond .ne 15, 3) := by decide +kernel
theorem dL_law_251 : decode cL_law 251 = .ok (.aload_n 3, 1) := by decide +kernel
theorem dL_law_252 : decode cL_law 252 = .ok (.iconst 0, 1) := by decide +kernel
theorem dL_law_253 : decode cL_law 253 = .ok (.laload, 1) := by decide +kernel
theorem dL_law_254 : decode cL_law 254 = .ok (.iload 6, 2) := by decide +kernel
theorem dL_law_256 : decode cL_law 256 = .ok (.i2l, 1) := by decide +kernel
theorem dL_law_257 : decode cL_law 257 = .ok (.lcmp, 1) := by decide +kernel
theorem dL_law_258 : decode cL_law 258 = .ok (.ifCond .eq 5, 3) := by decide +kernel
theorem dL_law_261 : decode cL_law 261 = .ok (.iconst 0, 1) := by decide +kernel
theorem dL_law_262 : decode cL_law 262 = .ok (.ireturn, 1) := by decide +kernel
theorem dL_law_263 : decode cL_law 263 = .ok (.goto 558, 3) := by decide +kernel
theorem dL_law_266 : decode cL_law 266 = .ok (.aload_n 1, 1) := by decide +kernel
theorem dL_law_267 : decode cL_law 267 = .ok (.aload_n 0, 1) := by decide +kernel
theorem dL_law_268 : decode cL_law 268 = .ok (.iload 4, 2) := by decide +kernel
theorem dL_law_270 : decode cL_law 270 = .ok (.iconst 1, 1) := by decide +kernel
theorem dL_law_271 : decode cL_law 271 = .ok (.iadd, 1) := by decide +kernel
theorem dL_law_272 : decode cL_law 272 = .ok (.iaload, 1) := by decide +kernel
theorem dL_law_273 : decode cL_law 273 = .ok (.aload_n 0, 1) := by decide +kernel
theorem dL_law_274 : decode cL_law 274 = .ok (.iload 4, 2) := by decide +kernel
theorem dL_law_276 : decode cL_law 276 = .ok (.iconst 2, 1) := by decide +kernel
theorem dL_law_277 : decode cL_law 277 = .ok (.iadd, 1) := by decide +kernel
theorem dL_law_278 : decode cL_law 278 = .ok (.iaload, 1) := by decide +kernel
theorem dL_law_279 : decode cL_law 279 = .ok (.invokevirtual 39, 3) := by decide +kernel
theorem dL_law_282 : decode cL_law 282 = .ok (.aload_n 2, 1) := by decide +kernel
theorem dL_law_283 : decode cL_law 283 = .ok (.aload_n 0, 1) := by decide +kernel
theorem dL_law_284 : decode cL_law 284 = .ok (.iload 4, 2) := by decide +kernel
theorem dL_law_286 : decode cL_law 286 = .ok (.iconst 1, 1) := by decide +kernel
theorem dL_law_287 : decode cL_law 287 = .ok (.iadd, 1) := by decide +kernel
theorem dL_law_288 : decode cL_law 288 = .ok (.iaload, 1) := by decide +kernel
theorem dL_law_289 : decode cL_law 289 = .ok (.aload_n 0, 1) := by decide +kernel
theorem dL_law_290 : decode cL_law 290 = .ok (.iload 4, 2) := by decide +kernel
theorem dL_law_292 : decode cL_law 292 = .ok (.iconst 2, 1) := by decide +kernel
theorem dL_law_293 : decode cL_law 293 = .ok (.iadd, 1) := by decide +kernel
theorem dL_law_294 : decode cL_law 294 = .ok (.iaload, 1) := by decide +kernel
theorem dL_law_295 : decode cL_law 295 = .ok (.invokevirtual 42, 3) := by decide +kernel
theorem dL_law_298 : decode cL_law 298 = .ok (.if_icmp .eq 523, 3) := by decide +kernel
theorem dL_law_301 : decode cL_law 301 = .ok (.iconst 0, 1) := by decide +kernel
theorem dL_law_302 : decode cL_law 302 = .ok (.ireturn, 1) := by decide +kernel
theorem dL_law_303 : decode cL_law 303 = .ok (.aload_n 1, 1) := by decide +kernel
theorem dL_law_304 : decode cL_law 304 = .ok (.aload_n 0, 1) := by decide +kernel
theorem dL_law_305 : decode cL_law 305 = .ok (.iload 4, 2) := by decide +kernel
theorem dL_law_307 : decode cL_law 307 = .ok (.iconst 1, 1) := by decide +kernel
theorem dL_law_308 : decode cL_law 308 = .ok (.iadd, 1) := by decide +kernel
theorem dL_law_309 : decode cL_law 309 = .ok (.iaload, 1) := by decide +kernel
theorem dL_law_310 : decode cL_law 310 = .ok (.aload_n 0, 1) := by decide +kernel
theorem dL_law_311 : decode cL_law 311 = .ok (.iload 4, 2) := by decide +kernel
theorem dL_law_313 : decode cL_law 313 = .ok (.iconst 2, 1) := by decide +kernel
theorem dL_law_314 : decode cL_law 314 = .ok (.iadd, 1) := by decide +kernel
theorem dL_law_315 : decode cL_law 315 = .ok (.iaload, 1) := by decide +kernel
theorem dL_law_316 : decode cL_law 316 = .ok (.aload_n 0, 1) := by decide +kernel
theorem dL_law_317 : decode cL_law 317 = .ok (.iload 4, 2) := by decide +kernel
theorem dL_law_319 : decode cL_law 319 = .ok (.iconst 3, 1) := by decide +kernel
theorem dL_law_320 : decode cL_law 320 = .ok (.iadd, 1) := by decide +kernel
theorem dL_law_321 : decode cL_law 321 = .ok (.iaload, 1) := by decide +kernel
theorem dL_law_322 : decode cL_law 322 = .ok (.invokevirtual 43, 3) := by decide +kernel
theorem dL_law_325 : decode cL_law 325 = .ok (.aload_n 2, 1) := by decide +kernel
theorem dL_law_326 : decode cL_law 326 = .ok (.aload_n 0, 1) := by decide +kernel
theorem dL_law_327 : decode cL_law 327 = .ok (.iload 4, 2) := by decide +kernel
theorem dL_law_329 : decode cL_law 329 = .ok (.iconst 1, 1) := by decide +kernel
theorem dL_law_330 : decode cL_law 330 = .ok (.iadd, 1) := by decide +kernel
theorem dL_law_331 : decode cL_law 331 = .ok (.iaload, 1) := by decide +kernel
theorem dL_law_332 : decode cL_law 332 = .ok (.aload_n 0, 1) := by decide +kernel
theorem dL_law_333 : decode cL_law 333 = .ok (.iload 4, 2) := by decide +kernel
theorem dL_law_335 : decode cL_law 335 = .ok (.iconst 2, 1) := by decide +kernel
theorem dL_law_336 : decode cL_law 336 = .ok (.iadd, 1) := by decide +kernel
theorem dL_law_337 : decode cL_law 337 = .ok (.iaload, 1) := by decide +kernel
theorem dL_law_338 : decode cL_law 338 = .ok (.aload_n 0, 1) := by decide +kernel
theorem dL_law_339 : decode cL_law 339 = .ok (.iload 4, 2) := by decide +kernel
theorem dL_law_341 : decode cL_law 341 = .ok (.iconst 3, 1) := by decide +kernel
theorem dL_law_342 : decode cL_law 342 = .ok (.iadd, 1) := by decide +kernel
theorem dL_law_343 : decode cL_law 343 = .ok (.iaload, 1) := by decide +kernel
theorem dL_law_344 : decode cL_law 344 = .ok (.invokevirtual 46, 3) := by decide +kernel
theorem dL_law_347 : decode cL_law 347 = .ok (.if_icmp .eq 474, 3) := by decide +kernel
theorem dL_law_350 : decode cL_law 350 = .ok (.iconst 0, 1) := by decide +kernel
theorem dL_law_351 : decode cL_law 351 = .ok (.ireturn, 1) := by decide +kernel
theorem dL_law_352 : decode cL_law 352 = .ok (.aload_n 1, 1) := by decide +kernel
theorem dL_law_353 : decode cL_law 353 = .ok (.aload_n 0, 1) := by decide +kernel
theorem dL_law_354 : decode cL_law 354 = .ok (.iload 4, 2) := by decide +kernel
theorem dL_law_356 : decode cL_law 356 = .ok (.iconst 1, 1) := by decide +kernel
theorem dL_law_357 : decode cL_law 357 = .ok (.iadd, 1) := by decide +kernel
theorem dL_law_358 : decode cL_law 358 = .ok (.iaload, 1) := by decide +kernel
theorem dL_law_359 : decode cL_law 359 = .ok (.invokevirtual 47, 3) := by decide +kernel
theorem dL_law_362 : decode cL_law 362 = .ok (.aload_n 2, 1) := by decide +kernel
theorem dL_law_363 : decode cL_law 363 = .ok (.aload_n 0, 1) := by decide +kernel
theorem dL_law_364 : decode cL_law 364 = .ok (.iload 4, 2) := by decide +kernel
theorem dL_law_366 : decode cL_law 366 = .ok (.iconst 1, 1) := by decide +kernel
theorem dL_law_367 : decode cL_law 367 = .ok (.iadd, 1) := by decide +kernel
theorem dL_law_368 : decode cL_law 368 = .ok (.iaload, 1) := by decide +kernel
theorem dL_law_369 : decode cL_law 369 = .ok (.invokevirtual 50, 3) := by decide +kernel
theorem dL_law_372 : decode cL_law 372 = .ok (.if_icmp .eq 449, 3) := by decide +kernel
theorem dL_law_375 : decode cL_law 375 = .ok (.iconst 0, 1) := by decide +kernel
theorem dL_law_376 : decode cL_law 376 = .ok (.ireturn, 1) := by decide +kernel
theorem dL_law_377 : decode cL_law 377 = .ok (.aload_n 1, 1) := by decide +kernel
theorem dL_law_378 : decode cL_law 378 = .ok (.aload_n 0, 1) := by decide +kernel
theorem dL_law_379 : decode cL_law 379 = .ok (.iload 4, 2) := by decide +kernel
theorem dL_law_381 : decode cL_law 381 = .ok (.iconst 1, 1) := by decide +kernel
theorem dL_law_382 : decode cL_law 382 = .ok (.iadd, 1) := by decide +kernel
theorem dL_law_383 : decode cL_law 383 = .ok (.iaload, 1) := by decide +kernel
theorem dL_law_384 : decode cL_law 384 = .ok (.invokevirtual 51, 3) := by decide +kernel
theorem dL_law_387 : decode cL_law 387 = .ok (.aload_n 2, 1) := by decide +kernel
theorem dL_law_388 : decode cL_law 388 = .ok (.aload_n 0, 1) := by decide +kernel
theorem dL_law_389 : decode cL_law 389 = .ok (.iload 4, 2) := by decide +kernel
theorem dL_law_391 : decode cL_law 391 = .ok (.iconst 1, 1) := by decide +kernel
theorem dL_law_392 : decode cL_law 392 = .ok (.iadd, 1) := by decide +kernel
theorem dL_law_393 : decode cL_law 393 = .ok (.iaload, 1) := by decide +kernel
theorem dL_law_394 : decode cL_law 394 = .ok (.invokevirtual 54, 3) := by decide +kernel
theorem dL_law_397 : decode cL_law 397 = .ok (.if_icmp .eq 424, 3) := by decide +kernel
theorem dL_law_400 : decode cL_law 400 = .ok (.iconst 0, 1) := by decide +kernel
theorem dL_law_401 : decode cL_law 401 = .ok (.ireturn, 1) := by decide +kernel
theorem dL_law_402 : decode cL_law 402 = .ok (.aload_n 1, 1) := by decide +kernel
theorem dL_law_403 : decode cL_law 403 = .ok (.aload_n 0, 1) := by decide +kernel
theorem dL_law_404 : decode cL_law 404 = .ok (.iload 4, 2) := by decide +kernel
theorem dL_law_406 : decode cL_law 406 = .ok (.iconst 1, 1) := by decide +kernel
theorem dL_law_407 : decode cL_law 407 = .ok (.iadd, 1) := by decide +kernel
theorem dL_law_408 : decode cL_law 408 = .ok (.iaload, 1) := by decide +kernel
theorem dL_law_409 : decode cL_law 409 = .ok (.aload_n 0, 1) := by decide +kernel
theorem dL_law_410 : decode cL_law 410 = .ok (.iload 4, 2) := by decide +kernel
theorem dL_law_412 : decode cL_law 412 = .ok (.iconst 2, 1) := by decide +kernel
theorem dL_law_413 : decode cL_law 413 = .ok (.iadd, 1) := by decide +kernel
theorem dL_law_414 : decode cL_law 414 = .ok (.iaload, 1) := by decide +kernel
theorem dL_law_415 : decode cL_law 415 = .ok (.aload_n 0, 1) := by decide +kernel
theorem dL_law_416 : decode cL_law 416 = .ok (.iload 4, 2) := by decide +kernel
theorem dL_law_418 : decode cL_law 418 = .ok (.iconst 3, 1) := by decide +kernel
theorem dL_law_419 : decode cL_law 419 = .ok (.iadd, 1) := by decide +kernel
theorem dL_law_420 : decode cL_law 420 = .ok (.iaload, 1) := by decide +kernel
theorem dL_law_421 : decode cL_law 421 = .ok (.invokevirtual 55, 3) := by decide +kernel
theorem dL_law_424 : decode cL_law 424 = .ok (.aload_n 2, 1) := by decide +kernel
theorem dL_law_425 : decode cL_law 425 = .ok (.aload_n 0, 1) := by decide +kernel
theorem dL_law_426 : decode cL_law 426 = .ok (.iload 4, 2) := by decide +kernel
theorem dL_law_428 : decode cL_law 428 = .ok (.iconst 1, 1) := by decide +kernel
theorem dL_law_429 : decode cL_law 429 = .ok (.iadd, 1) := by decide +kernel
theorem dL_law_430 : decode cL_law 430 = .ok (.iaload, 1) := by decide +kernel
theorem dL_law_431 : decode cL_law 431 = .ok (.aload_n 0, 1) := by decide +kernel
theorem dL_law_432 : decode cL_law 432 = .ok (.iload 4, 2) := by decide +kernel
theorem dL_law_434 : decode cL_law 434 = .ok (.iconst 2, 1) := by decide +kernel
theorem dL_law_435 : decode cL_law 435 = .ok (.iadd, 1) := by decide +kernel
theorem dL_law_436 : decode cL_law 436 = .ok (.iaload, 1) := by decide +kernel
theorem dL_law_437 : decode cL_law 437 = .ok (.aload_n 0, 1) := by decide +kernel
theorem dL_law_438 : decode cL_law 438 = .ok (.iload 4, 2) := by decide +kernel
theorem dL_law_440 : decode cL_law 440 = .ok (.iconst 3, 1) := by decide +kernel
theorem dL_law_441 : decode cL_law 441 = .ok (.iadd, 1) := by decide +kernel
theorem dL_law_442 : decode cL_law 442 = .ok (.iaload, 1) := by decide +kernel
theorem dL_law_443 : decode cL_law 443 = .ok (.invokevirtual 58, 3) := by decide +kernel
theorem dL_law_446 : decode cL_law 446 = .ok (.if_icmp .eq 375, 3) := by decide +kernel
theorem dL_law_449 : decode cL_law 449 = .ok (.iconst 0, 1) := by decide +kernel
theorem dL_law_450 : decode cL_law 450 = .ok (.ireturn, 1) := by decide +kernel
theorem dL_law_451 : decode cL_law 451 = .ok (.aload_n 1, 1) := by decide +kernel
theorem dL_law_452 : decode cL_law 452 = .ok (.aload_n 0, 1) := by decide +kernel
theorem dL_law_453 : decode cL_law 453 = .ok (.iload 4, 2) := by decide +kernel
theorem dL_law_455 : decode cL_law 455 = .ok (.iconst 1, 1) := by decide +kernel
theorem dL_law_456 : decode cL_law 456 = .ok (.iadd, 1) := by decide +kernel
theorem dL_law_457 : decode cL_law 457 = .ok (.iaload, 1) := by decide +kernel
theorem dL_law_458 : decode cL_law 458 = .ok (.aload_n 0, 1) := by decide +kernel
theorem dL_law_459 : decode cL_law 459 = .ok (.iload 4, 2) := by decide +kernel
theorem dL_law_461 : decode cL_law 461 = .ok (.iconst 2, 1) := by decide +kernel
theorem dL_law_462 : decode cL_law 462 = .ok (.iadd, 1) := by decide +kernel
theorem dL_law_463 : decode cL_law 463 = .ok (.iaload, 1) := by decide +kernel
theorem dL_law_464 : decode cL_law 464 = .ok (.aload_n 0, 1) := by decide +kernel
theorem dL_law_465 : decode cL_law 465 = .ok (.iload 4, 2) := by decide +kernel
theorem dL_law_467 : decode cL_law 467 = .ok (.iconst 3, 1) := by decide +kernel
theorem dL_law_468 : decode cL_law 468 = .ok (.iadd, 1) := by decide +kernel
theorem dL_law_469 : decode cL_law 469 = .ok (.iaload, 1) := by decide +kernel
theorem dL_law_470 : decode cL_law 470 = .ok (.invokevirtual 59, 3) := by decide +kernel
theorem dL_law_473 : decode cL_law 473 = .ok (.aload_n 2, 1) := by decide +kernel
theorem dL_law_474 : decode cL_law 474 = .ok (.aload_n 0, 1) := by decide +kernel
theorem dL_law_475 : decode cL_law 475 = .ok (.iload 4, 2) := by decide +kernel
theorem dL_law_477 : decode cL_law 477 = .ok (.iconst 1, 1) := by decide +kernel
theorem dL_law_478 : decode cL_law 478 = .ok (.iadd, 1) := by decide +kernel
theorem dL_law_479 : decode cL_law 479 = .ok (.iaload, 1) := by decide +kernel
theorem dL_law_480 : decode cL_law 480 = .ok (.aload_n 0, 1) := by decide +kernel
theorem dL_law_481 : decode cL_law 481 = .ok (.iload 4, 2) := by decide +kernel
theorem dL_law_483 : decode cL_law 483 = .ok (.iconst 2, 1) := by decide +kernel
theorem dL_law_484 : decode cL_law 484 = .ok (.iadd, 1) := by decide +kernel
theorem dL_law_485 : decode cL_law 485 = .ok (.iaload, 1) := by decide +kernel
theorem dL_law_486 : decode cL_law 486 = .ok (.aload_n 0, 1) := by decide +kernel
theorem dL_law_487 : decode cL_law 487 = .ok (.iload 4, 2) := by decide +kernel
theorem dL_law_489 : decode cL_law 489 = .ok (.iconst 3, 1) := by decide +kernel
theorem dL_law_490 : decode cL_law 490 = .ok (.iadd, 1) := by decide +kernel
theorem dL_law_491 : decode cL_law 491 = .ok (.iaload, 1) := by decide +kernel
theorem dL_law_492 : decode cL_law 492 = .ok (.invokevirtual 62, 3) := by decide +kernel
theorem dL_law_495 : decode cL_law 495 = .ok (.if_icmp .eq 326, 3) := by decide +kernel
theorem dL_law_498 : decode cL_law 498 = .ok (.iconst 0, 1) := by decide +kernel
theorem dL_law_499 : decode cL_law 499 = .ok (.ireturn, 1) := by decide +kernel
theorem dL_law_500 : decode cL_law 500 = .ok (.aload_n 1, 1) := by decide +kernel
theorem dL_law_501 : decode cL_law 501 = .ok (.invokevirtual 63, 3) := by decide +kernel
theorem dL_law_504 : decode cL_law 504 = .ok (.aload_n 2, 1) := by decide +kernel
theorem dL_law_505 : decode cL_law 505 = .ok (.invokevirtual 66, 3) := by decide +kernel
theorem dL_law_508 : decode cL_law 508 = .ok (.if_icmp .eq 313, 3) := by decide +kernel
theorem dL_law_511 : decode cL_law 511 = .ok (.iconst 0, 1) := by decide +kernel
theorem dL_law_512 : decode cL_law 512 = .ok (.ireturn, 1) := by decide +kernel
theorem dL_law_513 : decode cL_law 513 = .ok (.aload_n 1, 1) := by decide +kernel
theorem dL_law_514 : decode cL_law 514 = .ok (.aload_n 0, 1) := by decide +kernel
theorem dL_law_515 : decode cL_law 515 = .ok (.iload 4, 2) := by decide +kernel
theorem dL_law_517 : decode cL_law 517 = .ok (.iconst 1, 1) := by decide +kernel
theorem dL_law_518 : decode cL_law 518 = .ok (.iadd, 1) := by decide +kernel
theorem dL_law_519 : decode cL_law 519 = .ok (.iaload, 1) := by decide +kernel
theorem dL_law_520 : decode cL_law 520 = .ok (.aload_n 0, 1) := by decide +kernel
theorem dL_law_521 : decode cL_law 521 = .ok (.iload 4, 2) := by decide +kernel
theorem dL_law_523 : decode cL_law 523 = .ok (.iconst 2, 1) := by decide +kernel
theorem dL_law_524 : decode cL_law 524 = .ok (.iadd, 1) := by decide +kernel
theorem dL_law_525 : decode cL_law 525 = .ok (.iaload, 1) := by decide +kernel
theorem dL_law_526 : decode cL_law 526 = .ok (.invokevirtual 67, 3) := by decide +kernel
theorem dL_law_529 : decode cL_law 529 = .ok (.aload_n 2, 1) := by decide +kernel
theorem dL_law_530 : decode cL_law 530 = .ok (.aload_n 0, 1) := by decide +kernel
theorem dL_law_531 : decode cL_law 531 = .ok (.iload 4, 2) := by decide +kernel
theorem dL_law_533 : decode cL_law 533 = .ok (.iconst 1, 1) := by decide +kernel
theorem dL_law_534 : decode cL_law 534 = .ok (.iadd, 1) := by decide +kernel
theorem dL_law_535 : decode cL_law 535 = .ok (.iaload, 1) := by decide +kernel
theorem dL_law_536 : decode cL_law 536 = .ok (.aload_n 0, 1) := by decide +kernel
theorem dL_law_537 : decode cL_law 537 = .ok (.iload 4, 2) := by decide +kernel
theorem dL_law_539 : decode cL_law 539 = .ok (.iconst 2, 1) := by decide +kernel
theorem dL_law_540 : decode cL_law 540 = .ok (.iadd, 1) := by decide +kernel
theorem dL_law_541 : decode cL_law 541 = .ok (.iaload, 1) := by decide +kernel
theorem dL_law_542 : decode cL_law 542 = .ok (.invokevirtual 70, 3) := by decide +kernel
theorem dL_law_545 : decode cL_law 545 = .ok (.if_icmp .eq 276, 3) := by decide +kernel
theorem dL_law_548 : decode cL_law 548 = .ok (.iconst 0, 1) := by decide +kernel
theorem dL_law_549 : decode cL_law 549 = .ok (.ireturn, 1) := by decide +kernel
theorem dL_law_550 : decode cL_law 550 = .ok (.aload_n 1, 1) := by decide +kernel
theorem dL_law_551 : decode cL_law 551 = .ok (.aload_n 0, 1) := by decide +kernel
theorem dL_law_552 : decode cL_law 552 = .ok (.iload 4, 2) := by decide +kernel
theorem dL_law_554 : decode cL_law 554 = .ok (.iconst 1, 1) := by decide +kernel
theorem dL_law_555 : decode cL_law 555 = .ok (.iadd, 1) := by decide +kernel
theorem dL_law_556 : decode cL_law 556 = .ok (.iaload, 1) := by decide +kernel
theorem dL_law_557 : decode cL_law 557 = .ok (.aload_n 0, 1) := by decide +kernel
theorem dL_law_558 : decode cL_law 558 = .ok (.iload 4, 2) := by decide +kernel
theorem dL_law_560 : decode cL_law 560 = .ok (.iconst 2, 1) := by decide +kernel
theorem dL_law_561 : decode cL_law 561 = .ok (.iadd, 1) := by decide +kernel
theorem dL_law_562 : decode cL_law 562 = .ok (.iaload, 1) := by decide +kernel
theorem dL_law_563 : decode cL_law 563 = .ok (.aload_n 0, 1) := by decide +kernel
theorem dL_law_564 : decode cL_law 564 = .ok (.iload 4, 2) := by decide +kernel
theorem dL_law_566 : decode cL_law 566 = .ok (.iconst 3, 1) := by decide +kernel
theorem dL_law_567 : decode cL_law 567 = .ok (.iadd, 1) := by decide +kernel
theorem dL_law_568 : decode cL_law 568 = .ok (.iaload, 1) := by decide +kernel
theorem dL_law_569 : decode cL_law 569 = .ok (.invokevirtual 71, 3) := by decide +kernel
theorem dL_law_572 : decode cL_law 572 = .ok (.aload_n 2, 1) := by decide +kernel
theorem dL_law_573 : decode cL_law 573 = .ok (.aload_n 0, 1) := by decide +kernel
theorem dL_law_574 : decode cL_law 574 = .ok (.iload 4, 2) := by decide +kernel
theorem dL_law_576 : decode cL_law 576 = .ok (.iconst 1, 1) := by decide +kernel
theorem dL_law_577 : decode cL_law 577 = .ok (.iadd, 1) := by decide +kernel
theorem dL_law_578 : decode cL_law 578 = .ok (.iaload, 1) := by decide +kernel
theorem dL_law_579 : decode cL_law 579 = .ok (.aload_n 0, 1) := by decide +kernel
theorem dL_law_580 : decode cL_law 580 = .ok (.iload 4, 2) := by decide +kernel
theorem dL_law_582 : decode cL_law 582 = .ok (.iconst 2, 1) := by decide +kernel
theorem dL_law_583 : decode cL_law 583 = .ok (.iadd, 1) := by decide +kernel
theorem dL_law_584 : decode cL_law 584 = .ok (.iaload, 1) := by decide +kernel
theorem dL_law_585 : decode cL_law 585 = .ok (.aload_n 0, 1) := by decide +kernel
theorem dL_law_586 : decode cL_law 586 = .ok (.iload 4, 2) := by decide +kernel
theorem dL_law_588 : decode cL_law 588 = .ok (.iconst 3, 1) := by decide +kernel
theorem dL_law_589 : decode cL_law 589 = .ok (.iadd, 1) := by decide +kernel
theorem dL_law_590 : decode cL_law 590 = .ok (.iaload, 1) := by decide +kernel
theorem dL_law_591 : decode cL_law 591 = .ok (.invokevirtual 74, 3) := by decide +kernel
theorem dL_law_594 : decode cL_law 594 = .ok (.if_icmp .eq 227, 3) := by decide +kernel
theorem dL_law_597 : decode cL_law 597 = .ok (.iconst 0, 1) := by decide +kernel
theorem dL_law_598 : decode cL_law 598 = .ok (.ireturn, 1) := by decide +kernel
theorem dL_law_599 : decode cL_law 599 = .ok (.aload_n 1, 1) := by decide +kernel
theorem dL_law_600 : decode cL_law 600 = .ok (.aload_n 0, 1) := by decide +kernel
theorem dL_law_601 : decode cL_law 601 = .ok (.iload 4, 2) := by decide +kernel
theorem dL_law_603 : decode cL_law 603 = .ok (.iconst 1, 1) := by decide +kernel
theorem dL_law_604 : decode cL_law 604 = .ok (.iadd, 1) := by decide +kernel
theorem dL_law_605 : decode cL_law 605 = .ok (.iaload, 1) := by decide +kernel
theorem dL_law_606 : decode cL_law 606 = .ok (.aload_n 0, 1) := by decide +kernel
theorem dL_law_607 : decode cL_law 607 = .ok (.iload 4, 2) := by decide +kernel
theorem dL_law_609 : decode cL_law 609 = .ok (.iconst 2, 1) := by decide +kernel
theorem dL_law_610 : decode cL_law 610 = .ok (.iadd, 1) := by decide +kernel
theorem dL_law_611 : decode cL_law 611 = .ok (.iaload, 1) := by decide +kernel
theorem dL_law_612 : decode cL_law 612 = .ok (.invokevirtual 75, 3) := by decide +kernel
theorem dL_law_615 : decode cL_law 615 = .ok (.aload_n 2, 1) := by decide +kernel
theorem dL_law_616 : decode cL_law 616 = .ok (.aload_n 0, 1) := by decide +kernel
theorem dL_law_617 : decode cL_law 617 = .ok (.iload 4, 2) := by decide +kernel
theorem dL_law_619 : decode cL_law 619 = .ok (.iconst 1, 1) := by decide +kernel
theorem dL_law_620 : decode cL_law 620 = .ok (.iadd, 1) := by decide +kernel
theorem dL_law_621 : decode cL_law 621 = .ok (.iaload, 1) := by decide +kernel
theorem dL_law_622 : decode cL_law 622 = .ok (.aload_n 0, 1) := by decide +kernel
theorem dL_law_623 : decode cL_law 623 = .ok (.iload 4, 2) := by decide +kernel
theorem dL_law_625 : decode cL_law 625 = .ok (.iconst 2, 1) := by decide +kernel
theorem dL_law_626 : decode cL_law 626 = .ok (.iadd, 1) := by decide +kernel
theorem dL_law_627 : decode cL_law 627 = .ok (.iaload, 1) := by decide +kernel
theorem dL_law_628 : decode cL_law 628 = .ok (.invokevirtual 78, 3) := by decide +kernel
theorem dL_law_631 : decode cL_law 631 = .ok (.if_icmp .eq 190, 3) := by decide +kernel
theorem dL_law_634 : decode cL_law 634 = .ok (.iconst 0, 1) := by decide +kernel
theorem dL_law_635 : decode cL_law 635 = .ok (.ireturn, 1) := by decide +kernel
theorem dL_law_636 : decode cL_law 636 = .ok (.aload_n 1, 1) := by decide +kernel
theorem dL_law_637 : decode cL_law 637 = .ok (.aload_n 0, 1) := by decide +kernel
theorem dL_law_638 : decode cL_law 638 = .ok (.iload 4, 2) := by decide +kernel
theorem dL_law_640 : decode cL_law 640 = .ok (.iconst 1, 1) := by decide +kernel
theorem dL_law_641 : decode cL_law 641 = .ok (.iadd, 1) := by decide +kernel
theorem dL_law_642 : decode cL_law 642 = .ok (.iaload, 1) := by decide +kernel
theorem dL_law_643 : decode cL_law 643 = .ok (.aload_n 0, 1) := by decide +kernel
theorem dL_law_644 : decode cL_law 644 = .ok (.iload 4, 2) := by decide +kernel
theorem dL_law_646 : decode cL_law 646 = .ok (.iconst 2, 1) := by decide +kernel
theorem dL_law_647 : decode cL_law 647 = .ok (.iadd, 1) := by decide +kernel
theorem dL_law_648 : decode cL_law 648 = .ok (.iaload, 1) := by decide +kernel
theorem dL_law_649 : decode cL_law 649 = .ok (.aload_n 0, 1) := by decide +kernel
theorem dL_law_650 : decode cL_law 650 = .ok (.iload 4, 2) := by decide +kernel
theorem dL_law_652 : decode cL_law 652 = .ok (.iconst 3, 1) := by decide +kernel
theorem dL_law_653 : decode cL_law 653 = .ok (.iadd, 1) := by decide +kernel
theorem dL_law_654 : decode cL_law 654 = .ok (.iaload, 1) := by decide +kernel
theorem dL_law_655 : decode cL_law 655 = .ok (.invokevirtual 79, 3) := by decide +kernel
theorem dL_law_658 : decode cL_law 658 = .ok (.aload_n 2, 1) := by decide +kernel
theorem dL_law_659 : decode cL_law 659 = .ok (.aload_n 0, 1) := by decide +kernel
theorem dL_law_660 : decode cL_law 660 = .ok (.iload 4, 2) := by decide +kernel
theorem dL_law_662 : decode cL_law 662 = .ok (.iconst 1, 1) := by decide +kernel
theorem dL_law_663 : decode cL_law 663 = .ok (.iadd, 1) := by decide +kernel
theorem dL_law_664 : decode cL_law 664 = .ok (.iaload, 1) := by decide +kernel
theorem dL_law_665 : decode cL_law 665 = .ok (.aload_n 0, 1) := by decide +kernel
theorem dL_law_666 : decode cL_law 666 = .ok (.iload 4, 2) := by decide +kernel
theorem dL_law_668 : decode cL_law 668 = .ok (.iconst 2, 1) := by decide +kernel
theorem dL_law_669 : decode cL_law 669 = .ok (.iadd, 1) := by decide +kernel
theorem dL_law_670 : decode cL_law 670 = .ok (.iaload, 1) := by decide +kernel
theorem dL_law_671 : decode cL_law 671 = .ok (.aload_n 0, 1) := by decide +kernel
theorem dL_law_672 : decode cL_law 672 = .ok (.iload 4, 2) := by decide +kernel
theorem dL_law_674 : decode cL_law 674 = .ok (.iconst 3, 1) := by decide +kernel
theorem dL_law_675 : decode cL_law 675 = .ok (.iadd, 1) := by decide +kernel
theorem dL_law_676 : decode cL_law 676 = .ok (.iaload, 1) := by decide +kernel
theorem dL_law_677 : decode cL_law 677 = .ok (.invokevirtual 82, 3) := by decide +kernel
theorem dL_law_680 : decode cL_law 680 = .ok (.if_icmp .eq 141, 3) := by decide +kernel
theorem dL_law_683 : decode cL_law 683 = .ok (.iconst 0, 1) := by decide +kernel
theorem dL_law_684 : decode cL_law 684 = .ok (.ireturn, 1) := by decide +kernel
theorem dL_law_685 : decode cL_law 685 = .ok (.aload_n 1, 1) := by decide +kernel
theorem dL_law_686 : decode cL_law 686 = .ok (.aload_n 0, 1) := by decide +kernel
theorem dL_law_687 : decode cL_law 687 = .ok (.iload 4, 2) := by decide +kernel
theorem dL_law_689 : decode cL_law 689 = .ok (.iconst 1, 1) := by decide +kernel
theorem dL_law_690 : decode cL_law 690 = .ok (.iadd, 1) := by decide +kernel
theorem dL_law_691 : decode cL_law 691 = .ok (.iaload, 1) := by decide +kernel
theorem dL_law_692 : decode cL_law 692 = .ok (.aload_n 0, 1) := by decide +kernel
theorem dL_law_693 : decode cL_law 693 = .ok (.iload 4, 2) := by decide +kernel
theorem dL_law_695 : decode cL_law 695 = .ok (.iconst 2, 1) := by decide +kernel
theorem dL_law_696 : decode cL_law 696 = .ok (.iadd, 1) := by decide +kernel
theorem dL_law_697 : decode cL_law 697 = .ok (.iaload, 1) := by decide +kernel
theorem dL_law_698 : decode cL_law 698 = .ok (.invokevirtual 83, 3) := by decide +kernel
theorem dL_law_701 : decode cL_law 701 = .ok (.aload_n 2, 1) := by decide +kernel
theorem dL_law_702 : decode cL_law 702 = .ok (.aload_n 0, 1) := by decide +kernel
theorem dL_law_703 : decode cL_law 703 = .ok (.iload 4, 2) := by decide +kernel
theorem dL_law_705 : decode cL_law 705 = .ok (.iconst 1, 1) := by decide +kernel
theorem dL_law_706 : decode cL_law 706 = .ok (.iadd, 1) := by decide +kernel
theorem dL_law_707 : decode cL_law 707 = .ok (.iaload, 1) := by decide +kernel
theorem dL_law_708 : decode cL_law 708 = .ok (.aload_n 0, 1) := by decide +kernel
theorem dL_law_709 : decode cL_law 709 = .ok (.iload 4, 2) := by decide +kernel
theorem dL_law_711 : decode cL_law 711 = .ok (.iconst 2, 1) := by decide +kernel
theorem dL_law_712 : decode cL_law 712 = .ok (.iadd, 1) := by decide +kernel
theorem dL_law_713 : decode cL_law 713 = .ok (.iaload, 1) := by decide +kernel
theorem dL_law_714 : decode cL_law 714 = .ok (.invokevirtual 87, 3) := by decide +kernel
theorem dL_law_717 : decode cL_law 717 = .ok (.if_icmp .eq 104, 3) := by decide +kernel
theorem dL_law_720 : decode cL_law 720 = .ok (.iconst 0, 1) := by decide +kernel
theorem dL_law_721 : decode cL_law 721 = .ok (.ireturn, 1) := by decide +kernel
theorem dL_law_722 : decode cL_law 722 = .ok (.aload_n 1, 1) := by decide +kernel
theorem dL_law_723 : decode cL_law 723 = .ok (.aload_n 0, 1) := by decide +kernel
theorem dL_law_724 : decode cL_law 724 = .ok (.iload 4, 2) := by decide +kernel
theorem dL_law_726 : decode cL_law 726 = .ok (.iconst 1, 1) := by decide +kernel
theorem dL_law_727 : decode cL_law 727 = .ok (.iadd, 1) := by decide +kernel
theorem dL_law_728 : decode cL_law 728 = .ok (.iaload, 1) := by decide +kernel
theorem dL_law_729 : decode cL_law 729 = .ok (.aload_n 0, 1) := by decide +kernel
theorem dL_law_730 : decode cL_law 730 = .ok (.iload 4, 2) := by decide +kernel
theorem dL_law_732 : decode cL_law 732 = .ok (.iconst 2, 1) := by decide +kernel
theorem dL_law_733 : decode cL_law 733 = .ok (.iadd, 1) := by decide +kernel
theorem dL_law_734 : decode cL_law 734 = .ok (.iaload, 1) := by decide +kernel
theorem dL_law_735 : decode cL_law 735 = .ok (.invokevirtual 88, 3) := by decide +kernel
theorem dL_law_738 : decode cL_law 738 = .ok (.aload_n 2, 1) := by decide +kernel
theorem dL_law_739 : decode cL_law 739 = .ok (.aload_n 0, 1) := by decide +kernel
theorem dL_law_740 : decode cL_law 740 = .ok (.iload 4, 2) := by decide +kernel
theorem dL_law_742 : decode cL_law 742 = .ok (.iconst 1, 1) := by decide +kernel
theorem dL_law_743 : decode cL_law 743 = .ok (.iadd, 1) := by decide +kernel
theorem dL_law_744 : decode cL_law 744 = .ok (.iaload, 1) := by decide +kernel
theorem dL_law_745 : decode cL_law 745 = .ok (.aload_n 0, 1) := by decide +kernel
theorem dL_law_746 : decode cL_law 746 = .ok (.iload 4, 2) := by decide +kernel
theorem dL_law_748 : decode cL_law 748 = .ok (.iconst 2, 1) := by decide +kernel
theorem dL_law_749 : decode cL_law 749 = .ok (.iadd, 1) := by decide +kernel
theorem dL_law_750 : decode cL_law 750 = .ok (.iaload, 1) := by decide +kernel
theorem dL_law_751 : decode cL_law 751 = .ok (.invokevirtual 92, 3) := by decide +kernel
theorem dL_law_754 : decode cL_law 754 = .ok (.if_icmp .eq 67, 3) := by decide +kernel
theorem dL_law_757 : decode cL_law 757 = .ok (.iconst 0, 1) := by decide +kernel
theorem dL_law_758 : decode cL_law 758 = .ok (.ireturn, 1) := by decide +kernel
theorem dL_law_759 : decode cL_law 759 = .ok (.aload_n 1, 1) := by decide +kernel
theorem dL_law_760 : decode cL_law 760 = .ok (.aload_n 0, 1) := by decide +kernel
theorem dL_law_761 : decode cL_law 761 = .ok (.iload 4, 2) := by decide +kernel
theorem dL_law_763 : decode cL_law 763 = .ok (.iconst 1, 1) := by decide +kernel
theorem dL_law_764 : decode cL_law 764 = .ok (.iadd, 1) := by decide +kernel
theorem dL_law_765 : decode cL_law 765 = .ok (.iaload, 1) := by decide +kernel
theorem dL_law_766 : decode cL_law 766 = .ok (.invokevirtual 93, 3) := by decide +kernel
theorem dL_law_769 : decode cL_law 769 = .ok (.aload_n 2, 1) := by decide +kernel
theorem dL_law_770 : decode cL_law 770 = .ok (.aload_n 0, 1) := by decide +kernel
theorem dL_law_771 : decode cL_law 771 = .ok (.iload 4, 2) := by decide +kernel
theorem dL_law_773 : decode cL_law 773 = .ok (.iconst 1, 1) := by decide +kernel
theorem dL_law_774 : decode cL_law 774 = .ok (.iadd, 1) := by decide +kernel
theorem dL_law_775 : decode cL_law 775 = .ok (.iaload, 1) := by decide +kernel
theorem dL_law_776 : decode cL_law 776 = .ok (.invokevirtual 96, 3) := by decide +kernel
theorem dL_law_779 : decode cL_law 779 = .ok (.if_icmp .eq 42, 3) := by decide +kernel
theorem dL_law_782 : decode cL_law 782 = .ok (.iconst 0, 1) := by decide +kernel
theorem dL_law_783 : decode cL_law 783 = .ok (.ireturn, 1) := by decide +kernel
theorem dL_law_784 : decode cL_law 784 = .ok (.aload_n 1, 1) := by decide +kernel
theorem dL_law_785 : decode cL_law 785 = .ok (.aload_n 0, 1) := by decide +kernel
theorem dL_law_786 : decode cL_law 786 = .ok (.iload 4, 2) := by decide +kernel
theorem dL_law_788 : decode cL_law 788 = .ok (.iconst 1, 1) := by decide +kernel
theorem dL_law_789 : decode cL_law 789 = .ok (.iadd, 1) := by decide +kernel
theorem dL_law_790 : decode cL_law 790 = .ok (.iaload, 1) := by decide +kernel
theorem dL_law_791 : decode cL_law 791 = .ok (.aload_n 0, 1) := by decide +kernel
theorem dL_law_792 : decode cL_law 792 = .ok (.iload 4, 2) := by decide +kernel
theorem dL_law_794 : decode cL_law 794 = .ok (.iconst 2, 1) := by decide +kernel
theorem dL_law_795 : decode cL_law 795 = .ok (.iadd, 1) := by decide +kernel
theorem dL_law_796 : decode cL_law 796 = .ok (.iaload, 1) := by decide +kernel
theorem dL_law_797 : decode cL_law 797 = .ok (.invokevirtual 97, 3) := by decide +kernel
theorem dL_law_800 : decode cL_law 800 = .ok (.aload_n 2, 1) := by decide +kernel
theorem dL_law_801 : decode cL_law 801 = .ok (.aload_n 0, 1) := by decide +kernel
theorem dL_law_802 : decode cL_law 802 = .ok (.iload 4, 2) := by decide +kernel
theorem dL_law_804 : decode cL_law 804 = .ok (.iconst 1, 1) := by decide +kernel
theorem dL_law_805 : decode cL_law 805 = .ok (.iadd, 1) := by decide +kernel
theorem dL_law_806 : decode cL_law 806 = .ok (.iaload, 1) := by decide +kernel
theorem dL_law_807 : decode cL_law 807 = .ok (.aload_n 0, 1) := by decide +kernel
theorem dL_law_808 : decode cL_law 808 = .ok (.iload 4, 2) := by decide +kernel
theorem dL_law_810 : decode cL_law 810 = .ok (.iconst 2, 1) := by decide +kernel
theorem dL_law_811 : decode cL_law 811 = .ok (.iadd, 1) := by decide +kernel
theorem dL_law_812 : decode cL_law 812 = .ok (.iaload, 1) := by decide +kernel
theorem dL_law_813 : decode cL_law 813 = .ok (.invokevirtual 100, 3) := by decide +kernel
theorem dL_law_816 : decode cL_law 816 = .ok (.if_icmp .eq 5, 3) := by decide +kernel
theorem dL_law_819 : decode cL_law 819 = .ok (.iconst 0, 1) := by decide +kernel
theorem dL_law_820 : decode cL_law 820 = .ok (.ireturn, 1) := by decide +kernel
theorem dL_law_821 : decode cL_law 821 = .ok (.iinc 4 4, 3) := by decide +kernel
theorem dL_law_824 : decode cL_law 824 = .ok (.goto (-801), 3) := by decide +kernel
theorem dL_law_827 : decode cL_law 827 = .ok (.iconst 1, 1) := by decide +kernel
theorem dL_law_828 : decode cL_law 828 = .ok (.ireturn, 1) := by decide +kernel
end
section
/-! WORLDS BY ADDRESS: a partial map M from addresses to what stands there; a change is a change of the map at one address; calls hand the map on. -/
abbrev mw : Type := Nat → Option va_E
def mw_P (D : va_G) (cl : List vw_C) (M : mw) (H : Heap) : Prop := ∀ (a : Nat) (e : va_E), M a = some e → va_at D cl (a, e) H
def mw_I (A : Nat → Prop) (M : mw) : Prop := ∀ (a : Nat) (e : va_E), M a = some e → A a
def mw_Q (A : Nat → Prop) (D : va_G) (cl : List vw_C) (M : mw) (H : Heap) : Prop := mw_P D cl M H ∧ mw_I A M
def mw_up (M : mw) (a : Nat) (e : va_E) : mw := fun x => if x = a then some e else M x
theorem mw_up_s {M : mw} {a : Nat} {e : va_E} : mw_up M a e a = some e := if_pos rfl
theorem mw_up_n {M : mw} {a x : Nat} {e : va_E} (h : x ≠ a) : mw_up M a e x = M x := if_neg h
theorem mw_up_up {M : mw} {a : Nat} {e e2 : va_E} : mw_up (mw_up M a e) a e2 = mw_up M a e2 := by
  funext x
  by_cases h : x = a
  · rw [h, mw_up_s, mw_up_s]
  · rw [mw_up_n h, mw_up_n h, mw_up_n h]
theorem mw_up_id {M : mw} {a : Nat} {e : va_E} (h : M a = some e) : mw_up M a e = M := by
  funext x
  by_cases hx : x = a
  · rw [hx, mw_up_s, h]
  · rw [mw_up_n hx]
theorem mw_ne {M : mw} {a b : Nat} {e : va_E} (ha : M a = none) (hb : M b = some e) : b ≠ a := fun h => by rw [h, ha] at hb; cases hb
/-- which cells a method may change: those of its map, and new ones -/
def mw_A (M : mw) (sz : Nat) : Nat → Prop := fun q => (∃ e, M q = some e) ∨ sz ≤ q
theorem mw_P.lt {D : va_G} {cl : List vw_C} {M : mw} {H : Heap} (h : mw_P D cl M H) {a : Nat} {e : va_E} (ha : M a = some e) : a < H.size := (h a e ha).lt
theorem mw_P.one {D : va_G} {cl : List vw_C} {M : mw} {H : Heap} (h : mw_P D cl M H) {a : Nat} {e : va_E} (ha : M a = some e) : va_P D cl [(a, e)] H := by
  intro k q hk
  cases k with
  | zero => cases hk; exact h a e ha
  | succ k => simp at hk
theorem mw_P.kept {D : va_G} {cl : List vw_C} {M : mw} {H H1 : Heap} (h : mw_P D cl M H) (hq : ∀ (a : Nat) (e : va_E), M a = some e → H1[a]? = H[a]?) : mw_P D cl M H1 := fun a e ha => (h a e ha).kept (hq a e ha)
theorem mw_Q.set {A : Nat → Prop} {D : va_G} {cl : List vw_C} {M : mw} {H H1 : Heap} {a : Nat} {e0 e : va_E} (h : mw_Q A D cl M H) (ha : M a = some e0) (he : va_at D cl (a, e) H1) (oq : ∀ q : Nat, q ≠ a → H1[q]? = H[q]?) : mw_Q A D cl (mw_up M a e) H1 := by
  refine ⟨fun x ex hx => ?_, fun x ex hx => ?_⟩
  · by_cases hxa : x = a
    · subst hxa
      rw [mw_up_s] at hx
      cases hx
      exact he
    · rw [mw_up_n hxa] at hx
      exact (h.1 x ex hx).kept (oq x hxa)
  · by_cases hxa : x = a
    · subst hxa
      exact h.2 x e0 ha
    · rw [mw_up_n hxa] at hx
      exact h.2 x ex hx
theorem mw_Q.push {A : Nat → Prop} {D : va_G} {cl : List vw_C} {M : mw} {H H1 : Heap} {e : va_E} (h : mw_Q A D cl M H) (hA : A H.size) (he : va_at D cl (H.size, e) H1) (oq : ∀ q : Nat, q < H.size → H1[q]? = H[q]?) : mw_Q A D cl (mw_up M H.size e) H1 := by
  refine ⟨fun x ex hx => ?_, fun x ex hx => ?_⟩
  · by_cases hxa : x = H.size
    · subst hxa
      rw [mw_up_s] at hx
      cases hx
      exact he
    · rw [mw_up_n hxa] at hx
      exact (h.1 x ex hx).kept (oq x (h.1.lt hx))
  · by_cases hxa : x = H.size
    · subst hxa
      exact hA
    · rw [mw_up_n hxa] at hx
      exact h.2 x ex hx
theorem mw_fresh {D : va_G} {cl : List vw_C} {M : mw} {H : Heap} (h : mw_P D cl M H) : M H.size = none := by
  cases hM : M H.size with
  | none => rfl
  | some e => exact absurd (h.lt hM) (Nat.lt_irrefl _)
theorem mw_A.le {A : Nat → Prop} {D : va_G} {cl : List vw_C} {M : mw} {H H0 : Heap} {locs : List Loc} (h : mw_Q A D cl M H) (hS : va_S A H0 H locs) (hA : ∀ q, H0.size ≤ q → A q) : ∀ q, mw_A M H.size q → A q := by
  intro q hq
  rcases hq with ⟨e, he⟩ | hq
  · exact h.2 q e he
  · exact hA q (Nat.le_trans hS.1 hq)
theorem mw_I.self {M : mw} {sz : Nat} : mw_I (mw_A M sz) M := fun _ e h => Or.inl ⟨e, h⟩
/-- what holds all through a method: the machine, the code, the words, its class, the tables -/
def mw_E (p : Program) (c : Code) (cc : ByteArray) (s : State) (args : Array Value) (Ts : List Cond) (own : String) (m : MethodId) (D : va_G) (cl : List vw_C) (tys : List (ClassId × FieldType)) : Prop :=
  p.tables.exec = Jvm.exec ∧ c.code = cc ∧ (∀ w ∈ Ts, w.before args s = true) ∧ s.vm.findClass own = some m.cls ∧ va_K D cl tys s
section MW
variable {p : Program} {l : Launch} {e : Env} {R : Room} {s : State} {m : MethodId} {args : Array Value} {below : List Frame} {meth : Method} {c : Code} {H : Heap} {locs : List Loc} {cells slots : Nat} {Q : State → Prop}
variable {cc : ByteArray} {pc : Nat} {ls : Array Slot} {rest : List Value} {D : va_G} {cl : List vw_C} {A : Nat → Prop} {a : Nat} {tys : List (ClassId × FieldType)} {M : mw} {H0 : Heap} {Ts : List Cond} {own : String}
theorem mw_get (hE : mw_E p c cc s args Ts own m D cl tys) {ref C : String} {T : u_T} {N ci index : Nat} (hin : ∀ w ∈ u_ws C T N, w ∈ Ts) (hP : mw_Q A D cl M H) {fs : List Value} (he : M a = some (.inr (ci, fs))) (hc : cl[ci]? = some (C, T, N)) (k : Nat) (hk : k < N) (hlink : (Cond.fieldLink own index ref (T k).2.1 (T k).2.2.1).before args s = true) (href : (T k).1 = ref) {v : Value} (hv : fs[k]? = some v) (hdg : decode cc pc = .ok (.getfield index, 3))
    (kk : W p l e R s m args below meth c H locs cells slots Q (F0 m (pc + 3) ls (v :: rest))) : W p l e R s m args below meth c H locs cells slots Q (F0 m pc ls (.ref a :: rest)) :=
  va_get hE.1 hE.2.1 hE.2.2.1 hin hE.2.2.2.1 hE.2.2.2.2 (hP.1.one he) 0 rfl hc k hk hlink (fun x h => by rw [← href]; exact h) hv hdg kk
theorem mw_put (hE : mw_E p c cc s args Ts own m D cl tys) {ref C : String} {T : u_T} {N ci index : Nat} (hin : ∀ w ∈ u_ws C T N, w ∈ Ts) (ty0 : Nat → FieldType) (hty : ∀ k, k < N → parseFieldDescriptor (T k).2.2.1 = some (ty0 k)) (hnm : ∀ a, a < N → ∀ b, b < N → a ≠ b → (T a).2.1 ≠ (T b).2.1) (hP : mw_Q A D cl M H) (hS0 : va_S A H0 H locs) {fs : List Value} (he : M a = some (.inr (ci, fs))) (hc : cl[ci]? = some (C, T, N)) (k : Nat) (hk : k < N) (hlink : (Cond.fieldLink own index ref (T k).2.1 (T k).2.2.1).before args s = true) (href : (T k).1 = ref) (hfin : (T k).2.2.2 = false) {ty : FieldType} {v : Value} (hd : parseFieldDescriptor (T k).2.2.1 = some ty) (hn : narrow ty v = v) (hfit : fits ty v = true) (hl : k < fs.length)
    (hdg : decode cc pc = .ok (.putfield index, 3)) (kk : ∀ (H1 : Heap) (locs1 : List Loc), mw_Q A D cl (mw_up M a (.inr (ci, fs.set k v))) H1 → va_S A H0 H1 locs1 → W p l e R s m args below meth c H1 locs1 cells slots Q (F0 m (pc + 3) ls rest)) : W p l e R s m args below meth c H locs cells slots Q (F0 m pc ls (v :: .ref a :: rest)) := by
  obtain ⟨hexec, hb, hts, hown, hK⟩ := hE
  have hap := va_apart (own := own) hts hin ty0 hty hnm hK hc
  obtain ⟨r, h1, cell, q1, q2, q3, q4⟩ := hP.1 a _ he
  have hr : r = (C, T, N) := Option.some.inj (h1.symm.trans hc)
  subst hr
  obtain ⟨hS, hfc, kC, hkC, hkind⟩ := hK.1 ci _ hc
  obtain ⟨cf, kf, fi, f, hi, hsl⟩ := hS k hk
  have hlay := hts _ (hin _ (u_in_lay hk))
  unfold u_lay at hlay
  rw [if_neg (by rw [hfin]; decide)] at hlay
  have hst := (u_facts hfc hkC (u_lays hts hin hk) hi).1
  have h6 := u_store hfc hkC hkind hlay hi hd hn hfit
  have hi2 := hi
  rw [href] at hi2
  refine W.putK hexec hb (f := f) ⟨hown, hlink, ⟨_, _, _, hi2⟩, hst⟩ (by rw [q2]; exact h6) q1 q3 (by rw [hsl]; exact k2_hasslot (q4 k hk)) rfl rfl hdg fun H' e1 e2 e3 => ?_
  rw [hsl] at e1 ⊢
  exact kk H' _ (hP.set he ⟨_, hc, t_OB.to (V := updV (vp_V fs) k v) ⟨_, e1, q2, q3, t_set q4 hap hk v⟩ (fun j _ => vp_updV_set hl v j)⟩ e3) (hS0.put e2 e3 (hP.2 a _ he))
theorem mw_putF (hE : mw_E p c cc s args Ts own m D cl tys) {ref C : String} {T : u_T} {N ci index : Nat} (hin : ∀ w ∈ u_ws C T N, w ∈ Ts) (ty0 : Nat → FieldType) (hty : ∀ k, k < N → parseFieldDescriptor (T k).2.2.1 = some (ty0 k)) (hnm : ∀ a, a < N → ∀ b, b < N → a ≠ b → (T a).2.1 ≠ (T b).2.1) (hP : mw_Q A D cl M H) (hS0 : va_S A H0 H locs) {fs : List Value} (he : M a = some (.inr (ci, fs))) (hc : cl[ci]? = some (C, T, N)) (k : Nat) (hk : k < N) (hlink : (Cond.fieldLink own index ref (T k).2.1 (T k).2.2.1).before args s = true) (href : (T k).1 = ref) (hfin : (T k).2.2.2 = true) (hin2 : meth.name = "<init>") (hdecl : (T k).1 = own) {ty : FieldType} {v : Value} (hd : parseFieldDescriptor (T k).2.2.1 = some ty) (hn : narrow ty v = v) (hfit : fits ty v = true) (hl : k < fs.length)
    (hdg : decode cc pc = .ok (.putfield index, 3)) (kk : ∀ (H1 : Heap) (locs1 : List Loc), mw_Q A D cl (mw_up M a (.inr (ci, fs.set k v))) H1 → va_S A H0 H1 locs1 → W p l e R s m args below meth c H1 locs1 cells slots Q (F0 m (pc + 3) ls rest)) : W p l e R s m args below meth c H locs cells slots Q (F0 m pc ls (v :: .ref a :: rest)) := by
  obtain ⟨hexec, hb, hts, hown, hK⟩ := hE
  have hap := va_apart (own := own) hts hin ty0 hty hnm hK hc
  obtain ⟨r, h1, cell, q1, q2, q3, q4⟩ := hP.1 a _ he
  have hr : r = (C, T, N) := Option.some.inj (h1.symm.trans hc)
  subst hr
  obtain ⟨hS, hfc, kC, hkC, hkind⟩ := hK.1 ci _ hc
  obtain ⟨cf, kf, fi, f, hi, hsl⟩ := hS k hk
  have hlay := hts _ (hin _ (u_in_lay hk))
  unfold u_lay at hlay
  rw [if_pos hfin] at hlay
  have hst := (u_facts hfc hkC (u_lays hts hin hk) hi).1
  have hcf : m.cls = cf := by
    obtain ⟨_, _, c', _, _, _, -, -, hf', -, -, -, hown2, -⟩ := Cond.laysFinal_spec hlay
    have e1 : c' = cf := by have := hi.symm.trans hf'; simp at this; exact this.1.symm
    rw [hdecl] at hown2
    rw [← e1]; exact Option.some.inj (hown.symm.trans hown2)
  have h6 := u_fits hfc hkC hkind (Or.inr hlay) hi hd hn hfit
  have hi2 := hi
  rw [href] at hi2
  refine W.putFinK hexec hb hown hlink hi2 hst hcf hin2 (by rw [q2]; exact h6) q1 q3 (by rw [hsl]; exact k2_hasslot (q4 k hk)) rfl rfl hdg fun H' e1 e2 e3 => ?_
  rw [hsl] at e1 ⊢
  exact kk H' _ (hP.set he ⟨_, hc, t_OB.to (V := updV (vp_V fs) k v) ⟨_, e1, q2, q3, t_set q4 hap hk v⟩ (fun j _ => vp_updV_set hl v j)⟩ e3) (hS0.put e2 e3 (hP.2 a _ he))
theorem mw_iald (hE : mw_E p c cc s args Ts own m D cl tys) (hP : mw_Q A D cl M H) (t0 : Nat) {cA : ClassId} {n : Nat} {f : Nat → Int32} (ha : M a = some (.inl (cA, n, .inl f))) (ht : tys[t0]? = some (cA, .int)) {i : Int32} (hin : vp_in i n) (hdg : decode cc pc = .ok (.iaload, 1))
    (kk : W p l e R s m args below meth c H locs cells slots Q (F0 m (pc + 1) ls (.int (f i.toNatClampNeg) :: rest))) : W p l e R s m args below meth c H locs cells slots Q (F0 m pc ls (.int i :: .ref a :: rest)) :=
  va_iald hE.1 hE.2.1 hE.2.2.2.2 (hP.1.one ha) 0 t0 rfl ht hin hdg kk
theorem mw_bald (hE : mw_E p c cc s args Ts own m D cl tys) (hP : mw_Q A D cl M H) (t0 : Nat) {cA : ClassId} {n : Nat} {f : Nat → Int32} (ha : M a = some (.inl (cA, n, .inl f))) (ht : tys[t0]? = some (cA, .byte)) {i : Int32} (hin : vp_in i n) (hdg : decode cc pc = .ok (.baload, 1))
    (kk : W p l e R s m args below meth c H locs cells slots Q (F0 m (pc + 1) ls (.int (f i.toNatClampNeg) :: rest))) : W p l e R s m args below meth c H locs cells slots Q (F0 m pc ls (.int i :: .ref a :: rest)) :=
  va_bald hE.1 hE.2.1 hE.2.2.2.2 (hP.1.one ha) 0 t0 rfl ht hin hdg kk
theorem mw_zald (hE : mw_E p c cc s args Ts own m D cl tys) (hP : mw_Q A D cl M H) (t0 : Nat) {cA : ClassId} {n : Nat} {f : Nat → Int32} (ha : M a = some (.inl (cA, n, .inl f))) (ht : tys[t0]? = some (cA, .boolean)) {i : Int32} (hin : vp_in i n) (hdg : decode cc pc = .ok (.baload, 1))
    (kk : W p l e R s m args below meth c H locs cells slots Q (F0 m (pc + 1) ls (.int (f i.toNatClampNeg) :: rest))) : W p l e R s m args below meth c H locs cells slots Q (F0 m pc ls (.int i :: .ref a :: rest)) :=
  va_zald hE.1 hE.2.1 hE.2.2.2.2 (hP.1.one ha) 0 t0 rfl ht hin hdg kk
theorem mw_aald (hE : mw_E p c cc s args Ts own m D cl tys) (hP : mw_Q A D cl M H) (t0 : Nat) {cA : ClassId} {C : String} {n : Nat} {f : Nat → Option Nat} (ha : M a = some (.inl (cA, n, .inr (.inr (.inr (.inr f)))))) (ht : tys[t0]? = some (cA, .object C)) {i : Int32} (hin : vp_in i n) (hdg : decode cc pc = .ok (.aaload, 1))
    (kk : W p l e R s m args below meth c H locs cells slots Q (F0 m (pc + 1) ls (va_rf (f i.toNatClampNeg) :: rest))) : W p l e R s m args below meth c H locs cells slots Q (F0 m pc ls (.int i :: .ref a :: rest)) :=
  va_aldq hE.1 hE.2.1 hE.2.2.2.2 (hP.1.one ha) 0 t0 rfl ht hin hdg kk
theorem mw_alen (hE : mw_E p c cc s args Ts own m D cl tys) (hP : mw_Q A D cl M H) (t0 : Nat) {cA : ClassId} {x : vp_A} (ha : M a = some (.inl (cA, x))) {ty : FieldType} (ht : tys[t0]? = some (cA, ty)) {v : Int32} (hv : Int32.ofNat x.1 = v) (hdg : decode cc pc = .ok (.arraylength, 1))
    (kk : W p l e R s m args below meth c H locs cells slots Q (F0 m (pc + 1) ls (.int v :: rest))) : W p l e R s m args below meth c H locs cells slots Q (F0 m pc ls (.ref a :: rest)) :=
  va_alen hE.1 hE.2.1 hE.2.2.2.2 (hP.1.one ha) 0 t0 rfl ht hv hdg kk
theorem mw_iast (hE : mw_E p c cc s args Ts own m D cl tys) (hP : mw_Q A D cl M H) (hS : va_S A H0 H locs) (t0 : Nat) {cA : ClassId} {n : Nat} {f : Nat → Int32} (ha : M a = some (.inl (cA, n, .inl f))) (ht : tys[t0]? = some (cA, .int)) {i : Int32} {x : Int32} (hin : vp_in i n) (hdg : decode cc pc = .ok (.iastore, 1))
    (kk : ∀ (H1 : Heap) (locs1 : List Loc), mw_Q A D cl (mw_up M a (.inl (cA, n, .inl (upd f i.toNatClampNeg x)))) H1 → va_S A H0 H1 locs1 → W p l e R s m args below meth c H1 locs1 cells slots Q (F0 m (pc + 1) ls rest)) : W p l e R s m args below meth c H locs cells slots Q (F0 m pc ls (.int x :: .int i :: .ref a :: rest)) := by
  obtain ⟨hexec, hb, -, -, hK⟩ := hE
  refine W.iast hexec hb (hP.1 a _ ha) ((hK.2 t0 _ ht).1 n (fun j => .int (f j))) (fun q => by cases q) (by show ¬ (i < 0 ∨ (arrV _ _ _).slots.size ≤ _); rw [arrV_size]; exact hin) rfl rfl hdg fun H1 e z oq => ?_
  refine kk H1 _ (hP.set ha ?_ oq) (hS.put z oq (hP.2 a _ ha))
  show H1[a]? = some (vp_cell _ _)
  rw [e, vp_cell_i, vp_cell_i, arrV_store]
  congr 2
  funext q
  by_cases hq : q = i.toNatClampNeg
  · subst hq
    simp [updV, upd]
    try rfl
  · simp [updV, upd, hq]
theorem mw_bast (hE : mw_E p c cc s args Ts own m D cl tys) (hP : mw_Q A D cl M H) (hS : va_S A H0 H locs) (t0 : Nat) {cA : ClassId} {n : Nat} {f : Nat → Int32} (ha : M a = some (.inl (cA, n, .inl f))) (ht : tys[t0]? = some (cA, .byte)) {i : Int32} {x : Int32} (hin : vp_in i n) (hdg : decode cc pc = .ok (.bastore, 1))
    (kk : ∀ (H1 : Heap) (locs1 : List Loc), mw_Q A D cl (mw_up M a (.inl (cA, n, .inl (upd f i.toNatClampNeg (vp_nar .byte x))))) H1 → va_S A H0 H1 locs1 → W p l e R s m args below meth c H1 locs1 cells slots Q (F0 m (pc + 1) ls rest)) : W p l e R s m args below meth c H locs cells slots Q (F0 m pc ls (.int x :: .int i :: .ref a :: rest)) := by
  obtain ⟨hexec, hb, -, -, hK⟩ := hE
  refine W.bast hexec hb (hP.1 a _ ha) ((hK.2 t0 _ ht).1 n (fun j => .int (f j))) (fun q => by cases q) (by show ¬ (i < 0 ∨ (arrV _ _ _).slots.size ≤ _); rw [arrV_size]; exact hin) rfl rfl hdg fun H1 e z oq => ?_
  refine kk H1 _ (hP.set ha ?_ oq) (hS.put z oq (hP.2 a _ ha))
  show H1[a]? = some (vp_cell _ _)
  rw [e, vp_cell_i, vp_cell_i, arrV_store]
  congr 2
  funext q
  by_cases hq : q = i.toNatClampNeg
  · subst hq
    simp [updV, upd, vp_nar]
    try rfl
  · simp [updV, upd, hq]
theorem mw_zast (hE : mw_E p c cc s args Ts own m D cl tys) (hP : mw_Q A D cl M H) (hS : va_S A H0 H locs) (t0 : Nat) {cA : ClassId} {n : Nat} {f : Nat → Int32} (ha : M a = some (.inl (cA, n, .inl f))) (ht : tys[t0]? = some (cA, .boolean)) {i : Int32} {x : Int32} (hin : vp_in i n) (hdg : decode cc pc = .ok (.bastore, 1))
    (kk : ∀ (H1 : Heap) (locs1 : List Loc), mw_Q A D cl (mw_up M a (.inl (cA, n, .inl (upd f i.toNatClampNeg (vp_nar .boolean x))))) H1 → va_S A H0 H1 locs1 → W p l e R s m args below meth c H1 locs1 cells slots Q (F0 m (pc + 1) ls rest)) : W p l e R s m args below meth c H locs cells slots Q (F0 m pc ls (.int x :: .int i :: .ref a :: rest)) := by
  obtain ⟨hexec, hb, -, -, hK⟩ := hE
  refine W.zast hexec hb (hP.1 a _ ha) ((hK.2 t0 _ ht).1 n (fun j => .int (f j))) (fun q => by cases q) (by show ¬ (i < 0 ∨ (arrV _ _ _).slots.size ≤ _); rw [arrV_size]; exact hin) rfl rfl hdg fun H1 e z oq => ?_
  refine kk H1 _ (hP.set ha ?_ oq) (hS.put z oq (hP.2 a _ ha))
  show H1[a]? = some (vp_cell _ _)
  rw [e, vp_cell_i, vp_cell_i, arrV_store]
  congr 2
  funext q
  by_cases hq : q = i.toNatClampNeg
  · subst hq
    simp [updV, upd, vp_nar]
    try rfl
  · simp [updV, upd, hq]
theorem mw_aast (hE : mw_E p c cc s args Ts own m D cl tys) (hP : mw_Q A D cl M H) (hS : va_S A H0 H locs) (t0 ci : Nat) {cA : ClassId} {r : vw_C} {n v : Nat} {vs : List Value} {f : Nat → Option Nat} (ha : M a = some (.inl (cA, n, .inr (.inr (.inr (.inr f)))))) (ht : tys[t0]? = some (cA, .object r.1)) (hv : M v = some (.inr (ci, vs))) (hc : cl[ci]? = some r) {i : Int32} (hin : vp_in i n) (hdg : decode cc pc = .ok (.aastore, 1))
    (kk : ∀ (H1 : Heap) (locs1 : List Loc), mw_Q A D cl (mw_up M a (.inl (cA, n, .inr (.inr (.inr (.inr (va_up f i.toNatClampNeg (some v)))))))) H1 → va_S A H0 H1 locs1 → W p l e R s m args below meth c H1 locs1 cells slots Q (F0 m (pc + 1) ls rest)) : W p l e R s m args below meth c H locs cells slots Q (F0 m pc ls (.ref v :: .int i :: .ref a :: rest)) := by
  obtain ⟨hexec, hb, -, -, hK⟩ := hE
  have hlt : i.toNatClampNeg < n := Nat.not_le.mp fun q => hin (Or.inr q)
  have h0 : ¬ i < 0 := fun q => hin (Or.inl q)
  obtain ⟨r', hr', cellV, g1, g2, g3, -⟩ := hP.1 v _ hv
  have hcls := (hK.1 ci r hc).2
  obtain ⟨kA, comp, k1, k2, k3, -⟩ := (hK.2 t0 _ ht).2
  have hcomp : comp = D.1 ci := Option.some.inj (k3.symm.trans hcls.1)
  subst hcomp
  obtain ⟨kC, hkC, -⟩ := hcls.2
  refine W.aast hexec hb (hP.1 a _ ha) (fun q h => by cases h) (fun h => by cases h) k1 k2 rfl hkC ⟨h0, by show _ < (arrV _ _ _).slots.size; rw [arrV_size]; exact hlt⟩ g1 (fun q h => by rw [g3] at h; cases h) (by rw [g2]; exact hkC) (by rw [g2]; exact va_assign hcls) rfl rfl hdg fun H1 e z oq => ?_
  refine kk H1 _ (hP.set ha ?_ oq) (hS.put z oq (hP.2 a _ ha))
  show H1[a]? = some (vp_cell _ _)
  rw [e, vp_cell_q, vp_cell_q, arrV_store]
  congr 2
  funext q
  by_cases hq : q = i.toNatClampNeg
  · subst hq
    simp [updV, va_up, va_rf]
  · simp [updV, va_up, hq]
/-- a new array of numbers: its class is the one that the tables' list has -/
theorem mw_newa (hE : mw_E p c cc s args Ts own m D cl tys) {atype : ArrayType} (harr : (Cond.arrayClass (newarray.typeOf atype)).before args s = true) {ty : FieldType} (hty : newarray.typeOf atype = ty) (hnm : ∀ (U : State) (cA : ClassId), va_RA U cA ty → U.vm.findClass ("[" ++ ty.toString) = some cA) (hP : mw_Q A D cl M H) (hS : va_S A H0 H locs) (hA : ∀ q, H0.size ≤ q → A q) (t0 : Nat) {cA : ClassId} (ht : tys[t0]? = some (cA, ty))
    {n : Int32} {N' : Nat} {a0 : vp_A} (ha : vp_cell cA a0 = arrV cA N' (fun _ => defaultValue ty)) (hn : ¬ n < 0) (hN : n.toNatClampNeg = N') (hbytes : N' * componentBytes ty ≤ 536870912) (hcells : cells + 1 ≤ R.cells) (hslots : slots + N' ≤ R.slots) (hdg : decode cc pc = .ok (.newarray atype, 2))
    (kk : ∀ (q : Nat) (H1 : Heap), M q = none → mw_Q A D cl (mw_up M q (.inl (cA, a0))) H1 → va_S A H0 H1 locs →
      W p l e R s m args below meth c H1 locs (cells + 1) (slots + N') Q (F0 m (pc + 2) ls (.ref q :: rest))) : W p l e R s m args below meth c H locs cells slots Q (F0 m pc ls (.int n :: rest)) := by
  obtain ⟨hexec, hb, -, -, hK⟩ := hE
  subst hty
  refine va_newaK hexec hb harr rfl hdg rfl hn hN hbytes hcells hslots rfl fun H1 cB e1 z1 o1 hAr hNm => ?_
  have hcc : cB = cA := Option.some.inj (hNm.symm.trans (hnm s cA (hK.2 t0 _ ht).2))
  subst hcc
  refine kk H.size H1 (mw_fresh hP.1) (hP.push (hA _ hS.1) ?_ o1) ⟨Nat.le_trans hS.1 (by omega), fun x h1 h2 => (o1 x (Nat.lt_of_lt_of_le h1 hS.1)).trans (hS.2.1 x h1 h2), hS.2.2⟩
  show H1[H.size]? = some (vp_cell _ _)
  rw [ha]
  exact e1
theorem mw_newq (hE : mw_E p c cc s args Ts own m D cl tys) {C : String} {index : Nat} (hclink : (Cond.classLink own index C).before args s = true) (hover : (Cond.arrayOver (.object C)).before args s = true) (hP : mw_Q A D cl M H) (hS : va_S A H0 H locs) (hA : ∀ q, H0.size ≤ q → A q) (t0 : Nat) {cA : ClassId} (ht : tys[t0]? = some (cA, .object C))
    {n : Int32} {N' : Nat} (hn : ¬ n < 0) (hN : n.toNatClampNeg = N') (hbytes : N' * 4 ≤ 536870912) (hcells : cells + 1 ≤ R.cells) (hslots : slots + N' ≤ R.slots) (hdg : decode cc pc = .ok (.anewarray index, 3))
    (kk : ∀ (q : Nat) (H1 : Heap), M q = none → mw_Q A D cl (mw_up M q (.inl (cA, N', .inr (.inr (.inr (.inr (fun _ => none))))))) H1 → va_S A H0 H1 locs →
      W p l e R s m args below meth c H1 locs (cells + 1) (slots + N') Q (F0 m (pc + 3) ls (.ref q :: rest))) : W p l e R s m args below meth c H locs cells slots Q (F0 m pc ls (.int n :: rest)) := by
  obtain ⟨hexec, hb, -, hown, hK⟩ := hE
  subst hN
  refine W.anew hexec hb hown hclink hover rfl hdg rfl hn hbytes hcells hslots fun cB kA comp f1 f2 f3 f4 => ?_
  obtain ⟨_, _, _, _, _, k4⟩ := (hK.2 t0 _ ht).2
  have hcc : cB = cA := Option.some.inj (f1.symm.trans k4)
  subst hcc
  generalize hH1 : H.push ({ cls := cB, slots := Array.replicate n.toNatClampNeg .null, vm := .none } : Cell) = H1
  have z1 : H1.size = H.size + 1 := by rw [← hH1, Array.size_push]
  have e1 : H1[H.size]? = some (arrV cB n.toNatClampNeg (fun _ => .null)) := by rw [← hH1, Array.getElem?_push_size, ← arrV_new]
  have o1 : ∀ q : Nat, q < H.size → H1[q]? = H[q]? := fun q hq => by rw [← hH1, Array.getElem?_push, if_neg (Nat.ne_of_lt hq)]
  refine kk H.size H1 (mw_fresh hP.1) (hP.push (hA _ hS.1) ?_ o1) ⟨Nat.le_trans hS.1 (by omega), fun x h1 h2 => (o1 x (Nat.lt_of_lt_of_le h1 hS.1)).trans (hS.2.1 x h1 h2), hS.2.2⟩
  show H1[H.size]? = some (vp_cell _ _)
  rw [vp_cell_q]
  exact e1
theorem mw_new (hE : mw_E p c cc s args Ts own m D cl tys) {C : String} {T : u_T} {N ci index : Nat} (hin : ∀ w ∈ u_ws C T N, w ∈ Ts) (ty : Nat → FieldType) (hty : ∀ k, k < N → parseFieldDescriptor (T k).2.2.1 = some (ty k)) (hcl : (Cond.classLink own index C).before args s = true) (hinst : (Cond.instantiable C N).before args s = true) (hini : (Cond.initialized C).before args s = true)
    (hP : mw_Q A D cl M H) (hS : va_S A H0 H locs) (hA : ∀ q, H0.size ≤ q → A q) (hc : cl[ci]? = some (C, T, N)) {fs : List Value} (hfs : ∀ j, j < N → defaultValue (ty j) = vp_V fs j) (hcells : cells + 1 ≤ R.cells) (hslots : slots + N ≤ R.slots) (hdg : decode cc pc = .ok (.new index, 3))
    (kk : ∀ (q : Nat) (H1 : Heap), M q = none → mw_Q A D cl (mw_up M q (.inr (ci, fs))) H1 → va_S A H0 H1 locs →
      W p l e R s m args below meth c H1 locs (cells + 1) (slots + N) Q (F0 m (pc + 3) ls (.ref q :: rest))) : W p l e R s m args below meth c H locs cells slots Q (F0 m pc ls rest) := by
  obtain ⟨hexec, hb, hts, hown, hK⟩ := hE
  have hKn := hK.1 ci _ hc
  refine W.newcK hexec hb hown hcl hinst hini rfl hdg hcells hslots hKn.2.1 rfl fun H1 kC hkC e1 z1 o1 => ?_
  refine kk H.size H1 (mw_fresh hP.1) (hP.push (hA _ hS.1) ?_ o1) ⟨Nat.le_trans hS.1 (by omega), fun x h1 h2 => (o1 x (Nat.lt_of_lt_of_le h1 hS.1)).trans (hS.2.1 x h1 h2), hS.2.2⟩
  exact ⟨_, hc, (u_born ty hts hin hKn hkC e1 hty).to hfs⟩
theorem mw_recv (hE : mw_E p c cc s args Ts own m D cl tys) (hP : mw_Q A D cl M H) {ci : Nat} {q : vw_C} {fs : List Value} (hc : cl[ci]? = some q) (he : M a = some (.inr (ci, fs))) : ∃ cell : Cell, H[a]? = some cell ∧ cell.vm.isStatics = false ∧ s.vm.findClass q.1 = some cell.cls :=
  va_recv hE.2.2.2.2 (hP.1.one he) hc (q0 := 0) rfl
end MW
/-- a contract's start and end over a map -/
def mw_U (D : va_G) (cl : List vw_C) (tys : List (ClassId × FieldType)) (M : mw) (sz : Nat) (U : State) : Prop := U.heap.size = sz ∧ mw_P D cl M U.heap ∧ va_K D cl tys U
def mw_B (D : va_G) (cl : List vw_C) (M : mw) (sz : Nat) (M1 : mw) (t : State) : Prop := mw_P D cl M1 t.heap ∧ mw_I (mw_A M sz) M1
theorem mw_blind {D : va_G} {cl : List vw_C} {tys : List (ClassId × FieldType)} {M : mw} {sz : Nat} {av : List Value} : FrameBlind (va_Pc av (mw_U D cl tys M sz)) := fun a U g mk q => by
  obtain ⟨q0, q1, qP, qK⟩ := q
  exact ⟨q0, q1, qP, va_K.moved (u := U) (U := U.calling g mk a) (Vm.Alike.refl U.vm) qK⟩
section MWC
variable {p : Program} {l : Launch} {e : Env} {R : Room} {s : State} {m : MethodId} {args : Array Value} {below : List Frame} {meth : Method} {c : Code} {H : Heap} {locs : List Loc} {cells slots mc ms : Nat} {Q : State → Prop}
variable {cc : ByteArray} {pc : Nat} {ls : Array Slot} {rest st0 : List Value} {D : va_G} {cl : List vw_C} {A : Nat → Prop} {a : Nat} {av : Array Value} {tys : List (ClassId × FieldType)} {M : mw} {H0 : Heap} {Ts : List Cond} {own : String}
theorem mw_preV (hE : mw_E p c cc s args Ts own m D cl tys) (hP : mw_Q A D cl M H) {ci : Nat} {C : String} {q : vw_C} {fs : List Value} (hc : cl[ci]? = some q) (hq : q.1 = C) (he : M a = some (.inr (ci, fs))) (As : List Value) : PreV s H C a (va_Pc (.ref a :: As) (mw_U D cl tys M H.size)) As := by
  subst hq
  exact ⟨mw_blind, mw_recv hE hP hc he, fun U hU hW => ⟨rfl, by rw [hU], by rw [hU]; exact hP.1, va_K.moved hW.alike hE.2.2.2.2⟩⟩
theorem mw_preS (hE : mw_E p c cc s args Ts own m D cl tys) (hP : mw_Q A D cl M H) (As : List Value) : PreS s H (va_Pc As (mw_U D cl tys M H.size)) As :=
  ⟨mw_blind, fun U hU hW => ⟨rfl, by rw [hU], by rw [hU]; exact hP.1, va_K.moved hW.alike hE.2.2.2.2⟩⟩
theorem mw_back (hP : mw_Q A D cl M H) (hS : va_S A H0 H locs) (hA : ∀ q, H0.size ≤ q → A q) {M1 : mw} {t : State} {H1 : Heap} (ht : t.heap = H1) (hB : mw_B D cl M H.size M1 t) : mw_Q A D cl M1 H1 := by
  subst ht
  exact ⟨hB.1, fun x ex hx => mw_A.le hP hS hA x (hB.2 x ex hx)⟩
theorem mw_calli {post : Int32 → mw → Prop} (hP : mw_Q A D cl M H) (hS : va_S A H0 H locs) (hA : ∀ q, H0.size ≤ q → A q) (hr : va_Run p l e R s m args below meth c H locs cells slots mc ms (F0 m pc ls st0) rest (va_Qi post (mw_B D cl M H.size) (mw_A M H.size) av) (mw_A M H.size))
    (kk : ∀ (r : Int32) (M1 : mw) (H1 : Heap) (locs1 : List Loc), post r M1 → mw_Q A D cl M1 H1 → va_S A H0 H1 locs1 → W p l e R s m args below meth c H1 locs1 (cells + mc) (slots + ms) Q (F0 m (pc + 3) ls (.int r :: rest))) : W p l e R s m args below meth c H locs cells slots Q (F0 m pc ls st0) :=
  va_calli hr hS (fun q _ h => mw_A.le hP hS hA q h) (mw_A.le hP hS hA) (fun r M1 _ H1 locs1 ht _ hp hB _ _ hS1 => kk r M1 H1 locs1 hp (mw_back hP hS hA ht hB) hS1)
theorem mw_callv {post : mw → Prop} (hP : mw_Q A D cl M H) (hS : va_S A H0 H locs) (hA : ∀ q, H0.size ≤ q → A q) (hr : va_Run p l e R s m args below meth c H locs cells slots mc ms (F0 m pc ls st0) rest (va_Qv post (mw_B D cl M H.size) (mw_A M H.size) av) (mw_A M H.size))
    (kk : ∀ (M1 : mw) (H1 : Heap) (locs1 : List Loc), post M1 → mw_Q A D cl M1 H1 → va_S A H0 H1 locs1 → W p l e R s m args below meth c H1 locs1 (cells + mc) (slots + ms) Q (F0 m (pc + 3) ls rest)) : W p l e R s m args below meth c H locs cells slots Q (F0 m pc ls st0) :=
  va_callv hr hS (fun q _ h => mw_A.le hP hS hA q h) (mw_A.le hP hS hA) (fun M1 _ H1 locs1 ht _ hp hB _ _ hS1 => kk M1 H1 locs1 hp (mw_back hP hS hA ht hB) hS1)
end MWC
section MWD
variable {p : Program} {l : Launch} {e : Env} {R : Room} {s : State} {m : MethodId} {args : Array Value} {below : List Frame} {meth : Method} {c : Code} {H : Heap} {locs : List Loc} {cells slots mc ms : Nat} {Q : State → Prop}
variable {cc : ByteArray} {pc : Nat} {ls : Array Slot} {rest st0 : List Value} {D : va_G} {cl : List vw_C} {A : Nat → Prop} {a : Nat} {av : Array Value} {tys : List (ClassId × FieldType)} {M M0 : mw} {H0 : Heap} {Ts : List Cond} {own : String}
theorem mw_callq {post : Option Nat → mw → Prop} (hP : mw_Q A D cl M H) (hS : va_S A H0 H locs) (hA : ∀ q, H0.size ≤ q → A q) (hr : va_Run p l e R s m args below meth c H locs cells slots mc ms (F0 m pc ls st0) rest (va_Qq post (mw_B D cl M H.size) (mw_A M H.size) av) (mw_A M H.size))
    (kk : ∀ (r : Option Nat) (M1 : mw) (H1 : Heap) (locs1 : List Loc), post r M1 → mw_Q A D cl M1 H1 → va_S A H0 H1 locs1 → W p l e R s m args below meth c H1 locs1 (cells + mc) (slots + ms) Q (F0 m (pc + 3) ls (va_rf r :: rest))) : W p l e R s m args below meth c H locs cells slots Q (F0 m pc ls st0) :=
  va_callq hr hS (fun q _ h => mw_A.le hP hS hA q h) (mw_A.le hP hS hA) (fun r M1 _ H1 locs1 ht _ hp hB _ _ hS1 => kk r M1 H1 locs1 hp (mw_back hP hS hA ht hB) hS1)
/-- the ends -/
theorem mw_iret (hE : mw_E p c cc s args Ts own m D cl tys) {post : Int32 → mw → Prop} {v : Int32} (hr : meth.sig.returnType = some .int) (hlocks : meth.locks = false) (hP : mw_Q (mw_A M0 s.heap.size) D cl M H) (hS : va_S (mw_A M0 s.heap.size) s.heap H locs) (hdg : decode cc pc = .ok (.ireturn, 1)) (hp : post v M) :
    W p l e R s m args below meth c H locs cells slots (MQ below (va_Qi post (mw_B D cl M0 s.heap.size) (mw_A M0 s.heap.size)) args s cells slots (mw_A M0 s.heap.size)) (F0 m pc ls [.int v]) :=
  W.iret (v := v) hE.1 hE.2.1 hr (fun _ ht _ => ⟨⟨v, M, rfl, hp, by rw [ht]; exact hP.1, hP.2⟩, hS.F ht⟩) hS.2.2 hdg hlocks
theorem mw_zret (hE : mw_E p c cc s args Ts own m D cl tys) {post : Int32 → mw → Prop} {v : Int32} {ty : FieldType} (hr : meth.sig.returnType = some ty) (hlocks : meth.locks = false) (hP : mw_Q (mw_A M0 s.heap.size) D cl M H) (hS : va_S (mw_A M0 s.heap.size) s.heap H locs) (hdg : decode cc pc = .ok (.ireturn, 1)) (hn : narrow ty (.int v) = .int v) (hp : post v M) :
    W p l e R s m args below meth c H locs cells slots (MQ below (va_Qi post (mw_B D cl M0 s.heap.size) (mw_A M0 s.heap.size)) args s cells slots (mw_A M0 s.heap.size)) (F0 m pc ls [.int v]) :=
  W.zret (v := v) hE.1 hE.2.1 hr hn (fun _ ht _ => ⟨⟨v, M, rfl, hp, by rw [ht]; exact hP.1, hP.2⟩, hS.F ht⟩) hS.2.2 hdg hlocks
theorem mw_vret (hE : mw_E p c cc s args Ts own m D cl tys) {post : mw → Prop} (hr : meth.sig.returnType = none) (hlocks : meth.locks = false) (hP : mw_Q (mw_A M0 s.heap.size) D cl M H) (hS : va_S (mw_A M0 s.heap.size) s.heap H locs) (hdg : decode cc pc = .ok (.return_, 1)) (hp : post M) :
    W p l e R s m args below meth c H locs cells slots (MQ below (va_Qv post (mw_B D cl M0 s.heap.size) (mw_A M0 s.heap.size)) args s cells slots (mw_A M0 s.heap.size)) (F0 m pc ls []) :=
  W.vret hE.1 hE.2.1 hr (fun _ ht _ => ⟨⟨M, rfl, hp, by rw [ht]; exact hP.1, hP.2⟩, hS.F ht⟩) hS.2.2 hdg hlocks
theorem mw_aret (hE : mw_E p c cc s args Ts own m D cl tys) {post : Option Nat → mw → Prop} {r : Option Nat} {n : String} (hr : meth.sig.returnType = some (.object n)) (hlocks : meth.locks = false) (hP : mw_Q (mw_A M0 s.heap.size) D cl M H) (hS : va_S (mw_A M0 s.heap.size) s.heap H locs) (hdg : decode cc pc = .ok (.areturn, 1)) (hp : post r M) :
    W p l e R s m args below meth c H locs cells slots (MQ below (va_Qq post (mw_B D cl M0 s.heap.size) (mw_A M0 s.heap.size)) args s cells slots (mw_A M0 s.heap.size)) (F0 m pc ls [va_rf r]) :=
  W.aret (v := va_rf r) hE.1 hE.2.1 hr (Or.inl ⟨n, rfl⟩) (va_rf_or r) (fun _ ht _ => ⟨⟨r, M, rfl, hp, by rw [ht]; exact hP.1, hP.2⟩, hS.F ht⟩) hS.2.2 hdg hlocks
/-- a contract out of its body's walk -/
theorem mw_met {y : MethodName} {ws ws' : List Cond} {rm : Room} {Qc : Array Value → State → Outcome → State → Prop} {maxL sz : Nat} {ret : Option FieldType} {vs : List Value} {lv : List (Nat × Value)}
    (hy : plainName y.cls = true) (hw : ws = Cond.code y cc maxL ret :: ws') (hn : (lg_sl vs).length ≤ maxL) (hlv : lv_args 0 vs = lv)
    (body : ∀ (p : Program) (e : Env) (s : State) (m : MethodId) (below : List Frame) (meth : Method) (c : Code) (ls : Array Slot), mw_E p c cc s vs.toArray ws y.cls m D cl tys → meth.sig.returnType = ret → meth.locks = false → meth.name = y.name → c.maxLocals = maxL → s.heap.size = sz → mw_Q (mw_A M sz) D cl M s.heap → va_S (mw_A M sz) s.heap s.heap [] → lv_has ls maxL lv →
      W p l e rm s m vs.toArray below meth c s.heap [] 0 0 (MQ below Qc vs.toArray s mc ms (mw_A M sz)) (F0 m 0 ls [])) : Met l y ws rm (va_Pc vs (mw_U D cl tys M sz)) Qc mc ms (mw_A M sz) := by
  refine Met.ofW hy hw ?_
  intro p e s m args below meth c s₁ B hml hv
  obtain ⟨rfl, hsz, hP, hK⟩ := hv
  rw [lg_entry_eq]
  exact body p e s m below meth c _ ⟨B.exec, B.bytes, atoms_spec (ws := ws) B.pre, findClass_of_methodNamed B.named, hK⟩ B.returns B.notSynchronized (name_of_methodNamed B.named B.method).1 hml hsz ⟨hP, mw_I.self⟩ va_S.rf (hlv ▸ lv_entry vs hn)
end MWD
end
section
/-! rows with numbers as nI j; a top of the stack under another name -/
section RW
variable {p : Program} {l : Launch} {e : Env} {R : Room} {s : State} {m : MethodId} {args : Array Value} {below : List Frame} {meth : Method} {c : Code} {H : Heap} {locs : List Loc} {cells slots : Nat} {Q : State → Prop}
variable {cc : ByteArray} {pc : Nat} {ls : Array Slot} {rest : List Value} {D : va_G} {cl : List vw_C} {A : Nat → Prop} {a : Nat} {tys : List (ClassId × FieldType)} {M : mw} {H0 : Heap} {Ts : List Cond} {own : String}
theorem rw_i {x v : Int32} (h : x = v) (k : W p l e R s m args below meth c H locs cells slots Q (F0 m pc ls (.int v :: rest))) : W p l e R s m args below meth c H locs cells slots Q (F0 m pc ls (.int x :: rest)) := by
  subst h
  exact k
theorem rw_i2 {x v y w : Int32} (h : x = v) (h2 : y = w) (k : W p l e R s m args below meth c H locs cells slots Q (F0 m pc ls (.int v :: .int w :: rest))) : W p l e R s m args below meth c H locs cells slots Q (F0 m pc ls (.int x :: .int y :: rest)) := by
  subst h
  subst h2
  exact k
theorem rw_cs {k n : Nat} (h1 : cells ≤ k) (h2 : slots ≤ n) {g : JFrame} (kk : W p l e R s m args below meth c H locs k n Q g) : W p l e R s m args below meth c H locs cells slots Q g := W.widen h1 h2 kk
theorem rw_iald (hE : mw_E p c cc s args Ts own m D cl tys) (hP : mw_Q A D cl M H) (t0 : Nat) {cA : ClassId} {n : Nat} {f : Nat → Int32} (ha : M a = some (.inl (cA, n, .inl f))) (ht : tys[t0]? = some (cA, .int)) (hn : n < 2 ^ 31) {j : Nat} (hdg : decode cc pc = .ok (.iaload, 1)) (hj : j < n)
    (kk : W p l e R s m args below meth c H locs cells slots Q (F0 m (pc + 1) ls (.int (f j) :: rest))) : W p l e R s m args below meth c H locs cells slots Q (F0 m pc ls (.int (nI j) :: .ref a :: rest)) := by
  refine mw_iald hE hP t0 ha ht (vp_in_nI hj hn) hdg ?_
  rw [nI_clamp (by omega)]
  exact kk
theorem rw_zald (hE : mw_E p c cc s args Ts own m D cl tys) (hP : mw_Q A D cl M H) (t0 : Nat) {cA : ClassId} {n : Nat} {f : Nat → Int32} (ha : M a = some (.inl (cA, n, .inl f))) (ht : tys[t0]? = some (cA, .boolean)) (hn : n < 2 ^ 31) {j : Nat} (hdg : decode cc pc = .ok (.baload, 1)) (hj : j < n)
    (kk : W p l e R s m args below meth c H locs cells slots Q (F0 m (pc + 1) ls (.int (f j) :: rest))) : W p l e R s m args below meth c H locs cells slots Q (F0 m pc ls (.int (nI j) :: .ref a :: rest)) := by
  refine mw_zald hE hP t0 ha ht (vp_in_nI hj hn) hdg ?_
  rw [nI_clamp (by omega)]
  exact kk
theorem rw_aald (hE : mw_E p c cc s args Ts own m D cl tys) (hP : mw_Q A D cl M H) (t0 : Nat) {cA : ClassId} {C : String} {n : Nat} {f : Nat → Option Nat} (ha : M a = some (.inl (cA, n, .inr (.inr (.inr (.inr f)))))) (ht : tys[t0]? = some (cA, .object C)) (hn : n < 2 ^ 31) {j : Nat} (hdg : decode cc pc = .ok (.aaload, 1)) (hj : j < n)
    (kk : W p l e R s m args below meth c H locs cells slots Q (F0 m (pc + 1) ls (va_rf (f j) :: rest))) : W p l e R s m args below meth c H locs cells slots Q (F0 m pc ls (.int (nI j) :: .ref a :: rest)) := by
  refine mw_aald hE hP t0 ha ht (vp_in_nI hj hn) hdg ?_
  rw [nI_clamp (by omega)]
  exact kk
theorem rw_iast (hE : mw_E p c cc s args Ts own m D cl tys) (hP : mw_Q A D cl M H) (hS : va_S A H0 H locs) (t0 : Nat) {cA : ClassId} {n : Nat} {f : Nat → Int32} (ha : M a = some (.inl (cA, n, .inl f))) (ht : tys[t0]? = some (cA, .int)) (hn : n < 2 ^ 31) {j : Nat} {x : Int32} (hdg : decode cc pc = .ok (.iastore, 1)) (hj : j < n)
    (kk : ∀ (H1 : Heap) (locs1 : List Loc), mw_Q A D cl (mw_up M a (.inl (cA, n, .inl (upd f j x)))) H1 → va_S A H0 H1 locs1 → W p l e R s m args below meth c H1 locs1 cells slots Q (F0 m (pc + 1) ls rest)) : W p l e R s m args below meth c H locs cells slots Q (F0 m pc ls (.int x :: .int (nI j) :: .ref a :: rest)) := by
  refine mw_iast hE hP hS t0 ha ht (vp_in_nI hj hn) hdg ?_
  rw [nI_clamp (by omega)]
  exact kk
theorem rw_zast (hE : mw_E p c cc s args Ts own m D cl tys) (hP : mw_Q A D cl M H) (hS : va_S A H0 H locs) (t0 : Nat) {cA : ClassId} {n : Nat} {f : Nat → Int32} (ha : M a = some (.inl (cA, n, .inl f))) (ht : tys[t0]? = some (cA, .boolean)) (hn : n < 2 ^ 31) {j : Nat} {x : Int32} (hx : vp_nar .boolean x = x) (hdg : decode cc pc = .ok (.bastore, 1)) (hj : j < n)
    (kk : ∀ (H1 : Heap) (locs1 : List Loc), mw_Q A D cl (mw_up M a (.inl (cA, n, .inl (upd f j x)))) H1 → va_S A H0 H1 locs1 → W p l e R s m args below meth c H1 locs1 cells slots Q (F0 m (pc + 1) ls rest)) : W p l e R s m args below meth c H locs cells slots Q (F0 m pc ls (.int x :: .int (nI j) :: .ref a :: rest)) := by
  refine mw_zast hE hP hS t0 ha ht (vp_in_nI hj hn) hdg ?_
  rw [nI_clamp (by omega), hx]
  exact kk
theorem rw_aast (hE : mw_E p c cc s args Ts own m D cl tys) (hP : mw_Q A D cl M H) (hS : va_S A H0 H locs) (t0 ci : Nat) {cA : ClassId} {r : vw_C} {n v : Nat} {vs : List Value} {f : Nat → Option Nat} (ha : M a = some (.inl (cA, n, .inr (.inr (.inr (.inr f)))))) (ht : tys[t0]? = some (cA, .object r.1)) (hv : M v = some (.inr (ci, vs))) (hc : cl[ci]? = some r) (hn : n < 2 ^ 31) {j : Nat} (hdg : decode cc pc = .ok (.aastore, 1)) (hj : j < n)
    (kk : ∀ (H1 : Heap) (locs1 : List Loc), mw_Q A D cl (mw_up M a (.inl (cA, n, .inr (.inr (.inr (.inr (va_up f j (some v)))))))) H1 → va_S A H0 H1 locs1 → W p l e R s m args below meth c H1 locs1 cells slots Q (F0 m (pc + 1) ls rest)) : W p l e R s m args below meth c H locs cells slots Q (F0 m pc ls (.ref v :: .int (nI j) :: .ref a :: rest)) := by
  refine mw_aast hE hP hS t0 ci ha ht hv hc (vp_in_nI hj hn) hdg ?_
  rw [nI_clamp (by omega)]
  exact kk
end RW
theorem rw_in {x : Int32} {n : Nat} (hn : n < 2 ^ 31) : vp_in x n ↔ ¬ x < 0 ∧ ¬ nI n ≤ x := by
  constructor
  · intro h
    obtain ⟨j, hj, rfl⟩ := vp_in_of h hn
    exact ⟨nI_pos (by omega), nI_ge hj hn⟩
  · intro h
    rcases pk_ix x hn with h1 | h1 | ⟨j, hj, rfl⟩
    · exact absurd h1 h.1
    · exact absurd h1 h.2
    · exact vp_in_nI hj hn
theorem rw_inj {j k n : Nat} (hj : j < n) (hk : k < n) (hn : n ≤ 2 ^ 31) : nI j = nI k ↔ j = k := nI_eq (by omega) (by omega)
theorem rw_upd_s {f : Nat → Int32} {k : Nat} {x : Int32} : upd f k x k = x := pk_us
theorem rw_upd_n {f : Nat → Int32} {k j : Nat} {x : Int32} (h : j ≠ k) : upd f k x j = f j := pk_un h
/-! THE REFERENCE'S CELLS: its object at ad 0, the array of slot k at ad k; v: its numbers, g: its arrays, by their slots -/
abbrev mo_fs (ad : Nat → Nat) (v : Nat → Int32) : List Value := [.int (v 0), .ref (ad 1), .ref (ad 2), .int (v 3), .ref (ad 4), .ref (ad 5), .ref (ad 6), .int (v 7), .ref (ad 8), .ref (ad 9), .int (v 10), .ref (ad 11), .int (v 12), .int (v 13)]
def mo_len : Nat → Nat := fun k => match k with
  | 1 => 3072
  | 2 => 12
  | 4 => 12
  | 5 => 3072
  | 6 => 12
  | 8 => 1600
  | 9 => 40
  | 11 => 200
  | _ => 0
def mo_ks : List Nat := [1, 2, 4, 5, 6, 8, 9, 11]
def mo_N (ad : Nat → Nat) : Prop := (∀ k ∈ mo_ks, ad k ≠ ad 0) ∧ ∀ k ∈ mo_ks, ∀ j ∈ mo_ks, ad k = ad j → k = j
/-- the first of the slots ks whose array stands at x -/
def mo_at (ad : Nat → Nat) (x : Nat) : List Nat → Option Nat
  | [] => none
  | k :: ks => if x = ad k then some k else mo_at ad x ks
def mo_M (cI : ClassId) (ad : Nat → Nat) (v : Nat → Int32) (g : Nat → Nat → Int32) : mw := fun x => if x = ad 0 then some (.inr (5, mo_fs ad v)) else match mo_at ad x mo_ks with
  | none => none
  | some k => some (.inl (cI, mo_len k, .inl (g k)))
theorem mo_at_self {ad : Nat → Nat} {k : Nat} : ∀ (ks : List Nat), k ∈ ks → (∀ j ∈ ks, ad k = ad j → k = j) → mo_at ad (ad k) ks = some k
  | [], h, _ => absurd h List.not_mem_nil
  | j :: ks, h, hi => by
    unfold mo_at
    by_cases hj : ad k = ad j
    · rw [if_pos hj, hi j List.mem_cons_self hj]
    · rw [if_neg hj]
      rcases List.mem_cons.mp h with rfl | h
      · exact absurd rfl hj
      · exact mo_at_self ks h (fun i hi2 => hi i (List.mem_cons_of_mem _ hi2))
theorem mo_at_some {ad : Nat → Nat} {x k : Nat} : ∀ (ks : List Nat), mo_at ad x ks = some k → x = ad k ∧ k ∈ ks
  | [], h => by cases h
  | j :: ks, h => by
    unfold mo_at at h
    by_cases hj : x = ad j
    · rw [if_pos hj] at h
      cases h
      exact ⟨hj, List.mem_cons_self⟩
    · rw [if_neg hj] at h
      obtain ⟨h1, h2⟩ := mo_at_some ks h
      exact ⟨h1, List.mem_cons_of_mem _ h2⟩
theorem mo_o {cI : ClassId} {ad : Nat → Nat} {v : Nat → Int32} {g : Nat → Nat → Int32} : mo_M cI ad v g (ad 0) = some (.inr (5, mo_fs ad v)) := if_pos rfl
theorem mo_a {cI : ClassId} {ad : Nat → Nat} {v : Nat → Int32} {g : Nat → Nat → Int32} (hN : mo_N ad) {k : Nat} (hk : k ∈ mo_ks) : mo_M cI ad v g (ad k) = some (.inl (cI, mo_len k, .inl (g k))) := by
  unfold mo_M
  rw [if_neg (hN.1 k hk), mo_at_self mo_ks hk (fun j hj => hN.2 k hk j hj)]
theorem mo_so {cI : ClassId} {ad : Nat → Nat} {v v' : Nat → Int32} {g : Nat → Nat → Int32} {fs : List Value} (h : fs = mo_fs ad v') : mw_up (mo_M cI ad v g) (ad 0) (.inr (5, fs)) = mo_M cI ad v' g := by
  subst h
  funext x
  by_cases hx : x = ad 0
  · subst hx
    rw [mw_up_s, mo_o]
  · rw [mw_up_n hx]
    unfold mo_M
    rw [if_neg hx, if_neg hx]
theorem mo_sa {cI : ClassId} {ad : Nat → Nat} {v : Nat → Int32} {g : Nat → Nat → Int32} (hN : mo_N ad) {k : Nat} (hk : k ∈ mo_ks) {n : Nat} (hn : mo_len k = n) (f : Nat → Int32) : mw_up (mo_M cI ad v g) (ad k) (.inl (cI, n, .inl f)) = mo_M cI ad v (va_up g k f) := by
  subst hn
  funext x
  by_cases hx : x = ad k
  · subst hx
    rw [mw_up_s, mo_a hN hk, va_up_self]
  · rw [mw_up_n hx]
    unfold mo_M
    by_cases h0 : x = ad 0
    · rw [if_pos h0, if_pos h0]
    · rw [if_neg h0, if_neg h0]
      cases hm : mo_at ad x mo_ks with
      | none => rfl
      | some j =>
        have h1 := mo_at_some mo_ks hm
        have hjk : j ≠ k := fun h => hx (by rw [h1.1, h])
        dsimp only
        rw [va_up_ne _ _ hjk]
section MO
variable {p : Program} {l : Launch} {e : Env} {R : Room} {s : State} {m : MethodId} {args : Array Value} {below : List Frame} {meth : Method} {c : Code} {H : Heap} {locs : List Loc} {cells slots : Nat} {Q : State → Prop}
variable {cc : ByteArray} {pc : Nat} {ls : Array Slot} {rest : List Value} {D : va_G} {A : Nat → Prop} {tys : List (ClassId × FieldType)} {H0 : Heap} {Ts : List Cond} {cI : ClassId} {ad : Nat → Nat} {v : Nat → Int32} {g : Nat → Nat → Int32}
theorem mo_get (hE : mw_E p c cc s args Ts RX4 m D vwCl tys) (hin : ∀ w ∈ wsX40, w ∈ Ts) (hP : mw_Q A D vwCl (mo_M cI ad v g) H) (k : Nat) {index : Nat} (hk : k < 14) (hlink : Cond.fieldLink RX4 index "CodePagesModel" (TX4 k).2.1 (TX4 k).2.2.1 ∈ Ts) (hd : (TX4 k).1 = "CodePagesModel") {x : Value} (hv : (mo_fs ad v)[k]? = some x) (hdg : decode cc pc = .ok (.getfield index, 3))
    (kk : W p l e R s m args below meth c H locs cells slots Q (F0 m (pc + 3) ls (x :: rest))) : W p l e R s m args below meth c H locs cells slots Q (F0 m pc ls (.ref (ad 0) :: rest)) :=
  mw_get (ci := 5) (T := TX4) (N := 14) (C := RX4) hE hin hP mo_o rfl k hk (hE.2.2.1 _ hlink) hd hv hdg kk
theorem mo_put (hE : mw_E p c cc s args Ts RX4 m D vwCl tys) (hin : ∀ w ∈ wsX40, w ∈ Ts) (hP : mw_Q A D vwCl (mo_M cI ad v g) H) (hS : va_S A H0 H locs) (k : Nat) {index : Nat} {x : Int32} (hk : k < 14) (hlink : Cond.fieldLink RX4 index "CodePagesModel" (TX4 k).2.1 (TX4 k).2.2.1 ∈ Ts) (hd : (TX4 k).1 = "CodePagesModel") (hf : (TX4 k).2.2.2 = false) (ht : parseFieldDescriptor (TX4 k).2.2.1 = some .int) (hv : (mo_fs ad v).set k (.int x) = mo_fs ad (va_up v k x)) (hdg : decode cc pc = .ok (.putfield index, 3))
    (kk : ∀ (H : Heap) (locs : List Loc), mw_Q A D vwCl (mo_M cI ad (va_up v k x) g) H → va_S A H0 H locs → W p l e R s m args below meth c H locs cells slots Q (F0 m (pc + 3) ls rest)) : W p l e R s m args below meth c H locs cells slots Q (F0 m pc ls (.int x :: .ref (ad 0) :: rest)) := by
  refine mw_put (ci := 5) (T := TX4) (N := 14) (C := RX4) hE hin tyX4 tyX4_ok nmX4 hP hS mo_o rfl k hk (hE.2.2.1 _ hlink) hd hf ht rfl rfl hk hdg ?_
  rw [mo_so hv]
  exact kk
theorem mo_ld (hE : mw_E p c cc s args Ts RX4 m D vwCl tys) (hN : mo_N ad) (hP : mw_Q A D vwCl (mo_M cI ad v g) H) (t0 k : Nat) (ht : tys[t0]? = some (cI, .int)) (hk : k ∈ mo_ks) {n j : Nat} (hn : mo_len k = n) (hn2 : n < 2 ^ 31) (hdg : decode cc pc = .ok (.iaload, 1)) (hj : j < n)
    (kk : W p l e R s m args below meth c H locs cells slots Q (F0 m (pc + 1) ls (.int (g k j) :: rest))) : W p l e R s m args below meth c H locs cells slots Q (F0 m pc ls (.int (nI j) :: .ref (ad k) :: rest)) := by
  subst hn
  exact rw_iald hE hP t0 (mo_a hN hk) ht hn2 hdg hj kk
theorem mo_st (hE : mw_E p c cc s args Ts RX4 m D vwCl tys) (hN : mo_N ad) (hP : mw_Q A D vwCl (mo_M cI ad v g) H) (hS : va_S A H0 H locs) (t0 k : Nat) (ht : tys[t0]? = some (cI, .int)) (hk : k ∈ mo_ks) {n j : Nat} {x : Int32} (hn : mo_len k = n) (hn2 : n < 2 ^ 31) (hdg : decode cc pc = .ok (.iastore, 1)) (hj : j < n)
    (kk : ∀ (H : Heap) (locs : List Loc), mw_Q A D vwCl (mo_M cI ad v (va_up g k (upd (g k) j x))) H → va_S A H0 H locs → W p l e R s m args below meth c H locs cells slots Q (F0 m (pc + 1) ls rest)) : W p l e R s m args below meth c H locs cells slots Q (F0 m pc ls (.int x :: .int (nI j) :: .ref (ad k) :: rest)) := by
  refine rw_iast hE hP hS t0 (mo_a hN hk) ht (by rw [hn]; exact hn2) hdg (by rw [hn]; exact hj) ?_
  rw [mo_sa hN hk rfl]
  exact kk
end MO
theorem nn_le {a b : Nat} (h : nI a ≤ nI b) (ha : a < 2 ^ 31) (hb : b < 2 ^ 31) : a ≤ b := (nI_leI ha hb).mp h
theorem nn_nle {a b : Nat} (h : ¬ nI a ≤ nI b) (ha : b < 2 ^ 31) (hb : a < 2 ^ 31) : b < a := Nat.lt_of_not_le fun q => h ((nI_leI hb ha).mpr q)
theorem nn_lt {a b : Nat} (h : nI a < nI b) (ha : a < 2 ^ 31) (hb : b < 2 ^ 31) : a < b := (nI_ltI ha hb).mp h
theorem nn_nlt {a b : Nat} (h : ¬ nI a < nI b) (ha : b < 2 ^ 31) (hb : a < 2 ^ 31) : b ≤ a := Nat.le_of_not_lt fun q => h ((nI_ltI hb ha).mpr q)
theorem nn_eq {a b : Nat} (h : nI a = nI b) (ha : a < 2 ^ 31) (hb : b < 2 ^ 31) : a = b := (nI_eq ha hb).mp h
theorem nn_neq {a b : Nat} (h : ¬ nI a = nI b) (ha : a < 2 ^ 31) (hb : b < 2 ^ 31) : a ≠ b := fun q => h (by rw [q])
/-- the array classes: int, boolean, Page, Order, Text, long -/
abbrev TY (k : Nat → ClassId) : List (ClassId × FieldType) := [(k 0, .int), (k 1, .boolean), (k 2, .object RX1), (k 3, .object RX0), (k 4, .object RX2), (k 5, .long)]
end
section
/-! numbers and small functions -/
theorem sw_out {x : Int32} {n : Nat} (hn : n < 2 ^ 31) (h : ¬ vp_in x n) : x.toInt < 0 ∨ (n : Int) - 1 < x.toInt := by
  rw [vp_in_iff] at h
  omega
theorem sw_cases (x : Int32) (n : Nat) (hn : n < 2 ^ 31) : ¬ vp_in x n ∨ ∃ j : Nat, j < n ∧ x = nI j := by
  by_cases h : vp_in x n
  · exact Or.inr (vp_in_of h hn)
  · exact Or.inl h
theorem in_nI {j n : Nat} (hn : n < 2 ^ 31) (hj : j < 2 ^ 31) : vp_in (nI j) n ↔ j < n := by
  rw [vp_in_iff, nI_toInt hj]
  omega
/-- a truth as a number -/
def bz (P : Prop) [Decidable P] : Int32 := if P then 1 else 0
theorem bz_t {P : Prop} [Decidable P] (h : P) : bz P = 1 := if_pos h
theorem bz_f {P : Prop} [Decidable P] (h : ¬ P) : bz P = 0 := if_neg h
theorem bz_01 (P : Prop) [Decidable P] : bz P = 0 ∨ bz P = 1 := by
  by_cases h : P
  · exact Or.inr (bz_t h)
  · exact Or.inl (bz_f h)
theorem bz_z (P : Prop) [Decidable P] : narrow .boolean (.int (bz P)) = .int (bz P) := by
  rcases bz_01 P with h | h <;> rw [h] <;> rfl
/-- the meanings that may be told -/
def okm (u : Int32) : Prop := u = -1 ∨ vp_in u 65536
theorem okm_iff (u : Int32) : okm u ↔ ¬ u < -1 ∧ ¬ nI 65535 < u := by
  unfold okm
  rw [vp_in_iff, Int32.lt_iff_toInt_lt, Int32.lt_iff_toInt_lt, ← Int32.toInt_inj, nI_toInt (by decide)]
  have : (-1 : Int32).toInt = -1 := by decide
  rw [this]
  omega
/-- a half as it is printed -/
def hexn (q : Nat) : Nat := if q < 10 then 48 + q else 55 + q
def sgnn (q : Nat) : Nat := if q = 11 ∨ q = 13 then 45 else if 9 < q then 43 else 63
theorem byte_ok {n : Nat} (h : n < 128) : (nI n).toInt8.toInt32 = nI n := by
  have : ∀ i : Fin 128, (nI i.val).toInt8.toInt32 = nI i.val := by decide +kernel
  exact this ⟨n, h⟩
theorem byte_nar {n : Nat} (h : n < 128) : narrow .byte (.int (nI n)) = .int (nI n) := by
  have h1 := pk_nb (nI n)
  rwa [byte_ok h] at h1
/-- the first code from i on, n of them, that holds u; the last one below n -/
def ff (f : Nat → Int32) (u : Int32) (i : Nat) : Nat → Int32
  | 0 => -1
  | n + 1 => if f i = u then nI i else ff f u (i + 1) n
def fl (f : Nat → Int32) (u : Int32) : Nat → Int32
  | 0 => -1
  | n + 1 => if f n = u then nI n else fl f u n
theorem ff_step {f : Nat → Int32} {u : Int32} {i n : Nat} (h : i < n) : ff f u i (n - i) = if f i = u then nI i else ff f u (i + 1) (n - (i + 1)) := by
  obtain ⟨m, hm⟩ : ∃ m, n - i = m + 1 := ⟨n - i - 1, by omega⟩
  rw [hm, show n - (i + 1) = m by omega, ff]
theorem ff_end {f : Nat → Int32} {u : Int32} {i n : Nat} (h : n ≤ i) : ff f u i (n - i) = -1 := by
  rw [show n - i = 0 by omega, ff]
/-- what a page's look-up answers -/
def pfind (f : Nat → Int32) (u : Int32) : Int32 := if u = -1 then -1 else ff f u 0 256
abbrev cp_q (cA : ClassId) (len n : Nat) (pa : Nat → Nat) : va_E := .inl (cA, len, .inr (.inr (.inr (.inr (fun p => if p < n then some (pa p) else none)))))
abbrev cp_o (h : Nat → Nat) (w : Nat → Int32) : va_E := .inr (4, [.ref (h 1), .ref (h 2), .ref (h 3), .ref (h 4), .int (w 4), .int (w 5), .int (w 6), .int (w 7)])
end
section
/-! WHAT THE REFERENCE DOES, over its arrays g (by slots) and its counts n (pages, orders, texts, listed) -/
def mo_V (v : Nat → Int32) (n : Nat → Nat) : Prop := v 3 = nI (n 0) ∧ v 7 = nI (n 1) ∧ v 10 = nI (n 2) ∧ v 12 = nI (n 3)
def mo_B (n : Nat → Nat) : Prop := n 0 ≤ 12 ∧ n 1 ≤ 12 ∧ n 2 ≤ 40 ∧ n 3 ≤ 200
/-- the first codes' meanings by a page's kind -/
def fm (z i : Nat) : Int32 := if z = 0 then (if i < 128 then nI i else -1) else if z = 1 then nI ((167 * i + 13) % 256) else -1
/-- n places from a on hold h -/
def blk (f : Nat → Int32) (a n : Nat) (h : Nat → Int32) : Nat → Int32 := fun j => if a ≤ j ∧ j < a + n then h (j - a) else f j
theorem blk_0 {f : Nat → Int32} {a : Nat} {h : Nat → Int32} : blk f a 0 h = f := by
  funext j
  exact if_neg (by omega)
theorem blk_s {f : Nat → Int32} {a n : Nat} {h : Nat → Int32} {x : Int32} (hx : x = h n) : upd (blk f a n h) (a + n) x = blk f a (n + 1) h := by
  subst hx
  funext j
  unfold upd blk
  by_cases h1 : j = a + n
  · subst h1
    rw [if_pos rfl, if_pos (by omega), show a + n - a = n by omega]
  · rw [if_neg h1]
    by_cases h2 : a ≤ j ∧ j < a + n
    · rw [if_pos h2, if_pos (by omega)]
    · rw [if_neg h2, if_neg (by omega)]
theorem blk_in {f : Nat → Int32} {a n j : Nat} {h : Nat → Int32} (hj : j < n) : blk f a n h (a + j) = h j := by
  unfold blk
  rw [if_pos (by omega), show a + j - a = j by omega]
theorem blk_out {f : Nat → Int32} {a n j : Nat} {h : Nat → Int32} (hj : j < a ∨ a + n ≤ j) : blk f a n h j = f j := if_neg (by omega)
theorem blk_up {g : Nat → Nat → Int32} {k : Nat} (f h : Nat → Int32) : va_up (va_up g k f) k h = va_up g k h := by
  funext j
  by_cases hj : j = k
  · subst hj
    rw [va_up_self, va_up_self]
  · rw [va_up_ne _ _ hj, va_up_ne _ _ hj, va_up_ne _ _ hj]
theorem up_id {g : Nat → Nat → Int32} {k : Nat} : va_up g k (g k) = g := by
  funext j
  by_cases hj : j = k
  · subst hj
    rw [va_up_self]
  · rw [va_up_ne _ _ hj]
/-- the code of page p that means u, as the reference looks -/
def mf (g : Nat → Nat → Int32) (p : Nat) (u : Int32) : Int32 := if u = -1 then -1 else fl (fun i => g 1 (256 * p + i)) u 256
def R_page (n : Nat → Nat) (g : Nat → Nat → Int32) (x r : Int32) (n' : Nat → Nat) (g' : Nat → Nat → Int32) : Prop :=
  (¬ vp_in x 3 ∧ r = -4 ∧ n' = n ∧ g' = g) ∨ (vp_in x 3 ∧ n 0 = 12 ∧ r = -1 ∧ n' = n ∧ g' = g) ∨
  ∃ z : Nat, z < 3 ∧ x = nI z ∧ n 0 < 12 ∧ r = nI (n 0) ∧ n' = va_up n 0 (n 0 + 1) ∧ g' = va_up (va_up g 1 (blk (g 1) (256 * n 0) 256 (fm z))) 2 (upd (g 2) (n 0) (nI 63))
def R_set (n : Nat → Nat) (g : Nat → Nat → Int32) (x y u r : Int32) (g' : Nat → Nat → Int32) : Prop :=
  (¬ vp_in x (n 0) ∧ r = -2 ∧ g' = g) ∨ (vp_in x (n 0) ∧ (¬ vp_in y 256 ∨ ¬ okm u) ∧ r = -4 ∧ g' = g) ∨
  ∃ p j : Nat, p < n 0 ∧ j < 256 ∧ x = nI p ∧ y = nI j ∧ okm u ∧ ((r = 0 ∧ g' = g ∧ mf g p u ≠ -1 ∧ mf g p u ≠ nI j) ∨ (r = 1 ∧ (mf g p u = -1 ∨ mf g p u = nI j) ∧ g' = va_up g 1 (upd (g 1) (256 * p + j) u)))
def R_row (n : Nat → Nat) (g : Nat → Nat → Int32) (x y r c : Int32) : Prop :=
  (¬ (vp_in x (n 0) ∧ vp_in y 256) ∧ r = 0 ∧ c = 1) ∨ ∃ p j : Nat, p < n 0 ∧ j < 256 ∧ x = nI p ∧ y = nI j ∧ r = g 1 (256 * p + j) ∧ c = 0
def R_standIn (n : Nat → Nat) (g : Nat → Nat → Int32) (x y r : Int32) (g' : Nat → Nat → Int32) : Prop :=
  (¬ vp_in x (n 0) ∧ r = -2 ∧ g' = g) ∨ (vp_in x (n 0) ∧ ¬ vp_in y 256 ∧ r = -4 ∧ g' = g) ∨
  ∃ p j : Nat, p < n 0 ∧ j < 256 ∧ x = nI p ∧ y = nI j ∧ r = g 2 p ∧ g' = va_up g 2 (upd (g 2) p (nI j))
/-- one code j translated from page p to page q; d: how many it adds to those that were listed -/
def R_tr (n : Nat → Nat) (g : Nat → Nat → Int32) (j p q : Nat) (r : Int32) (n' : Nat → Nat) (g' : Nat → Nat → Int32) (d : Nat) : Prop :=
  (mf g q (g 1 (256 * p + j)) ≠ -1 ∧ r = mf g q (g 1 (256 * p + j)) ∧ n' = n ∧ g' = g ∧ d = 0) ∨
  (mf g q (g 1 (256 * p + j)) = -1 ∧ r = g 2 q ∧ d = 1 ∧ ((n 3 < 200 ∧ n' = va_up n 3 (n 3 + 1) ∧ g' = va_up g 11 (upd (g 11) (n 3) (nI j))) ∨ (¬ n 3 < 200 ∧ n' = n ∧ g' = g)))
def R_translate (n : Nat → Nat) (g : Nat → Nat → Int32) (x y z r : Int32) (n' : Nat → Nat) (g' : Nat → Nat → Int32) : Prop :=
  (¬ (vp_in y (n 0) ∧ vp_in z (n 0)) ∧ r = -2 ∧ n' = n ∧ g' = g) ∨ ((vp_in y (n 0) ∧ vp_in z (n 0)) ∧ ¬ vp_in x 256 ∧ r = -4 ∧ n' = n ∧ g' = g) ∨
  ∃ j p q d : Nat, j < 256 ∧ p < n 0 ∧ q < n 0 ∧ x = nI j ∧ y = nI p ∧ z = nI q ∧ R_tr n g j p q r n' g' d
def R_told (n : Nat → Nat) (g : Nat → Nat → Int32) (x r : Int32) : Prop := (¬ vp_in x (n 3) ∧ r = -1) ∨ ∃ i : Nat, i < n 3 ∧ x = nI i ∧ r = g 11 i
theorem rw_in1 {x : Int32} {n : Nat} (hn : n + 1 < 2 ^ 31) : vp_in x (n + 1) ↔ ¬ x < 0 ∧ ¬ nI n < x := by
  rw [vp_in_iff, Int32.lt_iff_toInt_lt, Int32.lt_iff_toInt_lt, nI_toInt (by omega)]
  have : (0 : Int32).toInt = 0 := by decide
  rw [this]
  omega
/-- the texts: their lengths L, their codes T -/
def mo_X (n : Nat → Nat) (g : Nat → Nat → Int32) (L : Nat → Nat) (T : Nat → Nat → Nat) : Prop := ∀ t, t < n 2 → L t ≤ 40 ∧ g 9 t = nI (L t) ∧ ∀ k, k < L t → T t k < 256 ∧ g 8 (40 * t + k) = nI (T t k)
def R_text (n : Nat → Nat) (r : Int32) (n' : Nat → Nat) : Prop := (n 2 = 40 ∧ r = -1 ∧ n' = n) ∨ (n 2 < 40 ∧ r = nI (n 2) ∧ n' = va_up n 2 (n 2 + 1))
def R_sign (n : Nat → Nat) (g : Nat → Nat → Int32) (L : Nat → Nat) (x y r : Int32) (g' : Nat → Nat → Int32) : Prop :=
  (¬ vp_in x (n 2) ∧ r = -2 ∧ g' = g) ∨ (vp_in x (n 2) ∧ ¬ vp_in y 256 ∧ r = -4 ∧ g' = g) ∨
  ∃ t j : Nat, t < n 2 ∧ j < 256 ∧ x = nI t ∧ y = nI j ∧ ((L t = 40 ∧ r = -1 ∧ g' = g) ∨ (L t < 40 ∧ r = nI (L t + 1) ∧ g' = va_up (va_up g 8 (upd (g 8) (40 * t + L t) (nI j))) 9 (upd (g 9) t (nI (L t + 1)))))
def R_at (n : Nat → Nat) (g : Nat → Nat → Int32) (L : Nat → Nat) (x y r : Int32) : Prop :=
  (¬ vp_in x (n 2) ∧ r = -1) ∨ ∃ t : Nat, t < n 2 ∧ x = nI t ∧ ((¬ vp_in y (L t) ∧ r = -1) ∨ ∃ j : Nat, j < L t ∧ y = nI j ∧ r = g 8 (40 * t + j))
/-- the code at place k of a text, filled with blanks -/
def rdn (L : Nat → Nat) (T : Nat → Nat → Nat) (t k : Nat) : Nat := if k < L t then T t k else 32
theorem rdn_lt {n : Nat → Nat} {g : Nat → Nat → Int32} {L : Nat → Nat} {T : Nat → Nat → Nat} (h : mo_X n g L T) {t : Nat} (ht : t < n 2) (k : Nat) : rdn L T t k < 256 := by
  unfold rdn
  by_cases hk : k < L t
  · rw [if_pos hk]
    exact ((h t ht).2.2 k hk).1
  · rw [if_neg hk]
    omega
end
section
/-! more of what the reference does: ranks, orders, comparing, classes, printing -/
/-- how many below c -/
def cntb (b : Nat → Bool) : Nat → Nat
  | 0 => 0
  | c + 1 => cntb b c + (if b c = true then 1 else 0)
theorem cntb_t {b : Nat → Bool} {c : Nat} (h : b c = true) : cntb b (c + 1) = cntb b c + 1 := by rw [cntb, if_pos h]
theorem cntb_f {b : Nat → Bool} {c : Nat} (h : b c = false) : cntb b (c + 1) = cntb b c := by rw [cntb, if_neg (by rw [h]; decide)]; rfl
theorem cntb_le (b : Nat → Bool) (c : Nat) : cntb b c ≤ c := by
  induction c with
  | zero => exact Nat.le_refl _
  | succ c ih =>
    rw [cntb]
    split <;> omega
def nob (g : Nat → Nat → Int32) (o d : Nat) : Bool := decide (g 5 (256 * o + d) = -1)
/-- the rank of a code -/
def rko (g : Nat → Nat → Int32) (o c : Nat) : Int32 := if g 4 o = nI 2 ∧ g 5 (256 * o + c) = -1 then g 6 o + nI (cntb (nob g o) c) else g 5 (256 * o + c)
/-- code d comes ahead of code c, by what page 0 means -/
def ahd (g : Nat → Nat → Int32) (c d : Nat) : Bool := decide (if g 1 d = -1 then g 1 c = -1 ∧ d < c else g 1 c = -1 ∨ g 1 d < g 1 c)
def mnt (n : Nat → Nat) (g : Nat → Nat → Int32) (c : Nat) : Nat := if n 0 = 0 then c else cntb (ahd g c) 256
def fo (n : Nat → Nat) (g : Nat → Nat → Int32) (z c : Nat) : Int32 := if z = 2 then -1 else if z = 0 then nI c else nI (mnt n g c)
def R_order (n : Nat → Nat) (g : Nat → Nat → Int32) (x r : Int32) (n' : Nat → Nat) (g' : Nat → Nat → Int32) : Prop :=
  (¬ vp_in x 3 ∧ r = -4 ∧ n' = n ∧ g' = g) ∨ (vp_in x 3 ∧ n 1 = 12 ∧ r = -1 ∧ n' = n ∧ g' = g) ∨
  ∃ z : Nat, z < 3 ∧ x = nI z ∧ n 1 < 12 ∧ r = nI (n 1) ∧ n' = va_up n 1 (n 1 + 1) ∧ g' = va_up (va_up (va_up g 4 (upd (g 4) (n 1) (nI z))) 6 (upd (g 6) (n 1) 0)) 5 (blk (g 5) (256 * n 1) 256 (fo n g z))
def R_ref (n : Nat → Nat) (g : Nat → Nat → Int32) (x y z r : Int32) : Prop :=
  (¬ vp_in x (n 1) ∧ r = -2) ∨ (vp_in x (n 1) ∧ ¬ (vp_in y 256 ∧ vp_in z 256) ∧ r = -4) ∨ (∃ o i j : Nat, o < n 1 ∧ i < 256 ∧ j < 256 ∧ x = nI o ∧ y = nI i ∧ z = nI j ∧ g 4 o ≠ nI 2 ∧ r = -5) ∨
  ∃ o i j : Nat, o < n 1 ∧ i < 256 ∧ j < 256 ∧ x = nI o ∧ y = nI i ∧ z = nI j ∧ g 4 o = nI 2 ∧ r = 0
def R_also (n : Nat → Nat) (g : Nat → Nat → Int32) (x y z r : Int32) (g' : Nat → Nat → Int32) : Prop :=
  (R_ref n g x y z r ∧ r ≠ 0 ∧ g' = g) ∨ ∃ o i j : Nat, o < n 1 ∧ i < 256 ∧ j < 256 ∧ x = nI o ∧ y = nI i ∧ z = nI j ∧ g 4 o = nI 2 ∧
    (((g 5 (256 * o + i) = -1 ∨ g 5 (256 * o + j) ≠ -1) ∧ r = 0 ∧ g' = g) ∨ ((g 5 (256 * o + i) ≠ -1 ∧ g 5 (256 * o + j) = -1) ∧ r = 1 ∧ g' = va_up g 5 (upd (g 5) (256 * o + j) (g 5 (256 * o + i)))))
/-- the k-th code of a range -/
def tix (up : Bool) (f k : Nat) : Nat := match up with
  | true => f + k
  | false => f - k
def tcn (up : Bool) (f t : Nat) : Nat := match up with
  | true => t - f + 1
  | false => f - t + 1
def thg (g : Nat → Nat → Int32) (o : Nat) (up : Bool) (f : Nat) : Nat → Nat → Nat → Int32
  | 0 => g
  | k + 1 => va_up (va_up (thg g o up f k) 5 (upd (thg g o up f k 5) (256 * o + tix up f k) (thg g o up f k 6 o))) 6 (upd (thg g o up f k 6) o (thg g o up f k 6 o + 1))
def R_through (n : Nat → Nat) (g : Nat → Nat → Int32) (x y z r : Int32) (g' : Nat → Nat → Int32) : Prop :=
  (R_ref n g x y z r ∧ r ≠ 0 ∧ g' = g) ∨ ∃ (o i j : Nat) (up : Bool), o < n 1 ∧ i < 256 ∧ j < 256 ∧ x = nI o ∧ y = nI i ∧ z = nI j ∧ g 4 o = nI 2 ∧ (up = true ↔ i ≤ j) ∧
    (((∃ k, k < tcn up i j ∧ g 5 (256 * o + tix up i k) ≠ -1) ∧ r = 0 ∧ g' = g) ∨ ((∀ k, k < tcn up i j → g 5 (256 * o + tix up i k) = -1) ∧ r = nI (tcn up i j) ∧ g' = thg g o up i (tcn up i j)))
def R_rank (n : Nat → Nat) (g : Nat → Nat → Int32) (x y r : Int32) : Prop :=
  (¬ vp_in x (n 1) ∧ r = -2) ∨ (vp_in x (n 1) ∧ ¬ vp_in y 256 ∧ r = -4) ∨ ∃ o j : Nat, o < n 1 ∧ j < 256 ∧ x = nI o ∧ y = nI j ∧ r = rko g o j
/-- the last one of the greatest, among 0 .. c -/
def hgh (f : Nat → Int32) : Nat → Nat
  | 0 => 0
  | c + 1 => if f (c + 1) < f (hgh f c) then hgh f c else c + 1
theorem hgh_le (f : Nat → Int32) (c : Nat) : hgh f c ≤ c := by
  induction c with
  | zero => exact Nat.le_refl _
  | succ c ih =>
    rw [hgh]
    split <;> omega
def R_high (n : Nat → Nat) (g : Nat → Nat → Int32) (x r : Int32) : Prop := (¬ vp_in x (n 1) ∧ r = -2) ∨ ∃ o : Nat, o < n 1 ∧ x = nI o ∧ r = nI (hgh (rko g o) 255)
def cmpf (f h : Nat → Int32) (k : Nat) : Nat → Int32
  | 0 => 0
  | m + 1 => if f k = h k then cmpf f h (k + 1) m else if f k < h k then -1 else 1
theorem cmpf_step {f h : Nat → Int32} {k n : Nat} (hk : k < n) : cmpf f h k (n - k) = if f k = h k then cmpf f h (k + 1) (n - (k + 1)) else if f k < h k then -1 else 1 := by
  obtain ⟨m, hm⟩ : ∃ m, n - k = m + 1 := ⟨n - k - 1, by omega⟩
  rw [hm, show n - (k + 1) = m by omega, cmpf]
theorem cmpf_end {f h : Nat → Int32} {k n : Nat} (hk : n ≤ k) : cmpf f h k (n - k) = 0 := by
  rw [show n - k = 0 by omega, cmpf]
def R_compare (n : Nat → Nat) (g : Nat → Nat → Int32) (L : Nat → Nat) (T : Nat → Nat → Nat) (x y z r : Int32) : Prop :=
  (¬ (vp_in x (n 1) ∧ vp_in y (n 2) ∧ vp_in z (n 2)) ∧ r = -2) ∨ ∃ o a b : Nat, o < n 1 ∧ a < n 2 ∧ b < n 2 ∧ x = nI o ∧ y = nI a ∧ z = nI b ∧ r = cmpf (fun k => rko g o (rdn L T a k)) (fun k => rko g o (rdn L T b k)) 0 40
/-- the first k codes of text t translated from page p to page q; d of them were listed -/
def R_wh (n : Nat → Nat) (g : Nat → Nat → Int32) (T : Nat → Nat → Nat) (t p q : Nat) : Nat → (Nat → Nat) → (Nat → Nat → Int32) → Nat → Prop
  | 0, n', g', d => n' = n ∧ g' = g ∧ d = 0
  | k + 1, n', g', d => ∃ n1 g1 d1 r n2 g2 d2, R_wh n g T t p q k n1 g1 d1 ∧ R_tr n1 g1 (T t k) p q r n2 g2 d2 ∧ n' = n2 ∧ g' = va_up g2 8 (upd (g2 8) (40 * t + k) r) ∧ d = d1 + d2
def R_whole (n : Nat → Nat) (g : Nat → Nat → Int32) (L : Nat → Nat) (T : Nat → Nat → Nat) (x y z r : Int32) (n' : Nat → Nat) (g' : Nat → Nat → Int32) : Prop :=
  (¬ (vp_in x (n 2) ∧ vp_in y (n 0) ∧ vp_in z (n 0)) ∧ r = -2 ∧ n' = n ∧ g' = g) ∨ ∃ t p q d : Nat, t < n 2 ∧ p < n 0 ∧ q < n 0 ∧ x = nI t ∧ y = nI p ∧ z = nI q ∧ r = nI d ∧ R_wh n g T t p q (L t) n' g' d
def clsf (x : Int32) (z : Nat) : Int32 := match z with
  | 0 => bz (¬ x < nI 48 ∧ ¬ nI 57 < x)
  | 1 => bz ((¬ x < nI 65 ∧ ¬ nI 90 < x) ∨ (¬ x < nI 97 ∧ ¬ nI 122 < x))
  | 2 => bz (¬ x < nI 65 ∧ ¬ nI 90 < x)
  | 3 => bz (¬ x < nI 97 ∧ ¬ nI 122 < x)
  | 4 => bz (x = nI 32)
  | _ => bz ((¬ x < 0 ∧ x < nI 32) ∨ x = nI 127)
def R_cls (x y r : Int32) : Prop := (¬ vp_in y 6 ∧ r = 0) ∨ ∃ z : Nat, z < 6 ∧ y = nI z ∧ r = clsf x z
def R_print (x y r : Int32) : Prop := (¬ vp_in x 256 ∧ r = 0) ∨ ∃ j : Nat, j < 256 ∧ x = nI j ∧ ((¬ vp_in y 3 ∧ r = 0) ∨ (y = nI 0 ∧ r = nI (hexn (j / 16))) ∨ (y = nI 1 ∧ r = nI (hexn (j % 16))) ∨ (y = nI 2 ∧ r = nI (sgnn (j % 16))))
theorem hexn_lt {q : Nat} (h : q < 16) : hexn q < 128 := by
  unfold hexn
  split <;> omega
theorem sgnn_lt (q : Nat) : sgnn q < 128 := by
  unfold sgnn
  split
  · omega
  · split <;> omega
theorem nI_dn {a b : Nat} (h : b ≤ a) : nI a + nI b * (-1) = nI (a - b) := by
  rw [← pk_sub h, Int32.mul_neg, Int32.mul_one, Int32.sub_eq_add_neg]
theorem i_cancel (a b : Int32) : a + b - a = b := by
  rw [Int32.add_comm]
  exact Int32.add_sub_cancel b a
theorem wh_B {n n2 : Nat → Nat} {g g2 : Nat → Nat → Int32} {j p q d : Nat} {r : Int32} (h : R_tr n g j p q r n2 g2 d) (hB : mo_B n) : mo_B n2 := by
  rcases h with ⟨-, -, rfl, -, -⟩ | ⟨-, -, -, ⟨h3, rfl, -⟩ | ⟨-, rfl, -⟩⟩
  · exact hB
  · exact ⟨hB.1, hB.2.1, hB.2.2.1, by show n 3 + 1 ≤ 200; omega⟩
  · exact hB
theorem wh_g {n n2 : Nat → Nat} {g g2 : Nat → Nat → Int32} {j p q d : Nat} {r : Int32} (h : R_tr n g j p q r n2 g2 d) {k : Nat} (hk : k ≠ 11) : g2 k = g k := by
  rcases h with ⟨-, -, -, rfl, -⟩ | ⟨-, -, -, ⟨-, -, rfl⟩ | ⟨-, -, rfl⟩⟩
  · rfl
  · exact va_up_ne _ _ hk
  · rfl
theorem wh_n {n n2 : Nat → Nat} {g g2 : Nat → Nat → Int32} {j p q d : Nat} {r : Int32} (h : R_tr n g j p q r n2 g2 d) {k : Nat} (hk : k ≠ 3) : n2 k = n k := by
  rcases h with ⟨-, -, rfl, -, -⟩ | ⟨-, -, -, ⟨-, rfl, -⟩ | ⟨-, rfl, -⟩⟩
  · rfl
  · exact va_up_ne _ _ hk
  · rfl
/-- what the walk over a text keeps -/
def wh_K (n : Nat → Nat) (g : Nat → Nat → Int32) (t kk : Nat) (n1 : Nat → Nat) (g1 : Nat → Nat → Int32) : Prop := n1 0 = n 0 ∧ (∀ i, g1 9 i = g 9 i) ∧ ∀ i, kk ≤ i → g1 8 (40 * t + i) = g 8 (40 * t + i)
theorem wh_k {n n1 n2 : Nat → Nat} {g g1 g2 : Nat → Nat → Int32} {t kk j p q d : Nat} {r : Int32} (hK : wh_K n g t kk n1 g1) (h : R_tr n1 g1 j p q r n2 g2 d) (x : Int32) : wh_K n g t (kk + 1) n2 (va_up g2 8 (upd (g2 8) (40 * t + kk) x)) := by
  refine ⟨(wh_n h (by decide)).trans hK.1, fun i => ?_, fun i hi => ?_⟩
  · rw [va_up_ne _ _ (by decide), wh_g h (by decide)]
    exact hK.2.1 i
  · rw [va_up_self, pk_un (by omega), wh_g h (by decide)]
    exact hK.2.2 i (by omega)
end
section
/-! pure words for the class's own orders and pages -/
theorem wh_nxt {f : Nat → Int32} {a : Nat} {h : Nat → Int32} {n : Nat} {x : Int32} (hx : x = h n) {j : Nat} (hj : j = a + n) : upd (blk f a n h) j x = blk f a (n + 1) h := by
  subst hj
  exact blk_s hx
/-- the key by which codes are sorted -/
def kx (f : Nat → Int32) (c : Nat) : Int32 := if f c = -1 then nI (65536 + c) else f c
def outb (u : Nat → Int32) (d : Nat) : Bool := decide (u d = 0)
/-- those outside, below i, ranked behind nx -/
def rto (u3 u4 : Nat → Int32) (nx : Int32) (i : Nat) : Nat → Int32 := fun j => if j < i ∧ u4 j = 0 then nx + nI (cntb (outb u4) j) else u3 j
theorem rto_0 {u3 u4 : Nat → Int32} {nx : Int32} : rto u3 u4 nx 0 = u3 := by
  funext j
  exact if_neg (by omega)
theorem rto_in {u3 u4 : Nat → Int32} {nx : Int32} {i : Nat} (h : ¬ u4 i = 0) : rto u3 u4 nx (i + 1) = rto u3 u4 nx i := by
  funext j
  unfold rto
  by_cases hj : j = i
  · subst hj
    rw [if_neg (fun q => h q.2), if_neg (fun q => h q.2)]
  · by_cases h1 : j < i ∧ u4 j = 0
    · rw [if_pos h1, if_pos ⟨by omega, h1.2⟩]
    · rw [if_neg h1, if_neg (fun q => h1 ⟨by omega, q.2⟩)]
theorem rto_out {u3 u4 : Nat → Int32} {nx w : Int32} {i : Nat} (h : u4 i = 0) (hw : w = nx + nI (cntb (outb u4) i)) : upd (rto u3 u4 nx i) i w = rto u3 u4 nx (i + 1) := by
  subst hw
  funext j
  by_cases hj : j = i
  · subst hj
    rw [pk_us]
    unfold rto
    rw [if_pos ⟨by omega, h⟩]
  · rw [pk_un hj]
    unfold rto
    by_cases h1 : j < i ∧ u4 j = 0
    · rw [if_pos h1, if_pos ⟨by omega, h1.2⟩]
    · rw [if_neg h1, if_neg (fun q => h1 ⟨by omega, q.2⟩)]
theorem abs_up {a b : Nat} (h : b ≤ a) (ha : a < 2 ^ 30) : (if 0 ≤ nI a - nI b then nI a - nI b else 0 - (nI a - nI b)) = nI (a - b) := by
  rw [pk_sub h, if_pos (nI_pos' (by omega))]
theorem abs_dn {a b : Nat} (h : a ≤ b) (hb : b < 2 ^ 30) : (if 0 ≤ nI a - nI b then nI a - nI b else 0 - (nI a - nI b)) = nI (b - a) := by
  by_cases he : a = b
  · subst he
    exact abs_up (Nat.le_refl _) hb
  · have h1 : nI a - nI b < 0 := pk_sneg hb (by omega)
    rw [if_neg (Int32.not_le.mpr h1), ← pk_sub h]
    apply Int32.toBitVec_inj.mp
    simp
/-- the distance of the i-th code of a range from its start -/
def dst (up : Bool) (f t i : Nat) : Nat := match up with
  | true => i
  | false => f - t - i
def tlo (up : Bool) (f t : Nat) : Nat := match up with
  | true => f
  | false => t
theorem max_up {a b : Nat} (h : a ≤ b) (hb : b < 2 ^ 31) : (if nI a < nI b then nI b else nI a) = nI b := by
  by_cases he : a = b
  · subst he
    split <;> rfl
  · rw [if_pos (nI_lt (by omega) hb)]
theorem tag_no {M : mw} {a b : Nat} (h : M a = none) {e : va_E} (hb : M b = some e) : a ≠ b := fun q => by rw [q, hb] at h; cases h
end
section
/-! sorting by insertion: K the keys; s the codes in their order -/
theorem cntb_ext {b b' : Nat → Bool} : ∀ {c : Nat}, (∀ y, y < c → b y = b' y) → cntb b c = cntb b' c
  | 0, _ => rfl
  | c + 1, h => by
    rw [cntb, cntb, cntb_ext (fun y hy => h y (by omega)), h c (by omega)]
theorem cntb_add {b b' : Nat → Bool} {x : Nat} (hb : b x = false) (hb' : b' x = true) (he : ∀ y, y ≠ x → b' y = b y) : ∀ {c : Nat}, x < c → cntb b' c = cntb b c + 1
  | 0, h => absurd h (Nat.not_lt_zero _)
  | c + 1, h => by
    by_cases hx : x = c
    · subst hx
      rw [cntb, cntb, cntb_ext (b := b') (b' := b) (fun y hy => he y (by omega)), hb, hb']
      simp
    · rw [cntb, cntb, cntb_add hb hb' he (show x < c by omega), he c (by omega)]
      omega
theorem cntb_no {b : Nat → Bool} : ∀ {c : Nat}, (∀ y, y < c → b y = false) → cntb b c = 0
  | 0, _ => rfl
  | c + 1, h => by
    rw [cntb, cntb_no (fun y hy => h y (by omega)), h c (by omega)]
    simp
def ltb (K : Nat → Int) (x y : Nat) : Bool := decide (K y < K x)
def srt (K : Nat → Int) (s : Nat → Nat) (c : Nat) : Prop := (∀ i, i < c → s i < c) ∧ (∀ i j, i < j → j < c → K (s i) < K (s j)) ∧ (∀ x, x < c → ∃ i, i < c ∧ s i = x) ∧ ∀ i, i < c → cntb (ltb K (s i)) c = i
def insn (s : Nat → Nat) (p c : Nat) : Nat → Nat := fun j => if j < p then s j else if j = p then c else s (j - 1)
theorem insn_lo {s : Nat → Nat} {p c j : Nat} (h : j < p) : insn s p c j = s j := if_pos h
theorem insn_at {s : Nat → Nat} {p c : Nat} : insn s p c p = c := by
  unfold insn
  rw [if_neg (by omega), if_pos rfl]
theorem insn_hi {s : Nat → Nat} {p c j : Nat} (h : p ≤ j) : insn s p c (j + 1) = s j := by
  unfold insn
  rw [if_neg (by omega), if_neg (by omega)]
  rfl
theorem srt_0 {K : Nat → Int} {s : Nat → Nat} : srt K s 0 := ⟨fun _ h => absurd h (Nat.not_lt_zero _), fun _ _ _ h => absurd h (Nat.not_lt_zero _), fun _ h => absurd h (Nat.not_lt_zero _), fun _ h => absurd h (Nat.not_lt_zero _)⟩
theorem srt_ins {K : Nat → Int} {s : Nat → Nat} {c p : Nat} (h : srt K s c) (hp : p ≤ c) (hhi : ∀ j, p ≤ j → j < c → K c < K (s j)) (hlo : p = 0 ∨ K (s (p - 1)) < K c) : srt K (insn s p c) (c + 1) := by
  obtain ⟨h1, h2, h3, h4⟩ := h
  have lo : ∀ j, j < p → K (s j) < K c := by
    intro j hj
    rcases hlo with h0 | h0
    · omega
    · by_cases hj1 : j = p - 1
      · rw [hj1]
        exact h0
      · exact Int.lt_trans (h2 j (p - 1) (by omega) (by omega)) h0
  -- how many are below c
  have hc : cntb (ltb K c) c = p := by
    by_cases h0 : p = 0
    · rw [h0]
      refine cntb_no (fun y hy => ?_)
      obtain ⟨i, hi, rfl⟩ := h3 y hy
      have := hhi i (by omega) hi
      exact decide_eq_false (by omega)
    · have hx := h1 (p - 1) (by omega)
      have key : cntb (ltb K c) c = cntb (ltb K (s (p - 1))) c + 1 := by
        have e1 : cntb (ltb K c) c = cntb (fun y => ltb K (s (p - 1)) y || decide (y = s (p - 1))) c := by
          refine cntb_ext (fun y hy => ?_)
          obtain ⟨i, hi, rfl⟩ := h3 y hy
          by_cases hip : i < p
          · have g1 := lo i hip
            by_cases hi1 : i = p - 1
            · rw [hi1]
              rw [hi1] at g1
              simp [ltb, g1]
            · have g2 := h2 i (p - 1) (by omega) (by omega)
              simp [ltb, g1, g2]
          · have g1 := hhi i (by omega) hi
            have g2 := h2 (p - 1) i (by omega) hi
            have g3 : s i ≠ s (p - 1) := fun q => by rw [q] at g2; omega
            have g4 : ¬ K (s i) < K c := by omega
            have g5 : ¬ K (s i) < K (s (p - 1)) := by omega
            simp [ltb, g3, g4, g5]
        rw [e1]
        refine cntb_add (x := s (p - 1)) ?_ ?_ (fun y hy => ?_) hx
        · exact decide_eq_false (by omega)
        · simp
        · simp [hy]
      rw [key, h4 (p - 1) (by omega)]
      omega
  refine ⟨fun i hi => ?_, fun i j hij hj => ?_, fun x hx => ?_, fun i hi => ?_⟩
  · by_cases g1 : i < p
    · rw [insn_lo g1]
      have := h1 i (by omega)
      omega
    · by_cases g2 : i = p
      · subst g2
        rw [insn_at]
        omega
      · obtain ⟨j, rfl⟩ : ∃ j, i = j + 1 := ⟨i - 1, by omega⟩
        rw [insn_hi (by omega)]
        have := h1 j (by omega)
        omega
  · by_cases g1 : i < p
    · rw [insn_lo g1]
      by_cases g2 : j < p
      · rw [insn_lo g2]
        exact h2 i j hij (by omega)
      · by_cases g3 : j = p
        · subst g3
          rw [insn_at]
          exact lo i g1
        · obtain ⟨j', rfl⟩ : ∃ j', j = j' + 1 := ⟨j - 1, by omega⟩
          rw [insn_hi (by omega)]
          exact Int.lt_trans (lo i g1) (hhi j' (by omega) (by omega))
    · by_cases g2 : i = p
      · subst g2
        rw [insn_at]
        obtain ⟨j', rfl⟩ : ∃ j', j = j' + 1 := ⟨j - 1, by omega⟩
        rw [insn_hi (by omega)]
        exact hhi j' (by omega) (by omega)
      · obtain ⟨i', rfl⟩ : ∃ i', i = i' + 1 := ⟨i - 1, by omega⟩
        obtain ⟨j', rfl⟩ : ∃ j', j = j' + 1 := ⟨j - 1, by omega⟩
        rw [insn_hi (by omega), insn_hi (by omega)]
        exact h2 i' j' (by omega) (by omega)
  · by_cases g1 : x = c
    · subst g1
      exact ⟨p, by omega, insn_at⟩
    · obtain ⟨i, hi, rfl⟩ := h3 x (by omega)
      by_cases g2 : i < p
      · exact ⟨i, by omega, insn_lo g2⟩
      · exact ⟨i + 1, by omega, insn_hi (by omega)⟩
  · by_cases g1 : i < p
    · rw [insn_lo g1]
      have g3 := lo i g1
      rw [cntb_f (show ltb K (s i) c = false from decide_eq_false (by omega))]
      exact h4 i (by omega)
    · by_cases g2 : i = p
      · subst g2
        rw [insn_at, cntb_f (show ltb K c c = false from decide_eq_false (by omega))]
        exact hc
      · obtain ⟨i', rfl⟩ : ∃ i', i = i' + 1 := ⟨i - 1, by omega⟩
        rw [insn_hi (by omega)]
        have g3 := hhi i' (by omega) (by omega)
        rw [cntb_t (show ltb K (s i') c = true from decide_eq_true g3), h4 i' (by omega)]
theorem nI_sub1 {p : Nat} (h : 0 < p) : nI p - 1 = nI (p - 1) := by
  obtain ⟨q, rfl⟩ : ∃ q, p = q + 1 := ⟨p - 1, by omega⟩
  exact nI_pred q
def Kx (f : Nat → Int32) (c : Nat) : Int := (kx f c).toInt
theorem lo_of {f : Nat → Int32} (hK : ∀ x y, x < 256 → y < 256 → kx f x = kx f y → x = y) {c x : Nat} (hc : c < 256) (hx : x < 256) (hne : x ≠ c) (h : kx f x ≤ kx f c) : Kx f x < Kx f c := by
  have h1 : (kx f x).toInt ≤ (kx f c).toInt := Int32.le_iff_toInt_le.mp h
  have h2 : (kx f x).toInt ≠ (kx f c).toInt := fun q => hne (hK x c hx hc (Int32.toInt_inj.mp q))
  unfold Kx
  omega
theorem ins_F {F1 : Nat → Int32} {s : Nat → Nat} {p c : Nat} (h1 : ∀ j, j < p → F1 j = nI (s j)) (h2 : ∀ j, p ≤ j → j < c → F1 (j + 1) = nI (s j)) : ∀ i, i < c + 1 → upd F1 p (nI c) i = nI (insn s p c i) := by
  intro i hi
  by_cases g1 : i < p
  · rw [pk_un (by omega), insn_lo g1, h1 i g1]
  · by_cases g2 : i = p
    · subst g2
      rw [pk_us, insn_at]
    · obtain ⟨j, rfl⟩ : ∃ j, i = j + 1 := ⟨i - 1, by omega⟩
      rw [pk_un g2, insn_hi (by omega), h2 j (by omega) (by omega)]
theorem sh_lo {F1 : Nat → Int32} {s : Nat → Nat} {p : Nat} {x : Int32} (h1 : ∀ j, j < p → F1 j = nI (s j)) (hp : 0 < p) : ∀ j, j < p - 1 → upd F1 p x j = nI (s j) := fun j hj => by rw [pk_un (by omega), h1 j (by omega)]
theorem sh_hi {F1 : Nat → Int32} {s : Nat → Nat} {p c : Nat} (h1 : ∀ j, j < p → F1 j = nI (s j)) (h2 : ∀ j, p ≤ j → j < c → F1 (j + 1) = nI (s j)) (hp : 0 < p) : ∀ j, p - 1 ≤ j → j < c → upd F1 p (F1 (p - 1)) (j + 1) = nI (s j) := fun j hj hc => by
  by_cases g : j = p - 1
  · subst g
    rw [show p - 1 + 1 = p by omega, pk_us, h1 (p - 1) (by omega)]
  · rw [pk_un (by omega), h2 j (by omega) hc]
theorem sh_k {f : Nat → Int32} {s : Nat → Nat} {p c : Nat} (h : ∀ j, p ≤ j → j < c → Kx f c < Kx f (s j)) (hp : 0 < p) (h1 : Kx f c < Kx f (s (p - 1))) : ∀ j, p - 1 ≤ j → j < c → Kx f c < Kx f (s j) := fun j hj hc => by
  by_cases g : j = p - 1
  · subst g
    exact h1
  · exact h j (by omega) hc
theorem rk_step {K : Nat → Int} {s : Nat → Nat} {R3 : Nat → Int32} {kk : Nat} (hs : srt K s 256) (h : ∀ i, i < kk → R3 (s i) = nI i) (hk : kk < 256) : ∀ i, i < kk + 1 → upd R3 (s kk) (nI kk) (s i) = nI i := by
  intro i hi
  by_cases g : i = kk
  · subst g
    exact pk_us
  · have := hs.2.1 i kk (by omega) hk
    rw [pk_un (fun q => by rw [q] at this; omega), h i (by omega)]
theorem rk_end {K : Nat → Int} {s : Nat → Nat} {R3 : Nat → Int32} (hs : srt K s 256) (h : ∀ i, i < 256 → R3 (s i) = nI i) : ∀ x, x < 256 → R3 x = nI (cntb (ltb K x) 256) := by
  intro x hx
  obtain ⟨i, hi, rfl⟩ := hs.2.2.1 x hx
  rw [h i hi, hs.2.2.2 i hi]
end
section
/-! THE CLASS'S CELLS: h its object and four arrays, b the objects and arrays of pages (1, 2), orders (3, 4, 5), texts (6, 7); n how many; c what they hold; T says of an address what it is -/
def up3 (c : Nat → Nat → Nat → Int32) (j i : Nat) (f : Nat → Int32) : Nat → Nat → Nat → Int32 := va_up c j (va_up (c j) i f)
theorem up3_s {c : Nat → Nat → Nat → Int32} {j i : Nat} {f : Nat → Int32} : up3 c j i f j i = f := by unfold up3; rw [va_up_self, va_up_self]
theorem up3_n {c : Nat → Nat → Nat → Int32} {j i q : Nat} {f : Nat → Int32} (h : q ≠ i) : up3 c j i f j q = c j q := by unfold up3; rw [va_up_self, va_up_ne _ _ h]
theorem up3_o {c : Nat → Nat → Nat → Int32} {j i q : Nat} {f : Nat → Int32} (h : q ≠ j) : up3 c j i f q = c q := by unfold up3; rw [va_up_ne _ _ h]
abbrev cp_r (h n : Nat → Nat) : va_E := .inr (4, [.ref (h 1), .ref (h 2), .ref (h 3), .ref (h 4), .int (nI (n 0)), .int (nI (n 1)), .int (nI (n 2)), .int (nI (n 3))])
abbrev cp_pg (b : Nat → Nat → Nat) (c : Nat → Nat → Nat → Int32) (p : Nat) : va_E := .inr (2, [.ref (b 2 p), .int (c 2 p 0)])
abbrev cp_or (b : Nat → Nat → Nat) (c : Nat → Nat → Nat → Int32) (o : Nat) : va_E := .inr (1, [.int (c 6 o 0), .ref (b 4 o), .ref (b 5 o), .int (c 5 o 0)])
abbrev cp_tx (b : Nat → Nat → Nat) (c : Nat → Nat → Nat → Int32) (t : Nat) : va_E := .inr (3, [.ref (b 7 t), .int (c 8 t 0)])
def cp_R (k : Nat → ClassId) (h : Nat → Nat) (b : Nat → Nat → Nat) (n : Nat → Nat) (c : Nat → Nat → Nat → Int32) (M : mw) : Prop :=
  (M (h 0) = some (cp_r h n) ∧ M (h 1) = some (cp_q (k 2) 12 (n 0) (b 1)) ∧ M (h 2) = some (cp_q (k 3) 12 (n 1) (b 3)) ∧ M (h 3) = some (cp_q (k 4) 40 (n 2) (b 6)) ∧ M (h 4) = some (.inl (k 0, 200, .inl (c 9 0)))) ∧
  (∀ p, p < n 0 → M (b 1 p) = some (cp_pg b c p) ∧ M (b 2 p) = some (.inl (k 0, 256, .inl (c 1 p)))) ∧
  (∀ o, o < n 1 → M (b 3 o) = some (cp_or b c o) ∧ M (b 4 o) = some (.inl (k 0, 256, .inl (c 3 o))) ∧ M (b 5 o) = some (.inl (k 1, 256, .inl (c 4 o)))) ∧
  (∀ t, t < n 2 → M (b 6 t) = some (cp_tx b c t) ∧ M (b 7 t) = some (.inl (k 0, 40, .inl (c 7 t))))
def cp_T (h : Nat → Nat) (b : Nat → Nat → Nat) (T : Nat → Nat × Nat) (n : Nat → Nat) : Prop :=
  (∀ j, j < 5 → T (h j) = (0, j)) ∧ (∀ p, p < n 0 → T (b 1 p) = (1, p) ∧ T (b 2 p) = (2, p)) ∧ (∀ o, o < n 1 → T (b 3 o) = (3, o) ∧ T (b 4 o) = (4, o) ∧ T (b 5 o) = (5, o)) ∧ (∀ t, t < n 2 → T (b 6 t) = (6, t) ∧ T (b 7 t) = (7, t))
theorem tg {T : Nat → Nat × Nat} {x y : Nat} {a b : Nat × Nat} (hx : T x = a) (hy : T y = b) (h : a ≠ b) : x ≠ y := fun e => h (by rw [← hx, ← hy, e])
theorem q_add {n : Nat} {pa : Nat → Nat} {a : Nat} : va_up (fun p => if p < n then some (pa p) else none) n (some a) = fun p => if p < n + 1 then some (va_up pa n a p) else none := by
  funext p
  by_cases h : p = n
  · subst h
    rw [va_up_self, if_pos (by omega), va_up_self]
  · rw [va_up_ne _ _ h, va_up_ne _ _ h]
    by_cases h2 : p < n
    · rw [if_pos h2, if_pos (by omega)]
    · rw [if_neg h2, if_neg (by omega)]
def up2 (b : Nat → Nat → Nat) (j i a : Nat) : Nat → Nat → Nat := va_up b j (va_up (b j) i a)
theorem up2_s {b : Nat → Nat → Nat} {j i a : Nat} : up2 b j i a j i = a := by unfold up2; rw [va_up_self, va_up_self]
theorem up2_n {b : Nat → Nat → Nat} {j i q a : Nat} (h : q ≠ i) : up2 b j i a j q = b j q := by unfold up2; rw [va_up_self, va_up_ne _ _ h]
theorem up2_o {b : Nat → Nat → Nat} {j i q a : Nat} (h : q ≠ j) : up2 b j i a q = b q := by unfold up2; rw [va_up_ne _ _ h]
section CP
variable {k : Nat → ClassId} {h : Nat → Nat} {b : Nat → Nat → Nat} {T : Nat → Nat × Nat} {n : Nat → Nat} {c : Nat → Nat → Nat → Int32} {M M1 : mw}
theorem cp_fix {M : mw} {a : Nat} {e e2 : va_E} (h : M a = some e) (he : e = e2) : M a = some e2 := he ▸ h
theorem cp_set1 (hR : cp_R k h b n c M) (hT : cp_T h b T n) {p : Nat} (hp : p < n 0) {f : Nat → Int32} (g1 : M1 (b 2 p) = some (.inl (k 0, 256, .inl f))) (hf : ∀ x, x ≠ b 2 p → M1 x = M x) : cp_R k h b n (up3 c 1 p f) M1 := by
  refine ⟨⟨(hf _ (tg (hT.1 0 (by decide)) (hT.2.1 p hp).2 (by simp))).trans hR.1.1, (hf _ (tg (hT.1 1 (by decide)) (hT.2.1 p hp).2 (by simp))).trans hR.1.2.1, (hf _ (tg (hT.1 2 (by decide)) (hT.2.1 p hp).2 (by simp))).trans hR.1.2.2.1, (hf _ (tg (hT.1 3 (by decide)) (hT.2.1 p hp).2 (by simp))).trans hR.1.2.2.2.1, (hf _ (tg (hT.1 4 (by decide)) (hT.2.1 p hp).2 (by simp))).trans hR.1.2.2.2.2⟩, ?_, ?_, ?_⟩
  · intro p9 hp9
    by_cases hq : p9 = p
    · subst hq
      refine ⟨?_, ?_⟩
      · exact cp_fix ((hf _ (tg (hT.2.1 p9 hp9).1 (hT.2.1 p9 hp9).2 (by simp))).trans (hR.2.1 p9 hp9).1) (by simp [cp_pg, cp_or, cp_tx, up3, va_up])
      · exact cp_fix (g1) (by simp [cp_pg, cp_or, cp_tx, up3, va_up])
    · refine ⟨?_, ?_⟩
      · exact cp_fix ((hf _ (tg (hT.2.1 p9 hp9).1 (hT.2.1 p hp).2 (by simp))).trans (hR.2.1 p9 hp9).1) (by simp [cp_pg, cp_or, cp_tx, up3, va_up, hq])
      · exact cp_fix ((hf _ (tg (hT.2.1 p9 hp9).2 (hT.2.1 p hp).2 (by simp [hq]))).trans (hR.2.1 p9 hp9).2) (by simp [cp_pg, cp_or, cp_tx, up3, va_up, hq])
  · intro o9 ho9
    refine ⟨?_, ?_, ?_⟩
    · exact cp_fix ((hf _ (tg (hT.2.2.1 o9 ho9).1 (hT.2.1 p hp).2 (by simp))).trans (hR.2.2.1 o9 ho9).1) (by simp [cp_pg, cp_or, cp_tx, up3, va_up])
    · exact cp_fix ((hf _ (tg (hT.2.2.1 o9 ho9).2.1 (hT.2.1 p hp).2 (by simp))).trans (hR.2.2.1 o9 ho9).2.1) (by simp [cp_pg, cp_or, cp_tx, up3, va_up])
    · exact cp_fix ((hf _ (tg (hT.2.2.1 o9 ho9).2.2 (hT.2.1 p hp).2 (by simp))).trans (hR.2.2.1 o9 ho9).2.2) (by simp [cp_pg, cp_or, cp_tx, up3, va_up])
  · intro t9 ht9
    refine ⟨?_, ?_⟩
    · exact cp_fix ((hf _ (tg (hT.2.2.2 t9 ht9).1 (hT.2.1 p hp).2 (by simp))).trans (hR.2.2.2 t9 ht9).1) (by simp [cp_pg, cp_or, cp_tx, up3, va_up])
    · exact cp_fix ((hf _ (tg (hT.2.2.2 t9 ht9).2 (hT.2.1 p hp).2 (by simp))).trans (hR.2.2.2 t9 ht9).2) (by simp [cp_pg, cp_or, cp_tx, up3, va_up])

theorem cp_set2 (hR : cp_R k h b n c M) (hT : cp_T h b T n) {p : Nat} (hp : p < n 0) {x : Int32} (g1 : M1 (b 1 p) = some (.inr (2, [.ref (b 2 p), .int x]))) (hf : ∀ x, x ≠ b 1 p → M1 x = M x) : cp_R k h b n (up3 c 2 p (fun _ => x)) M1 := by
  refine ⟨⟨(hf _ (tg (hT.1 0 (by decide)) (hT.2.1 p hp).1 (by simp))).trans hR.1.1, (hf _ (tg (hT.1 1 (by decide)) (hT.2.1 p hp).1 (by simp))).trans hR.1.2.1, (hf _ (tg (hT.1 2 (by decide)) (hT.2.1 p hp).1 (by simp))).trans hR.1.2.2.1, (hf _ (tg (hT.1 3 (by decide)) (hT.2.1 p hp).1 (by simp))).trans hR.1.2.2.2.1, (hf _ (tg (hT.1 4 (by decide)) (hT.2.1 p hp).1 (by simp))).trans hR.1.2.2.2.2⟩, ?_, ?_, ?_⟩
  · intro p9 hp9
    by_cases hq : p9 = p
    · subst hq
      refine ⟨?_, ?_⟩
      · exact cp_fix (g1) (by simp [cp_pg, cp_or, cp_tx, up3, va_up])
      · exact cp_fix ((hf _ (tg (hT.2.1 p9 hp9).2 (hT.2.1 p9 hp9).1 (by simp))).trans (hR.2.1 p9 hp9).2) (by simp [cp_pg, cp_or, cp_tx, up3, va_up])
    · refine ⟨?_, ?_⟩
      · exact cp_fix ((hf _ (tg (hT.2.1 p9 hp9).1 (hT.2.1 p hp).1 (by simp [hq]))).trans (hR.2.1 p9 hp9).1) (by simp [cp_pg, cp_or, cp_tx, up3, va_up, hq])
      · exact cp_fix ((hf _ (tg (hT.2.1 p9 hp9).2 (hT.2.1 p hp).1 (by simp))).trans (hR.2.1 p9 hp9).2) (by simp [cp_pg, cp_or, cp_tx, up3, va_up, hq])
  · intro o9 ho9
    refine ⟨?_, ?_, ?_⟩
    · exact cp_fix ((hf _ (tg (hT.2.2.1 o9 ho9).1 (hT.2.1 p hp).1 (by simp))).trans (hR.2.2.1 o9 ho9).1) (by simp [cp_pg, cp_or, cp_tx, up3, va_up])
    · exact cp_fix ((hf _ (tg (hT.2.2.1 o9 ho9).2.1 (hT.2.1 p hp).1 (by simp))).trans (hR.2.2.1 o9 ho9).2.1) (by simp [cp_pg, cp_or, cp_tx, up3, va_up])
    · exact cp_fix ((hf _ (tg (hT.2.2.1 o9 ho9).2.2 (hT.2.1 p hp).1 (by simp))).trans (hR.2.2.1 o9 ho9).2.2) (by simp [cp_pg, cp_or, cp_tx, up3, va_up])
  · intro t9 ht9
    refine ⟨?_, ?_⟩
    · exact cp_fix ((hf _ (tg (hT.2.2.2 t9 ht9).1 (hT.2.1 p hp).1 (by simp))).trans (hR.2.2.2 t9 ht9).1) (by simp [cp_pg, cp_or, cp_tx, up3, va_up])
    · exact cp_fix ((hf _ (tg (hT.2.2.2 t9 ht9).2 (hT.2.1 p hp).1 (by simp))).trans (hR.2.2.2 t9 ht9).2) (by simp [cp_pg, cp_or, cp_tx, up3, va_up])

theorem cp_cod (hR : cp_R k h b n c M) (hT : cp_T h b T n) {t : Nat} (ht : t < n 2) {f : Nat → Int32} (g1 : M1 (b 7 t) = some (.inl (k 0, 40, .inl f))) (hf : ∀ x, x ≠ b 7 t → M1 x = M x) : cp_R k h b n (up3 c 7 t f) M1 := by
  refine ⟨⟨(hf _ (tg (hT.1 0 (by decide)) (hT.2.2.2 t ht).2 (by simp))).trans hR.1.1, (hf _ (tg (hT.1 1 (by decide)) (hT.2.2.2 t ht).2 (by simp))).trans hR.1.2.1, (hf _ (tg (hT.1 2 (by decide)) (hT.2.2.2 t ht).2 (by simp))).trans hR.1.2.2.1, (hf _ (tg (hT.1 3 (by decide)) (hT.2.2.2 t ht).2 (by simp))).trans hR.1.2.2.2.1, (hf _ (tg (hT.1 4 (by decide)) (hT.2.2.2 t ht).2 (by simp))).trans hR.1.2.2.2.2⟩, ?_, ?_, ?_⟩
  · intro p9 hp9
    refine ⟨?_, ?_⟩
    · exact cp_fix ((hf _ (tg (hT.2.1 p9 hp9).1 (hT.2.2.2 t ht).2 (by simp))).trans (hR.2.1 p9 hp9).1) (by simp [cp_pg, cp_or, cp_tx, up3, va_up])
    · exact cp_fix ((hf _ (tg (hT.2.1 p9 hp9).2 (hT.2.2.2 t ht).2 (by simp))).trans (hR.2.1 p9 hp9).2) (by simp [cp_pg, cp_or, cp_tx, up3, va_up])
  · intro o9 ho9
    refine ⟨?_, ?_, ?_⟩
    · exact cp_fix ((hf _ (tg (hT.2.2.1 o9 ho9).1 (hT.2.2.2 t ht).2 (by simp))).trans (hR.2.2.1 o9 ho9).1) (by simp [cp_pg, cp_or, cp_tx, up3, va_up])
    · exact cp_fix ((hf _ (tg (hT.2.2.1 o9 ho9).2.1 (hT.2.2.2 t ht).2 (by simp))).trans (hR.2.2.1 o9 ho9).2.1) (by simp [cp_pg, cp_or, cp_tx, up3, va_up])
    · exact cp_fix ((hf _ (tg (hT.2.2.1 o9 ho9).2.2 (hT.2.2.2 t ht).2 (by simp))).trans (hR.2.2.1 o9 ho9).2.2) (by simp [cp_pg, cp_or, cp_tx, up3, va_up])
  · intro t9 ht9
    by_cases hq : t9 = t
    · subst hq
      refine ⟨?_, ?_⟩
      · exact cp_fix ((hf _ (tg (hT.2.2.2 t9 ht9).1 (hT.2.2.2 t9 ht9).2 (by simp))).trans (hR.2.2.2 t9 ht9).1) (by simp [cp_pg, cp_or, cp_tx, up3, va_up])
      · exact cp_fix (g1) (by simp [cp_pg, cp_or, cp_tx, up3, va_up])
    · refine ⟨?_, ?_⟩
      · exact cp_fix ((hf _ (tg (hT.2.2.2 t9 ht9).1 (hT.2.2.2 t ht).2 (by simp))).trans (hR.2.2.2 t9 ht9).1) (by simp [cp_pg, cp_or, cp_tx, up3, va_up, hq])
      · exact cp_fix ((hf _ (tg (hT.2.2.2 t9 ht9).2 (hT.2.2.2 t ht).2 (by simp [hq]))).trans (hR.2.2.2 t9 ht9).2) (by simp [cp_pg, cp_or, cp_tx, up3, va_up, hq])

theorem cp_sgn (hR : cp_R k h b n c M) (hT : cp_T h b T n) {t : Nat} (ht : t < n 2) {f : Nat → Int32} {x : Int32} (g1 : M1 (b 7 t) = some (.inl (k 0, 40, .inl f))) (g2 : M1 (b 6 t) = some (.inr (3, [.ref (b 7 t), .int x]))) (hf : ∀ x, x ≠ b 7 t → x ≠ b 6 t → M1 x = M x) : cp_R k h b n (up3 (up3 c 7 t f) 8 t (fun _ => x)) M1 := by
  refine ⟨⟨(hf _ (tg (hT.1 0 (by decide)) (hT.2.2.2 t ht).2 (by simp)) (tg (hT.1 0 (by decide)) (hT.2.2.2 t ht).1 (by simp))).trans hR.1.1, (hf _ (tg (hT.1 1 (by decide)) (hT.2.2.2 t ht).2 (by simp)) (tg (hT.1 1 (by decide)) (hT.2.2.2 t ht).1 (by simp))).trans hR.1.2.1, (hf _ (tg (hT.1 2 (by decide)) (hT.2.2.2 t ht).2 (by simp)) (tg (hT.1 2 (by decide)) (hT.2.2.2 t ht).1 (by simp))).trans hR.1.2.2.1, (hf _ (tg (hT.1 3 (by decide)) (hT.2.2.2 t ht).2 (by simp)) (tg (hT.1 3 (by decide)) (hT.2.2.2 t ht).1 (by simp))).trans hR.1.2.2.2.1, (hf _ (tg (hT.1 4 (by decide)) (hT.2.2.2 t ht).2 (by simp)) (tg (hT.1 4 (by decide)) (hT.2.2.2 t ht).1 (by simp))).trans hR.1.2.2.2.2⟩, ?_, ?_, ?_⟩
  · intro p9 hp9
    refine ⟨?_, ?_⟩
    · exact cp_fix ((hf _ (tg (hT.2.1 p9 hp9).1 (hT.2.2.2 t ht).2 (by simp)) (tg (hT.2.1 p9 hp9).1 (hT.2.2.2 t ht).1 (by simp))).trans (hR.2.1 p9 hp9).1) (by simp [cp_pg, cp_or, cp_tx, up3, va_up])
    · exact cp_fix ((hf _ (tg (hT.2.1 p9 hp9).2 (hT.2.2.2 t ht).2 (by simp)) (tg (hT.2.1 p9 hp9).2 (hT.2.2.2 t ht).1 (by simp))).trans (hR.2.1 p9 hp9).2) (by simp [cp_pg, cp_or, cp_tx, up3, va_up])
  · intro o9 ho9
    refine ⟨?_, ?_, ?_⟩
    · exact cp_fix ((hf _ (tg (hT.2.2.1 o9 ho9).1 (hT.2.2.2 t ht).2 (by simp)) (tg (hT.2.2.1 o9 ho9).1 (hT.2.2.2 t ht).1 (by simp))).trans (hR.2.2.1 o9 ho9).1) (by simp [cp_pg, cp_or, cp_tx, up3, va_up])
    · exact cp_fix ((hf _ (tg (hT.2.2.1 o9 ho9).2.1 (hT.2.2.2 t ht).2 (by simp)) (tg (hT.2.2.1 o9 ho9).2.1 (hT.2.2.2 t ht).1 (by simp))).trans (hR.2.2.1 o9 ho9).2.1) (by simp [cp_pg, cp_or, cp_tx, up3, va_up])
    · exact cp_fix ((hf _ (tg (hT.2.2.1 o9 ho9).2.2 (hT.2.2.2 t ht).2 (by simp)) (tg (hT.2.2.1 o9 ho9).2.2 (hT.2.2.2 t ht).1 (by simp))).trans (hR.2.2.1 o9 ho9).2.2) (by simp [cp_pg, cp_or, cp_tx, up3, va_up])
  · intro t9 ht9
    by_cases hq : t9 = t
    · subst hq
      refine ⟨?_, ?_⟩
      · exact cp_fix (g2) (by simp [cp_pg, cp_or, cp_tx, up3, va_up])
      · exact cp_fix (g1) (by simp [cp_pg, cp_or, cp_tx, up3, va_up])
    · refine ⟨?_, ?_⟩
      · exact cp_fix ((hf _ (tg (hT.2.2.2 t9 ht9).1 (hT.2.2.2 t ht).2 (by simp)) (tg (hT.2.2.2 t9 ht9).1 (hT.2.2.2 t ht).1 (by simp [hq]))).trans (hR.2.2.2 t9 ht9).1) (by simp [cp_pg, cp_or, cp_tx, up3, va_up, hq])
      · exact cp_fix ((hf _ (tg (hT.2.2.2 t9 ht9).2 (hT.2.2.2 t ht).2 (by simp [hq])) (tg (hT.2.2.2 t9 ht9).2 (hT.2.2.2 t ht).1 (by simp))).trans (hR.2.2.2 t9 ht9).2) (by simp [cp_pg, cp_or, cp_tx, up3, va_up, hq])

theorem cp_ord (hR : cp_R k h b n c M) (hT : cp_T h b T n) {o : Nat} (ho : o < n 1) {f3 f4 : Nat → Int32} {x : Int32} (g1 : M1 (b 3 o) = some (.inr (1, [.int (c 6 o 0), .ref (b 4 o), .ref (b 5 o), .int x]))) (g2 : M1 (b 4 o) = some (.inl (k 0, 256, .inl f3))) (g3 : M1 (b 5 o) = some (.inl (k 1, 256, .inl f4))) (hf : ∀ x, x ≠ b 3 o → x ≠ b 4 o → x ≠ b 5 o → M1 x = M x) : cp_R k h b n (up3 (up3 (up3 c 3 o f3) 4 o f4) 5 o (fun _ => x)) M1 := by
  refine ⟨⟨(hf _ (tg (hT.1 0 (by decide)) (hT.2.2.1 o ho).1 (by simp)) (tg (hT.1 0 (by decide)) (hT.2.2.1 o ho).2.1 (by simp)) (tg (hT.1 0 (by decide)) (hT.2.2.1 o ho).2.2 (by simp))).trans hR.1.1, (hf _ (tg (hT.1 1 (by decide)) (hT.2.2.1 o ho).1 (by simp)) (tg (hT.1 1 (by decide)) (hT.2.2.1 o ho).2.1 (by simp)) (tg (hT.1 1 (by decide)) (hT.2.2.1 o ho).2.2 (by simp))).trans hR.1.2.1, (hf _ (tg (hT.1 2 (by decide)) (hT.2.2.1 o ho).1 (by simp)) (tg (hT.1 2 (by decide)) (hT.2.2.1 o ho).2.1 (by simp)) (tg (hT.1 2 (by decide)) (hT.2.2.1 o ho).2.2 (by simp))).trans hR.1.2.2.1, (hf _ (tg (hT.1 3 (by decide)) (hT.2.2.1 o ho).1 (by simp)) (tg (hT.1 3 (by decide)) (hT.2.2.1 o ho).2.1 (by simp)) (tg (hT.1 3 (by decide)) (hT.2.2.1 o ho).2.2 (by simp))).trans hR.1.2.2.2.1, (hf _ (tg (hT.1 4 (by decide)) (hT.2.2.1 o ho).1 (by simp)) (tg (hT.1 4 (by decide)) (hT.2.2.1 o ho).2.1 (by simp)) (tg (hT.1 4 (by decide)) (hT.2.2.1 o ho).2.2 (by simp))).trans hR.1.2.2.2.2⟩, ?_, ?_, ?_⟩
  · intro p9 hp9
    refine ⟨?_, ?_⟩
    · exact cp_fix ((hf _ (tg (hT.2.1 p9 hp9).1 (hT.2.2.1 o ho).1 (by simp)) (tg (hT.2.1 p9 hp9).1 (hT.2.2.1 o ho).2.1 (by simp)) (tg (hT.2.1 p9 hp9).1 (hT.2.2.1 o ho).2.2 (by simp))).trans (hR.2.1 p9 hp9).1) (by simp [cp_pg, cp_or, cp_tx, up3, va_up])
    · exact cp_fix ((hf _ (tg (hT.2.1 p9 hp9).2 (hT.2.2.1 o ho).1 (by simp)) (tg (hT.2.1 p9 hp9).2 (hT.2.2.1 o ho).2.1 (by simp)) (tg (hT.2.1 p9 hp9).2 (hT.2.2.1 o ho).2.2 (by simp))).trans (hR.2.1 p9 hp9).2) (by simp [cp_pg, cp_or, cp_tx, up3, va_up])
  · intro o9 ho9
    by_cases hq : o9 = o
    · subst hq
      refine ⟨?_, ?_, ?_⟩
      · exact cp_fix (g1) (by simp [cp_pg, cp_or, cp_tx, up3, va_up])
      · exact cp_fix (g2) (by simp [cp_pg, cp_or, cp_tx, up3, va_up])
      · exact cp_fix (g3) (by simp [cp_pg, cp_or, cp_tx, up3, va_up])
    · refine ⟨?_, ?_, ?_⟩
      · exact cp_fix ((hf _ (tg (hT.2.2.1 o9 ho9).1 (hT.2.2.1 o ho).1 (by simp [hq])) (tg (hT.2.2.1 o9 ho9).1 (hT.2.2.1 o ho).2.1 (by simp)) (tg (hT.2.2.1 o9 ho9).1 (hT.2.2.1 o ho).2.2 (by simp))).trans (hR.2.2.1 o9 ho9).1) (by simp [cp_pg, cp_or, cp_tx, up3, va_up, hq])
      · exact cp_fix ((hf _ (tg (hT.2.2.1 o9 ho9).2.1 (hT.2.2.1 o ho).1 (by simp)) (tg (hT.2.2.1 o9 ho9).2.1 (hT.2.2.1 o ho).2.1 (by simp [hq])) (tg (hT.2.2.1 o9 ho9).2.1 (hT.2.2.1 o ho).2.2 (by simp))).trans (hR.2.2.1 o9 ho9).2.1) (by simp [cp_pg, cp_or, cp_tx, up3, va_up, hq])
      · exact cp_fix ((hf _ (tg (hT.2.2.1 o9 ho9).2.2 (hT.2.2.1 o ho).1 (by simp)) (tg (hT.2.2.1 o9 ho9).2.2 (hT.2.2.1 o ho).2.1 (by simp)) (tg (hT.2.2.1 o9 ho9).2.2 (hT.2.2.1 o ho).2.2 (by simp [hq]))).trans (hR.2.2.1 o9 ho9).2.2) (by simp [cp_pg, cp_or, cp_tx, up3, va_up, hq])
  · intro t9 ht9
    refine ⟨?_, ?_⟩
    · exact cp_fix ((hf _ (tg (hT.2.2.2 t9 ht9).1 (hT.2.2.1 o ho).1 (by simp)) (tg (hT.2.2.2 t9 ht9).1 (hT.2.2.1 o ho).2.1 (by simp)) (tg (hT.2.2.2 t9 ht9).1 (hT.2.2.1 o ho).2.2 (by simp))).trans (hR.2.2.2 t9 ht9).1) (by simp [cp_pg, cp_or, cp_tx, up3, va_up])
    · exact cp_fix ((hf _ (tg (hT.2.2.2 t9 ht9).2 (hT.2.2.1 o ho).1 (by simp)) (tg (hT.2.2.2 t9 ht9).2 (hT.2.2.1 o ho).2.1 (by simp)) (tg (hT.2.2.2 t9 ht9).2 (hT.2.2.1 o ho).2.2 (by simp))).trans (hR.2.2.2 t9 ht9).2) (by simp [cp_pg, cp_or, cp_tx, up3, va_up])

theorem cp_lst (hR : cp_R k h b n c M) (hT : cp_T h b T n) {f : Nat → Int32} (g1 : M1 (h 4) = some (.inl (k 0, 200, .inl f))) (g2 : M1 (h 0) = some (cp_r h (va_up n 3 (n 3 + 1)))) (hf : ∀ x, x ≠ h 4 → x ≠ h 0 → M1 x = M x) : cp_R k h b (va_up n 3 (n 3 + 1)) (up3 c 9 0 f) M1 := by
  refine ⟨⟨g2, (hf _ (tg (hT.1 1 (by decide)) (hT.1 4 (by decide)) (by simp)) (tg (hT.1 1 (by decide)) (hT.1 0 (by decide)) (by simp))).trans hR.1.2.1, (hf _ (tg (hT.1 2 (by decide)) (hT.1 4 (by decide)) (by simp)) (tg (hT.1 2 (by decide)) (hT.1 0 (by decide)) (by simp))).trans hR.1.2.2.1, (hf _ (tg (hT.1 3 (by decide)) (hT.1 4 (by decide)) (by simp)) (tg (hT.1 3 (by decide)) (hT.1 0 (by decide)) (by simp))).trans hR.1.2.2.2.1, g1⟩, ?_, ?_, ?_⟩
  · intro p9 hp9
    refine ⟨?_, ?_⟩
    · exact cp_fix ((hf _ (tg (hT.2.1 p9 hp9).1 (hT.1 4 (by decide)) (by simp)) (tg (hT.2.1 p9 hp9).1 (hT.1 0 (by decide)) (by simp))).trans (hR.2.1 p9 hp9).1) (by simp [cp_pg, cp_or, cp_tx, up3, va_up])
    · exact cp_fix ((hf _ (tg (hT.2.1 p9 hp9).2 (hT.1 4 (by decide)) (by simp)) (tg (hT.2.1 p9 hp9).2 (hT.1 0 (by decide)) (by simp))).trans (hR.2.1 p9 hp9).2) (by simp [cp_pg, cp_or, cp_tx, up3, va_up])
  · intro o9 ho9
    refine ⟨?_, ?_, ?_⟩
    · exact cp_fix ((hf _ (tg (hT.2.2.1 o9 ho9).1 (hT.1 4 (by decide)) (by simp)) (tg (hT.2.2.1 o9 ho9).1 (hT.1 0 (by decide)) (by simp))).trans (hR.2.2.1 o9 ho9).1) (by simp [cp_pg, cp_or, cp_tx, up3, va_up])
    · exact cp_fix ((hf _ (tg (hT.2.2.1 o9 ho9).2.1 (hT.1 4 (by decide)) (by simp)) (tg (hT.2.2.1 o9 ho9).2.1 (hT.1 0 (by decide)) (by simp))).trans (hR.2.2.1 o9 ho9).2.1) (by simp [cp_pg, cp_or, cp_tx, up3, va_up])
    · exact cp_fix ((hf _ (tg (hT.2.2.1 o9 ho9).2.2 (hT.1 4 (by decide)) (by simp)) (tg (hT.2.2.1 o9 ho9).2.2 (hT.1 0 (by decide)) (by simp))).trans (hR.2.2.1 o9 ho9).2.2) (by simp [cp_pg, cp_or, cp_tx, up3, va_up])
  · intro t9 ht9
    refine ⟨?_, ?_⟩
    · exact cp_fix ((hf _ (tg (hT.2.2.2 t9 ht9).1 (hT.1 4 (by decide)) (by simp)) (tg (hT.2.2.2 t9 ht9).1 (hT.1 0 (by decide)) (by simp))).trans (hR.2.2.2 t9 ht9).1) (by simp [cp_pg, cp_or, cp_tx, up3, va_up])
    · exact cp_fix ((hf _ (tg (hT.2.2.2 t9 ht9).2 (hT.1 4 (by decide)) (by simp)) (tg (hT.2.2.2 t9 ht9).2 (hT.1 0 (by decide)) (by simp))).trans (hR.2.2.2 t9 ht9).2) (by simp [cp_pg, cp_or, cp_tx, up3, va_up])

end CP
end
section
/-! THE CLASS AND THE REFERENCE SIDE BY SIDE: what the class holds (c) is what the reference holds (g); and what always holds of g -/
def sm_P (n : Nat → Nat) (c : Nat → Nat → Nat → Int32) (g : Nat → Nat → Int32) : Prop := ∀ p, p < n 0 → c 2 p 0 = g 2 p ∧ (∃ z, z < 256 ∧ g 2 p = nI z) ∧ (∀ i, i < 256 → c 1 p i = g 1 (256 * p + i) ∧ okm (g 1 (256 * p + i))) ∧ ∀ i j, i < 256 → j < 256 → g 1 (256 * p + i) = g 1 (256 * p + j) → g 1 (256 * p + i) ≠ -1 → i = j
def sm_O (n : Nat → Nat) (c : Nat → Nat → Nat → Int32) (g : Nat → Nat → Int32) : Prop := ∀ o, o < n 1 → c 6 o 0 = bz (g 4 o = nI 2) ∧ (∀ i, i < 256 → c 3 o i = rko g o i) ∧ (g 4 o = nI 2 → c 5 o 0 = g 6 o ∧ ∀ i, i < 256 → c 4 o i = bz (g 5 (256 * o + i) ≠ -1))
def sm_X (n : Nat → Nat) (c : Nat → Nat → Nat → Int32) (L : Nat → Nat) (X : Nat → Nat → Nat) : Prop := ∀ t, t < n 2 → c 8 t 0 = nI (L t) ∧ ∀ q, q < L t → c 7 t q = nI (X t q)
def sm (n : Nat → Nat) (c : Nat → Nat → Nat → Int32) (g : Nat → Nat → Int32) (L : Nat → Nat) (X : Nat → Nat → Nat) : Prop := sm_P n c g ∧ sm_O n c g ∧ sm_X n c L X ∧ mo_X n g L X ∧ ∀ j, j < n 3 → c 9 0 j = g 11 j
theorem ff_none {f : Nat → Int32} {u : Int32} : ∀ (m i : Nat), (∀ j, i ≤ j → j < i + m → f j ≠ u) → ff f u i m = -1
  | 0, _, _ => rfl
  | m + 1, i, h => by
    rw [ff, if_neg (h i (Nat.le_refl _) (by omega))]
    exact ff_none m (i + 1) (fun j h1 h2 => h j (by omega) (by omega))
theorem ff_one {f : Nat → Int32} {u : Int32} {j : Nat} (hj : f j = u) : ∀ (m i : Nat), i ≤ j → j < i + m → (∀ q, i ≤ q → q < j → f q ≠ u) → ff f u i m = nI j
  | 0, i, h1, h2, _ => absurd h2 (by omega)
  | m + 1, i, h1, h2, h => by
    by_cases he : i = j
    · subst he
      rw [ff, if_pos hj]
    · rw [ff, if_neg (h i (Nat.le_refl _) (by omega))]
      exact ff_one hj m (i + 1) (by omega) (by omega) (fun q a b => h q (by omega) b)
theorem fl_none {f : Nat → Int32} {u : Int32} : ∀ (m : Nat), (∀ j, j < m → f j ≠ u) → fl f u m = -1
  | 0, _ => rfl
  | m + 1, h => by
    rw [fl, if_neg (h m (by omega))]
    exact fl_none m (fun j hj => h j (by omega))
theorem fl_one {f : Nat → Int32} {u : Int32} {j : Nat} (hj : f j = u) : ∀ (m : Nat), j < m → (∀ q, j < q → q < m → f q ≠ u) → fl f u m = nI j
  | 0, h, _ => absurd h (by omega)
  | m + 1, h1, h => by
    by_cases he : j = m
    · subst he
      rw [fl, if_pos hj]
    · rw [fl, if_neg (h m (by omega) (by omega))]
      exact fl_one hj m (by omega) (fun q a b => h q a (by omega))
/-- what a look-up in the reference says -/
theorem mf_spec {n : Nat → Nat} {c : Nat → Nat → Nat → Int32} {g : Nat → Nat → Int32} (h : sm_P n c g) {p : Nat} (hp : p < n 0) (u : Int32) : pfind (c 1 p) u = mf g p u ∧ ((mf g p u = -1 ∧ (u = -1 ∨ ∀ i, i < 256 → g 1 (256 * p + i) ≠ u)) ∨ ∃ j, j < 256 ∧ mf g p u = nI j ∧ g 1 (256 * p + j) = u ∧ u ≠ -1) := by
  obtain ⟨-, -, h3, h4⟩ := h p hp
  unfold pfind mf
  by_cases hu : u = -1
  · rw [if_pos hu, if_pos hu]
    exact ⟨rfl, Or.inl ⟨rfl, Or.inl hu⟩⟩
  · rw [if_neg hu, if_neg hu]
    by_cases hx : ∃ j, j < 256 ∧ g 1 (256 * p + j) = u
    · obtain ⟨j, hj, he⟩ := hx
      have un : ∀ q, q < 256 → q ≠ j → g 1 (256 * p + q) ≠ u := fun q hq hqj e => hqj (h4 q j hq hj (e.trans he.symm) (by rw [e]; exact hu))
      rw [ff_one (j := j) ((h3 j hj).1.trans he) 256 0 (by omega) (by omega) (fun q _ hq => by rw [(h3 q (by omega)).1]; exact un q (by omega) (by omega)), fl_one (f := fun i => g 1 (256 * p + i)) (j := j) he 256 hj (fun q h1 h2 => un q h2 (by omega))]
      exact ⟨rfl, Or.inr ⟨j, hj, rfl, he, hu⟩⟩
    · have no : ∀ j, j < 256 → g 1 (256 * p + j) ≠ u := fun j hj e => hx ⟨j, hj, e⟩
      rw [ff_none 256 0 (fun j _ hj => by rw [(h3 j (by omega)).1]; exact no j (by omega)), fl_none 256 (fun j hj => no j hj)]
      exact ⟨rfl, Or.inl ⟨rfl, Or.inr no⟩⟩
theorem nI_m1 {j : Nat} (hj : j < 2 ^ 31) : nI j ≠ -1 := fun e => by
  have := congrArg Int32.toInt e
  rw [nI_toInt hj] at this
  have h2 : (-1 : Int32).toInt = -1 := by decide
  omega
/-- a meaning is told -/
theorem sm_set {n : Nat → Nat} {c : Nat → Nat → Nat → Int32} {g : Nat → Nat → Int32} {L : Nat → Nat} {X : Nat → Nat → Nat} (h : sm n c g L X) {p j : Nat} (hp : p < n 0) (hj : j < 256) {u : Int32} (hu : okm u) (hm : mf g p u = -1 ∨ mf g p u = nI j) : sm n (up3 c 1 p (upd (c 1 p) j u)) (va_up g 1 (upd (g 1) (256 * p + j) u)) L X := by
  obtain ⟨h1, h2, h3, h4, h5⟩ := h
  have hs := (mf_spec h1 hp u).2
  refine ⟨fun q hq => ?_, h2, h3, h4, h5⟩
  obtain ⟨a1, a2, a3, a4⟩ := h1 q hq
  refine ⟨a1, a2, fun i hi => ?_, fun i i2 hi hi2 e1 e2 => ?_⟩
  · rw [va_up_self]
    by_cases hqp : q = p
    · subst hqp
      rw [up3_s]
      by_cases hij : i = j
      · subst hij
        rw [pk_us, pk_us]
        exact ⟨rfl, hu⟩
      · rw [pk_un hij, pk_un (by omega)]
        exact a3 i hi
    · rw [up3_n hqp, pk_un (by omega)]
      exact a3 i hi
  · rw [va_up_self] at e1 e2
    by_cases hqp : q = p
    · subst hqp
      by_cases hij : i = j
      · by_cases hi2j : i2 = j
        · omega
        · subst hij
          rw [pk_us] at e1 e2
          rw [pk_un (by omega)] at e1
          rcases hs with ⟨-, hs | hs⟩ | ⟨j2, hj2, hs1, hs2, -⟩
          · exact absurd hs e2
          · exact absurd e1.symm (hs i2 hi2)
          · rcases hm with hm | hm
            · exact absurd (hs1.symm.trans hm) (nI_m1 (by omega))
            · have := (nI_eq (by omega) (by omega)).mp (hs1.symm.trans hm)
              subst this
              exact (a4 i2 j2 hi2 hj2 (e1.symm.trans hs2.symm) (by rw [← e1]; exact e2)).symm
      · by_cases hi2j : i2 = j
        · subst hi2j
          rw [pk_us] at e1
          rw [pk_un (by omega)] at e1 e2
          rcases hs with ⟨-, hs | hs⟩ | ⟨j2, hj2, hs1, hs2, -⟩
          · exact absurd (e1.trans hs) e2
          · exact absurd e1 (hs i hi)
          · rcases hm with hm | hm
            · exact absurd (hs1.symm.trans hm) (nI_m1 (by omega))
            · have := (nI_eq (by omega) (by omega)).mp (hs1.symm.trans hm)
              subst this
              exact a4 i j2 hi hj2 (e1.trans hs2.symm) e2
        · rw [pk_un (by omega), pk_un (by omega)] at e1
          rw [pk_un (by omega)] at e2
          exact a4 i i2 hi hi2 e1 e2
    · rw [pk_un (by omega), pk_un (by omega)] at e1
      rw [pk_un (by omega)] at e2
      exact a4 i i2 hi hi2 e1 e2
theorem sm_stand {n : Nat → Nat} {c : Nat → Nat → Nat → Int32} {g : Nat → Nat → Int32} {L : Nat → Nat} {X : Nat → Nat → Nat} (h : sm n c g L X) {p j : Nat} (hj : j < 256) : sm n (up3 c 2 p (fun _ => nI j)) (va_up g 2 (upd (g 2) p (nI j))) L X := by
  obtain ⟨h1, h2, h3, h4, h5⟩ := h
  refine ⟨fun q hq => ?_, h2, h3, h4, h5⟩
  obtain ⟨a1, a2, a3, a4⟩ := h1 q hq
  refine ⟨?_, ?_, a3, a4⟩
  · rw [va_up_self]
    by_cases hqp : q = p
    · subst hqp
      rw [up3_s, pk_us]
    · rw [up3_n hqp, pk_un hqp]
      exact a1
  · rw [va_up_self]
    by_cases hqp : q = p
    · subst hqp
      exact ⟨j, hj, pk_us⟩
    · rw [pk_un hqp]
      exact a2
theorem sm_lst {n : Nat → Nat} {c : Nat → Nat → Nat → Int32} {g : Nat → Nat → Int32} {L : Nat → Nat} {X : Nat → Nat → Nat} (h : sm n c g L X) (x : Int32) : sm (va_up n 3 (n 3 + 1)) (up3 c 9 0 (upd (c 9 0) (n 3) x)) (va_up g 11 (upd (g 11) (n 3) x)) L X := by
  obtain ⟨h1, h2, h3, h4, h5⟩ := h
  refine ⟨h1, h2, h3, h4, fun j hj => ?_⟩
  rw [up3_s, va_up_self]
  rw [va_up_self] at hj
  by_cases e : j = n 3
  · subst e
    rw [pk_us, pk_us]
  · rw [pk_un e, pk_un e]
    exact h5 j (by omega)
theorem sm_sgn {n : Nat → Nat} {c : Nat → Nat → Nat → Int32} {g : Nat → Nat → Int32} {L : Nat → Nat} {X : Nat → Nat → Nat} (h : sm n c g L X) {t j : Nat} (ht : t < n 2) (hj : j < 256) (hL : L t < 40) : sm n (up3 (up3 c 7 t (upd (c 7 t) (L t) (nI j))) 8 t (fun _ => nI (L t + 1))) (va_up (va_up g 8 (upd (g 8) (40 * t + L t) (nI j))) 9 (upd (g 9) t (nI (L t + 1)))) (va_up L t (L t + 1)) (va_up X t (va_up (X t) (L t) j)) := by
  obtain ⟨h1, h2, h3, h4, h5⟩ := h
  refine ⟨h1, h2, fun q hq => ?_, fun q hq => ?_, h5⟩
  · by_cases e : q = t
    · subst e
      obtain ⟨a1, a2⟩ := h3 q hq
      refine ⟨by rw [up3_s, va_up_self], fun i hi => ?_⟩
      rw [va_up_self] at hi
      rw [up3_o (by decide), up3_s, va_up_self]
      by_cases e2 : i = L q
      · subst e2
        rw [pk_us, va_up_self]
      · rw [pk_un e2, va_up_ne _ _ e2]
        exact a2 i (by omega)
    · obtain ⟨a1, a2⟩ := h3 q hq
      refine ⟨by rw [up3_n e, up3_o (by decide), va_up_ne _ _ e]; exact a1, fun i hi => ?_⟩
      rw [va_up_ne _ _ e] at hi
      rw [up3_o (by decide), up3_n e, va_up_ne _ _ e]
      exact a2 i hi
  · obtain ⟨b1, b2, b3⟩ := h4 q hq
    rw [va_up_self, va_up_ne (va_up g 8 _) _ (show 8 ≠ 9 by decide), va_up_self]
    by_cases e : q = t
    · subst e
      rw [va_up_self, va_up_self]
      refine ⟨by omega, pk_us, fun i hi => ?_⟩
      by_cases e2 : i = L q
      · subst e2
        rw [va_up_self, pk_us]
        exact ⟨hj, rfl⟩
      · rw [va_up_ne _ _ e2, pk_un (by omega)]
        exact b3 i (by omega)
    · rw [va_up_ne _ _ e, va_up_ne _ _ e]
      have := (h4 t ht).1
      refine ⟨b1, by rw [pk_un e]; exact b2, fun i hi => ?_⟩
      rw [pk_un (by omega)]
      exact b3 i hi
/-- a code of a text is changed -/
theorem sm_cod {n : Nat → Nat} {c : Nat → Nat → Nat → Int32} {g : Nat → Nat → Int32} {L : Nat → Nat} {X : Nat → Nat → Nat} (h : sm n c g L X) {t q j : Nat} (ht : t < n 2) (hj : j < 256) (hq : q < L t) : sm n (up3 c 7 t (upd (c 7 t) q (nI j))) (va_up g 8 (upd (g 8) (40 * t + q) (nI j))) L (va_up X t (va_up (X t) q j)) := by
  obtain ⟨h1, h2, h3, h4, h5⟩ := h
  refine ⟨h1, h2, fun y hy => ?_, fun y hy => ?_, h5⟩
  · obtain ⟨a1, a2⟩ := h3 y hy
    refine ⟨a1, fun i hi => ?_⟩
    by_cases e : y = t
    · subst e
      rw [up3_s, va_up_self]
      by_cases e2 : i = q
      · subst e2
        rw [pk_us, va_up_self]
      · rw [pk_un e2, va_up_ne _ _ e2]
        exact a2 i hi
    · rw [up3_n e, va_up_ne _ _ e]
      exact a2 i hi
  · obtain ⟨b1, b2, b3⟩ := h4 y hy
    refine ⟨b1, b2, fun i hi => ?_⟩
    rw [va_up_self]
    have := (h4 t ht).1
    by_cases e : y = t
    · subst e
      rw [va_up_self]
      by_cases e2 : i = q
      · subst e2
        rw [va_up_self, pk_us]
        exact ⟨hj, rfl⟩
      · rw [va_up_ne _ _ e2, pk_un (by omega)]
        exact b3 i hi
    · rw [va_up_ne _ _ e, pk_un (by omega)]
      exact b3 i hi
theorem hgh_ext {f f2 : Nat → Int32} : ∀ {c : Nat}, (∀ i, i ≤ c → f i = f2 i) → hgh f c = hgh f2 c
  | 0, _ => rfl
  | c + 1, h => by
    have e : hgh f c = hgh f2 c := hgh_ext (fun i hi => h i (by omega))
    have := hgh_le f2 c
    rw [hgh, hgh, e, h (c + 1) (Nat.le_refl _), h (hgh f2 c) (by omega)]
theorem tr_code {n n2 : Nat → Nat} {c : Nat → Nat → Nat → Int32} {g g2 : Nat → Nat → Int32} (h : sm_P n c g) {j p q d : Nat} {r : Int32} (hq : q < n 0) (hr : R_tr n g j p q r n2 g2 d) : ∃ z, z < 256 ∧ r = nI z := by
  rcases hr with ⟨h1, h2, -⟩ | ⟨-, h2, -⟩
  · rcases (mf_spec h hq (g 1 (256 * p + j))).2 with ⟨e, -⟩ | ⟨z, hz, e, -⟩
    · exact absurd e h1
    · exact ⟨z, hz, h2.trans e⟩
  · obtain ⟨z, hz, e⟩ := (h q hq).2.1
    exact ⟨z, hz, h2.trans e⟩
theorem cmpf_eq {f h : Nat → Int32} : ∀ (m k : Nat), (∀ q, k ≤ q → f q = h q) → cmpf f h k m = 0
  | 0, _, _ => rfl
  | m + 1, k, e => by
    rw [cmpf, if_pos (e k (Nat.le_refl _))]
    exact cmpf_eq m (k + 1) (fun q hq => e q (by omega))
theorem rdn_blank {L : Nat → Nat} {X : Nat → Nat → Nat} {t q : Nat} (h : L t ≤ q) : rdn L X t q = 32 := if_neg (by omega)
theorem max_ex {a b : Nat} (ha : a ≤ 40) (hb : b ≤ 40) : ∃ m, a ≤ m ∧ b ≤ m ∧ m ≤ 40 ∧ (if nI a < nI b then nI b else nI a) = nI m := by
  by_cases h : a < b
  · exact ⟨b, by omega, by omega, hb, if_pos (nI_lt h (by omega))⟩
  · exact ⟨a, by omega, by omega, ha, if_neg (nI_nlt (by omega) (by omega))⟩
/-- the ranks of an alphabet, once those outside are ranked again -/
theorem ord_rk {g : Nat → Nat → Int32} {o : Nat} {u f4 : Nat → Int32} {nx : Int32} (h4 : g 4 o = nI 2) (hn : nx = g 6 o) (hf : ∀ i, i < 256 → f4 i = bz (g 5 (256 * o + i) ≠ -1)) (hu : ∀ i, i < 256 → g 5 (256 * o + i) ≠ -1 → u i = g 5 (256 * o + i)) : ∀ i, i < 256 → rto u f4 nx 256 i = rko g o i := by
  intro i hi
  have hz : ∀ q, q < 256 → (f4 q = 0 ↔ g 5 (256 * o + q) = -1) := fun q hq => by
    rw [hf q hq]
    by_cases e : g 5 (256 * o + q) = -1
    · rw [bz_f (fun x => x e)]
      exact ⟨fun _ => e, fun _ => rfl⟩
    · rw [bz_t e]
      exact ⟨fun x => absurd x (by decide), fun x => absurd x e⟩
  unfold rto rko
  by_cases e : g 5 (256 * o + i) = -1
  · rw [if_pos ⟨hi, (hz i hi).mpr e⟩, if_pos ⟨h4, e⟩, hn]
    congr 2
    exact cntb_ext (fun y hy => by
      unfold outb nob
      exact decide_eq_decide.mpr (hz y (by omega)))
  · rw [if_neg (fun x => e ((hz i hi).mp x.2)), if_neg (fun x => e x.2)]
    exact hu i hi e
/-- an order whose row in g is changed: the others stay -/
theorem sm_ord {n : Nat → Nat} {c : Nat → Nat → Nat → Int32} {g g2 : Nat → Nat → Int32} {L : Nat → Nat} {X : Nat → Nat → Nat} (h : sm n c g L X) {o : Nat} {f3 f4 : Nat → Int32} {x : Int32} (hk : ∀ k, k ≠ 5 → k ≠ 6 → g2 k = g k) (h6 : ∀ q, q ≠ o → g2 6 q = g 6 q) (h5 : ∀ q i, q ≠ o → i < 256 → g2 5 (256 * q + i) = g 5 (256 * q + i))
    (h4 : g 4 o = nI 2) (hx : x = g2 6 o) (hf : ∀ i, i < 256 → f4 i = bz (g2 5 (256 * o + i) ≠ -1)) (h3 : ∀ i, i < 256 → f3 i = rko g2 o i) : sm n (up3 (up3 (up3 c 3 o f3) 4 o f4) 5 o (fun _ => x)) g2 L X := by
  obtain ⟨a1, a2, a3, a4, a5⟩ := h
  have e1 := hk 1 (by decide) (by decide)
  have e2 := hk 2 (by decide) (by decide)
  have e4 := hk 4 (by decide) (by decide)
  have e8 := hk 8 (by decide) (by decide)
  have e9 := hk 9 (by decide) (by decide)
  have e11 := hk 11 (by decide) (by decide)
  refine ⟨fun p hp => ?_, fun q hq => ?_, a3, fun t ht => ?_, fun j hj => ?_⟩
  · rw [e1, e2]
    exact a1 p hp
  · rw [e4]
    obtain ⟨b1, b2, b3⟩ := a2 q hq
    by_cases e : q = o
    · subst e
      refine ⟨b1, fun i hi => ?_, fun _ => ⟨?_, fun i hi => ?_⟩⟩
      · rw [up3_o (by decide), up3_o (by decide), up3_s]
        exact h3 i hi
      · rw [up3_s]
        exact hx
      · rw [up3_o (by decide), up3_s]
        exact hf i hi
    · refine ⟨b1, fun i hi => ?_, fun h2 => ⟨?_, fun i hi => ?_⟩⟩
      · rw [up3_o (by decide), up3_o (by decide), up3_n e, b2 i hi]
        unfold rko
        rw [e4, h6 q e, h5 q i e hi]
        rw [cntb_ext (b := nob g q) (b' := nob g2 q) (fun y hy => by unfold nob; rw [h5 q y e (by omega)])]
      · rw [up3_n e, up3_o (by decide), up3_o (by decide), h6 q e]
        exact (b3 h2).1
      · rw [up3_o (by decide), up3_n e, up3_o (by decide), h5 q i e hi]
        exact (b3 h2).2 i hi
  · rw [e8, e9]
    exact a4 t ht
  · rw [e11]
    exact a5 j hj
/-- an equal sign is told -/
theorem sm_also {n : Nat → Nat} {c : Nat → Nat → Nat → Int32} {g : Nat → Nat → Int32} {L : Nat → Nat} {X : Nat → Nat → Nat} (h : sm n c g L X) {o i j : Nat} (ho : o < n 1) (hi : i < 256) (hj : j < 256) (h4 : g 4 o = nI 2) (h1 : g 5 (256 * o + i) ≠ -1) :
    sm n (up3 (up3 (up3 c 3 o (rto (upd (c 3 o) j (c 3 o i)) (upd (c 4 o) j 1) (c 5 o 0) 256)) 4 o (upd (c 4 o) j 1)) 5 o (fun _ => c 5 o 0)) (va_up g 5 (upd (g 5) (256 * o + j) (g 5 (256 * o + i)))) L X := by
  obtain ⟨b1, b2, b3⟩ := h.2.1 o ho
  obtain ⟨b4, b5⟩ := b3 h4
  have hri : c 3 o i = g 5 (256 * o + i) := by
    rw [b2 i hi]
    unfold rko
    rw [if_neg (fun x => h1 x.2)]
  have hf : ∀ q, q < 256 → upd (c 4 o) j 1 q = bz (va_up g 5 (upd (g 5) (256 * o + j) (g 5 (256 * o + i))) 5 (256 * o + q) ≠ -1) := fun q hq => by
    rw [va_up_self]
    by_cases e : q = j
    · subst e
      rw [pk_us, pk_us, bz_t h1]
    · rw [pk_un e, pk_un (by omega)]
      exact b5 q hq
  refine sm_ord h (fun k k5 _ => va_up_ne _ _ k5) (fun _ _ => rfl) (fun q y hq hy => by rw [va_up_self, pk_un (by omega)]) h4 b4 hf (ord_rk h4 b4 hf (fun q hq hne => ?_))
  rw [va_up_self] at hne ⊢
  by_cases e : q = j
  · subst e
    rw [pk_us, pk_us, hri]
  · rw [pk_un e, pk_un (by omega), b2 q hq]
    rw [pk_un (by omega)] at hne
    unfold rko
    rw [if_neg (fun x => hne x.2)]
theorem thg_k {g : Nat → Nat → Int32} {o : Nat} {up : Bool} {f k : Nat} (h5 : k ≠ 5) (h6 : k ≠ 6) : ∀ m, thg g o up f m k = g k
  | 0 => rfl
  | m + 1 => by rw [thg, va_up_ne _ _ h6, va_up_ne _ _ h5, thg_k h5 h6 m]
theorem thg_6 {g : Nat → Nat → Int32} {o : Nat} {up : Bool} {f : Nat} : ∀ m, thg g o up f m 6 = upd (g 6) o (g 6 o + nI m)
  | 0 => by
    funext q
    by_cases e : q = o
    · subst e
      rw [pk_us, nI_0, Int32.add_zero]
      rfl
    · rw [pk_un e]
      rfl
  | m + 1 => by
    rw [thg, va_up_self, thg_6 m]
    funext q
    by_cases e : q = o
    · subst e
      rw [pk_us, pk_us, pk_us, Int32.add_assoc, nI_1]
    · rw [pk_un e, pk_un e, pk_un e]
theorem tix_inj {up : Bool} {f t a b : Nat} (h : up = true ↔ f ≤ t) (ha : a < tcn up f t) (hb : b < tcn up f t) (e : tix up f a = tix up f b) : a = b := by
  cases up with
  | true =>
    have e : f + a = f + b := e
    omega
  | false =>
    have e : f - a = f - b := e
    have ha : a < f - t + 1 := ha
    have hb : b < f - t + 1 := hb
    have : ¬ f ≤ t := fun q => absurd (h.mpr q) (by decide)
    omega
theorem thg_5 {g : Nat → Nat → Int32} {o : Nat} {up : Bool} {f t : Nat} (h : up = true ↔ f ≤ t) : ∀ m, m ≤ tcn up f t → (∀ q, q < m → thg g o up f m 5 (256 * o + tix up f q) = g 6 o + nI q) ∧ ∀ y, (∀ q, q < m → y ≠ 256 * o + tix up f q) → thg g o up f m 5 y = g 5 y
  | 0, _ => ⟨fun _ hq => absurd hq (Nat.not_lt_zero _), fun _ _ => rfl⟩
  | m + 1, hm => by
    obtain ⟨i1, i2⟩ := thg_5 (g := g) (o := o) h m (by omega)
    have e6 : thg g o up f m 6 o = g 6 o + nI m := by rw [thg_6, pk_us]
    rw [thg, va_up_ne _ _ (by decide), va_up_self, e6]
    refine ⟨fun q hq => ?_, fun y hy => ?_⟩
    · by_cases e : q = m
      · subst e
        exact pk_us
      · rw [pk_un (fun z => e (tix_inj h (by omega) (by omega) (by omega)))]
        exact i1 q (by omega)
    · rw [pk_un (hy m (by omega))]
      exact i2 y (fun q hq => hy q (by omega))
theorem rng {up : Bool} {f t : Nat} (h : up = true ↔ f ≤ t) {m : Nat} (hm : m < tcn up f t) : dst up f t m < tcn up f t ∧ tix up f (dst up f t m) = tlo up f t + m := by
  cases up with
  | true => exact ⟨hm, rfl⟩
  | false =>
    have hm : m < f - t + 1 := hm
    have h2 : ¬ f ≤ t := fun q => absurd (h.mpr q) (by decide)
    refine ⟨by show f - t - m < f - t + 1; omega, ?_⟩
    show f - (f - t - m) = t + m
    omega
theorem rng2 {up : Bool} {f t : Nat} (h : up = true ↔ f ≤ t) {q : Nat} (hq : q < tcn up f t) : ∃ m, m < tcn up f t ∧ tix up f q = tlo up f t + m ∧ dst up f t m = q := by
  cases up with
  | true => exact ⟨q, hq, rfl, rfl⟩
  | false =>
    have hq : q < f - t + 1 := hq
    have h2 : ¬ f ≤ t := fun x => absurd (h.mpr x) (by decide)
    refine ⟨f - t - q, by show f - t - q < f - t + 1; omega, ?_, ?_⟩
    · show f - q = t + (f - t - q)
      omega
    · show f - t - (f - t - q) = q
      omega
theorem rng_lt {up : Bool} {f t : Nat} (h : up = true ↔ f ≤ t) (hf : f < 256) (ht : t < 256) {m : Nat} (hm : m < tcn up f t) : tlo up f t + m < 256 := by
  cases up with
  | true =>
    have hm : m < t - f + 1 := hm
    have := h.mp rfl
    show f + m < 256
    omega
  | false =>
    have hm : m < f - t + 1 := hm
    show t + m < 256
    omega
/-- the next ranks are small -/
def nxB (n : Nat → Nat) (g : Nat → Nat → Int32) (B : Nat) : Prop := ∀ o, o < n 1 → g 4 o = nI 2 → ∃ N, N ≤ B ∧ g 6 o = nI N
/-- a range is told -/
theorem sm_thr {n : Nat → Nat} {c : Nat → Nat → Nat → Int32} {g : Nat → Nat → Int32} {L : Nat → Nat} {X : Nat → Nat → Nat} (h : sm n c g L X) {o i j : Nat} {up : Bool} (ho : o < n 1) (hi : i < 256) (hj : j < 256) (h4 : g 4 o = nI 2) (hup : up = true ↔ i ≤ j) {B : Nat} (hB : nxB n g B) (hB2 : B < 2 ^ 30) :
    sm n (up3 (up3 (up3 c 3 o (rto (blk (c 3 o) (tlo up i j) (tcn up i j) (fun q => c 5 o 0 + nI (dst up i j q))) (blk (c 4 o) (tlo up i j) (tcn up i j) (fun _ => 1)) (c 5 o 0 + nI (tcn up i j)) 256)) 4 o (blk (c 4 o) (tlo up i j) (tcn up i j) (fun _ => 1))) 5 o (fun _ => c 5 o 0 + nI (tcn up i j))) (thg g o up i (tcn up i j)) L X := by
  obtain ⟨b1, b2, b3⟩ := h.2.1 o ho
  obtain ⟨b4, b5⟩ := b3 h4
  obtain ⟨t1, t2⟩ := thg_5 (g := g) (o := o) hup (tcn up i j) (Nat.le_refl _)
  have sml : ∀ q, q < tcn up i j → tix up i q < 256 := fun q hq => by
    obtain ⟨m, hm, e, -⟩ := rng2 hup hq
    rw [e]
    exact rng_lt hup hi hj hm
  -- a code in the range, a code outside it
  have inn : ∀ m, m < tcn up i j → thg g o up i (tcn up i j) 5 (256 * o + (tlo up i j + m)) = g 6 o + nI (dst up i j m) := fun m hm => by
    obtain ⟨e1, e2⟩ := rng hup hm
    rw [← e2]
    exact t1 _ e1
  have outt : ∀ q, q < 256 → ¬ (tlo up i j ≤ q ∧ q < tlo up i j + tcn up i j) → thg g o up i (tcn up i j) 5 (256 * o + q) = g 5 (256 * o + q) := fun q _ hq => t2 _ (fun z hz e => by
    obtain ⟨m, hm, e2, -⟩ := rng2 hup hz
    omega)
  have pos : ∀ m, m < tcn up i j → g 6 o + nI (dst up i j m) ≠ -1 := fun m hm => by
    obtain ⟨N, hN, e⟩ := hB o ho h4
    have h1 := (rng hup hm).1
    have h2 : tcn up i j ≤ 256 := by
      cases up with
      | true =>
        show j - i + 1 ≤ 256
        omega
      | false =>
        show i - j + 1 ≤ 256
        omega
    rw [e, nI_add]
    exact nI_m1 (by omega)
  have hf : ∀ q, q < 256 → blk (c 4 o) (tlo up i j) (tcn up i j) (fun _ => 1) q = bz (thg g o up i (tcn up i j) 5 (256 * o + q) ≠ -1) := fun q hq => by
    by_cases e : tlo up i j ≤ q ∧ q < tlo up i j + tcn up i j
    · obtain ⟨m, rfl⟩ : ∃ m, q = tlo up i j + m := ⟨q - tlo up i j, by omega⟩
      rw [blk_in (by omega), inn m (by omega), bz_t (pos m (by omega))]
    · rw [blk_out (by omega), outt q hq e]
      exact b5 q hq
  have hx : c 5 o 0 + nI (tcn up i j) = thg g o up i (tcn up i j) 6 o := by rw [thg_6, pk_us, b4]
  refine sm_ord h (fun k k5 k6 => thg_k k5 k6 _) (fun q hq => by rw [thg_6, pk_un hq]) (fun q y hq hy => t2 _ (fun z hz e => by have := sml z hz; omega)) h4 hx hf (ord_rk (by rw [thg_k (by decide) (by decide)]; exact h4) hx hf (fun q hq hne => ?_))
  by_cases e : tlo up i j ≤ q ∧ q < tlo up i j + tcn up i j
  · obtain ⟨m, rfl⟩ : ∃ m, q = tlo up i j + m := ⟨q - tlo up i j, by omega⟩
    rw [blk_in (by omega), inn m (by omega), b4]
  · rw [outt q hq e] at hne ⊢
    rw [blk_out (by omega), b2 q hq]
    unfold rko
    rw [if_neg (fun x => hne x.2)]
theorem in_z {c4 : Nat → Int32} {g : Nat → Nat → Int32} {o : Nat} {P : Prop} (h : g 4 o = nI 2 → P ∧ ∀ i, i < 256 → c4 i = bz (g 5 (256 * o + i) ≠ -1)) (h4 : g 4 o = nI 2) {i : Nat} (hi : i < 256) : c4 i = 0 ↔ g 5 (256 * o + i) = -1 := by
  rw [(h h4).2 i hi]
  by_cases e : g 5 (256 * o + i) = -1
  · rw [bz_f (fun x => x e)]
    exact ⟨fun _ => e, fun _ => rfl⟩
  · rw [bz_t e]
    exact ⟨fun x => absurd x (by decide), fun x => absurd x e⟩
theorem thr_ex {c4 : Nat → Int32} {g : Nat → Nat → Int32} {o : Nat} {P : Prop} (h : g 4 o = nI 2 → P ∧ ∀ i, i < 256 → c4 i = bz (g 5 (256 * o + i) ≠ -1)) (h4 : g 4 o = nI 2) {up : Bool} {i j : Nat} (hup : up = true ↔ i ≤ j) (hi : i < 256) (hj : j < 256) (q : ∃ q, q < tcn up i j ∧ ¬ c4 (tlo up i j + q) = 0) : ∃ k, k < tcn up i j ∧ g 5 (256 * o + tix up i k) ≠ -1 := by
  obtain ⟨m, hm, e⟩ := q
  obtain ⟨e1, e2⟩ := rng hup hm
  exact ⟨_, e1, fun z => e ((in_z h h4 (rng_lt hup hi hj hm)).mpr (by rw [← e2]; exact z))⟩
theorem thr_all {c4 : Nat → Int32} {g : Nat → Nat → Int32} {o : Nat} {P : Prop} (h : g 4 o = nI 2 → P ∧ ∀ i, i < 256 → c4 i = bz (g 5 (256 * o + i) ≠ -1)) (h4 : g 4 o = nI 2) {up : Bool} {i j : Nat} (hup : up = true ↔ i ≤ j) (hi : i < 256) (hj : j < 256) (q : ∀ q, q < tcn up i j → c4 (tlo up i j + q) = 0) : ∀ k, k < tcn up i j → g 5 (256 * o + tix up i k) = -1 := fun k hk => by
  obtain ⟨m, hm, e, -⟩ := rng2 hup hk
  rw [e]
  exact (in_z h h4 (rng_lt hup hi hj hm)).mp (q m hm)
theorem thr_pos (up : Bool) (i j : Nat) : 1 ≤ tcn up i j := by
  cases up with
  | true =>
    show 1 ≤ j - i + 1
    omega
  | false =>
    show 1 ≤ i - j + 1
    omega
theorem thr_abs {up : Bool} {i j : Nat} (hup : up = true ↔ i ≤ j) (hi : i < 256) (hj : j < 256) : (if 0 ≤ nI j - nI i then nI j - nI i else 0 - (nI j - nI i)) = nI (tcn up i j - 1) := by
  cases up with
  | true => exact abs_up (hup.mp rfl) (by omega)
  | false => exact abs_dn (Nat.le_of_lt (Nat.lt_of_not_le fun q => absurd (hup.mpr q) (by decide))) (by omega)
theorem cp_Tn {h : Nat → Nat} {b : Nat → Nat → Nat} {T : Nat → Nat × Nat} {n n2 : Nat → Nat} (hT : cp_T h b T n) (h0 : n2 0 = n 0) (h1 : n2 1 = n 1) (h2 : n2 2 = n 2) : cp_T h b T n2 := by
  unfold cp_T
  rw [h0, h1, h2]
  exact hT
end
section
theorem cp_addP {k : Nat → ClassId} {h : Nat → Nat} {b : Nat → Nat → Nat} {T : Nat → Nat × Nat} {n : Nat → Nat} {c : Nat → Nat → Nat → Int32} {M M1 : mw} (hR : cp_R k h b n c M) (hT : cp_T h b T n) {a q : Nat} {f : Nat → Int32} {x : Int32} (ha : M a = none) (hq : M q = none) (haq : a ≠ q) (g0 : M1 (h 0) = some (cp_r h (va_up n 0 (n 0 + 1)))) (g1 : M1 (h 1) = some (.inl (k 2, 12, .inr (.inr (.inr (.inr (va_up (fun p => if p < n 0 then some (b 1 p) else none) (n 0) (some a)))))))) (ga : M1 a = some (.inr (2, [.ref q, .int x]))) (gq : M1 q = some (.inl (k 0, 256, .inl f))) (hf : ∀ y, y ≠ h 0 → y ≠ h 1 → y ≠ a → y ≠ q → M1 y = M y) :
    cp_R k h (up2 (up2 b 1 (n 0) a) 2 (n 0) q) (va_up n 0 (n 0 + 1)) (up3 (up3 c 1 (n 0) f) 2 (n 0) (fun _ => x)) M1 ∧ cp_T h (up2 (up2 b 1 (n 0) a) 2 (n 0) q) (va_up (va_up T a (1, n 0)) q (2, n 0)) (va_up n 0 (n 0 + 1)) := by
  have hTo : ∀ y, y ≠ a → y ≠ q → (va_up (va_up T a (1, n 0)) q (2, n 0)) y = T y := fun y h0 h1 => by rw [va_up_ne _ _ h1, va_up_ne _ _ h0]
  refine ⟨⟨⟨g0, cp_fix g1 (by rw [q_add]; rfl), (hf _ (tg (hT.1 2 (by decide)) (hT.1 0 (by decide)) (by simp)) (tg (hT.1 2 (by decide)) (hT.1 1 (by decide)) (by simp)) (Ne.symm (tag_no ha hR.1.2.2.1)) (Ne.symm (tag_no hq hR.1.2.2.1))).trans hR.1.2.2.1, (hf _ (tg (hT.1 3 (by decide)) (hT.1 0 (by decide)) (by simp)) (tg (hT.1 3 (by decide)) (hT.1 1 (by decide)) (by simp)) (Ne.symm (tag_no ha hR.1.2.2.2.1)) (Ne.symm (tag_no hq hR.1.2.2.2.1))).trans hR.1.2.2.2.1, (hf _ (tg (hT.1 4 (by decide)) (hT.1 0 (by decide)) (by simp)) (tg (hT.1 4 (by decide)) (hT.1 1 (by decide)) (by simp)) (Ne.symm (tag_no ha hR.1.2.2.2.2)) (Ne.symm (tag_no hq hR.1.2.2.2.2))).trans hR.1.2.2.2.2⟩, ?_, ?_, ?_⟩, ?_, ?_, ?_, ?_⟩
  · intro v hv
    have hv : v < n 0 + 1 := by simpa [va_up] using hv
    by_cases e : v = n 0
    · subst e
      refine ⟨?_, ?_⟩
      · rw [show (up2 (up2 b 1 (n 0) a) 2 (n 0) q) 1 (n 0) = a by simp [up2, va_up]]
        exact cp_fix ga (by simp [up2, up3, va_up, cp_pg, cp_or, cp_tx])
      · rw [show (up2 (up2 b 1 (n 0) a) 2 (n 0) q) 2 (n 0) = q by simp [up2, va_up]]
        exact cp_fix gq (by simp [up2, up3, va_up, cp_pg, cp_or, cp_tx])
    · have hv2 : v < n 0 := by omega
      refine ⟨?_, ?_⟩
      · rw [show (up2 (up2 b 1 (n 0) a) 2 (n 0) q) 1 v = b 1 v by simp [up2, va_up, e]]
        exact cp_fix ((hf _ (tg (hT.2.1 v hv2).1 (hT.1 0 (by decide)) (by simp)) (tg (hT.2.1 v hv2).1 (hT.1 1 (by decide)) (by simp)) (Ne.symm (tag_no ha (hR.2.1 v hv2).1)) (Ne.symm (tag_no hq (hR.2.1 v hv2).1))).trans (hR.2.1 v hv2).1) (by simp [up2, up3, va_up, cp_pg, cp_or, cp_tx, e])
      · rw [show (up2 (up2 b 1 (n 0) a) 2 (n 0) q) 2 v = b 2 v by simp [up2, va_up, e]]
        exact cp_fix ((hf _ (tg (hT.2.1 v hv2).2 (hT.1 0 (by decide)) (by simp)) (tg (hT.2.1 v hv2).2 (hT.1 1 (by decide)) (by simp)) (Ne.symm (tag_no ha (hR.2.1 v hv2).2)) (Ne.symm (tag_no hq (hR.2.1 v hv2).2))).trans (hR.2.1 v hv2).2) (by simp [up2, up3, va_up, cp_pg, cp_or, cp_tx, e])
  · intro v hv
    have hv : v < n 1 := by simpa [va_up] using hv
    refine ⟨?_, ?_, ?_⟩
    · rw [show (up2 (up2 b 1 (n 0) a) 2 (n 0) q) 3 v = b 3 v by simp [up2, va_up]]
      exact cp_fix ((hf _ (tg (hT.2.2.1 v hv).1 (hT.1 0 (by decide)) (by simp)) (tg (hT.2.2.1 v hv).1 (hT.1 1 (by decide)) (by simp)) (Ne.symm (tag_no ha (hR.2.2.1 v hv).1)) (Ne.symm (tag_no hq (hR.2.2.1 v hv).1))).trans (hR.2.2.1 v hv).1) (by simp [up2, up3, va_up, cp_pg, cp_or, cp_tx])
    · rw [show (up2 (up2 b 1 (n 0) a) 2 (n 0) q) 4 v = b 4 v by simp [up2, va_up]]
      exact cp_fix ((hf _ (tg (hT.2.2.1 v hv).2.1 (hT.1 0 (by decide)) (by simp)) (tg (hT.2.2.1 v hv).2.1 (hT.1 1 (by decide)) (by simp)) (Ne.symm (tag_no ha (hR.2.2.1 v hv).2.1)) (Ne.symm (tag_no hq (hR.2.2.1 v hv).2.1))).trans (hR.2.2.1 v hv).2.1) (by simp [up2, up3, va_up, cp_pg, cp_or, cp_tx])
    · rw [show (up2 (up2 b 1 (n 0) a) 2 (n 0) q) 5 v = b 5 v by simp [up2, va_up]]
      exact cp_fix ((hf _ (tg (hT.2.2.1 v hv).2.2 (hT.1 0 (by decide)) (by simp)) (tg (hT.2.2.1 v hv).2.2 (hT.1 1 (by decide)) (by simp)) (Ne.symm (tag_no ha (hR.2.2.1 v hv).2.2)) (Ne.symm (tag_no hq (hR.2.2.1 v hv).2.2))).trans (hR.2.2.1 v hv).2.2) (by simp [up2, up3, va_up, cp_pg, cp_or, cp_tx])
  · intro v hv
    have hv : v < n 2 := by simpa [va_up] using hv
    refine ⟨?_, ?_⟩
    · rw [show (up2 (up2 b 1 (n 0) a) 2 (n 0) q) 6 v = b 6 v by simp [up2, va_up]]
      exact cp_fix ((hf _ (tg (hT.2.2.2 v hv).1 (hT.1 0 (by decide)) (by simp)) (tg (hT.2.2.2 v hv).1 (hT.1 1 (by decide)) (by simp)) (Ne.symm (tag_no ha (hR.2.2.2 v hv).1)) (Ne.symm (tag_no hq (hR.2.2.2 v hv).1))).trans (hR.2.2.2 v hv).1) (by simp [up2, up3, va_up, cp_pg, cp_or, cp_tx])
    · rw [show (up2 (up2 b 1 (n 0) a) 2 (n 0) q) 7 v = b 7 v by simp [up2, va_up]]
      exact cp_fix ((hf _ (tg (hT.2.2.2 v hv).2 (hT.1 0 (by decide)) (by simp)) (tg (hT.2.2.2 v hv).2 (hT.1 1 (by decide)) (by simp)) (Ne.symm (tag_no ha (hR.2.2.2 v hv).2)) (Ne.symm (tag_no hq (hR.2.2.2 v hv).2))).trans (hR.2.2.2 v hv).2) (by simp [up2, up3, va_up, cp_pg, cp_or, cp_tx])
  · intro j hj
    have hold : ∃ e, M (h j) = some e := by
      rcases (show j = 0 ∨ j = 1 ∨ j = 2 ∨ j = 3 ∨ j = 4 by omega) with rfl | rfl | rfl | rfl | rfl
      · exact ⟨_, hR.1.1⟩
      · exact ⟨_, hR.1.2.1⟩
      · exact ⟨_, hR.1.2.2.1⟩
      · exact ⟨_, hR.1.2.2.2.1⟩
      · exact ⟨_, hR.1.2.2.2.2⟩
    obtain ⟨e, he⟩ := hold
    exact (hTo _ (Ne.symm (tag_no ha he)) (Ne.symm (tag_no hq he))).trans (hT.1 j hj)
  · intro v hv
    have hv : v < n 0 + 1 := by simpa [va_up] using hv
    by_cases e : v = n 0
    · subst e
      refine ⟨?_, ?_⟩
      · rw [show (up2 (up2 b 1 (n 0) a) 2 (n 0) q) 1 (n 0) = a by simp [up2, va_up]]
        simp [va_up, haq]
      · rw [show (up2 (up2 b 1 (n 0) a) 2 (n 0) q) 2 (n 0) = q by simp [up2, va_up]]
        simp [va_up, (Ne.symm haq)]
    · have hv2 : v < n 0 := by omega
      refine ⟨?_, ?_⟩
      · rw [show (up2 (up2 b 1 (n 0) a) 2 (n 0) q) 1 v = b 1 v by simp [up2, va_up, e]]
        exact (hTo _ (Ne.symm (tag_no ha (hR.2.1 v hv2).1)) (Ne.symm (tag_no hq (hR.2.1 v hv2).1))).trans (hT.2.1 v hv2).1
      · rw [show (up2 (up2 b 1 (n 0) a) 2 (n 0) q) 2 v = b 2 v by simp [up2, va_up, e]]
        exact (hTo _ (Ne.symm (tag_no ha (hR.2.1 v hv2).2)) (Ne.symm (tag_no hq (hR.2.1 v hv2).2))).trans (hT.2.1 v hv2).2
  · intro v hv
    have hv : v < n 1 := by simpa [va_up] using hv
    refine ⟨?_, ?_, ?_⟩
    · rw [show (up2 (up2 b 1 (n 0) a) 2 (n 0) q) 3 v = b 3 v by simp [up2, va_up]]
      exact (hTo _ (Ne.symm (tag_no ha (hR.2.2.1 v hv).1)) (Ne.symm (tag_no hq (hR.2.2.1 v hv).1))).trans (hT.2.2.1 v hv).1
    · rw [show (up2 (up2 b 1 (n 0) a) 2 (n 0) q) 4 v = b 4 v by simp [up2, va_up]]
      exact (hTo _ (Ne.symm (tag_no ha (hR.2.2.1 v hv).2.1)) (Ne.symm (tag_no hq (hR.2.2.1 v hv).2.1))).trans (hT.2.2.1 v hv).2.1
    · rw [show (up2 (up2 b 1 (n 0) a) 2 (n 0) q) 5 v = b 5 v by simp [up2, va_up]]
      exact (hTo _ (Ne.symm (tag_no ha (hR.2.2.1 v hv).2.2)) (Ne.symm (tag_no hq (hR.2.2.1 v hv).2.2))).trans (hT.2.2.1 v hv).2.2
  · intro v hv
    have hv : v < n 2 := by simpa [va_up] using hv
    refine ⟨?_, ?_⟩
    · rw [show (up2 (up2 b 1 (n 0) a) 2 (n 0) q) 6 v = b 6 v by simp [up2, va_up]]
      exact (hTo _ (Ne.symm (tag_no ha (hR.2.2.2 v hv).1)) (Ne.symm (tag_no hq (hR.2.2.2 v hv).1))).trans (hT.2.2.2 v hv).1
    · rw [show (up2 (up2 b 1 (n 0) a) 2 (n 0) q) 7 v = b 7 v by simp [up2, va_up]]
      exact (hTo _ (Ne.symm (tag_no ha (hR.2.2.2 v hv).2)) (Ne.symm (tag_no hq (hR.2.2.2 v hv).2))).trans (hT.2.2.2 v hv).2
theorem cp_addO {k : Nat → ClassId} {h : Nat → Nat} {b : Nat → Nat → Nat} {T : Nat → Nat × Nat} {n : Nat → Nat} {c : Nat → Nat → Nat → Int32} {M M1 : mw} (hR : cp_R k h b n c M) (hT : cp_T h b T n) {a q r : Nat} {f f2 : Nat → Int32} {x y : Int32} (ha : M a = none) (hq : M q = none) (hr : M r = none) (haq : a ≠ q) (har : a ≠ r) (hqr : q ≠ r) (g0 : M1 (h 0) = some (cp_r h (va_up n 1 (n 1 + 1)))) (g1 : M1 (h 2) = some (.inl (k 3, 12, .inr (.inr (.inr (.inr (va_up (fun p => if p < n 1 then some (b 3 p) else none) (n 1) (some a)))))))) (ga : M1 a = some (.inr (1, [.int y, .ref q, .ref r, .int x]))) (gq : M1 q = some (.inl (k 0, 256, .inl f))) (gr : M1 r = some (.inl (k 1, 256, .inl f2))) (hf : ∀ y, y ≠ h 0 → y ≠ h 2 → y ≠ a → y ≠ q → y ≠ r → M1 y = M y) :
    cp_R k h (up2 (up2 (up2 b 3 (n 1) a) 4 (n 1) q) 5 (n 1) r) (va_up n 1 (n 1 + 1)) (up3 (up3 (up3 (up3 c 3 (n 1) f) 4 (n 1) f2) 5 (n 1) (fun _ => x)) 6 (n 1) (fun _ => y)) M1 ∧ cp_T h (up2 (up2 (up2 b 3 (n 1) a) 4 (n 1) q) 5 (n 1) r) (va_up (va_up (va_up T a (3, n 1)) q (4, n 1)) r (5, n 1)) (va_up n 1 (n 1 + 1)) := by
  have hTo : ∀ y, y ≠ a → y ≠ q → y ≠ r → (va_up (va_up (va_up T a (3, n 1)) q (4, n 1)) r (5, n 1)) y = T y := fun y h0 h1 h2 => by rw [va_up_ne _ _ h2, va_up_ne _ _ h1, va_up_ne _ _ h0]
  refine ⟨⟨⟨g0, (hf _ (tg (hT.1 1 (by decide)) (hT.1 0 (by decide)) (by simp)) (tg (hT.1 1 (by decide)) (hT.1 2 (by decide)) (by simp)) (Ne.symm (tag_no ha hR.1.2.1)) (Ne.symm (tag_no hq hR.1.2.1)) (Ne.symm (tag_no hr hR.1.2.1))).trans hR.1.2.1, cp_fix g1 (by rw [q_add]; rfl), (hf _ (tg (hT.1 3 (by decide)) (hT.1 0 (by decide)) (by simp)) (tg (hT.1 3 (by decide)) (hT.1 2 (by decide)) (by simp)) (Ne.symm (tag_no ha hR.1.2.2.2.1)) (Ne.symm (tag_no hq hR.1.2.2.2.1)) (Ne.symm (tag_no hr hR.1.2.2.2.1))).trans hR.1.2.2.2.1, (hf _ (tg (hT.1 4 (by decide)) (hT.1 0 (by decide)) (by simp)) (tg (hT.1 4 (by decide)) (hT.1 2 (by decide)) (by simp)) (Ne.symm (tag_no ha hR.1.2.2.2.2)) (Ne.symm (tag_no hq hR.1.2.2.2.2)) (Ne.symm (tag_no hr hR.1.2.2.2.2))).trans hR.1.2.2.2.2⟩, ?_, ?_, ?_⟩, ?_, ?_, ?_, ?_⟩
  · intro v hv
    have hv : v < n 0 := by simpa [va_up] using hv
    refine ⟨?_, ?_⟩
    · rw [show (up2 (up2 (up2 b 3 (n 1) a) 4 (n 1) q) 5 (n 1) r) 1 v = b 1 v by simp [up2, va_up]]
      exact cp_fix ((hf _ (tg (hT.2.1 v hv).1 (hT.1 0 (by decide)) (by simp)) (tg (hT.2.1 v hv).1 (hT.1 2 (by decide)) (by simp)) (Ne.symm (tag_no ha (hR.2.1 v hv).1)) (Ne.symm (tag_no hq (hR.2.1 v hv).1)) (Ne.symm (tag_no hr (hR.2.1 v hv).1))).trans (hR.2.1 v hv).1) (by simp [up2, up3, va_up, cp_pg, cp_or, cp_tx])
    · rw [show (up2 (up2 (up2 b 3 (n 1) a) 4 (n 1) q) 5 (n 1) r) 2 v = b 2 v by simp [up2, va_up]]
      exact cp_fix ((hf _ (tg (hT.2.1 v hv).2 (hT.1 0 (by decide)) (by simp)) (tg (hT.2.1 v hv).2 (hT.1 2 (by decide)) (by simp)) (Ne.symm (tag_no ha (hR.2.1 v hv).2)) (Ne.symm (tag_no hq (hR.2.1 v hv).2)) (Ne.symm (tag_no hr (hR.2.1 v hv).2))).trans (hR.2.1 v hv).2) (by simp [up2, up3, va_up, cp_pg, cp_or, cp_tx])
  · intro v hv
    have hv : v < n 1 + 1 := by simpa [va_up] using hv
    by_cases e : v = n 1
    · subst e
      refine ⟨?_, ?_, ?_⟩
      · rw [show (up2 (up2 (up2 b 3 (n 1) a) 4 (n 1) q) 5 (n 1) r) 3 (n 1) = a by simp [up2, va_up]]
        exact cp_fix ga (by simp [up2, up3, va_up, cp_pg, cp_or, cp_tx])
      · rw [show (up2 (up2 (up2 b 3 (n 1) a) 4 (n 1) q) 5 (n 1) r) 4 (n 1) = q by simp [up2, va_up]]
        exact cp_fix gq (by simp [up2, up3, va_up, cp_pg, cp_or, cp_tx])
      · rw [show (up2 (up2 (up2 b 3 (n 1) a) 4 (n 1) q) 5 (n 1) r) 5 (n 1) = r by simp [up2, va_up]]
        exact cp_fix gr (by simp [up2, up3, va_up, cp_pg, cp_or, cp_tx])
    · have hv2 : v < n 1 := by omega
      refine ⟨?_, ?_, ?_⟩
      · rw [show (up2 (up2 (up2 b 3 (n 1) a) 4 (n 1) q) 5 (n 1) r) 3 v = b 3 v by simp [up2, va_up, e]]
        exact cp_fix ((hf _ (tg (hT.2.2.1 v hv2).1 (hT.1 0 (by decide)) (by simp)) (tg (hT.2.2.1 v hv2).1 (hT.1 2 (by decide)) (by simp)) (Ne.symm (tag_no ha (hR.2.2.1 v hv2).1)) (Ne.symm (tag_no hq (hR.2.2.1 v hv2).1)) (Ne.symm (tag_no hr (hR.2.2.1 v hv2).1))).trans (hR.2.2.1 v hv2).1) (by simp [up2, up3, va_up, cp_pg, cp_or, cp_tx, e])
      · rw [show (up2 (up2 (up2 b 3 (n 1) a) 4 (n 1) q) 5 (n 1) r) 4 v = b 4 v by simp [up2, va_up, e]]
        exact cp_fix ((hf _ (tg (hT.2.2.1 v hv2).2.1 (hT.1 0 (by decide)) (by simp)) (tg (hT.2.2.1 v hv2).2.1 (hT.1 2 (by decide)) (by simp)) (Ne.symm (tag_no ha (hR.2.2.1 v hv2).2.1)) (Ne.symm (tag_no hq (hR.2.2.1 v hv2).2.1)) (Ne.symm (tag_no hr (hR.2.2.1 v hv2).2.1))).trans (hR.2.2.1 v hv2).2.1) (by simp [up2, up3, va_up, cp_pg, cp_or, cp_tx, e])
      · rw [show (up2 (up2 (up2 b 3 (n 1) a) 4 (n 1) q) 5 (n 1) r) 5 v = b 5 v by simp [up2, va_up, e]]
        exact cp_fix ((hf _ (tg (hT.2.2.1 v hv2).2.2 (hT.1 0 (by decide)) (by simp)) (tg (hT.2.2.1 v hv2).2.2 (hT.1 2 (by decide)) (by simp)) (Ne.symm (tag_no ha (hR.2.2.1 v hv2).2.2)) (Ne.symm (tag_no hq (hR.2.2.1 v hv2).2.2)) (Ne.symm (tag_no hr (hR.2.2.1 v hv2).2.2))).trans (hR.2.2.1 v hv2).2.2) (by simp [up2, up3, va_up, cp_pg, cp_or, cp_tx, e])
  · intro v hv
    have hv : v < n 2 := by simpa [va_up] using hv
    refine ⟨?_, ?_⟩
    · rw [show (up2 (up2 (up2 b 3 (n 1) a) 4 (n 1) q) 5 (n 1) r) 6 v = b 6 v by simp [up2, va_up]]
      exact cp_fix ((hf _ (tg (hT.2.2.2 v hv).1 (hT.1 0 (by decide)) (by simp)) (tg (hT.2.2.2 v hv).1 (hT.1 2 (by decide)) (by simp)) (Ne.symm (tag_no ha (hR.2.2.2 v hv).1)) (Ne.symm (tag_no hq (hR.2.2.2 v hv).1)) (Ne.symm (tag_no hr (hR.2.2.2 v hv).1))).trans (hR.2.2.2 v hv).1) (by simp [up2, up3, va_up, cp_pg, cp_or, cp_tx])
    · rw [show (up2 (up2 (up2 b 3 (n 1) a) 4 (n 1) q) 5 (n 1) r) 7 v = b 7 v by simp [up2, va_up]]
      exact cp_fix ((hf _ (tg (hT.2.2.2 v hv).2 (hT.1 0 (by decide)) (by simp)) (tg (hT.2.2.2 v hv).2 (hT.1 2 (by decide)) (by simp)) (Ne.symm (tag_no ha (hR.2.2.2 v hv).2)) (Ne.symm (tag_no hq (hR.2.2.2 v hv).2)) (Ne.symm (tag_no hr (hR.2.2.2 v hv).2))).trans (hR.2.2.2 v hv).2) (by simp [up2, up3, va_up, cp_pg, cp_or, cp_tx])
  · intro j hj
    have hold : ∃ e, M (h j) = some e := by
      rcases (show j = 0 ∨ j = 1 ∨ j = 2 ∨ j = 3 ∨ j = 4 by omega) with rfl | rfl | rfl | rfl | rfl
      · exact ⟨_, hR.1.1⟩
      · exact ⟨_, hR.1.2.1⟩
      · exact ⟨_, hR.1.2.2.1⟩
      · exact ⟨_, hR.1.2.2.2.1⟩
      · exact ⟨_, hR.1.2.2.2.2⟩
    obtain ⟨e, he⟩ := hold
    exact (hTo _ (Ne.symm (tag_no ha he)) (Ne.symm (tag_no hq he)) (Ne.symm (tag_no hr he))).trans (hT.1 j hj)
  · intro v hv
    have hv : v < n 0 := by simpa [va_up] using hv
    refine ⟨?_, ?_⟩
    · rw [show (up2 (up2 (up2 b 3 (n 1) a) 4 (n 1) q) 5 (n 1) r) 1 v = b 1 v by simp [up2, va_up]]
      exact (hTo _ (Ne.symm (tag_no ha (hR.2.1 v hv).1)) (Ne.symm (tag_no hq (hR.2.1 v hv).1)) (Ne.symm (tag_no hr (hR.2.1 v hv).1))).trans (hT.2.1 v hv).1
    · rw [show (up2 (up2 (up2 b 3 (n 1) a) 4 (n 1) q) 5 (n 1) r) 2 v = b 2 v by simp [up2, va_up]]
      exact (hTo _ (Ne.symm (tag_no ha (hR.2.1 v hv).2)) (Ne.symm (tag_no hq (hR.2.1 v hv).2)) (Ne.symm (tag_no hr (hR.2.1 v hv).2))).trans (hT.2.1 v hv).2
  · intro v hv
    have hv : v < n 1 + 1 := by simpa [va_up] using hv
    by_cases e : v = n 1
    · subst e
      refine ⟨?_, ?_, ?_⟩
      · rw [show (up2 (up2 (up2 b 3 (n 1) a) 4 (n 1) q) 5 (n 1) r) 3 (n 1) = a by simp [up2, va_up]]
        simp [va_up, haq, har]
      · rw [show (up2 (up2 (up2 b 3 (n 1) a) 4 (n 1) q) 5 (n 1) r) 4 (n 1) = q by simp [up2, va_up]]
        simp [va_up, (Ne.symm haq), hqr]
      · rw [show (up2 (up2 (up2 b 3 (n 1) a) 4 (n 1) q) 5 (n 1) r) 5 (n 1) = r by simp [up2, va_up]]
        simp [va_up, (Ne.symm har), (Ne.symm hqr)]
    · have hv2 : v < n 1 := by omega
      refine ⟨?_, ?_, ?_⟩
      · rw [show (up2 (up2 (up2 b 3 (n 1) a) 4 (n 1) q) 5 (n 1) r) 3 v = b 3 v by simp [up2, va_up, e]]
        exact (hTo _ (Ne.symm (tag_no ha (hR.2.2.1 v hv2).1)) (Ne.symm (tag_no hq (hR.2.2.1 v hv2).1)) (Ne.symm (tag_no hr (hR.2.2.1 v hv2).1))).trans (hT.2.2.1 v hv2).1
      · rw [show (up2 (up2 (up2 b 3 (n 1) a) 4 (n 1) q) 5 (n 1) r) 4 v = b 4 v by simp [up2, va_up, e]]
        exact (hTo _ (Ne.symm (tag_no ha (hR.2.2.1 v hv2).2.1)) (Ne.symm (tag_no hq (hR.2.2.1 v hv2).2.1)) (Ne.symm (tag_no hr (hR.2.2.1 v hv2).2.1))).trans (hT.2.2.1 v hv2).2.1
      · rw [show (up2 (up2 (up2 b 3 (n 1) a) 4 (n 1) q) 5 (n 1) r) 5 v = b 5 v by simp [up2, va_up, e]]
        exact (hTo _ (Ne.symm (tag_no ha (hR.2.2.1 v hv2).2.2)) (Ne.symm (tag_no hq (hR.2.2.1 v hv2).2.2)) (Ne.symm (tag_no hr (hR.2.2.1 v hv2).2.2))).trans (hT.2.2.1 v hv2).2.2
  · intro v hv
    have hv : v < n 2 := by simpa [va_up] using hv
    refine ⟨?_, ?_⟩
    · rw [show (up2 (up2 (up2 b 3 (n 1) a) 4 (n 1) q) 5 (n 1) r) 6 v = b 6 v by simp [up2, va_up]]
      exact (hTo _ (Ne.symm (tag_no ha (hR.2.2.2 v hv).1)) (Ne.symm (tag_no hq (hR.2.2.2 v hv).1)) (Ne.symm (tag_no hr (hR.2.2.2 v hv).1))).trans (hT.2.2.2 v hv).1
    · rw [show (up2 (up2 (up2 b 3 (n 1) a) 4 (n 1) q) 5 (n 1) r) 7 v = b 7 v by simp [up2, va_up]]
      exact (hTo _ (Ne.symm (tag_no ha (hR.2.2.2 v hv).2)) (Ne.symm (tag_no hq (hR.2.2.2 v hv).2)) (Ne.symm (tag_no hr (hR.2.2.2 v hv).2))).trans (hT.2.2.2 v hv).2
theorem cp_addX {k : Nat → ClassId} {h : Nat → Nat} {b : Nat → Nat → Nat} {T : Nat → Nat × Nat} {n : Nat → Nat} {c : Nat → Nat → Nat → Int32} {M M1 : mw} (hR : cp_R k h b n c M) (hT : cp_T h b T n) {a q : Nat} {f : Nat → Int32} {x : Int32} (ha : M a = none) (hq : M q = none) (haq : a ≠ q) (g0 : M1 (h 0) = some (cp_r h (va_up n 2 (n 2 + 1)))) (g1 : M1 (h 3) = some (.inl (k 4, 40, .inr (.inr (.inr (.inr (va_up (fun p => if p < n 2 then some (b 6 p) else none) (n 2) (some a)))))))) (ga : M1 a = some (.inr (3, [.ref q, .int x]))) (gq : M1 q = some (.inl (k 0, 40, .inl f))) (hf : ∀ y, y ≠ h 0 → y ≠ h 3 → y ≠ a → y ≠ q → M1 y = M y) :
    cp_R k h (up2 (up2 b 6 (n 2) a) 7 (n 2) q) (va_up n 2 (n 2 + 1)) (up3 (up3 c 7 (n 2) f) 8 (n 2) (fun _ => x)) M1 ∧ cp_T h (up2 (up2 b 6 (n 2) a) 7 (n 2) q) (va_up (va_up T a (6, n 2)) q (7, n 2)) (va_up n 2 (n 2 + 1)) := by
  have hTo : ∀ y, y ≠ a → y ≠ q → (va_up (va_up T a (6, n 2)) q (7, n 2)) y = T y := fun y h0 h1 => by rw [va_up_ne _ _ h1, va_up_ne _ _ h0]
  refine ⟨⟨⟨g0, (hf _ (tg (hT.1 1 (by decide)) (hT.1 0 (by decide)) (by simp)) (tg (hT.1 1 (by decide)) (hT.1 3 (by decide)) (by simp)) (Ne.symm (tag_no ha hR.1.2.1)) (Ne.symm (tag_no hq hR.1.2.1))).trans hR.1.2.1, (hf _ (tg (hT.1 2 (by decide)) (hT.1 0 (by decide)) (by simp)) (tg (hT.1 2 (by decide)) (hT.1 3 (by decide)) (by simp)) (Ne.symm (tag_no ha hR.1.2.2.1)) (Ne.symm (tag_no hq hR.1.2.2.1))).trans hR.1.2.2.1, cp_fix g1 (by rw [q_add]; rfl), (hf _ (tg (hT.1 4 (by decide)) (hT.1 0 (by decide)) (by simp)) (tg (hT.1 4 (by decide)) (hT.1 3 (by decide)) (by simp)) (Ne.symm (tag_no ha hR.1.2.2.2.2)) (Ne.symm (tag_no hq hR.1.2.2.2.2))).trans hR.1.2.2.2.2⟩, ?_, ?_, ?_⟩, ?_, ?_, ?_, ?_⟩
  · intro v hv
    have hv : v < n 0 := by simpa [va_up] using hv
    refine ⟨?_, ?_⟩
    · rw [show (up2 (up2 b 6 (n 2) a) 7 (n 2) q) 1 v = b 1 v by simp [up2, va_up]]
      exact cp_fix ((hf _ (tg (hT.2.1 v hv).1 (hT.1 0 (by decide)) (by simp)) (tg (hT.2.1 v hv).1 (hT.1 3 (by decide)) (by simp)) (Ne.symm (tag_no ha (hR.2.1 v hv).1)) (Ne.symm (tag_no hq (hR.2.1 v hv).1))).trans (hR.2.1 v hv).1) (by simp [up2, up3, va_up, cp_pg, cp_or, cp_tx])
    · rw [show (up2 (up2 b 6 (n 2) a) 7 (n 2) q) 2 v = b 2 v by simp [up2, va_up]]
      exact cp_fix ((hf _ (tg (hT.2.1 v hv).2 (hT.1 0 (by decide)) (by simp)) (tg (hT.2.1 v hv).2 (hT.1 3 (by decide)) (by simp)) (Ne.symm (tag_no ha (hR.2.1 v hv).2)) (Ne.symm (tag_no hq (hR.2.1 v hv).2))).trans (hR.2.1 v hv).2) (by simp [up2, up3, va_up, cp_pg, cp_or, cp_tx])
  · intro v hv
    have hv : v < n 1 := by simpa [va_up] using hv
    refine ⟨?_, ?_, ?_⟩
    · rw [show (up2 (up2 b 6 (n 2) a) 7 (n 2) q) 3 v = b 3 v by simp [up2, va_up]]
      exact cp_fix ((hf _ (tg (hT.2.2.1 v hv).1 (hT.1 0 (by decide)) (by simp)) (tg (hT.2.2.1 v hv).1 (hT.1 3 (by decide)) (by simp)) (Ne.symm (tag_no ha (hR.2.2.1 v hv).1)) (Ne.symm (tag_no hq (hR.2.2.1 v hv).1))).trans (hR.2.2.1 v hv).1) (by simp [up2, up3, va_up, cp_pg, cp_or, cp_tx])
    · rw [show (up2 (up2 b 6 (n 2) a) 7 (n 2) q) 4 v = b 4 v by simp [up2, va_up]]
      exact cp_fix ((hf _ (tg (hT.2.2.1 v hv).2.1 (hT.1 0 (by decide)) (by simp)) (tg (hT.2.2.1 v hv).2.1 (hT.1 3 (by decide)) (by simp)) (Ne.symm (tag_no ha (hR.2.2.1 v hv).2.1)) (Ne.symm (tag_no hq (hR.2.2.1 v hv).2.1))).trans (hR.2.2.1 v hv).2.1) (by simp [up2, up3, va_up, cp_pg, cp_or, cp_tx])
    · rw [show (up2 (up2 b 6 (n 2) a) 7 (n 2) q) 5 v = b 5 v by simp [up2, va_up]]
      exact cp_fix ((hf _ (tg (hT.2.2.1 v hv).2.2 (hT.1 0 (by decide)) (by simp)) (tg (hT.2.2.1 v hv).2.2 (hT.1 3 (by decide)) (by simp)) (Ne.symm (tag_no ha (hR.2.2.1 v hv).2.2)) (Ne.symm (tag_no hq (hR.2.2.1 v hv).2.2))).trans (hR.2.2.1 v hv).2.2) (by simp [up2, up3, va_up, cp_pg, cp_or, cp_tx])
  · intro v hv
    have hv : v < n 2 + 1 := by simpa [va_up] using hv
    by_cases e : v = n 2
    · subst e
      refine ⟨?_, ?_⟩
      · rw [show (up2 (up2 b 6 (n 2) a) 7 (n 2) q) 6 (n 2) = a by simp [up2, va_up]]
        exact cp_fix ga (by simp [up2, up3, va_up, cp_pg, cp_or, cp_tx])
      · rw [show (up2 (up2 b 6 (n 2) a) 7 (n 2) q) 7 (n 2) = q by simp [up2, va_up]]
        exact cp_fix gq (by simp [up2, up3, va_up, cp_pg, cp_or, cp_tx])
    · have hv2 : v < n 2 := by omega
      refine ⟨?_, ?_⟩
      · rw [show (up2 (up2 b 6 (n 2) a) 7 (n 2) q) 6 v = b 6 v by simp [up2, va_up, e]]
        exact cp_fix ((hf _ (tg (hT.2.2.2 v hv2).1 (hT.1 0 (by decide)) (by simp)) (tg (hT.2.2.2 v hv2).1 (hT.1 3 (by decide)) (by simp)) (Ne.symm (tag_no ha (hR.2.2.2 v hv2).1)) (Ne.symm (tag_no hq (hR.2.2.2 v hv2).1))).trans (hR.2.2.2 v hv2).1) (by simp [up2, up3, va_up, cp_pg, cp_or, cp_tx, e])
      · rw [show (up2 (up2 b 6 (n 2) a) 7 (n 2) q) 7 v = b 7 v by simp [up2, va_up, e]]
        exact cp_fix ((hf _ (tg (hT.2.2.2 v hv2).2 (hT.1 0 (by decide)) (by simp)) (tg (hT.2.2.2 v hv2).2 (hT.1 3 (by decide)) (by simp)) (Ne.symm (tag_no ha (hR.2.2.2 v hv2).2)) (Ne.symm (tag_no hq (hR.2.2.2 v hv2).2))).trans (hR.2.2.2 v hv2).2) (by simp [up2, up3, va_up, cp_pg, cp_or, cp_tx, e])
  · intro j hj
    have hold : ∃ e, M (h j) = some e := by
      rcases (show j = 0 ∨ j = 1 ∨ j = 2 ∨ j = 3 ∨ j = 4 by omega) with rfl | rfl | rfl | rfl | rfl
      · exact ⟨_, hR.1.1⟩
      · exact ⟨_, hR.1.2.1⟩
      · exact ⟨_, hR.1.2.2.1⟩
      · exact ⟨_, hR.1.2.2.2.1⟩
      · exact ⟨_, hR.1.2.2.2.2⟩
    obtain ⟨e, he⟩ := hold
    exact (hTo _ (Ne.symm (tag_no ha he)) (Ne.symm (tag_no hq he))).trans (hT.1 j hj)
  · intro v hv
    have hv : v < n 0 := by simpa [va_up] using hv
    refine ⟨?_, ?_⟩
    · rw [show (up2 (up2 b 6 (n 2) a) 7 (n 2) q) 1 v = b 1 v by simp [up2, va_up]]
      exact (hTo _ (Ne.symm (tag_no ha (hR.2.1 v hv).1)) (Ne.symm (tag_no hq (hR.2.1 v hv).1))).trans (hT.2.1 v hv).1
    · rw [show (up2 (up2 b 6 (n 2) a) 7 (n 2) q) 2 v = b 2 v by simp [up2, va_up]]
      exact (hTo _ (Ne.symm (tag_no ha (hR.2.1 v hv).2)) (Ne.symm (tag_no hq (hR.2.1 v hv).2))).trans (hT.2.1 v hv).2
  · intro v hv
    have hv : v < n 1 := by simpa [va_up] using hv
    refine ⟨?_, ?_, ?_⟩
    · rw [show (up2 (up2 b 6 (n 2) a) 7 (n 2) q) 3 v = b 3 v by simp [up2, va_up]]
      exact (hTo _ (Ne.symm (tag_no ha (hR.2.2.1 v hv).1)) (Ne.symm (tag_no hq (hR.2.2.1 v hv).1))).trans (hT.2.2.1 v hv).1
    · rw [show (up2 (up2 b 6 (n 2) a) 7 (n 2) q) 4 v = b 4 v by simp [up2, va_up]]
      exact (hTo _ (Ne.symm (tag_no ha (hR.2.2.1 v hv).2.1)) (Ne.symm (tag_no hq (hR.2.2.1 v hv).2.1))).trans (hT.2.2.1 v hv).2.1
    · rw [show (up2 (up2 b 6 (n 2) a) 7 (n 2) q) 5 v = b 5 v by simp [up2, va_up]]
      exact (hTo _ (Ne.symm (tag_no ha (hR.2.2.1 v hv).2.2)) (Ne.symm (tag_no hq (hR.2.2.1 v hv).2.2))).trans (hT.2.2.1 v hv).2.2
  · intro v hv
    have hv : v < n 2 + 1 := by simpa [va_up] using hv
    by_cases e : v = n 2
    · subst e
      refine ⟨?_, ?_⟩
      · rw [show (up2 (up2 b 6 (n 2) a) 7 (n 2) q) 6 (n 2) = a by simp [up2, va_up]]
        simp [va_up, haq]
      · rw [show (up2 (up2 b 6 (n 2) a) 7 (n 2) q) 7 (n 2) = q by simp [up2, va_up]]
        simp [va_up, (Ne.symm haq)]
    · have hv2 : v < n 2 := by omega
      refine ⟨?_, ?_⟩
      · rw [show (up2 (up2 b 6 (n 2) a) 7 (n 2) q) 6 v = b 6 v by simp [up2, va_up, e]]
        exact (hTo _ (Ne.symm (tag_no ha (hR.2.2.2 v hv2).1)) (Ne.symm (tag_no hq (hR.2.2.2 v hv2).1))).trans (hT.2.2.2 v hv2).1
      · rw [show (up2 (up2 b 6 (n 2) a) 7 (n 2) q) 7 v = b 7 v by simp [up2, va_up, e]]
        exact (hTo _ (Ne.symm (tag_no ha (hR.2.2.2 v hv2).2)) (Ne.symm (tag_no hq (hR.2.2.2 v hv2).2))).trans (hT.2.2.2 v hv2).2
theorem fm_ok {z i : Nat} (hz : z < 3) (hi : i < 256) : okm (fm z i) := by
  unfold fm
  split
  · split
    · exact Or.inr (vp_in_nI (by omega) (by omega))
    · exact Or.inl rfl
  · split
    · exact Or.inr (vp_in_nI (by omega) (by omega))
    · exact Or.inl rfl
theorem fm_inj {z i j : Nat} (hi : i < 256) (hj : j < 256) (h : fm z i = fm z j) (hn : fm z i ≠ -1) : i = j := by
  unfold fm at h hn
  by_cases h0 : z = 0
  · rw [if_pos h0] at h hn
    rw [if_pos h0] at h
    by_cases h1 : i < 128
    · rw [if_pos h1] at h
      by_cases h2 : j < 128
      · rw [if_pos h2] at h
        exact (nI_eq (by omega) (by omega)).mp h
      · rw [if_neg h2] at h
        exact absurd h (nI_m1 (by omega))
    · rw [if_neg h1] at hn
      exact absurd rfl hn
  · rw [if_neg h0] at h hn
    rw [if_neg h0] at h
    by_cases h1 : z = 1
    · rw [if_pos h1, if_pos h1] at h
      have h2 := (nI_eq (by omega) (by omega)).mp h
      have e1 : (23 * ((167 * i + 13) % 256) + 213) % 256 = i := by omega
      have e2 : (23 * ((167 * j + 13) % 256) + 213) % 256 = j := by omega
      rw [← e1, ← e2, h2]
    · rw [if_neg h1] at hn
      exact absurd rfl hn
/-- a page more -/
theorem sm_page {n : Nat → Nat} {c : Nat → Nat → Nat → Int32} {g : Nat → Nat → Int32} {L : Nat → Nat} {X : Nat → Nat → Nat} (h : sm n c g L X) {z : Nat} (hz : z < 3) : sm (va_up n 0 (n 0 + 1)) (up3 (up3 c 1 (n 0) (blk (fun _ => 0) 0 256 (fm z))) 2 (n 0) (fun _ => nI 63)) (va_up (va_up g 1 (blk (g 1) (256 * n 0) 256 (fm z))) 2 (upd (g 2) (n 0) (nI 63))) L X := by
  obtain ⟨h1, h2, h3, h4, h5⟩ := h
  refine ⟨fun p hp => ?_, h2, h3, h4, h5⟩
  have hp : p < n 0 + 1 := hp
  rw [va_up_self, va_up_ne (va_up g 1 _) _ (show 1 ≠ 2 by decide), va_up_self, up3_o (show 1 ≠ 2 by decide)]
  by_cases e : p = n 0
  · subst e
    refine ⟨by rw [up3_s, pk_us], ⟨63, by omega, pk_us⟩, fun i hi => ?_, fun i j hi hj e1 e2 => ?_⟩
    · have a1 : blk (fun _ => 0) 0 256 (fm z) i = fm z i := by
        have := blk_in (f := fun _ => 0) (a := 0) (h := fm z) hi
        rwa [Nat.zero_add] at this
      rw [up3_s, a1, blk_in hi]
      exact ⟨rfl, fm_ok hz hi⟩
    · rw [blk_in hi, blk_in hj] at e1
      rw [blk_in hi] at e2
      exact fm_inj hi hj e1 e2
  · obtain ⟨a1, a2, a3, a4⟩ := h1 p (by omega)
    refine ⟨by rw [up3_n e, up3_o (by decide), pk_un e]; exact a1, by rw [pk_un e]; exact a2, fun i hi => ?_, fun i j hi hj e1 e2 => ?_⟩
    · rw [up3_n e, blk_out (by omega)]
      exact a3 i hi
    · rw [blk_out (by omega), blk_out (by omega)] at e1
      rw [blk_out (by omega)] at e2
      exact a4 i j hi hj e1 e2
theorem cntb_all {b : Nat → Bool} : ∀ {c : Nat}, (∀ y, y < c → b y = true) → cntb b c = c
  | 0, _ => rfl
  | c + 1, h => by rw [cntb_t (h c (by omega)), cntb_all (fun y hy => h y (by omega))]
/-- an order more -/
theorem sm_order {n : Nat → Nat} {c : Nat → Nat → Nat → Int32} {g : Nat → Nat → Int32} {L : Nat → Nat} {X : Nat → Nat → Nat} (h : sm n c g L X) {z : Nat} (hz : z < 3) {f3 : Nat → Int32} (hf : ∀ i, i < 256 → f3 i = if z = 2 then nI i else fo n g z i) {y : Int32} (hy : y = bz (z = 2)) :
    sm (va_up n 1 (n 1 + 1)) (up3 (up3 (up3 (up3 c 3 (n 1) f3) 4 (n 1) (fun _ => 0)) 5 (n 1) (fun _ => 0)) 6 (n 1) (fun _ => y)) (va_up (va_up (va_up g 4 (upd (g 4) (n 1) (nI z))) 6 (upd (g 6) (n 1) 0)) 5 (blk (g 5) (256 * n 1) 256 (fo n g z))) L X := by
  obtain ⟨h1, h2, h3, h4, h5⟩ := h
  generalize hG : va_up (va_up (va_up g 4 (upd (g 4) (n 1) (nI z))) 6 (upd (g 6) (n 1) 0)) 5 (blk (g 5) (256 * n 1) 256 (fo n g z)) = G
  have e4 : G 4 = upd (g 4) (n 1) (nI z) := by rw [← hG]; rfl
  have e5 : G 5 = blk (g 5) (256 * n 1) 256 (fo n g z) := by rw [← hG]; rfl
  have e6 : G 6 = upd (g 6) (n 1) 0 := by rw [← hG]; rfl
  have e1 : G 1 = g 1 := by rw [← hG]; rfl
  have e2 : G 2 = g 2 := by rw [← hG]; rfl
  have e8 : G 8 = g 8 := by rw [← hG]; rfl
  have e9 : G 9 = g 9 := by rw [← hG]; rfl
  have e11 : G 11 = g 11 := by rw [← hG]; rfl
  refine ⟨fun p hp => by rw [e1, e2]; exact h1 p hp, fun o ho => ?_, h3, fun t ht => by rw [e8, e9]; exact h4 t ht, fun j hj => by rw [e11]; exact h5 j hj⟩
  have ho : o < n 1 + 1 := ho
  have u6 : ∀ f, up3 (up3 (up3 (up3 c 3 (n 1) f3) 4 (n 1) (fun _ => 0)) 5 (n 1) (fun _ => 0)) 6 (n 1) f 3 = up3 c 3 (n 1) f3 3 := fun f => by rw [up3_o (by decide), up3_o (by decide), up3_o (by decide)]
  by_cases e : o = n 1
  · subst e
    have k4 : G 4 (n 1) = nI z := by rw [e4, pk_us]
    have hz2 : G 4 (n 1) = nI 2 ↔ z = 2 := by rw [k4]; exact nI_eq (by omega) (by omega)
    refine ⟨?_, fun i hi => ?_, fun hk => ⟨?_, fun i hi => ?_⟩⟩
    · rw [up3_s, hy]
      by_cases q : z = 2
      · rw [bz_t q, bz_t (hz2.mpr q)]
      · rw [bz_f q, bz_f (fun x => q (hz2.mp x))]
    · rw [u6, up3_s, hf i hi]
      unfold rko
      rw [e5, blk_in hi]
      by_cases q : z = 2
      · have m1 : ∀ d, d < 256 → nob G (n 1) d = true := fun d hd => by
          unfold nob
          rw [e5, blk_in hd]
          unfold fo
          rw [if_pos q]
          decide
        rw [if_pos q, if_pos ⟨hz2.mpr q, by unfold fo; rw [if_pos q]⟩, e6, pk_us, cntb_all (fun d hd => m1 d (by omega)), Int32.zero_add]
      · rw [if_neg q, if_neg (fun x => q (hz2.mp x.1))]
    · rw [up3_o (by decide), up3_s, e6, pk_us]
    · rw [up3_o (by decide), up3_o (by decide), up3_s, e5, blk_in hi]
      have q := hz2.mp hk
      rw [bz_f (by unfold fo; rw [if_pos q]; exact fun x => x rfl)]
  · obtain ⟨b1, b2, b3⟩ := h2 o (by omega)
    have k4 : G 4 o = g 4 o := by rw [e4, pk_un e]
    have k6 : G 6 o = g 6 o := by rw [e6, pk_un e]
    have k5 : ∀ i, i < 256 → G 5 (256 * o + i) = g 5 (256 * o + i) := fun i hi => by rw [e5, blk_out (by omega)]
    rw [k4]
    refine ⟨by rw [up3_n e, up3_o (by decide), up3_o (by decide), up3_o (by decide)]; exact b1, fun i hi => ?_, fun hk => ⟨?_, fun i hi => ?_⟩⟩
    · rw [u6, up3_n e, b2 i hi]
      unfold rko
      rw [k4, k6, k5 i hi, cntb_ext (b := nob g o) (b' := nob G o) (fun d hd => by unfold nob; rw [k5 d (by omega)])]
    · rw [up3_o (by decide), up3_n e, up3_o (by decide), up3_o (by decide), k6]
      exact (b3 hk).1
    · rw [up3_o (by decide), up3_o (by decide), up3_n e, up3_o (by decide), k5 i hi]
      exact (b3 hk).2 i hi
theorem kx_inj {n : Nat → Nat} {c : Nat → Nat → Nat → Int32} {g : Nat → Nat → Int32} (h : sm_P n c g) (h0 : 0 < n 0) : ∀ x y, x < 256 → y < 256 → kx (c 1 0) x = kx (c 1 0) y → x = y := by
  obtain ⟨-, -, h3, h4⟩ := h 0 h0
  intro x y hx hy e
  unfold kx at e
  obtain ⟨a1, a2⟩ := h3 x hx
  obtain ⟨b1, b2⟩ := h3 y hy
  rw [a1, b1] at e
  have big : ∀ u q, okm u → u ≠ -1 → q < 256 → u ≠ nI (65536 + q) := fun u q hu hn hq e => by
    rcases hu with hu | hu
    · exact hn hu
    · rw [e] at hu
      have := (in_nI (by omega) (by omega)).mp hu
      omega
  by_cases p1 : g 1 (256 * 0 + x) = -1
  · rw [if_pos p1] at e
    by_cases p2 : g 1 (256 * 0 + y) = -1
    · rw [if_pos p2] at e
      have := (nI_eq (by omega) (by omega)).mp e
      omega
    · rw [if_neg p2] at e
      exact absurd e.symm (big _ _ b2 p2 hx)
  · rw [if_neg p1] at e
    by_cases p2 : g 1 (256 * 0 + y) = -1
    · rw [if_pos p2] at e
      exact absurd e (big _ _ a2 p1 hy)
    · rw [if_neg p2] at e
      exact h4 x y hx hy e p1
theorem mnt_rk {n : Nat → Nat} {c : Nat → Nat → Nat → Int32} {g : Nat → Nat → Int32} (h : sm_P n c g) (h0 : 0 < n 0) {x : Nat} (hx : x < 256) : cntb (ltb (Kx (c 1 0)) x) 256 = mnt n g x := by
  obtain ⟨-, -, h3, -⟩ := h 0 h0
  unfold mnt
  rw [if_neg (by omega)]
  refine cntb_ext (fun d hd => ?_)
  obtain ⟨a1, a2⟩ := h3 x hx
  obtain ⟨b1, b2⟩ := h3 d hd
  rw [show 256 * 0 + x = x by omega] at a1 a2
  rw [show 256 * 0 + d = d by omega] at b1 b2
  have val : ∀ u, okm u → u ≠ -1 → 0 ≤ u.toInt ∧ u.toInt < 65536 := fun u hu hn => by
    rcases hu with hu | hu
    · exact absurd hu hn
    · have := vp_in_iff.mp hu
      omega
  unfold ltb ahd Kx kx
  rw [a1, b1]
  refine decide_eq_decide.mpr ?_
  by_cases p1 : g 1 d = -1
  · rw [if_pos p1, if_pos p1, nI_toInt (by omega)]
    by_cases p2 : g 1 x = -1
    · rw [if_pos p2, nI_toInt (by omega)]
      exact ⟨fun q => ⟨p2, by omega⟩, fun q => by have := q.2; omega⟩
    · rw [if_neg p2]
      have := val _ a2 p2
      exact ⟨fun q => by omega, fun q => absurd q.1 p2⟩
  · rw [if_neg p1, if_neg p1]
    have v1 := val _ b2 p1
    by_cases p2 : g 1 x = -1
    · rw [if_pos p2, nI_toInt (by omega)]
      exact ⟨fun _ => Or.inl p2, fun _ => by omega⟩
    · rw [if_neg p2]
      exact ⟨fun q => Or.inr (Int32.lt_iff_toInt_lt.mpr q), fun q => by rcases q with q | q; exact absurd q p2; exact Int32.lt_iff_toInt_lt.mp q⟩
/-- a text more -/
theorem sm_text {n : Nat → Nat} {c : Nat → Nat → Nat → Int32} {g : Nat → Nat → Int32} {L : Nat → Nat} {X : Nat → Nat → Nat} (h : sm n c g L X) (h9 : g 9 (n 2) = 0) : sm (va_up n 2 (n 2 + 1)) (up3 (up3 c 7 (n 2) (fun _ => 0)) 8 (n 2) (fun _ => 0)) g (va_up L (n 2) 0) X := by
  obtain ⟨h1, h2, h3, h4, h5⟩ := h
  refine ⟨h1, h2, fun t ht => ?_, fun t ht => ?_, h5⟩
  · have ht : t < n 2 + 1 := ht
    by_cases e : t = n 2
    · subst e
      rw [va_up_self]
      exact ⟨by rw [up3_s]; rfl, fun q hq => absurd hq (Nat.not_lt_zero _)⟩
    · rw [va_up_ne _ _ e, up3_n e, up3_o (by decide), up3_o (by decide), up3_n e]
      exact h3 t (by omega)
  · have ht : t < n 2 + 1 := ht
    by_cases e : t = n 2
    · subst e
      rw [va_up_self]
      exact ⟨by omega, h9, fun q hq => absurd hq (Nat.not_lt_zero _)⟩
    · rw [va_up_ne _ _ e]
      exact h4 t (by omega)
end
