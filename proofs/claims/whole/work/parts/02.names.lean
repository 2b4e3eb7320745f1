/-! ===== words of one list among another's ===== -/
theorem goodIn_sub {big ws : List Cond} (hm : ∀ w ∈ ws, w ∈ big) (h : ws.all goodWord = true) : GoodIn big ws := fun w hw => ⟨hm w hw, good_of_word (List.all_eq_true.mp h w hw)⟩

/-! ===== the tables' words, methods as data ===== -/
/-- a method: its name, bytes, locals, what it returns -/
abbrev MD : Type := MethodName × ByteArray × Nat × Option FieldType
/-- the words that every later state keeps -/
def TB : List Cond := lw_tbl.filter goodWord
theorem lw_in {i : Nat} {w : Cond} (h : lw_tbl[i]? = some w) (hg : goodWord w = true) : w ∈ TB := List.mem_filter.mpr ⟨List.mem_of_getElem? h, hg⟩
theorem TB_goodIn : GoodIn TB TB := fun w hw => ⟨hw, good_of_word (List.mem_filter.mp hw).2⟩
/-- what the tables say of a method that is called -/
def MOK (M : MD) : Prop := Cond.code M.1 M.2.1 M.2.2.1 M.2.2.2 ∈ TB ∧ Cond.initialized M.1.cls ∈ TB ∧ (M.1.cls ≠ "java/lang/invoke/MethodHandle" ∧ M.1.cls ≠ "java/lang/invoke/VarHandle") ∧ plainName M.1.cls = true ∧ M.2.2.1 ≤ 40
/-- of a method of an object -/
def MOV (M : MD) : Prop := MOK M ∧ Cond.instanceMethod M.1 ∈ TB ∧ Cond.selects M.1.cls M.1 M.1 ∈ TB
def MOS (M : MD) : Prop := MOK M ∧ Cond.static M.1 ∈ TB

def RX0 : String := "UnreadScript$Accounts"
def TX0 : u_T := fun k => match k with
  | 0 => ("UnreadScript$Accounts", "excess", "[[I", true)
  | 1 => ("UnreadScript$Accounts", "size", "I", false)
  | 2 => ("UnreadScript$Accounts", "picks", "[I", true)
  | 3 => ("UnreadScript$Accounts", "firstPicks", "[I", true)
  | 4 => ("UnreadScript$Accounts", "seen", "[I", true)
  | _ => ("UnreadScript$Accounts", "fitting", "I", false)
def tyX0 : Nat → FieldType := fun k => match k with
  | 0 => .array (.array .int)
  | 1 => .int
  | 2 => .array .int
  | 3 => .array .int
  | 4 => .array .int
  | _ => .int
abbrev wsX00 : List Cond := u_ws RX0 TX0 6
theorem nmX0 : ∀ a, a < 6 → ∀ b, b < 6 → a ≠ b → (TX0 a).2.1 ≠ (TX0 b).2.1 := by decide +kernel
theorem tyX0_ok : ∀ k, k < 6 → parseFieldDescriptor (TX0 k).2.2.1 = some (tyX0 k) := by decide +kernel
abbrev cX0_init : ByteArray := prog_2_method_1_code
def yX0_init : MethodName := ⟨RX0, "<init>", "()V"⟩
abbrev cX0_size : ByteArray := prog_2_method_2_code
def yX0_size : MethodName := ⟨RX0, "size", "()I"⟩
abbrev cX0_add : ByteArray := prog_2_method_3_code
def yX0_add : MethodName := ⟨RX0, "add", "(II)I"⟩
abbrev cX0_areStanding : ByteArray := prog_2_method_4_code
def yX0_areStanding : MethodName := ⟨RX0, "areStanding", "(I)Z"⟩
abbrev cX0_standing : ByteArray := prog_2_method_5_code
def yX0_standing : MethodName := ⟨RX0, "standing", "(II)I"⟩
abbrev cX0_tellFits : ByteArray := prog_2_method_6_code
def yX0_tellFits : MethodName := ⟨RX0, "tellFits", "(I)I"⟩
abbrev cX0_valuesSeen : ByteArray := prog_2_method_7_code
def yX0_valuesSeen : MethodName := ⟨RX0, "valuesSeen", "(I)I"⟩
abbrev cX0_valueOf : ByteArray := prog_2_method_8_code
def yX0_valueOf : MethodName := ⟨RX0, "valueOf", "(I)I"⟩
abbrev cX0_search : ByteArray := prog_2_method_9_code
def yX0_search : MethodName := ⟨RX0, "search", "()V"⟩
abbrev cX0_areUnlike : ByteArray := prog_2_method_10_code
def yX0_areUnlike : MethodName := ⟨RX0, "areUnlike", "()Z"⟩
abbrev cX0_doAddUp : ByteArray := prog_2_method_11_code
def yX0_doAddUp : MethodName := ⟨RX0, "doAddUp", "()Z"⟩
abbrev cX0_keep : ByteArray := prog_2_method_12_code
def yX0_keep : MethodName := ⟨RX0, "keep", "()V"⟩
def RX1 : String := "UnreadScript$Claims"
def TX1 : u_T := fun k => match k with
  | 0 => ("UnreadScript$Claims", "tape", "LUnreadScript$Tape;", true)
  | 1 => ("UnreadScript$Claims", "kinds", "[I", true)
  | 2 => ("UnreadScript$Claims", "numbers", "[I", true)
  | 3 => ("UnreadScript$Claims", "came", "[I", true)
  | 4 => ("UnreadScript$Claims", "gone", "[I", true)
  | 5 => ("UnreadScript$Claims", "hangsOn", "[I", true)
  | 6 => ("UnreadScript$Claims", "depths", "[I", true)
  | 7 => ("UnreadScript$Claims", "size", "I", false)
  | 8 => ("UnreadScript$Claims", "told", "I", false)
  | 9 => ("UnreadScript$Claims", "awaited", "I", false)
  | 10 => ("UnreadScript$Claims", "fault", "I", false)
  | _ => ("UnreadScript$Claims", "day", "I", false)
def tyX1 : Nat → FieldType := fun k => match k with
  | 0 => .object "UnreadScript$Tape"
  | 1 => .array .int
  | 2 => .array .int
  | 3 => .array .int
  | 4 => .array .int
  | 5 => .array .int
  | 6 => .array .int
  | 7 => .int
  | 8 => .int
  | 9 => .int
  | 10 => .int
  | _ => .int
abbrev wsX10 : List Cond := u_ws RX1 TX1 12
theorem nmX1 : ∀ a, a < 12 → ∀ b, b < 12 → a ≠ b → (TX1 a).2.1 ≠ (TX1 b).2.1 := by decide +kernel
theorem tyX1_ok : ∀ k, k < 12 → parseFieldDescriptor (TX1 k).2.2.1 = some (tyX1 k) := by decide +kernel
abbrev cX1_init : ByteArray := prog_3_method_1_code
def yX1_init : MethodName := ⟨RX1, "<init>", "(LUnreadScript$Tape;)V"⟩
abbrev cX1_size : ByteArray := prog_3_method_2_code
def yX1_size : MethodName := ⟨RX1, "size", "()I"⟩
abbrev cX1_latestFault : ByteArray := prog_3_method_3_code
def yX1_latestFault : MethodName := ⟨RX1, "latestFault", "()I"⟩
abbrev cX1_today : ByteArray := prog_3_method_4_code
def yX1_today : MethodName := ⟨RX1, "today", "()I"⟩
abbrev cX1_withdrawn : ByteArray := prog_3_method_5_code
def yX1_withdrawn : MethodName := ⟨RX1, "withdrawn", "()I"⟩
abbrev cX1_take : ByteArray := prog_3_method_6_code
def yX1_take : MethodName := ⟨RX1, "take", "()I"⟩
abbrev cX1_follow : ByteArray := prog_3_method_7_code
def yX1_follow : MethodName := ⟨RX1, "follow", "(II)I"⟩
abbrev cX1_goOnOrStop : ByteArray := prog_3_method_8_code
def yX1_goOnOrStop : MethodName := ⟨RX1, "goOnOrStop", "(I)I"⟩
abbrev cX1_open : ByteArray := prog_3_method_9_code
def yX1_open : MethodName := ⟨RX1, "open", "(I)I"⟩
abbrev cX1_tellAbout : ByteArray := prog_3_method_10_code
def yX1_tellAbout : MethodName := ⟨RX1, "tellAbout", "(I)I"⟩
abbrev cX1_hang : ByteArray := prog_3_method_11_code
def yX1_hang : MethodName := ⟨RX1, "hang", "(I)I"⟩
abbrev cX1_hangs : ByteArray := prog_3_method_12_code
def yX1_hangs : MethodName := ⟨RX1, "hangs", "(II)Z"⟩
abbrev cX1_isClaim : ByteArray := prog_3_method_13_code
def yX1_isClaim : MethodName := ⟨RX1, "isClaim", "(I)Z"⟩
abbrev cX1_tell : ByteArray := prog_3_method_14_code
def yX1_tell : MethodName := ⟨RX1, "tell", "(II)I"⟩
abbrev cX1_takeBack : ByteArray := prog_3_method_15_code
def yX1_takeBack : MethodName := ⟨RX1, "takeBack", "(I)I"⟩
abbrev cX1_hangingOn : ByteArray := prog_3_method_16_code
def yX1_hangingOn : MethodName := ⟨RX1, "hangingOn", "(I)I"⟩
abbrev cX1_moveDay : ByteArray := prog_3_method_17_code
def yX1_moveDay : MethodName := ⟨RX1, "moveDay", "(I)I"⟩
abbrev cX1_knownOn : ByteArray := prog_3_method_18_code
def yX1_knownOn : MethodName := ⟨RX1, "knownOn", "(II)I"⟩
abbrev cX1_isKnown : ByteArray := prog_3_method_19_code
def yX1_isKnown : MethodName := ⟨RX1, "isKnown", "(II)Z"⟩
def RX2 : String := "UnreadScript$Forms"
def TX2 : u_T := fun k => match k with
  | 0 => ("UnreadScript$Forms", "features", "[I", true)
  | 1 => ("UnreadScript$Forms", "signs", "[I", true)
  | 2 => ("UnreadScript$Forms", "trial", "[I", true)
  | 3 => ("UnreadScript$Forms", "size", "I", false)
  | _ => ("UnreadScript$Forms", "limit", "I", false)
def tyX2 : Nat → FieldType := fun k => match k with
  | 0 => .array .int
  | 1 => .array .int
  | 2 => .array .int
  | 3 => .int
  | _ => .int
abbrev wsX20 : List Cond := u_ws RX2 TX2 5
theorem nmX2 : ∀ a, a < 5 → ∀ b, b < 5 → a ≠ b → (TX2 a).2.1 ≠ (TX2 b).2.1 := by decide +kernel
theorem tyX2_ok : ∀ k, k < 5 → parseFieldDescriptor (TX2 k).2.2.1 = some (tyX2 k) := by decide +kernel
abbrev cX2_init : ByteArray := prog_4_method_1_code
def yX2_init : MethodName := ⟨RX2, "<init>", "()V"⟩
abbrev cX2_size : ByteArray := prog_4_method_2_code
def yX2_size : MethodName := ⟨RX2, "size", "()I"⟩
abbrev cX2_add : ByteArray := prog_4_method_3_code
def yX2_add : MethodName := ⟨RX2, "add", "(I)I"⟩
abbrev cX2_limitTo : ByteArray := prog_4_method_4_code
def yX2_limitTo : MethodName := ⟨RX2, "limitTo", "(I)I"⟩
abbrev cX2_isForm : ByteArray := prog_4_method_5_code
def yX2_isForm : MethodName := ⟨RX2, "isForm", "(I)Z"⟩
abbrev cX2_isSign : ByteArray := prog_4_method_6_code
def yX2_isSign : MethodName := ⟨RX2, "isSign", "(I)Z"⟩
abbrev cX2_signOf : ByteArray := prog_4_method_7_code
def yX2_signOf : MethodName := ⟨RX2, "signOf", "(I)I"⟩
abbrev cX2_groups : ByteArray := prog_4_method_8_code
def yX2_groups : MethodName := ⟨RX2, "groups", "()I"⟩
abbrev cX2_membersOf : ByteArray := prog_4_method_9_code
def yX2_membersOf : MethodName := ⟨RX2, "membersOf", "(I)I"⟩
abbrev cX2_greatest : ByteArray := prog_4_method_10_code
def yX2_greatest : MethodName := ⟨RX2, "greatest", "()I"⟩
abbrev cX2_leastLimit : ByteArray := prog_4_method_11_code
def yX2_leastLimit : MethodName := ⟨RX2, "leastLimit", "()I"⟩
abbrev cX2_isOneGroup : ByteArray := prog_4_method_12_code
def yX2_isOneGroup : MethodName := ⟨RX2, "isOneGroup", "([I)Z"⟩
abbrev cX2_group : ByteArray := prog_4_method_13_code
def yX2_group : MethodName := ⟨RX2, "group", "(I[I)V"⟩
abbrev cX2_join : ByteArray := prog_4_method_14_code
def yX2_join : MethodName := ⟨RX2, "join", "([III)V"⟩
def RX3 : String := "UnreadScript$Kinship"
def TX3 : u_T := fun k => match k with
  | 0 => ("UnreadScript$Kinship", "forms", "LUnreadScript$Forms;", true)
  | 1 => ("UnreadScript$Kinship", "texts", "LUnreadScript$Texts;", true)
  | 2 => ("UnreadScript$Kinship", "told", "[[I", true)
  | 3 => ("UnreadScript$Kinship", "akin", "[[I", true)
  | 4 => ("UnreadScript$Kinship", "apart", "[[I", true)
  | 5 => ("UnreadScript$Kinship", "endings", "[I", true)
  | 6 => ("UnreadScript$Kinship", "seated", "[I", true)
  | 7 => ("UnreadScript$Kinship", "row", "[I", true)
  | 8 => ("UnreadScript$Kinship", "leastRow", "[I", true)
  | 9 => ("UnreadScript$Kinship", "size", "I", false)
  | _ => ("UnreadScript$Kinship", "least", "I", false)
def tyX3 : Nat → FieldType := fun k => match k with
  | 0 => .object "UnreadScript$Forms"
  | 1 => .object "UnreadScript$Texts"
  | 2 => .array (.array .int)
  | 3 => .array (.array .int)
  | 4 => .array (.array .int)
  | 5 => .array .int
  | 6 => .array .int
  | 7 => .array .int
  | 8 => .array .int
  | 9 => .int
  | _ => .int
abbrev wsX30 : List Cond := u_ws RX3 TX3 11
theorem nmX3 : ∀ a, a < 11 → ∀ b, b < 11 → a ≠ b → (TX3 a).2.1 ≠ (TX3 b).2.1 := by decide +kernel
theorem tyX3_ok : ∀ k, k < 11 → parseFieldDescriptor (TX3 k).2.2.1 = some (tyX3 k) := by decide +kernel
abbrev cX3_init : ByteArray := prog_5_method_1_code
def yX3_init : MethodName := ⟨RX3, "<init>", "(LUnreadScript$Forms;LUnreadScript$Texts;)V"⟩
abbrev cX3_tellApart : ByteArray := prog_5_method_2_code
def yX3_tellApart : MethodName := ⟨RX3, "tellApart", "(III)I"⟩
abbrev cX3_akinOf : ByteArray := prog_5_method_3_code
def yX3_akinOf : MethodName := ⟨RX3, "akinOf", "(II)I"⟩
abbrev cX3_tell : ByteArray := prog_5_method_4_code
def yX3_tell : MethodName := ⟨RX3, "tell", "(II)I"⟩
abbrev cX3_gatherEndings : ByteArray := prog_5_method_5_code
def yX3_gatherEndings : MethodName := ⟨RX3, "gatherEndings", "()V"⟩
abbrev cX3_firstOfStem : ByteArray := prog_5_method_6_code
def yX3_firstOfStem : MethodName := ⟨RX3, "firstOfStem", "(I)I"⟩
abbrev cX3_stemsOfBoth : ByteArray := prog_5_method_7_code
def yX3_stemsOfBoth : MethodName := ⟨RX3, "stemsOfBoth", "(II)I"⟩
abbrev cX3_measureAkin : ByteArray := prog_5_method_8_code
def yX3_measureAkin : MethodName := ⟨RX3, "measureAkin", "()V"⟩
abbrev cX3_measureApart : ByteArray := prog_5_method_9_code
def yX3_measureApart : MethodName := ⟨RX3, "measureApart", "()V"⟩
abbrev cX3_seatBound : ByteArray := prog_5_method_10_code
def yX3_seatBound : MethodName := ⟨RX3, "seatBound", "()V"⟩
abbrev cX3_isBound : ByteArray := prog_5_method_11_code
def yX3_isBound : MethodName := ⟨RX3, "isBound", "(I)Z"⟩
abbrev cX3_seat : ByteArray := prog_5_method_12_code
def yX3_seat : MethodName := ⟨RX3, "seat", "(LUnreadScript$Kinship;III)V"⟩
abbrev cX3_keep : ByteArray := prog_5_method_13_code
def yX3_keep : MethodName := ⟨RX3, "keep", "(I)V"⟩
abbrev cX3_quarrelOf : ByteArray := prog_5_method_14_code
def yX3_quarrelOf : MethodName := ⟨RX3, "quarrelOf", "(I)I"⟩
def RX4 : String := "UnreadScript$Names"
def TX4 : u_T := fun k => match k with
  | 0 => ("UnreadScript$Names", "texts", "LUnreadScript$Texts;", true)
  | 1 => ("UnreadScript$Names", "sounds", "[[I", true)
  | 2 => ("UnreadScript$Names", "lengths", "[I", true)
  | _ => ("UnreadScript$Names", "size", "I", false)
def tyX4 : Nat → FieldType := fun k => match k with
  | 0 => .object "UnreadScript$Texts"
  | 1 => .array (.array .int)
  | 2 => .array .int
  | _ => .int
abbrev wsX40 : List Cond := u_ws RX4 TX4 4
theorem nmX4 : ∀ a, a < 4 → ∀ b, b < 4 → a ≠ b → (TX4 a).2.1 ≠ (TX4 b).2.1 := by decide +kernel
theorem tyX4_ok : ∀ k, k < 4 → parseFieldDescriptor (TX4 k).2.2.1 = some (tyX4 k) := by decide +kernel
abbrev cX4_init : ByteArray := prog_6_method_1_code
def yX4_init : MethodName := ⟨RX4, "<init>", "(LUnreadScript$Texts;)V"⟩
abbrev cX4_size : ByteArray := prog_6_method_2_code
def yX4_size : MethodName := ⟨RX4, "size", "()I"⟩
abbrev cX4_areSounds : ByteArray := prog_6_method_3_code
def yX4_areSounds : MethodName := ⟨RX4, "areSounds", "(III)Z"⟩
abbrev cX4_add : ByteArray := prog_6_method_4_code
def yX4_add : MethodName := ⟨RX4, "add", "(II)I"⟩
abbrev cX4_isName : ByteArray := prog_6_method_5_code
def yX4_isName : MethodName := ⟨RX4, "isName", "(I)Z"⟩
abbrev cX4_drag : ByteArray := prog_6_method_6_code
def yX4_drag : MethodName := ⟨RX4, "drag", "(III)I"⟩
abbrev cX4_pairs : ByteArray := prog_6_method_7_code
def yX4_pairs : MethodName := ⟨RX4, "pairs", "(IIII)I"⟩
abbrev cX4_fits : ByteArray := prog_6_method_8_code
def yX4_fits : MethodName := ⟨RX4, "fits", "(III)Z"⟩
abbrev cX4_agree : ByteArray := prog_6_method_9_code
def yX4_agree : MethodName := ⟨RX4, "agree", "(IIIIII)Z"⟩
def RX5 : String := "UnreadScript$Sheets"
def TX5 : u_T := fun k => match k with
  | 0 => ("UnreadScript$Sheets", "lanes", "[I", true)
  | 1 => ("UnreadScript$Sheets", "lengths", "[I", true)
  | _ => ("UnreadScript$Sheets", "cells", "[[I", true)
def tyX5 : Nat → FieldType := fun k => match k with
  | 0 => .array .int
  | 1 => .array .int
  | _ => .array (.array .int)
abbrev wsX50 : List Cond := u_ws RX5 TX5 3
theorem nmX5 : ∀ a, a < 3 → ∀ b, b < 3 → a ≠ b → (TX5 a).2.1 ≠ (TX5 b).2.1 := by decide +kernel
theorem tyX5_ok : ∀ k, k < 3 → parseFieldDescriptor (TX5 k).2.2.1 = some (tyX5 k) := by decide +kernel
abbrev cX5_init : ByteArray := prog_7_method_1_code
def yX5_init : MethodName := ⟨RX5, "<init>", "()V"⟩
abbrev cX5_isSheet : ByteArray := prog_7_method_2_code
def yX5_isSheet : MethodName := ⟨RX5, "isSheet", "(I)Z"⟩
abbrev cX5_isLane : ByteArray := prog_7_method_3_code
def yX5_isLane : MethodName := ⟨RX5, "isLane", "(I)Z"⟩
abbrev cX5_lengthOf : ByteArray := prog_7_method_4_code
def yX5_lengthOf : MethodName := ⟨RX5, "lengthOf", "(I)I"⟩
abbrev cX5_renew : ByteArray := prog_7_method_5_code
def yX5_renew : MethodName := ⟨RX5, "renew", "(III)I"⟩
abbrev cX5_put : ByteArray := prog_7_method_6_code
def yX5_put : MethodName := ⟨RX5, "put", "(III)I"⟩
abbrev cX5_lowestBits : ByteArray := prog_7_method_7_code
def yX5_lowestBits : MethodName := ⟨RX5, "lowestBits", "(II)I"⟩
abbrev cX5_faultAs : ByteArray := prog_7_method_8_code
def yX5_faultAs : MethodName := ⟨RX5, "faultAs", "(II)I"⟩
abbrev cX5_hasCell : ByteArray := prog_7_method_9_code
def yX5_hasCell : MethodName := ⟨RX5, "hasCell", "(II)Z"⟩
abbrev cX5_cellOf : ByteArray := prog_7_method_10_code
def yX5_cellOf : MethodName := ⟨RX5, "cellOf", "(II)I"⟩
def RX6 : String := "UnreadScript$Tape"
def TX6 : u_T := fun k => match k with
  | 0 => ("UnreadScript$Tape", "bytes", "[B", true)
  | 1 => ("UnreadScript$Tape", "length", "I", false)
  | 2 => ("UnreadScript$Tape", "place", "I", false)
  | 3 => ("UnreadScript$Tape", "start", "I", false)
  | _ => ("UnreadScript$Tape", "value", "I", false)
def tyX6 : Nat → FieldType := fun k => match k with
  | 0 => .array .byte
  | 1 => .int
  | 2 => .int
  | 3 => .int
  | _ => .int
abbrev wsX60 : List Cond := u_ws RX6 TX6 5
theorem nmX6 : ∀ a, a < 5 → ∀ b, b < 5 → a ≠ b → (TX6 a).2.1 ≠ (TX6 b).2.1 := by decide +kernel
theorem tyX6_ok : ∀ k, k < 5 → parseFieldDescriptor (TX6 k).2.2.1 = some (tyX6 k) := by decide +kernel
abbrev cX6_init : ByteArray := prog_8_method_1_code
def yX6_init : MethodName := ⟨RX6, "<init>", "()V"⟩
abbrev cX6_length : ByteArray := prog_8_method_2_code
def yX6_length : MethodName := ⟨RX6, "length", "()I"⟩
abbrev cX6_append : ByteArray := prog_8_method_3_code
def yX6_append : MethodName := ⟨RX6, "append", "(J)I"⟩
abbrev cX6_cut : ByteArray := prog_8_method_4_code
def yX6_cut : MethodName := ⟨RX6, "cut", "(I)I"⟩
abbrev cX6_rewind : ByteArray := prog_8_method_5_code
def yX6_rewind : MethodName := ⟨RX6, "rewind", "()V"⟩
abbrev cX6_start : ByteArray := prog_8_method_6_code
def yX6_start : MethodName := ⟨RX6, "start", "()I"⟩
abbrev cX6_value : ByteArray := prog_8_method_7_code
def yX6_value : MethodName := ⟨RX6, "value", "()I"⟩
abbrev cX6_nextToken : ByteArray := prog_8_method_8_code
def yX6_nextToken : MethodName := ⟨RX6, "nextToken", "()I"⟩
abbrev cX6_isLetter : ByteArray := prog_8_method_9_code
def yX6_isLetter : MethodName := ⟨RX6, "isLetter", "(B)Z"⟩
abbrev cX6_isFigure : ByteArray := prog_8_method_10_code
def yX6_isFigure : MethodName := ⟨RX6, "isFigure", "(B)Z"⟩
abbrev cX6_takeName : ByteArray := prog_8_method_11_code
def yX6_takeName : MethodName := ⟨RX6, "takeName", "()I"⟩
abbrev cX6_kindName : ByteArray := prog_8_method_12_code
def yX6_kindName : MethodName := ⟨RX6, "kindName", "(I)Ljava/lang/String;"⟩
abbrev cX6_reads : ByteArray := prog_8_method_13_code
def yX6_reads : MethodName := ⟨RX6, "reads", "(Ljava/lang/String;)Z"⟩
abbrev cX6_takeNumber : ByteArray := prog_8_method_14_code
def yX6_takeNumber : MethodName := ⟨RX6, "takeNumber", "()I"⟩
def RX7 : String := "UnreadScript$Texts"
def TX7 : u_T := fun k => match k with
  | 0 => ("UnreadScript$Texts", "forms", "LUnreadScript$Forms;", true)
  | 1 => ("UnreadScript$Texts", "draft", "[I", true)
  | 2 => ("UnreadScript$Texts", "cells", "[[I", true)
  | 3 => ("UnreadScript$Texts", "lengths", "[I", true)
  | 4 => ("UnreadScript$Texts", "size", "I", false)
  | 5 => ("UnreadScript$Texts", "wordTexts", "[I", true)
  | 6 => ("UnreadScript$Texts", "wordStarts", "[I", true)
  | 7 => ("UnreadScript$Texts", "wordLengths", "[I", true)
  | 8 => ("UnreadScript$Texts", "wholes", "[Z", true)
  | 9 => ("UnreadScript$Texts", "words", "I", false)
  | _ => ("UnreadScript$Texts", "edges", "[I", true)
def tyX7 : Nat → FieldType := fun k => match k with
  | 0 => .object "UnreadScript$Forms"
  | 1 => .array .int
  | 2 => .array (.array .int)
  | 3 => .array .int
  | 4 => .int
  | 5 => .array .int
  | 6 => .array .int
  | 7 => .array .int
  | 8 => .array .boolean
  | 9 => .int
  | _ => .array .int
abbrev wsX70 : List Cond := u_ws RX7 TX7 11
theorem nmX7 : ∀ a, a < 11 → ∀ b, b < 11 → a ≠ b → (TX7 a).2.1 ≠ (TX7 b).2.1 := by decide +kernel
theorem tyX7_ok : ∀ k, k < 11 → parseFieldDescriptor (TX7 k).2.2.1 = some (tyX7 k) := by decide +kernel
abbrev cX7_init : ByteArray := prog_9_method_1_code
def yX7_init : MethodName := ⟨RX7, "<init>", "(LUnreadScript$Forms;)V"⟩
abbrev cX7_size : ByteArray := prog_9_method_2_code
def yX7_size : MethodName := ⟨RX7, "size", "()I"⟩
abbrev cX7_isText : ByteArray := prog_9_method_3_code
def yX7_isText : MethodName := ⟨RX7, "isText", "(I)Z"⟩
abbrev cX7_lengthOf : ByteArray := prog_9_method_4_code
def yX7_lengthOf : MethodName := ⟨RX7, "lengthOf", "(I)I"⟩
abbrev cX7_areTexts : ByteArray := prog_9_method_5_code
def yX7_areTexts : MethodName := ⟨RX7, "areTexts", "(I)Z"⟩
abbrev cX7_draftCell : ByteArray := prog_9_method_6_code
def yX7_draftCell : MethodName := ⟨RX7, "draftCell", "(II)Z"⟩
abbrev cX7_addDraft : ByteArray := prog_9_method_7_code
def yX7_addDraft : MethodName := ⟨RX7, "addDraft", "(I)I"⟩
abbrev cX7_dropLatest : ByteArray := prog_9_method_8_code
def yX7_dropLatest : MethodName := ⟨RX7, "dropLatest", "()I"⟩
abbrev cX7_signAt : ByteArray := prog_9_method_9_code
def yX7_signAt : MethodName := ⟨RX7, "signAt", "(II)I"⟩
abbrev cX7_findWords : ByteArray := prog_9_method_10_code
def yX7_findWords : MethodName := ⟨RX7, "findWords", "(I)V"⟩
abbrev cX7_addWord : ByteArray := prog_9_method_11_code
def yX7_addWord : MethodName := ⟨RX7, "addWord", "(III)V"⟩
abbrev cX7_words : ByteArray := prog_9_method_12_code
def yX7_words : MethodName := ⟨RX7, "words", "()I"⟩
abbrev cX7_isWord : ByteArray := prog_9_method_13_code
def yX7_isWord : MethodName := ⟨RX7, "isWord", "(I)Z"⟩
abbrev cX7_isWhole : ByteArray := prog_9_method_14_code
def yX7_isWhole : MethodName := ⟨RX7, "isWhole", "(I)Z"⟩
abbrev cX7_textOfWord : ByteArray := prog_9_method_15_code
def yX7_textOfWord : MethodName := ⟨RX7, "textOfWord", "(I)I"⟩
abbrev cX7_lengthOfWord : ByteArray := prog_9_method_16_code
def yX7_lengthOfWord : MethodName := ⟨RX7, "lengthOfWord", "(I)I"⟩
abbrev cX7_signOfWord : ByteArray := prog_9_method_17_code
def yX7_signOfWord : MethodName := ⟨RX7, "signOfWord", "(II)I"⟩
abbrev cX7_lastSignOfWord : ByteArray := prog_9_method_18_code
def yX7_lastSignOfWord : MethodName := ⟨RX7, "lastSignOfWord", "(I)I"⟩
abbrev cX7_haveOneStem : ByteArray := prog_9_method_19_code
def yX7_haveOneStem : MethodName := ⟨RX7, "haveOneStem", "(II)Z"⟩
abbrev cX7_tell : ByteArray := prog_9_method_20_code
def yX7_tell : MethodName := ⟨RX7, "tell", "(II)I"⟩
abbrev cX7_cellsLike : ByteArray := prog_9_method_21_code
def yX7_cellsLike : MethodName := ⟨RX7, "cellsLike", "(II)I"⟩
abbrev cX7_wordsIn : ByteArray := prog_9_method_22_code
def yX7_wordsIn : MethodName := ⟨RX7, "wordsIn", "(IZ)I"⟩
abbrev cX7_longestWhole : ByteArray := prog_9_method_23_code
def yX7_longestWhole : MethodName := ⟨RX7, "longestWhole", "(I)I"⟩
abbrev cX7_timesOf : ByteArray := prog_9_method_24_code
def yX7_timesOf : MethodName := ⟨RX7, "timesOf", "(I)I"⟩
abbrev cX7_timesOfAll : ByteArray := prog_9_method_25_code
def yX7_timesOfAll : MethodName := ⟨RX7, "timesOfAll", "()I"⟩
abbrev cX7_timesBeside : ByteArray := prog_9_method_26_code
def yX7_timesBeside : MethodName := ⟨RX7, "timesBeside", "(II)I"⟩
abbrev cX7_placesBeside : ByteArray := prog_9_method_27_code
def yX7_placesBeside : MethodName := ⟨RX7, "placesBeside", "()I"⟩
abbrev cX7_chanceAbove : ByteArray := prog_9_method_28_code
def yX7_chanceAbove : MethodName := ⟨RX7, "chanceAbove", "(II)J"⟩
abbrev cX7_chanceBelow : ByteArray := prog_9_method_29_code
def yX7_chanceBelow : MethodName := ⟨RX7, "chanceBelow", "()J"⟩
abbrev cX7_greatestShared : ByteArray := prog_9_method_30_code
def yX7_greatestShared : MethodName := ⟨RX7, "greatestShared", "(JJ)J"⟩
abbrev cX7_likeEdges : ByteArray := prog_9_method_31_code
def yX7_likeEdges : MethodName := ⟨RX7, "likeEdges", "(Z)I"⟩
def RX8 : String := "UnreadScript$Tongue"
def TX8 : u_T := fun k => match k with
  | 0 => ("UnreadScript$Tongue", "texts", "LUnreadScript$Texts;", true)
  | 1 => ("UnreadScript$Tongue", "words", "[J", true)
  | 2 => ("UnreadScript$Tongue", "size", "I", false)
  | 3 => ("UnreadScript$Tongue", "tabled", "[I", true)
  | 4 => ("UnreadScript$Tongue", "tabledSize", "I", false)
  | 5 => ("UnreadScript$Tongue", "times", "[I", true)
  | 6 => ("UnreadScript$Tongue", "places", "[I", true)
  | 7 => ("UnreadScript$Tongue", "rows", "[[I", true)
  | 8 => ("UnreadScript$Tongue", "rowLengths", "[I", true)
  | 9 => ("UnreadScript$Tongue", "rowSize", "I", false)
  | 10 => ("UnreadScript$Tongue", "sounds", "[I", true)
  | 11 => ("UnreadScript$Tongue", "bestSounds", "[I", true)
  | 12 => ("UnreadScript$Tongue", "bestRead", "I", false)
  | 13 => ("UnreadScript$Tongue", "bestTables", "I", false)
  | _ => ("UnreadScript$Tongue", "order", "[I", true)
def tyX8 : Nat → FieldType := fun k => match k with
  | 0 => .object "UnreadScript$Texts"
  | 1 => .array .long
  | 2 => .int
  | 3 => .array .int
  | 4 => .int
  | 5 => .array .int
  | 6 => .array .int
  | 7 => .array (.array .int)
  | 8 => .array .int
  | 9 => .int
  | 10 => .array .int
  | 11 => .array .int
  | 12 => .int
  | 13 => .int
  | _ => .array .int
abbrev wsX80 : List Cond := u_ws RX8 TX8 15
theorem nmX8 : ∀ a, a < 15 → ∀ b, b < 15 → a ≠ b → (TX8 a).2.1 ≠ (TX8 b).2.1 := by decide +kernel
theorem tyX8_ok : ∀ k, k < 15 → parseFieldDescriptor (TX8 k).2.2.1 = some (tyX8 k) := by decide +kernel
abbrev cX8_init : ByteArray := prog_10_method_1_code
def yX8_init : MethodName := ⟨RX8, "<init>", "(LUnreadScript$Texts;)V"⟩
abbrev cX8_size : ByteArray := prog_10_method_2_code
def yX8_size : MethodName := ⟨RX8, "size", "()I"⟩
abbrev cX8_add : ByteArray := prog_10_method_3_code
def yX8_add : MethodName := ⟨RX8, "add", "(II)I"⟩
abbrev cX8_keyOf : ByteArray := prog_10_method_4_code
def yX8_keyOf : MethodName := ⟨RX8, "keyOf", "(II)I"⟩
abbrev cX8_isWord : ByteArray := prog_10_method_5_code
def yX8_isWord : MethodName := ⟨RX8, "isWord", "(I)Z"⟩
abbrev cX8_signAt : ByteArray := prog_10_method_6_code
def yX8_signAt : MethodName := ⟨RX8, "signAt", "(I)I"⟩
abbrev cX8_readWith : ByteArray := prog_10_method_7_code
def yX8_readWith : MethodName := ⟨RX8, "readWith", "(II)I"⟩
abbrev cX8_tellBest : ByteArray := prog_10_method_8_code
def yX8_tellBest : MethodName := ⟨RX8, "tellBest", "(II)I"⟩
abbrev cX8_holdAgainst : ByteArray := prog_10_method_9_code
def yX8_holdAgainst : MethodName := ⟨RX8, "holdAgainst", "(III)I"⟩
abbrev cX8_tables : ByteArray := prog_10_method_10_code
def yX8_tables : MethodName := ⟨RX8, "tables", "()I"⟩
abbrev cX8_rank : ByteArray := prog_10_method_11_code
def yX8_rank : MethodName := ⟨RX8, "rank", "()V"⟩
abbrev cX8_mostFrequentLeft : ByteArray := prog_10_method_12_code
def yX8_mostFrequentLeft : MethodName := ⟨RX8, "mostFrequentLeft", "()I"⟩
abbrev cX8_collect : ByteArray := prog_10_method_13_code
def yX8_collect : MethodName := ⟨RX8, "collect", "(I)V"⟩
abbrev cX8_collectWord : ByteArray := prog_10_method_14_code
def yX8_collectWord : MethodName := ⟨RX8, "collectWord", "(I)V"⟩
abbrev cX8_placeOf : ByteArray := prog_10_method_15_code
def yX8_placeOf : MethodName := ⟨RX8, "placeOf", "(I)I"⟩
abbrev cX8_spread : ByteArray := prog_10_method_16_code
def yX8_spread : MethodName := ⟨RX8, "spread", "(I)V"⟩
abbrev cX8_readNow : ByteArray := prog_10_method_17_code
def yX8_readNow : MethodName := ⟨RX8, "readNow", "()I"⟩
abbrev cX8_searchBest : ByteArray := prog_10_method_18_code
def yX8_searchBest : MethodName := ⟨RX8, "searchBest", "()V"⟩
abbrev cX8_weigh : ByteArray := prog_10_method_19_code
def yX8_weigh : MethodName := ⟨RX8, "weigh", "(I)V"⟩
abbrev cX8_packBest : ByteArray := prog_10_method_20_code
def yX8_packBest : MethodName := ⟨RX8, "packBest", "()I"⟩
abbrev cX8_tellShuffles : ByteArray := prog_10_method_21_code
def yX8_tellShuffles : MethodName := ⟨RX8, "tellShuffles", "(II)I"⟩
abbrev cX8_nextOrder : ByteArray := prog_10_method_22_code
def yX8_nextOrder : MethodName := ⟨RX8, "nextOrder", "()Z"⟩
abbrev cX8_exchange : ByteArray := prog_10_method_23_code
def yX8_exchange : MethodName := ⟨RX8, "exchange", "(II)V"⟩
def RX9 : String := "UnreadScript"
def TX9 : u_T := fun k => match k with
  | 0 => ("UnreadScript", "formRows", "LUnreadScript$Forms;", true)
  | 1 => ("UnreadScript", "textRows", "LUnreadScript$Texts;", true)
  | 2 => ("UnreadScript", "kinship", "LUnreadScript$Kinship;", true)
  | 3 => ("UnreadScript", "accountRows", "LUnreadScript$Accounts;", true)
  | 4 => ("UnreadScript", "nameRows", "LUnreadScript$Names;", true)
  | 5 => ("UnreadScript", "tongue", "LUnreadScript$Tongue;", true)
  | 6 => ("UnreadScript", "tape", "LUnreadScript$Tape;", true)
  | 7 => ("UnreadScript", "claimRows", "LUnreadScript$Claims;", true)
  | _ => ("UnreadScript", "sheetRows", "LUnreadScript$Sheets;", true)
def tyX9 : Nat → FieldType := fun k => match k with
  | 0 => .object "UnreadScript$Forms"
  | 1 => .object "UnreadScript$Texts"
  | 2 => .object "UnreadScript$Kinship"
  | 3 => .object "UnreadScript$Accounts"
  | 4 => .object "UnreadScript$Names"
  | 5 => .object "UnreadScript$Tongue"
  | 6 => .object "UnreadScript$Tape"
  | 7 => .object "UnreadScript$Claims"
  | _ => .object "UnreadScript$Sheets"
abbrev wsX90 : List Cond := u_ws RX9 TX9 9
theorem nmX9 : ∀ a, a < 9 → ∀ b, b < 9 → a ≠ b → (TX9 a).2.1 ≠ (TX9 b).2.1 := by decide +kernel
theorem tyX9_ok : ∀ k, k < 9 → parseFieldDescriptor (TX9 k).2.2.1 = some (tyX9 k) := by decide +kernel
abbrev cX9_init : ByteArray := prog_1_method_1_code
def yX9_init : MethodName := ⟨RX9, "<init>", "()V"⟩
abbrev cX9_form : ByteArray := prog_1_method_2_code
def yX9_form : MethodName := ⟨RX9, "form", "(I)I"⟩
abbrev cX9_likeness : ByteArray := prog_1_method_3_code
def yX9_likeness : MethodName := ⟨RX9, "likeness", "(I)I"⟩
abbrev cX9_sign : ByteArray := prog_1_method_4_code
def yX9_sign : MethodName := ⟨RX9, "sign", "(I)I"⟩
abbrev cX9_signs : ByteArray := prog_1_method_5_code
def yX9_signs : MethodName := ⟨RX9, "signs", "(I)I"⟩
abbrev cX9_text : ByteArray := prog_1_method_6_code
def yX9_text : MethodName := ⟨RX9, "text", "(IIII)I"⟩
abbrev cX9_drop : ByteArray := prog_1_method_7_code
def yX9_drop : MethodName := ⟨RX9, "drop", "()I"⟩
abbrev cX9_textOf : ByteArray := prog_1_method_8_code
def yX9_textOf : MethodName := ⟨RX9, "textOf", "(II)I"⟩
abbrev cX9_counted : ByteArray := prog_1_method_9_code
def yX9_counted : MethodName := ⟨RX9, "counted", "(I)I"⟩
abbrev cX9_beside : ByteArray := prog_1_method_10_code
def yX9_beside : MethodName := ⟨RX9, "beside", "(II)I"⟩
abbrev cX9_chance : ByteArray := prog_1_method_11_code
def yX9_chance : MethodName := ⟨RX9, "chance", "(III)J"⟩
abbrev cX9_runs : ByteArray := prog_1_method_12_code
def yX9_runs : MethodName := ⟨RX9, "runs", "(I)I"⟩
abbrev cX9_akin : ByteArray := prog_1_method_13_code
def yX9_akin : MethodName := ⟨RX9, "akin", "(II)I"⟩
abbrev cX9_apart : ByteArray := prog_1_method_14_code
def yX9_apart : MethodName := ⟨RX9, "apart", "(III)I"⟩
abbrev cX9_grid : ByteArray := prog_1_method_15_code
def yX9_grid : MethodName := ⟨RX9, "grid", "(II)I"⟩
abbrev cX9_account : ByteArray := prog_1_method_16_code
def yX9_account : MethodName := ⟨RX9, "account", "(II)I"⟩
abbrev cX9_values : ByteArray := prog_1_method_17_code
def yX9_values : MethodName := ⟨RX9, "values", "(I)I"⟩
abbrev cX9_sure : ByteArray := prog_1_method_18_code
def yX9_sure : MethodName := ⟨RX9, "sure", "(I)I"⟩
abbrev cX9_name : ByteArray := prog_1_method_19_code
def yX9_name : MethodName := ⟨RX9, "name", "(II)I"⟩
abbrev cX9_dragged : ByteArray := prog_1_method_20_code
def yX9_dragged : MethodName := ⟨RX9, "dragged", "(III)I"⟩
abbrev cX9_together : ByteArray := prog_1_method_21_code
def yX9_together : MethodName := ⟨RX9, "together", "(IIII)I"⟩
abbrev cX9_word : ByteArray := prog_1_method_22_code
def yX9_word : MethodName := ⟨RX9, "word", "(II)I"⟩
abbrev cX9_tabled : ByteArray := prog_1_method_23_code
def yX9_tabled : MethodName := ⟨RX9, "tabled", "(I)I"⟩
abbrev cX9_read : ByteArray := prog_1_method_24_code
def yX9_read : MethodName := ⟨RX9, "read", "(II)I"⟩
abbrev cX9_best : ByteArray := prog_1_method_25_code
def yX9_best : MethodName := ⟨RX9, "best", "(II)I"⟩
abbrev cX9_judge : ByteArray := prog_1_method_26_code
def yX9_judge : MethodName := ⟨RX9, "judge", "(III)I"⟩
abbrev cX9_feed : ByteArray := prog_1_method_27_code
def yX9_feed : MethodName := ⟨RX9, "feed", "(J)I"⟩
abbrev cX9_end : ByteArray := prog_1_method_28_code
def yX9_end : MethodName := ⟨RX9, "end", "(I)I"⟩
abbrev cX9_claims : ByteArray := prog_1_method_29_code
def yX9_claims : MethodName := ⟨RX9, "claims", "()I"⟩
abbrev cX9_fault : ByteArray := prog_1_method_30_code
def yX9_fault : MethodName := ⟨RX9, "fault", "()I"⟩
abbrev cX9_claim : ByteArray := prog_1_method_31_code
def yX9_claim : MethodName := ⟨RX9, "claim", "(II)I"⟩
abbrev cX9_withdraw : ByteArray := prog_1_method_32_code
def yX9_withdraw : MethodName := ⟨RX9, "withdraw", "(I)I"⟩
abbrev cX9_day : ByteArray := prog_1_method_33_code
def yX9_day : MethodName := ⟨RX9, "day", "(I)I"⟩
abbrev cX9_known : ByteArray := prog_1_method_34_code
def yX9_known : MethodName := ⟨RX9, "known", "(II)I"⟩
abbrev cX9_sheet : ByteArray := prog_1_method_35_code
def yX9_sheet : MethodName := ⟨RX9, "sheet", "(III)I"⟩
abbrev cX9_lay : ByteArray := prog_1_method_36_code
def yX9_lay : MethodName := ⟨RX9, "lay", "(III)I"⟩
abbrev cX9_count : ByteArray := prog_1_method_37_code
def yX9_count : MethodName := ⟨RX9, "count", "(I)I"⟩
def RX10 : String := "UnreadScriptModel"
def TX10 : u_T := fun k => match k with
  | 0 => ("UnreadScriptModel", "forms", "I", false)
  | 1 => ("UnreadScriptModel", "features", "[I", true)
  | 2 => ("UnreadScriptModel", "likeness", "I", false)
  | 3 => ("UnreadScriptModel", "signOf", "[I", true)
  | 4 => ("UnreadScriptModel", "texts", "I", false)
  | 5 => ("UnreadScriptModel", "tMany", "[I", true)
  | 6 => ("UnreadScriptModel", "tCells", "[I", true)
  | 7 => ("UnreadScriptModel", "words", "I", false)
  | 8 => ("UnreadScriptModel", "wText", "[I", true)
  | 9 => ("UnreadScriptModel", "wFrom", "[I", true)
  | 10 => ("UnreadScriptModel", "wMany", "[I", true)
  | 11 => ("UnreadScriptModel", "isWhole", "[Z", true)
  | 12 => ("UnreadScriptModel", "edges", "[I", true)
  | 13 => ("UnreadScriptModel", "aparts", "[I", true)
  | 14 => ("UnreadScriptModel", "akins", "[I", true)
  | 15 => ("UnreadScriptModel", "gridMany", "I", false)
  | 16 => ("UnreadScriptModel", "gSign", "[I", true)
  | 17 => ("UnreadScriptModel", "gApart", "[I", true)
  | 18 => ("UnreadScriptModel", "gRow", "[I", true)
  | 19 => ("UnreadScriptModel", "bestRow", "[I", true)
  | 20 => ("UnreadScriptModel", "accounts", "I", false)
  | 21 => ("UnreadScriptModel", "items", "[I", true)
  | 22 => ("UnreadScriptModel", "totals", "[I", true)
  | 23 => ("UnreadScriptModel", "valued", "[I", true)
  | 24 => ("UnreadScriptModel", "fitting", "I", false)
  | 25 => ("UnreadScriptModel", "firstFit", "[I", true)
  | 26 => ("UnreadScriptModel", "isHad", "[Z", true)
  | 27 => ("UnreadScriptModel", "names", "I", false)
  | 28 => ("UnreadScriptModel", "nMany", "[I", true)
  | 29 => ("UnreadScriptModel", "nSounds", "[I", true)
  | 30 => ("UnreadScriptModel", "tongue", "I", false)
  | 31 => ("UnreadScriptModel", "tongueMany", "[I", true)
  | 32 => ("UnreadScriptModel", "tongueSounds", "[I", true)
  | 33 => ("UnreadScriptModel", "tabled", "I", false)
  | 34 => ("UnreadScriptModel", "table", "[I", true)
  | 35 => ("UnreadScriptModel", "spot", "[I", true)
  | 36 => ("UnreadScriptModel", "readable", "I", false)
  | 37 => ("UnreadScriptModel", "rMany", "[I", true)
  | 38 => ("UnreadScriptModel", "rPlaces", "[I", true)
  | 39 => ("UnreadScriptModel", "isWord", "[Z", true)
  | 40 => ("UnreadScriptModel", "best", "I", false)
  | 41 => ("UnreadScriptModel", "bestRead", "I", false)
  | 42 => ("UnreadScriptModel", "bestMany", "I", false)
  | 43 => ("UnreadScriptModel", "order", "[I", true)
  | 44 => ("UnreadScriptModel", "tape", "[I", true)
  | 45 => ("UnreadScriptModel", "taped", "I", false)
  | 46 => ("UnreadScriptModel", "pos", "I", false)
  | 47 => ("UnreadScriptModel", "from", "I", false)
  | 48 => ("UnreadScriptModel", "sort", "I", false)
  | 49 => ("UnreadScriptModel", "value", "I", false)
  | 50 => ("UnreadScriptModel", "fault", "I", false)
  | 51 => ("UnreadScriptModel", "wrongAt", "I", false)
  | 52 => ("UnreadScriptModel", "claims", "I", false)
  | 53 => ("UnreadScriptModel", "cKind", "[I", true)
  | 54 => ("UnreadScriptModel", "cNumber", "[I", true)
  | 55 => ("UnreadScriptModel", "cCame", "[I", true)
  | 56 => ("UnreadScriptModel", "cGone", "[I", true)
  | 57 => ("UnreadScriptModel", "cOn", "[I", true)
  | 58 => ("UnreadScriptModel", "today", "I", false)
  | 59 => ("UnreadScriptModel", "deep", "[I", true)
  | 60 => ("UnreadScriptModel", "lanes", "[I", true)
  | 61 => ("UnreadScriptModel", "sizes", "[I", true)
  | _ => ("UnreadScriptModel", "cells", "[I", true)
def tyX10 : Nat → FieldType := fun k => match k with
  | 0 => .int
  | 1 => .array .int
  | 2 => .int
  | 3 => .array .int
  | 4 => .int
  | 5 => .array .int
  | 6 => .array .int
  | 7 => .int
  | 8 => .array .int
  | 9 => .array .int
  | 10 => .array .int
  | 11 => .array .boolean
  | 12 => .array .int
  | 13 => .array .int
  | 14 => .array .int
  | 15 => .int
  | 16 => .array .int
  | 17 => .array .int
  | 18 => .array .int
  | 19 => .array .int
  | 20 => .int
  | 21 => .array .int
  | 22 => .array .int
  | 23 => .array .int
  | 24 => .int
  | 25 => .array .int
  | 26 => .array .boolean
  | 27 => .int
  | 28 => .array .int
  | 29 => .array .int
  | 30 => .int
  | 31 => .array .int
  | 32 => .array .int
  | 33 => .int
  | 34 => .array .int
  | 35 => .array .int
  | 36 => .int
  | 37 => .array .int
  | 38 => .array .int
  | 39 => .array .boolean
  | 40 => .int
  | 41 => .int
  | 42 => .int
  | 43 => .array .int
  | 44 => .array .int
  | 45 => .int
  | 46 => .int
  | 47 => .int
  | 48 => .int
  | 49 => .int
  | 50 => .int
  | 51 => .int
  | 52 => .int
  | 53 => .array .int
  | 54 => .array .int
  | 55 => .array .int
  | 56 => .array .int
  | 57 => .array .int
  | 58 => .int
  | 59 => .array .int
  | 60 => .array .int
  | 61 => .array .int
  | _ => .array .int
abbrev wsX100 : List Cond := u_ws RX10 TX10 63
theorem nmX10 : ∀ a, a < 63 → ∀ b, b < 63 → a ≠ b → (TX10 a).2.1 ≠ (TX10 b).2.1 := by decide +kernel
theorem tyX10_ok : ∀ k, k < 63 → parseFieldDescriptor (TX10 k).2.2.1 = some (tyX10 k) := by decide +kernel
abbrev cX10_init : ByteArray := prog_12_method_1_code
def yX10_init : MethodName := ⟨RX10, "<init>", "()V"⟩
abbrev cX10_in : ByteArray := prog_12_method_3_code
def yX10_in : MethodName := ⟨RX10, "in", "(JJJ)Z"⟩
abbrev cX10_bits : ByteArray := prog_12_method_4_code
def yX10_bits : MethodName := ⟨RX10, "bits", "(I)I"⟩
abbrev cX10_isForm : ByteArray := prog_12_method_5_code
def yX10_isForm : MethodName := ⟨RX10, "isForm", "(I)Z"⟩
abbrev cX10_form : ByteArray := prog_12_method_6_code
def yX10_form : MethodName := ⟨RX10, "form", "(I)I"⟩
abbrev cX10_likeness : ByteArray := prog_12_method_7_code
def yX10_likeness : MethodName := ⟨RX10, "likeness", "(I)I"⟩
abbrev cX10_findSigns : ByteArray := prog_12_method_8_code
def yX10_findSigns : MethodName := ⟨RX10, "findSigns", "(I)V"⟩
abbrev cX10_signMany : ByteArray := prog_12_method_9_code
def yX10_signMany : MethodName := ⟨RX10, "signMany", "()I"⟩
abbrev cX10_sign : ByteArray := prog_12_method_10_code
def yX10_sign : MethodName := ⟨RX10, "sign", "(I)I"⟩
abbrev cX10_signs : ByteArray := prog_12_method_11_code
def yX10_signs : MethodName := ⟨RX10, "signs", "(I)I"⟩
abbrev cX10_isSign : ByteArray := prog_12_method_12_code
def yX10_isSign : MethodName := ⟨RX10, "isSign", "(I)Z"⟩
abbrev cX10_isText : ByteArray := prog_12_method_13_code
def yX10_isText : MethodName := ⟨RX10, "isText", "(I)Z"⟩
abbrev cX10_at : ByteArray := prog_12_method_14_code
def yX10_at : MethodName := ⟨RX10, "at", "(II)I"⟩
abbrev cX10_drop : ByteArray := prog_12_method_15_code
def yX10_drop : MethodName := ⟨RX10, "drop", "()I"⟩
abbrev cX10_findWords : ByteArray := prog_12_method_16_code
def yX10_findWords : MethodName := ⟨RX10, "findWords", "()V"⟩
abbrev cX10_wordAt : ByteArray := prog_12_method_17_code
def yX10_wordAt : MethodName := ⟨RX10, "wordAt", "(II)I"⟩
abbrev cX10_textOf : ByteArray := prog_12_method_18_code
def yX10_textOf : MethodName := ⟨RX10, "textOf", "(II)I"⟩
abbrev cX10_countOf : ByteArray := prog_12_method_19_code
def yX10_countOf : MethodName := ⟨RX10, "countOf", "(I)I"⟩
abbrev cX10_allSigns : ByteArray := prog_12_method_20_code
def yX10_allSigns : MethodName := ⟨RX10, "allSigns", "()I"⟩
abbrev cX10_counted : ByteArray := prog_12_method_21_code
def yX10_counted : MethodName := ⟨RX10, "counted", "(I)I"⟩
abbrev cX10_besides : ByteArray := prog_12_method_22_code
def yX10_besides : MethodName := ⟨RX10, "besides", "(II)I"⟩
abbrev cX10_beside : ByteArray := prog_12_method_23_code
def yX10_beside : MethodName := ⟨RX10, "beside", "(II)I"⟩
abbrev cX10_chance : ByteArray := prog_12_method_24_code
def yX10_chance : MethodName := ⟨RX10, "chance", "(III)J"⟩
abbrev cX10_edgeSum : ByteArray := prog_12_method_25_code
def yX10_edgeSum : MethodName := ⟨RX10, "edgeSum", "(Z)I"⟩
abbrev cX10_runs : ByteArray := prog_12_method_26_code
def yX10_runs : MethodName := ⟨RX10, "runs", "(I)I"⟩
abbrev cX10_alikeTo : ByteArray := prog_12_method_27_code
def yX10_alikeTo : MethodName := ⟨RX10, "alikeTo", "(II)I"⟩
abbrev cX10_isFirstOfItsRow : ByteArray := prog_12_method_28_code
def yX10_isFirstOfItsRow : MethodName := ⟨RX10, "isFirstOfItsRow", "(I)Z"⟩
abbrev cX10_findAkins : ByteArray := prog_12_method_29_code
def yX10_findAkins : MethodName := ⟨RX10, "findAkins", "()V"⟩
abbrev cX10_akin : ByteArray := prog_12_method_30_code
def yX10_akin : MethodName := ⟨RX10, "akin", "(II)I"⟩
abbrev cX10_apart : ByteArray := prog_12_method_31_code
def yX10_apart : MethodName := ⟨RX10, "apart", "(III)I"⟩
abbrev cX10_apartOf : ByteArray := prog_12_method_32_code
def yX10_apartOf : MethodName := ⟨RX10, "apartOf", "(II)I"⟩
abbrev cX10_findGridSigns : ByteArray := prog_12_method_33_code
def yX10_findGridSigns : MethodName := ⟨RX10, "findGridSigns", "()V"⟩
abbrev cX10_quarrel : ByteArray := prog_12_method_34_code
def yX10_quarrel : MethodName := ⟨RX10, "quarrel", "()I"⟩
abbrev cX10_findGrid : ByteArray := prog_12_method_35_code
def yX10_findGrid : MethodName := ⟨RX10, "findGrid", "(I)I"⟩
abbrev cX10_grid : ByteArray := prog_12_method_36_code
def yX10_grid : MethodName := ⟨RX10, "grid", "(II)I"⟩
abbrev cX10_isMarks : ByteArray := prog_12_method_37_code
def yX10_isMarks : MethodName := ⟨RX10, "isMarks", "(I)Z"⟩
abbrev cX10_account : ByteArray := prog_12_method_38_code
def yX10_account : MethodName := ⟨RX10, "account", "(II)I"⟩
abbrev cX10_listed : ByteArray := prog_12_method_39_code
def yX10_listed : MethodName := ⟨RX10, "listed", "(I)I"⟩
abbrev cX10_doAddUp : ByteArray := prog_12_method_40_code
def yX10_doAddUp : MethodName := ⟨RX10, "doAddUp", "()Z"⟩
abbrev cX10_findValues : ByteArray := prog_12_method_41_code
def yX10_findValues : MethodName := ⟨RX10, "findValues", "()V"⟩
abbrev cX10_values : ByteArray := prog_12_method_42_code
def yX10_values : MethodName := ⟨RX10, "values", "(I)I"⟩
abbrev cX10_sure : ByteArray := prog_12_method_43_code
def yX10_sure : MethodName := ⟨RX10, "sure", "(I)I"⟩
abbrev cX10_name : ByteArray := prog_12_method_44_code
def yX10_name : MethodName := ⟨RX10, "name", "(II)I"⟩
abbrev cX10_isName : ByteArray := prog_12_method_45_code
def yX10_isName : MethodName := ⟨RX10, "isName", "(I)Z"⟩
abbrev cX10_soundAt : ByteArray := prog_12_method_46_code
def yX10_soundAt : MethodName := ⟨RX10, "soundAt", "(II)I"⟩
abbrev cX10_doAgree : ByteArray := prog_12_method_47_code
def yX10_doAgree : MethodName := ⟨RX10, "doAgree", "(IIIIII)Z"⟩
abbrev cX10_doesFit : ByteArray := prog_12_method_48_code
def yX10_doesFit : MethodName := ⟨RX10, "doesFit", "(III)Z"⟩
abbrev cX10_dragged : ByteArray := prog_12_method_49_code
def yX10_dragged : MethodName := ⟨RX10, "dragged", "(III)I"⟩
abbrev cX10_together : ByteArray := prog_12_method_50_code
def yX10_together : MethodName := ⟨RX10, "together", "(IIII)I"⟩
abbrev cX10_word : ByteArray := prog_12_method_51_code
def yX10_word : MethodName := ⟨RX10, "word", "(II)I"⟩
abbrev cX10_findTable : ByteArray := prog_12_method_52_code
def yX10_findTable : MethodName := ⟨RX10, "findTable", "()V"⟩
abbrev cX10_tabled : ByteArray := prog_12_method_53_code
def yX10_tabled : MethodName := ⟨RX10, "tabled", "(I)I"⟩
abbrev cX10_findTongue : ByteArray := prog_12_method_54_code
def yX10_findTongue : MethodName := ⟨RX10, "findTongue", "()V"⟩
abbrev cX10_findReadable : ByteArray := prog_12_method_55_code
def yX10_findReadable : MethodName := ⟨RX10, "findReadable", "(I)V"⟩
abbrev cX10_readBy : ByteArray := prog_12_method_56_code
def yX10_readBy : MethodName := ⟨RX10, "readBy", "(I)I"⟩
abbrev cX10_areTexts : ByteArray := prog_12_method_57_code
def yX10_areTexts : MethodName := ⟨RX10, "areTexts", "(I)Z"⟩
abbrev cX10_read : ByteArray := prog_12_method_58_code
def yX10_read : MethodName := ⟨RX10, "read", "(II)I"⟩
abbrev cX10_turned : ByteArray := prog_12_method_59_code
def yX10_turned : MethodName := ⟨RX10, "turned", "(I)I"⟩
abbrev cX10_findBest : ByteArray := prog_12_method_60_code
def yX10_findBest : MethodName := ⟨RX10, "findBest", "(I)V"⟩
abbrev cX10_best : ByteArray := prog_12_method_61_code
def yX10_best : MethodName := ⟨RX10, "best", "(II)I"⟩
abbrev cX10_goesOn : ByteArray := prog_12_method_62_code
def yX10_goesOn : MethodName := ⟨RX10, "goesOn", "()Z"⟩
abbrev cX10_judge : ByteArray := prog_12_method_63_code
def yX10_judge : MethodName := ⟨RX10, "judge", "(III)I"⟩
abbrev cX10_feed : ByteArray := prog_12_method_64_code
def yX10_feed : MethodName := ⟨RX10, "feed", "(J)I"⟩
abbrev cX10_end : ByteArray := prog_12_method_65_code
def yX10_end : MethodName := ⟨RX10, "end", "(I)I"⟩
abbrev cX10_wants : ByteArray := prog_12_method_66_code
def yX10_wants : MethodName := ⟨RX10, "wants", "(ZI)V"⟩
abbrev cX10_look : ByteArray := prog_12_method_67_code
def yX10_look : MethodName := ⟨RX10, "look", "(I)I"⟩
abbrev cX10_is : ByteArray := prog_12_method_68_code
def yX10_is : MethodName := ⟨RX10, "is", "(IIIIII)Z"⟩
abbrev cX10_nameNow : ByteArray := prog_12_method_69_code
def yX10_nameNow : MethodName := ⟨RX10, "nameNow", "()I"⟩
abbrev cX10_next : ByteArray := prog_12_method_70_code
def yX10_next : MethodName := ⟨RX10, "next", "()V"⟩
abbrev cX10_readOn : ByteArray := prog_12_method_71_code
def yX10_readOn : MethodName := ⟨RX10, "readOn", "(I)I"⟩
abbrev cX10_readClaim : ByteArray := prog_12_method_72_code
def yX10_readClaim : MethodName := ⟨RX10, "readClaim", "(I)I"⟩
abbrev cX10_claims : ByteArray := prog_12_method_73_code
def yX10_claims : MethodName := ⟨RX10, "claims", "()I"⟩
abbrev cX10_fault : ByteArray := prog_12_method_74_code
def yX10_fault : MethodName := ⟨RX10, "fault", "()I"⟩
abbrev cX10_isClaim : ByteArray := prog_12_method_75_code
def yX10_isClaim : MethodName := ⟨RX10, "isClaim", "(I)Z"⟩
abbrev cX10_hanging : ByteArray := prog_12_method_76_code
def yX10_hanging : MethodName := ⟨RX10, "hanging", "(I)I"⟩
abbrev cX10_deepOf : ByteArray := prog_12_method_77_code
def yX10_deepOf : MethodName := ⟨RX10, "deepOf", "(I)I"⟩
abbrev cX10_claim : ByteArray := prog_12_method_78_code
def yX10_claim : MethodName := ⟨RX10, "claim", "(II)I"⟩
abbrev cX10_withdraw : ByteArray := prog_12_method_79_code
def yX10_withdraw : MethodName := ⟨RX10, "withdraw", "(I)I"⟩
abbrev cX10_day : ByteArray := prog_12_method_80_code
def yX10_day : MethodName := ⟨RX10, "day", "(I)I"⟩
abbrev cX10_known : ByteArray := prog_12_method_81_code
def yX10_known : MethodName := ⟨RX10, "known", "(II)I"⟩
abbrev cX10_isSheet : ByteArray := prog_12_method_82_code
def yX10_isSheet : MethodName := ⟨RX10, "isSheet", "(II)Z"⟩
abbrev cX10_sheet : ByteArray := prog_12_method_83_code
def yX10_sheet : MethodName := ⟨RX10, "sheet", "(III)I"⟩
abbrev cX10_lay : ByteArray := prog_12_method_84_code
def yX10_lay : MethodName := ⟨RX10, "lay", "(III)I"⟩
abbrev cX10_text : ByteArray := prog_12_method_85_code
def yX10_text : MethodName := ⟨RX10, "text", "(IIII)I"⟩
abbrev cX10_count : ByteArray := prog_12_method_86_code
def yX10_count : MethodName := ⟨RX10, "count", "(I)I"⟩
def RJ6 : String := "java/lang/Integer"
abbrev cJ6_compare_7cf53 : ByteArray := prog_13_method_40_code
def yJ6_compare_7cf53 : MethodName := ⟨RJ6, "compare", "(II)I"⟩
abbrev cJ6_bitCount_0f7a4 : ByteArray := prog_13_method_49_code
def yJ6_bitCount_0f7a4 : MethodName := ⟨RJ6, "bitCount", "(I)I"⟩
def RJ9 : String := "java/lang/Math"
abbrev cJ9_max_7cf53 : ByteArray := prog_14_method_65_code
def yJ9_max_7cf53 : MethodName := ⟨RJ9, "max", "(II)I"⟩
abbrev cJ9_min_7cf53 : ByteArray := prog_14_method_69_code
def yJ9_min_7cf53 : MethodName := ⟨RJ9, "min", "(II)I"⟩
abbrev mX0_init : MD := (yX0_init, cX0_init, 1, (Option.none : Option Jvm.ClassFile.FieldType))
set_option maxRecDepth 100000 in
theorem kX0_init : MOK mX0_init := ⟨lw_in (i := 255) (by rfl) rfl, lw_in (i := 101) (by decide +kernel) rfl, by decide +kernel, by decide +kernel, by decide +kernel⟩
abbrev mX0_size : MD := (yX0_size, cX0_size, 1, (Option.some Jvm.ClassFile.FieldType.int))
set_option maxRecDepth 100000 in
theorem kX0_size : MOK mX0_size := ⟨lw_in (i := 1194) (by rfl) rfl, lw_in (i := 101) (by decide +kernel) rfl, by decide +kernel, by decide +kernel, by decide +kernel⟩
theorem vX0_size : MOV mX0_size := ⟨kX0_size, lw_in (i := 1192) (by decide +kernel) rfl, lw_in (i := 1193) (by decide +kernel) rfl⟩
abbrev mX0_add : MD := (yX0_add, cX0_add, 4, (Option.some Jvm.ClassFile.FieldType.int))
set_option maxRecDepth 100000 in
theorem kX0_add : MOK mX0_add := ⟨lw_in (i := 764) (by rfl) rfl, lw_in (i := 101) (by decide +kernel) rfl, by decide +kernel, by decide +kernel, by decide +kernel⟩
theorem vX0_add : MOV mX0_add := ⟨kX0_add, lw_in (i := 762) (by decide +kernel) rfl, lw_in (i := 763) (by decide +kernel) rfl⟩
abbrev mX0_areStanding : MD := (yX0_areStanding, cX0_areStanding, 2, (Option.some Jvm.ClassFile.FieldType.boolean))
set_option maxRecDepth 100000 in
theorem kX0_areStanding : MOK mX0_areStanding := ⟨lw_in (i := 767) (by rfl) rfl, lw_in (i := 101) (by decide +kernel) rfl, by decide +kernel, by decide +kernel, by decide +kernel⟩
theorem vX0_areStanding : MOS mX0_areStanding := ⟨kX0_areStanding, lw_in (i := 766) (by decide +kernel) rfl⟩
abbrev mX0_standing : MD := (yX0_standing, cX0_standing, 2, (Option.some Jvm.ClassFile.FieldType.int))
set_option maxRecDepth 100000 in
theorem kX0_standing : MOK mX0_standing := ⟨lw_in (i := 770) (by rfl) rfl, lw_in (i := 101) (by decide +kernel) rfl, by decide +kernel, by decide +kernel, by decide +kernel⟩
theorem vX0_standing : MOS mX0_standing := ⟨kX0_standing, lw_in (i := 769) (by decide +kernel) rfl⟩
abbrev mX0_tellFits : MD := (yX0_tellFits, cX0_tellFits, 2, (Option.some Jvm.ClassFile.FieldType.int))
set_option maxRecDepth 100000 in
theorem kX0_tellFits : MOK mX0_tellFits := ⟨lw_in (i := 778) (by rfl) rfl, lw_in (i := 101) (by decide +kernel) rfl, by decide +kernel, by decide +kernel, by decide +kernel⟩
theorem vX0_tellFits : MOV mX0_tellFits := ⟨kX0_tellFits, lw_in (i := 776) (by decide +kernel) rfl, lw_in (i := 777) (by decide +kernel) rfl⟩
abbrev mX0_valuesSeen : MD := (yX0_valuesSeen, cX0_valuesSeen, 2, (Option.some Jvm.ClassFile.FieldType.int))
set_option maxRecDepth 100000 in
theorem kX0_valuesSeen : MOK mX0_valuesSeen := ⟨lw_in (i := 808) (by rfl) rfl, lw_in (i := 101) (by decide +kernel) rfl, by decide +kernel, by decide +kernel, by decide +kernel⟩
theorem vX0_valuesSeen : MOV mX0_valuesSeen := ⟨kX0_valuesSeen, lw_in (i := 806) (by decide +kernel) rfl, lw_in (i := 807) (by decide +kernel) rfl⟩
abbrev mX0_valueOf : MD := (yX0_valueOf, cX0_valueOf, 1, (Option.some Jvm.ClassFile.FieldType.int))
set_option maxRecDepth 100000 in
theorem kX0_valueOf : MOK mX0_valueOf := ⟨lw_in (i := 794) (by rfl) rfl, lw_in (i := 101) (by decide +kernel) rfl, by decide +kernel, by decide +kernel, by decide +kernel⟩
theorem vX0_valueOf : MOS mX0_valueOf := ⟨kX0_valueOf, lw_in (i := 793) (by decide +kernel) rfl⟩
abbrev mX0_search : MD := (yX0_search, cX0_search, 3, (Option.none : Option Jvm.ClassFile.FieldType))
set_option maxRecDepth 100000 in
theorem kX0_search : MOK mX0_search := ⟨lw_in (i := 782) (by rfl) rfl, lw_in (i := 101) (by decide +kernel) rfl, by decide +kernel, by decide +kernel, by decide +kernel⟩
theorem vX0_search : MOV mX0_search := ⟨kX0_search, lw_in (i := 781) (by decide +kernel) rfl, lw_in (i := 18) (by decide +kernel) rfl⟩
abbrev mX0_areUnlike : MD := (yX0_areUnlike, cX0_areUnlike, 3, (Option.some Jvm.ClassFile.FieldType.boolean))
set_option maxRecDepth 100000 in
theorem kX0_areUnlike : MOK mX0_areUnlike := ⟨lw_in (i := 786) (by rfl) rfl, lw_in (i := 101) (by decide +kernel) rfl, by decide +kernel, by decide +kernel, by decide +kernel⟩
theorem vX0_areUnlike : MOV mX0_areUnlike := ⟨kX0_areUnlike, lw_in (i := 785) (by decide +kernel) rfl, lw_in (i := 19) (by decide +kernel) rfl⟩
abbrev mX0_doAddUp : MD := (yX0_doAddUp, cX0_doAddUp, 4, (Option.some Jvm.ClassFile.FieldType.boolean))
set_option maxRecDepth 100000 in
theorem kX0_doAddUp : MOK mX0_doAddUp := ⟨lw_in (i := 791) (by rfl) rfl, lw_in (i := 101) (by decide +kernel) rfl, by decide +kernel, by decide +kernel, by decide +kernel⟩
theorem vX0_doAddUp : MOV mX0_doAddUp := ⟨kX0_doAddUp, lw_in (i := 790) (by decide +kernel) rfl, lw_in (i := 20) (by decide +kernel) rfl⟩
abbrev mX0_keep : MD := (yX0_keep, cX0_keep, 2, (Option.none : Option Jvm.ClassFile.FieldType))
set_option maxRecDepth 100000 in
theorem kX0_keep : MOK mX0_keep := ⟨lw_in (i := 800) (by rfl) rfl, lw_in (i := 101) (by decide +kernel) rfl, by decide +kernel, by decide +kernel, by decide +kernel⟩
theorem vX0_keep : MOV mX0_keep := ⟨kX0_keep, lw_in (i := 799) (by decide +kernel) rfl, lw_in (i := 21) (by decide +kernel) rfl⟩
abbrev mX1_init : MD := (yX1_init, cX1_init, 2, (Option.none : Option Jvm.ClassFile.FieldType))
set_option maxRecDepth 100000 in
theorem kX1_init : MOK mX1_init := ⟨lw_in (i := 355) (by rfl) rfl, lw_in (i := 104) (by decide +kernel) rfl, by decide +kernel, by decide +kernel, by decide +kernel⟩
abbrev mX1_size : MD := (yX1_size, cX1_size, 1, (Option.some Jvm.ClassFile.FieldType.int))
set_option maxRecDepth 100000 in
theorem kX1_size : MOK mX1_size := ⟨lw_in (i := 1206) (by rfl) rfl, lw_in (i := 104) (by decide +kernel) rfl, by decide +kernel, by decide +kernel, by decide +kernel⟩
theorem vX1_size : MOV mX1_size := ⟨kX1_size, lw_in (i := 1204) (by decide +kernel) rfl, lw_in (i := 1205) (by decide +kernel) rfl⟩
abbrev mX1_latestFault : MD := (yX1_latestFault, cX1_latestFault, 1, (Option.some Jvm.ClassFile.FieldType.int))
set_option maxRecDepth 100000 in
theorem kX1_latestFault : MOK mX1_latestFault := ⟨lw_in (i := 1115) (by rfl) rfl, lw_in (i := 104) (by decide +kernel) rfl, by decide +kernel, by decide +kernel, by decide +kernel⟩
theorem vX1_latestFault : MOV mX1_latestFault := ⟨kX1_latestFault, lw_in (i := 1113) (by decide +kernel) rfl, lw_in (i := 1114) (by decide +kernel) rfl⟩
abbrev mX1_today : MD := (yX1_today, cX1_today, 1, (Option.some Jvm.ClassFile.FieldType.int))
set_option maxRecDepth 100000 in
theorem kX1_today : MOK mX1_today := ⟨lw_in (i := 1214) (by rfl) rfl, lw_in (i := 104) (by decide +kernel) rfl, by decide +kernel, by decide +kernel, by decide +kernel⟩
theorem vX1_today : MOV mX1_today := ⟨kX1_today, lw_in (i := 1212) (by decide +kernel) rfl, lw_in (i := 1213) (by decide +kernel) rfl⟩
abbrev mX1_withdrawn : MD := (yX1_withdrawn, cX1_withdrawn, 3, (Option.some Jvm.ClassFile.FieldType.int))
set_option maxRecDepth 100000 in
theorem kX1_withdrawn : MOK mX1_withdrawn := ⟨lw_in (i := 1210) (by rfl) rfl, lw_in (i := 104) (by decide +kernel) rfl, by decide +kernel, by decide +kernel, by decide +kernel⟩
theorem vX1_withdrawn : MOV mX1_withdrawn := ⟨kX1_withdrawn, lw_in (i := 1208) (by decide +kernel) rfl, lw_in (i := 1209) (by decide +kernel) rfl⟩
abbrev mX1_take : MD := (yX1_take, cX1_take, 3, (Option.some Jvm.ClassFile.FieldType.int))
set_option maxRecDepth 100000 in
theorem kX1_take : MOK mX1_take := ⟨lw_in (i := 990) (by rfl) rfl, lw_in (i := 104) (by decide +kernel) rfl, by decide +kernel, by decide +kernel, by decide +kernel⟩
theorem vX1_take : MOV mX1_take := ⟨kX1_take, lw_in (i := 988) (by decide +kernel) rfl, lw_in (i := 989) (by decide +kernel) rfl⟩
abbrev mX1_follow : MD := (yX1_follow, cX1_follow, 3, (Option.some Jvm.ClassFile.FieldType.int))
set_option maxRecDepth 100000 in
theorem kX1_follow : MOK mX1_follow := ⟨lw_in (i := 1081) (by rfl) rfl, lw_in (i := 104) (by decide +kernel) rfl, by decide +kernel, by decide +kernel, by decide +kernel⟩
theorem vX1_follow : MOV mX1_follow := ⟨kX1_follow, lw_in (i := 1080) (by decide +kernel) rfl, lw_in (i := 43) (by decide +kernel) rfl⟩
abbrev mX1_goOnOrStop : MD := (yX1_goOnOrStop, cX1_goOnOrStop, 2, (Option.some Jvm.ClassFile.FieldType.int))
set_option maxRecDepth 100000 in
theorem kX1_goOnOrStop : MOK mX1_goOnOrStop := ⟨lw_in (i := 1102) (by rfl) rfl, lw_in (i := 104) (by decide +kernel) rfl, by decide +kernel, by decide +kernel, by decide +kernel⟩
theorem vX1_goOnOrStop : MOV mX1_goOnOrStop := ⟨kX1_goOnOrStop, lw_in (i := 1101) (by decide +kernel) rfl, lw_in (i := 48) (by decide +kernel) rfl⟩
abbrev mX1_open : MD := (yX1_open, cX1_open, 2, (Option.some Jvm.ClassFile.FieldType.int))
set_option maxRecDepth 100000 in
theorem kX1_open : MOK mX1_open := ⟨lw_in (i := 1085) (by rfl) rfl, lw_in (i := 104) (by decide +kernel) rfl, by decide +kernel, by decide +kernel, by decide +kernel⟩
theorem vX1_open : MOV mX1_open := ⟨kX1_open, lw_in (i := 1084) (by decide +kernel) rfl, lw_in (i := 44) (by decide +kernel) rfl⟩
abbrev mX1_tellAbout : MD := (yX1_tellAbout, cX1_tellAbout, 3, (Option.some Jvm.ClassFile.FieldType.int))
set_option maxRecDepth 100000 in
theorem kX1_tellAbout : MOK mX1_tellAbout := ⟨lw_in (i := 1089) (by rfl) rfl, lw_in (i := 104) (by decide +kernel) rfl, by decide +kernel, by decide +kernel, by decide +kernel⟩
theorem vX1_tellAbout : MOV mX1_tellAbout := ⟨kX1_tellAbout, lw_in (i := 1088) (by decide +kernel) rfl, lw_in (i := 45) (by decide +kernel) rfl⟩
abbrev mX1_hang : MD := (yX1_hang, cX1_hang, 2, (Option.some Jvm.ClassFile.FieldType.int))
set_option maxRecDepth 100000 in
theorem kX1_hang : MOK mX1_hang := ⟨lw_in (i := 1093) (by rfl) rfl, lw_in (i := 104) (by decide +kernel) rfl, by decide +kernel, by decide +kernel, by decide +kernel⟩
theorem vX1_hang : MOV mX1_hang := ⟨kX1_hang, lw_in (i := 1092) (by decide +kernel) rfl, lw_in (i := 46) (by decide +kernel) rfl⟩
abbrev mX1_hangs : MD := (yX1_hangs, cX1_hangs, 3, (Option.some Jvm.ClassFile.FieldType.boolean))
set_option maxRecDepth 100000 in
theorem kX1_hangs : MOK mX1_hangs := ⟨lw_in (i := 1097) (by rfl) rfl, lw_in (i := 104) (by decide +kernel) rfl, by decide +kernel, by decide +kernel, by decide +kernel⟩
theorem vX1_hangs : MOV mX1_hangs := ⟨kX1_hangs, lw_in (i := 1096) (by decide +kernel) rfl, lw_in (i := 47) (by decide +kernel) rfl⟩
abbrev mX1_isClaim : MD := (yX1_isClaim, cX1_isClaim, 2, (Option.some Jvm.ClassFile.FieldType.boolean))
set_option maxRecDepth 100000 in
theorem kX1_isClaim : MOK mX1_isClaim := ⟨lw_in (i := 1127) (by rfl) rfl, lw_in (i := 104) (by decide +kernel) rfl, by decide +kernel, by decide +kernel, by decide +kernel⟩
theorem vX1_isClaim : MOV mX1_isClaim := ⟨kX1_isClaim, lw_in (i := 1126) (by decide +kernel) rfl, lw_in (i := 49) (by decide +kernel) rfl⟩
abbrev mX1_tell : MD := (yX1_tell, cX1_tell, 3, (Option.some Jvm.ClassFile.FieldType.int))
set_option maxRecDepth 100000 in
theorem kX1_tell : MOK mX1_tell := ⟨lw_in (i := 1123) (by rfl) rfl, lw_in (i := 104) (by decide +kernel) rfl, by decide +kernel, by decide +kernel, by decide +kernel⟩
theorem vX1_tell : MOV mX1_tell := ⟨kX1_tell, lw_in (i := 1121) (by decide +kernel) rfl, lw_in (i := 1122) (by decide +kernel) rfl⟩
abbrev mX1_takeBack : MD := (yX1_takeBack, cX1_takeBack, 4, (Option.some Jvm.ClassFile.FieldType.int))
set_option maxRecDepth 100000 in
theorem kX1_takeBack : MOK mX1_takeBack := ⟨lw_in (i := 1140) (by rfl) rfl, lw_in (i := 104) (by decide +kernel) rfl, by decide +kernel, by decide +kernel, by decide +kernel⟩
theorem vX1_takeBack : MOV mX1_takeBack := ⟨kX1_takeBack, lw_in (i := 1138) (by decide +kernel) rfl, lw_in (i := 1139) (by decide +kernel) rfl⟩
abbrev mX1_hangingOn : MD := (yX1_hangingOn, cX1_hangingOn, 4, (Option.some Jvm.ClassFile.FieldType.int))
set_option maxRecDepth 100000 in
theorem kX1_hangingOn : MOK mX1_hangingOn := ⟨lw_in (i := 1132) (by rfl) rfl, lw_in (i := 104) (by decide +kernel) rfl, by decide +kernel, by decide +kernel, by decide +kernel⟩
theorem vX1_hangingOn : MOV mX1_hangingOn := ⟨kX1_hangingOn, lw_in (i := 1131) (by decide +kernel) rfl, lw_in (i := 50) (by decide +kernel) rfl⟩
abbrev mX1_moveDay : MD := (yX1_moveDay, cX1_moveDay, 3, (Option.some Jvm.ClassFile.FieldType.int))
set_option maxRecDepth 100000 in
theorem kX1_moveDay : MOK mX1_moveDay := ⟨lw_in (i := 1148) (by rfl) rfl, lw_in (i := 104) (by decide +kernel) rfl, by decide +kernel, by decide +kernel, by decide +kernel⟩
theorem vX1_moveDay : MOV mX1_moveDay := ⟨kX1_moveDay, lw_in (i := 1146) (by decide +kernel) rfl, lw_in (i := 1147) (by decide +kernel) rfl⟩
abbrev mX1_knownOn : MD := (yX1_knownOn, cX1_knownOn, 7, (Option.some Jvm.ClassFile.FieldType.int))
set_option maxRecDepth 100000 in
theorem kX1_knownOn : MOK mX1_knownOn := ⟨lw_in (i := 1156) (by rfl) rfl, lw_in (i := 104) (by decide +kernel) rfl, by decide +kernel, by decide +kernel, by decide +kernel⟩
theorem vX1_knownOn : MOV mX1_knownOn := ⟨kX1_knownOn, lw_in (i := 1154) (by decide +kernel) rfl, lw_in (i := 1155) (by decide +kernel) rfl⟩
abbrev mX1_isKnown : MD := (yX1_isKnown, cX1_isKnown, 3, (Option.some Jvm.ClassFile.FieldType.boolean))
set_option maxRecDepth 100000 in
theorem kX1_isKnown : MOK mX1_isKnown := ⟨lw_in (i := 1160) (by rfl) rfl, lw_in (i := 104) (by decide +kernel) rfl, by decide +kernel, by decide +kernel, by decide +kernel⟩
theorem vX1_isKnown : MOV mX1_isKnown := ⟨kX1_isKnown, lw_in (i := 1159) (by decide +kernel) rfl, lw_in (i := 51) (by decide +kernel) rfl⟩
abbrev mX2_init : MD := (yX2_init, cX2_init, 1, (Option.none : Option Jvm.ClassFile.FieldType))
set_option maxRecDepth 100000 in
theorem kX2_init : MOK mX2_init := ⟨lw_in (i := 125) (by rfl) rfl, lw_in (i := 97) (by decide +kernel) rfl, by decide +kernel, by decide +kernel, by decide +kernel⟩
abbrev mX2_size : MD := (yX2_size, cX2_size, 1, (Option.some Jvm.ClassFile.FieldType.int))
set_option maxRecDepth 100000 in
theorem kX2_size : MOK mX2_size := ⟨lw_in (i := 734) (by rfl) rfl, lw_in (i := 97) (by decide +kernel) rfl, by decide +kernel, by decide +kernel, by decide +kernel⟩
theorem vX2_size : MOV mX2_size := ⟨kX2_size, lw_in (i := 732) (by decide +kernel) rfl, lw_in (i := 733) (by decide +kernel) rfl⟩
abbrev mX2_add : MD := (yX2_add, cX2_add, 2, (Option.some Jvm.ClassFile.FieldType.int))
set_option maxRecDepth 100000 in
theorem kX2_add : MOK mX2_add := ⟨lw_in (i := 446) (by rfl) rfl, lw_in (i := 97) (by decide +kernel) rfl, by decide +kernel, by decide +kernel, by decide +kernel⟩
theorem vX2_add : MOV mX2_add := ⟨kX2_add, lw_in (i := 444) (by decide +kernel) rfl, lw_in (i := 445) (by decide +kernel) rfl⟩
abbrev mX2_limitTo : MD := (yX2_limitTo, cX2_limitTo, 3, (Option.some Jvm.ClassFile.FieldType.int))
set_option maxRecDepth 100000 in
theorem kX2_limitTo : MOK mX2_limitTo := ⟨lw_in (i := 473) (by rfl) rfl, lw_in (i := 97) (by decide +kernel) rfl, by decide +kernel, by decide +kernel, by decide +kernel⟩
theorem vX2_limitTo : MOV mX2_limitTo := ⟨kX2_limitTo, lw_in (i := 471) (by decide +kernel) rfl, lw_in (i := 472) (by decide +kernel) rfl⟩
abbrev mX2_isForm : MD := (yX2_isForm, cX2_isForm, 2, (Option.some Jvm.ClassFile.FieldType.boolean))
set_option maxRecDepth 100000 in
theorem kX2_isForm : MOK mX2_isForm := ⟨lw_in (i := 542) (by rfl) rfl, lw_in (i := 97) (by decide +kernel) rfl, by decide +kernel, by decide +kernel, by decide +kernel⟩
theorem vX2_isForm : MOV mX2_isForm := ⟨kX2_isForm, lw_in (i := 540) (by decide +kernel) rfl, lw_in (i := 541) (by decide +kernel) rfl⟩
abbrev mX2_isSign : MD := (yX2_isSign, cX2_isSign, 2, (Option.some Jvm.ClassFile.FieldType.boolean))
set_option maxRecDepth 100000 in
theorem kX2_isSign : MOK mX2_isSign := ⟨lw_in (i := 612) (by rfl) rfl, lw_in (i := 97) (by decide +kernel) rfl, by decide +kernel, by decide +kernel, by decide +kernel⟩
theorem vX2_isSign : MOV mX2_isSign := ⟨kX2_isSign, lw_in (i := 610) (by decide +kernel) rfl, lw_in (i := 611) (by decide +kernel) rfl⟩
abbrev mX2_signOf : MD := (yX2_signOf, cX2_signOf, 2, (Option.some Jvm.ClassFile.FieldType.int))
set_option maxRecDepth 100000 in
theorem kX2_signOf : MOK mX2_signOf := ⟨lw_in (i := 481) (by rfl) rfl, lw_in (i := 97) (by decide +kernel) rfl, by decide +kernel, by decide +kernel, by decide +kernel⟩
theorem vX2_signOf : MOV mX2_signOf := ⟨kX2_signOf, lw_in (i := 479) (by decide +kernel) rfl, lw_in (i := 480) (by decide +kernel) rfl⟩
abbrev mX2_groups : MD := (yX2_groups, cX2_groups, 3, (Option.some Jvm.ClassFile.FieldType.int))
set_option maxRecDepth 100000 in
theorem kX2_groups : MOK mX2_groups := ⟨lw_in (i := 489) (by rfl) rfl, lw_in (i := 97) (by decide +kernel) rfl, by decide +kernel, by decide +kernel, by decide +kernel⟩
theorem vX2_groups : MOV mX2_groups := ⟨kX2_groups, lw_in (i := 487) (by decide +kernel) rfl, lw_in (i := 488) (by decide +kernel) rfl⟩
abbrev mX2_membersOf : MD := (yX2_membersOf, cX2_membersOf, 4, (Option.some Jvm.ClassFile.FieldType.int))
set_option maxRecDepth 100000 in
theorem kX2_membersOf : MOK mX2_membersOf := ⟨lw_in (i := 497) (by rfl) rfl, lw_in (i := 97) (by decide +kernel) rfl, by decide +kernel, by decide +kernel, by decide +kernel⟩
theorem vX2_membersOf : MOV mX2_membersOf := ⟨kX2_membersOf, lw_in (i := 495) (by decide +kernel) rfl, lw_in (i := 496) (by decide +kernel) rfl⟩
abbrev mX2_greatest : MD := (yX2_greatest, cX2_greatest, 5, (Option.some Jvm.ClassFile.FieldType.int))
set_option maxRecDepth 100000 in
theorem kX2_greatest : MOK mX2_greatest := ⟨lw_in (i := 493) (by rfl) rfl, lw_in (i := 97) (by decide +kernel) rfl, by decide +kernel, by decide +kernel, by decide +kernel⟩
theorem vX2_greatest : MOV mX2_greatest := ⟨kX2_greatest, lw_in (i := 491) (by decide +kernel) rfl, lw_in (i := 492) (by decide +kernel) rfl⟩
abbrev mX2_leastLimit : MD := (yX2_leastLimit, cX2_leastLimit, 2, (Option.some Jvm.ClassFile.FieldType.int))
set_option maxRecDepth 100000 in
theorem kX2_leastLimit : MOK mX2_leastLimit := ⟨lw_in (i := 502) (by rfl) rfl, lw_in (i := 97) (by decide +kernel) rfl, by decide +kernel, by decide +kernel, by decide +kernel⟩
theorem vX2_leastLimit : MOV mX2_leastLimit := ⟨kX2_leastLimit, lw_in (i := 500) (by decide +kernel) rfl, lw_in (i := 501) (by decide +kernel) rfl⟩
abbrev mX2_isOneGroup : MD := (yX2_isOneGroup, cX2_isOneGroup, 3, (Option.some Jvm.ClassFile.FieldType.boolean))
set_option maxRecDepth 100000 in
theorem kX2_isOneGroup : MOK mX2_isOneGroup := ⟨lw_in (i := 506) (by rfl) rfl, lw_in (i := 97) (by decide +kernel) rfl, by decide +kernel, by decide +kernel, by decide +kernel⟩
theorem vX2_isOneGroup : MOV mX2_isOneGroup := ⟨kX2_isOneGroup, lw_in (i := 505) (by decide +kernel) rfl, lw_in (i := 1) (by decide +kernel) rfl⟩
abbrev mX2_group : MD := (yX2_group, cX2_group, 5, (Option.none : Option Jvm.ClassFile.FieldType))
set_option maxRecDepth 100000 in
theorem kX2_group : MOK mX2_group := ⟨lw_in (i := 450) (by rfl) rfl, lw_in (i := 97) (by decide +kernel) rfl, by decide +kernel, by decide +kernel, by decide +kernel⟩
theorem vX2_group : MOV mX2_group := ⟨kX2_group, lw_in (i := 449) (by decide +kernel) rfl, lw_in (i := 0) (by decide +kernel) rfl⟩
abbrev mX2_join : MD := (yX2_join, cX2_join, 6, (Option.none : Option Jvm.ClassFile.FieldType))
set_option maxRecDepth 100000 in
theorem kX2_join : MOK mX2_join := ⟨lw_in (i := 459) (by rfl) rfl, lw_in (i := 97) (by decide +kernel) rfl, by decide +kernel, by decide +kernel, by decide +kernel⟩
theorem vX2_join : MOS mX2_join := ⟨kX2_join, lw_in (i := 458) (by decide +kernel) rfl⟩
abbrev mX3_init : MD := (yX3_init, cX3_init, 3, (Option.none : Option Jvm.ClassFile.FieldType))
set_option maxRecDepth 100000 in
theorem kX3_init : MOK mX3_init := ⟨lw_in (i := 214) (by rfl) rfl, lw_in (i := 100) (by decide +kernel) rfl, by decide +kernel, by decide +kernel, by decide +kernel⟩
abbrev mX3_tellApart : MD := (yX3_tellApart, cX3_tellApart, 5, (Option.some Jvm.ClassFile.FieldType.int))
set_option maxRecDepth 100000 in
theorem kX3_tellApart : MOK mX3_tellApart := ⟨lw_in (i := 713) (by rfl) rfl, lw_in (i := 100) (by decide +kernel) rfl, by decide +kernel, by decide +kernel, by decide +kernel⟩
theorem vX3_tellApart : MOV mX3_tellApart := ⟨kX3_tellApart, lw_in (i := 711) (by decide +kernel) rfl, lw_in (i := 712) (by decide +kernel) rfl⟩
abbrev mX3_akinOf : MD := (yX3_akinOf, cX3_akinOf, 3, (Option.some Jvm.ClassFile.FieldType.int))
set_option maxRecDepth 100000 in
theorem kX3_akinOf : MOK mX3_akinOf := ⟨lw_in (i := 682) (by rfl) rfl, lw_in (i := 100) (by decide +kernel) rfl, by decide +kernel, by decide +kernel, by decide +kernel⟩
theorem vX3_akinOf : MOV mX3_akinOf := ⟨kX3_akinOf, lw_in (i := 680) (by decide +kernel) rfl, lw_in (i := 681) (by decide +kernel) rfl⟩
abbrev mX3_tell : MD := (yX3_tell, cX3_tell, 3, (Option.some Jvm.ClassFile.FieldType.int))
set_option maxRecDepth 100000 in
theorem kX3_tell : MOK mX3_tell := ⟨lw_in (i := 722) (by rfl) rfl, lw_in (i := 100) (by decide +kernel) rfl, by decide +kernel, by decide +kernel, by decide +kernel⟩
theorem vX3_tell : MOV mX3_tell := ⟨kX3_tell, lw_in (i := 720) (by decide +kernel) rfl, lw_in (i := 721) (by decide +kernel) rfl⟩
abbrev mX3_gatherEndings : MD := (yX3_gatherEndings, cX3_gatherEndings, 4, (Option.none : Option Jvm.ClassFile.FieldType))
set_option maxRecDepth 100000 in
theorem kX3_gatherEndings : MOK mX3_gatherEndings := ⟨lw_in (i := 686) (by rfl) rfl, lw_in (i := 100) (by decide +kernel) rfl, by decide +kernel, by decide +kernel, by decide +kernel⟩
theorem vX3_gatherEndings : MOV mX3_gatherEndings := ⟨kX3_gatherEndings, lw_in (i := 685) (by decide +kernel) rfl, lw_in (i := 9) (by decide +kernel) rfl⟩
abbrev mX3_firstOfStem : MD := (yX3_firstOfStem, cX3_firstOfStem, 3, (Option.some Jvm.ClassFile.FieldType.int))
set_option maxRecDepth 100000 in
theorem kX3_firstOfStem : MOK mX3_firstOfStem := ⟨lw_in (i := 694) (by rfl) rfl, lw_in (i := 100) (by decide +kernel) rfl, by decide +kernel, by decide +kernel, by decide +kernel⟩
theorem vX3_firstOfStem : MOV mX3_firstOfStem := ⟨kX3_firstOfStem, lw_in (i := 693) (by decide +kernel) rfl, lw_in (i := 10) (by decide +kernel) rfl⟩
abbrev mX3_stemsOfBoth : MD := (yX3_stemsOfBoth, cX3_stemsOfBoth, 5, (Option.some Jvm.ClassFile.FieldType.int))
set_option maxRecDepth 100000 in
theorem kX3_stemsOfBoth : MOK mX3_stemsOfBoth := ⟨lw_in (i := 705) (by rfl) rfl, lw_in (i := 100) (by decide +kernel) rfl, by decide +kernel, by decide +kernel, by decide +kernel⟩
theorem vX3_stemsOfBoth : MOV mX3_stemsOfBoth := ⟨kX3_stemsOfBoth, lw_in (i := 704) (by decide +kernel) rfl, lw_in (i := 11) (by decide +kernel) rfl⟩
abbrev mX3_measureAkin : MD := (yX3_measureAkin, cX3_measureAkin, 3, (Option.none : Option Jvm.ClassFile.FieldType))
set_option maxRecDepth 100000 in
theorem kX3_measureAkin : MOK mX3_measureAkin := ⟨lw_in (i := 726) (by rfl) rfl, lw_in (i := 100) (by decide +kernel) rfl, by decide +kernel, by decide +kernel, by decide +kernel⟩
theorem vX3_measureAkin : MOV mX3_measureAkin := ⟨kX3_measureAkin, lw_in (i := 725) (by decide +kernel) rfl, lw_in (i := 12) (by decide +kernel) rfl⟩
abbrev mX3_measureApart : MD := (yX3_measureApart, cX3_measureApart, 5, (Option.none : Option Jvm.ClassFile.FieldType))
set_option maxRecDepth 100000 in
theorem kX3_measureApart : MOK mX3_measureApart := ⟨lw_in (i := 730) (by rfl) rfl, lw_in (i := 100) (by decide +kernel) rfl, by decide +kernel, by decide +kernel, by decide +kernel⟩
theorem vX3_measureApart : MOV mX3_measureApart := ⟨kX3_measureApart, lw_in (i := 729) (by decide +kernel) rfl, lw_in (i := 13) (by decide +kernel) rfl⟩
abbrev mX3_seatBound : MD := (yX3_seatBound, cX3_seatBound, 2, (Option.none : Option Jvm.ClassFile.FieldType))
set_option maxRecDepth 100000 in
theorem kX3_seatBound : MOK mX3_seatBound := ⟨lw_in (i := 740) (by rfl) rfl, lw_in (i := 100) (by decide +kernel) rfl, by decide +kernel, by decide +kernel, by decide +kernel⟩
theorem vX3_seatBound : MOV mX3_seatBound := ⟨kX3_seatBound, lw_in (i := 739) (by decide +kernel) rfl, lw_in (i := 14) (by decide +kernel) rfl⟩
abbrev mX3_isBound : MD := (yX3_isBound, cX3_isBound, 3, (Option.some Jvm.ClassFile.FieldType.boolean))
set_option maxRecDepth 100000 in
theorem kX3_isBound : MOK mX3_isBound := ⟨lw_in (i := 744) (by rfl) rfl, lw_in (i := 100) (by decide +kernel) rfl, by decide +kernel, by decide +kernel, by decide +kernel⟩
theorem vX3_isBound : MOV mX3_isBound := ⟨kX3_isBound, lw_in (i := 743) (by decide +kernel) rfl, lw_in (i := 15) (by decide +kernel) rfl⟩
abbrev mX3_seat : MD := (yX3_seat, cX3_seat, 5, (Option.none : Option Jvm.ClassFile.FieldType))
set_option maxRecDepth 100000 in
theorem kX3_seat : MOK mX3_seat := ⟨lw_in (i := 748) (by rfl) rfl, lw_in (i := 100) (by decide +kernel) rfl, by decide +kernel, by decide +kernel, by decide +kernel⟩
theorem vX3_seat : MOS mX3_seat := ⟨kX3_seat, lw_in (i := 747) (by decide +kernel) rfl⟩
abbrev mX3_keep : MD := (yX3_keep, cX3_keep, 3, (Option.none : Option Jvm.ClassFile.FieldType))
set_option maxRecDepth 100000 in
theorem kX3_keep : MOK mX3_keep := ⟨lw_in (i := 752) (by rfl) rfl, lw_in (i := 100) (by decide +kernel) rfl, by decide +kernel, by decide +kernel, by decide +kernel⟩
theorem vX3_keep : MOV mX3_keep := ⟨kX3_keep, lw_in (i := 751) (by decide +kernel) rfl, lw_in (i := 16) (by decide +kernel) rfl⟩
abbrev mX3_quarrelOf : MD := (yX3_quarrelOf, cX3_quarrelOf, 5, (Option.some Jvm.ClassFile.FieldType.int))
set_option maxRecDepth 100000 in
theorem kX3_quarrelOf : MOK mX3_quarrelOf := ⟨lw_in (i := 756) (by rfl) rfl, lw_in (i := 100) (by decide +kernel) rfl, by decide +kernel, by decide +kernel, by decide +kernel⟩
theorem vX3_quarrelOf : MOV mX3_quarrelOf := ⟨kX3_quarrelOf, lw_in (i := 755) (by decide +kernel) rfl, lw_in (i := 17) (by decide +kernel) rfl⟩
abbrev mX4_init : MD := (yX4_init, cX4_init, 2, (Option.none : Option Jvm.ClassFile.FieldType))
set_option maxRecDepth 100000 in
theorem kX4_init : MOK mX4_init := ⟨lw_in (i := 281) (by rfl) rfl, lw_in (i := 102) (by decide +kernel) rfl, by decide +kernel, by decide +kernel, by decide +kernel⟩
abbrev mX4_size : MD := (yX4_size, cX4_size, 1, (Option.some Jvm.ClassFile.FieldType.int))
set_option maxRecDepth 100000 in
theorem kX4_size : MOK mX4_size := ⟨lw_in (i := 1198) (by rfl) rfl, lw_in (i := 102) (by decide +kernel) rfl, by decide +kernel, by decide +kernel, by decide +kernel⟩
theorem vX4_size : MOV mX4_size := ⟨kX4_size, lw_in (i := 1196) (by decide +kernel) rfl, lw_in (i := 1197) (by decide +kernel) rfl⟩
abbrev mX4_areSounds : MD := (yX4_areSounds, cX4_areSounds, 3, (Option.some Jvm.ClassFile.FieldType.boolean))
set_option maxRecDepth 100000 in
theorem kX4_areSounds : MOK mX4_areSounds := ⟨lw_in (i := 819) (by rfl) rfl, lw_in (i := 102) (by decide +kernel) rfl, by decide +kernel, by decide +kernel, by decide +kernel⟩
theorem vX4_areSounds : MOS mX4_areSounds := ⟨kX4_areSounds, lw_in (i := 818) (by decide +kernel) rfl⟩
abbrev mX4_add : MD := (yX4_add, cX4_add, 4, (Option.some Jvm.ClassFile.FieldType.int))
set_option maxRecDepth 100000 in
theorem kX4_add : MOK mX4_add := ⟨lw_in (i := 816) (by rfl) rfl, lw_in (i := 102) (by decide +kernel) rfl, by decide +kernel, by decide +kernel, by decide +kernel⟩
theorem vX4_add : MOV mX4_add := ⟨kX4_add, lw_in (i := 814) (by decide +kernel) rfl, lw_in (i := 815) (by decide +kernel) rfl⟩
abbrev mX4_isName : MD := (yX4_isName, cX4_isName, 2, (Option.some Jvm.ClassFile.FieldType.boolean))
set_option maxRecDepth 100000 in
theorem kX4_isName : MOK mX4_isName := ⟨lw_in (i := 831) (by rfl) rfl, lw_in (i := 102) (by decide +kernel) rfl, by decide +kernel, by decide +kernel, by decide +kernel⟩
theorem vX4_isName : MOV mX4_isName := ⟨kX4_isName, lw_in (i := 830) (by decide +kernel) rfl, lw_in (i := 22) (by decide +kernel) rfl⟩
abbrev mX4_drag : MD := (yX4_drag, cX4_drag, 8, (Option.some Jvm.ClassFile.FieldType.int))
set_option maxRecDepth 100000 in
theorem kX4_drag : MOK mX4_drag := ⟨lw_in (i := 827) (by rfl) rfl, lw_in (i := 102) (by decide +kernel) rfl, by decide +kernel, by decide +kernel, by decide +kernel⟩
theorem vX4_drag : MOV mX4_drag := ⟨kX4_drag, lw_in (i := 825) (by decide +kernel) rfl, lw_in (i := 826) (by decide +kernel) rfl⟩
abbrev mX4_pairs : MD := (yX4_pairs, cX4_pairs, 8, (Option.some Jvm.ClassFile.FieldType.int))
set_option maxRecDepth 100000 in
theorem kX4_pairs : MOK mX4_pairs := ⟨lw_in (i := 850) (by rfl) rfl, lw_in (i := 102) (by decide +kernel) rfl, by decide +kernel, by decide +kernel, by decide +kernel⟩
theorem vX4_pairs : MOV mX4_pairs := ⟨kX4_pairs, lw_in (i := 848) (by decide +kernel) rfl, lw_in (i := 849) (by decide +kernel) rfl⟩
abbrev mX4_fits : MD := (yX4_fits, cX4_fits, 5, (Option.some Jvm.ClassFile.FieldType.boolean))
set_option maxRecDepth 100000 in
theorem kX4_fits : MOK mX4_fits := ⟨lw_in (i := 837) (by rfl) rfl, lw_in (i := 102) (by decide +kernel) rfl, by decide +kernel, by decide +kernel, by decide +kernel⟩
theorem vX4_fits : MOV mX4_fits := ⟨kX4_fits, lw_in (i := 836) (by decide +kernel) rfl, lw_in (i := 23) (by decide +kernel) rfl⟩
abbrev mX4_agree : MD := (yX4_agree, cX4_agree, 11, (Option.some Jvm.ClassFile.FieldType.boolean))
set_option maxRecDepth 100000 in
theorem kX4_agree : MOK mX4_agree := ⟨lw_in (i := 842) (by rfl) rfl, lw_in (i := 102) (by decide +kernel) rfl, by decide +kernel, by decide +kernel, by decide +kernel⟩
theorem vX4_agree : MOV mX4_agree := ⟨kX4_agree, lw_in (i := 841) (by decide +kernel) rfl, lw_in (i := 24) (by decide +kernel) rfl⟩
abbrev mX5_init : MD := (yX5_init, cX5_init, 1, (Option.none : Option Jvm.ClassFile.FieldType))
set_option maxRecDepth 100000 in
theorem kX5_init : MOK mX5_init := ⟨lw_in (i := 398) (by rfl) rfl, lw_in (i := 105) (by decide +kernel) rfl, by decide +kernel, by decide +kernel, by decide +kernel⟩
abbrev mX5_isSheet : MD := (yX5_isSheet, cX5_isSheet, 1, (Option.some Jvm.ClassFile.FieldType.boolean))
set_option maxRecDepth 100000 in
theorem kX5_isSheet : MOK mX5_isSheet := ⟨lw_in (i := 513) (by rfl) rfl, lw_in (i := 105) (by decide +kernel) rfl, by decide +kernel, by decide +kernel, by decide +kernel⟩
theorem vX5_isSheet : MOS mX5_isSheet := ⟨kX5_isSheet, lw_in (i := 512) (by decide +kernel) rfl⟩
abbrev mX5_isLane : MD := (yX5_isLane, cX5_isLane, 1, (Option.some Jvm.ClassFile.FieldType.boolean))
set_option maxRecDepth 100000 in
theorem kX5_isLane : MOK mX5_isLane := ⟨lw_in (i := 516) (by rfl) rfl, lw_in (i := 105) (by decide +kernel) rfl, by decide +kernel, by decide +kernel, by decide +kernel⟩
theorem vX5_isLane : MOS mX5_isLane := ⟨kX5_isLane, lw_in (i := 515) (by decide +kernel) rfl⟩
abbrev mX5_lengthOf : MD := (yX5_lengthOf, cX5_lengthOf, 2, (Option.some Jvm.ClassFile.FieldType.int))
set_option maxRecDepth 100000 in
theorem kX5_lengthOf : MOK mX5_lengthOf := ⟨lw_in (i := 524) (by rfl) rfl, lw_in (i := 105) (by decide +kernel) rfl, by decide +kernel, by decide +kernel, by decide +kernel⟩
theorem vX5_lengthOf : MOV mX5_lengthOf := ⟨kX5_lengthOf, lw_in (i := 522) (by decide +kernel) rfl, lw_in (i := 523) (by decide +kernel) rfl⟩
abbrev mX5_renew : MD := (yX5_renew, cX5_renew, 5, (Option.some Jvm.ClassFile.FieldType.int))
set_option maxRecDepth 100000 in
theorem kX5_renew : MOK mX5_renew := ⟨lw_in (i := 1168) (by rfl) rfl, lw_in (i := 105) (by decide +kernel) rfl, by decide +kernel, by decide +kernel, by decide +kernel⟩
theorem vX5_renew : MOV mX5_renew := ⟨kX5_renew, lw_in (i := 1166) (by decide +kernel) rfl, lw_in (i := 1167) (by decide +kernel) rfl⟩
abbrev mX5_put : MD := (yX5_put, cX5_put, 4, (Option.some Jvm.ClassFile.FieldType.int))
set_option maxRecDepth 100000 in
theorem kX5_put : MOK mX5_put := ⟨lw_in (i := 1177) (by rfl) rfl, lw_in (i := 105) (by decide +kernel) rfl, by decide +kernel, by decide +kernel, by decide +kernel⟩
theorem vX5_put : MOV mX5_put := ⟨kX5_put, lw_in (i := 1175) (by decide +kernel) rfl, lw_in (i := 1176) (by decide +kernel) rfl⟩
abbrev mX5_lowestBits : MD := (yX5_lowestBits, cX5_lowestBits, 2, (Option.some Jvm.ClassFile.FieldType.int))
set_option maxRecDepth 100000 in
theorem kX5_lowestBits : MOK mX5_lowestBits := ⟨lw_in (i := 1180) (by rfl) rfl, lw_in (i := 105) (by decide +kernel) rfl, by decide +kernel, by decide +kernel, by decide +kernel⟩
theorem vX5_lowestBits : MOS mX5_lowestBits := ⟨kX5_lowestBits, lw_in (i := 1179) (by decide +kernel) rfl⟩
abbrev mX5_faultAs : MD := (yX5_faultAs, cX5_faultAs, 3, (Option.some Jvm.ClassFile.FieldType.int))
set_option maxRecDepth 100000 in
theorem kX5_faultAs : MOK mX5_faultAs := ⟨lw_in (i := 520) (by rfl) rfl, lw_in (i := 105) (by decide +kernel) rfl, by decide +kernel, by decide +kernel, by decide +kernel⟩
theorem vX5_faultAs : MOV mX5_faultAs := ⟨kX5_faultAs, lw_in (i := 518) (by decide +kernel) rfl, lw_in (i := 519) (by decide +kernel) rfl⟩
abbrev mX5_hasCell : MD := (yX5_hasCell, cX5_hasCell, 3, (Option.some Jvm.ClassFile.FieldType.boolean))
set_option maxRecDepth 100000 in
theorem kX5_hasCell : MOK mX5_hasCell := ⟨lw_in (i := 529) (by rfl) rfl, lw_in (i := 105) (by decide +kernel) rfl, by decide +kernel, by decide +kernel, by decide +kernel⟩
theorem vX5_hasCell : MOV mX5_hasCell := ⟨kX5_hasCell, lw_in (i := 527) (by decide +kernel) rfl, lw_in (i := 528) (by decide +kernel) rfl⟩
abbrev mX5_cellOf : MD := (yX5_cellOf, cX5_cellOf, 3, (Option.some Jvm.ClassFile.FieldType.int))
set_option maxRecDepth 100000 in
theorem kX5_cellOf : MOK mX5_cellOf := ⟨lw_in (i := 533) (by rfl) rfl, lw_in (i := 105) (by decide +kernel) rfl, by decide +kernel, by decide +kernel, by decide +kernel⟩
theorem vX5_cellOf : MOV mX5_cellOf := ⟨kX5_cellOf, lw_in (i := 531) (by decide +kernel) rfl, lw_in (i := 532) (by decide +kernel) rfl⟩
abbrev mX6_init : MD := (yX6_init, cX6_init, 1, (Option.none : Option Jvm.ClassFile.FieldType))
set_option maxRecDepth 100000 in
theorem kX6_init : MOK mX6_init := ⟨lw_in (i := 191) (by rfl) rfl, lw_in (i := 99) (by decide +kernel) rfl, by decide +kernel, by decide +kernel, by decide +kernel⟩
abbrev mX6_length : MD := (yX6_length, cX6_length, 1, (Option.some Jvm.ClassFile.FieldType.int))
set_option maxRecDepth 100000 in
theorem kX6_length : MOK mX6_length := ⟨lw_in (i := 1218) (by rfl) rfl, lw_in (i := 99) (by decide +kernel) rfl, by decide +kernel, by decide +kernel, by decide +kernel⟩
theorem vX6_length : MOV mX6_length := ⟨kX6_length, lw_in (i := 1216) (by decide +kernel) rfl, lw_in (i := 1217) (by decide +kernel) rfl⟩
abbrev mX6_append : MD := (yX6_append, cX6_append, 4, (Option.some Jvm.ClassFile.FieldType.int))
set_option maxRecDepth 100000 in
theorem kX6_append : MOK mX6_append := ⟨lw_in (i := 974) (by rfl) rfl, lw_in (i := 99) (by decide +kernel) rfl, by decide +kernel, by decide +kernel, by decide +kernel⟩
theorem vX6_append : MOV mX6_append := ⟨kX6_append, lw_in (i := 972) (by decide +kernel) rfl, lw_in (i := 973) (by decide +kernel) rfl⟩
abbrev mX6_cut : MD := (yX6_cut, cX6_cut, 3, (Option.some Jvm.ClassFile.FieldType.int))
set_option maxRecDepth 100000 in
theorem kX6_cut : MOK mX6_cut := ⟨lw_in (i := 982) (by rfl) rfl, lw_in (i := 99) (by decide +kernel) rfl, by decide +kernel, by decide +kernel, by decide +kernel⟩
theorem vX6_cut : MOV mX6_cut := ⟨kX6_cut, lw_in (i := 980) (by decide +kernel) rfl, lw_in (i := 981) (by decide +kernel) rfl⟩
abbrev mX6_rewind : MD := (yX6_rewind, cX6_rewind, 1, (Option.none : Option Jvm.ClassFile.FieldType))
set_option maxRecDepth 100000 in
theorem kX6_rewind : MOK mX6_rewind := ⟨lw_in (i := 994) (by rfl) rfl, lw_in (i := 99) (by decide +kernel) rfl, by decide +kernel, by decide +kernel, by decide +kernel⟩
theorem vX6_rewind : MOV mX6_rewind := ⟨kX6_rewind, lw_in (i := 992) (by decide +kernel) rfl, lw_in (i := 993) (by decide +kernel) rfl⟩
abbrev mX6_start : MD := (yX6_start, cX6_start, 1, (Option.some Jvm.ClassFile.FieldType.int))
set_option maxRecDepth 100000 in
theorem kX6_start : MOK mX6_start := ⟨lw_in (i := 1107) (by rfl) rfl, lw_in (i := 99) (by decide +kernel) rfl, by decide +kernel, by decide +kernel, by decide +kernel⟩
theorem vX6_start : MOV mX6_start := ⟨kX6_start, lw_in (i := 1105) (by decide +kernel) rfl, lw_in (i := 1106) (by decide +kernel) rfl⟩
abbrev mX6_value : MD := (yX6_value, cX6_value, 1, (Option.some Jvm.ClassFile.FieldType.int))
set_option maxRecDepth 100000 in
theorem kX6_value : MOK mX6_value := ⟨lw_in (i := 1077) (by rfl) rfl, lw_in (i := 99) (by decide +kernel) rfl, by decide +kernel, by decide +kernel, by decide +kernel⟩
theorem vX6_value : MOV mX6_value := ⟨kX6_value, lw_in (i := 1075) (by decide +kernel) rfl, lw_in (i := 1076) (by decide +kernel) rfl⟩
abbrev mX6_nextToken : MD := (yX6_nextToken, cX6_nextToken, 2, (Option.some Jvm.ClassFile.FieldType.int))
set_option maxRecDepth 100000 in
theorem kX6_nextToken : MOK mX6_nextToken := ⟨lw_in (i := 998) (by rfl) rfl, lw_in (i := 99) (by decide +kernel) rfl, by decide +kernel, by decide +kernel, by decide +kernel⟩
theorem vX6_nextToken : MOV mX6_nextToken := ⟨kX6_nextToken, lw_in (i := 996) (by decide +kernel) rfl, lw_in (i := 997) (by decide +kernel) rfl⟩
abbrev mX6_isLetter : MD := (yX6_isLetter, cX6_isLetter, 1, (Option.some Jvm.ClassFile.FieldType.boolean))
set_option maxRecDepth 100000 in
theorem kX6_isLetter : MOK mX6_isLetter := ⟨lw_in (i := 1001) (by rfl) rfl, lw_in (i := 99) (by decide +kernel) rfl, by decide +kernel, by decide +kernel, by decide +kernel⟩
theorem vX6_isLetter : MOS mX6_isLetter := ⟨kX6_isLetter, lw_in (i := 1000) (by decide +kernel) rfl⟩
abbrev mX6_isFigure : MD := (yX6_isFigure, cX6_isFigure, 1, (Option.some Jvm.ClassFile.FieldType.boolean))
set_option maxRecDepth 100000 in
theorem kX6_isFigure : MOK mX6_isFigure := ⟨lw_in (i := 1069) (by rfl) rfl, lw_in (i := 99) (by decide +kernel) rfl, by decide +kernel, by decide +kernel, by decide +kernel⟩
theorem vX6_isFigure : MOS mX6_isFigure := ⟨kX6_isFigure, lw_in (i := 1068) (by decide +kernel) rfl⟩
abbrev mX6_takeName : MD := (yX6_takeName, cX6_takeName, 2, (Option.some Jvm.ClassFile.FieldType.int))
set_option maxRecDepth 100000 in
theorem kX6_takeName : MOK mX6_takeName := ⟨lw_in (i := 1005) (by rfl) rfl, lw_in (i := 99) (by decide +kernel) rfl, by decide +kernel, by decide +kernel, by decide +kernel⟩
theorem vX6_takeName : MOV mX6_takeName := ⟨kX6_takeName, lw_in (i := 1004) (by decide +kernel) rfl, lw_in (i := 40) (by decide +kernel) rfl⟩
abbrev mX6_kindName : MD := (yX6_kindName, cX6_kindName, 1, (Option.some (Jvm.ClassFile.FieldType.object "java/lang/String")))
set_option maxRecDepth 100000 in
theorem kX6_kindName : MOK mX6_kindName := ⟨lw_in (i := 1061) (by rfl) rfl, lw_in (i := 99) (by decide +kernel) rfl, by decide +kernel, by decide +kernel, by decide +kernel⟩
theorem vX6_kindName : MOS mX6_kindName := ⟨kX6_kindName, lw_in (i := 1060) (by decide +kernel) rfl⟩
abbrev mX6_reads : MD := (yX6_reads, cX6_reads, 3, (Option.some Jvm.ClassFile.FieldType.boolean))
set_option maxRecDepth 100000 in
theorem kX6_reads : MOK mX6_reads := ⟨lw_in (i := 1010) (by rfl) rfl, lw_in (i := 99) (by decide +kernel) rfl, by decide +kernel, by decide +kernel, by decide +kernel⟩
theorem vX6_reads : MOV mX6_reads := ⟨kX6_reads, lw_in (i := 1009) (by decide +kernel) rfl, lw_in (i := 41) (by decide +kernel) rfl⟩
abbrev mX6_takeNumber : MD := (yX6_takeNumber, cX6_takeNumber, 1, (Option.some Jvm.ClassFile.FieldType.int))
set_option maxRecDepth 100000 in
theorem kX6_takeNumber : MOK mX6_takeNumber := ⟨lw_in (i := 1073) (by rfl) rfl, lw_in (i := 99) (by decide +kernel) rfl, by decide +kernel, by decide +kernel, by decide +kernel⟩
theorem vX6_takeNumber : MOV mX6_takeNumber := ⟨kX6_takeNumber, lw_in (i := 1072) (by decide +kernel) rfl, lw_in (i := 42) (by decide +kernel) rfl⟩
abbrev mX7_init : MD := (yX7_init, cX7_init, 2, (Option.none : Option Jvm.ClassFile.FieldType))
set_option maxRecDepth 100000 in
theorem kX7_init : MOK mX7_init := ⟨lw_in (i := 148) (by rfl) rfl, lw_in (i := 98) (by decide +kernel) rfl, by decide +kernel, by decide +kernel, by decide +kernel⟩
abbrev mX7_size : MD := (yX7_size, cX7_size, 1, (Option.some Jvm.ClassFile.FieldType.int))
set_option maxRecDepth 100000 in
theorem kX7_size : MOK mX7_size := ⟨lw_in (i := 1189) (by rfl) rfl, lw_in (i := 98) (by decide +kernel) rfl, by decide +kernel, by decide +kernel, by decide +kernel⟩
theorem vX7_size : MOV mX7_size := ⟨kX7_size, lw_in (i := 1187) (by decide +kernel) rfl, lw_in (i := 1188) (by decide +kernel) rfl⟩
abbrev mX7_isText : MD := (yX7_isText, cX7_isText, 2, (Option.some Jvm.ClassFile.FieldType.boolean))
set_option maxRecDepth 100000 in
theorem kX7_isText : MOK mX7_isText := ⟨lw_in (i := 579) (by rfl) rfl, lw_in (i := 98) (by decide +kernel) rfl, by decide +kernel, by decide +kernel, by decide +kernel⟩
theorem vX7_isText : MOV mX7_isText := ⟨kX7_isText, lw_in (i := 577) (by decide +kernel) rfl, lw_in (i := 578) (by decide +kernel) rfl⟩
abbrev mX7_lengthOf : MD := (yX7_lengthOf, cX7_lengthOf, 2, (Option.some Jvm.ClassFile.FieldType.int))
set_option maxRecDepth 100000 in
theorem kX7_lengthOf : MOK mX7_lengthOf := ⟨lw_in (i := 587) (by rfl) rfl, lw_in (i := 98) (by decide +kernel) rfl, by decide +kernel, by decide +kernel, by decide +kernel⟩
theorem vX7_lengthOf : MOV mX7_lengthOf := ⟨kX7_lengthOf, lw_in (i := 585) (by decide +kernel) rfl, lw_in (i := 586) (by decide +kernel) rfl⟩
abbrev mX7_areTexts : MD := (yX7_areTexts, cX7_areTexts, 2, (Option.some Jvm.ClassFile.FieldType.boolean))
set_option maxRecDepth 100000 in
theorem kX7_areTexts : MOK mX7_areTexts := ⟨lw_in (i := 895) (by rfl) rfl, lw_in (i := 98) (by decide +kernel) rfl, by decide +kernel, by decide +kernel, by decide +kernel⟩
theorem vX7_areTexts : MOV mX7_areTexts := ⟨kX7_areTexts, lw_in (i := 893) (by decide +kernel) rfl, lw_in (i := 894) (by decide +kernel) rfl⟩
abbrev mX7_draftCell : MD := (yX7_draftCell, cX7_draftCell, 3, (Option.some Jvm.ClassFile.FieldType.boolean))
set_option maxRecDepth 100000 in
theorem kX7_draftCell : MOK mX7_draftCell := ⟨lw_in (i := 538) (by rfl) rfl, lw_in (i := 98) (by decide +kernel) rfl, by decide +kernel, by decide +kernel, by decide +kernel⟩
theorem vX7_draftCell : MOV mX7_draftCell := ⟨kX7_draftCell, lw_in (i := 536) (by decide +kernel) rfl, lw_in (i := 537) (by decide +kernel) rfl⟩
abbrev mX7_addDraft : MD := (yX7_addDraft, cX7_addDraft, 3, (Option.some Jvm.ClassFile.FieldType.int))
set_option maxRecDepth 100000 in
theorem kX7_addDraft : MOK mX7_addDraft := ⟨lw_in (i := 546) (by rfl) rfl, lw_in (i := 98) (by decide +kernel) rfl, by decide +kernel, by decide +kernel, by decide +kernel⟩
theorem vX7_addDraft : MOV mX7_addDraft := ⟨kX7_addDraft, lw_in (i := 544) (by decide +kernel) rfl, lw_in (i := 545) (by decide +kernel) rfl⟩
abbrev mX7_dropLatest : MD := (yX7_dropLatest, cX7_dropLatest, 3, (Option.some Jvm.ClassFile.FieldType.int))
set_option maxRecDepth 100000 in
theorem kX7_dropLatest : MOK mX7_dropLatest := ⟨lw_in (i := 567) (by rfl) rfl, lw_in (i := 98) (by decide +kernel) rfl, by decide +kernel, by decide +kernel, by decide +kernel⟩
theorem vX7_dropLatest : MOV mX7_dropLatest := ⟨kX7_dropLatest, lw_in (i := 565) (by decide +kernel) rfl, lw_in (i := 566) (by decide +kernel) rfl⟩
abbrev mX7_signAt : MD := (yX7_signAt, cX7_signAt, 4, (Option.some Jvm.ClassFile.FieldType.int))
set_option maxRecDepth 100000 in
theorem kX7_signAt : MOK mX7_signAt := ⟨lw_in (i := 554) (by rfl) rfl, lw_in (i := 98) (by decide +kernel) rfl, by decide +kernel, by decide +kernel, by decide +kernel⟩
theorem vX7_signAt : MOV mX7_signAt := ⟨kX7_signAt, lw_in (i := 552) (by decide +kernel) rfl, lw_in (i := 553) (by decide +kernel) rfl⟩
abbrev mX7_findWords : MD := (yX7_findWords, cX7_findWords, 4, (Option.none : Option Jvm.ClassFile.FieldType))
set_option maxRecDepth 100000 in
theorem kX7_findWords : MOK mX7_findWords := ⟨lw_in (i := 550) (by rfl) rfl, lw_in (i := 98) (by decide +kernel) rfl, by decide +kernel, by decide +kernel, by decide +kernel⟩
theorem vX7_findWords : MOV mX7_findWords := ⟨kX7_findWords, lw_in (i := 549) (by decide +kernel) rfl, lw_in (i := 2) (by decide +kernel) rfl⟩
abbrev mX7_addWord : MD := (yX7_addWord, cX7_addWord, 5, (Option.none : Option Jvm.ClassFile.FieldType))
set_option maxRecDepth 100000 in
theorem kX7_addWord : MOK mX7_addWord := ⟨lw_in (i := 559) (by rfl) rfl, lw_in (i := 98) (by decide +kernel) rfl, by decide +kernel, by decide +kernel, by decide +kernel⟩
theorem vX7_addWord : MOV mX7_addWord := ⟨kX7_addWord, lw_in (i := 558) (by decide +kernel) rfl, lw_in (i := 3) (by decide +kernel) rfl⟩
abbrev mX7_words : MD := (yX7_words, cX7_words, 1, (Option.some Jvm.ClassFile.FieldType.int))
set_option maxRecDepth 100000 in
theorem kX7_words : MOK mX7_words := ⟨lw_in (i := 690) (by rfl) rfl, lw_in (i := 98) (by decide +kernel) rfl, by decide +kernel, by decide +kernel, by decide +kernel⟩
theorem vX7_words : MOV mX7_words := ⟨kX7_words, lw_in (i := 688) (by decide +kernel) rfl, lw_in (i := 689) (by decide +kernel) rfl⟩
abbrev mX7_isWord : MD := (yX7_isWord, cX7_isWord, 2, (Option.some Jvm.ClassFile.FieldType.boolean))
set_option maxRecDepth 100000 in
theorem kX7_isWord : MOK mX7_isWord := ⟨lw_in (i := 599) (by rfl) rfl, lw_in (i := 98) (by decide +kernel) rfl, by decide +kernel, by decide +kernel, by decide +kernel⟩
theorem vX7_isWord : MOV mX7_isWord := ⟨kX7_isWord, lw_in (i := 598) (by decide +kernel) rfl, lw_in (i := 6) (by decide +kernel) rfl⟩
abbrev mX7_isWhole : MD := (yX7_isWhole, cX7_isWhole, 2, (Option.some Jvm.ClassFile.FieldType.boolean))
set_option maxRecDepth 100000 in
theorem kX7_isWhole : MOK mX7_isWhole := ⟨lw_in (i := 595) (by rfl) rfl, lw_in (i := 98) (by decide +kernel) rfl, by decide +kernel, by decide +kernel, by decide +kernel⟩
theorem vX7_isWhole : MOV mX7_isWhole := ⟨kX7_isWhole, lw_in (i := 593) (by decide +kernel) rfl, lw_in (i := 594) (by decide +kernel) rfl⟩
abbrev mX7_textOfWord : MD := (yX7_textOfWord, cX7_textOfWord, 2, (Option.some Jvm.ClassFile.FieldType.int))
set_option maxRecDepth 100000 in
theorem kX7_textOfWord : MOK mX7_textOfWord := ⟨lw_in (i := 908) (by rfl) rfl, lw_in (i := 98) (by decide +kernel) rfl, by decide +kernel, by decide +kernel, by decide +kernel⟩
theorem vX7_textOfWord : MOV mX7_textOfWord := ⟨kX7_textOfWord, lw_in (i := 906) (by decide +kernel) rfl, lw_in (i := 907) (by decide +kernel) rfl⟩
abbrev mX7_lengthOfWord : MD := (yX7_lengthOfWord, cX7_lengthOfWord, 2, (Option.some Jvm.ClassFile.FieldType.int))
set_option maxRecDepth 100000 in
theorem kX7_lengthOfWord : MOK mX7_lengthOfWord := ⟨lw_in (i := 667) (by rfl) rfl, lw_in (i := 98) (by decide +kernel) rfl, by decide +kernel, by decide +kernel, by decide +kernel⟩
theorem vX7_lengthOfWord : MOV mX7_lengthOfWord := ⟨kX7_lengthOfWord, lw_in (i := 665) (by decide +kernel) rfl, lw_in (i := 666) (by decide +kernel) rfl⟩
abbrev mX7_signOfWord : MD := (yX7_signOfWord, cX7_signOfWord, 3, (Option.some Jvm.ClassFile.FieldType.int))
set_option maxRecDepth 100000 in
theorem kX7_signOfWord : MOK mX7_signOfWord := ⟨lw_in (i := 671) (by rfl) rfl, lw_in (i := 98) (by decide +kernel) rfl, by decide +kernel, by decide +kernel, by decide +kernel⟩
theorem vX7_signOfWord : MOV mX7_signOfWord := ⟨kX7_signOfWord, lw_in (i := 669) (by decide +kernel) rfl, lw_in (i := 670) (by decide +kernel) rfl⟩
abbrev mX7_lastSignOfWord : MD := (yX7_lastSignOfWord, cX7_lastSignOfWord, 2, (Option.some Jvm.ClassFile.FieldType.int))
set_option maxRecDepth 100000 in
theorem kX7_lastSignOfWord : MOK mX7_lastSignOfWord := ⟨lw_in (i := 663) (by rfl) rfl, lw_in (i := 98) (by decide +kernel) rfl, by decide +kernel, by decide +kernel, by decide +kernel⟩
theorem vX7_lastSignOfWord : MOV mX7_lastSignOfWord := ⟨kX7_lastSignOfWord, lw_in (i := 661) (by decide +kernel) rfl, lw_in (i := 662) (by decide +kernel) rfl⟩
abbrev mX7_haveOneStem : MD := (yX7_haveOneStem, cX7_haveOneStem, 5, (Option.some Jvm.ClassFile.FieldType.boolean))
set_option maxRecDepth 100000 in
theorem kX7_haveOneStem : MOK mX7_haveOneStem := ⟨lw_in (i := 700) (by rfl) rfl, lw_in (i := 98) (by decide +kernel) rfl, by decide +kernel, by decide +kernel, by decide +kernel⟩
theorem vX7_haveOneStem : MOV mX7_haveOneStem := ⟨kX7_haveOneStem, lw_in (i := 698) (by decide +kernel) rfl, lw_in (i := 699) (by decide +kernel) rfl⟩
abbrev mX7_tell : MD := (yX7_tell, cX7_tell, 3, (Option.some Jvm.ClassFile.FieldType.int))
set_option maxRecDepth 100000 in
theorem kX7_tell : MOK mX7_tell := ⟨lw_in (i := 575) (by rfl) rfl, lw_in (i := 98) (by decide +kernel) rfl, by decide +kernel, by decide +kernel, by decide +kernel⟩
theorem vX7_tell : MOV mX7_tell := ⟨kX7_tell, lw_in (i := 573) (by decide +kernel) rfl, lw_in (i := 574) (by decide +kernel) rfl⟩
abbrev mX7_cellsLike : MD := (yX7_cellsLike, cX7_cellsLike, 5, (Option.some Jvm.ClassFile.FieldType.int))
set_option maxRecDepth 100000 in
theorem kX7_cellsLike : MOK mX7_cellsLike := ⟨lw_in (i := 583) (by rfl) rfl, lw_in (i := 98) (by decide +kernel) rfl, by decide +kernel, by decide +kernel, by decide +kernel⟩
theorem vX7_cellsLike : MOV mX7_cellsLike := ⟨kX7_cellsLike, lw_in (i := 582) (by decide +kernel) rfl, lw_in (i := 4) (by decide +kernel) rfl⟩
abbrev mX7_wordsIn : MD := (yX7_wordsIn, cX7_wordsIn, 5, (Option.some Jvm.ClassFile.FieldType.int))
set_option maxRecDepth 100000 in
theorem kX7_wordsIn : MOK mX7_wordsIn := ⟨lw_in (i := 591) (by rfl) rfl, lw_in (i := 98) (by decide +kernel) rfl, by decide +kernel, by decide +kernel, by decide +kernel⟩
theorem vX7_wordsIn : MOV mX7_wordsIn := ⟨kX7_wordsIn, lw_in (i := 590) (by decide +kernel) rfl, lw_in (i := 5) (by decide +kernel) rfl⟩
abbrev mX7_longestWhole : MD := (yX7_longestWhole, cX7_longestWhole, 4, (Option.some Jvm.ClassFile.FieldType.int))
set_option maxRecDepth 100000 in
theorem kX7_longestWhole : MOK mX7_longestWhole := ⟨lw_in (i := 603) (by rfl) rfl, lw_in (i := 98) (by decide +kernel) rfl, by decide +kernel, by decide +kernel, by decide +kernel⟩
theorem vX7_longestWhole : MOV mX7_longestWhole := ⟨kX7_longestWhole, lw_in (i := 602) (by decide +kernel) rfl, lw_in (i := 7) (by decide +kernel) rfl⟩
abbrev mX7_timesOf : MD := (yX7_timesOf, cX7_timesOf, 4, (Option.some Jvm.ClassFile.FieldType.int))
set_option maxRecDepth 100000 in
theorem kX7_timesOf : MOK mX7_timesOf := ⟨lw_in (i := 617) (by rfl) rfl, lw_in (i := 98) (by decide +kernel) rfl, by decide +kernel, by decide +kernel, by decide +kernel⟩
theorem vX7_timesOf : MOV mX7_timesOf := ⟨kX7_timesOf, lw_in (i := 615) (by decide +kernel) rfl, lw_in (i := 616) (by decide +kernel) rfl⟩
abbrev mX7_timesOfAll : MD := (yX7_timesOfAll, cX7_timesOfAll, 3, (Option.some Jvm.ClassFile.FieldType.int))
set_option maxRecDepth 100000 in
theorem kX7_timesOfAll : MOK mX7_timesOfAll := ⟨lw_in (i := 638) (by rfl) rfl, lw_in (i := 98) (by decide +kernel) rfl, by decide +kernel, by decide +kernel, by decide +kernel⟩
theorem vX7_timesOfAll : MOV mX7_timesOfAll := ⟨kX7_timesOfAll, lw_in (i := 636) (by decide +kernel) rfl, lw_in (i := 637) (by decide +kernel) rfl⟩
abbrev mX7_timesBeside : MD := (yX7_timesBeside, cX7_timesBeside, 6, (Option.some Jvm.ClassFile.FieldType.int))
set_option maxRecDepth 100000 in
theorem kX7_timesBeside : MOK mX7_timesBeside := ⟨lw_in (i := 625) (by rfl) rfl, lw_in (i := 98) (by decide +kernel) rfl, by decide +kernel, by decide +kernel, by decide +kernel⟩
theorem vX7_timesBeside : MOV mX7_timesBeside := ⟨kX7_timesBeside, lw_in (i := 623) (by decide +kernel) rfl, lw_in (i := 624) (by decide +kernel) rfl⟩
abbrev mX7_placesBeside : MD := (yX7_placesBeside, cX7_placesBeside, 4, (Option.some Jvm.ClassFile.FieldType.int))
set_option maxRecDepth 100000 in
theorem kX7_placesBeside : MOK mX7_placesBeside := ⟨lw_in (i := 643) (by rfl) rfl, lw_in (i := 98) (by decide +kernel) rfl, by decide +kernel, by decide +kernel, by decide +kernel⟩
theorem vX7_placesBeside : MOV mX7_placesBeside := ⟨kX7_placesBeside, lw_in (i := 642) (by decide +kernel) rfl, lw_in (i := 8) (by decide +kernel) rfl⟩
abbrev mX7_chanceAbove : MD := (yX7_chanceAbove, cX7_chanceAbove, 5, (Option.some Jvm.ClassFile.FieldType.long))
set_option maxRecDepth 100000 in
theorem kX7_chanceAbove : MOK mX7_chanceAbove := ⟨lw_in (i := 634) (by rfl) rfl, lw_in (i := 98) (by decide +kernel) rfl, by decide +kernel, by decide +kernel, by decide +kernel⟩
theorem vX7_chanceAbove : MOV mX7_chanceAbove := ⟨kX7_chanceAbove, lw_in (i := 632) (by decide +kernel) rfl, lw_in (i := 633) (by decide +kernel) rfl⟩
abbrev mX7_chanceBelow : MD := (yX7_chanceBelow, cX7_chanceBelow, 3, (Option.some Jvm.ClassFile.FieldType.long))
set_option maxRecDepth 100000 in
theorem kX7_chanceBelow : MOK mX7_chanceBelow := ⟨lw_in (i := 647) (by rfl) rfl, lw_in (i := 98) (by decide +kernel) rfl, by decide +kernel, by decide +kernel, by decide +kernel⟩
theorem vX7_chanceBelow : MOV mX7_chanceBelow := ⟨kX7_chanceBelow, lw_in (i := 645) (by decide +kernel) rfl, lw_in (i := 646) (by decide +kernel) rfl⟩
abbrev mX7_greatestShared : MD := (yX7_greatestShared, cX7_greatestShared, 7, (Option.some Jvm.ClassFile.FieldType.long))
set_option maxRecDepth 100000 in
theorem kX7_greatestShared : MOK mX7_greatestShared := ⟨lw_in (i := 651) (by rfl) rfl, lw_in (i := 98) (by decide +kernel) rfl, by decide +kernel, by decide +kernel, by decide +kernel⟩
theorem vX7_greatestShared : MOS mX7_greatestShared := ⟨kX7_greatestShared, lw_in (i := 650) (by decide +kernel) rfl⟩
abbrev mX7_likeEdges : MD := (yX7_likeEdges, cX7_likeEdges, 4, (Option.some Jvm.ClassFile.FieldType.int))
set_option maxRecDepth 100000 in
theorem kX7_likeEdges : MOK mX7_likeEdges := ⟨lw_in (i := 659) (by rfl) rfl, lw_in (i := 98) (by decide +kernel) rfl, by decide +kernel, by decide +kernel, by decide +kernel⟩
theorem vX7_likeEdges : MOV mX7_likeEdges := ⟨kX7_likeEdges, lw_in (i := 657) (by decide +kernel) rfl, lw_in (i := 658) (by decide +kernel) rfl⟩
abbrev mX8_init : MD := (yX8_init, cX8_init, 2, (Option.none : Option Jvm.ClassFile.FieldType))
set_option maxRecDepth 100000 in
theorem kX8_init : MOK mX8_init := ⟨lw_in (i := 301) (by rfl) rfl, lw_in (i := 103) (by decide +kernel) rfl, by decide +kernel, by decide +kernel, by decide +kernel⟩
abbrev mX8_size : MD := (yX8_size, cX8_size, 1, (Option.some Jvm.ClassFile.FieldType.int))
set_option maxRecDepth 100000 in
theorem kX8_size : MOK mX8_size := ⟨lw_in (i := 1202) (by rfl) rfl, lw_in (i := 103) (by decide +kernel) rfl, by decide +kernel, by decide +kernel, by decide +kernel⟩
theorem vX8_size : MOV mX8_size := ⟨kX8_size, lw_in (i := 1200) (by decide +kernel) rfl, lw_in (i := 1201) (by decide +kernel) rfl⟩
abbrev mX8_add : MD := (yX8_add, cX8_add, 4, (Option.some Jvm.ClassFile.FieldType.int))
set_option maxRecDepth 100000 in
theorem kX8_add : MOK mX8_add := ⟨lw_in (i := 858) (by rfl) rfl, lw_in (i := 103) (by decide +kernel) rfl, by decide +kernel, by decide +kernel, by decide +kernel⟩
theorem vX8_add : MOV mX8_add := ⟨kX8_add, lw_in (i := 856) (by decide +kernel) rfl, lw_in (i := 857) (by decide +kernel) rfl⟩
abbrev mX8_keyOf : MD := (yX8_keyOf, cX8_keyOf, 2, (Option.some Jvm.ClassFile.FieldType.int))
set_option maxRecDepth 100000 in
theorem kX8_keyOf : MOK mX8_keyOf := ⟨lw_in (i := 862) (by rfl) rfl, lw_in (i := 103) (by decide +kernel) rfl, by decide +kernel, by decide +kernel, by decide +kernel⟩
theorem vX8_keyOf : MOS mX8_keyOf := ⟨kX8_keyOf, lw_in (i := 861) (by decide +kernel) rfl⟩
abbrev mX8_isWord : MD := (yX8_isWord, cX8_isWord, 2, (Option.some Jvm.ClassFile.FieldType.boolean))
set_option maxRecDepth 100000 in
theorem kX8_isWord : MOK mX8_isWord := ⟨lw_in (i := 866) (by rfl) rfl, lw_in (i := 103) (by decide +kernel) rfl, by decide +kernel, by decide +kernel, by decide +kernel⟩
theorem vX8_isWord : MOV mX8_isWord := ⟨kX8_isWord, lw_in (i := 865) (by decide +kernel) rfl, lw_in (i := 25) (by decide +kernel) rfl⟩
abbrev mX8_signAt : MD := (yX8_signAt, cX8_signAt, 2, (Option.some Jvm.ClassFile.FieldType.int))
set_option maxRecDepth 100000 in
theorem kX8_signAt : MOK mX8_signAt := ⟨lw_in (i := 874) (by rfl) rfl, lw_in (i := 103) (by decide +kernel) rfl, by decide +kernel, by decide +kernel, by decide +kernel⟩
theorem vX8_signAt : MOV mX8_signAt := ⟨kX8_signAt, lw_in (i := 872) (by decide +kernel) rfl, lw_in (i := 873) (by decide +kernel) rfl⟩
abbrev mX8_readWith : MD := (yX8_readWith, cX8_readWith, 3, (Option.some Jvm.ClassFile.FieldType.int))
set_option maxRecDepth 100000 in
theorem kX8_readWith : MOK mX8_readWith := ⟨lw_in (i := 891) (by rfl) rfl, lw_in (i := 103) (by decide +kernel) rfl, by decide +kernel, by decide +kernel, by decide +kernel⟩
theorem vX8_readWith : MOV mX8_readWith := ⟨kX8_readWith, lw_in (i := 889) (by decide +kernel) rfl, lw_in (i := 890) (by decide +kernel) rfl⟩
abbrev mX8_tellBest : MD := (yX8_tellBest, cX8_tellBest, 3, (Option.some Jvm.ClassFile.FieldType.int))
set_option maxRecDepth 100000 in
theorem kX8_tellBest : MOK mX8_tellBest := ⟨lw_in (i := 934) (by rfl) rfl, lw_in (i := 103) (by decide +kernel) rfl, by decide +kernel, by decide +kernel, by decide +kernel⟩
theorem vX8_tellBest : MOV mX8_tellBest := ⟨kX8_tellBest, lw_in (i := 932) (by decide +kernel) rfl, lw_in (i := 933) (by decide +kernel) rfl⟩
abbrev mX8_holdAgainst : MD := (yX8_holdAgainst, cX8_holdAgainst, 5, (Option.some Jvm.ClassFile.FieldType.int))
set_option maxRecDepth 100000 in
theorem kX8_holdAgainst : MOK mX8_holdAgainst := ⟨lw_in (i := 954) (by rfl) rfl, lw_in (i := 103) (by decide +kernel) rfl, by decide +kernel, by decide +kernel, by decide +kernel⟩
theorem vX8_holdAgainst : MOV mX8_holdAgainst := ⟨kX8_holdAgainst, lw_in (i := 952) (by decide +kernel) rfl, lw_in (i := 953) (by decide +kernel) rfl⟩
abbrev mX8_tables : MD := (yX8_tables, cX8_tables, 1, (Option.some Jvm.ClassFile.FieldType.int))
set_option maxRecDepth 100000 in
theorem kX8_tables : MOK mX8_tables := ⟨lw_in (i := 899) (by rfl) rfl, lw_in (i := 103) (by decide +kernel) rfl, by decide +kernel, by decide +kernel, by decide +kernel⟩
theorem vX8_tables : MOV mX8_tables := ⟨kX8_tables, lw_in (i := 898) (by decide +kernel) rfl, lw_in (i := 28) (by decide +kernel) rfl⟩
abbrev mX8_rank : MD := (yX8_rank, cX8_rank, 3, (Option.none : Option Jvm.ClassFile.FieldType))
set_option maxRecDepth 100000 in
theorem kX8_rank : MOK mX8_rank := ⟨lw_in (i := 878) (by rfl) rfl, lw_in (i := 103) (by decide +kernel) rfl, by decide +kernel, by decide +kernel, by decide +kernel⟩
theorem vX8_rank : MOV mX8_rank := ⟨kX8_rank, lw_in (i := 877) (by decide +kernel) rfl, lw_in (i := 26) (by decide +kernel) rfl⟩
abbrev mX8_mostFrequentLeft : MD := (yX8_mostFrequentLeft, cX8_mostFrequentLeft, 4, (Option.some Jvm.ClassFile.FieldType.int))
set_option maxRecDepth 100000 in
theorem kX8_mostFrequentLeft : MOK mX8_mostFrequentLeft := ⟨lw_in (i := 883) (by rfl) rfl, lw_in (i := 103) (by decide +kernel) rfl, by decide +kernel, by decide +kernel, by decide +kernel⟩
theorem vX8_mostFrequentLeft : MOV mX8_mostFrequentLeft := ⟨kX8_mostFrequentLeft, lw_in (i := 882) (by decide +kernel) rfl, lw_in (i := 27) (by decide +kernel) rfl⟩
abbrev mX8_collect : MD := (yX8_collect, cX8_collect, 3, (Option.none : Option Jvm.ClassFile.FieldType))
set_option maxRecDepth 100000 in
theorem kX8_collect : MOK mX8_collect := ⟨lw_in (i := 903) (by rfl) rfl, lw_in (i := 103) (by decide +kernel) rfl, by decide +kernel, by decide +kernel, by decide +kernel⟩
theorem vX8_collect : MOV mX8_collect := ⟨kX8_collect, lw_in (i := 902) (by decide +kernel) rfl, lw_in (i := 29) (by decide +kernel) rfl⟩
abbrev mX8_collectWord : MD := (yX8_collectWord, cX8_collectWord, 5, (Option.none : Option Jvm.ClassFile.FieldType))
set_option maxRecDepth 100000 in
theorem kX8_collectWord : MOK mX8_collectWord := ⟨lw_in (i := 912) (by rfl) rfl, lw_in (i := 103) (by decide +kernel) rfl, by decide +kernel, by decide +kernel, by decide +kernel⟩
theorem vX8_collectWord : MOV mX8_collectWord := ⟨kX8_collectWord, lw_in (i := 911) (by decide +kernel) rfl, lw_in (i := 30) (by decide +kernel) rfl⟩
abbrev mX8_placeOf : MD := (yX8_placeOf, cX8_placeOf, 2, (Option.some Jvm.ClassFile.FieldType.int))
set_option maxRecDepth 100000 in
theorem kX8_placeOf : MOK mX8_placeOf := ⟨lw_in (i := 918) (by rfl) rfl, lw_in (i := 103) (by decide +kernel) rfl, by decide +kernel, by decide +kernel, by decide +kernel⟩
theorem vX8_placeOf : MOV mX8_placeOf := ⟨kX8_placeOf, lw_in (i := 917) (by decide +kernel) rfl, lw_in (i := 31) (by decide +kernel) rfl⟩
abbrev mX8_spread : MD := (yX8_spread, cX8_spread, 3, (Option.none : Option Jvm.ClassFile.FieldType))
set_option maxRecDepth 100000 in
theorem kX8_spread : MOK mX8_spread := ⟨lw_in (i := 922) (by rfl) rfl, lw_in (i := 103) (by decide +kernel) rfl, by decide +kernel, by decide +kernel, by decide +kernel⟩
theorem vX8_spread : MOV mX8_spread := ⟨kX8_spread, lw_in (i := 921) (by decide +kernel) rfl, lw_in (i := 32) (by decide +kernel) rfl⟩
abbrev mX8_readNow : MD := (yX8_readNow, cX8_readNow, 5, (Option.some Jvm.ClassFile.FieldType.int))
set_option maxRecDepth 100000 in
theorem kX8_readNow : MOK mX8_readNow := ⟨lw_in (i := 926) (by rfl) rfl, lw_in (i := 103) (by decide +kernel) rfl, by decide +kernel, by decide +kernel, by decide +kernel⟩
theorem vX8_readNow : MOV mX8_readNow := ⟨kX8_readNow, lw_in (i := 925) (by decide +kernel) rfl, lw_in (i := 33) (by decide +kernel) rfl⟩
abbrev mX8_searchBest : MD := (yX8_searchBest, cX8_searchBest, 3, (Option.none : Option Jvm.ClassFile.FieldType))
set_option maxRecDepth 100000 in
theorem kX8_searchBest : MOK mX8_searchBest := ⟨lw_in (i := 938) (by rfl) rfl, lw_in (i := 103) (by decide +kernel) rfl, by decide +kernel, by decide +kernel, by decide +kernel⟩
theorem vX8_searchBest : MOV mX8_searchBest := ⟨kX8_searchBest, lw_in (i := 937) (by decide +kernel) rfl, lw_in (i := 34) (by decide +kernel) rfl⟩
abbrev mX8_weigh : MD := (yX8_weigh, cX8_weigh, 3, (Option.none : Option Jvm.ClassFile.FieldType))
set_option maxRecDepth 100000 in
theorem kX8_weigh : MOK mX8_weigh := ⟨lw_in (i := 942) (by rfl) rfl, lw_in (i := 103) (by decide +kernel) rfl, by decide +kernel, by decide +kernel, by decide +kernel⟩
theorem vX8_weigh : MOV mX8_weigh := ⟨kX8_weigh, lw_in (i := 941) (by decide +kernel) rfl, lw_in (i := 35) (by decide +kernel) rfl⟩
abbrev mX8_packBest : MD := (yX8_packBest, cX8_packBest, 3, (Option.some Jvm.ClassFile.FieldType.int))
set_option maxRecDepth 100000 in
theorem kX8_packBest : MOK mX8_packBest := ⟨lw_in (i := 946) (by rfl) rfl, lw_in (i := 103) (by decide +kernel) rfl, by decide +kernel, by decide +kernel, by decide +kernel⟩
theorem vX8_packBest : MOV mX8_packBest := ⟨kX8_packBest, lw_in (i := 945) (by decide +kernel) rfl, lw_in (i := 36) (by decide +kernel) rfl⟩
abbrev mX8_tellShuffles : MD := (yX8_tellShuffles, cX8_tellShuffles, 7, (Option.some Jvm.ClassFile.FieldType.int))
set_option maxRecDepth 100000 in
theorem kX8_tellShuffles : MOK mX8_tellShuffles := ⟨lw_in (i := 958) (by rfl) rfl, lw_in (i := 103) (by decide +kernel) rfl, by decide +kernel, by decide +kernel, by decide +kernel⟩
theorem vX8_tellShuffles : MOV mX8_tellShuffles := ⟨kX8_tellShuffles, lw_in (i := 957) (by decide +kernel) rfl, lw_in (i := 37) (by decide +kernel) rfl⟩
abbrev mX8_nextOrder : MD := (yX8_nextOrder, cX8_nextOrder, 5, (Option.some Jvm.ClassFile.FieldType.boolean))
set_option maxRecDepth 100000 in
theorem kX8_nextOrder : MOK mX8_nextOrder := ⟨lw_in (i := 962) (by rfl) rfl, lw_in (i := 103) (by decide +kernel) rfl, by decide +kernel, by decide +kernel, by decide +kernel⟩
theorem vX8_nextOrder : MOV mX8_nextOrder := ⟨kX8_nextOrder, lw_in (i := 961) (by decide +kernel) rfl, lw_in (i := 38) (by decide +kernel) rfl⟩
abbrev mX8_exchange : MD := (yX8_exchange, cX8_exchange, 4, (Option.none : Option Jvm.ClassFile.FieldType))
set_option maxRecDepth 100000 in
theorem kX8_exchange : MOK mX8_exchange := ⟨lw_in (i := 966) (by rfl) rfl, lw_in (i := 103) (by decide +kernel) rfl, by decide +kernel, by decide +kernel, by decide +kernel⟩
theorem vX8_exchange : MOV mX8_exchange := ⟨kX8_exchange, lw_in (i := 965) (by decide +kernel) rfl, lw_in (i := 39) (by decide +kernel) rfl⟩
abbrev mX9_init : MD := (yX9_init, cX9_init, 4, (Option.none : Option Jvm.ClassFile.FieldType))
set_option maxRecDepth 100000 in
theorem kX9_init : MOK mX9_init := ⟨lw_in (i := 117) (by rfl) rfl, lw_in (i := 96) (by decide +kernel) rfl, by decide +kernel, by decide +kernel, by decide +kernel⟩
abbrev mX9_form : MD := (yX9_form, cX9_form, 2, (Option.some Jvm.ClassFile.FieldType.int))
set_option maxRecDepth 100000 in
theorem kX9_form : MOK mX9_form := ⟨lw_in (i := 442) (by rfl) rfl, lw_in (i := 96) (by decide +kernel) rfl, by decide +kernel, by decide +kernel, by decide +kernel⟩
theorem vX9_form : MOV mX9_form := ⟨kX9_form, lw_in (i := 440) (by decide +kernel) rfl, lw_in (i := 441) (by decide +kernel) rfl⟩
abbrev mX9_likeness : MD := (yX9_likeness, cX9_likeness, 2, (Option.some Jvm.ClassFile.FieldType.int))
set_option maxRecDepth 100000 in
theorem kX9_likeness : MOK mX9_likeness := ⟨lw_in (i := 469) (by rfl) rfl, lw_in (i := 96) (by decide +kernel) rfl, by decide +kernel, by decide +kernel, by decide +kernel⟩
theorem vX9_likeness : MOV mX9_likeness := ⟨kX9_likeness, lw_in (i := 467) (by decide +kernel) rfl, lw_in (i := 468) (by decide +kernel) rfl⟩
abbrev mX9_sign : MD := (yX9_sign, cX9_sign, 2, (Option.some Jvm.ClassFile.FieldType.int))
set_option maxRecDepth 100000 in
theorem kX9_sign : MOK mX9_sign := ⟨lw_in (i := 477) (by rfl) rfl, lw_in (i := 96) (by decide +kernel) rfl, by decide +kernel, by decide +kernel, by decide +kernel⟩
theorem vX9_sign : MOV mX9_sign := ⟨kX9_sign, lw_in (i := 475) (by decide +kernel) rfl, lw_in (i := 476) (by decide +kernel) rfl⟩
abbrev mX9_signs : MD := (yX9_signs, cX9_signs, 2, (Option.some Jvm.ClassFile.FieldType.int))
set_option maxRecDepth 100000 in
theorem kX9_signs : MOK mX9_signs := ⟨lw_in (i := 485) (by rfl) rfl, lw_in (i := 96) (by decide +kernel) rfl, by decide +kernel, by decide +kernel, by decide +kernel⟩
theorem vX9_signs : MOV mX9_signs := ⟨kX9_signs, lw_in (i := 483) (by decide +kernel) rfl, lw_in (i := 484) (by decide +kernel) rfl⟩
abbrev mX9_text : MD := (yX9_text, cX9_text, 7, (Option.some Jvm.ClassFile.FieldType.int))
set_option maxRecDepth 100000 in
theorem kX9_text : MOK mX9_text := ⟨lw_in (i := 510) (by rfl) rfl, lw_in (i := 96) (by decide +kernel) rfl, by decide +kernel, by decide +kernel, by decide +kernel⟩
theorem vX9_text : MOV mX9_text := ⟨kX9_text, lw_in (i := 508) (by decide +kernel) rfl, lw_in (i := 509) (by decide +kernel) rfl⟩
abbrev mX9_drop : MD := (yX9_drop, cX9_drop, 1, (Option.some Jvm.ClassFile.FieldType.int))
set_option maxRecDepth 100000 in
theorem kX9_drop : MOK mX9_drop := ⟨lw_in (i := 563) (by rfl) rfl, lw_in (i := 96) (by decide +kernel) rfl, by decide +kernel, by decide +kernel, by decide +kernel⟩
theorem vX9_drop : MOV mX9_drop := ⟨kX9_drop, lw_in (i := 561) (by decide +kernel) rfl, lw_in (i := 562) (by decide +kernel) rfl⟩
abbrev mX9_textOf : MD := (yX9_textOf, cX9_textOf, 3, (Option.some Jvm.ClassFile.FieldType.int))
set_option maxRecDepth 100000 in
theorem kX9_textOf : MOK mX9_textOf := ⟨lw_in (i := 571) (by rfl) rfl, lw_in (i := 96) (by decide +kernel) rfl, by decide +kernel, by decide +kernel, by decide +kernel⟩
theorem vX9_textOf : MOV mX9_textOf := ⟨kX9_textOf, lw_in (i := 569) (by decide +kernel) rfl, lw_in (i := 570) (by decide +kernel) rfl⟩
abbrev mX9_counted : MD := (yX9_counted, cX9_counted, 2, (Option.some Jvm.ClassFile.FieldType.int))
set_option maxRecDepth 100000 in
theorem kX9_counted : MOK mX9_counted := ⟨lw_in (i := 608) (by rfl) rfl, lw_in (i := 96) (by decide +kernel) rfl, by decide +kernel, by decide +kernel, by decide +kernel⟩
theorem vX9_counted : MOV mX9_counted := ⟨kX9_counted, lw_in (i := 606) (by decide +kernel) rfl, lw_in (i := 607) (by decide +kernel) rfl⟩
abbrev mX9_beside : MD := (yX9_beside, cX9_beside, 3, (Option.some Jvm.ClassFile.FieldType.int))
set_option maxRecDepth 100000 in
theorem kX9_beside : MOK mX9_beside := ⟨lw_in (i := 621) (by rfl) rfl, lw_in (i := 96) (by decide +kernel) rfl, by decide +kernel, by decide +kernel, by decide +kernel⟩
theorem vX9_beside : MOV mX9_beside := ⟨kX9_beside, lw_in (i := 619) (by decide +kernel) rfl, lw_in (i := 620) (by decide +kernel) rfl⟩
abbrev mX9_chance : MD := (yX9_chance, cX9_chance, 10, (Option.some Jvm.ClassFile.FieldType.long))
set_option maxRecDepth 100000 in
theorem kX9_chance : MOK mX9_chance := ⟨lw_in (i := 629) (by rfl) rfl, lw_in (i := 96) (by decide +kernel) rfl, by decide +kernel, by decide +kernel, by decide +kernel⟩
theorem vX9_chance : MOV mX9_chance := ⟨kX9_chance, lw_in (i := 627) (by decide +kernel) rfl, lw_in (i := 628) (by decide +kernel) rfl⟩
abbrev mX9_runs : MD := (yX9_runs, cX9_runs, 2, (Option.some Jvm.ClassFile.FieldType.int))
set_option maxRecDepth 100000 in
theorem kX9_runs : MOK mX9_runs := ⟨lw_in (i := 655) (by rfl) rfl, lw_in (i := 96) (by decide +kernel) rfl, by decide +kernel, by decide +kernel, by decide +kernel⟩
theorem vX9_runs : MOV mX9_runs := ⟨kX9_runs, lw_in (i := 653) (by decide +kernel) rfl, lw_in (i := 654) (by decide +kernel) rfl⟩
abbrev mX9_akin : MD := (yX9_akin, cX9_akin, 3, (Option.some Jvm.ClassFile.FieldType.int))
set_option maxRecDepth 100000 in
theorem kX9_akin : MOK mX9_akin := ⟨lw_in (i := 678) (by rfl) rfl, lw_in (i := 96) (by decide +kernel) rfl, by decide +kernel, by decide +kernel, by decide +kernel⟩
theorem vX9_akin : MOV mX9_akin := ⟨kX9_akin, lw_in (i := 676) (by decide +kernel) rfl, lw_in (i := 677) (by decide +kernel) rfl⟩
abbrev mX9_apart : MD := (yX9_apart, cX9_apart, 4, (Option.some Jvm.ClassFile.FieldType.int))
set_option maxRecDepth 100000 in
theorem kX9_apart : MOK mX9_apart := ⟨lw_in (i := 709) (by rfl) rfl, lw_in (i := 96) (by decide +kernel) rfl, by decide +kernel, by decide +kernel, by decide +kernel⟩
theorem vX9_apart : MOV mX9_apart := ⟨kX9_apart, lw_in (i := 707) (by decide +kernel) rfl, lw_in (i := 708) (by decide +kernel) rfl⟩
abbrev mX9_grid : MD := (yX9_grid, cX9_grid, 3, (Option.some Jvm.ClassFile.FieldType.int))
set_option maxRecDepth 100000 in
theorem kX9_grid : MOK mX9_grid := ⟨lw_in (i := 718) (by rfl) rfl, lw_in (i := 96) (by decide +kernel) rfl, by decide +kernel, by decide +kernel, by decide +kernel⟩
theorem vX9_grid : MOV mX9_grid := ⟨kX9_grid, lw_in (i := 716) (by decide +kernel) rfl, lw_in (i := 717) (by decide +kernel) rfl⟩
abbrev mX9_account : MD := (yX9_account, cX9_account, 3, (Option.some Jvm.ClassFile.FieldType.int))
set_option maxRecDepth 100000 in
theorem kX9_account : MOK mX9_account := ⟨lw_in (i := 760) (by rfl) rfl, lw_in (i := 96) (by decide +kernel) rfl, by decide +kernel, by decide +kernel, by decide +kernel⟩
theorem vX9_account : MOV mX9_account := ⟨kX9_account, lw_in (i := 758) (by decide +kernel) rfl, lw_in (i := 759) (by decide +kernel) rfl⟩
abbrev mX9_values : MD := (yX9_values, cX9_values, 2, (Option.some Jvm.ClassFile.FieldType.int))
set_option maxRecDepth 100000 in
theorem kX9_values : MOK mX9_values := ⟨lw_in (i := 774) (by rfl) rfl, lw_in (i := 96) (by decide +kernel) rfl, by decide +kernel, by decide +kernel, by decide +kernel⟩
theorem vX9_values : MOV mX9_values := ⟨kX9_values, lw_in (i := 772) (by decide +kernel) rfl, lw_in (i := 773) (by decide +kernel) rfl⟩
abbrev mX9_sure : MD := (yX9_sure, cX9_sure, 2, (Option.some Jvm.ClassFile.FieldType.int))
set_option maxRecDepth 100000 in
theorem kX9_sure : MOK mX9_sure := ⟨lw_in (i := 804) (by rfl) rfl, lw_in (i := 96) (by decide +kernel) rfl, by decide +kernel, by decide +kernel, by decide +kernel⟩
theorem vX9_sure : MOV mX9_sure := ⟨kX9_sure, lw_in (i := 802) (by decide +kernel) rfl, lw_in (i := 803) (by decide +kernel) rfl⟩
abbrev mX9_name : MD := (yX9_name, cX9_name, 3, (Option.some Jvm.ClassFile.FieldType.int))
set_option maxRecDepth 100000 in
theorem kX9_name : MOK mX9_name := ⟨lw_in (i := 812) (by rfl) rfl, lw_in (i := 96) (by decide +kernel) rfl, by decide +kernel, by decide +kernel, by decide +kernel⟩
theorem vX9_name : MOV mX9_name := ⟨kX9_name, lw_in (i := 810) (by decide +kernel) rfl, lw_in (i := 811) (by decide +kernel) rfl⟩
abbrev mX9_dragged : MD := (yX9_dragged, cX9_dragged, 4, (Option.some Jvm.ClassFile.FieldType.int))
set_option maxRecDepth 100000 in
theorem kX9_dragged : MOK mX9_dragged := ⟨lw_in (i := 823) (by rfl) rfl, lw_in (i := 96) (by decide +kernel) rfl, by decide +kernel, by decide +kernel, by decide +kernel⟩
theorem vX9_dragged : MOV mX9_dragged := ⟨kX9_dragged, lw_in (i := 821) (by decide +kernel) rfl, lw_in (i := 822) (by decide +kernel) rfl⟩
abbrev mX9_together : MD := (yX9_together, cX9_together, 5, (Option.some Jvm.ClassFile.FieldType.int))
set_option maxRecDepth 100000 in
theorem kX9_together : MOK mX9_together := ⟨lw_in (i := 846) (by rfl) rfl, lw_in (i := 96) (by decide +kernel) rfl, by decide +kernel, by decide +kernel, by decide +kernel⟩
theorem vX9_together : MOV mX9_together := ⟨kX9_together, lw_in (i := 844) (by decide +kernel) rfl, lw_in (i := 845) (by decide +kernel) rfl⟩
abbrev mX9_word : MD := (yX9_word, cX9_word, 3, (Option.some Jvm.ClassFile.FieldType.int))
set_option maxRecDepth 100000 in
theorem kX9_word : MOK mX9_word := ⟨lw_in (i := 854) (by rfl) rfl, lw_in (i := 96) (by decide +kernel) rfl, by decide +kernel, by decide +kernel, by decide +kernel⟩
theorem vX9_word : MOV mX9_word := ⟨kX9_word, lw_in (i := 852) (by decide +kernel) rfl, lw_in (i := 853) (by decide +kernel) rfl⟩
abbrev mX9_tabled : MD := (yX9_tabled, cX9_tabled, 2, (Option.some Jvm.ClassFile.FieldType.int))
set_option maxRecDepth 100000 in
theorem kX9_tabled : MOK mX9_tabled := ⟨lw_in (i := 870) (by rfl) rfl, lw_in (i := 96) (by decide +kernel) rfl, by decide +kernel, by decide +kernel, by decide +kernel⟩
theorem vX9_tabled : MOV mX9_tabled := ⟨kX9_tabled, lw_in (i := 868) (by decide +kernel) rfl, lw_in (i := 869) (by decide +kernel) rfl⟩
abbrev mX9_read : MD := (yX9_read, cX9_read, 3, (Option.some Jvm.ClassFile.FieldType.int))
set_option maxRecDepth 100000 in
theorem kX9_read : MOK mX9_read := ⟨lw_in (i := 887) (by rfl) rfl, lw_in (i := 96) (by decide +kernel) rfl, by decide +kernel, by decide +kernel, by decide +kernel⟩
theorem vX9_read : MOV mX9_read := ⟨kX9_read, lw_in (i := 885) (by decide +kernel) rfl, lw_in (i := 886) (by decide +kernel) rfl⟩
abbrev mX9_best : MD := (yX9_best, cX9_best, 3, (Option.some Jvm.ClassFile.FieldType.int))
set_option maxRecDepth 100000 in
theorem kX9_best : MOK mX9_best := ⟨lw_in (i := 930) (by rfl) rfl, lw_in (i := 96) (by decide +kernel) rfl, by decide +kernel, by decide +kernel, by decide +kernel⟩
theorem vX9_best : MOV mX9_best := ⟨kX9_best, lw_in (i := 928) (by decide +kernel) rfl, lw_in (i := 929) (by decide +kernel) rfl⟩
abbrev mX9_judge : MD := (yX9_judge, cX9_judge, 4, (Option.some Jvm.ClassFile.FieldType.int))
set_option maxRecDepth 100000 in
theorem kX9_judge : MOK mX9_judge := ⟨lw_in (i := 950) (by rfl) rfl, lw_in (i := 96) (by decide +kernel) rfl, by decide +kernel, by decide +kernel, by decide +kernel⟩
theorem vX9_judge : MOV mX9_judge := ⟨kX9_judge, lw_in (i := 948) (by decide +kernel) rfl, lw_in (i := 949) (by decide +kernel) rfl⟩
abbrev mX9_feed : MD := (yX9_feed, cX9_feed, 3, (Option.some Jvm.ClassFile.FieldType.int))
set_option maxRecDepth 100000 in
theorem kX9_feed : MOK mX9_feed := ⟨lw_in (i := 970) (by rfl) rfl, lw_in (i := 96) (by decide +kernel) rfl, by decide +kernel, by decide +kernel, by decide +kernel⟩
theorem vX9_feed : MOV mX9_feed := ⟨kX9_feed, lw_in (i := 968) (by decide +kernel) rfl, lw_in (i := 969) (by decide +kernel) rfl⟩
abbrev mX9_end : MD := (yX9_end, cX9_end, 2, (Option.some Jvm.ClassFile.FieldType.int))
set_option maxRecDepth 100000 in
theorem kX9_end : MOK mX9_end := ⟨lw_in (i := 978) (by rfl) rfl, lw_in (i := 96) (by decide +kernel) rfl, by decide +kernel, by decide +kernel, by decide +kernel⟩
theorem vX9_end : MOV mX9_end := ⟨kX9_end, lw_in (i := 976) (by decide +kernel) rfl, lw_in (i := 977) (by decide +kernel) rfl⟩
abbrev mX9_claims : MD := (yX9_claims, cX9_claims, 1, (Option.some Jvm.ClassFile.FieldType.int))
set_option maxRecDepth 100000 in
theorem kX9_claims : MOK mX9_claims := ⟨lw_in (i := 986) (by rfl) rfl, lw_in (i := 96) (by decide +kernel) rfl, by decide +kernel, by decide +kernel, by decide +kernel⟩
theorem vX9_claims : MOV mX9_claims := ⟨kX9_claims, lw_in (i := 984) (by decide +kernel) rfl, lw_in (i := 985) (by decide +kernel) rfl⟩
abbrev mX9_fault : MD := (yX9_fault, cX9_fault, 1, (Option.some Jvm.ClassFile.FieldType.int))
set_option maxRecDepth 100000 in
theorem kX9_fault : MOK mX9_fault := ⟨lw_in (i := 1111) (by rfl) rfl, lw_in (i := 96) (by decide +kernel) rfl, by decide +kernel, by decide +kernel, by decide +kernel⟩
theorem vX9_fault : MOV mX9_fault := ⟨kX9_fault, lw_in (i := 1109) (by decide +kernel) rfl, lw_in (i := 1110) (by decide +kernel) rfl⟩
abbrev mX9_claim : MD := (yX9_claim, cX9_claim, 3, (Option.some Jvm.ClassFile.FieldType.int))
set_option maxRecDepth 100000 in
theorem kX9_claim : MOK mX9_claim := ⟨lw_in (i := 1119) (by rfl) rfl, lw_in (i := 96) (by decide +kernel) rfl, by decide +kernel, by decide +kernel, by decide +kernel⟩
theorem vX9_claim : MOV mX9_claim := ⟨kX9_claim, lw_in (i := 1117) (by decide +kernel) rfl, lw_in (i := 1118) (by decide +kernel) rfl⟩
abbrev mX9_withdraw : MD := (yX9_withdraw, cX9_withdraw, 2, (Option.some Jvm.ClassFile.FieldType.int))
set_option maxRecDepth 100000 in
theorem kX9_withdraw : MOK mX9_withdraw := ⟨lw_in (i := 1136) (by rfl) rfl, lw_in (i := 96) (by decide +kernel) rfl, by decide +kernel, by decide +kernel, by decide +kernel⟩
theorem vX9_withdraw : MOV mX9_withdraw := ⟨kX9_withdraw, lw_in (i := 1134) (by decide +kernel) rfl, lw_in (i := 1135) (by decide +kernel) rfl⟩
abbrev mX9_day : MD := (yX9_day, cX9_day, 2, (Option.some Jvm.ClassFile.FieldType.int))
set_option maxRecDepth 100000 in
theorem kX9_day : MOK mX9_day := ⟨lw_in (i := 1144) (by rfl) rfl, lw_in (i := 96) (by decide +kernel) rfl, by decide +kernel, by decide +kernel, by decide +kernel⟩
theorem vX9_day : MOV mX9_day := ⟨kX9_day, lw_in (i := 1142) (by decide +kernel) rfl, lw_in (i := 1143) (by decide +kernel) rfl⟩
abbrev mX9_known : MD := (yX9_known, cX9_known, 3, (Option.some Jvm.ClassFile.FieldType.int))
set_option maxRecDepth 100000 in
theorem kX9_known : MOK mX9_known := ⟨lw_in (i := 1152) (by rfl) rfl, lw_in (i := 96) (by decide +kernel) rfl, by decide +kernel, by decide +kernel, by decide +kernel⟩
theorem vX9_known : MOV mX9_known := ⟨kX9_known, lw_in (i := 1150) (by decide +kernel) rfl, lw_in (i := 1151) (by decide +kernel) rfl⟩
abbrev mX9_sheet : MD := (yX9_sheet, cX9_sheet, 4, (Option.some Jvm.ClassFile.FieldType.int))
set_option maxRecDepth 100000 in
theorem kX9_sheet : MOK mX9_sheet := ⟨lw_in (i := 1164) (by rfl) rfl, lw_in (i := 96) (by decide +kernel) rfl, by decide +kernel, by decide +kernel, by decide +kernel⟩
theorem vX9_sheet : MOV mX9_sheet := ⟨kX9_sheet, lw_in (i := 1162) (by decide +kernel) rfl, lw_in (i := 1163) (by decide +kernel) rfl⟩
abbrev mX9_lay : MD := (yX9_lay, cX9_lay, 4, (Option.some Jvm.ClassFile.FieldType.int))
set_option maxRecDepth 100000 in
theorem kX9_lay : MOK mX9_lay := ⟨lw_in (i := 1173) (by rfl) rfl, lw_in (i := 96) (by decide +kernel) rfl, by decide +kernel, by decide +kernel, by decide +kernel⟩
theorem vX9_lay : MOV mX9_lay := ⟨kX9_lay, lw_in (i := 1171) (by decide +kernel) rfl, lw_in (i := 1172) (by decide +kernel) rfl⟩
abbrev mX9_count : MD := (yX9_count, cX9_count, 2, (Option.some Jvm.ClassFile.FieldType.int))
set_option maxRecDepth 100000 in
theorem kX9_count : MOK mX9_count := ⟨lw_in (i := 1184) (by rfl) rfl, lw_in (i := 96) (by decide +kernel) rfl, by decide +kernel, by decide +kernel, by decide +kernel⟩
theorem vX9_count : MOV mX9_count := ⟨kX9_count, lw_in (i := 1182) (by decide +kernel) rfl, lw_in (i := 1183) (by decide +kernel) rfl⟩
abbrev mX10_init : MD := (yX10_init, cX10_init, 2, (Option.none : Option Jvm.ClassFile.FieldType))
set_option maxRecDepth 100000 in
theorem kX10_init : MOK mX10_init := ⟨lw_in (i := 1224) (by rfl) rfl, lw_in (i := 106) (by decide +kernel) rfl, by decide +kernel, by decide +kernel, by decide +kernel⟩
abbrev mX10_in : MD := (yX10_in, cX10_in, 6, (Option.some Jvm.ClassFile.FieldType.boolean))
set_option maxRecDepth 100000 in
theorem kX10_in : MOK mX10_in := ⟨lw_in (i := 1423) (by rfl) rfl, lw_in (i := 106) (by decide +kernel) rfl, by decide +kernel, by decide +kernel, by decide +kernel⟩
theorem vX10_in : MOS mX10_in := ⟨kX10_in, lw_in (i := 1422) (by decide +kernel) rfl⟩
abbrev mX10_bits : MD := (yX10_bits, cX10_bits, 3, (Option.some Jvm.ClassFile.FieldType.int))
set_option maxRecDepth 100000 in
theorem kX10_bits : MOK mX10_bits := ⟨lw_in (i := 1439) (by rfl) rfl, lw_in (i := 106) (by decide +kernel) rfl, by decide +kernel, by decide +kernel, by decide +kernel⟩
theorem vX10_bits : MOS mX10_bits := ⟨kX10_bits, lw_in (i := 1438) (by decide +kernel) rfl⟩
abbrev mX10_isForm : MD := (yX10_isForm, cX10_isForm, 2, (Option.some Jvm.ClassFile.FieldType.boolean))
set_option maxRecDepth 100000 in
theorem kX10_isForm : MOK mX10_isForm := ⟨lw_in (i := 1443) (by rfl) rfl, lw_in (i := 106) (by decide +kernel) rfl, by decide +kernel, by decide +kernel, by decide +kernel⟩
theorem vX10_isForm : MOV mX10_isForm := ⟨kX10_isForm, lw_in (i := 1442) (by decide +kernel) rfl, lw_in (i := 53) (by decide +kernel) rfl⟩
abbrev mX10_form : MD := (yX10_form, cX10_form, 2, (Option.some Jvm.ClassFile.FieldType.int))
set_option maxRecDepth 100000 in
theorem kX10_form : MOK mX10_form := ⟨lw_in (i := 1419) (by rfl) rfl, lw_in (i := 106) (by decide +kernel) rfl, by decide +kernel, by decide +kernel, by decide +kernel⟩
theorem vX10_form : MOV mX10_form := ⟨kX10_form, lw_in (i := 1417) (by decide +kernel) rfl, lw_in (i := 1418) (by decide +kernel) rfl⟩
abbrev mX10_likeness : MD := (yX10_likeness, cX10_likeness, 3, (Option.some Jvm.ClassFile.FieldType.int))
set_option maxRecDepth 100000 in
theorem kX10_likeness : MOK mX10_likeness := ⟨lw_in (i := 1427) (by rfl) rfl, lw_in (i := 106) (by decide +kernel) rfl, by decide +kernel, by decide +kernel, by decide +kernel⟩
theorem vX10_likeness : MOV mX10_likeness := ⟨kX10_likeness, lw_in (i := 1425) (by decide +kernel) rfl, lw_in (i := 1426) (by decide +kernel) rfl⟩
abbrev mX10_findSigns : MD := (yX10_findSigns, cX10_findSigns, 7, (Option.none : Option Jvm.ClassFile.FieldType))
set_option maxRecDepth 100000 in
theorem kX10_findSigns : MOK mX10_findSigns := ⟨lw_in (i := 1436) (by rfl) rfl, lw_in (i := 106) (by decide +kernel) rfl, by decide +kernel, by decide +kernel, by decide +kernel⟩
theorem vX10_findSigns : MOV mX10_findSigns := ⟨kX10_findSigns, lw_in (i := 1435) (by decide +kernel) rfl, lw_in (i := 52) (by decide +kernel) rfl⟩
abbrev mX10_signMany : MD := (yX10_signMany, cX10_signMany, 3, (Option.some Jvm.ClassFile.FieldType.int))
set_option maxRecDepth 100000 in
theorem kX10_signMany : MOK mX10_signMany := ⟨lw_in (i := 1452) (by rfl) rfl, lw_in (i := 106) (by decide +kernel) rfl, by decide +kernel, by decide +kernel, by decide +kernel⟩
theorem vX10_signMany : MOV mX10_signMany := ⟨kX10_signMany, lw_in (i := 1451) (by decide +kernel) rfl, lw_in (i := 54) (by decide +kernel) rfl⟩
abbrev mX10_sign : MD := (yX10_sign, cX10_sign, 2, (Option.some Jvm.ClassFile.FieldType.int))
set_option maxRecDepth 100000 in
theorem kX10_sign : MOK mX10_sign := ⟨lw_in (i := 1432) (by rfl) rfl, lw_in (i := 106) (by decide +kernel) rfl, by decide +kernel, by decide +kernel, by decide +kernel⟩
theorem vX10_sign : MOV mX10_sign := ⟨kX10_sign, lw_in (i := 1430) (by decide +kernel) rfl, lw_in (i := 1431) (by decide +kernel) rfl⟩
abbrev mX10_signs : MD := (yX10_signs, cX10_signs, 7, (Option.some Jvm.ClassFile.FieldType.int))
set_option maxRecDepth 100000 in
theorem kX10_signs : MOK mX10_signs := ⟨lw_in (i := 1447) (by rfl) rfl, lw_in (i := 106) (by decide +kernel) rfl, by decide +kernel, by decide +kernel, by decide +kernel⟩
theorem vX10_signs : MOV mX10_signs := ⟨kX10_signs, lw_in (i := 1445) (by decide +kernel) rfl, lw_in (i := 1446) (by decide +kernel) rfl⟩
abbrev mX10_isSign : MD := (yX10_isSign, cX10_isSign, 2, (Option.some Jvm.ClassFile.FieldType.boolean))
set_option maxRecDepth 100000 in
theorem kX10_isSign : MOK mX10_isSign := ⟨lw_in (i := 1482) (by rfl) rfl, lw_in (i := 106) (by decide +kernel) rfl, by decide +kernel, by decide +kernel, by decide +kernel⟩
theorem vX10_isSign : MOV mX10_isSign := ⟨kX10_isSign, lw_in (i := 1481) (by decide +kernel) rfl, lw_in (i := 58) (by decide +kernel) rfl⟩
abbrev mX10_isText : MD := (yX10_isText, cX10_isText, 2, (Option.some Jvm.ClassFile.FieldType.boolean))
set_option maxRecDepth 100000 in
theorem kX10_isText : MOK mX10_isText := ⟨lw_in (i := 1464) (by rfl) rfl, lw_in (i := 106) (by decide +kernel) rfl, by decide +kernel, by decide +kernel, by decide +kernel⟩
theorem vX10_isText : MOV mX10_isText := ⟨kX10_isText, lw_in (i := 1463) (by decide +kernel) rfl, lw_in (i := 55) (by decide +kernel) rfl⟩
abbrev mX10_at : MD := (yX10_at, cX10_at, 4, (Option.some Jvm.ClassFile.FieldType.int))
set_option maxRecDepth 100000 in
theorem kX10_at : MOK mX10_at := ⟨lw_in (i := 1474) (by rfl) rfl, lw_in (i := 106) (by decide +kernel) rfl, by decide +kernel, by decide +kernel, by decide +kernel⟩
theorem vX10_at : MOV mX10_at := ⟨kX10_at, lw_in (i := 1473) (by decide +kernel) rfl, lw_in (i := 57) (by decide +kernel) rfl⟩
abbrev mX10_drop : MD := (yX10_drop, cX10_drop, 1, (Option.some Jvm.ClassFile.FieldType.int))
set_option maxRecDepth 100000 in
theorem kX10_drop : MOK mX10_drop := ⟨lw_in (i := 1456) (by rfl) rfl, lw_in (i := 106) (by decide +kernel) rfl, by decide +kernel, by decide +kernel, by decide +kernel⟩
theorem vX10_drop : MOV mX10_drop := ⟨kX10_drop, lw_in (i := 1454) (by decide +kernel) rfl, lw_in (i := 1455) (by decide +kernel) rfl⟩
abbrev mX10_findWords : MD := (yX10_findWords, cX10_findWords, 6, (Option.none : Option Jvm.ClassFile.FieldType))
set_option maxRecDepth 100000 in
theorem kX10_findWords : MOK mX10_findWords := ⟨lw_in (i := 1470) (by rfl) rfl, lw_in (i := 106) (by decide +kernel) rfl, by decide +kernel, by decide +kernel, by decide +kernel⟩
theorem vX10_findWords : MOV mX10_findWords := ⟨kX10_findWords, lw_in (i := 1469) (by decide +kernel) rfl, lw_in (i := 56) (by decide +kernel) rfl⟩
abbrev mX10_wordAt : MD := (yX10_wordAt, cX10_wordAt, 3, (Option.some Jvm.ClassFile.FieldType.int))
set_option maxRecDepth 100000 in
theorem kX10_wordAt : MOK mX10_wordAt := ⟨lw_in (i := 1516) (by rfl) rfl, lw_in (i := 106) (by decide +kernel) rfl, by decide +kernel, by decide +kernel, by decide +kernel⟩
theorem vX10_wordAt : MOV mX10_wordAt := ⟨kX10_wordAt, lw_in (i := 1515) (by decide +kernel) rfl, lw_in (i := 63) (by decide +kernel) rfl⟩
abbrev mX10_textOf : MD := (yX10_textOf, cX10_textOf, 9, (Option.some Jvm.ClassFile.FieldType.int))
set_option maxRecDepth 100000 in
theorem kX10_textOf : MOK mX10_textOf := ⟨lw_in (i := 1460) (by rfl) rfl, lw_in (i := 106) (by decide +kernel) rfl, by decide +kernel, by decide +kernel, by decide +kernel⟩
theorem vX10_textOf : MOV mX10_textOf := ⟨kX10_textOf, lw_in (i := 1458) (by decide +kernel) rfl, lw_in (i := 1459) (by decide +kernel) rfl⟩
abbrev mX10_countOf : MD := (yX10_countOf, cX10_countOf, 5, (Option.some Jvm.ClassFile.FieldType.int))
set_option maxRecDepth 100000 in
theorem kX10_countOf : MOK mX10_countOf := ⟨lw_in (i := 1486) (by rfl) rfl, lw_in (i := 106) (by decide +kernel) rfl, by decide +kernel, by decide +kernel, by decide +kernel⟩
theorem vX10_countOf : MOV mX10_countOf := ⟨kX10_countOf, lw_in (i := 1485) (by decide +kernel) rfl, lw_in (i := 59) (by decide +kernel) rfl⟩
abbrev mX10_allSigns : MD := (yX10_allSigns, cX10_allSigns, 4, (Option.some Jvm.ClassFile.FieldType.int))
set_option maxRecDepth 100000 in
theorem kX10_allSigns : MOK mX10_allSigns := ⟨lw_in (i := 1503) (by rfl) rfl, lw_in (i := 106) (by decide +kernel) rfl, by decide +kernel, by decide +kernel, by decide +kernel⟩
theorem vX10_allSigns : MOV mX10_allSigns := ⟨kX10_allSigns, lw_in (i := 1502) (by decide +kernel) rfl, lw_in (i := 61) (by decide +kernel) rfl⟩
abbrev mX10_counted : MD := (yX10_counted, cX10_counted, 2, (Option.some Jvm.ClassFile.FieldType.int))
set_option maxRecDepth 100000 in
theorem kX10_counted : MOK mX10_counted := ⟨lw_in (i := 1478) (by rfl) rfl, lw_in (i := 106) (by decide +kernel) rfl, by decide +kernel, by decide +kernel, by decide +kernel⟩
theorem vX10_counted : MOV mX10_counted := ⟨kX10_counted, lw_in (i := 1476) (by decide +kernel) rfl, lw_in (i := 1477) (by decide +kernel) rfl⟩
abbrev mX10_besides : MD := (yX10_besides, cX10_besides, 8, (Option.some Jvm.ClassFile.FieldType.int))
set_option maxRecDepth 100000 in
theorem kX10_besides : MOK mX10_besides := ⟨lw_in (i := 1494) (by rfl) rfl, lw_in (i := 106) (by decide +kernel) rfl, by decide +kernel, by decide +kernel, by decide +kernel⟩
theorem vX10_besides : MOV mX10_besides := ⟨kX10_besides, lw_in (i := 1493) (by decide +kernel) rfl, lw_in (i := 60) (by decide +kernel) rfl⟩
abbrev mX10_beside : MD := (yX10_beside, cX10_beside, 3, (Option.some Jvm.ClassFile.FieldType.int))
set_option maxRecDepth 100000 in
theorem kX10_beside : MOK mX10_beside := ⟨lw_in (i := 1490) (by rfl) rfl, lw_in (i := 106) (by decide +kernel) rfl, by decide +kernel, by decide +kernel, by decide +kernel⟩
theorem vX10_beside : MOV mX10_beside := ⟨kX10_beside, lw_in (i := 1488) (by decide +kernel) rfl, lw_in (i := 1489) (by decide +kernel) rfl⟩
abbrev mX10_chance : MD := (yX10_chance, cX10_chance, 16, (Option.some Jvm.ClassFile.FieldType.long))
set_option maxRecDepth 100000 in
theorem kX10_chance : MOK mX10_chance := ⟨lw_in (i := 1498) (by rfl) rfl, lw_in (i := 106) (by decide +kernel) rfl, by decide +kernel, by decide +kernel, by decide +kernel⟩
theorem vX10_chance : MOV mX10_chance := ⟨kX10_chance, lw_in (i := 1496) (by decide +kernel) rfl, lw_in (i := 1497) (by decide +kernel) rfl⟩
abbrev mX10_edgeSum : MD := (yX10_edgeSum, cX10_edgeSum, 4, (Option.some Jvm.ClassFile.FieldType.int))
set_option maxRecDepth 100000 in
theorem kX10_edgeSum : MOK mX10_edgeSum := ⟨lw_in (i := 1512) (by rfl) rfl, lw_in (i := 106) (by decide +kernel) rfl, by decide +kernel, by decide +kernel, by decide +kernel⟩
theorem vX10_edgeSum : MOV mX10_edgeSum := ⟨kX10_edgeSum, lw_in (i := 1511) (by decide +kernel) rfl, lw_in (i := 62) (by decide +kernel) rfl⟩
abbrev mX10_runs : MD := (yX10_runs, cX10_runs, 4, (Option.some Jvm.ClassFile.FieldType.int))
set_option maxRecDepth 100000 in
theorem kX10_runs : MOK mX10_runs := ⟨lw_in (i := 1508) (by rfl) rfl, lw_in (i := 106) (by decide +kernel) rfl, by decide +kernel, by decide +kernel, by decide +kernel⟩
theorem vX10_runs : MOV mX10_runs := ⟨kX10_runs, lw_in (i := 1506) (by decide +kernel) rfl, lw_in (i := 1507) (by decide +kernel) rfl⟩
abbrev mX10_alikeTo : MD := (yX10_alikeTo, cX10_alikeTo, 4, (Option.some Jvm.ClassFile.FieldType.int))
set_option maxRecDepth 100000 in
theorem kX10_alikeTo : MOK mX10_alikeTo := ⟨lw_in (i := 1528) (by rfl) rfl, lw_in (i := 106) (by decide +kernel) rfl, by decide +kernel, by decide +kernel, by decide +kernel⟩
theorem vX10_alikeTo : MOV mX10_alikeTo := ⟨kX10_alikeTo, lw_in (i := 1527) (by decide +kernel) rfl, lw_in (i := 65) (by decide +kernel) rfl⟩
abbrev mX10_isFirstOfItsRow : MD := (yX10_isFirstOfItsRow, cX10_isFirstOfItsRow, 4, (Option.some Jvm.ClassFile.FieldType.boolean))
set_option maxRecDepth 100000 in
theorem kX10_isFirstOfItsRow : MOK mX10_isFirstOfItsRow := ⟨lw_in (i := 1532) (by rfl) rfl, lw_in (i := 106) (by decide +kernel) rfl, by decide +kernel, by decide +kernel, by decide +kernel⟩
theorem vX10_isFirstOfItsRow : MOV mX10_isFirstOfItsRow := ⟨kX10_isFirstOfItsRow, lw_in (i := 1531) (by decide +kernel) rfl, lw_in (i := 66) (by decide +kernel) rfl⟩
abbrev mX10_findAkins : MD := (yX10_findAkins, cX10_findAkins, 6, (Option.none : Option Jvm.ClassFile.FieldType))
set_option maxRecDepth 100000 in
theorem kX10_findAkins : MOK mX10_findAkins := ⟨lw_in (i := 1524) (by rfl) rfl, lw_in (i := 106) (by decide +kernel) rfl, by decide +kernel, by decide +kernel, by decide +kernel⟩
theorem vX10_findAkins : MOV mX10_findAkins := ⟨kX10_findAkins, lw_in (i := 1523) (by decide +kernel) rfl, lw_in (i := 64) (by decide +kernel) rfl⟩
abbrev mX10_akin : MD := (yX10_akin, cX10_akin, 3, (Option.some Jvm.ClassFile.FieldType.int))
set_option maxRecDepth 100000 in
theorem kX10_akin : MOK mX10_akin := ⟨lw_in (i := 1520) (by rfl) rfl, lw_in (i := 106) (by decide +kernel) rfl, by decide +kernel, by decide +kernel, by decide +kernel⟩
theorem vX10_akin : MOV mX10_akin := ⟨kX10_akin, lw_in (i := 1518) (by decide +kernel) rfl, lw_in (i := 1519) (by decide +kernel) rfl⟩
abbrev mX10_apart : MD := (yX10_apart, cX10_apart, 5, (Option.some Jvm.ClassFile.FieldType.int))
set_option maxRecDepth 100000 in
theorem kX10_apart : MOK mX10_apart := ⟨lw_in (i := 1536) (by rfl) rfl, lw_in (i := 106) (by decide +kernel) rfl, by decide +kernel, by decide +kernel, by decide +kernel⟩
theorem vX10_apart : MOV mX10_apart := ⟨kX10_apart, lw_in (i := 1534) (by decide +kernel) rfl, lw_in (i := 1535) (by decide +kernel) rfl⟩
abbrev mX10_apartOf : MD := (yX10_apartOf, cX10_apartOf, 7, (Option.some Jvm.ClassFile.FieldType.int))
set_option maxRecDepth 100000 in
theorem kX10_apartOf : MOK mX10_apartOf := ⟨lw_in (i := 1553) (by rfl) rfl, lw_in (i := 106) (by decide +kernel) rfl, by decide +kernel, by decide +kernel, by decide +kernel⟩
theorem vX10_apartOf : MOV mX10_apartOf := ⟨kX10_apartOf, lw_in (i := 1552) (by decide +kernel) rfl, lw_in (i := 69) (by decide +kernel) rfl⟩
abbrev mX10_findGridSigns : MD := (yX10_findGridSigns, cX10_findGridSigns, 4, (Option.none : Option Jvm.ClassFile.FieldType))
set_option maxRecDepth 100000 in
theorem kX10_findGridSigns : MOK mX10_findGridSigns := ⟨lw_in (i := 1549) (by rfl) rfl, lw_in (i := 106) (by decide +kernel) rfl, by decide +kernel, by decide +kernel, by decide +kernel⟩
theorem vX10_findGridSigns : MOV mX10_findGridSigns := ⟨kX10_findGridSigns, lw_in (i := 1548) (by decide +kernel) rfl, lw_in (i := 68) (by decide +kernel) rfl⟩
abbrev mX10_quarrel : MD := (yX10_quarrel, cX10_quarrel, 4, (Option.some Jvm.ClassFile.FieldType.int))
set_option maxRecDepth 100000 in
theorem kX10_quarrel : MOK mX10_quarrel := ⟨lw_in (i := 1557) (by rfl) rfl, lw_in (i := 106) (by decide +kernel) rfl, by decide +kernel, by decide +kernel, by decide +kernel⟩
theorem vX10_quarrel : MOV mX10_quarrel := ⟨kX10_quarrel, lw_in (i := 1556) (by decide +kernel) rfl, lw_in (i := 70) (by decide +kernel) rfl⟩
abbrev mX10_findGrid : MD := (yX10_findGrid, cX10_findGrid, 6, (Option.some Jvm.ClassFile.FieldType.int))
set_option maxRecDepth 100000 in
theorem kX10_findGrid : MOK mX10_findGrid := ⟨lw_in (i := 1545) (by rfl) rfl, lw_in (i := 106) (by decide +kernel) rfl, by decide +kernel, by decide +kernel, by decide +kernel⟩
theorem vX10_findGrid : MOV mX10_findGrid := ⟨kX10_findGrid, lw_in (i := 1544) (by decide +kernel) rfl, lw_in (i := 67) (by decide +kernel) rfl⟩
abbrev mX10_grid : MD := (yX10_grid, cX10_grid, 4, (Option.some Jvm.ClassFile.FieldType.int))
set_option maxRecDepth 100000 in
theorem kX10_grid : MOK mX10_grid := ⟨lw_in (i := 1541) (by rfl) rfl, lw_in (i := 106) (by decide +kernel) rfl, by decide +kernel, by decide +kernel, by decide +kernel⟩
theorem vX10_grid : MOV mX10_grid := ⟨kX10_grid, lw_in (i := 1539) (by decide +kernel) rfl, lw_in (i := 1540) (by decide +kernel) rfl⟩
abbrev mX10_isMarks : MD := (yX10_isMarks, cX10_isMarks, 3, (Option.some Jvm.ClassFile.FieldType.boolean))
set_option maxRecDepth 100000 in
theorem kX10_isMarks : MOK mX10_isMarks := ⟨lw_in (i := 1565) (by rfl) rfl, lw_in (i := 106) (by decide +kernel) rfl, by decide +kernel, by decide +kernel, by decide +kernel⟩
theorem vX10_isMarks : MOS mX10_isMarks := ⟨kX10_isMarks, lw_in (i := 1564) (by decide +kernel) rfl⟩
abbrev mX10_account : MD := (yX10_account, cX10_account, 3, (Option.some Jvm.ClassFile.FieldType.int))
set_option maxRecDepth 100000 in
theorem kX10_account : MOK mX10_account := ⟨lw_in (i := 1562) (by rfl) rfl, lw_in (i := 106) (by decide +kernel) rfl, by decide +kernel, by decide +kernel, by decide +kernel⟩
theorem vX10_account : MOV mX10_account := ⟨kX10_account, lw_in (i := 1560) (by decide +kernel) rfl, lw_in (i := 1561) (by decide +kernel) rfl⟩
abbrev mX10_listed : MD := (yX10_listed, cX10_listed, 1, (Option.some Jvm.ClassFile.FieldType.int))
set_option maxRecDepth 100000 in
theorem kX10_listed : MOK mX10_listed := ⟨lw_in (i := 1582) (by rfl) rfl, lw_in (i := 106) (by decide +kernel) rfl, by decide +kernel, by decide +kernel, by decide +kernel⟩
theorem vX10_listed : MOS mX10_listed := ⟨kX10_listed, lw_in (i := 1581) (by decide +kernel) rfl⟩
abbrev mX10_doAddUp : MD := (yX10_doAddUp, cX10_doAddUp, 5, (Option.some Jvm.ClassFile.FieldType.boolean))
set_option maxRecDepth 100000 in
theorem kX10_doAddUp : MOK mX10_doAddUp := ⟨lw_in (i := 1579) (by rfl) rfl, lw_in (i := 106) (by decide +kernel) rfl, by decide +kernel, by decide +kernel, by decide +kernel⟩
theorem vX10_doAddUp : MOV mX10_doAddUp := ⟨kX10_doAddUp, lw_in (i := 1578) (by decide +kernel) rfl, lw_in (i := 72) (by decide +kernel) rfl⟩
abbrev mX10_findValues : MD := (yX10_findValues, cX10_findValues, 5, (Option.none : Option Jvm.ClassFile.FieldType))
set_option maxRecDepth 100000 in
theorem kX10_findValues : MOK mX10_findValues := ⟨lw_in (i := 1575) (by rfl) rfl, lw_in (i := 106) (by decide +kernel) rfl, by decide +kernel, by decide +kernel, by decide +kernel⟩
theorem vX10_findValues : MOV mX10_findValues := ⟨kX10_findValues, lw_in (i := 1574) (by decide +kernel) rfl, lw_in (i := 71) (by decide +kernel) rfl⟩
abbrev mX10_values : MD := (yX10_values, cX10_values, 2, (Option.some Jvm.ClassFile.FieldType.int))
set_option maxRecDepth 100000 in
theorem kX10_values : MOK mX10_values := ⟨lw_in (i := 1570) (by rfl) rfl, lw_in (i := 106) (by decide +kernel) rfl, by decide +kernel, by decide +kernel, by decide +kernel⟩
theorem vX10_values : MOV mX10_values := ⟨kX10_values, lw_in (i := 1568) (by decide +kernel) rfl, lw_in (i := 1569) (by decide +kernel) rfl⟩
abbrev mX10_sure : MD := (yX10_sure, cX10_sure, 4, (Option.some Jvm.ClassFile.FieldType.int))
set_option maxRecDepth 100000 in
theorem kX10_sure : MOK mX10_sure := ⟨lw_in (i := 1586) (by rfl) rfl, lw_in (i := 106) (by decide +kernel) rfl, by decide +kernel, by decide +kernel, by decide +kernel⟩
theorem vX10_sure : MOV mX10_sure := ⟨kX10_sure, lw_in (i := 1584) (by decide +kernel) rfl, lw_in (i := 1585) (by decide +kernel) rfl⟩
abbrev mX10_name : MD := (yX10_name, cX10_name, 3, (Option.some Jvm.ClassFile.FieldType.int))
set_option maxRecDepth 100000 in
theorem kX10_name : MOK mX10_name := ⟨lw_in (i := 1590) (by rfl) rfl, lw_in (i := 106) (by decide +kernel) rfl, by decide +kernel, by decide +kernel, by decide +kernel⟩
theorem vX10_name : MOV mX10_name := ⟨kX10_name, lw_in (i := 1588) (by decide +kernel) rfl, lw_in (i := 1589) (by decide +kernel) rfl⟩
abbrev mX10_isName : MD := (yX10_isName, cX10_isName, 2, (Option.some Jvm.ClassFile.FieldType.boolean))
set_option maxRecDepth 100000 in
theorem kX10_isName : MOK mX10_isName := ⟨lw_in (i := 1599) (by rfl) rfl, lw_in (i := 106) (by decide +kernel) rfl, by decide +kernel, by decide +kernel, by decide +kernel⟩
theorem vX10_isName : MOV mX10_isName := ⟨kX10_isName, lw_in (i := 1598) (by decide +kernel) rfl, lw_in (i := 73) (by decide +kernel) rfl⟩
abbrev mX10_soundAt : MD := (yX10_soundAt, cX10_soundAt, 3, (Option.some Jvm.ClassFile.FieldType.int))
set_option maxRecDepth 100000 in
theorem kX10_soundAt : MOK mX10_soundAt := ⟨lw_in (i := 1611) (by rfl) rfl, lw_in (i := 106) (by decide +kernel) rfl, by decide +kernel, by decide +kernel, by decide +kernel⟩
theorem vX10_soundAt : MOV mX10_soundAt := ⟨kX10_soundAt, lw_in (i := 1610) (by decide +kernel) rfl, lw_in (i := 76) (by decide +kernel) rfl⟩
abbrev mX10_doAgree : MD := (yX10_doAgree, cX10_doAgree, 10, (Option.some Jvm.ClassFile.FieldType.boolean))
set_option maxRecDepth 100000 in
theorem kX10_doAgree : MOK mX10_doAgree := ⟨lw_in (i := 1607) (by rfl) rfl, lw_in (i := 106) (by decide +kernel) rfl, by decide +kernel, by decide +kernel, by decide +kernel⟩
theorem vX10_doAgree : MOV mX10_doAgree := ⟨kX10_doAgree, lw_in (i := 1606) (by decide +kernel) rfl, lw_in (i := 75) (by decide +kernel) rfl⟩
abbrev mX10_doesFit : MD := (yX10_doesFit, cX10_doesFit, 5, (Option.some Jvm.ClassFile.FieldType.boolean))
set_option maxRecDepth 100000 in
theorem kX10_doesFit : MOK mX10_doesFit := ⟨lw_in (i := 1603) (by rfl) rfl, lw_in (i := 106) (by decide +kernel) rfl, by decide +kernel, by decide +kernel, by decide +kernel⟩
theorem vX10_doesFit : MOV mX10_doesFit := ⟨kX10_doesFit, lw_in (i := 1602) (by decide +kernel) rfl, lw_in (i := 74) (by decide +kernel) rfl⟩
abbrev mX10_dragged : MD := (yX10_dragged, cX10_dragged, 8, (Option.some Jvm.ClassFile.FieldType.int))
set_option maxRecDepth 100000 in
theorem kX10_dragged : MOK mX10_dragged := ⟨lw_in (i := 1595) (by rfl) rfl, lw_in (i := 106) (by decide +kernel) rfl, by decide +kernel, by decide +kernel, by decide +kernel⟩
theorem vX10_dragged : MOV mX10_dragged := ⟨kX10_dragged, lw_in (i := 1593) (by decide +kernel) rfl, lw_in (i := 1594) (by decide +kernel) rfl⟩
abbrev mX10_together : MD := (yX10_together, cX10_together, 8, (Option.some Jvm.ClassFile.FieldType.int))
set_option maxRecDepth 100000 in
theorem kX10_together : MOK mX10_together := ⟨lw_in (i := 1615) (by rfl) rfl, lw_in (i := 106) (by decide +kernel) rfl, by decide +kernel, by decide +kernel, by decide +kernel⟩
theorem vX10_together : MOV mX10_together := ⟨kX10_together, lw_in (i := 1613) (by decide +kernel) rfl, lw_in (i := 1614) (by decide +kernel) rfl⟩
abbrev mX10_word : MD := (yX10_word, cX10_word, 4, (Option.some Jvm.ClassFile.FieldType.int))
set_option maxRecDepth 100000 in
theorem kX10_word : MOK mX10_word := ⟨lw_in (i := 1619) (by rfl) rfl, lw_in (i := 106) (by decide +kernel) rfl, by decide +kernel, by decide +kernel, by decide +kernel⟩
theorem vX10_word : MOV mX10_word := ⟨kX10_word, lw_in (i := 1617) (by decide +kernel) rfl, lw_in (i := 1618) (by decide +kernel) rfl⟩
abbrev mX10_findTable : MD := (yX10_findTable, cX10_findTable, 5, (Option.none : Option Jvm.ClassFile.FieldType))
set_option maxRecDepth 100000 in
theorem kX10_findTable : MOK mX10_findTable := ⟨lw_in (i := 1628) (by rfl) rfl, lw_in (i := 106) (by decide +kernel) rfl, by decide +kernel, by decide +kernel, by decide +kernel⟩
theorem vX10_findTable : MOV mX10_findTable := ⟨kX10_findTable, lw_in (i := 1627) (by decide +kernel) rfl, lw_in (i := 77) (by decide +kernel) rfl⟩
abbrev mX10_tabled : MD := (yX10_tabled, cX10_tabled, 2, (Option.some Jvm.ClassFile.FieldType.int))
set_option maxRecDepth 100000 in
theorem kX10_tabled : MOK mX10_tabled := ⟨lw_in (i := 1624) (by rfl) rfl, lw_in (i := 106) (by decide +kernel) rfl, by decide +kernel, by decide +kernel, by decide +kernel⟩
theorem vX10_tabled : MOV mX10_tabled := ⟨kX10_tabled, lw_in (i := 1622) (by decide +kernel) rfl, lw_in (i := 1623) (by decide +kernel) rfl⟩
abbrev mX10_findTongue : MD := (yX10_findTongue, cX10_findTongue, 2, (Option.none : Option Jvm.ClassFile.FieldType))
set_option maxRecDepth 100000 in
theorem kX10_findTongue : MOK mX10_findTongue := ⟨lw_in (i := 1640) (by rfl) rfl, lw_in (i := 106) (by decide +kernel) rfl, by decide +kernel, by decide +kernel, by decide +kernel⟩
theorem vX10_findTongue : MOV mX10_findTongue := ⟨kX10_findTongue, lw_in (i := 1639) (by decide +kernel) rfl, lw_in (i := 79) (by decide +kernel) rfl⟩
abbrev mX10_findReadable : MD := (yX10_findReadable, cX10_findReadable, 7, (Option.none : Option Jvm.ClassFile.FieldType))
set_option maxRecDepth 100000 in
theorem kX10_findReadable : MOK mX10_findReadable := ⟨lw_in (i := 1644) (by rfl) rfl, lw_in (i := 106) (by decide +kernel) rfl, by decide +kernel, by decide +kernel, by decide +kernel⟩
theorem vX10_findReadable : MOV mX10_findReadable := ⟨kX10_findReadable, lw_in (i := 1643) (by decide +kernel) rfl, lw_in (i := 80) (by decide +kernel) rfl⟩
abbrev mX10_readBy : MD := (yX10_readBy, cX10_readBy, 6, (Option.some Jvm.ClassFile.FieldType.int))
set_option maxRecDepth 100000 in
theorem kX10_readBy : MOK mX10_readBy := ⟨lw_in (i := 1648) (by rfl) rfl, lw_in (i := 106) (by decide +kernel) rfl, by decide +kernel, by decide +kernel, by decide +kernel⟩
theorem vX10_readBy : MOV mX10_readBy := ⟨kX10_readBy, lw_in (i := 1647) (by decide +kernel) rfl, lw_in (i := 81) (by decide +kernel) rfl⟩
abbrev mX10_areTexts : MD := (yX10_areTexts, cX10_areTexts, 2, (Option.some Jvm.ClassFile.FieldType.boolean))
set_option maxRecDepth 100000 in
theorem kX10_areTexts : MOK mX10_areTexts := ⟨lw_in (i := 1636) (by rfl) rfl, lw_in (i := 106) (by decide +kernel) rfl, by decide +kernel, by decide +kernel, by decide +kernel⟩
theorem vX10_areTexts : MOV mX10_areTexts := ⟨kX10_areTexts, lw_in (i := 1635) (by decide +kernel) rfl, lw_in (i := 78) (by decide +kernel) rfl⟩
abbrev mX10_read : MD := (yX10_read, cX10_read, 3, (Option.some Jvm.ClassFile.FieldType.int))
set_option maxRecDepth 100000 in
theorem kX10_read : MOK mX10_read := ⟨lw_in (i := 1632) (by rfl) rfl, lw_in (i := 106) (by decide +kernel) rfl, by decide +kernel, by decide +kernel, by decide +kernel⟩
theorem vX10_read : MOV mX10_read := ⟨kX10_read, lw_in (i := 1630) (by decide +kernel) rfl, lw_in (i := 1631) (by decide +kernel) rfl⟩
abbrev mX10_turned : MD := (yX10_turned, cX10_turned, 4, (Option.some Jvm.ClassFile.FieldType.int))
set_option maxRecDepth 100000 in
theorem kX10_turned : MOK mX10_turned := ⟨lw_in (i := 1660) (by rfl) rfl, lw_in (i := 106) (by decide +kernel) rfl, by decide +kernel, by decide +kernel, by decide +kernel⟩
theorem vX10_turned : MOV mX10_turned := ⟨kX10_turned, lw_in (i := 1659) (by decide +kernel) rfl, lw_in (i := 83) (by decide +kernel) rfl⟩
abbrev mX10_findBest : MD := (yX10_findBest, cX10_findBest, 5, (Option.none : Option Jvm.ClassFile.FieldType))
set_option maxRecDepth 100000 in
theorem kX10_findBest : MOK mX10_findBest := ⟨lw_in (i := 1656) (by rfl) rfl, lw_in (i := 106) (by decide +kernel) rfl, by decide +kernel, by decide +kernel, by decide +kernel⟩
theorem vX10_findBest : MOV mX10_findBest := ⟨kX10_findBest, lw_in (i := 1655) (by decide +kernel) rfl, lw_in (i := 82) (by decide +kernel) rfl⟩
abbrev mX10_best : MD := (yX10_best, cX10_best, 3, (Option.some Jvm.ClassFile.FieldType.int))
set_option maxRecDepth 100000 in
theorem kX10_best : MOK mX10_best := ⟨lw_in (i := 1652) (by rfl) rfl, lw_in (i := 106) (by decide +kernel) rfl, by decide +kernel, by decide +kernel, by decide +kernel⟩
theorem vX10_best : MOV mX10_best := ⟨kX10_best, lw_in (i := 1650) (by decide +kernel) rfl, lw_in (i := 1651) (by decide +kernel) rfl⟩
abbrev mX10_goesOn : MD := (yX10_goesOn, cX10_goesOn, 6, (Option.some Jvm.ClassFile.FieldType.boolean))
set_option maxRecDepth 100000 in
theorem kX10_goesOn : MOK mX10_goesOn := ⟨lw_in (i := 1668) (by rfl) rfl, lw_in (i := 106) (by decide +kernel) rfl, by decide +kernel, by decide +kernel, by decide +kernel⟩
theorem vX10_goesOn : MOV mX10_goesOn := ⟨kX10_goesOn, lw_in (i := 1667) (by decide +kernel) rfl, lw_in (i := 84) (by decide +kernel) rfl⟩
abbrev mX10_judge : MD := (yX10_judge, cX10_judge, 10, (Option.some Jvm.ClassFile.FieldType.int))
set_option maxRecDepth 100000 in
theorem kX10_judge : MOK mX10_judge := ⟨lw_in (i := 1664) (by rfl) rfl, lw_in (i := 106) (by decide +kernel) rfl, by decide +kernel, by decide +kernel, by decide +kernel⟩
theorem vX10_judge : MOV mX10_judge := ⟨kX10_judge, lw_in (i := 1662) (by decide +kernel) rfl, lw_in (i := 1663) (by decide +kernel) rfl⟩
abbrev mX10_feed : MD := (yX10_feed, cX10_feed, 4, (Option.some Jvm.ClassFile.FieldType.int))
set_option maxRecDepth 100000 in
theorem kX10_feed : MOK mX10_feed := ⟨lw_in (i := 1672) (by rfl) rfl, lw_in (i := 106) (by decide +kernel) rfl, by decide +kernel, by decide +kernel, by decide +kernel⟩
theorem vX10_feed : MOV mX10_feed := ⟨kX10_feed, lw_in (i := 1670) (by decide +kernel) rfl, lw_in (i := 1671) (by decide +kernel) rfl⟩
abbrev mX10_end : MD := (yX10_end, cX10_end, 3, (Option.some Jvm.ClassFile.FieldType.int))
set_option maxRecDepth 100000 in
theorem kX10_end : MOK mX10_end := ⟨lw_in (i := 1677) (by rfl) rfl, lw_in (i := 106) (by decide +kernel) rfl, by decide +kernel, by decide +kernel, by decide +kernel⟩
theorem vX10_end : MOV mX10_end := ⟨kX10_end, lw_in (i := 1675) (by decide +kernel) rfl, lw_in (i := 1676) (by decide +kernel) rfl⟩
abbrev mX10_wants : MD := (yX10_wants, cX10_wants, 3, (Option.none : Option Jvm.ClassFile.FieldType))
set_option maxRecDepth 100000 in
theorem kX10_wants : MOK mX10_wants := ⟨lw_in (i := 1703) (by rfl) rfl, lw_in (i := 106) (by decide +kernel) rfl, by decide +kernel, by decide +kernel, by decide +kernel⟩
theorem vX10_wants : MOV mX10_wants := ⟨kX10_wants, lw_in (i := 1702) (by decide +kernel) rfl, lw_in (i := 89) (by decide +kernel) rfl⟩
abbrev mX10_look : MD := (yX10_look, cX10_look, 2, (Option.some Jvm.ClassFile.FieldType.int))
set_option maxRecDepth 100000 in
theorem kX10_look : MOK mX10_look := ⟨lw_in (i := 1689) (by rfl) rfl, lw_in (i := 106) (by decide +kernel) rfl, by decide +kernel, by decide +kernel, by decide +kernel⟩
theorem vX10_look : MOV mX10_look := ⟨kX10_look, lw_in (i := 1688) (by decide +kernel) rfl, lw_in (i := 86) (by decide +kernel) rfl⟩
abbrev mX10_is : MD := (yX10_is, cX10_is, 7, (Option.some Jvm.ClassFile.FieldType.boolean))
set_option maxRecDepth 100000 in
theorem kX10_is : MOK mX10_is := ⟨lw_in (i := 1699) (by rfl) rfl, lw_in (i := 106) (by decide +kernel) rfl, by decide +kernel, by decide +kernel, by decide +kernel⟩
theorem vX10_is : MOV mX10_is := ⟨kX10_is, lw_in (i := 1698) (by decide +kernel) rfl, lw_in (i := 88) (by decide +kernel) rfl⟩
abbrev mX10_nameNow : MD := (yX10_nameNow, cX10_nameNow, 1, (Option.some Jvm.ClassFile.FieldType.int))
set_option maxRecDepth 100000 in
theorem kX10_nameNow : MOK mX10_nameNow := ⟨lw_in (i := 1695) (by rfl) rfl, lw_in (i := 106) (by decide +kernel) rfl, by decide +kernel, by decide +kernel, by decide +kernel⟩
theorem vX10_nameNow : MOV mX10_nameNow := ⟨kX10_nameNow, lw_in (i := 1694) (by decide +kernel) rfl, lw_in (i := 87) (by decide +kernel) rfl⟩
abbrev mX10_next : MD := (yX10_next, cX10_next, 2, (Option.none : Option Jvm.ClassFile.FieldType))
set_option maxRecDepth 100000 in
theorem kX10_next : MOK mX10_next := ⟨lw_in (i := 1685) (by rfl) rfl, lw_in (i := 106) (by decide +kernel) rfl, by decide +kernel, by decide +kernel, by decide +kernel⟩
theorem vX10_next : MOV mX10_next := ⟨kX10_next, lw_in (i := 1684) (by decide +kernel) rfl, lw_in (i := 85) (by decide +kernel) rfl⟩
abbrev mX10_readOn : MD := (yX10_readOn, cX10_readOn, 4, (Option.some Jvm.ClassFile.FieldType.int))
set_option maxRecDepth 100000 in
theorem kX10_readOn : MOK mX10_readOn := ⟨lw_in (i := 1713) (by rfl) rfl, lw_in (i := 106) (by decide +kernel) rfl, by decide +kernel, by decide +kernel, by decide +kernel⟩
theorem vX10_readOn : MOV mX10_readOn := ⟨kX10_readOn, lw_in (i := 1712) (by decide +kernel) rfl, lw_in (i := 91) (by decide +kernel) rfl⟩
abbrev mX10_readClaim : MD := (yX10_readClaim, cX10_readClaim, 5, (Option.some Jvm.ClassFile.FieldType.int))
set_option maxRecDepth 100000 in
theorem kX10_readClaim : MOK mX10_readClaim := ⟨lw_in (i := 1709) (by rfl) rfl, lw_in (i := 106) (by decide +kernel) rfl, by decide +kernel, by decide +kernel, by decide +kernel⟩
theorem vX10_readClaim : MOV mX10_readClaim := ⟨kX10_readClaim, lw_in (i := 1708) (by decide +kernel) rfl, lw_in (i := 90) (by decide +kernel) rfl⟩
abbrev mX10_claims : MD := (yX10_claims, cX10_claims, 3, (Option.some Jvm.ClassFile.FieldType.int))
set_option maxRecDepth 100000 in
theorem kX10_claims : MOK mX10_claims := ⟨lw_in (i := 1681) (by rfl) rfl, lw_in (i := 106) (by decide +kernel) rfl, by decide +kernel, by decide +kernel, by decide +kernel⟩
theorem vX10_claims : MOV mX10_claims := ⟨kX10_claims, lw_in (i := 1679) (by decide +kernel) rfl, lw_in (i := 1680) (by decide +kernel) rfl⟩
abbrev mX10_fault : MD := (yX10_fault, cX10_fault, 1, (Option.some Jvm.ClassFile.FieldType.int))
set_option maxRecDepth 100000 in
theorem kX10_fault : MOK mX10_fault := ⟨lw_in (i := 1717) (by rfl) rfl, lw_in (i := 106) (by decide +kernel) rfl, by decide +kernel, by decide +kernel, by decide +kernel⟩
theorem vX10_fault : MOV mX10_fault := ⟨kX10_fault, lw_in (i := 1715) (by decide +kernel) rfl, lw_in (i := 1716) (by decide +kernel) rfl⟩
abbrev mX10_isClaim : MD := (yX10_isClaim, cX10_isClaim, 2, (Option.some Jvm.ClassFile.FieldType.boolean))
set_option maxRecDepth 100000 in
theorem kX10_isClaim : MOK mX10_isClaim := ⟨lw_in (i := 1725) (by rfl) rfl, lw_in (i := 106) (by decide +kernel) rfl, by decide +kernel, by decide +kernel, by decide +kernel⟩
theorem vX10_isClaim : MOV mX10_isClaim := ⟨kX10_isClaim, lw_in (i := 1724) (by decide +kernel) rfl, lw_in (i := 92) (by decide +kernel) rfl⟩
abbrev mX10_hanging : MD := (yX10_hanging, cX10_hanging, 4, (Option.some Jvm.ClassFile.FieldType.int))
set_option maxRecDepth 100000 in
theorem kX10_hanging : MOK mX10_hanging := ⟨lw_in (i := 1729) (by rfl) rfl, lw_in (i := 106) (by decide +kernel) rfl, by decide +kernel, by decide +kernel, by decide +kernel⟩
theorem vX10_hanging : MOV mX10_hanging := ⟨kX10_hanging, lw_in (i := 1728) (by decide +kernel) rfl, lw_in (i := 93) (by decide +kernel) rfl⟩
abbrev mX10_deepOf : MD := (yX10_deepOf, cX10_deepOf, 4, (Option.some Jvm.ClassFile.FieldType.int))
set_option maxRecDepth 100000 in
theorem kX10_deepOf : MOK mX10_deepOf := ⟨lw_in (i := 1733) (by rfl) rfl, lw_in (i := 106) (by decide +kernel) rfl, by decide +kernel, by decide +kernel, by decide +kernel⟩
theorem vX10_deepOf : MOV mX10_deepOf := ⟨kX10_deepOf, lw_in (i := 1732) (by decide +kernel) rfl, lw_in (i := 94) (by decide +kernel) rfl⟩
abbrev mX10_claim : MD := (yX10_claim, cX10_claim, 6, (Option.some Jvm.ClassFile.FieldType.int))
set_option maxRecDepth 100000 in
theorem kX10_claim : MOK mX10_claim := ⟨lw_in (i := 1721) (by rfl) rfl, lw_in (i := 106) (by decide +kernel) rfl, by decide +kernel, by decide +kernel, by decide +kernel⟩
theorem vX10_claim : MOV mX10_claim := ⟨kX10_claim, lw_in (i := 1719) (by decide +kernel) rfl, lw_in (i := 1720) (by decide +kernel) rfl⟩
abbrev mX10_withdraw : MD := (yX10_withdraw, cX10_withdraw, 5, (Option.some Jvm.ClassFile.FieldType.int))
set_option maxRecDepth 100000 in
theorem kX10_withdraw : MOK mX10_withdraw := ⟨lw_in (i := 1737) (by rfl) rfl, lw_in (i := 106) (by decide +kernel) rfl, by decide +kernel, by decide +kernel, by decide +kernel⟩
theorem vX10_withdraw : MOV mX10_withdraw := ⟨kX10_withdraw, lw_in (i := 1735) (by decide +kernel) rfl, lw_in (i := 1736) (by decide +kernel) rfl⟩
abbrev mX10_day : MD := (yX10_day, cX10_day, 3, (Option.some Jvm.ClassFile.FieldType.int))
set_option maxRecDepth 100000 in
theorem kX10_day : MOK mX10_day := ⟨lw_in (i := 1741) (by rfl) rfl, lw_in (i := 106) (by decide +kernel) rfl, by decide +kernel, by decide +kernel, by decide +kernel⟩
theorem vX10_day : MOV mX10_day := ⟨kX10_day, lw_in (i := 1739) (by decide +kernel) rfl, lw_in (i := 1740) (by decide +kernel) rfl⟩
abbrev mX10_known : MD := (yX10_known, cX10_known, 7, (Option.some Jvm.ClassFile.FieldType.int))
set_option maxRecDepth 100000 in
theorem kX10_known : MOK mX10_known := ⟨lw_in (i := 1746) (by rfl) rfl, lw_in (i := 106) (by decide +kernel) rfl, by decide +kernel, by decide +kernel, by decide +kernel⟩
theorem vX10_known : MOV mX10_known := ⟨kX10_known, lw_in (i := 1744) (by decide +kernel) rfl, lw_in (i := 1745) (by decide +kernel) rfl⟩
abbrev mX10_isSheet : MD := (yX10_isSheet, cX10_isSheet, 2, (Option.some Jvm.ClassFile.FieldType.boolean))
set_option maxRecDepth 100000 in
theorem kX10_isSheet : MOK mX10_isSheet := ⟨lw_in (i := 1753) (by rfl) rfl, lw_in (i := 106) (by decide +kernel) rfl, by decide +kernel, by decide +kernel, by decide +kernel⟩
theorem vX10_isSheet : MOS mX10_isSheet := ⟨kX10_isSheet, lw_in (i := 1752) (by decide +kernel) rfl⟩
abbrev mX10_sheet : MD := (yX10_sheet, cX10_sheet, 5, (Option.some Jvm.ClassFile.FieldType.int))
set_option maxRecDepth 100000 in
theorem kX10_sheet : MOK mX10_sheet := ⟨lw_in (i := 1750) (by rfl) rfl, lw_in (i := 106) (by decide +kernel) rfl, by decide +kernel, by decide +kernel, by decide +kernel⟩
theorem vX10_sheet : MOV mX10_sheet := ⟨kX10_sheet, lw_in (i := 1748) (by decide +kernel) rfl, lw_in (i := 1749) (by decide +kernel) rfl⟩
abbrev mX10_lay : MD := (yX10_lay, cX10_lay, 4, (Option.some Jvm.ClassFile.FieldType.int))
set_option maxRecDepth 100000 in
theorem kX10_lay : MOK mX10_lay := ⟨lw_in (i := 1757) (by rfl) rfl, lw_in (i := 106) (by decide +kernel) rfl, by decide +kernel, by decide +kernel, by decide +kernel⟩
theorem vX10_lay : MOV mX10_lay := ⟨kX10_lay, lw_in (i := 1755) (by decide +kernel) rfl, lw_in (i := 1756) (by decide +kernel) rfl⟩
abbrev mX10_text : MD := (yX10_text, cX10_text, 8, (Option.some Jvm.ClassFile.FieldType.int))
set_option maxRecDepth 100000 in
theorem kX10_text : MOK mX10_text := ⟨lw_in (i := 1761) (by rfl) rfl, lw_in (i := 106) (by decide +kernel) rfl, by decide +kernel, by decide +kernel, by decide +kernel⟩
theorem vX10_text : MOV mX10_text := ⟨kX10_text, lw_in (i := 1759) (by decide +kernel) rfl, lw_in (i := 1760) (by decide +kernel) rfl⟩
abbrev mX10_count : MD := (yX10_count, cX10_count, 4, (Option.some Jvm.ClassFile.FieldType.int))
set_option maxRecDepth 100000 in
theorem kX10_count : MOK mX10_count := ⟨lw_in (i := 1767) (by rfl) rfl, lw_in (i := 106) (by decide +kernel) rfl, by decide +kernel, by decide +kernel, by decide +kernel⟩
theorem vX10_count : MOV mX10_count := ⟨kX10_count, lw_in (i := 1765) (by decide +kernel) rfl, lw_in (i := 1766) (by decide +kernel) rfl⟩
abbrev mJ6_compare_7cf53 : MD := (yJ6_compare_7cf53, cJ6_compare_7cf53, 2, (Option.some Jvm.ClassFile.FieldType.int))
set_option maxRecDepth 100000 in
theorem kJ6_compare_7cf53 : MOK mJ6_compare_7cf53 := ⟨lw_in (i := 674) (by rfl) rfl, lw_in (i := 107) (by decide +kernel) rfl, by decide +kernel, by decide +kernel, by decide +kernel⟩
theorem vJ6_compare_7cf53 : MOS mJ6_compare_7cf53 := ⟨kJ6_compare_7cf53, lw_in (i := 673) (by decide +kernel) rfl⟩
abbrev mJ6_bitCount_0f7a4 : MD := (yJ6_bitCount_0f7a4, cJ6_bitCount_0f7a4, 1, (Option.some Jvm.ClassFile.FieldType.int))
set_option maxRecDepth 100000 in
theorem kJ6_bitCount_0f7a4 : MOK mJ6_bitCount_0f7a4 := ⟨lw_in (i := 453) (by rfl) rfl, lw_in (i := 107) (by decide +kernel) rfl, by decide +kernel, by decide +kernel, by decide +kernel⟩
theorem vJ6_bitCount_0f7a4 : MOS mJ6_bitCount_0f7a4 := ⟨kJ6_bitCount_0f7a4, lw_in (i := 452) (by decide +kernel) rfl⟩
