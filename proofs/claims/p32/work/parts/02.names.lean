theorem goodIn_r {big : List Cond} (ws : List Cond) (ps : List Nat) (hp : ws = ps.filterMap (fun i => big[i]?)) (h : ws.all goodWord = true) : GoodIn big ws := by
  intro w hw
  have h1 := List.all_eq_true.mp h w hw
  rw [hp] at hw
  obtain ⟨i, -, hi⟩ := List.mem_filterMap.mp hw
  have hm : w ∈ big := by first | exact List.mem_of_getElem? hi | exact List.getElem?_mem hi
  exact ⟨hm, good_of_word h1⟩
theorem goodIn_app {big a b : List Cond} (ha : GoodIn big a) (hb : GoodIn big b) : GoodIn big (a ++ b) := fun w h => (List.mem_append.mp h).elim (ha w) (hb w)
theorem goodIn_ca {big a b : List Cond} {c : Cond} (ha : GoodIn big (c :: a)) (hb : GoodIn big b) : GoodIn big (c :: (a ++ b)) := fun w h => (List.mem_cons.mp h).elim (fun e => ha w (List.mem_cons.mpr (Or.inl e))) (fun h => (List.mem_append.mp h).elim (fun h => ha w (List.mem_cons.mpr (Or.inr h))) (hb w))
theorem goodIn_sub {big ws : List Cond} (hm : ∀ w ∈ ws, w ∈ big) (h : ws.all goodWord = true) : GoodIn big ws := fun w hw => ⟨hm w hw, good_of_word (List.all_eq_true.mp h w hw)⟩
def RX0 : String := "GlacierGuides$Guide"
def TX0 : u_T := fun k => match k with
  | 0 => ("GlacierGuides$Guide", "kind", "I", false)
  | 1 => ("GlacierGuides$Guide", "until", "I", false)
  | 2 => ("GlacierGuides$Guide", "toursLed", "I", false)
  | _ => ("GlacierGuides$Guide", "guestsLed", "I", false)
def tyX0 : Nat → FieldType := fun k => match k with
  | 0 => .int
  | 1 => .int
  | 2 => .int
  | _ => .int
abbrev wsX00 : List Cond := u_ws RX0 TX0 4
theorem nmX0 : ∀ a, a < 4 → ∀ b, b < 4 → a ≠ b → (TX0 a).2.1 ≠ (TX0 b).2.1 := by decide +kernel
theorem tyX0_ok : ∀ k, k < 4 → parseFieldDescriptor (TX0 k).2.2.1 = some (tyX0 k) := by decide +kernel
abbrev cX0_init : ByteArray := prog_2_method_1_code
def yX0_init : MethodName := ⟨RX0, "<init>", "()V"⟩
abbrev cX0_begin : ByteArray := prog_2_method_2_code
def yX0_begin : MethodName := ⟨RX0, "begin", "(II)V"⟩
abbrev cX0_copyFrom : ByteArray := prog_2_method_3_code
def yX0_copyFrom : MethodName := ⟨RX0, "copyFrom", "(LGlacierGuides$Guide;)V"⟩
abbrev cX0_haveLed : ByteArray := prog_2_method_4_code
def yX0_haveLed : MethodName := ⟨RX0, "haveLed", "(I)V"⟩
abbrev cX0_certify : ByteArray := prog_2_method_5_code
def yX0_certify : MethodName := ⟨RX0, "certify", "(II)V"⟩
abbrev cX0_isValidOn : ByteArray := prog_2_method_6_code
def yX0_isValidOn : MethodName := ⟨RX0, "isValidOn", "(I)Z"⟩
def RX1 : String := "GlacierGuides$History"
def TX1 : u_T := fun k => match k with
  | 0 => ("GlacierGuides$History", "states", "[LGlacierGuides$State;", true)
  | 1 => ("GlacierGuides$History", "oldest", "I", false)
  | _ => ("GlacierGuides$History", "size", "I", false)
def tyX1 : Nat → FieldType := fun k => match k with
  | 0 => .array (.object "GlacierGuides$State")
  | 1 => .int
  | _ => .int
abbrev wsX10 : List Cond := u_ws RX1 TX1 3
theorem nmX1 : ∀ a, a < 3 → ∀ b, b < 3 → a ≠ b → (TX1 a).2.1 ≠ (TX1 b).2.1 := by decide +kernel
theorem tyX1_ok : ∀ k, k < 3 → parseFieldDescriptor (TX1 k).2.2.1 = some (tyX1 k) := by decide +kernel
abbrev cX1_init : ByteArray := prog_3_method_1_code
def yX1_init : MethodName := ⟨RX1, "<init>", "()V"⟩
abbrev cX1_record : ByteArray := prog_3_method_2_code
def yX1_record : MethodName := ⟨RX1, "record", "(LGlacierGuides$State;)V"⟩
abbrev cX1_takeBack : ByteArray := prog_3_method_3_code
def yX1_takeBack : MethodName := ⟨RX1, "takeBack", "(LGlacierGuides$State;)V"⟩
def RX2 : String := "GlacierGuides$State"
def TX2 : u_T := fun k => match k with
  | 0 => ("GlacierGuides$State", "guides", "[LGlacierGuides$Guide;", true)
  | 1 => ("GlacierGuides$State", "thicknesses", "[D", true)
  | 2 => ("GlacierGuides$State", "tours", "[LGlacierGuides$Tour;", true)
  | 3 => ("GlacierGuides$State", "guideCount", "I", false)
  | 4 => ("GlacierGuides$State", "bridgeCount", "I", false)
  | 5 => ("GlacierGuides$State", "tourCount", "I", false)
  | 6 => ("GlacierGuides$State", "day", "I", false)
  | 7 => ("GlacierGuides$State", "degreeBits", "J", false)
  | 8 => ("GlacierGuides$State", "degrees", "D", false)
  | _ => ("GlacierGuides$State", "refunded", "I", false)
def tyX2 : Nat → FieldType := fun k => match k with
  | 0 => .array (.object "GlacierGuides$Guide")
  | 1 => .array .double
  | 2 => .array (.object "GlacierGuides$Tour")
  | 3 => .int
  | 4 => .int
  | 5 => .int
  | 6 => .int
  | 7 => .long
  | 8 => .double
  | _ => .int
abbrev wsX20 : List Cond := u_ws RX2 TX2 10
theorem nmX2 : ∀ a, a < 10 → ∀ b, b < 10 → a ≠ b → (TX2 a).2.1 ≠ (TX2 b).2.1 := by decide +kernel
theorem tyX2_ok : ∀ k, k < 10 → parseFieldDescriptor (TX2 k).2.2.1 = some (tyX2 k) := by decide +kernel
abbrev cX2_init : ByteArray := prog_4_method_1_code
def yX2_init : MethodName := ⟨RX2, "<init>", "()V"⟩
abbrev cX2_copyFrom : ByteArray := prog_4_method_2_code
def yX2_copyFrom : MethodName := ⟨RX2, "copyFrom", "(LGlacierGuides$State;)V"⟩
abbrev cX2_guideAt : ByteArray := prog_4_method_3_code
def yX2_guideAt : MethodName := ⟨RX2, "guideAt", "(I)LGlacierGuides$Guide;"⟩
abbrev cX2_tourAt : ByteArray := prog_4_method_4_code
def yX2_tourAt : MethodName := ⟨RX2, "tourAt", "(I)LGlacierGuides$Tour;"⟩
abbrev cX2_hasBridge : ByteArray := prog_4_method_5_code
def yX2_hasBridge : MethodName := ⟨RX2, "hasBridge", "(I)Z"⟩
abbrev cX2_hasBridges : ByteArray := prog_4_method_6_code
def yX2_hasBridges : MethodName := ⟨RX2, "hasBridges", "(I)Z"⟩
abbrev cX2_mayLead : ByteArray := prog_4_method_7_code
def yX2_mayLead : MethodName := ⟨RX2, "mayLead", "(ILGlacierGuides$Tour;)Z"⟩
abbrev cX2_isBusyOn : ByteArray := prog_4_method_8_code
def yX2_isBusyOn : MethodName := ⟨RX2, "isBusyOn", "(II)Z"⟩
abbrev cX2_ratioOf : ByteArray := prog_4_method_9_code
def yX2_ratioOf : MethodName := ⟨RX2, "ratioOf", "(ILGlacierGuides$Tour;)I"⟩
abbrev cX2_leftAfter : ByteArray := prog_4_method_10_code
def yX2_leftAfter : MethodName := ⟨RX2, "leftAfter", "(LGlacierGuides$Tour;I)I"⟩
abbrev cX2_guestsOnRope : ByteArray := prog_4_method_11_code
def yX2_guestsOnRope : MethodName := ⟨RX2, "guestsOnRope", "(LGlacierGuides$Tour;I)I"⟩
abbrev cX2_firstOpenTourOf : ByteArray := prog_4_method_12_code
def yX2_firstOpenTourOf : MethodName := ⟨RX2, "firstOpenTourOf", "(I)I"⟩
abbrev cX2_neededBy : ByteArray := prog_4_method_13_code
def yX2_neededBy : MethodName := ⟨RX2, "neededBy", "(LGlacierGuides$Tour;)D"⟩
abbrev cX2_allBridgesHold : ByteArray := prog_4_method_14_code
def yX2_allBridgesHold : MethodName := ⟨RX2, "allBridgesHold", "(LGlacierGuides$Tour;)Z"⟩
abbrev cX2_dayLater : ByteArray := prog_4_method_15_code
def yX2_dayLater : MethodName := ⟨RX2, "dayLater", "(D)D"⟩
abbrev cX2_causeAgainst : ByteArray := prog_4_method_16_code
def yX2_causeAgainst : MethodName := ⟨RX2, "causeAgainst", "(LGlacierGuides$Tour;)I"⟩
abbrev cX2_allGuidesAreValid : ByteArray := prog_4_method_17_code
def yX2_allGuidesAreValid : MethodName := ⟨RX2, "allGuidesAreValid", "(LGlacierGuides$Tour;)Z"⟩
abbrev cX2_passDay : ByteArray := prog_4_method_18_code
def yX2_passDay : MethodName := ⟨RX2, "passDay", "()I"⟩
abbrev cX2_letGo : ByteArray := prog_4_method_19_code
def yX2_letGo : MethodName := ⟨RX2, "letGo", "(LGlacierGuides$Tour;)V"⟩
abbrev cX2_callOff : ByteArray := prog_4_method_20_code
def yX2_callOff : MethodName := ⟨RX2, "callOff", "(LGlacierGuides$Tour;I)I"⟩
abbrev cX2_payBack : ByteArray := prog_4_method_21_code
def yX2_payBack : MethodName := ⟨RX2, "payBack", "(LGlacierGuides$Tour;I)V"⟩
abbrev cX2_toursThatAre : ByteArray := prog_4_method_22_code
def yX2_toursThatAre : MethodName := ⟨RX2, "toursThatAre", "(I)I"⟩
abbrev cX2_allPaid : ByteArray := prog_4_method_23_code
def yX2_allPaid : MethodName := ⟨RX2, "allPaid", "()I"⟩
abbrev cX2_guestsGone : ByteArray := prog_4_method_24_code
def yX2_guestsGone : MethodName := ⟨RX2, "guestsGone", "()I"⟩
def RX3 : String := "GlacierGuides$Text"
def TX3 : u_T := fun k => match k with
  | 0 => ("GlacierGuides$Text", "characters", "[C", true)
  | 1 => ("GlacierGuides$Text", "length", "I", false)
  | 2 => ("GlacierGuides$Text", "command", "I", false)
  | 3 => ("GlacierGuides$Text", "first", "I", false)
  | _ => ("GlacierGuides$Text", "second", "I", false)
def tyX3 : Nat → FieldType := fun k => match k with
  | 0 => .array .char
  | 1 => .int
  | 2 => .int
  | 3 => .int
  | _ => .int
abbrev wsX30 : List Cond := u_ws RX3 TX3 5
theorem nmX3 : ∀ a, a < 5 → ∀ b, b < 5 → a ≠ b → (TX3 a).2.1 ≠ (TX3 b).2.1 := by decide +kernel
theorem tyX3_ok : ∀ k, k < 5 → parseFieldDescriptor (TX3 k).2.2.1 = some (tyX3 k) := by decide +kernel
abbrev cX3_init : ByteArray := prog_5_method_1_code
def yX3_init : MethodName := ⟨RX3, "<init>", "()V"⟩
abbrev cX3_read : ByteArray := prog_5_method_3_code
def yX3_read : MethodName := ⟨RX3, "read", "()I"⟩
abbrev cX3_wordLength : ByteArray := prog_5_method_4_code
def yX3_wordLength : MethodName := ⟨RX3, "wordLength", "()I"⟩
abbrev cX3_commandOf : ByteArray := prog_5_method_5_code
def yX3_commandOf : MethodName := ⟨RX3, "commandOf", "(I)I"⟩
abbrev cX3_isWord : ByteArray := prog_5_method_6_code
def yX3_isWord : MethodName := ⟨RX3, "isWord", "(Ljava/lang/String;I)Z"⟩
abbrev cX3_isBlankAt : ByteArray := prog_5_method_7_code
def yX3_isBlankAt : MethodName := ⟨RX3, "isBlankAt", "(I)Z"⟩
abbrev cX3_isDigitAt : ByteArray := prog_5_method_8_code
def yX3_isDigitAt : MethodName := ⟨RX3, "isDigitAt", "(I)Z"⟩
abbrev cX3_digitsAt : ByteArray := prog_5_method_9_code
def yX3_digitsAt : MethodName := ⟨RX3, "digitsAt", "(I)I"⟩
abbrev cX3_keepNumber : ByteArray := prog_5_method_10_code
def yX3_keepNumber : MethodName := ⟨RX3, "keepNumber", "(III)V"⟩
def RX4 : String := "GlacierGuides$Tour"
def TX4 : u_T := fun k => match k with
  | 0 => ("GlacierGuides$Tour", "row", "[I", true)
  | 1 => ("GlacierGuides$Tour", "day", "I", false)
  | 2 => ("GlacierGuides$Tour", "slope", "D", false)
  | 3 => ("GlacierGuides$Tour", "base", "I", false)
  | 4 => ("GlacierGuides$Tour", "price", "I", false)
  | 5 => ("GlacierGuides$Tour", "bridges", "I", false)
  | 6 => ("GlacierGuides$Tour", "guests", "I", false)
  | 7 => ("GlacierGuides$Tour", "guides", "I", false)
  | 8 => ("GlacierGuides$Tour", "paid", "I", false)
  | 9 => ("GlacierGuides$Tour", "state", "I", false)
  | _ => ("GlacierGuides$Tour", "cause", "I", false)
def tyX4 : Nat → FieldType := fun k => match k with
  | 0 => .array .int
  | 1 => .int
  | 2 => .double
  | 3 => .int
  | 4 => .int
  | 5 => .int
  | 6 => .int
  | 7 => .int
  | 8 => .int
  | 9 => .int
  | _ => .int
abbrev wsX40 : List Cond := u_ws RX4 TX4 11
theorem nmX4 : ∀ a, a < 11 → ∀ b, b < 11 → a ≠ b → (TX4 a).2.1 ≠ (TX4 b).2.1 := by decide +kernel
theorem tyX4_ok : ∀ k, k < 11 → parseFieldDescriptor (TX4 k).2.2.1 = some (tyX4 k) := by decide +kernel
abbrev cX4_init : ByteArray := prog_6_method_1_code
def yX4_init : MethodName := ⟨RX4, "<init>", "()V"⟩
abbrev cX4_begin : ByteArray := prog_6_method_2_code
def yX4_begin : MethodName := ⟨RX4, "begin", "(IDII)V"⟩
abbrev cX4_copyFrom : ByteArray := prog_6_method_3_code
def yX4_copyFrom : MethodName := ⟨RX4, "copyFrom", "(LGlacierGuides$Tour;)V"⟩
abbrev cX4_baseOf : ByteArray := prog_6_method_4_code
def yX4_baseOf : MethodName := ⟨RX4, "baseOf", "(D)I"⟩
abbrev cX4_hasInRow : ByteArray := prog_6_method_5_code
def yX4_hasInRow : MethodName := ⟨RX4, "hasInRow", "(I)Z"⟩
abbrev cX4_addToRow : ByteArray := prog_6_method_6_code
def yX4_addToRow : MethodName := ⟨RX4, "addToRow", "(I)V"⟩
abbrev cX4_takeFromRow : ByteArray := prog_6_method_7_code
def yX4_takeFromRow : MethodName := ⟨RX4, "takeFromRow", "(I)V"⟩
abbrev cX4_refundFor : ByteArray := prog_6_method_8_code
def yX4_refundFor : MethodName := ⟨RX4, "refundFor", "(II)I"⟩
abbrev cX4_shareAt : ByteArray := prog_6_method_9_code
def yX4_shareAt : MethodName := ⟨RX4, "shareAt", "(I)D"⟩
abbrev cX4_fitsInto : ByteArray := prog_6_method_10_code
def yX4_fitsInto : MethodName := ⟨RX4, "fitsInto", "(LGlacierGuides$Tour;)Z"⟩
abbrev cX4_moveInto : ByteArray := prog_6_method_11_code
def yX4_moveInto : MethodName := ⟨RX4, "moveInto", "(LGlacierGuides$Tour;)V"⟩
def RX5 : String := "GlacierGuides"
def TX5 : u_T := fun k => match k with
  | 0 => ("GlacierGuides", "now", "LGlacierGuides$State;", true)
  | 1 => ("GlacierGuides", "snapshot", "LGlacierGuides$State;", true)
  | 2 => ("GlacierGuides", "history", "LGlacierGuides$History;", true)
  | 3 => ("GlacierGuides", "text", "LGlacierGuides$Text;", true)
  | _ => ("GlacierGuides", "hasSnapshot", "Z", false)
def tyX5 : Nat → FieldType := fun k => match k with
  | 0 => .object "GlacierGuides$State"
  | 1 => .object "GlacierGuides$State"
  | 2 => .object "GlacierGuides$History"
  | 3 => .object "GlacierGuides$Text"
  | _ => .boolean
abbrev wsX50 : List Cond := u_ws RX5 TX5 5
theorem nmX5 : ∀ a, a < 5 → ∀ b, b < 5 → a ≠ b → (TX5 a).2.1 ≠ (TX5 b).2.1 := by decide +kernel
theorem tyX5_ok : ∀ k, k < 5 → parseFieldDescriptor (TX5 k).2.2.1 = some (tyX5 k) := by decide +kernel
abbrev cX5_init : ByteArray := prog_1_method_1_code
def yX5_init : MethodName := ⟨RX5, "<init>", "()V"⟩
abbrev cX5_addGuide : ByteArray := prog_1_method_2_code
def yX5_addGuide : MethodName := ⟨RX5, "addGuide", "(II)I"⟩
abbrev cX5_addBridge : ByteArray := prog_1_method_4_code
def yX5_addBridge : MethodName := ⟨RX5, "addBridge", "(J)I"⟩
abbrev cX5_setTemperature : ByteArray := prog_1_method_5_code
def yX5_setTemperature : MethodName := ⟨RX5, "setTemperature", "(J)I"⟩
abbrev cX5_addTour : ByteArray := prog_1_method_6_code
def yX5_addTour : MethodName := ⟨RX5, "addTour", "(IJII)I"⟩
abbrev cX5_book : ByteArray := prog_1_method_7_code
def yX5_book : MethodName := ⟨RX5, "book", "(II)I"⟩
abbrev cX5_leave : ByteArray := prog_1_method_8_code
def yX5_leave : MethodName := ⟨RX5, "leave", "(II)I"⟩
abbrev cX5_lead : ByteArray := prog_1_method_9_code
def yX5_lead : MethodName := ⟨RX5, "lead", "(II)I"⟩
abbrev cX5_release : ByteArray := prog_1_method_10_code
def yX5_release : MethodName := ⟨RX5, "release", "(II)I"⟩
abbrev cX5_merge : ByteArray := prog_1_method_11_code
def yX5_merge : MethodName := ⟨RX5, "merge", "(II)I"⟩
abbrev cX5_cancel : ByteArray := prog_1_method_12_code
def yX5_cancel : MethodName := ⟨RX5, "cancel", "(I)I"⟩
abbrev cX5_pass : ByteArray := prog_1_method_13_code
def yX5_pass : MethodName := ⟨RX5, "pass", "(I)I"⟩
abbrev cX5_perform : ByteArray := prog_1_method_16_code
def yX5_perform : MethodName := ⟨RX5, "perform", "()I"⟩
abbrev cX5_undo : ByteArray := prog_1_method_17_code
def yX5_undo : MethodName := ⟨RX5, "undo", "()I"⟩
abbrev cX5_keep : ByteArray := prog_1_method_18_code
def yX5_keep : MethodName := ⟨RX5, "keep", "()I"⟩
abbrev cX5_restore : ByteArray := prog_1_method_19_code
def yX5_restore : MethodName := ⟨RX5, "restore", "()I"⟩
abbrev cX5_guide : ByteArray := prog_1_method_20_code
def yX5_guide : MethodName := ⟨RX5, "guide", "(II)I"⟩
abbrev cX5_tour : ByteArray := prog_1_method_21_code
def yX5_tour : MethodName := ⟨RX5, "tour", "(II)I"⟩
abbrev cX5_rope : ByteArray := prog_1_method_22_code
def yX5_rope : MethodName := ⟨RX5, "rope", "(III)I"⟩
abbrev cX5_thickness : ByteArray := prog_1_method_23_code
def yX5_thickness : MethodName := ⟨RX5, "thickness", "(I)D"⟩
abbrev cX5_foretold : ByteArray := prog_1_method_24_code
def yX5_foretold : MethodName := ⟨RX5, "foretold", "(II)D"⟩
abbrev cX5_needed : ByteArray := prog_1_method_25_code
def yX5_needed : MethodName := ⟨RX5, "needed", "(I)D"⟩
abbrev cX5_holds : ByteArray := prog_1_method_26_code
def yX5_holds : MethodName := ⟨RX5, "holds", "(II)I"⟩
abbrev cX5_bestGuide : ByteArray := prog_1_method_27_code
def yX5_bestGuide : MethodName := ⟨RX5, "bestGuide", "(I)I"⟩
abbrev cX5_takes : ByteArray := prog_1_method_28_code
def yX5_takes : MethodName := ⟨RX5, "takes", "(II)I"⟩
abbrev cX5_count : ByteArray := prog_1_method_29_code
def yX5_count : MethodName := ⟨RX5, "count", "(I)I"⟩
abbrev cX5_temperature : ByteArray := prog_1_method_30_code
def yX5_temperature : MethodName := ⟨RX5, "temperature", "()J"⟩
abbrev cX5_isClass : ByteArray := prog_1_method_31_code
def yX5_isClass : MethodName := ⟨RX5, "isClass", "(I)Z"⟩
abbrev cX5_isLastDay : ByteArray := prog_1_method_32_code
def yX5_isLastDay : MethodName := ⟨RX5, "isLastDay", "(I)Z"⟩
abbrev cX5_isGuests : ByteArray := prog_1_method_33_code
def yX5_isGuests : MethodName := ⟨RX5, "isGuests", "(I)Z"⟩
abbrev cX5_isFromZeroTo : ByteArray := prog_1_method_34_code
def yX5_isFromZeroTo : MethodName := ⟨RX5, "isFromZeroTo", "(JJ)Z"⟩
abbrev cX5_isTemperature : ByteArray := prog_1_method_35_code
def yX5_isTemperature : MethodName := ⟨RX5, "isTemperature", "(J)Z"⟩
abbrev cX5_numberOf : ByteArray := prog_1_method_36_code
def yX5_numberOf : MethodName := ⟨RX5, "numberOf", "(J)D"⟩
abbrev cX5_halved : ByteArray := prog_1_method_37_code
def yX5_halved : MethodName := ⟨RX5, "halved", "(I)D"⟩
abbrev cX5_noNumber : ByteArray := prog_1_method_38_code
def yX5_noNumber : MethodName := ⟨RX5, "noNumber", "()D"⟩
def RX6 : String := "GlacierGuidesModel"
def TX6 : u_T := fun k => match k with
  | _ => ("", "", "", false)
def tyX6 : Nat → FieldType := fun k => match k with
  | _ => .int
abbrev wsX60 : List Cond := u_ws RX6 TX6 0
theorem nmX6 : ∀ a, a < 0 → ∀ b, b < 0 → a ≠ b → (TX6 a).2.1 ≠ (TX6 b).2.1 := by decide +kernel
theorem tyX6_ok : ∀ k, k < 0 → parseFieldDescriptor (TX6 k).2.2.1 = some (tyX6 k) := by decide +kernel
def RJ0 : String := "java/lang/String"
def TJ0 : u_T := fun k => match k with
  | _ => ("", "", "", false)
def tyJ0 : Nat → FieldType := fun k => match k with
  | _ => .int
theorem nmJ0 : ∀ a, a < 0 → ∀ b, b < 0 → a ≠ b → (TJ0 a).2.1 ≠ (TJ0 b).2.1 := by decide +kernel
theorem tyJ0_ok : ∀ k, k < 0 → parseFieldDescriptor (TJ0 k).2.2.1 = some (tyJ0 k) := by decide +kernel
abbrev cJ0_length_8abf5 : ByteArray := prog_9_method_54_code
def yJ0_length_8abf5 : MethodName := ⟨RJ0, "length", "()I"⟩
abbrev cJ0_charAt_5068e : ByteArray := prog_9_method_56_code
def yJ0_charAt_5068e : MethodName := ⟨RJ0, "charAt", "(I)C"⟩
abbrev cJ0_coder_7d493 : ByteArray := prog_9_method_152_code
def yJ0_coder_7d493 : MethodName := ⟨RJ0, "coder", "()B"⟩
abbrev cJ0_isLatin1_aae02 : ByteArray := prog_9_method_154_code
def yJ0_isLatin1_aae02 : MethodName := ⟨RJ0, "isLatin1", "()Z"⟩
abbrev cJ0_checkIndex_df160 : ByteArray := prog_9_method_155_code
def yJ0_checkIndex_df160 : MethodName := ⟨RJ0, "checkIndex", "(II)V"⟩
def RJ1 : String := "java/lang/StringLatin1"
def TJ1 : u_T := fun k => match k with
  | _ => ("", "", "", false)
def tyJ1 : Nat → FieldType := fun k => match k with
  | _ => .int
theorem nmJ1 : ∀ a, a < 0 → ∀ b, b < 0 → a ≠ b → (TJ1 a).2.1 ≠ (TJ1 b).2.1 := by decide +kernel
theorem tyJ1_ok : ∀ k, k < 0 → parseFieldDescriptor (TJ1 k).2.2.1 = some (tyJ1 k) := by decide +kernel
abbrev cJ1_charAt_3b067 : ByteArray := prog_10_method_2_code
def yJ1_charAt_3b067 : MethodName := ⟨RJ1, "charAt", "([BI)C"⟩
def RJ2 : String := "java/lang/StringUTF16"
def TJ2 : u_T := fun k => match k with
  | _ => ("", "", "", false)
def tyJ2 : Nat → FieldType := fun k => match k with
  | _ => .int
theorem nmJ2 : ∀ a, a < 0 → ∀ b, b < 0 → a ≠ b → (TJ2 a).2.1 ≠ (TJ2 b).2.1 := by decide +kernel
theorem tyJ2_ok : ∀ k, k < 0 → parseFieldDescriptor (TJ2 k).2.2.1 = some (tyJ2 k) := by decide +kernel
abbrev cJ2_getChar_3b067 : ByteArray := prog_11_method_5_code
def yJ2_getChar_3b067 : MethodName := ⟨RJ2, "getChar", "([BI)C"⟩
abbrev cJ2_length_9d52b : ByteArray := prog_11_method_6_code
def yJ2_length_9d52b : MethodName := ⟨RJ2, "length", "([B)I"⟩
abbrev cJ2_charAt_3b067 : ByteArray := prog_11_method_83_code
def yJ2_charAt_3b067 : MethodName := ⟨RJ2, "charAt", "([BI)C"⟩
abbrev cJ2_checkIndex_2214a : ByteArray := prog_11_method_91_code
def yJ2_checkIndex_2214a : MethodName := ⟨RJ2, "checkIndex", "(I[B)V"⟩
def RJ10 : String := "java/lang/System"
def TJ10 : u_T := fun k => match k with
  | _ => ("", "", "", false)
def tyJ10 : Nat → FieldType := fun k => match k with
  | _ => .int
theorem nmJ10 : ∀ a, a < 0 → ∀ b, b < 0 → a ≠ b → (TJ10 a).2.1 ≠ (TJ10 b).2.1 := by decide +kernel
theorem tyJ10_ok : ∀ k, k < 0 → parseFieldDescriptor (TJ10 k).2.2.1 = some (tyJ10 k) := by decide +kernel
def RJ3 : String := "jdk/internal/util/Preconditions"
def TJ3 : u_T := fun k => match k with
  | _ => ("", "", "", false)
def tyJ3 : Nat → FieldType := fun k => match k with
  | _ => .int
theorem nmJ3 : ∀ a, a < 0 → ∀ b, b < 0 → a ≠ b → (TJ3 a).2.1 ≠ (TJ3 b).2.1 := by decide +kernel
theorem tyJ3_ok : ∀ k, k < 0 → parseFieldDescriptor (TJ3 k).2.2.1 = some (tyJ3 k) := by decide +kernel
abbrev cJ3_checkIndex_8e157 : ByteArray := prog_13_method_11_code
def yJ3_checkIndex_8e157 : MethodName := ⟨RJ3, "checkIndex", "(IILjava/util/function/BiFunction;)I"⟩
def RL : String := "GlacierGuidesLaw"
abbrev cL_cell : ByteArray := method_2_code
def yL_cell : MethodName := ⟨RL, "cell", "([II)I"⟩
abbrev cL_low : ByteArray := method_3_code
def yL_low : MethodName := ⟨RL, "low", "(II)I"⟩
abbrev cL_digest : ByteArray := method_4_code
def yL_digest : MethodName := ⟨RL, "digest", "(LGlacierGuides;)J"⟩
abbrev cL_tour : ByteArray := method_5_code
def yL_tour : MethodName := ⟨RL, "tour", "(LGlacierGuides;I)Z"⟩
abbrev cL_accounts : ByteArray := method_6_code
def yL_accounts : MethodName := ⟨RL, "accounts", "(LGlacierGuides;)Z"⟩
abbrev cL_bits : ByteArray := method_7_code
def yL_bits : MethodName := ⟨RL, "bits", "(I)J"⟩
abbrev cL_adds : ByteArray := method_8_code
def yL_adds : MethodName := ⟨RL, "adds", "(LGlacierGuides;III)Z"⟩
abbrev cL_guests : ByteArray := method_9_code
def yL_guests : MethodName := ⟨RL, "guests", "(LGlacierGuides;III)Z"⟩
abbrev cL_rows : ByteArray := method_10_code
def yL_rows : MethodName := ⟨RL, "rows", "(LGlacierGuides;III)Z"⟩
abbrev cL_ends : ByteArray := method_11_code
def yL_ends : MethodName := ⟨RL, "ends", "(LGlacierGuides;III)Z"⟩
abbrev cL_passes : ByteArray := method_12_code
def yL_passes : MethodName := ⟨RL, "passes", "(LGlacierGuides;II)Z"⟩
abbrev cL_law : ByteArray := code
def yL_law : MethodName := ⟨RL, "law", "([I)Z"⟩
abbrev vwCl : List vw_C := [(RX0, TX0, 4), (RX1, TX1, 3), (RX2, TX2, 10), (RX3, TX3, 5), (RX4, TX4, 11), (RX5, TX5, 5)]
