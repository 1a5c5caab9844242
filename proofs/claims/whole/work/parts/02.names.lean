/-! ===== BEGIN words of one list among another's, by their places ===== -/
theorem goodIn_r {big : List Cond} (ws : List Cond) (ps : List Nat) (hp : ws = ps.filterMap (fun i => big[i]?)) (h : ws.all goodWord = true) : GoodIn big ws := by
  intro w hw
  have h1 := List.all_eq_true.mp h w hw
  rw [hp] at hw
  obtain ⟨i, -, hi⟩ := List.mem_filterMap.mp hw
  have hm : w ∈ big := by first | exact List.mem_of_getElem? hi | exact List.getElem?_mem hi
  exact ⟨hm, good_of_word h1⟩
theorem goodIn_app {big a b : List Cond} (ha : GoodIn big a) (hb : GoodIn big b) : GoodIn big (a ++ b) := fun w h => (List.mem_append.mp h).elim (ha w) (hb w)
theorem goodIn_ca {big a b : List Cond} {c : Cond} (ha : GoodIn big (c :: a)) (hb : GoodIn big b) : GoodIn big (c :: (a ++ b)) := fun w h => (List.mem_cons.mp h).elim (fun e => ha w (List.mem_cons.mpr (Or.inl e))) (fun h => (List.mem_append.mp h).elim (fun h => ha w (List.mem_cons.mpr (Or.inr h))) (hb w))
theorem goodIn_sub {big ws : List Cond} (hm : ∀ w ∈ ws, w ∈ big) (h : ws.all goodWord = true) : GoodIn big ws := fun w hw => ⟨hm w hw, good_of_word (List.all_eq_true.mp h w hw)⟩
/-! ===== END ===== -/

/-! ===== BEGIN printed: names, fields, word lists, decode rows ===== -/
def RX0 : String := "EndedByOthers$Matching"
def TX0 : u_T := fun k => match k with
  | 0 => ("EndedByOthers$Matching", "pleasing", "[I", true)
  | 1 => ("EndedByOthers$Matching", "picks", "[I", true)
  | _ => ("EndedByOthers$Matching", "ended", "I", false)
def tyX0 : Nat → FieldType := fun k => match k with
  | 0 => .array .int
  | 1 => .array .int
  | _ => .int
abbrev wsX00 : List Cond := u_ws RX0 TX0 3
theorem nmX0 : ∀ a, a < 3 → ∀ b, b < 3 → a ≠ b → (TX0 a).2.1 ≠ (TX0 b).2.1 := by decide +kernel
theorem tyX0_ok : ∀ k, k < 3 → parseFieldDescriptor (TX0 k).2.2.1 = some (tyX0 k) := by decide +kernel
abbrev cX0_init : ByteArray := prog_2_method_1_code
def yX0_init : MethodName := ⟨RX0, "<init>", "()V"⟩
abbrev cX0_solve : ByteArray := prog_2_method_2_code
def yX0_solve : MethodName := ⟨RX0, "solve", "()V"⟩
abbrev cX0_firstBestPick : ByteArray := prog_2_method_3_code
def yX0_firstBestPick : MethodName := ⟨RX0, "firstBestPick", "(II)I"⟩
abbrev cX0_mostFrom : ByteArray := prog_2_method_4_code
def yX0_mostFrom : MethodName := ⟨RX0, "mostFrom", "([III)I"⟩
def RX1 : String := "EndedByOthers$Page"
def TX1 : u_T := fun k => match k with
  | 0 => ("EndedByOthers$Page", "codes", "[I", true)
  | _ => ("EndedByOthers$Page", "length", "I", false)
def tyX1 : Nat → FieldType := fun k => match k with
  | 0 => .array .int
  | _ => .int
abbrev wsX10 : List Cond := u_ws RX1 TX1 2
theorem nmX1 : ∀ a, a < 2 → ∀ b, b < 2 → a ≠ b → (TX1 a).2.1 ≠ (TX1 b).2.1 := by decide +kernel
theorem tyX1_ok : ∀ k, k < 2 → parseFieldDescriptor (TX1 k).2.2.1 = some (tyX1 k) := by decide +kernel
abbrev cX1_init : ByteArray := prog_3_method_1_code
def yX1_init : MethodName := ⟨RX1, "<init>", "()V"⟩
abbrev cX1_add : ByteArray := prog_3_method_2_code
def yX1_add : MethodName := ⟨RX1, "add", "(I)V"⟩
def RX2 : String := "EndedByOthers$Reader"
def TX2 : u_T := fun k => match k with
  | 0 => ("EndedByOthers$Reader", "draft", "LEndedByOthers$Room;", true)
  | 1 => ("EndedByOthers$Reader", "opening", "I", false)
  | 2 => ("EndedByOthers$Reader", "lettersOfPart", "I", false)
  | _ => ("EndedByOthers$Reader", "lastCode", "I", false)
def tyX2 : Nat → FieldType := fun k => match k with
  | 0 => .object "EndedByOthers$Room"
  | 1 => .int
  | 2 => .int
  | _ => .int
abbrev wsX20 : List Cond := u_ws RX2 TX2 4
theorem nmX2 : ∀ a, a < 4 → ∀ b, b < 4 → a ≠ b → (TX2 a).2.1 ≠ (TX2 b).2.1 := by decide +kernel
theorem tyX2_ok : ∀ k, k < 4 → parseFieldDescriptor (TX2 k).2.2.1 = some (tyX2 k) := by decide +kernel
abbrev cX2_init : ByteArray := prog_4_method_1_code
def yX2_init : MethodName := ⟨RX2, "<init>", "()V"⟩
abbrev cX2_read : ByteArray := prog_4_method_2_code
def yX2_read : MethodName := ⟨RX2, "read", "(LEndedByOthers$Page;)I"⟩
abbrev cX2_hasWholeRoom : ByteArray := prog_4_method_3_code
def yX2_hasWholeRoom : MethodName := ⟨RX2, "hasWholeRoom", "()Z"⟩
abbrev cX2_takes : ByteArray := prog_4_method_4_code
def yX2_takes : MethodName := ⟨RX2, "takes", "(I)Z"⟩
abbrev cX2_takesInOpening : ByteArray := prog_4_method_5_code
def yX2_takesInOpening : MethodName := ⟨RX2, "takesInOpening", "(I)Z"⟩
abbrev cX2_takesInSpeaker : ByteArray := prog_4_method_6_code
def yX2_takesInSpeaker : MethodName := ⟨RX2, "takesInSpeaker", "(I)Z"⟩
abbrev cX2_takesKind : ByteArray := prog_4_method_7_code
def yX2_takesKind : MethodName := ⟨RX2, "takesKind", "(I)Z"⟩
abbrev cX2_takesWant : ByteArray := prog_4_method_8_code
def yX2_takesWant : MethodName := ⟨RX2, "takesWant", "(I)Z"⟩
abbrev cX2_takesNextSpeaker : ByteArray := prog_4_method_9_code
def yX2_takesNextSpeaker : MethodName := ⟨RX2, "takesNextSpeaker", "(I)Z"⟩
abbrev cX2_startPart : ByteArray := prog_4_method_10_code
def yX2_startPart : MethodName := ⟨RX2, "startPart", "()V"⟩
def RX3 : String := "EndedByOthers$Room"
def TX3 : u_T := fun k => match k with
  | 0 => ("EndedByOthers$Room", "fitting", "[I", true)
  | 1 => ("EndedByOthers$Room", "kinds", "[I", true)
  | 2 => ("EndedByOthers$Room", "wants", "[I", true)
  | _ => ("EndedByOthers$Room", "speakers", "I", false)
def tyX3 : Nat → FieldType := fun k => match k with
  | 0 => .array .int
  | 1 => .array .int
  | 2 => .array .int
  | _ => .int
abbrev wsX30 : List Cond := u_ws RX3 TX3 4
theorem nmX3 : ∀ a, a < 4 → ∀ b, b < 4 → a ≠ b → (TX3 a).2.1 ≠ (TX3 b).2.1 := by decide +kernel
theorem tyX3_ok : ∀ k, k < 4 → parseFieldDescriptor (TX3 k).2.2.1 = some (tyX3 k) := by decide +kernel
abbrev cX3_init : ByteArray := prog_5_method_1_code
def yX3_init : MethodName := ⟨RX3, "<init>", "()V"⟩
abbrev cX3_clear : ByteArray := prog_5_method_2_code
def yX3_clear : MethodName := ⟨RX3, "clear", "()V"⟩
abbrev cX3_copyFrom : ByteArray := prog_5_method_3_code
def yX3_copyFrom : MethodName := ⟨RX3, "copyFrom", "(LEndedByOthers$Room;)V"⟩
def RX4 : String := "EndedByOthers$Scene"
def TX4 : u_T := fun k => match k with
  | 0 => ("EndedByOthers$Scene", "wants", "[I", true)
  | 1 => ("EndedByOthers$Scene", "beginners", "[I", true)
  | 2 => ("EndedByOthers$Scene", "openings", "[I", true)
  | 3 => ("EndedByOthers$Scene", "enders", "[I", true)
  | 4 => ("EndedByOthers$Scene", "endings", "[I", true)
  | 5 => ("EndedByOthers$Scene", "sentences", "I", false)
  | 6 => ("EndedByOthers$Scene", "heardSpeakers", "[I", true)
  | 7 => ("EndedByOthers$Scene", "heardOpenings", "[I", true)
  | 8 => ("EndedByOthers$Scene", "heardEndings", "[I", true)
  | 9 => ("EndedByOthers$Scene", "heard", "I", false)
  | _ => ("EndedByOthers$Scene", "changes", "I", false)
def tyX4 : Nat → FieldType := fun k => match k with
  | 0 => .array .int
  | 1 => .array .int
  | 2 => .array .int
  | 3 => .array .int
  | 4 => .array .int
  | 5 => .int
  | 6 => .array .int
  | 7 => .array .int
  | 8 => .array .int
  | 9 => .int
  | _ => .int
abbrev wsX40 : List Cond := u_ws RX4 TX4 11
theorem nmX4 : ∀ a, a < 11 → ∀ b, b < 11 → a ≠ b → (TX4 a).2.1 ≠ (TX4 b).2.1 := by decide +kernel
theorem tyX4_ok : ∀ k, k < 11 → parseFieldDescriptor (TX4 k).2.2.1 = some (tyX4 k) := by decide +kernel
abbrev cX4_init : ByteArray := prog_6_method_1_code
def yX4_init : MethodName := ⟨RX4, "<init>", "()V"⟩
abbrev cX4_start : ByteArray := prog_6_method_2_code
def yX4_start : MethodName := ⟨RX4, "start", "([I)V"⟩
abbrev cX4_copyFrom : ByteArray := prog_6_method_3_code
def yX4_copyFrom : MethodName := ⟨RX4, "copyFrom", "(LEndedByOthers$Scene;)V"⟩
abbrev cX4_addSentence : ByteArray := prog_6_method_4_code
def yX4_addSentence : MethodName := ⟨RX4, "addSentence", "(II)I"⟩
abbrev cX4_addHeard : ByteArray := prog_6_method_5_code
def yX4_addHeard : MethodName := ⟨RX4, "addHeard", "(III)V"⟩
abbrev cX4_isOpen : ByteArray := prog_6_method_6_code
def yX4_isOpen : MethodName := ⟨RX4, "isOpen", "(I)Z"⟩
abbrev cX4_isAsWanted : ByteArray := prog_6_method_7_code
def yX4_isAsWanted : MethodName := ⟨RX4, "isAsWanted", "(I)Z"⟩
abbrev cX4_openOf : ByteArray := prog_6_method_8_code
def yX4_openOf : MethodName := ⟨RX4, "openOf", "(I)I"⟩
abbrev cX4_usedBy : ByteArray := prog_6_method_9_code
def yX4_usedBy : MethodName := ⟨RX4, "usedBy", "(I)I"⟩
abbrev cX4_howManyBegunBy : ByteArray := prog_6_method_10_code
def yX4_howManyBegunBy : MethodName := ⟨RX4, "howManyBegunBy", "(I)I"⟩
abbrev cX4_howManyEndedBy : ByteArray := prog_6_method_11_code
def yX4_howManyEndedBy : MethodName := ⟨RX4, "howManyEndedBy", "(I)I"⟩
abbrev cX4_howManyOpen : ByteArray := prog_6_method_12_code
def yX4_howManyOpen : MethodName := ⟨RX4, "howManyOpen", "()I"⟩
abbrev cX4_howManyAsWanted : ByteArray := prog_6_method_13_code
def yX4_howManyAsWanted : MethodName := ⟨RX4, "howManyAsWanted", "()I"⟩
abbrev cX4_howManyUnlikeEndings : ByteArray := prog_6_method_14_code
def yX4_howManyUnlikeEndings : MethodName := ⟨RX4, "howManyUnlikeEndings", "()I"⟩
def RX5 : String := "EndedByOthers$Trial"
def TX5 : u_T := fun k => match k with
  | 0 => ("EndedByOthers$Trial", "used", "[I", true)
  | 1 => ("EndedByOthers$Trial", "seed", "J", false)
  | 2 => ("EndedByOthers$Trial", "ended", "I", false)
  | _ => ("EndedByOthers$Trial", "asWanted", "I", false)
def tyX5 : Nat → FieldType := fun k => match k with
  | 0 => .array .int
  | 1 => .long
  | 2 => .int
  | _ => .int
abbrev wsX50 : List Cond := u_ws RX5 TX5 4
theorem nmX5 : ∀ a, a < 4 → ∀ b, b < 4 → a ≠ b → (TX5 a).2.1 ≠ (TX5 b).2.1 := by decide +kernel
theorem tyX5_ok : ∀ k, k < 4 → parseFieldDescriptor (TX5 k).2.2.1 = some (tyX5 k) := by decide +kernel
abbrev cX5_init : ByteArray := prog_7_method_1_code
def yX5_init : MethodName := ⟨RX5, "<init>", "()V"⟩
abbrev cX5_run : ByteArray := prog_7_method_2_code
def yX5_run : MethodName := ⟨RX5, "run", "(LEndedByOthers$Room;LEndedByOthers$Scene;II)V"⟩
abbrev cX5_talkOnce : ByteArray := prog_7_method_3_code
def yX5_talkOnce : MethodName := ⟨RX5, "talkOnce", "(LEndedByOthers$Room;LEndedByOthers$Scene;)V"⟩
abbrev cX5_draw : ByteArray := prog_7_method_4_code
def yX5_draw : MethodName := ⟨RX5, "draw", "(I)I"⟩
def RX6 : String := "EndedByOthers"
def TX6 : u_T := fun k => match k with
  | 0 => ("EndedByOthers", "page", "LEndedByOthers$Page;", true)
  | 1 => ("EndedByOthers", "reader", "LEndedByOthers$Reader;", true)
  | 2 => ("EndedByOthers", "room", "LEndedByOthers$Room;", true)
  | 3 => ("EndedByOthers", "scene", "LEndedByOthers$Scene;", true)
  | 4 => ("EndedByOthers", "image", "LEndedByOthers$Scene;", true)
  | 5 => ("EndedByOthers", "matching", "LEndedByOthers$Matching;", true)
  | 6 => ("EndedByOthers", "trial", "LEndedByOthers$Trial;", true)
  | 7 => ("EndedByOthers", "imageKept", "Z", false)
  | _ => ("EndedByOthers", "roomsRead", "I", false)
def tyX6 : Nat → FieldType := fun k => match k with
  | 0 => .object "EndedByOthers$Page"
  | 1 => .object "EndedByOthers$Reader"
  | 2 => .object "EndedByOthers$Room"
  | 3 => .object "EndedByOthers$Scene"
  | 4 => .object "EndedByOthers$Scene"
  | 5 => .object "EndedByOthers$Matching"
  | 6 => .object "EndedByOthers$Trial"
  | 7 => .boolean
  | _ => .int
abbrev wsX60 : List Cond := u_ws RX6 TX6 9
theorem nmX6 : ∀ a, a < 9 → ∀ b, b < 9 → a ≠ b → (TX6 a).2.1 ≠ (TX6 b).2.1 := by decide +kernel
theorem tyX6_ok : ∀ k, k < 9 → parseFieldDescriptor (TX6 k).2.2.1 = some (tyX6 k) := by decide +kernel
abbrev cX6_init : ByteArray := prog_1_method_1_code
def yX6_init : MethodName := ⟨RX6, "<init>", "()V"⟩
abbrev cX6_letter : ByteArray := prog_1_method_2_code
def yX6_letter : MethodName := ⟨RX6, "letter", "(I)I"⟩
abbrev cX6_blank : ByteArray := prog_1_method_3_code
def yX6_blank : MethodName := ⟨RX6, "blank", "()I"⟩
abbrev cX6_fault : ByteArray := prog_1_method_4_code
def yX6_fault : MethodName := ⟨RX6, "fault", "()I"⟩
abbrev cX6_room : ByteArray := prog_1_method_5_code
def yX6_room : MethodName := ⟨RX6, "room", "()I"⟩
abbrev cX6_fits : ByteArray := prog_1_method_6_code
def yX6_fits : MethodName := ⟨RX6, "fits", "(I)I"⟩
abbrev cX6_about : ByteArray := prog_1_method_7_code
def yX6_about : MethodName := ⟨RX6, "about", "(II)I"⟩
abbrev cX6_as : ByteArray := prog_1_method_8_code
def yX6_as : MethodName := ⟨RX6, "as", "(II)I"⟩
abbrev cX6_want : ByteArray := prog_1_method_9_code
def yX6_want : MethodName := ⟨RX6, "want", "(II)I"⟩
abbrev cX6_would : ByteArray := prog_1_method_10_code
def yX6_would : MethodName := ⟨RX6, "would", "(II)I"⟩
abbrev cX6_begin : ByteArray := prog_1_method_11_code
def yX6_begin : MethodName := ⟨RX6, "begin", "(II)I"⟩
abbrev cX6_end : ByteArray := prog_1_method_12_code
def yX6_end : MethodName := ⟨RX6, "end", "(II)I"⟩
abbrev cX6_sentence : ByteArray := prog_1_method_13_code
def yX6_sentence : MethodName := ⟨RX6, "sentence", "(II)I"⟩
abbrev cX6_match : ByteArray := prog_1_method_14_code
def yX6_match : MethodName := ⟨RX6, "match", "(I)I"⟩
abbrev cX6_hear : ByteArray := prog_1_method_15_code
def yX6_hear : MethodName := ⟨RX6, "hear", "(III)I"⟩
abbrev cX6_forget : ByteArray := prog_1_method_16_code
def yX6_forget : MethodName := ⟨RX6, "forget", "()I"⟩
abbrev cX6_talks : ByteArray := prog_1_method_17_code
def yX6_talks : MethodName := ⟨RX6, "talks", "(III)I"⟩
abbrev cX6_image : ByteArray := prog_1_method_18_code
def yX6_image : MethodName := ⟨RX6, "image", "()I"⟩
abbrev cX6_restore : ByteArray := prog_1_method_19_code
def yX6_restore : MethodName := ⟨RX6, "restore", "()I"⟩
abbrev cX6_count : ByteArray := prog_1_method_20_code
def yX6_count : MethodName := ⟨RX6, "count", "(I)I"⟩
abbrev cX6_digest : ByteArray := prog_1_method_21_code
def yX6_digest : MethodName := ⟨RX6, "digest", "()J"⟩
abbrev cX6_mixed : ByteArray := prog_1_method_22_code
def yX6_mixed : MethodName := ⟨RX6, "mixed", "(JJ)J"⟩
abbrev cX6_isSpeaker : ByteArray := prog_1_method_23_code
def yX6_isSpeaker : MethodName := ⟨RX6, "isSpeaker", "(I)Z"⟩
abbrev cX6_isSentence : ByteArray := prog_1_method_24_code
def yX6_isSentence : MethodName := ⟨RX6, "isSentence", "(I)Z"⟩
abbrev cX6_isOpening : ByteArray := prog_1_method_25_code
def yX6_isOpening : MethodName := ⟨RX6, "isOpening", "(I)Z"⟩
abbrev cX6_isEnding : ByteArray := prog_1_method_26_code
def yX6_isEnding : MethodName := ⟨RX6, "isEnding", "(I)Z"⟩
abbrev cX6_isOfKind : ByteArray := prog_1_method_27_code
def yX6_isOfKind : MethodName := ⟨RX6, "isOfKind", "(II)Z"⟩
abbrev cX6_endingBy : ByteArray := prog_1_method_28_code
def yX6_endingBy : MethodName := ⟨RX6, "endingBy", "(IIII)I"⟩
abbrev cX6_endingNow : ByteArray := prog_1_method_29_code
def yX6_endingNow : MethodName := ⟨RX6, "endingNow", "(II)I"⟩
abbrev cX6_has : ByteArray := prog_1_method_30_code
def yX6_has : MethodName := ⟨RX6, "has", "(II)Z"⟩
abbrev cX6_least : ByteArray := prog_1_method_31_code
def yX6_least : MethodName := ⟨RX6, "least", "(I)I"⟩
abbrev cX6_greatest : ByteArray := prog_1_method_32_code
def yX6_greatest : MethodName := ⟨RX6, "greatest", "(I)I"⟩
abbrev cX6_sureOpening : ByteArray := prog_1_method_33_code
def yX6_sureOpening : MethodName := ⟨RX6, "sureOpening", "(I)I"⟩
abbrev cX6_isSure : ByteArray := prog_1_method_34_code
def yX6_isSure : MethodName := ⟨RX6, "isSure", "(II)Z"⟩
abbrev cX6_possibleKinds : ByteArray := prog_1_method_35_code
def yX6_possibleKinds : MethodName := ⟨RX6, "possibleKinds", "(I)I"⟩
abbrev cX6_agreesWithHeard : ByteArray := prog_1_method_36_code
def yX6_agreesWithHeard : MethodName := ⟨RX6, "agreesWithHeard", "(II)Z"⟩
abbrev cX6_tellingOpening : ByteArray := prog_1_method_37_code
def yX6_tellingOpening : MethodName := ⟨RX6, "tellingOpening", "(II)I"⟩
abbrev cX6_mostKindsLeft : ByteArray := prog_1_method_38_code
def yX6_mostKindsLeft : MethodName := ⟨RX6, "mostKindsLeft", "(III)I"⟩
abbrev cX6_findPleasing : ByteArray := prog_1_method_39_code
def yX6_findPleasing : MethodName := ⟨RX6, "findPleasing", "()V"⟩
abbrev cX6_wouldPlease : ByteArray := prog_1_method_40_code
def yX6_wouldPlease : MethodName := ⟨RX6, "wouldPlease", "(II)Z"⟩
def RX7 : String := "EndedByOthersModel"
def TX7 : u_T := fun k => match k with
  | 0 => ("EndedByOthersModel", "page", "[I", true)
  | 1 => ("EndedByOthersModel", "pageMany", "I", false)
  | 2 => ("EndedByOthersModel", "part", "I", false)
  | 3 => ("EndedByOthersModel", "partMany", "I", false)
  | 4 => ("EndedByOthersModel", "lastOne", "I", false)
  | 5 => ("EndedByOthersModel", "readFits", "[I", true)
  | 6 => ("EndedByOthersModel", "readRows", "[I", true)
  | 7 => ("EndedByOthersModel", "readMany", "I", false)
  | 8 => ("EndedByOthersModel", "step", "I", false)
  | 9 => ("EndedByOthersModel", "speakers", "I", false)
  | 10 => ("EndedByOthersModel", "wants", "I", false)
  | 11 => ("EndedByOthersModel", "roomsRead", "I", false)
  | 12 => ("EndedByOthersModel", "fitting", "[I", true)
  | 13 => ("EndedByOthersModel", "rows", "[I", true)
  | 14 => ("EndedByOthersModel", "sentences", "I", false)
  | 15 => ("EndedByOthersModel", "said", "[I", true)
  | 16 => ("EndedByOthersModel", "row", "[I", true)
  | 17 => ("EndedByOthersModel", "bestRow", "[I", true)
  | 18 => ("EndedByOthersModel", "heardMany", "I", false)
  | 19 => ("EndedByOthersModel", "heards", "[I", true)
  | 20 => ("EndedByOthersModel", "parts", "[I", true)
  | 21 => ("EndedByOthersModel", "seedNow", "I", false)
  | 22 => ("EndedByOthersModel", "savedRows", "[I", true)
  | 23 => ("EndedByOthersModel", "keptRoom", "I", false)
  | 24 => ("EndedByOthersModel", "keptSentences", "I", false)
  | 25 => ("EndedByOthersModel", "keptWants", "I", false)
  | 26 => ("EndedByOthersModel", "keptHeard", "I", false)
  | 27 => ("EndedByOthersModel", "keptRows", "[I", true)
  | 28 => ("EndedByOthersModel", "keptSaid", "[I", true)
  | 29 => ("EndedByOthersModel", "keptHeards", "[I", true)
  | _ => ("EndedByOthersModel", "hash", "J", false)
def tyX7 : Nat → FieldType := fun k => match k with
  | 0 => .array .int
  | 1 => .int
  | 2 => .int
  | 3 => .int
  | 4 => .int
  | 5 => .array .int
  | 6 => .array .int
  | 7 => .int
  | 8 => .int
  | 9 => .int
  | 10 => .int
  | 11 => .int
  | 12 => .array .int
  | 13 => .array .int
  | 14 => .int
  | 15 => .array .int
  | 16 => .array .int
  | 17 => .array .int
  | 18 => .int
  | 19 => .array .int
  | 20 => .array .int
  | 21 => .int
  | 22 => .array .int
  | 23 => .int
  | 24 => .int
  | 25 => .int
  | 26 => .int
  | 27 => .array .int
  | 28 => .array .int
  | 29 => .array .int
  | _ => .long
abbrev wsX70 : List Cond := u_ws RX7 TX7 31
theorem nmX7 : ∀ a, a < 31 → ∀ b, b < 31 → a ≠ b → (TX7 a).2.1 ≠ (TX7 b).2.1 := by decide +kernel
theorem tyX7_ok : ∀ k, k < 31 → parseFieldDescriptor (TX7 k).2.2.1 = some (tyX7 k) := by decide +kernel
abbrev cX7_init : ByteArray := prog_9_method_1_code
def yX7_init : MethodName := ⟨RX7, "<init>", "()V"⟩
abbrev cX7_in : ByteArray := prog_9_method_2_code
def yX7_in : MethodName := ⟨RX7, "in", "(JJJ)Z"⟩
abbrev cX7_copy : ByteArray := prog_9_method_3_code
def yX7_copy : MethodName := ⟨RX7, "copy", "([I[I)V"⟩
abbrev cX7_letter : ByteArray := prog_9_method_4_code
def yX7_letter : MethodName := ⟨RX7, "letter", "(I)I"⟩
abbrev cX7_blank : ByteArray := prog_9_method_5_code
def yX7_blank : MethodName := ⟨RX7, "blank", "()I"⟩
abbrev cX7_kindBy : ByteArray := prog_9_method_6_code
def yX7_kindBy : MethodName := ⟨RX7, "kindBy", "(I)I"⟩
abbrev cX7_goOpening : ByteArray := prog_9_method_7_code
def yX7_goOpening : MethodName := ⟨RX7, "goOpening", "(I)Z"⟩
abbrev cX7_goSpeaker : ByteArray := prog_9_method_8_code
def yX7_goSpeaker : MethodName := ⟨RX7, "goSpeaker", "(I)Z"⟩
abbrev cX7_faultOf : ByteArray := prog_9_method_9_code
def yX7_faultOf : MethodName := ⟨RX7, "faultOf", "()I"⟩
abbrev cX7_fault : ByteArray := prog_9_method_10_code
def yX7_fault : MethodName := ⟨RX7, "fault", "()I"⟩
abbrev cX7_room : ByteArray := prog_9_method_11_code
def yX7_room : MethodName := ⟨RX7, "room", "()I"⟩
abbrev cX7_lacks : ByteArray := prog_9_method_12_code
def yX7_lacks : MethodName := ⟨RX7, "lacks", "()Z"⟩
abbrev cX7_isOpening : ByteArray := prog_9_method_13_code
def yX7_isOpening : MethodName := ⟨RX7, "isOpening", "(I)Z"⟩
abbrev cX7_isSpeaker : ByteArray := prog_9_method_14_code
def yX7_isSpeaker : MethodName := ⟨RX7, "isSpeaker", "(I)Z"⟩
abbrev cX7_fits : ByteArray := prog_9_method_15_code
def yX7_fits : MethodName := ⟨RX7, "fits", "(I)I"⟩
abbrev cX7_leastOf : ByteArray := prog_9_method_16_code
def yX7_leastOf : MethodName := ⟨RX7, "leastOf", "(I)I"⟩
abbrev cX7_greatestOf : ByteArray := prog_9_method_17_code
def yX7_greatestOf : MethodName := ⟨RX7, "greatestOf", "(I)I"⟩
abbrev cX7_ones : ByteArray := prog_9_method_18_code
def yX7_ones : MethodName := ⟨RX7, "ones", "(I)I"⟩
abbrev cX7_endsBy : ByteArray := prog_9_method_19_code
def yX7_endsBy : MethodName := ⟨RX7, "endsBy", "(IIII)I"⟩
abbrev cX7_wouldOf : ByteArray := prog_9_method_20_code
def yX7_wouldOf : MethodName := ⟨RX7, "wouldOf", "(II)I"⟩
abbrev cX7_openOf : ByteArray := prog_9_method_21_code
def yX7_openOf : MethodName := ⟨RX7, "openOf", "(I)I"⟩
abbrev cX7_saidBy : ByteArray := prog_9_method_22_code
def yX7_saidBy : MethodName := ⟨RX7, "saidBy", "(II)I"⟩
abbrev cX7_sureOf : ByteArray := prog_9_method_23_code
def yX7_sureOf : MethodName := ⟨RX7, "sureOf", "(I)I"⟩
abbrev cX7_tell : ByteArray := prog_9_method_24_code
def yX7_tell : MethodName := ⟨RX7, "tell", "(II)I"⟩
abbrev cX7_about : ByteArray := prog_9_method_25_code
def yX7_about : MethodName := ⟨RX7, "about", "(II)I"⟩
abbrev cX7_as : ByteArray := prog_9_method_26_code
def yX7_as : MethodName := ⟨RX7, "as", "(II)I"⟩
abbrev cX7_want : ByteArray := prog_9_method_27_code
def yX7_want : MethodName := ⟨RX7, "want", "(II)I"⟩
abbrev cX7_would : ByteArray := prog_9_method_28_code
def yX7_would : MethodName := ⟨RX7, "would", "(II)I"⟩
abbrev cX7_isSentence : ByteArray := prog_9_method_29_code
def yX7_isSentence : MethodName := ⟨RX7, "isSentence", "(I)Z"⟩
abbrev cX7_begin : ByteArray := prog_9_method_30_code
def yX7_begin : MethodName := ⟨RX7, "begin", "(II)I"⟩
abbrev cX7_end : ByteArray := prog_9_method_31_code
def yX7_end : MethodName := ⟨RX7, "end", "(II)I"⟩
abbrev cX7_isWanted : ByteArray := prog_9_method_32_code
def yX7_isWanted : MethodName := ⟨RX7, "isWanted", "(I)Z"⟩
abbrev cX7_tellSentence : ByteArray := prog_9_method_33_code
def yX7_tellSentence : MethodName := ⟨RX7, "tellSentence", "(II)I"⟩
abbrev cX7_sentence : ByteArray := prog_9_method_34_code
def yX7_sentence : MethodName := ⟨RX7, "sentence", "(II)I"⟩
abbrev cX7_endsAsWanted : ByteArray := prog_9_method_35_code
def yX7_endsAsWanted : MethodName := ⟨RX7, "endsAsWanted", "(II)Z"⟩
abbrev cX7_layRow : ByteArray := prog_9_method_36_code
def yX7_layRow : MethodName := ⟨RX7, "layRow", "(I)Z"⟩
abbrev cX7_matchOf : ByteArray := prog_9_method_37_code
def yX7_matchOf : MethodName := ⟨RX7, "matchOf", "(I)I"⟩
abbrev cX7_match : ByteArray := prog_9_method_38_code
def yX7_match : MethodName := ⟨RX7, "match", "(I)I"⟩
abbrev cX7_hear : ByteArray := prog_9_method_39_code
def yX7_hear : MethodName := ⟨RX7, "hear", "(III)I"⟩
abbrev cX7_forget : ByteArray := prog_9_method_40_code
def yX7_forget : MethodName := ⟨RX7, "forget", "()I"⟩
abbrev cX7_whichOf : ByteArray := prog_9_method_41_code
def yX7_whichOf : MethodName := ⟨RX7, "whichOf", "(I)I"⟩
abbrev cX7_beginOf : ByteArray := prog_9_method_42_code
def yX7_beginOf : MethodName := ⟨RX7, "beginOf", "(I)I"⟩
abbrev cX7_draw : ByteArray := prog_9_method_43_code
def yX7_draw : MethodName := ⟨RX7, "draw", "(I)I"⟩
abbrev cX7_talks : ByteArray := prog_9_method_44_code
def yX7_talks : MethodName := ⟨RX7, "talks", "(III)I"⟩
abbrev cX7_image : ByteArray := prog_9_method_45_code
def yX7_image : MethodName := ⟨RX7, "image", "()I"⟩
abbrev cX7_restore : ByteArray := prog_9_method_46_code
def yX7_restore : MethodName := ⟨RX7, "restore", "()I"⟩
abbrev cX7_wantedMany : ByteArray := prog_9_method_47_code
def yX7_wantedMany : MethodName := ⟨RX7, "wantedMany", "()I"⟩
abbrev cX7_unlike : ByteArray := prog_9_method_48_code
def yX7_unlike : MethodName := ⟨RX7, "unlike", "()I"⟩
abbrev cX7_countOf : ByteArray := prog_9_method_49_code
def yX7_countOf : MethodName := ⟨RX7, "countOf", "(I)I"⟩
abbrev cX7_count : ByteArray := prog_9_method_50_code
def yX7_count : MethodName := ⟨RX7, "count", "(I)I"⟩
abbrev cX7_say : ByteArray := prog_9_method_51_code
def yX7_say : MethodName := ⟨RX7, "say", "(J)V"⟩
abbrev cX7_saySpeaker : ByteArray := prog_9_method_52_code
def yX7_saySpeaker : MethodName := ⟨RX7, "saySpeaker", "(I)V"⟩
abbrev cX7_digest : ByteArray := prog_9_method_53_code
def yX7_digest : MethodName := ⟨RX7, "digest", "()J"⟩
def RJ11 : String := "java/lang/Character"
def TJ11 : u_T := fun k => match k with
  | _ => ("", "", "", false)
def tyJ11 : Nat → FieldType := fun k => match k with
  | _ => .int
abbrev wsJ110 : List Cond := u_ws RJ11 TJ11 0
theorem nmJ11 : ∀ a, a < 0 → ∀ b, b < 0 → a ≠ b → (TJ11 a).2.1 ≠ (TJ11 b).2.1 := by decide +kernel
theorem tyJ11_ok : ∀ k, k < 0 → parseFieldDescriptor (TJ11 k).2.2.1 = some (tyJ11 k) := by decide +kernel
abbrev cJ11_isValidCodePoint_9a6ad : ByteArray := prog_10_method_11_code
def yJ11_isValidCodePoint_9a6ad : MethodName := ⟨RJ11, "isValidCodePoint", "(I)Z"⟩
abbrev cJ11_highSurrogate_5068e : ByteArray := prog_10_method_28_code
def yJ11_highSurrogate_5068e : MethodName := ⟨RJ11, "highSurrogate", "(I)C"⟩
abbrev cJ11_lowSurrogate_5068e : ByteArray := prog_10_method_29_code
def yJ11_lowSurrogate_5068e : MethodName := ⟨RJ11, "lowSurrogate", "(I)C"⟩
def RJ6 : String := "java/lang/Integer"
def TJ6 : u_T := fun k => match k with
  | _ => ("", "", "", false)
def tyJ6 : Nat → FieldType := fun k => match k with
  | _ => .int
abbrev wsJ60 : List Cond := u_ws RJ6 TJ6 0
theorem nmJ6 : ∀ a, a < 0 → ∀ b, b < 0 → a ≠ b → (TJ6 a).2.1 ≠ (TJ6 b).2.1 := by decide +kernel
theorem tyJ6_ok : ∀ k, k < 0 → parseFieldDescriptor (TJ6 k).2.2.1 = some (tyJ6 k) := by decide +kernel
abbrev cJ6_bitCount_0f7a4 : ByteArray := prog_11_method_49_code
def yJ6_bitCount_0f7a4 : MethodName := ⟨RJ6, "bitCount", "(I)I"⟩
def RJ9 : String := "java/lang/Math"
def TJ9 : u_T := fun k => match k with
  | _ => ("", "", "", false)
def tyJ9 : Nat → FieldType := fun k => match k with
  | _ => .int
abbrev wsJ90 : List Cond := u_ws RJ9 TJ9 0
theorem nmJ9 : ∀ a, a < 0 → ∀ b, b < 0 → a ≠ b → (TJ9 a).2.1 ≠ (TJ9 b).2.1 := by decide +kernel
theorem tyJ9_ok : ∀ k, k < 0 → parseFieldDescriptor (TJ9 k).2.2.1 = some (tyJ9 k) := by decide +kernel
abbrev cJ9_max_7cf53 : ByteArray := prog_12_method_65_code
def yJ9_max_7cf53 : MethodName := ⟨RJ9, "max", "(II)I"⟩
abbrev cJ9_min_7cf53 : ByteArray := prog_12_method_69_code
def yJ9_min_7cf53 : MethodName := ⟨RJ9, "min", "(II)I"⟩
def RJ0 : String := "java/lang/String"
def TJ0 : u_T := fun k => match k with
  | _ => ("", "", "", false)
def tyJ0 : Nat → FieldType := fun k => match k with
  | _ => .int
abbrev wsJ00 : List Cond := u_ws RJ0 TJ0 0
theorem nmJ0 : ∀ a, a < 0 → ∀ b, b < 0 → a ≠ b → (TJ0 a).2.1 ≠ (TJ0 b).2.1 := by decide +kernel
theorem tyJ0_ok : ∀ k, k < 0 → parseFieldDescriptor (TJ0 k).2.2.1 = some (tyJ0 k) := by decide +kernel
abbrev cJ0_length_8abf5 : ByteArray := prog_13_method_54_code
def yJ0_length_8abf5 : MethodName := ⟨RJ0, "length", "()I"⟩
abbrev cJ0_indexOf_0f7a4 : ByteArray := prog_13_method_79_code
def yJ0_indexOf_0f7a4 : MethodName := ⟨RJ0, "indexOf", "(I)I"⟩
abbrev cJ0_indexOf_7cf53 : ByteArray := prog_13_method_80_code
def yJ0_indexOf_7cf53 : MethodName := ⟨RJ0, "indexOf", "(II)I"⟩
abbrev cJ0_coder_7d493 : ByteArray := prog_13_method_152_code
def yJ0_coder_7d493 : MethodName := ⟨RJ0, "coder", "()B"⟩
abbrev cJ0_isLatin1_aae02 : ByteArray := prog_13_method_154_code
def yJ0_isLatin1_aae02 : MethodName := ⟨RJ0, "isLatin1", "()Z"⟩
abbrev cJ0_checkBoundsBeginEnd_23922 : ByteArray := prog_13_method_158_code
def yJ0_checkBoundsBeginEnd_23922 : MethodName := ⟨RJ0, "checkBoundsBeginEnd", "(III)V"⟩
def RJ1 : String := "java/lang/StringLatin1"
def TJ1 : u_T := fun k => match k with
  | _ => ("", "", "", false)
def tyJ1 : Nat → FieldType := fun k => match k with
  | _ => .int
abbrev wsJ10 : List Cond := u_ws RJ1 TJ1 0
theorem nmJ1 : ∀ a, a < 0 → ∀ b, b < 0 → a ≠ b → (TJ1 a).2.1 ≠ (TJ1 b).2.1 := by decide +kernel
theorem tyJ1_ok : ∀ k, k < 0 → parseFieldDescriptor (TJ1 k).2.2.1 = some (tyJ1 k) := by decide +kernel
abbrev cJ1_canEncode_9a6ad : ByteArray := prog_14_method_4_code
def yJ1_canEncode_9a6ad : MethodName := ⟨RJ1, "canEncode", "(I)Z"⟩
abbrev cJ1_indexOf_4cfef : ByteArray := prog_14_method_22_code
def yJ1_indexOf_4cfef : MethodName := ⟨RJ1, "indexOf", "([BIII)I"⟩
abbrev cJ1_indexOfChar_4cfef : ByteArray := prog_14_method_23_code
def yJ1_indexOfChar_4cfef : MethodName := ⟨RJ1, "indexOfChar", "([BIII)I"⟩
def RJ2 : String := "java/lang/StringUTF16"
def TJ2 : u_T := fun k => match k with
  | _ => ("", "", "", false)
def tyJ2 : Nat → FieldType := fun k => match k with
  | _ => .int
abbrev wsJ20 : List Cond := u_ws RJ2 TJ2 0
theorem nmJ2 : ∀ a, a < 0 → ∀ b, b < 0 → a ≠ b → (TJ2 a).2.1 ≠ (TJ2 b).2.1 := by decide +kernel
theorem tyJ2_ok : ∀ k, k < 0 → parseFieldDescriptor (TJ2 k).2.2.1 = some (tyJ2 k) := by decide +kernel
abbrev cJ2_getChar_3b067 : ByteArray := prog_15_method_5_code
def yJ2_getChar_3b067 : MethodName := ⟨RJ2, "getChar", "([BI)C"⟩
abbrev cJ2_length_9d52b : ByteArray := prog_15_method_6_code
def yJ2_length_9d52b : MethodName := ⟨RJ2, "length", "([B)I"⟩
abbrev cJ2_indexOf_4cfef : ByteArray := prog_15_method_40_code
def yJ2_indexOf_4cfef : MethodName := ⟨RJ2, "indexOf", "([BIII)I"⟩
abbrev cJ2_indexOfChar_4cfef : ByteArray := prog_15_method_47_code
def yJ2_indexOfChar_4cfef : MethodName := ⟨RJ2, "indexOfChar", "([BIII)I"⟩
abbrev cJ2_indexOfCharUnsafe_4cfef : ByteArray := prog_15_method_48_code
def yJ2_indexOfCharUnsafe_4cfef : MethodName := ⟨RJ2, "indexOfCharUnsafe", "([BIII)I"⟩
abbrev cJ2_indexOfSupplementary_4cfef : ByteArray := prog_15_method_49_code
def yJ2_indexOfSupplementary_4cfef : MethodName := ⟨RJ2, "indexOfSupplementary", "([BIII)I"⟩
abbrev cJ2_checkBoundsBeginEnd_d044e : ByteArray := prog_15_method_93_code
def yJ2_checkBoundsBeginEnd_d044e : MethodName := ⟨RJ2, "checkBoundsBeginEnd", "(II[B)V"⟩
def RJ10 : String := "java/lang/System"
def TJ10 : u_T := fun k => match k with
  | _ => ("", "", "", false)
def tyJ10 : Nat → FieldType := fun k => match k with
  | _ => .int
abbrev wsJ100 : List Cond := u_ws RJ10 TJ10 0
theorem nmJ10 : ∀ a, a < 0 → ∀ b, b < 0 → a ≠ b → (TJ10 a).2.1 ≠ (TJ10 b).2.1 := by decide +kernel
theorem tyJ10_ok : ∀ k, k < 0 → parseFieldDescriptor (TJ10 k).2.2.1 = some (tyJ10 k) := by decide +kernel
def RJ3 : String := "jdk/internal/util/Preconditions"
def TJ3 : u_T := fun k => match k with
  | _ => ("", "", "", false)
def tyJ3 : Nat → FieldType := fun k => match k with
  | _ => .int
abbrev wsJ30 : List Cond := u_ws RJ3 TJ3 0
theorem nmJ3 : ∀ a, a < 0 → ∀ b, b < 0 → a ≠ b → (TJ3 a).2.1 ≠ (TJ3 b).2.1 := by decide +kernel
theorem tyJ3_ok : ∀ k, k < 0 → parseFieldDescriptor (TJ3 k).2.2.1 = some (tyJ3 k) := by decide +kernel
abbrev cJ3_checkFromToIndex_8c36e : ByteArray := prog_17_method_12_code
def yJ3_checkFromToIndex_8c36e : MethodName := ⟨RJ3, "checkFromToIndex", "(IIILjava/util/function/BiFunction;)I"⟩
def RL : String := "EndedByOthersLaw"
abbrev cL_law : ByteArray := code
def yL_law : MethodName := ⟨RL, "law", "([I)Z"⟩
def wsX0_init : List Cond := .code yX0_init cX0_init 1 none :: ([.methodLink RX0 3 objectInit, .instanceMethod objectInit, .code objectInit ⟨#[0xb1]⟩ 1 none, .arrayClass .int, .fieldLink RX0 9 "EndedByOthers$Matching" "pleasing" "[I", .fieldLink RX0 15 "EndedByOthers$Matching" "picks" "[I", .fieldLink RX0 18 "EndedByOthers$Matching" "ended" "I"] ++ wsX00)
def wsX6_has : List Cond := .code yX6_has cX6_has 2 (some .boolean) :: ([])
def wsX0_mostFrom : List Cond := .code yX0_mostFrom cX0_mostFrom 6 (some .int) :: ([.methodLink RX0 34 Lib.Math.max.name, .static Lib.Math.max.name, .initialized "java/lang/Math", .code Lib.Math.max.name Lib.Math.max.code 2 (some .int), .methodLink RX0 22 yX0_mostFrom, .static yX0_mostFrom, .initialized RX0, .static yX6_has, .initialized RX6, .code yX6_has cX6_has 2 (some .boolean)])
def wsX0_firstBestPick : List Cond := .code yX0_firstBestPick cX0_firstBestPick 6 (some .int) :: ([.fieldLink RX0 9 "EndedByOthers$Matching" "pleasing" "[I", .methodLink RX0 22 yX0_mostFrom, .static yX0_mostFrom, .initialized RX0, .code yX0_mostFrom cX0_mostFrom 6 (some .int), .methodLink RX0 34 Lib.Math.max.name, .static Lib.Math.max.name, .initialized "java/lang/Math", .code Lib.Math.max.name Lib.Math.max.code 2 (some .int), .static yX6_has, .initialized RX6, .code yX6_has cX6_has 2 (some .boolean)] ++ wsX00)
def wsX0_solve : List Cond := .code yX0_solve cX0_solve 3 none :: ([.fieldLink RX0 9 "EndedByOthers$Matching" "pleasing" "[I", .fieldLink RX0 18 "EndedByOthers$Matching" "ended" "I", .fieldLink RX0 15 "EndedByOthers$Matching" "picks" "[I", .methodLink RX0 22 yX0_mostFrom, .static yX0_mostFrom, .initialized RX0, .code yX0_mostFrom cX0_mostFrom 6 (some .int), .methodLink RX0 34 Lib.Math.max.name, .static Lib.Math.max.name, .initialized "java/lang/Math", .code Lib.Math.max.name Lib.Math.max.code 2 (some .int), .static yX6_has, .initialized RX6, .code yX6_has cX6_has 2 (some .boolean), .methodLink RX0 26 yX0_firstBestPick, .instanceMethod yX0_firstBestPick, .selects RX0 yX0_firstBestPick yX0_firstBestPick, .code yX0_firstBestPick cX0_firstBestPick 6 (some .int)] ++ wsX00)
def wsX1_init : List Cond := .code yX1_init cX1_init 1 none :: ([.methodLink RX1 3 objectInit, .instanceMethod objectInit, .code objectInit ⟨#[0xb1]⟩ 1 none, .arrayClass .int, .fieldLink RX1 9 "EndedByOthers$Page" "codes" "[I", .fieldLink RX1 15 "EndedByOthers$Page" "length" "I"] ++ wsX10)
def wsX1_add : List Cond := .code yX1_add cX1_add 2 none :: ([.fieldLink RX1 15 "EndedByOthers$Page" "length" "I", .fieldLink RX1 9 "EndedByOthers$Page" "codes" "[I"] ++ wsX10)
def wsX3_init : List Cond := .code yX3_init cX3_init 1 none :: ([.methodLink RX3 3 objectInit, .instanceMethod objectInit, .code objectInit ⟨#[0xb1]⟩ 1 none, .arrayClass .int, .fieldLink RX3 9 "EndedByOthers$Room" "fitting" "[I", .fieldLink RX3 15 "EndedByOthers$Room" "kinds" "[I", .fieldLink RX3 18 "EndedByOthers$Room" "wants" "[I", .fieldLink RX3 21 "EndedByOthers$Room" "speakers" "I"] ++ wsX30)
def wsX2_init : List Cond := .code yX2_init cX2_init 1 none :: ([.methodLink RX2 3 objectInit, .instanceMethod objectInit, .code objectInit ⟨#[0xb1]⟩ 1 none, .classLink RX2 9 RX3, .instantiable RX3 4, .initialized RX3, .fieldLink RX2 12 "EndedByOthers$Reader" "draft" "LEndedByOthers$Room;", .fieldLink RX2 18 "EndedByOthers$Reader" "opening" "I", .fieldLink RX2 22 "EndedByOthers$Reader" "lettersOfPart" "I", .fieldLink RX2 25 "EndedByOthers$Reader" "lastCode" "I", .instanceMethod yX3_init, .code yX3_init cX3_init 1 none, .methodLink RX3 3 objectInit, .arrayClass .int, .fieldLink RX3 9 "EndedByOthers$Room" "fitting" "[I", .fieldLink RX3 15 "EndedByOthers$Room" "kinds" "[I", .fieldLink RX3 18 "EndedByOthers$Room" "wants" "[I", .fieldLink RX3 21 "EndedByOthers$Room" "speakers" "I"] ++ wsX30 ++ wsX20)
def wsX3_clear : List Cond := .code yX3_clear cX3_clear 2 none :: ([.fieldLink RX3 9 "EndedByOthers$Room" "fitting" "[I", .fieldLink RX3 21 "EndedByOthers$Room" "speakers" "I"] ++ wsX30)
def wsX2_startPart : List Cond := .code yX2_startPart cX2_startPart 1 none :: ([.fieldLink RX2 22 "EndedByOthers$Reader" "lettersOfPart" "I", .fieldLink RX2 25 "EndedByOthers$Reader" "lastCode" "I"] ++ wsX20)
def wsX6_isEnding : List Cond := .code yX6_isEnding cX6_isEnding 1 (some .boolean) :: ([])
def wsX2_takesInOpening : List Cond := .code yX2_takesInOpening cX2_takesInOpening 3 (some .boolean) :: ([.fieldLink RX2 18 "EndedByOthers$Reader" "opening" "I", .fieldLink RX2 22 "EndedByOthers$Reader" "lettersOfPart" "I", .fieldLink RX2 25 "EndedByOthers$Reader" "lastCode" "I", .fieldLink RX2 12 "EndedByOthers$Reader" "draft" "LEndedByOthers$Room;", .fieldLink RX2 59 "EndedByOthers$Room" "fitting" "[I", .methodLink RX2 31 yX2_startPart, .instanceMethod yX2_startPart, .selects RX2 yX2_startPart yX2_startPart, .initialized RX2, .code yX2_startPart cX2_startPart 1 none, .static yX6_isEnding, .initialized RX6, .code yX6_isEnding cX6_isEnding 1 (some .boolean)] ++ wsX20 ++ wsX30)
def wsJ0_isLatin1_aae02 : List Cond := .code yJ0_isLatin1_aae02 cJ0_isLatin1_aae02 1 (some .boolean) :: ([.fieldLink RJ0 38 "java/lang/String" "COMPACT_STRINGS" "Z", .fieldLink RJ0 15 "java/lang/String" "coder" "B"])
def wsJ0_coder_7d493 : List Cond := .code yJ0_coder_7d493 cJ0_coder_7d493 1 (some .byte) :: ([.fieldLink RJ0 38 "java/lang/String" "COMPACT_STRINGS" "Z", .fieldLink RJ0 15 "java/lang/String" "coder" "B"])
def wsJ0_length_8abf5 : List Cond := .code yJ0_length_8abf5 cJ0_length_8abf5 1 (some .int) :: ([.fieldLink RJ0 9 "java/lang/String" "value" "[B", .methodLink RJ0 335 yJ0_coder_7d493, .instanceMethod yJ0_coder_7d493, .selects RJ0 yJ0_coder_7d493 yJ0_coder_7d493, .initialized RJ0, .code yJ0_coder_7d493 cJ0_coder_7d493 1 (some .byte), .fieldLink RJ0 38 "java/lang/String" "COMPACT_STRINGS" "Z", .fieldLink RJ0 15 "java/lang/String" "coder" "B"])
def wsJ1_canEncode_9a6ad : List Cond := .code yJ1_canEncode_9a6ad cJ1_canEncode_9a6ad 1 (some .boolean) :: ([])
def wsJ1_indexOfChar_4cfef : List Cond := .code yJ1_indexOfChar_4cfef cJ1_indexOfChar_4cfef 6 (some .int) :: ([])
def wsJ1_indexOf_4cfef : List Cond := .code yJ1_indexOf_4cfef cJ1_indexOf_4cfef 4 (some .int) :: ([.methodLink RJ1 92 Lib.Math.max.name, .static Lib.Math.max.name, .initialized "java/lang/Math", .code Lib.Math.max.name Lib.Math.max.code 2 (some .int), .methodLink RJ1 38 Lib.Math.min.name, .static Lib.Math.min.name, .code Lib.Math.min.name Lib.Math.min.code 2 (some .int), .methodLink RJ1 88 yJ1_canEncode_9a6ad, .static yJ1_canEncode_9a6ad, .initialized RJ1, .code yJ1_canEncode_9a6ad cJ1_canEncode_9a6ad 1 (some .boolean), .methodLink RJ1 95 yJ1_indexOfChar_4cfef, .static yJ1_indexOfChar_4cfef, .code yJ1_indexOfChar_4cfef cJ1_indexOfChar_4cfef 6 (some .int)])
def wsJ2_length_9d52b : List Cond := .code yJ2_length_9d52b cJ2_length_9d52b 1 (some .int) :: ([])
def wsJ3_checkFromToIndex_8c36e : List Cond := .code yJ3_checkFromToIndex_8c36e cJ3_checkFromToIndex_8c36e 4 (some .int) :: ([])
def wsJ0_checkBoundsBeginEnd_23922 : List Cond := .code yJ0_checkBoundsBeginEnd_23922 cJ0_checkBoundsBeginEnd_23922 3 none :: ([.fieldLink RJ0 1053 "jdk/internal/util/Preconditions" "SIOOBE_FORMATTER" "Ljava/util/function/BiFunction;", .methodLink RJ0 1062 yJ3_checkFromToIndex_8c36e, .static yJ3_checkFromToIndex_8c36e, .initialized RJ3, .code yJ3_checkFromToIndex_8c36e cJ3_checkFromToIndex_8c36e 4 (some .int)])
def wsJ2_checkBoundsBeginEnd_d044e : List Cond := .code yJ2_checkBoundsBeginEnd_d044e cJ2_checkBoundsBeginEnd_d044e 3 none :: ([.methodLink RJ2 48 yJ2_length_9d52b, .static yJ2_length_9d52b, .initialized RJ2, .code yJ2_length_9d52b cJ2_length_9d52b 1 (some .int), .methodLink RJ2 241 yJ0_checkBoundsBeginEnd_23922, .static yJ0_checkBoundsBeginEnd_23922, .initialized RJ0, .code yJ0_checkBoundsBeginEnd_23922 cJ0_checkBoundsBeginEnd_23922 3 none, .fieldLink RJ0 1053 "jdk/internal/util/Preconditions" "SIOOBE_FORMATTER" "Ljava/util/function/BiFunction;", .methodLink RJ0 1062 yJ3_checkFromToIndex_8c36e, .static yJ3_checkFromToIndex_8c36e, .initialized RJ3, .code yJ3_checkFromToIndex_8c36e cJ3_checkFromToIndex_8c36e 4 (some .int)])
def wsJ2_getChar_3b067 : List Cond := .code yJ2_getChar_3b067 cJ2_getChar_3b067 2 (some .char) :: ([.fieldLink RJ2 44 "java/lang/StringUTF16" "$assertionsDisabled" "Z", .fieldLink RJ2 59 "java/lang/StringUTF16" "HI_BYTE_SHIFT" "I", .fieldLink RJ2 63 "java/lang/StringUTF16" "LO_BYTE_SHIFT" "I", .methodLink RJ2 48 yJ2_length_9d52b, .static yJ2_length_9d52b, .initialized RJ2, .code yJ2_length_9d52b cJ2_length_9d52b 1 (some .int)])
def wsJ2_indexOfCharUnsafe_4cfef : List Cond := .code yJ2_indexOfCharUnsafe_4cfef cJ2_indexOfCharUnsafe_4cfef 5 (some .int) :: ([.methodLink RJ2 71 yJ2_getChar_3b067, .static yJ2_getChar_3b067, .initialized RJ2, .code yJ2_getChar_3b067 cJ2_getChar_3b067 2 (some .char), .fieldLink RJ2 44 "java/lang/StringUTF16" "$assertionsDisabled" "Z", .fieldLink RJ2 59 "java/lang/StringUTF16" "HI_BYTE_SHIFT" "I", .fieldLink RJ2 63 "java/lang/StringUTF16" "LO_BYTE_SHIFT" "I", .methodLink RJ2 48 yJ2_length_9d52b, .static yJ2_length_9d52b, .code yJ2_length_9d52b cJ2_length_9d52b 1 (some .int)])
def wsJ2_indexOfChar_4cfef_r1 : List Cond := [Cond.methodLink RJ2 96 yJ2_checkBoundsBeginEnd_d044e, Cond.static yJ2_checkBoundsBeginEnd_d044e, Cond.initialized RJ2, Cond.code yJ2_checkBoundsBeginEnd_d044e cJ2_checkBoundsBeginEnd_d044e 3 none, Cond.methodLink RJ2 48 yJ2_length_9d52b, Cond.static yJ2_length_9d52b, Cond.code yJ2_length_9d52b cJ2_length_9d52b 1 (some .int), Cond.methodLink RJ2 241 yJ0_checkBoundsBeginEnd_23922, Cond.static yJ0_checkBoundsBeginEnd_23922, Cond.initialized RJ0, Cond.code yJ0_checkBoundsBeginEnd_23922 cJ0_checkBoundsBeginEnd_23922 3 none, Cond.fieldLink RJ0 1053 "jdk/internal/util/Preconditions" "SIOOBE_FORMATTER" "Ljava/util/function/BiFunction;", Cond.methodLink RJ0 1062 yJ3_checkFromToIndex_8c36e, Cond.static yJ3_checkFromToIndex_8c36e, Cond.initialized RJ3, Cond.code yJ3_checkFromToIndex_8c36e cJ3_checkFromToIndex_8c36e 4 (some .int), Cond.methodLink RJ2 244 yJ2_indexOfCharUnsafe_4cfef, Cond.static yJ2_indexOfCharUnsafe_4cfef, Cond.code yJ2_indexOfCharUnsafe_4cfef cJ2_indexOfCharUnsafe_4cfef 5 (some .int), Cond.methodLink RJ2 71 yJ2_getChar_3b067, Cond.static yJ2_getChar_3b067, Cond.code yJ2_getChar_3b067 cJ2_getChar_3b067 2 (some .char), Cond.fieldLink RJ2 44 "java/lang/StringUTF16" "$assertionsDisabled" "Z", Cond.fieldLink RJ2 59 "java/lang/StringUTF16" "HI_BYTE_SHIFT" "I"]
def wsJ2_indexOfChar_4cfef_r2 : List Cond := [Cond.fieldLink RJ2 63 "java/lang/StringUTF16" "LO_BYTE_SHIFT" "I"]
def wsJ2_indexOfChar_4cfef : List Cond := .code yJ2_indexOfChar_4cfef cJ2_indexOfChar_4cfef 4 (some .int) :: ((wsJ2_indexOfChar_4cfef_r1 ++ wsJ2_indexOfChar_4cfef_r2))
def wsJ11_isValidCodePoint_9a6ad : List Cond := .code yJ11_isValidCodePoint_9a6ad cJ11_isValidCodePoint_9a6ad 2 (some .boolean) :: ([])
def wsJ11_highSurrogate_5068e : List Cond := .code yJ11_highSurrogate_5068e cJ11_highSurrogate_5068e 1 (some .char) :: ([.constant RJ11 110 (55232)])
def wsJ11_lowSurrogate_5068e : List Cond := .code yJ11_lowSurrogate_5068e cJ11_lowSurrogate_5068e 1 (some .char) :: ([.constant RJ11 76 (56320)])
def wsJ2_indexOfSupplementary_4cfef_r1 : List Cond := [Cond.methodLink RJ2 164 yJ11_isValidCodePoint_9a6ad, Cond.static yJ11_isValidCodePoint_9a6ad, Cond.initialized RJ11, Cond.code yJ11_isValidCodePoint_9a6ad cJ11_isValidCodePoint_9a6ad 2 (some .boolean), Cond.methodLink RJ2 157 yJ11_highSurrogate_5068e, Cond.static yJ11_highSurrogate_5068e, Cond.code yJ11_highSurrogate_5068e cJ11_highSurrogate_5068e 1 (some .char), Cond.constant RJ11 110 (55232), Cond.methodLink RJ2 161 yJ11_lowSurrogate_5068e, Cond.static yJ11_lowSurrogate_5068e, Cond.code yJ11_lowSurrogate_5068e cJ11_lowSurrogate_5068e 1 (some .char), Cond.constant RJ11 76 (56320), Cond.methodLink RJ2 96 yJ2_checkBoundsBeginEnd_d044e, Cond.static yJ2_checkBoundsBeginEnd_d044e, Cond.initialized RJ2, Cond.code yJ2_checkBoundsBeginEnd_d044e cJ2_checkBoundsBeginEnd_d044e 3 none, Cond.methodLink RJ2 48 yJ2_length_9d52b, Cond.static yJ2_length_9d52b, Cond.code yJ2_length_9d52b cJ2_length_9d52b 1 (some .int), Cond.methodLink RJ2 241 yJ0_checkBoundsBeginEnd_23922, Cond.static yJ0_checkBoundsBeginEnd_23922, Cond.initialized RJ0, Cond.code yJ0_checkBoundsBeginEnd_23922 cJ0_checkBoundsBeginEnd_23922 3 none, Cond.fieldLink RJ0 1053 "jdk/internal/util/Preconditions" "SIOOBE_FORMATTER" "Ljava/util/function/BiFunction;"]
def wsJ2_indexOfSupplementary_4cfef_r2 : List Cond := [Cond.methodLink RJ0 1062 yJ3_checkFromToIndex_8c36e, Cond.static yJ3_checkFromToIndex_8c36e, Cond.initialized RJ3, Cond.code yJ3_checkFromToIndex_8c36e cJ3_checkFromToIndex_8c36e 4 (some .int), Cond.methodLink RJ2 71 yJ2_getChar_3b067, Cond.static yJ2_getChar_3b067, Cond.code yJ2_getChar_3b067 cJ2_getChar_3b067 2 (some .char), Cond.fieldLink RJ2 44 "java/lang/StringUTF16" "$assertionsDisabled" "Z", Cond.fieldLink RJ2 59 "java/lang/StringUTF16" "HI_BYTE_SHIFT" "I", Cond.fieldLink RJ2 63 "java/lang/StringUTF16" "LO_BYTE_SHIFT" "I"]
def wsJ2_indexOfSupplementary_4cfef : List Cond := .code yJ2_indexOfSupplementary_4cfef cJ2_indexOfSupplementary_4cfef 7 (some .int) :: ((wsJ2_indexOfSupplementary_4cfef_r1 ++ wsJ2_indexOfSupplementary_4cfef_r2))
def wsJ2_indexOf_4cfef_r1 : List Cond := [Cond.methodLink RJ2 224 Lib.Math.max.name, Cond.static Lib.Math.max.name, Cond.initialized "java/lang/Math", Cond.code Lib.Math.max.name Lib.Math.max.code 2 (some .int), Cond.methodLink RJ2 183 Lib.Math.min.name, Cond.static Lib.Math.min.name, Cond.code Lib.Math.min.name Lib.Math.min.code 2 (some .int), Cond.constant RJ2 227 (65536), Cond.methodLink RJ2 228 yJ2_indexOfChar_4cfef, Cond.static yJ2_indexOfChar_4cfef, Cond.initialized RJ2, Cond.code yJ2_indexOfChar_4cfef cJ2_indexOfChar_4cfef 4 (some .int), Cond.methodLink RJ2 96 yJ2_checkBoundsBeginEnd_d044e, Cond.static yJ2_checkBoundsBeginEnd_d044e, Cond.code yJ2_checkBoundsBeginEnd_d044e cJ2_checkBoundsBeginEnd_d044e 3 none, Cond.methodLink RJ2 48 yJ2_length_9d52b, Cond.static yJ2_length_9d52b, Cond.code yJ2_length_9d52b cJ2_length_9d52b 1 (some .int), Cond.methodLink RJ2 241 yJ0_checkBoundsBeginEnd_23922, Cond.static yJ0_checkBoundsBeginEnd_23922, Cond.initialized RJ0, Cond.code yJ0_checkBoundsBeginEnd_23922 cJ0_checkBoundsBeginEnd_23922 3 none, Cond.fieldLink RJ0 1053 "jdk/internal/util/Preconditions" "SIOOBE_FORMATTER" "Ljava/util/function/BiFunction;", Cond.methodLink RJ0 1062 yJ3_checkFromToIndex_8c36e]
def wsJ2_indexOf_4cfef_r2 : List Cond := [Cond.static yJ3_checkFromToIndex_8c36e, Cond.initialized RJ3, Cond.code yJ3_checkFromToIndex_8c36e cJ3_checkFromToIndex_8c36e 4 (some .int), Cond.methodLink RJ2 244 yJ2_indexOfCharUnsafe_4cfef, Cond.static yJ2_indexOfCharUnsafe_4cfef, Cond.code yJ2_indexOfCharUnsafe_4cfef cJ2_indexOfCharUnsafe_4cfef 5 (some .int), Cond.methodLink RJ2 71 yJ2_getChar_3b067, Cond.static yJ2_getChar_3b067, Cond.code yJ2_getChar_3b067 cJ2_getChar_3b067 2 (some .char), Cond.fieldLink RJ2 44 "java/lang/StringUTF16" "$assertionsDisabled" "Z", Cond.fieldLink RJ2 59 "java/lang/StringUTF16" "HI_BYTE_SHIFT" "I", Cond.fieldLink RJ2 63 "java/lang/StringUTF16" "LO_BYTE_SHIFT" "I", Cond.methodLink RJ2 232 yJ2_indexOfSupplementary_4cfef, Cond.static yJ2_indexOfSupplementary_4cfef, Cond.code yJ2_indexOfSupplementary_4cfef cJ2_indexOfSupplementary_4cfef 7 (some .int), Cond.methodLink RJ2 164 yJ11_isValidCodePoint_9a6ad, Cond.static yJ11_isValidCodePoint_9a6ad, Cond.initialized RJ11, Cond.code yJ11_isValidCodePoint_9a6ad cJ11_isValidCodePoint_9a6ad 2 (some .boolean), Cond.methodLink RJ2 157 yJ11_highSurrogate_5068e, Cond.static yJ11_highSurrogate_5068e, Cond.code yJ11_highSurrogate_5068e cJ11_highSurrogate_5068e 1 (some .char), Cond.constant RJ11 110 (55232), Cond.methodLink RJ2 161 yJ11_lowSurrogate_5068e]
def wsJ2_indexOf_4cfef_r3 : List Cond := [Cond.static yJ11_lowSurrogate_5068e, Cond.code yJ11_lowSurrogate_5068e cJ11_lowSurrogate_5068e 1 (some .char), Cond.constant RJ11 76 (56320)]
def wsJ2_indexOf_4cfef : List Cond := .code yJ2_indexOf_4cfef cJ2_indexOf_4cfef 4 (some .int) :: ((wsJ2_indexOf_4cfef_r1 ++ (wsJ2_indexOf_4cfef_r2 ++ wsJ2_indexOf_4cfef_r3)))
def wsJ0_indexOf_7cf53_r1 : List Cond := [Cond.fieldLink RJ0 9 "java/lang/String" "value" "[B", Cond.methodLink RJ0 492 yJ0_isLatin1_aae02, Cond.instanceMethod yJ0_isLatin1_aae02, Cond.selects RJ0 yJ0_isLatin1_aae02 yJ0_isLatin1_aae02, Cond.initialized RJ0, Cond.code yJ0_isLatin1_aae02 cJ0_isLatin1_aae02 1 (some .boolean), Cond.fieldLink RJ0 38 "java/lang/String" "COMPACT_STRINGS" "Z", Cond.fieldLink RJ0 15 "java/lang/String" "coder" "B", Cond.methodLink RJ0 505 yJ0_length_8abf5, Cond.instanceMethod yJ0_length_8abf5, Cond.selects RJ0 yJ0_length_8abf5 yJ0_length_8abf5, Cond.code yJ0_length_8abf5 cJ0_length_8abf5 1 (some .int), Cond.methodLink RJ0 335 yJ0_coder_7d493, Cond.instanceMethod yJ0_coder_7d493, Cond.selects RJ0 yJ0_coder_7d493 yJ0_coder_7d493, Cond.code yJ0_coder_7d493 cJ0_coder_7d493 1 (some .byte), Cond.methodLink RJ0 637 yJ1_indexOf_4cfef, Cond.static yJ1_indexOf_4cfef, Cond.initialized RJ1, Cond.code yJ1_indexOf_4cfef cJ1_indexOf_4cfef 4 (some .int), Cond.methodLink RJ1 92 Lib.Math.max.name, Cond.static Lib.Math.max.name, Cond.initialized "java/lang/Math", Cond.code Lib.Math.max.name Lib.Math.max.code 2 (some .int)]
def wsJ0_indexOf_7cf53_r2 : List Cond := [Cond.methodLink RJ1 38 Lib.Math.min.name, Cond.static Lib.Math.min.name, Cond.code Lib.Math.min.name Lib.Math.min.code 2 (some .int), Cond.methodLink RJ1 88 yJ1_canEncode_9a6ad, Cond.static yJ1_canEncode_9a6ad, Cond.code yJ1_canEncode_9a6ad cJ1_canEncode_9a6ad 1 (some .boolean), Cond.methodLink RJ1 95 yJ1_indexOfChar_4cfef, Cond.static yJ1_indexOfChar_4cfef, Cond.code yJ1_indexOfChar_4cfef cJ1_indexOfChar_4cfef 6 (some .int), Cond.methodLink RJ0 640 yJ2_indexOf_4cfef, Cond.static yJ2_indexOf_4cfef, Cond.initialized RJ2, Cond.code yJ2_indexOf_4cfef cJ2_indexOf_4cfef 4 (some .int), Cond.methodLink RJ2 224 Lib.Math.max.name, Cond.methodLink RJ2 183 Lib.Math.min.name, Cond.constant RJ2 227 (65536), Cond.methodLink RJ2 228 yJ2_indexOfChar_4cfef, Cond.static yJ2_indexOfChar_4cfef, Cond.code yJ2_indexOfChar_4cfef cJ2_indexOfChar_4cfef 4 (some .int), Cond.methodLink RJ2 96 yJ2_checkBoundsBeginEnd_d044e, Cond.static yJ2_checkBoundsBeginEnd_d044e, Cond.code yJ2_checkBoundsBeginEnd_d044e cJ2_checkBoundsBeginEnd_d044e 3 none, Cond.methodLink RJ2 48 yJ2_length_9d52b, Cond.static yJ2_length_9d52b]
def wsJ0_indexOf_7cf53_r3 : List Cond := [Cond.code yJ2_length_9d52b cJ2_length_9d52b 1 (some .int), Cond.methodLink RJ2 241 yJ0_checkBoundsBeginEnd_23922, Cond.static yJ0_checkBoundsBeginEnd_23922, Cond.code yJ0_checkBoundsBeginEnd_23922 cJ0_checkBoundsBeginEnd_23922 3 none, Cond.fieldLink RJ0 1053 "jdk/internal/util/Preconditions" "SIOOBE_FORMATTER" "Ljava/util/function/BiFunction;", Cond.methodLink RJ0 1062 yJ3_checkFromToIndex_8c36e, Cond.static yJ3_checkFromToIndex_8c36e, Cond.initialized RJ3, Cond.code yJ3_checkFromToIndex_8c36e cJ3_checkFromToIndex_8c36e 4 (some .int), Cond.methodLink RJ2 244 yJ2_indexOfCharUnsafe_4cfef, Cond.static yJ2_indexOfCharUnsafe_4cfef, Cond.code yJ2_indexOfCharUnsafe_4cfef cJ2_indexOfCharUnsafe_4cfef 5 (some .int), Cond.methodLink RJ2 71 yJ2_getChar_3b067, Cond.static yJ2_getChar_3b067, Cond.code yJ2_getChar_3b067 cJ2_getChar_3b067 2 (some .char), Cond.fieldLink RJ2 44 "java/lang/StringUTF16" "$assertionsDisabled" "Z", Cond.fieldLink RJ2 59 "java/lang/StringUTF16" "HI_BYTE_SHIFT" "I", Cond.fieldLink RJ2 63 "java/lang/StringUTF16" "LO_BYTE_SHIFT" "I", Cond.methodLink RJ2 232 yJ2_indexOfSupplementary_4cfef, Cond.static yJ2_indexOfSupplementary_4cfef, Cond.code yJ2_indexOfSupplementary_4cfef cJ2_indexOfSupplementary_4cfef 7 (some .int), Cond.methodLink RJ2 164 yJ11_isValidCodePoint_9a6ad, Cond.static yJ11_isValidCodePoint_9a6ad, Cond.initialized RJ11]
def wsJ0_indexOf_7cf53_r4 : List Cond := [Cond.code yJ11_isValidCodePoint_9a6ad cJ11_isValidCodePoint_9a6ad 2 (some .boolean), Cond.methodLink RJ2 157 yJ11_highSurrogate_5068e, Cond.static yJ11_highSurrogate_5068e, Cond.code yJ11_highSurrogate_5068e cJ11_highSurrogate_5068e 1 (some .char), Cond.constant RJ11 110 (55232), Cond.methodLink RJ2 161 yJ11_lowSurrogate_5068e, Cond.static yJ11_lowSurrogate_5068e, Cond.code yJ11_lowSurrogate_5068e cJ11_lowSurrogate_5068e 1 (some .char), Cond.constant RJ11 76 (56320)]
def wsJ0_indexOf_7cf53 : List Cond := .code yJ0_indexOf_7cf53 cJ0_indexOf_7cf53 3 (some .int) :: ((wsJ0_indexOf_7cf53_r1 ++ (wsJ0_indexOf_7cf53_r2 ++ (wsJ0_indexOf_7cf53_r3 ++ wsJ0_indexOf_7cf53_r4))))
def wsJ0_indexOf_0f7a4_r1 : List Cond := [Cond.methodLink RJ0 633 yJ0_indexOf_7cf53, Cond.instanceMethod yJ0_indexOf_7cf53, Cond.selects RJ0 yJ0_indexOf_7cf53 yJ0_indexOf_7cf53, Cond.initialized RJ0, Cond.code yJ0_indexOf_7cf53 cJ0_indexOf_7cf53 3 (some .int), Cond.fieldLink RJ0 9 "java/lang/String" "value" "[B", Cond.methodLink RJ0 492 yJ0_isLatin1_aae02, Cond.instanceMethod yJ0_isLatin1_aae02, Cond.selects RJ0 yJ0_isLatin1_aae02 yJ0_isLatin1_aae02, Cond.code yJ0_isLatin1_aae02 cJ0_isLatin1_aae02 1 (some .boolean), Cond.fieldLink RJ0 38 "java/lang/String" "COMPACT_STRINGS" "Z", Cond.fieldLink RJ0 15 "java/lang/String" "coder" "B", Cond.methodLink RJ0 505 yJ0_length_8abf5, Cond.instanceMethod yJ0_length_8abf5, Cond.selects RJ0 yJ0_length_8abf5 yJ0_length_8abf5, Cond.code yJ0_length_8abf5 cJ0_length_8abf5 1 (some .int), Cond.methodLink RJ0 335 yJ0_coder_7d493, Cond.instanceMethod yJ0_coder_7d493, Cond.selects RJ0 yJ0_coder_7d493 yJ0_coder_7d493, Cond.code yJ0_coder_7d493 cJ0_coder_7d493 1 (some .byte), Cond.methodLink RJ0 637 yJ1_indexOf_4cfef, Cond.static yJ1_indexOf_4cfef, Cond.initialized RJ1, Cond.code yJ1_indexOf_4cfef cJ1_indexOf_4cfef 4 (some .int)]
def wsJ0_indexOf_0f7a4_r2 : List Cond := [Cond.methodLink RJ1 92 Lib.Math.max.name, Cond.static Lib.Math.max.name, Cond.initialized "java/lang/Math", Cond.code Lib.Math.max.name Lib.Math.max.code 2 (some .int), Cond.methodLink RJ1 38 Lib.Math.min.name, Cond.static Lib.Math.min.name, Cond.code Lib.Math.min.name Lib.Math.min.code 2 (some .int), Cond.methodLink RJ1 88 yJ1_canEncode_9a6ad, Cond.static yJ1_canEncode_9a6ad, Cond.code yJ1_canEncode_9a6ad cJ1_canEncode_9a6ad 1 (some .boolean), Cond.methodLink RJ1 95 yJ1_indexOfChar_4cfef, Cond.static yJ1_indexOfChar_4cfef, Cond.code yJ1_indexOfChar_4cfef cJ1_indexOfChar_4cfef 6 (some .int), Cond.methodLink RJ0 640 yJ2_indexOf_4cfef, Cond.static yJ2_indexOf_4cfef, Cond.initialized RJ2, Cond.code yJ2_indexOf_4cfef cJ2_indexOf_4cfef 4 (some .int), Cond.methodLink RJ2 224 Lib.Math.max.name, Cond.methodLink RJ2 183 Lib.Math.min.name, Cond.constant RJ2 227 (65536), Cond.methodLink RJ2 228 yJ2_indexOfChar_4cfef, Cond.static yJ2_indexOfChar_4cfef, Cond.code yJ2_indexOfChar_4cfef cJ2_indexOfChar_4cfef 4 (some .int), Cond.methodLink RJ2 96 yJ2_checkBoundsBeginEnd_d044e]
def wsJ0_indexOf_0f7a4_r3 : List Cond := [Cond.static yJ2_checkBoundsBeginEnd_d044e, Cond.code yJ2_checkBoundsBeginEnd_d044e cJ2_checkBoundsBeginEnd_d044e 3 none, Cond.methodLink RJ2 48 yJ2_length_9d52b, Cond.static yJ2_length_9d52b, Cond.code yJ2_length_9d52b cJ2_length_9d52b 1 (some .int), Cond.methodLink RJ2 241 yJ0_checkBoundsBeginEnd_23922, Cond.static yJ0_checkBoundsBeginEnd_23922, Cond.code yJ0_checkBoundsBeginEnd_23922 cJ0_checkBoundsBeginEnd_23922 3 none, Cond.fieldLink RJ0 1053 "jdk/internal/util/Preconditions" "SIOOBE_FORMATTER" "Ljava/util/function/BiFunction;", Cond.methodLink RJ0 1062 yJ3_checkFromToIndex_8c36e, Cond.static yJ3_checkFromToIndex_8c36e, Cond.initialized RJ3, Cond.code yJ3_checkFromToIndex_8c36e cJ3_checkFromToIndex_8c36e 4 (some .int), Cond.methodLink RJ2 244 yJ2_indexOfCharUnsafe_4cfef, Cond.static yJ2_indexOfCharUnsafe_4cfef, Cond.code yJ2_indexOfCharUnsafe_4cfef cJ2_indexOfCharUnsafe_4cfef 5 (some .int), Cond.methodLink RJ2 71 yJ2_getChar_3b067, Cond.static yJ2_getChar_3b067, Cond.code yJ2_getChar_3b067 cJ2_getChar_3b067 2 (some .char), Cond.fieldLink RJ2 44 "java/lang/StringUTF16" "$assertionsDisabled" "Z", Cond.fieldLink RJ2 59 "java/lang/StringUTF16" "HI_BYTE_SHIFT" "I", Cond.fieldLink RJ2 63 "java/lang/StringUTF16" "LO_BYTE_SHIFT" "I", Cond.methodLink RJ2 232 yJ2_indexOfSupplementary_4cfef, Cond.static yJ2_indexOfSupplementary_4cfef]
def wsJ0_indexOf_0f7a4_r4 : List Cond := [Cond.code yJ2_indexOfSupplementary_4cfef cJ2_indexOfSupplementary_4cfef 7 (some .int), Cond.methodLink RJ2 164 yJ11_isValidCodePoint_9a6ad, Cond.static yJ11_isValidCodePoint_9a6ad, Cond.initialized RJ11, Cond.code yJ11_isValidCodePoint_9a6ad cJ11_isValidCodePoint_9a6ad 2 (some .boolean), Cond.methodLink RJ2 157 yJ11_highSurrogate_5068e, Cond.static yJ11_highSurrogate_5068e, Cond.code yJ11_highSurrogate_5068e cJ11_highSurrogate_5068e 1 (some .char), Cond.constant RJ11 110 (55232), Cond.methodLink RJ2 161 yJ11_lowSurrogate_5068e, Cond.static yJ11_lowSurrogate_5068e, Cond.code yJ11_lowSurrogate_5068e cJ11_lowSurrogate_5068e 1 (some .char), Cond.constant RJ11 76 (56320)]
def wsJ0_indexOf_0f7a4 : List Cond := .code yJ0_indexOf_0f7a4 cJ0_indexOf_0f7a4 2 (some .int) :: ((wsJ0_indexOf_0f7a4_r1 ++ (wsJ0_indexOf_0f7a4_r2 ++ (wsJ0_indexOf_0f7a4_r3 ++ wsJ0_indexOf_0f7a4_r4))))
def wsX2_takesKind : List Cond := .code yX2_takesKind cX2_takesKind 2 (some .boolean) :: ([.fieldLink RX2 12 "EndedByOthers$Reader" "draft" "LEndedByOthers$Room;", .fieldLink RX2 47 "EndedByOthers$Room" "speakers" "I", .fieldLink RX2 79 "EndedByOthers$Room" "kinds" "[I", .fieldLink RX2 22 "EndedByOthers$Reader" "lettersOfPart" "I"] ++ wsX20 ++ wsX30)
def wsX2_takesWant : List Cond := .code yX2_takesWant cX2_takesWant 2 (some .boolean) :: ([.fieldLink RX2 12 "EndedByOthers$Reader" "draft" "LEndedByOthers$Room;", .fieldLink RX2 47 "EndedByOthers$Room" "speakers" "I", .fieldLink RX2 82 "EndedByOthers$Room" "wants" "[I", .fieldLink RX2 22 "EndedByOthers$Reader" "lettersOfPart" "I", .static yX6_isEnding, .initialized RX6, .code yX6_isEnding cX6_isEnding 1 (some .boolean)] ++ wsX20 ++ wsX30)
def wsX2_takesNextSpeaker : List Cond := .code yX2_takesNextSpeaker cX2_takesNextSpeaker 2 (some .boolean) :: ([.fieldLink RX2 12 "EndedByOthers$Reader" "draft" "LEndedByOthers$Room;", .fieldLink RX2 47 "EndedByOthers$Room" "speakers" "I", .methodLink RX2 31 yX2_startPart, .instanceMethod yX2_startPart, .selects RX2 yX2_startPart yX2_startPart, .initialized RX2, .code yX2_startPart cX2_startPart 1 none, .fieldLink RX2 22 "EndedByOthers$Reader" "lettersOfPart" "I", .fieldLink RX2 25 "EndedByOthers$Reader" "lastCode" "I"] ++ wsX20 ++ wsX30)
def wsX2_takesInSpeaker_r1 : List Cond := [Cond.fieldLink RX2 22 "EndedByOthers$Reader" "lettersOfPart" "I", Cond.methodLink RX2 64 yJ0_indexOf_0f7a4, Cond.instanceMethod yJ0_indexOf_0f7a4, Cond.selects RJ0 yJ0_indexOf_0f7a4 yJ0_indexOf_0f7a4, Cond.initialized RJ0, Cond.code yJ0_indexOf_0f7a4 cJ0_indexOf_0f7a4 2 (some .int), Cond.methodLink RJ0 633 yJ0_indexOf_7cf53, Cond.instanceMethod yJ0_indexOf_7cf53, Cond.selects RJ0 yJ0_indexOf_7cf53 yJ0_indexOf_7cf53, Cond.code yJ0_indexOf_7cf53 cJ0_indexOf_7cf53 3 (some .int), Cond.fieldLink RJ0 9 "java/lang/String" "value" "[B", Cond.methodLink RJ0 492 yJ0_isLatin1_aae02, Cond.instanceMethod yJ0_isLatin1_aae02, Cond.selects RJ0 yJ0_isLatin1_aae02 yJ0_isLatin1_aae02, Cond.code yJ0_isLatin1_aae02 cJ0_isLatin1_aae02 1 (some .boolean), Cond.fieldLink RJ0 38 "java/lang/String" "COMPACT_STRINGS" "Z", Cond.fieldLink RJ0 15 "java/lang/String" "coder" "B", Cond.methodLink RJ0 505 yJ0_length_8abf5, Cond.instanceMethod yJ0_length_8abf5, Cond.selects RJ0 yJ0_length_8abf5 yJ0_length_8abf5, Cond.code yJ0_length_8abf5 cJ0_length_8abf5 1 (some .int), Cond.methodLink RJ0 335 yJ0_coder_7d493, Cond.instanceMethod yJ0_coder_7d493, Cond.selects RJ0 yJ0_coder_7d493 yJ0_coder_7d493]
def wsX2_takesInSpeaker_r2 : List Cond := [Cond.code yJ0_coder_7d493 cJ0_coder_7d493 1 (some .byte), Cond.methodLink RJ0 637 yJ1_indexOf_4cfef, Cond.static yJ1_indexOf_4cfef, Cond.initialized RJ1, Cond.code yJ1_indexOf_4cfef cJ1_indexOf_4cfef 4 (some .int), Cond.methodLink RJ1 92 Lib.Math.max.name, Cond.static Lib.Math.max.name, Cond.initialized "java/lang/Math", Cond.code Lib.Math.max.name Lib.Math.max.code 2 (some .int), Cond.methodLink RJ1 38 Lib.Math.min.name, Cond.static Lib.Math.min.name, Cond.code Lib.Math.min.name Lib.Math.min.code 2 (some .int), Cond.methodLink RJ1 88 yJ1_canEncode_9a6ad, Cond.static yJ1_canEncode_9a6ad, Cond.code yJ1_canEncode_9a6ad cJ1_canEncode_9a6ad 1 (some .boolean), Cond.methodLink RJ1 95 yJ1_indexOfChar_4cfef, Cond.static yJ1_indexOfChar_4cfef, Cond.code yJ1_indexOfChar_4cfef cJ1_indexOfChar_4cfef 6 (some .int), Cond.methodLink RJ0 640 yJ2_indexOf_4cfef, Cond.static yJ2_indexOf_4cfef, Cond.initialized RJ2, Cond.code yJ2_indexOf_4cfef cJ2_indexOf_4cfef 4 (some .int), Cond.methodLink RJ2 224 Lib.Math.max.name, Cond.methodLink RJ2 183 Lib.Math.min.name]
def wsX2_takesInSpeaker_r3 : List Cond := [Cond.constant RJ2 227 (65536), Cond.methodLink RJ2 228 yJ2_indexOfChar_4cfef, Cond.static yJ2_indexOfChar_4cfef, Cond.code yJ2_indexOfChar_4cfef cJ2_indexOfChar_4cfef 4 (some .int), Cond.methodLink RJ2 96 yJ2_checkBoundsBeginEnd_d044e, Cond.static yJ2_checkBoundsBeginEnd_d044e, Cond.code yJ2_checkBoundsBeginEnd_d044e cJ2_checkBoundsBeginEnd_d044e 3 none, Cond.methodLink RJ2 48 yJ2_length_9d52b, Cond.static yJ2_length_9d52b, Cond.code yJ2_length_9d52b cJ2_length_9d52b 1 (some .int), Cond.methodLink RJ2 241 yJ0_checkBoundsBeginEnd_23922, Cond.static yJ0_checkBoundsBeginEnd_23922, Cond.code yJ0_checkBoundsBeginEnd_23922 cJ0_checkBoundsBeginEnd_23922 3 none, Cond.fieldLink RJ0 1053 "jdk/internal/util/Preconditions" "SIOOBE_FORMATTER" "Ljava/util/function/BiFunction;", Cond.methodLink RJ0 1062 yJ3_checkFromToIndex_8c36e, Cond.static yJ3_checkFromToIndex_8c36e, Cond.initialized RJ3, Cond.code yJ3_checkFromToIndex_8c36e cJ3_checkFromToIndex_8c36e 4 (some .int), Cond.methodLink RJ2 244 yJ2_indexOfCharUnsafe_4cfef, Cond.static yJ2_indexOfCharUnsafe_4cfef, Cond.code yJ2_indexOfCharUnsafe_4cfef cJ2_indexOfCharUnsafe_4cfef 5 (some .int), Cond.methodLink RJ2 71 yJ2_getChar_3b067, Cond.static yJ2_getChar_3b067, Cond.code yJ2_getChar_3b067 cJ2_getChar_3b067 2 (some .char)]
def wsX2_takesInSpeaker_r4 : List Cond := [Cond.fieldLink RJ2 44 "java/lang/StringUTF16" "$assertionsDisabled" "Z", Cond.fieldLink RJ2 59 "java/lang/StringUTF16" "HI_BYTE_SHIFT" "I", Cond.fieldLink RJ2 63 "java/lang/StringUTF16" "LO_BYTE_SHIFT" "I", Cond.methodLink RJ2 232 yJ2_indexOfSupplementary_4cfef, Cond.static yJ2_indexOfSupplementary_4cfef, Cond.code yJ2_indexOfSupplementary_4cfef cJ2_indexOfSupplementary_4cfef 7 (some .int), Cond.methodLink RJ2 164 yJ11_isValidCodePoint_9a6ad, Cond.static yJ11_isValidCodePoint_9a6ad, Cond.initialized RJ11, Cond.code yJ11_isValidCodePoint_9a6ad cJ11_isValidCodePoint_9a6ad 2 (some .boolean), Cond.methodLink RJ2 157 yJ11_highSurrogate_5068e, Cond.static yJ11_highSurrogate_5068e, Cond.code yJ11_highSurrogate_5068e cJ11_highSurrogate_5068e 1 (some .char), Cond.constant RJ11 110 (55232), Cond.methodLink RJ2 161 yJ11_lowSurrogate_5068e, Cond.static yJ11_lowSurrogate_5068e, Cond.code yJ11_lowSurrogate_5068e cJ11_lowSurrogate_5068e 1 (some .char), Cond.constant RJ11 76 (56320), Cond.methodLink RX2 70 yX2_takesKind, Cond.instanceMethod yX2_takesKind, Cond.selects RX2 yX2_takesKind yX2_takesKind, Cond.initialized RX2, Cond.code yX2_takesKind cX2_takesKind 2 (some .boolean), Cond.fieldLink RX2 12 "EndedByOthers$Reader" "draft" "LEndedByOthers$Room;"]
def wsX2_takesInSpeaker_r5 : List Cond := [Cond.fieldLink RX2 47 "EndedByOthers$Room" "speakers" "I", Cond.fieldLink RX2 79 "EndedByOthers$Room" "kinds" "[I", Cond.methodLink RX2 73 yX2_takesWant, Cond.instanceMethod yX2_takesWant, Cond.selects RX2 yX2_takesWant yX2_takesWant, Cond.code yX2_takesWant cX2_takesWant 2 (some .boolean), Cond.fieldLink RX2 82 "EndedByOthers$Room" "wants" "[I", Cond.static yX6_isEnding, Cond.initialized RX6, Cond.code yX6_isEnding cX6_isEnding 1 (some .boolean), Cond.methodLink RX2 76 yX2_takesNextSpeaker, Cond.instanceMethod yX2_takesNextSpeaker, Cond.selects RX2 yX2_takesNextSpeaker yX2_takesNextSpeaker, Cond.code yX2_takesNextSpeaker cX2_takesNextSpeaker 2 (some .boolean), Cond.methodLink RX2 31 yX2_startPart, Cond.instanceMethod yX2_startPart, Cond.selects RX2 yX2_startPart yX2_startPart, Cond.code yX2_startPart cX2_startPart 1 none, Cond.fieldLink RX2 25 "EndedByOthers$Reader" "lastCode" "I"]
def wsX2_takesInSpeaker : List Cond := .code yX2_takesInSpeaker cX2_takesInSpeaker 2 (some .boolean) :: ((wsX2_takesInSpeaker_r1 ++ (wsX2_takesInSpeaker_r2 ++ (wsX2_takesInSpeaker_r3 ++ (wsX2_takesInSpeaker_r4 ++ wsX2_takesInSpeaker_r5)))) ++ wsX20 ++ wsX30)
def wsX2_takes_r1 : List Cond := [Cond.fieldLink RX2 18 "EndedByOthers$Reader" "opening" "I", Cond.methodLink RX2 50 yX2_takesInOpening, Cond.instanceMethod yX2_takesInOpening, Cond.selects RX2 yX2_takesInOpening yX2_takesInOpening, Cond.initialized RX2, Cond.code yX2_takesInOpening cX2_takesInOpening 3 (some .boolean), Cond.fieldLink RX2 22 "EndedByOthers$Reader" "lettersOfPart" "I", Cond.fieldLink RX2 25 "EndedByOthers$Reader" "lastCode" "I", Cond.fieldLink RX2 12 "EndedByOthers$Reader" "draft" "LEndedByOthers$Room;", Cond.fieldLink RX2 59 "EndedByOthers$Room" "fitting" "[I", Cond.methodLink RX2 31 yX2_startPart, Cond.instanceMethod yX2_startPart, Cond.selects RX2 yX2_startPart yX2_startPart, Cond.code yX2_startPart cX2_startPart 1 none, Cond.static yX6_isEnding, Cond.initialized RX6, Cond.code yX6_isEnding cX6_isEnding 1 (some .boolean), Cond.methodLink RX2 53 yX2_takesInSpeaker, Cond.instanceMethod yX2_takesInSpeaker, Cond.selects RX2 yX2_takesInSpeaker yX2_takesInSpeaker, Cond.code yX2_takesInSpeaker cX2_takesInSpeaker 2 (some .boolean), Cond.methodLink RX2 64 yJ0_indexOf_0f7a4, Cond.instanceMethod yJ0_indexOf_0f7a4, Cond.selects RJ0 yJ0_indexOf_0f7a4 yJ0_indexOf_0f7a4]
def wsX2_takes_r2 : List Cond := [Cond.initialized RJ0, Cond.code yJ0_indexOf_0f7a4 cJ0_indexOf_0f7a4 2 (some .int), Cond.methodLink RJ0 633 yJ0_indexOf_7cf53, Cond.instanceMethod yJ0_indexOf_7cf53, Cond.selects RJ0 yJ0_indexOf_7cf53 yJ0_indexOf_7cf53, Cond.code yJ0_indexOf_7cf53 cJ0_indexOf_7cf53 3 (some .int), Cond.fieldLink RJ0 9 "java/lang/String" "value" "[B", Cond.methodLink RJ0 492 yJ0_isLatin1_aae02, Cond.instanceMethod yJ0_isLatin1_aae02, Cond.selects RJ0 yJ0_isLatin1_aae02 yJ0_isLatin1_aae02, Cond.code yJ0_isLatin1_aae02 cJ0_isLatin1_aae02 1 (some .boolean), Cond.fieldLink RJ0 38 "java/lang/String" "COMPACT_STRINGS" "Z", Cond.fieldLink RJ0 15 "java/lang/String" "coder" "B", Cond.methodLink RJ0 505 yJ0_length_8abf5, Cond.instanceMethod yJ0_length_8abf5, Cond.selects RJ0 yJ0_length_8abf5 yJ0_length_8abf5, Cond.code yJ0_length_8abf5 cJ0_length_8abf5 1 (some .int), Cond.methodLink RJ0 335 yJ0_coder_7d493, Cond.instanceMethod yJ0_coder_7d493, Cond.selects RJ0 yJ0_coder_7d493 yJ0_coder_7d493, Cond.code yJ0_coder_7d493 cJ0_coder_7d493 1 (some .byte), Cond.methodLink RJ0 637 yJ1_indexOf_4cfef, Cond.static yJ1_indexOf_4cfef, Cond.initialized RJ1]
def wsX2_takes_r3 : List Cond := [Cond.code yJ1_indexOf_4cfef cJ1_indexOf_4cfef 4 (some .int), Cond.methodLink RJ1 92 Lib.Math.max.name, Cond.static Lib.Math.max.name, Cond.initialized "java/lang/Math", Cond.code Lib.Math.max.name Lib.Math.max.code 2 (some .int), Cond.methodLink RJ1 38 Lib.Math.min.name, Cond.static Lib.Math.min.name, Cond.code Lib.Math.min.name Lib.Math.min.code 2 (some .int), Cond.methodLink RJ1 88 yJ1_canEncode_9a6ad, Cond.static yJ1_canEncode_9a6ad, Cond.code yJ1_canEncode_9a6ad cJ1_canEncode_9a6ad 1 (some .boolean), Cond.methodLink RJ1 95 yJ1_indexOfChar_4cfef, Cond.static yJ1_indexOfChar_4cfef, Cond.code yJ1_indexOfChar_4cfef cJ1_indexOfChar_4cfef 6 (some .int), Cond.methodLink RJ0 640 yJ2_indexOf_4cfef, Cond.static yJ2_indexOf_4cfef, Cond.initialized RJ2, Cond.code yJ2_indexOf_4cfef cJ2_indexOf_4cfef 4 (some .int), Cond.methodLink RJ2 224 Lib.Math.max.name, Cond.methodLink RJ2 183 Lib.Math.min.name, Cond.constant RJ2 227 (65536), Cond.methodLink RJ2 228 yJ2_indexOfChar_4cfef, Cond.static yJ2_indexOfChar_4cfef, Cond.code yJ2_indexOfChar_4cfef cJ2_indexOfChar_4cfef 4 (some .int)]
def wsX2_takes_r4 : List Cond := [Cond.methodLink RJ2 96 yJ2_checkBoundsBeginEnd_d044e, Cond.static yJ2_checkBoundsBeginEnd_d044e, Cond.code yJ2_checkBoundsBeginEnd_d044e cJ2_checkBoundsBeginEnd_d044e 3 none, Cond.methodLink RJ2 48 yJ2_length_9d52b, Cond.static yJ2_length_9d52b, Cond.code yJ2_length_9d52b cJ2_length_9d52b 1 (some .int), Cond.methodLink RJ2 241 yJ0_checkBoundsBeginEnd_23922, Cond.static yJ0_checkBoundsBeginEnd_23922, Cond.code yJ0_checkBoundsBeginEnd_23922 cJ0_checkBoundsBeginEnd_23922 3 none, Cond.fieldLink RJ0 1053 "jdk/internal/util/Preconditions" "SIOOBE_FORMATTER" "Ljava/util/function/BiFunction;", Cond.methodLink RJ0 1062 yJ3_checkFromToIndex_8c36e, Cond.static yJ3_checkFromToIndex_8c36e, Cond.initialized RJ3, Cond.code yJ3_checkFromToIndex_8c36e cJ3_checkFromToIndex_8c36e 4 (some .int), Cond.methodLink RJ2 244 yJ2_indexOfCharUnsafe_4cfef, Cond.static yJ2_indexOfCharUnsafe_4cfef, Cond.code yJ2_indexOfCharUnsafe_4cfef cJ2_indexOfCharUnsafe_4cfef 5 (some .int), Cond.methodLink RJ2 71 yJ2_getChar_3b067, Cond.static yJ2_getChar_3b067, Cond.code yJ2_getChar_3b067 cJ2_getChar_3b067 2 (some .char), Cond.fieldLink RJ2 44 "java/lang/StringUTF16" "$assertionsDisabled" "Z", Cond.fieldLink RJ2 59 "java/lang/StringUTF16" "HI_BYTE_SHIFT" "I", Cond.fieldLink RJ2 63 "java/lang/StringUTF16" "LO_BYTE_SHIFT" "I", Cond.methodLink RJ2 232 yJ2_indexOfSupplementary_4cfef]
def wsX2_takes_r5 : List Cond := [Cond.static yJ2_indexOfSupplementary_4cfef, Cond.code yJ2_indexOfSupplementary_4cfef cJ2_indexOfSupplementary_4cfef 7 (some .int), Cond.methodLink RJ2 164 yJ11_isValidCodePoint_9a6ad, Cond.static yJ11_isValidCodePoint_9a6ad, Cond.initialized RJ11, Cond.code yJ11_isValidCodePoint_9a6ad cJ11_isValidCodePoint_9a6ad 2 (some .boolean), Cond.methodLink RJ2 157 yJ11_highSurrogate_5068e, Cond.static yJ11_highSurrogate_5068e, Cond.code yJ11_highSurrogate_5068e cJ11_highSurrogate_5068e 1 (some .char), Cond.constant RJ11 110 (55232), Cond.methodLink RJ2 161 yJ11_lowSurrogate_5068e, Cond.static yJ11_lowSurrogate_5068e, Cond.code yJ11_lowSurrogate_5068e cJ11_lowSurrogate_5068e 1 (some .char), Cond.constant RJ11 76 (56320), Cond.methodLink RX2 70 yX2_takesKind, Cond.instanceMethod yX2_takesKind, Cond.selects RX2 yX2_takesKind yX2_takesKind, Cond.code yX2_takesKind cX2_takesKind 2 (some .boolean), Cond.fieldLink RX2 47 "EndedByOthers$Room" "speakers" "I", Cond.fieldLink RX2 79 "EndedByOthers$Room" "kinds" "[I", Cond.methodLink RX2 73 yX2_takesWant, Cond.instanceMethod yX2_takesWant, Cond.selects RX2 yX2_takesWant yX2_takesWant, Cond.code yX2_takesWant cX2_takesWant 2 (some .boolean)]
def wsX2_takes_r6 : List Cond := [Cond.fieldLink RX2 82 "EndedByOthers$Room" "wants" "[I", Cond.methodLink RX2 76 yX2_takesNextSpeaker, Cond.instanceMethod yX2_takesNextSpeaker, Cond.selects RX2 yX2_takesNextSpeaker yX2_takesNextSpeaker, Cond.code yX2_takesNextSpeaker cX2_takesNextSpeaker 2 (some .boolean)]
def wsX2_takes : List Cond := .code yX2_takes cX2_takes 2 (some .boolean) :: ((wsX2_takes_r1 ++ (wsX2_takes_r2 ++ (wsX2_takes_r3 ++ (wsX2_takes_r4 ++ (wsX2_takes_r5 ++ wsX2_takes_r6))))) ++ wsX20 ++ wsX30)
def wsX2_read_r1 : List Cond := [Cond.fieldLink RX2 12 "EndedByOthers$Reader" "draft" "LEndedByOthers$Room;", Cond.fieldLink RX2 18 "EndedByOthers$Reader" "opening" "I", Cond.fieldLink RX2 34 "EndedByOthers$Page" "length" "I", Cond.fieldLink RX2 39 "EndedByOthers$Page" "codes" "[I", Cond.methodLink RX2 28 yX3_clear, Cond.instanceMethod yX3_clear, Cond.selects RX3 yX3_clear yX3_clear, Cond.initialized RX3, Cond.code yX3_clear cX3_clear 2 none, Cond.fieldLink RX3 9 "EndedByOthers$Room" "fitting" "[I", Cond.fieldLink RX3 21 "EndedByOthers$Room" "speakers" "I", Cond.methodLink RX2 31 yX2_startPart, Cond.instanceMethod yX2_startPart, Cond.selects RX2 yX2_startPart yX2_startPart, Cond.initialized RX2, Cond.code yX2_startPart cX2_startPart 1 none, Cond.fieldLink RX2 22 "EndedByOthers$Reader" "lettersOfPart" "I", Cond.fieldLink RX2 25 "EndedByOthers$Reader" "lastCode" "I", Cond.methodLink RX2 43 yX2_takes, Cond.instanceMethod yX2_takes, Cond.selects RX2 yX2_takes yX2_takes, Cond.code yX2_takes cX2_takes 2 (some .boolean), Cond.methodLink RX2 50 yX2_takesInOpening, Cond.instanceMethod yX2_takesInOpening]
def wsX2_read_r2 : List Cond := [Cond.selects RX2 yX2_takesInOpening yX2_takesInOpening, Cond.code yX2_takesInOpening cX2_takesInOpening 3 (some .boolean), Cond.fieldLink RX2 59 "EndedByOthers$Room" "fitting" "[I", Cond.static yX6_isEnding, Cond.initialized RX6, Cond.code yX6_isEnding cX6_isEnding 1 (some .boolean), Cond.methodLink RX2 53 yX2_takesInSpeaker, Cond.instanceMethod yX2_takesInSpeaker, Cond.selects RX2 yX2_takesInSpeaker yX2_takesInSpeaker, Cond.code yX2_takesInSpeaker cX2_takesInSpeaker 2 (some .boolean), Cond.methodLink RX2 64 yJ0_indexOf_0f7a4, Cond.instanceMethod yJ0_indexOf_0f7a4, Cond.selects RJ0 yJ0_indexOf_0f7a4 yJ0_indexOf_0f7a4, Cond.initialized RJ0, Cond.code yJ0_indexOf_0f7a4 cJ0_indexOf_0f7a4 2 (some .int), Cond.methodLink RJ0 633 yJ0_indexOf_7cf53, Cond.instanceMethod yJ0_indexOf_7cf53, Cond.selects RJ0 yJ0_indexOf_7cf53 yJ0_indexOf_7cf53, Cond.code yJ0_indexOf_7cf53 cJ0_indexOf_7cf53 3 (some .int), Cond.fieldLink RJ0 9 "java/lang/String" "value" "[B", Cond.methodLink RJ0 492 yJ0_isLatin1_aae02, Cond.instanceMethod yJ0_isLatin1_aae02, Cond.selects RJ0 yJ0_isLatin1_aae02 yJ0_isLatin1_aae02, Cond.code yJ0_isLatin1_aae02 cJ0_isLatin1_aae02 1 (some .boolean)]
def wsX2_read_r3 : List Cond := [Cond.fieldLink RJ0 38 "java/lang/String" "COMPACT_STRINGS" "Z", Cond.fieldLink RJ0 15 "java/lang/String" "coder" "B", Cond.methodLink RJ0 505 yJ0_length_8abf5, Cond.instanceMethod yJ0_length_8abf5, Cond.selects RJ0 yJ0_length_8abf5 yJ0_length_8abf5, Cond.code yJ0_length_8abf5 cJ0_length_8abf5 1 (some .int), Cond.methodLink RJ0 335 yJ0_coder_7d493, Cond.instanceMethod yJ0_coder_7d493, Cond.selects RJ0 yJ0_coder_7d493 yJ0_coder_7d493, Cond.code yJ0_coder_7d493 cJ0_coder_7d493 1 (some .byte), Cond.methodLink RJ0 637 yJ1_indexOf_4cfef, Cond.static yJ1_indexOf_4cfef, Cond.initialized RJ1, Cond.code yJ1_indexOf_4cfef cJ1_indexOf_4cfef 4 (some .int), Cond.methodLink RJ1 92 Lib.Math.max.name, Cond.static Lib.Math.max.name, Cond.initialized "java/lang/Math", Cond.code Lib.Math.max.name Lib.Math.max.code 2 (some .int), Cond.methodLink RJ1 38 Lib.Math.min.name, Cond.static Lib.Math.min.name, Cond.code Lib.Math.min.name Lib.Math.min.code 2 (some .int), Cond.methodLink RJ1 88 yJ1_canEncode_9a6ad, Cond.static yJ1_canEncode_9a6ad, Cond.code yJ1_canEncode_9a6ad cJ1_canEncode_9a6ad 1 (some .boolean)]
def wsX2_read_r4 : List Cond := [Cond.methodLink RJ1 95 yJ1_indexOfChar_4cfef, Cond.static yJ1_indexOfChar_4cfef, Cond.code yJ1_indexOfChar_4cfef cJ1_indexOfChar_4cfef 6 (some .int), Cond.methodLink RJ0 640 yJ2_indexOf_4cfef, Cond.static yJ2_indexOf_4cfef, Cond.initialized RJ2, Cond.code yJ2_indexOf_4cfef cJ2_indexOf_4cfef 4 (some .int), Cond.methodLink RJ2 224 Lib.Math.max.name, Cond.methodLink RJ2 183 Lib.Math.min.name, Cond.constant RJ2 227 (65536), Cond.methodLink RJ2 228 yJ2_indexOfChar_4cfef, Cond.static yJ2_indexOfChar_4cfef, Cond.code yJ2_indexOfChar_4cfef cJ2_indexOfChar_4cfef 4 (some .int), Cond.methodLink RJ2 96 yJ2_checkBoundsBeginEnd_d044e, Cond.static yJ2_checkBoundsBeginEnd_d044e, Cond.code yJ2_checkBoundsBeginEnd_d044e cJ2_checkBoundsBeginEnd_d044e 3 none, Cond.methodLink RJ2 48 yJ2_length_9d52b, Cond.static yJ2_length_9d52b, Cond.code yJ2_length_9d52b cJ2_length_9d52b 1 (some .int), Cond.methodLink RJ2 241 yJ0_checkBoundsBeginEnd_23922, Cond.static yJ0_checkBoundsBeginEnd_23922, Cond.code yJ0_checkBoundsBeginEnd_23922 cJ0_checkBoundsBeginEnd_23922 3 none, Cond.fieldLink RJ0 1053 "jdk/internal/util/Preconditions" "SIOOBE_FORMATTER" "Ljava/util/function/BiFunction;", Cond.methodLink RJ0 1062 yJ3_checkFromToIndex_8c36e]
def wsX2_read_r5 : List Cond := [Cond.static yJ3_checkFromToIndex_8c36e, Cond.initialized RJ3, Cond.code yJ3_checkFromToIndex_8c36e cJ3_checkFromToIndex_8c36e 4 (some .int), Cond.methodLink RJ2 244 yJ2_indexOfCharUnsafe_4cfef, Cond.static yJ2_indexOfCharUnsafe_4cfef, Cond.code yJ2_indexOfCharUnsafe_4cfef cJ2_indexOfCharUnsafe_4cfef 5 (some .int), Cond.methodLink RJ2 71 yJ2_getChar_3b067, Cond.static yJ2_getChar_3b067, Cond.code yJ2_getChar_3b067 cJ2_getChar_3b067 2 (some .char), Cond.fieldLink RJ2 44 "java/lang/StringUTF16" "$assertionsDisabled" "Z", Cond.fieldLink RJ2 59 "java/lang/StringUTF16" "HI_BYTE_SHIFT" "I", Cond.fieldLink RJ2 63 "java/lang/StringUTF16" "LO_BYTE_SHIFT" "I", Cond.methodLink RJ2 232 yJ2_indexOfSupplementary_4cfef, Cond.static yJ2_indexOfSupplementary_4cfef, Cond.code yJ2_indexOfSupplementary_4cfef cJ2_indexOfSupplementary_4cfef 7 (some .int), Cond.methodLink RJ2 164 yJ11_isValidCodePoint_9a6ad, Cond.static yJ11_isValidCodePoint_9a6ad, Cond.initialized RJ11, Cond.code yJ11_isValidCodePoint_9a6ad cJ11_isValidCodePoint_9a6ad 2 (some .boolean), Cond.methodLink RJ2 157 yJ11_highSurrogate_5068e, Cond.static yJ11_highSurrogate_5068e, Cond.code yJ11_highSurrogate_5068e cJ11_highSurrogate_5068e 1 (some .char), Cond.constant RJ11 110 (55232), Cond.methodLink RJ2 161 yJ11_lowSurrogate_5068e]
def wsX2_read_r6 : List Cond := [Cond.static yJ11_lowSurrogate_5068e, Cond.code yJ11_lowSurrogate_5068e cJ11_lowSurrogate_5068e 1 (some .char), Cond.constant RJ11 76 (56320), Cond.methodLink RX2 70 yX2_takesKind, Cond.instanceMethod yX2_takesKind, Cond.selects RX2 yX2_takesKind yX2_takesKind, Cond.code yX2_takesKind cX2_takesKind 2 (some .boolean), Cond.fieldLink RX2 47 "EndedByOthers$Room" "speakers" "I", Cond.fieldLink RX2 79 "EndedByOthers$Room" "kinds" "[I", Cond.methodLink RX2 73 yX2_takesWant, Cond.instanceMethod yX2_takesWant, Cond.selects RX2 yX2_takesWant yX2_takesWant, Cond.code yX2_takesWant cX2_takesWant 2 (some .boolean), Cond.fieldLink RX2 82 "EndedByOthers$Room" "wants" "[I", Cond.methodLink RX2 76 yX2_takesNextSpeaker, Cond.instanceMethod yX2_takesNextSpeaker, Cond.selects RX2 yX2_takesNextSpeaker yX2_takesNextSpeaker, Cond.code yX2_takesNextSpeaker cX2_takesNextSpeaker 2 (some .boolean)]
def wsX2_read : List Cond := .code yX2_read cX2_read 3 (some .int) :: ((wsX2_read_r1 ++ (wsX2_read_r2 ++ (wsX2_read_r3 ++ (wsX2_read_r4 ++ (wsX2_read_r5 ++ wsX2_read_r6))))) ++ wsX20 ++ wsX10 ++ wsX30)
def wsX2_hasWholeRoom : List Cond := .code yX2_hasWholeRoom cX2_hasWholeRoom 1 (some .boolean) :: ([.fieldLink RX2 12 "EndedByOthers$Reader" "draft" "LEndedByOthers$Room;", .fieldLink RX2 47 "EndedByOthers$Room" "speakers" "I", .fieldLink RX2 22 "EndedByOthers$Reader" "lettersOfPart" "I"] ++ wsX20 ++ wsX30)
def wsX3_copyFrom : List Cond := .code yX3_copyFrom cX3_copyFrom 2 none :: ([.fieldLink RX3 9 "EndedByOthers$Room" "fitting" "[I", .methodLink RX3 25 arraycopyName, .native arraycopyName, .static arraycopyName, .initialized "java/lang/System", .fieldLink RX3 15 "EndedByOthers$Room" "kinds" "[I", .fieldLink RX3 18 "EndedByOthers$Room" "wants" "[I", .fieldLink RX3 21 "EndedByOthers$Room" "speakers" "I"] ++ wsX30)
def wsX4_init : List Cond := .code yX4_init cX4_init 1 none :: ([.methodLink RX4 3 objectInit, .instanceMethod objectInit, .code objectInit ⟨#[0xb1]⟩ 1 none, .arrayClass .int, .fieldLink RX4 9 "EndedByOthers$Scene" "wants" "[I", .fieldLink RX4 15 "EndedByOthers$Scene" "beginners" "[I", .fieldLink RX4 18 "EndedByOthers$Scene" "openings" "[I", .fieldLink RX4 21 "EndedByOthers$Scene" "enders" "[I", .fieldLink RX4 24 "EndedByOthers$Scene" "endings" "[I", .fieldLink RX4 27 "EndedByOthers$Scene" "sentences" "I", .fieldLink RX4 31 "EndedByOthers$Scene" "heardSpeakers" "[I", .fieldLink RX4 34 "EndedByOthers$Scene" "heardOpenings" "[I", .fieldLink RX4 37 "EndedByOthers$Scene" "heardEndings" "[I", .fieldLink RX4 40 "EndedByOthers$Scene" "heard" "I", .fieldLink RX4 43 "EndedByOthers$Scene" "changes" "I"] ++ wsX40)
def wsX4_start : List Cond := .code yX4_start cX4_start 2 none :: ([.fieldLink RX4 9 "EndedByOthers$Scene" "wants" "[I", .methodLink RX4 46 arraycopyName, .native arraycopyName, .static arraycopyName, .initialized "java/lang/System", .fieldLink RX4 27 "EndedByOthers$Scene" "sentences" "I", .fieldLink RX4 40 "EndedByOthers$Scene" "heard" "I", .fieldLink RX4 43 "EndedByOthers$Scene" "changes" "I"] ++ wsX40)
def wsX4_copyFrom : List Cond := .code yX4_copyFrom cX4_copyFrom 2 none :: ([.fieldLink RX4 9 "EndedByOthers$Scene" "wants" "[I", .methodLink RX4 46 arraycopyName, .native arraycopyName, .static arraycopyName, .initialized "java/lang/System", .fieldLink RX4 15 "EndedByOthers$Scene" "beginners" "[I", .fieldLink RX4 18 "EndedByOthers$Scene" "openings" "[I", .fieldLink RX4 21 "EndedByOthers$Scene" "enders" "[I", .fieldLink RX4 24 "EndedByOthers$Scene" "endings" "[I", .fieldLink RX4 31 "EndedByOthers$Scene" "heardSpeakers" "[I", .fieldLink RX4 34 "EndedByOthers$Scene" "heardOpenings" "[I", .fieldLink RX4 37 "EndedByOthers$Scene" "heardEndings" "[I", .fieldLink RX4 27 "EndedByOthers$Scene" "sentences" "I", .fieldLink RX4 40 "EndedByOthers$Scene" "heard" "I", .fieldLink RX4 43 "EndedByOthers$Scene" "changes" "I"] ++ wsX40)
def wsX4_addSentence : List Cond := .code yX4_addSentence cX4_addSentence 4 (some .int) :: ([.fieldLink RX4 27 "EndedByOthers$Scene" "sentences" "I", .fieldLink RX4 15 "EndedByOthers$Scene" "beginners" "[I", .fieldLink RX4 18 "EndedByOthers$Scene" "openings" "[I", .fieldLink RX4 21 "EndedByOthers$Scene" "enders" "[I", .fieldLink RX4 24 "EndedByOthers$Scene" "endings" "[I"] ++ wsX40)
def wsX4_addHeard : List Cond := .code yX4_addHeard cX4_addHeard 4 none :: ([.fieldLink RX4 40 "EndedByOthers$Scene" "heard" "I", .fieldLink RX4 31 "EndedByOthers$Scene" "heardSpeakers" "[I", .fieldLink RX4 34 "EndedByOthers$Scene" "heardOpenings" "[I", .fieldLink RX4 37 "EndedByOthers$Scene" "heardEndings" "[I"] ++ wsX40)
def wsX4_isOpen : List Cond := .code yX4_isOpen cX4_isOpen 2 (some .boolean) :: ([.fieldLink RX4 21 "EndedByOthers$Scene" "enders" "[I"] ++ wsX40)
def wsX4_isAsWanted : List Cond := .code yX4_isAsWanted cX4_isAsWanted 2 (some .boolean) :: ([.fieldLink RX4 24 "EndedByOthers$Scene" "endings" "[I", .fieldLink RX4 9 "EndedByOthers$Scene" "wants" "[I", .fieldLink RX4 15 "EndedByOthers$Scene" "beginners" "[I", .methodLink RX4 52 yX4_isOpen, .instanceMethod yX4_isOpen, .selects RX4 yX4_isOpen yX4_isOpen, .initialized RX4, .code yX4_isOpen cX4_isOpen 2 (some .boolean), .fieldLink RX4 21 "EndedByOthers$Scene" "enders" "[I"] ++ wsX40)
def wsX4_openOf : List Cond := .code yX4_openOf cX4_openOf 3 (some .int) :: ([.fieldLink RX4 27 "EndedByOthers$Scene" "sentences" "I", .fieldLink RX4 15 "EndedByOthers$Scene" "beginners" "[I", .methodLink RX4 52 yX4_isOpen, .instanceMethod yX4_isOpen, .selects RX4 yX4_isOpen yX4_isOpen, .initialized RX4, .code yX4_isOpen cX4_isOpen 2 (some .boolean), .fieldLink RX4 21 "EndedByOthers$Scene" "enders" "[I"] ++ wsX40)
def wsX4_usedBy : List Cond := .code yX4_usedBy cX4_usedBy 4 (some .int) :: ([.fieldLink RX4 27 "EndedByOthers$Scene" "sentences" "I", .fieldLink RX4 21 "EndedByOthers$Scene" "enders" "[I", .fieldLink RX4 24 "EndedByOthers$Scene" "endings" "[I"] ++ wsX40)
def wsX4_howManyBegunBy : List Cond := .code yX4_howManyBegunBy cX4_howManyBegunBy 4 (some .int) :: ([.fieldLink RX4 27 "EndedByOthers$Scene" "sentences" "I", .fieldLink RX4 15 "EndedByOthers$Scene" "beginners" "[I"] ++ wsX40)
def wsX4_howManyEndedBy : List Cond := .code yX4_howManyEndedBy cX4_howManyEndedBy 4 (some .int) :: ([.fieldLink RX4 27 "EndedByOthers$Scene" "sentences" "I", .fieldLink RX4 21 "EndedByOthers$Scene" "enders" "[I"] ++ wsX40)
def wsX4_howManyOpen : List Cond := .code yX4_howManyOpen cX4_howManyOpen 1 (some .int) :: ([.methodLink RX4 56 yX4_howManyEndedBy, .instanceMethod yX4_howManyEndedBy, .selects RX4 yX4_howManyEndedBy yX4_howManyEndedBy, .initialized RX4, .code yX4_howManyEndedBy cX4_howManyEndedBy 4 (some .int), .fieldLink RX4 27 "EndedByOthers$Scene" "sentences" "I", .fieldLink RX4 21 "EndedByOthers$Scene" "enders" "[I"] ++ wsX40)
def wsX4_howManyAsWanted : List Cond := .code yX4_howManyAsWanted cX4_howManyAsWanted 3 (some .int) :: ([.fieldLink RX4 27 "EndedByOthers$Scene" "sentences" "I", .methodLink RX4 60 yX4_isAsWanted, .instanceMethod yX4_isAsWanted, .selects RX4 yX4_isAsWanted yX4_isAsWanted, .initialized RX4, .code yX4_isAsWanted cX4_isAsWanted 2 (some .boolean), .fieldLink RX4 24 "EndedByOthers$Scene" "endings" "[I", .fieldLink RX4 9 "EndedByOthers$Scene" "wants" "[I", .fieldLink RX4 15 "EndedByOthers$Scene" "beginners" "[I", .methodLink RX4 52 yX4_isOpen, .instanceMethod yX4_isOpen, .selects RX4 yX4_isOpen yX4_isOpen, .code yX4_isOpen cX4_isOpen 2 (some .boolean), .fieldLink RX4 21 "EndedByOthers$Scene" "enders" "[I"] ++ wsX40)
def wsJ6_bitCount_0f7a4 : List Cond := .code yJ6_bitCount_0f7a4 cJ6_bitCount_0f7a4 1 (some .int) :: ([.constant RJ6 265 (1431655765), .constant RJ6 266 (858993459), .constant RJ6 267 (252645135)])
def wsX4_howManyUnlikeEndings : List Cond := .code yX4_howManyUnlikeEndings cX4_howManyUnlikeEndings 3 (some .int) :: ([.methodLink RX4 63 yX4_usedBy, .instanceMethod yX4_usedBy, .selects RX4 yX4_usedBy yX4_usedBy, .initialized RX4, .code yX4_usedBy cX4_usedBy 4 (some .int), .fieldLink RX4 27 "EndedByOthers$Scene" "sentences" "I", .fieldLink RX4 21 "EndedByOthers$Scene" "enders" "[I", .fieldLink RX4 24 "EndedByOthers$Scene" "endings" "[I", .methodLink RX4 66 yJ6_bitCount_0f7a4, .static yJ6_bitCount_0f7a4, .initialized RJ6, .code yJ6_bitCount_0f7a4 cJ6_bitCount_0f7a4 1 (some .int), .constant RJ6 265 (1431655765), .constant RJ6 266 (858993459), .constant RJ6 267 (252645135)] ++ wsX40)
def wsX5_init : List Cond := .code yX5_init cX5_init 1 none :: ([.methodLink RX5 3 objectInit, .instanceMethod objectInit, .code objectInit ⟨#[0xb1]⟩ 1 none, .arrayClass .int, .fieldLink RX5 9 "EndedByOthers$Trial" "used" "[I", .fieldLink RX5 15 "EndedByOthers$Trial" "seed" "J", .fieldLink RX5 19 "EndedByOthers$Trial" "ended" "I", .fieldLink RX5 23 "EndedByOthers$Trial" "asWanted" "I"] ++ wsX50)
def wsX5_draw : List Cond := .code yX5_draw cX5_draw 2 (some .int) :: ([.constantLong RX5 57 (1103515245), .fieldLink RX5 15 "EndedByOthers$Trial" "seed" "J", .constantLong RX5 59 (12345), .constantLong RX5 61 (2147483648), .constantLong RX5 63 (65536)] ++ wsX50)
def wsX6_greatest : List Cond := .code yX6_greatest cX6_greatest 2 (some .int) :: ([])
def wsX6_least : List Cond := .code yX6_least cX6_least 2 (some .int) :: ([])
def wsX6_endingBy : List Cond := .code yX6_endingBy cX6_endingBy 5 (some .int) :: ([.methodLink RX6 239 yX6_has, .static yX6_has, .initialized RX6, .code yX6_has cX6_has 2 (some .boolean), .methodLink RX6 242 yX6_greatest, .static yX6_greatest, .code yX6_greatest cX6_greatest 2 (some .int), .methodLink RX6 245 yX6_least, .static yX6_least, .code yX6_least cX6_least 2 (some .int)])
def wsX5_talkOnce_r1 : List Cond := [Cond.fieldLink RX5 36 "EndedByOthers$Room" "speakers" "I", Cond.fieldLink RX5 44 "EndedByOthers$Room" "kinds" "[I", Cond.fieldLink RX5 47 "EndedByOthers$Room" "fitting" "[I", Cond.fieldLink RX5 50 "EndedByOthers$Scene" "wants" "[I", Cond.fieldLink RX5 9 "EndedByOthers$Trial" "used" "[I", Cond.fieldLink RX5 19 "EndedByOthers$Trial" "ended" "I", Cond.fieldLink RX5 23 "EndedByOthers$Trial" "asWanted" "I", Cond.methodLink RX5 41 yX5_draw, Cond.instanceMethod yX5_draw, Cond.selects RX5 yX5_draw yX5_draw, Cond.initialized RX5, Cond.code yX5_draw cX5_draw 2 (some .int), Cond.constantLong RX5 57 (1103515245), Cond.fieldLink RX5 15 "EndedByOthers$Trial" "seed" "J", Cond.constantLong RX5 59 (12345), Cond.constantLong RX5 61 (2147483648), Cond.constantLong RX5 63 (65536), Cond.static yX6_endingBy, Cond.initialized RX6, Cond.code yX6_endingBy cX6_endingBy 5 (some .int), Cond.methodLink RX6 239 yX6_has, Cond.static yX6_has, Cond.code yX6_has cX6_has 2 (some .boolean), Cond.methodLink RX6 242 yX6_greatest]
def wsX5_talkOnce_r2 : List Cond := [Cond.static yX6_greatest, Cond.code yX6_greatest cX6_greatest 2 (some .int), Cond.methodLink RX6 245 yX6_least, Cond.static yX6_least, Cond.code yX6_least cX6_least 2 (some .int)]
def wsX5_talkOnce : List Cond := .code yX5_talkOnce cX5_talkOnce 7 none :: ((wsX5_talkOnce_r1 ++ wsX5_talkOnce_r2) ++ wsX30 ++ wsX40 ++ wsX50)
def wsX5_run_r1 : List Cond := [Cond.fieldLink RX5 15 "EndedByOthers$Trial" "seed" "J", Cond.fieldLink RX5 19 "EndedByOthers$Trial" "ended" "I", Cond.fieldLink RX5 23 "EndedByOthers$Trial" "asWanted" "I", Cond.fieldLink RX5 9 "EndedByOthers$Trial" "used" "[I", Cond.methodLink RX5 26 yX4_usedBy, Cond.instanceMethod yX4_usedBy, Cond.selects RX4 yX4_usedBy yX4_usedBy, Cond.initialized RX4, Cond.code yX4_usedBy cX4_usedBy 4 (some .int), Cond.fieldLink RX4 27 "EndedByOthers$Scene" "sentences" "I", Cond.fieldLink RX4 21 "EndedByOthers$Scene" "enders" "[I", Cond.fieldLink RX4 24 "EndedByOthers$Scene" "endings" "[I", Cond.methodLink RX5 32 yX5_talkOnce, Cond.instanceMethod yX5_talkOnce, Cond.selects RX5 yX5_talkOnce yX5_talkOnce, Cond.initialized RX5, Cond.code yX5_talkOnce cX5_talkOnce 7 none, Cond.fieldLink RX5 36 "EndedByOthers$Room" "speakers" "I", Cond.fieldLink RX5 44 "EndedByOthers$Room" "kinds" "[I", Cond.fieldLink RX5 47 "EndedByOthers$Room" "fitting" "[I", Cond.fieldLink RX5 50 "EndedByOthers$Scene" "wants" "[I", Cond.methodLink RX5 41 yX5_draw, Cond.instanceMethod yX5_draw, Cond.selects RX5 yX5_draw yX5_draw]
def wsX5_run_r2 : List Cond := [Cond.code yX5_draw cX5_draw 2 (some .int), Cond.constantLong RX5 57 (1103515245), Cond.constantLong RX5 59 (12345), Cond.constantLong RX5 61 (2147483648), Cond.constantLong RX5 63 (65536), Cond.static yX6_endingBy, Cond.initialized RX6, Cond.code yX6_endingBy cX6_endingBy 5 (some .int), Cond.methodLink RX6 239 yX6_has, Cond.static yX6_has, Cond.code yX6_has cX6_has 2 (some .boolean), Cond.methodLink RX6 242 yX6_greatest, Cond.static yX6_greatest, Cond.code yX6_greatest cX6_greatest 2 (some .int), Cond.methodLink RX6 245 yX6_least, Cond.static yX6_least, Cond.code yX6_least cX6_least 2 (some .int)]
def wsX5_run : List Cond := .code yX5_run cX5_run 6 none :: ((wsX5_run_r1 ++ wsX5_run_r2) ++ wsX50 ++ wsX40 ++ wsX30)
def wsX6_init_r1 : List Cond := [Cond.methodLink RX6 1 objectInit, Cond.instanceMethod objectInit, Cond.code objectInit ⟨#[0xb1]⟩ 1 none, Cond.classLink RX6 7 RX1, Cond.instantiable RX1 2, Cond.initialized RX1, Cond.fieldLink RX6 10 "EndedByOthers" "page" "LEndedByOthers$Page;", Cond.classLink RX6 16 RX2, Cond.instantiable RX2 4, Cond.initialized RX2, Cond.fieldLink RX6 19 "EndedByOthers" "reader" "LEndedByOthers$Reader;", Cond.classLink RX6 23 RX3, Cond.instantiable RX3 4, Cond.initialized RX3, Cond.fieldLink RX6 26 "EndedByOthers" "room" "LEndedByOthers$Room;", Cond.classLink RX6 30 RX4, Cond.instantiable RX4 11, Cond.initialized RX4, Cond.fieldLink RX6 33 "EndedByOthers" "scene" "LEndedByOthers$Scene;", Cond.fieldLink RX6 37 "EndedByOthers" "image" "LEndedByOthers$Scene;", Cond.classLink RX6 40 RX0, Cond.instantiable RX0 3, Cond.initialized RX0, Cond.fieldLink RX6 43 "EndedByOthers" "matching" "LEndedByOthers$Matching;"]
def wsX6_init_r2 : List Cond := [Cond.classLink RX6 47 RX5, Cond.instantiable RX5 4, Cond.initialized RX5, Cond.fieldLink RX6 50 "EndedByOthers" "trial" "LEndedByOthers$Trial;", Cond.fieldLink RX6 54 "EndedByOthers" "imageKept" "Z", Cond.fieldLink RX6 58 "EndedByOthers" "roomsRead" "I", Cond.instanceMethod yX1_init, Cond.code yX1_init cX1_init 1 none, Cond.methodLink RX1 3 objectInit, Cond.arrayClass .int, Cond.fieldLink RX1 9 "EndedByOthers$Page" "codes" "[I", Cond.fieldLink RX1 15 "EndedByOthers$Page" "length" "I", Cond.instanceMethod yX2_init, Cond.code yX2_init cX2_init 1 none, Cond.methodLink RX2 3 objectInit, Cond.classLink RX2 9 RX3, Cond.fieldLink RX2 12 "EndedByOthers$Reader" "draft" "LEndedByOthers$Room;", Cond.fieldLink RX2 18 "EndedByOthers$Reader" "opening" "I", Cond.fieldLink RX2 22 "EndedByOthers$Reader" "lettersOfPart" "I", Cond.fieldLink RX2 25 "EndedByOthers$Reader" "lastCode" "I", Cond.instanceMethod yX3_init, Cond.code yX3_init cX3_init 1 none, Cond.methodLink RX3 3 objectInit, Cond.fieldLink RX3 9 "EndedByOthers$Room" "fitting" "[I"]
def wsX6_init_r3 : List Cond := [Cond.fieldLink RX3 15 "EndedByOthers$Room" "kinds" "[I", Cond.fieldLink RX3 18 "EndedByOthers$Room" "wants" "[I", Cond.fieldLink RX3 21 "EndedByOthers$Room" "speakers" "I", Cond.instanceMethod yX4_init, Cond.code yX4_init cX4_init 1 none, Cond.methodLink RX4 3 objectInit, Cond.fieldLink RX4 9 "EndedByOthers$Scene" "wants" "[I", Cond.fieldLink RX4 15 "EndedByOthers$Scene" "beginners" "[I", Cond.fieldLink RX4 18 "EndedByOthers$Scene" "openings" "[I", Cond.fieldLink RX4 21 "EndedByOthers$Scene" "enders" "[I", Cond.fieldLink RX4 24 "EndedByOthers$Scene" "endings" "[I", Cond.fieldLink RX4 27 "EndedByOthers$Scene" "sentences" "I", Cond.fieldLink RX4 31 "EndedByOthers$Scene" "heardSpeakers" "[I", Cond.fieldLink RX4 34 "EndedByOthers$Scene" "heardOpenings" "[I", Cond.fieldLink RX4 37 "EndedByOthers$Scene" "heardEndings" "[I", Cond.fieldLink RX4 40 "EndedByOthers$Scene" "heard" "I", Cond.fieldLink RX4 43 "EndedByOthers$Scene" "changes" "I", Cond.instanceMethod yX0_init, Cond.code yX0_init cX0_init 1 none, Cond.methodLink RX0 3 objectInit, Cond.fieldLink RX0 9 "EndedByOthers$Matching" "pleasing" "[I", Cond.fieldLink RX0 15 "EndedByOthers$Matching" "picks" "[I", Cond.fieldLink RX0 18 "EndedByOthers$Matching" "ended" "I", Cond.instanceMethod yX5_init]
def wsX6_init_r4 : List Cond := [Cond.code yX5_init cX5_init 1 none, Cond.methodLink RX5 3 objectInit, Cond.fieldLink RX5 9 "EndedByOthers$Trial" "used" "[I", Cond.fieldLink RX5 15 "EndedByOthers$Trial" "seed" "J", Cond.fieldLink RX5 19 "EndedByOthers$Trial" "ended" "I", Cond.fieldLink RX5 23 "EndedByOthers$Trial" "asWanted" "I"]
def wsX6_init : List Cond := .code yX6_init cX6_init 1 none :: ((wsX6_init_r1 ++ (wsX6_init_r2 ++ (wsX6_init_r3 ++ wsX6_init_r4))) ++ wsX10 ++ wsX60 ++ wsX20 ++ wsX30 ++ wsX40 ++ wsX00 ++ wsX50)
def wsX6_letter : List Cond := .code yX6_letter cX6_letter 2 (some .int) :: ([.fieldLink RX6 10 "EndedByOthers" "page" "LEndedByOthers$Page;", .fieldLink RX6 62 "EndedByOthers$Page" "length" "I", .methodLink RX6 65 yX1_add, .instanceMethod yX1_add, .selects RX1 yX1_add yX1_add, .initialized RX1, .code yX1_add cX1_add 2 none, .fieldLink RX1 15 "EndedByOthers$Page" "length" "I", .fieldLink RX1 9 "EndedByOthers$Page" "codes" "[I"] ++ wsX60 ++ wsX10)
def wsX6_blank : List Cond := .code yX6_blank cX6_blank 2 (some .int) :: ([.fieldLink RX6 10 "EndedByOthers" "page" "LEndedByOthers$Page;", .fieldLink RX6 62 "EndedByOthers$Page" "length" "I"] ++ wsX60 ++ wsX10)
def wsX6_fault_r1 : List Cond := [Cond.fieldLink RX6 19 "EndedByOthers" "reader" "LEndedByOthers$Reader;", Cond.fieldLink RX6 10 "EndedByOthers" "page" "LEndedByOthers$Page;", Cond.methodLink RX6 69 yX2_read, Cond.instanceMethod yX2_read, Cond.selects RX2 yX2_read yX2_read, Cond.initialized RX2, Cond.code yX2_read cX2_read 3 (some .int), Cond.fieldLink RX2 12 "EndedByOthers$Reader" "draft" "LEndedByOthers$Room;", Cond.fieldLink RX2 18 "EndedByOthers$Reader" "opening" "I", Cond.fieldLink RX2 34 "EndedByOthers$Page" "length" "I", Cond.fieldLink RX2 39 "EndedByOthers$Page" "codes" "[I", Cond.methodLink RX2 28 yX3_clear, Cond.instanceMethod yX3_clear, Cond.selects RX3 yX3_clear yX3_clear, Cond.initialized RX3, Cond.code yX3_clear cX3_clear 2 none, Cond.fieldLink RX3 9 "EndedByOthers$Room" "fitting" "[I", Cond.fieldLink RX3 21 "EndedByOthers$Room" "speakers" "I", Cond.methodLink RX2 31 yX2_startPart, Cond.instanceMethod yX2_startPart, Cond.selects RX2 yX2_startPart yX2_startPart, Cond.code yX2_startPart cX2_startPart 1 none, Cond.fieldLink RX2 22 "EndedByOthers$Reader" "lettersOfPart" "I", Cond.fieldLink RX2 25 "EndedByOthers$Reader" "lastCode" "I"]
def wsX6_fault_r2 : List Cond := [Cond.methodLink RX2 43 yX2_takes, Cond.instanceMethod yX2_takes, Cond.selects RX2 yX2_takes yX2_takes, Cond.code yX2_takes cX2_takes 2 (some .boolean), Cond.methodLink RX2 50 yX2_takesInOpening, Cond.instanceMethod yX2_takesInOpening, Cond.selects RX2 yX2_takesInOpening yX2_takesInOpening, Cond.code yX2_takesInOpening cX2_takesInOpening 3 (some .boolean), Cond.fieldLink RX2 59 "EndedByOthers$Room" "fitting" "[I", Cond.static yX6_isEnding, Cond.initialized RX6, Cond.code yX6_isEnding cX6_isEnding 1 (some .boolean), Cond.methodLink RX2 53 yX2_takesInSpeaker, Cond.instanceMethod yX2_takesInSpeaker, Cond.selects RX2 yX2_takesInSpeaker yX2_takesInSpeaker, Cond.code yX2_takesInSpeaker cX2_takesInSpeaker 2 (some .boolean), Cond.methodLink RX2 64 yJ0_indexOf_0f7a4, Cond.instanceMethod yJ0_indexOf_0f7a4, Cond.selects RJ0 yJ0_indexOf_0f7a4 yJ0_indexOf_0f7a4, Cond.initialized RJ0, Cond.code yJ0_indexOf_0f7a4 cJ0_indexOf_0f7a4 2 (some .int), Cond.methodLink RJ0 633 yJ0_indexOf_7cf53, Cond.instanceMethod yJ0_indexOf_7cf53, Cond.selects RJ0 yJ0_indexOf_7cf53 yJ0_indexOf_7cf53]
def wsX6_fault_r3 : List Cond := [Cond.code yJ0_indexOf_7cf53 cJ0_indexOf_7cf53 3 (some .int), Cond.fieldLink RJ0 9 "java/lang/String" "value" "[B", Cond.methodLink RJ0 492 yJ0_isLatin1_aae02, Cond.instanceMethod yJ0_isLatin1_aae02, Cond.selects RJ0 yJ0_isLatin1_aae02 yJ0_isLatin1_aae02, Cond.code yJ0_isLatin1_aae02 cJ0_isLatin1_aae02 1 (some .boolean), Cond.fieldLink RJ0 38 "java/lang/String" "COMPACT_STRINGS" "Z", Cond.fieldLink RJ0 15 "java/lang/String" "coder" "B", Cond.methodLink RJ0 505 yJ0_length_8abf5, Cond.instanceMethod yJ0_length_8abf5, Cond.selects RJ0 yJ0_length_8abf5 yJ0_length_8abf5, Cond.code yJ0_length_8abf5 cJ0_length_8abf5 1 (some .int), Cond.methodLink RJ0 335 yJ0_coder_7d493, Cond.instanceMethod yJ0_coder_7d493, Cond.selects RJ0 yJ0_coder_7d493 yJ0_coder_7d493, Cond.code yJ0_coder_7d493 cJ0_coder_7d493 1 (some .byte), Cond.methodLink RJ0 637 yJ1_indexOf_4cfef, Cond.static yJ1_indexOf_4cfef, Cond.initialized RJ1, Cond.code yJ1_indexOf_4cfef cJ1_indexOf_4cfef 4 (some .int), Cond.methodLink RJ1 92 Lib.Math.max.name, Cond.static Lib.Math.max.name, Cond.initialized "java/lang/Math", Cond.code Lib.Math.max.name Lib.Math.max.code 2 (some .int)]
def wsX6_fault_r4 : List Cond := [Cond.methodLink RJ1 38 Lib.Math.min.name, Cond.static Lib.Math.min.name, Cond.code Lib.Math.min.name Lib.Math.min.code 2 (some .int), Cond.methodLink RJ1 88 yJ1_canEncode_9a6ad, Cond.static yJ1_canEncode_9a6ad, Cond.code yJ1_canEncode_9a6ad cJ1_canEncode_9a6ad 1 (some .boolean), Cond.methodLink RJ1 95 yJ1_indexOfChar_4cfef, Cond.static yJ1_indexOfChar_4cfef, Cond.code yJ1_indexOfChar_4cfef cJ1_indexOfChar_4cfef 6 (some .int), Cond.methodLink RJ0 640 yJ2_indexOf_4cfef, Cond.static yJ2_indexOf_4cfef, Cond.initialized RJ2, Cond.code yJ2_indexOf_4cfef cJ2_indexOf_4cfef 4 (some .int), Cond.methodLink RJ2 224 Lib.Math.max.name, Cond.methodLink RJ2 183 Lib.Math.min.name, Cond.constant RJ2 227 (65536), Cond.methodLink RJ2 228 yJ2_indexOfChar_4cfef, Cond.static yJ2_indexOfChar_4cfef, Cond.code yJ2_indexOfChar_4cfef cJ2_indexOfChar_4cfef 4 (some .int), Cond.methodLink RJ2 96 yJ2_checkBoundsBeginEnd_d044e, Cond.static yJ2_checkBoundsBeginEnd_d044e, Cond.code yJ2_checkBoundsBeginEnd_d044e cJ2_checkBoundsBeginEnd_d044e 3 none, Cond.methodLink RJ2 48 yJ2_length_9d52b, Cond.static yJ2_length_9d52b]
def wsX6_fault_r5 : List Cond := [Cond.code yJ2_length_9d52b cJ2_length_9d52b 1 (some .int), Cond.methodLink RJ2 241 yJ0_checkBoundsBeginEnd_23922, Cond.static yJ0_checkBoundsBeginEnd_23922, Cond.code yJ0_checkBoundsBeginEnd_23922 cJ0_checkBoundsBeginEnd_23922 3 none, Cond.fieldLink RJ0 1053 "jdk/internal/util/Preconditions" "SIOOBE_FORMATTER" "Ljava/util/function/BiFunction;", Cond.methodLink RJ0 1062 yJ3_checkFromToIndex_8c36e, Cond.static yJ3_checkFromToIndex_8c36e, Cond.initialized RJ3, Cond.code yJ3_checkFromToIndex_8c36e cJ3_checkFromToIndex_8c36e 4 (some .int), Cond.methodLink RJ2 244 yJ2_indexOfCharUnsafe_4cfef, Cond.static yJ2_indexOfCharUnsafe_4cfef, Cond.code yJ2_indexOfCharUnsafe_4cfef cJ2_indexOfCharUnsafe_4cfef 5 (some .int), Cond.methodLink RJ2 71 yJ2_getChar_3b067, Cond.static yJ2_getChar_3b067, Cond.code yJ2_getChar_3b067 cJ2_getChar_3b067 2 (some .char), Cond.fieldLink RJ2 44 "java/lang/StringUTF16" "$assertionsDisabled" "Z", Cond.fieldLink RJ2 59 "java/lang/StringUTF16" "HI_BYTE_SHIFT" "I", Cond.fieldLink RJ2 63 "java/lang/StringUTF16" "LO_BYTE_SHIFT" "I", Cond.methodLink RJ2 232 yJ2_indexOfSupplementary_4cfef, Cond.static yJ2_indexOfSupplementary_4cfef, Cond.code yJ2_indexOfSupplementary_4cfef cJ2_indexOfSupplementary_4cfef 7 (some .int), Cond.methodLink RJ2 164 yJ11_isValidCodePoint_9a6ad, Cond.static yJ11_isValidCodePoint_9a6ad, Cond.initialized RJ11]
def wsX6_fault_r6 : List Cond := [Cond.code yJ11_isValidCodePoint_9a6ad cJ11_isValidCodePoint_9a6ad 2 (some .boolean), Cond.methodLink RJ2 157 yJ11_highSurrogate_5068e, Cond.static yJ11_highSurrogate_5068e, Cond.code yJ11_highSurrogate_5068e cJ11_highSurrogate_5068e 1 (some .char), Cond.constant RJ11 110 (55232), Cond.methodLink RJ2 161 yJ11_lowSurrogate_5068e, Cond.static yJ11_lowSurrogate_5068e, Cond.code yJ11_lowSurrogate_5068e cJ11_lowSurrogate_5068e 1 (some .char), Cond.constant RJ11 76 (56320), Cond.methodLink RX2 70 yX2_takesKind, Cond.instanceMethod yX2_takesKind, Cond.selects RX2 yX2_takesKind yX2_takesKind, Cond.code yX2_takesKind cX2_takesKind 2 (some .boolean), Cond.fieldLink RX2 47 "EndedByOthers$Room" "speakers" "I", Cond.fieldLink RX2 79 "EndedByOthers$Room" "kinds" "[I", Cond.methodLink RX2 73 yX2_takesWant, Cond.instanceMethod yX2_takesWant, Cond.selects RX2 yX2_takesWant yX2_takesWant, Cond.code yX2_takesWant cX2_takesWant 2 (some .boolean), Cond.fieldLink RX2 82 "EndedByOthers$Room" "wants" "[I", Cond.methodLink RX2 76 yX2_takesNextSpeaker, Cond.instanceMethod yX2_takesNextSpeaker, Cond.selects RX2 yX2_takesNextSpeaker yX2_takesNextSpeaker, Cond.code yX2_takesNextSpeaker cX2_takesNextSpeaker 2 (some .boolean)]
def wsX6_fault : List Cond := .code yX6_fault cX6_fault 1 (some .int) :: ((wsX6_fault_r1 ++ (wsX6_fault_r2 ++ (wsX6_fault_r3 ++ (wsX6_fault_r4 ++ (wsX6_fault_r5 ++ wsX6_fault_r6))))) ++ wsX60 ++ wsX20 ++ wsX10 ++ wsX30)
def wsX6_room_r1 : List Cond := [Cond.fieldLink RX6 19 "EndedByOthers" "reader" "LEndedByOthers$Reader;", Cond.fieldLink RX6 10 "EndedByOthers" "page" "LEndedByOthers$Page;", Cond.fieldLink RX6 62 "EndedByOthers$Page" "length" "I", Cond.fieldLink RX6 26 "EndedByOthers" "room" "LEndedByOthers$Room;", Cond.fieldLink RX6 77 "EndedByOthers$Reader" "draft" "LEndedByOthers$Room;", Cond.fieldLink RX6 33 "EndedByOthers" "scene" "LEndedByOthers$Scene;", Cond.fieldLink RX6 84 "EndedByOthers$Room" "wants" "[I", Cond.fieldLink RX6 54 "EndedByOthers" "imageKept" "Z", Cond.fieldLink RX6 58 "EndedByOthers" "roomsRead" "I", Cond.fieldLink RX6 92 "EndedByOthers$Room" "speakers" "I", Cond.methodLink RX6 69 yX2_read, Cond.instanceMethod yX2_read, Cond.selects RX2 yX2_read yX2_read, Cond.initialized RX2, Cond.code yX2_read cX2_read 3 (some .int), Cond.fieldLink RX2 12 "EndedByOthers$Reader" "draft" "LEndedByOthers$Room;", Cond.fieldLink RX2 18 "EndedByOthers$Reader" "opening" "I", Cond.fieldLink RX2 34 "EndedByOthers$Page" "length" "I", Cond.fieldLink RX2 39 "EndedByOthers$Page" "codes" "[I", Cond.methodLink RX2 28 yX3_clear, Cond.instanceMethod yX3_clear, Cond.selects RX3 yX3_clear yX3_clear, Cond.initialized RX3, Cond.code yX3_clear cX3_clear 2 none]
def wsX6_room_r2 : List Cond := [Cond.fieldLink RX3 9 "EndedByOthers$Room" "fitting" "[I", Cond.fieldLink RX3 21 "EndedByOthers$Room" "speakers" "I", Cond.methodLink RX2 31 yX2_startPart, Cond.instanceMethod yX2_startPart, Cond.selects RX2 yX2_startPart yX2_startPart, Cond.code yX2_startPart cX2_startPart 1 none, Cond.fieldLink RX2 22 "EndedByOthers$Reader" "lettersOfPart" "I", Cond.fieldLink RX2 25 "EndedByOthers$Reader" "lastCode" "I", Cond.methodLink RX2 43 yX2_takes, Cond.instanceMethod yX2_takes, Cond.selects RX2 yX2_takes yX2_takes, Cond.code yX2_takes cX2_takes 2 (some .boolean), Cond.methodLink RX2 50 yX2_takesInOpening, Cond.instanceMethod yX2_takesInOpening, Cond.selects RX2 yX2_takesInOpening yX2_takesInOpening, Cond.code yX2_takesInOpening cX2_takesInOpening 3 (some .boolean), Cond.fieldLink RX2 59 "EndedByOthers$Room" "fitting" "[I", Cond.static yX6_isEnding, Cond.initialized RX6, Cond.code yX6_isEnding cX6_isEnding 1 (some .boolean), Cond.methodLink RX2 53 yX2_takesInSpeaker, Cond.instanceMethod yX2_takesInSpeaker, Cond.selects RX2 yX2_takesInSpeaker yX2_takesInSpeaker, Cond.code yX2_takesInSpeaker cX2_takesInSpeaker 2 (some .boolean)]
def wsX6_room_r3 : List Cond := [Cond.methodLink RX2 64 yJ0_indexOf_0f7a4, Cond.instanceMethod yJ0_indexOf_0f7a4, Cond.selects RJ0 yJ0_indexOf_0f7a4 yJ0_indexOf_0f7a4, Cond.initialized RJ0, Cond.code yJ0_indexOf_0f7a4 cJ0_indexOf_0f7a4 2 (some .int), Cond.methodLink RJ0 633 yJ0_indexOf_7cf53, Cond.instanceMethod yJ0_indexOf_7cf53, Cond.selects RJ0 yJ0_indexOf_7cf53 yJ0_indexOf_7cf53, Cond.code yJ0_indexOf_7cf53 cJ0_indexOf_7cf53 3 (some .int), Cond.fieldLink RJ0 9 "java/lang/String" "value" "[B", Cond.methodLink RJ0 492 yJ0_isLatin1_aae02, Cond.instanceMethod yJ0_isLatin1_aae02, Cond.selects RJ0 yJ0_isLatin1_aae02 yJ0_isLatin1_aae02, Cond.code yJ0_isLatin1_aae02 cJ0_isLatin1_aae02 1 (some .boolean), Cond.fieldLink RJ0 38 "java/lang/String" "COMPACT_STRINGS" "Z", Cond.fieldLink RJ0 15 "java/lang/String" "coder" "B", Cond.methodLink RJ0 505 yJ0_length_8abf5, Cond.instanceMethod yJ0_length_8abf5, Cond.selects RJ0 yJ0_length_8abf5 yJ0_length_8abf5, Cond.code yJ0_length_8abf5 cJ0_length_8abf5 1 (some .int), Cond.methodLink RJ0 335 yJ0_coder_7d493, Cond.instanceMethod yJ0_coder_7d493, Cond.selects RJ0 yJ0_coder_7d493 yJ0_coder_7d493, Cond.code yJ0_coder_7d493 cJ0_coder_7d493 1 (some .byte)]
def wsX6_room_r4 : List Cond := [Cond.methodLink RJ0 637 yJ1_indexOf_4cfef, Cond.static yJ1_indexOf_4cfef, Cond.initialized RJ1, Cond.code yJ1_indexOf_4cfef cJ1_indexOf_4cfef 4 (some .int), Cond.methodLink RJ1 92 Lib.Math.max.name, Cond.static Lib.Math.max.name, Cond.initialized "java/lang/Math", Cond.code Lib.Math.max.name Lib.Math.max.code 2 (some .int), Cond.methodLink RJ1 38 Lib.Math.min.name, Cond.static Lib.Math.min.name, Cond.code Lib.Math.min.name Lib.Math.min.code 2 (some .int), Cond.methodLink RJ1 88 yJ1_canEncode_9a6ad, Cond.static yJ1_canEncode_9a6ad, Cond.code yJ1_canEncode_9a6ad cJ1_canEncode_9a6ad 1 (some .boolean), Cond.methodLink RJ1 95 yJ1_indexOfChar_4cfef, Cond.static yJ1_indexOfChar_4cfef, Cond.code yJ1_indexOfChar_4cfef cJ1_indexOfChar_4cfef 6 (some .int), Cond.methodLink RJ0 640 yJ2_indexOf_4cfef, Cond.static yJ2_indexOf_4cfef, Cond.initialized RJ2, Cond.code yJ2_indexOf_4cfef cJ2_indexOf_4cfef 4 (some .int), Cond.methodLink RJ2 224 Lib.Math.max.name, Cond.methodLink RJ2 183 Lib.Math.min.name, Cond.constant RJ2 227 (65536)]
def wsX6_room_r5 : List Cond := [Cond.methodLink RJ2 228 yJ2_indexOfChar_4cfef, Cond.static yJ2_indexOfChar_4cfef, Cond.code yJ2_indexOfChar_4cfef cJ2_indexOfChar_4cfef 4 (some .int), Cond.methodLink RJ2 96 yJ2_checkBoundsBeginEnd_d044e, Cond.static yJ2_checkBoundsBeginEnd_d044e, Cond.code yJ2_checkBoundsBeginEnd_d044e cJ2_checkBoundsBeginEnd_d044e 3 none, Cond.methodLink RJ2 48 yJ2_length_9d52b, Cond.static yJ2_length_9d52b, Cond.code yJ2_length_9d52b cJ2_length_9d52b 1 (some .int), Cond.methodLink RJ2 241 yJ0_checkBoundsBeginEnd_23922, Cond.static yJ0_checkBoundsBeginEnd_23922, Cond.code yJ0_checkBoundsBeginEnd_23922 cJ0_checkBoundsBeginEnd_23922 3 none, Cond.fieldLink RJ0 1053 "jdk/internal/util/Preconditions" "SIOOBE_FORMATTER" "Ljava/util/function/BiFunction;", Cond.methodLink RJ0 1062 yJ3_checkFromToIndex_8c36e, Cond.static yJ3_checkFromToIndex_8c36e, Cond.initialized RJ3, Cond.code yJ3_checkFromToIndex_8c36e cJ3_checkFromToIndex_8c36e 4 (some .int), Cond.methodLink RJ2 244 yJ2_indexOfCharUnsafe_4cfef, Cond.static yJ2_indexOfCharUnsafe_4cfef, Cond.code yJ2_indexOfCharUnsafe_4cfef cJ2_indexOfCharUnsafe_4cfef 5 (some .int), Cond.methodLink RJ2 71 yJ2_getChar_3b067, Cond.static yJ2_getChar_3b067, Cond.code yJ2_getChar_3b067 cJ2_getChar_3b067 2 (some .char), Cond.fieldLink RJ2 44 "java/lang/StringUTF16" "$assertionsDisabled" "Z"]
def wsX6_room_r6 : List Cond := [Cond.fieldLink RJ2 59 "java/lang/StringUTF16" "HI_BYTE_SHIFT" "I", Cond.fieldLink RJ2 63 "java/lang/StringUTF16" "LO_BYTE_SHIFT" "I", Cond.methodLink RJ2 232 yJ2_indexOfSupplementary_4cfef, Cond.static yJ2_indexOfSupplementary_4cfef, Cond.code yJ2_indexOfSupplementary_4cfef cJ2_indexOfSupplementary_4cfef 7 (some .int), Cond.methodLink RJ2 164 yJ11_isValidCodePoint_9a6ad, Cond.static yJ11_isValidCodePoint_9a6ad, Cond.initialized RJ11, Cond.code yJ11_isValidCodePoint_9a6ad cJ11_isValidCodePoint_9a6ad 2 (some .boolean), Cond.methodLink RJ2 157 yJ11_highSurrogate_5068e, Cond.static yJ11_highSurrogate_5068e, Cond.code yJ11_highSurrogate_5068e cJ11_highSurrogate_5068e 1 (some .char), Cond.constant RJ11 110 (55232), Cond.methodLink RJ2 161 yJ11_lowSurrogate_5068e, Cond.static yJ11_lowSurrogate_5068e, Cond.code yJ11_lowSurrogate_5068e cJ11_lowSurrogate_5068e 1 (some .char), Cond.constant RJ11 76 (56320), Cond.methodLink RX2 70 yX2_takesKind, Cond.instanceMethod yX2_takesKind, Cond.selects RX2 yX2_takesKind yX2_takesKind, Cond.code yX2_takesKind cX2_takesKind 2 (some .boolean), Cond.fieldLink RX2 47 "EndedByOthers$Room" "speakers" "I", Cond.fieldLink RX2 79 "EndedByOthers$Room" "kinds" "[I", Cond.methodLink RX2 73 yX2_takesWant]
def wsX6_room_r7 : List Cond := [Cond.instanceMethod yX2_takesWant, Cond.selects RX2 yX2_takesWant yX2_takesWant, Cond.code yX2_takesWant cX2_takesWant 2 (some .boolean), Cond.fieldLink RX2 82 "EndedByOthers$Room" "wants" "[I", Cond.methodLink RX2 76 yX2_takesNextSpeaker, Cond.instanceMethod yX2_takesNextSpeaker, Cond.selects RX2 yX2_takesNextSpeaker yX2_takesNextSpeaker, Cond.code yX2_takesNextSpeaker cX2_takesNextSpeaker 2 (some .boolean), Cond.methodLink RX6 73 yX2_hasWholeRoom, Cond.instanceMethod yX2_hasWholeRoom, Cond.selects RX2 yX2_hasWholeRoom yX2_hasWholeRoom, Cond.code yX2_hasWholeRoom cX2_hasWholeRoom 1 (some .boolean), Cond.methodLink RX6 80 yX3_copyFrom, Cond.instanceMethod yX3_copyFrom, Cond.selects RX3 yX3_copyFrom yX3_copyFrom, Cond.code yX3_copyFrom cX3_copyFrom 2 none, Cond.methodLink RX3 25 arraycopyName, Cond.native arraycopyName, Cond.static arraycopyName, Cond.initialized "java/lang/System", Cond.fieldLink RX3 15 "EndedByOthers$Room" "kinds" "[I", Cond.fieldLink RX3 18 "EndedByOthers$Room" "wants" "[I", Cond.methodLink RX6 88 yX4_start, Cond.instanceMethod yX4_start]
def wsX6_room_r8 : List Cond := [Cond.selects RX4 yX4_start yX4_start, Cond.initialized RX4, Cond.code yX4_start cX4_start 2 none, Cond.fieldLink RX4 9 "EndedByOthers$Scene" "wants" "[I", Cond.methodLink RX4 46 arraycopyName, Cond.fieldLink RX4 27 "EndedByOthers$Scene" "sentences" "I", Cond.fieldLink RX4 40 "EndedByOthers$Scene" "heard" "I", Cond.fieldLink RX4 43 "EndedByOthers$Scene" "changes" "I"]
def wsX6_room : List Cond := .code yX6_room cX6_room 1 (some .int) :: ((wsX6_room_r1 ++ (wsX6_room_r2 ++ (wsX6_room_r3 ++ (wsX6_room_r4 ++ (wsX6_room_r5 ++ (wsX6_room_r6 ++ (wsX6_room_r7 ++ wsX6_room_r8))))))) ++ wsX60 ++ wsX10 ++ wsX20 ++ wsX30 ++ wsX40)
def wsX6_isOpening : List Cond := .code yX6_isOpening cX6_isOpening 1 (some .boolean) :: ([])
def wsX6_fits : List Cond := .code yX6_fits cX6_fits 2 (some .int) :: ([.fieldLink RX6 26 "EndedByOthers" "room" "LEndedByOthers$Room;", .fieldLink RX6 92 "EndedByOthers$Room" "speakers" "I", .fieldLink RX6 99 "EndedByOthers$Room" "fitting" "[I", .methodLink RX6 95 yX6_isOpening, .static yX6_isOpening, .initialized RX6, .code yX6_isOpening cX6_isOpening 1 (some .boolean)] ++ wsX60 ++ wsX30)
def wsX6_isSpeaker : List Cond := .code yX6_isSpeaker cX6_isSpeaker 2 (some .boolean) :: ([.fieldLink RX6 26 "EndedByOthers" "room" "LEndedByOthers$Room;", .fieldLink RX6 92 "EndedByOthers$Room" "speakers" "I"] ++ wsX60 ++ wsX30)
def wsX6_endingNow_r1 : List Cond := [Cond.fieldLink RX6 26 "EndedByOthers" "room" "LEndedByOthers$Room;", Cond.fieldLink RX6 105 "EndedByOthers$Room" "kinds" "[I", Cond.fieldLink RX6 99 "EndedByOthers$Room" "fitting" "[I", Cond.fieldLink RX6 33 "EndedByOthers" "scene" "LEndedByOthers$Scene;", Cond.fieldLink RX6 108 "EndedByOthers$Scene" "wants" "[I", Cond.methodLink RX6 109 yX4_usedBy, Cond.instanceMethod yX4_usedBy, Cond.selects RX4 yX4_usedBy yX4_usedBy, Cond.initialized RX4, Cond.code yX4_usedBy cX4_usedBy 4 (some .int), Cond.fieldLink RX4 27 "EndedByOthers$Scene" "sentences" "I", Cond.fieldLink RX4 21 "EndedByOthers$Scene" "enders" "[I", Cond.fieldLink RX4 24 "EndedByOthers$Scene" "endings" "[I", Cond.methodLink RX6 248 yX6_endingBy, Cond.static yX6_endingBy, Cond.initialized RX6, Cond.code yX6_endingBy cX6_endingBy 5 (some .int), Cond.methodLink RX6 239 yX6_has, Cond.static yX6_has, Cond.code yX6_has cX6_has 2 (some .boolean), Cond.methodLink RX6 242 yX6_greatest, Cond.static yX6_greatest, Cond.code yX6_greatest cX6_greatest 2 (some .int), Cond.methodLink RX6 245 yX6_least]
def wsX6_endingNow_r2 : List Cond := [Cond.static yX6_least, Cond.code yX6_least cX6_least 2 (some .int)]
def wsX6_endingNow : List Cond := .code yX6_endingNow cX6_endingNow 3 (some .int) :: ((wsX6_endingNow_r1 ++ wsX6_endingNow_r2) ++ wsX60 ++ wsX30 ++ wsX40)
def wsX6_isSure_r1 : List Cond := [Cond.fieldLink RX6 26 "EndedByOthers" "room" "LEndedByOthers$Room;", Cond.fieldLink RX6 92 "EndedByOthers$Room" "speakers" "I", Cond.fieldLink RX6 33 "EndedByOthers" "scene" "LEndedByOthers$Scene;", Cond.fieldLink RX6 108 "EndedByOthers$Scene" "wants" "[I", Cond.methodLink RX6 142 yX6_endingNow, Cond.instanceMethod yX6_endingNow, Cond.selects RX6 yX6_endingNow yX6_endingNow, Cond.initialized RX6, Cond.code yX6_endingNow cX6_endingNow 3 (some .int), Cond.fieldLink RX6 105 "EndedByOthers$Room" "kinds" "[I", Cond.fieldLink RX6 99 "EndedByOthers$Room" "fitting" "[I", Cond.methodLink RX6 109 yX4_usedBy, Cond.instanceMethod yX4_usedBy, Cond.selects RX4 yX4_usedBy yX4_usedBy, Cond.initialized RX4, Cond.code yX4_usedBy cX4_usedBy 4 (some .int), Cond.fieldLink RX4 27 "EndedByOthers$Scene" "sentences" "I", Cond.fieldLink RX4 21 "EndedByOthers$Scene" "enders" "[I", Cond.fieldLink RX4 24 "EndedByOthers$Scene" "endings" "[I", Cond.methodLink RX6 248 yX6_endingBy, Cond.static yX6_endingBy, Cond.code yX6_endingBy cX6_endingBy 5 (some .int), Cond.methodLink RX6 239 yX6_has, Cond.static yX6_has]
def wsX6_isSure_r2 : List Cond := [Cond.code yX6_has cX6_has 2 (some .boolean), Cond.methodLink RX6 242 yX6_greatest, Cond.static yX6_greatest, Cond.code yX6_greatest cX6_greatest 2 (some .int), Cond.methodLink RX6 245 yX6_least, Cond.static yX6_least, Cond.code yX6_least cX6_least 2 (some .int)]
def wsX6_isSure : List Cond := .code yX6_isSure cX6_isSure 6 (some .boolean) :: ((wsX6_isSure_r1 ++ wsX6_isSure_r2) ++ wsX60 ++ wsX30 ++ wsX40)
def wsX6_sureOpening_r1 : List Cond := [Cond.methodLink RX6 252 yX6_isSure, Cond.instanceMethod yX6_isSure, Cond.selects RX6 yX6_isSure yX6_isSure, Cond.initialized RX6, Cond.code yX6_isSure cX6_isSure 6 (some .boolean), Cond.fieldLink RX6 26 "EndedByOthers" "room" "LEndedByOthers$Room;", Cond.fieldLink RX6 92 "EndedByOthers$Room" "speakers" "I", Cond.fieldLink RX6 33 "EndedByOthers" "scene" "LEndedByOthers$Scene;", Cond.fieldLink RX6 108 "EndedByOthers$Scene" "wants" "[I", Cond.methodLink RX6 142 yX6_endingNow, Cond.instanceMethod yX6_endingNow, Cond.selects RX6 yX6_endingNow yX6_endingNow, Cond.code yX6_endingNow cX6_endingNow 3 (some .int), Cond.fieldLink RX6 105 "EndedByOthers$Room" "kinds" "[I", Cond.fieldLink RX6 99 "EndedByOthers$Room" "fitting" "[I", Cond.methodLink RX6 109 yX4_usedBy, Cond.instanceMethod yX4_usedBy, Cond.selects RX4 yX4_usedBy yX4_usedBy, Cond.initialized RX4, Cond.code yX4_usedBy cX4_usedBy 4 (some .int), Cond.fieldLink RX4 27 "EndedByOthers$Scene" "sentences" "I", Cond.fieldLink RX4 21 "EndedByOthers$Scene" "enders" "[I", Cond.fieldLink RX4 24 "EndedByOthers$Scene" "endings" "[I", Cond.methodLink RX6 248 yX6_endingBy]
def wsX6_sureOpening_r2 : List Cond := [Cond.static yX6_endingBy, Cond.code yX6_endingBy cX6_endingBy 5 (some .int), Cond.methodLink RX6 239 yX6_has, Cond.static yX6_has, Cond.code yX6_has cX6_has 2 (some .boolean), Cond.methodLink RX6 242 yX6_greatest, Cond.static yX6_greatest, Cond.code yX6_greatest cX6_greatest 2 (some .int), Cond.methodLink RX6 245 yX6_least, Cond.static yX6_least, Cond.code yX6_least cX6_least 2 (some .int)]
def wsX6_sureOpening : List Cond := .code yX6_sureOpening cX6_sureOpening 3 (some .int) :: ((wsX6_sureOpening_r1 ++ wsX6_sureOpening_r2) ++ wsX60 ++ wsX30 ++ wsX40)
def wsX6_agreesWithHeard : List Cond := .code yX6_agreesWithHeard cX6_agreesWithHeard 5 (some .boolean) :: ([.fieldLink RX6 33 "EndedByOthers" "scene" "LEndedByOthers$Scene;", .fieldLink RX6 184 "EndedByOthers$Scene" "heard" "I", .fieldLink RX6 258 "EndedByOthers$Scene" "heardSpeakers" "[I", .fieldLink RX6 26 "EndedByOthers" "room" "LEndedByOthers$Room;", .fieldLink RX6 99 "EndedByOthers$Room" "fitting" "[I", .fieldLink RX6 261 "EndedByOthers$Scene" "heardOpenings" "[I", .fieldLink RX6 108 "EndedByOthers$Scene" "wants" "[I", .fieldLink RX6 264 "EndedByOthers$Scene" "heardEndings" "[I", .methodLink RX6 248 yX6_endingBy, .static yX6_endingBy, .initialized RX6, .code yX6_endingBy cX6_endingBy 5 (some .int), .methodLink RX6 239 yX6_has, .static yX6_has, .code yX6_has cX6_has 2 (some .boolean), .methodLink RX6 242 yX6_greatest, .static yX6_greatest, .code yX6_greatest cX6_greatest 2 (some .int), .methodLink RX6 245 yX6_least, .static yX6_least, .code yX6_least cX6_least 2 (some .int)] ++ wsX60 ++ wsX40 ++ wsX30)
def wsX6_possibleKinds_r1 : List Cond := [Cond.methodLink RX6 255 yX6_agreesWithHeard, Cond.instanceMethod yX6_agreesWithHeard, Cond.selects RX6 yX6_agreesWithHeard yX6_agreesWithHeard, Cond.initialized RX6, Cond.code yX6_agreesWithHeard cX6_agreesWithHeard 5 (some .boolean), Cond.fieldLink RX6 33 "EndedByOthers" "scene" "LEndedByOthers$Scene;", Cond.fieldLink RX6 184 "EndedByOthers$Scene" "heard" "I", Cond.fieldLink RX6 258 "EndedByOthers$Scene" "heardSpeakers" "[I", Cond.fieldLink RX6 26 "EndedByOthers" "room" "LEndedByOthers$Room;", Cond.fieldLink RX6 99 "EndedByOthers$Room" "fitting" "[I", Cond.fieldLink RX6 261 "EndedByOthers$Scene" "heardOpenings" "[I", Cond.fieldLink RX6 108 "EndedByOthers$Scene" "wants" "[I", Cond.fieldLink RX6 264 "EndedByOthers$Scene" "heardEndings" "[I", Cond.methodLink RX6 248 yX6_endingBy, Cond.static yX6_endingBy, Cond.code yX6_endingBy cX6_endingBy 5 (some .int), Cond.methodLink RX6 239 yX6_has, Cond.static yX6_has, Cond.code yX6_has cX6_has 2 (some .boolean), Cond.methodLink RX6 242 yX6_greatest, Cond.static yX6_greatest, Cond.code yX6_greatest cX6_greatest 2 (some .int), Cond.methodLink RX6 245 yX6_least, Cond.static yX6_least]
def wsX6_possibleKinds_r2 : List Cond := [Cond.code yX6_least cX6_least 2 (some .int)]
def wsX6_possibleKinds : List Cond := .code yX6_possibleKinds cX6_possibleKinds 4 (some .int) :: ((wsX6_possibleKinds_r1 ++ wsX6_possibleKinds_r2) ++ wsX60 ++ wsX40 ++ wsX30)
def wsX6_mostKindsLeft : List Cond := .code yX6_mostKindsLeft cX6_mostKindsLeft 10 (some .int) :: ([.fieldLink RX6 26 "EndedByOthers" "room" "LEndedByOthers$Room;", .fieldLink RX6 99 "EndedByOthers$Room" "fitting" "[I", .fieldLink RX6 33 "EndedByOthers" "scene" "LEndedByOthers$Scene;", .fieldLink RX6 108 "EndedByOthers$Scene" "wants" "[I", .methodLink RX6 271 Lib.Math.max.name, .static Lib.Math.max.name, .initialized "java/lang/Math", .code Lib.Math.max.name Lib.Math.max.code 2 (some .int), .methodLink RX6 239 yX6_has, .static yX6_has, .initialized RX6, .code yX6_has cX6_has 2 (some .boolean), .methodLink RX6 248 yX6_endingBy, .static yX6_endingBy, .code yX6_endingBy cX6_endingBy 5 (some .int), .methodLink RX6 242 yX6_greatest, .static yX6_greatest, .code yX6_greatest cX6_greatest 2 (some .int), .methodLink RX6 245 yX6_least, .static yX6_least, .code yX6_least cX6_least 2 (some .int)] ++ wsX60 ++ wsX30 ++ wsX40)
def wsX6_tellingOpening_r1 : List Cond := [Cond.methodLink RX6 267 yX6_mostKindsLeft, Cond.instanceMethod yX6_mostKindsLeft, Cond.selects RX6 yX6_mostKindsLeft yX6_mostKindsLeft, Cond.initialized RX6, Cond.code yX6_mostKindsLeft cX6_mostKindsLeft 10 (some .int), Cond.fieldLink RX6 26 "EndedByOthers" "room" "LEndedByOthers$Room;", Cond.fieldLink RX6 99 "EndedByOthers$Room" "fitting" "[I", Cond.fieldLink RX6 33 "EndedByOthers" "scene" "LEndedByOthers$Scene;", Cond.fieldLink RX6 108 "EndedByOthers$Scene" "wants" "[I", Cond.methodLink RX6 271 Lib.Math.max.name, Cond.static Lib.Math.max.name, Cond.initialized "java/lang/Math", Cond.code Lib.Math.max.name Lib.Math.max.code 2 (some .int), Cond.methodLink RX6 239 yX6_has, Cond.static yX6_has, Cond.code yX6_has cX6_has 2 (some .boolean), Cond.methodLink RX6 248 yX6_endingBy, Cond.static yX6_endingBy, Cond.code yX6_endingBy cX6_endingBy 5 (some .int), Cond.methodLink RX6 242 yX6_greatest, Cond.static yX6_greatest, Cond.code yX6_greatest cX6_greatest 2 (some .int), Cond.methodLink RX6 245 yX6_least, Cond.static yX6_least]
def wsX6_tellingOpening_r2 : List Cond := [Cond.code yX6_least cX6_least 2 (some .int)]
def wsX6_tellingOpening : List Cond := .code yX6_tellingOpening cX6_tellingOpening 7 (some .int) :: ((wsX6_tellingOpening_r1 ++ wsX6_tellingOpening_r2) ++ wsX60 ++ wsX30 ++ wsX40)
def wsX6_about_r1 : List Cond := [Cond.fieldLink RX6 26 "EndedByOthers" "room" "LEndedByOthers$Room;", Cond.fieldLink RX6 105 "EndedByOthers$Room" "kinds" "[I", Cond.fieldLink RX6 33 "EndedByOthers" "scene" "LEndedByOthers$Scene;", Cond.fieldLink RX6 108 "EndedByOthers$Scene" "wants" "[I", Cond.methodLink RX6 102 yX6_isSpeaker, Cond.instanceMethod yX6_isSpeaker, Cond.selects RX6 yX6_isSpeaker yX6_isSpeaker, Cond.initialized RX6, Cond.code yX6_isSpeaker cX6_isSpeaker 2 (some .boolean), Cond.fieldLink RX6 92 "EndedByOthers$Room" "speakers" "I", Cond.methodLink RX6 109 yX4_usedBy, Cond.instanceMethod yX4_usedBy, Cond.selects RX4 yX4_usedBy yX4_usedBy, Cond.initialized RX4, Cond.code yX4_usedBy cX4_usedBy 4 (some .int), Cond.fieldLink RX4 27 "EndedByOthers$Scene" "sentences" "I", Cond.fieldLink RX4 21 "EndedByOthers$Scene" "enders" "[I", Cond.fieldLink RX4 24 "EndedByOthers$Scene" "endings" "[I", Cond.methodLink RX6 113 yX4_openOf, Cond.instanceMethod yX4_openOf, Cond.selects RX4 yX4_openOf yX4_openOf, Cond.code yX4_openOf cX4_openOf 3 (some .int), Cond.fieldLink RX4 15 "EndedByOthers$Scene" "beginners" "[I", Cond.methodLink RX4 52 yX4_isOpen]
def wsX6_about_r2 : List Cond := [Cond.instanceMethod yX4_isOpen, Cond.selects RX4 yX4_isOpen yX4_isOpen, Cond.code yX4_isOpen cX4_isOpen 2 (some .boolean), Cond.methodLink RX6 116 yX4_howManyBegunBy, Cond.instanceMethod yX4_howManyBegunBy, Cond.selects RX4 yX4_howManyBegunBy yX4_howManyBegunBy, Cond.code yX4_howManyBegunBy cX4_howManyBegunBy 4 (some .int), Cond.methodLink RX6 119 yX4_howManyEndedBy, Cond.instanceMethod yX4_howManyEndedBy, Cond.selects RX4 yX4_howManyEndedBy yX4_howManyEndedBy, Cond.code yX4_howManyEndedBy cX4_howManyEndedBy 4 (some .int), Cond.methodLink RX6 122 yX6_sureOpening, Cond.instanceMethod yX6_sureOpening, Cond.selects RX6 yX6_sureOpening yX6_sureOpening, Cond.code yX6_sureOpening cX6_sureOpening 3 (some .int), Cond.methodLink RX6 252 yX6_isSure, Cond.instanceMethod yX6_isSure, Cond.selects RX6 yX6_isSure yX6_isSure, Cond.code yX6_isSure cX6_isSure 6 (some .boolean), Cond.methodLink RX6 142 yX6_endingNow, Cond.instanceMethod yX6_endingNow, Cond.selects RX6 yX6_endingNow yX6_endingNow, Cond.code yX6_endingNow cX6_endingNow 3 (some .int), Cond.fieldLink RX6 99 "EndedByOthers$Room" "fitting" "[I"]
def wsX6_about_r3 : List Cond := [Cond.methodLink RX6 248 yX6_endingBy, Cond.static yX6_endingBy, Cond.code yX6_endingBy cX6_endingBy 5 (some .int), Cond.methodLink RX6 239 yX6_has, Cond.static yX6_has, Cond.code yX6_has cX6_has 2 (some .boolean), Cond.methodLink RX6 242 yX6_greatest, Cond.static yX6_greatest, Cond.code yX6_greatest cX6_greatest 2 (some .int), Cond.methodLink RX6 245 yX6_least, Cond.static yX6_least, Cond.code yX6_least cX6_least 2 (some .int), Cond.methodLink RX6 125 yX6_possibleKinds, Cond.instanceMethod yX6_possibleKinds, Cond.selects RX6 yX6_possibleKinds yX6_possibleKinds, Cond.code yX6_possibleKinds cX6_possibleKinds 4 (some .int), Cond.methodLink RX6 255 yX6_agreesWithHeard, Cond.instanceMethod yX6_agreesWithHeard, Cond.selects RX6 yX6_agreesWithHeard yX6_agreesWithHeard, Cond.code yX6_agreesWithHeard cX6_agreesWithHeard 5 (some .boolean), Cond.fieldLink RX6 184 "EndedByOthers$Scene" "heard" "I", Cond.fieldLink RX6 258 "EndedByOthers$Scene" "heardSpeakers" "[I", Cond.fieldLink RX6 261 "EndedByOthers$Scene" "heardOpenings" "[I", Cond.fieldLink RX6 264 "EndedByOthers$Scene" "heardEndings" "[I"]
def wsX6_about_r4 : List Cond := [Cond.methodLink RX6 128 yX6_tellingOpening, Cond.instanceMethod yX6_tellingOpening, Cond.selects RX6 yX6_tellingOpening yX6_tellingOpening, Cond.code yX6_tellingOpening cX6_tellingOpening 7 (some .int), Cond.methodLink RX6 267 yX6_mostKindsLeft, Cond.instanceMethod yX6_mostKindsLeft, Cond.selects RX6 yX6_mostKindsLeft yX6_mostKindsLeft, Cond.code yX6_mostKindsLeft cX6_mostKindsLeft 10 (some .int), Cond.methodLink RX6 271 Lib.Math.max.name, Cond.static Lib.Math.max.name, Cond.initialized "java/lang/Math", Cond.code Lib.Math.max.name Lib.Math.max.code 2 (some .int)]
def wsX6_about : List Cond := .code yX6_about cX6_about 3 (some .int) :: ((wsX6_about_r1 ++ (wsX6_about_r2 ++ (wsX6_about_r3 ++ wsX6_about_r4))) ++ wsX60 ++ wsX30 ++ wsX40)
def wsX6_isOfKind : List Cond := .code yX6_isOfKind cX6_isOfKind 2 (some .boolean) :: ([])
def wsX6_as : List Cond := .code yX6_as cX6_as 3 (some .int) :: ([.fieldLink RX6 26 "EndedByOthers" "room" "LEndedByOthers$Room;", .fieldLink RX6 105 "EndedByOthers$Room" "kinds" "[I", .methodLink RX6 102 yX6_isSpeaker, .instanceMethod yX6_isSpeaker, .selects RX6 yX6_isSpeaker yX6_isSpeaker, .initialized RX6, .code yX6_isSpeaker cX6_isSpeaker 2 (some .boolean), .fieldLink RX6 92 "EndedByOthers$Room" "speakers" "I", .methodLink RX6 132 yX6_isOfKind, .static yX6_isOfKind, .code yX6_isOfKind cX6_isOfKind 2 (some .boolean)] ++ wsX60 ++ wsX30)
def wsX6_want : List Cond := .code yX6_want cX6_want 4 (some .int) :: ([.fieldLink RX6 33 "EndedByOthers" "scene" "LEndedByOthers$Scene;", .fieldLink RX6 108 "EndedByOthers$Scene" "wants" "[I", .fieldLink RX6 139 "EndedByOthers$Scene" "changes" "I", .methodLink RX6 102 yX6_isSpeaker, .instanceMethod yX6_isSpeaker, .selects RX6 yX6_isSpeaker yX6_isSpeaker, .initialized RX6, .code yX6_isSpeaker cX6_isSpeaker 2 (some .boolean), .fieldLink RX6 26 "EndedByOthers" "room" "LEndedByOthers$Room;", .fieldLink RX6 92 "EndedByOthers$Room" "speakers" "I", .methodLink RX6 136 yX6_isEnding, .static yX6_isEnding, .code yX6_isEnding cX6_isEnding 1 (some .boolean)] ++ wsX60 ++ wsX40 ++ wsX30)
def wsX6_would_r1 : List Cond := [Cond.methodLink RX6 102 yX6_isSpeaker, Cond.instanceMethod yX6_isSpeaker, Cond.selects RX6 yX6_isSpeaker yX6_isSpeaker, Cond.initialized RX6, Cond.code yX6_isSpeaker cX6_isSpeaker 2 (some .boolean), Cond.fieldLink RX6 26 "EndedByOthers" "room" "LEndedByOthers$Room;", Cond.fieldLink RX6 92 "EndedByOthers$Room" "speakers" "I", Cond.methodLink RX6 95 yX6_isOpening, Cond.static yX6_isOpening, Cond.code yX6_isOpening cX6_isOpening 1 (some .boolean), Cond.methodLink RX6 142 yX6_endingNow, Cond.instanceMethod yX6_endingNow, Cond.selects RX6 yX6_endingNow yX6_endingNow, Cond.code yX6_endingNow cX6_endingNow 3 (some .int), Cond.fieldLink RX6 105 "EndedByOthers$Room" "kinds" "[I", Cond.fieldLink RX6 99 "EndedByOthers$Room" "fitting" "[I", Cond.fieldLink RX6 33 "EndedByOthers" "scene" "LEndedByOthers$Scene;", Cond.fieldLink RX6 108 "EndedByOthers$Scene" "wants" "[I", Cond.methodLink RX6 109 yX4_usedBy, Cond.instanceMethod yX4_usedBy, Cond.selects RX4 yX4_usedBy yX4_usedBy, Cond.initialized RX4, Cond.code yX4_usedBy cX4_usedBy 4 (some .int), Cond.fieldLink RX4 27 "EndedByOthers$Scene" "sentences" "I"]
def wsX6_would_r2 : List Cond := [Cond.fieldLink RX4 21 "EndedByOthers$Scene" "enders" "[I", Cond.fieldLink RX4 24 "EndedByOthers$Scene" "endings" "[I", Cond.methodLink RX6 248 yX6_endingBy, Cond.static yX6_endingBy, Cond.code yX6_endingBy cX6_endingBy 5 (some .int), Cond.methodLink RX6 239 yX6_has, Cond.static yX6_has, Cond.code yX6_has cX6_has 2 (some .boolean), Cond.methodLink RX6 242 yX6_greatest, Cond.static yX6_greatest, Cond.code yX6_greatest cX6_greatest 2 (some .int), Cond.methodLink RX6 245 yX6_least, Cond.static yX6_least, Cond.code yX6_least cX6_least 2 (some .int)]
def wsX6_would : List Cond := .code yX6_would cX6_would 3 (some .int) :: ((wsX6_would_r1 ++ wsX6_would_r2) ++ wsX60 ++ wsX30 ++ wsX40)
def wsX6_begin_r1 : List Cond := [Cond.fieldLink RX6 33 "EndedByOthers" "scene" "LEndedByOthers$Scene;", Cond.fieldLink RX6 145 "EndedByOthers$Scene" "sentences" "I", Cond.methodLink RX6 102 yX6_isSpeaker, Cond.instanceMethod yX6_isSpeaker, Cond.selects RX6 yX6_isSpeaker yX6_isSpeaker, Cond.initialized RX6, Cond.code yX6_isSpeaker cX6_isSpeaker 2 (some .boolean), Cond.fieldLink RX6 26 "EndedByOthers" "room" "LEndedByOthers$Room;", Cond.fieldLink RX6 92 "EndedByOthers$Room" "speakers" "I", Cond.methodLink RX6 95 yX6_isOpening, Cond.static yX6_isOpening, Cond.code yX6_isOpening cX6_isOpening 1 (some .boolean), Cond.methodLink RX6 113 yX4_openOf, Cond.instanceMethod yX4_openOf, Cond.selects RX4 yX4_openOf yX4_openOf, Cond.initialized RX4, Cond.code yX4_openOf cX4_openOf 3 (some .int), Cond.fieldLink RX4 27 "EndedByOthers$Scene" "sentences" "I", Cond.fieldLink RX4 15 "EndedByOthers$Scene" "beginners" "[I", Cond.methodLink RX4 52 yX4_isOpen, Cond.instanceMethod yX4_isOpen, Cond.selects RX4 yX4_isOpen yX4_isOpen, Cond.code yX4_isOpen cX4_isOpen 2 (some .boolean), Cond.fieldLink RX4 21 "EndedByOthers$Scene" "enders" "[I"]
def wsX6_begin_r2 : List Cond := [Cond.methodLink RX6 148 yX4_addSentence, Cond.instanceMethod yX4_addSentence, Cond.selects RX4 yX4_addSentence yX4_addSentence, Cond.code yX4_addSentence cX4_addSentence 4 (some .int), Cond.fieldLink RX4 18 "EndedByOthers$Scene" "openings" "[I", Cond.fieldLink RX4 24 "EndedByOthers$Scene" "endings" "[I"]
def wsX6_begin : List Cond := .code yX6_begin cX6_begin 3 (some .int) :: ((wsX6_begin_r1 ++ wsX6_begin_r2) ++ wsX60 ++ wsX40 ++ wsX30)
def wsX6_isSentence : List Cond := .code yX6_isSentence cX6_isSentence 2 (some .boolean) :: ([.fieldLink RX6 33 "EndedByOthers" "scene" "LEndedByOthers$Scene;", .fieldLink RX6 145 "EndedByOthers$Scene" "sentences" "I"] ++ wsX60 ++ wsX40)
def wsX6_end_r1 : List Cond := [Cond.fieldLink RX6 33 "EndedByOthers" "scene" "LEndedByOthers$Scene;", Cond.fieldLink RX6 157 "EndedByOthers$Scene" "beginners" "[I", Cond.fieldLink RX6 160 "EndedByOthers$Scene" "openings" "[I", Cond.fieldLink RX6 163 "EndedByOthers$Scene" "enders" "[I", Cond.fieldLink RX6 166 "EndedByOthers$Scene" "endings" "[I", Cond.methodLink RX6 151 yX6_isSentence, Cond.instanceMethod yX6_isSentence, Cond.selects RX6 yX6_isSentence yX6_isSentence, Cond.initialized RX6, Cond.code yX6_isSentence cX6_isSentence 2 (some .boolean), Cond.fieldLink RX6 145 "EndedByOthers$Scene" "sentences" "I", Cond.methodLink RX6 102 yX6_isSpeaker, Cond.instanceMethod yX6_isSpeaker, Cond.selects RX6 yX6_isSpeaker yX6_isSpeaker, Cond.code yX6_isSpeaker cX6_isSpeaker 2 (some .boolean), Cond.fieldLink RX6 26 "EndedByOthers" "room" "LEndedByOthers$Room;", Cond.fieldLink RX6 92 "EndedByOthers$Room" "speakers" "I", Cond.methodLink RX6 154 yX4_isOpen, Cond.instanceMethod yX4_isOpen, Cond.selects RX4 yX4_isOpen yX4_isOpen, Cond.initialized RX4, Cond.code yX4_isOpen cX4_isOpen 2 (some .boolean), Cond.fieldLink RX4 21 "EndedByOthers$Scene" "enders" "[I", Cond.methodLink RX6 142 yX6_endingNow]
def wsX6_end_r2 : List Cond := [Cond.instanceMethod yX6_endingNow, Cond.selects RX6 yX6_endingNow yX6_endingNow, Cond.code yX6_endingNow cX6_endingNow 3 (some .int), Cond.fieldLink RX6 105 "EndedByOthers$Room" "kinds" "[I", Cond.fieldLink RX6 99 "EndedByOthers$Room" "fitting" "[I", Cond.fieldLink RX6 108 "EndedByOthers$Scene" "wants" "[I", Cond.methodLink RX6 109 yX4_usedBy, Cond.instanceMethod yX4_usedBy, Cond.selects RX4 yX4_usedBy yX4_usedBy, Cond.code yX4_usedBy cX4_usedBy 4 (some .int), Cond.fieldLink RX4 27 "EndedByOthers$Scene" "sentences" "I", Cond.fieldLink RX4 24 "EndedByOthers$Scene" "endings" "[I", Cond.methodLink RX6 248 yX6_endingBy, Cond.static yX6_endingBy, Cond.code yX6_endingBy cX6_endingBy 5 (some .int), Cond.methodLink RX6 239 yX6_has, Cond.static yX6_has, Cond.code yX6_has cX6_has 2 (some .boolean), Cond.methodLink RX6 242 yX6_greatest, Cond.static yX6_greatest, Cond.code yX6_greatest cX6_greatest 2 (some .int), Cond.methodLink RX6 245 yX6_least, Cond.static yX6_least, Cond.code yX6_least cX6_least 2 (some .int)]
def wsX6_end : List Cond := .code yX6_end cX6_end 4 (some .int) :: ((wsX6_end_r1 ++ wsX6_end_r2) ++ wsX60 ++ wsX40 ++ wsX30)
def wsX6_sentence : List Cond := .code yX6_sentence cX6_sentence 3 (some .int) :: ([.fieldLink RX6 33 "EndedByOthers" "scene" "LEndedByOthers$Scene;", .fieldLink RX6 157 "EndedByOthers$Scene" "beginners" "[I", .fieldLink RX6 160 "EndedByOthers$Scene" "openings" "[I", .fieldLink RX6 163 "EndedByOthers$Scene" "enders" "[I", .fieldLink RX6 166 "EndedByOthers$Scene" "endings" "[I", .methodLink RX6 151 yX6_isSentence, .instanceMethod yX6_isSentence, .selects RX6 yX6_isSentence yX6_isSentence, .initialized RX6, .code yX6_isSentence cX6_isSentence 2 (some .boolean), .fieldLink RX6 145 "EndedByOthers$Scene" "sentences" "I", .methodLink RX6 169 yX4_isAsWanted, .instanceMethod yX4_isAsWanted, .selects RX4 yX4_isAsWanted yX4_isAsWanted, .initialized RX4, .code yX4_isAsWanted cX4_isAsWanted 2 (some .boolean), .fieldLink RX4 24 "EndedByOthers$Scene" "endings" "[I", .fieldLink RX4 9 "EndedByOthers$Scene" "wants" "[I", .fieldLink RX4 15 "EndedByOthers$Scene" "beginners" "[I", .methodLink RX4 52 yX4_isOpen, .instanceMethod yX4_isOpen, .selects RX4 yX4_isOpen yX4_isOpen, .code yX4_isOpen cX4_isOpen 2 (some .boolean), .fieldLink RX4 21 "EndedByOthers$Scene" "enders" "[I"] ++ wsX60 ++ wsX40)
def wsX6_wouldPlease_r1 : List Cond := [Cond.fieldLink RX6 33 "EndedByOthers" "scene" "LEndedByOthers$Scene;", Cond.fieldLink RX6 157 "EndedByOthers$Scene" "beginners" "[I", Cond.fieldLink RX6 160 "EndedByOthers$Scene" "openings" "[I", Cond.fieldLink RX6 108 "EndedByOthers$Scene" "wants" "[I", Cond.methodLink RX6 154 yX4_isOpen, Cond.instanceMethod yX4_isOpen, Cond.selects RX4 yX4_isOpen yX4_isOpen, Cond.initialized RX4, Cond.code yX4_isOpen cX4_isOpen 2 (some .boolean), Cond.fieldLink RX4 21 "EndedByOthers$Scene" "enders" "[I", Cond.methodLink RX6 142 yX6_endingNow, Cond.instanceMethod yX6_endingNow, Cond.selects RX6 yX6_endingNow yX6_endingNow, Cond.initialized RX6, Cond.code yX6_endingNow cX6_endingNow 3 (some .int), Cond.fieldLink RX6 26 "EndedByOthers" "room" "LEndedByOthers$Room;", Cond.fieldLink RX6 105 "EndedByOthers$Room" "kinds" "[I", Cond.fieldLink RX6 99 "EndedByOthers$Room" "fitting" "[I", Cond.methodLink RX6 109 yX4_usedBy, Cond.instanceMethod yX4_usedBy, Cond.selects RX4 yX4_usedBy yX4_usedBy, Cond.code yX4_usedBy cX4_usedBy 4 (some .int), Cond.fieldLink RX4 27 "EndedByOthers$Scene" "sentences" "I", Cond.fieldLink RX4 24 "EndedByOthers$Scene" "endings" "[I"]
def wsX6_wouldPlease_r2 : List Cond := [Cond.methodLink RX6 248 yX6_endingBy, Cond.static yX6_endingBy, Cond.code yX6_endingBy cX6_endingBy 5 (some .int), Cond.methodLink RX6 239 yX6_has, Cond.static yX6_has, Cond.code yX6_has cX6_has 2 (some .boolean), Cond.methodLink RX6 242 yX6_greatest, Cond.static yX6_greatest, Cond.code yX6_greatest cX6_greatest 2 (some .int), Cond.methodLink RX6 245 yX6_least, Cond.static yX6_least, Cond.code yX6_least cX6_least 2 (some .int)]
def wsX6_wouldPlease : List Cond := .code yX6_wouldPlease cX6_wouldPlease 4 (some .boolean) :: ((wsX6_wouldPlease_r1 ++ wsX6_wouldPlease_r2) ++ wsX60 ++ wsX40 ++ wsX30)
def wsX6_findPleasing_r1 : List Cond := [Cond.fieldLink RX6 43 "EndedByOthers" "matching" "LEndedByOthers$Matching;", Cond.fieldLink RX6 276 "EndedByOthers$Matching" "pleasing" "[I", Cond.fieldLink RX6 33 "EndedByOthers" "scene" "LEndedByOthers$Scene;", Cond.fieldLink RX6 145 "EndedByOthers$Scene" "sentences" "I", Cond.methodLink RX6 102 yX6_isSpeaker, Cond.instanceMethod yX6_isSpeaker, Cond.selects RX6 yX6_isSpeaker yX6_isSpeaker, Cond.initialized RX6, Cond.code yX6_isSpeaker cX6_isSpeaker 2 (some .boolean), Cond.fieldLink RX6 26 "EndedByOthers" "room" "LEndedByOthers$Room;", Cond.fieldLink RX6 92 "EndedByOthers$Room" "speakers" "I", Cond.methodLink RX6 279 yX6_wouldPlease, Cond.instanceMethod yX6_wouldPlease, Cond.selects RX6 yX6_wouldPlease yX6_wouldPlease, Cond.code yX6_wouldPlease cX6_wouldPlease 4 (some .boolean), Cond.fieldLink RX6 157 "EndedByOthers$Scene" "beginners" "[I", Cond.fieldLink RX6 160 "EndedByOthers$Scene" "openings" "[I", Cond.fieldLink RX6 108 "EndedByOthers$Scene" "wants" "[I", Cond.methodLink RX6 154 yX4_isOpen, Cond.instanceMethod yX4_isOpen, Cond.selects RX4 yX4_isOpen yX4_isOpen, Cond.initialized RX4, Cond.code yX4_isOpen cX4_isOpen 2 (some .boolean), Cond.fieldLink RX4 21 "EndedByOthers$Scene" "enders" "[I"]
def wsX6_findPleasing_r2 : List Cond := [Cond.methodLink RX6 142 yX6_endingNow, Cond.instanceMethod yX6_endingNow, Cond.selects RX6 yX6_endingNow yX6_endingNow, Cond.code yX6_endingNow cX6_endingNow 3 (some .int), Cond.fieldLink RX6 105 "EndedByOthers$Room" "kinds" "[I", Cond.fieldLink RX6 99 "EndedByOthers$Room" "fitting" "[I", Cond.methodLink RX6 109 yX4_usedBy, Cond.instanceMethod yX4_usedBy, Cond.selects RX4 yX4_usedBy yX4_usedBy, Cond.code yX4_usedBy cX4_usedBy 4 (some .int), Cond.fieldLink RX4 27 "EndedByOthers$Scene" "sentences" "I", Cond.fieldLink RX4 24 "EndedByOthers$Scene" "endings" "[I", Cond.methodLink RX6 248 yX6_endingBy, Cond.static yX6_endingBy, Cond.code yX6_endingBy cX6_endingBy 5 (some .int), Cond.methodLink RX6 239 yX6_has, Cond.static yX6_has, Cond.code yX6_has cX6_has 2 (some .boolean), Cond.methodLink RX6 242 yX6_greatest, Cond.static yX6_greatest, Cond.code yX6_greatest cX6_greatest 2 (some .int), Cond.methodLink RX6 245 yX6_least, Cond.static yX6_least, Cond.code yX6_least cX6_least 2 (some .int)]
def wsX6_findPleasing : List Cond := .code yX6_findPleasing cX6_findPleasing 3 none :: ((wsX6_findPleasing_r1 ++ wsX6_findPleasing_r2) ++ wsX60 ++ wsX00 ++ wsX40 ++ wsX30)
def wsX6_match_r1 : List Cond := [Cond.fieldLink RX6 26 "EndedByOthers" "room" "LEndedByOthers$Room;", Cond.fieldLink RX6 92 "EndedByOthers$Room" "speakers" "I", Cond.fieldLink RX6 43 "EndedByOthers" "matching" "LEndedByOthers$Matching;", Cond.fieldLink RX6 178 "EndedByOthers$Matching" "ended" "I", Cond.fieldLink RX6 181 "EndedByOthers$Matching" "picks" "[I", Cond.methodLink RX6 172 yX6_findPleasing, Cond.instanceMethod yX6_findPleasing, Cond.selects RX6 yX6_findPleasing yX6_findPleasing, Cond.initialized RX6, Cond.code yX6_findPleasing cX6_findPleasing 3 none, Cond.fieldLink RX6 276 "EndedByOthers$Matching" "pleasing" "[I", Cond.fieldLink RX6 33 "EndedByOthers" "scene" "LEndedByOthers$Scene;", Cond.fieldLink RX6 145 "EndedByOthers$Scene" "sentences" "I", Cond.methodLink RX6 102 yX6_isSpeaker, Cond.instanceMethod yX6_isSpeaker, Cond.selects RX6 yX6_isSpeaker yX6_isSpeaker, Cond.code yX6_isSpeaker cX6_isSpeaker 2 (some .boolean), Cond.methodLink RX6 279 yX6_wouldPlease, Cond.instanceMethod yX6_wouldPlease, Cond.selects RX6 yX6_wouldPlease yX6_wouldPlease, Cond.code yX6_wouldPlease cX6_wouldPlease 4 (some .boolean), Cond.fieldLink RX6 157 "EndedByOthers$Scene" "beginners" "[I", Cond.fieldLink RX6 160 "EndedByOthers$Scene" "openings" "[I", Cond.fieldLink RX6 108 "EndedByOthers$Scene" "wants" "[I"]
def wsX6_match_r2 : List Cond := [Cond.methodLink RX6 154 yX4_isOpen, Cond.instanceMethod yX4_isOpen, Cond.selects RX4 yX4_isOpen yX4_isOpen, Cond.initialized RX4, Cond.code yX4_isOpen cX4_isOpen 2 (some .boolean), Cond.fieldLink RX4 21 "EndedByOthers$Scene" "enders" "[I", Cond.methodLink RX6 142 yX6_endingNow, Cond.instanceMethod yX6_endingNow, Cond.selects RX6 yX6_endingNow yX6_endingNow, Cond.code yX6_endingNow cX6_endingNow 3 (some .int), Cond.fieldLink RX6 105 "EndedByOthers$Room" "kinds" "[I", Cond.fieldLink RX6 99 "EndedByOthers$Room" "fitting" "[I", Cond.methodLink RX6 109 yX4_usedBy, Cond.instanceMethod yX4_usedBy, Cond.selects RX4 yX4_usedBy yX4_usedBy, Cond.code yX4_usedBy cX4_usedBy 4 (some .int), Cond.fieldLink RX4 27 "EndedByOthers$Scene" "sentences" "I", Cond.fieldLink RX4 24 "EndedByOthers$Scene" "endings" "[I", Cond.methodLink RX6 248 yX6_endingBy, Cond.static yX6_endingBy, Cond.code yX6_endingBy cX6_endingBy 5 (some .int), Cond.methodLink RX6 239 yX6_has, Cond.static yX6_has, Cond.code yX6_has cX6_has 2 (some .boolean)]
def wsX6_match_r3 : List Cond := [Cond.methodLink RX6 242 yX6_greatest, Cond.static yX6_greatest, Cond.code yX6_greatest cX6_greatest 2 (some .int), Cond.methodLink RX6 245 yX6_least, Cond.static yX6_least, Cond.code yX6_least cX6_least 2 (some .int), Cond.methodLink RX6 175 yX0_solve, Cond.instanceMethod yX0_solve, Cond.selects RX0 yX0_solve yX0_solve, Cond.initialized RX0, Cond.code yX0_solve cX0_solve 3 none, Cond.fieldLink RX0 9 "EndedByOthers$Matching" "pleasing" "[I", Cond.fieldLink RX0 18 "EndedByOthers$Matching" "ended" "I", Cond.fieldLink RX0 15 "EndedByOthers$Matching" "picks" "[I", Cond.methodLink RX0 22 yX0_mostFrom, Cond.static yX0_mostFrom, Cond.code yX0_mostFrom cX0_mostFrom 6 (some .int), Cond.methodLink RX0 34 Lib.Math.max.name, Cond.static Lib.Math.max.name, Cond.initialized "java/lang/Math", Cond.code Lib.Math.max.name Lib.Math.max.code 2 (some .int), Cond.methodLink RX0 26 yX0_firstBestPick, Cond.instanceMethod yX0_firstBestPick, Cond.selects RX0 yX0_firstBestPick yX0_firstBestPick]
def wsX6_match_r4 : List Cond := [Cond.code yX0_firstBestPick cX0_firstBestPick 6 (some .int)]
def wsX6_match : List Cond := .code yX6_match cX6_match 4 (some .int) :: ((wsX6_match_r1 ++ (wsX6_match_r2 ++ (wsX6_match_r3 ++ wsX6_match_r4))) ++ wsX60 ++ wsX30 ++ wsX00 ++ wsX40)
def wsX6_hear : List Cond := .code yX6_hear cX6_hear 4 (some .int) :: ([.fieldLink RX6 33 "EndedByOthers" "scene" "LEndedByOthers$Scene;", .fieldLink RX6 184 "EndedByOthers$Scene" "heard" "I", .methodLink RX6 102 yX6_isSpeaker, .instanceMethod yX6_isSpeaker, .selects RX6 yX6_isSpeaker yX6_isSpeaker, .initialized RX6, .code yX6_isSpeaker cX6_isSpeaker 2 (some .boolean), .fieldLink RX6 26 "EndedByOthers" "room" "LEndedByOthers$Room;", .fieldLink RX6 92 "EndedByOthers$Room" "speakers" "I", .methodLink RX6 95 yX6_isOpening, .static yX6_isOpening, .code yX6_isOpening cX6_isOpening 1 (some .boolean), .methodLink RX6 136 yX6_isEnding, .static yX6_isEnding, .code yX6_isEnding cX6_isEnding 1 (some .boolean), .methodLink RX6 187 yX4_addHeard, .instanceMethod yX4_addHeard, .selects RX4 yX4_addHeard yX4_addHeard, .initialized RX4, .code yX4_addHeard cX4_addHeard 4 none, .fieldLink RX4 40 "EndedByOthers$Scene" "heard" "I", .fieldLink RX4 31 "EndedByOthers$Scene" "heardSpeakers" "[I", .fieldLink RX4 34 "EndedByOthers$Scene" "heardOpenings" "[I", .fieldLink RX4 37 "EndedByOthers$Scene" "heardEndings" "[I"] ++ wsX60 ++ wsX40 ++ wsX30)
def wsX6_forget : List Cond := .code yX6_forget cX6_forget 2 (some .int) :: ([.fieldLink RX6 33 "EndedByOthers" "scene" "LEndedByOthers$Scene;", .fieldLink RX6 184 "EndedByOthers$Scene" "heard" "I"] ++ wsX60 ++ wsX40)
def wsX6_talks_r1 : List Cond := [Cond.fieldLink RX6 26 "EndedByOthers" "room" "LEndedByOthers$Room;", Cond.fieldLink RX6 92 "EndedByOthers$Room" "speakers" "I", Cond.fieldLink RX6 50 "EndedByOthers" "trial" "LEndedByOthers$Trial;", Cond.fieldLink RX6 33 "EndedByOthers" "scene" "LEndedByOthers$Scene;", Cond.fieldLink RX6 195 "EndedByOthers$Trial" "ended" "I", Cond.fieldLink RX6 196 "EndedByOthers$Trial" "asWanted" "I", Cond.fieldLink RX6 199 "EndedByOthers$Trial" "seed" "J", Cond.methodLink RX6 191 yX5_run, Cond.instanceMethod yX5_run, Cond.selects RX5 yX5_run yX5_run, Cond.initialized RX5, Cond.code yX5_run cX5_run 6 none, Cond.fieldLink RX5 15 "EndedByOthers$Trial" "seed" "J", Cond.fieldLink RX5 19 "EndedByOthers$Trial" "ended" "I", Cond.fieldLink RX5 23 "EndedByOthers$Trial" "asWanted" "I", Cond.fieldLink RX5 9 "EndedByOthers$Trial" "used" "[I", Cond.methodLink RX5 26 yX4_usedBy, Cond.instanceMethod yX4_usedBy, Cond.selects RX4 yX4_usedBy yX4_usedBy, Cond.initialized RX4, Cond.code yX4_usedBy cX4_usedBy 4 (some .int), Cond.fieldLink RX4 27 "EndedByOthers$Scene" "sentences" "I", Cond.fieldLink RX4 21 "EndedByOthers$Scene" "enders" "[I", Cond.fieldLink RX4 24 "EndedByOthers$Scene" "endings" "[I"]
def wsX6_talks_r2 : List Cond := [Cond.methodLink RX5 32 yX5_talkOnce, Cond.instanceMethod yX5_talkOnce, Cond.selects RX5 yX5_talkOnce yX5_talkOnce, Cond.code yX5_talkOnce cX5_talkOnce 7 none, Cond.fieldLink RX5 36 "EndedByOthers$Room" "speakers" "I", Cond.fieldLink RX5 44 "EndedByOthers$Room" "kinds" "[I", Cond.fieldLink RX5 47 "EndedByOthers$Room" "fitting" "[I", Cond.fieldLink RX5 50 "EndedByOthers$Scene" "wants" "[I", Cond.methodLink RX5 41 yX5_draw, Cond.instanceMethod yX5_draw, Cond.selects RX5 yX5_draw yX5_draw, Cond.code yX5_draw cX5_draw 2 (some .int), Cond.constantLong RX5 57 (1103515245), Cond.constantLong RX5 59 (12345), Cond.constantLong RX5 61 (2147483648), Cond.constantLong RX5 63 (65536), Cond.static yX6_endingBy, Cond.initialized RX6, Cond.code yX6_endingBy cX6_endingBy 5 (some .int), Cond.methodLink RX6 239 yX6_has, Cond.static yX6_has, Cond.code yX6_has cX6_has 2 (some .boolean), Cond.methodLink RX6 242 yX6_greatest, Cond.static yX6_greatest]
def wsX6_talks_r3 : List Cond := [Cond.code yX6_greatest cX6_greatest 2 (some .int), Cond.methodLink RX6 245 yX6_least, Cond.static yX6_least, Cond.code yX6_least cX6_least 2 (some .int)]
def wsX6_talks : List Cond := .code yX6_talks cX6_talks 4 (some .int) :: ((wsX6_talks_r1 ++ (wsX6_talks_r2 ++ wsX6_talks_r3)) ++ wsX60 ++ wsX30 ++ wsX50 ++ wsX40)
def wsX6_image_r1 : List Cond := [Cond.fieldLink RX6 26 "EndedByOthers" "room" "LEndedByOthers$Room;", Cond.fieldLink RX6 92 "EndedByOthers$Room" "speakers" "I", Cond.fieldLink RX6 37 "EndedByOthers" "image" "LEndedByOthers$Scene;", Cond.fieldLink RX6 33 "EndedByOthers" "scene" "LEndedByOthers$Scene;", Cond.fieldLink RX6 54 "EndedByOthers" "imageKept" "Z", Cond.fieldLink RX6 145 "EndedByOthers$Scene" "sentences" "I", Cond.methodLink RX6 203 yX4_copyFrom, Cond.instanceMethod yX4_copyFrom, Cond.selects RX4 yX4_copyFrom yX4_copyFrom, Cond.initialized RX4, Cond.code yX4_copyFrom cX4_copyFrom 2 none, Cond.fieldLink RX4 9 "EndedByOthers$Scene" "wants" "[I", Cond.methodLink RX4 46 arraycopyName, Cond.native arraycopyName, Cond.static arraycopyName, Cond.initialized "java/lang/System", Cond.fieldLink RX4 15 "EndedByOthers$Scene" "beginners" "[I", Cond.fieldLink RX4 18 "EndedByOthers$Scene" "openings" "[I", Cond.fieldLink RX4 21 "EndedByOthers$Scene" "enders" "[I", Cond.fieldLink RX4 24 "EndedByOthers$Scene" "endings" "[I", Cond.fieldLink RX4 31 "EndedByOthers$Scene" "heardSpeakers" "[I", Cond.fieldLink RX4 34 "EndedByOthers$Scene" "heardOpenings" "[I", Cond.fieldLink RX4 37 "EndedByOthers$Scene" "heardEndings" "[I", Cond.fieldLink RX4 27 "EndedByOthers$Scene" "sentences" "I"]
def wsX6_image_r2 : List Cond := [Cond.fieldLink RX4 40 "EndedByOthers$Scene" "heard" "I", Cond.fieldLink RX4 43 "EndedByOthers$Scene" "changes" "I"]
def wsX6_image : List Cond := .code yX6_image cX6_image 1 (some .int) :: ((wsX6_image_r1 ++ wsX6_image_r2) ++ wsX60 ++ wsX30 ++ wsX40)
def wsX6_restore : List Cond := .code yX6_restore cX6_restore 1 (some .int) :: ([.fieldLink RX6 54 "EndedByOthers" "imageKept" "Z", .fieldLink RX6 33 "EndedByOthers" "scene" "LEndedByOthers$Scene;", .fieldLink RX6 37 "EndedByOthers" "image" "LEndedByOthers$Scene;", .fieldLink RX6 145 "EndedByOthers$Scene" "sentences" "I", .methodLink RX6 203 yX4_copyFrom, .instanceMethod yX4_copyFrom, .selects RX4 yX4_copyFrom yX4_copyFrom, .initialized RX4, .code yX4_copyFrom cX4_copyFrom 2 none, .fieldLink RX4 9 "EndedByOthers$Scene" "wants" "[I", .methodLink RX4 46 arraycopyName, .native arraycopyName, .static arraycopyName, .initialized "java/lang/System", .fieldLink RX4 15 "EndedByOthers$Scene" "beginners" "[I", .fieldLink RX4 18 "EndedByOthers$Scene" "openings" "[I", .fieldLink RX4 21 "EndedByOthers$Scene" "enders" "[I", .fieldLink RX4 24 "EndedByOthers$Scene" "endings" "[I", .fieldLink RX4 31 "EndedByOthers$Scene" "heardSpeakers" "[I", .fieldLink RX4 34 "EndedByOthers$Scene" "heardOpenings" "[I", .fieldLink RX4 37 "EndedByOthers$Scene" "heardEndings" "[I", .fieldLink RX4 27 "EndedByOthers$Scene" "sentences" "I", .fieldLink RX4 40 "EndedByOthers$Scene" "heard" "I", .fieldLink RX4 43 "EndedByOthers$Scene" "changes" "I"] ++ wsX60 ++ wsX40)
def wsX6_count_r1 : List Cond := [Cond.fieldLink RX6 26 "EndedByOthers" "room" "LEndedByOthers$Room;", Cond.fieldLink RX6 92 "EndedByOthers$Room" "speakers" "I", Cond.fieldLink RX6 33 "EndedByOthers" "scene" "LEndedByOthers$Scene;", Cond.fieldLink RX6 145 "EndedByOthers$Scene" "sentences" "I", Cond.fieldLink RX6 139 "EndedByOthers$Scene" "changes" "I", Cond.fieldLink RX6 184 "EndedByOthers$Scene" "heard" "I", Cond.fieldLink RX6 10 "EndedByOthers" "page" "LEndedByOthers$Page;", Cond.fieldLink RX6 62 "EndedByOthers$Page" "length" "I", Cond.fieldLink RX6 58 "EndedByOthers" "roomsRead" "I", Cond.methodLink RX6 206 yX4_howManyOpen, Cond.instanceMethod yX4_howManyOpen, Cond.selects RX4 yX4_howManyOpen yX4_howManyOpen, Cond.initialized RX4, Cond.code yX4_howManyOpen cX4_howManyOpen 1 (some .int), Cond.methodLink RX4 56 yX4_howManyEndedBy, Cond.instanceMethod yX4_howManyEndedBy, Cond.selects RX4 yX4_howManyEndedBy yX4_howManyEndedBy, Cond.code yX4_howManyEndedBy cX4_howManyEndedBy 4 (some .int), Cond.fieldLink RX4 27 "EndedByOthers$Scene" "sentences" "I", Cond.fieldLink RX4 21 "EndedByOthers$Scene" "enders" "[I", Cond.methodLink RX6 210 yX4_howManyAsWanted, Cond.instanceMethod yX4_howManyAsWanted, Cond.selects RX4 yX4_howManyAsWanted yX4_howManyAsWanted, Cond.code yX4_howManyAsWanted cX4_howManyAsWanted 3 (some .int)]
def wsX6_count_r2 : List Cond := [Cond.methodLink RX4 60 yX4_isAsWanted, Cond.instanceMethod yX4_isAsWanted, Cond.selects RX4 yX4_isAsWanted yX4_isAsWanted, Cond.code yX4_isAsWanted cX4_isAsWanted 2 (some .boolean), Cond.fieldLink RX4 24 "EndedByOthers$Scene" "endings" "[I", Cond.fieldLink RX4 9 "EndedByOthers$Scene" "wants" "[I", Cond.fieldLink RX4 15 "EndedByOthers$Scene" "beginners" "[I", Cond.methodLink RX4 52 yX4_isOpen, Cond.instanceMethod yX4_isOpen, Cond.selects RX4 yX4_isOpen yX4_isOpen, Cond.code yX4_isOpen cX4_isOpen 2 (some .boolean), Cond.methodLink RX6 213 yX4_howManyUnlikeEndings, Cond.instanceMethod yX4_howManyUnlikeEndings, Cond.selects RX4 yX4_howManyUnlikeEndings yX4_howManyUnlikeEndings, Cond.code yX4_howManyUnlikeEndings cX4_howManyUnlikeEndings 3 (some .int), Cond.methodLink RX4 63 yX4_usedBy, Cond.instanceMethod yX4_usedBy, Cond.selects RX4 yX4_usedBy yX4_usedBy, Cond.code yX4_usedBy cX4_usedBy 4 (some .int), Cond.methodLink RX4 66 yJ6_bitCount_0f7a4, Cond.static yJ6_bitCount_0f7a4, Cond.initialized RJ6, Cond.code yJ6_bitCount_0f7a4 cJ6_bitCount_0f7a4 1 (some .int), Cond.constant RJ6 265 (1431655765)]
def wsX6_count_r3 : List Cond := [Cond.constant RJ6 266 (858993459), Cond.constant RJ6 267 (252645135)]
def wsX6_count : List Cond := .code yX6_count cX6_count 2 (some .int) :: ((wsX6_count_r1 ++ (wsX6_count_r2 ++ wsX6_count_r3)) ++ wsX60 ++ wsX30 ++ wsX40 ++ wsX10)
def wsX6_mixed : List Cond := .code yX6_mixed cX6_mixed 4 (some .long) :: ([.constantLong RX6 237 (31)])
def wsX6_digest_r1 : List Cond := [Cond.constantLong RX6 216 (1021), Cond.fieldLink RX6 26 "EndedByOthers" "room" "LEndedByOthers$Room;", Cond.fieldLink RX6 92 "EndedByOthers$Room" "speakers" "I", Cond.fieldLink RX6 99 "EndedByOthers$Room" "fitting" "[I", Cond.fieldLink RX6 33 "EndedByOthers" "scene" "LEndedByOthers$Scene;", Cond.fieldLink RX6 145 "EndedByOthers$Scene" "sentences" "I", Cond.fieldLink RX6 10 "EndedByOthers" "page" "LEndedByOthers$Page;", Cond.fieldLink RX6 62 "EndedByOthers$Page" "length" "I", Cond.fieldLink RX6 231 "EndedByOthers$Page" "codes" "[I", Cond.methodLink RX6 218 yX6_mixed, Cond.static yX6_mixed, Cond.initialized RX6, Cond.code yX6_mixed cX6_mixed 4 (some .long), Cond.constantLong RX6 237 (31), Cond.methodLink RX6 222 yX6_about, Cond.instanceMethod yX6_about, Cond.selects RX6 yX6_about yX6_about, Cond.code yX6_about cX6_about 3 (some .int), Cond.fieldLink RX6 105 "EndedByOthers$Room" "kinds" "[I", Cond.fieldLink RX6 108 "EndedByOthers$Scene" "wants" "[I", Cond.methodLink RX6 102 yX6_isSpeaker, Cond.instanceMethod yX6_isSpeaker, Cond.selects RX6 yX6_isSpeaker yX6_isSpeaker, Cond.code yX6_isSpeaker cX6_isSpeaker 2 (some .boolean)]
def wsX6_digest_r2 : List Cond := [Cond.methodLink RX6 109 yX4_usedBy, Cond.instanceMethod yX4_usedBy, Cond.selects RX4 yX4_usedBy yX4_usedBy, Cond.initialized RX4, Cond.code yX4_usedBy cX4_usedBy 4 (some .int), Cond.fieldLink RX4 27 "EndedByOthers$Scene" "sentences" "I", Cond.fieldLink RX4 21 "EndedByOthers$Scene" "enders" "[I", Cond.fieldLink RX4 24 "EndedByOthers$Scene" "endings" "[I", Cond.methodLink RX6 113 yX4_openOf, Cond.instanceMethod yX4_openOf, Cond.selects RX4 yX4_openOf yX4_openOf, Cond.code yX4_openOf cX4_openOf 3 (some .int), Cond.fieldLink RX4 15 "EndedByOthers$Scene" "beginners" "[I", Cond.methodLink RX4 52 yX4_isOpen, Cond.instanceMethod yX4_isOpen, Cond.selects RX4 yX4_isOpen yX4_isOpen, Cond.code yX4_isOpen cX4_isOpen 2 (some .boolean), Cond.methodLink RX6 116 yX4_howManyBegunBy, Cond.instanceMethod yX4_howManyBegunBy, Cond.selects RX4 yX4_howManyBegunBy yX4_howManyBegunBy, Cond.code yX4_howManyBegunBy cX4_howManyBegunBy 4 (some .int), Cond.methodLink RX6 119 yX4_howManyEndedBy, Cond.instanceMethod yX4_howManyEndedBy, Cond.selects RX4 yX4_howManyEndedBy yX4_howManyEndedBy]
def wsX6_digest_r3 : List Cond := [Cond.code yX4_howManyEndedBy cX4_howManyEndedBy 4 (some .int), Cond.methodLink RX6 122 yX6_sureOpening, Cond.instanceMethod yX6_sureOpening, Cond.selects RX6 yX6_sureOpening yX6_sureOpening, Cond.code yX6_sureOpening cX6_sureOpening 3 (some .int), Cond.methodLink RX6 252 yX6_isSure, Cond.instanceMethod yX6_isSure, Cond.selects RX6 yX6_isSure yX6_isSure, Cond.code yX6_isSure cX6_isSure 6 (some .boolean), Cond.methodLink RX6 142 yX6_endingNow, Cond.instanceMethod yX6_endingNow, Cond.selects RX6 yX6_endingNow yX6_endingNow, Cond.code yX6_endingNow cX6_endingNow 3 (some .int), Cond.methodLink RX6 248 yX6_endingBy, Cond.static yX6_endingBy, Cond.code yX6_endingBy cX6_endingBy 5 (some .int), Cond.methodLink RX6 239 yX6_has, Cond.static yX6_has, Cond.code yX6_has cX6_has 2 (some .boolean), Cond.methodLink RX6 242 yX6_greatest, Cond.static yX6_greatest, Cond.code yX6_greatest cX6_greatest 2 (some .int), Cond.methodLink RX6 245 yX6_least, Cond.static yX6_least]
def wsX6_digest_r4 : List Cond := [Cond.code yX6_least cX6_least 2 (some .int), Cond.methodLink RX6 125 yX6_possibleKinds, Cond.instanceMethod yX6_possibleKinds, Cond.selects RX6 yX6_possibleKinds yX6_possibleKinds, Cond.code yX6_possibleKinds cX6_possibleKinds 4 (some .int), Cond.methodLink RX6 255 yX6_agreesWithHeard, Cond.instanceMethod yX6_agreesWithHeard, Cond.selects RX6 yX6_agreesWithHeard yX6_agreesWithHeard, Cond.code yX6_agreesWithHeard cX6_agreesWithHeard 5 (some .boolean), Cond.fieldLink RX6 184 "EndedByOthers$Scene" "heard" "I", Cond.fieldLink RX6 258 "EndedByOthers$Scene" "heardSpeakers" "[I", Cond.fieldLink RX6 261 "EndedByOthers$Scene" "heardOpenings" "[I", Cond.fieldLink RX6 264 "EndedByOthers$Scene" "heardEndings" "[I", Cond.methodLink RX6 128 yX6_tellingOpening, Cond.instanceMethod yX6_tellingOpening, Cond.selects RX6 yX6_tellingOpening yX6_tellingOpening, Cond.code yX6_tellingOpening cX6_tellingOpening 7 (some .int), Cond.methodLink RX6 267 yX6_mostKindsLeft, Cond.instanceMethod yX6_mostKindsLeft, Cond.selects RX6 yX6_mostKindsLeft yX6_mostKindsLeft, Cond.code yX6_mostKindsLeft cX6_mostKindsLeft 10 (some .int), Cond.methodLink RX6 271 Lib.Math.max.name, Cond.static Lib.Math.max.name, Cond.initialized "java/lang/Math"]
def wsX6_digest_r5 : List Cond := [Cond.code Lib.Math.max.name Lib.Math.max.code 2 (some .int), Cond.methodLink RX6 225 yX6_sentence, Cond.instanceMethod yX6_sentence, Cond.selects RX6 yX6_sentence yX6_sentence, Cond.code yX6_sentence cX6_sentence 3 (some .int), Cond.fieldLink RX6 157 "EndedByOthers$Scene" "beginners" "[I", Cond.fieldLink RX6 160 "EndedByOthers$Scene" "openings" "[I", Cond.fieldLink RX6 163 "EndedByOthers$Scene" "enders" "[I", Cond.fieldLink RX6 166 "EndedByOthers$Scene" "endings" "[I", Cond.methodLink RX6 151 yX6_isSentence, Cond.instanceMethod yX6_isSentence, Cond.selects RX6 yX6_isSentence yX6_isSentence, Cond.code yX6_isSentence cX6_isSentence 2 (some .boolean), Cond.methodLink RX6 169 yX4_isAsWanted, Cond.instanceMethod yX4_isAsWanted, Cond.selects RX4 yX4_isAsWanted yX4_isAsWanted, Cond.code yX4_isAsWanted cX4_isAsWanted 2 (some .boolean), Cond.fieldLink RX4 9 "EndedByOthers$Scene" "wants" "[I", Cond.methodLink RX6 228 yX6_match, Cond.instanceMethod yX6_match, Cond.selects RX6 yX6_match yX6_match, Cond.code yX6_match cX6_match 4 (some .int), Cond.fieldLink RX6 43 "EndedByOthers" "matching" "LEndedByOthers$Matching;", Cond.fieldLink RX6 178 "EndedByOthers$Matching" "ended" "I"]
def wsX6_digest_r6 : List Cond := [Cond.fieldLink RX6 181 "EndedByOthers$Matching" "picks" "[I", Cond.methodLink RX6 172 yX6_findPleasing, Cond.instanceMethod yX6_findPleasing, Cond.selects RX6 yX6_findPleasing yX6_findPleasing, Cond.code yX6_findPleasing cX6_findPleasing 3 none, Cond.fieldLink RX6 276 "EndedByOthers$Matching" "pleasing" "[I", Cond.methodLink RX6 279 yX6_wouldPlease, Cond.instanceMethod yX6_wouldPlease, Cond.selects RX6 yX6_wouldPlease yX6_wouldPlease, Cond.code yX6_wouldPlease cX6_wouldPlease 4 (some .boolean), Cond.methodLink RX6 154 yX4_isOpen, Cond.methodLink RX6 175 yX0_solve, Cond.instanceMethod yX0_solve, Cond.selects RX0 yX0_solve yX0_solve, Cond.initialized RX0, Cond.code yX0_solve cX0_solve 3 none, Cond.fieldLink RX0 9 "EndedByOthers$Matching" "pleasing" "[I", Cond.fieldLink RX0 18 "EndedByOthers$Matching" "ended" "I", Cond.fieldLink RX0 15 "EndedByOthers$Matching" "picks" "[I", Cond.methodLink RX0 22 yX0_mostFrom, Cond.static yX0_mostFrom, Cond.code yX0_mostFrom cX0_mostFrom 6 (some .int), Cond.methodLink RX0 34 Lib.Math.max.name, Cond.methodLink RX0 26 yX0_firstBestPick]
def wsX6_digest_r7 : List Cond := [Cond.instanceMethod yX0_firstBestPick, Cond.selects RX0 yX0_firstBestPick yX0_firstBestPick, Cond.code yX0_firstBestPick cX0_firstBestPick 6 (some .int), Cond.methodLink RX6 234 yX6_count, Cond.instanceMethod yX6_count, Cond.selects RX6 yX6_count yX6_count, Cond.code yX6_count cX6_count 2 (some .int), Cond.fieldLink RX6 139 "EndedByOthers$Scene" "changes" "I", Cond.fieldLink RX6 58 "EndedByOthers" "roomsRead" "I", Cond.methodLink RX6 206 yX4_howManyOpen, Cond.instanceMethod yX4_howManyOpen, Cond.selects RX4 yX4_howManyOpen yX4_howManyOpen, Cond.code yX4_howManyOpen cX4_howManyOpen 1 (some .int), Cond.methodLink RX4 56 yX4_howManyEndedBy, Cond.methodLink RX6 210 yX4_howManyAsWanted, Cond.instanceMethod yX4_howManyAsWanted, Cond.selects RX4 yX4_howManyAsWanted yX4_howManyAsWanted, Cond.code yX4_howManyAsWanted cX4_howManyAsWanted 3 (some .int), Cond.methodLink RX4 60 yX4_isAsWanted, Cond.methodLink RX6 213 yX4_howManyUnlikeEndings, Cond.instanceMethod yX4_howManyUnlikeEndings, Cond.selects RX4 yX4_howManyUnlikeEndings yX4_howManyUnlikeEndings, Cond.code yX4_howManyUnlikeEndings cX4_howManyUnlikeEndings 3 (some .int), Cond.methodLink RX4 63 yX4_usedBy]
def wsX6_digest_r8 : List Cond := [Cond.methodLink RX4 66 yJ6_bitCount_0f7a4, Cond.static yJ6_bitCount_0f7a4, Cond.initialized RJ6, Cond.code yJ6_bitCount_0f7a4 cJ6_bitCount_0f7a4 1 (some .int), Cond.constant RJ6 265 (1431655765), Cond.constant RJ6 266 (858993459), Cond.constant RJ6 267 (252645135)]
def wsX6_digest : List Cond := .code yX6_digest cX6_digest 5 (some .long) :: ((wsX6_digest_r1 ++ (wsX6_digest_r2 ++ (wsX6_digest_r3 ++ (wsX6_digest_r4 ++ (wsX6_digest_r5 ++ (wsX6_digest_r6 ++ (wsX6_digest_r7 ++ wsX6_digest_r8))))))) ++ wsX60 ++ wsX30 ++ wsX40 ++ wsX10 ++ wsX00)
def wsX7_init : List Cond := .code yX7_init cX7_init 1 none :: ([.methodLink RX7 1 objectInit, .instanceMethod objectInit, .code objectInit ⟨#[0xb1]⟩ 1 none, .arrayClass .int, .fieldLink RX7 7 "EndedByOthersModel" "page" "[I", .fieldLink RX7 13 "EndedByOthersModel" "readFits" "[I", .fieldLink RX7 16 "EndedByOthersModel" "readRows" "[I", .fieldLink RX7 19 "EndedByOthersModel" "fitting" "[I", .fieldLink RX7 22 "EndedByOthersModel" "rows" "[I", .fieldLink RX7 25 "EndedByOthersModel" "said" "[I", .fieldLink RX7 28 "EndedByOthersModel" "row" "[I", .fieldLink RX7 31 "EndedByOthersModel" "bestRow" "[I", .fieldLink RX7 34 "EndedByOthersModel" "heards" "[I", .fieldLink RX7 37 "EndedByOthersModel" "parts" "[I", .fieldLink RX7 40 "EndedByOthersModel" "savedRows" "[I", .fieldLink RX7 43 "EndedByOthersModel" "keptRows" "[I", .fieldLink RX7 46 "EndedByOthersModel" "keptSaid" "[I", .fieldLink RX7 49 "EndedByOthersModel" "keptHeards" "[I", .fieldLink RX7 52 "EndedByOthersModel" "keptRoom" "I"] ++ wsX70)
def wsX7_in : List Cond := .code yX7_in cX7_in 6 (some .boolean) :: ([])
def wsX7_copy : List Cond := .code yX7_copy cX7_copy 3 none :: ([])
def wsX7_letter : List Cond := .code yX7_letter cX7_letter 2 (some .int) :: ([.constantLong RX7 56 (126), .fieldLink RX7 62 "EndedByOthersModel" "pageMany" "I", .fieldLink RX7 7 "EndedByOthersModel" "page" "[I", .methodLink RX7 58 yX7_in, .static yX7_in, .initialized RX7, .code yX7_in cX7_in 6 (some .boolean)] ++ wsX70)
def wsX7_blank : List Cond := .code yX7_blank cX7_blank 2 (some .int) :: ([.fieldLink RX7 62 "EndedByOthersModel" "pageMany" "I"] ++ wsX70)
def wsX7_kindBy : List Cond := .code yX7_kindBy cX7_kindBy 1 (some .int) :: ([])
def wsX7_goOpening : List Cond := .code yX7_goOpening cX7_goOpening 4 (some .boolean) :: ([.fieldLink RX7 65 "EndedByOthersModel" "partMany" "I", .fieldLink RX7 68 "EndedByOthersModel" "part" "I", .fieldLink RX7 71 "EndedByOthersModel" "lastOne" "I", .constantLong RX7 74 (5), .fieldLink RX7 13 "EndedByOthersModel" "readFits" "[I", .methodLink RX7 58 yX7_in, .static yX7_in, .initialized RX7, .code yX7_in cX7_in 6 (some .boolean)] ++ wsX70)
def wsX7_goSpeaker : List Cond := .code yX7_goSpeaker cX7_goSpeaker 3 (some .boolean) :: ([.fieldLink RX7 76 "EndedByOthersModel" "step" "I", .fieldLink RX7 16 "EndedByOthersModel" "readRows" "[I", .fieldLink RX7 79 "EndedByOthersModel" "readMany" "I", .constantLong RX7 86 (97), .constantLong RX7 88 (102), .methodLink RX7 82 yX7_kindBy, .static yX7_kindBy, .initialized RX7, .code yX7_kindBy cX7_kindBy 1 (some .int), .methodLink RX7 58 yX7_in, .static yX7_in, .code yX7_in cX7_in 6 (some .boolean)] ++ wsX70)
def wsX7_faultOf_r1 : List Cond := [Cond.fieldLink RX7 68 "EndedByOthersModel" "part" "I", Cond.fieldLink RX7 65 "EndedByOthersModel" "partMany" "I", Cond.fieldLink RX7 71 "EndedByOthersModel" "lastOne" "I", Cond.fieldLink RX7 79 "EndedByOthersModel" "readMany" "I", Cond.fieldLink RX7 76 "EndedByOthersModel" "step" "I", Cond.fieldLink RX7 62 "EndedByOthersModel" "pageMany" "I", Cond.fieldLink RX7 7 "EndedByOthersModel" "page" "[I", Cond.methodLink RX7 90 yX7_goOpening, Cond.instanceMethod yX7_goOpening, Cond.selects RX7 yX7_goOpening yX7_goOpening, Cond.initialized RX7, Cond.code yX7_goOpening cX7_goOpening 4 (some .boolean), Cond.constantLong RX7 74 (5), Cond.fieldLink RX7 13 "EndedByOthersModel" "readFits" "[I", Cond.methodLink RX7 58 yX7_in, Cond.static yX7_in, Cond.code yX7_in cX7_in 6 (some .boolean), Cond.methodLink RX7 94 yX7_goSpeaker, Cond.instanceMethod yX7_goSpeaker, Cond.selects RX7 yX7_goSpeaker yX7_goSpeaker, Cond.code yX7_goSpeaker cX7_goSpeaker 3 (some .boolean), Cond.fieldLink RX7 16 "EndedByOthersModel" "readRows" "[I", Cond.constantLong RX7 86 (97), Cond.constantLong RX7 88 (102)]
def wsX7_faultOf_r2 : List Cond := [Cond.methodLink RX7 82 yX7_kindBy, Cond.static yX7_kindBy, Cond.code yX7_kindBy cX7_kindBy 1 (some .int)]
def wsX7_faultOf : List Cond := .code yX7_faultOf cX7_faultOf 2 (some .int) :: ((wsX7_faultOf_r1 ++ wsX7_faultOf_r2) ++ wsX70)
def wsX7_fault_r1 : List Cond := [Cond.methodLink RX7 97 yX7_faultOf, Cond.instanceMethod yX7_faultOf, Cond.selects RX7 yX7_faultOf yX7_faultOf, Cond.initialized RX7, Cond.code yX7_faultOf cX7_faultOf 2 (some .int), Cond.fieldLink RX7 68 "EndedByOthersModel" "part" "I", Cond.fieldLink RX7 65 "EndedByOthersModel" "partMany" "I", Cond.fieldLink RX7 71 "EndedByOthersModel" "lastOne" "I", Cond.fieldLink RX7 79 "EndedByOthersModel" "readMany" "I", Cond.fieldLink RX7 76 "EndedByOthersModel" "step" "I", Cond.fieldLink RX7 62 "EndedByOthersModel" "pageMany" "I", Cond.fieldLink RX7 7 "EndedByOthersModel" "page" "[I", Cond.methodLink RX7 90 yX7_goOpening, Cond.instanceMethod yX7_goOpening, Cond.selects RX7 yX7_goOpening yX7_goOpening, Cond.code yX7_goOpening cX7_goOpening 4 (some .boolean), Cond.constantLong RX7 74 (5), Cond.fieldLink RX7 13 "EndedByOthersModel" "readFits" "[I", Cond.methodLink RX7 58 yX7_in, Cond.static yX7_in, Cond.code yX7_in cX7_in 6 (some .boolean), Cond.methodLink RX7 94 yX7_goSpeaker, Cond.instanceMethod yX7_goSpeaker, Cond.selects RX7 yX7_goSpeaker yX7_goSpeaker]
def wsX7_fault_r2 : List Cond := [Cond.code yX7_goSpeaker cX7_goSpeaker 3 (some .boolean), Cond.fieldLink RX7 16 "EndedByOthersModel" "readRows" "[I", Cond.constantLong RX7 86 (97), Cond.constantLong RX7 88 (102), Cond.methodLink RX7 82 yX7_kindBy, Cond.static yX7_kindBy, Cond.code yX7_kindBy cX7_kindBy 1 (some .int)]
def wsX7_fault : List Cond := .code yX7_fault cX7_fault 1 (some .int) :: ((wsX7_fault_r1 ++ wsX7_fault_r2) ++ wsX70)
def wsX7_room_r1 : List Cond := [Cond.fieldLink RX7 62 "EndedByOthersModel" "pageMany" "I", Cond.fieldLink RX7 76 "EndedByOthersModel" "step" "I", Cond.fieldLink RX7 79 "EndedByOthersModel" "readMany" "I", Cond.fieldLink RX7 101 "EndedByOthersModel" "speakers" "I", Cond.fieldLink RX7 13 "EndedByOthersModel" "readFits" "[I", Cond.fieldLink RX7 19 "EndedByOthersModel" "fitting" "[I", Cond.fieldLink RX7 22 "EndedByOthersModel" "rows" "[I", Cond.fieldLink RX7 16 "EndedByOthersModel" "readRows" "[I", Cond.fieldLink RX7 108 "EndedByOthersModel" "wants" "I", Cond.fieldLink RX7 111 "EndedByOthersModel" "sentences" "I", Cond.fieldLink RX7 114 "EndedByOthersModel" "heardMany" "I", Cond.fieldLink RX7 117 "EndedByOthersModel" "roomsRead" "I", Cond.methodLink RX7 97 yX7_faultOf, Cond.instanceMethod yX7_faultOf, Cond.selects RX7 yX7_faultOf yX7_faultOf, Cond.initialized RX7, Cond.code yX7_faultOf cX7_faultOf 2 (some .int), Cond.fieldLink RX7 68 "EndedByOthersModel" "part" "I", Cond.fieldLink RX7 65 "EndedByOthersModel" "partMany" "I", Cond.fieldLink RX7 71 "EndedByOthersModel" "lastOne" "I", Cond.fieldLink RX7 7 "EndedByOthersModel" "page" "[I", Cond.methodLink RX7 90 yX7_goOpening, Cond.instanceMethod yX7_goOpening, Cond.selects RX7 yX7_goOpening yX7_goOpening]
def wsX7_room_r2 : List Cond := [Cond.code yX7_goOpening cX7_goOpening 4 (some .boolean), Cond.constantLong RX7 74 (5), Cond.methodLink RX7 58 yX7_in, Cond.static yX7_in, Cond.code yX7_in cX7_in 6 (some .boolean), Cond.methodLink RX7 94 yX7_goSpeaker, Cond.instanceMethod yX7_goSpeaker, Cond.selects RX7 yX7_goSpeaker yX7_goSpeaker, Cond.code yX7_goSpeaker cX7_goSpeaker 3 (some .boolean), Cond.constantLong RX7 86 (97), Cond.constantLong RX7 88 (102), Cond.methodLink RX7 82 yX7_kindBy, Cond.static yX7_kindBy, Cond.code yX7_kindBy cX7_kindBy 1 (some .int), Cond.methodLink RX7 104 yX7_copy, Cond.static yX7_copy, Cond.code yX7_copy cX7_copy 3 none]
def wsX7_room : List Cond := .code yX7_room cX7_room 2 (some .int) :: ((wsX7_room_r1 ++ wsX7_room_r2) ++ wsX70)
def wsX7_lacks : List Cond := .code yX7_lacks cX7_lacks 1 (some .boolean) :: ([.fieldLink RX7 101 "EndedByOthersModel" "speakers" "I"] ++ wsX70)
def wsX7_isOpening : List Cond := .code yX7_isOpening cX7_isOpening 2 (some .boolean) :: ([.constantLong RX7 124 (3), .methodLink RX7 120 yX7_lacks, .instanceMethod yX7_lacks, .selects RX7 yX7_lacks yX7_lacks, .initialized RX7, .code yX7_lacks cX7_lacks 1 (some .boolean), .fieldLink RX7 101 "EndedByOthersModel" "speakers" "I", .methodLink RX7 58 yX7_in, .static yX7_in, .code yX7_in cX7_in 6 (some .boolean)] ++ wsX70)
def wsX7_isSpeaker : List Cond := .code yX7_isSpeaker cX7_isSpeaker 2 (some .boolean) :: ([.fieldLink RX7 101 "EndedByOthersModel" "speakers" "I", .methodLink RX7 58 yX7_in, .static yX7_in, .initialized RX7, .code yX7_in cX7_in 6 (some .boolean)] ++ wsX70)
def wsX7_fits : List Cond := .code yX7_fits cX7_fits 2 (some .int) :: ([.fieldLink RX7 19 "EndedByOthersModel" "fitting" "[I", .methodLink RX7 126 yX7_isOpening, .instanceMethod yX7_isOpening, .selects RX7 yX7_isOpening yX7_isOpening, .initialized RX7, .code yX7_isOpening cX7_isOpening 2 (some .boolean), .constantLong RX7 124 (3), .methodLink RX7 120 yX7_lacks, .instanceMethod yX7_lacks, .selects RX7 yX7_lacks yX7_lacks, .code yX7_lacks cX7_lacks 1 (some .boolean), .fieldLink RX7 101 "EndedByOthersModel" "speakers" "I", .methodLink RX7 58 yX7_in, .static yX7_in, .code yX7_in cX7_in 6 (some .boolean)] ++ wsX70)
def wsX7_leastOf : List Cond := .code yX7_leastOf cX7_leastOf 3 (some .int) :: ([])
def wsX7_greatestOf : List Cond := .code yX7_greatestOf cX7_greatestOf 3 (some .int) :: ([])
def wsX7_ones : List Cond := .code yX7_ones cX7_ones 3 (some .int) :: ([])
def wsX7_endsBy : List Cond := .code yX7_endsBy cX7_endsBy 8 (some .int) :: ([.fieldLink RX7 19 "EndedByOthersModel" "fitting" "[I", .methodLink RX7 129 yX7_greatestOf, .static yX7_greatestOf, .initialized RX7, .code yX7_greatestOf cX7_greatestOf 3 (some .int), .methodLink RX7 132 yX7_leastOf, .static yX7_leastOf, .code yX7_leastOf cX7_leastOf 3 (some .int)] ++ wsX70)
def wsX7_wouldOf : List Cond := .code yX7_wouldOf cX7_wouldOf 3 (some .int) :: ([.fieldLink RX7 22 "EndedByOthersModel" "rows" "[I", .methodLink RX7 135 yX7_endsBy, .instanceMethod yX7_endsBy, .selects RX7 yX7_endsBy yX7_endsBy, .initialized RX7, .code yX7_endsBy cX7_endsBy 8 (some .int), .fieldLink RX7 19 "EndedByOthersModel" "fitting" "[I", .methodLink RX7 129 yX7_greatestOf, .static yX7_greatestOf, .code yX7_greatestOf cX7_greatestOf 3 (some .int), .methodLink RX7 132 yX7_leastOf, .static yX7_leastOf, .code yX7_leastOf cX7_leastOf 3 (some .int)] ++ wsX70)
def wsX7_openOf : List Cond := .code yX7_openOf cX7_openOf 4 (some .int) :: ([.fieldLink RX7 111 "EndedByOthersModel" "sentences" "I", .fieldLink RX7 25 "EndedByOthersModel" "said" "[I"] ++ wsX70)
def wsX7_saidBy : List Cond := .code yX7_saidBy cX7_saidBy 5 (some .int) :: ([.fieldLink RX7 111 "EndedByOthersModel" "sentences" "I", .fieldLink RX7 25 "EndedByOthersModel" "said" "[I"] ++ wsX70)
def wsX7_sureOf : List Cond := .code yX7_sureOf cX7_sureOf 8 (some .int) :: ([.fieldLink RX7 101 "EndedByOthersModel" "speakers" "I", .fieldLink RX7 22 "EndedByOthersModel" "rows" "[I", .methodLink RX7 139 yX7_wouldOf, .instanceMethod yX7_wouldOf, .selects RX7 yX7_wouldOf yX7_wouldOf, .initialized RX7, .code yX7_wouldOf cX7_wouldOf 3 (some .int), .methodLink RX7 135 yX7_endsBy, .instanceMethod yX7_endsBy, .selects RX7 yX7_endsBy yX7_endsBy, .code yX7_endsBy cX7_endsBy 8 (some .int), .fieldLink RX7 19 "EndedByOthersModel" "fitting" "[I", .methodLink RX7 129 yX7_greatestOf, .static yX7_greatestOf, .code yX7_greatestOf cX7_greatestOf 3 (some .int), .methodLink RX7 132 yX7_leastOf, .static yX7_leastOf, .code yX7_leastOf cX7_leastOf 3 (some .int)] ++ wsX70)
def wsX7_whichOf : List Cond := .code yX7_whichOf cX7_whichOf 7 (some .int) :: ([.fieldLink RX7 114 "EndedByOthersModel" "heardMany" "I", .fieldLink RX7 22 "EndedByOthersModel" "rows" "[I", .fieldLink RX7 34 "EndedByOthersModel" "heards" "[I", .methodLink RX7 135 yX7_endsBy, .instanceMethod yX7_endsBy, .selects RX7 yX7_endsBy yX7_endsBy, .initialized RX7, .code yX7_endsBy cX7_endsBy 8 (some .int), .fieldLink RX7 19 "EndedByOthersModel" "fitting" "[I", .methodLink RX7 129 yX7_greatestOf, .static yX7_greatestOf, .code yX7_greatestOf cX7_greatestOf 3 (some .int), .methodLink RX7 132 yX7_leastOf, .static yX7_leastOf, .code yX7_leastOf cX7_leastOf 3 (some .int)] ++ wsX70)
def wsX7_beginOf : List Cond := .code yX7_beginOf cX7_beginOf 9 (some .int) :: ([.fieldLink RX7 37 "EndedByOthersModel" "parts" "[I", .fieldLink RX7 22 "EndedByOthersModel" "rows" "[I", .methodLink RX7 152 yX7_whichOf, .instanceMethod yX7_whichOf, .selects RX7 yX7_whichOf yX7_whichOf, .initialized RX7, .code yX7_whichOf cX7_whichOf 7 (some .int), .fieldLink RX7 114 "EndedByOthersModel" "heardMany" "I", .fieldLink RX7 34 "EndedByOthersModel" "heards" "[I", .methodLink RX7 135 yX7_endsBy, .instanceMethod yX7_endsBy, .selects RX7 yX7_endsBy yX7_endsBy, .code yX7_endsBy cX7_endsBy 8 (some .int), .fieldLink RX7 19 "EndedByOthersModel" "fitting" "[I", .methodLink RX7 129 yX7_greatestOf, .static yX7_greatestOf, .code yX7_greatestOf cX7_greatestOf 3 (some .int), .methodLink RX7 132 yX7_leastOf, .static yX7_leastOf, .code yX7_leastOf cX7_leastOf 3 (some .int)] ++ wsX70)
def wsX7_tell_r1 : List Cond := [Cond.fieldLink RX7 22 "EndedByOthersModel" "rows" "[I", Cond.methodLink RX7 143 yX7_openOf, Cond.instanceMethod yX7_openOf, Cond.selects RX7 yX7_openOf yX7_openOf, Cond.initialized RX7, Cond.code yX7_openOf cX7_openOf 4 (some .int), Cond.fieldLink RX7 111 "EndedByOthersModel" "sentences" "I", Cond.fieldLink RX7 25 "EndedByOthersModel" "said" "[I", Cond.methodLink RX7 146 yX7_saidBy, Cond.instanceMethod yX7_saidBy, Cond.selects RX7 yX7_saidBy yX7_saidBy, Cond.code yX7_saidBy cX7_saidBy 5 (some .int), Cond.methodLink RX7 149 yX7_sureOf, Cond.instanceMethod yX7_sureOf, Cond.selects RX7 yX7_sureOf yX7_sureOf, Cond.code yX7_sureOf cX7_sureOf 8 (some .int), Cond.fieldLink RX7 101 "EndedByOthersModel" "speakers" "I", Cond.methodLink RX7 139 yX7_wouldOf, Cond.instanceMethod yX7_wouldOf, Cond.selects RX7 yX7_wouldOf yX7_wouldOf, Cond.code yX7_wouldOf cX7_wouldOf 3 (some .int), Cond.methodLink RX7 135 yX7_endsBy, Cond.instanceMethod yX7_endsBy, Cond.selects RX7 yX7_endsBy yX7_endsBy]
def wsX7_tell_r2 : List Cond := [Cond.code yX7_endsBy cX7_endsBy 8 (some .int), Cond.fieldLink RX7 19 "EndedByOthersModel" "fitting" "[I", Cond.methodLink RX7 129 yX7_greatestOf, Cond.static yX7_greatestOf, Cond.code yX7_greatestOf cX7_greatestOf 3 (some .int), Cond.methodLink RX7 132 yX7_leastOf, Cond.static yX7_leastOf, Cond.code yX7_leastOf cX7_leastOf 3 (some .int), Cond.methodLink RX7 152 yX7_whichOf, Cond.instanceMethod yX7_whichOf, Cond.selects RX7 yX7_whichOf yX7_whichOf, Cond.code yX7_whichOf cX7_whichOf 7 (some .int), Cond.fieldLink RX7 114 "EndedByOthersModel" "heardMany" "I", Cond.fieldLink RX7 34 "EndedByOthersModel" "heards" "[I", Cond.methodLink RX7 155 yX7_beginOf, Cond.instanceMethod yX7_beginOf, Cond.selects RX7 yX7_beginOf yX7_beginOf, Cond.code yX7_beginOf cX7_beginOf 9 (some .int), Cond.fieldLink RX7 37 "EndedByOthersModel" "parts" "[I"]
def wsX7_tell : List Cond := .code yX7_tell cX7_tell 3 (some .int) :: ((wsX7_tell_r1 ++ wsX7_tell_r2) ++ wsX70)
def wsX7_about_r1 : List Cond := [Cond.methodLink RX7 158 yX7_isSpeaker, Cond.instanceMethod yX7_isSpeaker, Cond.selects RX7 yX7_isSpeaker yX7_isSpeaker, Cond.initialized RX7, Cond.code yX7_isSpeaker cX7_isSpeaker 2 (some .boolean), Cond.fieldLink RX7 101 "EndedByOthersModel" "speakers" "I", Cond.methodLink RX7 58 yX7_in, Cond.static yX7_in, Cond.code yX7_in cX7_in 6 (some .boolean), Cond.methodLink RX7 161 yX7_tell, Cond.instanceMethod yX7_tell, Cond.selects RX7 yX7_tell yX7_tell, Cond.code yX7_tell cX7_tell 3 (some .int), Cond.fieldLink RX7 22 "EndedByOthersModel" "rows" "[I", Cond.methodLink RX7 143 yX7_openOf, Cond.instanceMethod yX7_openOf, Cond.selects RX7 yX7_openOf yX7_openOf, Cond.code yX7_openOf cX7_openOf 4 (some .int), Cond.fieldLink RX7 111 "EndedByOthersModel" "sentences" "I", Cond.fieldLink RX7 25 "EndedByOthersModel" "said" "[I", Cond.methodLink RX7 146 yX7_saidBy, Cond.instanceMethod yX7_saidBy, Cond.selects RX7 yX7_saidBy yX7_saidBy, Cond.code yX7_saidBy cX7_saidBy 5 (some .int)]
def wsX7_about_r2 : List Cond := [Cond.methodLink RX7 149 yX7_sureOf, Cond.instanceMethod yX7_sureOf, Cond.selects RX7 yX7_sureOf yX7_sureOf, Cond.code yX7_sureOf cX7_sureOf 8 (some .int), Cond.methodLink RX7 139 yX7_wouldOf, Cond.instanceMethod yX7_wouldOf, Cond.selects RX7 yX7_wouldOf yX7_wouldOf, Cond.code yX7_wouldOf cX7_wouldOf 3 (some .int), Cond.methodLink RX7 135 yX7_endsBy, Cond.instanceMethod yX7_endsBy, Cond.selects RX7 yX7_endsBy yX7_endsBy, Cond.code yX7_endsBy cX7_endsBy 8 (some .int), Cond.fieldLink RX7 19 "EndedByOthersModel" "fitting" "[I", Cond.methodLink RX7 129 yX7_greatestOf, Cond.static yX7_greatestOf, Cond.code yX7_greatestOf cX7_greatestOf 3 (some .int), Cond.methodLink RX7 132 yX7_leastOf, Cond.static yX7_leastOf, Cond.code yX7_leastOf cX7_leastOf 3 (some .int), Cond.methodLink RX7 152 yX7_whichOf, Cond.instanceMethod yX7_whichOf, Cond.selects RX7 yX7_whichOf yX7_whichOf, Cond.code yX7_whichOf cX7_whichOf 7 (some .int), Cond.fieldLink RX7 114 "EndedByOthersModel" "heardMany" "I"]
def wsX7_about_r3 : List Cond := [Cond.fieldLink RX7 34 "EndedByOthersModel" "heards" "[I", Cond.methodLink RX7 155 yX7_beginOf, Cond.instanceMethod yX7_beginOf, Cond.selects RX7 yX7_beginOf yX7_beginOf, Cond.code yX7_beginOf cX7_beginOf 9 (some .int), Cond.fieldLink RX7 37 "EndedByOthersModel" "parts" "[I"]
def wsX7_about : List Cond := .code yX7_about cX7_about 3 (some .int) :: ((wsX7_about_r1 ++ (wsX7_about_r2 ++ wsX7_about_r3)) ++ wsX70)
def wsX7_as : List Cond := .code yX7_as cX7_as 5 (some .int) :: ([.constantLong RX7 164 (4), .fieldLink RX7 22 "EndedByOthersModel" "rows" "[I", .methodLink RX7 158 yX7_isSpeaker, .instanceMethod yX7_isSpeaker, .selects RX7 yX7_isSpeaker yX7_isSpeaker, .initialized RX7, .code yX7_isSpeaker cX7_isSpeaker 2 (some .boolean), .fieldLink RX7 101 "EndedByOthersModel" "speakers" "I", .methodLink RX7 58 yX7_in, .static yX7_in, .code yX7_in cX7_in 6 (some .boolean)] ++ wsX70)
def wsX7_want : List Cond := .code yX7_want cX7_want 4 (some .int) :: ([.constantLong RX7 74 (5), .fieldLink RX7 22 "EndedByOthersModel" "rows" "[I", .fieldLink RX7 108 "EndedByOthersModel" "wants" "I", .methodLink RX7 158 yX7_isSpeaker, .instanceMethod yX7_isSpeaker, .selects RX7 yX7_isSpeaker yX7_isSpeaker, .initialized RX7, .code yX7_isSpeaker cX7_isSpeaker 2 (some .boolean), .fieldLink RX7 101 "EndedByOthersModel" "speakers" "I", .methodLink RX7 58 yX7_in, .static yX7_in, .code yX7_in cX7_in 6 (some .boolean)] ++ wsX70)
def wsX7_would_r1 : List Cond := [Cond.methodLink RX7 158 yX7_isSpeaker, Cond.instanceMethod yX7_isSpeaker, Cond.selects RX7 yX7_isSpeaker yX7_isSpeaker, Cond.initialized RX7, Cond.code yX7_isSpeaker cX7_isSpeaker 2 (some .boolean), Cond.fieldLink RX7 101 "EndedByOthersModel" "speakers" "I", Cond.methodLink RX7 58 yX7_in, Cond.static yX7_in, Cond.code yX7_in cX7_in 6 (some .boolean), Cond.methodLink RX7 126 yX7_isOpening, Cond.instanceMethod yX7_isOpening, Cond.selects RX7 yX7_isOpening yX7_isOpening, Cond.code yX7_isOpening cX7_isOpening 2 (some .boolean), Cond.constantLong RX7 124 (3), Cond.methodLink RX7 120 yX7_lacks, Cond.instanceMethod yX7_lacks, Cond.selects RX7 yX7_lacks yX7_lacks, Cond.code yX7_lacks cX7_lacks 1 (some .boolean), Cond.methodLink RX7 139 yX7_wouldOf, Cond.instanceMethod yX7_wouldOf, Cond.selects RX7 yX7_wouldOf yX7_wouldOf, Cond.code yX7_wouldOf cX7_wouldOf 3 (some .int), Cond.fieldLink RX7 22 "EndedByOthersModel" "rows" "[I", Cond.methodLink RX7 135 yX7_endsBy]
def wsX7_would_r2 : List Cond := [Cond.instanceMethod yX7_endsBy, Cond.selects RX7 yX7_endsBy yX7_endsBy, Cond.code yX7_endsBy cX7_endsBy 8 (some .int), Cond.fieldLink RX7 19 "EndedByOthersModel" "fitting" "[I", Cond.methodLink RX7 129 yX7_greatestOf, Cond.static yX7_greatestOf, Cond.code yX7_greatestOf cX7_greatestOf 3 (some .int), Cond.methodLink RX7 132 yX7_leastOf, Cond.static yX7_leastOf, Cond.code yX7_leastOf cX7_leastOf 3 (some .int)]
def wsX7_would : List Cond := .code yX7_would cX7_would 3 (some .int) :: ((wsX7_would_r1 ++ wsX7_would_r2) ++ wsX70)
def wsX7_isSentence : List Cond := .code yX7_isSentence cX7_isSentence 2 (some .boolean) :: ([.fieldLink RX7 111 "EndedByOthersModel" "sentences" "I", .methodLink RX7 58 yX7_in, .static yX7_in, .initialized RX7, .code yX7_in cX7_in 6 (some .boolean)] ++ wsX70)
def wsX7_begin : List Cond := .code yX7_begin cX7_begin 3 (some .int) :: ([.fieldLink RX7 111 "EndedByOthersModel" "sentences" "I", .fieldLink RX7 25 "EndedByOthersModel" "said" "[I", .methodLink RX7 158 yX7_isSpeaker, .instanceMethod yX7_isSpeaker, .selects RX7 yX7_isSpeaker yX7_isSpeaker, .initialized RX7, .code yX7_isSpeaker cX7_isSpeaker 2 (some .boolean), .fieldLink RX7 101 "EndedByOthersModel" "speakers" "I", .methodLink RX7 58 yX7_in, .static yX7_in, .code yX7_in cX7_in 6 (some .boolean), .methodLink RX7 126 yX7_isOpening, .instanceMethod yX7_isOpening, .selects RX7 yX7_isOpening yX7_isOpening, .code yX7_isOpening cX7_isOpening 2 (some .boolean), .constantLong RX7 124 (3), .methodLink RX7 120 yX7_lacks, .instanceMethod yX7_lacks, .selects RX7 yX7_lacks yX7_lacks, .code yX7_lacks cX7_lacks 1 (some .boolean), .methodLink RX7 143 yX7_openOf, .instanceMethod yX7_openOf, .selects RX7 yX7_openOf yX7_openOf, .code yX7_openOf cX7_openOf 4 (some .int)] ++ wsX70)
def wsX7_end_r1 : List Cond := [Cond.fieldLink RX7 25 "EndedByOthersModel" "said" "[I", Cond.fieldLink RX7 22 "EndedByOthersModel" "rows" "[I", Cond.methodLink RX7 166 yX7_isSentence, Cond.instanceMethod yX7_isSentence, Cond.selects RX7 yX7_isSentence yX7_isSentence, Cond.initialized RX7, Cond.code yX7_isSentence cX7_isSentence 2 (some .boolean), Cond.fieldLink RX7 111 "EndedByOthersModel" "sentences" "I", Cond.methodLink RX7 58 yX7_in, Cond.static yX7_in, Cond.code yX7_in cX7_in 6 (some .boolean), Cond.methodLink RX7 158 yX7_isSpeaker, Cond.instanceMethod yX7_isSpeaker, Cond.selects RX7 yX7_isSpeaker yX7_isSpeaker, Cond.code yX7_isSpeaker cX7_isSpeaker 2 (some .boolean), Cond.fieldLink RX7 101 "EndedByOthersModel" "speakers" "I", Cond.methodLink RX7 139 yX7_wouldOf, Cond.instanceMethod yX7_wouldOf, Cond.selects RX7 yX7_wouldOf yX7_wouldOf, Cond.code yX7_wouldOf cX7_wouldOf 3 (some .int), Cond.methodLink RX7 135 yX7_endsBy, Cond.instanceMethod yX7_endsBy, Cond.selects RX7 yX7_endsBy yX7_endsBy, Cond.code yX7_endsBy cX7_endsBy 8 (some .int)]
def wsX7_end_r2 : List Cond := [Cond.fieldLink RX7 19 "EndedByOthersModel" "fitting" "[I", Cond.methodLink RX7 129 yX7_greatestOf, Cond.static yX7_greatestOf, Cond.code yX7_greatestOf cX7_greatestOf 3 (some .int), Cond.methodLink RX7 132 yX7_leastOf, Cond.static yX7_leastOf, Cond.code yX7_leastOf cX7_leastOf 3 (some .int)]
def wsX7_end : List Cond := .code yX7_end cX7_end 4 (some .int) :: ((wsX7_end_r1 ++ wsX7_end_r2) ++ wsX70)
def wsX7_isWanted : List Cond := .code yX7_isWanted cX7_isWanted 2 (some .boolean) :: ([.fieldLink RX7 25 "EndedByOthersModel" "said" "[I", .fieldLink RX7 22 "EndedByOthersModel" "rows" "[I"] ++ wsX70)
def wsX7_tellSentence : List Cond := .code yX7_tellSentence cX7_tellSentence 3 (some .int) :: ([.constantLong RX7 124 (3), .fieldLink RX7 25 "EndedByOthersModel" "said" "[I", .methodLink RX7 58 yX7_in, .static yX7_in, .initialized RX7, .code yX7_in cX7_in 6 (some .boolean), .methodLink RX7 169 yX7_isWanted, .instanceMethod yX7_isWanted, .selects RX7 yX7_isWanted yX7_isWanted, .code yX7_isWanted cX7_isWanted 2 (some .boolean), .fieldLink RX7 22 "EndedByOthersModel" "rows" "[I"] ++ wsX70)
def wsX7_sentence : List Cond := .code yX7_sentence cX7_sentence 3 (some .int) :: ([.methodLink RX7 166 yX7_isSentence, .instanceMethod yX7_isSentence, .selects RX7 yX7_isSentence yX7_isSentence, .initialized RX7, .code yX7_isSentence cX7_isSentence 2 (some .boolean), .fieldLink RX7 111 "EndedByOthersModel" "sentences" "I", .methodLink RX7 58 yX7_in, .static yX7_in, .code yX7_in cX7_in 6 (some .boolean), .methodLink RX7 172 yX7_tellSentence, .instanceMethod yX7_tellSentence, .selects RX7 yX7_tellSentence yX7_tellSentence, .code yX7_tellSentence cX7_tellSentence 3 (some .int), .constantLong RX7 124 (3), .fieldLink RX7 25 "EndedByOthersModel" "said" "[I", .methodLink RX7 169 yX7_isWanted, .instanceMethod yX7_isWanted, .selects RX7 yX7_isWanted yX7_isWanted, .code yX7_isWanted cX7_isWanted 2 (some .boolean), .fieldLink RX7 22 "EndedByOthersModel" "rows" "[I"] ++ wsX70)
def wsX7_endsAsWanted : List Cond := .code yX7_endsAsWanted cX7_endsAsWanted 4 (some .boolean) :: ([.fieldLink RX7 25 "EndedByOthersModel" "said" "[I", .fieldLink RX7 22 "EndedByOthersModel" "rows" "[I", .methodLink RX7 139 yX7_wouldOf, .instanceMethod yX7_wouldOf, .selects RX7 yX7_wouldOf yX7_wouldOf, .initialized RX7, .code yX7_wouldOf cX7_wouldOf 3 (some .int), .methodLink RX7 135 yX7_endsBy, .instanceMethod yX7_endsBy, .selects RX7 yX7_endsBy yX7_endsBy, .code yX7_endsBy cX7_endsBy 8 (some .int), .fieldLink RX7 19 "EndedByOthersModel" "fitting" "[I", .methodLink RX7 129 yX7_greatestOf, .static yX7_greatestOf, .code yX7_greatestOf cX7_greatestOf 3 (some .int), .methodLink RX7 132 yX7_leastOf, .static yX7_leastOf, .code yX7_leastOf cX7_leastOf 3 (some .int)] ++ wsX70)
def wsX7_layRow_r1 : List Cond := [Cond.fieldLink RX7 101 "EndedByOthersModel" "speakers" "I", Cond.fieldLink RX7 28 "EndedByOthersModel" "row" "[I", Cond.fieldLink RX7 111 "EndedByOthersModel" "sentences" "I", Cond.methodLink RX7 175 yX7_endsAsWanted, Cond.instanceMethod yX7_endsAsWanted, Cond.selects RX7 yX7_endsAsWanted yX7_endsAsWanted, Cond.initialized RX7, Cond.code yX7_endsAsWanted cX7_endsAsWanted 4 (some .boolean), Cond.fieldLink RX7 25 "EndedByOthersModel" "said" "[I", Cond.fieldLink RX7 22 "EndedByOthersModel" "rows" "[I", Cond.methodLink RX7 139 yX7_wouldOf, Cond.instanceMethod yX7_wouldOf, Cond.selects RX7 yX7_wouldOf yX7_wouldOf, Cond.code yX7_wouldOf cX7_wouldOf 3 (some .int), Cond.methodLink RX7 135 yX7_endsBy, Cond.instanceMethod yX7_endsBy, Cond.selects RX7 yX7_endsBy yX7_endsBy, Cond.code yX7_endsBy cX7_endsBy 8 (some .int), Cond.fieldLink RX7 19 "EndedByOthersModel" "fitting" "[I", Cond.methodLink RX7 129 yX7_greatestOf, Cond.static yX7_greatestOf, Cond.code yX7_greatestOf cX7_greatestOf 3 (some .int), Cond.methodLink RX7 132 yX7_leastOf, Cond.static yX7_leastOf]
def wsX7_layRow_r2 : List Cond := [Cond.code yX7_leastOf cX7_leastOf 3 (some .int)]
def wsX7_layRow : List Cond := .code yX7_layRow cX7_layRow 6 (some .boolean) :: ((wsX7_layRow_r1 ++ wsX7_layRow_r2) ++ wsX70)
def wsX7_matchOf_r1 : List Cond := [Cond.fieldLink RX7 101 "EndedByOthersModel" "speakers" "I", Cond.fieldLink RX7 111 "EndedByOthersModel" "sentences" "I", Cond.fieldLink RX7 28 "EndedByOthersModel" "row" "[I", Cond.fieldLink RX7 31 "EndedByOthersModel" "bestRow" "[I", Cond.methodLink RX7 179 yX7_layRow, Cond.instanceMethod yX7_layRow, Cond.selects RX7 yX7_layRow yX7_layRow, Cond.initialized RX7, Cond.code yX7_layRow cX7_layRow 6 (some .boolean), Cond.methodLink RX7 175 yX7_endsAsWanted, Cond.instanceMethod yX7_endsAsWanted, Cond.selects RX7 yX7_endsAsWanted yX7_endsAsWanted, Cond.code yX7_endsAsWanted cX7_endsAsWanted 4 (some .boolean), Cond.fieldLink RX7 25 "EndedByOthersModel" "said" "[I", Cond.fieldLink RX7 22 "EndedByOthersModel" "rows" "[I", Cond.methodLink RX7 139 yX7_wouldOf, Cond.instanceMethod yX7_wouldOf, Cond.selects RX7 yX7_wouldOf yX7_wouldOf, Cond.code yX7_wouldOf cX7_wouldOf 3 (some .int), Cond.methodLink RX7 135 yX7_endsBy, Cond.instanceMethod yX7_endsBy, Cond.selects RX7 yX7_endsBy yX7_endsBy, Cond.code yX7_endsBy cX7_endsBy 8 (some .int), Cond.fieldLink RX7 19 "EndedByOthersModel" "fitting" "[I"]
def wsX7_matchOf_r2 : List Cond := [Cond.methodLink RX7 129 yX7_greatestOf, Cond.static yX7_greatestOf, Cond.code yX7_greatestOf cX7_greatestOf 3 (some .int), Cond.methodLink RX7 132 yX7_leastOf, Cond.static yX7_leastOf, Cond.code yX7_leastOf cX7_leastOf 3 (some .int), Cond.methodLink RX7 104 yX7_copy, Cond.static yX7_copy, Cond.code yX7_copy cX7_copy 3 none]
def wsX7_matchOf : List Cond := .code yX7_matchOf cX7_matchOf 7 (some .int) :: ((wsX7_matchOf_r1 ++ wsX7_matchOf_r2) ++ wsX70)
def wsX7_match_r1 : List Cond := [Cond.constantLong RX7 182 (10), Cond.constantLong RX7 184 (13), Cond.methodLink RX7 58 yX7_in, Cond.static yX7_in, Cond.initialized RX7, Cond.code yX7_in cX7_in 6 (some .boolean), Cond.methodLink RX7 120 yX7_lacks, Cond.instanceMethod yX7_lacks, Cond.selects RX7 yX7_lacks yX7_lacks, Cond.code yX7_lacks cX7_lacks 1 (some .boolean), Cond.fieldLink RX7 101 "EndedByOthersModel" "speakers" "I", Cond.methodLink RX7 186 yX7_matchOf, Cond.instanceMethod yX7_matchOf, Cond.selects RX7 yX7_matchOf yX7_matchOf, Cond.code yX7_matchOf cX7_matchOf 7 (some .int), Cond.fieldLink RX7 111 "EndedByOthersModel" "sentences" "I", Cond.fieldLink RX7 28 "EndedByOthersModel" "row" "[I", Cond.fieldLink RX7 31 "EndedByOthersModel" "bestRow" "[I", Cond.methodLink RX7 179 yX7_layRow, Cond.instanceMethod yX7_layRow, Cond.selects RX7 yX7_layRow yX7_layRow, Cond.code yX7_layRow cX7_layRow 6 (some .boolean), Cond.methodLink RX7 175 yX7_endsAsWanted, Cond.instanceMethod yX7_endsAsWanted]
def wsX7_match_r2 : List Cond := [Cond.selects RX7 yX7_endsAsWanted yX7_endsAsWanted, Cond.code yX7_endsAsWanted cX7_endsAsWanted 4 (some .boolean), Cond.fieldLink RX7 25 "EndedByOthersModel" "said" "[I", Cond.fieldLink RX7 22 "EndedByOthersModel" "rows" "[I", Cond.methodLink RX7 139 yX7_wouldOf, Cond.instanceMethod yX7_wouldOf, Cond.selects RX7 yX7_wouldOf yX7_wouldOf, Cond.code yX7_wouldOf cX7_wouldOf 3 (some .int), Cond.methodLink RX7 135 yX7_endsBy, Cond.instanceMethod yX7_endsBy, Cond.selects RX7 yX7_endsBy yX7_endsBy, Cond.code yX7_endsBy cX7_endsBy 8 (some .int), Cond.fieldLink RX7 19 "EndedByOthersModel" "fitting" "[I", Cond.methodLink RX7 129 yX7_greatestOf, Cond.static yX7_greatestOf, Cond.code yX7_greatestOf cX7_greatestOf 3 (some .int), Cond.methodLink RX7 132 yX7_leastOf, Cond.static yX7_leastOf, Cond.code yX7_leastOf cX7_leastOf 3 (some .int), Cond.methodLink RX7 104 yX7_copy, Cond.static yX7_copy, Cond.code yX7_copy cX7_copy 3 none]
def wsX7_match : List Cond := .code yX7_match cX7_match 2 (some .int) :: ((wsX7_match_r1 ++ wsX7_match_r2) ++ wsX70)
def wsX7_hear : List Cond := .code yX7_hear cX7_hear 4 (some .int) :: ([.constantLong RX7 189 (-1), .constantLong RX7 74 (5), .fieldLink RX7 114 "EndedByOthersModel" "heardMany" "I", .fieldLink RX7 34 "EndedByOthersModel" "heards" "[I", .methodLink RX7 158 yX7_isSpeaker, .instanceMethod yX7_isSpeaker, .selects RX7 yX7_isSpeaker yX7_isSpeaker, .initialized RX7, .code yX7_isSpeaker cX7_isSpeaker 2 (some .boolean), .fieldLink RX7 101 "EndedByOthersModel" "speakers" "I", .methodLink RX7 58 yX7_in, .static yX7_in, .code yX7_in cX7_in 6 (some .boolean), .methodLink RX7 126 yX7_isOpening, .instanceMethod yX7_isOpening, .selects RX7 yX7_isOpening yX7_isOpening, .code yX7_isOpening cX7_isOpening 2 (some .boolean), .constantLong RX7 124 (3), .methodLink RX7 120 yX7_lacks, .instanceMethod yX7_lacks, .selects RX7 yX7_lacks yX7_lacks, .code yX7_lacks cX7_lacks 1 (some .boolean)] ++ wsX70)
def wsX7_forget : List Cond := .code yX7_forget cX7_forget 2 (some .int) :: ([.fieldLink RX7 114 "EndedByOthersModel" "heardMany" "I"] ++ wsX70)
def wsX7_draw : List Cond := .code yX7_draw cX7_draw 2 (some .int) :: ([.constantLong RX7 191 (1103515245), .fieldLink RX7 193 "EndedByOthersModel" "seedNow" "I", .constantLong RX7 196 (12345), .constantLong RX7 198 (2147483647), .constant RX7 200 (65536)] ++ wsX70)
def wsX7_talks_r1 : List Cond := [Cond.constantLong RX7 201 (60), Cond.constantLong RX7 203 (2), Cond.fieldLink RX7 22 "EndedByOthersModel" "rows" "[I", Cond.fieldLink RX7 40 "EndedByOthersModel" "savedRows" "[I", Cond.fieldLink RX7 193 "EndedByOthersModel" "seedNow" "I", Cond.fieldLink RX7 101 "EndedByOthersModel" "speakers" "I", Cond.methodLink RX7 58 yX7_in, Cond.static yX7_in, Cond.initialized RX7, Cond.code yX7_in cX7_in 6 (some .boolean), Cond.methodLink RX7 120 yX7_lacks, Cond.instanceMethod yX7_lacks, Cond.selects RX7 yX7_lacks yX7_lacks, Cond.code yX7_lacks cX7_lacks 1 (some .boolean), Cond.methodLink RX7 104 yX7_copy, Cond.static yX7_copy, Cond.code yX7_copy cX7_copy 3 none, Cond.methodLink RX7 205 yX7_draw, Cond.instanceMethod yX7_draw, Cond.selects RX7 yX7_draw yX7_draw, Cond.code yX7_draw cX7_draw 2 (some .int), Cond.constantLong RX7 191 (1103515245), Cond.constantLong RX7 196 (12345), Cond.constantLong RX7 198 (2147483647)]
def wsX7_talks_r2 : List Cond := [Cond.constant RX7 200 (65536), Cond.methodLink RX7 139 yX7_wouldOf, Cond.instanceMethod yX7_wouldOf, Cond.selects RX7 yX7_wouldOf yX7_wouldOf, Cond.code yX7_wouldOf cX7_wouldOf 3 (some .int), Cond.methodLink RX7 135 yX7_endsBy, Cond.instanceMethod yX7_endsBy, Cond.selects RX7 yX7_endsBy yX7_endsBy, Cond.code yX7_endsBy cX7_endsBy 8 (some .int), Cond.fieldLink RX7 19 "EndedByOthersModel" "fitting" "[I", Cond.methodLink RX7 129 yX7_greatestOf, Cond.static yX7_greatestOf, Cond.code yX7_greatestOf cX7_greatestOf 3 (some .int), Cond.methodLink RX7 132 yX7_leastOf, Cond.static yX7_leastOf, Cond.code yX7_leastOf cX7_leastOf 3 (some .int)]
def wsX7_talks : List Cond := .code yX7_talks cX7_talks 11 (some .int) :: ((wsX7_talks_r1 ++ wsX7_talks_r2) ++ wsX70)
def wsX7_image : List Cond := .code yX7_image cX7_image 1 (some .int) :: ([.fieldLink RX7 22 "EndedByOthersModel" "rows" "[I", .fieldLink RX7 43 "EndedByOthersModel" "keptRows" "[I", .fieldLink RX7 25 "EndedByOthersModel" "said" "[I", .fieldLink RX7 46 "EndedByOthersModel" "keptSaid" "[I", .fieldLink RX7 34 "EndedByOthersModel" "heards" "[I", .fieldLink RX7 49 "EndedByOthersModel" "keptHeards" "[I", .fieldLink RX7 111 "EndedByOthersModel" "sentences" "I", .fieldLink RX7 208 "EndedByOthersModel" "keptSentences" "I", .fieldLink RX7 108 "EndedByOthersModel" "wants" "I", .fieldLink RX7 211 "EndedByOthersModel" "keptWants" "I", .fieldLink RX7 114 "EndedByOthersModel" "heardMany" "I", .fieldLink RX7 214 "EndedByOthersModel" "keptHeard" "I", .fieldLink RX7 117 "EndedByOthersModel" "roomsRead" "I", .fieldLink RX7 52 "EndedByOthersModel" "keptRoom" "I", .methodLink RX7 120 yX7_lacks, .instanceMethod yX7_lacks, .selects RX7 yX7_lacks yX7_lacks, .initialized RX7, .code yX7_lacks cX7_lacks 1 (some .boolean), .fieldLink RX7 101 "EndedByOthersModel" "speakers" "I", .methodLink RX7 104 yX7_copy, .static yX7_copy, .code yX7_copy cX7_copy 3 none] ++ wsX70)
def wsX7_restore : List Cond := .code yX7_restore cX7_restore 1 (some .int) :: ([.fieldLink RX7 52 "EndedByOthersModel" "keptRoom" "I", .fieldLink RX7 117 "EndedByOthersModel" "roomsRead" "I", .fieldLink RX7 43 "EndedByOthersModel" "keptRows" "[I", .fieldLink RX7 22 "EndedByOthersModel" "rows" "[I", .fieldLink RX7 46 "EndedByOthersModel" "keptSaid" "[I", .fieldLink RX7 25 "EndedByOthersModel" "said" "[I", .fieldLink RX7 49 "EndedByOthersModel" "keptHeards" "[I", .fieldLink RX7 34 "EndedByOthersModel" "heards" "[I", .fieldLink RX7 208 "EndedByOthersModel" "keptSentences" "I", .fieldLink RX7 111 "EndedByOthersModel" "sentences" "I", .fieldLink RX7 211 "EndedByOthersModel" "keptWants" "I", .fieldLink RX7 108 "EndedByOthersModel" "wants" "I", .fieldLink RX7 214 "EndedByOthersModel" "keptHeard" "I", .fieldLink RX7 114 "EndedByOthersModel" "heardMany" "I", .methodLink RX7 104 yX7_copy, .static yX7_copy, .initialized RX7, .code yX7_copy cX7_copy 3 none] ++ wsX70)
def wsX7_wantedMany : List Cond := .code yX7_wantedMany cX7_wantedMany 3 (some .int) :: ([.fieldLink RX7 111 "EndedByOthersModel" "sentences" "I", .methodLink RX7 169 yX7_isWanted, .instanceMethod yX7_isWanted, .selects RX7 yX7_isWanted yX7_isWanted, .initialized RX7, .code yX7_isWanted cX7_isWanted 2 (some .boolean), .fieldLink RX7 25 "EndedByOthersModel" "said" "[I", .fieldLink RX7 22 "EndedByOthersModel" "rows" "[I"] ++ wsX70)
def wsX7_unlike : List Cond := .code yX7_unlike cX7_unlike 3 (some .int) :: ([.fieldLink RX7 111 "EndedByOthersModel" "sentences" "I", .fieldLink RX7 25 "EndedByOthersModel" "said" "[I", .methodLink RX7 217 yX7_ones, .static yX7_ones, .initialized RX7, .code yX7_ones cX7_ones 3 (some .int)] ++ wsX70)
def wsX7_countOf_r1 : List Cond := [Cond.fieldLink RX7 101 "EndedByOthersModel" "speakers" "I", Cond.fieldLink RX7 111 "EndedByOthersModel" "sentences" "I", Cond.fieldLink RX7 108 "EndedByOthersModel" "wants" "I", Cond.fieldLink RX7 114 "EndedByOthersModel" "heardMany" "I", Cond.fieldLink RX7 62 "EndedByOthersModel" "pageMany" "I", Cond.fieldLink RX7 117 "EndedByOthersModel" "roomsRead" "I", Cond.methodLink RX7 146 yX7_saidBy, Cond.instanceMethod yX7_saidBy, Cond.selects RX7 yX7_saidBy yX7_saidBy, Cond.initialized RX7, Cond.code yX7_saidBy cX7_saidBy 5 (some .int), Cond.fieldLink RX7 25 "EndedByOthersModel" "said" "[I", Cond.methodLink RX7 220 yX7_wantedMany, Cond.instanceMethod yX7_wantedMany, Cond.selects RX7 yX7_wantedMany yX7_wantedMany, Cond.code yX7_wantedMany cX7_wantedMany 3 (some .int), Cond.methodLink RX7 169 yX7_isWanted, Cond.instanceMethod yX7_isWanted, Cond.selects RX7 yX7_isWanted yX7_isWanted, Cond.code yX7_isWanted cX7_isWanted 2 (some .boolean), Cond.fieldLink RX7 22 "EndedByOthersModel" "rows" "[I", Cond.methodLink RX7 223 yX7_unlike, Cond.instanceMethod yX7_unlike, Cond.selects RX7 yX7_unlike yX7_unlike]
def wsX7_countOf_r2 : List Cond := [Cond.code yX7_unlike cX7_unlike 3 (some .int), Cond.methodLink RX7 217 yX7_ones, Cond.static yX7_ones, Cond.code yX7_ones cX7_ones 3 (some .int)]
def wsX7_countOf : List Cond := .code yX7_countOf cX7_countOf 2 (some .int) :: ((wsX7_countOf_r1 ++ wsX7_countOf_r2) ++ wsX70)
def wsX7_count_r1 : List Cond := [Cond.methodLink RX7 226 yX7_countOf, Cond.instanceMethod yX7_countOf, Cond.selects RX7 yX7_countOf yX7_countOf, Cond.initialized RX7, Cond.code yX7_countOf cX7_countOf 2 (some .int), Cond.fieldLink RX7 101 "EndedByOthersModel" "speakers" "I", Cond.fieldLink RX7 111 "EndedByOthersModel" "sentences" "I", Cond.fieldLink RX7 108 "EndedByOthersModel" "wants" "I", Cond.fieldLink RX7 114 "EndedByOthersModel" "heardMany" "I", Cond.fieldLink RX7 62 "EndedByOthersModel" "pageMany" "I", Cond.fieldLink RX7 117 "EndedByOthersModel" "roomsRead" "I", Cond.methodLink RX7 146 yX7_saidBy, Cond.instanceMethod yX7_saidBy, Cond.selects RX7 yX7_saidBy yX7_saidBy, Cond.code yX7_saidBy cX7_saidBy 5 (some .int), Cond.fieldLink RX7 25 "EndedByOthersModel" "said" "[I", Cond.methodLink RX7 220 yX7_wantedMany, Cond.instanceMethod yX7_wantedMany, Cond.selects RX7 yX7_wantedMany yX7_wantedMany, Cond.code yX7_wantedMany cX7_wantedMany 3 (some .int), Cond.methodLink RX7 169 yX7_isWanted, Cond.instanceMethod yX7_isWanted, Cond.selects RX7 yX7_isWanted yX7_isWanted, Cond.code yX7_isWanted cX7_isWanted 2 (some .boolean)]
def wsX7_count_r2 : List Cond := [Cond.fieldLink RX7 22 "EndedByOthersModel" "rows" "[I", Cond.methodLink RX7 223 yX7_unlike, Cond.instanceMethod yX7_unlike, Cond.selects RX7 yX7_unlike yX7_unlike, Cond.code yX7_unlike cX7_unlike 3 (some .int), Cond.methodLink RX7 217 yX7_ones, Cond.static yX7_ones, Cond.code yX7_ones cX7_ones 3 (some .int)]
def wsX7_count : List Cond := .code yX7_count cX7_count 2 (some .int) :: ((wsX7_count_r1 ++ wsX7_count_r2) ++ wsX70)
def wsX7_say : List Cond := .code yX7_say cX7_say 3 none :: ([.constantLong RX7 229 (31), .fieldLink RX7 231 "EndedByOthersModel" "hash" "J"] ++ wsX70)
def wsX7_saySpeaker_r1 : List Cond := [Cond.methodLink RX7 161 yX7_tell, Cond.instanceMethod yX7_tell, Cond.selects RX7 yX7_tell yX7_tell, Cond.initialized RX7, Cond.code yX7_tell cX7_tell 3 (some .int), Cond.fieldLink RX7 22 "EndedByOthersModel" "rows" "[I", Cond.methodLink RX7 143 yX7_openOf, Cond.instanceMethod yX7_openOf, Cond.selects RX7 yX7_openOf yX7_openOf, Cond.code yX7_openOf cX7_openOf 4 (some .int), Cond.fieldLink RX7 111 "EndedByOthersModel" "sentences" "I", Cond.fieldLink RX7 25 "EndedByOthersModel" "said" "[I", Cond.methodLink RX7 146 yX7_saidBy, Cond.instanceMethod yX7_saidBy, Cond.selects RX7 yX7_saidBy yX7_saidBy, Cond.code yX7_saidBy cX7_saidBy 5 (some .int), Cond.methodLink RX7 149 yX7_sureOf, Cond.instanceMethod yX7_sureOf, Cond.selects RX7 yX7_sureOf yX7_sureOf, Cond.code yX7_sureOf cX7_sureOf 8 (some .int), Cond.fieldLink RX7 101 "EndedByOthersModel" "speakers" "I", Cond.methodLink RX7 139 yX7_wouldOf, Cond.instanceMethod yX7_wouldOf, Cond.selects RX7 yX7_wouldOf yX7_wouldOf]
def wsX7_saySpeaker_r2 : List Cond := [Cond.code yX7_wouldOf cX7_wouldOf 3 (some .int), Cond.methodLink RX7 135 yX7_endsBy, Cond.instanceMethod yX7_endsBy, Cond.selects RX7 yX7_endsBy yX7_endsBy, Cond.code yX7_endsBy cX7_endsBy 8 (some .int), Cond.fieldLink RX7 19 "EndedByOthersModel" "fitting" "[I", Cond.methodLink RX7 129 yX7_greatestOf, Cond.static yX7_greatestOf, Cond.code yX7_greatestOf cX7_greatestOf 3 (some .int), Cond.methodLink RX7 132 yX7_leastOf, Cond.static yX7_leastOf, Cond.code yX7_leastOf cX7_leastOf 3 (some .int), Cond.methodLink RX7 152 yX7_whichOf, Cond.instanceMethod yX7_whichOf, Cond.selects RX7 yX7_whichOf yX7_whichOf, Cond.code yX7_whichOf cX7_whichOf 7 (some .int), Cond.fieldLink RX7 114 "EndedByOthersModel" "heardMany" "I", Cond.fieldLink RX7 34 "EndedByOthersModel" "heards" "[I", Cond.methodLink RX7 155 yX7_beginOf, Cond.instanceMethod yX7_beginOf, Cond.selects RX7 yX7_beginOf yX7_beginOf, Cond.code yX7_beginOf cX7_beginOf 9 (some .int), Cond.fieldLink RX7 37 "EndedByOthersModel" "parts" "[I", Cond.methodLink RX7 235 yX7_say]
def wsX7_saySpeaker_r3 : List Cond := [Cond.instanceMethod yX7_say, Cond.selects RX7 yX7_say yX7_say, Cond.code yX7_say cX7_say 3 none, Cond.constantLong RX7 229 (31), Cond.fieldLink RX7 231 "EndedByOthersModel" "hash" "J"]
def wsX7_saySpeaker : List Cond := .code yX7_saySpeaker cX7_saySpeaker 3 none :: ((wsX7_saySpeaker_r1 ++ (wsX7_saySpeaker_r2 ++ wsX7_saySpeaker_r3)) ++ wsX70)
def wsX7_digest_r1 : List Cond := [Cond.constantLong RX7 239 (1021), Cond.fieldLink RX7 231 "EndedByOthersModel" "hash" "J", Cond.fieldLink RX7 19 "EndedByOthersModel" "fitting" "[I", Cond.fieldLink RX7 101 "EndedByOthersModel" "speakers" "I", Cond.fieldLink RX7 111 "EndedByOthersModel" "sentences" "I", Cond.fieldLink RX7 62 "EndedByOthersModel" "pageMany" "I", Cond.fieldLink RX7 7 "EndedByOthersModel" "page" "[I", Cond.methodLink RX7 120 yX7_lacks, Cond.instanceMethod yX7_lacks, Cond.selects RX7 yX7_lacks yX7_lacks, Cond.initialized RX7, Cond.code yX7_lacks cX7_lacks 1 (some .boolean), Cond.methodLink RX7 235 yX7_say, Cond.instanceMethod yX7_say, Cond.selects RX7 yX7_say yX7_say, Cond.code yX7_say cX7_say 3 none, Cond.constantLong RX7 229 (31), Cond.methodLink RX7 241 yX7_saySpeaker, Cond.instanceMethod yX7_saySpeaker, Cond.selects RX7 yX7_saySpeaker yX7_saySpeaker, Cond.code yX7_saySpeaker cX7_saySpeaker 3 none, Cond.methodLink RX7 161 yX7_tell, Cond.instanceMethod yX7_tell, Cond.selects RX7 yX7_tell yX7_tell]
def wsX7_digest_r2 : List Cond := [Cond.code yX7_tell cX7_tell 3 (some .int), Cond.fieldLink RX7 22 "EndedByOthersModel" "rows" "[I", Cond.methodLink RX7 143 yX7_openOf, Cond.instanceMethod yX7_openOf, Cond.selects RX7 yX7_openOf yX7_openOf, Cond.code yX7_openOf cX7_openOf 4 (some .int), Cond.fieldLink RX7 25 "EndedByOthersModel" "said" "[I", Cond.methodLink RX7 146 yX7_saidBy, Cond.instanceMethod yX7_saidBy, Cond.selects RX7 yX7_saidBy yX7_saidBy, Cond.code yX7_saidBy cX7_saidBy 5 (some .int), Cond.methodLink RX7 149 yX7_sureOf, Cond.instanceMethod yX7_sureOf, Cond.selects RX7 yX7_sureOf yX7_sureOf, Cond.code yX7_sureOf cX7_sureOf 8 (some .int), Cond.methodLink RX7 139 yX7_wouldOf, Cond.instanceMethod yX7_wouldOf, Cond.selects RX7 yX7_wouldOf yX7_wouldOf, Cond.code yX7_wouldOf cX7_wouldOf 3 (some .int), Cond.methodLink RX7 135 yX7_endsBy, Cond.instanceMethod yX7_endsBy, Cond.selects RX7 yX7_endsBy yX7_endsBy, Cond.code yX7_endsBy cX7_endsBy 8 (some .int), Cond.methodLink RX7 129 yX7_greatestOf]
def wsX7_digest_r3 : List Cond := [Cond.static yX7_greatestOf, Cond.code yX7_greatestOf cX7_greatestOf 3 (some .int), Cond.methodLink RX7 132 yX7_leastOf, Cond.static yX7_leastOf, Cond.code yX7_leastOf cX7_leastOf 3 (some .int), Cond.methodLink RX7 152 yX7_whichOf, Cond.instanceMethod yX7_whichOf, Cond.selects RX7 yX7_whichOf yX7_whichOf, Cond.code yX7_whichOf cX7_whichOf 7 (some .int), Cond.fieldLink RX7 114 "EndedByOthersModel" "heardMany" "I", Cond.fieldLink RX7 34 "EndedByOthersModel" "heards" "[I", Cond.methodLink RX7 155 yX7_beginOf, Cond.instanceMethod yX7_beginOf, Cond.selects RX7 yX7_beginOf yX7_beginOf, Cond.code yX7_beginOf cX7_beginOf 9 (some .int), Cond.fieldLink RX7 37 "EndedByOthersModel" "parts" "[I", Cond.methodLink RX7 172 yX7_tellSentence, Cond.instanceMethod yX7_tellSentence, Cond.selects RX7 yX7_tellSentence yX7_tellSentence, Cond.code yX7_tellSentence cX7_tellSentence 3 (some .int), Cond.constantLong RX7 124 (3), Cond.methodLink RX7 58 yX7_in, Cond.static yX7_in, Cond.code yX7_in cX7_in 6 (some .boolean)]
def wsX7_digest_r4 : List Cond := [Cond.methodLink RX7 169 yX7_isWanted, Cond.instanceMethod yX7_isWanted, Cond.selects RX7 yX7_isWanted yX7_isWanted, Cond.code yX7_isWanted cX7_isWanted 2 (some .boolean), Cond.methodLink RX7 186 yX7_matchOf, Cond.instanceMethod yX7_matchOf, Cond.selects RX7 yX7_matchOf yX7_matchOf, Cond.code yX7_matchOf cX7_matchOf 7 (some .int), Cond.fieldLink RX7 28 "EndedByOthersModel" "row" "[I", Cond.fieldLink RX7 31 "EndedByOthersModel" "bestRow" "[I", Cond.methodLink RX7 179 yX7_layRow, Cond.instanceMethod yX7_layRow, Cond.selects RX7 yX7_layRow yX7_layRow, Cond.code yX7_layRow cX7_layRow 6 (some .boolean), Cond.methodLink RX7 175 yX7_endsAsWanted, Cond.instanceMethod yX7_endsAsWanted, Cond.selects RX7 yX7_endsAsWanted yX7_endsAsWanted, Cond.code yX7_endsAsWanted cX7_endsAsWanted 4 (some .boolean), Cond.methodLink RX7 104 yX7_copy, Cond.static yX7_copy, Cond.code yX7_copy cX7_copy 3 none, Cond.methodLink RX7 226 yX7_countOf, Cond.instanceMethod yX7_countOf, Cond.selects RX7 yX7_countOf yX7_countOf]
def wsX7_digest_r5 : List Cond := [Cond.code yX7_countOf cX7_countOf 2 (some .int), Cond.fieldLink RX7 108 "EndedByOthersModel" "wants" "I", Cond.fieldLink RX7 117 "EndedByOthersModel" "roomsRead" "I", Cond.methodLink RX7 220 yX7_wantedMany, Cond.instanceMethod yX7_wantedMany, Cond.selects RX7 yX7_wantedMany yX7_wantedMany, Cond.code yX7_wantedMany cX7_wantedMany 3 (some .int), Cond.methodLink RX7 223 yX7_unlike, Cond.instanceMethod yX7_unlike, Cond.selects RX7 yX7_unlike yX7_unlike, Cond.code yX7_unlike cX7_unlike 3 (some .int), Cond.methodLink RX7 217 yX7_ones, Cond.static yX7_ones, Cond.code yX7_ones cX7_ones 3 (some .int)]
def wsX7_digest : List Cond := .code yX7_digest cX7_digest 3 (some .long) :: ((wsX7_digest_r1 ++ (wsX7_digest_r2 ++ (wsX7_digest_r3 ++ (wsX7_digest_r4 ++ wsX7_digest_r5)))) ++ wsX70)
def wsJ9_max_7cf53 : List Cond := .code yJ9_max_7cf53 cJ9_max_7cf53 2 (some .int) :: ([])
def wsJ9_min_7cf53 : List Cond := .code yJ9_min_7cf53 cJ9_min_7cf53 2 (some .int) :: ([])
def wsL_law_r1 : List Cond := [Cond.classLink RL 7 RX6, Cond.instantiable RX6 9, Cond.initialized RX6, Cond.classLink RL 10 RX7, Cond.instantiable RX7 31, Cond.initialized RX7, Cond.methodLink RL 9 yX6_init, Cond.instanceMethod yX6_init, Cond.code yX6_init cX6_init 1 none, Cond.methodLink RX6 1 objectInit, Cond.instanceMethod objectInit, Cond.code objectInit ⟨#[0xb1]⟩ 1 none, Cond.classLink RX6 7 RX1, Cond.instantiable RX1 2, Cond.initialized RX1, Cond.fieldLink RX6 10 "EndedByOthers" "page" "LEndedByOthers$Page;", Cond.classLink RX6 16 RX2, Cond.instantiable RX2 4, Cond.initialized RX2, Cond.fieldLink RX6 19 "EndedByOthers" "reader" "LEndedByOthers$Reader;", Cond.classLink RX6 23 RX3, Cond.instantiable RX3 4, Cond.initialized RX3, Cond.fieldLink RX6 26 "EndedByOthers" "room" "LEndedByOthers$Room;"]
def wsL_law_r2 : List Cond := [Cond.classLink RX6 30 RX4, Cond.instantiable RX4 11, Cond.initialized RX4, Cond.fieldLink RX6 33 "EndedByOthers" "scene" "LEndedByOthers$Scene;", Cond.fieldLink RX6 37 "EndedByOthers" "image" "LEndedByOthers$Scene;", Cond.classLink RX6 40 RX0, Cond.instantiable RX0 3, Cond.initialized RX0, Cond.fieldLink RX6 43 "EndedByOthers" "matching" "LEndedByOthers$Matching;", Cond.classLink RX6 47 RX5, Cond.instantiable RX5 4, Cond.initialized RX5, Cond.fieldLink RX6 50 "EndedByOthers" "trial" "LEndedByOthers$Trial;", Cond.fieldLink RX6 54 "EndedByOthers" "imageKept" "Z", Cond.fieldLink RX6 58 "EndedByOthers" "roomsRead" "I", Cond.instanceMethod yX1_init, Cond.code yX1_init cX1_init 1 none, Cond.methodLink RX1 3 objectInit, Cond.arrayClass .int, Cond.fieldLink RX1 9 "EndedByOthers$Page" "codes" "[I", Cond.fieldLink RX1 15 "EndedByOthers$Page" "length" "I", Cond.instanceMethod yX2_init, Cond.code yX2_init cX2_init 1 none, Cond.methodLink RX2 3 objectInit]
def wsL_law_r3 : List Cond := [Cond.classLink RX2 9 RX3, Cond.fieldLink RX2 12 "EndedByOthers$Reader" "draft" "LEndedByOthers$Room;", Cond.fieldLink RX2 18 "EndedByOthers$Reader" "opening" "I", Cond.fieldLink RX2 22 "EndedByOthers$Reader" "lettersOfPart" "I", Cond.fieldLink RX2 25 "EndedByOthers$Reader" "lastCode" "I", Cond.instanceMethod yX3_init, Cond.code yX3_init cX3_init 1 none, Cond.methodLink RX3 3 objectInit, Cond.fieldLink RX3 9 "EndedByOthers$Room" "fitting" "[I", Cond.fieldLink RX3 15 "EndedByOthers$Room" "kinds" "[I", Cond.fieldLink RX3 18 "EndedByOthers$Room" "wants" "[I", Cond.fieldLink RX3 21 "EndedByOthers$Room" "speakers" "I", Cond.instanceMethod yX4_init, Cond.code yX4_init cX4_init 1 none, Cond.methodLink RX4 3 objectInit, Cond.fieldLink RX4 9 "EndedByOthers$Scene" "wants" "[I", Cond.fieldLink RX4 15 "EndedByOthers$Scene" "beginners" "[I", Cond.fieldLink RX4 18 "EndedByOthers$Scene" "openings" "[I", Cond.fieldLink RX4 21 "EndedByOthers$Scene" "enders" "[I", Cond.fieldLink RX4 24 "EndedByOthers$Scene" "endings" "[I", Cond.fieldLink RX4 27 "EndedByOthers$Scene" "sentences" "I", Cond.fieldLink RX4 31 "EndedByOthers$Scene" "heardSpeakers" "[I", Cond.fieldLink RX4 34 "EndedByOthers$Scene" "heardOpenings" "[I", Cond.fieldLink RX4 37 "EndedByOthers$Scene" "heardEndings" "[I"]
def wsL_law_r4 : List Cond := [Cond.fieldLink RX4 40 "EndedByOthers$Scene" "heard" "I", Cond.fieldLink RX4 43 "EndedByOthers$Scene" "changes" "I", Cond.instanceMethod yX0_init, Cond.code yX0_init cX0_init 1 none, Cond.methodLink RX0 3 objectInit, Cond.fieldLink RX0 9 "EndedByOthers$Matching" "pleasing" "[I", Cond.fieldLink RX0 15 "EndedByOthers$Matching" "picks" "[I", Cond.fieldLink RX0 18 "EndedByOthers$Matching" "ended" "I", Cond.instanceMethod yX5_init, Cond.code yX5_init cX5_init 1 none, Cond.methodLink RX5 3 objectInit, Cond.fieldLink RX5 9 "EndedByOthers$Trial" "used" "[I", Cond.fieldLink RX5 15 "EndedByOthers$Trial" "seed" "J", Cond.fieldLink RX5 19 "EndedByOthers$Trial" "ended" "I", Cond.fieldLink RX5 23 "EndedByOthers$Trial" "asWanted" "I", Cond.methodLink RL 12 yX7_init, Cond.instanceMethod yX7_init, Cond.code yX7_init cX7_init 1 none, Cond.methodLink RX7 1 objectInit, Cond.fieldLink RX7 7 "EndedByOthersModel" "page" "[I", Cond.fieldLink RX7 13 "EndedByOthersModel" "readFits" "[I", Cond.fieldLink RX7 16 "EndedByOthersModel" "readRows" "[I", Cond.fieldLink RX7 19 "EndedByOthersModel" "fitting" "[I", Cond.fieldLink RX7 22 "EndedByOthersModel" "rows" "[I"]
def wsL_law_r5 : List Cond := [Cond.fieldLink RX7 25 "EndedByOthersModel" "said" "[I", Cond.fieldLink RX7 28 "EndedByOthersModel" "row" "[I", Cond.fieldLink RX7 31 "EndedByOthersModel" "bestRow" "[I", Cond.fieldLink RX7 34 "EndedByOthersModel" "heards" "[I", Cond.fieldLink RX7 37 "EndedByOthersModel" "parts" "[I", Cond.fieldLink RX7 40 "EndedByOthersModel" "savedRows" "[I", Cond.fieldLink RX7 43 "EndedByOthersModel" "keptRows" "[I", Cond.fieldLink RX7 46 "EndedByOthersModel" "keptSaid" "[I", Cond.fieldLink RX7 49 "EndedByOthersModel" "keptHeards" "[I", Cond.fieldLink RX7 52 "EndedByOthersModel" "keptRoom" "I", Cond.methodLink RL 13 yX6_letter, Cond.instanceMethod yX6_letter, Cond.selects RX6 yX6_letter yX6_letter, Cond.code yX6_letter cX6_letter 2 (some .int), Cond.fieldLink RX6 62 "EndedByOthers$Page" "length" "I", Cond.methodLink RX6 65 yX1_add, Cond.instanceMethod yX1_add, Cond.selects RX1 yX1_add yX1_add, Cond.code yX1_add cX1_add 2 none, Cond.methodLink RL 17 yX7_letter, Cond.instanceMethod yX7_letter, Cond.selects RX7 yX7_letter yX7_letter, Cond.code yX7_letter cX7_letter 2 (some .int), Cond.constantLong RX7 56 (126)]
def wsL_law_r6 : List Cond := [Cond.fieldLink RX7 62 "EndedByOthersModel" "pageMany" "I", Cond.methodLink RX7 58 yX7_in, Cond.static yX7_in, Cond.code yX7_in cX7_in 6 (some .boolean), Cond.methodLink RL 18 yX6_blank, Cond.instanceMethod yX6_blank, Cond.selects RX6 yX6_blank yX6_blank, Cond.code yX6_blank cX6_blank 2 (some .int), Cond.methodLink RL 22 yX7_blank, Cond.instanceMethod yX7_blank, Cond.selects RX7 yX7_blank yX7_blank, Cond.code yX7_blank cX7_blank 2 (some .int), Cond.methodLink RL 23 yX6_fault, Cond.instanceMethod yX6_fault, Cond.selects RX6 yX6_fault yX6_fault, Cond.code yX6_fault cX6_fault 1 (some .int), Cond.methodLink RX6 69 yX2_read, Cond.instanceMethod yX2_read, Cond.selects RX2 yX2_read yX2_read, Cond.code yX2_read cX2_read 3 (some .int), Cond.fieldLink RX2 34 "EndedByOthers$Page" "length" "I", Cond.fieldLink RX2 39 "EndedByOthers$Page" "codes" "[I", Cond.methodLink RX2 28 yX3_clear, Cond.instanceMethod yX3_clear]
def wsL_law_r7 : List Cond := [Cond.selects RX3 yX3_clear yX3_clear, Cond.code yX3_clear cX3_clear 2 none, Cond.methodLink RX2 31 yX2_startPart, Cond.instanceMethod yX2_startPart, Cond.selects RX2 yX2_startPart yX2_startPart, Cond.code yX2_startPart cX2_startPart 1 none, Cond.methodLink RX2 43 yX2_takes, Cond.instanceMethod yX2_takes, Cond.selects RX2 yX2_takes yX2_takes, Cond.code yX2_takes cX2_takes 2 (some .boolean), Cond.methodLink RX2 50 yX2_takesInOpening, Cond.instanceMethod yX2_takesInOpening, Cond.selects RX2 yX2_takesInOpening yX2_takesInOpening, Cond.code yX2_takesInOpening cX2_takesInOpening 3 (some .boolean), Cond.fieldLink RX2 59 "EndedByOthers$Room" "fitting" "[I", Cond.static yX6_isEnding, Cond.code yX6_isEnding cX6_isEnding 1 (some .boolean), Cond.methodLink RX2 53 yX2_takesInSpeaker, Cond.instanceMethod yX2_takesInSpeaker, Cond.selects RX2 yX2_takesInSpeaker yX2_takesInSpeaker, Cond.code yX2_takesInSpeaker cX2_takesInSpeaker 2 (some .boolean), Cond.methodLink RX2 64 yJ0_indexOf_0f7a4, Cond.instanceMethod yJ0_indexOf_0f7a4, Cond.selects RJ0 yJ0_indexOf_0f7a4 yJ0_indexOf_0f7a4]
def wsL_law_r8 : List Cond := [Cond.initialized RJ0, Cond.code yJ0_indexOf_0f7a4 cJ0_indexOf_0f7a4 2 (some .int), Cond.methodLink RJ0 633 yJ0_indexOf_7cf53, Cond.instanceMethod yJ0_indexOf_7cf53, Cond.selects RJ0 yJ0_indexOf_7cf53 yJ0_indexOf_7cf53, Cond.code yJ0_indexOf_7cf53 cJ0_indexOf_7cf53 3 (some .int), Cond.fieldLink RJ0 9 "java/lang/String" "value" "[B", Cond.methodLink RJ0 492 yJ0_isLatin1_aae02, Cond.instanceMethod yJ0_isLatin1_aae02, Cond.selects RJ0 yJ0_isLatin1_aae02 yJ0_isLatin1_aae02, Cond.code yJ0_isLatin1_aae02 cJ0_isLatin1_aae02 1 (some .boolean), Cond.fieldLink RJ0 38 "java/lang/String" "COMPACT_STRINGS" "Z", Cond.fieldLink RJ0 15 "java/lang/String" "coder" "B", Cond.methodLink RJ0 505 yJ0_length_8abf5, Cond.instanceMethod yJ0_length_8abf5, Cond.selects RJ0 yJ0_length_8abf5 yJ0_length_8abf5, Cond.code yJ0_length_8abf5 cJ0_length_8abf5 1 (some .int), Cond.methodLink RJ0 335 yJ0_coder_7d493, Cond.instanceMethod yJ0_coder_7d493, Cond.selects RJ0 yJ0_coder_7d493 yJ0_coder_7d493, Cond.code yJ0_coder_7d493 cJ0_coder_7d493 1 (some .byte), Cond.methodLink RJ0 637 yJ1_indexOf_4cfef, Cond.static yJ1_indexOf_4cfef, Cond.initialized RJ1]
def wsL_law_r9 : List Cond := [Cond.code yJ1_indexOf_4cfef cJ1_indexOf_4cfef 4 (some .int), Cond.methodLink RJ1 92 Lib.Math.max.name, Cond.static Lib.Math.max.name, Cond.initialized "java/lang/Math", Cond.code Lib.Math.max.name Lib.Math.max.code 2 (some .int), Cond.methodLink RJ1 38 Lib.Math.min.name, Cond.static Lib.Math.min.name, Cond.code Lib.Math.min.name Lib.Math.min.code 2 (some .int), Cond.methodLink RJ1 88 yJ1_canEncode_9a6ad, Cond.static yJ1_canEncode_9a6ad, Cond.code yJ1_canEncode_9a6ad cJ1_canEncode_9a6ad 1 (some .boolean), Cond.methodLink RJ1 95 yJ1_indexOfChar_4cfef, Cond.static yJ1_indexOfChar_4cfef, Cond.code yJ1_indexOfChar_4cfef cJ1_indexOfChar_4cfef 6 (some .int), Cond.methodLink RJ0 640 yJ2_indexOf_4cfef, Cond.static yJ2_indexOf_4cfef, Cond.initialized RJ2, Cond.code yJ2_indexOf_4cfef cJ2_indexOf_4cfef 4 (some .int), Cond.methodLink RJ2 224 Lib.Math.max.name, Cond.methodLink RJ2 183 Lib.Math.min.name, Cond.constant RJ2 227 (65536), Cond.methodLink RJ2 228 yJ2_indexOfChar_4cfef, Cond.static yJ2_indexOfChar_4cfef, Cond.code yJ2_indexOfChar_4cfef cJ2_indexOfChar_4cfef 4 (some .int)]
def wsL_law_r10 : List Cond := [Cond.methodLink RJ2 96 yJ2_checkBoundsBeginEnd_d044e, Cond.static yJ2_checkBoundsBeginEnd_d044e, Cond.code yJ2_checkBoundsBeginEnd_d044e cJ2_checkBoundsBeginEnd_d044e 3 none, Cond.methodLink RJ2 48 yJ2_length_9d52b, Cond.static yJ2_length_9d52b, Cond.code yJ2_length_9d52b cJ2_length_9d52b 1 (some .int), Cond.methodLink RJ2 241 yJ0_checkBoundsBeginEnd_23922, Cond.static yJ0_checkBoundsBeginEnd_23922, Cond.code yJ0_checkBoundsBeginEnd_23922 cJ0_checkBoundsBeginEnd_23922 3 none, Cond.fieldLink RJ0 1053 "jdk/internal/util/Preconditions" "SIOOBE_FORMATTER" "Ljava/util/function/BiFunction;", Cond.methodLink RJ0 1062 yJ3_checkFromToIndex_8c36e, Cond.static yJ3_checkFromToIndex_8c36e, Cond.initialized RJ3, Cond.code yJ3_checkFromToIndex_8c36e cJ3_checkFromToIndex_8c36e 4 (some .int), Cond.methodLink RJ2 244 yJ2_indexOfCharUnsafe_4cfef, Cond.static yJ2_indexOfCharUnsafe_4cfef, Cond.code yJ2_indexOfCharUnsafe_4cfef cJ2_indexOfCharUnsafe_4cfef 5 (some .int), Cond.methodLink RJ2 71 yJ2_getChar_3b067, Cond.static yJ2_getChar_3b067, Cond.code yJ2_getChar_3b067 cJ2_getChar_3b067 2 (some .char), Cond.fieldLink RJ2 44 "java/lang/StringUTF16" "$assertionsDisabled" "Z", Cond.fieldLink RJ2 59 "java/lang/StringUTF16" "HI_BYTE_SHIFT" "I", Cond.fieldLink RJ2 63 "java/lang/StringUTF16" "LO_BYTE_SHIFT" "I", Cond.methodLink RJ2 232 yJ2_indexOfSupplementary_4cfef]
def wsL_law_r11 : List Cond := [Cond.static yJ2_indexOfSupplementary_4cfef, Cond.code yJ2_indexOfSupplementary_4cfef cJ2_indexOfSupplementary_4cfef 7 (some .int), Cond.methodLink RJ2 164 yJ11_isValidCodePoint_9a6ad, Cond.static yJ11_isValidCodePoint_9a6ad, Cond.initialized RJ11, Cond.code yJ11_isValidCodePoint_9a6ad cJ11_isValidCodePoint_9a6ad 2 (some .boolean), Cond.methodLink RJ2 157 yJ11_highSurrogate_5068e, Cond.static yJ11_highSurrogate_5068e, Cond.code yJ11_highSurrogate_5068e cJ11_highSurrogate_5068e 1 (some .char), Cond.constant RJ11 110 (55232), Cond.methodLink RJ2 161 yJ11_lowSurrogate_5068e, Cond.static yJ11_lowSurrogate_5068e, Cond.code yJ11_lowSurrogate_5068e cJ11_lowSurrogate_5068e 1 (some .char), Cond.constant RJ11 76 (56320), Cond.methodLink RX2 70 yX2_takesKind, Cond.instanceMethod yX2_takesKind, Cond.selects RX2 yX2_takesKind yX2_takesKind, Cond.code yX2_takesKind cX2_takesKind 2 (some .boolean), Cond.fieldLink RX2 47 "EndedByOthers$Room" "speakers" "I", Cond.fieldLink RX2 79 "EndedByOthers$Room" "kinds" "[I", Cond.methodLink RX2 73 yX2_takesWant, Cond.instanceMethod yX2_takesWant, Cond.selects RX2 yX2_takesWant yX2_takesWant, Cond.code yX2_takesWant cX2_takesWant 2 (some .boolean)]
def wsL_law_r12 : List Cond := [Cond.fieldLink RX2 82 "EndedByOthers$Room" "wants" "[I", Cond.methodLink RX2 76 yX2_takesNextSpeaker, Cond.instanceMethod yX2_takesNextSpeaker, Cond.selects RX2 yX2_takesNextSpeaker yX2_takesNextSpeaker, Cond.code yX2_takesNextSpeaker cX2_takesNextSpeaker 2 (some .boolean), Cond.methodLink RL 26 yX7_fault, Cond.instanceMethod yX7_fault, Cond.selects RX7 yX7_fault yX7_fault, Cond.code yX7_fault cX7_fault 1 (some .int), Cond.methodLink RX7 97 yX7_faultOf, Cond.instanceMethod yX7_faultOf, Cond.selects RX7 yX7_faultOf yX7_faultOf, Cond.code yX7_faultOf cX7_faultOf 2 (some .int), Cond.fieldLink RX7 68 "EndedByOthersModel" "part" "I", Cond.fieldLink RX7 65 "EndedByOthersModel" "partMany" "I", Cond.fieldLink RX7 71 "EndedByOthersModel" "lastOne" "I", Cond.fieldLink RX7 79 "EndedByOthersModel" "readMany" "I", Cond.fieldLink RX7 76 "EndedByOthersModel" "step" "I", Cond.methodLink RX7 90 yX7_goOpening, Cond.instanceMethod yX7_goOpening, Cond.selects RX7 yX7_goOpening yX7_goOpening, Cond.code yX7_goOpening cX7_goOpening 4 (some .boolean), Cond.constantLong RX7 74 (5), Cond.methodLink RX7 94 yX7_goSpeaker]
def wsL_law_r13 : List Cond := [Cond.instanceMethod yX7_goSpeaker, Cond.selects RX7 yX7_goSpeaker yX7_goSpeaker, Cond.code yX7_goSpeaker cX7_goSpeaker 3 (some .boolean), Cond.constantLong RX7 86 (97), Cond.constantLong RX7 88 (102), Cond.methodLink RX7 82 yX7_kindBy, Cond.static yX7_kindBy, Cond.code yX7_kindBy cX7_kindBy 1 (some .int), Cond.methodLink RL 27 yX6_room, Cond.instanceMethod yX6_room, Cond.selects RX6 yX6_room yX6_room, Cond.code yX6_room cX6_room 1 (some .int), Cond.fieldLink RX6 77 "EndedByOthers$Reader" "draft" "LEndedByOthers$Room;", Cond.fieldLink RX6 84 "EndedByOthers$Room" "wants" "[I", Cond.fieldLink RX6 92 "EndedByOthers$Room" "speakers" "I", Cond.methodLink RX6 73 yX2_hasWholeRoom, Cond.instanceMethod yX2_hasWholeRoom, Cond.selects RX2 yX2_hasWholeRoom yX2_hasWholeRoom, Cond.code yX2_hasWholeRoom cX2_hasWholeRoom 1 (some .boolean), Cond.methodLink RX6 80 yX3_copyFrom, Cond.instanceMethod yX3_copyFrom, Cond.selects RX3 yX3_copyFrom yX3_copyFrom, Cond.code yX3_copyFrom cX3_copyFrom 2 none, Cond.methodLink RX3 25 arraycopyName]
def wsL_law_r14 : List Cond := [Cond.native arraycopyName, Cond.static arraycopyName, Cond.initialized "java/lang/System", Cond.methodLink RX6 88 yX4_start, Cond.instanceMethod yX4_start, Cond.selects RX4 yX4_start yX4_start, Cond.code yX4_start cX4_start 2 none, Cond.methodLink RX4 46 arraycopyName, Cond.methodLink RL 30 yX7_room, Cond.instanceMethod yX7_room, Cond.selects RX7 yX7_room yX7_room, Cond.code yX7_room cX7_room 2 (some .int), Cond.fieldLink RX7 101 "EndedByOthersModel" "speakers" "I", Cond.fieldLink RX7 108 "EndedByOthersModel" "wants" "I", Cond.fieldLink RX7 111 "EndedByOthersModel" "sentences" "I", Cond.fieldLink RX7 114 "EndedByOthersModel" "heardMany" "I", Cond.fieldLink RX7 117 "EndedByOthersModel" "roomsRead" "I", Cond.methodLink RX7 104 yX7_copy, Cond.static yX7_copy, Cond.code yX7_copy cX7_copy 3 none, Cond.methodLink RL 31 yX6_fits, Cond.instanceMethod yX6_fits, Cond.selects RX6 yX6_fits yX6_fits, Cond.code yX6_fits cX6_fits 2 (some .int)]
def wsL_law_r15 : List Cond := [Cond.fieldLink RX6 99 "EndedByOthers$Room" "fitting" "[I", Cond.methodLink RX6 95 yX6_isOpening, Cond.static yX6_isOpening, Cond.code yX6_isOpening cX6_isOpening 1 (some .boolean), Cond.methodLink RL 34 yX7_fits, Cond.instanceMethod yX7_fits, Cond.selects RX7 yX7_fits yX7_fits, Cond.code yX7_fits cX7_fits 2 (some .int), Cond.methodLink RX7 126 yX7_isOpening, Cond.instanceMethod yX7_isOpening, Cond.selects RX7 yX7_isOpening yX7_isOpening, Cond.code yX7_isOpening cX7_isOpening 2 (some .boolean), Cond.constantLong RX7 124 (3), Cond.methodLink RX7 120 yX7_lacks, Cond.instanceMethod yX7_lacks, Cond.selects RX7 yX7_lacks yX7_lacks, Cond.code yX7_lacks cX7_lacks 1 (some .boolean), Cond.methodLink RL 35 yX6_about, Cond.instanceMethod yX6_about, Cond.selects RX6 yX6_about yX6_about, Cond.code yX6_about cX6_about 3 (some .int), Cond.fieldLink RX6 105 "EndedByOthers$Room" "kinds" "[I", Cond.fieldLink RX6 108 "EndedByOthers$Scene" "wants" "[I", Cond.methodLink RX6 102 yX6_isSpeaker]
def wsL_law_r16 : List Cond := [Cond.instanceMethod yX6_isSpeaker, Cond.selects RX6 yX6_isSpeaker yX6_isSpeaker, Cond.code yX6_isSpeaker cX6_isSpeaker 2 (some .boolean), Cond.methodLink RX6 109 yX4_usedBy, Cond.instanceMethod yX4_usedBy, Cond.selects RX4 yX4_usedBy yX4_usedBy, Cond.code yX4_usedBy cX4_usedBy 4 (some .int), Cond.methodLink RX6 113 yX4_openOf, Cond.instanceMethod yX4_openOf, Cond.selects RX4 yX4_openOf yX4_openOf, Cond.code yX4_openOf cX4_openOf 3 (some .int), Cond.methodLink RX4 52 yX4_isOpen, Cond.instanceMethod yX4_isOpen, Cond.selects RX4 yX4_isOpen yX4_isOpen, Cond.code yX4_isOpen cX4_isOpen 2 (some .boolean), Cond.methodLink RX6 116 yX4_howManyBegunBy, Cond.instanceMethod yX4_howManyBegunBy, Cond.selects RX4 yX4_howManyBegunBy yX4_howManyBegunBy, Cond.code yX4_howManyBegunBy cX4_howManyBegunBy 4 (some .int), Cond.methodLink RX6 119 yX4_howManyEndedBy, Cond.instanceMethod yX4_howManyEndedBy, Cond.selects RX4 yX4_howManyEndedBy yX4_howManyEndedBy, Cond.code yX4_howManyEndedBy cX4_howManyEndedBy 4 (some .int), Cond.methodLink RX6 122 yX6_sureOpening]
def wsL_law_r17 : List Cond := [Cond.instanceMethod yX6_sureOpening, Cond.selects RX6 yX6_sureOpening yX6_sureOpening, Cond.code yX6_sureOpening cX6_sureOpening 3 (some .int), Cond.methodLink RX6 252 yX6_isSure, Cond.instanceMethod yX6_isSure, Cond.selects RX6 yX6_isSure yX6_isSure, Cond.code yX6_isSure cX6_isSure 6 (some .boolean), Cond.methodLink RX6 142 yX6_endingNow, Cond.instanceMethod yX6_endingNow, Cond.selects RX6 yX6_endingNow yX6_endingNow, Cond.code yX6_endingNow cX6_endingNow 3 (some .int), Cond.methodLink RX6 248 yX6_endingBy, Cond.static yX6_endingBy, Cond.code yX6_endingBy cX6_endingBy 5 (some .int), Cond.methodLink RX6 239 yX6_has, Cond.static yX6_has, Cond.code yX6_has cX6_has 2 (some .boolean), Cond.methodLink RX6 242 yX6_greatest, Cond.static yX6_greatest, Cond.code yX6_greatest cX6_greatest 2 (some .int), Cond.methodLink RX6 245 yX6_least, Cond.static yX6_least, Cond.code yX6_least cX6_least 2 (some .int), Cond.methodLink RX6 125 yX6_possibleKinds]
def wsL_law_r18 : List Cond := [Cond.instanceMethod yX6_possibleKinds, Cond.selects RX6 yX6_possibleKinds yX6_possibleKinds, Cond.code yX6_possibleKinds cX6_possibleKinds 4 (some .int), Cond.methodLink RX6 255 yX6_agreesWithHeard, Cond.instanceMethod yX6_agreesWithHeard, Cond.selects RX6 yX6_agreesWithHeard yX6_agreesWithHeard, Cond.code yX6_agreesWithHeard cX6_agreesWithHeard 5 (some .boolean), Cond.fieldLink RX6 184 "EndedByOthers$Scene" "heard" "I", Cond.fieldLink RX6 258 "EndedByOthers$Scene" "heardSpeakers" "[I", Cond.fieldLink RX6 261 "EndedByOthers$Scene" "heardOpenings" "[I", Cond.fieldLink RX6 264 "EndedByOthers$Scene" "heardEndings" "[I", Cond.methodLink RX6 128 yX6_tellingOpening, Cond.instanceMethod yX6_tellingOpening, Cond.selects RX6 yX6_tellingOpening yX6_tellingOpening, Cond.code yX6_tellingOpening cX6_tellingOpening 7 (some .int), Cond.methodLink RX6 267 yX6_mostKindsLeft, Cond.instanceMethod yX6_mostKindsLeft, Cond.selects RX6 yX6_mostKindsLeft yX6_mostKindsLeft, Cond.code yX6_mostKindsLeft cX6_mostKindsLeft 10 (some .int), Cond.methodLink RX6 271 Lib.Math.max.name, Cond.methodLink RL 39 yX7_about, Cond.instanceMethod yX7_about, Cond.selects RX7 yX7_about yX7_about, Cond.code yX7_about cX7_about 3 (some .int)]
def wsL_law_r19 : List Cond := [Cond.methodLink RX7 158 yX7_isSpeaker, Cond.instanceMethod yX7_isSpeaker, Cond.selects RX7 yX7_isSpeaker yX7_isSpeaker, Cond.code yX7_isSpeaker cX7_isSpeaker 2 (some .boolean), Cond.methodLink RX7 161 yX7_tell, Cond.instanceMethod yX7_tell, Cond.selects RX7 yX7_tell yX7_tell, Cond.code yX7_tell cX7_tell 3 (some .int), Cond.methodLink RX7 143 yX7_openOf, Cond.instanceMethod yX7_openOf, Cond.selects RX7 yX7_openOf yX7_openOf, Cond.code yX7_openOf cX7_openOf 4 (some .int), Cond.methodLink RX7 146 yX7_saidBy, Cond.instanceMethod yX7_saidBy, Cond.selects RX7 yX7_saidBy yX7_saidBy, Cond.code yX7_saidBy cX7_saidBy 5 (some .int), Cond.methodLink RX7 149 yX7_sureOf, Cond.instanceMethod yX7_sureOf, Cond.selects RX7 yX7_sureOf yX7_sureOf, Cond.code yX7_sureOf cX7_sureOf 8 (some .int), Cond.methodLink RX7 139 yX7_wouldOf, Cond.instanceMethod yX7_wouldOf, Cond.selects RX7 yX7_wouldOf yX7_wouldOf, Cond.code yX7_wouldOf cX7_wouldOf 3 (some .int)]
def wsL_law_r20 : List Cond := [Cond.methodLink RX7 135 yX7_endsBy, Cond.instanceMethod yX7_endsBy, Cond.selects RX7 yX7_endsBy yX7_endsBy, Cond.code yX7_endsBy cX7_endsBy 8 (some .int), Cond.methodLink RX7 129 yX7_greatestOf, Cond.static yX7_greatestOf, Cond.code yX7_greatestOf cX7_greatestOf 3 (some .int), Cond.methodLink RX7 132 yX7_leastOf, Cond.static yX7_leastOf, Cond.code yX7_leastOf cX7_leastOf 3 (some .int), Cond.methodLink RX7 152 yX7_whichOf, Cond.instanceMethod yX7_whichOf, Cond.selects RX7 yX7_whichOf yX7_whichOf, Cond.code yX7_whichOf cX7_whichOf 7 (some .int), Cond.methodLink RX7 155 yX7_beginOf, Cond.instanceMethod yX7_beginOf, Cond.selects RX7 yX7_beginOf yX7_beginOf, Cond.code yX7_beginOf cX7_beginOf 9 (some .int), Cond.methodLink RL 40 yX6_as, Cond.instanceMethod yX6_as, Cond.selects RX6 yX6_as yX6_as, Cond.code yX6_as cX6_as 3 (some .int), Cond.methodLink RX6 132 yX6_isOfKind, Cond.static yX6_isOfKind]
def wsL_law_r21 : List Cond := [Cond.code yX6_isOfKind cX6_isOfKind 2 (some .boolean), Cond.methodLink RL 43 yX7_as, Cond.instanceMethod yX7_as, Cond.selects RX7 yX7_as yX7_as, Cond.code yX7_as cX7_as 5 (some .int), Cond.constantLong RX7 164 (4), Cond.methodLink RL 44 yX6_want, Cond.instanceMethod yX6_want, Cond.selects RX6 yX6_want yX6_want, Cond.code yX6_want cX6_want 4 (some .int), Cond.fieldLink RX6 139 "EndedByOthers$Scene" "changes" "I", Cond.methodLink RX6 136 yX6_isEnding, Cond.methodLink RL 47 yX7_want, Cond.instanceMethod yX7_want, Cond.selects RX7 yX7_want yX7_want, Cond.code yX7_want cX7_want 4 (some .int), Cond.methodLink RL 48 yX6_would, Cond.instanceMethod yX6_would, Cond.selects RX6 yX6_would yX6_would, Cond.code yX6_would cX6_would 3 (some .int), Cond.methodLink RL 51 yX7_would, Cond.instanceMethod yX7_would, Cond.selects RX7 yX7_would yX7_would, Cond.code yX7_would cX7_would 3 (some .int)]
def wsL_law_r22 : List Cond := [Cond.methodLink RL 52 yX6_begin, Cond.instanceMethod yX6_begin, Cond.selects RX6 yX6_begin yX6_begin, Cond.code yX6_begin cX6_begin 3 (some .int), Cond.fieldLink RX6 145 "EndedByOthers$Scene" "sentences" "I", Cond.methodLink RX6 148 yX4_addSentence, Cond.instanceMethod yX4_addSentence, Cond.selects RX4 yX4_addSentence yX4_addSentence, Cond.code yX4_addSentence cX4_addSentence 4 (some .int), Cond.methodLink RL 55 yX7_begin, Cond.instanceMethod yX7_begin, Cond.selects RX7 yX7_begin yX7_begin, Cond.code yX7_begin cX7_begin 3 (some .int), Cond.methodLink RL 56 yX6_end, Cond.instanceMethod yX6_end, Cond.selects RX6 yX6_end yX6_end, Cond.code yX6_end cX6_end 4 (some .int), Cond.fieldLink RX6 157 "EndedByOthers$Scene" "beginners" "[I", Cond.fieldLink RX6 160 "EndedByOthers$Scene" "openings" "[I", Cond.fieldLink RX6 163 "EndedByOthers$Scene" "enders" "[I", Cond.fieldLink RX6 166 "EndedByOthers$Scene" "endings" "[I", Cond.methodLink RX6 151 yX6_isSentence, Cond.instanceMethod yX6_isSentence, Cond.selects RX6 yX6_isSentence yX6_isSentence]
def wsL_law_r23 : List Cond := [Cond.code yX6_isSentence cX6_isSentence 2 (some .boolean), Cond.methodLink RX6 154 yX4_isOpen, Cond.methodLink RL 59 yX7_end, Cond.instanceMethod yX7_end, Cond.selects RX7 yX7_end yX7_end, Cond.code yX7_end cX7_end 4 (some .int), Cond.methodLink RX7 166 yX7_isSentence, Cond.instanceMethod yX7_isSentence, Cond.selects RX7 yX7_isSentence yX7_isSentence, Cond.code yX7_isSentence cX7_isSentence 2 (some .boolean), Cond.methodLink RL 60 yX6_sentence, Cond.instanceMethod yX6_sentence, Cond.selects RX6 yX6_sentence yX6_sentence, Cond.code yX6_sentence cX6_sentence 3 (some .int), Cond.methodLink RX6 169 yX4_isAsWanted, Cond.instanceMethod yX4_isAsWanted, Cond.selects RX4 yX4_isAsWanted yX4_isAsWanted, Cond.code yX4_isAsWanted cX4_isAsWanted 2 (some .boolean), Cond.methodLink RL 63 yX7_sentence, Cond.instanceMethod yX7_sentence, Cond.selects RX7 yX7_sentence yX7_sentence, Cond.code yX7_sentence cX7_sentence 3 (some .int), Cond.methodLink RX7 172 yX7_tellSentence, Cond.instanceMethod yX7_tellSentence]
def wsL_law_r24 : List Cond := [Cond.selects RX7 yX7_tellSentence yX7_tellSentence, Cond.code yX7_tellSentence cX7_tellSentence 3 (some .int), Cond.methodLink RX7 169 yX7_isWanted, Cond.instanceMethod yX7_isWanted, Cond.selects RX7 yX7_isWanted yX7_isWanted, Cond.code yX7_isWanted cX7_isWanted 2 (some .boolean), Cond.methodLink RL 64 yX6_match, Cond.instanceMethod yX6_match, Cond.selects RX6 yX6_match yX6_match, Cond.code yX6_match cX6_match 4 (some .int), Cond.fieldLink RX6 178 "EndedByOthers$Matching" "ended" "I", Cond.fieldLink RX6 181 "EndedByOthers$Matching" "picks" "[I", Cond.methodLink RX6 172 yX6_findPleasing, Cond.instanceMethod yX6_findPleasing, Cond.selects RX6 yX6_findPleasing yX6_findPleasing, Cond.code yX6_findPleasing cX6_findPleasing 3 none, Cond.fieldLink RX6 276 "EndedByOthers$Matching" "pleasing" "[I", Cond.methodLink RX6 279 yX6_wouldPlease, Cond.instanceMethod yX6_wouldPlease, Cond.selects RX6 yX6_wouldPlease yX6_wouldPlease, Cond.code yX6_wouldPlease cX6_wouldPlease 4 (some .boolean), Cond.methodLink RX6 175 yX0_solve, Cond.instanceMethod yX0_solve, Cond.selects RX0 yX0_solve yX0_solve]
def wsL_law_r25 : List Cond := [Cond.code yX0_solve cX0_solve 3 none, Cond.methodLink RX0 22 yX0_mostFrom, Cond.static yX0_mostFrom, Cond.code yX0_mostFrom cX0_mostFrom 6 (some .int), Cond.methodLink RX0 34 Lib.Math.max.name, Cond.methodLink RX0 26 yX0_firstBestPick, Cond.instanceMethod yX0_firstBestPick, Cond.selects RX0 yX0_firstBestPick yX0_firstBestPick, Cond.code yX0_firstBestPick cX0_firstBestPick 6 (some .int), Cond.methodLink RL 67 yX7_match, Cond.instanceMethod yX7_match, Cond.selects RX7 yX7_match yX7_match, Cond.code yX7_match cX7_match 2 (some .int), Cond.constantLong RX7 182 (10), Cond.constantLong RX7 184 (13), Cond.methodLink RX7 186 yX7_matchOf, Cond.instanceMethod yX7_matchOf, Cond.selects RX7 yX7_matchOf yX7_matchOf, Cond.code yX7_matchOf cX7_matchOf 7 (some .int), Cond.methodLink RX7 179 yX7_layRow, Cond.instanceMethod yX7_layRow, Cond.selects RX7 yX7_layRow yX7_layRow, Cond.code yX7_layRow cX7_layRow 6 (some .boolean), Cond.methodLink RX7 175 yX7_endsAsWanted]
def wsL_law_r26 : List Cond := [Cond.instanceMethod yX7_endsAsWanted, Cond.selects RX7 yX7_endsAsWanted yX7_endsAsWanted, Cond.code yX7_endsAsWanted cX7_endsAsWanted 4 (some .boolean), Cond.methodLink RL 68 yX6_hear, Cond.instanceMethod yX6_hear, Cond.selects RX6 yX6_hear yX6_hear, Cond.code yX6_hear cX6_hear 4 (some .int), Cond.methodLink RX6 187 yX4_addHeard, Cond.instanceMethod yX4_addHeard, Cond.selects RX4 yX4_addHeard yX4_addHeard, Cond.code yX4_addHeard cX4_addHeard 4 none, Cond.methodLink RL 72 yX7_hear, Cond.instanceMethod yX7_hear, Cond.selects RX7 yX7_hear yX7_hear, Cond.code yX7_hear cX7_hear 4 (some .int), Cond.constantLong RX7 189 (-1), Cond.methodLink RL 73 yX6_forget, Cond.instanceMethod yX6_forget, Cond.selects RX6 yX6_forget yX6_forget, Cond.code yX6_forget cX6_forget 2 (some .int), Cond.methodLink RL 76 yX7_forget, Cond.instanceMethod yX7_forget, Cond.selects RX7 yX7_forget yX7_forget, Cond.code yX7_forget cX7_forget 2 (some .int)]
def wsL_law_r27 : List Cond := [Cond.methodLink RL 77 yX6_talks, Cond.instanceMethod yX6_talks, Cond.selects RX6 yX6_talks yX6_talks, Cond.code yX6_talks cX6_talks 4 (some .int), Cond.fieldLink RX6 195 "EndedByOthers$Trial" "ended" "I", Cond.fieldLink RX6 196 "EndedByOthers$Trial" "asWanted" "I", Cond.fieldLink RX6 199 "EndedByOthers$Trial" "seed" "J", Cond.methodLink RX6 191 yX5_run, Cond.instanceMethod yX5_run, Cond.selects RX5 yX5_run yX5_run, Cond.code yX5_run cX5_run 6 none, Cond.methodLink RX5 26 yX4_usedBy, Cond.methodLink RX5 32 yX5_talkOnce, Cond.instanceMethod yX5_talkOnce, Cond.selects RX5 yX5_talkOnce yX5_talkOnce, Cond.code yX5_talkOnce cX5_talkOnce 7 none, Cond.fieldLink RX5 36 "EndedByOthers$Room" "speakers" "I", Cond.fieldLink RX5 44 "EndedByOthers$Room" "kinds" "[I", Cond.fieldLink RX5 47 "EndedByOthers$Room" "fitting" "[I", Cond.fieldLink RX5 50 "EndedByOthers$Scene" "wants" "[I", Cond.methodLink RX5 41 yX5_draw, Cond.instanceMethod yX5_draw, Cond.selects RX5 yX5_draw yX5_draw, Cond.code yX5_draw cX5_draw 2 (some .int)]
def wsL_law_r28 : List Cond := [Cond.constantLong RX5 57 (1103515245), Cond.constantLong RX5 59 (12345), Cond.constantLong RX5 61 (2147483648), Cond.constantLong RX5 63 (65536), Cond.methodLink RL 80 yX7_talks, Cond.instanceMethod yX7_talks, Cond.selects RX7 yX7_talks yX7_talks, Cond.code yX7_talks cX7_talks 11 (some .int), Cond.constantLong RX7 201 (60), Cond.constantLong RX7 203 (2), Cond.fieldLink RX7 193 "EndedByOthersModel" "seedNow" "I", Cond.methodLink RX7 205 yX7_draw, Cond.instanceMethod yX7_draw, Cond.selects RX7 yX7_draw yX7_draw, Cond.code yX7_draw cX7_draw 2 (some .int), Cond.constantLong RX7 191 (1103515245), Cond.constantLong RX7 196 (12345), Cond.constantLong RX7 198 (2147483647), Cond.constant RX7 200 (65536), Cond.methodLink RL 81 yX6_image, Cond.instanceMethod yX6_image, Cond.selects RX6 yX6_image yX6_image, Cond.code yX6_image cX6_image 1 (some .int), Cond.methodLink RX6 203 yX4_copyFrom]
def wsL_law_r29 : List Cond := [Cond.instanceMethod yX4_copyFrom, Cond.selects RX4 yX4_copyFrom yX4_copyFrom, Cond.code yX4_copyFrom cX4_copyFrom 2 none, Cond.methodLink RL 84 yX7_image, Cond.instanceMethod yX7_image, Cond.selects RX7 yX7_image yX7_image, Cond.code yX7_image cX7_image 1 (some .int), Cond.fieldLink RX7 208 "EndedByOthersModel" "keptSentences" "I", Cond.fieldLink RX7 211 "EndedByOthersModel" "keptWants" "I", Cond.fieldLink RX7 214 "EndedByOthersModel" "keptHeard" "I", Cond.methodLink RL 85 yX6_restore, Cond.instanceMethod yX6_restore, Cond.selects RX6 yX6_restore yX6_restore, Cond.code yX6_restore cX6_restore 1 (some .int), Cond.methodLink RL 88 yX7_restore, Cond.instanceMethod yX7_restore, Cond.selects RX7 yX7_restore yX7_restore, Cond.code yX7_restore cX7_restore 1 (some .int), Cond.methodLink RL 89 yX6_count, Cond.instanceMethod yX6_count, Cond.selects RX6 yX6_count yX6_count, Cond.code yX6_count cX6_count 2 (some .int), Cond.methodLink RX6 206 yX4_howManyOpen, Cond.instanceMethod yX4_howManyOpen]
def wsL_law_r30 : List Cond := [Cond.selects RX4 yX4_howManyOpen yX4_howManyOpen, Cond.code yX4_howManyOpen cX4_howManyOpen 1 (some .int), Cond.methodLink RX4 56 yX4_howManyEndedBy, Cond.methodLink RX6 210 yX4_howManyAsWanted, Cond.instanceMethod yX4_howManyAsWanted, Cond.selects RX4 yX4_howManyAsWanted yX4_howManyAsWanted, Cond.code yX4_howManyAsWanted cX4_howManyAsWanted 3 (some .int), Cond.methodLink RX4 60 yX4_isAsWanted, Cond.methodLink RX6 213 yX4_howManyUnlikeEndings, Cond.instanceMethod yX4_howManyUnlikeEndings, Cond.selects RX4 yX4_howManyUnlikeEndings yX4_howManyUnlikeEndings, Cond.code yX4_howManyUnlikeEndings cX4_howManyUnlikeEndings 3 (some .int), Cond.methodLink RX4 63 yX4_usedBy, Cond.methodLink RX4 66 yJ6_bitCount_0f7a4, Cond.static yJ6_bitCount_0f7a4, Cond.initialized RJ6, Cond.code yJ6_bitCount_0f7a4 cJ6_bitCount_0f7a4 1 (some .int), Cond.constant RJ6 265 (1431655765), Cond.constant RJ6 266 (858993459), Cond.constant RJ6 267 (252645135), Cond.methodLink RL 92 yX7_count, Cond.instanceMethod yX7_count, Cond.selects RX7 yX7_count yX7_count, Cond.code yX7_count cX7_count 2 (some .int)]
def wsL_law_r31 : List Cond := [Cond.methodLink RX7 226 yX7_countOf, Cond.instanceMethod yX7_countOf, Cond.selects RX7 yX7_countOf yX7_countOf, Cond.code yX7_countOf cX7_countOf 2 (some .int), Cond.methodLink RX7 220 yX7_wantedMany, Cond.instanceMethod yX7_wantedMany, Cond.selects RX7 yX7_wantedMany yX7_wantedMany, Cond.code yX7_wantedMany cX7_wantedMany 3 (some .int), Cond.methodLink RX7 223 yX7_unlike, Cond.instanceMethod yX7_unlike, Cond.selects RX7 yX7_unlike yX7_unlike, Cond.code yX7_unlike cX7_unlike 3 (some .int), Cond.methodLink RX7 217 yX7_ones, Cond.static yX7_ones, Cond.code yX7_ones cX7_ones 3 (some .int), Cond.methodLink RL 93 yX6_digest, Cond.instanceMethod yX6_digest, Cond.selects RX6 yX6_digest yX6_digest, Cond.code yX6_digest cX6_digest 5 (some .long), Cond.constantLong RX6 216 (1021), Cond.fieldLink RX6 231 "EndedByOthers$Page" "codes" "[I", Cond.methodLink RX6 218 yX6_mixed, Cond.static yX6_mixed, Cond.code yX6_mixed cX6_mixed 4 (some .long)]
def wsL_law_r32 : List Cond := [Cond.constantLong RX6 237 (31), Cond.methodLink RX6 222 yX6_about, Cond.methodLink RX6 225 yX6_sentence, Cond.methodLink RX6 228 yX6_match, Cond.methodLink RX6 234 yX6_count, Cond.methodLink RL 97 yX7_digest, Cond.instanceMethod yX7_digest, Cond.selects RX7 yX7_digest yX7_digest, Cond.code yX7_digest cX7_digest 3 (some .long), Cond.constantLong RX7 239 (1021), Cond.fieldLink RX7 231 "EndedByOthersModel" "hash" "J", Cond.methodLink RX7 235 yX7_say, Cond.instanceMethod yX7_say, Cond.selects RX7 yX7_say yX7_say, Cond.code yX7_say cX7_say 3 none, Cond.constantLong RX7 229 (31), Cond.methodLink RX7 241 yX7_saySpeaker, Cond.instanceMethod yX7_saySpeaker, Cond.selects RX7 yX7_saySpeaker yX7_saySpeaker, Cond.code yX7_saySpeaker cX7_saySpeaker 3 none]
def wsL_law : List Cond := (wsL_law_r1 ++ (wsL_law_r2 ++ (wsL_law_r3 ++ (wsL_law_r4 ++ (wsL_law_r5 ++ (wsL_law_r6 ++ (wsL_law_r7 ++ (wsL_law_r8 ++ (wsL_law_r9 ++ (wsL_law_r10 ++ (wsL_law_r11 ++ (wsL_law_r12 ++ (wsL_law_r13 ++ (wsL_law_r14 ++ (wsL_law_r15 ++ (wsL_law_r16 ++ (wsL_law_r17 ++ (wsL_law_r18 ++ (wsL_law_r19 ++ (wsL_law_r20 ++ (wsL_law_r21 ++ (wsL_law_r22 ++ (wsL_law_r23 ++ (wsL_law_r24 ++ (wsL_law_r25 ++ (wsL_law_r26 ++ (wsL_law_r27 ++ (wsL_law_r28 ++ (wsL_law_r29 ++ (wsL_law_r30 ++ (wsL_law_r31 ++ wsL_law_r32))))))))))))))))))))))))))))))) ++ wsX60 ++ wsX70 ++ wsX10 ++ wsX20 ++ wsX30 ++ wsX40 ++ wsX00 ++ wsX50 ++ ([] : List Cond)
set_option maxRecDepth 20000 in
theorem wsL_law_in : ∀ w ∈ wsL_law, w ∈ lw_tbl := fun w h => (goodIn_p wsL_law [68, 71, 76, 94, 100, 146, 198, 217, 656, 266, 270, 755, 759, 274, 763, 278, 282, 286, 290, 294, 298, 301, 305, 310, 314, 318, 324, 328, 331, 337, 340, 334, 343, 346, 352, 355, 358, 361, 366, 369, 372, 381, 384, 387, 391, 396, 400, 404, 767, 771, 775, 780, 783, 409, 413, 417, 424, 789, 792, 429, 432, 796, 800, 804, 436, 440, 444, 448, 452, 456, 460, 464, 468, 472, 475, 478, 481, 484, 488, 492, 496, 500, 809, 813, 817, 821, 825, 829, 833, 837, 840, 843, 847, 851, 505, 508, 855, 512, 860, 517, 864, 521, 525, 868, 529, 533, 872, 876, 538, 542, 880, 884, 888, 546, 550, 554, 558, 561, 567, 892, 898, 902, 906, 571, 575, 910, 579, 915, 583, 587, 592, 596, 919, 925, 605, 609, 933, 613, 937, 617, 621, 626, 631, 635, 941, 945, 949, 953, 956, 642, 646, 960, 965, 970] (by decide +kernel) (by decide +kernel) w h).1
theorem inlX0 : ∀ w ∈ wsX00, w ∈ wsL_law := fun _ h => List.mem_append_left _ (List.mem_append_left _ (List.mem_append_right _ h))
theorem inX0 : ∀ w ∈ wsX00, w ∈ lw_tbl := fun w h => wsL_law_in w (inlX0 w h)
theorem inlX1 : ∀ w ∈ wsX10, w ∈ wsL_law := fun _ h => List.mem_append_left _ (List.mem_append_left _ (List.mem_append_left _ (List.mem_append_left _ (List.mem_append_left _ (List.mem_append_left _ (List.mem_append_right _ h))))))
theorem inX1 : ∀ w ∈ wsX10, w ∈ lw_tbl := fun w h => wsL_law_in w (inlX1 w h)
theorem inlX2 : ∀ w ∈ wsX20, w ∈ wsL_law := fun _ h => List.mem_append_left _ (List.mem_append_left _ (List.mem_append_left _ (List.mem_append_left _ (List.mem_append_left _ (List.mem_append_right _ h)))))
theorem inX2 : ∀ w ∈ wsX20, w ∈ lw_tbl := fun w h => wsL_law_in w (inlX2 w h)
theorem inlX3 : ∀ w ∈ wsX30, w ∈ wsL_law := fun _ h => List.mem_append_left _ (List.mem_append_left _ (List.mem_append_left _ (List.mem_append_left _ (List.mem_append_right _ h))))
theorem inX3 : ∀ w ∈ wsX30, w ∈ lw_tbl := fun w h => wsL_law_in w (inlX3 w h)
theorem inlX4 : ∀ w ∈ wsX40, w ∈ wsL_law := fun _ h => List.mem_append_left _ (List.mem_append_left _ (List.mem_append_left _ (List.mem_append_right _ h)))
theorem inX4 : ∀ w ∈ wsX40, w ∈ lw_tbl := fun w h => wsL_law_in w (inlX4 w h)
theorem inlX5 : ∀ w ∈ wsX50, w ∈ wsL_law := fun _ h => List.mem_append_left _ (List.mem_append_right _ h)
theorem inX5 : ∀ w ∈ wsX50, w ∈ lw_tbl := fun w h => wsL_law_in w (inlX5 w h)
theorem inlX6 : ∀ w ∈ wsX60, w ∈ wsL_law := fun _ h => List.mem_append_left _ (List.mem_append_left _ (List.mem_append_left _ (List.mem_append_left _ (List.mem_append_left _ (List.mem_append_left _ (List.mem_append_left _ (List.mem_append_left _ (List.mem_append_right _ h))))))))
theorem inX6 : ∀ w ∈ wsX60, w ∈ lw_tbl := fun w h => wsL_law_in w (inlX6 w h)
theorem inlX7 : ∀ w ∈ wsX70, w ∈ wsL_law := fun _ h => List.mem_append_left _ (List.mem_append_left _ (List.mem_append_left _ (List.mem_append_left _ (List.mem_append_left _ (List.mem_append_left _ (List.mem_append_left _ (List.mem_append_right _ h)))))))
theorem inX7 : ∀ w ∈ wsX70, w ∈ lw_tbl := fun w h => wsL_law_in w (inlX7 w h)
theorem inJ11 : ∀ w ∈ wsJ110, w ∈ lw_tbl := by decide +kernel
theorem inJ6 : ∀ w ∈ wsJ60, w ∈ lw_tbl := by decide +kernel
theorem inJ9 : ∀ w ∈ wsJ90, w ∈ lw_tbl := by decide +kernel
theorem inJ0 : ∀ w ∈ wsJ00, w ∈ lw_tbl := by decide +kernel
theorem inJ1 : ∀ w ∈ wsJ10, w ∈ lw_tbl := by decide +kernel
theorem inJ2 : ∀ w ∈ wsJ20, w ∈ lw_tbl := by decide +kernel
theorem inJ10 : ∀ w ∈ wsJ100, w ∈ lw_tbl := by decide +kernel
theorem inJ3 : ∀ w ∈ wsJ30, w ∈ lw_tbl := by decide +kernel
set_option maxRecDepth 20000 in
theorem ggX0_solve_X0_mostFrom : GoodIn wsX0_solve wsX0_mostFrom := goodIn_r _ [7, 8, 9, 10, 11, 4, 5, 6, 12, 13, 14] (by decide +kernel) (by decide +kernel)
set_option maxRecDepth 20000 in
theorem gX0_solve_X0_mostFrom : GoodIn wsX0_solve (va_wsS RX0 22 yX0_mostFrom wsX0_mostFrom) := goodIn_app (goodIn_of _ (by decide +kernel)) ggX0_solve_X0_mostFrom
set_option maxRecDepth 20000 in
theorem ggX0_solve_X0_firstBestPick : GoodIn wsX0_solve wsX0_firstBestPick := goodIn_r _ [18, 1, 4, 5, 6, 7, 8, 9, 10, 11, 12, 13, 14, 19, 20, 21] (by decide +kernel) (by decide +kernel)
set_option maxRecDepth 20000 in
theorem gX0_solve_X0_firstBestPick : GoodIn wsX0_solve (wsV RX0 26 RX0 yX0_firstBestPick wsX0_firstBestPick) := goodIn_app (goodIn_of _ (by decide +kernel)) ggX0_solve_X0_firstBestPick
set_option maxRecDepth 20000 in
theorem ggX0_firstBestPick_X0_mostFrom : GoodIn wsX0_firstBestPick wsX0_mostFrom := goodIn_r _ [5, 6, 7, 8, 9, 2, 3, 4, 10, 11, 12] (by decide +kernel) (by decide +kernel)
set_option maxRecDepth 20000 in
theorem gX0_firstBestPick_X0_mostFrom : GoodIn wsX0_firstBestPick (va_wsS RX0 22 yX0_mostFrom wsX0_mostFrom) := goodIn_app (goodIn_of _ (by decide +kernel)) ggX0_firstBestPick_X0_mostFrom
set_option maxRecDepth 20000 in
theorem ggX0_firstBestPick_X6_has : GoodIn wsX0_firstBestPick wsX6_has := goodIn_r _ [12] (by decide +kernel) (by decide +kernel)
set_option maxRecDepth 20000 in
theorem gX0_firstBestPick_X6_has_n30 : GoodIn wsX0_firstBestPick (wsX6_has) := ggX0_firstBestPick_X6_has
set_option maxRecDepth 20000 in
theorem ggX0_mostFrom_X0_mostFrom : GoodIn wsX0_mostFrom wsX0_mostFrom := goodIn_r _ [0, 1, 2, 3, 4, 5, 6, 7, 8, 9, 10] (by decide +kernel) (by decide +kernel)
set_option maxRecDepth 20000 in
theorem gX0_mostFrom_X0_mostFrom : GoodIn wsX0_mostFrom (va_wsS RX0 22 yX0_mostFrom wsX0_mostFrom) := goodIn_app (goodIn_of _ (by decide +kernel)) ggX0_mostFrom_X0_mostFrom
set_option maxRecDepth 20000 in
theorem ggX0_mostFrom_X6_has : GoodIn wsX0_mostFrom wsX6_has := goodIn_r _ [10] (by decide +kernel) (by decide +kernel)
set_option maxRecDepth 20000 in
theorem gX0_mostFrom_X6_has_n30 : GoodIn wsX0_mostFrom (wsX6_has) := ggX0_mostFrom_X6_has
set_option maxRecDepth 20000 in
theorem ggX2_init_X3_init : GoodIn wsX2_init wsX3_init := goodIn_r _ [12, 13, 2, 3, 14, 15, 16, 17, 18, 19, 20, 21, 22] (by decide +kernel) (by decide +kernel)
set_option maxRecDepth 20000 in
theorem gX2_init_X3_init_n11 : GoodIn wsX2_init (wsX3_init) := ggX2_init_X3_init
set_option maxRecDepth 20000 in
theorem ggX2_read_X3_clear : GoodIn wsX2_read wsX3_clear := goodIn_r _ [9, 10, 11, 145, 146, 147, 148] (by decide +kernel) (by decide +kernel)
set_option maxRecDepth 20000 in
theorem gX2_read_X3_clear : GoodIn wsX2_read (wsV RX2 28 RX3 yX3_clear wsX3_clear) := goodIn_app (goodIn_of _ (by decide +kernel)) ggX2_read_X3_clear
set_option maxRecDepth 20000 in
theorem ggX2_read_X2_startPart : GoodIn wsX2_read wsX2_startPart := goodIn_r _ [16, 17, 18, 139, 140, 141, 142] (by decide +kernel) (by decide +kernel)
set_option maxRecDepth 20000 in
theorem gX2_read_X2_startPart : GoodIn wsX2_read (wsV RX2 31 RX2 yX2_startPart wsX2_startPart) := goodIn_app (goodIn_of _ (by decide +kernel)) ggX2_read_X2_startPart
set_option maxRecDepth 20000 in
theorem ggX2_read_X2_takes : GoodIn wsX2_read wsX2_takes := goodIn_r _ [22, 2, 23, 24, 25, 15, 26, 17, 18, 1, 27, 12, 13, 14, 16, 28, 29, 30, 31, 32, 33, 34, 35, 36, 37, 38, 39, 40, 41, 42, 43, 44, 45, 46, 47, 48, 49, 50, 51, 52, 53, 54, 55, 56, 57, 58, 59, 60, 61, 62, 63, 64, 65, 66, 67, 68, 69, 70, 71, 72, 73, 74, 75, 76, 77, 78, 79, 80, 81, 82, 83, 84, 85, 86, 87, 88, 89, 90, 91, 92, 93, 94, 95, 96, 97, 98, 99, 100, 101, 102, 103, 104, 105, 106, 107, 108, 109, 110, 111, 112, 113, 114, 115, 116, 117, 118, 119, 120, 121, 122, 123, 124, 125, 126, 127, 128, 129, 130, 131, 132, 133, 134, 135, 136, 137, 138, 139, 140, 141, 142, 145, 146, 147, 148] (by decide +kernel) (by decide +kernel)
set_option maxRecDepth 20000 in
theorem gX2_read_X2_takes : GoodIn wsX2_read (wsV RX2 43 RX2 yX2_takes wsX2_takes) := goodIn_app (goodIn_of _ (by decide +kernel)) ggX2_read_X2_takes
set_option maxRecDepth 20000 in
theorem ggX2_takes_X2_takesInOpening : GoodIn wsX2_takes wsX2_takesInOpening := goodIn_r _ [6, 1, 7, 8, 9, 10, 11, 12, 13, 5, 14, 15, 16, 17, 126, 127, 128, 129, 130, 131, 132, 133] (by decide +kernel) (by decide +kernel)
set_option maxRecDepth 20000 in
theorem gX2_takes_X2_takesInOpening : GoodIn wsX2_takes (wsV RX2 50 RX2 yX2_takesInOpening wsX2_takesInOpening) := goodIn_app (goodIn_of _ (by decide +kernel)) ggX2_takes_X2_takesInOpening
set_option maxRecDepth 20000 in
theorem ggX2_takes_X2_takesInSpeaker : GoodIn wsX2_takes wsX2_takesInSpeaker := goodIn_r _ [21, 7, 22, 23, 24, 25, 26, 27, 28, 29, 30, 31, 32, 33, 34, 35, 36, 37, 38, 39, 40, 41, 42, 43, 44, 45, 46, 47, 48, 49, 50, 51, 52, 53, 54, 55, 56, 57, 58, 59, 60, 61, 62, 63, 64, 65, 66, 67, 68, 69, 70, 71, 72, 73, 74, 75, 76, 77, 78, 79, 80, 81, 82, 83, 84, 85, 86, 87, 88, 89, 90, 91, 92, 93, 94, 95, 96, 97, 98, 99, 100, 101, 102, 103, 104, 105, 106, 107, 108, 109, 110, 111, 112, 113, 5, 114, 9, 115, 116, 117, 118, 119, 120, 121, 15, 16, 17, 122, 123, 124, 125, 11, 12, 13, 14, 8, 126, 127, 128, 129, 130, 131, 132, 133] (by decide +kernel) (by decide +kernel)
set_option maxRecDepth 20000 in
theorem gX2_takes_X2_takesInSpeaker : GoodIn wsX2_takes (wsV RX2 53 RX2 yX2_takesInSpeaker wsX2_takesInSpeaker) := goodIn_app (goodIn_of _ (by decide +kernel)) ggX2_takes_X2_takesInSpeaker
set_option maxRecDepth 20000 in
theorem ggX2_takesInOpening_X2_startPart : GoodIn wsX2_takesInOpening wsX2_startPart := goodIn_r _ [10, 2, 3, 14, 15, 16, 17] (by decide +kernel) (by decide +kernel)
set_option maxRecDepth 20000 in
theorem gX2_takesInOpening_X2_startPart : GoodIn wsX2_takesInOpening (wsV RX2 31 RX2 yX2_startPart wsX2_startPart) := goodIn_app (goodIn_of _ (by decide +kernel)) ggX2_takesInOpening_X2_startPart
set_option maxRecDepth 20000 in
theorem ggX2_takesInOpening_X6_isEnding : GoodIn wsX2_takesInOpening wsX6_isEnding := goodIn_r _ [13] (by decide +kernel) (by decide +kernel)
set_option maxRecDepth 20000 in
theorem gX2_takesInOpening_X6_isEnding_n56 : GoodIn wsX2_takesInOpening (wsX6_isEnding) := ggX2_takesInOpening_X6_isEnding
set_option maxRecDepth 20000 in
theorem ggX2_takesInSpeaker_J0_indexOf_0f7a4 : GoodIn wsX2_takesInSpeaker wsJ0_indexOf_0f7a4 := goodIn_r _ [6, 7, 8, 9, 5, 10, 11, 12, 13, 14, 15, 16, 17, 18, 19, 20, 21, 22, 23, 24, 25, 26, 27, 28, 29, 30, 31, 32, 33, 34, 35, 36, 37, 38, 39, 40, 41, 42, 43, 44, 45, 46, 47, 48, 49, 50, 51, 52, 53, 54, 55, 56, 57, 58, 59, 60, 61, 62, 63, 64, 65, 66, 67, 68, 69, 70, 71, 72, 73, 74, 75, 76, 77, 78, 79, 80, 81, 82, 83, 84, 85, 86, 87, 88, 89, 90] (by decide +kernel) (by decide +kernel)
set_option maxRecDepth 20000 in
theorem gX2_takesInSpeaker_J0_indexOf_0f7a4 : GoodIn wsX2_takesInSpeaker (wsV RX2 64 RJ0 yJ0_indexOf_0f7a4 wsJ0_indexOf_0f7a4) := goodIn_app (goodIn_of _ (by decide +kernel)) ggX2_takesInSpeaker_J0_indexOf_0f7a4
set_option maxRecDepth 20000 in
theorem ggX2_takesInSpeaker_X2_takesKind : GoodIn wsX2_takesInSpeaker wsX2_takesKind := goodIn_r _ [95, 96, 97, 98, 1, 116, 117, 118, 119, 120, 121, 122, 123] (by decide +kernel) (by decide +kernel)
set_option maxRecDepth 20000 in
theorem gX2_takesInSpeaker_X2_takesKind : GoodIn wsX2_takesInSpeaker (wsV RX2 70 RX2 yX2_takesKind wsX2_takesKind) := goodIn_app (goodIn_of _ (by decide +kernel)) ggX2_takesInSpeaker_X2_takesKind
set_option maxRecDepth 20000 in
theorem ggX2_takesInSpeaker_X2_takesWant : GoodIn wsX2_takesInSpeaker wsX2_takesWant := goodIn_r _ [102, 96, 97, 103, 1, 104, 105, 106, 116, 117, 118, 119, 120, 121, 122, 123] (by decide +kernel) (by decide +kernel)
set_option maxRecDepth 20000 in
theorem gX2_takesInSpeaker_X2_takesWant : GoodIn wsX2_takesInSpeaker (wsV RX2 73 RX2 yX2_takesWant wsX2_takesWant) := goodIn_app (goodIn_of _ (by decide +kernel)) ggX2_takesInSpeaker_X2_takesWant
set_option maxRecDepth 20000 in
theorem ggX2_takesInSpeaker_X2_takesNextSpeaker : GoodIn wsX2_takesInSpeaker wsX2_takesNextSpeaker := goodIn_r _ [110, 96, 97, 111, 112, 113, 94, 114, 1, 115, 116, 117, 118, 119, 120, 121, 122, 123] (by decide +kernel) (by decide +kernel)
set_option maxRecDepth 20000 in
theorem gX2_takesInSpeaker_X2_takesNextSpeaker : GoodIn wsX2_takesInSpeaker (wsV RX2 76 RX2 yX2_takesNextSpeaker wsX2_takesNextSpeaker) := goodIn_app (goodIn_of _ (by decide +kernel)) ggX2_takesInSpeaker_X2_takesNextSpeaker
set_option maxRecDepth 20000 in
theorem ggX2_takesWant_X6_isEnding : GoodIn wsX2_takesWant wsX6_isEnding := goodIn_r _ [7] (by decide +kernel) (by decide +kernel)
set_option maxRecDepth 20000 in
theorem gX2_takesWant_X6_isEnding_n56 : GoodIn wsX2_takesWant (wsX6_isEnding) := ggX2_takesWant_X6_isEnding
set_option maxRecDepth 20000 in
theorem ggX2_takesNextSpeaker_X2_startPart : GoodIn wsX2_takesNextSpeaker wsX2_startPart := goodIn_r _ [7, 8, 9, 10, 11, 12, 13] (by decide +kernel) (by decide +kernel)
set_option maxRecDepth 20000 in
theorem gX2_takesNextSpeaker_X2_startPart : GoodIn wsX2_takesNextSpeaker (wsV RX2 31 RX2 yX2_startPart wsX2_startPart) := goodIn_app (goodIn_of _ (by decide +kernel)) ggX2_takesNextSpeaker_X2_startPart
set_option maxRecDepth 20000 in
theorem ggX4_isAsWanted_X4_isOpen : GoodIn wsX4_isAsWanted wsX4_isOpen := goodIn_r _ [8, 9, 10, 11, 12, 13, 14, 15, 16, 17, 18, 19, 20] (by decide +kernel) (by decide +kernel)
set_option maxRecDepth 20000 in
theorem gX4_isAsWanted_X4_isOpen : GoodIn wsX4_isAsWanted (wsV RX4 52 RX4 yX4_isOpen wsX4_isOpen) := goodIn_app (goodIn_of _ (by decide +kernel)) ggX4_isAsWanted_X4_isOpen
set_option maxRecDepth 20000 in
theorem ggX4_openOf_X4_isOpen : GoodIn wsX4_openOf wsX4_isOpen := goodIn_r _ [7, 8, 9, 10, 11, 12, 13, 14, 15, 16, 17, 18, 19] (by decide +kernel) (by decide +kernel)
set_option maxRecDepth 20000 in
theorem gX4_openOf_X4_isOpen : GoodIn wsX4_openOf (wsV RX4 52 RX4 yX4_isOpen wsX4_isOpen) := goodIn_app (goodIn_of _ (by decide +kernel)) ggX4_openOf_X4_isOpen
set_option maxRecDepth 20000 in
theorem ggX4_howManyOpen_X4_howManyEndedBy : GoodIn wsX4_howManyOpen wsX4_howManyEndedBy := goodIn_r _ [5, 6, 7, 8, 9, 10, 11, 12, 13, 14, 15, 16, 17, 18] (by decide +kernel) (by decide +kernel)
set_option maxRecDepth 20000 in
theorem gX4_howManyOpen_X4_howManyEndedBy : GoodIn wsX4_howManyOpen (wsV RX4 56 RX4 yX4_howManyEndedBy wsX4_howManyEndedBy) := goodIn_app (goodIn_of _ (by decide +kernel)) ggX4_howManyOpen_X4_howManyEndedBy
set_option maxRecDepth 20000 in
theorem ggX4_howManyAsWanted_X4_isAsWanted : GoodIn wsX4_howManyAsWanted wsX4_isAsWanted := goodIn_r _ [6, 7, 8, 9, 10, 11, 12, 5, 13, 14, 15, 16, 17, 18, 19, 20, 21, 22, 23, 24, 25] (by decide +kernel) (by decide +kernel)
set_option maxRecDepth 20000 in
theorem gX4_howManyAsWanted_X4_isAsWanted : GoodIn wsX4_howManyAsWanted (wsV RX4 60 RX4 yX4_isAsWanted wsX4_isAsWanted) := goodIn_app (goodIn_of _ (by decide +kernel)) ggX4_howManyAsWanted_X4_isAsWanted
set_option maxRecDepth 20000 in
theorem ggX4_howManyUnlikeEndings_X4_usedBy : GoodIn wsX4_howManyUnlikeEndings wsX4_usedBy := goodIn_r _ [5, 6, 7, 8, 16, 17, 18, 19, 20, 21, 22, 23, 24, 25, 26] (by decide +kernel) (by decide +kernel)
set_option maxRecDepth 20000 in
theorem gX4_howManyUnlikeEndings_X4_usedBy : GoodIn wsX4_howManyUnlikeEndings (wsV RX4 63 RX4 yX4_usedBy wsX4_usedBy) := goodIn_app (goodIn_of _ (by decide +kernel)) ggX4_howManyUnlikeEndings_X4_usedBy
set_option maxRecDepth 20000 in
theorem ggX4_howManyUnlikeEndings_J6_bitCount_0f7a4 : GoodIn wsX4_howManyUnlikeEndings wsJ6_bitCount_0f7a4 := goodIn_r _ [12, 13, 14, 15] (by decide +kernel) (by decide +kernel)
set_option maxRecDepth 20000 in
theorem gX4_howManyUnlikeEndings_J6_bitCount_0f7a4 : GoodIn wsX4_howManyUnlikeEndings (va_wsS RX4 66 yJ6_bitCount_0f7a4 wsJ6_bitCount_0f7a4) := goodIn_app (goodIn_of _ (by decide +kernel)) ggX4_howManyUnlikeEndings_J6_bitCount_0f7a4
set_option maxRecDepth 20000 in
theorem ggX5_run_X4_usedBy : GoodIn wsX5_run wsX4_usedBy := goodIn_r _ [9, 10, 11, 12, 46, 47, 48, 49, 50, 51, 52, 53, 54, 55, 56] (by decide +kernel) (by decide +kernel)
set_option maxRecDepth 20000 in
theorem gX5_run_X4_usedBy : GoodIn wsX5_run (wsV RX5 26 RX4 yX4_usedBy wsX4_usedBy) := goodIn_app (goodIn_of _ (by decide +kernel)) ggX5_run_X4_usedBy
set_option maxRecDepth 20000 in
theorem ggX5_run_X5_talkOnce : GoodIn wsX5_run wsX5_talkOnce := goodIn_r _ [17, 18, 19, 20, 21, 4, 2, 3, 22, 23, 24, 16, 25, 26, 1, 27, 28, 29, 30, 31, 32, 33, 34, 35, 36, 37, 38, 39, 40, 41, 57, 58, 59, 60, 46, 47, 48, 49, 50, 51, 52, 53, 54, 55, 56, 42, 43, 44, 45] (by decide +kernel) (by decide +kernel)
set_option maxRecDepth 20000 in
theorem gX5_run_X5_talkOnce : GoodIn wsX5_run (wsV RX5 32 RX5 yX5_talkOnce wsX5_talkOnce) := goodIn_app (goodIn_of _ (by decide +kernel)) ggX5_run_X5_talkOnce
set_option maxRecDepth 20000 in
theorem ggX5_talkOnce_X5_draw : GoodIn wsX5_talkOnce wsX5_draw := goodIn_r _ [12, 13, 14, 15, 16, 17, 45, 46, 47, 48] (by decide +kernel) (by decide +kernel)
set_option maxRecDepth 20000 in
theorem gX5_talkOnce_X5_draw : GoodIn wsX5_talkOnce (wsV RX5 41 RX5 yX5_draw wsX5_draw) := goodIn_app (goodIn_of _ (by decide +kernel)) ggX5_talkOnce_X5_draw
set_option maxRecDepth 20000 in
theorem ggX5_talkOnce_X6_endingBy : GoodIn wsX5_talkOnce wsX6_endingBy := goodIn_r _ [20, 21, 22, 19, 23, 24, 25, 26, 27, 28, 29] (by decide +kernel) (by decide +kernel)
set_option maxRecDepth 20000 in
theorem gX5_talkOnce_X6_endingBy_n53 : GoodIn wsX5_talkOnce (wsX6_endingBy) := ggX5_talkOnce_X6_endingBy
set_option maxRecDepth 20000 in
theorem ggX6_init_X1_init : GoodIn wsX6_init wsX1_init := goodIn_r _ [32, 33, 2, 3, 34, 35, 36, 79, 80] (by decide +kernel) (by decide +kernel)
set_option maxRecDepth 20000 in
theorem gX6_init_X1_init_n9 : GoodIn wsX6_init (wsX1_init) := ggX6_init_X1_init
set_option maxRecDepth 20000 in
theorem ggX6_init_X2_init : GoodIn wsX6_init wsX2_init := goodIn_r _ [38, 39, 2, 3, 40, 13, 14, 41, 42, 43, 44, 45, 46, 47, 34, 48, 49, 50, 51, 94, 95, 96, 97, 90, 91, 92, 93] (by decide +kernel) (by decide +kernel)
set_option maxRecDepth 20000 in
theorem gX6_init_X2_init_n18 : GoodIn wsX6_init (wsX2_init) := ggX6_init_X2_init
set_option maxRecDepth 20000 in
theorem ggX6_init_X3_init : GoodIn wsX6_init wsX3_init := goodIn_r _ [46, 47, 2, 3, 34, 48, 49, 50, 51, 94, 95, 96, 97] (by decide +kernel) (by decide +kernel)
set_option maxRecDepth 20000 in
theorem gX6_init_X3_init_n25 : GoodIn wsX6_init (wsX3_init) := ggX6_init_X3_init
set_option maxRecDepth 20000 in
theorem ggX6_init_X4_init : GoodIn wsX6_init wsX4_init := goodIn_r _ [53, 54, 2, 3, 34, 55, 56, 57, 58, 59, 60, 61, 62, 63, 64, 65, 98, 99, 100, 101, 102, 103, 104, 105, 106, 107, 108] (by decide +kernel) (by decide +kernel)
set_option maxRecDepth 20000 in
theorem gX6_init_X4_init_n32 : GoodIn wsX6_init (wsX4_init) := ggX6_init_X4_init
set_option maxRecDepth 20000 in
theorem ggX6_init_X0_init : GoodIn wsX6_init wsX0_init := goodIn_r _ [67, 68, 2, 3, 34, 69, 70, 71, 109, 110, 111] (by decide +kernel) (by decide +kernel)
set_option maxRecDepth 20000 in
theorem gX6_init_X0_init_n42 : GoodIn wsX6_init (wsX0_init) := ggX6_init_X0_init
set_option maxRecDepth 20000 in
theorem ggX6_init_X5_init : GoodIn wsX6_init wsX5_init := goodIn_r _ [73, 74, 2, 3, 34, 75, 76, 77, 78, 112, 113, 114, 115] (by decide +kernel) (by decide +kernel)
set_option maxRecDepth 20000 in
theorem gX6_init_X5_init_n49 : GoodIn wsX6_init (wsX5_init) := ggX6_init_X5_init
set_option maxRecDepth 20000 in
theorem ggX6_letter_X1_add : GoodIn wsX6_letter wsX1_add := goodIn_r _ [7, 8, 9, 19, 20] (by decide +kernel) (by decide +kernel)
set_option maxRecDepth 20000 in
theorem gX6_letter_X1_add : GoodIn wsX6_letter (wsV RX6 65 RX1 yX1_add wsX1_add) := goodIn_app (goodIn_of _ (by decide +kernel)) ggX6_letter_X1_add
set_option maxRecDepth 20000 in
theorem ggX6_fault_X2_read : GoodIn wsX6_fault wsX2_read := goodIn_r _ [7, 8, 9, 10, 11, 12, 13, 14, 15, 16, 17, 18, 19, 20, 21, 6, 22, 23, 24, 25, 26, 27, 28, 29, 30, 31, 32, 33, 34, 35, 36, 37, 38, 39, 40, 41, 42, 43, 44, 45, 46, 47, 48, 49, 50, 51, 52, 53, 54, 55, 56, 57, 58, 59, 60, 61, 62, 63, 64, 65, 66, 67, 68, 69, 70, 71, 72, 73, 74, 75, 76, 77, 78, 79, 80, 81, 82, 83, 84, 85, 86, 87, 88, 89, 90, 91, 92, 93, 94, 95, 96, 97, 98, 99, 100, 101, 102, 103, 104, 105, 106, 107, 108, 109, 110, 111, 112, 113, 114, 115, 116, 117, 118, 119, 120, 121, 122, 123, 124, 125, 126, 127, 128, 129, 130, 131, 132, 133, 134, 135, 136, 137, 138, 139, 140, 141, 142, 143, 144, 154, 155, 156, 157, 158, 159, 160, 161, 162, 163] (by decide +kernel) (by decide +kernel)
set_option maxRecDepth 20000 in
theorem gX6_fault_X2_read : GoodIn wsX6_fault (wsV RX6 69 RX2 yX2_read wsX2_read) := goodIn_app (goodIn_of _ (by decide +kernel)) ggX6_fault_X2_read
set_option maxRecDepth 20000 in
theorem ggX6_room_X2_read : GoodIn wsX6_room wsX2_read := goodIn_r _ [15, 16, 17, 18, 19, 20, 21, 22, 23, 24, 25, 26, 27, 28, 29, 14, 30, 31, 32, 33, 34, 35, 36, 37, 38, 39, 40, 41, 42, 43, 44, 45, 46, 47, 48, 49, 50, 51, 52, 53, 54, 55, 56, 57, 58, 59, 60, 61, 62, 63, 64, 65, 66, 67, 68, 69, 70, 71, 72, 73, 74, 75, 76, 77, 78, 79, 80, 81, 82, 83, 84, 85, 86, 87, 88, 89, 90, 91, 92, 93, 94, 95, 96, 97, 98, 99, 100, 101, 102, 103, 104, 105, 106, 107, 108, 109, 110, 111, 112, 113, 114, 115, 116, 117, 118, 119, 120, 121, 122, 123, 124, 125, 126, 127, 128, 129, 130, 131, 132, 133, 134, 135, 136, 137, 138, 139, 140, 141, 142, 143, 144, 145, 146, 147, 148, 149, 150, 151, 152, 188, 189, 190, 191, 186, 187, 192, 193, 194, 195] (by decide +kernel) (by decide +kernel)
set_option maxRecDepth 20000 in
theorem gX6_room_X2_read : GoodIn wsX6_room (wsV RX6 69 RX2 yX2_read wsX2_read) := goodIn_app (goodIn_of _ (by decide +kernel)) ggX6_room_X2_read
set_option maxRecDepth 20000 in
theorem ggX6_room_X2_hasWholeRoom : GoodIn wsX6_room wsX2_hasWholeRoom := goodIn_r _ [156, 16, 142, 31, 188, 189, 190, 191, 192, 193, 194, 195] (by decide +kernel) (by decide +kernel)
set_option maxRecDepth 20000 in
theorem gX6_room_X2_hasWholeRoom : GoodIn wsX6_room (wsV RX6 73 RX2 yX2_hasWholeRoom wsX2_hasWholeRoom) := goodIn_app (goodIn_of _ (by decide +kernel)) ggX6_room_X2_hasWholeRoom
set_option maxRecDepth 20000 in
theorem ggX6_room_X3_copyFrom : GoodIn wsX6_room wsX3_copyFrom := goodIn_r _ [160, 25, 161, 162, 163, 164, 165, 166, 26, 192, 193, 194, 195] (by decide +kernel) (by decide +kernel)
set_option maxRecDepth 20000 in
theorem gX6_room_X3_copyFrom : GoodIn wsX6_room (wsV RX6 80 RX3 yX3_copyFrom wsX3_copyFrom) := goodIn_app (goodIn_of _ (by decide +kernel)) ggX6_room_X3_copyFrom
set_option maxRecDepth 20000 in
theorem ggX6_room_X4_start : GoodIn wsX6_room wsX4_start := goodIn_r _ [171, 172, 173, 162, 163, 164, 174, 175, 176, 196, 197, 198, 199, 200, 201, 202, 203, 204, 205, 206] (by decide +kernel) (by decide +kernel)
set_option maxRecDepth 20000 in
theorem gX6_room_X4_start : GoodIn wsX6_room (wsV RX6 88 RX4 yX4_start wsX4_start) := goodIn_app (goodIn_of _ (by decide +kernel)) ggX6_room_X4_start
set_option maxRecDepth 20000 in
theorem ggX6_fits_X6_isOpening : GoodIn wsX6_fits wsX6_isOpening := goodIn_r _ [7] (by decide +kernel) (by decide +kernel)
set_option maxRecDepth 20000 in
theorem gX6_fits_X6_isOpening : GoodIn wsX6_fits (va_wsS RX6 95 yX6_isOpening wsX6_isOpening) := goodIn_app (goodIn_of _ (by decide +kernel)) ggX6_fits_X6_isOpening
set_option maxRecDepth 20000 in
theorem ggX6_about_X6_isSpeaker : GoodIn wsX6_about wsX6_isSpeaker := goodIn_r _ [9, 1, 10, 85, 86, 87, 88, 89, 90, 91, 92, 93, 94, 95, 96, 97] (by decide +kernel) (by decide +kernel)
set_option maxRecDepth 20000 in
theorem gX6_about_X6_isSpeaker : GoodIn wsX6_about (wsV RX6 102 RX6 yX6_isSpeaker wsX6_isSpeaker) := goodIn_app (goodIn_of _ (by decide +kernel)) ggX6_about_X6_isSpeaker
set_option maxRecDepth 20000 in
theorem ggX6_about_X4_usedBy : GoodIn wsX6_about wsX4_usedBy := goodIn_r _ [15, 16, 17, 18, 98, 99, 100, 101, 102, 103, 104, 105, 106, 107, 108] (by decide +kernel) (by decide +kernel)
set_option maxRecDepth 20000 in
theorem gX6_about_X4_usedBy : GoodIn wsX6_about (wsV RX6 109 RX4 yX4_usedBy wsX4_usedBy) := goodIn_app (goodIn_of _ (by decide +kernel)) ggX6_about_X4_usedBy
set_option maxRecDepth 20000 in
theorem ggX6_about_X4_openOf : GoodIn wsX6_about wsX4_openOf := goodIn_r _ [22, 16, 23, 24, 25, 26, 14, 27, 17, 98, 99, 100, 101, 102, 103, 104, 105, 106, 107, 108] (by decide +kernel) (by decide +kernel)
set_option maxRecDepth 20000 in
theorem gX6_about_X4_openOf : GoodIn wsX6_about (wsV RX6 113 RX4 yX4_openOf wsX4_openOf) := goodIn_app (goodIn_of _ (by decide +kernel)) ggX6_about_X4_openOf
set_option maxRecDepth 20000 in
theorem ggX6_about_X4_howManyBegunBy : GoodIn wsX6_about wsX4_howManyBegunBy := goodIn_r _ [31, 16, 23, 98, 99, 100, 101, 102, 103, 104, 105, 106, 107, 108] (by decide +kernel) (by decide +kernel)
set_option maxRecDepth 20000 in
theorem gX6_about_X4_howManyBegunBy : GoodIn wsX6_about (wsV RX6 116 RX4 yX4_howManyBegunBy wsX4_howManyBegunBy) := goodIn_app (goodIn_of _ (by decide +kernel)) ggX6_about_X4_howManyBegunBy
set_option maxRecDepth 20000 in
theorem ggX6_about_X4_howManyEndedBy : GoodIn wsX6_about wsX4_howManyEndedBy := goodIn_r _ [35, 16, 17, 98, 99, 100, 101, 102, 103, 104, 105, 106, 107, 108] (by decide +kernel) (by decide +kernel)
set_option maxRecDepth 20000 in
theorem gX6_about_X4_howManyEndedBy : GoodIn wsX6_about (wsV RX6 119 RX4 yX4_howManyEndedBy wsX4_howManyEndedBy) := goodIn_app (goodIn_of _ (by decide +kernel)) ggX6_about_X4_howManyEndedBy
set_option maxRecDepth 20000 in
theorem ggX6_about_X6_sureOpening : GoodIn wsX6_about wsX6_sureOpening := goodIn_r _ [39, 40, 41, 42, 8, 43, 1, 10, 3, 4, 44, 45, 46, 47, 2, 48, 11, 12, 13, 14, 15, 16, 17, 18, 49, 50, 51, 52, 53, 54, 55, 56, 57, 58, 59, 60, 85, 86, 87, 88, 89, 90, 91, 92, 93, 94, 95, 96, 97, 98, 99, 100, 101, 102, 103, 104, 105, 106, 107, 108] (by decide +kernel) (by decide +kernel)
set_option maxRecDepth 20000 in
theorem gX6_about_X6_sureOpening : GoodIn wsX6_about (wsV RX6 122 RX6 yX6_sureOpening wsX6_sureOpening) := goodIn_app (goodIn_of _ (by decide +kernel)) ggX6_about_X6_sureOpening
set_option maxRecDepth 20000 in
theorem ggX6_about_X6_possibleKinds : GoodIn wsX6_about wsX6_possibleKinds := goodIn_r _ [64, 65, 66, 67, 8, 68, 3, 69, 70, 1, 48, 71, 4, 72, 49, 50, 51, 52, 53, 54, 55, 56, 57, 58, 59, 60, 85, 86, 87, 88, 89, 90, 91, 92, 93, 98, 99, 100, 101, 102, 103, 104, 105, 106, 107, 108, 94, 95, 96, 97] (by decide +kernel) (by decide +kernel)
set_option maxRecDepth 20000 in
theorem gX6_about_X6_possibleKinds : GoodIn wsX6_about (wsV RX6 125 RX6 yX6_possibleKinds wsX6_possibleKinds) := goodIn_app (goodIn_of _ (by decide +kernel)) ggX6_about_X6_possibleKinds
set_option maxRecDepth 20000 in
theorem ggX6_about_X6_tellingOpening : GoodIn wsX6_about wsX6_tellingOpening := goodIn_r _ [76, 77, 78, 79, 8, 80, 1, 48, 3, 4, 81, 82, 83, 84, 52, 53, 54, 49, 50, 51, 55, 56, 57, 58, 59, 60, 85, 86, 87, 88, 89, 90, 91, 92, 93, 94, 95, 96, 97, 98, 99, 100, 101, 102, 103, 104, 105, 106, 107, 108] (by decide +kernel) (by decide +kernel)
set_option maxRecDepth 20000 in
theorem gX6_about_X6_tellingOpening : GoodIn wsX6_about (wsV RX6 128 RX6 yX6_tellingOpening wsX6_tellingOpening) := goodIn_app (goodIn_of _ (by decide +kernel)) ggX6_about_X6_tellingOpening
set_option maxRecDepth 20000 in
theorem ggX6_as_X6_isSpeaker : GoodIn wsX6_as wsX6_isSpeaker := goodIn_r _ [7, 1, 8, 12, 13, 14, 15, 16, 17, 18, 19, 20, 21, 22, 23, 24] (by decide +kernel) (by decide +kernel)
set_option maxRecDepth 20000 in
theorem gX6_as_X6_isSpeaker : GoodIn wsX6_as (wsV RX6 102 RX6 yX6_isSpeaker wsX6_isSpeaker) := goodIn_app (goodIn_of _ (by decide +kernel)) ggX6_as_X6_isSpeaker
set_option maxRecDepth 20000 in
theorem ggX6_as_X6_isOfKind : GoodIn wsX6_as wsX6_isOfKind := goodIn_r _ [11] (by decide +kernel) (by decide +kernel)
set_option maxRecDepth 20000 in
theorem gX6_as_X6_isOfKind : GoodIn wsX6_as (va_wsS RX6 132 yX6_isOfKind wsX6_isOfKind) := goodIn_app (goodIn_of _ (by decide +kernel)) ggX6_as_X6_isOfKind
set_option maxRecDepth 20000 in
theorem ggX6_want_X6_isSpeaker : GoodIn wsX6_want wsX6_isSpeaker := goodIn_r _ [8, 9, 10, 14, 15, 16, 17, 18, 19, 20, 21, 22, 34, 35, 36, 37] (by decide +kernel) (by decide +kernel)
set_option maxRecDepth 20000 in
theorem gX6_want_X6_isSpeaker : GoodIn wsX6_want (wsV RX6 102 RX6 yX6_isSpeaker wsX6_isSpeaker) := goodIn_app (goodIn_of _ (by decide +kernel)) ggX6_want_X6_isSpeaker
set_option maxRecDepth 20000 in
theorem ggX6_want_X6_isEnding : GoodIn wsX6_want wsX6_isEnding := goodIn_r _ [13] (by decide +kernel) (by decide +kernel)
set_option maxRecDepth 20000 in
theorem gX6_want_X6_isEnding : GoodIn wsX6_want (va_wsS RX6 136 yX6_isEnding wsX6_isEnding) := goodIn_app (goodIn_of _ (by decide +kernel)) ggX6_want_X6_isEnding
set_option maxRecDepth 20000 in
theorem ggX6_would_X6_isSpeaker : GoodIn wsX6_would wsX6_isSpeaker := goodIn_r _ [5, 6, 7, 39, 40, 41, 42, 43, 44, 45, 46, 47, 48, 49, 50, 51] (by decide +kernel) (by decide +kernel)
set_option maxRecDepth 20000 in
theorem gX6_would_X6_isSpeaker : GoodIn wsX6_would (wsV RX6 102 RX6 yX6_isSpeaker wsX6_isSpeaker) := goodIn_app (goodIn_of _ (by decide +kernel)) ggX6_would_X6_isSpeaker
set_option maxRecDepth 20000 in
theorem ggX6_would_X6_isOpening : GoodIn wsX6_would wsX6_isOpening := goodIn_r _ [10] (by decide +kernel) (by decide +kernel)
set_option maxRecDepth 20000 in
theorem gX6_would_X6_isOpening : GoodIn wsX6_would (va_wsS RX6 95 yX6_isOpening wsX6_isOpening) := goodIn_app (goodIn_of _ (by decide +kernel)) ggX6_would_X6_isOpening
set_option maxRecDepth 20000 in
theorem ggX6_would_X6_endingNow : GoodIn wsX6_would wsX6_endingNow := goodIn_r _ [14, 6, 15, 16, 17, 18, 19, 20, 21, 22, 23, 24, 25, 26, 27, 28, 4, 29, 30, 31, 32, 33, 34, 35, 36, 37, 38, 39, 40, 41, 42, 43, 44, 45, 46, 47, 48, 49, 50, 51, 52, 53, 54, 55, 56, 57, 58, 59, 60, 61, 62] (by decide +kernel) (by decide +kernel)
set_option maxRecDepth 20000 in
theorem gX6_would_X6_endingNow : GoodIn wsX6_would (wsV RX6 142 RX6 yX6_endingNow wsX6_endingNow) := goodIn_app (goodIn_of _ (by decide +kernel)) ggX6_would_X6_endingNow
set_option maxRecDepth 20000 in
theorem ggX6_begin_X6_isSpeaker : GoodIn wsX6_begin wsX6_isSpeaker := goodIn_r _ [7, 8, 9, 31, 32, 33, 34, 35, 36, 37, 38, 39, 51, 52, 53, 54] (by decide +kernel) (by decide +kernel)
set_option maxRecDepth 20000 in
theorem gX6_begin_X6_isSpeaker : GoodIn wsX6_begin (wsV RX6 102 RX6 yX6_isSpeaker wsX6_isSpeaker) := goodIn_app (goodIn_of _ (by decide +kernel)) ggX6_begin_X6_isSpeaker
set_option maxRecDepth 20000 in
theorem ggX6_begin_X6_isOpening : GoodIn wsX6_begin wsX6_isOpening := goodIn_r _ [12] (by decide +kernel) (by decide +kernel)
set_option maxRecDepth 20000 in
theorem gX6_begin_X6_isOpening : GoodIn wsX6_begin (va_wsS RX6 95 yX6_isOpening wsX6_isOpening) := goodIn_app (goodIn_of _ (by decide +kernel)) ggX6_begin_X6_isOpening
set_option maxRecDepth 20000 in
theorem ggX6_begin_X4_openOf : GoodIn wsX6_begin wsX4_openOf := goodIn_r _ [17, 18, 19, 20, 21, 22, 16, 23, 24, 40, 41, 42, 43, 44, 45, 46, 47, 48, 49, 50] (by decide +kernel) (by decide +kernel)
set_option maxRecDepth 20000 in
theorem gX6_begin_X4_openOf : GoodIn wsX6_begin (wsV RX6 113 RX4 yX4_openOf wsX4_openOf) := goodIn_app (goodIn_of _ (by decide +kernel)) ggX6_begin_X4_openOf
set_option maxRecDepth 20000 in
theorem ggX6_begin_X4_addSentence : GoodIn wsX6_begin wsX4_addSentence := goodIn_r _ [28, 18, 19, 29, 24, 30, 40, 41, 42, 43, 44, 45, 46, 47, 48, 49, 50] (by decide +kernel) (by decide +kernel)
set_option maxRecDepth 20000 in
theorem gX6_begin_X4_addSentence : GoodIn wsX6_begin (wsV RX6 148 RX4 yX4_addSentence wsX4_addSentence) := goodIn_app (goodIn_of _ (by decide +kernel)) ggX6_begin_X4_addSentence
set_option maxRecDepth 20000 in
theorem ggX6_end_X6_isSentence : GoodIn wsX6_end wsX6_isSentence := goodIn_r _ [10, 1, 11, 49, 50, 51, 52, 53, 54, 55, 56, 57, 58, 59, 60, 61, 62, 63, 64, 65, 66, 67, 68] (by decide +kernel) (by decide +kernel)
set_option maxRecDepth 20000 in
theorem gX6_end_X6_isSentence : GoodIn wsX6_end (wsV RX6 151 RX6 yX6_isSentence wsX6_isSentence) := goodIn_app (goodIn_of _ (by decide +kernel)) ggX6_end_X6_isSentence
set_option maxRecDepth 20000 in
theorem ggX6_end_X6_isSpeaker : GoodIn wsX6_end wsX6_isSpeaker := goodIn_r _ [15, 16, 17, 49, 50, 51, 52, 53, 54, 55, 56, 57, 69, 70, 71, 72] (by decide +kernel) (by decide +kernel)
set_option maxRecDepth 20000 in
theorem gX6_end_X6_isSpeaker : GoodIn wsX6_end (wsV RX6 102 RX6 yX6_isSpeaker wsX6_isSpeaker) := goodIn_app (goodIn_of _ (by decide +kernel)) ggX6_end_X6_isSpeaker
set_option maxRecDepth 20000 in
theorem ggX6_end_X4_isOpen : GoodIn wsX6_end wsX4_isOpen := goodIn_r _ [22, 23, 58, 59, 60, 61, 62, 63, 64, 65, 66, 67, 68] (by decide +kernel) (by decide +kernel)
set_option maxRecDepth 20000 in
theorem gX6_end_X4_isOpen : GoodIn wsX6_end (wsV RX6 154 RX4 yX4_isOpen wsX4_isOpen) := goodIn_app (goodIn_of _ (by decide +kernel)) ggX6_end_X4_isOpen
set_option maxRecDepth 20000 in
theorem ggX6_end_X6_endingNow : GoodIn wsX6_end wsX6_endingNow := goodIn_r _ [27, 16, 28, 29, 1, 30, 31, 32, 33, 21, 34, 35, 23, 36, 37, 38, 9, 39, 40, 41, 42, 43, 44, 45, 46, 47, 48, 49, 50, 51, 52, 53, 54, 55, 56, 57, 69, 70, 71, 72, 58, 59, 60, 61, 62, 63, 64, 65, 66, 67, 68] (by decide +kernel) (by decide +kernel)
set_option maxRecDepth 20000 in
theorem gX6_end_X6_endingNow : GoodIn wsX6_end (wsV RX6 142 RX6 yX6_endingNow wsX6_endingNow) := goodIn_app (goodIn_of _ (by decide +kernel)) ggX6_end_X6_endingNow
set_option maxRecDepth 20000 in
theorem ggX6_sentence_X6_isSentence : GoodIn wsX6_sentence wsX6_isSentence := goodIn_r _ [10, 1, 11, 25, 26, 27, 28, 29, 30, 31, 32, 33, 34, 35, 36, 37, 38, 39, 40, 41, 42, 43, 44] (by decide +kernel) (by decide +kernel)
set_option maxRecDepth 20000 in
theorem gX6_sentence_X6_isSentence : GoodIn wsX6_sentence (wsV RX6 151 RX6 yX6_isSentence wsX6_isSentence) := goodIn_app (goodIn_of _ (by decide +kernel)) ggX6_sentence_X6_isSentence
set_option maxRecDepth 20000 in
theorem ggX6_sentence_X4_isAsWanted : GoodIn wsX6_sentence wsX4_isAsWanted := goodIn_r _ [16, 17, 18, 19, 20, 21, 22, 15, 23, 24, 34, 35, 36, 37, 38, 39, 40, 41, 42, 43, 44] (by decide +kernel) (by decide +kernel)
set_option maxRecDepth 20000 in
theorem gX6_sentence_X4_isAsWanted : GoodIn wsX6_sentence (wsV RX6 169 RX4 yX4_isAsWanted wsX4_isAsWanted) := goodIn_app (goodIn_of _ (by decide +kernel)) ggX6_sentence_X4_isAsWanted
set_option maxRecDepth 20000 in
theorem ggX6_match_X6_findPleasing : GoodIn wsX6_match wsX6_findPleasing := goodIn_r _ [10, 3, 11, 12, 13, 14, 15, 16, 9, 17, 1, 2, 18, 19, 20, 21, 22, 23, 24, 25, 26, 27, 28, 29, 30, 31, 32, 33, 34, 35, 36, 37, 38, 39, 40, 41, 42, 43, 44, 45, 46, 47, 48, 49, 50, 51, 52, 53, 54, 74, 75, 76, 77, 78, 79, 80, 81, 82, 87, 88, 89, 90, 91, 92, 93, 94, 95, 96, 97, 98, 99, 100, 83, 84, 85, 86] (by decide +kernel) (by decide +kernel)
set_option maxRecDepth 20000 in
theorem gX6_match_X6_findPleasing : GoodIn wsX6_match (wsV RX6 172 RX6 yX6_findPleasing wsX6_findPleasing) := goodIn_app (goodIn_of _ (by decide +kernel)) ggX6_match_X6_findPleasing
set_option maxRecDepth 20000 in
theorem ggX6_match_X0_solve : GoodIn wsX6_match wsX0_solve := goodIn_r _ [59, 60, 61, 62, 63, 64, 58, 65, 66, 67, 68, 69, 47, 9, 48, 70, 71, 72, 73, 87, 88, 89] (by decide +kernel) (by decide +kernel)
set_option maxRecDepth 20000 in
theorem gX6_match_X0_solve : GoodIn wsX6_match (wsV RX6 175 RX0 yX0_solve wsX0_solve) := goodIn_app (goodIn_of _ (by decide +kernel)) ggX6_match_X0_solve
set_option maxRecDepth 20000 in
theorem ggX6_hear_X6_isSpeaker : GoodIn wsX6_hear wsX6_isSpeaker := goodIn_r _ [7, 8, 9, 25, 26, 27, 28, 29, 30, 31, 32, 33, 45, 46, 47, 48] (by decide +kernel) (by decide +kernel)
set_option maxRecDepth 20000 in
theorem gX6_hear_X6_isSpeaker : GoodIn wsX6_hear (wsV RX6 102 RX6 yX6_isSpeaker wsX6_isSpeaker) := goodIn_app (goodIn_of _ (by decide +kernel)) ggX6_hear_X6_isSpeaker
set_option maxRecDepth 20000 in
theorem ggX6_hear_X6_isOpening : GoodIn wsX6_hear wsX6_isOpening := goodIn_r _ [12] (by decide +kernel) (by decide +kernel)
set_option maxRecDepth 20000 in
theorem gX6_hear_X6_isOpening : GoodIn wsX6_hear (va_wsS RX6 95 yX6_isOpening wsX6_isOpening) := goodIn_app (goodIn_of _ (by decide +kernel)) ggX6_hear_X6_isOpening
set_option maxRecDepth 20000 in
theorem ggX6_hear_X6_isEnding : GoodIn wsX6_hear wsX6_isEnding := goodIn_r _ [15] (by decide +kernel) (by decide +kernel)
set_option maxRecDepth 20000 in
theorem gX6_hear_X6_isEnding : GoodIn wsX6_hear (va_wsS RX6 136 yX6_isEnding wsX6_isEnding) := goodIn_app (goodIn_of _ (by decide +kernel)) ggX6_hear_X6_isEnding
set_option maxRecDepth 20000 in
theorem ggX6_hear_X4_addHeard : GoodIn wsX6_hear wsX4_addHeard := goodIn_r _ [20, 21, 22, 23, 24, 34, 35, 36, 37, 38, 39, 40, 41, 42, 43, 44] (by decide +kernel) (by decide +kernel)
set_option maxRecDepth 20000 in
theorem gX6_hear_X4_addHeard : GoodIn wsX6_hear (wsV RX6 187 RX4 yX4_addHeard wsX4_addHeard) := goodIn_app (goodIn_of _ (by decide +kernel)) ggX6_hear_X4_addHeard
set_option maxRecDepth 20000 in
theorem ggX6_talks_X5_run : GoodIn wsX6_talks wsX5_run := goodIn_r _ [12, 13, 14, 15, 16, 17, 18, 19, 20, 21, 22, 23, 24, 25, 26, 27, 11, 28, 29, 30, 31, 32, 33, 34, 35, 36, 37, 38, 39, 40, 41, 42, 43, 44, 45, 46, 47, 48, 49, 50, 51, 52, 66, 67, 68, 69, 70, 71, 72, 73, 74, 75, 76, 77, 78, 79, 80, 62, 63, 64, 65] (by decide +kernel) (by decide +kernel)
set_option maxRecDepth 20000 in
theorem gX6_talks_X5_run : GoodIn wsX6_talks (wsV RX6 191 RX5 yX5_run wsX5_run) := goodIn_app (goodIn_of _ (by decide +kernel)) ggX6_talks_X5_run
set_option maxRecDepth 20000 in
theorem ggX6_image_X4_copyFrom : GoodIn wsX6_image wsX4_copyFrom := goodIn_r _ [11, 12, 13, 14, 15, 16, 17, 18, 19, 20, 21, 22, 23, 24, 25, 26, 40, 41, 42, 43, 44, 45, 46, 47, 48, 49, 50] (by decide +kernel) (by decide +kernel)
set_option maxRecDepth 20000 in
theorem gX6_image_X4_copyFrom : GoodIn wsX6_image (wsV RX6 203 RX4 yX4_copyFrom wsX4_copyFrom) := goodIn_app (goodIn_of _ (by decide +kernel)) ggX6_image_X4_copyFrom
set_option maxRecDepth 20000 in
theorem ggX6_restore_X4_copyFrom : GoodIn wsX6_restore wsX4_copyFrom := goodIn_r _ [9, 10, 11, 12, 13, 14, 15, 16, 17, 18, 19, 20, 21, 22, 23, 24, 34, 35, 36, 37, 38, 39, 40, 41, 42, 43, 44] (by decide +kernel) (by decide +kernel)
set_option maxRecDepth 20000 in
theorem gX6_restore_X4_copyFrom : GoodIn wsX6_restore (wsV RX6 203 RX4 yX4_copyFrom wsX4_copyFrom) := goodIn_app (goodIn_of _ (by decide +kernel)) ggX6_restore_X4_copyFrom
set_option maxRecDepth 20000 in
theorem ggX6_count_X4_howManyOpen : GoodIn wsX6_count wsX4_howManyOpen := goodIn_r _ [14, 15, 16, 17, 13, 18, 19, 20, 64, 65, 66, 67, 68, 69, 70, 71, 72, 73, 74] (by decide +kernel) (by decide +kernel)
set_option maxRecDepth 20000 in
theorem gX6_count_X4_howManyOpen : GoodIn wsX6_count (wsV RX6 206 RX4 yX4_howManyOpen wsX4_howManyOpen) := goodIn_app (goodIn_of _ (by decide +kernel)) ggX6_count_X4_howManyOpen
set_option maxRecDepth 20000 in
theorem ggX6_count_X4_howManyAsWanted : GoodIn wsX6_count wsX4_howManyAsWanted := goodIn_r _ [24, 19, 25, 26, 27, 13, 28, 29, 30, 31, 32, 33, 34, 35, 20, 64, 65, 66, 67, 68, 69, 70, 71, 72, 73, 74] (by decide +kernel) (by decide +kernel)
set_option maxRecDepth 20000 in
theorem gX6_count_X4_howManyAsWanted : GoodIn wsX6_count (wsV RX6 210 RX4 yX4_howManyAsWanted wsX4_howManyAsWanted) := goodIn_app (goodIn_of _ (by decide +kernel)) ggX6_count_X4_howManyAsWanted
set_option maxRecDepth 20000 in
theorem ggX6_count_X4_howManyUnlikeEndings : GoodIn wsX6_count wsX4_howManyUnlikeEndings := goodIn_r _ [39, 40, 41, 42, 13, 43, 19, 20, 29, 44, 45, 46, 47, 48, 49, 50, 64, 65, 66, 67, 68, 69, 70, 71, 72, 73, 74] (by decide +kernel) (by decide +kernel)
set_option maxRecDepth 20000 in
theorem gX6_count_X4_howManyUnlikeEndings : GoodIn wsX6_count (wsV RX6 213 RX4 yX4_howManyUnlikeEndings wsX4_howManyUnlikeEndings) := goodIn_app (goodIn_of _ (by decide +kernel)) ggX6_count_X4_howManyUnlikeEndings
set_option maxRecDepth 20000 in
theorem ggX6_digest_X6_mixed : GoodIn wsX6_digest wsX6_mixed := goodIn_r _ [13, 14] (by decide +kernel) (by decide +kernel)
set_option maxRecDepth 20000 in
theorem gX6_digest_X6_mixed : GoodIn wsX6_digest (va_wsS RX6 218 yX6_mixed wsX6_mixed) := goodIn_app (goodIn_of _ (by decide +kernel)) ggX6_digest_X6_mixed
set_option maxRecDepth 20000 in
theorem ggX6_digest_X6_about : GoodIn wsX6_digest wsX6_about := goodIn_r _ [18, 2, 19, 5, 20, 21, 22, 23, 12, 24, 3, 25, 26, 27, 28, 29, 30, 31, 32, 33, 34, 35, 36, 37, 38, 39, 40, 41, 42, 43, 44, 45, 46, 47, 48, 49, 50, 51, 52, 53, 54, 55, 56, 57, 58, 59, 60, 61, 4, 62, 63, 64, 65, 66, 67, 68, 69, 70, 71, 72, 73, 74, 75, 76, 77, 78, 79, 80, 81, 82, 83, 84, 85, 86, 87, 88, 89, 90, 91, 92, 93, 94, 95, 96, 97, 176, 177, 178, 179, 180, 181, 182, 183, 184, 185, 186, 187, 188, 189, 190, 191, 192, 193, 194, 195, 196, 197, 198, 199] (by decide +kernel) (by decide +kernel)
set_option maxRecDepth 20000 in
theorem gX6_digest_X6_about : GoodIn wsX6_digest (wsV RX6 222 RX6 yX6_about wsX6_about) := goodIn_app (goodIn_of _ (by decide +kernel)) ggX6_digest_X6_about
set_option maxRecDepth 20000 in
theorem ggX6_digest_X6_endingNow : GoodIn wsX6_digest wsX6_endingNow := goodIn_r _ [61, 2, 19, 4, 5, 20, 25, 26, 27, 28, 29, 30, 31, 32, 62, 63, 12, 64, 65, 66, 67, 68, 69, 70, 71, 72, 73, 176, 177, 178, 179, 180, 181, 182, 183, 184, 185, 186, 187, 188, 189, 190, 191, 192, 193, 194, 195, 196, 197, 198, 199] (by decide +kernel) (by decide +kernel)
set_option maxRecDepth 20000 in
theorem gX6_digest_X6_endingNow : GoodIn wsX6_digest (wsV RX6 142 RX6 yX6_endingNow wsX6_endingNow) := goodIn_app (goodIn_of _ (by decide +kernel)) ggX6_digest_X6_endingNow
set_option maxRecDepth 20000 in
theorem ggX6_digest_X6_sentence : GoodIn wsX6_digest wsX6_sentence := goodIn_r _ [101, 5, 102, 103, 104, 105, 106, 107, 108, 12, 109, 6, 110, 111, 112, 28, 113, 32, 114, 37, 38, 39, 40, 41, 31, 176, 177, 178, 179, 180, 181, 182, 183, 184, 189, 190, 191, 192, 193, 194, 195, 196, 197, 198, 199] (by decide +kernel) (by decide +kernel)
set_option maxRecDepth 20000 in
theorem gX6_digest_X6_sentence : GoodIn wsX6_digest (wsV RX6 225 RX6 yX6_sentence wsX6_sentence) := goodIn_app (goodIn_of _ (by decide +kernel)) ggX6_digest_X6_sentence
set_option maxRecDepth 20000 in
theorem ggX6_digest_X6_match : GoodIn wsX6_digest wsX6_match := goodIn_r _ [118, 2, 3, 119, 120, 121, 122, 123, 124, 12, 125, 126, 5, 6, 21, 22, 23, 24, 127, 128, 129, 130, 102, 103, 20, 131, 39, 40, 28, 41, 31, 58, 59, 60, 61, 19, 4, 25, 26, 27, 29, 30, 32, 62, 63, 64, 65, 66, 67, 68, 69, 70, 71, 72, 73, 132, 133, 134, 135, 136, 137, 138, 139, 140, 141, 142, 143, 95, 96, 97, 144, 145, 146, 147, 176, 177, 178, 179, 180, 181, 182, 183, 184, 185, 186, 187, 188, 202, 203, 204, 189, 190, 191, 192, 193, 194, 195, 196, 197, 198, 199] (by decide +kernel) (by decide +kernel)
set_option maxRecDepth 20000 in
theorem gX6_digest_X6_match : GoodIn wsX6_digest (wsV RX6 228 RX6 yX6_match wsX6_match) := goodIn_app (goodIn_of _ (by decide +kernel)) ggX6_digest_X6_match
set_option maxRecDepth 20000 in
theorem ggX6_digest_X6_count : GoodIn wsX6_digest wsX6_count := goodIn_r _ [151, 2, 3, 5, 6, 152, 82, 7, 8, 153, 154, 155, 156, 28, 157, 158, 47, 48, 49, 30, 31, 159, 160, 161, 162, 163, 111, 112, 113, 32, 114, 37, 38, 39, 40, 41, 164, 165, 166, 167, 168, 26, 27, 29, 169, 170, 171, 172, 173, 174, 175, 176, 177, 178, 179, 180, 181, 182, 183, 184, 185, 186, 187, 188, 189, 190, 191, 192, 193, 194, 195, 196, 197, 198, 199, 200, 201] (by decide +kernel) (by decide +kernel)
set_option maxRecDepth 20000 in
theorem gX6_digest_X6_count : GoodIn wsX6_digest (wsV RX6 234 RX6 yX6_count wsX6_count) := goodIn_app (goodIn_of _ (by decide +kernel)) ggX6_digest_X6_count
set_option maxRecDepth 20000 in
theorem ggX6_endingBy_X6_has : GoodIn wsX6_endingBy wsX6_has := goodIn_r _ [4] (by decide +kernel) (by decide +kernel)
set_option maxRecDepth 20000 in
theorem gX6_endingBy_X6_has : GoodIn wsX6_endingBy (va_wsS RX6 239 yX6_has wsX6_has) := goodIn_app (goodIn_of _ (by decide +kernel)) ggX6_endingBy_X6_has
set_option maxRecDepth 20000 in
theorem ggX6_endingBy_X6_greatest : GoodIn wsX6_endingBy wsX6_greatest := goodIn_r _ [7] (by decide +kernel) (by decide +kernel)
set_option maxRecDepth 20000 in
theorem gX6_endingBy_X6_greatest : GoodIn wsX6_endingBy (va_wsS RX6 242 yX6_greatest wsX6_greatest) := goodIn_app (goodIn_of _ (by decide +kernel)) ggX6_endingBy_X6_greatest
set_option maxRecDepth 20000 in
theorem ggX6_endingBy_X6_least : GoodIn wsX6_endingBy wsX6_least := goodIn_r _ [10] (by decide +kernel) (by decide +kernel)
set_option maxRecDepth 20000 in
theorem gX6_endingBy_X6_least : GoodIn wsX6_endingBy (va_wsS RX6 245 yX6_least wsX6_least) := goodIn_app (goodIn_of _ (by decide +kernel)) ggX6_endingBy_X6_least
set_option maxRecDepth 20000 in
theorem ggX6_endingNow_X4_usedBy : GoodIn wsX6_endingNow wsX4_usedBy := goodIn_r _ [10, 11, 12, 13, 40, 41, 42, 43, 44, 45, 46, 47, 48, 49, 50] (by decide +kernel) (by decide +kernel)
set_option maxRecDepth 20000 in
theorem gX6_endingNow_X4_usedBy : GoodIn wsX6_endingNow (wsV RX6 109 RX4 yX4_usedBy wsX4_usedBy) := goodIn_app (goodIn_of _ (by decide +kernel)) ggX6_endingNow_X4_usedBy
set_option maxRecDepth 20000 in
theorem ggX6_endingNow_X6_endingBy : GoodIn wsX6_endingNow wsX6_endingBy := goodIn_r _ [17, 18, 19, 16, 20, 21, 22, 23, 24, 25, 26] (by decide +kernel) (by decide +kernel)
set_option maxRecDepth 20000 in
theorem gX6_endingNow_X6_endingBy : GoodIn wsX6_endingNow (va_wsS RX6 248 yX6_endingBy wsX6_endingBy) := goodIn_app (goodIn_of _ (by decide +kernel)) ggX6_endingNow_X6_endingBy
set_option maxRecDepth 20000 in
theorem ggX6_sureOpening_X6_isSure : GoodIn wsX6_sureOpening wsX6_isSure := goodIn_r _ [5, 6, 7, 8, 9, 10, 11, 12, 4, 13, 14, 15, 16, 17, 18, 19, 20, 21, 22, 23, 24, 25, 26, 27, 28, 29, 30, 31, 32, 33, 34, 35, 36, 37, 38, 39, 40, 41, 42, 43, 44, 45, 46, 47, 48, 49, 50, 51, 52, 53, 54, 55, 56, 57, 58, 59] (by decide +kernel) (by decide +kernel)
set_option maxRecDepth 20000 in
theorem gX6_sureOpening_X6_isSure : GoodIn wsX6_sureOpening (wsV RX6 252 RX6 yX6_isSure wsX6_isSure) := goodIn_app (goodIn_of _ (by decide +kernel)) ggX6_sureOpening_X6_isSure
set_option maxRecDepth 20000 in
theorem ggX6_isSure_X6_endingNow : GoodIn wsX6_isSure wsX6_endingNow := goodIn_r _ [9, 1, 10, 11, 3, 4, 12, 13, 14, 15, 16, 17, 18, 19, 20, 21, 8, 22, 23, 24, 25, 26, 27, 28, 29, 30, 31, 32, 33, 34, 35, 36, 37, 38, 39, 40, 41, 42, 43, 44, 45, 46, 47, 48, 49, 50, 51, 52, 53, 54, 55] (by decide +kernel) (by decide +kernel)
set_option maxRecDepth 20000 in
theorem gX6_isSure_X6_endingNow : GoodIn wsX6_isSure (wsV RX6 142 RX6 yX6_endingNow wsX6_endingNow) := goodIn_app (goodIn_of _ (by decide +kernel)) ggX6_isSure_X6_endingNow
set_option maxRecDepth 20000 in
theorem ggX6_possibleKinds_X6_agreesWithHeard : GoodIn wsX6_possibleKinds wsX6_agreesWithHeard := goodIn_r _ [5, 6, 7, 8, 9, 10, 11, 12, 13, 14, 15, 4, 16, 17, 18, 19, 20, 21, 22, 23, 24, 25, 26, 27, 28, 29, 30, 31, 32, 33, 34, 35, 36, 37, 38, 39, 40, 41, 42, 43, 44, 45, 46, 47, 48, 49] (by decide +kernel) (by decide +kernel)
set_option maxRecDepth 20000 in
theorem gX6_possibleKinds_X6_agreesWithHeard : GoodIn wsX6_possibleKinds (wsV RX6 255 RX6 yX6_agreesWithHeard wsX6_agreesWithHeard) := goodIn_app (goodIn_of _ (by decide +kernel)) ggX6_possibleKinds_X6_agreesWithHeard
set_option maxRecDepth 20000 in
theorem ggX6_agreesWithHeard_X6_endingBy : GoodIn wsX6_agreesWithHeard wsX6_endingBy := goodIn_r _ [12, 13, 14, 11, 15, 16, 17, 18, 19, 20, 21] (by decide +kernel) (by decide +kernel)
set_option maxRecDepth 20000 in
theorem gX6_agreesWithHeard_X6_endingBy : GoodIn wsX6_agreesWithHeard (va_wsS RX6 248 yX6_endingBy wsX6_endingBy) := goodIn_app (goodIn_of _ (by decide +kernel)) ggX6_agreesWithHeard_X6_endingBy
set_option maxRecDepth 20000 in
theorem ggX6_tellingOpening_X6_mostKindsLeft : GoodIn wsX6_tellingOpening wsX6_mostKindsLeft := goodIn_r _ [5, 6, 7, 8, 9, 10, 11, 12, 13, 14, 15, 4, 16, 17, 18, 19, 20, 21, 22, 23, 24, 25, 26, 27, 28, 29, 30, 31, 32, 33, 34, 35, 36, 37, 38, 39, 40, 41, 42, 43, 44, 45, 46, 47, 48, 49] (by decide +kernel) (by decide +kernel)
set_option maxRecDepth 20000 in
theorem gX6_tellingOpening_X6_mostKindsLeft : GoodIn wsX6_tellingOpening (wsV RX6 267 RX6 yX6_mostKindsLeft wsX6_mostKindsLeft) := goodIn_app (goodIn_of _ (by decide +kernel)) ggX6_tellingOpening_X6_mostKindsLeft
set_option maxRecDepth 20000 in
theorem ggX6_mostKindsLeft_X6_has : GoodIn wsX6_mostKindsLeft wsX6_has := goodIn_r _ [12] (by decide +kernel) (by decide +kernel)
set_option maxRecDepth 20000 in
theorem gX6_mostKindsLeft_X6_has : GoodIn wsX6_mostKindsLeft (va_wsS RX6 239 yX6_has wsX6_has) := goodIn_app (goodIn_of _ (by decide +kernel)) ggX6_mostKindsLeft_X6_has
set_option maxRecDepth 20000 in
theorem ggX6_mostKindsLeft_X6_endingBy : GoodIn wsX6_mostKindsLeft wsX6_endingBy := goodIn_r _ [15, 9, 10, 11, 12, 16, 17, 18, 19, 20, 21] (by decide +kernel) (by decide +kernel)
set_option maxRecDepth 20000 in
theorem gX6_mostKindsLeft_X6_endingBy : GoodIn wsX6_mostKindsLeft (va_wsS RX6 248 yX6_endingBy wsX6_endingBy) := goodIn_app (goodIn_of _ (by decide +kernel)) ggX6_mostKindsLeft_X6_endingBy
set_option maxRecDepth 20000 in
theorem ggX6_findPleasing_X6_isSpeaker : GoodIn wsX6_findPleasing wsX6_isSpeaker := goodIn_r _ [9, 10, 11, 49, 50, 51, 52, 53, 54, 55, 56, 57, 72, 73, 74, 75] (by decide +kernel) (by decide +kernel)
set_option maxRecDepth 20000 in
theorem gX6_findPleasing_X6_isSpeaker : GoodIn wsX6_findPleasing (wsV RX6 102 RX6 yX6_isSpeaker wsX6_isSpeaker) := goodIn_app (goodIn_of _ (by decide +kernel)) ggX6_findPleasing_X6_isSpeaker
set_option maxRecDepth 20000 in
theorem ggX6_findPleasing_X6_wouldPlease : GoodIn wsX6_findPleasing wsX6_wouldPlease := goodIn_r _ [15, 3, 16, 17, 18, 19, 20, 21, 22, 23, 24, 25, 26, 27, 8, 28, 10, 29, 30, 31, 32, 33, 34, 35, 36, 37, 38, 39, 40, 41, 42, 43, 44, 45, 46, 47, 48, 49, 50, 51, 52, 53, 54, 55, 56, 57, 61, 62, 63, 64, 65, 66, 67, 68, 69, 70, 71, 72, 73, 74, 75] (by decide +kernel) (by decide +kernel)
set_option maxRecDepth 20000 in
theorem gX6_findPleasing_X6_wouldPlease : GoodIn wsX6_findPleasing (wsV RX6 279 RX6 yX6_wouldPlease wsX6_wouldPlease) := goodIn_app (goodIn_of _ (by decide +kernel)) ggX6_findPleasing_X6_wouldPlease
set_option maxRecDepth 20000 in
theorem ggX6_wouldPlease_X4_isOpen : GoodIn wsX6_wouldPlease wsX4_isOpen := goodIn_r _ [9, 10, 46, 47, 48, 49, 50, 51, 52, 53, 54, 55, 56] (by decide +kernel) (by decide +kernel)
set_option maxRecDepth 20000 in
theorem gX6_wouldPlease_X4_isOpen : GoodIn wsX6_wouldPlease (wsV RX6 154 RX4 yX4_isOpen wsX4_isOpen) := goodIn_app (goodIn_of _ (by decide +kernel)) ggX6_wouldPlease_X4_isOpen
set_option maxRecDepth 20000 in
theorem ggX6_wouldPlease_X6_endingNow : GoodIn wsX6_wouldPlease wsX6_endingNow := goodIn_r _ [15, 16, 17, 18, 1, 4, 19, 20, 21, 8, 22, 23, 10, 24, 25, 26, 14, 27, 28, 29, 30, 31, 32, 33, 34, 35, 36, 37, 38, 39, 40, 41, 42, 43, 44, 45, 57, 58, 59, 60, 46, 47, 48, 49, 50, 51, 52, 53, 54, 55, 56] (by decide +kernel) (by decide +kernel)
set_option maxRecDepth 20000 in
theorem gX6_wouldPlease_X6_endingNow : GoodIn wsX6_wouldPlease (wsV RX6 142 RX6 yX6_endingNow wsX6_endingNow) := goodIn_app (goodIn_of _ (by decide +kernel)) ggX6_wouldPlease_X6_endingNow
set_option maxRecDepth 20000 in
theorem ggX7_letter_X7_in : GoodIn wsX7_letter wsX7_in := goodIn_r _ [7] (by decide +kernel) (by decide +kernel)
set_option maxRecDepth 20000 in
theorem gX7_letter_X7_in : GoodIn wsX7_letter (va_wsS RX7 58 yX7_in wsX7_in) := goodIn_app (goodIn_of _ (by decide +kernel)) ggX7_letter_X7_in
set_option maxRecDepth 20000 in
theorem ggX7_goOpening_X7_in : GoodIn wsX7_goOpening wsX7_in := goodIn_r _ [9] (by decide +kernel) (by decide +kernel)
set_option maxRecDepth 20000 in
theorem gX7_goOpening_X7_in : GoodIn wsX7_goOpening (va_wsS RX7 58 yX7_in wsX7_in) := goodIn_app (goodIn_of _ (by decide +kernel)) ggX7_goOpening_X7_in
set_option maxRecDepth 20000 in
theorem ggX7_goSpeaker_X7_kindBy : GoodIn wsX7_goSpeaker wsX7_kindBy := goodIn_r _ [9] (by decide +kernel) (by decide +kernel)
set_option maxRecDepth 20000 in
theorem gX7_goSpeaker_X7_kindBy : GoodIn wsX7_goSpeaker (va_wsS RX7 82 yX7_kindBy wsX7_kindBy) := goodIn_app (goodIn_of _ (by decide +kernel)) ggX7_goSpeaker_X7_kindBy
set_option maxRecDepth 20000 in
theorem ggX7_goSpeaker_X7_in : GoodIn wsX7_goSpeaker wsX7_in := goodIn_r _ [12] (by decide +kernel) (by decide +kernel)
set_option maxRecDepth 20000 in
theorem gX7_goSpeaker_X7_in : GoodIn wsX7_goSpeaker (va_wsS RX7 58 yX7_in wsX7_in) := goodIn_app (goodIn_of _ (by decide +kernel)) ggX7_goSpeaker_X7_in
set_option maxRecDepth 20000 in
theorem ggX7_faultOf_X7_goOpening : GoodIn wsX7_faultOf wsX7_goOpening := goodIn_r _ [12, 2, 1, 3, 13, 14, 15, 16, 11, 17, 28, 29, 30, 31, 32, 33, 34, 35, 36, 37, 38, 39, 40, 41, 42, 43, 44, 45, 46, 47, 48, 49, 50, 51, 52, 53, 54, 55, 56, 57, 58] (by decide +kernel) (by decide +kernel)
set_option maxRecDepth 20000 in
theorem gX7_faultOf_X7_goOpening : GoodIn wsX7_faultOf (wsV RX7 90 RX7 yX7_goOpening wsX7_goOpening) := goodIn_app (goodIn_of _ (by decide +kernel)) ggX7_faultOf_X7_goOpening
set_option maxRecDepth 20000 in
theorem ggX7_faultOf_X7_goSpeaker : GoodIn wsX7_faultOf wsX7_goSpeaker := goodIn_r _ [21, 5, 22, 4, 23, 24, 25, 26, 11, 27, 15, 16, 17, 28, 29, 30, 31, 32, 33, 34, 35, 36, 37, 38, 39, 40, 41, 42, 43, 44, 45, 46, 47, 48, 49, 50, 51, 52, 53, 54, 55, 56, 57, 58] (by decide +kernel) (by decide +kernel)
set_option maxRecDepth 20000 in
theorem gX7_faultOf_X7_goSpeaker : GoodIn wsX7_faultOf (wsV RX7 94 RX7 yX7_goSpeaker wsX7_goSpeaker) := goodIn_app (goodIn_of _ (by decide +kernel)) ggX7_faultOf_X7_goSpeaker
set_option maxRecDepth 20000 in
theorem ggX7_fault_X7_faultOf : GoodIn wsX7_fault wsX7_faultOf := goodIn_r _ [5, 6, 7, 8, 9, 10, 11, 12, 13, 14, 15, 4, 16, 17, 18, 19, 20, 21, 22, 23, 24, 25, 26, 27, 28, 29, 30, 31, 32, 33, 34, 35, 36, 37, 38, 39, 40, 41, 42, 43, 44, 45, 46, 47, 48, 49, 50, 51, 52, 53, 54, 55, 56, 57, 58, 59, 60, 61, 62] (by decide +kernel) (by decide +kernel)
set_option maxRecDepth 20000 in
theorem gX7_fault_X7_faultOf : GoodIn wsX7_fault (wsV RX7 97 RX7 yX7_faultOf wsX7_faultOf) := goodIn_app (goodIn_of _ (by decide +kernel)) ggX7_fault_X7_faultOf
set_option maxRecDepth 20000 in
theorem ggX7_room_X7_faultOf : GoodIn wsX7_room wsX7_faultOf := goodIn_r _ [17, 18, 19, 20, 3, 2, 1, 21, 22, 23, 24, 16, 25, 26, 5, 27, 28, 29, 30, 31, 32, 33, 8, 34, 35, 36, 37, 38, 42, 43, 44, 45, 46, 47, 48, 49, 50, 51, 52, 53, 54, 55, 56, 57, 58, 59, 60, 61, 62, 63, 64, 65, 66, 67, 68, 69, 70, 71, 72] (by decide +kernel) (by decide +kernel)
set_option maxRecDepth 20000 in
theorem gX7_room_X7_faultOf : GoodIn wsX7_room (wsV RX7 97 RX7 yX7_faultOf wsX7_faultOf) := goodIn_app (goodIn_of _ (by decide +kernel)) ggX7_room_X7_faultOf
set_option maxRecDepth 20000 in
theorem ggX7_room_X7_copy : GoodIn wsX7_room wsX7_copy := goodIn_r _ [41] (by decide +kernel) (by decide +kernel)
set_option maxRecDepth 20000 in
theorem gX7_room_X7_copy : GoodIn wsX7_room (va_wsS RX7 104 yX7_copy wsX7_copy) := goodIn_app (goodIn_of _ (by decide +kernel)) ggX7_room_X7_copy
set_option maxRecDepth 20000 in
theorem ggX7_isOpening_X7_lacks : GoodIn wsX7_isOpening wsX7_lacks := goodIn_r _ [6, 7, 11, 12, 13, 14, 15, 16, 17, 18, 19, 20, 21, 22, 23, 24, 25, 26, 27, 28, 29, 30, 31, 32, 33, 34, 35, 36, 37, 38, 39, 40, 41] (by decide +kernel) (by decide +kernel)
set_option maxRecDepth 20000 in
theorem gX7_isOpening_X7_lacks : GoodIn wsX7_isOpening (wsV RX7 120 RX7 yX7_lacks wsX7_lacks) := goodIn_app (goodIn_of _ (by decide +kernel)) ggX7_isOpening_X7_lacks
set_option maxRecDepth 20000 in
theorem ggX7_isOpening_X7_in : GoodIn wsX7_isOpening wsX7_in := goodIn_r _ [10] (by decide +kernel) (by decide +kernel)
set_option maxRecDepth 20000 in
theorem gX7_isOpening_X7_in : GoodIn wsX7_isOpening (va_wsS RX7 58 yX7_in wsX7_in) := goodIn_app (goodIn_of _ (by decide +kernel)) ggX7_isOpening_X7_in
set_option maxRecDepth 20000 in
theorem ggX7_isSpeaker_X7_in : GoodIn wsX7_isSpeaker wsX7_in := goodIn_r _ [5] (by decide +kernel) (by decide +kernel)
set_option maxRecDepth 20000 in
theorem gX7_isSpeaker_X7_in : GoodIn wsX7_isSpeaker (va_wsS RX7 58 yX7_in wsX7_in) := goodIn_app (goodIn_of _ (by decide +kernel)) ggX7_isSpeaker_X7_in
set_option maxRecDepth 20000 in
theorem ggX7_fits_X7_isOpening : GoodIn wsX7_fits wsX7_isOpening := goodIn_r _ [6, 7, 8, 9, 10, 5, 11, 12, 13, 14, 15, 16, 17, 18, 19, 20, 21, 22, 23, 24, 25, 26, 27, 28, 29, 30, 31, 32, 33, 34, 35, 36, 37, 38, 39, 40, 41, 42, 43, 44, 45, 46] (by decide +kernel) (by decide +kernel)
set_option maxRecDepth 20000 in
theorem gX7_fits_X7_isOpening : GoodIn wsX7_fits (wsV RX7 126 RX7 yX7_isOpening wsX7_isOpening) := goodIn_app (goodIn_of _ (by decide +kernel)) ggX7_fits_X7_isOpening
set_option maxRecDepth 20000 in
theorem ggX7_endsBy_X7_greatestOf : GoodIn wsX7_endsBy wsX7_greatestOf := goodIn_r _ [5] (by decide +kernel) (by decide +kernel)
set_option maxRecDepth 20000 in
theorem gX7_endsBy_X7_greatestOf : GoodIn wsX7_endsBy (va_wsS RX7 129 yX7_greatestOf wsX7_greatestOf) := goodIn_app (goodIn_of _ (by decide +kernel)) ggX7_endsBy_X7_greatestOf
set_option maxRecDepth 20000 in
theorem ggX7_endsBy_X7_leastOf : GoodIn wsX7_endsBy wsX7_leastOf := goodIn_r _ [8] (by decide +kernel) (by decide +kernel)
set_option maxRecDepth 20000 in
theorem gX7_endsBy_X7_leastOf : GoodIn wsX7_endsBy (va_wsS RX7 132 yX7_leastOf wsX7_leastOf) := goodIn_app (goodIn_of _ (by decide +kernel)) ggX7_endsBy_X7_leastOf
set_option maxRecDepth 20000 in
theorem ggX7_wouldOf_X7_endsBy : GoodIn wsX7_wouldOf wsX7_endsBy := goodIn_r _ [6, 7, 8, 9, 5, 10, 11, 12, 13, 14, 15, 16, 17, 18, 19, 20, 21, 22, 23, 24, 25, 26, 27, 28, 29, 30, 31, 32, 33, 34, 35, 36, 37, 38, 39, 40, 41, 42, 43, 44] (by decide +kernel) (by decide +kernel)
set_option maxRecDepth 20000 in
theorem gX7_wouldOf_X7_endsBy : GoodIn wsX7_wouldOf (wsV RX7 135 RX7 yX7_endsBy wsX7_endsBy) := goodIn_app (goodIn_of _ (by decide +kernel)) ggX7_wouldOf_X7_endsBy
set_option maxRecDepth 20000 in
theorem ggX7_sureOf_X7_wouldOf : GoodIn wsX7_sureOf wsX7_wouldOf := goodIn_r _ [7, 2, 8, 9, 10, 6, 11, 12, 13, 14, 15, 16, 17, 18, 19, 20, 21, 22, 23, 24, 25, 26, 27, 28, 29, 30, 31, 32, 33, 34, 35, 36, 37, 38, 39, 40, 41, 42, 43, 44, 45, 46, 47, 48, 49] (by decide +kernel) (by decide +kernel)
set_option maxRecDepth 20000 in
theorem gX7_sureOf_X7_wouldOf : GoodIn wsX7_sureOf (wsV RX7 139 RX7 yX7_wouldOf wsX7_wouldOf) := goodIn_app (goodIn_of _ (by decide +kernel)) ggX7_sureOf_X7_wouldOf
set_option maxRecDepth 20000 in
theorem ggX7_tell_X7_openOf : GoodIn wsX7_tell wsX7_openOf := goodIn_r _ [6, 7, 8, 44, 45, 46, 47, 48, 49, 50, 51, 52, 53, 54, 55, 56, 57, 58, 59, 60, 61, 62, 63, 64, 65, 66, 67, 68, 69, 70, 71, 72, 73, 74] (by decide +kernel) (by decide +kernel)
set_option maxRecDepth 20000 in
theorem gX7_tell_X7_openOf : GoodIn wsX7_tell (wsV RX7 143 RX7 yX7_openOf wsX7_openOf) := goodIn_app (goodIn_of _ (by decide +kernel)) ggX7_tell_X7_openOf
set_option maxRecDepth 20000 in
theorem ggX7_tell_X7_saidBy : GoodIn wsX7_tell wsX7_saidBy := goodIn_r _ [12, 7, 8, 44, 45, 46, 47, 48, 49, 50, 51, 52, 53, 54, 55, 56, 57, 58, 59, 60, 61, 62, 63, 64, 65, 66, 67, 68, 69, 70, 71, 72, 73, 74] (by decide +kernel) (by decide +kernel)
set_option maxRecDepth 20000 in
theorem gX7_tell_X7_saidBy : GoodIn wsX7_tell (wsV RX7 146 RX7 yX7_saidBy wsX7_saidBy) := goodIn_app (goodIn_of _ (by decide +kernel)) ggX7_tell_X7_saidBy
set_option maxRecDepth 20000 in
theorem ggX7_tell_X7_sureOf : GoodIn wsX7_tell wsX7_sureOf := goodIn_r _ [16, 17, 1, 18, 19, 20, 5, 21, 22, 23, 24, 25, 26, 27, 28, 29, 30, 31, 32, 44, 45, 46, 47, 48, 49, 50, 51, 52, 53, 54, 55, 56, 57, 58, 59, 60, 61, 62, 63, 64, 65, 66, 67, 68, 69, 70, 71, 72, 73, 74] (by decide +kernel) (by decide +kernel)
set_option maxRecDepth 20000 in
theorem gX7_tell_X7_sureOf : GoodIn wsX7_tell (wsV RX7 149 RX7 yX7_sureOf wsX7_sureOf) := goodIn_app (goodIn_of _ (by decide +kernel)) ggX7_tell_X7_sureOf
set_option maxRecDepth 20000 in
theorem ggX7_tell_X7_whichOf : GoodIn wsX7_tell wsX7_whichOf := goodIn_r _ [36, 37, 1, 38, 22, 23, 24, 5, 25, 26, 27, 28, 29, 30, 31, 32, 44, 45, 46, 47, 48, 49, 50, 51, 52, 53, 54, 55, 56, 57, 58, 59, 60, 61, 62, 63, 64, 65, 66, 67, 68, 69, 70, 71, 72, 73, 74] (by decide +kernel) (by decide +kernel)
set_option maxRecDepth 20000 in
theorem gX7_tell_X7_whichOf : GoodIn wsX7_tell (wsV RX7 152 RX7 yX7_whichOf wsX7_whichOf) := goodIn_app (goodIn_of _ (by decide +kernel)) ggX7_tell_X7_whichOf
set_option maxRecDepth 20000 in
theorem ggX7_tell_X7_beginOf : GoodIn wsX7_tell wsX7_beginOf := goodIn_r _ [42, 43, 1, 33, 34, 35, 5, 36, 37, 38, 22, 23, 24, 25, 26, 27, 28, 29, 30, 31, 32, 44, 45, 46, 47, 48, 49, 50, 51, 52, 53, 54, 55, 56, 57, 58, 59, 60, 61, 62, 63, 64, 65, 66, 67, 68, 69, 70, 71, 72, 73, 74] (by decide +kernel) (by decide +kernel)
set_option maxRecDepth 20000 in
theorem gX7_tell_X7_beginOf : GoodIn wsX7_tell (wsV RX7 155 RX7 yX7_beginOf wsX7_beginOf) := goodIn_app (goodIn_of _ (by decide +kernel)) ggX7_tell_X7_beginOf
set_option maxRecDepth 20000 in
theorem ggX7_about_X7_isSpeaker : GoodIn wsX7_about wsX7_isSpeaker := goodIn_r _ [5, 6, 7, 8, 4, 9, 55, 56, 57, 58, 59, 60, 61, 62, 63, 64, 65, 66, 67, 68, 69, 70, 71, 72, 73, 74, 75, 76, 77, 78, 79, 80, 81, 82, 83, 84, 85] (by decide +kernel) (by decide +kernel)
set_option maxRecDepth 20000 in
theorem gX7_about_X7_isSpeaker : GoodIn wsX7_about (wsV RX7 158 RX7 yX7_isSpeaker wsX7_isSpeaker) := goodIn_app (goodIn_of _ (by decide +kernel)) ggX7_about_X7_isSpeaker
set_option maxRecDepth 20000 in
theorem ggX7_about_X7_tell : GoodIn wsX7_about wsX7_tell := goodIn_r _ [13, 14, 15, 16, 17, 4, 18, 19, 20, 21, 22, 23, 24, 25, 26, 27, 28, 6, 29, 30, 31, 32, 33, 34, 35, 36, 37, 38, 39, 40, 41, 42, 43, 44, 45, 46, 47, 48, 49, 50, 51, 52, 53, 54, 55, 56, 57, 58, 59, 60, 61, 62, 63, 64, 65, 66, 67, 68, 69, 70, 71, 72, 73, 74, 75, 76, 77, 78, 79, 80, 81, 82, 83, 84, 85] (by decide +kernel) (by decide +kernel)
set_option maxRecDepth 20000 in
theorem gX7_about_X7_tell : GoodIn wsX7_about (wsV RX7 161 RX7 yX7_tell wsX7_tell) := goodIn_app (goodIn_of _ (by decide +kernel)) ggX7_about_X7_tell
set_option maxRecDepth 20000 in
theorem ggX7_as_X7_isSpeaker : GoodIn wsX7_as wsX7_isSpeaker := goodIn_r _ [7, 8, 9, 10, 6, 11, 12, 13, 14, 15, 16, 17, 18, 19, 20, 21, 22, 23, 24, 25, 26, 27, 28, 29, 30, 31, 32, 33, 34, 35, 36, 37, 38, 39, 40, 41, 42] (by decide +kernel) (by decide +kernel)
set_option maxRecDepth 20000 in
theorem gX7_as_X7_isSpeaker : GoodIn wsX7_as (wsV RX7 158 RX7 yX7_isSpeaker wsX7_isSpeaker) := goodIn_app (goodIn_of _ (by decide +kernel)) ggX7_as_X7_isSpeaker
set_option maxRecDepth 20000 in
theorem ggX7_as_X7_in : GoodIn wsX7_as wsX7_in := goodIn_r _ [11] (by decide +kernel) (by decide +kernel)
set_option maxRecDepth 20000 in
theorem gX7_as_X7_in : GoodIn wsX7_as (va_wsS RX7 58 yX7_in wsX7_in) := goodIn_app (goodIn_of _ (by decide +kernel)) ggX7_as_X7_in
set_option maxRecDepth 20000 in
theorem ggX7_want_X7_isSpeaker : GoodIn wsX7_want wsX7_isSpeaker := goodIn_r _ [8, 9, 10, 11, 7, 12, 13, 14, 15, 16, 17, 18, 19, 20, 21, 22, 23, 24, 25, 26, 27, 28, 29, 30, 31, 32, 33, 34, 35, 36, 37, 38, 39, 40, 41, 42, 43] (by decide +kernel) (by decide +kernel)
set_option maxRecDepth 20000 in
theorem gX7_want_X7_isSpeaker : GoodIn wsX7_want (wsV RX7 158 RX7 yX7_isSpeaker wsX7_isSpeaker) := goodIn_app (goodIn_of _ (by decide +kernel)) ggX7_want_X7_isSpeaker
set_option maxRecDepth 20000 in
theorem ggX7_want_X7_in : GoodIn wsX7_want wsX7_in := goodIn_r _ [12] (by decide +kernel) (by decide +kernel)
set_option maxRecDepth 20000 in
theorem gX7_want_X7_in : GoodIn wsX7_want (va_wsS RX7 58 yX7_in wsX7_in) := goodIn_app (goodIn_of _ (by decide +kernel)) ggX7_want_X7_in
set_option maxRecDepth 20000 in
theorem ggX7_would_X7_isSpeaker : GoodIn wsX7_would wsX7_isSpeaker := goodIn_r _ [5, 6, 7, 8, 4, 9, 35, 36, 37, 38, 39, 40, 41, 42, 43, 44, 45, 46, 47, 48, 49, 50, 51, 52, 53, 54, 55, 56, 57, 58, 59, 60, 61, 62, 63, 64, 65] (by decide +kernel) (by decide +kernel)
set_option maxRecDepth 20000 in
theorem gX7_would_X7_isSpeaker : GoodIn wsX7_would (wsV RX7 158 RX7 yX7_isSpeaker wsX7_isSpeaker) := goodIn_app (goodIn_of _ (by decide +kernel)) ggX7_would_X7_isSpeaker
set_option maxRecDepth 20000 in
theorem ggX7_would_X7_isOpening : GoodIn wsX7_would wsX7_isOpening := goodIn_r _ [13, 14, 15, 16, 17, 4, 18, 6, 7, 8, 9, 35, 36, 37, 38, 39, 40, 41, 42, 43, 44, 45, 46, 47, 48, 49, 50, 51, 52, 53, 54, 55, 56, 57, 58, 59, 60, 61, 62, 63, 64, 65] (by decide +kernel) (by decide +kernel)
set_option maxRecDepth 20000 in
theorem gX7_would_X7_isOpening : GoodIn wsX7_would (wsV RX7 126 RX7 yX7_isOpening wsX7_isOpening) := goodIn_app (goodIn_of _ (by decide +kernel)) ggX7_would_X7_isOpening
set_option maxRecDepth 20000 in
theorem ggX7_would_X7_wouldOf : GoodIn wsX7_would wsX7_wouldOf := goodIn_r _ [22, 23, 24, 25, 26, 4, 27, 28, 29, 30, 31, 32, 33, 34, 35, 36, 37, 38, 39, 40, 41, 42, 43, 44, 45, 46, 47, 48, 49, 50, 51, 52, 53, 54, 55, 56, 57, 58, 59, 60, 61, 62, 63, 64, 65] (by decide +kernel) (by decide +kernel)
set_option maxRecDepth 20000 in
theorem gX7_would_X7_wouldOf : GoodIn wsX7_would (wsV RX7 139 RX7 yX7_wouldOf wsX7_wouldOf) := goodIn_app (goodIn_of _ (by decide +kernel)) ggX7_would_X7_wouldOf
set_option maxRecDepth 20000 in
theorem ggX7_isSentence_X7_in : GoodIn wsX7_isSentence wsX7_in := goodIn_r _ [5] (by decide +kernel) (by decide +kernel)
set_option maxRecDepth 20000 in
theorem gX7_isSentence_X7_in : GoodIn wsX7_isSentence (va_wsS RX7 58 yX7_in wsX7_in) := goodIn_app (goodIn_of _ (by decide +kernel)) ggX7_isSentence_X7_in
set_option maxRecDepth 20000 in
theorem ggX7_begin_X7_isSpeaker : GoodIn wsX7_begin wsX7_isSpeaker := goodIn_r _ [7, 8, 9, 10, 6, 11, 25, 26, 27, 28, 29, 30, 31, 32, 33, 34, 35, 36, 37, 38, 39, 40, 41, 42, 43, 44, 45, 46, 47, 48, 49, 50, 51, 52, 53, 54, 55] (by decide +kernel) (by decide +kernel)
set_option maxRecDepth 20000 in
theorem gX7_begin_X7_isSpeaker : GoodIn wsX7_begin (wsV RX7 158 RX7 yX7_isSpeaker wsX7_isSpeaker) := goodIn_app (goodIn_of _ (by decide +kernel)) ggX7_begin_X7_isSpeaker
set_option maxRecDepth 20000 in
theorem ggX7_begin_X7_isOpening : GoodIn wsX7_begin wsX7_isOpening := goodIn_r _ [15, 16, 17, 18, 19, 6, 20, 8, 9, 10, 11, 25, 26, 27, 28, 29, 30, 31, 32, 33, 34, 35, 36, 37, 38, 39, 40, 41, 42, 43, 44, 45, 46, 47, 48, 49, 50, 51, 52, 53, 54, 55] (by decide +kernel) (by decide +kernel)
set_option maxRecDepth 20000 in
theorem gX7_begin_X7_isOpening : GoodIn wsX7_begin (wsV RX7 126 RX7 yX7_isOpening wsX7_isOpening) := goodIn_app (goodIn_of _ (by decide +kernel)) ggX7_begin_X7_isOpening
set_option maxRecDepth 20000 in
theorem ggX7_begin_X7_openOf : GoodIn wsX7_begin wsX7_openOf := goodIn_r _ [24, 1, 2, 25, 26, 27, 28, 29, 30, 31, 32, 33, 34, 35, 36, 37, 38, 39, 40, 41, 42, 43, 44, 45, 46, 47, 48, 49, 50, 51, 52, 53, 54, 55] (by decide +kernel) (by decide +kernel)
set_option maxRecDepth 20000 in
theorem gX7_begin_X7_openOf : GoodIn wsX7_begin (wsV RX7 143 RX7 yX7_openOf wsX7_openOf) := goodIn_app (goodIn_of _ (by decide +kernel)) ggX7_begin_X7_openOf
set_option maxRecDepth 20000 in
theorem ggX7_end_X7_isSentence : GoodIn wsX7_end wsX7_isSentence := goodIn_r _ [7, 8, 9, 10, 6, 11, 32, 33, 34, 35, 36, 37, 38, 39, 40, 41, 42, 43, 44, 45, 46, 47, 48, 49, 50, 51, 52, 53, 54, 55, 56, 57, 58, 59, 60, 61, 62] (by decide +kernel) (by decide +kernel)
set_option maxRecDepth 20000 in
theorem gX7_end_X7_isSentence : GoodIn wsX7_end (wsV RX7 166 RX7 yX7_isSentence wsX7_isSentence) := goodIn_app (goodIn_of _ (by decide +kernel)) ggX7_end_X7_isSentence
set_option maxRecDepth 20000 in
theorem ggX7_end_X7_isSpeaker : GoodIn wsX7_end wsX7_isSpeaker := goodIn_r _ [15, 16, 9, 10, 6, 11, 32, 33, 34, 35, 36, 37, 38, 39, 40, 41, 42, 43, 44, 45, 46, 47, 48, 49, 50, 51, 52, 53, 54, 55, 56, 57, 58, 59, 60, 61, 62] (by decide +kernel) (by decide +kernel)
set_option maxRecDepth 20000 in
theorem gX7_end_X7_isSpeaker : GoodIn wsX7_end (wsV RX7 158 RX7 yX7_isSpeaker wsX7_isSpeaker) := goodIn_app (goodIn_of _ (by decide +kernel)) ggX7_end_X7_isSpeaker
set_option maxRecDepth 20000 in
theorem ggX7_end_X7_wouldOf : GoodIn wsX7_end wsX7_wouldOf := goodIn_r _ [20, 2, 21, 22, 23, 6, 24, 25, 26, 27, 28, 29, 30, 31, 32, 33, 34, 35, 36, 37, 38, 39, 40, 41, 42, 43, 44, 45, 46, 47, 48, 49, 50, 51, 52, 53, 54, 55, 56, 57, 58, 59, 60, 61, 62] (by decide +kernel) (by decide +kernel)
set_option maxRecDepth 20000 in
theorem gX7_end_X7_wouldOf : GoodIn wsX7_end (wsV RX7 139 RX7 yX7_wouldOf wsX7_wouldOf) := goodIn_app (goodIn_of _ (by decide +kernel)) ggX7_end_X7_wouldOf
set_option maxRecDepth 20000 in
theorem ggX7_tellSentence_X7_in : GoodIn wsX7_tellSentence wsX7_in := goodIn_r _ [6] (by decide +kernel) (by decide +kernel)
set_option maxRecDepth 20000 in
theorem gX7_tellSentence_X7_in : GoodIn wsX7_tellSentence (va_wsS RX7 58 yX7_in wsX7_in) := goodIn_app (goodIn_of _ (by decide +kernel)) ggX7_tellSentence_X7_in
set_option maxRecDepth 20000 in
theorem ggX7_tellSentence_X7_isWanted : GoodIn wsX7_tellSentence wsX7_isWanted := goodIn_r _ [10, 2, 11, 12, 13, 14, 15, 16, 17, 18, 19, 20, 21, 22, 23, 24, 25, 26, 27, 28, 29, 30, 31, 32, 33, 34, 35, 36, 37, 38, 39, 40, 41, 42] (by decide +kernel) (by decide +kernel)
set_option maxRecDepth 20000 in
theorem gX7_tellSentence_X7_isWanted : GoodIn wsX7_tellSentence (wsV RX7 169 RX7 yX7_isWanted wsX7_isWanted) := goodIn_app (goodIn_of _ (by decide +kernel)) ggX7_tellSentence_X7_isWanted
set_option maxRecDepth 20000 in
theorem ggX7_sentence_X7_isSentence : GoodIn wsX7_sentence wsX7_isSentence := goodIn_r _ [5, 6, 7, 8, 4, 9, 21, 22, 23, 24, 25, 26, 27, 28, 29, 30, 31, 32, 33, 34, 35, 36, 37, 38, 39, 40, 41, 42, 43, 44, 45, 46, 47, 48, 49, 50, 51] (by decide +kernel) (by decide +kernel)
set_option maxRecDepth 20000 in
theorem gX7_sentence_X7_isSentence : GoodIn wsX7_sentence (wsV RX7 166 RX7 yX7_isSentence wsX7_isSentence) := goodIn_app (goodIn_of _ (by decide +kernel)) ggX7_sentence_X7_isSentence
set_option maxRecDepth 20000 in
theorem ggX7_sentence_X7_tellSentence : GoodIn wsX7_sentence wsX7_tellSentence := goodIn_r _ [13, 14, 15, 7, 8, 4, 9, 16, 17, 18, 19, 20, 21, 22, 23, 24, 25, 26, 27, 28, 29, 30, 31, 32, 33, 34, 35, 36, 37, 38, 39, 40, 41, 42, 43, 44, 45, 46, 47, 48, 49, 50, 51] (by decide +kernel) (by decide +kernel)
set_option maxRecDepth 20000 in
theorem gX7_sentence_X7_tellSentence : GoodIn wsX7_sentence (wsV RX7 172 RX7 yX7_tellSentence wsX7_tellSentence) := goodIn_app (goodIn_of _ (by decide +kernel)) ggX7_sentence_X7_tellSentence
set_option maxRecDepth 20000 in
theorem ggX7_endsAsWanted_X7_wouldOf : GoodIn wsX7_endsAsWanted wsX7_wouldOf := goodIn_r _ [7, 2, 8, 9, 10, 6, 11, 12, 13, 14, 15, 16, 17, 18, 19, 20, 21, 22, 23, 24, 25, 26, 27, 28, 29, 30, 31, 32, 33, 34, 35, 36, 37, 38, 39, 40, 41, 42, 43, 44, 45, 46, 47, 48, 49] (by decide +kernel) (by decide +kernel)
set_option maxRecDepth 20000 in
theorem gX7_endsAsWanted_X7_wouldOf : GoodIn wsX7_endsAsWanted (wsV RX7 139 RX7 yX7_wouldOf wsX7_wouldOf) := goodIn_app (goodIn_of _ (by decide +kernel)) ggX7_endsAsWanted_X7_wouldOf
set_option maxRecDepth 20000 in
theorem ggX7_layRow_X7_endsAsWanted : GoodIn wsX7_layRow wsX7_endsAsWanted := goodIn_r _ [8, 9, 10, 11, 12, 13, 7, 14, 15, 16, 17, 18, 19, 20, 21, 22, 23, 24, 25, 26, 27, 28, 29, 30, 31, 32, 33, 34, 35, 36, 37, 38, 39, 40, 41, 42, 43, 44, 45, 46, 47, 48, 49, 50, 51, 52, 53, 54, 55, 56] (by decide +kernel) (by decide +kernel)
set_option maxRecDepth 20000 in
theorem gX7_layRow_X7_endsAsWanted : GoodIn wsX7_layRow (wsV RX7 175 RX7 yX7_endsAsWanted wsX7_endsAsWanted) := goodIn_app (goodIn_of _ (by decide +kernel)) ggX7_layRow_X7_endsAsWanted
set_option maxRecDepth 20000 in
theorem ggX7_matchOf_X7_layRow : GoodIn wsX7_matchOf wsX7_layRow := goodIn_r _ [9, 1, 3, 2, 10, 11, 12, 8, 13, 14, 15, 16, 17, 18, 19, 20, 21, 22, 23, 24, 25, 26, 27, 28, 29, 30, 34, 35, 36, 37, 38, 39, 40, 41, 42, 43, 44, 45, 46, 47, 48, 49, 50, 51, 52, 53, 54, 55, 56, 57, 58, 59, 60, 61, 62, 63, 64] (by decide +kernel) (by decide +kernel)
set_option maxRecDepth 20000 in
theorem gX7_matchOf_X7_layRow : GoodIn wsX7_matchOf (wsV RX7 179 RX7 yX7_layRow wsX7_layRow) := goodIn_app (goodIn_of _ (by decide +kernel)) ggX7_matchOf_X7_layRow
set_option maxRecDepth 20000 in
theorem ggX7_matchOf_X7_copy : GoodIn wsX7_matchOf wsX7_copy := goodIn_r _ [33] (by decide +kernel) (by decide +kernel)
set_option maxRecDepth 20000 in
theorem gX7_matchOf_X7_copy : GoodIn wsX7_matchOf (va_wsS RX7 104 yX7_copy wsX7_copy) := goodIn_app (goodIn_of _ (by decide +kernel)) ggX7_matchOf_X7_copy
set_option maxRecDepth 20000 in
theorem ggX7_match_X7_in : GoodIn wsX7_match wsX7_in := goodIn_r _ [6] (by decide +kernel) (by decide +kernel)
set_option maxRecDepth 20000 in
theorem gX7_match_X7_in : GoodIn wsX7_match (va_wsS RX7 58 yX7_in wsX7_in) := goodIn_app (goodIn_of _ (by decide +kernel)) ggX7_match_X7_in
set_option maxRecDepth 20000 in
theorem ggX7_match_X7_lacks : GoodIn wsX7_match wsX7_lacks := goodIn_r _ [10, 11, 47, 48, 49, 50, 51, 52, 53, 54, 55, 56, 57, 58, 59, 60, 61, 62, 63, 64, 65, 66, 67, 68, 69, 70, 71, 72, 73, 74, 75, 76, 77] (by decide +kernel) (by decide +kernel)
set_option maxRecDepth 20000 in
theorem gX7_match_X7_lacks : GoodIn wsX7_match (wsV RX7 120 RX7 yX7_lacks wsX7_lacks) := goodIn_app (goodIn_of _ (by decide +kernel)) ggX7_match_X7_lacks
set_option maxRecDepth 20000 in
theorem ggX7_match_X7_matchOf : GoodIn wsX7_match wsX7_matchOf := goodIn_r _ [15, 11, 16, 17, 18, 19, 20, 21, 5, 22, 23, 24, 25, 26, 27, 28, 29, 30, 31, 32, 33, 34, 35, 36, 37, 38, 39, 40, 41, 42, 43, 44, 45, 46, 47, 48, 49, 50, 51, 52, 53, 54, 55, 56, 57, 58, 59, 60, 61, 62, 63, 64, 65, 66, 67, 68, 69, 70, 71, 72, 73, 74, 75, 76, 77] (by decide +kernel) (by decide +kernel)
set_option maxRecDepth 20000 in
theorem gX7_match_X7_matchOf : GoodIn wsX7_match (wsV RX7 186 RX7 yX7_matchOf wsX7_matchOf) := goodIn_app (goodIn_of _ (by decide +kernel)) ggX7_match_X7_matchOf
set_option maxRecDepth 20000 in
theorem ggX7_hear_X7_isSpeaker : GoodIn wsX7_hear wsX7_isSpeaker := goodIn_r _ [9, 10, 11, 12, 8, 13, 23, 24, 25, 26, 27, 28, 29, 30, 31, 32, 33, 34, 35, 36, 37, 38, 39, 40, 41, 42, 43, 44, 45, 46, 47, 48, 49, 50, 51, 52, 53] (by decide +kernel) (by decide +kernel)
set_option maxRecDepth 20000 in
theorem gX7_hear_X7_isSpeaker : GoodIn wsX7_hear (wsV RX7 158 RX7 yX7_isSpeaker wsX7_isSpeaker) := goodIn_app (goodIn_of _ (by decide +kernel)) ggX7_hear_X7_isSpeaker
set_option maxRecDepth 20000 in
theorem ggX7_hear_X7_isOpening : GoodIn wsX7_hear wsX7_isOpening := goodIn_r _ [17, 18, 19, 20, 21, 8, 22, 10, 11, 12, 13, 23, 24, 25, 26, 27, 28, 29, 30, 31, 32, 33, 34, 35, 36, 37, 38, 39, 40, 41, 42, 43, 44, 45, 46, 47, 48, 49, 50, 51, 52, 53] (by decide +kernel) (by decide +kernel)
set_option maxRecDepth 20000 in
theorem gX7_hear_X7_isOpening : GoodIn wsX7_hear (wsV RX7 126 RX7 yX7_isOpening wsX7_isOpening) := goodIn_app (goodIn_of _ (by decide +kernel)) ggX7_hear_X7_isOpening
set_option maxRecDepth 20000 in
theorem ggX7_hear_X7_in : GoodIn wsX7_hear wsX7_in := goodIn_r _ [13] (by decide +kernel) (by decide +kernel)
set_option maxRecDepth 20000 in
theorem gX7_hear_X7_in : GoodIn wsX7_hear (va_wsS RX7 58 yX7_in wsX7_in) := goodIn_app (goodIn_of _ (by decide +kernel)) ggX7_hear_X7_in
set_option maxRecDepth 20000 in
theorem ggX7_whichOf_X7_endsBy : GoodIn wsX7_whichOf wsX7_endsBy := goodIn_r _ [8, 9, 10, 11, 7, 12, 13, 14, 15, 16, 17, 18, 19, 20, 21, 22, 23, 24, 25, 26, 27, 28, 29, 30, 31, 32, 33, 34, 35, 36, 37, 38, 39, 40, 41, 42, 43, 44, 45, 46] (by decide +kernel) (by decide +kernel)
set_option maxRecDepth 20000 in
theorem gX7_whichOf_X7_endsBy : GoodIn wsX7_whichOf (wsV RX7 135 RX7 yX7_endsBy wsX7_endsBy) := goodIn_app (goodIn_of _ (by decide +kernel)) ggX7_whichOf_X7_endsBy
set_option maxRecDepth 20000 in
theorem ggX7_beginOf_X7_whichOf : GoodIn wsX7_beginOf wsX7_whichOf := goodIn_r _ [7, 8, 2, 9, 10, 11, 12, 6, 13, 14, 15, 16, 17, 18, 19, 20, 21, 22, 23, 24, 25, 26, 27, 28, 29, 30, 31, 32, 33, 34, 35, 36, 37, 38, 39, 40, 41, 42, 43, 44, 45, 46, 47, 48, 49, 50, 51] (by decide +kernel) (by decide +kernel)
set_option maxRecDepth 20000 in
theorem gX7_beginOf_X7_whichOf : GoodIn wsX7_beginOf (wsV RX7 152 RX7 yX7_whichOf wsX7_whichOf) := goodIn_app (goodIn_of _ (by decide +kernel)) ggX7_beginOf_X7_whichOf
set_option maxRecDepth 20000 in
theorem ggX7_beginOf_X7_endsBy : GoodIn wsX7_beginOf wsX7_endsBy := goodIn_r _ [13, 14, 15, 16, 6, 17, 18, 19, 20, 21, 22, 23, 24, 25, 26, 27, 28, 29, 30, 31, 32, 33, 34, 35, 36, 37, 38, 39, 40, 41, 42, 43, 44, 45, 46, 47, 48, 49, 50, 51] (by decide +kernel) (by decide +kernel)
set_option maxRecDepth 20000 in
theorem gX7_beginOf_X7_endsBy : GoodIn wsX7_beginOf (wsV RX7 135 RX7 yX7_endsBy wsX7_endsBy) := goodIn_app (goodIn_of _ (by decide +kernel)) ggX7_beginOf_X7_endsBy
set_option maxRecDepth 20000 in
theorem ggX7_talks_X7_in : GoodIn wsX7_talks wsX7_in := goodIn_r _ [10] (by decide +kernel) (by decide +kernel)
set_option maxRecDepth 20000 in
theorem gX7_talks_X7_in : GoodIn wsX7_talks (va_wsS RX7 58 yX7_in wsX7_in) := goodIn_app (goodIn_of _ (by decide +kernel)) ggX7_talks_X7_in
set_option maxRecDepth 20000 in
theorem ggX7_talks_X7_lacks : GoodIn wsX7_talks wsX7_lacks := goodIn_r _ [14, 6, 41, 42, 43, 44, 45, 46, 47, 48, 49, 50, 51, 52, 53, 54, 55, 56, 57, 58, 59, 60, 61, 62, 63, 64, 65, 66, 67, 68, 69, 70, 71] (by decide +kernel) (by decide +kernel)
set_option maxRecDepth 20000 in
theorem gX7_talks_X7_lacks : GoodIn wsX7_talks (wsV RX7 120 RX7 yX7_lacks wsX7_lacks) := goodIn_app (goodIn_of _ (by decide +kernel)) ggX7_talks_X7_lacks
set_option maxRecDepth 20000 in
theorem ggX7_talks_X7_copy : GoodIn wsX7_talks wsX7_copy := goodIn_r _ [17] (by decide +kernel) (by decide +kernel)
set_option maxRecDepth 20000 in
theorem gX7_talks_X7_copy : GoodIn wsX7_talks (va_wsS RX7 104 yX7_copy wsX7_copy) := goodIn_app (goodIn_of _ (by decide +kernel)) ggX7_talks_X7_copy
set_option maxRecDepth 20000 in
theorem ggX7_talks_X7_draw : GoodIn wsX7_talks wsX7_draw := goodIn_r _ [21, 22, 5, 23, 24, 25, 41, 42, 43, 44, 45, 46, 47, 48, 49, 50, 51, 52, 53, 54, 55, 56, 57, 58, 59, 60, 61, 62, 63, 64, 65, 66, 67, 68, 69, 70, 71] (by decide +kernel) (by decide +kernel)
set_option maxRecDepth 20000 in
theorem gX7_talks_X7_draw : GoodIn wsX7_talks (wsV RX7 205 RX7 yX7_draw wsX7_draw) := goodIn_app (goodIn_of _ (by decide +kernel)) ggX7_talks_X7_draw
set_option maxRecDepth 20000 in
theorem ggX7_talks_X7_wouldOf : GoodIn wsX7_talks wsX7_wouldOf := goodIn_r _ [29, 3, 30, 31, 32, 9, 33, 34, 35, 36, 37, 38, 39, 40, 41, 42, 43, 44, 45, 46, 47, 48, 49, 50, 51, 52, 53, 54, 55, 56, 57, 58, 59, 60, 61, 62, 63, 64, 65, 66, 67, 68, 69, 70, 71] (by decide +kernel) (by decide +kernel)
set_option maxRecDepth 20000 in
theorem gX7_talks_X7_wouldOf : GoodIn wsX7_talks (wsV RX7 139 RX7 yX7_wouldOf wsX7_wouldOf) := goodIn_app (goodIn_of _ (by decide +kernel)) ggX7_talks_X7_wouldOf
set_option maxRecDepth 20000 in
theorem ggX7_image_X7_lacks : GoodIn wsX7_image wsX7_lacks := goodIn_r _ [19, 20, 24, 25, 26, 27, 28, 29, 30, 31, 32, 33, 34, 35, 36, 37, 38, 39, 40, 41, 42, 43, 44, 45, 46, 47, 48, 49, 50, 51, 52, 53, 54] (by decide +kernel) (by decide +kernel)
set_option maxRecDepth 20000 in
theorem gX7_image_X7_lacks : GoodIn wsX7_image (wsV RX7 120 RX7 yX7_lacks wsX7_lacks) := goodIn_app (goodIn_of _ (by decide +kernel)) ggX7_image_X7_lacks
set_option maxRecDepth 20000 in
theorem ggX7_image_X7_copy : GoodIn wsX7_image wsX7_copy := goodIn_r _ [23] (by decide +kernel) (by decide +kernel)
set_option maxRecDepth 20000 in
theorem gX7_image_X7_copy : GoodIn wsX7_image (va_wsS RX7 104 yX7_copy wsX7_copy) := goodIn_app (goodIn_of _ (by decide +kernel)) ggX7_image_X7_copy
set_option maxRecDepth 20000 in
theorem ggX7_restore_X7_copy : GoodIn wsX7_restore wsX7_copy := goodIn_r _ [18] (by decide +kernel) (by decide +kernel)
set_option maxRecDepth 20000 in
theorem gX7_restore_X7_copy : GoodIn wsX7_restore (va_wsS RX7 104 yX7_copy wsX7_copy) := goodIn_app (goodIn_of _ (by decide +kernel)) ggX7_restore_X7_copy
set_option maxRecDepth 20000 in
theorem ggX7_wantedMany_X7_isWanted : GoodIn wsX7_wantedMany wsX7_isWanted := goodIn_r _ [6, 7, 8, 9, 10, 11, 12, 13, 14, 15, 16, 17, 18, 19, 20, 21, 22, 23, 24, 25, 26, 27, 28, 29, 30, 31, 32, 33, 34, 35, 36, 37, 38, 39] (by decide +kernel) (by decide +kernel)
set_option maxRecDepth 20000 in
theorem gX7_wantedMany_X7_isWanted : GoodIn wsX7_wantedMany (wsV RX7 169 RX7 yX7_isWanted wsX7_isWanted) := goodIn_app (goodIn_of _ (by decide +kernel)) ggX7_wantedMany_X7_isWanted
set_option maxRecDepth 20000 in
theorem ggX7_unlike_X7_ones : GoodIn wsX7_unlike wsX7_ones := goodIn_r _ [6] (by decide +kernel) (by decide +kernel)
set_option maxRecDepth 20000 in
theorem gX7_unlike_X7_ones : GoodIn wsX7_unlike (va_wsS RX7 217 yX7_ones wsX7_ones) := goodIn_app (goodIn_of _ (by decide +kernel)) ggX7_unlike_X7_ones
set_option maxRecDepth 20000 in
theorem ggX7_countOf_X7_saidBy : GoodIn wsX7_countOf wsX7_saidBy := goodIn_r _ [11, 2, 12, 29, 30, 31, 32, 33, 34, 35, 36, 37, 38, 39, 40, 41, 42, 43, 44, 45, 46, 47, 48, 49, 50, 51, 52, 53, 54, 55, 56, 57, 58, 59] (by decide +kernel) (by decide +kernel)
set_option maxRecDepth 20000 in
theorem gX7_countOf_X7_saidBy : GoodIn wsX7_countOf (wsV RX7 146 RX7 yX7_saidBy wsX7_saidBy) := goodIn_app (goodIn_of _ (by decide +kernel)) ggX7_countOf_X7_saidBy
set_option maxRecDepth 20000 in
theorem ggX7_countOf_X7_wantedMany : GoodIn wsX7_countOf wsX7_wantedMany := goodIn_r _ [16, 2, 17, 18, 19, 10, 20, 12, 21, 29, 30, 31, 32, 33, 34, 35, 36, 37, 38, 39, 40, 41, 42, 43, 44, 45, 46, 47, 48, 49, 50, 51, 52, 53, 54, 55, 56, 57, 58, 59] (by decide +kernel) (by decide +kernel)
set_option maxRecDepth 20000 in
theorem gX7_countOf_X7_wantedMany : GoodIn wsX7_countOf (wsV RX7 220 RX7 yX7_wantedMany wsX7_wantedMany) := goodIn_app (goodIn_of _ (by decide +kernel)) ggX7_countOf_X7_wantedMany
set_option maxRecDepth 20000 in
theorem ggX7_countOf_X7_unlike : GoodIn wsX7_countOf wsX7_unlike := goodIn_r _ [25, 2, 12, 26, 27, 10, 28, 29, 30, 31, 32, 33, 34, 35, 36, 37, 38, 39, 40, 41, 42, 43, 44, 45, 46, 47, 48, 49, 50, 51, 52, 53, 54, 55, 56, 57, 58, 59] (by decide +kernel) (by decide +kernel)
set_option maxRecDepth 20000 in
theorem gX7_countOf_X7_unlike : GoodIn wsX7_countOf (wsV RX7 223 RX7 yX7_unlike wsX7_unlike) := goodIn_app (goodIn_of _ (by decide +kernel)) ggX7_countOf_X7_unlike
set_option maxRecDepth 20000 in
theorem ggX7_count_X7_countOf : GoodIn wsX7_count wsX7_countOf := goodIn_r _ [5, 6, 7, 8, 9, 10, 11, 12, 13, 14, 4, 15, 16, 17, 18, 19, 20, 21, 22, 23, 24, 25, 26, 27, 28, 29, 30, 31, 32, 33, 34, 35, 36, 37, 38, 39, 40, 41, 42, 43, 44, 45, 46, 47, 48, 49, 50, 51, 52, 53, 54, 55, 56, 57, 58, 59, 60, 61, 62, 63] (by decide +kernel) (by decide +kernel)
set_option maxRecDepth 20000 in
theorem gX7_count_X7_countOf : GoodIn wsX7_count (wsV RX7 226 RX7 yX7_countOf wsX7_countOf) := goodIn_app (goodIn_of _ (by decide +kernel)) ggX7_count_X7_countOf
set_option maxRecDepth 20000 in
theorem ggX7_saySpeaker_X7_tell : GoodIn wsX7_saySpeaker wsX7_tell := goodIn_r _ [5, 6, 7, 8, 9, 4, 10, 11, 12, 13, 14, 15, 16, 17, 18, 19, 20, 21, 22, 23, 24, 25, 26, 27, 28, 29, 30, 31, 32, 33, 34, 35, 36, 37, 38, 39, 40, 41, 42, 43, 44, 45, 46, 47, 54, 55, 56, 57, 58, 59, 60, 61, 62, 63, 64, 65, 66, 67, 68, 69, 70, 71, 72, 73, 74, 75, 76, 77, 78, 79, 80, 81, 82, 83, 84] (by decide +kernel) (by decide +kernel)
set_option maxRecDepth 20000 in
theorem gX7_saySpeaker_X7_tell : GoodIn wsX7_saySpeaker (wsV RX7 161 RX7 yX7_tell wsX7_tell) := goodIn_app (goodIn_of _ (by decide +kernel)) ggX7_saySpeaker_X7_tell
set_option maxRecDepth 20000 in
theorem ggX7_saySpeaker_X7_say : GoodIn wsX7_saySpeaker wsX7_say := goodIn_r _ [51, 52, 53, 54, 55, 56, 57, 58, 59, 60, 61, 62, 63, 64, 65, 66, 67, 68, 69, 70, 71, 72, 73, 74, 75, 76, 77, 78, 79, 80, 81, 82, 83, 84] (by decide +kernel) (by decide +kernel)
set_option maxRecDepth 20000 in
theorem gX7_saySpeaker_X7_say : GoodIn wsX7_saySpeaker (wsV RX7 235 RX7 yX7_say wsX7_say) := goodIn_app (goodIn_of _ (by decide +kernel)) ggX7_saySpeaker_X7_say
set_option maxRecDepth 20000 in
theorem ggX7_saySpeaker_X7_wouldOf : GoodIn wsX7_saySpeaker wsX7_wouldOf := goodIn_r _ [25, 6, 26, 27, 28, 4, 29, 30, 31, 32, 33, 34, 35, 36, 54, 55, 56, 57, 58, 59, 60, 61, 62, 63, 64, 65, 66, 67, 68, 69, 70, 71, 72, 73, 74, 75, 76, 77, 78, 79, 80, 81, 82, 83, 84] (by decide +kernel) (by decide +kernel)
set_option maxRecDepth 20000 in
theorem gX7_saySpeaker_X7_wouldOf : GoodIn wsX7_saySpeaker (wsV RX7 139 RX7 yX7_wouldOf wsX7_wouldOf) := goodIn_app (goodIn_of _ (by decide +kernel)) ggX7_saySpeaker_X7_wouldOf
set_option maxRecDepth 20000 in
theorem ggX7_digest_X7_lacks : GoodIn wsX7_digest wsX7_lacks := goodIn_r _ [12, 4, 111, 112, 113, 114, 115, 116, 117, 118, 119, 120, 121, 122, 123, 124, 125, 126, 127, 128, 129, 130, 131, 132, 133, 134, 135, 136, 137, 138, 139, 140, 141] (by decide +kernel) (by decide +kernel)
set_option maxRecDepth 20000 in
theorem gX7_digest_X7_lacks : GoodIn wsX7_digest (wsV RX7 120 RX7 yX7_lacks wsX7_lacks) := goodIn_app (goodIn_of _ (by decide +kernel)) ggX7_digest_X7_lacks
set_option maxRecDepth 20000 in
theorem ggX7_digest_X7_say : GoodIn wsX7_digest wsX7_say := goodIn_r _ [16, 17, 2, 111, 112, 113, 114, 115, 116, 117, 118, 119, 120, 121, 122, 123, 124, 125, 126, 127, 128, 129, 130, 131, 132, 133, 134, 135, 136, 137, 138, 139, 140, 141] (by decide +kernel) (by decide +kernel)
set_option maxRecDepth 20000 in
theorem gX7_digest_X7_say : GoodIn wsX7_digest (wsV RX7 235 RX7 yX7_say wsX7_say) := goodIn_app (goodIn_of _ (by decide +kernel)) ggX7_digest_X7_say
set_option maxRecDepth 20000 in
theorem ggX7_digest_X7_saySpeaker : GoodIn wsX7_digest wsX7_saySpeaker := goodIn_r _ [21, 22, 23, 24, 11, 25, 26, 27, 28, 29, 30, 5, 31, 32, 33, 34, 35, 36, 37, 38, 39, 4, 40, 41, 42, 43, 44, 45, 46, 47, 3, 48, 49, 50, 51, 52, 53, 54, 55, 56, 57, 58, 59, 60, 61, 62, 63, 64, 13, 14, 15, 16, 17, 2, 111, 112, 113, 114, 115, 116, 117, 118, 119, 120, 121, 122, 123, 124, 125, 126, 127, 128, 129, 130, 131, 132, 133, 134, 135, 136, 137, 138, 139, 140, 141] (by decide +kernel) (by decide +kernel)
set_option maxRecDepth 20000 in
theorem gX7_digest_X7_saySpeaker : GoodIn wsX7_digest (wsV RX7 241 RX7 yX7_saySpeaker wsX7_saySpeaker) := goodIn_app (goodIn_of _ (by decide +kernel)) ggX7_digest_X7_saySpeaker
set_option maxRecDepth 20000 in
theorem ggX7_digest_X7_tellSentence : GoodIn wsX7_digest wsX7_tellSentence := goodIn_r _ [68, 69, 31, 70, 71, 11, 72, 73, 74, 75, 76, 26, 111, 112, 113, 114, 115, 116, 117, 118, 119, 120, 121, 122, 123, 124, 125, 126, 127, 128, 129, 130, 131, 132, 133, 134, 135, 136, 137, 138, 139, 140, 141] (by decide +kernel) (by decide +kernel)
set_option maxRecDepth 20000 in
theorem gX7_digest_X7_tellSentence : GoodIn wsX7_digest (wsV RX7 172 RX7 yX7_tellSentence wsX7_tellSentence) := goodIn_app (goodIn_of _ (by decide +kernel)) ggX7_digest_X7_tellSentence
set_option maxRecDepth 20000 in
theorem ggX7_digest_X7_matchOf : GoodIn wsX7_digest wsX7_matchOf := goodIn_r _ [80, 4, 5, 81, 82, 83, 84, 85, 11, 86, 87, 88, 89, 90, 31, 26, 40, 41, 42, 43, 44, 45, 46, 47, 3, 48, 49, 50, 51, 52, 53, 91, 92, 93, 111, 112, 113, 114, 115, 116, 117, 118, 119, 120, 121, 122, 123, 124, 125, 126, 127, 128, 129, 130, 131, 132, 133, 134, 135, 136, 137, 138, 139, 140, 141] (by decide +kernel) (by decide +kernel)
set_option maxRecDepth 20000 in
theorem gX7_digest_X7_matchOf : GoodIn wsX7_digest (wsV RX7 186 RX7 yX7_matchOf wsX7_matchOf) := goodIn_app (goodIn_of _ (by decide +kernel)) ggX7_digest_X7_matchOf
set_option maxRecDepth 20000 in
theorem ggX7_digest_X7_countOf : GoodIn wsX7_digest wsX7_countOf := goodIn_r _ [97, 4, 5, 98, 58, 6, 99, 32, 33, 34, 11, 35, 31, 100, 101, 102, 103, 73, 74, 75, 76, 26, 104, 105, 106, 107, 108, 109, 110, 111, 112, 113, 114, 115, 116, 117, 118, 119, 120, 121, 122, 123, 124, 125, 126, 127, 128, 129, 130, 131, 132, 133, 134, 135, 136, 137, 138, 139, 140, 141] (by decide +kernel) (by decide +kernel)
set_option maxRecDepth 20000 in
theorem gX7_digest_X7_countOf : GoodIn wsX7_digest (wsV RX7 226 RX7 yX7_countOf wsX7_countOf) := goodIn_app (goodIn_of _ (by decide +kernel)) ggX7_digest_X7_countOf
set_option maxRecDepth 20000 in
theorem ggJ0_length_8abf5_J0_coder_7d493 : GoodIn wsJ0_length_8abf5 wsJ0_coder_7d493 := goodIn_r _ [6, 7, 8] (by decide +kernel) (by decide +kernel)
set_option maxRecDepth 20000 in
theorem gJ0_length_8abf5_J0_coder_7d493 : GoodIn wsJ0_length_8abf5 (wsV RJ0 335 RJ0 yJ0_coder_7d493 wsJ0_coder_7d493) := goodIn_app (goodIn_of _ (by decide +kernel)) ggJ0_length_8abf5_J0_coder_7d493
set_option maxRecDepth 20000 in
theorem ggJ0_indexOf_0f7a4_J0_indexOf_7cf53 : GoodIn wsJ0_indexOf_0f7a4 wsJ0_indexOf_7cf53 := goodIn_r _ [5, 6, 7, 8, 9, 4, 10, 11, 12, 13, 14, 15, 16, 17, 18, 19, 20, 21, 22, 23, 24, 25, 26, 27, 28, 29, 30, 31, 32, 33, 34, 35, 36, 37, 38, 39, 40, 41, 42, 43, 44, 45, 46, 47, 48, 49, 50, 51, 52, 53, 54, 55, 56, 57, 58, 59, 60, 61, 62, 63, 64, 65, 66, 67, 68, 69, 70, 71, 72, 73, 74, 75, 76, 77, 78, 79, 80, 81, 82, 83, 84, 85] (by decide +kernel) (by decide +kernel)
set_option maxRecDepth 20000 in
theorem gJ0_indexOf_0f7a4_J0_indexOf_7cf53 : GoodIn wsJ0_indexOf_0f7a4 (wsV RJ0 633 RJ0 yJ0_indexOf_7cf53 wsJ0_indexOf_7cf53) := goodIn_app (goodIn_of _ (by decide +kernel)) ggJ0_indexOf_0f7a4_J0_indexOf_7cf53
set_option maxRecDepth 20000 in
theorem ggJ0_indexOf_7cf53_J0_isLatin1_aae02 : GoodIn wsJ0_indexOf_7cf53 wsJ0_isLatin1_aae02 := goodIn_r _ [6, 7, 8] (by decide +kernel) (by decide +kernel)
set_option maxRecDepth 20000 in
theorem gJ0_indexOf_7cf53_J0_isLatin1_aae02 : GoodIn wsJ0_indexOf_7cf53 (wsV RJ0 492 RJ0 yJ0_isLatin1_aae02 wsJ0_isLatin1_aae02) := goodIn_app (goodIn_of _ (by decide +kernel)) ggJ0_indexOf_7cf53_J0_isLatin1_aae02
set_option maxRecDepth 20000 in
theorem ggJ0_indexOf_7cf53_J0_length_8abf5 : GoodIn wsJ0_indexOf_7cf53 wsJ0_length_8abf5 := goodIn_r _ [12, 1, 13, 14, 15, 5, 16, 7, 8] (by decide +kernel) (by decide +kernel)
set_option maxRecDepth 20000 in
theorem gJ0_indexOf_7cf53_J0_length_8abf5 : GoodIn wsJ0_indexOf_7cf53 (wsV RJ0 505 RJ0 yJ0_length_8abf5 wsJ0_length_8abf5) := goodIn_app (goodIn_of _ (by decide +kernel)) ggJ0_indexOf_7cf53_J0_length_8abf5
set_option maxRecDepth 20000 in
theorem ggJ0_indexOf_7cf53_J1_indexOf_4cfef : GoodIn wsJ0_indexOf_7cf53 wsJ1_indexOf_4cfef := goodIn_r _ [20, 21, 22, 23, 24, 25, 26, 27, 28, 29, 19, 30, 31, 32, 33] (by decide +kernel) (by decide +kernel)
set_option maxRecDepth 20000 in
theorem gJ0_indexOf_7cf53_J1_indexOf_4cfef : GoodIn wsJ0_indexOf_7cf53 (va_wsS RJ0 637 yJ1_indexOf_4cfef wsJ1_indexOf_4cfef) := goodIn_app (goodIn_of _ (by decide +kernel)) ggJ0_indexOf_7cf53_J1_indexOf_4cfef
set_option maxRecDepth 20000 in
theorem ggJ0_indexOf_7cf53_J2_indexOf_4cfef : GoodIn wsJ0_indexOf_7cf53 wsJ2_indexOf_4cfef := goodIn_r _ [37, 38, 22, 23, 24, 39, 26, 27, 40, 41, 42, 36, 43, 44, 45, 46, 47, 48, 49, 50, 51, 5, 52, 53, 54, 55, 56, 57, 58, 59, 60, 61, 62, 63, 64, 65, 66, 67, 68, 69, 70, 71, 72, 73, 74, 75, 76, 77, 78, 79, 80, 81] (by decide +kernel) (by decide +kernel)
set_option maxRecDepth 20000 in
theorem gJ0_indexOf_7cf53_J2_indexOf_4cfef : GoodIn wsJ0_indexOf_7cf53 (va_wsS RJ0 640 yJ2_indexOf_4cfef wsJ2_indexOf_4cfef) := goodIn_app (goodIn_of _ (by decide +kernel)) ggJ0_indexOf_7cf53_J2_indexOf_4cfef
set_option maxRecDepth 20000 in
theorem ggJ0_checkBoundsBeginEnd_23922_J3_checkFromToIndex_8c36e : GoodIn wsJ0_checkBoundsBeginEnd_23922 wsJ3_checkFromToIndex_8c36e := goodIn_r _ [5] (by decide +kernel) (by decide +kernel)
set_option maxRecDepth 20000 in
theorem gJ0_checkBoundsBeginEnd_23922_J3_checkFromToIndex_8c36e : GoodIn wsJ0_checkBoundsBeginEnd_23922 (va_wsS RJ0 1062 yJ3_checkFromToIndex_8c36e wsJ3_checkFromToIndex_8c36e) := goodIn_app (goodIn_of _ (by decide +kernel)) ggJ0_checkBoundsBeginEnd_23922_J3_checkFromToIndex_8c36e
set_option maxRecDepth 20000 in
theorem ggJ1_indexOf_4cfef_J1_canEncode_9a6ad : GoodIn wsJ1_indexOf_4cfef wsJ1_canEncode_9a6ad := goodIn_r _ [11] (by decide +kernel) (by decide +kernel)
set_option maxRecDepth 20000 in
theorem gJ1_indexOf_4cfef_J1_canEncode_9a6ad : GoodIn wsJ1_indexOf_4cfef (va_wsS RJ1 88 yJ1_canEncode_9a6ad wsJ1_canEncode_9a6ad) := goodIn_app (goodIn_of _ (by decide +kernel)) ggJ1_indexOf_4cfef_J1_canEncode_9a6ad
set_option maxRecDepth 20000 in
theorem ggJ1_indexOf_4cfef_J1_indexOfChar_4cfef : GoodIn wsJ1_indexOf_4cfef wsJ1_indexOfChar_4cfef := goodIn_r _ [14] (by decide +kernel) (by decide +kernel)
set_option maxRecDepth 20000 in
theorem gJ1_indexOf_4cfef_J1_indexOfChar_4cfef : GoodIn wsJ1_indexOf_4cfef (va_wsS RJ1 95 yJ1_indexOfChar_4cfef wsJ1_indexOfChar_4cfef) := goodIn_app (goodIn_of _ (by decide +kernel)) ggJ1_indexOf_4cfef_J1_indexOfChar_4cfef
set_option maxRecDepth 20000 in
theorem ggJ2_getChar_3b067_J2_length_9d52b : GoodIn wsJ2_getChar_3b067 wsJ2_length_9d52b := goodIn_r _ [7] (by decide +kernel) (by decide +kernel)
set_option maxRecDepth 20000 in
theorem gJ2_getChar_3b067_J2_length_9d52b : GoodIn wsJ2_getChar_3b067 (va_wsS RJ2 48 yJ2_length_9d52b wsJ2_length_9d52b) := goodIn_app (goodIn_of _ (by decide +kernel)) ggJ2_getChar_3b067_J2_length_9d52b
set_option maxRecDepth 20000 in
theorem ggJ2_indexOf_4cfef_J2_indexOfChar_4cfef : GoodIn wsJ2_indexOf_4cfef wsJ2_indexOfChar_4cfef := goodIn_r _ [12, 13, 14, 11, 15, 16, 17, 18, 19, 20, 21, 22, 23, 24, 25, 26, 27, 28, 29, 30, 31, 32, 33, 34, 35, 36] (by decide +kernel) (by decide +kernel)
set_option maxRecDepth 20000 in
theorem gJ2_indexOf_4cfef_J2_indexOfChar_4cfef : GoodIn wsJ2_indexOf_4cfef (va_wsS RJ2 228 yJ2_indexOfChar_4cfef wsJ2_indexOfChar_4cfef) := goodIn_app (goodIn_of _ (by decide +kernel)) ggJ2_indexOf_4cfef_J2_indexOfChar_4cfef
set_option maxRecDepth 20000 in
theorem ggJ2_indexOf_4cfef_J2_indexOfSupplementary_4cfef : GoodIn wsJ2_indexOf_4cfef wsJ2_indexOfSupplementary_4cfef := goodIn_r _ [39, 40, 41, 42, 43, 44, 45, 46, 47, 48, 49, 50, 51, 13, 14, 11, 15, 16, 17, 18, 19, 20, 21, 22, 23, 24, 25, 26, 27, 31, 32, 33, 34, 35, 36] (by decide +kernel) (by decide +kernel)
set_option maxRecDepth 20000 in
theorem gJ2_indexOf_4cfef_J2_indexOfSupplementary_4cfef : GoodIn wsJ2_indexOf_4cfef (va_wsS RJ2 232 yJ2_indexOfSupplementary_4cfef wsJ2_indexOfSupplementary_4cfef) := goodIn_app (goodIn_of _ (by decide +kernel)) ggJ2_indexOf_4cfef_J2_indexOfSupplementary_4cfef
set_option maxRecDepth 20000 in
theorem ggJ2_indexOfChar_4cfef_J2_checkBoundsBeginEnd_d044e : GoodIn wsJ2_indexOfChar_4cfef wsJ2_checkBoundsBeginEnd_d044e := goodIn_r _ [4, 5, 6, 3, 7, 8, 9, 10, 11, 12, 13, 14, 15, 16] (by decide +kernel) (by decide +kernel)
set_option maxRecDepth 20000 in
theorem gJ2_indexOfChar_4cfef_J2_checkBoundsBeginEnd_d044e : GoodIn wsJ2_indexOfChar_4cfef (va_wsS RJ2 96 yJ2_checkBoundsBeginEnd_d044e wsJ2_checkBoundsBeginEnd_d044e) := goodIn_app (goodIn_of _ (by decide +kernel)) ggJ2_indexOfChar_4cfef_J2_checkBoundsBeginEnd_d044e
set_option maxRecDepth 20000 in
theorem ggJ2_indexOfChar_4cfef_J2_indexOfCharUnsafe_4cfef : GoodIn wsJ2_indexOfChar_4cfef wsJ2_indexOfCharUnsafe_4cfef := goodIn_r _ [19, 20, 21, 3, 22, 23, 24, 25, 5, 6, 7] (by decide +kernel) (by decide +kernel)
set_option maxRecDepth 20000 in
theorem gJ2_indexOfChar_4cfef_J2_indexOfCharUnsafe_4cfef : GoodIn wsJ2_indexOfChar_4cfef (va_wsS RJ2 244 yJ2_indexOfCharUnsafe_4cfef wsJ2_indexOfCharUnsafe_4cfef) := goodIn_app (goodIn_of _ (by decide +kernel)) ggJ2_indexOfChar_4cfef_J2_indexOfCharUnsafe_4cfef
set_option maxRecDepth 20000 in
theorem ggJ2_indexOfCharUnsafe_4cfef_J2_getChar_3b067 : GoodIn wsJ2_indexOfCharUnsafe_4cfef wsJ2_getChar_3b067 := goodIn_r _ [4, 5, 6, 7, 8, 9, 3, 10] (by decide +kernel) (by decide +kernel)
set_option maxRecDepth 20000 in
theorem gJ2_indexOfCharUnsafe_4cfef_J2_getChar_3b067 : GoodIn wsJ2_indexOfCharUnsafe_4cfef (va_wsS RJ2 71 yJ2_getChar_3b067 wsJ2_getChar_3b067) := goodIn_app (goodIn_of _ (by decide +kernel)) ggJ2_indexOfCharUnsafe_4cfef_J2_getChar_3b067
set_option maxRecDepth 20000 in
theorem ggJ2_indexOfSupplementary_4cfef_J11_isValidCodePoint_9a6ad : GoodIn wsJ2_indexOfSupplementary_4cfef wsJ11_isValidCodePoint_9a6ad := goodIn_r _ [4] (by decide +kernel) (by decide +kernel)
set_option maxRecDepth 20000 in
theorem gJ2_indexOfSupplementary_4cfef_J11_isValidCodePoint_9a6ad : GoodIn wsJ2_indexOfSupplementary_4cfef (va_wsS RJ2 164 yJ11_isValidCodePoint_9a6ad wsJ11_isValidCodePoint_9a6ad) := goodIn_app (goodIn_of _ (by decide +kernel)) ggJ2_indexOfSupplementary_4cfef_J11_isValidCodePoint_9a6ad
set_option maxRecDepth 20000 in
theorem ggJ2_indexOfSupplementary_4cfef_J11_highSurrogate_5068e : GoodIn wsJ2_indexOfSupplementary_4cfef wsJ11_highSurrogate_5068e := goodIn_r _ [7, 8] (by decide +kernel) (by decide +kernel)
set_option maxRecDepth 20000 in
theorem gJ2_indexOfSupplementary_4cfef_J11_highSurrogate_5068e : GoodIn wsJ2_indexOfSupplementary_4cfef (va_wsS RJ2 157 yJ11_highSurrogate_5068e wsJ11_highSurrogate_5068e) := goodIn_app (goodIn_of _ (by decide +kernel)) ggJ2_indexOfSupplementary_4cfef_J11_highSurrogate_5068e
set_option maxRecDepth 20000 in
theorem ggJ2_indexOfSupplementary_4cfef_J11_lowSurrogate_5068e : GoodIn wsJ2_indexOfSupplementary_4cfef wsJ11_lowSurrogate_5068e := goodIn_r _ [11, 12] (by decide +kernel) (by decide +kernel)
set_option maxRecDepth 20000 in
theorem gJ2_indexOfSupplementary_4cfef_J11_lowSurrogate_5068e : GoodIn wsJ2_indexOfSupplementary_4cfef (va_wsS RJ2 161 yJ11_lowSurrogate_5068e wsJ11_lowSurrogate_5068e) := goodIn_app (goodIn_of _ (by decide +kernel)) ggJ2_indexOfSupplementary_4cfef_J11_lowSurrogate_5068e
set_option maxRecDepth 20000 in
theorem ggJ2_indexOfSupplementary_4cfef_J2_checkBoundsBeginEnd_d044e : GoodIn wsJ2_indexOfSupplementary_4cfef wsJ2_checkBoundsBeginEnd_d044e := goodIn_r _ [16, 17, 18, 15, 19, 20, 21, 22, 23, 24, 25, 26, 27, 28] (by decide +kernel) (by decide +kernel)
set_option maxRecDepth 20000 in
theorem gJ2_indexOfSupplementary_4cfef_J2_checkBoundsBeginEnd_d044e : GoodIn wsJ2_indexOfSupplementary_4cfef (va_wsS RJ2 96 yJ2_checkBoundsBeginEnd_d044e wsJ2_checkBoundsBeginEnd_d044e) := goodIn_app (goodIn_of _ (by decide +kernel)) ggJ2_indexOfSupplementary_4cfef_J2_checkBoundsBeginEnd_d044e
set_option maxRecDepth 20000 in
theorem ggJ2_indexOfSupplementary_4cfef_J2_getChar_3b067 : GoodIn wsJ2_indexOfSupplementary_4cfef wsJ2_getChar_3b067 := goodIn_r _ [31, 32, 33, 34, 17, 18, 15, 19] (by decide +kernel) (by decide +kernel)
set_option maxRecDepth 20000 in
theorem gJ2_indexOfSupplementary_4cfef_J2_getChar_3b067 : GoodIn wsJ2_indexOfSupplementary_4cfef (va_wsS RJ2 71 yJ2_getChar_3b067 wsJ2_getChar_3b067) := goodIn_app (goodIn_of _ (by decide +kernel)) ggJ2_indexOfSupplementary_4cfef_J2_getChar_3b067
set_option maxRecDepth 20000 in
theorem ggJ2_checkBoundsBeginEnd_d044e_J2_length_9d52b : GoodIn wsJ2_checkBoundsBeginEnd_d044e wsJ2_length_9d52b := goodIn_r _ [4] (by decide +kernel) (by decide +kernel)
set_option maxRecDepth 20000 in
theorem gJ2_checkBoundsBeginEnd_d044e_J2_length_9d52b : GoodIn wsJ2_checkBoundsBeginEnd_d044e (va_wsS RJ2 48 yJ2_length_9d52b wsJ2_length_9d52b) := goodIn_app (goodIn_of _ (by decide +kernel)) ggJ2_checkBoundsBeginEnd_d044e_J2_length_9d52b
set_option maxRecDepth 20000 in
theorem ggJ2_checkBoundsBeginEnd_d044e_J0_checkBoundsBeginEnd_23922 : GoodIn wsJ2_checkBoundsBeginEnd_d044e wsJ0_checkBoundsBeginEnd_23922 := goodIn_r _ [8, 9, 10, 11, 12, 13] (by decide +kernel) (by decide +kernel)
set_option maxRecDepth 20000 in
theorem gJ2_checkBoundsBeginEnd_d044e_J0_checkBoundsBeginEnd_23922 : GoodIn wsJ2_checkBoundsBeginEnd_d044e (va_wsS RJ2 241 yJ0_checkBoundsBeginEnd_23922 wsJ0_checkBoundsBeginEnd_23922) := goodIn_app (goodIn_of _ (by decide +kernel)) ggJ2_checkBoundsBeginEnd_d044e_J0_checkBoundsBeginEnd_23922
set_option maxRecDepth 20000 in
theorem ggL_law_X6_init : GoodIn wsL_law wsX6_init := goodIn_r _ [8, 9, 10, 11, 12, 13, 14, 15, 16, 17, 18, 19, 20, 21, 22, 23, 24, 25, 26, 27, 28, 29, 30, 31, 32, 33, 34, 35, 36, 37, 38, 39, 40, 41, 42, 43, 44, 45, 46, 47, 48, 49, 50, 51, 52, 53, 54, 55, 56, 57, 58, 59, 60, 61, 62, 63, 64, 65, 66, 67, 68, 69, 70, 71, 72, 73, 74, 75, 76, 77, 78, 79, 80, 81, 82, 83, 84, 85, 86, 804, 805, 764, 765, 766, 767, 768, 769, 770, 771, 772, 806, 807, 808, 809, 810, 811, 812, 813, 814, 815, 816, 817, 818, 819, 820, 821, 822, 823, 824, 825, 826, 827, 828, 829, 830, 831] (by decide +kernel) (by decide +kernel)
set_option maxRecDepth 20000 in
theorem gL_law_X6_init : GoodIn wsL_law (wsX6_init) := ggL_law_X6_init
set_option maxRecDepth 20000 in
theorem ggL_law_X7_init : GoodIn wsL_law wsX7_init := goodIn_r _ [89, 90, 10, 11, 42, 91, 92, 93, 94, 95, 96, 97, 98, 99, 100, 101, 102, 103, 104, 105, 773, 774, 775, 776, 777, 778, 779, 780, 781, 782, 783, 784, 785, 786, 787, 788, 789, 790, 791, 792, 793, 794, 795, 796, 797, 798, 799, 800, 801, 802, 803] (by decide +kernel) (by decide +kernel)
set_option maxRecDepth 20000 in
theorem gL_law_X7_init : GoodIn wsL_law (wsX7_init) := ggL_law_X7_init
set_option maxRecDepth 20000 in
theorem ggL_law_X6_letter : GoodIn wsL_law wsX6_letter := goodIn_r _ [109, 15, 110, 111, 112, 113, 14, 114, 44, 43, 764, 765, 766, 767, 768, 769, 770, 771, 772, 804, 805] (by decide +kernel) (by decide +kernel)
set_option maxRecDepth 20000 in
theorem gL_law_X6_letter : GoodIn wsL_law (wsV RL 13 RX6 yX6_letter wsX6_letter) := goodIn_app (goodIn_of _ (by decide +kernel)) ggL_law_X6_letter
set_option maxRecDepth 20000 in
theorem ggL_law_X7_letter : GoodIn wsL_law wsX7_letter := goodIn_r _ [118, 119, 120, 91, 121, 122, 5, 123, 773, 774, 775, 776, 777, 778, 779, 780, 781, 782, 783, 784, 785, 786, 787, 788, 789, 790, 791, 792, 793, 794, 795, 796, 797, 798, 799, 800, 801, 802, 803] (by decide +kernel) (by decide +kernel)
set_option maxRecDepth 20000 in
theorem gL_law_X7_letter : GoodIn wsL_law (wsV RL 17 RX7 yX7_letter wsX7_letter) := goodIn_app (goodIn_of _ (by decide +kernel)) ggL_law_X7_letter
set_option maxRecDepth 20000 in
theorem ggL_law_X6_blank : GoodIn wsL_law wsX6_blank := goodIn_r _ [127, 15, 110, 764, 765, 766, 767, 768, 769, 770, 771, 772, 804, 805] (by decide +kernel) (by decide +kernel)
set_option maxRecDepth 20000 in
theorem gL_law_X6_blank : GoodIn wsL_law (wsV RL 18 RX6 yX6_blank wsX6_blank) := goodIn_app (goodIn_of _ (by decide +kernel)) ggL_law_X6_blank
set_option maxRecDepth 20000 in
theorem ggL_law_X7_blank : GoodIn wsL_law wsX7_blank := goodIn_r _ [131, 120, 773, 774, 775, 776, 777, 778, 779, 780, 781, 782, 783, 784, 785, 786, 787, 788, 789, 790, 791, 792, 793, 794, 795, 796, 797, 798, 799, 800, 801, 802, 803] (by decide +kernel) (by decide +kernel)
set_option maxRecDepth 20000 in
theorem gL_law_X7_blank : GoodIn wsL_law (wsV RL 22 RX7 yX7_blank wsX7_blank) := goodIn_app (goodIn_of _ (by decide +kernel)) ggL_law_X7_blank
set_option maxRecDepth 20000 in
theorem ggL_law_X6_fault : GoodIn wsL_law wsX6_fault := goodIn_r _ [135, 19, 15, 136, 137, 138, 18, 139, 49, 50, 140, 141, 142, 143, 144, 22, 145, 56, 59, 146, 147, 148, 149, 51, 52, 150, 151, 152, 153, 154, 155, 156, 157, 158, 159, 2, 160, 161, 162, 163, 164, 165, 166, 167, 168, 169, 170, 171, 172, 173, 174, 175, 176, 177, 178, 179, 180, 181, 182, 183, 184, 185, 186, 187, 188, 189, 190, 191, 192, 193, 194, 195, 196, 197, 198, 199, 200, 201, 202, 203, 204, 205, 206, 207, 208, 209, 210, 211, 212, 213, 214, 215, 216, 217, 218, 219, 220, 221, 222, 223, 224, 225, 226, 227, 228, 229, 230, 231, 232, 233, 234, 235, 236, 237, 238, 239, 240, 241, 242, 243, 244, 245, 246, 247, 248, 249, 250, 251, 252, 253, 254, 255, 256, 257, 258, 259, 260, 261, 262, 263, 264, 265, 266, 267, 268, 764, 765, 766, 767, 768, 769, 770, 771, 772, 806, 807, 808, 809, 804, 805, 810, 811, 812, 813] (by decide +kernel) (by decide +kernel)
set_option maxRecDepth 20000 in
theorem gL_law_X6_fault : GoodIn wsL_law (wsV RL 23 RX6 yX6_fault wsX6_fault) := goodIn_app (goodIn_of _ (by decide +kernel)) ggL_law_X6_fault
set_option maxRecDepth 20000 in
theorem ggL_law_X7_fault : GoodIn wsL_law wsX7_fault := goodIn_r _ [272, 273, 274, 275, 5, 276, 277, 278, 279, 280, 281, 120, 91, 282, 283, 284, 285, 286, 92, 121, 122, 123, 287, 288, 289, 290, 93, 291, 292, 293, 294, 295, 773, 774, 775, 776, 777, 778, 779, 780, 781, 782, 783, 784, 785, 786, 787, 788, 789, 790, 791, 792, 793, 794, 795, 796, 797, 798, 799, 800, 801, 802, 803] (by decide +kernel) (by decide +kernel)
set_option maxRecDepth 20000 in
theorem gL_law_X7_fault : GoodIn wsL_law (wsV RL 26 RX7 yX7_fault wsX7_fault) := goodIn_app (goodIn_of _ (by decide +kernel)) ggL_law_X7_fault
set_option maxRecDepth 20000 in
theorem ggL_law_X6_room : GoodIn wsL_law wsX6_room := goodIn_r _ [299, 19, 15, 110, 23, 300, 27, 301, 37, 38, 302, 136, 137, 138, 18, 139, 49, 50, 140, 141, 142, 143, 144, 22, 145, 56, 59, 146, 147, 148, 149, 51, 52, 150, 151, 152, 153, 154, 155, 156, 157, 158, 159, 2, 160, 161, 162, 163, 164, 165, 166, 167, 168, 169, 170, 171, 172, 173, 174, 175, 176, 177, 178, 179, 180, 181, 182, 183, 184, 185, 186, 187, 188, 189, 190, 191, 192, 193, 194, 195, 196, 197, 198, 199, 200, 201, 202, 203, 204, 205, 206, 207, 208, 209, 210, 211, 212, 213, 214, 215, 216, 217, 218, 219, 220, 221, 222, 223, 224, 225, 226, 227, 228, 229, 230, 231, 232, 233, 234, 235, 236, 237, 238, 239, 240, 241, 242, 243, 244, 245, 246, 247, 248, 249, 250, 251, 252, 253, 254, 255, 256, 257, 258, 259, 260, 261, 262, 263, 264, 265, 266, 267, 268, 303, 304, 305, 306, 307, 308, 309, 310, 311, 312, 313, 314, 57, 58, 315, 316, 317, 26, 318, 63, 319, 68, 72, 73, 764, 765, 766, 767, 768, 769, 770, 771, 772, 804, 805, 806, 807, 808, 809, 810, 811, 812, 813, 814, 815, 816, 817, 818, 819, 820, 821, 822, 823, 824] (by decide +kernel) (by decide +kernel)
set_option maxRecDepth 20000 in
theorem gL_law_X6_room : GoodIn wsL_law (wsV RL 27 RX6 yX6_room wsX6_room) := goodIn_app (goodIn_of _ (by decide +kernel)) ggL_law_X6_room
set_option maxRecDepth 20000 in
theorem ggL_law_X7_room : GoodIn wsL_law wsX7_room := goodIn_r _ [323, 120, 281, 280, 324, 92, 94, 95, 93, 325, 326, 327, 328, 273, 274, 275, 5, 276, 277, 278, 279, 91, 282, 283, 284, 285, 286, 121, 122, 123, 287, 288, 289, 290, 291, 292, 293, 294, 295, 329, 330, 331, 773, 774, 775, 776, 777, 778, 779, 780, 781, 782, 783, 784, 785, 786, 787, 788, 789, 790, 791, 792, 793, 794, 795, 796, 797, 798, 799, 800, 801, 802, 803] (by decide +kernel) (by decide +kernel)
set_option maxRecDepth 20000 in
theorem gL_law_X7_room : GoodIn wsL_law (wsV RL 30 RX7 yX7_room wsX7_room) := goodIn_app (goodIn_of _ (by decide +kernel)) ggL_law_X7_room
set_option maxRecDepth 20000 in
theorem ggL_law_X6_fits : GoodIn wsL_law wsX6_fits := goodIn_r _ [335, 23, 302, 336, 337, 338, 2, 339, 764, 765, 766, 767, 768, 769, 770, 771, 772, 810, 811, 812, 813] (by decide +kernel) (by decide +kernel)
set_option maxRecDepth 20000 in
theorem gL_law_X6_fits : GoodIn wsL_law (wsV RL 31 RX6 yX6_fits wsX6_fits) := goodIn_app (goodIn_of _ (by decide +kernel)) ggL_law_X6_fits
set_option maxRecDepth 20000 in
theorem ggL_law_X7_fits : GoodIn wsL_law wsX7_fits := goodIn_r _ [343, 94, 344, 345, 346, 5, 347, 348, 349, 350, 351, 352, 324, 121, 122, 123, 773, 774, 775, 776, 777, 778, 779, 780, 781, 782, 783, 784, 785, 786, 787, 788, 789, 790, 791, 792, 793, 794, 795, 796, 797, 798, 799, 800, 801, 802, 803] (by decide +kernel) (by decide +kernel)
set_option maxRecDepth 20000 in
theorem gL_law_X7_fits : GoodIn wsL_law (wsV RL 34 RX7 yX7_fits wsX7_fits) := goodIn_app (goodIn_of _ (by decide +kernel)) ggL_law_X7_fits
set_option maxRecDepth 20000 in
theorem ggL_law_X6_about : GoodIn wsL_law wsX6_about := goodIn_r _ [356, 23, 357, 27, 358, 359, 360, 361, 2, 362, 302, 363, 364, 365, 26, 366, 68, 66, 67, 367, 368, 369, 370, 64, 371, 372, 373, 374, 375, 376, 377, 378, 379, 380, 381, 382, 383, 384, 385, 386, 387, 388, 389, 390, 391, 392, 393, 394, 336, 395, 396, 397, 398, 399, 400, 401, 402, 403, 404, 405, 406, 407, 408, 409, 410, 411, 412, 413, 414, 415, 416, 417, 418, 419, 420, 421, 422, 423, 424, 425, 426, 427, 194, 195, 196, 764, 765, 766, 767, 768, 769, 770, 771, 772, 810, 811, 812, 813, 814, 815, 816, 817, 818, 819, 820, 821, 822, 823, 824] (by decide +kernel) (by decide +kernel)
set_option maxRecDepth 20000 in
theorem gL_law_X6_about : GoodIn wsL_law (wsV RL 35 RX6 yX6_about wsX6_about) := goodIn_app (goodIn_of _ (by decide +kernel)) ggL_law_X6_about
set_option maxRecDepth 20000 in
theorem ggL_law_X7_about : GoodIn wsL_law wsX7_about := goodIn_r _ [431, 432, 433, 434, 5, 435, 324, 121, 122, 123, 436, 437, 438, 439, 95, 440, 441, 442, 443, 326, 96, 444, 445, 446, 447, 448, 449, 450, 451, 452, 453, 454, 455, 456, 457, 458, 459, 94, 460, 461, 462, 463, 464, 465, 466, 467, 468, 469, 327, 99, 470, 471, 472, 473, 100, 773, 774, 775, 776, 777, 778, 779, 780, 781, 782, 783, 784, 785, 786, 787, 788, 789, 790, 791, 792, 793, 794, 795, 796, 797, 798, 799, 800, 801, 802, 803] (by decide +kernel) (by decide +kernel)
set_option maxRecDepth 20000 in
theorem gL_law_X7_about : GoodIn wsL_law (wsV RL 39 RX7 yX7_about wsX7_about) := goodIn_app (goodIn_of _ (by decide +kernel)) ggL_law_X7_about
set_option maxRecDepth 20000 in
theorem ggL_law_X6_as : GoodIn wsL_law wsX6_as := goodIn_r _ [477, 23, 357, 359, 360, 361, 2, 362, 302, 478, 479, 480, 764, 765, 766, 767, 768, 769, 770, 771, 772, 810, 811, 812, 813] (by decide +kernel) (by decide +kernel)
set_option maxRecDepth 20000 in
theorem gL_law_X6_as : GoodIn wsL_law (wsV RL 40 RX6 yX6_as wsX6_as) := goodIn_app (goodIn_of _ (by decide +kernel)) ggL_law_X6_as
set_option maxRecDepth 20000 in
theorem ggL_law_X7_as : GoodIn wsL_law wsX7_as := goodIn_r _ [484, 485, 95, 432, 433, 434, 5, 435, 324, 121, 122, 123, 773, 774, 775, 776, 777, 778, 779, 780, 781, 782, 783, 784, 785, 786, 787, 788, 789, 790, 791, 792, 793, 794, 795, 796, 797, 798, 799, 800, 801, 802, 803] (by decide +kernel) (by decide +kernel)
set_option maxRecDepth 20000 in
theorem gL_law_X7_as : GoodIn wsL_law (wsV RL 43 RX7 yX7_as wsX7_as) := goodIn_app (goodIn_of _ (by decide +kernel)) ggL_law_X7_as
set_option maxRecDepth 20000 in
theorem ggL_law_X6_want : GoodIn wsL_law wsX6_want := goodIn_r _ [489, 27, 358, 490, 359, 360, 361, 2, 362, 23, 302, 491, 159, 160, 764, 765, 766, 767, 768, 769, 770, 771, 772, 814, 815, 816, 817, 818, 819, 820, 821, 822, 823, 824, 810, 811, 812, 813] (by decide +kernel) (by decide +kernel)
set_option maxRecDepth 20000 in
theorem gL_law_X6_want : GoodIn wsL_law (wsV RL 44 RX6 yX6_want wsX6_want) := goodIn_app (goodIn_of _ (by decide +kernel)) ggL_law_X6_want
set_option maxRecDepth 20000 in
theorem ggL_law_X7_want : GoodIn wsL_law wsX7_want := goodIn_r _ [495, 286, 95, 325, 432, 433, 434, 5, 435, 324, 121, 122, 123, 773, 774, 775, 776, 777, 778, 779, 780, 781, 782, 783, 784, 785, 786, 787, 788, 789, 790, 791, 792, 793, 794, 795, 796, 797, 798, 799, 800, 801, 802, 803] (by decide +kernel) (by decide +kernel)
set_option maxRecDepth 20000 in
theorem gL_law_X7_want : GoodIn wsL_law (wsV RL 47 RX7 yX7_want wsX7_want) := goodIn_app (goodIn_of _ (by decide +kernel)) ggL_law_X7_want
set_option maxRecDepth 20000 in
theorem ggL_law_X6_would : GoodIn wsL_law wsX6_would := goodIn_r _ [499, 359, 360, 361, 2, 362, 23, 302, 337, 338, 339, 391, 392, 393, 394, 357, 336, 27, 358, 363, 364, 365, 26, 366, 68, 66, 67, 395, 396, 397, 398, 399, 400, 401, 402, 403, 404, 405, 406, 764, 765, 766, 767, 768, 769, 770, 771, 772, 810, 811, 812, 813, 814, 815, 816, 817, 818, 819, 820, 821, 822, 823, 824] (by decide +kernel) (by decide +kernel)
set_option maxRecDepth 20000 in
theorem gL_law_X6_would : GoodIn wsL_law (wsV RL 48 RX6 yX6_would wsX6_would) := goodIn_app (goodIn_of _ (by decide +kernel)) ggL_law_X6_would
set_option maxRecDepth 20000 in
theorem ggL_law_X7_would : GoodIn wsL_law wsX7_would := goodIn_r _ [503, 432, 433, 434, 5, 435, 324, 121, 122, 123, 344, 345, 346, 347, 348, 349, 350, 351, 352, 452, 453, 454, 455, 95, 456, 457, 458, 459, 94, 460, 461, 462, 463, 464, 465, 773, 774, 775, 776, 777, 778, 779, 780, 781, 782, 783, 784, 785, 786, 787, 788, 789, 790, 791, 792, 793, 794, 795, 796, 797, 798, 799, 800, 801, 802, 803] (by decide +kernel) (by decide +kernel)
set_option maxRecDepth 20000 in
theorem gL_law_X7_would : GoodIn wsL_law (wsV RL 51 RX7 yX7_would wsX7_would) := goodIn_app (goodIn_of _ (by decide +kernel)) ggL_law_X7_would
set_option maxRecDepth 20000 in
theorem ggL_law_X6_begin : GoodIn wsL_law wsX6_begin := goodIn_r _ [507, 27, 508, 359, 360, 361, 2, 362, 23, 302, 337, 338, 339, 367, 368, 369, 26, 370, 68, 64, 371, 372, 373, 374, 66, 509, 510, 511, 512, 65, 67, 764, 765, 766, 767, 768, 769, 770, 771, 772, 814, 815, 816, 817, 818, 819, 820, 821, 822, 823, 824, 810, 811, 812, 813] (by decide +kernel) (by decide +kernel)
set_option maxRecDepth 20000 in
theorem gL_law_X6_begin : GoodIn wsL_law (wsV RL 52 RX6 yX6_begin wsX6_begin) := goodIn_app (goodIn_of _ (by decide +kernel)) ggL_law_X6_begin
set_option maxRecDepth 20000 in
theorem ggL_law_X7_begin : GoodIn wsL_law wsX7_begin := goodIn_r _ [516, 326, 96, 432, 433, 434, 5, 435, 324, 121, 122, 123, 344, 345, 346, 347, 348, 349, 350, 351, 352, 440, 441, 442, 443, 773, 774, 775, 776, 777, 778, 779, 780, 781, 782, 783, 784, 785, 786, 787, 788, 789, 790, 791, 792, 793, 794, 795, 796, 797, 798, 799, 800, 801, 802, 803] (by decide +kernel) (by decide +kernel)
set_option maxRecDepth 20000 in
theorem gL_law_X7_begin : GoodIn wsL_law (wsV RL 55 RX7 yX7_begin wsX7_begin) := goodIn_app (goodIn_of _ (by decide +kernel)) ggL_law_X7_begin
set_option maxRecDepth 20000 in
theorem ggL_law_X6_end : GoodIn wsL_law wsX6_end := goodIn_r _ [520, 27, 521, 522, 523, 524, 525, 526, 527, 2, 528, 508, 359, 360, 361, 362, 23, 302, 529, 372, 373, 26, 374, 66, 391, 392, 393, 394, 357, 336, 358, 363, 364, 365, 366, 68, 67, 395, 396, 397, 398, 399, 400, 401, 402, 403, 404, 405, 406, 764, 765, 766, 767, 768, 769, 770, 771, 772, 814, 815, 816, 817, 818, 819, 820, 821, 822, 823, 824, 810, 811, 812, 813] (by decide +kernel) (by decide +kernel)
set_option maxRecDepth 20000 in
theorem gL_law_X6_end : GoodIn wsL_law (wsV RL 56 RX6 yX6_end wsX6_end) := goodIn_app (goodIn_of _ (by decide +kernel)) ggL_law_X6_end
set_option maxRecDepth 20000 in
theorem ggL_law_X7_end : GoodIn wsL_law wsX7_end := goodIn_r _ [533, 96, 95, 534, 535, 536, 5, 537, 326, 121, 122, 123, 432, 433, 434, 435, 324, 452, 453, 454, 455, 456, 457, 458, 459, 94, 460, 461, 462, 463, 464, 465, 773, 774, 775, 776, 777, 778, 779, 780, 781, 782, 783, 784, 785, 786, 787, 788, 789, 790, 791, 792, 793, 794, 795, 796, 797, 798, 799, 800, 801, 802, 803] (by decide +kernel) (by decide +kernel)
set_option maxRecDepth 20000 in
theorem gL_law_X7_end : GoodIn wsL_law (wsV RL 59 RX7 yX7_end wsX7_end) := goodIn_app (goodIn_of _ (by decide +kernel)) ggL_law_X7_end
set_option maxRecDepth 20000 in
theorem ggL_law_X6_sentence : GoodIn wsL_law wsX6_sentence := goodIn_r _ [541, 27, 521, 522, 523, 524, 525, 526, 527, 2, 528, 508, 542, 543, 544, 26, 545, 67, 63, 64, 371, 372, 373, 374, 66, 764, 765, 766, 767, 768, 769, 770, 771, 772, 814, 815, 816, 817, 818, 819, 820, 821, 822, 823, 824] (by decide +kernel) (by decide +kernel)
set_option maxRecDepth 20000 in
theorem gL_law_X6_sentence : GoodIn wsL_law (wsV RL 60 RX6 yX6_sentence wsX6_sentence) := goodIn_app (goodIn_of _ (by decide +kernel)) ggL_law_X6_sentence
set_option maxRecDepth 20000 in
theorem ggL_law_X7_sentence : GoodIn wsL_law wsX7_sentence := goodIn_r _ [549, 534, 535, 536, 5, 537, 326, 121, 122, 123, 550, 551, 552, 553, 348, 96, 554, 555, 556, 557, 95, 773, 774, 775, 776, 777, 778, 779, 780, 781, 782, 783, 784, 785, 786, 787, 788, 789, 790, 791, 792, 793, 794, 795, 796, 797, 798, 799, 800, 801, 802, 803] (by decide +kernel) (by decide +kernel)
set_option maxRecDepth 20000 in
theorem gL_law_X7_sentence : GoodIn wsL_law (wsV RL 63 RX7 yX7_sentence wsX7_sentence) := goodIn_app (goodIn_of _ (by decide +kernel)) ggL_law_X7_sentence
set_option maxRecDepth 20000 in
theorem ggL_law_X6_match : GoodIn wsL_law wsX6_match := goodIn_r _ [561, 23, 302, 32, 562, 563, 564, 565, 566, 2, 567, 568, 27, 508, 359, 360, 361, 362, 569, 570, 571, 572, 521, 522, 358, 529, 372, 373, 26, 374, 66, 391, 392, 393, 394, 357, 336, 363, 364, 365, 366, 68, 67, 395, 396, 397, 398, 399, 400, 401, 402, 403, 404, 405, 406, 573, 574, 575, 31, 576, 77, 79, 78, 577, 578, 579, 580, 194, 195, 196, 581, 582, 583, 584, 764, 765, 766, 767, 768, 769, 770, 771, 772, 810, 811, 812, 813, 825, 826, 827, 814, 815, 816, 817, 818, 819, 820, 821, 822, 823, 824] (by decide +kernel) (by decide +kernel)
set_option maxRecDepth 20000 in
theorem gL_law_X6_match : GoodIn wsL_law (wsV RL 64 RX6 yX6_match wsX6_match) := goodIn_app (goodIn_of _ (by decide +kernel)) ggL_law_X6_match
set_option maxRecDepth 20000 in
theorem ggL_law_X7_match : GoodIn wsL_law wsX7_match := goodIn_r _ [588, 589, 590, 121, 122, 5, 123, 349, 350, 351, 352, 324, 591, 592, 593, 594, 326, 97, 98, 595, 596, 597, 598, 599, 600, 601, 602, 96, 95, 452, 453, 454, 455, 456, 457, 458, 459, 94, 460, 461, 462, 463, 464, 465, 329, 330, 331, 773, 774, 775, 776, 777, 778, 779, 780, 781, 782, 783, 784, 785, 786, 787, 788, 789, 790, 791, 792, 793, 794, 795, 796, 797, 798, 799, 800, 801, 802, 803] (by decide +kernel) (by decide +kernel)
set_option maxRecDepth 20000 in
theorem gL_law_X7_match : GoodIn wsL_law (wsV RL 67 RX7 yX7_match wsX7_match) := goodIn_app (goodIn_of _ (by decide +kernel)) ggL_law_X7_match
set_option maxRecDepth 20000 in
theorem ggL_law_X6_hear : GoodIn wsL_law wsX6_hear := goodIn_r _ [606, 27, 415, 359, 360, 361, 2, 362, 23, 302, 337, 338, 339, 491, 159, 160, 607, 608, 609, 26, 610, 72, 69, 70, 71, 764, 765, 766, 767, 768, 769, 770, 771, 772, 814, 815, 816, 817, 818, 819, 820, 821, 822, 823, 824, 810, 811, 812, 813] (by decide +kernel) (by decide +kernel)
set_option maxRecDepth 20000 in
theorem gL_law_X6_hear : GoodIn wsL_law (wsV RL 68 RX6 yX6_hear wsX6_hear) := goodIn_app (goodIn_of _ (by decide +kernel)) ggL_law_X6_hear
set_option maxRecDepth 20000 in
theorem ggL_law_X7_hear : GoodIn wsL_law wsX7_hear := goodIn_r _ [614, 615, 286, 327, 99, 432, 433, 434, 5, 435, 324, 121, 122, 123, 344, 345, 346, 347, 348, 349, 350, 351, 352, 773, 774, 775, 776, 777, 778, 779, 780, 781, 782, 783, 784, 785, 786, 787, 788, 789, 790, 791, 792, 793, 794, 795, 796, 797, 798, 799, 800, 801, 802, 803] (by decide +kernel) (by decide +kernel)
set_option maxRecDepth 20000 in
theorem gL_law_X7_hear : GoodIn wsL_law (wsV RL 72 RX7 yX7_hear wsX7_hear) := goodIn_app (goodIn_of _ (by decide +kernel)) ggL_law_X7_hear
set_option maxRecDepth 20000 in
theorem ggL_law_X6_forget : GoodIn wsL_law wsX6_forget := goodIn_r _ [619, 27, 415, 764, 765, 766, 767, 768, 769, 770, 771, 772, 814, 815, 816, 817, 818, 819, 820, 821, 822, 823, 824] (by decide +kernel) (by decide +kernel)
set_option maxRecDepth 20000 in
theorem gL_law_X6_forget : GoodIn wsL_law (wsV RL 73 RX6 yX6_forget wsX6_forget) := goodIn_app (goodIn_of _ (by decide +kernel)) ggL_law_X6_forget
set_option maxRecDepth 20000 in
theorem ggL_law_X7_forget : GoodIn wsL_law wsX7_forget := goodIn_r _ [623, 327, 773, 774, 775, 776, 777, 778, 779, 780, 781, 782, 783, 784, 785, 786, 787, 788, 789, 790, 791, 792, 793, 794, 795, 796, 797, 798, 799, 800, 801, 802, 803] (by decide +kernel) (by decide +kernel)
set_option maxRecDepth 20000 in
theorem gL_law_X7_forget : GoodIn wsL_law (wsV RL 76 RX7 yX7_forget wsX7_forget) := goodIn_app (goodIn_of _ (by decide +kernel)) ggL_law_X7_forget
set_option maxRecDepth 20000 in
theorem ggL_law_X6_talks : GoodIn wsL_law wsX6_talks := goodIn_r _ [627, 23, 302, 36, 27, 628, 629, 630, 631, 632, 633, 35, 634, 84, 85, 86, 83, 635, 364, 365, 26, 366, 68, 66, 67, 636, 637, 638, 639, 640, 641, 642, 643, 644, 645, 646, 647, 648, 649, 650, 651, 396, 2, 397, 398, 399, 400, 401, 402, 403, 404, 405, 406, 764, 765, 766, 767, 768, 769, 770, 771, 772, 810, 811, 812, 813, 828, 829, 830, 831, 814, 815, 816, 817, 818, 819, 820, 821, 822, 823, 824] (by decide +kernel) (by decide +kernel)
set_option maxRecDepth 20000 in
theorem gL_law_X6_talks : GoodIn wsL_law (wsV RL 77 RX6 yX6_talks wsX6_talks) := goodIn_app (goodIn_of _ (by decide +kernel)) ggL_law_X6_talks
set_option maxRecDepth 20000 in
theorem ggL_law_X7_talks : GoodIn wsL_law wsX7_talks := goodIn_r _ [655, 656, 657, 95, 101, 658, 324, 121, 122, 5, 123, 349, 350, 351, 352, 329, 330, 331, 659, 660, 661, 662, 663, 664, 665, 666, 452, 453, 454, 455, 456, 457, 458, 459, 94, 460, 461, 462, 463, 464, 465, 773, 774, 775, 776, 777, 778, 779, 780, 781, 782, 783, 784, 785, 786, 787, 788, 789, 790, 791, 792, 793, 794, 795, 796, 797, 798, 799, 800, 801, 802, 803] (by decide +kernel) (by decide +kernel)
set_option maxRecDepth 20000 in
theorem gL_law_X7_talks : GoodIn wsL_law (wsV RL 80 RX7 yX7_talks wsX7_talks) := goodIn_app (goodIn_of _ (by decide +kernel)) ggL_law_X7_talks
set_option maxRecDepth 20000 in
theorem ggL_law_X6_image : GoodIn wsL_law wsX6_image := goodIn_r _ [670, 23, 302, 28, 27, 37, 508, 671, 672, 673, 26, 674, 63, 319, 312, 313, 314, 64, 65, 66, 67, 69, 70, 71, 68, 72, 73, 764, 765, 766, 767, 768, 769, 770, 771, 772, 810, 811, 812, 813, 814, 815, 816, 817, 818, 819, 820, 821, 822, 823, 824] (by decide +kernel) (by decide +kernel)
set_option maxRecDepth 20000 in
theorem gL_law_X6_image : GoodIn wsL_law (wsV RL 81 RX6 yX6_image wsX6_image) := goodIn_app (goodIn_of _ (by decide +kernel)) ggL_law_X6_image
set_option maxRecDepth 20000 in
theorem ggL_law_X7_image : GoodIn wsL_law wsX7_image := goodIn_r _ [678, 95, 102, 96, 103, 99, 104, 326, 679, 325, 680, 327, 681, 328, 105, 349, 350, 351, 5, 352, 324, 329, 330, 331, 773, 774, 775, 776, 777, 778, 779, 780, 781, 782, 783, 784, 785, 786, 787, 788, 789, 790, 791, 792, 793, 794, 795, 796, 797, 798, 799, 800, 801, 802, 803] (by decide +kernel) (by decide +kernel)
set_option maxRecDepth 20000 in
theorem gL_law_X7_image : GoodIn wsL_law (wsV RL 84 RX7 yX7_image wsX7_image) := goodIn_app (goodIn_of _ (by decide +kernel)) ggL_law_X7_image
set_option maxRecDepth 20000 in
theorem ggL_law_X6_restore : GoodIn wsL_law wsX6_restore := goodIn_r _ [685, 37, 27, 28, 508, 671, 672, 673, 26, 674, 63, 319, 312, 313, 314, 64, 65, 66, 67, 69, 70, 71, 68, 72, 73, 764, 765, 766, 767, 768, 769, 770, 771, 772, 814, 815, 816, 817, 818, 819, 820, 821, 822, 823, 824] (by decide +kernel) (by decide +kernel)
set_option maxRecDepth 20000 in
theorem gL_law_X6_restore : GoodIn wsL_law (wsV RL 85 RX6 yX6_restore wsX6_restore) := goodIn_app (goodIn_of _ (by decide +kernel)) ggL_law_X6_restore
set_option maxRecDepth 20000 in
theorem ggL_law_X7_restore : GoodIn wsL_law wsX7_restore := goodIn_r _ [689, 105, 328, 102, 95, 103, 96, 104, 99, 679, 326, 680, 325, 681, 327, 329, 330, 5, 331, 773, 774, 775, 776, 777, 778, 779, 780, 781, 782, 783, 784, 785, 786, 787, 788, 789, 790, 791, 792, 793, 794, 795, 796, 797, 798, 799, 800, 801, 802, 803] (by decide +kernel) (by decide +kernel)
set_option maxRecDepth 20000 in
theorem gL_law_X7_restore : GoodIn wsL_law (wsV RL 88 RX7 yX7_restore wsX7_restore) := goodIn_app (goodIn_of _ (by decide +kernel)) ggL_law_X7_restore
set_option maxRecDepth 20000 in
theorem ggL_law_X6_count : GoodIn wsL_law wsX6_count := goodIn_r _ [693, 23, 302, 27, 508, 490, 415, 15, 110, 38, 694, 695, 696, 26, 697, 698, 380, 381, 382, 68, 66, 699, 700, 701, 702, 703, 543, 544, 545, 67, 63, 64, 371, 372, 373, 374, 704, 705, 706, 707, 708, 364, 365, 366, 709, 710, 711, 712, 713, 714, 715, 764, 765, 766, 767, 768, 769, 770, 771, 772, 810, 811, 812, 813, 814, 815, 816, 817, 818, 819, 820, 821, 822, 823, 824, 804, 805] (by decide +kernel) (by decide +kernel)
set_option maxRecDepth 20000 in
theorem gL_law_X6_count : GoodIn wsL_law (wsV RL 89 RX6 yX6_count wsX6_count) := goodIn_app (goodIn_of _ (by decide +kernel)) ggL_law_X6_count
set_option maxRecDepth 20000 in
theorem ggL_law_X7_count : GoodIn wsL_law wsX7_count := goodIn_r _ [719, 720, 721, 722, 5, 723, 324, 326, 325, 327, 120, 328, 444, 445, 446, 447, 96, 724, 725, 726, 727, 554, 555, 556, 557, 95, 728, 729, 730, 731, 732, 733, 734, 773, 774, 775, 776, 777, 778, 779, 780, 781, 782, 783, 784, 785, 786, 787, 788, 789, 790, 791, 792, 793, 794, 795, 796, 797, 798, 799, 800, 801, 802, 803] (by decide +kernel) (by decide +kernel)
set_option maxRecDepth 20000 in
theorem gL_law_X7_count : GoodIn wsL_law (wsV RL 92 RX7 yX7_count wsX7_count) := goodIn_app (goodIn_of _ (by decide +kernel)) ggL_law_X7_count
set_option maxRecDepth 20000 in
theorem ggL_law_X6_digest : GoodIn wsL_law wsX6_digest := goodIn_r _ [738, 739, 23, 302, 336, 27, 508, 15, 110, 740, 741, 742, 2, 743, 744, 745, 354, 355, 356, 357, 358, 359, 360, 361, 362, 363, 364, 365, 26, 366, 68, 66, 67, 367, 368, 369, 370, 64, 371, 372, 373, 374, 375, 376, 377, 378, 379, 380, 381, 382, 383, 384, 385, 386, 387, 388, 389, 390, 391, 392, 393, 394, 395, 396, 397, 398, 399, 400, 401, 402, 403, 404, 405, 406, 407, 408, 409, 410, 411, 412, 413, 414, 415, 416, 417, 418, 419, 420, 421, 422, 423, 424, 425, 426, 427, 194, 195, 196, 746, 539, 540, 541, 521, 522, 523, 524, 525, 526, 527, 528, 542, 543, 544, 545, 63, 747, 559, 560, 561, 32, 562, 563, 564, 565, 566, 567, 568, 569, 570, 571, 572, 529, 573, 574, 575, 31, 576, 77, 79, 78, 577, 578, 579, 580, 581, 582, 583, 584, 748, 691, 692, 693, 490, 38, 694, 695, 696, 697, 698, 699, 700, 701, 702, 703, 704, 705, 706, 707, 708, 709, 710, 711, 712, 713, 714, 715, 764, 765, 766, 767, 768, 769, 770, 771, 772, 810, 811, 812, 813, 814, 815, 816, 817, 818, 819, 820, 821, 822, 823, 824, 804, 805, 825, 826, 827] (by decide +kernel) (by decide +kernel)
set_option maxRecDepth 20000 in
theorem gL_law_X6_digest : GoodIn wsL_law (wsV RL 93 RX6 yX6_digest wsX6_digest) := goodIn_app (goodIn_of _ (by decide +kernel)) ggL_law_X6_digest
set_option maxRecDepth 20000 in
theorem ggL_law_X7_digest : GoodIn wsL_law wsX7_digest := goodIn_r _ [752, 753, 754, 94, 324, 326, 120, 91, 349, 350, 351, 5, 352, 755, 756, 757, 758, 759, 760, 761, 762, 763, 436, 437, 438, 439, 95, 440, 441, 442, 443, 96, 444, 445, 446, 447, 448, 449, 450, 451, 452, 453, 454, 455, 456, 457, 458, 459, 460, 461, 462, 463, 464, 465, 466, 467, 468, 469, 327, 99, 470, 471, 472, 473, 100, 550, 551, 552, 553, 348, 121, 122, 123, 554, 555, 556, 557, 591, 592, 593, 594, 97, 98, 595, 596, 597, 598, 599, 600, 601, 602, 329, 330, 331, 720, 721, 722, 723, 325, 328, 724, 725, 726, 727, 728, 729, 730, 731, 732, 733, 734, 773, 774, 775, 776, 777, 778, 779, 780, 781, 782, 783, 784, 785, 786, 787, 788, 789, 790, 791, 792, 793, 794, 795, 796, 797, 798, 799, 800, 801, 802, 803] (by decide +kernel) (by decide +kernel)
set_option maxRecDepth 20000 in
theorem gL_law_X7_digest : GoodIn wsL_law (wsV RL 97 RX7 yX7_digest wsX7_digest) := goodIn_app (goodIn_of _ (by decide +kernel)) ggL_law_X7_digest
abbrev vwCl : List vw_C := [(RX0, TX0, 3), (RX1, TX1, 2), (RX2, TX2, 4), (RX3, TX3, 4), (RX4, TX4, 11), (RX5, TX5, 4), (RX6, TX6, 9), (RX7, TX7, 31)]
