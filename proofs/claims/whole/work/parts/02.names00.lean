/-! ===== BEGIN words of one list among another's, by their places ===== -/
theorem goodIn_r {big : List Cond} (ws : List Cond) (ps : List Nat) (hp : ws = ps.filterMap (fun i => big[i]?)) (h : ws.all goodWord = true) : GoodIn big ws := by
  intro w hw
  have h1 := List.all_eq_true.mp h w hw
  rw [hp] at hw
  obtain ⟨i, -, hi⟩ := List.mem_filterMap.mp hw
  have hm : w ∈ big := by first | exact List.mem_of_getElem? hi | exact List.getElem?_mem hi
  exact ⟨hm, good_of_word h1⟩
theorem goodIn_app {big a b : List Cond} (ha : GoodIn big a) (hb : GoodIn big b) : GoodIn big (a ++ b) := fun w h => (List.mem_append.mp h).elim (ha w) (hb w)
theorem goodIn_ca {big a b : List Cond} {c : Cond} (ha : GoodIn big (c :: a)) (hb : GoodIn big b) : GoodIn big (c :: (a ++ b)) := fun w h => (List.mem_cons.mp h).elim (fun e => ha w (List.mem_cons.mpr (Or.inl e))) (fun h => (List.mem_append.mp h).elim (fun h => ha w (List.mem_cons.mpr (Or.inr h))) (hb w))
theorem goodIn_sub {big ws : List Cond} (hm : ∀ w ∈ ws, w ∈ big) (h : ws.all goodWord = true) : GoodIn big ws := fun w hw => ⟨hm w hw, good_of_word (List.all_eq_true.mp h w hw)⟩
/-! ===== END ===== -/

/-! ===== BEGIN printed: names, fields, word lists, decode rows ===== -/
def RX0 : String := "BallBoxes$Pairs"
def TX0 : u_T := fun k => match k with
  | 0 => ("BallBoxes$Pairs", "left", "[I", true)
  | _ => ("BallBoxes$Pairs", "size", "I", false)
def tyX0 : Nat → FieldType := fun k => match k with
  | 0 => .array .int
  | _ => .int
abbrev wsX00 : List Cond := u_ws RX0 TX0 2
theorem nmX0 : ∀ a, a < 2 → ∀ b, b < 2 → a ≠ b → (TX0 a).2.1 ≠ (TX0 b).2.1 := by decide +kernel
theorem tyX0_ok : ∀ k, k < 2 → parseFieldDescriptor (TX0 k).2.2.1 = some (tyX0 k) := by decide +kernel
abbrev cX0_init : ByteArray := prog_2_method_1_code
def yX0_init : MethodName := ⟨RX0, "<init>", "()V"⟩
abbrev cX0_heapsOf : ByteArray := prog_2_method_2_code
def yX0_heapsOf : MethodName := ⟨RX0, "heapsOf", "(LBallBoxes$Row;)I"⟩
abbrev cX0_countsAbove : ByteArray := prog_2_method_3_code
def yX0_countsAbove : MethodName := ⟨RX0, "countsAbove", "(LBallBoxes$Row;I)I"⟩
abbrev cX0_begin : ByteArray := prog_2_method_4_code
def yX0_begin : MethodName := ⟨RX0, "begin", "(LBallBoxes$Row;)V"⟩
abbrev cX0_takeOut : ByteArray := prog_2_method_5_code
def yX0_takeOut : MethodName := ⟨RX0, "takeOut", "()I"⟩
def RX1 : String := "BallBoxes$Ring"
def TX1 : u_T := fun k => match k with
  | 0 => ("BallBoxes$Ring", "size", "I", false)
  | 1 => ("BallBoxes$Ring", "bits", "J", false)
  | 2 => ("BallBoxes$Ring", "made", "J", false)
  | _ => ("BallBoxes$Ring", "carrierHas", "I", false)
def tyX1 : Nat → FieldType := fun k => match k with
  | 0 => .int
  | 1 => .long
  | 2 => .long
  | _ => .int
abbrev wsX10 : List Cond := u_ws RX1 TX1 4
theorem nmX1 : ∀ a, a < 4 → ∀ b, b < 4 → a ≠ b → (TX1 a).2.1 ≠ (TX1 b).2.1 := by decide +kernel
theorem tyX1_ok : ∀ k, k < 4 → parseFieldDescriptor (TX1 k).2.2.1 = some (tyX1 k) := by decide +kernel
abbrev cX1_init : ByteArray := prog_3_method_1_code
def yX1_init : MethodName := ⟨RX1, "<init>", "()V"⟩
abbrev cX1_become : ByteArray := prog_3_method_2_code
def yX1_become : MethodName := ⟨RX1, "become", "(IJ)V"⟩
abbrev cX1_isRingBox : ByteArray := prog_3_method_3_code
def yX1_isRingBox : MethodName := ⟨RX1, "isRingBox", "(I)Z"⟩
abbrev cX1_ballAt : ByteArray := prog_3_method_4_code
def yX1_ballAt : MethodName := ⟨RX1, "ballAt", "(I)I"⟩
abbrev cX1_turnBy : ByteArray := prog_3_method_5_code
def yX1_turnBy : MethodName := ⟨RX1, "turnBy", "(I)I"⟩
abbrev cX1_goRound : ByteArray := prog_3_method_6_code
def yX1_goRound : MethodName := ⟨RX1, "goRound", "(II)V"⟩
def RX2 : String := "BallBoxes$RingTrial"
def TX2 : u_T := fun k => match k with
  | 0 => ("BallBoxes$RingTrial", "ring", "LBallBoxes$Ring;", true)
  | _ => ("BallBoxes$RingTrial", "seen", "[J", true)
def tyX2 : Nat → FieldType := fun k => match k with
  | 0 => .object "BallBoxes$Ring"
  | _ => .array .long
abbrev wsX20 : List Cond := u_ws RX2 TX2 2
theorem nmX2 : ∀ a, a < 2 → ∀ b, b < 2 → a ≠ b → (TX2 a).2.1 ≠ (TX2 b).2.1 := by decide +kernel
theorem tyX2_ok : ∀ k, k < 2 → parseFieldDescriptor (TX2 k).2.2.1 = some (tyX2 k) := by decide +kernel
abbrev cX2_init : ByteArray := prog_4_method_1_code
def yX2_init : MethodName := ⟨RX2, "<init>", "()V"⟩
abbrev cX2_periodOf : ByteArray := prog_4_method_2_code
def yX2_periodOf : MethodName := ⟨RX2, "periodOf", "(LBallBoxes$Ring;I)I"⟩
abbrev cX2_countAll : ByteArray := prog_4_method_3_code
def yX2_countAll : MethodName := ⟨RX2, "countAll", "(II)I"⟩
abbrev cX2_countWithPeriod : ByteArray := prog_4_method_4_code
def yX2_countWithPeriod : MethodName := ⟨RX2, "countWithPeriod", "(IIII)I"⟩
abbrev cX2_goThrough : ByteArray := prog_4_method_5_code
def yX2_goThrough : MethodName := ⟨RX2, "goThrough", "(III)I"⟩
abbrev cX2_forget : ByteArray := prog_4_method_6_code
def yX2_forget : MethodName := ⟨RX2, "forget", "()V"⟩
abbrev cX2_isSeen : ByteArray := prog_4_method_7_code
def yX2_isSeen : MethodName := ⟨RX2, "isSeen", "(I)Z"⟩
abbrev cX2_see : ByteArray := prog_4_method_8_code
def yX2_see : MethodName := ⟨RX2, "see", "(I)V"⟩
def RX3 : String := "BallBoxes$Row"
def TX3 : u_T := fun k => match k with
  | 0 => ("BallBoxes$Row", "boxes", "[I", true)
  | _ => ("BallBoxes$Row", "made", "[I", true)
def tyX3 : Nat → FieldType := fun k => match k with
  | 0 => .array .int
  | _ => .array .int
abbrev wsX30 : List Cond := u_ws RX3 TX3 2
theorem nmX3 : ∀ a, a < 2 → ∀ b, b < 2 → a ≠ b → (TX3 a).2.1 ≠ (TX3 b).2.1 := by decide +kernel
theorem tyX3_ok : ∀ k, k < 2 → parseFieldDescriptor (TX3 k).2.2.1 = some (tyX3 k) := by decide +kernel
abbrev cX3_init : ByteArray := prog_5_method_1_code
def yX3_init : MethodName := ⟨RX3, "<init>", "()V"⟩
abbrev cX3_ballAt : ByteArray := prog_5_method_2_code
def yX3_ballAt : MethodName := ⟨RX3, "ballAt", "(I)I"⟩
abbrev cX3_place : ByteArray := prog_5_method_3_code
def yX3_place : MethodName := ⟨RX3, "place", "(II)V"⟩
abbrev cX3_makeBox : ByteArray := prog_5_method_4_code
def yX3_makeBox : MethodName := ⟨RX3, "makeBox", "(II)V"⟩
abbrev cX3_clear : ByteArray := prog_5_method_5_code
def yX3_clear : MethodName := ⟨RX3, "clear", "()V"⟩
abbrev cX3_balls : ByteArray := prog_5_method_6_code
def yX3_balls : MethodName := ⟨RX3, "balls", "()I"⟩
abbrev cX3_firstBall : ByteArray := prog_5_method_7_code
def yX3_firstBall : MethodName := ⟨RX3, "firstBall", "()I"⟩
abbrev cX3_lastBall : ByteArray := prog_5_method_8_code
def yX3_lastBall : MethodName := ⟨RX3, "lastBall", "()I"⟩
abbrev cX3_bits : ByteArray := prog_5_method_9_code
def yX3_bits : MethodName := ⟨RX3, "bits", "(II)J"⟩
abbrev cX3_takenBy : ByteArray := prog_5_method_10_code
def yX3_takenBy : MethodName := ⟨RX3, "takenBy", "(I)I"⟩
abbrev cX3_makeByCarrier : ByteArray := prog_5_method_11_code
def yX3_makeByCarrier : MethodName := ⟨RX3, "makeByCarrier", "(IZ)I"⟩
abbrev cX3_becomeMade : ByteArray := prog_5_method_12_code
def yX3_becomeMade : MethodName := ⟨RX3, "becomeMade", "()I"⟩
def RX4 : String := "BallBoxes$Sheet"
def TX4 : u_T := fun k => match k with
  | 0 => ("BallBoxes$Sheet", "items", "[I", true)
  | 1 => ("BallBoxes$Sheet", "lost", "Z", false)
  | 2 => ("BallBoxes$Sheet", "form", "I", false)
  | _ => ("BallBoxes$Sheet", "size", "I", false)
def tyX4 : Nat → FieldType := fun k => match k with
  | 0 => .array .int
  | 1 => .boolean
  | 2 => .int
  | _ => .int
abbrev wsX40 : List Cond := u_ws RX4 TX4 4
theorem nmX4 : ∀ a, a < 4 → ∀ b, b < 4 → a ≠ b → (TX4 a).2.1 ≠ (TX4 b).2.1 := by decide +kernel
theorem tyX4_ok : ∀ k, k < 4 → parseFieldDescriptor (TX4 k).2.2.1 = some (tyX4 k) := by decide +kernel
abbrev cX4_init : ByteArray := prog_6_method_1_code
def yX4_init : MethodName := ⟨RX4, "<init>", "()V"⟩
abbrev cX4_begin : ByteArray := prog_6_method_2_code
def yX4_begin : MethodName := ⟨RX4, "begin", "(II)V"⟩
abbrev cX4_findingAt : ByteArray := prog_6_method_3_code
def yX4_findingAt : MethodName := ⟨RX4, "findingAt", "(II)I"⟩
abbrev cX4_hasItems : ByteArray := prog_6_method_4_code
def yX4_hasItems : MethodName := ⟨RX4, "hasItems", "(II)Z"⟩
abbrev cX4_itemAt : ByteArray := prog_6_method_5_code
def yX4_itemAt : MethodName := ⟨RX4, "itemAt", "(I)I"⟩
abbrev cX4_place : ByteArray := prog_6_method_6_code
def yX4_place : MethodName := ⟨RX4, "place", "(II)V"⟩
abbrev cX4_isItem : ByteArray := prog_6_method_7_code
def yX4_isItem : MethodName := ⟨RX4, "isItem", "(I)Z"⟩
abbrev cX4_cut : ByteArray := prog_6_method_8_code
def yX4_cut : MethodName := ⟨RX4, "cut", "(I)I"⟩
def RX5 : String := "BallBoxes$Strings"
def TX5 : u_T := fun k => match k with
  | 0 => ("BallBoxes$Strings", "lengths", "[I", true)
  | 1 => ("BallBoxes$Strings", "riggings", "[I", true)
  | 2 => ("BallBoxes$Strings", "lesserSums", "[I", true)
  | 3 => ("BallBoxes$Strings", "size", "I", false)
  | _ => ("BallBoxes$Strings", "boxesRead", "I", false)
def tyX5 : Nat → FieldType := fun k => match k with
  | 0 => .array .int
  | 1 => .array .int
  | 2 => .array .int
  | 3 => .int
  | _ => .int
abbrev wsX50 : List Cond := u_ws RX5 TX5 5
theorem nmX5 : ∀ a, a < 5 → ∀ b, b < 5 → a ≠ b → (TX5 a).2.1 ≠ (TX5 b).2.1 := by decide +kernel
theorem tyX5_ok : ∀ k, k < 5 → parseFieldDescriptor (TX5 k).2.2.1 = some (tyX5 k) := by decide +kernel
abbrev cX5_init : ByteArray := prog_7_method_1_code
def yX5_init : MethodName := ⟨RX5, "<init>", "()V"⟩
abbrev cX5_isString : ByteArray := prog_7_method_2_code
def yX5_isString : MethodName := ⟨RX5, "isString", "(I)Z"⟩
abbrev cX5_lengthOf : ByteArray := prog_7_method_3_code
def yX5_lengthOf : MethodName := ⟨RX5, "lengthOf", "(I)I"⟩
abbrev cX5_riggingOf : ByteArray := prog_7_method_4_code
def yX5_riggingOf : MethodName := ⟨RX5, "riggingOf", "(I)I"⟩
abbrev cX5_roomLeft : ByteArray := prog_7_method_5_code
def yX5_roomLeft : MethodName := ⟨RX5, "roomLeft", "(II)I"⟩
abbrev cX5_readFrom : ByteArray := prog_7_method_6_code
def yX5_readFrom : MethodName := ⟨RX5, "readFrom", "(LBallBoxes$Row;I)V"⟩
abbrev cX5_makeInto : ByteArray := prog_7_method_7_code
def yX5_makeInto : MethodName := ⟨RX5, "makeInto", "(LBallBoxes$Row;)Z"⟩
abbrev cX5_addToRiggings : ByteArray := prog_7_method_8_code
def yX5_addToRiggings : MethodName := ⟨RX5, "addToRiggings", "(II)V"⟩
abbrev cX5_haveRoomBehind : ByteArray := prog_7_method_9_code
def yX5_haveRoomBehind : MethodName := ⟨RX5, "haveRoomBehind", "(I)Z"⟩
abbrev cX5_sort : ByteArray := prog_7_method_10_code
def yX5_sort : MethodName := ⟨RX5, "sort", "()V"⟩
abbrev cX5_clear : ByteArray := prog_7_method_11_code
def yX5_clear : MethodName := ⟨RX5, "clear", "()V"⟩
abbrev cX5_takeBall : ByteArray := prog_7_method_12_code
def yX5_takeBall : MethodName := ⟨RX5, "takeBall", "(I)V"⟩
abbrev cX5_giveBall : ByteArray := prog_7_method_13_code
def yX5_giveBall : MethodName := ⟨RX5, "giveBall", "(I)I"⟩
abbrev cX5_addToSums : ByteArray := prog_7_method_14_code
def yX5_addToSums : MethodName := ⟨RX5, "addToSums", "(II)V"⟩
abbrev cX5_isTight : ByteArray := prog_7_method_15_code
def yX5_isTight : MethodName := ⟨RX5, "isTight", "(II)Z"⟩
abbrev cX5_longestTight : ByteArray := prog_7_method_16_code
def yX5_longestTight : MethodName := ⟨RX5, "longestTight", "(I)I"⟩
abbrev cX5_shortestTight : ByteArray := prog_7_method_17_code
def yX5_shortestTight : MethodName := ⟨RX5, "shortestTight", "(I)I"⟩
abbrev cX5_addString : ByteArray := prog_7_method_18_code
def yX5_addString : MethodName := ⟨RX5, "addString", "()I"⟩
abbrev cX5_removeString : ByteArray := prog_7_method_19_code
def yX5_removeString : MethodName := ⟨RX5, "removeString", "(I)V"⟩
abbrev cX5_isBehind : ByteArray := prog_7_method_20_code
def yX5_isBehind : MethodName := ⟨RX5, "isBehind", "(II)Z"⟩
abbrev cX5_swap : ByteArray := prog_7_method_21_code
def yX5_swap : MethodName := ⟨RX5, "swap", "(II)V"⟩
def RX6 : String := "BallBoxes"
def TX6 : u_T := fun k => match k with
  | 0 => ("BallBoxes", "theRow", "LBallBoxes$Row;", true)
  | 1 => ("BallBoxes", "pairs", "LBallBoxes$Pairs;", true)
  | 2 => ("BallBoxes", "latestStrings", "LBallBoxes$Strings;", true)
  | 3 => ("BallBoxes", "leapStrings", "LBallBoxes$Strings;", true)
  | 4 => ("BallBoxes", "theRing", "LBallBoxes$Ring;", true)
  | 5 => ("BallBoxes", "trial", "LBallBoxes$RingTrial;", true)
  | 6 => ("BallBoxes", "sheets", "[LBallBoxes$Sheet;", true)
  | 7 => ("BallBoxes", "moves", "I", false)
  | _ => ("BallBoxes", "latestFinding", "I", false)
def tyX6 : Nat → FieldType := fun k => match k with
  | 0 => .object "BallBoxes$Row"
  | 1 => .object "BallBoxes$Pairs"
  | 2 => .object "BallBoxes$Strings"
  | 3 => .object "BallBoxes$Strings"
  | 4 => .object "BallBoxes$Ring"
  | 5 => .object "BallBoxes$RingTrial"
  | 6 => .array (.object "BallBoxes$Sheet")
  | 7 => .int
  | _ => .int
abbrev wsX60 : List Cond := u_ws RX6 TX6 9
theorem nmX6 : ∀ a, a < 9 → ∀ b, b < 9 → a ≠ b → (TX6 a).2.1 ≠ (TX6 b).2.1 := by decide +kernel
theorem tyX6_ok : ∀ k, k < 9 → parseFieldDescriptor (TX6 k).2.2.1 = some (tyX6 k) := by decide +kernel
abbrev cX6_init : ByteArray := prog_1_method_1_code
def yX6_init : MethodName := ⟨RX6, "<init>", "()V"⟩
abbrev cX6_set : ByteArray := prog_1_method_2_code
def yX6_set : MethodName := ⟨RX6, "set", "(IZ)I"⟩
abbrev cX6_at : ByteArray := prog_1_method_3_code
def yX6_at : MethodName := ⟨RX6, "at", "(I)I"⟩
abbrev cX6_empty : ByteArray := prog_1_method_4_code
def yX6_empty : MethodName := ⟨RX6, "empty", "()I"⟩
abbrev cX6_step : ByteArray := prog_1_method_5_code
def yX6_step : MethodName := ⟨RX6, "step", "(I)I"⟩
abbrev cX6_back : ByteArray := prog_1_method_6_code
def yX6_back : MethodName := ⟨RX6, "back", "(I)I"⟩
abbrev cX6_kept : ByteArray := prog_1_method_7_code
def yX6_kept : MethodName := ⟨RX6, "kept", "(I)I"⟩
abbrev cX6_row : ByteArray := prog_1_method_8_code
def yX6_row : MethodName := ⟨RX6, "row", "(I)I"⟩
abbrev cX6_heap : ByteArray := prog_1_method_9_code
def yX6_heap : MethodName := ⟨RX6, "heap", "(I)I"⟩
abbrev cX6_strings : ByteArray := prog_1_method_10_code
def yX6_strings : MethodName := ⟨RX6, "strings", "(I)I"⟩
abbrev cX6_string : ByteArray := prog_1_method_11_code
def yX6_string : MethodName := ⟨RX6, "string", "(II)I"⟩
abbrev cX6_leap : ByteArray := prog_1_method_12_code
def yX6_leap : MethodName := ⟨RX6, "leap", "(II)I"⟩
abbrev cX6_ring : ByteArray := prog_1_method_13_code
def yX6_ring : MethodName := ⟨RX6, "ring", "(II)I"⟩
abbrev cX6_ringAt : ByteArray := prog_1_method_14_code
def yX6_ringAt : MethodName := ⟨RX6, "ringAt", "(I)I"⟩
abbrev cX6_turn : ByteArray := prog_1_method_15_code
def yX6_turn : MethodName := ⟨RX6, "turn", "(I)I"⟩
abbrev cX6_period : ByteArray := prog_1_method_16_code
def yX6_period : MethodName := ⟨RX6, "period", "(I)I"⟩
abbrev cX6_rings : ByteArray := prog_1_method_17_code
def yX6_rings : MethodName := ⟨RX6, "rings", "(IIII)I"⟩
abbrev cX6_sheet : ByteArray := prog_1_method_18_code
def yX6_sheet : MethodName := ⟨RX6, "sheet", "(III)I"⟩
abbrev cX6_lose : ByteArray := prog_1_method_19_code
def yX6_lose : MethodName := ⟨RX6, "lose", "(I)I"⟩
abbrev cX6_put : ByteArray := prog_1_method_20_code
def yX6_put : MethodName := ⟨RX6, "put", "(IIII)I"⟩
abbrev cX6_get : ByteArray := prog_1_method_21_code
def yX6_get : MethodName := ⟨RX6, "get", "(III)I"⟩
abbrev cX6_copy : ByteArray := prog_1_method_22_code
def yX6_copy : MethodName := ⟨RX6, "copy", "(IIIII)I"⟩
abbrev cX6_load : ByteArray := prog_1_method_23_code
def yX6_load : MethodName := ⟨RX6, "load", "(II)I"⟩
abbrev cX6_write : ByteArray := prog_1_method_24_code
def yX6_write : MethodName := ⟨RX6, "write", "(II)I"⟩
abbrev cX6_count : ByteArray := prog_1_method_25_code
def yX6_count : MethodName := ⟨RX6, "count", "(I)I"⟩
abbrev cX6_digest : ByteArray := prog_1_method_26_code
def yX6_digest : MethodName := ⟨RX6, "digest", "()J"⟩
abbrev cX6_isBox : ByteArray := prog_1_method_27_code
def yX6_isBox : MethodName := ⟨RX6, "isBox", "(I)Z"⟩
abbrev cX6_isRoom : ByteArray := prog_1_method_28_code
def yX6_isRoom : MethodName := ⟨RX6, "isRoom", "(I)Z"⟩
abbrev cX6_isForm : ByteArray := prog_1_method_29_code
def yX6_isForm : MethodName := ⟨RX6, "isForm", "(I)Z"⟩
abbrev cX6_isFewerThanHalf : ByteArray := prog_1_method_30_code
def yX6_isFewerThanHalf : MethodName := ⟨RX6, "isFewerThanHalf", "(II)Z"⟩
abbrev cX6_loadBehind : ByteArray := prog_1_method_31_code
def yX6_loadBehind : MethodName := ⟨RX6, "loadBehind", "(III)I"⟩
abbrev cX6_carry : ByteArray := prog_1_method_32_code
def yX6_carry : MethodName := ⟨RX6, "carry", "(IZ)I"⟩
abbrev cX6_sheetOf : ByteArray := prog_1_method_33_code
def yX6_sheetOf : MethodName := ⟨RX6, "sheetOf", "(I)LBallBoxes$Sheet;"⟩
abbrev cX6_find : ByteArray := prog_1_method_34_code
def yX6_find : MethodName := ⟨RX6, "find", "(I)I"⟩
def RX7 : String := "BallBoxesModel"
def TX7 : u_T := fun k => match k with
  | 0 => ("BallBoxesModel", "boxes", "[Z", true)
  | 1 => ("BallBoxesModel", "next", "[Z", true)
  | 2 => ("BallBoxesModel", "done", "I", false)
  | 3 => ("BallBoxesModel", "left", "[Z", true)
  | 4 => ("BallBoxesModel", "pairs", "[I", true)
  | 5 => ("BallBoxesModel", "many", "I", false)
  | 6 => ("BallBoxesModel", "lengths", "[I", true)
  | 7 => ("BallBoxesModel", "riggings", "[I", true)
  | 8 => ("BallBoxesModel", "told", "I", false)
  | 9 => ("BallBoxesModel", "toldLength", "[I", true)
  | 10 => ("BallBoxesModel", "toldRigging", "[I", true)
  | 11 => ("BallBoxesModel", "toldRoom", "[I", true)
  | 12 => ("BallBoxesModel", "ringN", "I", false)
  | 13 => ("BallBoxesModel", "ring", "[Z", true)
  | 14 => ("BallBoxesModel", "was", "[Z", true)
  | 15 => ("BallBoxesModel", "saved", "[Z", true)
  | 16 => ("BallBoxesModel", "isThere", "[Z", true)
  | 17 => ("BallBoxesModel", "forms", "[I", true)
  | 18 => ("BallBoxesModel", "sizes", "[I", true)
  | 19 => ("BallBoxesModel", "items", "[I", true)
  | 20 => ("BallBoxesModel", "moved", "[I", true)
  | _ => ("BallBoxesModel", "finding", "I", false)
def tyX7 : Nat → FieldType := fun k => match k with
  | 0 => .array .boolean
  | 1 => .array .boolean
  | 2 => .int
  | 3 => .array .boolean
  | 4 => .array .int
  | 5 => .int
  | 6 => .array .int
  | 7 => .array .int
  | 8 => .int
  | 9 => .array .int
  | 10 => .array .int
  | 11 => .array .int
  | 12 => .int
  | 13 => .array .boolean
  | 14 => .array .boolean
  | 15 => .array .boolean
  | 16 => .array .boolean
  | 17 => .array .int
  | 18 => .array .int
  | 19 => .array .int
  | 20 => .array .int
  | _ => .int
abbrev wsX70 : List Cond := u_ws RX7 TX7 22
theorem nmX7 : ∀ a, a < 22 → ∀ b, b < 22 → a ≠ b → (TX7 a).2.1 ≠ (TX7 b).2.1 := by decide +kernel
theorem tyX7_ok : ∀ k, k < 22 → parseFieldDescriptor (TX7 k).2.2.1 = some (tyX7 k) := by decide +kernel
abbrev cX7_init : ByteArray := prog_9_method_1_code
def yX7_init : MethodName := ⟨RX7, "<init>", "()V"⟩
abbrev cX7_in : ByteArray := prog_9_method_3_code
def yX7_in : MethodName := ⟨RX7, "in", "(III)Z"⟩
abbrev cX7_set : ByteArray := prog_9_method_4_code
def yX7_set : MethodName := ⟨RX7, "set", "(IZ)I"⟩
abbrev cX7_at : ByteArray := prog_9_method_5_code
def yX7_at : MethodName := ⟨RX7, "at", "(I)I"⟩
abbrev cX7_balls : ByteArray := prog_9_method_6_code
def yX7_balls : MethodName := ⟨RX7, "balls", "()I"⟩
abbrev cX7_empty : ByteArray := prog_9_method_7_code
def yX7_empty : MethodName := ⟨RX7, "empty", "()I"⟩
abbrev cX7_takes : ByteArray := prog_9_method_8_code
def yX7_takes : MethodName := ⟨RX7, "takes", "()I"⟩
abbrev cX7_goes : ByteArray := prog_9_method_9_code
def yX7_goes : MethodName := ⟨RX7, "goes", "(IZ)I"⟩
abbrev cX7_step : ByteArray := prog_9_method_10_code
def yX7_step : MethodName := ⟨RX7, "step", "(I)I"⟩
abbrev cX7_back : ByteArray := prog_9_method_11_code
def yX7_back : MethodName := ⟨RX7, "back", "(I)I"⟩
abbrev cX7_kept : ByteArray := prog_9_method_12_code
def yX7_kept : MethodName := ⟨RX7, "kept", "(I)I"⟩
abbrev cX7_pairRounds : ByteArray := prog_9_method_13_code
def yX7_pairRounds : MethodName := ⟨RX7, "pairRounds", "()I"⟩
abbrev cX7_row : ByteArray := prog_9_method_14_code
def yX7_row : MethodName := ⟨RX7, "row", "(I)I"⟩
abbrev cX7_heap : ByteArray := prog_9_method_15_code
def yX7_heap : MethodName := ⟨RX7, "heap", "(I)I"⟩
abbrev cX7_room : ByteArray := prog_9_method_16_code
def yX7_room : MethodName := ⟨RX7, "room", "(II)I"⟩
abbrev cX7_tight : ByteArray := prog_9_method_17_code
def yX7_tight : MethodName := ⟨RX7, "tight", "(IZ)I"⟩
abbrev cX7_reads : ByteArray := prog_9_method_18_code
def yX7_reads : MethodName := ⟨RX7, "reads", "(I)V"⟩
abbrev cX7_drops : ByteArray := prog_9_method_19_code
def yX7_drops : MethodName := ⟨RX7, "drops", "(I)V"⟩
abbrev cX7_makes : ByteArray := prog_9_method_20_code
def yX7_makes : MethodName := ⟨RX7, "makes", "()Z"⟩
abbrev cX7_strings : ByteArray := prog_9_method_21_code
def yX7_strings : MethodName := ⟨RX7, "strings", "(I)I"⟩
abbrev cX7_string : ByteArray := prog_9_method_22_code
def yX7_string : MethodName := ⟨RX7, "string", "(II)I"⟩
abbrev cX7_leap : ByteArray := prog_9_method_23_code
def yX7_leap : MethodName := ⟨RX7, "leap", "(II)I"⟩
abbrev cX7_ringBalls : ByteArray := prog_9_method_24_code
def yX7_ringBalls : MethodName := ⟨RX7, "ringBalls", "()I"⟩
abbrev cX7_ring : ByteArray := prog_9_method_25_code
def yX7_ring : MethodName := ⟨RX7, "ring", "(II)I"⟩
abbrev cX7_ringAt : ByteArray := prog_9_method_26_code
def yX7_ringAt : MethodName := ⟨RX7, "ringAt", "(I)I"⟩
abbrev cX7_turns : ByteArray := prog_9_method_27_code
def yX7_turns : MethodName := ⟨RX7, "turns", "(I)I"⟩
abbrev cX7_turn : ByteArray := prog_9_method_28_code
def yX7_turn : MethodName := ⟨RX7, "turn", "(I)I"⟩
abbrev cX7_isAsWas : ByteArray := prog_9_method_29_code
def yX7_isAsWas : MethodName := ⟨RX7, "isAsWas", "()Z"⟩
abbrev cX7_periodOf : ByteArray := prog_9_method_30_code
def yX7_periodOf : MethodName := ⟨RX7, "periodOf", "(I)I"⟩
abbrev cX7_period : ByteArray := prog_9_method_31_code
def yX7_period : MethodName := ⟨RX7, "period", "(I)I"⟩
abbrev cX7_rings : ByteArray := prog_9_method_32_code
def yX7_rings : MethodName := ⟨RX7, "rings", "(IIII)I"⟩
abbrev cX7_meets : ByteArray := prog_9_method_33_code
def yX7_meets : MethodName := ⟨RX7, "meets", "(I)I"⟩
abbrev cX7_isSheet : ByteArray := prog_9_method_34_code
def yX7_isSheet : MethodName := ⟨RX7, "isSheet", "(I)Z"⟩
abbrev cX7_sheet : ByteArray := prog_9_method_35_code
def yX7_sheet : MethodName := ⟨RX7, "sheet", "(III)I"⟩
abbrev cX7_lose : ByteArray := prog_9_method_36_code
def yX7_lose : MethodName := ⟨RX7, "lose", "(I)I"⟩
abbrev cX7_lacks : ByteArray := prog_9_method_37_code
def yX7_lacks : MethodName := ⟨RX7, "lacks", "(III)I"⟩
abbrev cX7_put : ByteArray := prog_9_method_38_code
def yX7_put : MethodName := ⟨RX7, "put", "(IIII)I"⟩
abbrev cX7_get : ByteArray := prog_9_method_39_code
def yX7_get : MethodName := ⟨RX7, "get", "(III)I"⟩
abbrev cX7_copy : ByteArray := prog_9_method_40_code
def yX7_copy : MethodName := ⟨RX7, "copy", "(IIIII)I"⟩
abbrev cX7_load : ByteArray := prog_9_method_41_code
def yX7_load : MethodName := ⟨RX7, "load", "(II)I"⟩
abbrev cX7_write : ByteArray := prog_9_method_42_code
def yX7_write : MethodName := ⟨RX7, "write", "(II)I"⟩
abbrev cX7_count : ByteArray := prog_9_method_43_code
def yX7_count : MethodName := ⟨RX7, "count", "(I)I"⟩
abbrev cX7_digest : ByteArray := prog_9_method_44_code
def yX7_digest : MethodName := ⟨RX7, "digest", "()J"⟩
def RJ6 : String := "java/lang/Integer"
def TJ6 : u_T := fun k => match k with
  | _ => ("", "", "", false)
def tyJ6 : Nat → FieldType := fun k => match k with
  | _ => .int
abbrev wsJ60 : List Cond := u_ws RJ6 TJ6 0
theorem nmJ6 : ∀ a, a < 0 → ∀ b, b < 0 → a ≠ b → (TJ6 a).2.1 ≠ (TJ6 b).2.1 := by decide +kernel
theorem tyJ6_ok : ∀ k, k < 0 → parseFieldDescriptor (TJ6 k).2.2.1 = some (tyJ6 k) := by decide +kernel
abbrev cJ6_bitCount_0f7a4 : ByteArray := prog_10_method_49_code
def yJ6_bitCount_0f7a4 : MethodName := ⟨RJ6, "bitCount", "(I)I"⟩
def RJ13 : String := "java/lang/Long"
def TJ13 : u_T := fun k => match k with
  | _ => ("", "", "", false)
def tyJ13 : Nat → FieldType := fun k => match k with
  | _ => .int
abbrev wsJ130 : List Cond := u_ws RJ13 TJ13 0
theorem nmJ13 : ∀ a, a < 0 → ∀ b, b < 0 → a ≠ b → (TJ13 a).2.1 ≠ (TJ13 b).2.1 := by decide +kernel
theorem tyJ13_ok : ∀ k, k < 0 → parseFieldDescriptor (TJ13 k).2.2.1 = some (tyJ13 k) := by decide +kernel
abbrev cJ13_bitCount_95d88 : ByteArray := prog_11_method_50_code
def yJ13_bitCount_95d88 : MethodName := ⟨RJ13, "bitCount", "(J)I"⟩
def RJ9 : String := "java/lang/Math"
def TJ9 : u_T := fun k => match k with
  | _ => ("", "", "", false)
def tyJ9 : Nat → FieldType := fun k => match k with
  | _ => .int
abbrev wsJ90 : List Cond := u_ws RJ9 TJ9 0
theorem nmJ9 : ∀ a, a < 0 → ∀ b, b < 0 → a ≠ b → (TJ9 a).2.1 ≠ (TJ9 b).2.1 := by decide +kernel
theorem tyJ9_ok : ∀ k, k < 0 → parseFieldDescriptor (TJ9 k).2.2.1 = some (tyJ9 k) := by decide +kernel
abbrev cJ9_max_7cf53 : ByteArray := prog_12_method_65_code
def yJ9_max_7cf53 : MethodName := ⟨RJ9, "max", "(II)I"⟩
abbrev cJ9_min_7cf53 : ByteArray := prog_12_method_69_code
def yJ9_min_7cf53 : MethodName := ⟨RJ9, "min", "(II)I"⟩
def RJ10 : String := "java/lang/System"
def TJ10 : u_T := fun k => match k with
  | _ => ("", "", "", false)
def tyJ10 : Nat → FieldType := fun k => match k with
  | _ => .int
abbrev wsJ100 : List Cond := u_ws RJ10 TJ10 0
theorem nmJ10 : ∀ a, a < 0 → ∀ b, b < 0 → a ≠ b → (TJ10 a).2.1 ≠ (TJ10 b).2.1 := by decide +kernel
theorem tyJ10_ok : ∀ k, k < 0 → parseFieldDescriptor (TJ10 k).2.2.1 = some (tyJ10 k) := by decide +kernel
def RL : String := "BallBoxesLaw"
abbrev cL_law : ByteArray := code
def yL_law : MethodName := ⟨RL, "law", "([I)Z"⟩
def wsX0_init : List Cond := .code yX0_init cX0_init 1 none :: ([.methodLink RX0 3 objectInit, .instanceMethod objectInit, .code objectInit ⟨#[0xb1]⟩ 1 none, .arrayClass .int, .fieldLink RX0 9 "BallBoxes$Pairs" "left" "[I"] ++ wsX00)
def wsX6_isBox : List Cond := .code yX6_isBox cX6_isBox 1 (some .boolean) :: ([])
def wsX3_ballAt : List Cond := .code yX3_ballAt cX3_ballAt 2 (some .int) :: ([.fieldLink RX3 9 "BallBoxes$Row" "boxes" "[I", .static yX6_isBox, .initialized RX6, .code yX6_isBox cX6_isBox 1 (some .boolean)] ++ wsX30)
def wsX0_begin : List Cond := .code yX0_begin cX0_begin 3 none :: ([.fieldLink RX0 9 "BallBoxes$Pairs" "left" "[I", .fieldLink RX0 29 "BallBoxes$Pairs" "size" "I", .methodLink RX0 23 yX3_ballAt, .instanceMethod yX3_ballAt, .selects RX3 yX3_ballAt yX3_ballAt, .initialized RX3, .code yX3_ballAt cX3_ballAt 2 (some .int), .fieldLink RX3 9 "BallBoxes$Row" "boxes" "[I", .static yX6_isBox, .initialized RX6, .code yX6_isBox cX6_isBox 1 (some .boolean)] ++ wsX00 ++ wsX30)
def wsX0_takeOut : List Cond := .code yX0_takeOut cX0_takeOut 6 (some .int) :: ([.fieldLink RX0 29 "BallBoxes$Pairs" "size" "I", .fieldLink RX0 9 "BallBoxes$Pairs" "left" "[I"] ++ wsX00)
def wsX0_heapsOf : List Cond := .code yX0_heapsOf cX0_heapsOf 2 (some .int) :: ([.methodLink RX0 15 yX0_begin, .instanceMethod yX0_begin, .selects RX0 yX0_begin yX0_begin, .initialized RX0, .code yX0_begin cX0_begin 3 none, .fieldLink RX0 9 "BallBoxes$Pairs" "left" "[I", .fieldLink RX0 29 "BallBoxes$Pairs" "size" "I", .methodLink RX0 23 yX3_ballAt, .instanceMethod yX3_ballAt, .selects RX3 yX3_ballAt yX3_ballAt, .initialized RX3, .code yX3_ballAt cX3_ballAt 2 (some .int), .fieldLink RX3 9 "BallBoxes$Row" "boxes" "[I", .static yX6_isBox, .initialized RX6, .code yX6_isBox cX6_isBox 1 (some .boolean), .methodLink RX0 19 yX0_takeOut, .instanceMethod yX0_takeOut, .selects RX0 yX0_takeOut yX0_takeOut, .code yX0_takeOut cX0_takeOut 6 (some .int)] ++ wsX00 ++ wsX30)
def wsX0_countsAbove : List Cond := .code yX0_countsAbove cX0_countsAbove 5 (some .int) :: ([.methodLink RX0 15 yX0_begin, .instanceMethod yX0_begin, .selects RX0 yX0_begin yX0_begin, .initialized RX0, .code yX0_begin cX0_begin 3 none, .fieldLink RX0 9 "BallBoxes$Pairs" "left" "[I", .fieldLink RX0 29 "BallBoxes$Pairs" "size" "I", .methodLink RX0 23 yX3_ballAt, .instanceMethod yX3_ballAt, .selects RX3 yX3_ballAt yX3_ballAt, .initialized RX3, .code yX3_ballAt cX3_ballAt 2 (some .int), .fieldLink RX3 9 "BallBoxes$Row" "boxes" "[I", .static yX6_isBox, .initialized RX6, .code yX6_isBox cX6_isBox 1 (some .boolean), .methodLink RX0 19 yX0_takeOut, .instanceMethod yX0_takeOut, .selects RX0 yX0_takeOut yX0_takeOut, .code yX0_takeOut cX0_takeOut 6 (some .int)] ++ wsX00 ++ wsX30)
def wsX1_init : List Cond := .code yX1_init cX1_init 1 none :: ([.methodLink RX1 1 objectInit, .instanceMethod objectInit, .code objectInit ⟨#[0xb1]⟩ 1 none, .fieldLink RX1 7 "BallBoxes$Ring" "size" "I"] ++ wsX10)
def wsX1_become : List Cond := .code yX1_become cX1_become 4 none :: ([.fieldLink RX1 7 "BallBoxes$Ring" "size" "I", .fieldLink RX1 13 "BallBoxes$Ring" "bits" "J"] ++ wsX10)
def wsX1_isRingBox : List Cond := .code yX1_isRingBox cX1_isRingBox 2 (some .boolean) :: ([.fieldLink RX1 7 "BallBoxes$Ring" "size" "I"] ++ wsX10)
def wsX1_ballAt : List Cond := .code yX1_ballAt cX1_ballAt 2 (some .int) :: ([.fieldLink RX1 13 "BallBoxes$Ring" "bits" "J"] ++ wsX10)
def wsX6_loadBehind : List Cond := .code yX6_loadBehind cX6_loadBehind 3 (some .int) :: ([])
def wsX1_goRound : List Cond := .code yX1_goRound cX1_goRound 9 none :: ([.fieldLink RX1 7 "BallBoxes$Ring" "size" "I", .fieldLink RX1 24 "BallBoxes$Ring" "made" "J", .fieldLink RX1 21 "BallBoxes$Ring" "carrierHas" "I", .methodLink RX1 27 yX1_ballAt, .instanceMethod yX1_ballAt, .selects RX1 yX1_ballAt yX1_ballAt, .initialized RX1, .code yX1_ballAt cX1_ballAt 2 (some .int), .fieldLink RX1 13 "BallBoxes$Ring" "bits" "J", .static yX6_loadBehind, .initialized RX6, .code yX6_loadBehind cX6_loadBehind 3 (some .int)] ++ wsX10)
def wsX1_turnBy : List Cond := .code yX1_turnBy cX1_turnBy 3 (some .int) :: ([.fieldLink RX1 21 "BallBoxes$Ring" "carrierHas" "I", .fieldLink RX1 24 "BallBoxes$Ring" "made" "J", .fieldLink RX1 13 "BallBoxes$Ring" "bits" "J", .methodLink RX1 17 yX1_goRound, .instanceMethod yX1_goRound, .selects RX1 yX1_goRound yX1_goRound, .initialized RX1, .code yX1_goRound cX1_goRound 9 none, .fieldLink RX1 7 "BallBoxes$Ring" "size" "I", .methodLink RX1 27 yX1_ballAt, .instanceMethod yX1_ballAt, .selects RX1 yX1_ballAt yX1_ballAt, .code yX1_ballAt cX1_ballAt 2 (some .int), .static yX6_loadBehind, .initialized RX6, .code yX6_loadBehind cX6_loadBehind 3 (some .int)] ++ wsX10)
def wsX2_init : List Cond := .code yX2_init cX2_init 1 none :: ([.methodLink RX2 3 objectInit, .instanceMethod objectInit, .code objectInit ⟨#[0xb1]⟩ 1 none, .classLink RX2 9 RX1, .instantiable RX1 4, .initialized RX1, .fieldLink RX2 12 "BallBoxes$RingTrial" "ring" "LBallBoxes$Ring;", .arrayClass .long, .fieldLink RX2 18 "BallBoxes$RingTrial" "seen" "[J", .instanceMethod yX1_init, .code yX1_init cX1_init 1 none, .methodLink RX1 1 objectInit, .fieldLink RX1 7 "BallBoxes$Ring" "size" "I"] ++ wsX10 ++ wsX20)
def wsX2_periodOf_r1 : List Cond := [Cond.fieldLink RX2 12 "BallBoxes$RingTrial" "ring" "LBallBoxes$Ring;", Cond.methodLink RX2 30 yX1_become, Cond.instanceMethod yX1_become, Cond.selects RX1 yX1_become yX1_become, Cond.initialized RX1, Cond.code yX1_become cX1_become 4 none, Cond.fieldLink RX1 7 "BallBoxes$Ring" "size" "I", Cond.fieldLink RX1 13 "BallBoxes$Ring" "bits" "J", Cond.methodLink RX2 34 yX1_turnBy, Cond.instanceMethod yX1_turnBy, Cond.selects RX1 yX1_turnBy yX1_turnBy, Cond.code yX1_turnBy cX1_turnBy 3 (some .int), Cond.fieldLink RX1 21 "BallBoxes$Ring" "carrierHas" "I", Cond.fieldLink RX1 24 "BallBoxes$Ring" "made" "J", Cond.methodLink RX1 17 yX1_goRound, Cond.instanceMethod yX1_goRound, Cond.selects RX1 yX1_goRound yX1_goRound, Cond.code yX1_goRound cX1_goRound 9 none, Cond.methodLink RX1 27 yX1_ballAt, Cond.instanceMethod yX1_ballAt, Cond.selects RX1 yX1_ballAt yX1_ballAt, Cond.code yX1_ballAt cX1_ballAt 2 (some .int), Cond.static yX6_loadBehind, Cond.initialized RX6]
def wsX2_periodOf_r2 : List Cond := [Cond.code yX6_loadBehind cX6_loadBehind 3 (some .int)]
def wsX2_periodOf : List Cond := .code yX2_periodOf cX2_periodOf 4 (some .int) :: ((wsX2_periodOf_r1 ++ wsX2_periodOf_r2) ++ wsX20 ++ wsX10)
def wsJ6_bitCount_0f7a4 : List Cond := .code yJ6_bitCount_0f7a4 cJ6_bitCount_0f7a4 1 (some .int) :: ([.constant RJ6 265 (1431655765), .constant RJ6 266 (858993459), .constant RJ6 267 (252645135)])
def wsX2_countAll : List Cond := .code yX2_countAll cX2_countAll 5 (some .int) :: ([.methodLink RX2 38 yJ6_bitCount_0f7a4, .static yJ6_bitCount_0f7a4, .initialized RJ6, .code yJ6_bitCount_0f7a4 cJ6_bitCount_0f7a4 1 (some .int), .constant RJ6 265 (1431655765), .constant RJ6 266 (858993459), .constant RJ6 267 (252645135)])
def wsX2_forget : List Cond := .code yX2_forget cX2_forget 2 none :: ([.fieldLink RX2 18 "BallBoxes$RingTrial" "seen" "[J"] ++ wsX20)
def wsX2_isSeen : List Cond := .code yX2_isSeen cX2_isSeen 3 (some .boolean) :: ([.fieldLink RX2 18 "BallBoxes$RingTrial" "seen" "[J"] ++ wsX20)
def wsX2_see : List Cond := .code yX2_see cX2_see 3 none :: ([.fieldLink RX2 18 "BallBoxes$RingTrial" "seen" "[J"] ++ wsX20)
def wsX2_goThrough_r1 : List Cond := [Cond.fieldLink RX2 12 "BallBoxes$RingTrial" "ring" "LBallBoxes$Ring;", Cond.methodLink RX2 30 yX1_become, Cond.instanceMethod yX1_become, Cond.selects RX1 yX1_become yX1_become, Cond.initialized RX1, Cond.code yX1_become cX1_become 4 none, Cond.fieldLink RX1 7 "BallBoxes$Ring" "size" "I", Cond.fieldLink RX1 13 "BallBoxes$Ring" "bits" "J", Cond.methodLink RX2 34 yX1_turnBy, Cond.instanceMethod yX1_turnBy, Cond.selects RX1 yX1_turnBy yX1_turnBy, Cond.code yX1_turnBy cX1_turnBy 3 (some .int), Cond.fieldLink RX1 21 "BallBoxes$Ring" "carrierHas" "I", Cond.fieldLink RX1 24 "BallBoxes$Ring" "made" "J", Cond.methodLink RX1 17 yX1_goRound, Cond.instanceMethod yX1_goRound, Cond.selects RX1 yX1_goRound yX1_goRound, Cond.code yX1_goRound cX1_goRound 9 none, Cond.methodLink RX1 27 yX1_ballAt, Cond.instanceMethod yX1_ballAt, Cond.selects RX1 yX1_ballAt yX1_ballAt, Cond.code yX1_ballAt cX1_ballAt 2 (some .int), Cond.static yX6_loadBehind, Cond.initialized RX6]
def wsX2_goThrough_r2 : List Cond := [Cond.code yX6_loadBehind cX6_loadBehind 3 (some .int), Cond.methodLink RX2 54 yX2_see, Cond.instanceMethod yX2_see, Cond.selects RX2 yX2_see yX2_see, Cond.initialized RX2, Cond.code yX2_see cX2_see 3 none, Cond.fieldLink RX2 18 "BallBoxes$RingTrial" "seen" "[J"]
def wsX2_goThrough : List Cond := .code yX2_goThrough cX2_goThrough 5 (some .int) :: ((wsX2_goThrough_r1 ++ wsX2_goThrough_r2) ++ wsX20 ++ wsX10)
def wsX2_countWithPeriod_r1 : List Cond := [Cond.methodLink RX2 43 yX2_forget, Cond.instanceMethod yX2_forget, Cond.selects RX2 yX2_forget yX2_forget, Cond.initialized RX2, Cond.code yX2_forget cX2_forget 2 none, Cond.fieldLink RX2 18 "BallBoxes$RingTrial" "seen" "[J", Cond.methodLink RX2 38 yJ6_bitCount_0f7a4, Cond.static yJ6_bitCount_0f7a4, Cond.initialized RJ6, Cond.code yJ6_bitCount_0f7a4 cJ6_bitCount_0f7a4 1 (some .int), Cond.constant RJ6 265 (1431655765), Cond.constant RJ6 266 (858993459), Cond.constant RJ6 267 (252645135), Cond.methodLink RX2 46 yX2_isSeen, Cond.instanceMethod yX2_isSeen, Cond.selects RX2 yX2_isSeen yX2_isSeen, Cond.code yX2_isSeen cX2_isSeen 3 (some .boolean), Cond.methodLink RX2 50 yX2_goThrough, Cond.instanceMethod yX2_goThrough, Cond.selects RX2 yX2_goThrough yX2_goThrough, Cond.code yX2_goThrough cX2_goThrough 5 (some .int), Cond.fieldLink RX2 12 "BallBoxes$RingTrial" "ring" "LBallBoxes$Ring;", Cond.methodLink RX2 30 yX1_become, Cond.instanceMethod yX1_become]
def wsX2_countWithPeriod_r2 : List Cond := [Cond.selects RX1 yX1_become yX1_become, Cond.initialized RX1, Cond.code yX1_become cX1_become 4 none, Cond.fieldLink RX1 7 "BallBoxes$Ring" "size" "I", Cond.fieldLink RX1 13 "BallBoxes$Ring" "bits" "J", Cond.methodLink RX2 34 yX1_turnBy, Cond.instanceMethod yX1_turnBy, Cond.selects RX1 yX1_turnBy yX1_turnBy, Cond.code yX1_turnBy cX1_turnBy 3 (some .int), Cond.fieldLink RX1 21 "BallBoxes$Ring" "carrierHas" "I", Cond.fieldLink RX1 24 "BallBoxes$Ring" "made" "J", Cond.methodLink RX1 17 yX1_goRound, Cond.instanceMethod yX1_goRound, Cond.selects RX1 yX1_goRound yX1_goRound, Cond.code yX1_goRound cX1_goRound 9 none, Cond.methodLink RX1 27 yX1_ballAt, Cond.instanceMethod yX1_ballAt, Cond.selects RX1 yX1_ballAt yX1_ballAt, Cond.code yX1_ballAt cX1_ballAt 2 (some .int), Cond.static yX6_loadBehind, Cond.initialized RX6, Cond.code yX6_loadBehind cX6_loadBehind 3 (some .int), Cond.methodLink RX2 54 yX2_see, Cond.instanceMethod yX2_see]
def wsX2_countWithPeriod_r3 : List Cond := [Cond.selects RX2 yX2_see yX2_see, Cond.code yX2_see cX2_see 3 none]
def wsX2_countWithPeriod : List Cond := .code yX2_countWithPeriod cX2_countWithPeriod 8 (some .int) :: ((wsX2_countWithPeriod_r1 ++ (wsX2_countWithPeriod_r2 ++ wsX2_countWithPeriod_r3)) ++ wsX20 ++ wsX10)
def wsX3_init : List Cond := .code yX3_init cX3_init 1 none :: ([.methodLink RX3 3 objectInit, .instanceMethod objectInit, .code objectInit ⟨#[0xb1]⟩ 1 none, .arrayClass .int, .fieldLink RX3 9 "BallBoxes$Row" "boxes" "[I", .fieldLink RX3 15 "BallBoxes$Row" "made" "[I"] ++ wsX30)
def wsX3_place : List Cond := .code yX3_place cX3_place 3 none :: ([.fieldLink RX3 9 "BallBoxes$Row" "boxes" "[I", .static yX6_isBox, .initialized RX6, .code yX6_isBox cX6_isBox 1 (some .boolean)] ++ wsX30)
def wsX3_makeBox : List Cond := .code yX3_makeBox cX3_makeBox 3 none :: ([.fieldLink RX3 15 "BallBoxes$Row" "made" "[I", .static yX6_isBox, .initialized RX6, .code yX6_isBox cX6_isBox 1 (some .boolean)] ++ wsX30)
def wsX3_clear : List Cond := .code yX3_clear cX3_clear 2 none :: ([.fieldLink RX3 9 "BallBoxes$Row" "boxes" "[I"] ++ wsX30)
def wsX3_balls : List Cond := .code yX3_balls cX3_balls 3 (some .int) :: ([.fieldLink RX3 9 "BallBoxes$Row" "boxes" "[I"] ++ wsX30)
def wsX3_firstBall : List Cond := .code yX3_firstBall cX3_firstBall 2 (some .int) :: ([.fieldLink RX3 9 "BallBoxes$Row" "boxes" "[I"] ++ wsX30)
def wsX3_lastBall : List Cond := .code yX3_lastBall cX3_lastBall 2 (some .int) :: ([.fieldLink RX3 9 "BallBoxes$Row" "boxes" "[I"] ++ wsX30)
def wsX3_bits : List Cond := .code yX3_bits cX3_bits 6 (some .long) :: ([.methodLink RX3 22 yX3_ballAt, .instanceMethod yX3_ballAt, .selects RX3 yX3_ballAt yX3_ballAt, .initialized RX3, .code yX3_ballAt cX3_ballAt 2 (some .int), .fieldLink RX3 9 "BallBoxes$Row" "boxes" "[I", .static yX6_isBox, .initialized RX6, .code yX6_isBox cX6_isBox 1 (some .boolean)] ++ wsX30)
def wsX3_takenBy : List Cond := .code yX3_takenBy cX3_takenBy 6 (some .int) :: ([.fieldLink RX3 9 "BallBoxes$Row" "boxes" "[I", .static yX6_loadBehind, .initialized RX6, .code yX6_loadBehind cX6_loadBehind 3 (some .int)] ++ wsX30)
def wsX3_makeByCarrier : List Cond := .code yX3_makeByCarrier cX3_makeByCarrier 8 (some .int) :: ([.methodLink RX3 22 yX3_ballAt, .instanceMethod yX3_ballAt, .selects RX3 yX3_ballAt yX3_ballAt, .initialized RX3, .code yX3_ballAt cX3_ballAt 2 (some .int), .fieldLink RX3 9 "BallBoxes$Row" "boxes" "[I", .static yX6_isBox, .initialized RX6, .code yX6_isBox cX6_isBox 1 (some .boolean), .static yX6_loadBehind, .code yX6_loadBehind cX6_loadBehind 3 (some .int), .methodLink RX3 30 yX3_makeBox, .instanceMethod yX3_makeBox, .selects RX3 yX3_makeBox yX3_makeBox, .code yX3_makeBox cX3_makeBox 3 none, .fieldLink RX3 15 "BallBoxes$Row" "made" "[I"] ++ wsX30)
def wsX3_becomeMade : List Cond := .code yX3_becomeMade cX3_becomeMade 3 (some .int) :: ([.fieldLink RX3 9 "BallBoxes$Row" "boxes" "[I", .fieldLink RX3 15 "BallBoxes$Row" "made" "[I"] ++ wsX30)
def wsX4_init : List Cond := .code yX4_init cX4_init 1 none :: ([.methodLink RX4 3 objectInit, .instanceMethod objectInit, .code objectInit ⟨#[0xb1]⟩ 1 none, .arrayClass .int, .fieldLink RX4 9 "BallBoxes$Sheet" "items" "[I", .fieldLink RX4 15 "BallBoxes$Sheet" "lost" "Z"] ++ wsX40)
def wsX4_begin : List Cond := .code yX4_begin cX4_begin 4 none :: ([.fieldLink RX4 15 "BallBoxes$Sheet" "lost" "Z", .fieldLink RX4 19 "BallBoxes$Sheet" "form" "I", .fieldLink RX4 23 "BallBoxes$Sheet" "size" "I", .fieldLink RX4 9 "BallBoxes$Sheet" "items" "[I"] ++ wsX40)
def wsX4_isItem : List Cond := .code yX4_isItem cX4_isItem 2 (some .boolean) :: ([.fieldLink RX4 23 "BallBoxes$Sheet" "size" "I"] ++ wsX40)
def wsX4_findingAt : List Cond := .code yX4_findingAt cX4_findingAt 3 (some .int) :: ([.fieldLink RX4 15 "BallBoxes$Sheet" "lost" "Z", .fieldLink RX4 19 "BallBoxes$Sheet" "form" "I", .methodLink RX4 26 yX4_isItem, .instanceMethod yX4_isItem, .selects RX4 yX4_isItem yX4_isItem, .initialized RX4, .code yX4_isItem cX4_isItem 2 (some .boolean), .fieldLink RX4 23 "BallBoxes$Sheet" "size" "I"] ++ wsX40)
def wsX4_hasItems : List Cond := .code yX4_hasItems cX4_hasItems 3 (some .boolean) :: ([.fieldLink RX4 23 "BallBoxes$Sheet" "size" "I"] ++ wsX40)
def wsX4_itemAt : List Cond := .code yX4_itemAt cX4_itemAt 2 (some .int) :: ([.fieldLink RX4 9 "BallBoxes$Sheet" "items" "[I", .methodLink RX4 26 yX4_isItem, .instanceMethod yX4_isItem, .selects RX4 yX4_isItem yX4_isItem, .initialized RX4, .code yX4_isItem cX4_isItem 2 (some .boolean), .fieldLink RX4 23 "BallBoxes$Sheet" "size" "I"] ++ wsX40)
def wsX4_cut : List Cond := .code yX4_cut cX4_cut 2 (some .int) :: ([.fieldLink RX4 19 "BallBoxes$Sheet" "form" "I"] ++ wsX40)
def wsX4_place : List Cond := .code yX4_place cX4_place 3 none :: ([.fieldLink RX4 9 "BallBoxes$Sheet" "items" "[I", .methodLink RX4 26 yX4_isItem, .instanceMethod yX4_isItem, .selects RX4 yX4_isItem yX4_isItem, .initialized RX4, .code yX4_isItem cX4_isItem 2 (some .boolean), .fieldLink RX4 23 "BallBoxes$Sheet" "size" "I", .methodLink RX4 30 yX4_cut, .instanceMethod yX4_cut, .selects RX4 yX4_cut yX4_cut, .code yX4_cut cX4_cut 2 (some .int), .fieldLink RX4 19 "BallBoxes$Sheet" "form" "I"] ++ wsX40)
def wsX5_init : List Cond := .code yX5_init cX5_init 1 none :: ([.methodLink RX5 3 objectInit, .instanceMethod objectInit, .code objectInit ⟨#[0xb1]⟩ 1 none, .arrayClass .int, .fieldLink RX5 9 "BallBoxes$Strings" "lengths" "[I", .fieldLink RX5 15 "BallBoxes$Strings" "riggings" "[I", .fieldLink RX5 18 "BallBoxes$Strings" "lesserSums" "[I"] ++ wsX50)
def wsX5_isString : List Cond := .code yX5_isString cX5_isString 2 (some .boolean) :: ([.fieldLink RX5 21 "BallBoxes$Strings" "size" "I"] ++ wsX50)
def wsX5_lengthOf : List Cond := .code yX5_lengthOf cX5_lengthOf 2 (some .int) :: ([.fieldLink RX5 9 "BallBoxes$Strings" "lengths" "[I", .methodLink RX5 25 yX5_isString, .instanceMethod yX5_isString, .selects RX5 yX5_isString yX5_isString, .initialized RX5, .code yX5_isString cX5_isString 2 (some .boolean), .fieldLink RX5 21 "BallBoxes$Strings" "size" "I"] ++ wsX50)
def wsX5_riggingOf : List Cond := .code yX5_riggingOf cX5_riggingOf 2 (some .int) :: ([.fieldLink RX5 15 "BallBoxes$Strings" "riggings" "[I", .methodLink RX5 25 yX5_isString, .instanceMethod yX5_isString, .selects RX5 yX5_isString yX5_isString, .initialized RX5, .code yX5_isString cX5_isString 2 (some .boolean), .fieldLink RX5 21 "BallBoxes$Strings" "size" "I"] ++ wsX50)
def wsX5_roomLeft : List Cond := .code yX5_roomLeft cX5_roomLeft 3 (some .int) :: ([.fieldLink RX5 18 "BallBoxes$Strings" "lesserSums" "[I"] ++ wsX50)
def wsX5_clear : List Cond := .code yX5_clear cX5_clear 2 none :: ([.fieldLink RX5 21 "BallBoxes$Strings" "size" "I", .fieldLink RX5 18 "BallBoxes$Strings" "lesserSums" "[I"] ++ wsX50)
def wsX5_isTight : List Cond := .code yX5_isTight cX5_isTight 3 (some .boolean) :: ([.methodLink RX5 87 yX5_riggingOf, .instanceMethod yX5_riggingOf, .selects RX5 yX5_riggingOf yX5_riggingOf, .initialized RX5, .code yX5_riggingOf cX5_riggingOf 2 (some .int), .fieldLink RX5 15 "BallBoxes$Strings" "riggings" "[I", .methodLink RX5 25 yX5_isString, .instanceMethod yX5_isString, .selects RX5 yX5_isString yX5_isString, .code yX5_isString cX5_isString 2 (some .boolean), .fieldLink RX5 21 "BallBoxes$Strings" "size" "I", .methodLink RX5 90 yX5_lengthOf, .instanceMethod yX5_lengthOf, .selects RX5 yX5_lengthOf yX5_lengthOf, .code yX5_lengthOf cX5_lengthOf 2 (some .int), .fieldLink RX5 9 "BallBoxes$Strings" "lengths" "[I", .methodLink RX5 58 yX5_roomLeft, .instanceMethod yX5_roomLeft, .selects RX5 yX5_roomLeft yX5_roomLeft, .code yX5_roomLeft cX5_roomLeft 3 (some .int), .fieldLink RX5 18 "BallBoxes$Strings" "lesserSums" "[I"] ++ wsX50)
def wsX5_longestTight_r1 : List Cond := [Cond.fieldLink RX5 21 "BallBoxes$Strings" "size" "I", Cond.fieldLink RX5 9 "BallBoxes$Strings" "lengths" "[I", Cond.methodLink RX5 93 yX5_isTight, Cond.instanceMethod yX5_isTight, Cond.selects RX5 yX5_isTight yX5_isTight, Cond.initialized RX5, Cond.code yX5_isTight cX5_isTight 3 (some .boolean), Cond.methodLink RX5 87 yX5_riggingOf, Cond.instanceMethod yX5_riggingOf, Cond.selects RX5 yX5_riggingOf yX5_riggingOf, Cond.code yX5_riggingOf cX5_riggingOf 2 (some .int), Cond.fieldLink RX5 15 "BallBoxes$Strings" "riggings" "[I", Cond.methodLink RX5 25 yX5_isString, Cond.instanceMethod yX5_isString, Cond.selects RX5 yX5_isString yX5_isString, Cond.code yX5_isString cX5_isString 2 (some .boolean), Cond.methodLink RX5 90 yX5_lengthOf, Cond.instanceMethod yX5_lengthOf, Cond.selects RX5 yX5_lengthOf yX5_lengthOf, Cond.code yX5_lengthOf cX5_lengthOf 2 (some .int), Cond.methodLink RX5 58 yX5_roomLeft, Cond.instanceMethod yX5_roomLeft, Cond.selects RX5 yX5_roomLeft yX5_roomLeft, Cond.code yX5_roomLeft cX5_roomLeft 3 (some .int)]
def wsX5_longestTight_r2 : List Cond := [Cond.fieldLink RX5 18 "BallBoxes$Strings" "lesserSums" "[I"]
def wsX5_longestTight : List Cond := .code yX5_longestTight cX5_longestTight 4 (some .int) :: ((wsX5_longestTight_r1 ++ wsX5_longestTight_r2) ++ wsX50)
def wsX5_addString : List Cond := .code yX5_addString cX5_addString 1 (some .int) :: ([.fieldLink RX5 21 "BallBoxes$Strings" "size" "I", .fieldLink RX5 9 "BallBoxes$Strings" "lengths" "[I"] ++ wsX50)
def wsX5_addToSums : List Cond := .code yX5_addToSums cX5_addToSums 4 none :: ([.methodLink RX5 84 Lib.Math.max.name, .static Lib.Math.max.name, .initialized "java/lang/Math", .code Lib.Math.max.name Lib.Math.max.code 2 (some .int), .fieldLink RX5 18 "BallBoxes$Strings" "lesserSums" "[I"] ++ wsX50)
def wsX5_takeBall_r1 : List Cond := [Cond.fieldLink RX5 9 "BallBoxes$Strings" "lengths" "[I", Cond.fieldLink RX5 15 "BallBoxes$Strings" "riggings" "[I", Cond.methodLink RX5 68 yX5_longestTight, Cond.instanceMethod yX5_longestTight, Cond.selects RX5 yX5_longestTight yX5_longestTight, Cond.initialized RX5, Cond.code yX5_longestTight cX5_longestTight 4 (some .int), Cond.fieldLink RX5 21 "BallBoxes$Strings" "size" "I", Cond.methodLink RX5 93 yX5_isTight, Cond.instanceMethod yX5_isTight, Cond.selects RX5 yX5_isTight yX5_isTight, Cond.code yX5_isTight cX5_isTight 3 (some .boolean), Cond.methodLink RX5 87 yX5_riggingOf, Cond.instanceMethod yX5_riggingOf, Cond.selects RX5 yX5_riggingOf yX5_riggingOf, Cond.code yX5_riggingOf cX5_riggingOf 2 (some .int), Cond.methodLink RX5 25 yX5_isString, Cond.instanceMethod yX5_isString, Cond.selects RX5 yX5_isString yX5_isString, Cond.code yX5_isString cX5_isString 2 (some .boolean), Cond.methodLink RX5 90 yX5_lengthOf, Cond.instanceMethod yX5_lengthOf, Cond.selects RX5 yX5_lengthOf yX5_lengthOf, Cond.code yX5_lengthOf cX5_lengthOf 2 (some .int)]
def wsX5_takeBall_r2 : List Cond := [Cond.methodLink RX5 58 yX5_roomLeft, Cond.instanceMethod yX5_roomLeft, Cond.selects RX5 yX5_roomLeft yX5_roomLeft, Cond.code yX5_roomLeft cX5_roomLeft 3 (some .int), Cond.fieldLink RX5 18 "BallBoxes$Strings" "lesserSums" "[I", Cond.methodLink RX5 71 yX5_addString, Cond.instanceMethod yX5_addString, Cond.selects RX5 yX5_addString yX5_addString, Cond.code yX5_addString cX5_addString 1 (some .int), Cond.methodLink RX5 75 yX5_addToSums, Cond.instanceMethod yX5_addToSums, Cond.selects RX5 yX5_addToSums yX5_addToSums, Cond.code yX5_addToSums cX5_addToSums 4 none, Cond.methodLink RX5 84 Lib.Math.max.name, Cond.static Lib.Math.max.name, Cond.initialized "java/lang/Math", Cond.code Lib.Math.max.name Lib.Math.max.code 2 (some .int)]
def wsX5_takeBall : List Cond := .code yX5_takeBall cX5_takeBall 3 none :: ((wsX5_takeBall_r1 ++ wsX5_takeBall_r2) ++ wsX50)
def wsX5_readFrom_r1 : List Cond := [Cond.fieldLink RX5 42 "BallBoxes$Strings" "boxesRead" "I", Cond.methodLink RX5 29 yX5_clear, Cond.instanceMethod yX5_clear, Cond.selects RX5 yX5_clear yX5_clear, Cond.initialized RX5, Cond.code yX5_clear cX5_clear 2 none, Cond.fieldLink RX5 21 "BallBoxes$Strings" "size" "I", Cond.fieldLink RX5 18 "BallBoxes$Strings" "lesserSums" "[I", Cond.methodLink RX5 32 yX3_ballAt, Cond.instanceMethod yX3_ballAt, Cond.selects RX3 yX3_ballAt yX3_ballAt, Cond.initialized RX3, Cond.code yX3_ballAt cX3_ballAt 2 (some .int), Cond.fieldLink RX3 9 "BallBoxes$Row" "boxes" "[I", Cond.static yX6_isBox, Cond.initialized RX6, Cond.code yX6_isBox cX6_isBox 1 (some .boolean), Cond.methodLink RX5 38 yX5_takeBall, Cond.instanceMethod yX5_takeBall, Cond.selects RX5 yX5_takeBall yX5_takeBall, Cond.code yX5_takeBall cX5_takeBall 3 none, Cond.fieldLink RX5 9 "BallBoxes$Strings" "lengths" "[I", Cond.fieldLink RX5 15 "BallBoxes$Strings" "riggings" "[I", Cond.methodLink RX5 68 yX5_longestTight]
def wsX5_readFrom_r2 : List Cond := [Cond.instanceMethod yX5_longestTight, Cond.selects RX5 yX5_longestTight yX5_longestTight, Cond.code yX5_longestTight cX5_longestTight 4 (some .int), Cond.methodLink RX5 93 yX5_isTight, Cond.instanceMethod yX5_isTight, Cond.selects RX5 yX5_isTight yX5_isTight, Cond.code yX5_isTight cX5_isTight 3 (some .boolean), Cond.methodLink RX5 87 yX5_riggingOf, Cond.instanceMethod yX5_riggingOf, Cond.selects RX5 yX5_riggingOf yX5_riggingOf, Cond.code yX5_riggingOf cX5_riggingOf 2 (some .int), Cond.methodLink RX5 25 yX5_isString, Cond.instanceMethod yX5_isString, Cond.selects RX5 yX5_isString yX5_isString, Cond.code yX5_isString cX5_isString 2 (some .boolean), Cond.methodLink RX5 90 yX5_lengthOf, Cond.instanceMethod yX5_lengthOf, Cond.selects RX5 yX5_lengthOf yX5_lengthOf, Cond.code yX5_lengthOf cX5_lengthOf 2 (some .int), Cond.methodLink RX5 58 yX5_roomLeft, Cond.instanceMethod yX5_roomLeft, Cond.selects RX5 yX5_roomLeft yX5_roomLeft, Cond.code yX5_roomLeft cX5_roomLeft 3 (some .int), Cond.methodLink RX5 71 yX5_addString]
def wsX5_readFrom_r3 : List Cond := [Cond.instanceMethod yX5_addString, Cond.selects RX5 yX5_addString yX5_addString, Cond.code yX5_addString cX5_addString 1 (some .int), Cond.methodLink RX5 75 yX5_addToSums, Cond.instanceMethod yX5_addToSums, Cond.selects RX5 yX5_addToSums yX5_addToSums, Cond.code yX5_addToSums cX5_addToSums 4 none, Cond.methodLink RX5 84 Lib.Math.max.name, Cond.static Lib.Math.max.name, Cond.initialized "java/lang/Math", Cond.code Lib.Math.max.name Lib.Math.max.code 2 (some .int)]
def wsX5_readFrom : List Cond := .code yX5_readFrom cX5_readFrom 4 none :: ((wsX5_readFrom_r1 ++ (wsX5_readFrom_r2 ++ wsX5_readFrom_r3)) ++ wsX50 ++ wsX30)
def wsX5_shortestTight_r1 : List Cond := [Cond.fieldLink RX5 21 "BallBoxes$Strings" "size" "I", Cond.fieldLink RX5 9 "BallBoxes$Strings" "lengths" "[I", Cond.methodLink RX5 93 yX5_isTight, Cond.instanceMethod yX5_isTight, Cond.selects RX5 yX5_isTight yX5_isTight, Cond.initialized RX5, Cond.code yX5_isTight cX5_isTight 3 (some .boolean), Cond.methodLink RX5 87 yX5_riggingOf, Cond.instanceMethod yX5_riggingOf, Cond.selects RX5 yX5_riggingOf yX5_riggingOf, Cond.code yX5_riggingOf cX5_riggingOf 2 (some .int), Cond.fieldLink RX5 15 "BallBoxes$Strings" "riggings" "[I", Cond.methodLink RX5 25 yX5_isString, Cond.instanceMethod yX5_isString, Cond.selects RX5 yX5_isString yX5_isString, Cond.code yX5_isString cX5_isString 2 (some .boolean), Cond.methodLink RX5 90 yX5_lengthOf, Cond.instanceMethod yX5_lengthOf, Cond.selects RX5 yX5_lengthOf yX5_lengthOf, Cond.code yX5_lengthOf cX5_lengthOf 2 (some .int), Cond.methodLink RX5 58 yX5_roomLeft, Cond.instanceMethod yX5_roomLeft, Cond.selects RX5 yX5_roomLeft yX5_roomLeft, Cond.code yX5_roomLeft cX5_roomLeft 3 (some .int)]
def wsX5_shortestTight_r2 : List Cond := [Cond.fieldLink RX5 18 "BallBoxes$Strings" "lesserSums" "[I"]
def wsX5_shortestTight : List Cond := .code yX5_shortestTight cX5_shortestTight 4 (some .int) :: ((wsX5_shortestTight_r1 ++ wsX5_shortestTight_r2) ++ wsX50)
def wsX5_swap : List Cond := .code yX5_swap cX5_swap 5 none :: ([.fieldLink RX5 9 "BallBoxes$Strings" "lengths" "[I", .fieldLink RX5 15 "BallBoxes$Strings" "riggings" "[I", .methodLink RX5 25 yX5_isString, .instanceMethod yX5_isString, .selects RX5 yX5_isString yX5_isString, .initialized RX5, .code yX5_isString cX5_isString 2 (some .boolean), .fieldLink RX5 21 "BallBoxes$Strings" "size" "I"] ++ wsX50)
def wsX5_removeString : List Cond := .code yX5_removeString cX5_removeString 2 none :: ([.fieldLink RX5 21 "BallBoxes$Strings" "size" "I", .methodLink RX5 65 yX5_swap, .instanceMethod yX5_swap, .selects RX5 yX5_swap yX5_swap, .initialized RX5, .code yX5_swap cX5_swap 5 none, .fieldLink RX5 9 "BallBoxes$Strings" "lengths" "[I", .fieldLink RX5 15 "BallBoxes$Strings" "riggings" "[I", .methodLink RX5 25 yX5_isString, .instanceMethod yX5_isString, .selects RX5 yX5_isString yX5_isString, .code yX5_isString cX5_isString 2 (some .boolean)] ++ wsX50)
def wsX5_giveBall_r1 : List Cond := [Cond.fieldLink RX5 9 "BallBoxes$Strings" "lengths" "[I", Cond.fieldLink RX5 15 "BallBoxes$Strings" "riggings" "[I", Cond.methodLink RX5 78 yX5_shortestTight, Cond.instanceMethod yX5_shortestTight, Cond.selects RX5 yX5_shortestTight yX5_shortestTight, Cond.initialized RX5, Cond.code yX5_shortestTight cX5_shortestTight 4 (some .int), Cond.fieldLink RX5 21 "BallBoxes$Strings" "size" "I", Cond.methodLink RX5 93 yX5_isTight, Cond.instanceMethod yX5_isTight, Cond.selects RX5 yX5_isTight yX5_isTight, Cond.code yX5_isTight cX5_isTight 3 (some .boolean), Cond.methodLink RX5 87 yX5_riggingOf, Cond.instanceMethod yX5_riggingOf, Cond.selects RX5 yX5_riggingOf yX5_riggingOf, Cond.code yX5_riggingOf cX5_riggingOf 2 (some .int), Cond.methodLink RX5 25 yX5_isString, Cond.instanceMethod yX5_isString, Cond.selects RX5 yX5_isString yX5_isString, Cond.code yX5_isString cX5_isString 2 (some .boolean), Cond.methodLink RX5 90 yX5_lengthOf, Cond.instanceMethod yX5_lengthOf, Cond.selects RX5 yX5_lengthOf yX5_lengthOf, Cond.code yX5_lengthOf cX5_lengthOf 2 (some .int)]
def wsX5_giveBall_r2 : List Cond := [Cond.methodLink RX5 58 yX5_roomLeft, Cond.instanceMethod yX5_roomLeft, Cond.selects RX5 yX5_roomLeft yX5_roomLeft, Cond.code yX5_roomLeft cX5_roomLeft 3 (some .int), Cond.fieldLink RX5 18 "BallBoxes$Strings" "lesserSums" "[I", Cond.methodLink RX5 75 yX5_addToSums, Cond.instanceMethod yX5_addToSums, Cond.selects RX5 yX5_addToSums yX5_addToSums, Cond.code yX5_addToSums cX5_addToSums 4 none, Cond.methodLink RX5 84 Lib.Math.max.name, Cond.static Lib.Math.max.name, Cond.initialized "java/lang/Math", Cond.code Lib.Math.max.name Lib.Math.max.code 2 (some .int), Cond.methodLink RX5 81 yX5_removeString, Cond.instanceMethod yX5_removeString, Cond.selects RX5 yX5_removeString yX5_removeString, Cond.code yX5_removeString cX5_removeString 2 none, Cond.methodLink RX5 65 yX5_swap, Cond.instanceMethod yX5_swap, Cond.selects RX5 yX5_swap yX5_swap, Cond.code yX5_swap cX5_swap 5 none]
def wsX5_giveBall : List Cond := .code yX5_giveBall cX5_giveBall 3 (some .int) :: ((wsX5_giveBall_r1 ++ wsX5_giveBall_r2) ++ wsX50)
def wsX5_makeInto_r1 : List Cond := [Cond.fieldLink RX5 21 "BallBoxes$Strings" "size" "I", Cond.methodLink RX5 45 yX5_giveBall, Cond.instanceMethod yX5_giveBall, Cond.selects RX5 yX5_giveBall yX5_giveBall, Cond.initialized RX5, Cond.code yX5_giveBall cX5_giveBall 3 (some .int), Cond.fieldLink RX5 9 "BallBoxes$Strings" "lengths" "[I", Cond.fieldLink RX5 15 "BallBoxes$Strings" "riggings" "[I", Cond.methodLink RX5 78 yX5_shortestTight, Cond.instanceMethod yX5_shortestTight, Cond.selects RX5 yX5_shortestTight yX5_shortestTight, Cond.code yX5_shortestTight cX5_shortestTight 4 (some .int), Cond.methodLink RX5 93 yX5_isTight, Cond.instanceMethod yX5_isTight, Cond.selects RX5 yX5_isTight yX5_isTight, Cond.code yX5_isTight cX5_isTight 3 (some .boolean), Cond.methodLink RX5 87 yX5_riggingOf, Cond.instanceMethod yX5_riggingOf, Cond.selects RX5 yX5_riggingOf yX5_riggingOf, Cond.code yX5_riggingOf cX5_riggingOf 2 (some .int), Cond.methodLink RX5 25 yX5_isString, Cond.instanceMethod yX5_isString, Cond.selects RX5 yX5_isString yX5_isString, Cond.code yX5_isString cX5_isString 2 (some .boolean)]
def wsX5_makeInto_r2 : List Cond := [Cond.methodLink RX5 90 yX5_lengthOf, Cond.instanceMethod yX5_lengthOf, Cond.selects RX5 yX5_lengthOf yX5_lengthOf, Cond.code yX5_lengthOf cX5_lengthOf 2 (some .int), Cond.methodLink RX5 58 yX5_roomLeft, Cond.instanceMethod yX5_roomLeft, Cond.selects RX5 yX5_roomLeft yX5_roomLeft, Cond.code yX5_roomLeft cX5_roomLeft 3 (some .int), Cond.fieldLink RX5 18 "BallBoxes$Strings" "lesserSums" "[I", Cond.methodLink RX5 75 yX5_addToSums, Cond.instanceMethod yX5_addToSums, Cond.selects RX5 yX5_addToSums yX5_addToSums, Cond.code yX5_addToSums cX5_addToSums 4 none, Cond.methodLink RX5 84 Lib.Math.max.name, Cond.static Lib.Math.max.name, Cond.initialized "java/lang/Math", Cond.code Lib.Math.max.name Lib.Math.max.code 2 (some .int), Cond.methodLink RX5 81 yX5_removeString, Cond.instanceMethod yX5_removeString, Cond.selects RX5 yX5_removeString yX5_removeString, Cond.code yX5_removeString cX5_removeString 2 none, Cond.methodLink RX5 65 yX5_swap, Cond.instanceMethod yX5_swap, Cond.selects RX5 yX5_swap yX5_swap]
def wsX5_makeInto_r3 : List Cond := [Cond.code yX5_swap cX5_swap 5 none, Cond.methodLink RX5 48 yX3_makeBox, Cond.instanceMethod yX3_makeBox, Cond.selects RX3 yX3_makeBox yX3_makeBox, Cond.initialized RX3, Cond.code yX3_makeBox cX3_makeBox 3 none, Cond.fieldLink RX3 15 "BallBoxes$Row" "made" "[I", Cond.static yX6_isBox, Cond.initialized RX6, Cond.code yX6_isBox cX6_isBox 1 (some .boolean)]
def wsX5_makeInto : List Cond := .code yX5_makeInto cX5_makeInto 3 (some .boolean) :: ((wsX5_makeInto_r1 ++ (wsX5_makeInto_r2 ++ wsX5_makeInto_r3)) ++ wsX50 ++ wsX30)
def wsX5_addToRiggings : List Cond := .code yX5_addToRiggings cX5_addToRiggings 4 none :: ([.fieldLink RX5 21 "BallBoxes$Strings" "size" "I", .fieldLink RX5 15 "BallBoxes$Strings" "riggings" "[I", .fieldLink RX5 9 "BallBoxes$Strings" "lengths" "[I", .methodLink RX5 52 Lib.Math.min.name, .static Lib.Math.min.name, .initialized "java/lang/Math", .code Lib.Math.min.name Lib.Math.min.code 2 (some .int)] ++ wsX50)
def wsX5_haveRoomBehind : List Cond := .code yX5_haveRoomBehind cX5_haveRoomBehind 3 (some .boolean) :: ([.fieldLink RX5 21 "BallBoxes$Strings" "size" "I", .fieldLink RX5 15 "BallBoxes$Strings" "riggings" "[I", .fieldLink RX5 9 "BallBoxes$Strings" "lengths" "[I", .methodLink RX5 58 yX5_roomLeft, .instanceMethod yX5_roomLeft, .selects RX5 yX5_roomLeft yX5_roomLeft, .initialized RX5, .code yX5_roomLeft cX5_roomLeft 3 (some .int), .fieldLink RX5 18 "BallBoxes$Strings" "lesserSums" "[I"] ++ wsX50)
def wsX5_isBehind : List Cond := .code yX5_isBehind cX5_isBehind 3 (some .boolean) :: ([.methodLink RX5 90 yX5_lengthOf, .instanceMethod yX5_lengthOf, .selects RX5 yX5_lengthOf yX5_lengthOf, .initialized RX5, .code yX5_lengthOf cX5_lengthOf 2 (some .int), .fieldLink RX5 9 "BallBoxes$Strings" "lengths" "[I", .methodLink RX5 25 yX5_isString, .instanceMethod yX5_isString, .selects RX5 yX5_isString yX5_isString, .code yX5_isString cX5_isString 2 (some .boolean), .fieldLink RX5 21 "BallBoxes$Strings" "size" "I", .methodLink RX5 87 yX5_riggingOf, .instanceMethod yX5_riggingOf, .selects RX5 yX5_riggingOf yX5_riggingOf, .code yX5_riggingOf cX5_riggingOf 2 (some .int), .fieldLink RX5 15 "BallBoxes$Strings" "riggings" "[I"] ++ wsX50)
def wsX5_sort : List Cond := .code yX5_sort cX5_sort 3 none :: ([.fieldLink RX5 21 "BallBoxes$Strings" "size" "I", .methodLink RX5 61 yX5_isBehind, .instanceMethod yX5_isBehind, .selects RX5 yX5_isBehind yX5_isBehind, .initialized RX5, .code yX5_isBehind cX5_isBehind 3 (some .boolean), .methodLink RX5 90 yX5_lengthOf, .instanceMethod yX5_lengthOf, .selects RX5 yX5_lengthOf yX5_lengthOf, .code yX5_lengthOf cX5_lengthOf 2 (some .int), .fieldLink RX5 9 "BallBoxes$Strings" "lengths" "[I", .methodLink RX5 25 yX5_isString, .instanceMethod yX5_isString, .selects RX5 yX5_isString yX5_isString, .code yX5_isString cX5_isString 2 (some .boolean), .methodLink RX5 87 yX5_riggingOf, .instanceMethod yX5_riggingOf, .selects RX5 yX5_riggingOf yX5_riggingOf, .code yX5_riggingOf cX5_riggingOf 2 (some .int), .fieldLink RX5 15 "BallBoxes$Strings" "riggings" "[I", .methodLink RX5 65 yX5_swap, .instanceMethod yX5_swap, .selects RX5 yX5_swap yX5_swap, .code yX5_swap cX5_swap 5 none] ++ wsX50)
def wsX6_init_r1 : List Cond := [Cond.methodLink RX6 1 objectInit, Cond.instanceMethod objectInit, Cond.code objectInit ⟨#[0xb1]⟩ 1 none, Cond.classLink RX6 7 RX3, Cond.instantiable RX3 2, Cond.initialized RX3, Cond.fieldLink RX6 10 "BallBoxes" "theRow" "LBallBoxes$Row;", Cond.classLink RX6 16 RX0, Cond.instantiable RX0 2, Cond.initialized RX0, Cond.fieldLink RX6 19 "BallBoxes" "pairs" "LBallBoxes$Pairs;", Cond.classLink RX6 23 RX5, Cond.instantiable RX5 5, Cond.initialized RX5, Cond.fieldLink RX6 26 "BallBoxes" "latestStrings" "LBallBoxes$Strings;", Cond.fieldLink RX6 30 "BallBoxes" "leapStrings" "LBallBoxes$Strings;", Cond.classLink RX6 33 RX1, Cond.instantiable RX1 4, Cond.initialized RX1, Cond.fieldLink RX6 36 "BallBoxes" "theRing" "LBallBoxes$Ring;", Cond.classLink RX6 40 RX2, Cond.instantiable RX2 2, Cond.initialized RX2, Cond.fieldLink RX6 43 "BallBoxes" "trial" "LBallBoxes$RingTrial;"]
def wsX6_init_r2 : List Cond := [Cond.classLink RX6 47 RX4, Cond.fieldLink RX6 49 "BallBoxes" "sheets" "[LBallBoxes$Sheet;", Cond.instantiable RX4 4, Cond.initialized RX4, Cond.instanceMethod yX3_init, Cond.code yX3_init cX3_init 1 none, Cond.methodLink RX3 3 objectInit, Cond.arrayClass .int, Cond.fieldLink RX3 9 "BallBoxes$Row" "boxes" "[I", Cond.fieldLink RX3 15 "BallBoxes$Row" "made" "[I", Cond.instanceMethod yX0_init, Cond.code yX0_init cX0_init 1 none, Cond.methodLink RX0 3 objectInit, Cond.fieldLink RX0 9 "BallBoxes$Pairs" "left" "[I", Cond.instanceMethod yX5_init, Cond.code yX5_init cX5_init 1 none, Cond.methodLink RX5 3 objectInit, Cond.fieldLink RX5 9 "BallBoxes$Strings" "lengths" "[I", Cond.fieldLink RX5 15 "BallBoxes$Strings" "riggings" "[I", Cond.fieldLink RX5 18 "BallBoxes$Strings" "lesserSums" "[I", Cond.instanceMethod yX1_init, Cond.code yX1_init cX1_init 1 none, Cond.methodLink RX1 1 objectInit, Cond.fieldLink RX1 7 "BallBoxes$Ring" "size" "I"]
def wsX6_init_r3 : List Cond := [Cond.instanceMethod yX2_init, Cond.code yX2_init cX2_init 1 none, Cond.methodLink RX2 3 objectInit, Cond.classLink RX2 9 RX1, Cond.fieldLink RX2 12 "BallBoxes$RingTrial" "ring" "LBallBoxes$Ring;", Cond.arrayClass .long, Cond.fieldLink RX2 18 "BallBoxes$RingTrial" "seen" "[J", Cond.instanceMethod yX4_init, Cond.code yX4_init cX4_init 1 none, Cond.methodLink RX4 3 objectInit, Cond.fieldLink RX4 9 "BallBoxes$Sheet" "items" "[I", Cond.fieldLink RX4 15 "BallBoxes$Sheet" "lost" "Z"]
def wsX6_init : List Cond := .code yX6_init cX6_init 2 none :: ((wsX6_init_r1 ++ (wsX6_init_r2 ++ wsX6_init_r3)) ++ wsX30 ++ wsX60 ++ wsX00 ++ wsX50 ++ wsX10 ++ wsX20 ++ wsX40)
def wsX6_set : List Cond := .code yX6_set cX6_set 4 (some .int) :: ([.fieldLink RX6 10 "BallBoxes" "theRow" "LBallBoxes$Row;", .methodLink RX6 54 yX6_isBox, .static yX6_isBox, .initialized RX6, .code yX6_isBox cX6_isBox 1 (some .boolean), .methodLink RX6 58 yX3_ballAt, .instanceMethod yX3_ballAt, .selects RX3 yX3_ballAt yX3_ballAt, .initialized RX3, .code yX3_ballAt cX3_ballAt 2 (some .int), .fieldLink RX3 9 "BallBoxes$Row" "boxes" "[I", .methodLink RX6 62 yX3_place, .instanceMethod yX3_place, .selects RX3 yX3_place yX3_place, .code yX3_place cX3_place 3 none] ++ wsX60 ++ wsX30)
def wsX6_at : List Cond := .code yX6_at cX6_at 2 (some .int) :: ([.fieldLink RX6 10 "BallBoxes" "theRow" "LBallBoxes$Row;", .methodLink RX6 54 yX6_isBox, .static yX6_isBox, .initialized RX6, .code yX6_isBox cX6_isBox 1 (some .boolean), .methodLink RX6 58 yX3_ballAt, .instanceMethod yX3_ballAt, .selects RX3 yX3_ballAt yX3_ballAt, .initialized RX3, .code yX3_ballAt cX3_ballAt 2 (some .int), .fieldLink RX3 9 "BallBoxes$Row" "boxes" "[I"] ++ wsX60 ++ wsX30)
def wsX6_empty : List Cond := .code yX6_empty cX6_empty 2 (some .int) :: ([.fieldLink RX6 10 "BallBoxes" "theRow" "LBallBoxes$Row;", .methodLink RX6 66 yX3_balls, .instanceMethod yX3_balls, .selects RX3 yX3_balls yX3_balls, .initialized RX3, .code yX3_balls cX3_balls 3 (some .int), .fieldLink RX3 9 "BallBoxes$Row" "boxes" "[I", .methodLink RX6 70 yX3_clear, .instanceMethod yX3_clear, .selects RX3 yX3_clear yX3_clear, .code yX3_clear cX3_clear 2 none] ++ wsX60 ++ wsX30)
def wsX6_isRoom : List Cond := .code yX6_isRoom cX6_isRoom 1 (some .boolean) :: ([])
def wsX6_carry_r1 : List Cond := [Cond.fieldLink RX6 10 "BallBoxes" "theRow" "LBallBoxes$Row;", Cond.fieldLink RX6 134 "BallBoxes" "moves" "I", Cond.methodLink RX6 237 yX3_makeByCarrier, Cond.instanceMethod yX3_makeByCarrier, Cond.selects RX3 yX3_makeByCarrier yX3_makeByCarrier, Cond.initialized RX3, Cond.code yX3_makeByCarrier cX3_makeByCarrier 8 (some .int), Cond.methodLink RX3 22 yX3_ballAt, Cond.instanceMethod yX3_ballAt, Cond.selects RX3 yX3_ballAt yX3_ballAt, Cond.code yX3_ballAt cX3_ballAt 2 (some .int), Cond.fieldLink RX3 9 "BallBoxes$Row" "boxes" "[I", Cond.static yX6_isBox, Cond.initialized RX6, Cond.code yX6_isBox cX6_isBox 1 (some .boolean), Cond.static yX6_loadBehind, Cond.code yX6_loadBehind cX6_loadBehind 3 (some .int), Cond.methodLink RX3 30 yX3_makeBox, Cond.instanceMethod yX3_makeBox, Cond.selects RX3 yX3_makeBox yX3_makeBox, Cond.code yX3_makeBox cX3_makeBox 3 none, Cond.fieldLink RX3 15 "BallBoxes$Row" "made" "[I", Cond.methodLink RX6 137 yX3_becomeMade, Cond.instanceMethod yX3_becomeMade]
def wsX6_carry_r2 : List Cond := [Cond.selects RX3 yX3_becomeMade yX3_becomeMade, Cond.code yX3_becomeMade cX3_becomeMade 3 (some .int)]
def wsX6_carry : List Cond := .code yX6_carry cX6_carry 3 (some .int) :: ((wsX6_carry_r1 ++ wsX6_carry_r2) ++ wsX60 ++ wsX30)
def wsX6_step_r1 : List Cond := [Cond.methodLink RX6 73 yX6_isRoom, Cond.static yX6_isRoom, Cond.initialized RX6, Cond.code yX6_isRoom cX6_isRoom 1 (some .boolean), Cond.methodLink RX6 76 yX6_carry, Cond.instanceMethod yX6_carry, Cond.selects RX6 yX6_carry yX6_carry, Cond.code yX6_carry cX6_carry 3 (some .int), Cond.fieldLink RX6 10 "BallBoxes" "theRow" "LBallBoxes$Row;", Cond.fieldLink RX6 134 "BallBoxes" "moves" "I", Cond.methodLink RX6 237 yX3_makeByCarrier, Cond.instanceMethod yX3_makeByCarrier, Cond.selects RX3 yX3_makeByCarrier yX3_makeByCarrier, Cond.initialized RX3, Cond.code yX3_makeByCarrier cX3_makeByCarrier 8 (some .int), Cond.methodLink RX3 22 yX3_ballAt, Cond.instanceMethod yX3_ballAt, Cond.selects RX3 yX3_ballAt yX3_ballAt, Cond.code yX3_ballAt cX3_ballAt 2 (some .int), Cond.fieldLink RX3 9 "BallBoxes$Row" "boxes" "[I", Cond.static yX6_isBox, Cond.code yX6_isBox cX6_isBox 1 (some .boolean), Cond.static yX6_loadBehind, Cond.code yX6_loadBehind cX6_loadBehind 3 (some .int)]
def wsX6_step_r2 : List Cond := [Cond.methodLink RX3 30 yX3_makeBox, Cond.instanceMethod yX3_makeBox, Cond.selects RX3 yX3_makeBox yX3_makeBox, Cond.code yX3_makeBox cX3_makeBox 3 none, Cond.fieldLink RX3 15 "BallBoxes$Row" "made" "[I", Cond.methodLink RX6 137 yX3_becomeMade, Cond.instanceMethod yX3_becomeMade, Cond.selects RX3 yX3_becomeMade yX3_becomeMade, Cond.code yX3_becomeMade cX3_becomeMade 3 (some .int)]
def wsX6_step : List Cond := .code yX6_step cX6_step 2 (some .int) :: ((wsX6_step_r1 ++ wsX6_step_r2) ++ wsX60 ++ wsX30)
def wsX6_back_r1 : List Cond := [Cond.methodLink RX6 73 yX6_isRoom, Cond.static yX6_isRoom, Cond.initialized RX6, Cond.code yX6_isRoom cX6_isRoom 1 (some .boolean), Cond.methodLink RX6 76 yX6_carry, Cond.instanceMethod yX6_carry, Cond.selects RX6 yX6_carry yX6_carry, Cond.code yX6_carry cX6_carry 3 (some .int), Cond.fieldLink RX6 10 "BallBoxes" "theRow" "LBallBoxes$Row;", Cond.fieldLink RX6 134 "BallBoxes" "moves" "I", Cond.methodLink RX6 237 yX3_makeByCarrier, Cond.instanceMethod yX3_makeByCarrier, Cond.selects RX3 yX3_makeByCarrier yX3_makeByCarrier, Cond.initialized RX3, Cond.code yX3_makeByCarrier cX3_makeByCarrier 8 (some .int), Cond.methodLink RX3 22 yX3_ballAt, Cond.instanceMethod yX3_ballAt, Cond.selects RX3 yX3_ballAt yX3_ballAt, Cond.code yX3_ballAt cX3_ballAt 2 (some .int), Cond.fieldLink RX3 9 "BallBoxes$Row" "boxes" "[I", Cond.static yX6_isBox, Cond.code yX6_isBox cX6_isBox 1 (some .boolean), Cond.static yX6_loadBehind, Cond.code yX6_loadBehind cX6_loadBehind 3 (some .int)]
def wsX6_back_r2 : List Cond := [Cond.methodLink RX3 30 yX3_makeBox, Cond.instanceMethod yX3_makeBox, Cond.selects RX3 yX3_makeBox yX3_makeBox, Cond.code yX3_makeBox cX3_makeBox 3 none, Cond.fieldLink RX3 15 "BallBoxes$Row" "made" "[I", Cond.methodLink RX6 137 yX3_becomeMade, Cond.instanceMethod yX3_becomeMade, Cond.selects RX3 yX3_becomeMade yX3_becomeMade, Cond.code yX3_becomeMade cX3_becomeMade 3 (some .int)]
def wsX6_back : List Cond := .code yX6_back cX6_back 2 (some .int) :: ((wsX6_back_r1 ++ wsX6_back_r2) ++ wsX60 ++ wsX30)
def wsX6_kept : List Cond := .code yX6_kept cX6_kept 2 (some .int) :: ([.fieldLink RX6 10 "BallBoxes" "theRow" "LBallBoxes$Row;", .methodLink RX6 73 yX6_isRoom, .static yX6_isRoom, .initialized RX6, .code yX6_isRoom cX6_isRoom 1 (some .boolean), .methodLink RX6 80 yX3_takenBy, .instanceMethod yX3_takenBy, .selects RX3 yX3_takenBy yX3_takenBy, .initialized RX3, .code yX3_takenBy cX3_takenBy 6 (some .int), .fieldLink RX3 9 "BallBoxes$Row" "boxes" "[I", .static yX6_loadBehind, .code yX6_loadBehind cX6_loadBehind 3 (some .int)] ++ wsX60 ++ wsX30)
def wsX6_row_r1 : List Cond := [Cond.fieldLink RX6 10 "BallBoxes" "theRow" "LBallBoxes$Row;", Cond.fieldLink RX6 19 "BallBoxes" "pairs" "LBallBoxes$Pairs;", Cond.methodLink RX6 66 yX3_balls, Cond.instanceMethod yX3_balls, Cond.selects RX3 yX3_balls yX3_balls, Cond.initialized RX3, Cond.code yX3_balls cX3_balls 3 (some .int), Cond.fieldLink RX3 9 "BallBoxes$Row" "boxes" "[I", Cond.methodLink RX6 83 yX3_firstBall, Cond.instanceMethod yX3_firstBall, Cond.selects RX3 yX3_firstBall yX3_firstBall, Cond.code yX3_firstBall cX3_firstBall 2 (some .int), Cond.methodLink RX6 86 yX3_lastBall, Cond.instanceMethod yX3_lastBall, Cond.selects RX3 yX3_lastBall yX3_lastBall, Cond.code yX3_lastBall cX3_lastBall 2 (some .int), Cond.methodLink RX6 89 yX0_heapsOf, Cond.instanceMethod yX0_heapsOf, Cond.selects RX0 yX0_heapsOf yX0_heapsOf, Cond.initialized RX0, Cond.code yX0_heapsOf cX0_heapsOf 2 (some .int), Cond.methodLink RX0 15 yX0_begin, Cond.instanceMethod yX0_begin, Cond.selects RX0 yX0_begin yX0_begin]
def wsX6_row_r2 : List Cond := [Cond.code yX0_begin cX0_begin 3 none, Cond.fieldLink RX0 9 "BallBoxes$Pairs" "left" "[I", Cond.fieldLink RX0 29 "BallBoxes$Pairs" "size" "I", Cond.methodLink RX0 23 yX3_ballAt, Cond.instanceMethod yX3_ballAt, Cond.selects RX3 yX3_ballAt yX3_ballAt, Cond.code yX3_ballAt cX3_ballAt 2 (some .int), Cond.static yX6_isBox, Cond.initialized RX6, Cond.code yX6_isBox cX6_isBox 1 (some .boolean), Cond.methodLink RX0 19 yX0_takeOut, Cond.instanceMethod yX0_takeOut, Cond.selects RX0 yX0_takeOut yX0_takeOut, Cond.code yX0_takeOut cX0_takeOut 6 (some .int)]
def wsX6_row : List Cond := .code yX6_row cX6_row 2 (some .int) :: ((wsX6_row_r1 ++ wsX6_row_r2) ++ wsX60 ++ wsX30 ++ wsX00)
def wsX6_heap_r1 : List Cond := [Cond.fieldLink RX6 19 "BallBoxes" "pairs" "LBallBoxes$Pairs;", Cond.fieldLink RX6 10 "BallBoxes" "theRow" "LBallBoxes$Row;", Cond.methodLink RX6 93 yX0_countsAbove, Cond.instanceMethod yX0_countsAbove, Cond.selects RX0 yX0_countsAbove yX0_countsAbove, Cond.initialized RX0, Cond.code yX0_countsAbove cX0_countsAbove 5 (some .int), Cond.methodLink RX0 15 yX0_begin, Cond.instanceMethod yX0_begin, Cond.selects RX0 yX0_begin yX0_begin, Cond.code yX0_begin cX0_begin 3 none, Cond.fieldLink RX0 9 "BallBoxes$Pairs" "left" "[I", Cond.fieldLink RX0 29 "BallBoxes$Pairs" "size" "I", Cond.methodLink RX0 23 yX3_ballAt, Cond.instanceMethod yX3_ballAt, Cond.selects RX3 yX3_ballAt yX3_ballAt, Cond.initialized RX3, Cond.code yX3_ballAt cX3_ballAt 2 (some .int), Cond.fieldLink RX3 9 "BallBoxes$Row" "boxes" "[I", Cond.static yX6_isBox, Cond.initialized RX6, Cond.code yX6_isBox cX6_isBox 1 (some .boolean), Cond.methodLink RX0 19 yX0_takeOut, Cond.instanceMethod yX0_takeOut]
def wsX6_heap_r2 : List Cond := [Cond.selects RX0 yX0_takeOut yX0_takeOut, Cond.code yX0_takeOut cX0_takeOut 6 (some .int)]
def wsX6_heap : List Cond := .code yX6_heap cX6_heap 3 (some .int) :: ((wsX6_heap_r1 ++ wsX6_heap_r2) ++ wsX60 ++ wsX00 ++ wsX30)
def wsX6_strings_r1 : List Cond := [Cond.fieldLink RX6 26 "BallBoxes" "latestStrings" "LBallBoxes$Strings;", Cond.fieldLink RX6 10 "BallBoxes" "theRow" "LBallBoxes$Row;", Cond.methodLink RX6 97 yX5_readFrom, Cond.instanceMethod yX5_readFrom, Cond.selects RX5 yX5_readFrom yX5_readFrom, Cond.initialized RX5, Cond.code yX5_readFrom cX5_readFrom 4 none, Cond.fieldLink RX5 42 "BallBoxes$Strings" "boxesRead" "I", Cond.methodLink RX5 29 yX5_clear, Cond.instanceMethod yX5_clear, Cond.selects RX5 yX5_clear yX5_clear, Cond.code yX5_clear cX5_clear 2 none, Cond.fieldLink RX5 21 "BallBoxes$Strings" "size" "I", Cond.fieldLink RX5 18 "BallBoxes$Strings" "lesserSums" "[I", Cond.methodLink RX5 32 yX3_ballAt, Cond.instanceMethod yX3_ballAt, Cond.selects RX3 yX3_ballAt yX3_ballAt, Cond.initialized RX3, Cond.code yX3_ballAt cX3_ballAt 2 (some .int), Cond.fieldLink RX3 9 "BallBoxes$Row" "boxes" "[I", Cond.static yX6_isBox, Cond.initialized RX6, Cond.code yX6_isBox cX6_isBox 1 (some .boolean), Cond.methodLink RX5 38 yX5_takeBall]
def wsX6_strings_r2 : List Cond := [Cond.instanceMethod yX5_takeBall, Cond.selects RX5 yX5_takeBall yX5_takeBall, Cond.code yX5_takeBall cX5_takeBall 3 none, Cond.fieldLink RX5 9 "BallBoxes$Strings" "lengths" "[I", Cond.fieldLink RX5 15 "BallBoxes$Strings" "riggings" "[I", Cond.methodLink RX5 68 yX5_longestTight, Cond.instanceMethod yX5_longestTight, Cond.selects RX5 yX5_longestTight yX5_longestTight, Cond.code yX5_longestTight cX5_longestTight 4 (some .int), Cond.methodLink RX5 93 yX5_isTight, Cond.instanceMethod yX5_isTight, Cond.selects RX5 yX5_isTight yX5_isTight, Cond.code yX5_isTight cX5_isTight 3 (some .boolean), Cond.methodLink RX5 87 yX5_riggingOf, Cond.instanceMethod yX5_riggingOf, Cond.selects RX5 yX5_riggingOf yX5_riggingOf, Cond.code yX5_riggingOf cX5_riggingOf 2 (some .int), Cond.methodLink RX5 25 yX5_isString, Cond.instanceMethod yX5_isString, Cond.selects RX5 yX5_isString yX5_isString, Cond.code yX5_isString cX5_isString 2 (some .boolean), Cond.methodLink RX5 90 yX5_lengthOf, Cond.instanceMethod yX5_lengthOf, Cond.selects RX5 yX5_lengthOf yX5_lengthOf]
def wsX6_strings_r3 : List Cond := [Cond.code yX5_lengthOf cX5_lengthOf 2 (some .int), Cond.methodLink RX5 58 yX5_roomLeft, Cond.instanceMethod yX5_roomLeft, Cond.selects RX5 yX5_roomLeft yX5_roomLeft, Cond.code yX5_roomLeft cX5_roomLeft 3 (some .int), Cond.methodLink RX5 71 yX5_addString, Cond.instanceMethod yX5_addString, Cond.selects RX5 yX5_addString yX5_addString, Cond.code yX5_addString cX5_addString 1 (some .int), Cond.methodLink RX5 75 yX5_addToSums, Cond.instanceMethod yX5_addToSums, Cond.selects RX5 yX5_addToSums yX5_addToSums, Cond.code yX5_addToSums cX5_addToSums 4 none, Cond.methodLink RX5 84 Lib.Math.max.name, Cond.static Lib.Math.max.name, Cond.initialized "java/lang/Math", Cond.code Lib.Math.max.name Lib.Math.max.code 2 (some .int), Cond.methodLink RX6 101 yX5_sort, Cond.instanceMethod yX5_sort, Cond.selects RX5 yX5_sort yX5_sort, Cond.code yX5_sort cX5_sort 3 none, Cond.methodLink RX5 61 yX5_isBehind, Cond.instanceMethod yX5_isBehind, Cond.selects RX5 yX5_isBehind yX5_isBehind]
def wsX6_strings_r4 : List Cond := [Cond.code yX5_isBehind cX5_isBehind 3 (some .boolean), Cond.methodLink RX5 65 yX5_swap, Cond.instanceMethod yX5_swap, Cond.selects RX5 yX5_swap yX5_swap, Cond.code yX5_swap cX5_swap 5 none]
def wsX6_strings : List Cond := .code yX6_strings cX6_strings 2 (some .int) :: ((wsX6_strings_r1 ++ (wsX6_strings_r2 ++ (wsX6_strings_r3 ++ wsX6_strings_r4))) ++ wsX60 ++ wsX50 ++ wsX30)
def wsX6_string : List Cond := .code yX6_string cX6_string 3 (some .int) :: ([.fieldLink RX6 26 "BallBoxes" "latestStrings" "LBallBoxes$Strings;", .methodLink RX6 108 yX5_isString, .instanceMethod yX5_isString, .selects RX5 yX5_isString yX5_isString, .initialized RX5, .code yX5_isString cX5_isString 2 (some .boolean), .fieldLink RX5 21 "BallBoxes$Strings" "size" "I", .methodLink RX6 111 yX5_lengthOf, .instanceMethod yX5_lengthOf, .selects RX5 yX5_lengthOf yX5_lengthOf, .code yX5_lengthOf cX5_lengthOf 2 (some .int), .fieldLink RX5 9 "BallBoxes$Strings" "lengths" "[I", .methodLink RX5 25 yX5_isString, .methodLink RX6 114 yX5_riggingOf, .instanceMethod yX5_riggingOf, .selects RX5 yX5_riggingOf yX5_riggingOf, .code yX5_riggingOf cX5_riggingOf 2 (some .int), .fieldLink RX5 15 "BallBoxes$Strings" "riggings" "[I", .methodLink RX6 120 yX5_roomLeft, .instanceMethod yX5_roomLeft, .selects RX5 yX5_roomLeft yX5_roomLeft, .code yX5_roomLeft cX5_roomLeft 3 (some .int), .fieldLink RX5 18 "BallBoxes$Strings" "lesserSums" "[I"] ++ wsX60 ++ wsX50)
def wsX6_leap_r1 : List Cond := [Cond.fieldLink RX6 30 "BallBoxes" "leapStrings" "LBallBoxes$Strings;", Cond.fieldLink RX6 10 "BallBoxes" "theRow" "LBallBoxes$Row;", Cond.fieldLink RX6 134 "BallBoxes" "moves" "I", Cond.methodLink RX6 73 yX6_isRoom, Cond.static yX6_isRoom, Cond.initialized RX6, Cond.code yX6_isRoom cX6_isRoom 1 (some .boolean), Cond.methodLink RX6 97 yX5_readFrom, Cond.instanceMethod yX5_readFrom, Cond.selects RX5 yX5_readFrom yX5_readFrom, Cond.initialized RX5, Cond.code yX5_readFrom cX5_readFrom 4 none, Cond.fieldLink RX5 42 "BallBoxes$Strings" "boxesRead" "I", Cond.methodLink RX5 29 yX5_clear, Cond.instanceMethod yX5_clear, Cond.selects RX5 yX5_clear yX5_clear, Cond.code yX5_clear cX5_clear 2 none, Cond.fieldLink RX5 21 "BallBoxes$Strings" "size" "I", Cond.fieldLink RX5 18 "BallBoxes$Strings" "lesserSums" "[I", Cond.methodLink RX5 32 yX3_ballAt, Cond.instanceMethod yX3_ballAt, Cond.selects RX3 yX3_ballAt yX3_ballAt, Cond.initialized RX3, Cond.code yX3_ballAt cX3_ballAt 2 (some .int)]
def wsX6_leap_r2 : List Cond := [Cond.fieldLink RX3 9 "BallBoxes$Row" "boxes" "[I", Cond.static yX6_isBox, Cond.code yX6_isBox cX6_isBox 1 (some .boolean), Cond.methodLink RX5 38 yX5_takeBall, Cond.instanceMethod yX5_takeBall, Cond.selects RX5 yX5_takeBall yX5_takeBall, Cond.code yX5_takeBall cX5_takeBall 3 none, Cond.fieldLink RX5 9 "BallBoxes$Strings" "lengths" "[I", Cond.fieldLink RX5 15 "BallBoxes$Strings" "riggings" "[I", Cond.methodLink RX5 68 yX5_longestTight, Cond.instanceMethod yX5_longestTight, Cond.selects RX5 yX5_longestTight yX5_longestTight, Cond.code yX5_longestTight cX5_longestTight 4 (some .int), Cond.methodLink RX5 93 yX5_isTight, Cond.instanceMethod yX5_isTight, Cond.selects RX5 yX5_isTight yX5_isTight, Cond.code yX5_isTight cX5_isTight 3 (some .boolean), Cond.methodLink RX5 87 yX5_riggingOf, Cond.instanceMethod yX5_riggingOf, Cond.selects RX5 yX5_riggingOf yX5_riggingOf, Cond.code yX5_riggingOf cX5_riggingOf 2 (some .int), Cond.methodLink RX5 25 yX5_isString, Cond.instanceMethod yX5_isString, Cond.selects RX5 yX5_isString yX5_isString]
def wsX6_leap_r3 : List Cond := [Cond.code yX5_isString cX5_isString 2 (some .boolean), Cond.methodLink RX5 90 yX5_lengthOf, Cond.instanceMethod yX5_lengthOf, Cond.selects RX5 yX5_lengthOf yX5_lengthOf, Cond.code yX5_lengthOf cX5_lengthOf 2 (some .int), Cond.methodLink RX5 58 yX5_roomLeft, Cond.instanceMethod yX5_roomLeft, Cond.selects RX5 yX5_roomLeft yX5_roomLeft, Cond.code yX5_roomLeft cX5_roomLeft 3 (some .int), Cond.methodLink RX5 71 yX5_addString, Cond.instanceMethod yX5_addString, Cond.selects RX5 yX5_addString yX5_addString, Cond.code yX5_addString cX5_addString 1 (some .int), Cond.methodLink RX5 75 yX5_addToSums, Cond.instanceMethod yX5_addToSums, Cond.selects RX5 yX5_addToSums yX5_addToSums, Cond.code yX5_addToSums cX5_addToSums 4 none, Cond.methodLink RX5 84 Lib.Math.max.name, Cond.static Lib.Math.max.name, Cond.initialized "java/lang/Math", Cond.code Lib.Math.max.name Lib.Math.max.code 2 (some .int), Cond.methodLink RX6 124 yX5_addToRiggings, Cond.instanceMethod yX5_addToRiggings, Cond.selects RX5 yX5_addToRiggings yX5_addToRiggings]
def wsX6_leap_r4 : List Cond := [Cond.code yX5_addToRiggings cX5_addToRiggings 4 none, Cond.methodLink RX5 52 Lib.Math.min.name, Cond.static Lib.Math.min.name, Cond.code Lib.Math.min.name Lib.Math.min.code 2 (some .int), Cond.methodLink RX6 127 yX5_haveRoomBehind, Cond.instanceMethod yX5_haveRoomBehind, Cond.selects RX5 yX5_haveRoomBehind yX5_haveRoomBehind, Cond.code yX5_haveRoomBehind cX5_haveRoomBehind 3 (some .boolean), Cond.methodLink RX6 130 yX5_makeInto, Cond.instanceMethod yX5_makeInto, Cond.selects RX5 yX5_makeInto yX5_makeInto, Cond.code yX5_makeInto cX5_makeInto 3 (some .boolean), Cond.methodLink RX5 45 yX5_giveBall, Cond.instanceMethod yX5_giveBall, Cond.selects RX5 yX5_giveBall yX5_giveBall, Cond.code yX5_giveBall cX5_giveBall 3 (some .int), Cond.methodLink RX5 78 yX5_shortestTight, Cond.instanceMethod yX5_shortestTight, Cond.selects RX5 yX5_shortestTight yX5_shortestTight, Cond.code yX5_shortestTight cX5_shortestTight 4 (some .int), Cond.methodLink RX5 81 yX5_removeString, Cond.instanceMethod yX5_removeString, Cond.selects RX5 yX5_removeString yX5_removeString, Cond.code yX5_removeString cX5_removeString 2 none]
def wsX6_leap_r5 : List Cond := [Cond.methodLink RX5 65 yX5_swap, Cond.instanceMethod yX5_swap, Cond.selects RX5 yX5_swap yX5_swap, Cond.code yX5_swap cX5_swap 5 none, Cond.methodLink RX5 48 yX3_makeBox, Cond.instanceMethod yX3_makeBox, Cond.selects RX3 yX3_makeBox yX3_makeBox, Cond.code yX3_makeBox cX3_makeBox 3 none, Cond.fieldLink RX3 15 "BallBoxes$Row" "made" "[I", Cond.methodLink RX6 137 yX3_becomeMade, Cond.instanceMethod yX3_becomeMade, Cond.selects RX3 yX3_becomeMade yX3_becomeMade, Cond.code yX3_becomeMade cX3_becomeMade 3 (some .int)]
def wsX6_leap : List Cond := .code yX6_leap cX6_leap 3 (some .int) :: ((wsX6_leap_r1 ++ (wsX6_leap_r2 ++ (wsX6_leap_r3 ++ (wsX6_leap_r4 ++ wsX6_leap_r5)))) ++ wsX60 ++ wsX50 ++ wsX30)
def wsJ13_bitCount_95d88 : List Cond := .code yJ13_bitCount_95d88 cJ13_bitCount_95d88 2 (some .int) :: ([.constantLong RJ13 314 (6148914691236517205), .constantLong RJ13 316 (3689348814741910323), .constantLong RJ13 318 (1085102592571150095)])
def wsX6_isFewerThanHalf : List Cond := .code yX6_isFewerThanHalf cX6_isFewerThanHalf 2 (some .boolean) :: ([])
def wsX6_ring_r1 : List Cond := [Cond.fieldLink RX6 10 "BallBoxes" "theRow" "LBallBoxes$Row;", Cond.fieldLink RX6 36 "BallBoxes" "theRing" "LBallBoxes$Ring;", Cond.methodLink RX6 54 yX6_isBox, Cond.static yX6_isBox, Cond.initialized RX6, Cond.code yX6_isBox cX6_isBox 1 (some .boolean), Cond.methodLink RX6 140 yX3_bits, Cond.instanceMethod yX3_bits, Cond.selects RX3 yX3_bits yX3_bits, Cond.initialized RX3, Cond.code yX3_bits cX3_bits 6 (some .long), Cond.methodLink RX3 22 yX3_ballAt, Cond.instanceMethod yX3_ballAt, Cond.selects RX3 yX3_ballAt yX3_ballAt, Cond.code yX3_ballAt cX3_ballAt 2 (some .int), Cond.fieldLink RX3 9 "BallBoxes$Row" "boxes" "[I", Cond.methodLink RX6 144 yJ13_bitCount_95d88, Cond.static yJ13_bitCount_95d88, Cond.initialized RJ13, Cond.code yJ13_bitCount_95d88 cJ13_bitCount_95d88 2 (some .int), Cond.constantLong RJ13 314 (6148914691236517205), Cond.constantLong RJ13 316 (3689348814741910323), Cond.constantLong RJ13 318 (1085102592571150095), Cond.methodLink RX6 150 yX6_isFewerThanHalf]
def wsX6_ring_r2 : List Cond := [Cond.static yX6_isFewerThanHalf, Cond.code yX6_isFewerThanHalf cX6_isFewerThanHalf 2 (some .boolean), Cond.methodLink RX6 154 yX1_become, Cond.instanceMethod yX1_become, Cond.selects RX1 yX1_become yX1_become, Cond.initialized RX1, Cond.code yX1_become cX1_become 4 none, Cond.fieldLink RX1 7 "BallBoxes$Ring" "size" "I", Cond.fieldLink RX1 13 "BallBoxes$Ring" "bits" "J"]
def wsX6_ring : List Cond := .code yX6_ring cX6_ring 6 (some .int) :: ((wsX6_ring_r1 ++ wsX6_ring_r2) ++ wsX60 ++ wsX30 ++ wsX10)
def wsX6_ringAt : List Cond := .code yX6_ringAt cX6_ringAt 2 (some .int) :: ([.fieldLink RX6 36 "BallBoxes" "theRing" "LBallBoxes$Ring;", .methodLink RX6 158 yX1_isRingBox, .instanceMethod yX1_isRingBox, .selects RX1 yX1_isRingBox yX1_isRingBox, .initialized RX1, .code yX1_isRingBox cX1_isRingBox 2 (some .boolean), .fieldLink RX1 7 "BallBoxes$Ring" "size" "I", .methodLink RX6 161 yX1_ballAt, .instanceMethod yX1_ballAt, .selects RX1 yX1_ballAt yX1_ballAt, .code yX1_ballAt cX1_ballAt 2 (some .int), .fieldLink RX1 13 "BallBoxes$Ring" "bits" "J"] ++ wsX60 ++ wsX10)
def wsX6_turn : List Cond := .code yX6_turn cX6_turn 2 (some .int) :: ([.fieldLink RX6 36 "BallBoxes" "theRing" "LBallBoxes$Ring;", .methodLink RX6 73 yX6_isRoom, .static yX6_isRoom, .initialized RX6, .code yX6_isRoom cX6_isRoom 1 (some .boolean), .methodLink RX6 162 yX1_turnBy, .instanceMethod yX1_turnBy, .selects RX1 yX1_turnBy yX1_turnBy, .initialized RX1, .code yX1_turnBy cX1_turnBy 3 (some .int), .fieldLink RX1 21 "BallBoxes$Ring" "carrierHas" "I", .fieldLink RX1 24 "BallBoxes$Ring" "made" "J", .fieldLink RX1 13 "BallBoxes$Ring" "bits" "J", .methodLink RX1 17 yX1_goRound, .instanceMethod yX1_goRound, .selects RX1 yX1_goRound yX1_goRound, .code yX1_goRound cX1_goRound 9 none, .fieldLink RX1 7 "BallBoxes$Ring" "size" "I", .methodLink RX1 27 yX1_ballAt, .instanceMethod yX1_ballAt, .selects RX1 yX1_ballAt yX1_ballAt, .code yX1_ballAt cX1_ballAt 2 (some .int), .static yX6_loadBehind, .code yX6_loadBehind cX6_loadBehind 3 (some .int)] ++ wsX60 ++ wsX10)
def wsX6_period_r1 : List Cond := [Cond.fieldLink RX6 43 "BallBoxes" "trial" "LBallBoxes$RingTrial;", Cond.fieldLink RX6 36 "BallBoxes" "theRing" "LBallBoxes$Ring;", Cond.methodLink RX6 73 yX6_isRoom, Cond.static yX6_isRoom, Cond.initialized RX6, Cond.code yX6_isRoom cX6_isRoom 1 (some .boolean), Cond.methodLink RX6 165 yX2_periodOf, Cond.instanceMethod yX2_periodOf, Cond.selects RX2 yX2_periodOf yX2_periodOf, Cond.initialized RX2, Cond.code yX2_periodOf cX2_periodOf 4 (some .int), Cond.fieldLink RX2 12 "BallBoxes$RingTrial" "ring" "LBallBoxes$Ring;", Cond.methodLink RX2 30 yX1_become, Cond.instanceMethod yX1_become, Cond.selects RX1 yX1_become yX1_become, Cond.initialized RX1, Cond.code yX1_become cX1_become 4 none, Cond.fieldLink RX1 7 "BallBoxes$Ring" "size" "I", Cond.fieldLink RX1 13 "BallBoxes$Ring" "bits" "J", Cond.methodLink RX2 34 yX1_turnBy, Cond.instanceMethod yX1_turnBy, Cond.selects RX1 yX1_turnBy yX1_turnBy, Cond.code yX1_turnBy cX1_turnBy 3 (some .int), Cond.fieldLink RX1 21 "BallBoxes$Ring" "carrierHas" "I"]
def wsX6_period_r2 : List Cond := [Cond.fieldLink RX1 24 "BallBoxes$Ring" "made" "J", Cond.methodLink RX1 17 yX1_goRound, Cond.instanceMethod yX1_goRound, Cond.selects RX1 yX1_goRound yX1_goRound, Cond.code yX1_goRound cX1_goRound 9 none, Cond.methodLink RX1 27 yX1_ballAt, Cond.instanceMethod yX1_ballAt, Cond.selects RX1 yX1_ballAt yX1_ballAt, Cond.code yX1_ballAt cX1_ballAt 2 (some .int), Cond.static yX6_loadBehind, Cond.code yX6_loadBehind cX6_loadBehind 3 (some .int)]
def wsX6_period : List Cond := .code yX6_period cX6_period 2 (some .int) :: ((wsX6_period_r1 ++ wsX6_period_r2) ++ wsX60 ++ wsX20 ++ wsX10)
def wsX6_rings_r1 : List Cond := [Cond.fieldLink RX6 43 "BallBoxes" "trial" "LBallBoxes$RingTrial;", Cond.methodLink RX6 150 yX6_isFewerThanHalf, Cond.static yX6_isFewerThanHalf, Cond.initialized RX6, Cond.code yX6_isFewerThanHalf cX6_isFewerThanHalf 2 (some .boolean), Cond.methodLink RX6 73 yX6_isRoom, Cond.static yX6_isRoom, Cond.code yX6_isRoom cX6_isRoom 1 (some .boolean), Cond.methodLink RX6 169 yX2_countAll, Cond.instanceMethod yX2_countAll, Cond.selects RX2 yX2_countAll yX2_countAll, Cond.initialized RX2, Cond.code yX2_countAll cX2_countAll 5 (some .int), Cond.methodLink RX2 38 yJ6_bitCount_0f7a4, Cond.static yJ6_bitCount_0f7a4, Cond.initialized RJ6, Cond.code yJ6_bitCount_0f7a4 cJ6_bitCount_0f7a4 1 (some .int), Cond.constant RJ6 265 (1431655765), Cond.constant RJ6 266 (858993459), Cond.constant RJ6 267 (252645135), Cond.methodLink RX6 172 yX2_countWithPeriod, Cond.instanceMethod yX2_countWithPeriod, Cond.selects RX2 yX2_countWithPeriod yX2_countWithPeriod, Cond.code yX2_countWithPeriod cX2_countWithPeriod 8 (some .int)]
def wsX6_rings_r2 : List Cond := [Cond.methodLink RX2 43 yX2_forget, Cond.instanceMethod yX2_forget, Cond.selects RX2 yX2_forget yX2_forget, Cond.code yX2_forget cX2_forget 2 none, Cond.fieldLink RX2 18 "BallBoxes$RingTrial" "seen" "[J", Cond.methodLink RX2 46 yX2_isSeen, Cond.instanceMethod yX2_isSeen, Cond.selects RX2 yX2_isSeen yX2_isSeen, Cond.code yX2_isSeen cX2_isSeen 3 (some .boolean), Cond.methodLink RX2 50 yX2_goThrough, Cond.instanceMethod yX2_goThrough, Cond.selects RX2 yX2_goThrough yX2_goThrough, Cond.code yX2_goThrough cX2_goThrough 5 (some .int), Cond.fieldLink RX2 12 "BallBoxes$RingTrial" "ring" "LBallBoxes$Ring;", Cond.methodLink RX2 30 yX1_become, Cond.instanceMethod yX1_become, Cond.selects RX1 yX1_become yX1_become, Cond.initialized RX1, Cond.code yX1_become cX1_become 4 none, Cond.fieldLink RX1 7 "BallBoxes$Ring" "size" "I", Cond.fieldLink RX1 13 "BallBoxes$Ring" "bits" "J", Cond.methodLink RX2 34 yX1_turnBy, Cond.instanceMethod yX1_turnBy, Cond.selects RX1 yX1_turnBy yX1_turnBy]
def wsX6_rings_r3 : List Cond := [Cond.code yX1_turnBy cX1_turnBy 3 (some .int), Cond.fieldLink RX1 21 "BallBoxes$Ring" "carrierHas" "I", Cond.fieldLink RX1 24 "BallBoxes$Ring" "made" "J", Cond.methodLink RX1 17 yX1_goRound, Cond.instanceMethod yX1_goRound, Cond.selects RX1 yX1_goRound yX1_goRound, Cond.code yX1_goRound cX1_goRound 9 none, Cond.methodLink RX1 27 yX1_ballAt, Cond.instanceMethod yX1_ballAt, Cond.selects RX1 yX1_ballAt yX1_ballAt, Cond.code yX1_ballAt cX1_ballAt 2 (some .int), Cond.static yX6_loadBehind, Cond.code yX6_loadBehind cX6_loadBehind 3 (some .int), Cond.methodLink RX2 54 yX2_see, Cond.instanceMethod yX2_see, Cond.selects RX2 yX2_see yX2_see, Cond.code yX2_see cX2_see 3 none]
def wsX6_rings : List Cond := .code yX6_rings cX6_rings 5 (some .int) :: ((wsX6_rings_r1 ++ (wsX6_rings_r2 ++ wsX6_rings_r3)) ++ wsX60 ++ wsX20 ++ wsX10)
def wsX6_sheetOf : List Cond := .code yX6_sheetOf cX6_sheetOf 2 (some (.object "BallBoxes$Sheet")) :: ([.fieldLink RX6 49 "BallBoxes" "sheets" "[LBallBoxes$Sheet;"] ++ wsX60)
def wsX6_isForm : List Cond := .code yX6_isForm cX6_isForm 1 (some .boolean) :: ([])
def wsX6_find : List Cond := .code yX6_find cX6_find 2 (some .int) :: ([.fieldLink RX6 227 "BallBoxes" "latestFinding" "I"] ++ wsX60)
def wsX6_sheet : List Cond := .code yX6_sheet cX6_sheet 5 (some .int) :: ([.methodLink RX6 176 yX6_sheetOf, .instanceMethod yX6_sheetOf, .selects RX6 yX6_sheetOf yX6_sheetOf, .initialized RX6, .code yX6_sheetOf cX6_sheetOf 2 (some (.object "BallBoxes$Sheet")), .fieldLink RX6 49 "BallBoxes" "sheets" "[LBallBoxes$Sheet;", .methodLink RX6 180 yX6_isForm, .static yX6_isForm, .code yX6_isForm cX6_isForm 1 (some .boolean), .methodLink RX6 183 yX6_find, .instanceMethod yX6_find, .selects RX6 yX6_find yX6_find, .code yX6_find cX6_find 2 (some .int), .fieldLink RX6 227 "BallBoxes" "latestFinding" "I", .methodLink RX6 186 yX4_begin, .instanceMethod yX4_begin, .selects RX4 yX4_begin yX4_begin, .initialized RX4, .code yX4_begin cX4_begin 4 none, .fieldLink RX4 15 "BallBoxes$Sheet" "lost" "Z", .fieldLink RX4 19 "BallBoxes$Sheet" "form" "I", .fieldLink RX4 23 "BallBoxes$Sheet" "size" "I", .fieldLink RX4 9 "BallBoxes$Sheet" "items" "[I"] ++ wsX60 ++ wsX40)
def wsX6_lose : List Cond := .code yX6_lose cX6_lose 3 (some .int) :: ([.methodLink RX6 176 yX6_sheetOf, .instanceMethod yX6_sheetOf, .selects RX6 yX6_sheetOf yX6_sheetOf, .initialized RX6, .code yX6_sheetOf cX6_sheetOf 2 (some (.object "BallBoxes$Sheet")), .fieldLink RX6 49 "BallBoxes" "sheets" "[LBallBoxes$Sheet;", .methodLink RX6 183 yX6_find, .instanceMethod yX6_find, .selects RX6 yX6_find yX6_find, .code yX6_find cX6_find 2 (some .int), .fieldLink RX6 227 "BallBoxes" "latestFinding" "I"] ++ wsX40 ++ wsX60)
def wsX6_put_r1 : List Cond := [Cond.methodLink RX6 176 yX6_sheetOf, Cond.instanceMethod yX6_sheetOf, Cond.selects RX6 yX6_sheetOf yX6_sheetOf, Cond.initialized RX6, Cond.code yX6_sheetOf cX6_sheetOf 2 (some (.object "BallBoxes$Sheet")), Cond.fieldLink RX6 49 "BallBoxes" "sheets" "[LBallBoxes$Sheet;", Cond.methodLink RX6 180 yX6_isForm, Cond.static yX6_isForm, Cond.code yX6_isForm cX6_isForm 1 (some .boolean), Cond.methodLink RX6 194 yX4_findingAt, Cond.instanceMethod yX4_findingAt, Cond.selects RX4 yX4_findingAt yX4_findingAt, Cond.initialized RX4, Cond.code yX4_findingAt cX4_findingAt 3 (some .int), Cond.fieldLink RX4 15 "BallBoxes$Sheet" "lost" "Z", Cond.fieldLink RX4 19 "BallBoxes$Sheet" "form" "I", Cond.methodLink RX4 26 yX4_isItem, Cond.instanceMethod yX4_isItem, Cond.selects RX4 yX4_isItem yX4_isItem, Cond.code yX4_isItem cX4_isItem 2 (some .boolean), Cond.fieldLink RX4 23 "BallBoxes$Sheet" "size" "I", Cond.methodLink RX6 183 yX6_find, Cond.instanceMethod yX6_find, Cond.selects RX6 yX6_find yX6_find]
def wsX6_put_r2 : List Cond := [Cond.code yX6_find cX6_find 2 (some .int), Cond.fieldLink RX6 227 "BallBoxes" "latestFinding" "I", Cond.methodLink RX6 197 yX4_place, Cond.instanceMethod yX4_place, Cond.selects RX4 yX4_place yX4_place, Cond.code yX4_place cX4_place 3 none, Cond.fieldLink RX4 9 "BallBoxes$Sheet" "items" "[I", Cond.methodLink RX4 30 yX4_cut, Cond.instanceMethod yX4_cut, Cond.selects RX4 yX4_cut yX4_cut, Cond.code yX4_cut cX4_cut 2 (some .int)]
def wsX6_put : List Cond := .code yX6_put cX6_put 7 (some .int) :: ((wsX6_put_r1 ++ wsX6_put_r2) ++ wsX60 ++ wsX40)
def wsX6_get_r1 : List Cond := [Cond.constant RX6 198 (-2147483648), Cond.methodLink RX6 176 yX6_sheetOf, Cond.instanceMethod yX6_sheetOf, Cond.selects RX6 yX6_sheetOf yX6_sheetOf, Cond.initialized RX6, Cond.code yX6_sheetOf cX6_sheetOf 2 (some (.object "BallBoxes$Sheet")), Cond.fieldLink RX6 49 "BallBoxes" "sheets" "[LBallBoxes$Sheet;", Cond.methodLink RX6 180 yX6_isForm, Cond.static yX6_isForm, Cond.code yX6_isForm cX6_isForm 1 (some .boolean), Cond.methodLink RX6 194 yX4_findingAt, Cond.instanceMethod yX4_findingAt, Cond.selects RX4 yX4_findingAt yX4_findingAt, Cond.initialized RX4, Cond.code yX4_findingAt cX4_findingAt 3 (some .int), Cond.fieldLink RX4 15 "BallBoxes$Sheet" "lost" "Z", Cond.fieldLink RX4 19 "BallBoxes$Sheet" "form" "I", Cond.methodLink RX4 26 yX4_isItem, Cond.instanceMethod yX4_isItem, Cond.selects RX4 yX4_isItem yX4_isItem, Cond.code yX4_isItem cX4_isItem 2 (some .boolean), Cond.fieldLink RX4 23 "BallBoxes$Sheet" "size" "I", Cond.methodLink RX6 183 yX6_find, Cond.instanceMethod yX6_find]
def wsX6_get_r2 : List Cond := [Cond.selects RX6 yX6_find yX6_find, Cond.code yX6_find cX6_find 2 (some .int), Cond.fieldLink RX6 227 "BallBoxes" "latestFinding" "I", Cond.methodLink RX6 199 yX4_itemAt, Cond.instanceMethod yX4_itemAt, Cond.selects RX4 yX4_itemAt yX4_itemAt, Cond.code yX4_itemAt cX4_itemAt 2 (some .int), Cond.fieldLink RX4 9 "BallBoxes$Sheet" "items" "[I"]
def wsX6_get : List Cond := .code yX6_get cX6_get 6 (some .int) :: ((wsX6_get_r1 ++ wsX6_get_r2) ++ wsX60 ++ wsX40)
def wsX6_copy : List Cond := .code yX6_copy cX6_copy 8 (some .int) :: ([.methodLink RX6 212 arraycopyName, .native arraycopyName, .static arraycopyName, .initialized "java/lang/System", .methodLink RX6 176 yX6_sheetOf, .instanceMethod yX6_sheetOf, .selects RX6 yX6_sheetOf yX6_sheetOf, .initialized RX6, .code yX6_sheetOf cX6_sheetOf 2 (some (.object "BallBoxes$Sheet")), .fieldLink RX6 49 "BallBoxes" "sheets" "[LBallBoxes$Sheet;", .methodLink RX6 183 yX6_find, .instanceMethod yX6_find, .selects RX6 yX6_find yX6_find, .code yX6_find cX6_find 2 (some .int), .fieldLink RX6 227 "BallBoxes" "latestFinding" "I", .methodLink RX6 205 yX4_hasItems, .instanceMethod yX4_hasItems, .selects RX4 yX4_hasItems yX4_hasItems, .initialized RX4, .code yX4_hasItems cX4_hasItems 3 (some .boolean), .fieldLink RX4 23 "BallBoxes$Sheet" "size" "I"] ++ wsX40 ++ wsX60)
def wsX6_load_r1 : List Cond := [Cond.fieldLink RX6 10 "BallBoxes" "theRow" "LBallBoxes$Row;", Cond.methodLink RX6 176 yX6_sheetOf, Cond.instanceMethod yX6_sheetOf, Cond.selects RX6 yX6_sheetOf yX6_sheetOf, Cond.initialized RX6, Cond.code yX6_sheetOf cX6_sheetOf 2 (some (.object "BallBoxes$Sheet")), Cond.fieldLink RX6 49 "BallBoxes" "sheets" "[LBallBoxes$Sheet;", Cond.methodLink RX6 54 yX6_isBox, Cond.static yX6_isBox, Cond.code yX6_isBox cX6_isBox 1 (some .boolean), Cond.methodLink RX6 183 yX6_find, Cond.instanceMethod yX6_find, Cond.selects RX6 yX6_find yX6_find, Cond.code yX6_find cX6_find 2 (some .int), Cond.fieldLink RX6 227 "BallBoxes" "latestFinding" "I", Cond.methodLink RX6 199 yX4_itemAt, Cond.instanceMethod yX4_itemAt, Cond.selects RX4 yX4_itemAt yX4_itemAt, Cond.initialized RX4, Cond.code yX4_itemAt cX4_itemAt 2 (some .int), Cond.fieldLink RX4 9 "BallBoxes$Sheet" "items" "[I", Cond.methodLink RX4 26 yX4_isItem, Cond.instanceMethod yX4_isItem, Cond.selects RX4 yX4_isItem yX4_isItem]
def wsX6_load_r2 : List Cond := [Cond.code yX4_isItem cX4_isItem 2 (some .boolean), Cond.fieldLink RX4 23 "BallBoxes$Sheet" "size" "I", Cond.methodLink RX6 62 yX3_place, Cond.instanceMethod yX3_place, Cond.selects RX3 yX3_place yX3_place, Cond.initialized RX3, Cond.code yX3_place cX3_place 3 none, Cond.fieldLink RX3 9 "BallBoxes$Row" "boxes" "[I"]
def wsX6_load : List Cond := .code yX6_load cX6_load 5 (some .int) :: ((wsX6_load_r1 ++ wsX6_load_r2) ++ wsX40 ++ wsX60 ++ wsX30)
def wsX6_write_r1 : List Cond := [Cond.methodLink RX6 218 Lib.Math.min.name, Cond.static Lib.Math.min.name, Cond.initialized "java/lang/Math", Cond.code Lib.Math.min.name Lib.Math.min.code 2 (some .int), Cond.fieldLink RX6 10 "BallBoxes" "theRow" "LBallBoxes$Row;", Cond.methodLink RX6 176 yX6_sheetOf, Cond.instanceMethod yX6_sheetOf, Cond.selects RX6 yX6_sheetOf yX6_sheetOf, Cond.initialized RX6, Cond.code yX6_sheetOf cX6_sheetOf 2 (some (.object "BallBoxes$Sheet")), Cond.fieldLink RX6 49 "BallBoxes" "sheets" "[LBallBoxes$Sheet;", Cond.methodLink RX6 54 yX6_isBox, Cond.static yX6_isBox, Cond.code yX6_isBox cX6_isBox 1 (some .boolean), Cond.methodLink RX6 183 yX6_find, Cond.instanceMethod yX6_find, Cond.selects RX6 yX6_find yX6_find, Cond.code yX6_find cX6_find 2 (some .int), Cond.fieldLink RX6 227 "BallBoxes" "latestFinding" "I", Cond.methodLink RX6 58 yX3_ballAt, Cond.instanceMethod yX3_ballAt, Cond.selects RX3 yX3_ballAt yX3_ballAt, Cond.initialized RX3, Cond.code yX3_ballAt cX3_ballAt 2 (some .int)]
def wsX6_write_r2 : List Cond := [Cond.fieldLink RX3 9 "BallBoxes$Row" "boxes" "[I", Cond.methodLink RX6 197 yX4_place, Cond.instanceMethod yX4_place, Cond.selects RX4 yX4_place yX4_place, Cond.initialized RX4, Cond.code yX4_place cX4_place 3 none, Cond.fieldLink RX4 9 "BallBoxes$Sheet" "items" "[I", Cond.methodLink RX4 26 yX4_isItem, Cond.instanceMethod yX4_isItem, Cond.selects RX4 yX4_isItem yX4_isItem, Cond.code yX4_isItem cX4_isItem 2 (some .boolean), Cond.fieldLink RX4 23 "BallBoxes$Sheet" "size" "I", Cond.methodLink RX4 30 yX4_cut, Cond.instanceMethod yX4_cut, Cond.selects RX4 yX4_cut yX4_cut, Cond.code yX4_cut cX4_cut 2 (some .int), Cond.fieldLink RX4 19 "BallBoxes$Sheet" "form" "I"]
def wsX6_write : List Cond := .code yX6_write cX6_write 6 (some .int) :: ((wsX6_write_r1 ++ wsX6_write_r2) ++ wsX40 ++ wsX60 ++ wsX30)
def wsX6_count : List Cond := .code yX6_count cX6_count 2 (some .int) :: ([.fieldLink RX6 10 "BallBoxes" "theRow" "LBallBoxes$Row;", .fieldLink RX6 36 "BallBoxes" "theRing" "LBallBoxes$Ring;", .fieldLink RX6 26 "BallBoxes" "latestStrings" "LBallBoxes$Strings;", .fieldLink RX6 134 "BallBoxes" "moves" "I", .fieldLink RX6 227 "BallBoxes" "latestFinding" "I", .methodLink RX6 66 yX3_balls, .instanceMethod yX3_balls, .selects RX3 yX3_balls yX3_balls, .initialized RX3, .code yX3_balls cX3_balls 3 (some .int), .fieldLink RX3 9 "BallBoxes$Row" "boxes" "[I", .methodLink RX6 144 yJ13_bitCount_95d88, .static yJ13_bitCount_95d88, .initialized RJ13, .code yJ13_bitCount_95d88 cJ13_bitCount_95d88 2 (some .int), .constantLong RJ13 314 (6148914691236517205), .constantLong RJ13 316 (3689348814741910323), .constantLong RJ13 318 (1085102592571150095)] ++ wsX60 ++ wsX10 ++ wsX50 ++ wsX30)
def wsX6_digest_r1 : List Cond := [Cond.constantLong RX6 230 (17), Cond.constantLong RX6 232 (31), Cond.fieldLink RX6 10 "BallBoxes" "theRow" "LBallBoxes$Row;", Cond.fieldLink RX6 36 "BallBoxes" "theRing" "LBallBoxes$Ring;", Cond.methodLink RX6 234 yX6_count, Cond.instanceMethod yX6_count, Cond.selects RX6 yX6_count yX6_count, Cond.initialized RX6, Cond.code yX6_count cX6_count 2 (some .int), Cond.fieldLink RX6 26 "BallBoxes" "latestStrings" "LBallBoxes$Strings;", Cond.fieldLink RX6 134 "BallBoxes" "moves" "I", Cond.fieldLink RX6 227 "BallBoxes" "latestFinding" "I", Cond.methodLink RX6 66 yX3_balls, Cond.instanceMethod yX3_balls, Cond.selects RX3 yX3_balls yX3_balls, Cond.initialized RX3, Cond.code yX3_balls cX3_balls 3 (some .int), Cond.fieldLink RX3 9 "BallBoxes$Row" "boxes" "[I", Cond.methodLink RX6 144 yJ13_bitCount_95d88, Cond.static yJ13_bitCount_95d88, Cond.initialized RJ13, Cond.code yJ13_bitCount_95d88 cJ13_bitCount_95d88 2 (some .int), Cond.constantLong RJ13 314 (6148914691236517205), Cond.constantLong RJ13 316 (3689348814741910323)]
def wsX6_digest_r2 : List Cond := [Cond.constantLong RJ13 318 (1085102592571150095), Cond.methodLink RX6 58 yX3_ballAt, Cond.instanceMethod yX3_ballAt, Cond.selects RX3 yX3_ballAt yX3_ballAt, Cond.code yX3_ballAt cX3_ballAt 2 (some .int), Cond.static yX6_isBox, Cond.code yX6_isBox cX6_isBox 1 (some .boolean), Cond.methodLink RX6 161 yX1_ballAt, Cond.instanceMethod yX1_ballAt, Cond.selects RX1 yX1_ballAt yX1_ballAt, Cond.initialized RX1, Cond.code yX1_ballAt cX1_ballAt 2 (some .int), Cond.fieldLink RX1 13 "BallBoxes$Ring" "bits" "J"]
def wsX6_digest : List Cond := .code yX6_digest cX6_digest 4 (some .long) :: ((wsX6_digest_r1 ++ wsX6_digest_r2) ++ wsX60 ++ wsX10 ++ wsX50 ++ wsX30)
def wsX7_init : List Cond := .code yX7_init cX7_init 1 none :: ([.methodLink RX7 1 objectInit, .instanceMethod objectInit, .code objectInit ⟨#[0xb1]⟩ 1 none, .arrayClass .boolean, .fieldLink RX7 7 "BallBoxesModel" "boxes" "[Z", .fieldLink RX7 13 "BallBoxesModel" "next" "[Z", .fieldLink RX7 16 "BallBoxesModel" "left" "[Z", .arrayClass .int, .fieldLink RX7 19 "BallBoxesModel" "pairs" "[I", .fieldLink RX7 23 "BallBoxesModel" "lengths" "[I", .fieldLink RX7 26 "BallBoxesModel" "riggings" "[I", .fieldLink RX7 29 "BallBoxesModel" "toldLength" "[I", .fieldLink RX7 32 "BallBoxesModel" "toldRigging" "[I", .fieldLink RX7 35 "BallBoxesModel" "toldRoom" "[I", .fieldLink RX7 38 "BallBoxesModel" "ringN" "I", .fieldLink RX7 42 "BallBoxesModel" "ring" "[Z", .fieldLink RX7 45 "BallBoxesModel" "was" "[Z", .fieldLink RX7 48 "BallBoxesModel" "saved" "[Z", .fieldLink RX7 51 "BallBoxesModel" "isThere" "[Z", .fieldLink RX7 54 "BallBoxesModel" "forms" "[I", .fieldLink RX7 57 "BallBoxesModel" "sizes" "[I", .fieldLink RX7 60 "BallBoxesModel" "items" "[I", .fieldLink RX7 63 "BallBoxesModel" "moved" "[I"] ++ wsX70)
def wsX7_in : List Cond := .code yX7_in cX7_in 3 (some .boolean) :: ([])
def wsX7_set : List Cond := .code yX7_set cX7_set 4 (some .int) :: ([.fieldLink RX7 7 "BallBoxesModel" "boxes" "[Z", .methodLink RX7 66 yX7_in, .static yX7_in, .initialized RX7, .code yX7_in cX7_in 3 (some .boolean)] ++ wsX70)
def wsX7_at : List Cond := .code yX7_at cX7_at 2 (some .int) :: ([.fieldLink RX7 7 "BallBoxesModel" "boxes" "[Z", .methodLink RX7 66 yX7_in, .static yX7_in, .initialized RX7, .code yX7_in cX7_in 3 (some .boolean)] ++ wsX70)
def wsX7_balls : List Cond := .code yX7_balls cX7_balls 3 (some .int) :: ([.fieldLink RX7 7 "BallBoxesModel" "boxes" "[Z"] ++ wsX70)
def wsX7_empty : List Cond := .code yX7_empty cX7_empty 3 (some .int) :: ([.fieldLink RX7 7 "BallBoxesModel" "boxes" "[Z", .methodLink RX7 70 yX7_balls, .instanceMethod yX7_balls, .selects RX7 yX7_balls yX7_balls, .initialized RX7, .code yX7_balls cX7_balls 3 (some .int)] ++ wsX70)
def wsX7_takes : List Cond := .code yX7_takes cX7_takes 3 (some .int) :: ([.fieldLink RX7 7 "BallBoxesModel" "boxes" "[Z", .fieldLink RX7 13 "BallBoxesModel" "next" "[Z", .fieldLink RX7 74 "BallBoxesModel" "done" "I"] ++ wsX70)
def wsX7_goes : List Cond := .code yX7_goes cX7_goes 6 (some .int) :: ([.fieldLink RX7 13 "BallBoxesModel" "next" "[Z", .fieldLink RX7 7 "BallBoxesModel" "boxes" "[Z", .methodLink RX7 66 yX7_in, .static yX7_in, .initialized RX7, .code yX7_in cX7_in 3 (some .boolean), .methodLink RX7 77 yX7_takes, .instanceMethod yX7_takes, .selects RX7 yX7_takes yX7_takes, .code yX7_takes cX7_takes 3 (some .int), .fieldLink RX7 74 "BallBoxesModel" "done" "I"] ++ wsX70)
def wsX7_step : List Cond := .code yX7_step cX7_step 2 (some .int) :: ([.methodLink RX7 80 yX7_goes, .instanceMethod yX7_goes, .selects RX7 yX7_goes yX7_goes, .initialized RX7, .code yX7_goes cX7_goes 6 (some .int), .fieldLink RX7 13 "BallBoxesModel" "next" "[Z", .fieldLink RX7 7 "BallBoxesModel" "boxes" "[Z", .methodLink RX7 66 yX7_in, .static yX7_in, .code yX7_in cX7_in 3 (some .boolean), .methodLink RX7 77 yX7_takes, .instanceMethod yX7_takes, .selects RX7 yX7_takes yX7_takes, .code yX7_takes cX7_takes 3 (some .int), .fieldLink RX7 74 "BallBoxesModel" "done" "I"] ++ wsX70)
def wsX7_back : List Cond := .code yX7_back cX7_back 2 (some .int) :: ([.methodLink RX7 80 yX7_goes, .instanceMethod yX7_goes, .selects RX7 yX7_goes yX7_goes, .initialized RX7, .code yX7_goes cX7_goes 6 (some .int), .fieldLink RX7 13 "BallBoxesModel" "next" "[Z", .fieldLink RX7 7 "BallBoxesModel" "boxes" "[Z", .methodLink RX7 66 yX7_in, .static yX7_in, .code yX7_in cX7_in 3 (some .boolean), .methodLink RX7 77 yX7_takes, .instanceMethod yX7_takes, .selects RX7 yX7_takes yX7_takes, .code yX7_takes cX7_takes 3 (some .int), .fieldLink RX7 74 "BallBoxesModel" "done" "I"] ++ wsX70)
def wsX7_kept : List Cond := .code yX7_kept cX7_kept 5 (some .int) :: ([.fieldLink RX7 7 "BallBoxesModel" "boxes" "[Z", .methodLink RX7 66 yX7_in, .static yX7_in, .initialized RX7, .code yX7_in cX7_in 3 (some .boolean)] ++ wsX70)
def wsX7_pairRounds : List Cond := .code yX7_pairRounds cX7_pairRounds 6 (some .int) :: ([.fieldLink RX7 16 "BallBoxesModel" "left" "[Z", .fieldLink RX7 7 "BallBoxesModel" "boxes" "[Z", .fieldLink RX7 19 "BallBoxesModel" "pairs" "[I", .methodLink RX7 70 yX7_balls, .instanceMethod yX7_balls, .selects RX7 yX7_balls yX7_balls, .initialized RX7, .code yX7_balls cX7_balls 3 (some .int)] ++ wsX70)
def wsX7_row : List Cond := .code yX7_row cX7_row 5 (some .int) :: ([.fieldLink RX7 7 "BallBoxesModel" "boxes" "[Z", .fieldLink RX7 19 "BallBoxesModel" "pairs" "[I", .methodLink RX7 70 yX7_balls, .instanceMethod yX7_balls, .selects RX7 yX7_balls yX7_balls, .initialized RX7, .code yX7_balls cX7_balls 3 (some .int), .methodLink RX7 84 yX7_pairRounds, .instanceMethod yX7_pairRounds, .selects RX7 yX7_pairRounds yX7_pairRounds, .code yX7_pairRounds cX7_pairRounds 6 (some .int), .fieldLink RX7 16 "BallBoxesModel" "left" "[Z"] ++ wsX70)
def wsX7_heap : List Cond := .code yX7_heap cX7_heap 5 (some .int) :: ([.fieldLink RX7 19 "BallBoxesModel" "pairs" "[I", .methodLink RX7 84 yX7_pairRounds, .instanceMethod yX7_pairRounds, .selects RX7 yX7_pairRounds yX7_pairRounds, .initialized RX7, .code yX7_pairRounds cX7_pairRounds 6 (some .int), .fieldLink RX7 16 "BallBoxesModel" "left" "[Z", .fieldLink RX7 7 "BallBoxesModel" "boxes" "[Z", .methodLink RX7 70 yX7_balls, .instanceMethod yX7_balls, .selects RX7 yX7_balls yX7_balls, .code yX7_balls cX7_balls 3 (some .int), .methodLink RX7 66 yX7_in, .static yX7_in, .code yX7_in cX7_in 3 (some .boolean)] ++ wsX70)
def wsX7_room : List Cond := .code yX7_room cX7_room 5 (some .int) :: ([.fieldLink RX7 87 "BallBoxesModel" "many" "I", .fieldLink RX7 23 "BallBoxesModel" "lengths" "[I"] ++ wsX70)
def wsX7_tight : List Cond := .code yX7_tight cX7_tight 6 (some .int) :: ([.fieldLink RX7 87 "BallBoxesModel" "many" "I", .fieldLink RX7 26 "BallBoxesModel" "riggings" "[I", .fieldLink RX7 23 "BallBoxesModel" "lengths" "[I", .methodLink RX7 90 yX7_room, .instanceMethod yX7_room, .selects RX7 yX7_room yX7_room, .initialized RX7, .code yX7_room cX7_room 5 (some .int)] ++ wsX70)
def wsX7_reads : List Cond := .code yX7_reads cX7_reads 4 none :: ([.fieldLink RX7 87 "BallBoxesModel" "many" "I", .fieldLink RX7 7 "BallBoxesModel" "boxes" "[Z", .fieldLink RX7 23 "BallBoxesModel" "lengths" "[I", .fieldLink RX7 26 "BallBoxesModel" "riggings" "[I", .methodLink RX7 94 yX7_tight, .instanceMethod yX7_tight, .selects RX7 yX7_tight yX7_tight, .initialized RX7, .code yX7_tight cX7_tight 6 (some .int), .methodLink RX7 90 yX7_room, .instanceMethod yX7_room, .selects RX7 yX7_room yX7_room, .code yX7_room cX7_room 5 (some .int)] ++ wsX70)
def wsX7_drops : List Cond := .code yX7_drops cX7_drops 2 none :: ([.fieldLink RX7 87 "BallBoxesModel" "many" "I", .fieldLink RX7 23 "BallBoxesModel" "lengths" "[I", .fieldLink RX7 26 "BallBoxesModel" "riggings" "[I"] ++ wsX70)
def wsX7_makes : List Cond := .code yX7_makes cX7_makes 3 (some .boolean) :: ([.fieldLink RX7 13 "BallBoxesModel" "next" "[Z", .fieldLink RX7 23 "BallBoxesModel" "lengths" "[I", .fieldLink RX7 26 "BallBoxesModel" "riggings" "[I", .fieldLink RX7 87 "BallBoxesModel" "many" "I", .methodLink RX7 94 yX7_tight, .instanceMethod yX7_tight, .selects RX7 yX7_tight yX7_tight, .initialized RX7, .code yX7_tight cX7_tight 6 (some .int), .methodLink RX7 90 yX7_room, .instanceMethod yX7_room, .selects RX7 yX7_room yX7_room, .code yX7_room cX7_room 5 (some .int), .methodLink RX7 97 yX7_drops, .instanceMethod yX7_drops, .selects RX7 yX7_drops yX7_drops, .code yX7_drops cX7_drops 2 none] ++ wsX70)
def wsX7_strings : List Cond := .code yX7_strings cX7_strings 4 (some .int) :: ([.fieldLink RX7 87 "BallBoxesModel" "many" "I", .fieldLink RX7 104 "BallBoxesModel" "told" "I", .fieldLink RX7 29 "BallBoxesModel" "toldLength" "[I", .fieldLink RX7 23 "BallBoxesModel" "lengths" "[I", .fieldLink RX7 32 "BallBoxesModel" "toldRigging" "[I", .fieldLink RX7 26 "BallBoxesModel" "riggings" "[I", .fieldLink RX7 35 "BallBoxesModel" "toldRoom" "[I", .methodLink RX7 66 yX7_in, .static yX7_in, .initialized RX7, .code yX7_in cX7_in 3 (some .boolean), .methodLink RX7 101 yX7_reads, .instanceMethod yX7_reads, .selects RX7 yX7_reads yX7_reads, .code yX7_reads cX7_reads 4 none, .fieldLink RX7 7 "BallBoxesModel" "boxes" "[Z", .methodLink RX7 94 yX7_tight, .instanceMethod yX7_tight, .selects RX7 yX7_tight yX7_tight, .code yX7_tight cX7_tight 6 (some .int), .methodLink RX7 90 yX7_room, .instanceMethod yX7_room, .selects RX7 yX7_room yX7_room, .code yX7_room cX7_room 5 (some .int)] ++ wsX70)
def wsX7_string : List Cond := .code yX7_string cX7_string 3 (some .int) :: ([.fieldLink RX7 104 "BallBoxesModel" "told" "I", .fieldLink RX7 29 "BallBoxesModel" "toldLength" "[I", .fieldLink RX7 32 "BallBoxesModel" "toldRigging" "[I", .fieldLink RX7 35 "BallBoxesModel" "toldRoom" "[I", .methodLink RX7 66 yX7_in, .static yX7_in, .initialized RX7, .code yX7_in cX7_in 3 (some .boolean)] ++ wsX70)
def wsX7_leap_r1 : List Cond := [Cond.fieldLink RX7 87 "BallBoxesModel" "many" "I", Cond.fieldLink RX7 26 "BallBoxesModel" "riggings" "[I", Cond.fieldLink RX7 23 "BallBoxesModel" "lengths" "[I", Cond.methodLink RX7 66 yX7_in, Cond.static yX7_in, Cond.initialized RX7, Cond.code yX7_in cX7_in 3 (some .boolean), Cond.methodLink RX7 101 yX7_reads, Cond.instanceMethod yX7_reads, Cond.selects RX7 yX7_reads yX7_reads, Cond.code yX7_reads cX7_reads 4 none, Cond.fieldLink RX7 7 "BallBoxesModel" "boxes" "[Z", Cond.methodLink RX7 94 yX7_tight, Cond.instanceMethod yX7_tight, Cond.selects RX7 yX7_tight yX7_tight, Cond.code yX7_tight cX7_tight 6 (some .int), Cond.methodLink RX7 90 yX7_room, Cond.instanceMethod yX7_room, Cond.selects RX7 yX7_room yX7_room, Cond.code yX7_room cX7_room 5 (some .int), Cond.methodLink RX7 107 yX7_makes, Cond.instanceMethod yX7_makes, Cond.selects RX7 yX7_makes yX7_makes, Cond.code yX7_makes cX7_makes 3 (some .boolean)]
def wsX7_leap_r2 : List Cond := [Cond.fieldLink RX7 13 "BallBoxesModel" "next" "[Z", Cond.methodLink RX7 97 yX7_drops, Cond.instanceMethod yX7_drops, Cond.selects RX7 yX7_drops yX7_drops, Cond.code yX7_drops cX7_drops 2 none, Cond.methodLink RX7 77 yX7_takes, Cond.instanceMethod yX7_takes, Cond.selects RX7 yX7_takes yX7_takes, Cond.code yX7_takes cX7_takes 3 (some .int), Cond.fieldLink RX7 74 "BallBoxesModel" "done" "I"]
def wsX7_leap : List Cond := .code yX7_leap cX7_leap 5 (some .int) :: ((wsX7_leap_r1 ++ wsX7_leap_r2) ++ wsX70)
def wsX7_ringBalls : List Cond := .code yX7_ringBalls cX7_ringBalls 3 (some .int) :: ([.fieldLink RX7 38 "BallBoxesModel" "ringN" "I", .fieldLink RX7 42 "BallBoxesModel" "ring" "[Z"] ++ wsX70)
def wsX7_ring : List Cond := .code yX7_ring cX7_ring 5 (some .int) :: ([.fieldLink RX7 7 "BallBoxesModel" "boxes" "[Z", .fieldLink RX7 38 "BallBoxesModel" "ringN" "I", .fieldLink RX7 42 "BallBoxesModel" "ring" "[Z", .methodLink RX7 66 yX7_in, .static yX7_in, .initialized RX7, .code yX7_in cX7_in 3 (some .boolean)] ++ wsX70)
def wsX7_ringAt : List Cond := .code yX7_ringAt cX7_ringAt 2 (some .int) :: ([.fieldLink RX7 38 "BallBoxesModel" "ringN" "I", .fieldLink RX7 42 "BallBoxesModel" "ring" "[Z", .methodLink RX7 66 yX7_in, .static yX7_in, .initialized RX7, .code yX7_in cX7_in 3 (some .boolean)] ++ wsX70)
def wsX7_turns : List Cond := .code yX7_turns cX7_turns 5 (some .int) :: ([.fieldLink RX7 38 "BallBoxesModel" "ringN" "I", .fieldLink RX7 42 "BallBoxesModel" "ring" "[Z"] ++ wsX70)
def wsX7_turn : List Cond := .code yX7_turn cX7_turn 2 (some .int) :: ([.methodLink RX7 66 yX7_in, .static yX7_in, .initialized RX7, .code yX7_in cX7_in 3 (some .boolean), .methodLink RX7 111 yX7_turns, .instanceMethod yX7_turns, .selects RX7 yX7_turns yX7_turns, .code yX7_turns cX7_turns 5 (some .int), .fieldLink RX7 38 "BallBoxesModel" "ringN" "I", .fieldLink RX7 42 "BallBoxesModel" "ring" "[Z"] ++ wsX70)
def wsX7_isAsWas : List Cond := .code yX7_isAsWas cX7_isAsWas 2 (some .boolean) :: ([.fieldLink RX7 38 "BallBoxesModel" "ringN" "I", .fieldLink RX7 42 "BallBoxesModel" "ring" "[Z", .fieldLink RX7 45 "BallBoxesModel" "was" "[Z"] ++ wsX70)
def wsX7_periodOf : List Cond := .code yX7_periodOf cX7_periodOf 4 (some .int) :: ([.fieldLink RX7 38 "BallBoxesModel" "ringN" "I", .fieldLink RX7 45 "BallBoxesModel" "was" "[Z", .fieldLink RX7 42 "BallBoxesModel" "ring" "[Z", .methodLink RX7 111 yX7_turns, .instanceMethod yX7_turns, .selects RX7 yX7_turns yX7_turns, .initialized RX7, .code yX7_turns cX7_turns 5 (some .int), .methodLink RX7 115 yX7_isAsWas, .instanceMethod yX7_isAsWas, .selects RX7 yX7_isAsWas yX7_isAsWas, .code yX7_isAsWas cX7_isAsWas 2 (some .boolean)] ++ wsX70)
def wsX7_period : List Cond := .code yX7_period cX7_period 2 (some .int) :: ([.methodLink RX7 66 yX7_in, .static yX7_in, .initialized RX7, .code yX7_in cX7_in 3 (some .boolean), .methodLink RX7 118 yX7_periodOf, .instanceMethod yX7_periodOf, .selects RX7 yX7_periodOf yX7_periodOf, .code yX7_periodOf cX7_periodOf 4 (some .int), .fieldLink RX7 38 "BallBoxesModel" "ringN" "I", .fieldLink RX7 45 "BallBoxesModel" "was" "[Z", .fieldLink RX7 42 "BallBoxesModel" "ring" "[Z", .methodLink RX7 111 yX7_turns, .instanceMethod yX7_turns, .selects RX7 yX7_turns yX7_turns, .code yX7_turns cX7_turns 5 (some .int), .methodLink RX7 115 yX7_isAsWas, .instanceMethod yX7_isAsWas, .selects RX7 yX7_isAsWas yX7_isAsWas, .code yX7_isAsWas cX7_isAsWas 2 (some .boolean)] ++ wsX70)
def wsX7_rings : List Cond := .code yX7_rings cX7_rings 10 (some .int) :: ([.constantLong RX7 121 (2), .fieldLink RX7 38 "BallBoxesModel" "ringN" "I", .fieldLink RX7 48 "BallBoxesModel" "saved" "[Z", .fieldLink RX7 42 "BallBoxesModel" "ring" "[Z", .methodLink RX7 66 yX7_in, .static yX7_in, .initialized RX7, .code yX7_in cX7_in 3 (some .boolean), .methodLink RX7 118 yX7_periodOf, .instanceMethod yX7_periodOf, .selects RX7 yX7_periodOf yX7_periodOf, .code yX7_periodOf cX7_periodOf 4 (some .int), .fieldLink RX7 45 "BallBoxesModel" "was" "[Z", .methodLink RX7 111 yX7_turns, .instanceMethod yX7_turns, .selects RX7 yX7_turns yX7_turns, .code yX7_turns cX7_turns 5 (some .int), .methodLink RX7 115 yX7_isAsWas, .instanceMethod yX7_isAsWas, .selects RX7 yX7_isAsWas yX7_isAsWas, .code yX7_isAsWas cX7_isAsWas 2 (some .boolean)] ++ wsX70)
def wsX7_meets : List Cond := .code yX7_meets cX7_meets 2 (some .int) :: ([.fieldLink RX7 123 "BallBoxesModel" "finding" "I"] ++ wsX70)
def wsX7_isSheet : List Cond := .code yX7_isSheet cX7_isSheet 1 (some .boolean) :: ([.methodLink RX7 66 yX7_in, .static yX7_in, .initialized RX7, .code yX7_in cX7_in 3 (some .boolean)])
def wsX7_sheet : List Cond := .code yX7_sheet cX7_sheet 5 (some .int) :: ([.fieldLink RX7 51 "BallBoxesModel" "isThere" "[Z", .fieldLink RX7 54 "BallBoxesModel" "forms" "[I", .fieldLink RX7 57 "BallBoxesModel" "sizes" "[I", .fieldLink RX7 60 "BallBoxesModel" "items" "[I", .methodLink RX7 126 yX7_isSheet, .static yX7_isSheet, .initialized RX7, .code yX7_isSheet cX7_isSheet 1 (some .boolean), .methodLink RX7 66 yX7_in, .static yX7_in, .code yX7_in cX7_in 3 (some .boolean), .methodLink RX7 130 yX7_meets, .instanceMethod yX7_meets, .selects RX7 yX7_meets yX7_meets, .code yX7_meets cX7_meets 2 (some .int), .fieldLink RX7 123 "BallBoxesModel" "finding" "I"] ++ wsX70)
def wsX7_lose : List Cond := .code yX7_lose cX7_lose 2 (some .int) :: ([.fieldLink RX7 51 "BallBoxesModel" "isThere" "[Z", .fieldLink RX7 57 "BallBoxesModel" "sizes" "[I", .methodLink RX7 126 yX7_isSheet, .static yX7_isSheet, .initialized RX7, .code yX7_isSheet cX7_isSheet 1 (some .boolean), .methodLink RX7 66 yX7_in, .static yX7_in, .code yX7_in cX7_in 3 (some .boolean), .methodLink RX7 130 yX7_meets, .instanceMethod yX7_meets, .selects RX7 yX7_meets yX7_meets, .code yX7_meets cX7_meets 2 (some .int), .fieldLink RX7 123 "BallBoxesModel" "finding" "I"] ++ wsX70)
def wsX7_lacks : List Cond := .code yX7_lacks cX7_lacks 4 (some .int) :: ([.fieldLink RX7 51 "BallBoxesModel" "isThere" "[Z", .fieldLink RX7 54 "BallBoxesModel" "forms" "[I", .fieldLink RX7 57 "BallBoxesModel" "sizes" "[I", .methodLink RX7 66 yX7_in, .static yX7_in, .initialized RX7, .code yX7_in cX7_in 3 (some .boolean)] ++ wsX70)
def wsX7_put : List Cond := .code yX7_put cX7_put 6 (some .int) :: ([.fieldLink RX7 60 "BallBoxesModel" "items" "[I", .methodLink RX7 126 yX7_isSheet, .static yX7_isSheet, .initialized RX7, .code yX7_isSheet cX7_isSheet 1 (some .boolean), .methodLink RX7 66 yX7_in, .static yX7_in, .code yX7_in cX7_in 3 (some .boolean), .methodLink RX7 133 yX7_lacks, .instanceMethod yX7_lacks, .selects RX7 yX7_lacks yX7_lacks, .code yX7_lacks cX7_lacks 4 (some .int), .fieldLink RX7 51 "BallBoxesModel" "isThere" "[Z", .fieldLink RX7 54 "BallBoxesModel" "forms" "[I", .fieldLink RX7 57 "BallBoxesModel" "sizes" "[I", .methodLink RX7 130 yX7_meets, .instanceMethod yX7_meets, .selects RX7 yX7_meets yX7_meets, .code yX7_meets cX7_meets 2 (some .int), .fieldLink RX7 123 "BallBoxesModel" "finding" "I"] ++ wsX70)
def wsX7_get : List Cond := .code yX7_get cX7_get 5 (some .int) :: ([.constant RX7 137 (-2147483648), .fieldLink RX7 123 "BallBoxesModel" "finding" "I", .fieldLink RX7 60 "BallBoxesModel" "items" "[I", .methodLink RX7 126 yX7_isSheet, .static yX7_isSheet, .initialized RX7, .code yX7_isSheet cX7_isSheet 1 (some .boolean), .methodLink RX7 66 yX7_in, .static yX7_in, .code yX7_in cX7_in 3 (some .boolean), .methodLink RX7 133 yX7_lacks, .instanceMethod yX7_lacks, .selects RX7 yX7_lacks yX7_lacks, .code yX7_lacks cX7_lacks 4 (some .int), .fieldLink RX7 51 "BallBoxesModel" "isThere" "[Z", .fieldLink RX7 54 "BallBoxesModel" "forms" "[I", .fieldLink RX7 57 "BallBoxesModel" "sizes" "[I"] ++ wsX70)
def wsX7_copy : List Cond := .code yX7_copy cX7_copy 7 (some .int) :: ([.fieldLink RX7 51 "BallBoxesModel" "isThere" "[Z", .fieldLink RX7 54 "BallBoxesModel" "forms" "[I", .fieldLink RX7 57 "BallBoxesModel" "sizes" "[I", .fieldLink RX7 63 "BallBoxesModel" "moved" "[I", .fieldLink RX7 60 "BallBoxesModel" "items" "[I", .methodLink RX7 126 yX7_isSheet, .static yX7_isSheet, .initialized RX7, .code yX7_isSheet cX7_isSheet 1 (some .boolean), .methodLink RX7 66 yX7_in, .static yX7_in, .code yX7_in cX7_in 3 (some .boolean), .methodLink RX7 130 yX7_meets, .instanceMethod yX7_meets, .selects RX7 yX7_meets yX7_meets, .code yX7_meets cX7_meets 2 (some .int), .fieldLink RX7 123 "BallBoxesModel" "finding" "I"] ++ wsX70)
def wsX7_load : List Cond := .code yX7_load cX7_load 4 (some .int) :: ([.fieldLink RX7 51 "BallBoxesModel" "isThere" "[Z", .fieldLink RX7 57 "BallBoxesModel" "sizes" "[I", .fieldLink RX7 7 "BallBoxesModel" "boxes" "[Z", .fieldLink RX7 60 "BallBoxesModel" "items" "[I", .methodLink RX7 126 yX7_isSheet, .static yX7_isSheet, .initialized RX7, .code yX7_isSheet cX7_isSheet 1 (some .boolean), .methodLink RX7 66 yX7_in, .static yX7_in, .code yX7_in cX7_in 3 (some .boolean), .methodLink RX7 130 yX7_meets, .instanceMethod yX7_meets, .selects RX7 yX7_meets yX7_meets, .code yX7_meets cX7_meets 2 (some .int), .fieldLink RX7 123 "BallBoxesModel" "finding" "I"] ++ wsX70)
def wsX7_write : List Cond := .code yX7_write cX7_write 5 (some .int) :: ([.fieldLink RX7 51 "BallBoxesModel" "isThere" "[Z", .fieldLink RX7 57 "BallBoxesModel" "sizes" "[I", .fieldLink RX7 60 "BallBoxesModel" "items" "[I", .fieldLink RX7 7 "BallBoxesModel" "boxes" "[Z", .methodLink RX7 126 yX7_isSheet, .static yX7_isSheet, .initialized RX7, .code yX7_isSheet cX7_isSheet 1 (some .boolean), .methodLink RX7 66 yX7_in, .static yX7_in, .code yX7_in cX7_in 3 (some .boolean), .methodLink RX7 130 yX7_meets, .instanceMethod yX7_meets, .selects RX7 yX7_meets yX7_meets, .code yX7_meets cX7_meets 2 (some .int), .fieldLink RX7 123 "BallBoxesModel" "finding" "I"] ++ wsX70)
def wsX7_count : List Cond := .code yX7_count cX7_count 2 (some .int) :: ([.fieldLink RX7 38 "BallBoxesModel" "ringN" "I", .fieldLink RX7 104 "BallBoxesModel" "told" "I", .fieldLink RX7 74 "BallBoxesModel" "done" "I", .fieldLink RX7 123 "BallBoxesModel" "finding" "I", .methodLink RX7 70 yX7_balls, .instanceMethod yX7_balls, .selects RX7 yX7_balls yX7_balls, .initialized RX7, .code yX7_balls cX7_balls 3 (some .int), .fieldLink RX7 7 "BallBoxesModel" "boxes" "[Z", .methodLink RX7 138 yX7_ringBalls, .instanceMethod yX7_ringBalls, .selects RX7 yX7_ringBalls yX7_ringBalls, .code yX7_ringBalls cX7_ringBalls 3 (some .int), .fieldLink RX7 42 "BallBoxesModel" "ring" "[Z"] ++ wsX70)
def wsX7_digest : List Cond := .code yX7_digest cX7_digest 4 (some .long) :: ([.constantLong RX7 141 (17), .constantLong RX7 143 (31), .fieldLink RX7 7 "BallBoxesModel" "boxes" "[Z", .fieldLink RX7 38 "BallBoxesModel" "ringN" "I", .fieldLink RX7 42 "BallBoxesModel" "ring" "[Z", .methodLink RX7 145 yX7_count, .instanceMethod yX7_count, .selects RX7 yX7_count yX7_count, .initialized RX7, .code yX7_count cX7_count 2 (some .int), .fieldLink RX7 104 "BallBoxesModel" "told" "I", .fieldLink RX7 74 "BallBoxesModel" "done" "I", .fieldLink RX7 123 "BallBoxesModel" "finding" "I", .methodLink RX7 70 yX7_balls, .instanceMethod yX7_balls, .selects RX7 yX7_balls yX7_balls, .code yX7_balls cX7_balls 3 (some .int), .methodLink RX7 138 yX7_ringBalls, .instanceMethod yX7_ringBalls, .selects RX7 yX7_ringBalls yX7_ringBalls, .code yX7_ringBalls cX7_ringBalls 3 (some .int)] ++ wsX70)
def wsJ9_max_7cf53 : List Cond := .code yJ9_max_7cf53 cJ9_max_7cf53 2 (some .int) :: ([])
def wsJ9_min_7cf53 : List Cond := .code yJ9_min_7cf53 cJ9_min_7cf53 2 (some .int) :: ([])
theorem dX0_init_0 : decode cX0_init 0 = .ok (.aload_n 0, 1) := by decide +kernel
theorem dX0_init_1 : decode cX0_init 1 = .ok (.invokespecial 3, 3) := by decide +kernel
theorem dX0_init_4 : decode cX0_init 4 = .ok (.aload_n 0, 1) := by decide +kernel
theorem dX0_init_5 : decode cX0_init 5 = .ok (.sipush 240, 3) := by decide +kernel
theorem dX0_init_8 : decode cX0_init 8 = .ok (.newarray .int, 2) := by decide +kernel
theorem dX0_init_10 : decode cX0_init 10 = .ok (.putfield 9, 3) := by decide +kernel
theorem dX0_init_13 : decode cX0_init 13 = .ok (.return_, 1) := by decide +kernel
set_option maxRecDepth 20000 in
theorem ggX0_heapsOf_X0_begin : GoodIn wsX0_heapsOf wsX0_begin := goodIn_r _ [5, 6, 7, 8, 9, 10, 11, 12, 13, 14, 15, 16, 21, 22, 23, 24] (by decide +kernel) (by decide +kernel)
set_option maxRecDepth 20000 in
theorem gX0_heapsOf_X0_begin : GoodIn wsX0_heapsOf (wsV RX0 15 RX0 yX0_begin wsX0_begin) := goodIn_app (goodIn_of _ (by decide +kernel)) ggX0_heapsOf_X0_begin
set_option maxRecDepth 20000 in
theorem ggX0_heapsOf_X0_takeOut : GoodIn wsX0_heapsOf wsX0_takeOut := goodIn_r _ [20, 7, 6, 21, 22] (by decide +kernel) (by decide +kernel)
set_option maxRecDepth 20000 in
theorem gX0_heapsOf_X0_takeOut : GoodIn wsX0_heapsOf (wsV RX0 19 RX0 yX0_takeOut wsX0_takeOut) := goodIn_app (goodIn_of _ (by decide +kernel)) ggX0_heapsOf_X0_takeOut
theorem dX0_heapsOf_0 : decode cX0_heapsOf 0 = .ok (.aload_n 0, 1) := by decide +kernel
theorem dX0_heapsOf_1 : decode cX0_heapsOf 1 = .ok (.aload_n 1, 1) := by decide +kernel
theorem dX0_heapsOf_2 : decode cX0_heapsOf 2 = .ok (.invokevirtual 15, 3) := by decide +kernel
theorem dX0_heapsOf_5 : decode cX0_heapsOf 5 = .ok (.aload_n 0, 1) := by decide +kernel
theorem dX0_heapsOf_6 : decode cX0_heapsOf 6 = .ok (.invokevirtual 19, 3) := by decide +kernel
theorem dX0_heapsOf_9 : decode cX0_heapsOf 9 = .ok (.ireturn, 1) := by decide +kernel
set_option maxRecDepth 20000 in
theorem ggX0_countsAbove_X0_begin : GoodIn wsX0_countsAbove wsX0_begin := goodIn_r _ [5, 6, 7, 8, 9, 10, 11, 12, 13, 14, 15, 16, 21, 22, 23, 24] (by decide +kernel) (by decide +kernel)
set_option maxRecDepth 20000 in
theorem gX0_countsAbove_X0_begin : GoodIn wsX0_countsAbove (wsV RX0 15 RX0 yX0_begin wsX0_begin) := goodIn_app (goodIn_of _ (by decide +kernel)) ggX0_countsAbove_X0_begin
set_option maxRecDepth 20000 in
theorem ggX0_countsAbove_X0_takeOut : GoodIn wsX0_countsAbove wsX0_takeOut := goodIn_r _ [20, 7, 6, 21, 22] (by decide +kernel) (by decide +kernel)
set_option maxRecDepth 20000 in
theorem gX0_countsAbove_X0_takeOut : GoodIn wsX0_countsAbove (wsV RX0 19 RX0 yX0_takeOut wsX0_takeOut) := goodIn_app (goodIn_of _ (by decide +kernel)) ggX0_countsAbove_X0_takeOut
theorem dX0_countsAbove_0 : decode cX0_countsAbove 0 = .ok (.aload_n 0, 1) := by decide +kernel
theorem dX0_countsAbove_1 : decode cX0_countsAbove 1 = .ok (.aload_n 1, 1) := by decide +kernel
theorem dX0_countsAbove_2 : decode cX0_countsAbove 2 = .ok (.invokevirtual 15, 3) := by decide +kernel
theorem dX0_countsAbove_5 : decode cX0_countsAbove 5 = .ok (.iconst 0, 1) := by decide +kernel
theorem dX0_countsAbove_6 : decode cX0_countsAbove 6 = .ok (.istore_n 3, 1) := by decide +kernel
theorem dX0_countsAbove_7 : decode cX0_countsAbove 7 = .ok (.iconst 0, 1) := by decide +kernel
theorem dX0_countsAbove_8 : decode cX0_countsAbove 8 = .ok (.istore 4, 2) := by decide +kernel
theorem dX0_countsAbove_10 : decode cX0_countsAbove 10 = .ok (.iload 4, 2) := by decide +kernel
theorem dX0_countsAbove_12 : decode cX0_countsAbove 12 = .ok (.sipush 240, 3) := by decide +kernel
theorem dX0_countsAbove_15 : decode cX0_countsAbove 15 = .ok (.if_icmp .ge 23, 3) := by decide +kernel
theorem dX0_countsAbove_18 : decode cX0_countsAbove 18 = .ok (.aload_n 0, 1) := by decide +kernel
theorem dX0_countsAbove_19 : decode cX0_countsAbove 19 = .ok (.invokevirtual 19, 3) := by decide +kernel
theorem dX0_countsAbove_22 : decode cX0_countsAbove 22 = .ok (.iload_n 2, 1) := by decide +kernel
theorem dX0_countsAbove_23 : decode cX0_countsAbove 23 = .ok (.if_icmp .gt 6, 3) := by decide +kernel
theorem dX0_countsAbove_26 : decode cX0_countsAbove 26 = .ok (.goto 12, 3) := by decide +kernel
theorem dX0_countsAbove_29 : decode cX0_countsAbove 29 = .ok (.iinc 3 1, 3) := by decide +kernel
theorem dX0_countsAbove_32 : decode cX0_countsAbove 32 = .ok (.iinc 4 1, 3) := by decide +kernel
theorem dX0_countsAbove_35 : decode cX0_countsAbove 35 = .ok (.goto (-25), 3) := by decide +kernel
theorem dX0_countsAbove_38 : decode cX0_countsAbove 38 = .ok (.iload_n 3, 1) := by decide +kernel
theorem dX0_countsAbove_39 : decode cX0_countsAbove 39 = .ok (.ireturn, 1) := by decide +kernel
set_option maxRecDepth 20000 in
theorem ggX0_begin_X3_ballAt : GoodIn wsX0_begin wsX3_ballAt := goodIn_r _ [7, 8, 9, 10, 11, 14, 15] (by decide +kernel) (by decide +kernel)
set_option maxRecDepth 20000 in
theorem gX0_begin_X3_ballAt : GoodIn wsX0_begin (wsV RX0 23 RX3 yX3_ballAt wsX3_ballAt) := goodIn_app (goodIn_of _ (by decide +kernel)) ggX0_begin_X3_ballAt
theorem dX0_begin_0 : decode cX0_begin 0 = .ok (.iconst 0, 1) := by decide +kernel
theorem dX0_begin_1 : decode cX0_begin 1 = .ok (.istore_n 2, 1) := by decide +kernel
theorem dX0_begin_2 : decode cX0_begin 2 = .ok (.iload_n 2, 1) := by decide +kernel
theorem dX0_begin_3 : decode cX0_begin 3 = .ok (.sipush 240, 3) := by decide +kernel
theorem dX0_begin_6 : decode cX0_begin 6 = .ok (.if_icmp .ge 20, 3) := by decide +kernel
theorem dX0_begin_9 : decode cX0_begin 9 = .ok (.aload_n 0, 1) := by decide +kernel
theorem dX0_begin_10 : decode cX0_begin 10 = .ok (.getfield 9, 3) := by decide +kernel
theorem dX0_begin_13 : decode cX0_begin 13 = .ok (.iload_n 2, 1) := by decide +kernel
theorem dX0_begin_14 : decode cX0_begin 14 = .ok (.aload_n 1, 1) := by decide +kernel
theorem dX0_begin_15 : decode cX0_begin 15 = .ok (.iload_n 2, 1) := by decide +kernel
theorem dX0_begin_16 : decode cX0_begin 16 = .ok (.invokevirtual 23, 3) := by decide +kernel
theorem dX0_begin_19 : decode cX0_begin 19 = .ok (.iastore, 1) := by decide +kernel
theorem dX0_begin_20 : decode cX0_begin 20 = .ok (.iinc 2 1, 3) := by decide +kernel
theorem dX0_begin_23 : decode cX0_begin 23 = .ok (.goto (-21), 3) := by decide +kernel
theorem dX0_begin_26 : decode cX0_begin 26 = .ok (.aload_n 0, 1) := by decide +kernel
theorem dX0_begin_27 : decode cX0_begin 27 = .ok (.sipush 240, 3) := by decide +kernel
theorem dX0_begin_30 : decode cX0_begin 30 = .ok (.putfield 29, 3) := by decide +kernel
theorem dX0_begin_33 : decode cX0_begin 33 = .ok (.return_, 1) := by decide +kernel
theorem dX0_takeOut_0 : decode cX0_takeOut 0 = .ok (.iconst 0, 1) := by decide +kernel
theorem dX0_takeOut_1 : decode cX0_takeOut 1 = .ok (.istore_n 1, 1) := by decide +kernel
theorem dX0_takeOut_2 : decode cX0_takeOut 2 = .ok (.iconst 0, 1) := by decide +kernel
theorem dX0_takeOut_3 : decode cX0_takeOut 3 = .ok (.istore_n 2, 1) := by decide +kernel
theorem dX0_takeOut_4 : decode cX0_takeOut 4 = .ok (.iconst 0, 1) := by decide +kernel
theorem dX0_takeOut_5 : decode cX0_takeOut 5 = .ok (.istore_n 3, 1) := by decide +kernel
theorem dX0_takeOut_6 : decode cX0_takeOut 6 = .ok (.iload_n 3, 1) := by decide +kernel
theorem dX0_takeOut_7 : decode cX0_takeOut 7 = .ok (.aload_n 0, 1) := by decide +kernel
theorem dX0_takeOut_8 : decode cX0_takeOut 8 = .ok (.getfield 29, 3) := by decide +kernel
theorem dX0_takeOut_11 : decode cX0_takeOut 11 = .ok (.if_icmp .ge 103, 3) := by decide +kernel
theorem dX0_takeOut_14 : decode cX0_takeOut 14 = .ok (.iload_n 3, 1) := by decide +kernel
theorem dX0_takeOut_15 : decode cX0_takeOut 15 = .ok (.sipush 240, 3) := by decide +kernel
theorem dX0_takeOut_18 : decode cX0_takeOut 18 = .ok (.if_icmp .ge 96, 3) := by decide +kernel
theorem dX0_takeOut_21 : decode cX0_takeOut 21 = .ok (.aload_n 0, 1) := by decide +kernel
theorem dX0_takeOut_22 : decode cX0_takeOut 22 = .ok (.getfield 9, 3) := by decide +kernel
theorem dX0_takeOut_25 : decode cX0_takeOut 25 = .ok (.iload_n 3, 1) := by decide +kernel
theorem dX0_takeOut_26 : decode cX0_takeOut 26 = .ok (.iaload, 1) := by decide +kernel
theorem dX0_takeOut_27 : decode cX0_takeOut 27 = .ok (.ifCond .eq 7, 3) := by decide +kernel
theorem dX0_takeOut_30 : decode cX0_takeOut 30 = .ok (.iconst 1, 1) := by decide +kernel
theorem dX0_takeOut_31 : decode cX0_takeOut 31 = .ok (.goto 4, 3) := by decide +kernel
theorem dX0_takeOut_34 : decode cX0_takeOut 34 = .ok (.iconst 0, 1) := by decide +kernel
theorem dX0_takeOut_35 : decode cX0_takeOut 35 = .ok (.istore 4, 2) := by decide +kernel
theorem dX0_takeOut_37 : decode cX0_takeOut 37 = .ok (.iload_n 3, 1) := by decide +kernel
theorem dX0_takeOut_38 : decode cX0_takeOut 38 = .ok (.iconst 1, 1) := by decide +kernel
theorem dX0_takeOut_39 : decode cX0_takeOut 39 = .ok (.iadd, 1) := by decide +kernel
theorem dX0_takeOut_40 : decode cX0_takeOut 40 = .ok (.aload_n 0, 1) := by decide +kernel
theorem dX0_takeOut_41 : decode cX0_takeOut 41 = .ok (.getfield 29, 3) := by decide +kernel
theorem dX0_takeOut_44 : decode cX0_takeOut 44 = .ok (.if_icmp .ge 23, 3) := by decide +kernel
theorem dX0_takeOut_47 : decode cX0_takeOut 47 = .ok (.iload_n 3, 1) := by decide +kernel
theorem dX0_takeOut_48 : decode cX0_takeOut 48 = .ok (.iconst 1, 1) := by decide +kernel
theorem dX0_takeOut_49 : decode cX0_takeOut 49 = .ok (.iadd, 1) := by decide +kernel
theorem dX0_takeOut_50 : decode cX0_takeOut 50 = .ok (.sipush 240, 3) := by decide +kernel
theorem dX0_takeOut_53 : decode cX0_takeOut 53 = .ok (.if_icmp .ge 14, 3) := by decide +kernel
theorem dX0_takeOut_56 : decode cX0_takeOut 56 = .ok (.aload_n 0, 1) := by decide +kernel
theorem dX0_takeOut_57 : decode cX0_takeOut 57 = .ok (.getfield 9, 3) := by decide +kernel
theorem dX0_takeOut_60 : decode cX0_takeOut 60 = .ok (.iload_n 3, 1) := by decide +kernel
theorem dX0_takeOut_61 : decode cX0_takeOut 61 = .ok (.iconst 1, 1) := by decide +kernel
theorem dX0_takeOut_62 : decode cX0_takeOut 62 = .ok (.iadd, 1) := by decide +kernel
theorem dX0_takeOut_63 : decode cX0_takeOut 63 = .ok (.iaload, 1) := by decide +kernel
theorem dX0_takeOut_64 : decode cX0_takeOut 64 = .ok (.ifCond .ne 7, 3) := by decide +kernel
theorem dX0_takeOut_67 : decode cX0_takeOut 67 = .ok (.iconst 1, 1) := by decide +kernel
theorem dX0_takeOut_68 : decode cX0_takeOut 68 = .ok (.goto 4, 3) := by decide +kernel
theorem dX0_takeOut_71 : decode cX0_takeOut 71 = .ok (.iconst 0, 1) := by decide +kernel
theorem dX0_takeOut_72 : decode cX0_takeOut 72 = .ok (.istore 5, 2) := by decide +kernel
theorem dX0_takeOut_74 : decode cX0_takeOut 74 = .ok (.iload 4, 2) := by decide +kernel
theorem dX0_takeOut_76 : decode cX0_takeOut 76 = .ok (.ifCond .eq 17, 3) := by decide +kernel
theorem dX0_takeOut_79 : decode cX0_takeOut 79 = .ok (.iload 5, 2) := by decide +kernel
theorem dX0_takeOut_81 : decode cX0_takeOut 81 = .ok (.ifCond .eq 12, 3) := by decide +kernel
theorem dX0_takeOut_84 : decode cX0_takeOut 84 = .ok (.iinc 1 1, 3) := by decide +kernel
theorem dX0_takeOut_87 : decode cX0_takeOut 87 = .ok (.iinc 3 2, 3) := by decide +kernel
theorem dX0_takeOut_90 : decode cX0_takeOut 90 = .ok (.goto 21, 3) := by decide +kernel
theorem dX0_takeOut_93 : decode cX0_takeOut 93 = .ok (.aload_n 0, 1) := by decide +kernel
theorem dX0_takeOut_94 : decode cX0_takeOut 94 = .ok (.getfield 9, 3) := by decide +kernel
theorem dX0_takeOut_97 : decode cX0_takeOut 97 = .ok (.iload_n 2, 1) := by decide +kernel
theorem dX0_takeOut_98 : decode cX0_takeOut 98 = .ok (.aload_n 0, 1) := by decide +kernel
theorem dX0_takeOut_99 : decode cX0_takeOut 99 = .ok (.getfield 9, 3) := by decide +kernel
theorem dX0_takeOut_102 : decode cX0_takeOut 102 = .ok (.iload_n 3, 1) := by decide +kernel
theorem dX0_takeOut_103 : decode cX0_takeOut 103 = .ok (.iaload, 1) := by decide +kernel
theorem dX0_takeOut_104 : decode cX0_takeOut 104 = .ok (.iastore, 1) := by decide +kernel
theorem dX0_takeOut_105 : decode cX0_takeOut 105 = .ok (.iinc 2 1, 3) := by decide +kernel
theorem dX0_takeOut_108 : decode cX0_takeOut 108 = .ok (.iinc 3 1, 3) := by decide +kernel
theorem dX0_takeOut_111 : decode cX0_takeOut 111 = .ok (.goto (-105), 3) := by decide +kernel
theorem dX0_takeOut_114 : decode cX0_takeOut 114 = .ok (.aload_n 0, 1) := by decide +kernel
theorem dX0_takeOut_115 : decode cX0_takeOut 115 = .ok (.iload_n 2, 1) := by decide +kernel
theorem dX0_takeOut_116 : decode cX0_takeOut 116 = .ok (.putfield 29, 3) := by decide +kernel
theorem dX0_takeOut_119 : decode cX0_takeOut 119 = .ok (.iload_n 1, 1) := by decide +kernel
theorem dX0_takeOut_120 : decode cX0_takeOut 120 = .ok (.ireturn, 1) := by decide +kernel
theorem dX1_init_0 : decode cX1_init 0 = .ok (.aload_n 0, 1) := by decide +kernel
theorem dX1_init_1 : decode cX1_init 1 = .ok (.invokespecial 1, 3) := by decide +kernel
theorem dX1_init_4 : decode cX1_init 4 = .ok (.aload_n 0, 1) := by decide +kernel
theorem dX1_init_5 : decode cX1_init 5 = .ok (.iconst 1, 1) := by decide +kernel
theorem dX1_init_6 : decode cX1_init 6 = .ok (.putfield 7, 3) := by decide +kernel
theorem dX1_init_9 : decode cX1_init 9 = .ok (.return_, 1) := by decide +kernel
theorem dX1_become_0 : decode cX1_become 0 = .ok (.aload_n 0, 1) := by decide +kernel
theorem dX1_become_1 : decode cX1_become 1 = .ok (.iload_n 1, 1) := by decide +kernel
theorem dX1_become_2 : decode cX1_become 2 = .ok (.putfield 7, 3) := by decide +kernel
theorem dX1_become_5 : decode cX1_become 5 = .ok (.aload_n 0, 1) := by decide +kernel
theorem dX1_become_6 : decode cX1_become 6 = .ok (.lload_n 2, 1) := by decide +kernel
theorem dX1_become_7 : decode cX1_become 7 = .ok (.putfield 13, 3) := by decide +kernel
theorem dX1_become_10 : decode cX1_become 10 = .ok (.return_, 1) := by decide +kernel
theorem dX1_isRingBox_0 : decode cX1_isRingBox 0 = .ok (.iload_n 1, 1) := by decide +kernel
theorem dX1_isRingBox_1 : decode cX1_isRingBox 1 = .ok (.ifCond .lt 15, 3) := by decide +kernel
theorem dX1_isRingBox_4 : decode cX1_isRingBox 4 = .ok (.iload_n 1, 1) := by decide +kernel
theorem dX1_isRingBox_5 : decode cX1_isRingBox 5 = .ok (.aload_n 0, 1) := by decide +kernel
theorem dX1_isRingBox_6 : decode cX1_isRingBox 6 = .ok (.getfield 7, 3) := by decide +kernel
theorem dX1_isRingBox_9 : decode cX1_isRingBox 9 = .ok (.if_icmp .ge 7, 3) := by decide +kernel
theorem dX1_isRingBox_12 : decode cX1_isRingBox 12 = .ok (.iconst 1, 1) := by decide +kernel
theorem dX1_isRingBox_13 : decode cX1_isRingBox 13 = .ok (.goto 4, 3) := by decide +kernel
theorem dX1_isRingBox_16 : decode cX1_isRingBox 16 = .ok (.iconst 0, 1) := by decide +kernel
theorem dX1_isRingBox_17 : decode cX1_isRingBox 17 = .ok (.ireturn, 1) := by decide +kernel
theorem dX1_ballAt_0 : decode cX1_ballAt 0 = .ok (.aload_n 0, 1) := by decide +kernel
theorem dX1_ballAt_1 : decode cX1_ballAt 1 = .ok (.getfield 13, 3) := by decide +kernel
theorem dX1_ballAt_4 : decode cX1_ballAt 4 = .ok (.iload_n 1, 1) := by decide +kernel
theorem dX1_ballAt_5 : decode cX1_ballAt 5 = .ok (.lushr, 1) := by decide +kernel
theorem dX1_ballAt_6 : decode cX1_ballAt 6 = .ok (.l2i, 1) := by decide +kernel
theorem dX1_ballAt_7 : decode cX1_ballAt 7 = .ok (.iconst 1, 1) := by decide +kernel
theorem dX1_ballAt_8 : decode cX1_ballAt 8 = .ok (.iand, 1) := by decide +kernel
theorem dX1_ballAt_9 : decode cX1_ballAt 9 = .ok (.ireturn, 1) := by decide +kernel
set_option maxRecDepth 20000 in
theorem ggX1_turnBy_X1_goRound : GoodIn wsX1_turnBy wsX1_goRound := goodIn_r _ [8, 9, 2, 1, 10, 11, 12, 7, 13, 3, 14, 15, 16, 17, 18, 19, 20] (by decide +kernel) (by decide +kernel)
set_option maxRecDepth 20000 in
theorem gX1_turnBy_X1_goRound : GoodIn wsX1_turnBy (wsV RX1 17 RX1 yX1_goRound wsX1_goRound) := goodIn_app (goodIn_of _ (by decide +kernel)) ggX1_turnBy_X1_goRound
theorem dX1_turnBy_0 : decode cX1_turnBy 0 = .ok (.aload_n 0, 1) := by decide +kernel
theorem dX1_turnBy_1 : decode cX1_turnBy 1 = .ok (.iload_n 1, 1) := by decide +kernel
theorem dX1_turnBy_2 : decode cX1_turnBy 2 = .ok (.iconst 0, 1) := by decide +kernel
theorem dX1_turnBy_3 : decode cX1_turnBy 3 = .ok (.invokevirtual 17, 3) := by decide +kernel
theorem dX1_turnBy_6 : decode cX1_turnBy 6 = .ok (.aload_n 0, 1) := by decide +kernel
theorem dX1_turnBy_7 : decode cX1_turnBy 7 = .ok (.getfield 21, 3) := by decide +kernel
theorem dX1_turnBy_10 : decode cX1_turnBy 10 = .ok (.istore_n 2, 1) := by decide +kernel
theorem dX1_turnBy_11 : decode cX1_turnBy 11 = .ok (.iload_n 2, 1) := by decide +kernel
theorem dX1_turnBy_12 : decode cX1_turnBy 12 = .ok (.ifCond .eq 9, 3) := by decide +kernel
theorem dX1_turnBy_15 : decode cX1_turnBy 15 = .ok (.aload_n 0, 1) := by decide +kernel
theorem dX1_turnBy_16 : decode cX1_turnBy 16 = .ok (.iload_n 1, 1) := by decide +kernel
theorem dX1_turnBy_17 : decode cX1_turnBy 17 = .ok (.iload_n 2, 1) := by decide +kernel
theorem dX1_turnBy_18 : decode cX1_turnBy 18 = .ok (.invokevirtual 17, 3) := by decide +kernel
theorem dX1_turnBy_21 : decode cX1_turnBy 21 = .ok (.aload_n 0, 1) := by decide +kernel
theorem dX1_turnBy_22 : decode cX1_turnBy 22 = .ok (.aload_n 0, 1) := by decide +kernel
theorem dX1_turnBy_23 : decode cX1_turnBy 23 = .ok (.getfield 24, 3) := by decide +kernel
theorem dX1_turnBy_26 : decode cX1_turnBy 26 = .ok (.putfield 13, 3) := by decide +kernel
theorem dX1_turnBy_29 : decode cX1_turnBy 29 = .ok (.iload_n 2, 1) := by decide +kernel
theorem dX1_turnBy_30 : decode cX1_turnBy 30 = .ok (.ireturn, 1) := by decide +kernel
set_option maxRecDepth 20000 in
theorem ggX1_goRound_X1_ballAt : GoodIn wsX1_goRound wsX1_ballAt := goodIn_r _ [8, 9, 13, 14, 15, 16] (by decide +kernel) (by decide +kernel)
set_option maxRecDepth 20000 in
theorem gX1_goRound_X1_ballAt : GoodIn wsX1_goRound (wsV RX1 27 RX1 yX1_ballAt wsX1_ballAt) := goodIn_app (goodIn_of _ (by decide +kernel)) ggX1_goRound_X1_ballAt
set_option maxRecDepth 20000 in
theorem ggX1_goRound_X6_loadBehind : GoodIn wsX1_goRound wsX6_loadBehind := goodIn_r _ [12] (by decide +kernel) (by decide +kernel)
set_option maxRecDepth 20000 in
theorem gX1_goRound_X6_loadBehind_n31 : GoodIn wsX1_goRound (wsX6_loadBehind) := ggX1_goRound_X6_loadBehind
theorem dX1_goRound_0 : decode cX1_goRound 0 = .ok (.iload_n 2, 1) := by decide +kernel
theorem dX1_goRound_1 : decode cX1_goRound 1 = .ok (.istore_n 3, 1) := by decide +kernel
theorem dX1_goRound_2 : decode cX1_goRound 2 = .ok (.lconst 0, 1) := by decide +kernel
theorem dX1_goRound_3 : decode cX1_goRound 3 = .ok (.lstore 4, 2) := by decide +kernel
theorem dX1_goRound_5 : decode cX1_goRound 5 = .ok (.iconst 0, 1) := by decide +kernel
theorem dX1_goRound_6 : decode cX1_goRound 6 = .ok (.istore 6, 2) := by decide +kernel
theorem dX1_goRound_8 : decode cX1_goRound 8 = .ok (.iload 6, 2) := by decide +kernel
theorem dX1_goRound_10 : decode cX1_goRound 10 = .ok (.aload_n 0, 1) := by decide +kernel
theorem dX1_goRound_11 : decode cX1_goRound 11 = .ok (.getfield 7, 3) := by decide +kernel
theorem dX1_goRound_14 : decode cX1_goRound 14 = .ok (.if_icmp .ge 45, 3) := by decide +kernel
theorem dX1_goRound_17 : decode cX1_goRound 17 = .ok (.aload_n 0, 1) := by decide +kernel
theorem dX1_goRound_18 : decode cX1_goRound 18 = .ok (.iload 6, 2) := by decide +kernel
theorem dX1_goRound_20 : decode cX1_goRound 20 = .ok (.invokevirtual 27, 3) := by decide +kernel
theorem dX1_goRound_23 : decode cX1_goRound 23 = .ok (.istore 7, 2) := by decide +kernel
theorem dX1_goRound_25 : decode cX1_goRound 25 = .ok (.iload_n 3, 1) := by decide +kernel
theorem dX1_goRound_26 : decode cX1_goRound 26 = .ok (.iload 7, 2) := by decide +kernel
theorem dX1_goRound_28 : decode cX1_goRound 28 = .ok (.iload_n 1, 1) := by decide +kernel
theorem dX1_goRound_29 : decode cX1_goRound 29 = .ok (.invokestatic 31, 3) := by decide +kernel
theorem dX1_goRound_32 : decode cX1_goRound 32 = .ok (.istore 8, 2) := by decide +kernel
theorem dX1_goRound_34 : decode cX1_goRound 34 = .ok (.lload 4, 2) := by decide +kernel
theorem dX1_goRound_36 : decode cX1_goRound 36 = .ok (.iload 7, 2) := by decide +kernel
theorem dX1_goRound_38 : decode cX1_goRound 38 = .ok (.iload_n 3, 1) := by decide +kernel
theorem dX1_goRound_39 : decode cX1_goRound 39 = .ok (.iadd, 1) := by decide +kernel
theorem dX1_goRound_40 : decode cX1_goRound 40 = .ok (.iload 8, 2) := by decide +kernel
theorem dX1_goRound_42 : decode cX1_goRound 42 = .ok (.isub, 1) := by decide +kernel
theorem dX1_goRound_43 : decode cX1_goRound 43 = .ok (.i2l, 1) := by decide +kernel
theorem dX1_goRound_44 : decode cX1_goRound 44 = .ok (.iload 6, 2) := by decide +kernel
theorem dX1_goRound_46 : decode cX1_goRound 46 = .ok (.lshl, 1) := by decide +kernel
theorem dX1_goRound_47 : decode cX1_goRound 47 = .ok (.lor, 1) := by decide +kernel
theorem dX1_goRound_48 : decode cX1_goRound 48 = .ok (.lstore 4, 2) := by decide +kernel
theorem dX1_goRound_50 : decode cX1_goRound 50 = .ok (.iload 8, 2) := by decide +kernel
theorem dX1_goRound_52 : decode cX1_goRound 52 = .ok (.istore_n 3, 1) := by decide +kernel
theorem dX1_goRound_53 : decode cX1_goRound 53 = .ok (.iinc 6 1, 3) := by decide +kernel
theorem dX1_goRound_56 : decode cX1_goRound 56 = .ok (.goto (-48), 3) := by decide +kernel
theorem dX1_goRound_59 : decode cX1_goRound 59 = .ok (.aload_n 0, 1) := by decide +kernel
theorem dX1_goRound_60 : decode cX1_goRound 60 = .ok (.lload 4, 2) := by decide +kernel
theorem dX1_goRound_62 : decode cX1_goRound 62 = .ok (.putfield 24, 3) := by decide +kernel
theorem dX1_goRound_65 : decode cX1_goRound 65 = .ok (.aload_n 0, 1) := by decide +kernel
theorem dX1_goRound_66 : decode cX1_goRound 66 = .ok (.iload_n 3, 1) := by decide +kernel
theorem dX1_goRound_67 : decode cX1_goRound 67 = .ok (.putfield 21, 3) := by decide +kernel
theorem dX1_goRound_70 : decode cX1_goRound 70 = .ok (.return_, 1) := by decide +kernel
set_option maxRecDepth 20000 in
theorem ggX2_init_X1_init : GoodIn wsX2_init wsX1_init := goodIn_r _ [11, 12, 2, 3, 13, 14, 15, 16, 17] (by decide +kernel) (by decide +kernel)
set_option maxRecDepth 20000 in
theorem gX2_init_X1_init_n11 : GoodIn wsX2_init (wsX1_init) := ggX2_init_X1_init
theorem dX2_init_0 : decode cX2_init 0 = .ok (.aload_n 0, 1) := by decide +kernel
theorem dX2_init_1 : decode cX2_init 1 = .ok (.invokespecial 3, 3) := by decide +kernel
theorem dX2_init_4 : decode cX2_init 4 = .ok (.aload_n 0, 1) := by decide +kernel
theorem dX2_init_5 : decode cX2_init 5 = .ok (.new 9, 3) := by decide +kernel
theorem dX2_init_8 : decode cX2_init 8 = .ok (.dup, 1) := by decide +kernel
theorem dX2_init_9 : decode cX2_init 9 = .ok (.invokespecial 11, 3) := by decide +kernel
theorem dX2_init_12 : decode cX2_init 12 = .ok (.putfield 12, 3) := by decide +kernel
theorem dX2_init_15 : decode cX2_init 15 = .ok (.aload_n 0, 1) := by decide +kernel
theorem dX2_init_16 : decode cX2_init 16 = .ok (.bipush 64, 2) := by decide +kernel
theorem dX2_init_18 : decode cX2_init 18 = .ok (.newarray .long, 2) := by decide +kernel
theorem dX2_init_20 : decode cX2_init 20 = .ok (.putfield 18, 3) := by decide +kernel
theorem dX2_init_23 : decode cX2_init 23 = .ok (.return_, 1) := by decide +kernel
set_option maxRecDepth 20000 in
theorem ggX2_periodOf_X1_become : GoodIn wsX2_periodOf wsX1_become := goodIn_r _ [6, 7, 8, 28, 29, 30, 31] (by decide +kernel) (by decide +kernel)
set_option maxRecDepth 20000 in
theorem gX2_periodOf_X1_become : GoodIn wsX2_periodOf (wsV RX2 30 RX1 yX1_become wsX1_become) := goodIn_app (goodIn_of _ (by decide +kernel)) ggX2_periodOf_X1_become
set_option maxRecDepth 20000 in
theorem ggX2_periodOf_X1_turnBy : GoodIn wsX2_periodOf wsX1_turnBy := goodIn_r _ [12, 13, 14, 8, 15, 16, 17, 5, 18, 7, 19, 20, 21, 22, 23, 24, 25, 28, 29, 30, 31] (by decide +kernel) (by decide +kernel)
set_option maxRecDepth 20000 in
theorem gX2_periodOf_X1_turnBy : GoodIn wsX2_periodOf (wsV RX2 34 RX1 yX1_turnBy wsX1_turnBy) := goodIn_app (goodIn_of _ (by decide +kernel)) ggX2_periodOf_X1_turnBy
theorem dX2_periodOf_0 : decode cX2_periodOf 0 = .ok (.aload_n 0, 1) := by decide +kernel
theorem dX2_periodOf_1 : decode cX2_periodOf 1 = .ok (.getfield 12, 3) := by decide +kernel
theorem dX2_periodOf_4 : decode cX2_periodOf 4 = .ok (.aload_n 1, 1) := by decide +kernel
theorem dX2_periodOf_5 : decode cX2_periodOf 5 = .ok (.getfield 22, 3) := by decide +kernel
theorem dX2_periodOf_8 : decode cX2_periodOf 8 = .ok (.aload_n 1, 1) := by decide +kernel
theorem dX2_periodOf_9 : decode cX2_periodOf 9 = .ok (.getfield 26, 3) := by decide +kernel
theorem dX2_periodOf_12 : decode cX2_periodOf 12 = .ok (.invokevirtual 30, 3) := by decide +kernel
theorem dX2_periodOf_15 : decode cX2_periodOf 15 = .ok (.iconst 1, 1) := by decide +kernel
theorem dX2_periodOf_16 : decode cX2_periodOf 16 = .ok (.istore_n 3, 1) := by decide +kernel
theorem dX2_periodOf_17 : decode cX2_periodOf 17 = .ok (.iload_n 3, 1) := by decide +kernel
theorem dX2_periodOf_18 : decode cX2_periodOf 18 = .ok (.sipush 20000, 3) := by decide +kernel
theorem dX2_periodOf_21 : decode cX2_periodOf 21 = .ok (.if_icmp .gt 35, 3) := by decide +kernel
theorem dX2_periodOf_24 : decode cX2_periodOf 24 = .ok (.aload_n 0, 1) := by decide +kernel
theorem dX2_periodOf_25 : decode cX2_periodOf 25 = .ok (.getfield 12, 3) := by decide +kernel
theorem dX2_periodOf_28 : decode cX2_periodOf 28 = .ok (.iload_n 2, 1) := by decide +kernel
theorem dX2_periodOf_29 : decode cX2_periodOf 29 = .ok (.invokevirtual 34, 3) := by decide +kernel
theorem dX2_periodOf_32 : decode cX2_periodOf 32 = .ok (.pop, 1) := by decide +kernel
theorem dX2_periodOf_33 : decode cX2_periodOf 33 = .ok (.aload_n 0, 1) := by decide +kernel
theorem dX2_periodOf_34 : decode cX2_periodOf 34 = .ok (.getfield 12, 3) := by decide +kernel
theorem dX2_periodOf_37 : decode cX2_periodOf 37 = .ok (.getfield 26, 3) := by decide +kernel
theorem dX2_periodOf_40 : decode cX2_periodOf 40 = .ok (.aload_n 1, 1) := by decide +kernel
theorem dX2_periodOf_41 : decode cX2_periodOf 41 = .ok (.getfield 26, 3) := by decide +kernel
theorem dX2_periodOf_44 : decode cX2_periodOf 44 = .ok (.lcmp, 1) := by decide +kernel
theorem dX2_periodOf_45 : decode cX2_periodOf 45 = .ok (.ifCond .ne 5, 3) := by decide +kernel
theorem dX2_periodOf_48 : decode cX2_periodOf 48 = .ok (.iload_n 3, 1) := by decide +kernel
theorem dX2_periodOf_49 : decode cX2_periodOf 49 = .ok (.ireturn, 1) := by decide +kernel
theorem dX2_periodOf_50 : decode cX2_periodOf 50 = .ok (.iinc 3 1, 3) := by decide +kernel
theorem dX2_periodOf_53 : decode cX2_periodOf 53 = .ok (.goto (-36), 3) := by decide +kernel
theorem dX2_periodOf_56 : decode cX2_periodOf 56 = .ok (.bipush (-5), 2) := by decide +kernel
theorem dX2_periodOf_58 : decode cX2_periodOf 58 = .ok (.ireturn, 1) := by decide +kernel
set_option maxRecDepth 20000 in
theorem ggX2_countAll_J6_bitCount_0f7a4 : GoodIn wsX2_countAll wsJ6_bitCount_0f7a4 := goodIn_r _ [4, 5, 6, 7] (by decide +kernel) (by decide +kernel)
set_option maxRecDepth 20000 in
theorem gX2_countAll_J6_bitCount_0f7a4 : GoodIn wsX2_countAll (va_wsS RX2 38 yJ6_bitCount_0f7a4 wsJ6_bitCount_0f7a4) := goodIn_app (goodIn_of _ (by decide +kernel)) ggX2_countAll_J6_bitCount_0f7a4
theorem dX2_countAll_0 : decode cX2_countAll 0 = .ok (.iconst 0, 1) := by decide +kernel
theorem dX2_countAll_1 : decode cX2_countAll 1 = .ok (.istore_n 3, 1) := by decide +kernel
theorem dX2_countAll_2 : decode cX2_countAll 2 = .ok (.iconst 0, 1) := by decide +kernel
theorem dX2_countAll_3 : decode cX2_countAll 3 = .ok (.istore 4, 2) := by decide +kernel
theorem dX2_countAll_5 : decode cX2_countAll 5 = .ok (.iload 4, 2) := by decide +kernel
theorem dX2_countAll_7 : decode cX2_countAll 7 = .ok (.iconst 1, 1) := by decide +kernel
theorem dX2_countAll_8 : decode cX2_countAll 8 = .ok (.iload_n 1, 1) := by decide +kernel
theorem dX2_countAll_9 : decode cX2_countAll 9 = .ok (.ishl, 1) := by decide +kernel
theorem dX2_countAll_10 : decode cX2_countAll 10 = .ok (.if_icmp .ge 21, 3) := by decide +kernel
theorem dX2_countAll_13 : decode cX2_countAll 13 = .ok (.iload 4, 2) := by decide +kernel
theorem dX2_countAll_15 : decode cX2_countAll 15 = .ok (.invokestatic 38, 3) := by decide +kernel
theorem dX2_countAll_18 : decode cX2_countAll 18 = .ok (.iload_n 2, 1) := by decide +kernel
theorem dX2_countAll_19 : decode cX2_countAll 19 = .ok (.if_icmp .ne 6, 3) := by decide +kernel
theorem dX2_countAll_22 : decode cX2_countAll 22 = .ok (.iinc 3 1, 3) := by decide +kernel
theorem dX2_countAll_25 : decode cX2_countAll 25 = .ok (.iinc 4 1, 3) := by decide +kernel
theorem dX2_countAll_28 : decode cX2_countAll 28 = .ok (.goto (-23), 3) := by decide +kernel
theorem dX2_countAll_31 : decode cX2_countAll 31 = .ok (.iload_n 3, 1) := by decide +kernel
theorem dX2_countAll_32 : decode cX2_countAll 32 = .ok (.ireturn, 1) := by decide +kernel
set_option maxRecDepth 20000 in
theorem ggX2_countWithPeriod_X2_forget : GoodIn wsX2_countWithPeriod wsX2_forget := goodIn_r _ [5, 6, 51, 52] (by decide +kernel) (by decide +kernel)
set_option maxRecDepth 20000 in
theorem gX2_countWithPeriod_X2_forget : GoodIn wsX2_countWithPeriod (wsV RX2 43 RX2 yX2_forget wsX2_forget) := goodIn_app (goodIn_of _ (by decide +kernel)) ggX2_countWithPeriod_X2_forget
set_option maxRecDepth 20000 in
theorem ggX2_countWithPeriod_J6_bitCount_0f7a4 : GoodIn wsX2_countWithPeriod wsJ6_bitCount_0f7a4 := goodIn_r _ [10, 11, 12, 13] (by decide +kernel) (by decide +kernel)
set_option maxRecDepth 20000 in
theorem gX2_countWithPeriod_J6_bitCount_0f7a4 : GoodIn wsX2_countWithPeriod (va_wsS RX2 38 yJ6_bitCount_0f7a4 wsJ6_bitCount_0f7a4) := goodIn_app (goodIn_of _ (by decide +kernel)) ggX2_countWithPeriod_J6_bitCount_0f7a4
set_option maxRecDepth 20000 in
theorem ggX2_countWithPeriod_X2_isSeen : GoodIn wsX2_countWithPeriod wsX2_isSeen := goodIn_r _ [17, 6, 51, 52] (by decide +kernel) (by decide +kernel)
set_option maxRecDepth 20000 in
theorem gX2_countWithPeriod_X2_isSeen : GoodIn wsX2_countWithPeriod (wsV RX2 46 RX2 yX2_isSeen wsX2_isSeen) := goodIn_app (goodIn_of _ (by decide +kernel)) ggX2_countWithPeriod_X2_isSeen
set_option maxRecDepth 20000 in
theorem ggX2_countWithPeriod_X2_goThrough : GoodIn wsX2_countWithPeriod wsX2_goThrough := goodIn_r _ [21, 22, 23, 24, 25, 26, 27, 28, 29, 30, 31, 32, 33, 34, 35, 36, 37, 38, 39, 40, 41, 42, 43, 44, 45, 46, 47, 48, 49, 4, 50, 6, 51, 52, 53, 54, 55, 56] (by decide +kernel) (by decide +kernel)
set_option maxRecDepth 20000 in
theorem gX2_countWithPeriod_X2_goThrough : GoodIn wsX2_countWithPeriod (wsV RX2 50 RX2 yX2_goThrough wsX2_goThrough) := goodIn_app (goodIn_of _ (by decide +kernel)) ggX2_countWithPeriod_X2_goThrough
theorem dX2_countWithPeriod_0 : decode cX2_countWithPeriod 0 = .ok (.aload_n 0, 1) := by decide +kernel
theorem dX2_countWithPeriod_1 : decode cX2_countWithPeriod 1 = .ok (.invokevirtual 43, 3) := by decide +kernel
theorem dX2_countWithPeriod_4 : decode cX2_countWithPeriod 4 = .ok (.iconst 0, 1) := by decide +kernel
theorem dX2_countWithPeriod_5 : decode cX2_countWithPeriod 5 = .ok (.istore 5, 2) := by decide +kernel
theorem dX2_countWithPeriod_7 : decode cX2_countWithPeriod 7 = .ok (.iconst 0, 1) := by decide +kernel
theorem dX2_countWithPeriod_8 : decode cX2_countWithPeriod 8 = .ok (.istore 6, 2) := by decide +kernel
theorem dX2_countWithPeriod_10 : decode cX2_countWithPeriod 10 = .ok (.iload 6, 2) := by decide +kernel
theorem dX2_countWithPeriod_12 : decode cX2_countWithPeriod 12 = .ok (.iconst 1, 1) := by decide +kernel
theorem dX2_countWithPeriod_13 : decode cX2_countWithPeriod 13 = .ok (.iload_n 1, 1) := by decide +kernel
theorem dX2_countWithPeriod_14 : decode cX2_countWithPeriod 14 = .ok (.ishl, 1) := by decide +kernel
theorem dX2_countWithPeriod_15 : decode cX2_countWithPeriod 15 = .ok (.if_icmp .ge 51, 3) := by decide +kernel
theorem dX2_countWithPeriod_18 : decode cX2_countWithPeriod 18 = .ok (.iload 6, 2) := by decide +kernel
theorem dX2_countWithPeriod_20 : decode cX2_countWithPeriod 20 = .ok (.invokestatic 38, 3) := by decide +kernel
theorem dX2_countWithPeriod_23 : decode cX2_countWithPeriod 23 = .ok (.iload_n 2, 1) := by decide +kernel
theorem dX2_countWithPeriod_24 : decode cX2_countWithPeriod 24 = .ok (.if_icmp .ne 36, 3) := by decide +kernel
theorem dX2_countWithPeriod_27 : decode cX2_countWithPeriod 27 = .ok (.aload_n 0, 1) := by decide +kernel
theorem dX2_countWithPeriod_28 : decode cX2_countWithPeriod 28 = .ok (.iload 6, 2) := by decide +kernel
theorem dX2_countWithPeriod_30 : decode cX2_countWithPeriod 30 = .ok (.invokevirtual 46, 3) := by decide +kernel
theorem dX2_countWithPeriod_33 : decode cX2_countWithPeriod 33 = .ok (.ifCond .ne 27, 3) := by decide +kernel
theorem dX2_countWithPeriod_36 : decode cX2_countWithPeriod 36 = .ok (.aload_n 0, 1) := by decide +kernel
theorem dX2_countWithPeriod_37 : decode cX2_countWithPeriod 37 = .ok (.iload_n 1, 1) := by decide +kernel
theorem dX2_countWithPeriod_38 : decode cX2_countWithPeriod 38 = .ok (.iload 6, 2) := by decide +kernel
theorem dX2_countWithPeriod_40 : decode cX2_countWithPeriod 40 = .ok (.iload_n 3, 1) := by decide +kernel
theorem dX2_countWithPeriod_41 : decode cX2_countWithPeriod 41 = .ok (.invokevirtual 50, 3) := by decide +kernel
theorem dX2_countWithPeriod_44 : decode cX2_countWithPeriod 44 = .ok (.istore 7, 2) := by decide +kernel
theorem dX2_countWithPeriod_46 : decode cX2_countWithPeriod 46 = .ok (.iload 7, 2) := by decide +kernel
theorem dX2_countWithPeriod_48 : decode cX2_countWithPeriod 48 = .ok (.iload 4, 2) := by decide +kernel
theorem dX2_countWithPeriod_50 : decode cX2_countWithPeriod 50 = .ok (.if_icmp .ne 10, 3) := by decide +kernel
theorem dX2_countWithPeriod_53 : decode cX2_countWithPeriod 53 = .ok (.iload 5, 2) := by decide +kernel
theorem dX2_countWithPeriod_55 : decode cX2_countWithPeriod 55 = .ok (.iload 7, 2) := by decide +kernel
theorem dX2_countWithPeriod_57 : decode cX2_countWithPeriod 57 = .ok (.iadd, 1) := by decide +kernel
theorem dX2_countWithPeriod_58 : decode cX2_countWithPeriod 58 = .ok (.istore 5, 2) := by decide +kernel
theorem dX2_countWithPeriod_60 : decode cX2_countWithPeriod 60 = .ok (.iinc 6 1, 3) := by decide +kernel
theorem dX2_countWithPeriod_63 : decode cX2_countWithPeriod 63 = .ok (.goto (-53), 3) := by decide +kernel
theorem dX2_countWithPeriod_66 : decode cX2_countWithPeriod 66 = .ok (.iload 5, 2) := by decide +kernel
theorem dX2_countWithPeriod_68 : decode cX2_countWithPeriod 68 = .ok (.ireturn, 1) := by decide +kernel
set_option maxRecDepth 20000 in
theorem ggX2_goThrough_X1_become : GoodIn wsX2_goThrough wsX1_become := goodIn_r _ [6, 7, 8, 34, 35, 36, 37] (by decide +kernel) (by decide +kernel)
set_option maxRecDepth 20000 in
theorem gX2_goThrough_X1_become : GoodIn wsX2_goThrough (wsV RX2 30 RX1 yX1_become wsX1_become) := goodIn_app (goodIn_of _ (by decide +kernel)) ggX2_goThrough_X1_become
set_option maxRecDepth 20000 in
theorem ggX2_goThrough_X1_turnBy : GoodIn wsX2_goThrough wsX1_turnBy := goodIn_r _ [12, 13, 14, 8, 15, 16, 17, 5, 18, 7, 19, 20, 21, 22, 23, 24, 25, 34, 35, 36, 37] (by decide +kernel) (by decide +kernel)
set_option maxRecDepth 20000 in
theorem gX2_goThrough_X1_turnBy : GoodIn wsX2_goThrough (wsV RX2 34 RX1 yX1_turnBy wsX1_turnBy) := goodIn_app (goodIn_of _ (by decide +kernel)) ggX2_goThrough_X1_turnBy
set_option maxRecDepth 20000 in
theorem ggX2_goThrough_X2_see : GoodIn wsX2_goThrough wsX2_see := goodIn_r _ [30, 31, 32, 33] (by decide +kernel) (by decide +kernel)
set_option maxRecDepth 20000 in
theorem gX2_goThrough_X2_see : GoodIn wsX2_goThrough (wsV RX2 54 RX2 yX2_see wsX2_see) := goodIn_app (goodIn_of _ (by decide +kernel)) ggX2_goThrough_X2_see
theorem dX2_goThrough_0 : decode cX2_goThrough 0 = .ok (.aload_n 0, 1) := by decide +kernel
theorem dX2_goThrough_1 : decode cX2_goThrough 1 = .ok (.getfield 12, 3) := by decide +kernel
theorem dX2_goThrough_4 : decode cX2_goThrough 4 = .ok (.iload_n 1, 1) := by decide +kernel
theorem dX2_goThrough_5 : decode cX2_goThrough 5 = .ok (.iload_n 2, 1) := by decide +kernel
theorem dX2_goThrough_6 : decode cX2_goThrough 6 = .ok (.i2l, 1) := by decide +kernel
theorem dX2_goThrough_7 : decode cX2_goThrough 7 = .ok (.invokevirtual 30, 3) := by decide +kernel
theorem dX2_goThrough_10 : decode cX2_goThrough 10 = .ok (.iconst 1, 1) := by decide +kernel
theorem dX2_goThrough_11 : decode cX2_goThrough 11 = .ok (.istore 4, 2) := by decide +kernel
theorem dX2_goThrough_13 : decode cX2_goThrough 13 = .ok (.iload 4, 2) := by decide +kernel
theorem dX2_goThrough_15 : decode cX2_goThrough 15 = .ok (.sipush 20000, 3) := by decide +kernel
theorem dX2_goThrough_18 : decode cX2_goThrough 18 = .ok (.if_icmp .gt 46, 3) := by decide +kernel
theorem dX2_goThrough_21 : decode cX2_goThrough 21 = .ok (.aload_n 0, 1) := by decide +kernel
theorem dX2_goThrough_22 : decode cX2_goThrough 22 = .ok (.getfield 12, 3) := by decide +kernel
theorem dX2_goThrough_25 : decode cX2_goThrough 25 = .ok (.iload_n 3, 1) := by decide +kernel
theorem dX2_goThrough_26 : decode cX2_goThrough 26 = .ok (.invokevirtual 34, 3) := by decide +kernel
theorem dX2_goThrough_29 : decode cX2_goThrough 29 = .ok (.pop, 1) := by decide +kernel
theorem dX2_goThrough_30 : decode cX2_goThrough 30 = .ok (.aload_n 0, 1) := by decide +kernel
theorem dX2_goThrough_31 : decode cX2_goThrough 31 = .ok (.aload_n 0, 1) := by decide +kernel
theorem dX2_goThrough_32 : decode cX2_goThrough 32 = .ok (.getfield 12, 3) := by decide +kernel
theorem dX2_goThrough_35 : decode cX2_goThrough 35 = .ok (.getfield 26, 3) := by decide +kernel
theorem dX2_goThrough_38 : decode cX2_goThrough 38 = .ok (.l2i, 1) := by decide +kernel
theorem dX2_goThrough_39 : decode cX2_goThrough 39 = .ok (.invokevirtual 54, 3) := by decide +kernel
theorem dX2_goThrough_42 : decode cX2_goThrough 42 = .ok (.aload_n 0, 1) := by decide +kernel
theorem dX2_goThrough_43 : decode cX2_goThrough 43 = .ok (.getfield 12, 3) := by decide +kernel
theorem dX2_goThrough_46 : decode cX2_goThrough 46 = .ok (.getfield 26, 3) := by decide +kernel
theorem dX2_goThrough_49 : decode cX2_goThrough 49 = .ok (.iload_n 2, 1) := by decide +kernel
theorem dX2_goThrough_50 : decode cX2_goThrough 50 = .ok (.i2l, 1) := by decide +kernel
theorem dX2_goThrough_51 : decode cX2_goThrough 51 = .ok (.lcmp, 1) := by decide +kernel
theorem dX2_goThrough_52 : decode cX2_goThrough 52 = .ok (.ifCond .ne 6, 3) := by decide +kernel
theorem dX2_goThrough_55 : decode cX2_goThrough 55 = .ok (.iload 4, 2) := by decide +kernel
theorem dX2_goThrough_57 : decode cX2_goThrough 57 = .ok (.ireturn, 1) := by decide +kernel
theorem dX2_goThrough_58 : decode cX2_goThrough 58 = .ok (.iinc 4 1, 3) := by decide +kernel
theorem dX2_goThrough_61 : decode cX2_goThrough 61 = .ok (.goto (-48), 3) := by decide +kernel
theorem dX2_goThrough_64 : decode cX2_goThrough 64 = .ok (.bipush (-5), 2) := by decide +kernel
theorem dX2_goThrough_66 : decode cX2_goThrough 66 = .ok (.ireturn, 1) := by decide +kernel
theorem dX2_forget_0 : decode cX2_forget 0 = .ok (.iconst 0, 1) := by decide +kernel
theorem dX2_forget_1 : decode cX2_forget 1 = .ok (.istore_n 1, 1) := by decide +kernel
theorem dX2_forget_2 : decode cX2_forget 2 = .ok (.iload_n 1, 1) := by decide +kernel
theorem dX2_forget_3 : decode cX2_forget 3 = .ok (.aload_n 0, 1) := by decide +kernel
theorem dX2_forget_4 : decode cX2_forget 4 = .ok (.getfield 18, 3) := by decide +kernel
theorem dX2_forget_7 : decode cX2_forget 7 = .ok (.arraylength, 1) := by decide +kernel
theorem dX2_forget_8 : decode cX2_forget 8 = .ok (.if_icmp .ge 16, 3) := by decide +kernel
theorem dX2_forget_11 : decode cX2_forget 11 = .ok (.aload_n 0, 1) := by decide +kernel
theorem dX2_forget_12 : decode cX2_forget 12 = .ok (.getfield 18, 3) := by decide +kernel
theorem dX2_forget_15 : decode cX2_forget 15 = .ok (.iload_n 1, 1) := by decide +kernel
theorem dX2_forget_16 : decode cX2_forget 16 = .ok (.lconst 0, 1) := by decide +kernel
theorem dX2_forget_17 : decode cX2_forget 17 = .ok (.lastore, 1) := by decide +kernel
theorem dX2_forget_18 : decode cX2_forget 18 = .ok (.iinc 1 1, 3) := by decide +kernel
theorem dX2_forget_21 : decode cX2_forget 21 = .ok (.goto (-19), 3) := by decide +kernel
theorem dX2_forget_24 : decode cX2_forget 24 = .ok (.return_, 1) := by decide +kernel
theorem dX2_isSeen_0 : decode cX2_isSeen 0 = .ok (.iload_n 1, 1) := by decide +kernel
theorem dX2_isSeen_1 : decode cX2_isSeen 1 = .ok (.bipush 6, 2) := by decide +kernel
theorem dX2_isSeen_3 : decode cX2_isSeen 3 = .ok (.iushr, 1) := by decide +kernel
theorem dX2_isSeen_4 : decode cX2_isSeen 4 = .ok (.istore_n 2, 1) := by decide +kernel
theorem dX2_isSeen_5 : decode cX2_isSeen 5 = .ok (.iload_n 2, 1) := by decide +kernel
theorem dX2_isSeen_6 : decode cX2_isSeen 6 = .ok (.aload_n 0, 1) := by decide +kernel
theorem dX2_isSeen_7 : decode cX2_isSeen 7 = .ok (.getfield 18, 3) := by decide +kernel
theorem dX2_isSeen_10 : decode cX2_isSeen 10 = .ok (.arraylength, 1) := by decide +kernel
theorem dX2_isSeen_11 : decode cX2_isSeen 11 = .ok (.if_icmp .ge 25, 3) := by decide +kernel
theorem dX2_isSeen_14 : decode cX2_isSeen 14 = .ok (.aload_n 0, 1) := by decide +kernel
theorem dX2_isSeen_15 : decode cX2_isSeen 15 = .ok (.getfield 18, 3) := by decide +kernel
theorem dX2_isSeen_18 : decode cX2_isSeen 18 = .ok (.iload_n 2, 1) := by decide +kernel
theorem dX2_isSeen_19 : decode cX2_isSeen 19 = .ok (.laload, 1) := by decide +kernel
theorem dX2_isSeen_20 : decode cX2_isSeen 20 = .ok (.iload_n 1, 1) := by decide +kernel
theorem dX2_isSeen_21 : decode cX2_isSeen 21 = .ok (.bipush 63, 2) := by decide +kernel
theorem dX2_isSeen_23 : decode cX2_isSeen 23 = .ok (.iand, 1) := by decide +kernel
theorem dX2_isSeen_24 : decode cX2_isSeen 24 = .ok (.lushr, 1) := by decide +kernel
theorem dX2_isSeen_25 : decode cX2_isSeen 25 = .ok (.lconst 1, 1) := by decide +kernel
theorem dX2_isSeen_26 : decode cX2_isSeen 26 = .ok (.land, 1) := by decide +kernel
theorem dX2_isSeen_27 : decode cX2_isSeen 27 = .ok (.lconst 0, 1) := by decide +kernel
theorem dX2_isSeen_28 : decode cX2_isSeen 28 = .ok (.lcmp, 1) := by decide +kernel
theorem dX2_isSeen_29 : decode cX2_isSeen 29 = .ok (.ifCond .eq 7, 3) := by decide +kernel
theorem dX2_isSeen_32 : decode cX2_isSeen 32 = .ok (.iconst 1, 1) := by decide +kernel
theorem dX2_isSeen_33 : decode cX2_isSeen 33 = .ok (.goto 4, 3) := by decide +kernel
theorem dX2_isSeen_36 : decode cX2_isSeen 36 = .ok (.iconst 0, 1) := by decide +kernel
theorem dX2_isSeen_37 : decode cX2_isSeen 37 = .ok (.ireturn, 1) := by decide +kernel
theorem dX2_see_0 : decode cX2_see 0 = .ok (.iload_n 1, 1) := by decide +kernel
theorem dX2_see_1 : decode cX2_see 1 = .ok (.bipush 6, 2) := by decide +kernel
theorem dX2_see_3 : decode cX2_see 3 = .ok (.iushr, 1) := by decide +kernel
theorem dX2_see_4 : decode cX2_see 4 = .ok (.istore_n 2, 1) := by decide +kernel
theorem dX2_see_5 : decode cX2_see 5 = .ok (.iload_n 2, 1) := by decide +kernel
theorem dX2_see_6 : decode cX2_see 6 = .ok (.aload_n 0, 1) := by decide +kernel
theorem dX2_see_7 : decode cX2_see 7 = .ok (.getfield 18, 3) := by decide +kernel
theorem dX2_see_10 : decode cX2_see 10 = .ok (.arraylength, 1) := by decide +kernel
theorem dX2_see_11 : decode cX2_see 11 = .ok (.if_icmp .ge 18, 3) := by decide +kernel
theorem dX2_see_14 : decode cX2_see 14 = .ok (.aload_n 0, 1) := by decide +kernel
theorem dX2_see_15 : decode cX2_see 15 = .ok (.getfield 18, 3) := by decide +kernel
theorem dX2_see_18 : decode cX2_see 18 = .ok (.iload_n 2, 1) := by decide +kernel
theorem dX2_see_19 : decode cX2_see 19 = .ok (.dup2, 1) := by decide +kernel
theorem dX2_see_20 : decode cX2_see 20 = .ok (.laload, 1) := by decide +kernel
theorem dX2_see_21 : decode cX2_see 21 = .ok (.lconst 1, 1) := by decide +kernel
theorem dX2_see_22 : decode cX2_see 22 = .ok (.iload_n 1, 1) := by decide +kernel
theorem dX2_see_23 : decode cX2_see 23 = .ok (.bipush 63, 2) := by decide +kernel
theorem dX2_see_25 : decode cX2_see 25 = .ok (.iand, 1) := by decide +kernel
theorem dX2_see_26 : decode cX2_see 26 = .ok (.lshl, 1) := by decide +kernel
theorem dX2_see_27 : decode cX2_see 27 = .ok (.lor, 1) := by decide +kernel
theorem dX2_see_28 : decode cX2_see 28 = .ok (.lastore, 1) := by decide +kernel
theorem dX2_see_29 : decode cX2_see 29 = .ok (.return_, 1) := by decide +kernel
theorem dX3_init_0 : decode cX3_init 0 = .ok (.aload_n 0, 1) := by decide +kernel
theorem dX3_init_1 : decode cX3_init 1 = .ok (.invokespecial 3, 3) := by decide +kernel
theorem dX3_init_4 : decode cX3_init 4 = .ok (.aload_n 0, 1) := by decide +kernel
theorem dX3_init_5 : decode cX3_init 5 = .ok (.sipush 240, 3) := by decide +kernel
theorem dX3_init_8 : decode cX3_init 8 = .ok (.newarray .int, 2) := by decide +kernel
theorem dX3_init_10 : decode cX3_init 10 = .ok (.putfield 9, 3) := by decide +kernel
theorem dX3_init_13 : decode cX3_init 13 = .ok (.aload_n 0, 1) := by decide +kernel
theorem dX3_init_14 : decode cX3_init 14 = .ok (.sipush 240, 3) := by decide +kernel
theorem dX3_init_17 : decode cX3_init 17 = .ok (.newarray .int, 2) := by decide +kernel
theorem dX3_init_19 : decode cX3_init 19 = .ok (.putfield 15, 3) := by decide +kernel
theorem dX3_init_22 : decode cX3_init 22 = .ok (.return_, 1) := by decide +kernel
set_option maxRecDepth 20000 in
theorem ggX3_ballAt_X6_isBox : GoodIn wsX3_ballAt wsX6_isBox := goodIn_r _ [4] (by decide +kernel) (by decide +kernel)
set_option maxRecDepth 20000 in
theorem gX3_ballAt_X6_isBox_n18 : GoodIn wsX3_ballAt (wsX6_isBox) := ggX3_ballAt_X6_isBox
theorem dX3_ballAt_0 : decode cX3_ballAt 0 = .ok (.iload_n 1, 1) := by decide +kernel
theorem dX3_ballAt_1 : decode cX3_ballAt 1 = .ok (.invokestatic 18, 3) := by decide +kernel
theorem dX3_ballAt_4 : decode cX3_ballAt 4 = .ok (.ifCond .eq 12, 3) := by decide +kernel
theorem dX3_ballAt_7 : decode cX3_ballAt 7 = .ok (.aload_n 0, 1) := by decide +kernel
theorem dX3_ballAt_8 : decode cX3_ballAt 8 = .ok (.getfield 9, 3) := by decide +kernel
theorem dX3_ballAt_11 : decode cX3_ballAt 11 = .ok (.iload_n 1, 1) := by decide +kernel
theorem dX3_ballAt_12 : decode cX3_ballAt 12 = .ok (.iaload, 1) := by decide +kernel
theorem dX3_ballAt_13 : decode cX3_ballAt 13 = .ok (.goto 4, 3) := by decide +kernel
theorem dX3_ballAt_16 : decode cX3_ballAt 16 = .ok (.iconst 0, 1) := by decide +kernel
theorem dX3_ballAt_17 : decode cX3_ballAt 17 = .ok (.ireturn, 1) := by decide +kernel
set_option maxRecDepth 20000 in
theorem ggX3_place_X6_isBox : GoodIn wsX3_place wsX6_isBox := goodIn_r _ [4] (by decide +kernel) (by decide +kernel)
set_option maxRecDepth 20000 in
theorem gX3_place_X6_isBox_n18 : GoodIn wsX3_place (wsX6_isBox) := ggX3_place_X6_isBox
theorem dX3_place_0 : decode cX3_place 0 = .ok (.iload_n 1, 1) := by decide +kernel
theorem dX3_place_1 : decode cX3_place 1 = .ok (.invokestatic 18, 3) := by decide +kernel
theorem dX3_place_4 : decode cX3_place 4 = .ok (.ifCond .eq 10, 3) := by decide +kernel
theorem dX3_place_7 : decode cX3_place 7 = .ok (.aload_n 0, 1) := by decide +kernel
theorem dX3_place_8 : decode cX3_place 8 = .ok (.getfield 9, 3) := by decide +kernel
theorem dX3_place_11 : decode cX3_place 11 = .ok (.iload_n 1, 1) := by decide +kernel
theorem dX3_place_12 : decode cX3_place 12 = .ok (.iload_n 2, 1) := by decide +kernel
theorem dX3_place_13 : decode cX3_place 13 = .ok (.iastore, 1) := by decide +kernel
theorem dX3_place_14 : decode cX3_place 14 = .ok (.return_, 1) := by decide +kernel
set_option maxRecDepth 20000 in
theorem ggX3_makeBox_X6_isBox : GoodIn wsX3_makeBox wsX6_isBox := goodIn_r _ [4] (by decide +kernel) (by decide +kernel)
set_option maxRecDepth 20000 in
theorem gX3_makeBox_X6_isBox_n18 : GoodIn wsX3_makeBox (wsX6_isBox) := ggX3_makeBox_X6_isBox
theorem dX3_makeBox_0 : decode cX3_makeBox 0 = .ok (.iload_n 1, 1) := by decide +kernel
theorem dX3_makeBox_1 : decode cX3_makeBox 1 = .ok (.invokestatic 18, 3) := by decide +kernel
theorem dX3_makeBox_4 : decode cX3_makeBox 4 = .ok (.ifCond .eq 10, 3) := by decide +kernel
theorem dX3_makeBox_7 : decode cX3_makeBox 7 = .ok (.aload_n 0, 1) := by decide +kernel
theorem dX3_makeBox_8 : decode cX3_makeBox 8 = .ok (.getfield 15, 3) := by decide +kernel
theorem dX3_makeBox_11 : decode cX3_makeBox 11 = .ok (.iload_n 1, 1) := by decide +kernel
theorem dX3_makeBox_12 : decode cX3_makeBox 12 = .ok (.iload_n 2, 1) := by decide +kernel
theorem dX3_makeBox_13 : decode cX3_makeBox 13 = .ok (.iastore, 1) := by decide +kernel
theorem dX3_makeBox_14 : decode cX3_makeBox 14 = .ok (.return_, 1) := by decide +kernel
theorem dX3_clear_0 : decode cX3_clear 0 = .ok (.iconst 0, 1) := by decide +kernel
theorem dX3_clear_1 : decode cX3_clear 1 = .ok (.istore_n 1, 1) := by decide +kernel
theorem dX3_clear_2 : decode cX3_clear 2 = .ok (.iload_n 1, 1) := by decide +kernel
theorem dX3_clear_3 : decode cX3_clear 3 = .ok (.sipush 240, 3) := by decide +kernel
theorem dX3_clear_6 : decode cX3_clear 6 = .ok (.if_icmp .ge 16, 3) := by decide +kernel
theorem dX3_clear_9 : decode cX3_clear 9 = .ok (.aload_n 0, 1) := by decide +kernel
theorem dX3_clear_10 : decode cX3_clear 10 = .ok (.getfield 9, 3) := by decide +kernel
theorem dX3_clear_13 : decode cX3_clear 13 = .ok (.iload_n 1, 1) := by decide +kernel
theorem dX3_clear_14 : decode cX3_clear 14 = .ok (.iconst 0, 1) := by decide +kernel
theorem dX3_clear_15 : decode cX3_clear 15 = .ok (.iastore, 1) := by decide +kernel
theorem dX3_clear_16 : decode cX3_clear 16 = .ok (.iinc 1 1, 3) := by decide +kernel
theorem dX3_clear_19 : decode cX3_clear 19 = .ok (.goto (-17), 3) := by decide +kernel
theorem dX3_clear_22 : decode cX3_clear 22 = .ok (.return_, 1) := by decide +kernel
theorem dX3_balls_0 : decode cX3_balls 0 = .ok (.iconst 0, 1) := by decide +kernel
theorem dX3_balls_1 : decode cX3_balls 1 = .ok (.istore_n 1, 1) := by decide +kernel
theorem dX3_balls_2 : decode cX3_balls 2 = .ok (.iconst 0, 1) := by decide +kernel
theorem dX3_balls_3 : decode cX3_balls 3 = .ok (.istore_n 2, 1) := by decide +kernel
theorem dX3_balls_4 : decode cX3_balls 4 = .ok (.iload_n 2, 1) := by decide +kernel
theorem dX3_balls_5 : decode cX3_balls 5 = .ok (.sipush 240, 3) := by decide +kernel
theorem dX3_balls_8 : decode cX3_balls 8 = .ok (.if_icmp .ge 18, 3) := by decide +kernel
theorem dX3_balls_11 : decode cX3_balls 11 = .ok (.iload_n 1, 1) := by decide +kernel
theorem dX3_balls_12 : decode cX3_balls 12 = .ok (.aload_n 0, 1) := by decide +kernel
theorem dX3_balls_13 : decode cX3_balls 13 = .ok (.getfield 9, 3) := by decide +kernel
theorem dX3_balls_16 : decode cX3_balls 16 = .ok (.iload_n 2, 1) := by decide +kernel
theorem dX3_balls_17 : decode cX3_balls 17 = .ok (.iaload, 1) := by decide +kernel
theorem dX3_balls_18 : decode cX3_balls 18 = .ok (.iadd, 1) := by decide +kernel
theorem dX3_balls_19 : decode cX3_balls 19 = .ok (.istore_n 1, 1) := by decide +kernel
theorem dX3_balls_20 : decode cX3_balls 20 = .ok (.iinc 2 1, 3) := by decide +kernel
theorem dX3_balls_23 : decode cX3_balls 23 = .ok (.goto (-19), 3) := by decide +kernel
theorem dX3_balls_26 : decode cX3_balls 26 = .ok (.iload_n 1, 1) := by decide +kernel
theorem dX3_balls_27 : decode cX3_balls 27 = .ok (.ireturn, 1) := by decide +kernel
theorem dX3_firstBall_0 : decode cX3_firstBall 0 = .ok (.iconst 0, 1) := by decide +kernel
theorem dX3_firstBall_1 : decode cX3_firstBall 1 = .ok (.istore_n 1, 1) := by decide +kernel
theorem dX3_firstBall_2 : decode cX3_firstBall 2 = .ok (.iload_n 1, 1) := by decide +kernel
theorem dX3_firstBall_3 : decode cX3_firstBall 3 = .ok (.sipush 240, 3) := by decide +kernel
theorem dX3_firstBall_6 : decode cX3_firstBall 6 = .ok (.if_icmp .ge 20, 3) := by decide +kernel
theorem dX3_firstBall_9 : decode cX3_firstBall 9 = .ok (.aload_n 0, 1) := by decide +kernel
theorem dX3_firstBall_10 : decode cX3_firstBall 10 = .ok (.getfield 9, 3) := by decide +kernel
theorem dX3_firstBall_13 : decode cX3_firstBall 13 = .ok (.iload_n 1, 1) := by decide +kernel
theorem dX3_firstBall_14 : decode cX3_firstBall 14 = .ok (.iaload, 1) := by decide +kernel
theorem dX3_firstBall_15 : decode cX3_firstBall 15 = .ok (.ifCond .eq 5, 3) := by decide +kernel
theorem dX3_firstBall_18 : decode cX3_firstBall 18 = .ok (.iload_n 1, 1) := by decide +kernel
theorem dX3_firstBall_19 : decode cX3_firstBall 19 = .ok (.ireturn, 1) := by decide +kernel
theorem dX3_firstBall_20 : decode cX3_firstBall 20 = .ok (.iinc 1 1, 3) := by decide +kernel
theorem dX3_firstBall_23 : decode cX3_firstBall 23 = .ok (.goto (-21), 3) := by decide +kernel
theorem dX3_firstBall_26 : decode cX3_firstBall 26 = .ok (.iconst (-1), 1) := by decide +kernel
theorem dX3_firstBall_27 : decode cX3_firstBall 27 = .ok (.ireturn, 1) := by decide +kernel
theorem dX3_lastBall_0 : decode cX3_lastBall 0 = .ok (.sipush 239, 3) := by decide +kernel
theorem dX3_lastBall_3 : decode cX3_lastBall 3 = .ok (.istore_n 1, 1) := by decide +kernel
theorem dX3_lastBall_4 : decode cX3_lastBall 4 = .ok (.iload_n 1, 1) := by decide +kernel
theorem dX3_lastBall_5 : decode cX3_lastBall 5 = .ok (.ifCond .lt 20, 3) := by decide +kernel
theorem dX3_lastBall_8 : decode cX3_lastBall 8 = .ok (.aload_n 0, 1) := by decide +kernel
theorem dX3_lastBall_9 : decode cX3_lastBall 9 = .ok (.getfield 9, 3) := by decide +kernel
theorem dX3_lastBall_12 : decode cX3_lastBall 12 = .ok (.iload_n 1, 1) := by decide +kernel
theorem dX3_lastBall_13 : decode cX3_lastBall 13 = .ok (.iaload, 1) := by decide +kernel
theorem dX3_lastBall_14 : decode cX3_lastBall 14 = .ok (.ifCond .eq 5, 3) := by decide +kernel
theorem dX3_lastBall_17 : decode cX3_lastBall 17 = .ok (.iload_n 1, 1) := by decide +kernel
theorem dX3_lastBall_18 : decode cX3_lastBall 18 = .ok (.ireturn, 1) := by decide +kernel
theorem dX3_lastBall_19 : decode cX3_lastBall 19 = .ok (.iinc 1 (-1), 3) := by decide +kernel
theorem dX3_lastBall_22 : decode cX3_lastBall 22 = .ok (.goto (-18), 3) := by decide +kernel
theorem dX3_lastBall_25 : decode cX3_lastBall 25 = .ok (.iconst (-1), 1) := by decide +kernel
theorem dX3_lastBall_26 : decode cX3_lastBall 26 = .ok (.ireturn, 1) := by decide +kernel
set_option maxRecDepth 20000 in
theorem ggX3_bits_X3_ballAt : GoodIn wsX3_bits wsX3_ballAt := goodIn_r _ [5, 6, 7, 8, 9, 10, 11] (by decide +kernel) (by decide +kernel)
set_option maxRecDepth 20000 in
theorem gX3_bits_X3_ballAt : GoodIn wsX3_bits (wsV RX3 22 RX3 yX3_ballAt wsX3_ballAt) := goodIn_app (goodIn_of _ (by decide +kernel)) ggX3_bits_X3_ballAt
theorem dX3_bits_0 : decode cX3_bits 0 = .ok (.lconst 0, 1) := by decide +kernel
theorem dX3_bits_1 : decode cX3_bits 1 = .ok (.lstore_n 3, 1) := by decide +kernel
theorem dX3_bits_2 : decode cX3_bits 2 = .ok (.iconst 0, 1) := by decide +kernel
theorem dX3_bits_3 : decode cX3_bits 3 = .ok (.istore 5, 2) := by decide +kernel
theorem dX3_bits_5 : decode cX3_bits 5 = .ok (.iload 5, 2) := by decide +kernel
theorem dX3_bits_7 : decode cX3_bits 7 = .ok (.iload_n 2, 1) := by decide +kernel
theorem dX3_bits_8 : decode cX3_bits 8 = .ok (.if_icmp .ge 24, 3) := by decide +kernel
theorem dX3_bits_11 : decode cX3_bits 11 = .ok (.lload_n 3, 1) := by decide +kernel
theorem dX3_bits_12 : decode cX3_bits 12 = .ok (.aload_n 0, 1) := by decide +kernel
theorem dX3_bits_13 : decode cX3_bits 13 = .ok (.iload_n 1, 1) := by decide +kernel
theorem dX3_bits_14 : decode cX3_bits 14 = .ok (.iload 5, 2) := by decide +kernel
theorem dX3_bits_16 : decode cX3_bits 16 = .ok (.iadd, 1) := by decide +kernel
theorem dX3_bits_17 : decode cX3_bits 17 = .ok (.invokevirtual 22, 3) := by decide +kernel
theorem dX3_bits_20 : decode cX3_bits 20 = .ok (.i2l, 1) := by decide +kernel
theorem dX3_bits_21 : decode cX3_bits 21 = .ok (.iload 5, 2) := by decide +kernel
theorem dX3_bits_23 : decode cX3_bits 23 = .ok (.lshl, 1) := by decide +kernel
theorem dX3_bits_24 : decode cX3_bits 24 = .ok (.lor, 1) := by decide +kernel
theorem dX3_bits_25 : decode cX3_bits 25 = .ok (.lstore_n 3, 1) := by decide +kernel
theorem dX3_bits_26 : decode cX3_bits 26 = .ok (.iinc 5 1, 3) := by decide +kernel
theorem dX3_bits_29 : decode cX3_bits 29 = .ok (.goto (-24), 3) := by decide +kernel
theorem dX3_bits_32 : decode cX3_bits 32 = .ok (.lload_n 3, 1) := by decide +kernel
theorem dX3_bits_33 : decode cX3_bits 33 = .ok (.lreturn, 1) := by decide +kernel
set_option maxRecDepth 20000 in
theorem ggX3_takenBy_X6_loadBehind : GoodIn wsX3_takenBy wsX6_loadBehind := goodIn_r _ [4] (by decide +kernel) (by decide +kernel)
set_option maxRecDepth 20000 in
theorem gX3_takenBy_X6_loadBehind_n26 : GoodIn wsX3_takenBy (wsX6_loadBehind) := ggX3_takenBy_X6_loadBehind
theorem dX3_takenBy_0 : decode cX3_takenBy 0 = .ok (.iconst 0, 1) := by decide +kernel
theorem dX3_takenBy_1 : decode cX3_takenBy 1 = .ok (.istore_n 2, 1) := by decide +kernel
theorem dX3_takenBy_2 : decode cX3_takenBy 2 = .ok (.iconst 0, 1) := by decide +kernel
theorem dX3_takenBy_3 : decode cX3_takenBy 3 = .ok (.istore_n 3, 1) := by decide +kernel
theorem dX3_takenBy_4 : decode cX3_takenBy 4 = .ok (.iconst 0, 1) := by decide +kernel
theorem dX3_takenBy_5 : decode cX3_takenBy 5 = .ok (.istore 4, 2) := by decide +kernel
theorem dX3_takenBy_7 : decode cX3_takenBy 7 = .ok (.iload 4, 2) := by decide +kernel
theorem dX3_takenBy_9 : decode cX3_takenBy 9 = .ok (.sipush 240, 3) := by decide +kernel
theorem dX3_takenBy_12 : decode cX3_takenBy 12 = .ok (.if_icmp .ge 35, 3) := by decide +kernel
theorem dX3_takenBy_15 : decode cX3_takenBy 15 = .ok (.iload_n 3, 1) := by decide +kernel
theorem dX3_takenBy_16 : decode cX3_takenBy 16 = .ok (.aload_n 0, 1) := by decide +kernel
theorem dX3_takenBy_17 : decode cX3_takenBy 17 = .ok (.getfield 9, 3) := by decide +kernel
theorem dX3_takenBy_20 : decode cX3_takenBy 20 = .ok (.iload 4, 2) := by decide +kernel
theorem dX3_takenBy_22 : decode cX3_takenBy 22 = .ok (.iaload, 1) := by decide +kernel
theorem dX3_takenBy_23 : decode cX3_takenBy 23 = .ok (.iload_n 1, 1) := by decide +kernel
theorem dX3_takenBy_24 : decode cX3_takenBy 24 = .ok (.invokestatic 26, 3) := by decide +kernel
theorem dX3_takenBy_27 : decode cX3_takenBy 27 = .ok (.istore 5, 2) := by decide +kernel
theorem dX3_takenBy_29 : decode cX3_takenBy 29 = .ok (.iload 5, 2) := by decide +kernel
theorem dX3_takenBy_31 : decode cX3_takenBy 31 = .ok (.iload_n 3, 1) := by decide +kernel
theorem dX3_takenBy_32 : decode cX3_takenBy 32 = .ok (.if_icmp .le 6, 3) := by decide +kernel
theorem dX3_takenBy_35 : decode cX3_takenBy 35 = .ok (.iinc 2 1, 3) := by decide +kernel
theorem dX3_takenBy_38 : decode cX3_takenBy 38 = .ok (.iload 5, 2) := by decide +kernel
theorem dX3_takenBy_40 : decode cX3_takenBy 40 = .ok (.istore_n 3, 1) := by decide +kernel
theorem dX3_takenBy_41 : decode cX3_takenBy 41 = .ok (.iinc 4 1, 3) := by decide +kernel
theorem dX3_takenBy_44 : decode cX3_takenBy 44 = .ok (.goto (-37), 3) := by decide +kernel
theorem dX3_takenBy_47 : decode cX3_takenBy 47 = .ok (.iload_n 2, 1) := by decide +kernel
theorem dX3_takenBy_48 : decode cX3_takenBy 48 = .ok (.ireturn, 1) := by decide +kernel
set_option maxRecDepth 20000 in
theorem ggX3_makeByCarrier_X3_ballAt : GoodIn wsX3_makeByCarrier wsX3_ballAt := goodIn_r _ [5, 6, 7, 8, 9, 17, 18] (by decide +kernel) (by decide +kernel)
set_option maxRecDepth 20000 in
theorem gX3_makeByCarrier_X3_ballAt : GoodIn wsX3_makeByCarrier (wsV RX3 22 RX3 yX3_ballAt wsX3_ballAt) := goodIn_app (goodIn_of _ (by decide +kernel)) ggX3_makeByCarrier_X3_ballAt
set_option maxRecDepth 20000 in
theorem ggX3_makeByCarrier_X6_loadBehind : GoodIn wsX3_makeByCarrier wsX6_loadBehind := goodIn_r _ [11] (by decide +kernel) (by decide +kernel)
set_option maxRecDepth 20000 in
theorem gX3_makeByCarrier_X6_loadBehind_n26 : GoodIn wsX3_makeByCarrier (wsX6_loadBehind) := ggX3_makeByCarrier_X6_loadBehind
set_option maxRecDepth 20000 in
theorem ggX3_makeByCarrier_X3_makeBox : GoodIn wsX3_makeByCarrier wsX3_makeBox := goodIn_r _ [15, 16, 7, 8, 9, 17, 18] (by decide +kernel) (by decide +kernel)
set_option maxRecDepth 20000 in
theorem gX3_makeByCarrier_X3_makeBox : GoodIn wsX3_makeByCarrier (wsV RX3 30 RX3 yX3_makeBox wsX3_makeBox) := goodIn_app (goodIn_of _ (by decide +kernel)) ggX3_makeByCarrier_X3_makeBox
theorem dX3_makeByCarrier_0 : decode cX3_makeByCarrier 0 = .ok (.iconst 0, 1) := by decide +kernel
theorem dX3_makeByCarrier_1 : decode cX3_makeByCarrier 1 = .ok (.istore_n 3, 1) := by decide +kernel
theorem dX3_makeByCarrier_2 : decode cX3_makeByCarrier 2 = .ok (.iconst 0, 1) := by decide +kernel
theorem dX3_makeByCarrier_3 : decode cX3_makeByCarrier 3 = .ok (.istore 4, 2) := by decide +kernel
theorem dX3_makeByCarrier_5 : decode cX3_makeByCarrier 5 = .ok (.iload 4, 2) := by decide +kernel
theorem dX3_makeByCarrier_7 : decode cX3_makeByCarrier 7 = .ok (.sipush 240, 3) := by decide +kernel
theorem dX3_makeByCarrier_10 : decode cX3_makeByCarrier 10 = .ok (.if_icmp .ge 59, 3) := by decide +kernel
theorem dX3_makeByCarrier_13 : decode cX3_makeByCarrier 13 = .ok (.iload_n 2, 1) := by decide +kernel
theorem dX3_makeByCarrier_14 : decode cX3_makeByCarrier 14 = .ok (.ifCond .eq 8, 3) := by decide +kernel
theorem dX3_makeByCarrier_17 : decode cX3_makeByCarrier 17 = .ok (.iload 4, 2) := by decide +kernel
theorem dX3_makeByCarrier_19 : decode cX3_makeByCarrier 19 = .ok (.goto 9, 3) := by decide +kernel
theorem dX3_makeByCarrier_22 : decode cX3_makeByCarrier 22 = .ok (.sipush 239, 3) := by decide +kernel
theorem dX3_makeByCarrier_25 : decode cX3_makeByCarrier 25 = .ok (.iload 4, 2) := by decide +kernel
theorem dX3_makeByCarrier_27 : decode cX3_makeByCarrier 27 = .ok (.isub, 1) := by decide +kernel
theorem dX3_makeByCarrier_28 : decode cX3_makeByCarrier 28 = .ok (.istore 5, 2) := by decide +kernel
theorem dX3_makeByCarrier_30 : decode cX3_makeByCarrier 30 = .ok (.aload_n 0, 1) := by decide +kernel
theorem dX3_makeByCarrier_31 : decode cX3_makeByCarrier 31 = .ok (.iload 5, 2) := by decide +kernel
theorem dX3_makeByCarrier_33 : decode cX3_makeByCarrier 33 = .ok (.invokevirtual 22, 3) := by decide +kernel
theorem dX3_makeByCarrier_36 : decode cX3_makeByCarrier 36 = .ok (.istore 6, 2) := by decide +kernel
theorem dX3_makeByCarrier_38 : decode cX3_makeByCarrier 38 = .ok (.iload_n 3, 1) := by decide +kernel
theorem dX3_makeByCarrier_39 : decode cX3_makeByCarrier 39 = .ok (.iload 6, 2) := by decide +kernel
theorem dX3_makeByCarrier_41 : decode cX3_makeByCarrier 41 = .ok (.iload_n 1, 1) := by decide +kernel
theorem dX3_makeByCarrier_42 : decode cX3_makeByCarrier 42 = .ok (.invokestatic 26, 3) := by decide +kernel
theorem dX3_makeByCarrier_45 : decode cX3_makeByCarrier 45 = .ok (.istore 7, 2) := by decide +kernel
theorem dX3_makeByCarrier_47 : decode cX3_makeByCarrier 47 = .ok (.aload_n 0, 1) := by decide +kernel
theorem dX3_makeByCarrier_48 : decode cX3_makeByCarrier 48 = .ok (.iload 5, 2) := by decide +kernel
