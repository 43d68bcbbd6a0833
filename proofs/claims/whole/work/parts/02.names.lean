theorem goodIn_r {big : List Cond} (ws : List Cond) (ps : List Nat) (hp : ws = ps.filterMap (fun i => big[i]?)) (h : ws.all goodWord = true) : GoodIn big ws := by
  intro w hw
  have h1 := List.all_eq_true.mp h w hw
  rw [hp] at hw
  obtain ⟨i, -, hi⟩ := List.mem_filterMap.mp hw
  have hm : w ∈ big := by first | exact List.mem_of_getElem? hi | exact List.getElem?_mem hi
  exact ⟨hm, good_of_word h1⟩
theorem goodIn_app {big a b : List Cond} (ha : GoodIn big a) (hb : GoodIn big b) : GoodIn big (a ++ b) := fun w h => (List.mem_append.mp h).elim (ha w) (hb w)
theorem goodIn_ca {big a b : List Cond} {c : Cond} (ha : GoodIn big (c :: a)) (hb : GoodIn big b) : GoodIn big (c :: (a ++ b)) := fun w h => (List.mem_cons.mp h).elim (fun e => ha w (List.mem_cons.mpr (Or.inl e))) (fun h => (List.mem_append.mp h).elim (fun h => ha w (List.mem_cons.mpr (Or.inr h))) (hb w))
theorem goodIn_sub {big ws : List Cond} (hm : ∀ w ∈ ws, w ∈ big) (h : ws.all goodWord = true) : GoodIn big ws := fun w hw => ⟨hm w hw, good_of_word (List.all_eq_true.mp h w hw)⟩
def RX0 : String := "SkittleMen$Alley"
def TX0 : u_T := fun k => match k with
  | 0 => ("SkittleMen$Alley", "men", "[LSkittleMen$Man;", true)
  | 1 => ("SkittleMen$Alley", "size", "I", false)
  | 2 => ("SkittleMen$Alley", "fell", "I", false)
  | 3 => ("SkittleMen$Alley", "setUps", "I", false)
  | 4 => ("SkittleMen$Alley", "goesSince", "I", false)
  | 5 => ("SkittleMen$Alley", "theGo", "I", false)
  | 6 => ("SkittleMen$Alley", "z", "I", false)
  | 7 => ("SkittleMen$Alley", "texts", "[LSkittleMen$Text;", true)
  | 8 => ("SkittleMen$Alley", "textSize", "I", false)
  | _ => ("SkittleMen$Alley", "counting", "[I", true)
def tyX0 : Nat → FieldType := fun k => match k with
  | 0 => .array (.object "SkittleMen$Man")
  | 1 => .int
  | 2 => .int
  | 3 => .int
  | 4 => .int
  | 5 => .int
  | 6 => .int
  | 7 => .array (.object "SkittleMen$Text")
  | 8 => .int
  | _ => .array .int
abbrev wsX00 : List Cond := u_ws RX0 TX0 10
theorem nmX0 : ∀ a, a < 10 → ∀ b, b < 10 → a ≠ b → (TX0 a).2.1 ≠ (TX0 b).2.1 := by decide +kernel
theorem tyX0_ok : ∀ k, k < 10 → parseFieldDescriptor (TX0 k).2.2.1 = some (tyX0 k) := by decide +kernel
abbrev cX0_init : ByteArray := prog_2_method_1_code
def yX0_init : MethodName := ⟨RX0, "<init>", "()V"⟩
abbrev cX0_becomeAs : ByteArray := prog_2_method_2_code
def yX0_becomeAs : MethodName := ⟨RX0, "becomeAs", "(LSkittleMen$Alley;)V"⟩
abbrev cX0_has : ByteArray := prog_2_method_3_code
def yX0_has : MethodName := ⟨RX0, "has", "(I)Z"⟩
abbrev cX0_stands : ByteArray := prog_2_method_4_code
def yX0_stands : MethodName := ⟨RX0, "stands", "(I)Z"⟩
abbrev cX0_standing : ByteArray := prog_2_method_5_code
def yX0_standing : MethodName := ⟨RX0, "standing", "()I"⟩
abbrev cX0_standingSet : ByteArray := prog_2_method_6_code
def yX0_standingSet : MethodName := ⟨RX0, "standingSet", "()I"⟩
abbrev cX0_nerveOfAll : ByteArray := prog_2_method_7_code
def yX0_nerveOfAll : MethodName := ⟨RX0, "nerveOfAll", "()I"⟩
abbrev cX0_mostFelled : ByteArray := prog_2_method_8_code
def yX0_mostFelled : MethodName := ⟨RX0, "mostFelled", "()I"⟩
abbrev cX0_draw : ByteArray := prog_2_method_9_code
def yX0_draw : MethodName := ⟨RX0, "draw", "()I"⟩
abbrev cX0_takeByLot : ByteArray := prog_2_method_10_code
def yX0_takeByLot : MethodName := ⟨RX0, "takeByLot", "()V"⟩
abbrev cX0_take : ByteArray := prog_2_method_11_code
def yX0_take : MethodName := ⟨RX0, "take", "(IIII)I"⟩
abbrev cX0_takeText : ByteArray := prog_2_method_12_code
def yX0_takeText : MethodName := ⟨RX0, "takeText", "(LSkittleMen$Text;)I"⟩
abbrev cX0_counted : ByteArray := prog_2_method_13_code
def yX0_counted : MethodName := ⟨RX0, "counted", "(I)LSkittleMen$Text;"⟩
abbrev cX0_plainBearing : ByteArray := prog_2_method_14_code
def yX0_plainBearing : MethodName := ⟨RX0, "plainBearing", "(II)I"⟩
abbrev cX0_bearing : ByteArray := prog_2_method_15_code
def yX0_bearing : MethodName := ⟨RX0, "bearing", "(II)I"⟩
abbrev cX0_hit : ByteArray := prog_2_method_16_code
def yX0_hit : MethodName := ⟨RX0, "hit", "(IIIII)V"⟩
abbrev cX0_setUp : ByteArray := prog_2_method_17_code
def yX0_setUp : MethodName := ⟨RX0, "setUp", "()V"⟩
abbrev cX0_goOn : ByteArray := prog_2_method_18_code
def yX0_goOn : MethodName := ⟨RX0, "goOn", "(I)V"⟩
abbrev cX0_goOnce : ByteArray := prog_2_method_19_code
def yX0_goOnce : MethodName := ⟨RX0, "goOnce", "()V"⟩
abbrev cX0_firstStandingFrom : ByteArray := prog_2_method_20_code
def yX0_firstStandingFrom : MethodName := ⟨RX0, "firstStandingFrom", "(I)I"⟩
abbrev cX0_moveNerves : ByteArray := prog_2_method_21_code
def yX0_moveNerves : MethodName := ⟨RX0, "moveNerves", "()V"⟩
def RX1 : String := "SkittleMen$Man"
def TX1 : u_T := fun k => match k with
  | 0 => ("SkittleMen$Man", "kind", "I", false)
  | 1 => ("SkittleMen$Man", "nerve", "I", false)
  | 2 => ("SkittleMen$Man", "weight", "I", false)
  | 3 => ("SkittleMen$Man", "sore", "I", false)
  | 4 => ("SkittleMen$Man", "felled", "I", false)
  | _ => ("SkittleMen$Man", "down", "Z", false)
def tyX1 : Nat → FieldType := fun k => match k with
  | 0 => .int
  | 1 => .int
  | 2 => .int
  | 3 => .int
  | 4 => .int
  | _ => .boolean
abbrev wsX10 : List Cond := u_ws RX1 TX1 6
theorem nmX1 : ∀ a, a < 6 → ∀ b, b < 6 → a ≠ b → (TX1 a).2.1 ≠ (TX1 b).2.1 := by decide +kernel
theorem tyX1_ok : ∀ k, k < 6 → parseFieldDescriptor (TX1 k).2.2.1 = some (tyX1 k) := by decide +kernel
abbrev cX1_init : ByteArray := prog_3_method_1_code
def yX1_init : MethodName := ⟨RX1, "<init>", "()V"⟩
abbrev cX1_becomeAs : ByteArray := prog_3_method_2_code
def yX1_becomeAs : MethodName := ⟨RX1, "becomeAs", "(LSkittleMen$Man;)V"⟩
abbrev cX1_isOf : ByteArray := prog_3_method_3_code
def yX1_isOf : MethodName := ⟨RX1, "isOf", "(I)Z"⟩
abbrev cX1_bearing : ByteArray := prog_3_method_4_code
def yX1_bearing : MethodName := ⟨RX1, "bearing", "(III)I"⟩
abbrev cX1_pushing : ByteArray := prog_3_method_5_code
def yX1_pushing : MethodName := ⟨RX1, "pushing", "()I"⟩
abbrev cX1_worth : ByteArray := prog_3_method_6_code
def yX1_worth : MethodName := ⟨RX1, "worth", "()I"⟩
def RX2 : String := "SkittleMen$Search"
def TX2 : u_T := fun k => match k with
  | 0 => ("SkittleMen$Search", "bearings", "[I", true)
  | 1 => ("SkittleMen$Search", "pushings", "[I", true)
  | 2 => ("SkittleMen$Search", "steps", "[I", true)
  | 3 => ("SkittleMen$Search", "queue", "[I", true)
  | 4 => ("SkittleMen$Search", "queued", "I", false)
  | 5 => ("SkittleMen$Search", "start", "I", false)
  | 6 => ("SkittleMen$Search", "force", "I", false)
  | 7 => ("SkittleMen$Search", "bestFallen", "I", false)
  | 8 => ("SkittleMen$Search", "bestMan", "I", false)
  | 9 => ("SkittleMen$Search", "bestTopic", "I", false)
  | _ => ("SkittleMen$Search", "bestTurn", "I", false)
def tyX2 : Nat → FieldType := fun k => match k with
  | 0 => .array .int
  | 1 => .array .int
  | 2 => .array .int
  | 3 => .array .int
  | 4 => .int
  | 5 => .int
  | 6 => .int
  | 7 => .int
  | 8 => .int
  | 9 => .int
  | _ => .int
abbrev wsX20 : List Cond := u_ws RX2 TX2 11
theorem nmX2 : ∀ a, a < 11 → ∀ b, b < 11 → a ≠ b → (TX2 a).2.1 ≠ (TX2 b).2.1 := by decide +kernel
theorem tyX2_ok : ∀ k, k < 11 → parseFieldDescriptor (TX2 k).2.2.1 = some (tyX2 k) := by decide +kernel
abbrev cX2_init : ByteArray := prog_4_method_1_code
def yX2_init : MethodName := ⟨RX2, "<init>", "()V"⟩
abbrev cX2_lookAt : ByteArray := prog_4_method_2_code
def yX2_lookAt : MethodName := ⟨RX2, "lookAt", "(LSkittleMen$Alley;I)V"⟩
abbrev cX2_writeBearings : ByteArray := prog_4_method_3_code
def yX2_writeBearings : MethodName := ⟨RX2, "writeBearings", "(LSkittleMen$Alley;II)V"⟩
abbrev cX2_bearingPlace : ByteArray := prog_4_method_4_code
def yX2_bearingPlace : MethodName := ⟨RX2, "bearingPlace", "(III)I"⟩
abbrev cX2_isIn : ByteArray := prog_4_method_5_code
def yX2_isIn : MethodName := ⟨RX2, "isIn", "(II)Z"⟩
abbrev cX2_fallsBy : ByteArray := prog_4_method_6_code
def yX2_fallsBy : MethodName := ⟨RX2, "fallsBy", "(IIII)Z"⟩
abbrev cX2_leftBehind : ByteArray := prog_4_method_7_code
def yX2_leftBehind : MethodName := ⟨RX2, "leftBehind", "(IIIII)I"⟩
abbrev cX2_findBest : ByteArray := prog_4_method_8_code
def yX2_findBest : MethodName := ⟨RX2, "findBest", "()V"⟩
abbrev cX2_offer : ByteArray := prog_4_method_9_code
def yX2_offer : MethodName := ⟨RX2, "offer", "(IIII)V"⟩
abbrev cX2_mostByTwo : ByteArray := prog_4_method_10_code
def yX2_mostByTwo : MethodName := ⟨RX2, "mostByTwo", "()I"⟩
abbrev cX2_fewestForAll : ByteArray := prog_4_method_11_code
def yX2_fewestForAll : MethodName := ⟨RX2, "fewestForAll", "()I"⟩
abbrev cX2_startQueue : ByteArray := prog_4_method_12_code
def yX2_startQueue : MethodName := ⟨RX2, "startQueue", "()V"⟩
abbrev cX2_queueAllBehind : ByteArray := prog_4_method_13_code
def yX2_queueAllBehind : MethodName := ⟨RX2, "queueAllBehind", "(I)V"⟩
abbrev cX2_enqueue : ByteArray := prog_4_method_14_code
def yX2_enqueue : MethodName := ⟨RX2, "enqueue", "(II)V"⟩
def RX3 : String := "SkittleMen$Sheet"
def TX3 : u_T := fun k => match k with
  | 0 => ("SkittleMen$Sheet", "sort", "I", false)
  | 1 => ("SkittleMen$Sheet", "size", "I", false)
  | _ => ("SkittleMen$Sheet", "places", "[I", true)
def tyX3 : Nat → FieldType := fun k => match k with
  | 0 => .int
  | 1 => .int
  | _ => .array .int
abbrev wsX30 : List Cond := u_ws RX3 TX3 3
theorem nmX3 : ∀ a, a < 3 → ∀ b, b < 3 → a ≠ b → (TX3 a).2.1 ≠ (TX3 b).2.1 := by decide +kernel
theorem tyX3_ok : ∀ k, k < 3 → parseFieldDescriptor (TX3 k).2.2.1 = some (tyX3 k) := by decide +kernel
abbrev cX3_init : ByteArray := prog_5_method_1_code
def yX3_init : MethodName := ⟨RX3, "<init>", "()V"⟩
abbrev cX3_becomeRow : ByteArray := prog_5_method_2_code
def yX3_becomeRow : MethodName := ⟨RX3, "becomeRow", "(II)V"⟩
abbrev cX3_becomeAs : ByteArray := prog_5_method_3_code
def yX3_becomeAs : MethodName := ⟨RX3, "becomeAs", "(LSkittleMen$Sheet;)V"⟩
abbrev cX3_isMissing : ByteArray := prog_5_method_4_code
def yX3_isMissing : MethodName := ⟨RX3, "isMissing", "()Z"⟩
abbrev cX3_has : ByteArray := prog_5_method_5_code
def yX3_has : MethodName := ⟨RX3, "has", "(I)Z"⟩
abbrev cX3_hasRun : ByteArray := prog_5_method_6_code
def yX3_hasRun : MethodName := ⟨RX3, "hasRun", "(II)Z"⟩
abbrev cX3_isNumber : ByteArray := prog_5_method_7_code
def yX3_isNumber : MethodName := ⟨RX3, "isNumber", "(I)Z"⟩
def RX4 : String := "SkittleMen$Slot"
def TX4 : u_T := fun k => match k with
  | 0 => ("SkittleMen$Slot", "thing", "I", false)
  | 1 => ("SkittleMen$Slot", "man", "LSkittleMen$Man;", true)
  | 2 => ("SkittleMen$Slot", "row", "LSkittleMen$Sheet;", true)
  | _ => ("SkittleMen$Slot", "number", "I", false)
def tyX4 : Nat → FieldType := fun k => match k with
  | 0 => .int
  | 1 => .object "SkittleMen$Man"
  | 2 => .object "SkittleMen$Sheet"
  | _ => .int
abbrev wsX40 : List Cond := u_ws RX4 TX4 4
theorem nmX4 : ∀ a, a < 4 → ∀ b, b < 4 → a ≠ b → (TX4 a).2.1 ≠ (TX4 b).2.1 := by decide +kernel
theorem tyX4_ok : ∀ k, k < 4 → parseFieldDescriptor (TX4 k).2.2.1 = some (tyX4 k) := by decide +kernel
abbrev cX4_init : ByteArray := prog_6_method_1_code
def yX4_init : MethodName := ⟨RX4, "<init>", "()V"⟩
def RX5 : String := "SkittleMen$Tape"
def TX5 : u_T := fun k => match k with
  | 0 => ("SkittleMen$Tape", "bytes", "[B", true)
  | _ => ("SkittleMen$Tape", "size", "I", false)
def tyX5 : Nat → FieldType := fun k => match k with
  | 0 => .array .byte
  | _ => .int
abbrev wsX50 : List Cond := u_ws RX5 TX5 2
theorem nmX5 : ∀ a, a < 2 → ∀ b, b < 2 → a ≠ b → (TX5 a).2.1 ≠ (TX5 b).2.1 := by decide +kernel
theorem tyX5_ok : ∀ k, k < 2 → parseFieldDescriptor (TX5 k).2.2.1 = some (tyX5 k) := by decide +kernel
abbrev cX5_init : ByteArray := prog_7_method_1_code
def yX5_init : MethodName := ⟨RX5, "<init>", "()V"⟩
abbrev cX5_put : ByteArray := prog_7_method_2_code
def yX5_put : MethodName := ⟨RX5, "put", "(I)V"⟩
def RX6 : String := "SkittleMen$Text"
def TX6 : u_T := fun k => match k with
  | 0 => ("SkittleMen$Text", "key", "I", true)
  | 1 => ("SkittleMen$Text", "pieces", "I", true)
  | 2 => ("SkittleMen$Text", "code", "[I", true)
  | _ => ("SkittleMen$Text", "stack", "[I", true)
def tyX6 : Nat → FieldType := fun k => match k with
  | 0 => .int
  | 1 => .int
  | 2 => .array .int
  | _ => .array .int
abbrev wsX60 : List Cond := u_ws RX6 TX6 4
theorem nmX6 : ∀ a, a < 4 → ∀ b, b < 4 → a ≠ b → (TX6 a).2.1 ≠ (TX6 b).2.1 := by decide +kernel
theorem tyX6_ok : ∀ k, k < 4 → parseFieldDescriptor (TX6 k).2.2.1 = some (tyX6 k) := by decide +kernel
abbrev cX6_init : ByteArray := prog_8_method_1_code
def yX6_init : MethodName := ⟨RX6, "<init>", "(II[I)V"⟩
abbrev cX6_gives : ByteArray := prog_8_method_2_code
def yX6_gives : MethodName := ⟨RX6, "gives", "(IIII)I"⟩
abbrev cX6_chosen : ByteArray := prog_8_method_3_code
def yX6_chosen : MethodName := ⟨RX6, "chosen", "(IIIII)I"⟩
abbrev cX6_joined : ByteArray := prog_8_method_4_code
def yX6_joined : MethodName := ⟨RX6, "joined", "(III)I"⟩
def RX7 : String := "SkittleMen$TextReader"
def TX7 : u_T := fun k => match k with
  | 0 => ("SkittleMen$TextReader", "tape", "LSkittleMen$Tape;", true)
  | 1 => ("SkittleMen$TextReader", "sort", "I", false)
  | 2 => ("SkittleMen$TextReader", "start", "I", false)
  | 3 => ("SkittleMen$TextReader", "end", "I", false)
  | 4 => ("SkittleMen$TextReader", "glued", "Z", false)
  | 5 => ("SkittleMen$TextReader", "wantsPiece", "Z", false)
  | 6 => ("SkittleMen$TextReader", "key", "I", false)
  | 7 => ("SkittleMen$TextReader", "pieces", "I", false)
  | 8 => ("SkittleMen$TextReader", "parens", "I", false)
  | 9 => ("SkittleMen$TextReader", "bangs", "I", false)
  | 10 => ("SkittleMen$TextReader", "signs", "[I", true)
  | 11 => ("SkittleMen$TextReader", "signSize", "I", false)
  | 12 => ("SkittleMen$TextReader", "code", "[I", true)
  | _ => ("SkittleMen$TextReader", "codeSize", "I", false)
def tyX7 : Nat → FieldType := fun k => match k with
  | 0 => .object "SkittleMen$Tape"
  | 1 => .int
  | 2 => .int
  | 3 => .int
  | 4 => .boolean
  | 5 => .boolean
  | 6 => .int
  | 7 => .int
  | 8 => .int
  | 9 => .int
  | 10 => .array .int
  | 11 => .int
  | 12 => .array .int
  | _ => .int
abbrev wsX70 : List Cond := u_ws RX7 TX7 14
theorem nmX7 : ∀ a, a < 14 → ∀ b, b < 14 → a ≠ b → (TX7 a).2.1 ≠ (TX7 b).2.1 := by decide +kernel
theorem tyX7_ok : ∀ k, k < 14 → parseFieldDescriptor (TX7 k).2.2.1 = some (tyX7 k) := by decide +kernel
abbrev cX7_init : ByteArray := prog_9_method_1_code
def yX7_init : MethodName := ⟨RX7, "<init>", "()V"⟩
abbrev cX7_faultFound : ByteArray := prog_9_method_2_code
def yX7_faultFound : MethodName := ⟨RX7, "faultFound", "()I"⟩
abbrev cX7_startAgain : ByteArray := prog_9_method_3_code
def yX7_startAgain : MethodName := ⟨RX7, "startAgain", "()V"⟩
abbrev cX7_made : ByteArray := prog_9_method_4_code
def yX7_made : MethodName := ⟨RX7, "made", "()LSkittleMen$Text;"⟩
abbrev cX7_nextWord : ByteArray := prog_9_method_5_code
def yX7_nextWord : MethodName := ⟨RX7, "nextWord", "()V"⟩
abbrev cX7_isWord : ByteArray := prog_9_method_6_code
def yX7_isWord : MethodName := ⟨RX7, "isWord", "()Z"⟩
abbrev cX7_byteAt : ByteArray := prog_9_method_7_code
def yX7_byteAt : MethodName := ⟨RX7, "byteAt", "(I)I"⟩
abbrev cX7_sortAt : ByteArray := prog_9_method_8_code
def yX7_sortAt : MethodName := ⟨RX7, "sortAt", "(I)I"⟩
abbrev cX7_keyRead : ByteArray := prog_9_method_9_code
def yX7_keyRead : MethodName := ⟨RX7, "keyRead", "()I"⟩
abbrev cX7_wordOf : ByteArray := prog_9_method_10_code
def yX7_wordOf : MethodName := ⟨RX7, "wordOf", "(I)Ljava/lang/String;"⟩
abbrev cX7_namesOf : ByteArray := prog_9_method_11_code
def yX7_namesOf : MethodName := ⟨RX7, "namesOf", "(I)Ljava/lang/String;"⟩
abbrev cX7_isRead : ByteArray := prog_9_method_12_code
def yX7_isRead : MethodName := ⟨RX7, "isRead", "(Ljava/lang/String;)Z"⟩
abbrev cX7_takesPiece : ByteArray := prog_9_method_13_code
def yX7_takesPiece : MethodName := ⟨RX7, "takesPiece", "()Z"⟩
abbrev cX7_numberRead : ByteArray := prog_9_method_14_code
def yX7_numberRead : MethodName := ⟨RX7, "numberRead", "()I"⟩
abbrev cX7_takesValue : ByteArray := prog_9_method_15_code
def yX7_takesValue : MethodName := ⟨RX7, "takesValue", "(I)Z"⟩
abbrev cX7_endPiece : ByteArray := prog_9_method_16_code
def yX7_endPiece : MethodName := ⟨RX7, "endPiece", "()V"⟩
abbrev cX7_takesJoining : ByteArray := prog_9_method_17_code
def yX7_takesJoining : MethodName := ⟨RX7, "takesJoining", "()Z"⟩
abbrev cX7_closeParen : ByteArray := prog_9_method_18_code
def yX7_closeParen : MethodName := ⟨RX7, "closeParen", "()V"⟩
abbrev cX7_tightnessOf : ByteArray := prog_9_method_19_code
def yX7_tightnessOf : MethodName := ⟨RX7, "tightnessOf", "(I)I"⟩
abbrev cX7_pushes : ByteArray := prog_9_method_20_code
def yX7_pushes : MethodName := ⟨RX7, "pushes", "(I)Z"⟩
abbrev cX7_popSignsFrom : ByteArray := prog_9_method_21_code
def yX7_popSignsFrom : MethodName := ⟨RX7, "popSignsFrom", "(I)V"⟩
abbrev cX7_popSign : ByteArray := prog_9_method_22_code
def yX7_popSign : MethodName := ⟨RX7, "popSign", "()V"⟩
abbrev cX7_emit : ByteArray := prog_9_method_23_code
def yX7_emit : MethodName := ⟨RX7, "emit", "(I)V"⟩
def RX8 : String := "SkittleMen"
def TX8 : u_T := fun k => match k with
  | 0 => ("SkittleMen", "now", "LSkittleMen$Alley;", true)
  | 1 => ("SkittleMen", "image", "LSkittleMen$Alley;", true)
  | 2 => ("SkittleMen", "thought", "LSkittleMen$Alley;", true)
  | 3 => ("SkittleMen", "kept", "Z", false)
  | 4 => ("SkittleMen", "search", "LSkittleMen$Search;", true)
  | 5 => ("SkittleMen", "reader", "LSkittleMen$TextReader;", true)
  | 6 => ("SkittleMen", "tape", "LSkittleMen$Tape;", true)
  | 7 => ("SkittleMen", "sheets", "[LSkittleMen$Sheet;", true)
  | 8 => ("SkittleMen", "slots", "[LSkittleMen$Slot;", true)
  | 9 => ("SkittleMen", "waiting", "[I", true)
  | 10 => ("SkittleMen", "waits", "I", false)
  | _ => ("SkittleMen", "differences", "[I", true)
def tyX8 : Nat → FieldType := fun k => match k with
  | 0 => .object "SkittleMen$Alley"
  | 1 => .object "SkittleMen$Alley"
  | 2 => .object "SkittleMen$Alley"
  | 3 => .boolean
  | 4 => .object "SkittleMen$Search"
  | 5 => .object "SkittleMen$TextReader"
  | 6 => .object "SkittleMen$Tape"
  | 7 => .array (.object "SkittleMen$Sheet")
  | 8 => .array (.object "SkittleMen$Slot")
  | 9 => .array .int
  | 10 => .int
  | _ => .array .int
abbrev wsX80 : List Cond := u_ws RX8 TX8 12
theorem nmX8 : ∀ a, a < 12 → ∀ b, b < 12 → a ≠ b → (TX8 a).2.1 ≠ (TX8 b).2.1 := by decide +kernel
theorem tyX8_ok : ∀ k, k < 12 → parseFieldDescriptor (TX8 k).2.2.1 = some (tyX8 k) := by decide +kernel
abbrev cX8_init : ByteArray := prog_1_method_1_code
def yX8_init : MethodName := ⟨RX8, "<init>", "()V"⟩
abbrev cX8_man : ByteArray := prog_1_method_2_code
def yX8_man : MethodName := ⟨RX8, "man", "(IIII)I"⟩
abbrev cX8_told : ByteArray := prog_1_method_3_code
def yX8_told : MethodName := ⟨RX8, "told", "(II)I"⟩
abbrev cX8_bears : ByteArray := prog_1_method_4_code
def yX8_bears : MethodName := ⟨RX8, "bears", "(II)I"⟩
abbrev cX8_as : ByteArray := prog_1_method_5_code
def yX8_as : MethodName := ⟨RX8, "as", "(II)I"⟩
abbrev cX8_turns : ByteArray := prog_1_method_6_code
def yX8_turns : MethodName := ⟨RX8, "turns", "(II)I"⟩
abbrev cX8_set : ByteArray := prog_1_method_7_code
def yX8_set : MethodName := ⟨RX8, "set", "(III)I"⟩
abbrev cX8_mostOf : ByteArray := prog_1_method_8_code
def yX8_mostOf : MethodName := ⟨RX8, "mostOf", "(I)I"⟩
abbrev cX8_says : ByteArray := prog_1_method_9_code
def yX8_says : MethodName := ⟨RX8, "says", "(IIII)I"⟩
abbrev cX8_sets : ByteArray := prog_1_method_10_code
def yX8_sets : MethodName := ⟨RX8, "sets", "()I"⟩
abbrev cX8_deal : ByteArray := prog_1_method_11_code
def yX8_deal : MethodName := ⟨RX8, "deal", "(I)I"⟩
abbrev cX8_seed : ByteArray := prog_1_method_12_code
def yX8_seed : MethodName := ⟨RX8, "seed", "(I)I"⟩
abbrev cX8_goes : ByteArray := prog_1_method_13_code
def yX8_goes : MethodName := ⟨RX8, "goes", "(I)I"⟩
abbrev cX8_alley : ByteArray := prog_1_method_14_code
def yX8_alley : MethodName := ⟨RX8, "alley", "(I)I"⟩
abbrev cX8_best : ByteArray := prog_1_method_15_code
def yX8_best : MethodName := ⟨RX8, "best", "(II)I"⟩
abbrev cX8_pair : ByteArray := prog_1_method_16_code
def yX8_pair : MethodName := ⟨RX8, "pair", "(I)I"⟩
abbrev cX8_clear : ByteArray := prog_1_method_17_code
def yX8_clear : MethodName := ⟨RX8, "clear", "(I)I"⟩
abbrev cX8_force : ByteArray := prog_1_method_18_code
def yX8_force : MethodName := ⟨RX8, "force", "(II)I"⟩
abbrev cX8_behind : ByteArray := prog_1_method_19_code
def yX8_behind : MethodName := ⟨RX8, "behind", "(II)I"⟩
abbrev cX8_falls : ByteArray := prog_1_method_20_code
def yX8_falls : MethodName := ⟨RX8, "falls", "(I)I"⟩
abbrev cX8_becomes : ByteArray := prog_1_method_21_code
def yX8_becomes : MethodName := ⟨RX8, "becomes", "(III)I"⟩
abbrev cX8_like : ByteArray := prog_1_method_22_code
def yX8_like : MethodName := ⟨RX8, "like", "(II)I"⟩
abbrev cX8_addDifferences : ByteArray := prog_1_method_23_code
def yX8_addDifferences : MethodName := ⟨RX8, "addDifferences", "(LSkittleMen$Sheet;)V"⟩
abbrev cX8_fee : ByteArray := prog_1_method_24_code
def yX8_fee : MethodName := ⟨RX8, "fee", "()I"⟩
abbrev cX8_fine : ByteArray := prog_1_method_25_code
def yX8_fine : MethodName := ⟨RX8, "fine", "(I)I"⟩
abbrev cX8_feed : ByteArray := prog_1_method_26_code
def yX8_feed : MethodName := ⟨RX8, "feed", "(III)I"⟩
abbrev cX8_trim : ByteArray := prog_1_method_27_code
def yX8_trim : MethodName := ⟨RX8, "trim", "(I)I"⟩
abbrev cX8_text : ByteArray := prog_1_method_28_code
def yX8_text : MethodName := ⟨RX8, "text", "()I"⟩
abbrev cX8_textTold : ByteArray := prog_1_method_29_code
def yX8_textTold : MethodName := ⟨RX8, "textTold", "(II)I"⟩
abbrev cX8_why : ByteArray := prog_1_method_30_code
def yX8_why : MethodName := ⟨RX8, "why", "(I)I"⟩
abbrev cX8_sheet : ByteArray := prog_1_method_31_code
def yX8_sheet : MethodName := ⟨RX8, "sheet", "(III)I"⟩
abbrev cX8_mark : ByteArray := prog_1_method_32_code
def yX8_mark : MethodName := ⟨RX8, "mark", "(III)I"⟩
abbrev cX8_pour : ByteArray := prog_1_method_33_code
def yX8_pour : MethodName := ⟨RX8, "pour", "(I)I"⟩
abbrev cX8_reads : ByteArray := prog_1_method_34_code
def yX8_reads : MethodName := ⟨RX8, "reads", "(I)I"⟩
abbrev cX8_copy : ByteArray := prog_1_method_35_code
def yX8_copy : MethodName := ⟨RX8, "copy", "(IIIII)I"⟩
abbrev cX8_lay : ByteArray := prog_1_method_36_code
def yX8_lay : MethodName := ⟨RX8, "lay", "(III)I"⟩
abbrev cX8_ask : ByteArray := prog_1_method_37_code
def yX8_ask : MethodName := ⟨RX8, "ask", "(II)I"⟩
abbrev cX8_item : ByteArray := prog_1_method_38_code
def yX8_item : MethodName := ⟨RX8, "item", "(II)I"⟩
abbrev cX8_rest : ByteArray := prog_1_method_39_code
def yX8_rest : MethodName := ⟨RX8, "rest", "(II)I"⟩
abbrev cX8_tell : ByteArray := prog_1_method_40_code
def yX8_tell : MethodName := ⟨RX8, "tell", "(I)I"⟩
abbrev cX8_check : ByteArray := prog_1_method_41_code
def yX8_check : MethodName := ⟨RX8, "check", "(I)I"⟩
abbrev cX8_isTold : ByteArray := prog_1_method_42_code
def yX8_isTold : MethodName := ⟨RX8, "isTold", "(III)Z"⟩
abbrev cX8_keep : ByteArray := prog_1_method_43_code
def yX8_keep : MethodName := ⟨RX8, "keep", "()I"⟩
abbrev cX8_back : ByteArray := prog_1_method_44_code
def yX8_back : MethodName := ⟨RX8, "back", "()I"⟩
abbrev cX8_count : ByteArray := prog_1_method_45_code
def yX8_count : MethodName := ⟨RX8, "count", "(I)I"⟩
abbrev cX8_isWithin : ByteArray := prog_1_method_46_code
def yX8_isWithin : MethodName := ⟨RX8, "isWithin", "(III)Z"⟩
abbrev cX8_isSheet : ByteArray := prog_1_method_47_code
def yX8_isSheet : MethodName := ⟨RX8, "isSheet", "(I)Z"⟩
abbrev cX8_isSlot : ByteArray := prog_1_method_48_code
def yX8_isSlot : MethodName := ⟨RX8, "isSlot", "(I)Z"⟩
abbrev cX8_held : ByteArray := prog_1_method_49_code
def yX8_held : MethodName := ⟨RX8, "held", "(II)I"⟩
def RX9 : String := "SkittleMenModel"
def TX9 : u_T := fun k => match k with
  | 0 => ("SkittleMenModel", "now", "[I", true)
  | 1 => ("SkittleMenModel", "image", "[I", true)
  | 2 => ("SkittleMenModel", "aside", "[I", true)
  | 3 => ("SkittleMenModel", "hasImage", "Z", false)
  | 4 => ("SkittleMenModel", "leftBehind", "I", false)
  | 5 => ("SkittleMenModel", "mostBy", "[I", true)
  | 6 => ("SkittleMenModel", "taken", "[I", true)
  | 7 => ("SkittleMenModel", "unlike", "[I", true)
  | 8 => ("SkittleMenModel", "tape", "[I", true)
  | 9 => ("SkittleMenModel", "taped", "I", false)
  | 10 => ("SkittleMenModel", "next", "I", false)
  | 11 => ("SkittleMenModel", "from", "I", false)
  | 12 => ("SkittleMenModel", "token", "I", false)
  | 13 => ("SkittleMenModel", "value", "I", false)
  | 14 => ("SkittleMenModel", "ended", "I", false)
  | 15 => ("SkittleMenModel", "key", "I", false)
  | 16 => ("SkittleMenModel", "keys", "[C", true)
  | 17 => ("SkittleMenModel", "keyAt", "[I", true)
  | 18 => ("SkittleMenModel", "code", "[I", true)
  | 19 => ("SkittleMenModel", "codes", "I", false)
  | 20 => ("SkittleMenModel", "atoms", "I", false)
  | 21 => ("SkittleMenModel", "waits", "[I", true)
  | 22 => ("SkittleMenModel", "held", "I", false)
  | 23 => ("SkittleMenModel", "tested", "[Z", true)
  | 24 => ("SkittleMenModel", "stack", "[I", true)
  | 25 => ("SkittleMenModel", "facts", "[I", true)
  | 26 => ("SkittleMenModel", "sorts", "[I", true)
  | 27 => ("SkittleMenModel", "sizes", "[I", true)
  | 28 => ("SkittleMenModel", "cells", "[I", true)
  | 29 => ("SkittleMenModel", "holds", "[I", true)
  | 30 => ("SkittleMenModel", "holdsA", "[I", true)
  | 31 => ("SkittleMenModel", "holdsB", "[I", true)
  | 32 => ("SkittleMenModel", "heldCells", "[I", true)
  | 33 => ("SkittleMenModel", "moved", "[I", true)
  | 34 => ("SkittleMenModel", "tells", "[I", true)
  | _ => ("SkittleMenModel", "waiting", "I", false)
def tyX9 : Nat → FieldType := fun k => match k with
  | 0 => .array .int
  | 1 => .array .int
  | 2 => .array .int
  | 3 => .boolean
  | 4 => .int
  | 5 => .array .int
  | 6 => .array .int
  | 7 => .array .int
  | 8 => .array .int
  | 9 => .int
  | 10 => .int
  | 11 => .int
  | 12 => .int
  | 13 => .int
  | 14 => .int
  | 15 => .int
  | 16 => .array .char
  | 17 => .array .int
  | 18 => .array .int
  | 19 => .int
  | 20 => .int
  | 21 => .array .int
  | 22 => .int
  | 23 => .array .boolean
  | 24 => .array .int
  | 25 => .array .int
  | 26 => .array .int
  | 27 => .array .int
  | 28 => .array .int
  | 29 => .array .int
  | 30 => .array .int
  | 31 => .array .int
  | 32 => .array .int
  | 33 => .array .int
  | 34 => .array .int
  | _ => .int
abbrev wsX90 : List Cond := u_ws RX9 TX9 36
theorem nmX9 : ∀ a, a < 36 → ∀ b, b < 36 → a ≠ b → (TX9 a).2.1 ≠ (TX9 b).2.1 := by decide +kernel
theorem tyX9_ok : ∀ k, k < 36 → parseFieldDescriptor (TX9 k).2.2.1 = some (tyX9 k) := by decide +kernel
abbrev cX9_init : ByteArray := prog_11_method_1_code
def yX9_init : MethodName := ⟨RX9, "<init>", "()V"⟩
abbrev cX9_in : ByteArray := prog_11_method_2_code
def yX9_in : MethodName := ⟨RX9, "in", "(III)Z"⟩
abbrev cX9_within : ByteArray := prog_11_method_3_code
def yX9_within : MethodName := ⟨RX9, "within", "(III)I"⟩
abbrev cX9_copyAll : ByteArray := prog_11_method_4_code
def yX9_copyAll : MethodName := ⟨RX9, "copyAll", "([I[I)V"⟩
abbrev cX9_bits : ByteArray := prog_11_method_5_code
def yX9_bits : MethodName := ⟨RX9, "bits", "(I)I"⟩
abbrev cX9_isMan : ByteArray := prog_11_method_6_code
def yX9_isMan : MethodName := ⟨RX9, "isMan", "(I)Z"⟩
abbrev cX9_isTopic : ByteArray := prog_11_method_7_code
def yX9_isTopic : MethodName := ⟨RX9, "isTopic", "(I)Z"⟩
abbrev cX9_of : ByteArray := prog_11_method_8_code
def yX9_of : MethodName := ⟨RX9, "of", "(II)I"⟩
abbrev cX9_put : ByteArray := prog_11_method_9_code
def yX9_put : MethodName := ⟨RX9, "put", "(III)V"⟩
abbrev cX9_swaps : ByteArray := prog_11_method_10_code
def yX9_swaps : MethodName := ⟨RX9, "swaps", "(II)I"⟩
abbrev cX9_off : ByteArray := prog_11_method_11_code
def yX9_off : MethodName := ⟨RX9, "off", "(I)I"⟩
abbrev cX9_doesStand : ByteArray := prog_11_method_12_code
def yX9_doesStand : MethodName := ⟨RX9, "doesStand", "(I)Z"⟩
abbrev cX9_standing : ByteArray := prog_11_method_13_code
def yX9_standing : MethodName := ⟨RX9, "standing", "()I"⟩
abbrev cX9_plainBears : ByteArray := prog_11_method_14_code
def yX9_plainBears : MethodName := ⟨RX9, "plainBears", "(I)I"⟩
abbrev cX9_bearsOf : ByteArray := prog_11_method_15_code
def yX9_bearsOf : MethodName := ⟨RX9, "bearsOf", "(II)I"⟩
abbrev cX9_pushesOf : ByteArray := prog_11_method_16_code
def yX9_pushesOf : MethodName := ⟨RX9, "pushesOf", "(I)I"⟩
abbrev cX9_worthOf : ByteArray := prog_11_method_17_code
def yX9_worthOf : MethodName := ⟨RX9, "worthOf", "(I)I"⟩
abbrev cX9_comes : ByteArray := prog_11_method_18_code
def yX9_comes : MethodName := ⟨RX9, "comes", "(IIII)I"⟩
abbrev cX9_man : ByteArray := prog_11_method_19_code
def yX9_man : MethodName := ⟨RX9, "man", "(IIII)I"⟩
abbrev cX9_told : ByteArray := prog_11_method_20_code
def yX9_told : MethodName := ⟨RX9, "told", "(II)I"⟩
abbrev cX9_bears : ByteArray := prog_11_method_21_code
def yX9_bears : MethodName := ⟨RX9, "bears", "(II)I"⟩
abbrev cX9_isUnder : ByteArray := prog_11_method_22_code
def yX9_isUnder : MethodName := ⟨RX9, "isUnder", "(II)Z"⟩
abbrev cX9_as : ByteArray := prog_11_method_23_code
def yX9_as : MethodName := ⟨RX9, "as", "(II)I"⟩
abbrev cX9_turns : ByteArray := prog_11_method_24_code
def yX9_turns : MethodName := ⟨RX9, "turns", "(II)I"⟩
abbrev cX9_mostOf : ByteArray := prog_11_method_25_code
def yX9_mostOf : MethodName := ⟨RX9, "mostOf", "(I)I"⟩
abbrev cX9_set : ByteArray := prog_11_method_26_code
def yX9_set : MethodName := ⟨RX9, "set", "(III)I"⟩
abbrev cX9_drops : ByteArray := prog_11_method_27_code
def yX9_drops : MethodName := ⟨RX9, "drops", "(III)V"⟩
abbrev cX9_said : ByteArray := prog_11_method_28_code
def yX9_said : MethodName := ⟨RX9, "said", "(IIII)I"⟩
abbrev cX9_says : ByteArray := prog_11_method_29_code
def yX9_says : MethodName := ⟨RX9, "says", "(IIII)I"⟩
abbrev cX9_setsUp : ByteArray := prog_11_method_30_code
def yX9_setsUp : MethodName := ⟨RX9, "setsUp", "()V"⟩
abbrev cX9_sets : ByteArray := prog_11_method_31_code
def yX9_sets : MethodName := ⟨RX9, "sets", "()I"⟩
abbrev cX9_draw : ByteArray := prog_11_method_32_code
def yX9_draw : MethodName := ⟨RX9, "draw", "()I"⟩
abbrev cX9_deal : ByteArray := prog_11_method_33_code
def yX9_deal : MethodName := ⟨RX9, "deal", "(I)I"⟩
abbrev cX9_seed : ByteArray := prog_11_method_34_code
def yX9_seed : MethodName := ⟨RX9, "seed", "(I)I"⟩
abbrev cX9_aGo : ByteArray := prog_11_method_35_code
def yX9_aGo : MethodName := ⟨RX9, "aGo", "()V"⟩
abbrev cX9_goesOn : ByteArray := prog_11_method_36_code
def yX9_goesOn : MethodName := ⟨RX9, "goesOn", "(I)V"⟩
abbrev cX9_goes : ByteArray := prog_11_method_37_code
def yX9_goes : MethodName := ⟨RX9, "goes", "(I)I"⟩
abbrev cX9_nerves : ByteArray := prog_11_method_38_code
def yX9_nerves : MethodName := ⟨RX9, "nerves", "()I"⟩
abbrev cX9_mostFelled : ByteArray := prog_11_method_39_code
def yX9_mostFelled : MethodName := ⟨RX9, "mostFelled", "()I"⟩
abbrev cX9_alley : ByteArray := prog_11_method_40_code
def yX9_alley : MethodName := ⟨RX9, "alley", "(I)I"⟩
abbrev cX9_thinks : ByteArray := prog_11_method_41_code
def yX9_thinks : MethodName := ⟨RX9, "thinks", "()V"⟩
abbrev cX9_putsBack : ByteArray := prog_11_method_42_code
def yX9_putsBack : MethodName := ⟨RX9, "putsBack", "()V"⟩
abbrev cX9_letsStand : ByteArray := prog_11_method_43_code
def yX9_letsStand : MethodName := ⟨RX9, "letsStand", "(I)V"⟩
abbrev cX9_fellBy : ByteArray := prog_11_method_44_code
def yX9_fellBy : MethodName := ⟨RX9, "fellBy", "(III)I"⟩
abbrev cX9_best : ByteArray := prog_11_method_45_code
def yX9_best : MethodName := ⟨RX9, "best", "(II)I"⟩
abbrev cX9_mostFrom : ByteArray := prog_11_method_46_code
def yX9_mostFrom : MethodName := ⟨RX9, "mostFrom", "(II)I"⟩
abbrev cX9_pair : ByteArray := prog_11_method_47_code
def yX9_pair : MethodName := ⟨RX9, "pair", "(I)I"⟩
abbrev cX9_goesFrom : ByteArray := prog_11_method_48_code
def yX9_goesFrom : MethodName := ⟨RX9, "goesFrom", "(II)V"⟩
abbrev cX9_clear : ByteArray := prog_11_method_49_code
def yX9_clear : MethodName := ⟨RX9, "clear", "(I)I"⟩
abbrev cX9_force : ByteArray := prog_11_method_50_code
def yX9_force : MethodName := ⟨RX9, "force", "(II)I"⟩
abbrev cX9_behind : ByteArray := prog_11_method_51_code
def yX9_behind : MethodName := ⟨RX9, "behind", "(II)I"⟩
abbrev cX9_falls : ByteArray := prog_11_method_52_code
def yX9_falls : MethodName := ⟨RX9, "falls", "(I)I"⟩
abbrev cX9_becomes : ByteArray := prog_11_method_53_code
def yX9_becomes : MethodName := ⟨RX9, "becomes", "(III)I"⟩
abbrev cX9_like : ByteArray := prog_11_method_54_code
def yX9_like : MethodName := ⟨RX9, "like", "(II)I"⟩
abbrev cX9_fee : ByteArray := prog_11_method_55_code
def yX9_fee : MethodName := ⟨RX9, "fee", "()I"⟩
abbrev cX9_fine : ByteArray := prog_11_method_56_code
def yX9_fine : MethodName := ⟨RX9, "fine", "(I)I"⟩
abbrev cX9_feed : ByteArray := prog_11_method_57_code
def yX9_feed : MethodName := ⟨RX9, "feed", "(III)I"⟩
abbrev cX9_trim : ByteArray := prog_11_method_58_code
def yX9_trim : MethodName := ⟨RX9, "trim", "(I)I"⟩
abbrev cX9_isLetter : ByteArray := prog_11_method_59_code
def yX9_isLetter : MethodName := ⟨RX9, "isLetter", "(I)Z"⟩
abbrev cX9_isFigure : ByteArray := prog_11_method_60_code
def yX9_isFigure : MethodName := ⟨RX9, "isFigure", "(I)Z"⟩
abbrev cX9_go : ByteArray := prog_11_method_61_code
def yX9_go : MethodName := ⟨RX9, "go", "()V"⟩
abbrev cX9_takesKey : ByteArray := prog_11_method_62_code
def yX9_takesKey : MethodName := ⟨RX9, "takesKey", "()Z"⟩
abbrev cX9_nameOf : ByteArray := prog_11_method_63_code
def yX9_nameOf : MethodName := ⟨RX9, "nameOf", "(I)I"⟩
abbrev cX9_rank : ByteArray := prog_11_method_64_code
def yX9_rank : MethodName := ⟨RX9, "rank", "(I)I"⟩
abbrev cX9_settle : ByteArray := prog_11_method_65_code
def yX9_settle : MethodName := ⟨RX9, "settle", "(I)V"⟩
abbrev cX9_signHere : ByteArray := prog_11_method_66_code
def yX9_signHere : MethodName := ⟨RX9, "signHere", "()I"⟩
abbrev cX9_takesPart : ByteArray := prog_11_method_67_code
def yX9_takesPart : MethodName := ⟨RX9, "takesPart", "()Z"⟩
abbrev cX9_takesE : ByteArray := prog_11_method_68_code
def yX9_takesE : MethodName := ⟨RX9, "takesE", "()Z"⟩
abbrev cX9_notsOpen : ByteArray := prog_11_method_69_code
def yX9_notsOpen : MethodName := ⟨RX9, "notsOpen", "()I"⟩
abbrev cX9_text : ByteArray := prog_11_method_70_code
def yX9_text : MethodName := ⟨RX9, "text", "()I"⟩
abbrev cX9_textTold : ByteArray := prog_11_method_71_code
def yX9_textTold : MethodName := ⟨RX9, "textTold", "(II)I"⟩
abbrev cX9_counts : ByteArray := prog_11_method_72_code
def yX9_counts : MethodName := ⟨RX9, "counts", "(I)I"⟩
abbrev cX9_why : ByteArray := prog_11_method_73_code
def yX9_why : MethodName := ⟨RX9, "why", "(I)I"⟩
abbrev cX9_two : ByteArray := prog_11_method_74_code
def yX9_two : MethodName := ⟨RX9, "two", "(III)I"⟩
abbrev cX9_worksOut : ByteArray := prog_11_method_75_code
def yX9_worksOut : MethodName := ⟨RX9, "worksOut", "(I)I"⟩
abbrev cX9_isSheet : ByteArray := prog_11_method_76_code
def yX9_isSheet : MethodName := ⟨RX9, "isSheet", "(I)Z"⟩
abbrev cX9_isSlot : ByteArray := prog_11_method_77_code
def yX9_isSlot : MethodName := ⟨RX9, "isSlot", "(I)Z"⟩
abbrev cX9_sheet : ByteArray := prog_11_method_78_code
def yX9_sheet : MethodName := ⟨RX9, "sheet", "(III)I"⟩
abbrev cX9_mark : ByteArray := prog_11_method_79_code
def yX9_mark : MethodName := ⟨RX9, "mark", "(III)I"⟩
abbrev cX9_pour : ByteArray := prog_11_method_80_code
def yX9_pour : MethodName := ⟨RX9, "pour", "(I)I"⟩
abbrev cX9_reads : ByteArray := prog_11_method_81_code
def yX9_reads : MethodName := ⟨RX9, "reads", "(I)I"⟩
abbrev cX9_copy : ByteArray := prog_11_method_82_code
def yX9_copy : MethodName := ⟨RX9, "copy", "(IIIII)I"⟩
abbrev cX9_lay : ByteArray := prog_11_method_83_code
def yX9_lay : MethodName := ⟨RX9, "lay", "(III)I"⟩
abbrev cX9_ask : ByteArray := prog_11_method_84_code
def yX9_ask : MethodName := ⟨RX9, "ask", "(II)I"⟩
abbrev cX9_item : ByteArray := prog_11_method_85_code
def yX9_item : MethodName := ⟨RX9, "item", "(II)I"⟩
abbrev cX9_rest : ByteArray := prog_11_method_86_code
def yX9_rest : MethodName := ⟨RX9, "rest", "(II)I"⟩
abbrev cX9_tell : ByteArray := prog_11_method_87_code
def yX9_tell : MethodName := ⟨RX9, "tell", "(I)I"⟩
abbrev cX9_check : ByteArray := prog_11_method_88_code
def yX9_check : MethodName := ⟨RX9, "check", "(I)I"⟩
abbrev cX9_keep : ByteArray := prog_11_method_89_code
def yX9_keep : MethodName := ⟨RX9, "keep", "()I"⟩
abbrev cX9_back : ByteArray := prog_11_method_90_code
def yX9_back : MethodName := ⟨RX9, "back", "()I"⟩
abbrev cX9_count : ByteArray := prog_11_method_91_code
def yX9_count : MethodName := ⟨RX9, "count", "(I)I"⟩
def RJx145de : String := "java/io/Serializable"
def TJx145de : u_T := fun k => match k with
  | _ => ("", "", "", false)
def tyJx145de : Nat → FieldType := fun k => match k with
  | _ => .int
abbrev wsJx145de0 : List Cond := u_ws RJx145de TJx145de 0
theorem nmJx145de : ∀ a, a < 0 → ∀ b, b < 0 → a ≠ b → (TJx145de a).2.1 ≠ (TJx145de b).2.1 := by decide +kernel
theorem tyJx145de_ok : ∀ k, k < 0 → parseFieldDescriptor (TJx145de k).2.2.1 = some (tyJx145de k) := by decide +kernel
def RJx9f9b0 : String := "java/lang/CharSequence"
def TJx9f9b0 : u_T := fun k => match k with
  | _ => ("", "", "", false)
def tyJx9f9b0 : Nat → FieldType := fun k => match k with
  | _ => .int
abbrev wsJx9f9b00 : List Cond := u_ws RJx9f9b0 TJx9f9b0 0
theorem nmJx9f9b0 : ∀ a, a < 0 → ∀ b, b < 0 → a ≠ b → (TJx9f9b0 a).2.1 ≠ (TJx9f9b0 b).2.1 := by decide +kernel
theorem tyJx9f9b0_ok : ∀ k, k < 0 → parseFieldDescriptor (TJx9f9b0 k).2.2.1 = some (tyJx9f9b0 k) := by decide +kernel
def RJ11 : String := "java/lang/Character"
def TJ11 : u_T := fun k => match k with
  | _ => ("", "", "", false)
def tyJ11 : Nat → FieldType := fun k => match k with
  | _ => .int
abbrev wsJ110 : List Cond := u_ws RJ11 TJ11 0
theorem nmJ11 : ∀ a, a < 0 → ∀ b, b < 0 → a ≠ b → (TJ11 a).2.1 ≠ (TJ11 b).2.1 := by decide +kernel
theorem tyJ11_ok : ∀ k, k < 0 → parseFieldDescriptor (TJ11 k).2.2.1 = some (tyJ11 k) := by decide +kernel
abbrev cJ11_isValidCodePoint_9a6ad : ByteArray := prog_12_method_11_code
def yJ11_isValidCodePoint_9a6ad : MethodName := ⟨RJ11, "isValidCodePoint", "(I)Z"⟩
abbrev cJ11_highSurrogate_5068e : ByteArray := prog_12_method_28_code
def yJ11_highSurrogate_5068e : MethodName := ⟨RJ11, "highSurrogate", "(I)C"⟩
abbrev cJ11_lowSurrogate_5068e : ByteArray := prog_12_method_29_code
def yJ11_lowSurrogate_5068e : MethodName := ⟨RJ11, "lowSurrogate", "(I)C"⟩
def RJx8e188 : String := "java/lang/Cloneable"
def TJx8e188 : u_T := fun k => match k with
  | _ => ("", "", "", false)
def tyJx8e188 : Nat → FieldType := fun k => match k with
  | _ => .int
abbrev wsJx8e1880 : List Cond := u_ws RJx8e188 TJx8e188 0
theorem nmJx8e188 : ∀ a, a < 0 → ∀ b, b < 0 → a ≠ b → (TJx8e188 a).2.1 ≠ (TJx8e188 b).2.1 := by decide +kernel
theorem tyJx8e188_ok : ∀ k, k < 0 → parseFieldDescriptor (TJx8e188 k).2.2.1 = some (tyJx8e188 k) := by decide +kernel
def RJxb160c : String := "java/lang/Comparable"
def TJxb160c : u_T := fun k => match k with
  | _ => ("", "", "", false)
def tyJxb160c : Nat → FieldType := fun k => match k with
  | _ => .int
abbrev wsJxb160c0 : List Cond := u_ws RJxb160c TJxb160c 0
theorem nmJxb160c : ∀ a, a < 0 → ∀ b, b < 0 → a ≠ b → (TJxb160c a).2.1 ≠ (TJxb160c b).2.1 := by decide +kernel
theorem tyJxb160c_ok : ∀ k, k < 0 → parseFieldDescriptor (TJxb160c k).2.2.1 = some (tyJxb160c k) := by decide +kernel
def RJ6 : String := "java/lang/Integer"
def TJ6 : u_T := fun k => match k with
  | _ => ("", "", "", false)
def tyJ6 : Nat → FieldType := fun k => match k with
  | _ => .int
abbrev wsJ60 : List Cond := u_ws RJ6 TJ6 0
theorem nmJ6 : ∀ a, a < 0 → ∀ b, b < 0 → a ≠ b → (TJ6 a).2.1 ≠ (TJ6 b).2.1 := by decide +kernel
theorem tyJ6_ok : ∀ k, k < 0 → parseFieldDescriptor (TJ6 k).2.2.1 = some (tyJ6 k) := by decide +kernel
abbrev cJ6_bitCount_0f7a4 : ByteArray := prog_14_method_49_code
def yJ6_bitCount_0f7a4 : MethodName := ⟨RJ6, "bitCount", "(I)I"⟩
def RJ9 : String := "java/lang/Math"
def TJ9 : u_T := fun k => match k with
  | _ => ("", "", "", false)
def tyJ9 : Nat → FieldType := fun k => match k with
  | _ => .int
abbrev wsJ90 : List Cond := u_ws RJ9 TJ9 0
theorem nmJ9 : ∀ a, a < 0 → ∀ b, b < 0 → a ≠ b → (TJ9 a).2.1 ≠ (TJ9 b).2.1 := by decide +kernel
theorem tyJ9_ok : ∀ k, k < 0 → parseFieldDescriptor (TJ9 k).2.2.1 = some (tyJ9 k) := by decide +kernel
abbrev cJ9_abs_0f7a4 : ByteArray := prog_15_method_59_code
def yJ9_abs_0f7a4 : MethodName := ⟨RJ9, "abs", "(I)I"⟩
abbrev cJ9_max_7cf53 : ByteArray := prog_15_method_65_code
def yJ9_max_7cf53 : MethodName := ⟨RJ9, "max", "(II)I"⟩
abbrev cJ9_min_7cf53 : ByteArray := prog_15_method_69_code
def yJ9_min_7cf53 : MethodName := ⟨RJ9, "min", "(II)I"⟩
def RJ0 : String := "java/lang/String"
def TJ0 : u_T := fun k => match k with
  | _ => ("", "", "", false)
def tyJ0 : Nat → FieldType := fun k => match k with
  | _ => .int
abbrev wsJ00 : List Cond := u_ws RJ0 TJ0 0
theorem nmJ0 : ∀ a, a < 0 → ∀ b, b < 0 → a ≠ b → (TJ0 a).2.1 ≠ (TJ0 b).2.1 := by decide +kernel
theorem tyJ0_ok : ∀ k, k < 0 → parseFieldDescriptor (TJ0 k).2.2.1 = some (tyJ0 k) := by decide +kernel
abbrev cJ0_length_8abf5 : ByteArray := prog_16_method_54_code
def yJ0_length_8abf5 : MethodName := ⟨RJ0, "length", "()I"⟩
abbrev cJ0_charAt_5068e : ByteArray := prog_16_method_56_code
def yJ0_charAt_5068e : MethodName := ⟨RJ0, "charAt", "(I)C"⟩
abbrev cJ0_indexOf_0f7a4 : ByteArray := prog_16_method_79_code
def yJ0_indexOf_0f7a4 : MethodName := ⟨RJ0, "indexOf", "(I)I"⟩
abbrev cJ0_indexOf_7cf53 : ByteArray := prog_16_method_80_code
def yJ0_indexOf_7cf53 : MethodName := ⟨RJ0, "indexOf", "(II)I"⟩
abbrev cJ0_coder_7d493 : ByteArray := prog_16_method_152_code
def yJ0_coder_7d493 : MethodName := ⟨RJ0, "coder", "()B"⟩
abbrev cJ0_isLatin1_aae02 : ByteArray := prog_16_method_154_code
def yJ0_isLatin1_aae02 : MethodName := ⟨RJ0, "isLatin1", "()Z"⟩
abbrev cJ0_checkIndex_df160 : ByteArray := prog_16_method_155_code
def yJ0_checkIndex_df160 : MethodName := ⟨RJ0, "checkIndex", "(II)V"⟩
abbrev cJ0_checkBoundsBeginEnd_23922 : ByteArray := prog_16_method_158_code
def yJ0_checkBoundsBeginEnd_23922 : MethodName := ⟨RJ0, "checkBoundsBeginEnd", "(III)V"⟩
def RJ1 : String := "java/lang/StringLatin1"
def TJ1 : u_T := fun k => match k with
  | _ => ("", "", "", false)
def tyJ1 : Nat → FieldType := fun k => match k with
  | _ => .int
abbrev wsJ10 : List Cond := u_ws RJ1 TJ1 0
theorem nmJ1 : ∀ a, a < 0 → ∀ b, b < 0 → a ≠ b → (TJ1 a).2.1 ≠ (TJ1 b).2.1 := by decide +kernel
theorem tyJ1_ok : ∀ k, k < 0 → parseFieldDescriptor (TJ1 k).2.2.1 = some (tyJ1 k) := by decide +kernel
abbrev cJ1_charAt_3b067 : ByteArray := prog_17_method_2_code
def yJ1_charAt_3b067 : MethodName := ⟨RJ1, "charAt", "([BI)C"⟩
abbrev cJ1_canEncode_9a6ad : ByteArray := prog_17_method_4_code
def yJ1_canEncode_9a6ad : MethodName := ⟨RJ1, "canEncode", "(I)Z"⟩
abbrev cJ1_indexOf_4cfef : ByteArray := prog_17_method_22_code
def yJ1_indexOf_4cfef : MethodName := ⟨RJ1, "indexOf", "([BIII)I"⟩
abbrev cJ1_indexOfChar_4cfef : ByteArray := prog_17_method_23_code
def yJ1_indexOfChar_4cfef : MethodName := ⟨RJ1, "indexOfChar", "([BIII)I"⟩
def RJ2 : String := "java/lang/StringUTF16"
def TJ2 : u_T := fun k => match k with
  | _ => ("", "", "", false)
def tyJ2 : Nat → FieldType := fun k => match k with
  | _ => .int
abbrev wsJ20 : List Cond := u_ws RJ2 TJ2 0
theorem nmJ2 : ∀ a, a < 0 → ∀ b, b < 0 → a ≠ b → (TJ2 a).2.1 ≠ (TJ2 b).2.1 := by decide +kernel
theorem tyJ2_ok : ∀ k, k < 0 → parseFieldDescriptor (TJ2 k).2.2.1 = some (tyJ2 k) := by decide +kernel
abbrev cJ2_getChar_3b067 : ByteArray := prog_18_method_5_code
def yJ2_getChar_3b067 : MethodName := ⟨RJ2, "getChar", "([BI)C"⟩
abbrev cJ2_length_9d52b : ByteArray := prog_18_method_6_code
def yJ2_length_9d52b : MethodName := ⟨RJ2, "length", "([B)I"⟩
abbrev cJ2_indexOf_4cfef : ByteArray := prog_18_method_40_code
def yJ2_indexOf_4cfef : MethodName := ⟨RJ2, "indexOf", "([BIII)I"⟩
abbrev cJ2_indexOfChar_4cfef : ByteArray := prog_18_method_47_code
def yJ2_indexOfChar_4cfef : MethodName := ⟨RJ2, "indexOfChar", "([BIII)I"⟩
abbrev cJ2_indexOfCharUnsafe_4cfef : ByteArray := prog_18_method_48_code
def yJ2_indexOfCharUnsafe_4cfef : MethodName := ⟨RJ2, "indexOfCharUnsafe", "([BIII)I"⟩
abbrev cJ2_indexOfSupplementary_4cfef : ByteArray := prog_18_method_49_code
def yJ2_indexOfSupplementary_4cfef : MethodName := ⟨RJ2, "indexOfSupplementary", "([BIII)I"⟩
abbrev cJ2_charAt_3b067 : ByteArray := prog_18_method_83_code
def yJ2_charAt_3b067 : MethodName := ⟨RJ2, "charAt", "([BI)C"⟩
abbrev cJ2_checkIndex_2214a : ByteArray := prog_18_method_91_code
def yJ2_checkIndex_2214a : MethodName := ⟨RJ2, "checkIndex", "(I[B)V"⟩
abbrev cJ2_checkBoundsBeginEnd_d044e : ByteArray := prog_18_method_93_code
def yJ2_checkBoundsBeginEnd_d044e : MethodName := ⟨RJ2, "checkBoundsBeginEnd", "(II[B)V"⟩
def RJ10 : String := "java/lang/System"
def TJ10 : u_T := fun k => match k with
  | _ => ("", "", "", false)
def tyJ10 : Nat → FieldType := fun k => match k with
  | _ => .int
abbrev wsJ100 : List Cond := u_ws RJ10 TJ10 0
theorem nmJ10 : ∀ a, a < 0 → ∀ b, b < 0 → a ≠ b → (TJ10 a).2.1 ≠ (TJ10 b).2.1 := by decide +kernel
theorem tyJ10_ok : ∀ k, k < 0 → parseFieldDescriptor (TJ10 k).2.2.1 = some (tyJ10 k) := by decide +kernel
def RJxfd54e : String := "java/lang/constant/Constable"
def TJxfd54e : u_T := fun k => match k with
  | _ => ("", "", "", false)
def tyJxfd54e : Nat → FieldType := fun k => match k with
  | _ => .int
abbrev wsJxfd54e0 : List Cond := u_ws RJxfd54e TJxfd54e 0
theorem nmJxfd54e : ∀ a, a < 0 → ∀ b, b < 0 → a ≠ b → (TJxfd54e a).2.1 ≠ (TJxfd54e b).2.1 := by decide +kernel
theorem tyJxfd54e_ok : ∀ k, k < 0 → parseFieldDescriptor (TJxfd54e k).2.2.1 = some (tyJxfd54e k) := by decide +kernel
def RJx3cf43 : String := "java/lang/constant/ConstantDesc"
def TJx3cf43 : u_T := fun k => match k with
  | _ => ("", "", "", false)
def tyJx3cf43 : Nat → FieldType := fun k => match k with
  | _ => .int
abbrev wsJx3cf430 : List Cond := u_ws RJx3cf43 TJx3cf43 0
theorem nmJx3cf43 : ∀ a, a < 0 → ∀ b, b < 0 → a ≠ b → (TJx3cf43 a).2.1 ≠ (TJx3cf43 b).2.1 := by decide +kernel
theorem tyJx3cf43_ok : ∀ k, k < 0 → parseFieldDescriptor (TJx3cf43 k).2.2.1 = some (tyJx3cf43 k) := by decide +kernel
def RJ7 : String := "java/util/Arrays"
def TJ7 : u_T := fun k => match k with
  | _ => ("", "", "", false)
def tyJ7 : Nat → FieldType := fun k => match k with
  | _ => .int
abbrev wsJ70 : List Cond := u_ws RJ7 TJ7 0
theorem nmJ7 : ∀ a, a < 0 → ∀ b, b < 0 → a ≠ b → (TJ7 a).2.1 ≠ (TJ7 b).2.1 := by decide +kernel
theorem tyJ7_ok : ∀ k, k < 0 → parseFieldDescriptor (TJ7 k).2.2.1 = some (tyJ7 k) := by decide +kernel
abbrev cJ7_fill_53178 : ByteArray := prog_20_method_103_code
def yJ7_fill_53178 : MethodName := ⟨RJ7, "fill", "([II)V"⟩
abbrev cJ7_copyOf_59c91 : ByteArray := prog_20_method_123_code
def yJ7_copyOf_59c91 : MethodName := ⟨RJ7, "copyOf", "([II)[I"⟩
def RJ3 : String := "jdk/internal/util/Preconditions"
def TJ3 : u_T := fun k => match k with
  | _ => ("", "", "", false)
def tyJ3 : Nat → FieldType := fun k => match k with
  | _ => .int
abbrev wsJ30 : List Cond := u_ws RJ3 TJ3 0
theorem nmJ3 : ∀ a, a < 0 → ∀ b, b < 0 → a ≠ b → (TJ3 a).2.1 ≠ (TJ3 b).2.1 := by decide +kernel
theorem tyJ3_ok : ∀ k, k < 0 → parseFieldDescriptor (TJ3 k).2.2.1 = some (tyJ3 k) := by decide +kernel
abbrev cJ3_checkIndex_8e157 : ByteArray := prog_21_method_11_code
def yJ3_checkIndex_8e157 : MethodName := ⟨RJ3, "checkIndex", "(IILjava/util/function/BiFunction;)I"⟩
abbrev cJ3_checkFromToIndex_8c36e : ByteArray := prog_21_method_12_code
def yJ3_checkFromToIndex_8c36e : MethodName := ⟨RJ3, "checkFromToIndex", "(IIILjava/util/function/BiFunction;)I"⟩
def RL : String := "SkittleMenLaw"
abbrev cL_law : ByteArray := code
def yL_law : MethodName := ⟨RL, "law", "([I)Z"⟩
theorem inX0 : ∀ w ∈ wsX00, w ∈ lw_tbl := fun w h => (goodIn_r (big := lw_tbl) wsX00 [202, 204, 206, 208, 210, 212, 214, 216, 218, 220] (by decide +kernel) (by decide +kernel) w h).1
theorem inX1 : ∀ w ∈ wsX10, w ∈ lw_tbl := fun w h => (goodIn_r (big := lw_tbl) wsX10 [163, 165, 167, 169, 171, 173] (by decide +kernel) (by decide +kernel) w h).1
theorem inX2 : ∀ w ∈ wsX20, w ∈ lw_tbl := fun w h => (goodIn_r (big := lw_tbl) wsX20 [244, 246, 248, 250, 252, 254, 256, 258, 260, 262, 264] (by decide +kernel) (by decide +kernel) w h).1
theorem inX3 : ∀ w ∈ wsX30, w ∈ lw_tbl := fun w h => (goodIn_r (big := lw_tbl) wsX30 [349, 351, 353] (by decide +kernel) (by decide +kernel) w h).1
theorem inX4 : ∀ w ∈ wsX40, w ∈ lw_tbl := fun w h => (goodIn_r (big := lw_tbl) wsX40 [373, 375, 377, 379] (by decide +kernel) (by decide +kernel) w h).1
theorem inX5 : ∀ w ∈ wsX50, w ∈ lw_tbl := fun w h => (goodIn_r (big := lw_tbl) wsX50 [284, 286] (by decide +kernel) (by decide +kernel) w h).1
theorem inX6 : ∀ w ∈ wsX60, w ∈ lw_tbl := fun w h => (goodIn_r (big := lw_tbl) wsX60 [990, 992, 994, 996] (by decide +kernel) (by decide +kernel) w h).1
theorem inX7 : ∀ w ∈ wsX70, w ∈ lw_tbl := fun w h => (goodIn_r (big := lw_tbl) wsX70 [305, 307, 309, 311, 313, 315, 317, 319, 321, 323, 325, 327, 329, 331] (by decide +kernel) (by decide +kernel) w h).1
theorem inX8 : ∀ w ∈ wsX80, w ∈ lw_tbl := fun w h => (goodIn_r (big := lw_tbl) wsX80 [394, 396, 398, 400, 402, 404, 406, 408, 410, 412, 414, 416] (by decide +kernel) (by decide +kernel) w h).1
theorem inX9 : ∀ w ∈ wsX90, w ∈ lw_tbl := fun w h => (goodIn_r (big := lw_tbl) wsX90 [1138, 1140, 1142, 1144, 1146, 1148, 1150, 1152, 1154, 1156, 1158, 1160, 1162, 1164, 1166, 1168, 1170, 1172, 1174, 1176, 1178, 1180, 1182, 1184, 1186, 1188, 1190, 1192, 1194, 1196, 1198, 1200, 1202, 1204, 1206, 1208] (by decide +kernel) (by decide +kernel) w h).1
abbrev vwCl : List vw_C := [(RX0, TX0, 10), (RX1, TX1, 6), (RX2, TX2, 11), (RX3, TX3, 3), (RX4, TX4, 4), (RX5, TX5, 2), (RX6, TX6, 4), (RX7, TX7, 14), (RX8, TX8, 12), (RX9, TX9, 36)]
