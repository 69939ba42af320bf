/-! ===== BEGIN words of one list among another's, by their places ===== -/
theorem goodIn_r {big : List Cond} (ws : List Cond) (ps : List Nat) (hp : ws = ps.filterMap (fun i => big[i]?)) (h : ws.all goodWord = true) : GoodIn big ws := by
  intro w hw
  have h1 := List.all_eq_true.mp h w hw
  rw [hp] at hw
  obtain ⟨i, -, hi⟩ := List.mem_filterMap.mp hw
  have hm : w ∈ big := by first | exact List.mem_of_getElem? hi | exact List.getElem?_mem hi
  exact ⟨hm, good_of_word h1⟩
theorem goodIn_app {big a b : List Cond} (ha : GoodIn big a) (hb : GoodIn big b) : GoodIn big (a ++ b) := fun w h => (List.mem_append.mp h).elim (ha w) (hb w)
theorem goodIn_ca {big a b : List Cond} {c : Cond} (ha : GoodIn big (c :: a)) (hb : GoodIn big b) : GoodIn big (c :: (a ++ b)) := fun w h => (List.mem_cons.mp h).elim (fun e => ha w (List.mem_cons.mpr (Or.inl e))) (fun h => (List.mem_append.mp h).elim (fun h => ha w (List.mem_cons.mpr (Or.inr h))) (hb w))
theorem goodIn_sub {big ws : List Cond} (hm : ∀ w ∈ ws, w ∈ big) (h : ws.all goodWord = true) : GoodIn big ws := fun w hw => ⟨hm w hw, good_of_word (List.all_eq_true.mp h w hw)⟩
/-! ===== END ===== -/

/-! ===== BEGIN printed: names, fields, word lists, decode rows ===== -/
def RX0 : String := "TwiceRunning$Game"
def TX0 : u_T := fun k => match k with
  | 0 => ("TwiceRunning$Game", "first", "I", false)
  | 1 => ("TwiceRunning$Game", "other", "I", false)
  | 2 => ("TwiceRunning$Game", "worth", "I", false)
  | 3 => ("TwiceRunning$Game", "winner", "I", false)
  | 4 => ("TwiceRunning$Game", "given", "I", false)
  | 5 => ("TwiceRunning$Game", "firstStreak", "I", false)
  | 6 => ("TwiceRunning$Game", "otherStreak", "I", false)
  | 7 => ("TwiceRunning$Game", "firstTired", "Z", false)
  | _ => ("TwiceRunning$Game", "otherTired", "Z", false)
def tyX0 : Nat → FieldType := fun k => match k with
  | 0 => .int
  | 1 => .int
  | 2 => .int
  | 3 => .int
  | 4 => .int
  | 5 => .int
  | 6 => .int
  | 7 => .boolean
  | _ => .boolean
abbrev wsX00 : List Cond := u_ws RX0 TX0 9
theorem nmX0 : ∀ a, a < 9 → ∀ b, b < 9 → a ≠ b → (TX0 a).2.1 ≠ (TX0 b).2.1 := by decide +kernel
theorem tyX0_ok : ∀ k, k < 9 → parseFieldDescriptor (TX0 k).2.2.1 = some (tyX0 k) := by decide +kernel
abbrev cX0_init : ByteArray := prog_2_method_1_code
def yX0_init : MethodName := ⟨RX0, "<init>", "()V"⟩
abbrev cX0_become : ByteArray := prog_2_method_2_code
def yX0_become : MethodName := ⟨RX0, "become", "(LTwiceRunning$Game;)V"⟩
abbrev cX0_isOf : ByteArray := prog_2_method_3_code
def yX0_isOf : MethodName := ⟨RX0, "isOf", "(I)Z"⟩
def RX1 : String := "TwiceRunning$League"
def TX1 : u_T := fun k => match k with
  | 0 => ("TwiceRunning$League", "sides", "[LTwiceRunning$Side;", true)
  | 1 => ("TwiceRunning$League", "games", "[LTwiceRunning$Game;", true)
  | 2 => ("TwiceRunning$League", "spots", "[I", true)
  | 3 => ("TwiceRunning$League", "sideCount", "I", false)
  | 4 => ("TwiceRunning$League", "gameCount", "I", false)
  | 5 => ("TwiceRunning$League", "played", "I", false)
  | 6 => ("TwiceRunning$League", "law", "I", false)
  | 7 => ("TwiceRunning$League", "z", "I", false)
  | 8 => ("TwiceRunning$League", "forcedGame", "I", false)
  | 9 => ("TwiceRunning$League", "forcedSide", "I", false)
  | _ => ("TwiceRunning$League", "forcedEffort", "I", false)
def tyX1 : Nat → FieldType := fun k => match k with
  | 0 => .array (.object "TwiceRunning$Side")
  | 1 => .array (.object "TwiceRunning$Game")
  | 2 => .array .int
  | 3 => .int
  | 4 => .int
  | 5 => .int
  | 6 => .int
  | 7 => .int
  | 8 => .int
  | 9 => .int
  | _ => .int
abbrev wsX10 : List Cond := u_ws RX1 TX1 11
theorem nmX1 : ∀ a, a < 11 → ∀ b, b < 11 → a ≠ b → (TX1 a).2.1 ≠ (TX1 b).2.1 := by decide +kernel
theorem tyX1_ok : ∀ k, k < 11 → parseFieldDescriptor (TX1 k).2.2.1 = some (tyX1 k) := by decide +kernel
abbrev cX1_init : ByteArray := prog_3_method_1_code
def yX1_init : MethodName := ⟨RX1, "<init>", "()V"⟩
abbrev cX1_become : ByteArray := prog_3_method_2_code
def yX1_become : MethodName := ⟨RX1, "become", "(LTwiceRunning$League;)V"⟩
abbrev cX1_hasSide : ByteArray := prog_3_method_3_code
def yX1_hasSide : MethodName := ⟨RX1, "hasSide", "(I)Z"⟩
abbrev cX1_hasGame : ByteArray := prog_3_method_4_code
def yX1_hasGame : MethodName := ⟨RX1, "hasGame", "(I)Z"⟩
abbrev cX1_allPlayed : ByteArray := prog_3_method_5_code
def yX1_allPlayed : MethodName := ⟨RX1, "allPlayed", "()Z"⟩
abbrev cX1_addSide : ByteArray := prog_3_method_6_code
def yX1_addSide : MethodName := ⟨RX1, "addSide", "(III)I"⟩
abbrev cX1_addGame : ByteArray := prog_3_method_7_code
def yX1_addGame : MethodName := ⟨RX1, "addGame", "(III)I"⟩
abbrev cX1_gamesPlayedBy : ByteArray := prog_3_method_8_code
def yX1_gamesPlayedBy : MethodName := ⟨RX1, "gamesPlayedBy", "(I)I"⟩
abbrev cX1_gamesGivenTo : ByteArray := prog_3_method_9_code
def yX1_gamesGivenTo : MethodName := ⟨RX1, "gamesGivenTo", "(I)I"⟩
abbrev cX1_spotsInUse : ByteArray := prog_3_method_10_code
def yX1_spotsInUse : MethodName := ⟨RX1, "spotsInUse", "()I"⟩
abbrev cX1_isBarred : ByteArray := prog_3_method_11_code
def yX1_isBarred : MethodName := ⟨RX1, "isBarred", "(I)Z"⟩
abbrev cX1_force : ByteArray := prog_3_method_12_code
def yX1_force : MethodName := ⟨RX1, "force", "(II)V"⟩
abbrev cX1_effortOf : ByteArray := prog_3_method_13_code
def yX1_effortOf : MethodName := ⟨RX1, "effortOf", "(I)I"⟩
abbrev cX1_nextWorthOf : ByteArray := prog_3_method_14_code
def yX1_nextWorthOf : MethodName := ⟨RX1, "nextWorthOf", "(I)I"⟩
abbrev cX1_forceOf : ByteArray := prog_3_method_15_code
def yX1_forceOf : MethodName := ⟨RX1, "forceOf", "(II)I"⟩
abbrev cX1_chanceOfFirst : ByteArray := prog_3_method_16_code
def yX1_chanceOfFirst : MethodName := ⟨RX1, "chanceOfFirst", "(II)I"⟩
abbrev cX1_givenIfWonBy : ByteArray := prog_3_method_17_code
def yX1_givenIfWonBy : MethodName := ⟨RX1, "givenIfWonBy", "(I)I"⟩
abbrev cX1_settle : ByteArray := prog_3_method_18_code
def yX1_settle : MethodName := ⟨RX1, "settle", "(III)I"⟩
abbrev cX1_takeBack : ByteArray := prog_3_method_19_code
def yX1_takeBack : MethodName := ⟨RX1, "takeBack", "()V"⟩
abbrev cX1_canBeWonBy : ByteArray := prog_3_method_20_code
def yX1_canBeWonBy : MethodName := ⟨RX1, "canBeWonBy", "(I)Z"⟩
abbrev cX1_playWonBy : ByteArray := prog_3_method_21_code
def yX1_playWonBy : MethodName := ⟨RX1, "playWonBy", "(I)I"⟩
abbrev cX1_playDrawn : ByteArray := prog_3_method_22_code
def yX1_playDrawn : MethodName := ⟨RX1, "playDrawn", "()I"⟩
abbrev cX1_forgetGames : ByteArray := prog_3_method_23_code
def yX1_forgetGames : MethodName := ⟨RX1, "forgetGames", "()I"⟩
abbrev cX1_leader : ByteArray := prog_3_method_24_code
def yX1_leader : MethodName := ⟨RX1, "leader", "()I"⟩
def RX2 : String := "TwiceRunning$Sheet"
def TX2 : u_T := fun k => match k with
  | 0 => ("TwiceRunning$Sheet", "numbers", "[I", true)
  | 1 => ("TwiceRunning$Sheet", "bits", "I", false)
  | _ => ("TwiceRunning$Sheet", "size", "I", false)
def tyX2 : Nat → FieldType := fun k => match k with
  | 0 => .array .int
  | 1 => .int
  | _ => .int
abbrev wsX20 : List Cond := u_ws RX2 TX2 3
theorem nmX2 : ∀ a, a < 3 → ∀ b, b < 3 → a ≠ b → (TX2 a).2.1 ≠ (TX2 b).2.1 := by decide +kernel
theorem tyX2_ok : ∀ k, k < 3 → parseFieldDescriptor (TX2 k).2.2.1 = some (tyX2 k) := by decide +kernel
abbrev cX2_init : ByteArray := prog_4_method_1_code
def yX2_init : MethodName := ⟨RX2, "<init>", "()V"⟩
abbrev cX2_isMissing : ByteArray := prog_4_method_2_code
def yX2_isMissing : MethodName := ⟨RX2, "isMissing", "()Z"⟩
abbrev cX2_renew : ByteArray := prog_4_method_3_code
def yX2_renew : MethodName := ⟨RX2, "renew", "(II)V"⟩
abbrev cX2_put : ByteArray := prog_4_method_4_code
def yX2_put : MethodName := ⟨RX2, "put", "(II)V"⟩
abbrev cX2_hasRange : ByteArray := prog_4_method_5_code
def yX2_hasRange : MethodName := ⟨RX2, "hasRange", "(II)Z"⟩
def RX3 : String := "TwiceRunning$Side"
def TX3 : u_T := fun k => match k with
  | 0 => ("TwiceRunning$Side", "kind", "I", false)
  | 1 => ("TwiceRunning$Side", "strength", "I", false)
  | 2 => ("TwiceRunning$Side", "tells", "I", false)
  | 3 => ("TwiceRunning$Side", "points", "I", false)
  | 4 => ("TwiceRunning$Side", "streak", "I", false)
  | _ => ("TwiceRunning$Side", "tired", "Z", false)
def tyX3 : Nat → FieldType := fun k => match k with
  | 0 => .int
  | 1 => .int
  | 2 => .int
  | 3 => .int
  | 4 => .int
  | _ => .boolean
abbrev wsX30 : List Cond := u_ws RX3 TX3 6
theorem nmX3 : ∀ a, a < 6 → ∀ b, b < 6 → a ≠ b → (TX3 a).2.1 ≠ (TX3 b).2.1 := by decide +kernel
theorem tyX3_ok : ∀ k, k < 6 → parseFieldDescriptor (TX3 k).2.2.1 = some (tyX3 k) := by decide +kernel
abbrev cX3_init : ByteArray := prog_5_method_1_code
def yX3_init : MethodName := ⟨RX3, "<init>", "()V"⟩
abbrev cX3_become : ByteArray := prog_5_method_2_code
def yX3_become : MethodName := ⟨RX3, "become", "(LTwiceRunning$Side;)V"⟩
abbrev cX3_rest : ByteArray := prog_5_method_3_code
def yX3_rest : MethodName := ⟨RX3, "rest", "()V"⟩
abbrev cX3_remember : ByteArray := prog_5_method_4_code
def yX3_remember : MethodName := ⟨RX3, "remember", "(ZII)V"⟩
def RX4 : String := "TwiceRunning$Tape"
def TX4 : u_T := fun k => match k with
  | 0 => ("TwiceRunning$Tape", "bytes", "[I", true)
  | 1 => ("TwiceRunning$Tape", "length", "I", false)
  | 2 => ("TwiceRunning$Tape", "tokenSort", "I", false)
  | 3 => ("TwiceRunning$Tape", "tokenBegin", "I", false)
  | 4 => ("TwiceRunning$Tape", "tokenEnd", "I", false)
  | _ => ("TwiceRunning$Tape", "tokenNumber", "I", false)
def tyX4 : Nat → FieldType := fun k => match k with
  | 0 => .array .int
  | 1 => .int
  | 2 => .int
  | 3 => .int
  | 4 => .int
  | _ => .int
abbrev wsX40 : List Cond := u_ws RX4 TX4 6
theorem nmX4 : ∀ a, a < 6 → ∀ b, b < 6 → a ≠ b → (TX4 a).2.1 ≠ (TX4 b).2.1 := by decide +kernel
theorem tyX4_ok : ∀ k, k < 6 → parseFieldDescriptor (TX4 k).2.2.1 = some (tyX4 k) := by decide +kernel
abbrev cX4_init : ByteArray := prog_6_method_1_code
def yX4_init : MethodName := ⟨RX4, "<init>", "()V"⟩
abbrev cX4_append : ByteArray := prog_6_method_2_code
def yX4_append : MethodName := ⟨RX4, "append", "(II)V"⟩
abbrev cX4_readInto : ByteArray := prog_6_method_3_code
def yX4_readInto : MethodName := ⟨RX4, "readInto", "(LTwiceRunning$League;)I"⟩
abbrev cX4_readItem : ByteArray := prog_6_method_4_code
def yX4_readItem : MethodName := ⟨RX4, "readItem", "(LTwiceRunning$League;)Z"⟩
abbrev cX4_readSide : ByteArray := prog_6_method_5_code
def yX4_readSide : MethodName := ⟨RX4, "readSide", "(LTwiceRunning$League;I)Z"⟩
abbrev cX4_readGame : ByteArray := prog_6_method_6_code
def yX4_readGame : MethodName := ⟨RX4, "readGame", "(LTwiceRunning$League;)Z"⟩
abbrev cX4_readLaw : ByteArray := prog_6_method_7_code
def yX4_readLaw : MethodName := ⟨RX4, "readLaw", "(LTwiceRunning$League;)Z"⟩
abbrev cX4_readPerhaps : ByteArray := prog_6_method_8_code
def yX4_readPerhaps : MethodName := ⟨RX4, "readPerhaps", "(Ljava/lang/String;III)I"⟩
abbrev cX4_isNumber : ByteArray := prog_6_method_9_code
def yX4_isNumber : MethodName := ⟨RX4, "isNumber", "(II)Z"⟩
abbrev cX4_isWord : ByteArray := prog_6_method_10_code
def yX4_isWord : MethodName := ⟨RX4, "isWord", "(Ljava/lang/String;)Z"⟩
abbrev cX4_kindOfWord : ByteArray := prog_6_method_11_code
def yX4_kindOfWord : MethodName := ⟨RX4, "kindOfWord", "()I"⟩
abbrev cX4_goOn : ByteArray := prog_6_method_12_code
def yX4_goOn : MethodName := ⟨RX4, "goOn", "()V"⟩
abbrev cX4_goThroughDigits : ByteArray := prog_6_method_13_code
def yX4_goThroughDigits : MethodName := ⟨RX4, "goThroughDigits", "()V"⟩
abbrev cX4_isLetter : ByteArray := prog_6_method_14_code
def yX4_isLetter : MethodName := ⟨RX4, "isLetter", "(I)Z"⟩
abbrev cX4_isDigit : ByteArray := prog_6_method_15_code
def yX4_isDigit : MethodName := ⟨RX4, "isDigit", "(I)Z"⟩
def RX5 : String := "TwiceRunning$Walk"
def TX5 : u_T := fun k => match k with
  | 0 => ("TwiceRunning$Walk", "league", "LTwiceRunning$League;", true)
  | 1 => ("TwiceRunning$Walk", "pointSums", "[J", true)
  | 2 => ("TwiceRunning$Walk", "firstSums", "[J", true)
  | 3 => ("TwiceRunning$Walk", "toFirst", "[J", true)
  | 4 => ("TwiceRunning$Walk", "movedSums", "[J", true)
  | 5 => ("TwiceRunning$Walk", "keptSums", "[J", true)
  | 6 => ("TwiceRunning$Walk", "all", "J", false)
  | 7 => ("TwiceRunning$Walk", "likely", "I", false)
  | 8 => ("TwiceRunning$Walk", "goalSide", "I", false)
  | 9 => ("TwiceRunning$Walk", "goalPoints", "I", false)
  | 10 => ("TwiceRunning$Walk", "alsoUnlikely", "Z", false)
  | 11 => ("TwiceRunning$Walk", "goalSum", "J", false)
  | _ => ("TwiceRunning$Walk", "mostPoints", "I", false)
def tyX5 : Nat → FieldType := fun k => match k with
  | 0 => .object "TwiceRunning$League"
  | 1 => .array .long
  | 2 => .array .long
  | 3 => .array .long
  | 4 => .array .long
  | 5 => .array .long
  | 6 => .long
  | 7 => .int
  | 8 => .int
  | 9 => .int
  | 10 => .boolean
  | 11 => .long
  | _ => .int
abbrev wsX50 : List Cond := u_ws RX5 TX5 13
theorem nmX5 : ∀ a, a < 13 → ∀ b, b < 13 → a ≠ b → (TX5 a).2.1 ≠ (TX5 b).2.1 := by decide +kernel
theorem tyX5_ok : ∀ k, k < 13 → parseFieldDescriptor (TX5 k).2.2.1 = some (tyX5 k) := by decide +kernel
abbrev cX5_init : ByteArray := prog_7_method_1_code
def yX5_init : MethodName := ⟨RX5, "<init>", "()V"⟩
abbrev cX5_over : ByteArray := prog_7_method_2_code
def yX5_over : MethodName := ⟨RX5, "over", "(IIZ)V"⟩
abbrev cX5_keepPointSums : ByteArray := prog_7_method_3_code
def yX5_keepPointSums : MethodName := ⟨RX5, "keepPointSums", "()V"⟩
abbrev cX5_keptAbovePointSum : ByteArray := prog_7_method_4_code
def yX5_keptAbovePointSum : MethodName := ⟨RX5, "keptAbovePointSum", "(I)J"⟩
abbrev cX5_startSums : ByteArray := prog_7_method_5_code
def yX5_startSums : MethodName := ⟨RX5, "startSums", "()V"⟩
abbrev cX5_follow : ByteArray := prog_7_method_6_code
def yX5_follow : MethodName := ⟨RX5, "follow", "(LTwiceRunning$Walk;IJ)V"⟩
abbrev cX5_arrive : ByteArray := prog_7_method_7_code
def yX5_arrive : MethodName := ⟨RX5, "arrive", "(J)V"⟩
def RX6 : String := "TwiceRunning"
def TX6 : u_T := fun k => match k with
  | 0 => ("TwiceRunning", "league", "LTwiceRunning$League;", true)
  | 1 => ("TwiceRunning", "kept", "LTwiceRunning$League;", true)
  | 2 => ("TwiceRunning", "isKept", "Z", false)
  | 3 => ("TwiceRunning", "walk", "LTwiceRunning$Walk;", true)
  | 4 => ("TwiceRunning", "trial", "LTwiceRunning$League;", true)
  | 5 => ("TwiceRunning", "tape", "LTwiceRunning$Tape;", true)
  | 6 => ("TwiceRunning", "sheets", "[LTwiceRunning$Sheet;", true)
  | _ => ("TwiceRunning", "findings", "[I", true)
def tyX6 : Nat → FieldType := fun k => match k with
  | 0 => .object "TwiceRunning$League"
  | 1 => .object "TwiceRunning$League"
  | 2 => .boolean
  | 3 => .object "TwiceRunning$Walk"
  | 4 => .object "TwiceRunning$League"
  | 5 => .object "TwiceRunning$Tape"
  | 6 => .array (.object "TwiceRunning$Sheet")
  | _ => .array .int
abbrev wsX60 : List Cond := u_ws RX6 TX6 8
theorem nmX6 : ∀ a, a < 8 → ∀ b, b < 8 → a ≠ b → (TX6 a).2.1 ≠ (TX6 b).2.1 := by decide +kernel
theorem tyX6_ok : ∀ k, k < 8 → parseFieldDescriptor (TX6 k).2.2.1 = some (tyX6 k) := by decide +kernel
abbrev cX6_init : ByteArray := prog_1_method_1_code
def yX6_init : MethodName := ⟨RX6, "<init>", "()V"⟩
abbrev cX6_side : ByteArray := prog_1_method_2_code
def yX6_side : MethodName := ⟨RX6, "side", "(II)I"⟩
abbrev cX6_sideOf : ByteArray := prog_1_method_3_code
def yX6_sideOf : MethodName := ⟨RX6, "sideOf", "(II)I"⟩
abbrev cX6_change : ByteArray := prog_1_method_4_code
def yX6_change : MethodName := ⟨RX6, "change", "(III)I"⟩
abbrev cX6_game : ByteArray := prog_1_method_5_code
def yX6_game : MethodName := ⟨RX6, "game", "(III)I"⟩
abbrev cX6_gameOf : ByteArray := prog_1_method_6_code
def yX6_gameOf : MethodName := ⟨RX6, "gameOf", "(II)I"⟩
abbrev cX6_swap : ByteArray := prog_1_method_7_code
def yX6_swap : MethodName := ⟨RX6, "swap", "(II)I"⟩
abbrev cX6_law : ByteArray := prog_1_method_8_code
def yX6_law : MethodName := ⟨RX6, "law", "(I)I"⟩
abbrev cX6_feed : ByteArray := prog_1_method_9_code
def yX6_feed : MethodName := ⟨RX6, "feed", "(II)I"⟩
abbrev cX6_wipe : ByteArray := prog_1_method_10_code
def yX6_wipe : MethodName := ⟨RX6, "wipe", "()I"⟩
abbrev cX6_text : ByteArray := prog_1_method_11_code
def yX6_text : MethodName := ⟨RX6, "text", "()I"⟩
abbrev cX6_next : ByteArray := prog_1_method_12_code
def yX6_next : MethodName := ⟨RX6, "next", "(I)I"⟩
abbrev cX6_win : ByteArray := prog_1_method_13_code
def yX6_win : MethodName := ⟨RX6, "win", "(I)I"⟩
abbrev cX6_play : ByteArray := prog_1_method_14_code
def yX6_play : MethodName := ⟨RX6, "play", "()I"⟩
abbrev cX6_anew : ByteArray := prog_1_method_15_code
def yX6_anew : MethodName := ⟨RX6, "anew", "()I"⟩
abbrev cX6_leads : ByteArray := prog_1_method_16_code
def yX6_leads : MethodName := ⟨RX6, "leads", "()I"⟩
abbrev cX6_place : ByteArray := prog_1_method_17_code
def yX6_place : MethodName := ⟨RX6, "place", "(I)I"⟩
abbrev cX6_gets : ByteArray := prog_1_method_18_code
def yX6_gets : MethodName := ⟨RX6, "gets", "(III)J"⟩
abbrev cX6_first : ByteArray := prog_1_method_19_code
def yX6_first : MethodName := ⟨RX6, "first", "(II)J"⟩
abbrev cX6_mean : ByteArray := prog_1_method_20_code
def yX6_mean : MethodName := ⟨RX6, "mean", "(II)J"⟩
abbrev cX6_least : ByteArray := prog_1_method_21_code
def yX6_least : MethodName := ⟨RX6, "least", "(III)J"⟩
abbrev cX6_most : ByteArray := prog_1_method_22_code
def yX6_most : MethodName := ⟨RX6, "most", "(I)I"⟩
abbrev cX6_ways : ByteArray := prog_1_method_23_code
def yX6_ways : MethodName := ⟨RX6, "ways", "()I"⟩
abbrev cX6_moved : ByteArray := prog_1_method_24_code
def yX6_moved : MethodName := ⟨RX6, "moved", "(II)J"⟩
abbrev cX6_best : ByteArray := prog_1_method_25_code
def yX6_best : MethodName := ⟨RX6, "best", "(I)I"⟩
abbrev cX6_kindFor : ByteArray := prog_1_method_26_code
def yX6_kindFor : MethodName := ⟨RX6, "kindFor", "(I)I"⟩
abbrev cX6_tellsFor : ByteArray := prog_1_method_27_code
def yX6_tellsFor : MethodName := ⟨RX6, "tellsFor", "(I)I"⟩
abbrev cX6_order : ByteArray := prog_1_method_28_code
def yX6_order : MethodName := ⟨RX6, "order", "(I)I"⟩
abbrev cX6_lawFor : ByteArray := prog_1_method_29_code
def yX6_lawFor : MethodName := ⟨RX6, "lawFor", "(I)I"⟩
abbrev cX6_gains : ByteArray := prog_1_method_30_code
def yX6_gains : MethodName := ⟨RX6, "gains", "()I"⟩
abbrev cX6_wronged : ByteArray := prog_1_method_31_code
def yX6_wronged : MethodName := ⟨RX6, "wronged", "()I"⟩
abbrev cX6_tries : ByteArray := prog_1_method_32_code
def yX6_tries : MethodName := ⟨RX6, "tries", "(II)I"⟩
abbrev cX6_seed : ByteArray := prog_1_method_33_code
def yX6_seed : MethodName := ⟨RX6, "seed", "(I)I"⟩
abbrev cX6_hold : ByteArray := prog_1_method_34_code
def yX6_hold : MethodName := ⟨RX6, "hold", "(II)I"⟩
abbrev cX6_as : ByteArray := prog_1_method_35_code
def yX6_as : MethodName := ⟨RX6, "as", "(II)I"⟩
abbrev cX6_sheet : ByteArray := prog_1_method_36_code
def yX6_sheet : MethodName := ⟨RX6, "sheet", "(III)I"⟩
abbrev cX6_write : ByteArray := prog_1_method_37_code
def yX6_write : MethodName := ⟨RX6, "write", "(III)I"⟩
abbrev cX6_copy : ByteArray := prog_1_method_38_code
def yX6_copy : MethodName := ⟨RX6, "copy", "(IIIII)I"⟩
abbrev cX6_load : ByteArray := prog_1_method_39_code
def yX6_load : MethodName := ⟨RX6, "load", "(I)I"⟩
abbrev cX6_judge : ByteArray := prog_1_method_40_code
def yX6_judge : MethodName := ⟨RX6, "judge", "(I)I"⟩
abbrev cX6_image : ByteArray := prog_1_method_41_code
def yX6_image : MethodName := ⟨RX6, "image", "()I"⟩
abbrev cX6_undo : ByteArray := prog_1_method_42_code
def yX6_undo : MethodName := ⟨RX6, "undo", "()I"⟩
abbrev cX6_tear : ByteArray := prog_1_method_43_code
def yX6_tear : MethodName := ⟨RX6, "tear", "()I"⟩
abbrev cX6_count : ByteArray := prog_1_method_44_code
def yX6_count : MethodName := ⟨RX6, "count", "(I)I"⟩
abbrev cX6_status : ByteArray := prog_1_method_45_code
def yX6_status : MethodName := ⟨RX6, "status", "(I)I"⟩
abbrev cX6_finding : ByteArray := prog_1_method_46_code
def yX6_finding : MethodName := ⟨RX6, "finding", "(I)I"⟩
abbrev cX6_isKind : ByteArray := prog_1_method_47_code
def yX6_isKind : MethodName := ⟨RX6, "isKind", "(I)Z"⟩
abbrev cX6_isStrength : ByteArray := prog_1_method_48_code
def yX6_isStrength : MethodName := ⟨RX6, "isStrength", "(I)Z"⟩
abbrev cX6_isPart : ByteArray := prog_1_method_49_code
def yX6_isPart : MethodName := ⟨RX6, "isPart", "(I)Z"⟩
abbrev cX6_isSpot : ByteArray := prog_1_method_50_code
def yX6_isSpot : MethodName := ⟨RX6, "isSpot", "(I)Z"⟩
abbrev cX6_isSheet : ByteArray := prog_1_method_51_code
def yX6_isSheet : MethodName := ⟨RX6, "isSheet", "(I)Z"⟩
abbrev cX6_canBecome : ByteArray := prog_1_method_52_code
def yX6_canBecome : MethodName := ⟨RX6, "canBecome", "(II)Z"⟩
abbrev cX6_isUnder : ByteArray := prog_1_method_53_code
def yX6_isUnder : MethodName := ⟨RX6, "isUnder", "(II)Z"⟩
abbrev cX6_goLikelyWays : ByteArray := prog_1_method_54_code
def yX6_goLikelyWays : MethodName := ⟨RX6, "goLikelyWays", "()V"⟩
abbrev cX6_greatestMean : ByteArray := prog_1_method_55_code
def yX6_greatestMean : MethodName := ⟨RX6, "greatestMean", "(IIII)I"⟩
abbrev cX6_suppose : ByteArray := prog_1_method_56_code
def yX6_suppose : MethodName := ⟨RX6, "suppose", "(III)V"⟩
abbrev cX6_bestOrder : ByteArray := prog_1_method_57_code
def yX6_bestOrder : MethodName := ⟨RX6, "bestOrder", "(II)I"⟩
abbrev cX6_arrangeTrial : ByteArray := prog_1_method_58_code
def yX6_arrangeTrial : MethodName := ⟨RX6, "arrangeTrial", "(II)I"⟩
abbrev cX6_inLowestTerms : ByteArray := prog_1_method_59_code
def yX6_inLowestTerms : MethodName := ⟨RX6, "inLowestTerms", "(JJI)J"⟩
def RX7 : String := "TwiceRunningModel"
def TX7 : u_T := fun k => match k with
  | 0 => ("TwiceRunningModel", "s", "[I", true)
  | 1 => ("TwiceRunningModel", "kept", "[I", true)
  | 2 => ("TwiceRunningModel", "put", "[I", true)
  | 3 => ("TwiceRunningModel", "isKept", "Z", false)
  | 4 => ("TwiceRunningModel", "findings", "[I", true)
  | 5 => ("TwiceRunningModel", "toldGame", "I", false)
  | 6 => ("TwiceRunningModel", "toldSide", "I", false)
  | 7 => ("TwiceRunningModel", "toldEffort", "I", false)
  | 8 => ("TwiceRunningModel", "tape", "[I", true)
  | 9 => ("TwiceRunningModel", "taped", "I", false)
  | 10 => ("TwiceRunningModel", "at", "I", false)
  | 11 => ("TwiceRunningModel", "token", "I", false)
  | 12 => ("TwiceRunningModel", "tokenAt", "I", false)
  | 13 => ("TwiceRunningModel", "value", "I", false)
  | 14 => ("TwiceRunningModel", "taken", "I", false)
  | 15 => ("TwiceRunningModel", "items", "I", false)
  | 16 => ("TwiceRunningModel", "given", "[J", true)
  | 17 => ("TwiceRunningModel", "moves", "[J", true)
  | 18 => ("TwiceRunningModel", "firsts", "[J", true)
  | 19 => ("TwiceRunningModel", "means", "[J", true)
  | 20 => ("TwiceRunningModel", "mosts", "[I", true)
  | 21 => ("TwiceRunningModel", "asked", "I", false)
  | 22 => ("TwiceRunningModel", "leasts", "[J", true)
  | 23 => ("TwiceRunningModel", "wayCount", "I", false)
  | 24 => ("TwiceRunningModel", "row", "[I", true)
  | 25 => ("TwiceRunningModel", "meansBy", "[J", true)
  | 26 => ("TwiceRunningModel", "bits", "[I", true)
  | 27 => ("TwiceRunningModel", "sizes", "[I", true)
  | 28 => ("TwiceRunningModel", "number", "[I", true)
  | _ => ("TwiceRunningModel", "carried", "[I", true)
def tyX7 : Nat → FieldType := fun k => match k with
  | 0 => .array .int
  | 1 => .array .int
  | 2 => .array .int
  | 3 => .boolean
  | 4 => .array .int
  | 5 => .int
  | 6 => .int
  | 7 => .int
  | 8 => .array .int
  | 9 => .int
  | 10 => .int
  | 11 => .int
  | 12 => .int
  | 13 => .int
  | 14 => .int
  | 15 => .int
  | 16 => .array .long
  | 17 => .array .long
  | 18 => .array .long
  | 19 => .array .long
  | 20 => .array .int
  | 21 => .int
  | 22 => .array .long
  | 23 => .int
  | 24 => .array .int
  | 25 => .array .long
  | 26 => .array .int
  | 27 => .array .int
  | 28 => .array .int
  | _ => .array .int
abbrev wsX70 : List Cond := u_ws RX7 TX7 30
theorem nmX7 : ∀ a, a < 30 → ∀ b, b < 30 → a ≠ b → (TX7 a).2.1 ≠ (TX7 b).2.1 := by decide +kernel
theorem tyX7_ok : ∀ k, k < 30 → parseFieldDescriptor (TX7 k).2.2.1 = some (tyX7 k) := by decide +kernel
abbrev cX7_init : ByteArray := prog_9_method_1_code
def yX7_init : MethodName := ⟨RX7, "<init>", "()V"⟩
abbrev cX7_finding : ByteArray := prog_9_method_2_code
def yX7_finding : MethodName := ⟨RX7, "finding", "(I)I"⟩
abbrev cX7_in : ByteArray := prog_9_method_3_code
def yX7_in : MethodName := ⟨RX7, "in", "(III)Z"⟩
abbrev cX7_carry : ByteArray := prog_9_method_4_code
def yX7_carry : MethodName := ⟨RX7, "carry", "([I[I)V"⟩
abbrev cX7_isSide : ByteArray := prog_9_method_5_code
def yX7_isSide : MethodName := ⟨RX7, "isSide", "(I)Z"⟩
abbrev cX7_isGame : ByteArray := prog_9_method_6_code
def yX7_isGame : MethodName := ⟨RX7, "isGame", "(I)Z"⟩
abbrev cX7_its : ByteArray := prog_9_method_7_code
def yX7_its : MethodName := ⟨RX7, "its", "(II)I"⟩
abbrev cX7_of : ByteArray := prog_9_method_8_code
def yX7_of : MethodName := ⟨RX7, "of", "(II)I"⟩
abbrev cX7_plays : ByteArray := prog_9_method_9_code
def yX7_plays : MethodName := ⟨RX7, "plays", "(II)Z"⟩
abbrev cX7_points : ByteArray := prog_9_method_10_code
def yX7_points : MethodName := ⟨RX7, "points", "(I)I"⟩
abbrev cX7_isBarred : ByteArray := prog_9_method_11_code
def yX7_isBarred : MethodName := ⟨RX7, "isBarred", "(I)Z"⟩
abbrev cX7_isTired : ByteArray := prog_9_method_12_code
def yX7_isTired : MethodName := ⟨RX7, "isTired", "(I)Z"⟩
abbrev cX7_hasGreater : ByteArray := prog_9_method_13_code
def yX7_hasGreater : MethodName := ⟨RX7, "hasGreater", "(II)Z"⟩
abbrev cX7_effort : ByteArray := prog_9_method_14_code
def yX7_effort : MethodName := ⟨RX7, "effort", "(II)I"⟩
abbrev cX7_force : ByteArray := prog_9_method_15_code
def yX7_force : MethodName := ⟨RX7, "force", "(II)I"⟩
abbrev cX7_chance : ByteArray := prog_9_method_16_code
def yX7_chance : MethodName := ⟨RX7, "chance", "(III)I"⟩
abbrev cX7_givenTo : ByteArray := prog_9_method_17_code
def yX7_givenTo : MethodName := ⟨RX7, "givenTo", "(II)I"⟩
abbrev cX7_wins : ByteArray := prog_9_method_18_code
def yX7_wins : MethodName := ⟨RX7, "wins", "(III)V"⟩
abbrev cX7_winsNow : ByteArray := prog_9_method_19_code
def yX7_winsNow : MethodName := ⟨RX7, "winsNow", "(I)V"⟩
abbrev cX7_isOver : ByteArray := prog_9_method_20_code
def yX7_isOver : MethodName := ⟨RX7, "isOver", "()Z"⟩
abbrev cX7_leader : ByteArray := prog_9_method_21_code
def yX7_leader : MethodName := ⟨RX7, "leader", "()I"⟩
abbrev cX7_side : ByteArray := prog_9_method_22_code
def yX7_side : MethodName := ⟨RX7, "side", "(II)I"⟩
abbrev cX7_addSide : ByteArray := prog_9_method_23_code
def yX7_addSide : MethodName := ⟨RX7, "addSide", "(III)V"⟩
abbrev cX7_games : ByteArray := prog_9_method_24_code
def yX7_games : MethodName := ⟨RX7, "games", "(IZ)I"⟩
abbrev cX7_sideOf : ByteArray := prog_9_method_25_code
def yX7_sideOf : MethodName := ⟨RX7, "sideOf", "(II)I"⟩
abbrev cX7_change : ByteArray := prog_9_method_26_code
def yX7_change : MethodName := ⟨RX7, "change", "(III)I"⟩
abbrev cX7_addGame : ByteArray := prog_9_method_27_code
def yX7_addGame : MethodName := ⟨RX7, "addGame", "(III)V"⟩
abbrev cX7_game : ByteArray := prog_9_method_28_code
def yX7_game : MethodName := ⟨RX7, "game", "(III)I"⟩
abbrev cX7_gameOf : ByteArray := prog_9_method_29_code
def yX7_gameOf : MethodName := ⟨RX7, "gameOf", "(II)I"⟩
abbrev cX7_swaps : ByteArray := prog_9_method_30_code
def yX7_swaps : MethodName := ⟨RX7, "swaps", "(II)V"⟩
abbrev cX7_swap : ByteArray := prog_9_method_31_code
def yX7_swap : MethodName := ⟨RX7, "swap", "(II)I"⟩
abbrev cX7_law : ByteArray := prog_9_method_32_code
def yX7_law : MethodName := ⟨RX7, "law", "(I)I"⟩
abbrev cX7_feed : ByteArray := prog_9_method_33_code
def yX7_feed : MethodName := ⟨RX7, "feed", "(II)I"⟩
abbrev cX7_wipe : ByteArray := prog_9_method_34_code
def yX7_wipe : MethodName := ⟨RX7, "wipe", "()I"⟩
abbrev cX7_byteAt : ByteArray := prog_9_method_35_code
def yX7_byteAt : MethodName := ⟨RX7, "byteAt", "(I)I"⟩
abbrev cX7_nextToken : ByteArray := prog_9_method_36_code
def yX7_nextToken : MethodName := ⟨RX7, "nextToken", "()V"⟩
abbrev cX7_isWord : ByteArray := prog_9_method_37_code
def yX7_isWord : MethodName := ⟨RX7, "isWord", "(Ljava/lang/String;)Z"⟩
abbrev cX7_isNumber : ByteArray := prog_9_method_38_code
def yX7_isNumber : MethodName := ⟨RX7, "isNumber", "(II)Z"⟩
abbrev cX7_takes : ByteArray := prog_9_method_39_code
def yX7_takes : MethodName := ⟨RX7, "takes", "(Ljava/lang/String;)Z"⟩
abbrev cX7_takesNumber : ByteArray := prog_9_method_40_code
def yX7_takesNumber : MethodName := ⟨RX7, "takesNumber", "(II)Z"⟩
abbrev cX7_takesSide : ByteArray := prog_9_method_41_code
def yX7_takesSide : MethodName := ⟨RX7, "takesSide", "(I)Z"⟩
abbrev cX7_takesGame : ByteArray := prog_9_method_42_code
def yX7_takesGame : MethodName := ⟨RX7, "takesGame", "()Z"⟩
abbrev cX7_takesItem : ByteArray := prog_9_method_43_code
def yX7_takesItem : MethodName := ⟨RX7, "takesItem", "()Z"⟩
abbrev cX7_takesAll : ByteArray := prog_9_method_44_code
def yX7_takesAll : MethodName := ⟨RX7, "takesAll", "()Z"⟩
abbrev cX7_text : ByteArray := prog_9_method_45_code
def yX7_text : MethodName := ⟨RX7, "text", "()I"⟩
abbrev cX7_next : ByteArray := prog_9_method_46_code
def yX7_next : MethodName := ⟨RX7, "next", "(I)I"⟩
abbrev cX7_win : ByteArray := prog_9_method_47_code
def yX7_win : MethodName := ⟨RX7, "win", "(I)I"⟩
abbrev cX7_draw : ByteArray := prog_9_method_48_code
def yX7_draw : MethodName := ⟨RX7, "draw", "()I"⟩
abbrev cX7_drawsNext : ByteArray := prog_9_method_49_code
def yX7_drawsNext : MethodName := ⟨RX7, "drawsNext", "()V"⟩
abbrev cX7_play : ByteArray := prog_9_method_50_code
def yX7_play : MethodName := ⟨RX7, "play", "()I"⟩
abbrev cX7_anew : ByteArray := prog_9_method_51_code
def yX7_anew : MethodName := ⟨RX7, "anew", "()I"⟩
abbrev cX7_leads : ByteArray := prog_9_method_52_code
def yX7_leads : MethodName := ⟨RX7, "leads", "()I"⟩
abbrev cX7_place : ByteArray := prog_9_method_53_code
def yX7_place : MethodName := ⟨RX7, "place", "(I)I"⟩
abbrev cX7_ends : ByteArray := prog_9_method_54_code
def yX7_ends : MethodName := ⟨RX7, "ends", "(J)V"⟩
abbrev cX7_goesOn : ByteArray := prog_9_method_55_code
def yX7_goesOn : MethodName := ⟨RX7, "goesOn", "(J)V"⟩
abbrev cX7_findWays : ByteArray := prog_9_method_56_code
def yX7_findWays : MethodName := ⟨RX7, "findWays", "()J"⟩
abbrev cX7_told : ByteArray := prog_9_method_57_code
def yX7_told : MethodName := ⟨RX7, "told", "(JJI)J"⟩
abbrev cX7_isPart : ByteArray := prog_9_method_58_code
def yX7_isPart : MethodName := ⟨RX7, "isPart", "(I)Z"⟩
abbrev cX7_gets : ByteArray := prog_9_method_59_code
def yX7_gets : MethodName := ⟨RX7, "gets", "(III)J"⟩
abbrev cX7_first : ByteArray := prog_9_method_60_code
def yX7_first : MethodName := ⟨RX7, "first", "(II)J"⟩
abbrev cX7_mean : ByteArray := prog_9_method_61_code
def yX7_mean : MethodName := ⟨RX7, "mean", "(II)J"⟩
abbrev cX7_least : ByteArray := prog_9_method_62_code
def yX7_least : MethodName := ⟨RX7, "least", "(III)J"⟩
abbrev cX7_most : ByteArray := prog_9_method_63_code
def yX7_most : MethodName := ⟨RX7, "most", "(I)I"⟩
abbrev cX7_ways : ByteArray := prog_9_method_64_code
def yX7_ways : MethodName := ⟨RX7, "ways", "()I"⟩
abbrev cX7_moved : ByteArray := prog_9_method_65_code
def yX7_moved : MethodName := ⟨RX7, "moved", "(II)J"⟩
abbrev cX7_meanOf : ByteArray := prog_9_method_66_code
def yX7_meanOf : MethodName := ⟨RX7, "meanOf", "(I)J"⟩
abbrev cX7_best : ByteArray := prog_9_method_67_code
def yX7_best : MethodName := ⟨RX7, "best", "(I)I"⟩
abbrev cX7_bestLaid : ByteArray := prog_9_method_68_code
def yX7_bestLaid : MethodName := ⟨RX7, "bestLaid", "(IIII)I"⟩
abbrev cX7_kindFor : ByteArray := prog_9_method_69_code
def yX7_kindFor : MethodName := ⟨RX7, "kindFor", "(I)I"⟩
abbrev cX7_tellsFor : ByteArray := prog_9_method_70_code
def yX7_tellsFor : MethodName := ⟨RX7, "tellsFor", "(I)I"⟩
abbrev cX7_nextRow : ByteArray := prog_9_method_71_code
def yX7_nextRow : MethodName := ⟨RX7, "nextRow", "(I)Z"⟩
abbrev cX7_order : ByteArray := prog_9_method_72_code
def yX7_order : MethodName := ⟨RX7, "order", "(I)I"⟩
abbrev cX7_lawFor : ByteArray := prog_9_method_73_code
def yX7_lawFor : MethodName := ⟨RX7, "lawFor", "(I)I"⟩
abbrev cX7_gains : ByteArray := prog_9_method_74_code
def yX7_gains : MethodName := ⟨RX7, "gains", "()I"⟩
abbrev cX7_wronged : ByteArray := prog_9_method_75_code
def yX7_wronged : MethodName := ⟨RX7, "wronged", "()I"⟩
abbrev cX7_tries : ByteArray := prog_9_method_76_code
def yX7_tries : MethodName := ⟨RX7, "tries", "(II)I"⟩
abbrev cX7_seed : ByteArray := prog_9_method_77_code
def yX7_seed : MethodName := ⟨RX7, "seed", "(I)I"⟩
abbrev cX7_hold : ByteArray := prog_9_method_78_code
def yX7_hold : MethodName := ⟨RX7, "hold", "(II)I"⟩
abbrev cX7_isUnder : ByteArray := prog_9_method_79_code
def yX7_isUnder : MethodName := ⟨RX7, "isUnder", "(II)Z"⟩
abbrev cX7_as : ByteArray := prog_9_method_80_code
def yX7_as : MethodName := ⟨RX7, "as", "(II)I"⟩
abbrev cX7_isSheet : ByteArray := prog_9_method_81_code
def yX7_isSheet : MethodName := ⟨RX7, "isSheet", "(I)Z"⟩
abbrev cX7_sheet : ByteArray := prog_9_method_82_code
def yX7_sheet : MethodName := ⟨RX7, "sheet", "(III)I"⟩
abbrev cX7_write : ByteArray := prog_9_method_83_code
def yX7_write : MethodName := ⟨RX7, "write", "(III)I"⟩
abbrev cX7_copy : ByteArray := prog_9_method_84_code
def yX7_copy : MethodName := ⟨RX7, "copy", "(IIIII)I"⟩
abbrev cX7_lacks : ByteArray := prog_9_method_85_code
def yX7_lacks : MethodName := ⟨RX7, "lacks", "(I)I"⟩
abbrev cX7_load : ByteArray := prog_9_method_86_code
def yX7_load : MethodName := ⟨RX7, "load", "(I)I"⟩
abbrev cX7_judge : ByteArray := prog_9_method_87_code
def yX7_judge : MethodName := ⟨RX7, "judge", "(I)I"⟩
abbrev cX7_image : ByteArray := prog_9_method_88_code
def yX7_image : MethodName := ⟨RX7, "image", "()I"⟩
abbrev cX7_undo : ByteArray := prog_9_method_89_code
def yX7_undo : MethodName := ⟨RX7, "undo", "()I"⟩
abbrev cX7_tear : ByteArray := prog_9_method_90_code
def yX7_tear : MethodName := ⟨RX7, "tear", "()I"⟩
abbrev cX7_count : ByteArray := prog_9_method_91_code
def yX7_count : MethodName := ⟨RX7, "count", "(I)I"⟩
abbrev cX7_status : ByteArray := prog_9_method_92_code
def yX7_status : MethodName := ⟨RX7, "status", "(I)I"⟩
def RJ9 : String := "java/lang/Math"
def TJ9 : u_T := fun k => match k with
  | _ => ("", "", "", false)
def tyJ9 : Nat → FieldType := fun k => match k with
  | _ => .int
abbrev wsJ90 : List Cond := u_ws RJ9 TJ9 0
theorem nmJ9 : ∀ a, a < 0 → ∀ b, b < 0 → a ≠ b → (TJ9 a).2.1 ≠ (TJ9 b).2.1 := by decide +kernel
theorem tyJ9_ok : ∀ k, k < 0 → parseFieldDescriptor (TJ9 k).2.2.1 = some (tyJ9 k) := by decide +kernel
abbrev cJ9_max_7cf53 : ByteArray := prog_10_method_65_code
def yJ9_max_7cf53 : MethodName := ⟨RJ9, "max", "(II)I"⟩
abbrev cJ9_min_7cf53 : ByteArray := prog_10_method_69_code
def yJ9_min_7cf53 : MethodName := ⟨RJ9, "min", "(II)I"⟩
def RJ0 : String := "java/lang/String"
def TJ0 : u_T := fun k => match k with
  | _ => ("", "", "", false)
def tyJ0 : Nat → FieldType := fun k => match k with
  | _ => .int
abbrev wsJ00 : List Cond := u_ws RJ0 TJ0 0
theorem nmJ0 : ∀ a, a < 0 → ∀ b, b < 0 → a ≠ b → (TJ0 a).2.1 ≠ (TJ0 b).2.1 := by decide +kernel
theorem tyJ0_ok : ∀ k, k < 0 → parseFieldDescriptor (TJ0 k).2.2.1 = some (tyJ0 k) := by decide +kernel
abbrev cJ0_length_8abf5 : ByteArray := prog_11_method_54_code
def yJ0_length_8abf5 : MethodName := ⟨RJ0, "length", "()I"⟩
abbrev cJ0_charAt_5068e : ByteArray := prog_11_method_56_code
def yJ0_charAt_5068e : MethodName := ⟨RJ0, "charAt", "(I)C"⟩
abbrev cJ0_coder_7d493 : ByteArray := prog_11_method_152_code
def yJ0_coder_7d493 : MethodName := ⟨RJ0, "coder", "()B"⟩
abbrev cJ0_isLatin1_aae02 : ByteArray := prog_11_method_154_code
def yJ0_isLatin1_aae02 : MethodName := ⟨RJ0, "isLatin1", "()Z"⟩
abbrev cJ0_checkIndex_df160 : ByteArray := prog_11_method_155_code
def yJ0_checkIndex_df160 : MethodName := ⟨RJ0, "checkIndex", "(II)V"⟩
def RJ1 : String := "java/lang/StringLatin1"
def TJ1 : u_T := fun k => match k with
  | _ => ("", "", "", false)
def tyJ1 : Nat → FieldType := fun k => match k with
  | _ => .int
abbrev wsJ10 : List Cond := u_ws RJ1 TJ1 0
theorem nmJ1 : ∀ a, a < 0 → ∀ b, b < 0 → a ≠ b → (TJ1 a).2.1 ≠ (TJ1 b).2.1 := by decide +kernel
theorem tyJ1_ok : ∀ k, k < 0 → parseFieldDescriptor (TJ1 k).2.2.1 = some (tyJ1 k) := by decide +kernel
abbrev cJ1_charAt_3b067 : ByteArray := prog_12_method_2_code
def yJ1_charAt_3b067 : MethodName := ⟨RJ1, "charAt", "([BI)C"⟩
def RJ2 : String := "java/lang/StringUTF16"
def TJ2 : u_T := fun k => match k with
  | _ => ("", "", "", false)
def tyJ2 : Nat → FieldType := fun k => match k with
  | _ => .int
abbrev wsJ20 : List Cond := u_ws RJ2 TJ2 0
theorem nmJ2 : ∀ a, a < 0 → ∀ b, b < 0 → a ≠ b → (TJ2 a).2.1 ≠ (TJ2 b).2.1 := by decide +kernel
theorem tyJ2_ok : ∀ k, k < 0 → parseFieldDescriptor (TJ2 k).2.2.1 = some (tyJ2 k) := by decide +kernel
abbrev cJ2_getChar_3b067 : ByteArray := prog_13_method_5_code
def yJ2_getChar_3b067 : MethodName := ⟨RJ2, "getChar", "([BI)C"⟩
abbrev cJ2_length_9d52b : ByteArray := prog_13_method_6_code
def yJ2_length_9d52b : MethodName := ⟨RJ2, "length", "([B)I"⟩
abbrev cJ2_charAt_3b067 : ByteArray := prog_13_method_83_code
def yJ2_charAt_3b067 : MethodName := ⟨RJ2, "charAt", "([BI)C"⟩
abbrev cJ2_checkIndex_2214a : ByteArray := prog_13_method_91_code
def yJ2_checkIndex_2214a : MethodName := ⟨RJ2, "checkIndex", "(I[B)V"⟩
def RJ10 : String := "java/lang/System"
def TJ10 : u_T := fun k => match k with
  | _ => ("", "", "", false)
def tyJ10 : Nat → FieldType := fun k => match k with
  | _ => .int
abbrev wsJ100 : List Cond := u_ws RJ10 TJ10 0
theorem nmJ10 : ∀ a, a < 0 → ∀ b, b < 0 → a ≠ b → (TJ10 a).2.1 ≠ (TJ10 b).2.1 := by decide +kernel
theorem tyJ10_ok : ∀ k, k < 0 → parseFieldDescriptor (TJ10 k).2.2.1 = some (tyJ10 k) := by decide +kernel
def RJ3 : String := "jdk/internal/util/Preconditions"
def TJ3 : u_T := fun k => match k with
  | _ => ("", "", "", false)
def tyJ3 : Nat → FieldType := fun k => match k with
  | _ => .int
abbrev wsJ30 : List Cond := u_ws RJ3 TJ3 0
theorem nmJ3 : ∀ a, a < 0 → ∀ b, b < 0 → a ≠ b → (TJ3 a).2.1 ≠ (TJ3 b).2.1 := by decide +kernel
theorem tyJ3_ok : ∀ k, k < 0 → parseFieldDescriptor (TJ3 k).2.2.1 = some (tyJ3 k) := by decide +kernel
abbrev cJ3_checkIndex_8e157 : ByteArray := prog_15_method_11_code
def yJ3_checkIndex_8e157 : MethodName := ⟨RJ3, "checkIndex", "(IILjava/util/function/BiFunction;)I"⟩
def RL : String := "TwiceRunningLaw"
abbrev cL_law : ByteArray := code
def yL_law : MethodName := ⟨RL, "law", "([I)Z"⟩
abbrev vwCl : List vw_C := [(RX0, TX0, 9), (RX1, TX1, 11), (RX2, TX2, 3), (RX3, TX3, 6), (RX4, TX4, 6), (RX5, TX5, 13), (RX6, TX6, 8), (RX7, TX7, 30)]
/-- the words that every method's contract takes: those of the tables that a call keeps -/
def gW : List Cond := lw_tbl.filter goodWord
theorem gW_mem {i : Nat} {w : Cond} (h : lw_tbl[i]? = some w) (hg : goodWord w = true) : w ∈ gW := List.mem_filter.mpr ⟨List.mem_of_getElem? h, hg⟩
def wU (y : MethodName) (cc : ByteArray) (nL : Nat) (rt : Option FieldType) : List Cond := Cond.code y cc nL rt :: gW
theorem gW_good {y : MethodName} {cc : ByteArray} {nL : Nat} {rt : Option FieldType} {big : List Cond} (h : ∀ w ∈ gW, w ∈ big) (hc : Cond.code y cc nL rt ∈ gW) : GoodIn big (wU y cc nL rt) := by
  intro w hw
  rcases List.mem_cons.mp hw with e | e
  · subst e
    exact ⟨h _ hc, good_of_word (List.mem_filter.mp hc).2⟩
  · exact ⟨h w e, good_of_word (List.mem_filter.mp e).2⟩
theorem gW_goodV {own C : String} {idx : Nat} {y : MethodName} {cc : ByteArray} {nL : Nat} {rt : Option FieldType} {big : List Cond} (h : ∀ w ∈ gW, w ∈ big) (hc : Cond.code y cc nL rt ∈ gW) (h1 : Cond.methodLink own idx y ∈ gW) (h2 : Cond.instanceMethod y ∈ gW) (h3 : Cond.selects C y y ∈ gW) (h4 : Cond.initialized C ∈ gW) : GoodIn big (wsV own idx C y (wU y cc nL rt)) := by
  intro w hw
  rcases List.mem_append.mp hw with e | e
  · have e2 : w ∈ gW := by
      rcases List.mem_cons.mp e with e | e
      · subst e; exact h1
      rcases List.mem_cons.mp e with e | e
      · subst e; exact h2
      rcases List.mem_cons.mp e with e | e
      · subst e; exact h3
      rcases List.mem_cons.mp e with e | e
      · subst e; exact h4
      · cases e
    exact ⟨h w e2, good_of_word (List.mem_filter.mp e2).2⟩
  · exact gW_good h hc w e
theorem gW_goodS {own : String} {idx : Nat} {y : MethodName} {cc : ByteArray} {nL : Nat} {rt : Option FieldType} {big : List Cond} (h : ∀ w ∈ gW, w ∈ big) (hc : Cond.code y cc nL rt ∈ gW) (h1 : Cond.methodLink own idx y ∈ gW) (h2 : Cond.static y ∈ gW) (h3 : Cond.initialized y.cls ∈ gW) : GoodIn big (va_wsS own idx y (wU y cc nL rt)) := by
  intro w hw
  rcases List.mem_append.mp hw with e | e
  · have e2 : w ∈ gW := by
      rcases List.mem_cons.mp e with e | e
      · subst e; exact h1
      rcases List.mem_cons.mp e with e | e
      · subst e; exact h2
      rcases List.mem_cons.mp e with e | e
      · subst e; exact h3
      · cases e
    exact ⟨h w e2, good_of_word (List.mem_filter.mp e2).2⟩
  · exact gW_good h hc w e
theorem qw0 : Cond.selects RX6 yX6_finding yX6_finding ∈ gW := gW_mem (i := 0) (by decide +kernel) (by decide +kernel)
theorem qw1 : Cond.selects RX4 yX4_goOn yX4_goOn ∈ gW := gW_mem (i := 1) (by decide +kernel) (by decide +kernel)
theorem qw2 : Cond.selects RX4 yX4_goThroughDigits yX4_goThroughDigits ∈ gW := gW_mem (i := 2) (by decide +kernel) (by decide +kernel)
theorem qw3 : Cond.selects RX4 yX4_readItem yX4_readItem ∈ gW := gW_mem (i := 3) (by decide +kernel) (by decide +kernel)
theorem qw4 : Cond.selects RX4 yX4_kindOfWord yX4_kindOfWord ∈ gW := gW_mem (i := 4) (by decide +kernel) (by decide +kernel)
theorem qw5 : Cond.selects RX4 yX4_isWord yX4_isWord ∈ gW := gW_mem (i := 5) (by decide +kernel) (by decide +kernel)
theorem qw6 : Cond.selects RX4 yX4_readSide yX4_readSide ∈ gW := gW_mem (i := 6) (by decide +kernel) (by decide +kernel)
theorem qw7 : Cond.selects RX4 yX4_isNumber yX4_isNumber ∈ gW := gW_mem (i := 7) (by decide +kernel) (by decide +kernel)
theorem qw8 : Cond.selects RX4 yX4_readPerhaps yX4_readPerhaps ∈ gW := gW_mem (i := 8) (by decide +kernel) (by decide +kernel)
theorem qw9 : Cond.selects RX4 yX4_readGame yX4_readGame ∈ gW := gW_mem (i := 9) (by decide +kernel) (by decide +kernel)
theorem qw10 : Cond.selects RX4 yX4_readLaw yX4_readLaw ∈ gW := gW_mem (i := 10) (by decide +kernel) (by decide +kernel)
theorem qw11 : Cond.selects RX6 yX6_goLikelyWays yX6_goLikelyWays ∈ gW := gW_mem (i := 11) (by decide +kernel) (by decide +kernel)
theorem qw12 : Cond.selects RX5 yX5_startSums yX5_startSums ∈ gW := gW_mem (i := 12) (by decide +kernel) (by decide +kernel)
theorem qw13 : Cond.selects RX5 yX5_arrive yX5_arrive ∈ gW := gW_mem (i := 13) (by decide +kernel) (by decide +kernel)
theorem qw14 : Cond.selects RX6 yX6_greatestMean yX6_greatestMean ∈ gW := gW_mem (i := 14) (by decide +kernel) (by decide +kernel)
theorem qw15 : Cond.selects RX6 yX6_suppose yX6_suppose ∈ gW := gW_mem (i := 15) (by decide +kernel) (by decide +kernel)
theorem qw16 : Cond.selects RX6 yX6_bestOrder yX6_bestOrder ∈ gW := gW_mem (i := 16) (by decide +kernel) (by decide +kernel)
theorem qw17 : Cond.selects RX6 yX6_arrangeTrial yX6_arrangeTrial ∈ gW := gW_mem (i := 17) (by decide +kernel) (by decide +kernel)
theorem qw18 : Cond.selects RX7 yX7_finding yX7_finding ∈ gW := gW_mem (i := 18) (by decide +kernel) (by decide +kernel)
theorem qw19 : Cond.selects RX7 yX7_addSide yX7_addSide ∈ gW := gW_mem (i := 19) (by decide +kernel) (by decide +kernel)
theorem qw20 : Cond.selects RX7 yX7_isSide yX7_isSide ∈ gW := gW_mem (i := 20) (by decide +kernel) (by decide +kernel)
theorem qw21 : Cond.selects RX7 yX7_points yX7_points ∈ gW := gW_mem (i := 21) (by decide +kernel) (by decide +kernel)
theorem qw22 : Cond.selects RX7 yX7_of yX7_of ∈ gW := gW_mem (i := 22) (by decide +kernel) (by decide +kernel)
theorem qw23 : Cond.selects RX7 yX7_isBarred yX7_isBarred ∈ gW := gW_mem (i := 23) (by decide +kernel) (by decide +kernel)
theorem qw24 : Cond.selects RX7 yX7_plays yX7_plays ∈ gW := gW_mem (i := 24) (by decide +kernel) (by decide +kernel)
theorem qw25 : Cond.selects RX7 yX7_isTired yX7_isTired ∈ gW := gW_mem (i := 25) (by decide +kernel) (by decide +kernel)
theorem qw26 : Cond.selects RX7 yX7_games yX7_games ∈ gW := gW_mem (i := 26) (by decide +kernel) (by decide +kernel)
theorem qw27 : Cond.selects RX7 yX7_its yX7_its ∈ gW := gW_mem (i := 27) (by decide +kernel) (by decide +kernel)
theorem qw28 : Cond.selects RX7 yX7_addGame yX7_addGame ∈ gW := gW_mem (i := 28) (by decide +kernel) (by decide +kernel)
theorem qw29 : Cond.selects RX7 yX7_isGame yX7_isGame ∈ gW := gW_mem (i := 29) (by decide +kernel) (by decide +kernel)
theorem qw30 : Cond.selects RX7 yX7_swaps yX7_swaps ∈ gW := gW_mem (i := 30) (by decide +kernel) (by decide +kernel)
theorem qw31 : Cond.selects RX7 yX7_takesAll yX7_takesAll ∈ gW := gW_mem (i := 31) (by decide +kernel) (by decide +kernel)
theorem qw32 : Cond.selects RX7 yX7_nextToken yX7_nextToken ∈ gW := gW_mem (i := 32) (by decide +kernel) (by decide +kernel)
theorem qw33 : Cond.selects RX7 yX7_byteAt yX7_byteAt ∈ gW := gW_mem (i := 33) (by decide +kernel) (by decide +kernel)
theorem qw34 : Cond.selects RX7 yX7_takesItem yX7_takesItem ∈ gW := gW_mem (i := 34) (by decide +kernel) (by decide +kernel)
theorem qw35 : Cond.selects RX7 yX7_takes yX7_takes ∈ gW := gW_mem (i := 35) (by decide +kernel) (by decide +kernel)
theorem qw36 : Cond.selects RX7 yX7_isWord yX7_isWord ∈ gW := gW_mem (i := 36) (by decide +kernel) (by decide +kernel)
theorem qw37 : Cond.selects RX7 yX7_takesNumber yX7_takesNumber ∈ gW := gW_mem (i := 37) (by decide +kernel) (by decide +kernel)
theorem qw38 : Cond.selects RX7 yX7_isNumber yX7_isNumber ∈ gW := gW_mem (i := 38) (by decide +kernel) (by decide +kernel)
theorem qw39 : Cond.selects RX7 yX7_takesGame yX7_takesGame ∈ gW := gW_mem (i := 39) (by decide +kernel) (by decide +kernel)
theorem qw40 : Cond.selects RX7 yX7_takesSide yX7_takesSide ∈ gW := gW_mem (i := 40) (by decide +kernel) (by decide +kernel)
theorem qw41 : Cond.selects RX7 yX7_isOver yX7_isOver ∈ gW := gW_mem (i := 41) (by decide +kernel) (by decide +kernel)
theorem qw42 : Cond.selects RX7 yX7_effort yX7_effort ∈ gW := gW_mem (i := 42) (by decide +kernel) (by decide +kernel)
theorem qw43 : Cond.selects RX7 yX7_hasGreater yX7_hasGreater ∈ gW := gW_mem (i := 43) (by decide +kernel) (by decide +kernel)
theorem qw44 : Cond.selects RX7 yX7_chance yX7_chance ∈ gW := gW_mem (i := 44) (by decide +kernel) (by decide +kernel)
theorem qw45 : Cond.selects RX7 yX7_force yX7_force ∈ gW := gW_mem (i := 45) (by decide +kernel) (by decide +kernel)
theorem qw46 : Cond.selects RX7 yX7_winsNow yX7_winsNow ∈ gW := gW_mem (i := 46) (by decide +kernel) (by decide +kernel)
theorem qw47 : Cond.selects RX7 yX7_wins yX7_wins ∈ gW := gW_mem (i := 47) (by decide +kernel) (by decide +kernel)
theorem qw48 : Cond.selects RX7 yX7_givenTo yX7_givenTo ∈ gW := gW_mem (i := 48) (by decide +kernel) (by decide +kernel)
theorem qw49 : Cond.selects RX7 yX7_drawsNext yX7_drawsNext ∈ gW := gW_mem (i := 49) (by decide +kernel) (by decide +kernel)
theorem qw50 : Cond.selects RX7 yX7_draw yX7_draw ∈ gW := gW_mem (i := 50) (by decide +kernel) (by decide +kernel)
theorem qw51 : Cond.selects RX7 yX7_leader yX7_leader ∈ gW := gW_mem (i := 51) (by decide +kernel) (by decide +kernel)
theorem qw52 : Cond.selects RX7 yX7_findWays yX7_findWays ∈ gW := gW_mem (i := 52) (by decide +kernel) (by decide +kernel)
theorem qw53 : Cond.selects RX7 yX7_goesOn yX7_goesOn ∈ gW := gW_mem (i := 53) (by decide +kernel) (by decide +kernel)
theorem qw54 : Cond.selects RX7 yX7_ends yX7_ends ∈ gW := gW_mem (i := 54) (by decide +kernel) (by decide +kernel)
theorem qw55 : Cond.selects RX7 yX7_meanOf yX7_meanOf ∈ gW := gW_mem (i := 55) (by decide +kernel) (by decide +kernel)
theorem qw56 : Cond.selects RX7 yX7_bestLaid yX7_bestLaid ∈ gW := gW_mem (i := 56) (by decide +kernel) (by decide +kernel)
theorem qw57 : Cond.selects RX7 yX7_nextRow yX7_nextRow ∈ gW := gW_mem (i := 57) (by decide +kernel) (by decide +kernel)
theorem qw58 : Cond.selects RX7 yX7_lacks yX7_lacks ∈ gW := gW_mem (i := 58) (by decide +kernel) (by decide +kernel)
theorem qw59 : Cond.initialized RL ∈ gW := gW_mem (i := 59) (by decide +kernel) (by decide +kernel)
theorem qw60 : Cond.initialized RX6 ∈ gW := gW_mem (i := 60) (by decide +kernel) (by decide +kernel)
theorem qw61 : Cond.initialized RX1 ∈ gW := gW_mem (i := 61) (by decide +kernel) (by decide +kernel)
theorem qw62 : Cond.initialized RX3 ∈ gW := gW_mem (i := 62) (by decide +kernel) (by decide +kernel)
theorem qw63 : Cond.initialized RX0 ∈ gW := gW_mem (i := 63) (by decide +kernel) (by decide +kernel)
theorem qw64 : Cond.initialized RX5 ∈ gW := gW_mem (i := 64) (by decide +kernel) (by decide +kernel)
theorem qw65 : Cond.initialized RX4 ∈ gW := gW_mem (i := 65) (by decide +kernel) (by decide +kernel)
theorem qw66 : Cond.initialized RX2 ∈ gW := gW_mem (i := 66) (by decide +kernel) (by decide +kernel)
theorem qw67 : Cond.initialized RX7 ∈ gW := gW_mem (i := 67) (by decide +kernel) (by decide +kernel)
theorem qw68 : Cond.initialized RJ10 ∈ gW := gW_mem (i := 68) (by decide +kernel) (by decide +kernel)
theorem qw69 : Cond.initialized RJ9 ∈ gW := gW_mem (i := 69) (by decide +kernel) (by decide +kernel)
theorem qw70 : Cond.initialized RJ0 ∈ gW := gW_mem (i := 70) (by decide +kernel) (by decide +kernel)
theorem qw71 : Cond.initialized RJ1 ∈ gW := gW_mem (i := 71) (by decide +kernel) (by decide +kernel)
theorem qw72 : Cond.initialized RJ3 ∈ gW := gW_mem (i := 72) (by decide +kernel) (by decide +kernel)
theorem qw73 : Cond.initialized RJ2 ∈ gW := gW_mem (i := 73) (by decide +kernel) (by decide +kernel)
theorem qw74 : Cond.classLink RL 7 RX6 ∈ gW := gW_mem (i := 74) (by decide +kernel) (by decide +kernel)
theorem qw75 : Cond.instantiable RX6 8 ∈ gW := gW_mem (i := 75) (by decide +kernel) (by decide +kernel)
theorem qw76 : Cond.methodLink RL 9 yX6_init ∈ gW := gW_mem (i := 76) (by decide +kernel) (by decide +kernel)
theorem qw77 : Cond.instanceMethod yX6_init ∈ gW := gW_mem (i := 77) (by decide +kernel) (by decide +kernel)
theorem qw78 : Cond.code yX6_init cX6_init 2 none ∈ gW := gW_mem (i := 78) (by decide +kernel) (by decide +kernel)
theorem qw79 : Cond.methodLink RX6 1 objectInit ∈ gW := gW_mem (i := 79) (by decide +kernel) (by decide +kernel)
theorem qw80 : Cond.instanceMethod objectInit ∈ gW := gW_mem (i := 80) (by decide +kernel) (by decide +kernel)
theorem qw81 : Cond.code objectInit ⟨#[0xb1]⟩ 1 none ∈ gW := gW_mem (i := 81) (by decide +kernel) (by decide +kernel)
theorem qw82 : Cond.classLink RX6 7 RX1 ∈ gW := gW_mem (i := 82) (by decide +kernel) (by decide +kernel)
theorem qw83 : Cond.instantiable RX1 11 ∈ gW := gW_mem (i := 83) (by decide +kernel) (by decide +kernel)
theorem qw84 : Cond.methodLink RX6 9 yX1_init ∈ gW := gW_mem (i := 84) (by decide +kernel) (by decide +kernel)
theorem qw85 : Cond.instanceMethod yX1_init ∈ gW := gW_mem (i := 85) (by decide +kernel) (by decide +kernel)
theorem qw86 : Cond.code yX1_init cX1_init 2 none ∈ gW := gW_mem (i := 86) (by decide +kernel) (by decide +kernel)
theorem qw87 : Cond.methodLink RX1 3 objectInit ∈ gW := gW_mem (i := 87) (by decide +kernel) (by decide +kernel)
theorem qw88 : Cond.classLink RX1 9 RX3 ∈ gW := gW_mem (i := 88) (by decide +kernel) (by decide +kernel)
theorem qw90 : Cond.classLink RX1 17 RX0 ∈ gW := gW_mem (i := 90) (by decide +kernel) (by decide +kernel)
theorem qw92 : Cond.instantiable RX3 6 ∈ gW := gW_mem (i := 92) (by decide +kernel) (by decide +kernel)
theorem qw94 : Cond.instanceMethod yX3_init ∈ gW := gW_mem (i := 94) (by decide +kernel) (by decide +kernel)
theorem qw95 : Cond.code yX3_init cX3_init 1 none ∈ gW := gW_mem (i := 95) (by decide +kernel) (by decide +kernel)
theorem qw96 : Cond.methodLink RX3 3 objectInit ∈ gW := gW_mem (i := 96) (by decide +kernel) (by decide +kernel)
theorem qw97 : Cond.fieldLink RX3 9 "TwiceRunning$Side" "kind" "I" ∈ gW := gW_mem (i := 97) (by decide +kernel) (by decide +kernel)
theorem qw98 : Cond.fieldLink RX6 78 "TwiceRunning$Side" "kind" "I" ∈ gW := gW_mem (i := 98) (by decide +kernel) (by decide +kernel)
theorem qw99 : Cond.fieldLink RX1 70 "TwiceRunning$Side" "kind" "I" ∈ gW := gW_mem (i := 99) (by decide +kernel) (by decide +kernel)
theorem qw100 : Cond.fieldLink RX3 15 "TwiceRunning$Side" "strength" "I" ∈ gW := gW_mem (i := 100) (by decide +kernel) (by decide +kernel)
theorem qw101 : Cond.fieldLink RX6 83 "TwiceRunning$Side" "strength" "I" ∈ gW := gW_mem (i := 101) (by decide +kernel) (by decide +kernel)
theorem qw102 : Cond.fieldLink RX1 73 "TwiceRunning$Side" "strength" "I" ∈ gW := gW_mem (i := 102) (by decide +kernel) (by decide +kernel)
theorem qw103 : Cond.fieldLink RX3 18 "TwiceRunning$Side" "tells" "I" ∈ gW := gW_mem (i := 103) (by decide +kernel) (by decide +kernel)
theorem qw104 : Cond.fieldLink RX6 86 "TwiceRunning$Side" "tells" "I" ∈ gW := gW_mem (i := 104) (by decide +kernel) (by decide +kernel)
theorem qw105 : Cond.fieldLink RX1 76 "TwiceRunning$Side" "tells" "I" ∈ gW := gW_mem (i := 105) (by decide +kernel) (by decide +kernel)
theorem qw106 : Cond.fieldLink RX3 21 "TwiceRunning$Side" "points" "I" ∈ gW := gW_mem (i := 106) (by decide +kernel) (by decide +kernel)
theorem qw107 : Cond.fieldLink RX6 89 "TwiceRunning$Side" "points" "I" ∈ gW := gW_mem (i := 107) (by decide +kernel) (by decide +kernel)
theorem qw108 : Cond.fieldLink RX5 86 "TwiceRunning$Side" "points" "I" ∈ gW := gW_mem (i := 108) (by decide +kernel) (by decide +kernel)
theorem qw109 : Cond.fieldLink RX1 121 "TwiceRunning$Side" "points" "I" ∈ gW := gW_mem (i := 109) (by decide +kernel) (by decide +kernel)
theorem qw110 : Cond.fieldLink RX3 24 "TwiceRunning$Side" "streak" "I" ∈ gW := gW_mem (i := 110) (by decide +kernel) (by decide +kernel)
theorem qw111 : Cond.fieldLink RX1 95 "TwiceRunning$Side" "streak" "I" ∈ gW := gW_mem (i := 111) (by decide +kernel) (by decide +kernel)
theorem qw112 : Cond.fieldLink RX3 27 "TwiceRunning$Side" "tired" "Z" ∈ gW := gW_mem (i := 112) (by decide +kernel) (by decide +kernel)
theorem qw113 : Cond.fieldLink RX6 95 "TwiceRunning$Side" "tired" "Z" ∈ gW := gW_mem (i := 113) (by decide +kernel) (by decide +kernel)
theorem qw114 : Cond.fieldLink RX1 111 "TwiceRunning$Side" "tired" "Z" ∈ gW := gW_mem (i := 114) (by decide +kernel) (by decide +kernel)
theorem qw129 : Cond.instantiable RX0 9 ∈ gW := gW_mem (i := 129) (by decide +kernel) (by decide +kernel)
theorem qw131 : Cond.instanceMethod yX0_init ∈ gW := gW_mem (i := 131) (by decide +kernel) (by decide +kernel)
theorem qw132 : Cond.code yX0_init cX0_init 1 none ∈ gW := gW_mem (i := 132) (by decide +kernel) (by decide +kernel)
theorem qw133 : Cond.methodLink RX0 3 objectInit ∈ gW := gW_mem (i := 133) (by decide +kernel) (by decide +kernel)
theorem qw134 : Cond.fieldLink RX0 9 "TwiceRunning$Game" "first" "I" ∈ gW := gW_mem (i := 134) (by decide +kernel) (by decide +kernel)
theorem qw135 : Cond.fieldLink RX5 100 "TwiceRunning$Game" "first" "I" ∈ gW := gW_mem (i := 135) (by decide +kernel) (by decide +kernel)
theorem qw136 : Cond.fieldLink RX6 124 "TwiceRunning$Game" "first" "I" ∈ gW := gW_mem (i := 136) (by decide +kernel) (by decide +kernel)
theorem qw137 : Cond.fieldLink RX1 79 "TwiceRunning$Game" "first" "I" ∈ gW := gW_mem (i := 137) (by decide +kernel) (by decide +kernel)
theorem qw138 : Cond.fieldLink RX0 15 "TwiceRunning$Game" "other" "I" ∈ gW := gW_mem (i := 138) (by decide +kernel) (by decide +kernel)
theorem qw139 : Cond.fieldLink RX5 118 "TwiceRunning$Game" "other" "I" ∈ gW := gW_mem (i := 139) (by decide +kernel) (by decide +kernel)
theorem qw140 : Cond.fieldLink RX6 129 "TwiceRunning$Game" "other" "I" ∈ gW := gW_mem (i := 140) (by decide +kernel) (by decide +kernel)
theorem qw141 : Cond.fieldLink RX1 82 "TwiceRunning$Game" "other" "I" ∈ gW := gW_mem (i := 141) (by decide +kernel) (by decide +kernel)
theorem qw142 : Cond.fieldLink RX0 18 "TwiceRunning$Game" "worth" "I" ∈ gW := gW_mem (i := 142) (by decide +kernel) (by decide +kernel)
theorem qw143 : Cond.fieldLink RX6 132 "TwiceRunning$Game" "worth" "I" ∈ gW := gW_mem (i := 143) (by decide +kernel) (by decide +kernel)
theorem qw144 : Cond.fieldLink RX5 129 "TwiceRunning$Game" "worth" "I" ∈ gW := gW_mem (i := 144) (by decide +kernel) (by decide +kernel)
theorem qw145 : Cond.fieldLink RX1 85 "TwiceRunning$Game" "worth" "I" ∈ gW := gW_mem (i := 145) (by decide +kernel) (by decide +kernel)
theorem qw146 : Cond.fieldLink RX0 21 "TwiceRunning$Game" "winner" "I" ∈ gW := gW_mem (i := 146) (by decide +kernel) (by decide +kernel)
theorem qw147 : Cond.fieldLink RX5 103 "TwiceRunning$Game" "winner" "I" ∈ gW := gW_mem (i := 147) (by decide +kernel) (by decide +kernel)
theorem qw148 : Cond.fieldLink RX6 135 "TwiceRunning$Game" "winner" "I" ∈ gW := gW_mem (i := 148) (by decide +kernel) (by decide +kernel)
theorem qw149 : Cond.fieldLink RX1 127 "TwiceRunning$Game" "winner" "I" ∈ gW := gW_mem (i := 149) (by decide +kernel) (by decide +kernel)
theorem qw150 : Cond.fieldLink RX0 24 "TwiceRunning$Game" "given" "I" ∈ gW := gW_mem (i := 150) (by decide +kernel) (by decide +kernel)
theorem qw151 : Cond.fieldLink RX5 95 "TwiceRunning$Game" "given" "I" ∈ gW := gW_mem (i := 151) (by decide +kernel) (by decide +kernel)
theorem qw152 : Cond.fieldLink RX6 138 "TwiceRunning$Game" "given" "I" ∈ gW := gW_mem (i := 152) (by decide +kernel) (by decide +kernel)
theorem qw153 : Cond.fieldLink RX1 92 "TwiceRunning$Game" "given" "I" ∈ gW := gW_mem (i := 153) (by decide +kernel) (by decide +kernel)
theorem qw154 : Cond.fieldLink RX0 27 "TwiceRunning$Game" "firstStreak" "I" ∈ gW := gW_mem (i := 154) (by decide +kernel) (by decide +kernel)
theorem qw155 : Cond.fieldLink RX1 130 "TwiceRunning$Game" "firstStreak" "I" ∈ gW := gW_mem (i := 155) (by decide +kernel) (by decide +kernel)
theorem qw156 : Cond.fieldLink RX0 30 "TwiceRunning$Game" "otherStreak" "I" ∈ gW := gW_mem (i := 156) (by decide +kernel) (by decide +kernel)
theorem qw157 : Cond.fieldLink RX1 133 "TwiceRunning$Game" "otherStreak" "I" ∈ gW := gW_mem (i := 157) (by decide +kernel) (by decide +kernel)
theorem qw158 : Cond.fieldLink RX0 33 "TwiceRunning$Game" "firstTired" "Z" ∈ gW := gW_mem (i := 158) (by decide +kernel) (by decide +kernel)
theorem qw159 : Cond.fieldLink RX1 136 "TwiceRunning$Game" "firstTired" "Z" ∈ gW := gW_mem (i := 159) (by decide +kernel) (by decide +kernel)
theorem qw160 : Cond.fieldLink RX0 37 "TwiceRunning$Game" "otherTired" "Z" ∈ gW := gW_mem (i := 160) (by decide +kernel) (by decide +kernel)
theorem qw161 : Cond.fieldLink RX1 139 "TwiceRunning$Game" "otherTired" "Z" ∈ gW := gW_mem (i := 161) (by decide +kernel) (by decide +kernel)
theorem qw181 : Cond.fieldLink RX1 11 "TwiceRunning$League" "sides" "[LTwiceRunning$Side;" ∈ gW := gW_mem (i := 181) (by decide +kernel) (by decide +kernel)
theorem qw182 : Cond.fieldLink RX6 74 "TwiceRunning$League" "sides" "[LTwiceRunning$Side;" ∈ gW := gW_mem (i := 182) (by decide +kernel) (by decide +kernel)
theorem qw183 : Cond.fieldLink RX5 82 "TwiceRunning$League" "sides" "[LTwiceRunning$Side;" ∈ gW := gW_mem (i := 183) (by decide +kernel) (by decide +kernel)
theorem qw184 : Cond.fieldLink RX1 19 "TwiceRunning$League" "games" "[LTwiceRunning$Game;" ∈ gW := gW_mem (i := 184) (by decide +kernel) (by decide +kernel)
theorem qw185 : Cond.fieldLink RX5 91 "TwiceRunning$League" "games" "[LTwiceRunning$Game;" ∈ gW := gW_mem (i := 185) (by decide +kernel) (by decide +kernel)
theorem qw186 : Cond.fieldLink RX6 120 "TwiceRunning$League" "games" "[LTwiceRunning$Game;" ∈ gW := gW_mem (i := 186) (by decide +kernel) (by decide +kernel)
theorem qw187 : Cond.fieldLink RX1 23 "TwiceRunning$League" "spots" "[I" ∈ gW := gW_mem (i := 187) (by decide +kernel) (by decide +kernel)
theorem qw188 : Cond.fieldLink RX6 254 "TwiceRunning$League" "spots" "[I" ∈ gW := gW_mem (i := 188) (by decide +kernel) (by decide +kernel)
theorem qw189 : Cond.fieldLink RX1 27 "TwiceRunning$League" "sideCount" "I" ∈ gW := gW_mem (i := 189) (by decide +kernel) (by decide +kernel)
theorem qw190 : Cond.fieldLink RX6 63 "TwiceRunning$League" "sideCount" "I" ∈ gW := gW_mem (i := 190) (by decide +kernel) (by decide +kernel)
theorem qw191 : Cond.fieldLink RX4 60 "TwiceRunning$League" "sideCount" "I" ∈ gW := gW_mem (i := 191) (by decide +kernel) (by decide +kernel)
theorem qw192 : Cond.fieldLink RX5 79 "TwiceRunning$League" "sideCount" "I" ∈ gW := gW_mem (i := 192) (by decide +kernel) (by decide +kernel)
theorem qw193 : Cond.fieldLink RX1 31 "TwiceRunning$League" "gameCount" "I" ∈ gW := gW_mem (i := 193) (by decide +kernel) (by decide +kernel)
theorem qw194 : Cond.fieldLink RX5 61 "TwiceRunning$League" "gameCount" "I" ∈ gW := gW_mem (i := 194) (by decide +kernel) (by decide +kernel)
theorem qw195 : Cond.fieldLink RX6 108 "TwiceRunning$League" "gameCount" "I" ∈ gW := gW_mem (i := 195) (by decide +kernel) (by decide +kernel)
theorem qw196 : Cond.fieldLink RX4 79 "TwiceRunning$League" "gameCount" "I" ∈ gW := gW_mem (i := 196) (by decide +kernel) (by decide +kernel)
theorem qw197 : Cond.fieldLink RX1 34 "TwiceRunning$League" "played" "I" ∈ gW := gW_mem (i := 197) (by decide +kernel) (by decide +kernel)
theorem qw198 : Cond.fieldLink RX5 58 "TwiceRunning$League" "played" "I" ∈ gW := gW_mem (i := 198) (by decide +kernel) (by decide +kernel)
theorem qw199 : Cond.fieldLink RX6 117 "TwiceRunning$League" "played" "I" ∈ gW := gW_mem (i := 199) (by decide +kernel) (by decide +kernel)
theorem qw200 : Cond.fieldLink RX1 37 "TwiceRunning$League" "law" "I" ∈ gW := gW_mem (i := 200) (by decide +kernel) (by decide +kernel)
theorem qw201 : Cond.fieldLink RX4 87 "TwiceRunning$League" "law" "I" ∈ gW := gW_mem (i := 201) (by decide +kernel) (by decide +kernel)
theorem qw202 : Cond.fieldLink RX6 141 "TwiceRunning$League" "law" "I" ∈ gW := gW_mem (i := 202) (by decide +kernel) (by decide +kernel)
theorem qw203 : Cond.fieldLink RX1 40 "TwiceRunning$League" "z" "I" ∈ gW := gW_mem (i := 203) (by decide +kernel) (by decide +kernel)
theorem qw204 : Cond.fieldLink RX6 248 "TwiceRunning$League" "z" "I" ∈ gW := gW_mem (i := 204) (by decide +kernel) (by decide +kernel)
theorem qw205 : Cond.fieldLink RX1 43 "TwiceRunning$League" "forcedGame" "I" ∈ gW := gW_mem (i := 205) (by decide +kernel) (by decide +kernel)
theorem qw206 : Cond.fieldLink RX1 46 "TwiceRunning$League" "forcedSide" "I" ∈ gW := gW_mem (i := 206) (by decide +kernel) (by decide +kernel)
theorem qw207 : Cond.fieldLink RX1 49 "TwiceRunning$League" "forcedEffort" "I" ∈ gW := gW_mem (i := 207) (by decide +kernel) (by decide +kernel)
theorem qw231 : Cond.classLink RX6 23 RX5 ∈ gW := gW_mem (i := 231) (by decide +kernel) (by decide +kernel)
theorem qw232 : Cond.instantiable RX5 13 ∈ gW := gW_mem (i := 232) (by decide +kernel) (by decide +kernel)
theorem qw234 : Cond.instanceMethod yX5_init ∈ gW := gW_mem (i := 234) (by decide +kernel) (by decide +kernel)
theorem qw235 : Cond.code yX5_init cX5_init 1 none ∈ gW := gW_mem (i := 235) (by decide +kernel) (by decide +kernel)
theorem qw236 : Cond.methodLink RX5 3 objectInit ∈ gW := gW_mem (i := 236) (by decide +kernel) (by decide +kernel)
theorem qw237 : Cond.classLink RX5 9 RX1 ∈ gW := gW_mem (i := 237) (by decide +kernel) (by decide +kernel)
theorem qw238 : Cond.methodLink RX5 11 yX1_init ∈ gW := gW_mem (i := 238) (by decide +kernel) (by decide +kernel)
theorem qw239 : Cond.fieldLink RX5 12 "TwiceRunning$Walk" "league" "LTwiceRunning$League;" ∈ gW := gW_mem (i := 239) (by decide +kernel) (by decide +kernel)
theorem qw240 : Cond.fieldLink RX6 30 "TwiceRunning$Walk" "league" "LTwiceRunning$League;" ∈ gW := gW_mem (i := 240) (by decide +kernel) (by decide +kernel)
theorem qw241 : Cond.fieldLink RX5 18 "TwiceRunning$Walk" "pointSums" "[J" ∈ gW := gW_mem (i := 241) (by decide +kernel) (by decide +kernel)
theorem qw242 : Cond.fieldLink RX6 210 "TwiceRunning$Walk" "pointSums" "[J" ∈ gW := gW_mem (i := 242) (by decide +kernel) (by decide +kernel)
theorem qw243 : Cond.fieldLink RX5 22 "TwiceRunning$Walk" "firstSums" "[J" ∈ gW := gW_mem (i := 243) (by decide +kernel) (by decide +kernel)
theorem qw244 : Cond.fieldLink RX6 207 "TwiceRunning$Walk" "firstSums" "[J" ∈ gW := gW_mem (i := 244) (by decide +kernel) (by decide +kernel)
theorem qw245 : Cond.fieldLink RX5 25 "TwiceRunning$Walk" "toFirst" "[J" ∈ gW := gW_mem (i := 245) (by decide +kernel) (by decide +kernel)
theorem qw246 : Cond.fieldLink RX6 195 "TwiceRunning$Walk" "toFirst" "[J" ∈ gW := gW_mem (i := 246) (by decide +kernel) (by decide +kernel)
theorem qw247 : Cond.fieldLink RX5 28 "TwiceRunning$Walk" "movedSums" "[J" ∈ gW := gW_mem (i := 247) (by decide +kernel) (by decide +kernel)
theorem qw248 : Cond.fieldLink RX6 226 "TwiceRunning$Walk" "movedSums" "[J" ∈ gW := gW_mem (i := 248) (by decide +kernel) (by decide +kernel)
theorem qw249 : Cond.fieldLink RX5 31 "TwiceRunning$Walk" "keptSums" "[J" ∈ gW := gW_mem (i := 249) (by decide +kernel) (by decide +kernel)
theorem qw250 : Cond.fieldLink RX5 34 "TwiceRunning$Walk" "all" "J" ∈ gW := gW_mem (i := 250) (by decide +kernel) (by decide +kernel)
theorem qw251 : Cond.fieldLink RX6 199 "TwiceRunning$Walk" "all" "J" ∈ gW := gW_mem (i := 251) (by decide +kernel) (by decide +kernel)
theorem qw252 : Cond.fieldLink RX5 38 "TwiceRunning$Walk" "likely" "I" ∈ gW := gW_mem (i := 252) (by decide +kernel) (by decide +kernel)
theorem qw253 : Cond.fieldLink RX6 223 "TwiceRunning$Walk" "likely" "I" ∈ gW := gW_mem (i := 253) (by decide +kernel) (by decide +kernel)
theorem qw254 : Cond.fieldLink RX5 42 "TwiceRunning$Walk" "goalSide" "I" ∈ gW := gW_mem (i := 254) (by decide +kernel) (by decide +kernel)
theorem qw255 : Cond.fieldLink RX5 45 "TwiceRunning$Walk" "goalPoints" "I" ∈ gW := gW_mem (i := 255) (by decide +kernel) (by decide +kernel)
theorem qw256 : Cond.fieldLink RX5 48 "TwiceRunning$Walk" "alsoUnlikely" "Z" ∈ gW := gW_mem (i := 256) (by decide +kernel) (by decide +kernel)
theorem qw257 : Cond.fieldLink RX5 52 "TwiceRunning$Walk" "goalSum" "J" ∈ gW := gW_mem (i := 257) (by decide +kernel) (by decide +kernel)
theorem qw258 : Cond.fieldLink RX6 217 "TwiceRunning$Walk" "goalSum" "J" ∈ gW := gW_mem (i := 258) (by decide +kernel) (by decide +kernel)
theorem qw259 : Cond.fieldLink RX5 55 "TwiceRunning$Walk" "mostPoints" "I" ∈ gW := gW_mem (i := 259) (by decide +kernel) (by decide +kernel)
theorem qw260 : Cond.fieldLink RX6 220 "TwiceRunning$Walk" "mostPoints" "I" ∈ gW := gW_mem (i := 260) (by decide +kernel) (by decide +kernel)
theorem qw289 : Cond.classLink RX6 34 RX4 ∈ gW := gW_mem (i := 289) (by decide +kernel) (by decide +kernel)
theorem qw290 : Cond.instantiable RX4 6 ∈ gW := gW_mem (i := 290) (by decide +kernel) (by decide +kernel)
theorem qw292 : Cond.instanceMethod yX4_init ∈ gW := gW_mem (i := 292) (by decide +kernel) (by decide +kernel)
theorem qw293 : Cond.code yX4_init cX4_init 1 none ∈ gW := gW_mem (i := 293) (by decide +kernel) (by decide +kernel)
theorem qw294 : Cond.methodLink RX4 3 objectInit ∈ gW := gW_mem (i := 294) (by decide +kernel) (by decide +kernel)
theorem qw295 : Cond.fieldLink RX4 9 "TwiceRunning$Tape" "bytes" "[I" ∈ gW := gW_mem (i := 295) (by decide +kernel) (by decide +kernel)
theorem qw296 : Cond.fieldLink RX4 15 "TwiceRunning$Tape" "length" "I" ∈ gW := gW_mem (i := 296) (by decide +kernel) (by decide +kernel)
theorem qw297 : Cond.fieldLink RX6 144 "TwiceRunning$Tape" "length" "I" ∈ gW := gW_mem (i := 297) (by decide +kernel) (by decide +kernel)
theorem qw298 : Cond.fieldLink RX4 19 "TwiceRunning$Tape" "tokenSort" "I" ∈ gW := gW_mem (i := 298) (by decide +kernel) (by decide +kernel)
theorem qw299 : Cond.fieldLink RX4 22 "TwiceRunning$Tape" "tokenBegin" "I" ∈ gW := gW_mem (i := 299) (by decide +kernel) (by decide +kernel)
theorem qw300 : Cond.fieldLink RX4 25 "TwiceRunning$Tape" "tokenEnd" "I" ∈ gW := gW_mem (i := 300) (by decide +kernel) (by decide +kernel)
theorem qw301 : Cond.fieldLink RX4 28 "TwiceRunning$Tape" "tokenNumber" "I" ∈ gW := gW_mem (i := 301) (by decide +kernel) (by decide +kernel)
theorem qw315 : Cond.classLink RX6 41 RX2 ∈ gW := gW_mem (i := 315) (by decide +kernel) (by decide +kernel)
theorem qw317 : Cond.instantiable RX2 3 ∈ gW := gW_mem (i := 317) (by decide +kernel) (by decide +kernel)
theorem qw319 : Cond.instanceMethod yX2_init ∈ gW := gW_mem (i := 319) (by decide +kernel) (by decide +kernel)
theorem qw320 : Cond.code yX2_init cX2_init 1 none ∈ gW := gW_mem (i := 320) (by decide +kernel) (by decide +kernel)
theorem qw321 : Cond.methodLink RX2 3 objectInit ∈ gW := gW_mem (i := 321) (by decide +kernel) (by decide +kernel)
theorem qw322 : Cond.fieldLink RX2 9 "TwiceRunning$Sheet" "numbers" "[I" ∈ gW := gW_mem (i := 322) (by decide +kernel) (by decide +kernel)
theorem qw323 : Cond.fieldLink RX6 281 "TwiceRunning$Sheet" "numbers" "[I" ∈ gW := gW_mem (i := 323) (by decide +kernel) (by decide +kernel)
theorem qw324 : Cond.fieldLink RX2 15 "TwiceRunning$Sheet" "bits" "I" ∈ gW := gW_mem (i := 324) (by decide +kernel) (by decide +kernel)
theorem qw325 : Cond.fieldLink RX6 275 "TwiceRunning$Sheet" "bits" "I" ∈ gW := gW_mem (i := 325) (by decide +kernel) (by decide +kernel)
theorem qw326 : Cond.fieldLink RX2 19 "TwiceRunning$Sheet" "size" "I" ∈ gW := gW_mem (i := 326) (by decide +kernel) (by decide +kernel)
theorem qw327 : Cond.fieldLink RX6 266 "TwiceRunning$Sheet" "size" "I" ∈ gW := gW_mem (i := 327) (by decide +kernel) (by decide +kernel)
theorem qw335 : Cond.fieldLink RX6 10 "TwiceRunning" "league" "LTwiceRunning$League;" ∈ gW := gW_mem (i := 335) (by decide +kernel) (by decide +kernel)
theorem qw336 : Cond.fieldLink RX6 16 "TwiceRunning" "kept" "LTwiceRunning$League;" ∈ gW := gW_mem (i := 336) (by decide +kernel) (by decide +kernel)
theorem qw337 : Cond.fieldLink RX6 19 "TwiceRunning" "isKept" "Z" ∈ gW := gW_mem (i := 337) (by decide +kernel) (by decide +kernel)
theorem qw338 : Cond.fieldLink RX6 26 "TwiceRunning" "walk" "LTwiceRunning$Walk;" ∈ gW := gW_mem (i := 338) (by decide +kernel) (by decide +kernel)
theorem qw339 : Cond.fieldLink RX6 31 "TwiceRunning" "trial" "LTwiceRunning$League;" ∈ gW := gW_mem (i := 339) (by decide +kernel) (by decide +kernel)
theorem qw340 : Cond.fieldLink RX6 37 "TwiceRunning" "tape" "LTwiceRunning$Tape;" ∈ gW := gW_mem (i := 340) (by decide +kernel) (by decide +kernel)
theorem qw341 : Cond.fieldLink RX6 43 "TwiceRunning" "sheets" "[LTwiceRunning$Sheet;" ∈ gW := gW_mem (i := 341) (by decide +kernel) (by decide +kernel)
theorem qw342 : Cond.fieldLink RX6 47 "TwiceRunning" "findings" "[I" ∈ gW := gW_mem (i := 342) (by decide +kernel) (by decide +kernel)
theorem qw360 : Cond.methodLink RL 13 yX6_side ∈ gW := gW_mem (i := 360) (by decide +kernel) (by decide +kernel)
theorem qw361 : Cond.instanceMethod yX6_side ∈ gW := gW_mem (i := 361) (by decide +kernel) (by decide +kernel)
theorem qw362 : Cond.selects RX6 yX6_side yX6_side ∈ gW := gW_mem (i := 362) (by decide +kernel) (by decide +kernel)
theorem qw363 : Cond.code yX6_side cX6_side 3 (some .int) ∈ gW := gW_mem (i := 363) (by decide +kernel) (by decide +kernel)
theorem qw364 : Cond.methodLink RX6 52 yX6_isKind ∈ gW := gW_mem (i := 364) (by decide +kernel) (by decide +kernel)
theorem qw365 : Cond.static yX6_isKind ∈ gW := gW_mem (i := 365) (by decide +kernel) (by decide +kernel)
theorem qw366 : Cond.code yX6_isKind cX6_isKind 1 (some .boolean) ∈ gW := gW_mem (i := 366) (by decide +kernel) (by decide +kernel)
theorem qw367 : Cond.methodLink RX6 56 yX6_isStrength ∈ gW := gW_mem (i := 367) (by decide +kernel) (by decide +kernel)
theorem qw368 : Cond.static yX6_isStrength ∈ gW := gW_mem (i := 368) (by decide +kernel) (by decide +kernel)
theorem qw369 : Cond.code yX6_isStrength cX6_isStrength 1 (some .boolean) ∈ gW := gW_mem (i := 369) (by decide +kernel) (by decide +kernel)
theorem qw370 : Cond.methodLink RX6 59 yX6_finding ∈ gW := gW_mem (i := 370) (by decide +kernel) (by decide +kernel)
theorem qw372 : Cond.instanceMethod yX6_finding ∈ gW := gW_mem (i := 372) (by decide +kernel) (by decide +kernel)
theorem qw373 : Cond.code yX6_finding cX6_finding 2 (some .int) ∈ gW := gW_mem (i := 373) (by decide +kernel) (by decide +kernel)
theorem qw374 : Cond.constant RX6 296 (-1000001) ∈ gW := gW_mem (i := 374) (by decide +kernel) (by decide +kernel)
theorem qw375 : Cond.methodLink RX6 67 yX1_addSide ∈ gW := gW_mem (i := 375) (by decide +kernel) (by decide +kernel)
theorem qw376 : Cond.instanceMethod yX1_addSide ∈ gW := gW_mem (i := 376) (by decide +kernel) (by decide +kernel)
theorem qw377 : Cond.selects RX1 yX1_addSide yX1_addSide ∈ gW := gW_mem (i := 377) (by decide +kernel) (by decide +kernel)
theorem qw378 : Cond.code yX1_addSide cX1_addSide 5 (some .int) ∈ gW := gW_mem (i := 378) (by decide +kernel) (by decide +kernel)
theorem qw379 : Cond.methodLink RX1 67 yX3_rest ∈ gW := gW_mem (i := 379) (by decide +kernel) (by decide +kernel)
theorem qw380 : Cond.instanceMethod yX3_rest ∈ gW := gW_mem (i := 380) (by decide +kernel) (by decide +kernel)
theorem qw381 : Cond.selects RX3 yX3_rest yX3_rest ∈ gW := gW_mem (i := 381) (by decide +kernel) (by decide +kernel)
theorem qw382 : Cond.code yX3_rest cX3_rest 1 none ∈ gW := gW_mem (i := 382) (by decide +kernel) (by decide +kernel)
theorem qw383 : Cond.methodLink RL 18 yX6_sideOf ∈ gW := gW_mem (i := 383) (by decide +kernel) (by decide +kernel)
theorem qw384 : Cond.instanceMethod yX6_sideOf ∈ gW := gW_mem (i := 384) (by decide +kernel) (by decide +kernel)
theorem qw385 : Cond.selects RX6 yX6_sideOf yX6_sideOf ∈ gW := gW_mem (i := 385) (by decide +kernel) (by decide +kernel)
theorem qw386 : Cond.code yX6_sideOf cX6_sideOf 4 (some .int) ∈ gW := gW_mem (i := 386) (by decide +kernel) (by decide +kernel)
theorem qw387 : Cond.methodLink RX6 71 yX1_hasSide ∈ gW := gW_mem (i := 387) (by decide +kernel) (by decide +kernel)
theorem qw388 : Cond.instanceMethod yX1_hasSide ∈ gW := gW_mem (i := 388) (by decide +kernel) (by decide +kernel)
theorem qw389 : Cond.selects RX1 yX1_hasSide yX1_hasSide ∈ gW := gW_mem (i := 389) (by decide +kernel) (by decide +kernel)
theorem qw390 : Cond.code yX1_hasSide cX1_hasSide 2 (some .boolean) ∈ gW := gW_mem (i := 390) (by decide +kernel) (by decide +kernel)
theorem qw391 : Cond.methodLink RX6 92 yX1_isBarred ∈ gW := gW_mem (i := 391) (by decide +kernel) (by decide +kernel)
theorem qw392 : Cond.instanceMethod yX1_isBarred ∈ gW := gW_mem (i := 392) (by decide +kernel) (by decide +kernel)
theorem qw393 : Cond.selects RX1 yX1_isBarred yX1_isBarred ∈ gW := gW_mem (i := 393) (by decide +kernel) (by decide +kernel)
theorem qw394 : Cond.code yX1_isBarred cX1_isBarred 2 (some .boolean) ∈ gW := gW_mem (i := 394) (by decide +kernel) (by decide +kernel)
theorem qw395 : Cond.methodLink RX6 98 yX1_gamesPlayedBy ∈ gW := gW_mem (i := 395) (by decide +kernel) (by decide +kernel)
theorem qw396 : Cond.instanceMethod yX1_gamesPlayedBy ∈ gW := gW_mem (i := 396) (by decide +kernel) (by decide +kernel)
theorem qw397 : Cond.selects RX1 yX1_gamesPlayedBy yX1_gamesPlayedBy ∈ gW := gW_mem (i := 397) (by decide +kernel) (by decide +kernel)
theorem qw398 : Cond.code yX1_gamesPlayedBy cX1_gamesPlayedBy 4 (some .int) ∈ gW := gW_mem (i := 398) (by decide +kernel) (by decide +kernel)
theorem qw399 : Cond.methodLink RX1 88 yX0_isOf ∈ gW := gW_mem (i := 399) (by decide +kernel) (by decide +kernel)
theorem qw400 : Cond.instanceMethod yX0_isOf ∈ gW := gW_mem (i := 400) (by decide +kernel) (by decide +kernel)
theorem qw401 : Cond.selects RX0 yX0_isOf yX0_isOf ∈ gW := gW_mem (i := 401) (by decide +kernel) (by decide +kernel)
theorem qw402 : Cond.code yX0_isOf cX0_isOf 2 (some .boolean) ∈ gW := gW_mem (i := 402) (by decide +kernel) (by decide +kernel)
theorem qw403 : Cond.methodLink RX6 101 yX1_gamesGivenTo ∈ gW := gW_mem (i := 403) (by decide +kernel) (by decide +kernel)
theorem qw404 : Cond.instanceMethod yX1_gamesGivenTo ∈ gW := gW_mem (i := 404) (by decide +kernel) (by decide +kernel)
theorem qw405 : Cond.selects RX1 yX1_gamesGivenTo yX1_gamesGivenTo ∈ gW := gW_mem (i := 405) (by decide +kernel) (by decide +kernel)
theorem qw406 : Cond.code yX1_gamesGivenTo cX1_gamesGivenTo 4 (some .int) ∈ gW := gW_mem (i := 406) (by decide +kernel) (by decide +kernel)
theorem qw407 : Cond.methodLink RL 22 yX6_change ∈ gW := gW_mem (i := 407) (by decide +kernel) (by decide +kernel)
theorem qw408 : Cond.instanceMethod yX6_change ∈ gW := gW_mem (i := 408) (by decide +kernel) (by decide +kernel)
theorem qw409 : Cond.selects RX6 yX6_change yX6_change ∈ gW := gW_mem (i := 409) (by decide +kernel) (by decide +kernel)
theorem qw410 : Cond.code yX6_change cX6_change 6 (some .int) ∈ gW := gW_mem (i := 410) (by decide +kernel) (by decide +kernel)
theorem qw411 : Cond.methodLink RX6 104 yX6_canBecome ∈ gW := gW_mem (i := 411) (by decide +kernel) (by decide +kernel)
theorem qw412 : Cond.static yX6_canBecome ∈ gW := gW_mem (i := 412) (by decide +kernel) (by decide +kernel)
theorem qw413 : Cond.code yX6_canBecome cX6_canBecome 2 (some .boolean) ∈ gW := gW_mem (i := 413) (by decide +kernel) (by decide +kernel)
theorem qw414 : Cond.methodLink RL 27 yX6_game ∈ gW := gW_mem (i := 414) (by decide +kernel) (by decide +kernel)
theorem qw415 : Cond.instanceMethod yX6_game ∈ gW := gW_mem (i := 415) (by decide +kernel) (by decide +kernel)
theorem qw416 : Cond.selects RX6 yX6_game yX6_game ∈ gW := gW_mem (i := 416) (by decide +kernel) (by decide +kernel)
theorem qw417 : Cond.code yX6_game cX6_game 4 (some .int) ∈ gW := gW_mem (i := 417) (by decide +kernel) (by decide +kernel)
theorem qw418 : Cond.methodLink RX6 111 yX1_addGame ∈ gW := gW_mem (i := 418) (by decide +kernel) (by decide +kernel)
theorem qw419 : Cond.instanceMethod yX1_addGame ∈ gW := gW_mem (i := 419) (by decide +kernel) (by decide +kernel)
theorem qw420 : Cond.selects RX1 yX1_addGame yX1_addGame ∈ gW := gW_mem (i := 420) (by decide +kernel) (by decide +kernel)
theorem qw421 : Cond.code yX1_addGame cX1_addGame 5 (some .int) ∈ gW := gW_mem (i := 421) (by decide +kernel) (by decide +kernel)
theorem qw422 : Cond.methodLink RL 31 yX6_gameOf ∈ gW := gW_mem (i := 422) (by decide +kernel) (by decide +kernel)
theorem qw423 : Cond.instanceMethod yX6_gameOf ∈ gW := gW_mem (i := 423) (by decide +kernel) (by decide +kernel)
theorem qw424 : Cond.selects RX6 yX6_gameOf yX6_gameOf ∈ gW := gW_mem (i := 424) (by decide +kernel) (by decide +kernel)
theorem qw425 : Cond.code yX6_gameOf cX6_gameOf 4 (some .int) ∈ gW := gW_mem (i := 425) (by decide +kernel) (by decide +kernel)
theorem qw426 : Cond.methodLink RX6 114 yX1_hasGame ∈ gW := gW_mem (i := 426) (by decide +kernel) (by decide +kernel)
theorem qw427 : Cond.instanceMethod yX1_hasGame ∈ gW := gW_mem (i := 427) (by decide +kernel) (by decide +kernel)
theorem qw428 : Cond.selects RX1 yX1_hasGame yX1_hasGame ∈ gW := gW_mem (i := 428) (by decide +kernel) (by decide +kernel)
theorem qw429 : Cond.code yX1_hasGame cX1_hasGame 2 (some .boolean) ∈ gW := gW_mem (i := 429) (by decide +kernel) (by decide +kernel)
theorem qw430 : Cond.methodLink RL 35 yX6_swap ∈ gW := gW_mem (i := 430) (by decide +kernel) (by decide +kernel)
theorem qw431 : Cond.instanceMethod yX6_swap ∈ gW := gW_mem (i := 431) (by decide +kernel) (by decide +kernel)
theorem qw432 : Cond.selects RX6 yX6_swap yX6_swap ∈ gW := gW_mem (i := 432) (by decide +kernel) (by decide +kernel)
theorem qw433 : Cond.code yX6_swap cX6_swap 4 (some .int) ∈ gW := gW_mem (i := 433) (by decide +kernel) (by decide +kernel)
theorem qw434 : Cond.methodLink RL 39 yX6_law ∈ gW := gW_mem (i := 434) (by decide +kernel) (by decide +kernel)
theorem qw435 : Cond.instanceMethod yX6_law ∈ gW := gW_mem (i := 435) (by decide +kernel) (by decide +kernel)
theorem qw436 : Cond.selects RX6 yX6_law yX6_law ∈ gW := gW_mem (i := 436) (by decide +kernel) (by decide +kernel)
theorem qw437 : Cond.code yX6_law cX6_law 3 (some .int) ∈ gW := gW_mem (i := 437) (by decide +kernel) (by decide +kernel)
theorem qw438 : Cond.methodLink RL 44 yX6_feed ∈ gW := gW_mem (i := 438) (by decide +kernel) (by decide +kernel)
theorem qw439 : Cond.instanceMethod yX6_feed ∈ gW := gW_mem (i := 439) (by decide +kernel) (by decide +kernel)
theorem qw440 : Cond.selects RX6 yX6_feed yX6_feed ∈ gW := gW_mem (i := 440) (by decide +kernel) (by decide +kernel)
theorem qw441 : Cond.code yX6_feed cX6_feed 3 (some .int) ∈ gW := gW_mem (i := 441) (by decide +kernel) (by decide +kernel)
theorem qw442 : Cond.methodLink RX6 147 yX4_append ∈ gW := gW_mem (i := 442) (by decide +kernel) (by decide +kernel)
theorem qw443 : Cond.instanceMethod yX4_append ∈ gW := gW_mem (i := 443) (by decide +kernel) (by decide +kernel)
theorem qw444 : Cond.selects RX4 yX4_append yX4_append ∈ gW := gW_mem (i := 444) (by decide +kernel) (by decide +kernel)
theorem qw445 : Cond.code yX4_append cX4_append 4 none ∈ gW := gW_mem (i := 445) (by decide +kernel) (by decide +kernel)
theorem qw446 : Cond.methodLink RL 48 yX6_wipe ∈ gW := gW_mem (i := 446) (by decide +kernel) (by decide +kernel)
theorem qw447 : Cond.instanceMethod yX6_wipe ∈ gW := gW_mem (i := 447) (by decide +kernel) (by decide +kernel)
theorem qw448 : Cond.selects RX6 yX6_wipe yX6_wipe ∈ gW := gW_mem (i := 448) (by decide +kernel) (by decide +kernel)
theorem qw449 : Cond.code yX6_wipe cX6_wipe 2 (some .int) ∈ gW := gW_mem (i := 449) (by decide +kernel) (by decide +kernel)
theorem qw450 : Cond.methodLink RL 53 yX6_text ∈ gW := gW_mem (i := 450) (by decide +kernel) (by decide +kernel)
theorem qw451 : Cond.instanceMethod yX6_text ∈ gW := gW_mem (i := 451) (by decide +kernel) (by decide +kernel)
theorem qw452 : Cond.selects RX6 yX6_text yX6_text ∈ gW := gW_mem (i := 452) (by decide +kernel) (by decide +kernel)
theorem qw453 : Cond.code yX6_text cX6_text 2 (some .int) ∈ gW := gW_mem (i := 453) (by decide +kernel) (by decide +kernel)
theorem qw454 : Cond.methodLink RX6 151 yX1_become ∈ gW := gW_mem (i := 454) (by decide +kernel) (by decide +kernel)
theorem qw455 : Cond.instanceMethod yX1_become ∈ gW := gW_mem (i := 455) (by decide +kernel) (by decide +kernel)
theorem qw456 : Cond.selects RX1 yX1_become yX1_become ∈ gW := gW_mem (i := 456) (by decide +kernel) (by decide +kernel)
theorem qw457 : Cond.code yX1_become cX1_become 3 none ∈ gW := gW_mem (i := 457) (by decide +kernel) (by decide +kernel)
theorem qw458 : Cond.methodLink RX1 54 yX3_become ∈ gW := gW_mem (i := 458) (by decide +kernel) (by decide +kernel)
theorem qw459 : Cond.instanceMethod yX3_become ∈ gW := gW_mem (i := 459) (by decide +kernel) (by decide +kernel)
theorem qw460 : Cond.selects RX3 yX3_become yX3_become ∈ gW := gW_mem (i := 460) (by decide +kernel) (by decide +kernel)
theorem qw461 : Cond.code yX3_become cX3_become 2 none ∈ gW := gW_mem (i := 461) (by decide +kernel) (by decide +kernel)
theorem qw462 : Cond.methodLink RX1 58 yX0_become ∈ gW := gW_mem (i := 462) (by decide +kernel) (by decide +kernel)
theorem qw463 : Cond.instanceMethod yX0_become ∈ gW := gW_mem (i := 463) (by decide +kernel) (by decide +kernel)
theorem qw464 : Cond.selects RX0 yX0_become yX0_become ∈ gW := gW_mem (i := 464) (by decide +kernel) (by decide +kernel)
theorem qw465 : Cond.code yX0_become cX0_become 2 none ∈ gW := gW_mem (i := 465) (by decide +kernel) (by decide +kernel)
theorem qw466 : Cond.methodLink RX1 61 arraycopyName ∈ gW := gW_mem (i := 466) (by decide +kernel) (by decide +kernel)
theorem qw467 : Cond.static arraycopyName ∈ gW := gW_mem (i := 467) (by decide +kernel) (by decide +kernel)
theorem qw468 : Cond.native arraycopyName ∈ gW := gW_mem (i := 468) (by decide +kernel) (by decide +kernel)
theorem qw469 : Cond.methodLink RX6 155 yX4_readInto ∈ gW := gW_mem (i := 469) (by decide +kernel) (by decide +kernel)
theorem qw470 : Cond.instanceMethod yX4_readInto ∈ gW := gW_mem (i := 470) (by decide +kernel) (by decide +kernel)
theorem qw471 : Cond.selects RX4 yX4_readInto yX4_readInto ∈ gW := gW_mem (i := 471) (by decide +kernel) (by decide +kernel)
theorem qw472 : Cond.code yX4_readInto cX4_readInto 3 (some .int) ∈ gW := gW_mem (i := 472) (by decide +kernel) (by decide +kernel)
theorem qw473 : Cond.methodLink RX4 31 yX4_goOn ∈ gW := gW_mem (i := 473) (by decide +kernel) (by decide +kernel)
theorem qw475 : Cond.instanceMethod yX4_goOn ∈ gW := gW_mem (i := 475) (by decide +kernel) (by decide +kernel)
theorem qw476 : Cond.code yX4_goOn cX4_goOn 1 none ∈ gW := gW_mem (i := 476) (by decide +kernel) (by decide +kernel)
theorem qw477 : Cond.methodLink RX4 111 yX4_isLetter ∈ gW := gW_mem (i := 477) (by decide +kernel) (by decide +kernel)
theorem qw478 : Cond.static yX4_isLetter ∈ gW := gW_mem (i := 478) (by decide +kernel) (by decide +kernel)
theorem qw479 : Cond.code yX4_isLetter cX4_isLetter 1 (some .boolean) ∈ gW := gW_mem (i := 479) (by decide +kernel) (by decide +kernel)
theorem qw480 : Cond.methodLink RX4 115 yX4_isDigit ∈ gW := gW_mem (i := 480) (by decide +kernel) (by decide +kernel)
theorem qw481 : Cond.static yX4_isDigit ∈ gW := gW_mem (i := 481) (by decide +kernel) (by decide +kernel)
theorem qw482 : Cond.code yX4_isDigit cX4_isDigit 1 (some .boolean) ∈ gW := gW_mem (i := 482) (by decide +kernel) (by decide +kernel)
theorem qw483 : Cond.methodLink RX4 118 yX4_goThroughDigits ∈ gW := gW_mem (i := 483) (by decide +kernel) (by decide +kernel)
theorem qw485 : Cond.instanceMethod yX4_goThroughDigits ∈ gW := gW_mem (i := 485) (by decide +kernel) (by decide +kernel)
theorem qw486 : Cond.code yX4_goThroughDigits cX4_goThroughDigits 1 none ∈ gW := gW_mem (i := 486) (by decide +kernel) (by decide +kernel)
theorem qw487 : Cond.methodLink RX4 121 yJ9_min_7cf53 ∈ gW := gW_mem (i := 487) (by decide +kernel) (by decide +kernel)
theorem qw488 : Cond.static yJ9_min_7cf53 ∈ gW := gW_mem (i := 488) (by decide +kernel) (by decide +kernel)
theorem qw489 : Cond.code yJ9_min_7cf53 cJ9_min_7cf53 2 (some .int) ∈ gW := gW_mem (i := 489) (by decide +kernel) (by decide +kernel)
theorem qw490 : Cond.methodLink RX4 34 yX4_readItem ∈ gW := gW_mem (i := 490) (by decide +kernel) (by decide +kernel)
theorem qw492 : Cond.instanceMethod yX4_readItem ∈ gW := gW_mem (i := 492) (by decide +kernel) (by decide +kernel)
theorem qw493 : Cond.code yX4_readItem cX4_readItem 3 (some .boolean) ∈ gW := gW_mem (i := 493) (by decide +kernel) (by decide +kernel)
theorem qw494 : Cond.methodLink RX4 38 yX4_kindOfWord ∈ gW := gW_mem (i := 494) (by decide +kernel) (by decide +kernel)
theorem qw496 : Cond.instanceMethod yX4_kindOfWord ∈ gW := gW_mem (i := 496) (by decide +kernel) (by decide +kernel)
theorem qw497 : Cond.code yX4_kindOfWord cX4_kindOfWord 1 (some .int) ∈ gW := gW_mem (i := 497) (by decide +kernel) (by decide +kernel)
theorem qw499 : Cond.methodLink RX4 48 yX4_isWord ∈ gW := gW_mem (i := 499) (by decide +kernel) (by decide +kernel)
theorem qw501 : Cond.instanceMethod yX4_isWord ∈ gW := gW_mem (i := 501) (by decide +kernel) (by decide +kernel)
theorem qw502 : Cond.code yX4_isWord cX4_isWord 3 (some .boolean) ∈ gW := gW_mem (i := 502) (by decide +kernel) (by decide +kernel)
theorem qw503 : Cond.methodLink RX4 89 yJ0_length_8abf5 ∈ gW := gW_mem (i := 503) (by decide +kernel) (by decide +kernel)
theorem qw504 : Cond.instanceMethod yJ0_length_8abf5 ∈ gW := gW_mem (i := 504) (by decide +kernel) (by decide +kernel)
theorem qw505 : Cond.selects RJ0 yJ0_length_8abf5 yJ0_length_8abf5 ∈ gW := gW_mem (i := 505) (by decide +kernel) (by decide +kernel)
theorem qw506 : Cond.code yJ0_length_8abf5 cJ0_length_8abf5 1 (some .int) ∈ gW := gW_mem (i := 506) (by decide +kernel) (by decide +kernel)
theorem qw507 : Cond.methodLink RJ0 335 yJ0_coder_7d493 ∈ gW := gW_mem (i := 507) (by decide +kernel) (by decide +kernel)
theorem qw508 : Cond.instanceMethod yJ0_coder_7d493 ∈ gW := gW_mem (i := 508) (by decide +kernel) (by decide +kernel)
theorem qw509 : Cond.selects RJ0 yJ0_coder_7d493 yJ0_coder_7d493 ∈ gW := gW_mem (i := 509) (by decide +kernel) (by decide +kernel)
theorem qw510 : Cond.code yJ0_coder_7d493 cJ0_coder_7d493 1 (some .byte) ∈ gW := gW_mem (i := 510) (by decide +kernel) (by decide +kernel)
theorem qw511 : Cond.fieldLink RJ0 38 "java/lang/String" "COMPACT_STRINGS" "Z" ∈ gW := gW_mem (i := 511) (by decide +kernel) (by decide +kernel)
theorem qw513 : Cond.methodLink RX4 93 yJ0_charAt_5068e ∈ gW := gW_mem (i := 513) (by decide +kernel) (by decide +kernel)
theorem qw514 : Cond.instanceMethod yJ0_charAt_5068e ∈ gW := gW_mem (i := 514) (by decide +kernel) (by decide +kernel)
theorem qw515 : Cond.selects RJ0 yJ0_charAt_5068e yJ0_charAt_5068e ∈ gW := gW_mem (i := 515) (by decide +kernel) (by decide +kernel)
theorem qw516 : Cond.code yJ0_charAt_5068e cJ0_charAt_5068e 2 (some .char) ∈ gW := gW_mem (i := 516) (by decide +kernel) (by decide +kernel)
theorem qw517 : Cond.methodLink RJ0 492 yJ0_isLatin1_aae02 ∈ gW := gW_mem (i := 517) (by decide +kernel) (by decide +kernel)
theorem qw518 : Cond.instanceMethod yJ0_isLatin1_aae02 ∈ gW := gW_mem (i := 518) (by decide +kernel) (by decide +kernel)
theorem qw519 : Cond.selects RJ0 yJ0_isLatin1_aae02 yJ0_isLatin1_aae02 ∈ gW := gW_mem (i := 519) (by decide +kernel) (by decide +kernel)
theorem qw520 : Cond.code yJ0_isLatin1_aae02 cJ0_isLatin1_aae02 1 (some .boolean) ∈ gW := gW_mem (i := 520) (by decide +kernel) (by decide +kernel)
theorem qw521 : Cond.methodLink RJ0 495 yJ1_charAt_3b067 ∈ gW := gW_mem (i := 521) (by decide +kernel) (by decide +kernel)
theorem qw522 : Cond.static yJ1_charAt_3b067 ∈ gW := gW_mem (i := 522) (by decide +kernel) (by decide +kernel)
theorem qw523 : Cond.code yJ1_charAt_3b067 cJ1_charAt_3b067 2 (some .char) ∈ gW := gW_mem (i := 523) (by decide +kernel) (by decide +kernel)
theorem qw524 : Cond.methodLink RJ1 9 yJ0_checkIndex_df160 ∈ gW := gW_mem (i := 524) (by decide +kernel) (by decide +kernel)
theorem qw525 : Cond.static yJ0_checkIndex_df160 ∈ gW := gW_mem (i := 525) (by decide +kernel) (by decide +kernel)
theorem qw526 : Cond.code yJ0_checkIndex_df160 cJ0_checkIndex_df160 2 none ∈ gW := gW_mem (i := 526) (by decide +kernel) (by decide +kernel)
theorem qw527 : Cond.fieldLink RJ0 1053 "jdk/internal/util/Preconditions" "SIOOBE_FORMATTER" "Ljava/util/function/BiFunction;" ∈ gW := gW_mem (i := 527) (by decide +kernel) (by decide +kernel)
theorem qw529 : Cond.methodLink RJ0 1059 yJ3_checkIndex_8e157 ∈ gW := gW_mem (i := 529) (by decide +kernel) (by decide +kernel)
theorem qw530 : Cond.static yJ3_checkIndex_8e157 ∈ gW := gW_mem (i := 530) (by decide +kernel) (by decide +kernel)
theorem qw531 : Cond.code yJ3_checkIndex_8e157 cJ3_checkIndex_8e157 3 (some .int) ∈ gW := gW_mem (i := 531) (by decide +kernel) (by decide +kernel)
theorem qw532 : Cond.methodLink RJ0 498 yJ2_charAt_3b067 ∈ gW := gW_mem (i := 532) (by decide +kernel) (by decide +kernel)
theorem qw533 : Cond.static yJ2_charAt_3b067 ∈ gW := gW_mem (i := 533) (by decide +kernel) (by decide +kernel)
theorem qw534 : Cond.code yJ2_charAt_3b067 cJ2_charAt_3b067 2 (some .char) ∈ gW := gW_mem (i := 534) (by decide +kernel) (by decide +kernel)
theorem qw535 : Cond.methodLink RJ2 67 yJ2_checkIndex_2214a ∈ gW := gW_mem (i := 535) (by decide +kernel) (by decide +kernel)
theorem qw536 : Cond.static yJ2_checkIndex_2214a ∈ gW := gW_mem (i := 536) (by decide +kernel) (by decide +kernel)
theorem qw537 : Cond.code yJ2_checkIndex_2214a cJ2_checkIndex_2214a 2 none ∈ gW := gW_mem (i := 537) (by decide +kernel) (by decide +kernel)
theorem qw538 : Cond.methodLink RJ2 48 yJ2_length_9d52b ∈ gW := gW_mem (i := 538) (by decide +kernel) (by decide +kernel)
theorem qw539 : Cond.static yJ2_length_9d52b ∈ gW := gW_mem (i := 539) (by decide +kernel) (by decide +kernel)
theorem qw540 : Cond.code yJ2_length_9d52b cJ2_length_9d52b 1 (some .int) ∈ gW := gW_mem (i := 540) (by decide +kernel) (by decide +kernel)
theorem qw541 : Cond.methodLink RJ2 414 yJ0_checkIndex_df160 ∈ gW := gW_mem (i := 541) (by decide +kernel) (by decide +kernel)
theorem qw542 : Cond.methodLink RJ2 71 yJ2_getChar_3b067 ∈ gW := gW_mem (i := 542) (by decide +kernel) (by decide +kernel)
theorem qw543 : Cond.static yJ2_getChar_3b067 ∈ gW := gW_mem (i := 543) (by decide +kernel) (by decide +kernel)
theorem qw544 : Cond.code yJ2_getChar_3b067 cJ2_getChar_3b067 2 (some .char) ∈ gW := gW_mem (i := 544) (by decide +kernel) (by decide +kernel)
theorem qw545 : Cond.fieldLink RJ2 44 "java/lang/StringUTF16" "$assertionsDisabled" "Z" ∈ gW := gW_mem (i := 545) (by decide +kernel) (by decide +kernel)
theorem qw547 : Cond.fieldLink RJ2 59 "java/lang/StringUTF16" "HI_BYTE_SHIFT" "I" ∈ gW := gW_mem (i := 547) (by decide +kernel) (by decide +kernel)
theorem qw549 : Cond.fieldLink RJ2 63 "java/lang/StringUTF16" "LO_BYTE_SHIFT" "I" ∈ gW := gW_mem (i := 549) (by decide +kernel) (by decide +kernel)
theorem qw557 : Cond.methodLink RX4 42 yX4_readSide ∈ gW := gW_mem (i := 557) (by decide +kernel) (by decide +kernel)
theorem qw559 : Cond.instanceMethod yX4_readSide ∈ gW := gW_mem (i := 559) (by decide +kernel) (by decide +kernel)
theorem qw560 : Cond.code yX4_readSide cX4_readSide 5 (some .boolean) ∈ gW := gW_mem (i := 560) (by decide +kernel) (by decide +kernel)
theorem qw561 : Cond.methodLink RX4 65 yX4_isNumber ∈ gW := gW_mem (i := 561) (by decide +kernel) (by decide +kernel)
theorem qw563 : Cond.instanceMethod yX4_isNumber ∈ gW := gW_mem (i := 563) (by decide +kernel) (by decide +kernel)
theorem qw564 : Cond.code yX4_isNumber cX4_isNumber 3 (some .boolean) ∈ gW := gW_mem (i := 564) (by decide +kernel) (by decide +kernel)
theorem qw566 : Cond.methodLink RX4 71 yX4_readPerhaps ∈ gW := gW_mem (i := 566) (by decide +kernel) (by decide +kernel)
theorem qw568 : Cond.instanceMethod yX4_readPerhaps ∈ gW := gW_mem (i := 568) (by decide +kernel) (by decide +kernel)
theorem qw569 : Cond.code yX4_readPerhaps cX4_readPerhaps 6 (some .int) ∈ gW := gW_mem (i := 569) (by decide +kernel) (by decide +kernel)
theorem qw570 : Cond.methodLink RX4 75 yX1_addSide ∈ gW := gW_mem (i := 570) (by decide +kernel) (by decide +kernel)
theorem qw572 : Cond.methodLink RX4 52 yX4_readGame ∈ gW := gW_mem (i := 572) (by decide +kernel) (by decide +kernel)
theorem qw574 : Cond.instanceMethod yX4_readGame ∈ gW := gW_mem (i := 574) (by decide +kernel) (by decide +kernel)
theorem qw575 : Cond.code yX4_readGame cX4_readGame 5 (some .boolean) ∈ gW := gW_mem (i := 575) (by decide +kernel) (by decide +kernel)
theorem qw577 : Cond.methodLink RX4 84 yX1_addGame ∈ gW := gW_mem (i := 577) (by decide +kernel) (by decide +kernel)
theorem qw579 : Cond.methodLink RX4 57 yX4_readLaw ∈ gW := gW_mem (i := 579) (by decide +kernel) (by decide +kernel)
theorem qw581 : Cond.instanceMethod yX4_readLaw ∈ gW := gW_mem (i := 581) (by decide +kernel) (by decide +kernel)
theorem qw582 : Cond.code yX4_readLaw cX4_readLaw 2 (some .boolean) ∈ gW := gW_mem (i := 582) (by decide +kernel) (by decide +kernel)
theorem qw584 : Cond.methodLink RL 57 yX6_next ∈ gW := gW_mem (i := 584) (by decide +kernel) (by decide +kernel)
theorem qw585 : Cond.instanceMethod yX6_next ∈ gW := gW_mem (i := 585) (by decide +kernel) (by decide +kernel)
theorem qw586 : Cond.selects RX6 yX6_next yX6_next ∈ gW := gW_mem (i := 586) (by decide +kernel) (by decide +kernel)
theorem qw587 : Cond.code yX6_next cX6_next 5 (some .int) ∈ gW := gW_mem (i := 587) (by decide +kernel) (by decide +kernel)
theorem qw588 : Cond.methodLink RX6 159 yX1_allPlayed ∈ gW := gW_mem (i := 588) (by decide +kernel) (by decide +kernel)
theorem qw589 : Cond.instanceMethod yX1_allPlayed ∈ gW := gW_mem (i := 589) (by decide +kernel) (by decide +kernel)
theorem qw590 : Cond.selects RX1 yX1_allPlayed yX1_allPlayed ∈ gW := gW_mem (i := 590) (by decide +kernel) (by decide +kernel)
theorem qw591 : Cond.code yX1_allPlayed cX1_allPlayed 1 (some .boolean) ∈ gW := gW_mem (i := 591) (by decide +kernel) (by decide +kernel)
theorem qw592 : Cond.methodLink RX6 163 yX1_effortOf ∈ gW := gW_mem (i := 592) (by decide +kernel) (by decide +kernel)
theorem qw593 : Cond.instanceMethod yX1_effortOf ∈ gW := gW_mem (i := 593) (by decide +kernel) (by decide +kernel)
theorem qw594 : Cond.selects RX1 yX1_effortOf yX1_effortOf ∈ gW := gW_mem (i := 594) (by decide +kernel) (by decide +kernel)
theorem qw595 : Cond.code yX1_effortOf cX1_effortOf 5 (some .int) ∈ gW := gW_mem (i := 595) (by decide +kernel) (by decide +kernel)
theorem qw596 : Cond.methodLink RX1 98 yX1_isBarred ∈ gW := gW_mem (i := 596) (by decide +kernel) (by decide +kernel)
theorem qw597 : Cond.methodLink RX1 101 yX1_nextWorthOf ∈ gW := gW_mem (i := 597) (by decide +kernel) (by decide +kernel)
theorem qw598 : Cond.instanceMethod yX1_nextWorthOf ∈ gW := gW_mem (i := 598) (by decide +kernel) (by decide +kernel)
theorem qw599 : Cond.selects RX1 yX1_nextWorthOf yX1_nextWorthOf ∈ gW := gW_mem (i := 599) (by decide +kernel) (by decide +kernel)
theorem qw600 : Cond.code yX1_nextWorthOf cX1_nextWorthOf 3 (some .int) ∈ gW := gW_mem (i := 600) (by decide +kernel) (by decide +kernel)
theorem qw601 : Cond.methodLink RX1 105 yJ9_min_7cf53 ∈ gW := gW_mem (i := 601) (by decide +kernel) (by decide +kernel)
theorem qw602 : Cond.methodLink RX6 166 yX1_chanceOfFirst ∈ gW := gW_mem (i := 602) (by decide +kernel) (by decide +kernel)
theorem qw603 : Cond.instanceMethod yX1_chanceOfFirst ∈ gW := gW_mem (i := 603) (by decide +kernel) (by decide +kernel)
theorem qw604 : Cond.selects RX1 yX1_chanceOfFirst yX1_chanceOfFirst ∈ gW := gW_mem (i := 604) (by decide +kernel) (by decide +kernel)
theorem qw605 : Cond.code yX1_chanceOfFirst cX1_chanceOfFirst 5 (some .int) ∈ gW := gW_mem (i := 605) (by decide +kernel) (by decide +kernel)
theorem qw606 : Cond.methodLink RX1 118 yX1_forceOf ∈ gW := gW_mem (i := 606) (by decide +kernel) (by decide +kernel)
theorem qw607 : Cond.instanceMethod yX1_forceOf ∈ gW := gW_mem (i := 607) (by decide +kernel) (by decide +kernel)
theorem qw608 : Cond.selects RX1 yX1_forceOf yX1_forceOf ∈ gW := gW_mem (i := 608) (by decide +kernel) (by decide +kernel)
theorem qw609 : Cond.code yX1_forceOf cX1_forceOf 4 (some .int) ∈ gW := gW_mem (i := 609) (by decide +kernel) (by decide +kernel)
theorem qw610 : Cond.methodLink RX1 115 yJ9_max_7cf53 ∈ gW := gW_mem (i := 610) (by decide +kernel) (by decide +kernel)
theorem qw611 : Cond.static yJ9_max_7cf53 ∈ gW := gW_mem (i := 611) (by decide +kernel) (by decide +kernel)
theorem qw612 : Cond.code yJ9_max_7cf53 cJ9_max_7cf53 2 (some .int) ∈ gW := gW_mem (i := 612) (by decide +kernel) (by decide +kernel)
theorem qw613 : Cond.methodLink RX6 170 yX1_forceOf ∈ gW := gW_mem (i := 613) (by decide +kernel) (by decide +kernel)
theorem qw614 : Cond.methodLink RL 61 yX6_win ∈ gW := gW_mem (i := 614) (by decide +kernel) (by decide +kernel)
theorem qw615 : Cond.instanceMethod yX6_win ∈ gW := gW_mem (i := 615) (by decide +kernel) (by decide +kernel)
theorem qw616 : Cond.selects RX6 yX6_win yX6_win ∈ gW := gW_mem (i := 616) (by decide +kernel) (by decide +kernel)
theorem qw617 : Cond.code yX6_win cX6_win 2 (some .int) ∈ gW := gW_mem (i := 617) (by decide +kernel) (by decide +kernel)
theorem qw618 : Cond.methodLink RX6 173 yX0_isOf ∈ gW := gW_mem (i := 618) (by decide +kernel) (by decide +kernel)
theorem qw619 : Cond.methodLink RX6 176 yX1_playWonBy ∈ gW := gW_mem (i := 619) (by decide +kernel) (by decide +kernel)
theorem qw620 : Cond.instanceMethod yX1_playWonBy ∈ gW := gW_mem (i := 620) (by decide +kernel) (by decide +kernel)
theorem qw621 : Cond.selects RX1 yX1_playWonBy yX1_playWonBy ∈ gW := gW_mem (i := 621) (by decide +kernel) (by decide +kernel)
theorem qw622 : Cond.code yX1_playWonBy cX1_playWonBy 2 (some .int) ∈ gW := gW_mem (i := 622) (by decide +kernel) (by decide +kernel)
theorem qw623 : Cond.methodLink RX1 150 yX1_effortOf ∈ gW := gW_mem (i := 623) (by decide +kernel) (by decide +kernel)
theorem qw624 : Cond.methodLink RX1 153 yX1_settle ∈ gW := gW_mem (i := 624) (by decide +kernel) (by decide +kernel)
theorem qw625 : Cond.instanceMethod yX1_settle ∈ gW := gW_mem (i := 625) (by decide +kernel) (by decide +kernel)
theorem qw626 : Cond.selects RX1 yX1_settle yX1_settle ∈ gW := gW_mem (i := 626) (by decide +kernel) (by decide +kernel)
theorem qw627 : Cond.code yX1_settle cX1_settle 8 (some .int) ∈ gW := gW_mem (i := 627) (by decide +kernel) (by decide +kernel)
theorem qw628 : Cond.methodLink RX1 124 yX1_givenIfWonBy ∈ gW := gW_mem (i := 628) (by decide +kernel) (by decide +kernel)
theorem qw629 : Cond.instanceMethod yX1_givenIfWonBy ∈ gW := gW_mem (i := 629) (by decide +kernel) (by decide +kernel)
theorem qw630 : Cond.selects RX1 yX1_givenIfWonBy yX1_givenIfWonBy ∈ gW := gW_mem (i := 630) (by decide +kernel) (by decide +kernel)
theorem qw631 : Cond.code yX1_givenIfWonBy cX1_givenIfWonBy 5 (some .int) ∈ gW := gW_mem (i := 631) (by decide +kernel) (by decide +kernel)
theorem qw632 : Cond.methodLink RX1 142 yX3_remember ∈ gW := gW_mem (i := 632) (by decide +kernel) (by decide +kernel)
theorem qw633 : Cond.instanceMethod yX3_remember ∈ gW := gW_mem (i := 633) (by decide +kernel) (by decide +kernel)
theorem qw634 : Cond.selects RX3 yX3_remember yX3_remember ∈ gW := gW_mem (i := 634) (by decide +kernel) (by decide +kernel)
theorem qw635 : Cond.code yX3_remember cX3_remember 4 none ∈ gW := gW_mem (i := 635) (by decide +kernel) (by decide +kernel)
theorem qw636 : Cond.methodLink RL 65 yX6_play ∈ gW := gW_mem (i := 636) (by decide +kernel) (by decide +kernel)
theorem qw637 : Cond.instanceMethod yX6_play ∈ gW := gW_mem (i := 637) (by decide +kernel) (by decide +kernel)
theorem qw638 : Cond.selects RX6 yX6_play yX6_play ∈ gW := gW_mem (i := 638) (by decide +kernel) (by decide +kernel)
theorem qw639 : Cond.code yX6_play cX6_play 1 (some .int) ∈ gW := gW_mem (i := 639) (by decide +kernel) (by decide +kernel)
theorem qw640 : Cond.methodLink RX6 179 yX1_playDrawn ∈ gW := gW_mem (i := 640) (by decide +kernel) (by decide +kernel)
theorem qw641 : Cond.instanceMethod yX1_playDrawn ∈ gW := gW_mem (i := 641) (by decide +kernel) (by decide +kernel)
theorem qw642 : Cond.selects RX1 yX1_playDrawn yX1_playDrawn ∈ gW := gW_mem (i := 642) (by decide +kernel) (by decide +kernel)
theorem qw643 : Cond.code yX1_playDrawn cX1_playDrawn 5 (some .int) ∈ gW := gW_mem (i := 643) (by decide +kernel) (by decide +kernel)
theorem qw644 : Cond.constant RX1 157 (1103515245) ∈ gW := gW_mem (i := 644) (by decide +kernel) (by decide +kernel)
theorem qw645 : Cond.methodLink RX1 158 yX1_chanceOfFirst ∈ gW := gW_mem (i := 645) (by decide +kernel) (by decide +kernel)
theorem qw646 : Cond.methodLink RL 69 yX6_anew ∈ gW := gW_mem (i := 646) (by decide +kernel) (by decide +kernel)
theorem qw647 : Cond.instanceMethod yX6_anew ∈ gW := gW_mem (i := 647) (by decide +kernel) (by decide +kernel)
theorem qw648 : Cond.selects RX6 yX6_anew yX6_anew ∈ gW := gW_mem (i := 648) (by decide +kernel) (by decide +kernel)
theorem qw649 : Cond.code yX6_anew cX6_anew 1 (some .int) ∈ gW := gW_mem (i := 649) (by decide +kernel) (by decide +kernel)
theorem qw650 : Cond.methodLink RX6 183 yX1_forgetGames ∈ gW := gW_mem (i := 650) (by decide +kernel) (by decide +kernel)
theorem qw651 : Cond.instanceMethod yX1_forgetGames ∈ gW := gW_mem (i := 651) (by decide +kernel) (by decide +kernel)
theorem qw652 : Cond.selects RX1 yX1_forgetGames yX1_forgetGames ∈ gW := gW_mem (i := 652) (by decide +kernel) (by decide +kernel)
theorem qw653 : Cond.code yX1_forgetGames cX1_forgetGames 3 (some .int) ∈ gW := gW_mem (i := 653) (by decide +kernel) (by decide +kernel)
theorem qw654 : Cond.methodLink RL 73 yX6_leads ∈ gW := gW_mem (i := 654) (by decide +kernel) (by decide +kernel)
theorem qw655 : Cond.instanceMethod yX6_leads ∈ gW := gW_mem (i := 655) (by decide +kernel) (by decide +kernel)
theorem qw656 : Cond.selects RX6 yX6_leads yX6_leads ∈ gW := gW_mem (i := 656) (by decide +kernel) (by decide +kernel)
theorem qw657 : Cond.code yX6_leads cX6_leads 1 (some .int) ∈ gW := gW_mem (i := 657) (by decide +kernel) (by decide +kernel)
theorem qw658 : Cond.methodLink RX6 186 yX1_leader ∈ gW := gW_mem (i := 658) (by decide +kernel) (by decide +kernel)
theorem qw659 : Cond.instanceMethod yX1_leader ∈ gW := gW_mem (i := 659) (by decide +kernel) (by decide +kernel)
theorem qw660 : Cond.selects RX1 yX1_leader yX1_leader ∈ gW := gW_mem (i := 660) (by decide +kernel) (by decide +kernel)
theorem qw661 : Cond.code yX1_leader cX1_leader 3 (some .int) ∈ gW := gW_mem (i := 661) (by decide +kernel) (by decide +kernel)
theorem qw662 : Cond.methodLink RL 77 yX6_place ∈ gW := gW_mem (i := 662) (by decide +kernel) (by decide +kernel)
theorem qw663 : Cond.instanceMethod yX6_place ∈ gW := gW_mem (i := 663) (by decide +kernel) (by decide +kernel)
theorem qw664 : Cond.selects RX6 yX6_place yX6_place ∈ gW := gW_mem (i := 664) (by decide +kernel) (by decide +kernel)
theorem qw665 : Cond.code yX6_place cX6_place 4 (some .int) ∈ gW := gW_mem (i := 665) (by decide +kernel) (by decide +kernel)
theorem qw666 : Cond.methodLink RL 81 yX6_gets ∈ gW := gW_mem (i := 666) (by decide +kernel) (by decide +kernel)
theorem qw667 : Cond.instanceMethod yX6_gets ∈ gW := gW_mem (i := 667) (by decide +kernel) (by decide +kernel)
theorem qw668 : Cond.selects RX6 yX6_gets yX6_gets ∈ gW := gW_mem (i := 668) (by decide +kernel) (by decide +kernel)
theorem qw669 : Cond.code yX6_gets cX6_gets 7 (some .long) ∈ gW := gW_mem (i := 669) (by decide +kernel) (by decide +kernel)
theorem qw670 : Cond.methodLink RX6 189 yX6_isPart ∈ gW := gW_mem (i := 670) (by decide +kernel) (by decide +kernel)
theorem qw671 : Cond.static yX6_isPart ∈ gW := gW_mem (i := 671) (by decide +kernel) (by decide +kernel)
theorem qw672 : Cond.code yX6_isPart cX6_isPart 1 (some .boolean) ∈ gW := gW_mem (i := 672) (by decide +kernel) (by decide +kernel)
theorem qw673 : Cond.methodLink RX6 192 yX6_goLikelyWays ∈ gW := gW_mem (i := 673) (by decide +kernel) (by decide +kernel)
theorem qw675 : Cond.instanceMethod yX6_goLikelyWays ∈ gW := gW_mem (i := 675) (by decide +kernel) (by decide +kernel)
theorem qw676 : Cond.code yX6_goLikelyWays cX6_goLikelyWays 1 none ∈ gW := gW_mem (i := 676) (by decide +kernel) (by decide +kernel)
theorem qw677 : Cond.methodLink RX6 213 yX5_over ∈ gW := gW_mem (i := 677) (by decide +kernel) (by decide +kernel)
theorem qw678 : Cond.instanceMethod yX5_over ∈ gW := gW_mem (i := 678) (by decide +kernel) (by decide +kernel)
theorem qw679 : Cond.selects RX5 yX5_over yX5_over ∈ gW := gW_mem (i := 679) (by decide +kernel) (by decide +kernel)
theorem qw680 : Cond.code yX5_over cX5_over 5 none ∈ gW := gW_mem (i := 680) (by decide +kernel) (by decide +kernel)
theorem qw681 : Cond.constantLong RX5 64 (10) ∈ gW := gW_mem (i := 681) (by decide +kernel) (by decide +kernel)
theorem qw682 : Cond.methodLink RX5 66 yX5_startSums ∈ gW := gW_mem (i := 682) (by decide +kernel) (by decide +kernel)
theorem qw684 : Cond.instanceMethod yX5_startSums ∈ gW := gW_mem (i := 684) (by decide +kernel) (by decide +kernel)
theorem qw685 : Cond.code yX5_startSums cX5_startSums 4 none ∈ gW := gW_mem (i := 685) (by decide +kernel) (by decide +kernel)
theorem qw686 : Cond.methodLink RX5 69 yX5_follow ∈ gW := gW_mem (i := 686) (by decide +kernel) (by decide +kernel)
theorem qw687 : Cond.static yX5_follow ∈ gW := gW_mem (i := 687) (by decide +kernel) (by decide +kernel)
theorem qw688 : Cond.code yX5_follow cX5_follow 15 none ∈ gW := gW_mem (i := 688) (by decide +kernel) (by decide +kernel)
theorem qw689 : Cond.methodLink RX5 106 yX1_allPlayed ∈ gW := gW_mem (i := 689) (by decide +kernel) (by decide +kernel)
theorem qw690 : Cond.methodLink RX5 110 yX5_arrive ∈ gW := gW_mem (i := 690) (by decide +kernel) (by decide +kernel)
theorem qw692 : Cond.instanceMethod yX5_arrive ∈ gW := gW_mem (i := 692) (by decide +kernel) (by decide +kernel)
theorem qw693 : Cond.code yX5_arrive cX5_arrive 5 none ∈ gW := gW_mem (i := 693) (by decide +kernel) (by decide +kernel)
theorem qw694 : Cond.methodLink RX5 135 yJ9_max_7cf53 ∈ gW := gW_mem (i := 694) (by decide +kernel) (by decide +kernel)
theorem qw695 : Cond.methodLink RX5 140 yX1_leader ∈ gW := gW_mem (i := 695) (by decide +kernel) (by decide +kernel)
theorem qw696 : Cond.methodLink RX5 114 yX1_effortOf ∈ gW := gW_mem (i := 696) (by decide +kernel) (by decide +kernel)
theorem qw697 : Cond.methodLink RX5 121 yX1_chanceOfFirst ∈ gW := gW_mem (i := 697) (by decide +kernel) (by decide +kernel)
theorem qw698 : Cond.methodLink RX5 125 yX1_settle ∈ gW := gW_mem (i := 698) (by decide +kernel) (by decide +kernel)
theorem qw699 : Cond.methodLink RX5 132 yX1_takeBack ∈ gW := gW_mem (i := 699) (by decide +kernel) (by decide +kernel)
theorem qw700 : Cond.instanceMethod yX1_takeBack ∈ gW := gW_mem (i := 700) (by decide +kernel) (by decide +kernel)
theorem qw701 : Cond.selects RX1 yX1_takeBack yX1_takeBack ∈ gW := gW_mem (i := 701) (by decide +kernel) (by decide +kernel)
theorem qw702 : Cond.code yX1_takeBack cX1_takeBack 2 none ∈ gW := gW_mem (i := 702) (by decide +kernel) (by decide +kernel)
theorem qw703 : Cond.methodLink RX6 203 yX6_inLowestTerms ∈ gW := gW_mem (i := 703) (by decide +kernel) (by decide +kernel)
theorem qw704 : Cond.static yX6_inLowestTerms ∈ gW := gW_mem (i := 704) (by decide +kernel) (by decide +kernel)
theorem qw705 : Cond.code yX6_inLowestTerms cX6_inLowestTerms 12 (some .long) ∈ gW := gW_mem (i := 705) (by decide +kernel) (by decide +kernel)
theorem qw706 : Cond.methodLink RL 86 yX6_first ∈ gW := gW_mem (i := 706) (by decide +kernel) (by decide +kernel)
theorem qw707 : Cond.instanceMethod yX6_first ∈ gW := gW_mem (i := 707) (by decide +kernel) (by decide +kernel)
theorem qw708 : Cond.selects RX6 yX6_first yX6_first ∈ gW := gW_mem (i := 708) (by decide +kernel) (by decide +kernel)
theorem qw709 : Cond.code yX6_first cX6_first 3 (some .long) ∈ gW := gW_mem (i := 709) (by decide +kernel) (by decide +kernel)
theorem qw710 : Cond.methodLink RL 91 yX6_mean ∈ gW := gW_mem (i := 710) (by decide +kernel) (by decide +kernel)
theorem qw711 : Cond.instanceMethod yX6_mean ∈ gW := gW_mem (i := 711) (by decide +kernel) (by decide +kernel)
theorem qw712 : Cond.selects RX6 yX6_mean yX6_mean ∈ gW := gW_mem (i := 712) (by decide +kernel) (by decide +kernel)
theorem qw713 : Cond.code yX6_mean cX6_mean 3 (some .long) ∈ gW := gW_mem (i := 713) (by decide +kernel) (by decide +kernel)
theorem qw714 : Cond.methodLink RL 95 yX6_least ∈ gW := gW_mem (i := 714) (by decide +kernel) (by decide +kernel)
theorem qw715 : Cond.instanceMethod yX6_least ∈ gW := gW_mem (i := 715) (by decide +kernel) (by decide +kernel)
theorem qw716 : Cond.selects RX6 yX6_least yX6_least ∈ gW := gW_mem (i := 716) (by decide +kernel) (by decide +kernel)
theorem qw717 : Cond.code yX6_least cX6_least 4 (some .long) ∈ gW := gW_mem (i := 717) (by decide +kernel) (by decide +kernel)
theorem qw718 : Cond.methodLink RL 99 yX6_most ∈ gW := gW_mem (i := 718) (by decide +kernel) (by decide +kernel)
theorem qw719 : Cond.instanceMethod yX6_most ∈ gW := gW_mem (i := 719) (by decide +kernel) (by decide +kernel)
theorem qw720 : Cond.selects RX6 yX6_most yX6_most ∈ gW := gW_mem (i := 720) (by decide +kernel) (by decide +kernel)
theorem qw721 : Cond.code yX6_most cX6_most 2 (some .int) ∈ gW := gW_mem (i := 721) (by decide +kernel) (by decide +kernel)
theorem qw722 : Cond.methodLink RL 103 yX6_ways ∈ gW := gW_mem (i := 722) (by decide +kernel) (by decide +kernel)
theorem qw723 : Cond.instanceMethod yX6_ways ∈ gW := gW_mem (i := 723) (by decide +kernel) (by decide +kernel)
theorem qw724 : Cond.selects RX6 yX6_ways yX6_ways ∈ gW := gW_mem (i := 724) (by decide +kernel) (by decide +kernel)
theorem qw725 : Cond.code yX6_ways cX6_ways 1 (some .int) ∈ gW := gW_mem (i := 725) (by decide +kernel) (by decide +kernel)
theorem qw726 : Cond.methodLink RL 107 yX6_moved ∈ gW := gW_mem (i := 726) (by decide +kernel) (by decide +kernel)
theorem qw727 : Cond.instanceMethod yX6_moved ∈ gW := gW_mem (i := 727) (by decide +kernel) (by decide +kernel)
theorem qw728 : Cond.selects RX6 yX6_moved yX6_moved ∈ gW := gW_mem (i := 728) (by decide +kernel) (by decide +kernel)
theorem qw729 : Cond.code yX6_moved cX6_moved 3 (some .long) ∈ gW := gW_mem (i := 729) (by decide +kernel) (by decide +kernel)
theorem qw730 : Cond.methodLink RL 111 yX6_best ∈ gW := gW_mem (i := 730) (by decide +kernel) (by decide +kernel)
theorem qw731 : Cond.instanceMethod yX6_best ∈ gW := gW_mem (i := 731) (by decide +kernel) (by decide +kernel)
theorem qw732 : Cond.selects RX6 yX6_best yX6_best ∈ gW := gW_mem (i := 732) (by decide +kernel) (by decide +kernel)
theorem qw733 : Cond.code yX6_best cX6_best 2 (some .int) ∈ gW := gW_mem (i := 733) (by decide +kernel) (by decide +kernel)
theorem qw734 : Cond.methodLink RX6 229 yX6_greatestMean ∈ gW := gW_mem (i := 734) (by decide +kernel) (by decide +kernel)
theorem qw736 : Cond.instanceMethod yX6_greatestMean ∈ gW := gW_mem (i := 736) (by decide +kernel) (by decide +kernel)
theorem qw737 : Cond.code yX6_greatestMean cX6_greatestMean 9 (some .int) ∈ gW := gW_mem (i := 737) (by decide +kernel) (by decide +kernel)
theorem qw738 : Cond.constantLong RX6 297 (-1) ∈ gW := gW_mem (i := 738) (by decide +kernel) (by decide +kernel)
theorem qw739 : Cond.methodLink RX6 299 yX6_suppose ∈ gW := gW_mem (i := 739) (by decide +kernel) (by decide +kernel)
theorem qw741 : Cond.instanceMethod yX6_suppose ∈ gW := gW_mem (i := 741) (by decide +kernel) (by decide +kernel)
theorem qw742 : Cond.code yX6_suppose cX6_suppose 4 none ∈ gW := gW_mem (i := 742) (by decide +kernel) (by decide +kernel)
theorem qw743 : Cond.methodLink RX6 303 yX1_force ∈ gW := gW_mem (i := 743) (by decide +kernel) (by decide +kernel)
theorem qw744 : Cond.instanceMethod yX1_force ∈ gW := gW_mem (i := 744) (by decide +kernel) (by decide +kernel)
theorem qw745 : Cond.selects RX1 yX1_force yX1_force ∈ gW := gW_mem (i := 745) (by decide +kernel) (by decide +kernel)
theorem qw746 : Cond.code yX1_force cX1_force 3 none ∈ gW := gW_mem (i := 746) (by decide +kernel) (by decide +kernel)
theorem qw747 : Cond.methodLink RL 115 yX6_kindFor ∈ gW := gW_mem (i := 747) (by decide +kernel) (by decide +kernel)
theorem qw748 : Cond.instanceMethod yX6_kindFor ∈ gW := gW_mem (i := 748) (by decide +kernel) (by decide +kernel)
theorem qw749 : Cond.selects RX6 yX6_kindFor yX6_kindFor ∈ gW := gW_mem (i := 749) (by decide +kernel) (by decide +kernel)
theorem qw750 : Cond.code yX6_kindFor cX6_kindFor 2 (some .int) ∈ gW := gW_mem (i := 750) (by decide +kernel) (by decide +kernel)
theorem qw751 : Cond.methodLink RL 119 yX6_tellsFor ∈ gW := gW_mem (i := 751) (by decide +kernel) (by decide +kernel)
theorem qw752 : Cond.instanceMethod yX6_tellsFor ∈ gW := gW_mem (i := 752) (by decide +kernel) (by decide +kernel)
theorem qw753 : Cond.selects RX6 yX6_tellsFor yX6_tellsFor ∈ gW := gW_mem (i := 753) (by decide +kernel) (by decide +kernel)
theorem qw754 : Cond.code yX6_tellsFor cX6_tellsFor 2 (some .int) ∈ gW := gW_mem (i := 754) (by decide +kernel) (by decide +kernel)
theorem qw755 : Cond.methodLink RL 123 yX6_order ∈ gW := gW_mem (i := 755) (by decide +kernel) (by decide +kernel)
theorem qw756 : Cond.instanceMethod yX6_order ∈ gW := gW_mem (i := 756) (by decide +kernel) (by decide +kernel)
theorem qw757 : Cond.selects RX6 yX6_order yX6_order ∈ gW := gW_mem (i := 757) (by decide +kernel) (by decide +kernel)
theorem qw758 : Cond.code yX6_order cX6_order 3 (some .int) ∈ gW := gW_mem (i := 758) (by decide +kernel) (by decide +kernel)
theorem qw759 : Cond.methodLink RX6 233 yX6_bestOrder ∈ gW := gW_mem (i := 759) (by decide +kernel) (by decide +kernel)
theorem qw761 : Cond.instanceMethod yX6_bestOrder ∈ gW := gW_mem (i := 761) (by decide +kernel) (by decide +kernel)
theorem qw762 : Cond.code yX6_bestOrder cX6_bestOrder 9 (some .int) ∈ gW := gW_mem (i := 762) (by decide +kernel) (by decide +kernel)
theorem qw763 : Cond.methodLink RX6 306 yX6_arrangeTrial ∈ gW := gW_mem (i := 763) (by decide +kernel) (by decide +kernel)
theorem qw765 : Cond.instanceMethod yX6_arrangeTrial ∈ gW := gW_mem (i := 765) (by decide +kernel) (by decide +kernel)
theorem qw766 : Cond.code yX6_arrangeTrial cX6_arrangeTrial 9 (some .int) ∈ gW := gW_mem (i := 766) (by decide +kernel) (by decide +kernel)
theorem qw767 : Cond.methodLink RX6 309 yX0_become ∈ gW := gW_mem (i := 767) (by decide +kernel) (by decide +kernel)
theorem qw768 : Cond.methodLink RL 127 yX6_lawFor ∈ gW := gW_mem (i := 768) (by decide +kernel) (by decide +kernel)
theorem qw769 : Cond.instanceMethod yX6_lawFor ∈ gW := gW_mem (i := 769) (by decide +kernel) (by decide +kernel)
theorem qw770 : Cond.selects RX6 yX6_lawFor yX6_lawFor ∈ gW := gW_mem (i := 770) (by decide +kernel) (by decide +kernel)
theorem qw771 : Cond.code yX6_lawFor cX6_lawFor 2 (some .int) ∈ gW := gW_mem (i := 771) (by decide +kernel) (by decide +kernel)
theorem qw772 : Cond.methodLink RL 131 yX6_gains ∈ gW := gW_mem (i := 772) (by decide +kernel) (by decide +kernel)
theorem qw773 : Cond.instanceMethod yX6_gains ∈ gW := gW_mem (i := 773) (by decide +kernel) (by decide +kernel)
theorem qw774 : Cond.selects RX6 yX6_gains yX6_gains ∈ gW := gW_mem (i := 774) (by decide +kernel) (by decide +kernel)
theorem qw775 : Cond.code yX6_gains cX6_gains 3 (some .int) ∈ gW := gW_mem (i := 775) (by decide +kernel) (by decide +kernel)
theorem qw776 : Cond.methodLink RX6 236 yX5_keepPointSums ∈ gW := gW_mem (i := 776) (by decide +kernel) (by decide +kernel)
theorem qw777 : Cond.instanceMethod yX5_keepPointSums ∈ gW := gW_mem (i := 777) (by decide +kernel) (by decide +kernel)
theorem qw778 : Cond.selects RX5 yX5_keepPointSums yX5_keepPointSums ∈ gW := gW_mem (i := 778) (by decide +kernel) (by decide +kernel)
theorem qw779 : Cond.code yX5_keepPointSums cX5_keepPointSums 1 none ∈ gW := gW_mem (i := 779) (by decide +kernel) (by decide +kernel)
theorem qw780 : Cond.methodLink RX5 73 arraycopyName ∈ gW := gW_mem (i := 780) (by decide +kernel) (by decide +kernel)
theorem qw781 : Cond.methodLink RX6 239 yX5_keptAbovePointSum ∈ gW := gW_mem (i := 781) (by decide +kernel) (by decide +kernel)
theorem qw782 : Cond.instanceMethod yX5_keptAbovePointSum ∈ gW := gW_mem (i := 782) (by decide +kernel) (by decide +kernel)
theorem qw783 : Cond.selects RX5 yX5_keptAbovePointSum yX5_keptAbovePointSum ∈ gW := gW_mem (i := 783) (by decide +kernel) (by decide +kernel)
theorem qw784 : Cond.code yX5_keptAbovePointSum cX5_keptAbovePointSum 2 (some .long) ∈ gW := gW_mem (i := 784) (by decide +kernel) (by decide +kernel)
theorem qw785 : Cond.methodLink RL 135 yX6_wronged ∈ gW := gW_mem (i := 785) (by decide +kernel) (by decide +kernel)
theorem qw786 : Cond.instanceMethod yX6_wronged ∈ gW := gW_mem (i := 786) (by decide +kernel) (by decide +kernel)
theorem qw787 : Cond.selects RX6 yX6_wronged yX6_wronged ∈ gW := gW_mem (i := 787) (by decide +kernel) (by decide +kernel)
theorem qw788 : Cond.code yX6_wronged cX6_wronged 7 (some .int) ∈ gW := gW_mem (i := 788) (by decide +kernel) (by decide +kernel)
theorem qw789 : Cond.constantLong RX6 243 (2) ∈ gW := gW_mem (i := 789) (by decide +kernel) (by decide +kernel)
theorem qw790 : Cond.methodLink RL 139 yX6_tries ∈ gW := gW_mem (i := 790) (by decide +kernel) (by decide +kernel)
theorem qw791 : Cond.instanceMethod yX6_tries ∈ gW := gW_mem (i := 791) (by decide +kernel) (by decide +kernel)
theorem qw792 : Cond.selects RX6 yX6_tries yX6_tries ∈ gW := gW_mem (i := 792) (by decide +kernel) (by decide +kernel)
theorem qw793 : Cond.code yX6_tries cX6_tries 6 (some .int) ∈ gW := gW_mem (i := 793) (by decide +kernel) (by decide +kernel)
theorem qw794 : Cond.methodLink RX6 245 yX1_takeBack ∈ gW := gW_mem (i := 794) (by decide +kernel) (by decide +kernel)
theorem qw795 : Cond.methodLink RL 143 yX6_seed ∈ gW := gW_mem (i := 795) (by decide +kernel) (by decide +kernel)
theorem qw796 : Cond.instanceMethod yX6_seed ∈ gW := gW_mem (i := 796) (by decide +kernel) (by decide +kernel)
theorem qw797 : Cond.selects RX6 yX6_seed yX6_seed ∈ gW := gW_mem (i := 797) (by decide +kernel) (by decide +kernel)
theorem qw798 : Cond.code yX6_seed cX6_seed 3 (some .int) ∈ gW := gW_mem (i := 798) (by decide +kernel) (by decide +kernel)
theorem qw799 : Cond.methodLink RL 147 yX6_hold ∈ gW := gW_mem (i := 799) (by decide +kernel) (by decide +kernel)
theorem qw800 : Cond.instanceMethod yX6_hold ∈ gW := gW_mem (i := 800) (by decide +kernel) (by decide +kernel)
theorem qw801 : Cond.selects RX6 yX6_hold yX6_hold ∈ gW := gW_mem (i := 801) (by decide +kernel) (by decide +kernel)
theorem qw802 : Cond.code yX6_hold cX6_hold 3 (some .int) ∈ gW := gW_mem (i := 802) (by decide +kernel) (by decide +kernel)
theorem qw803 : Cond.methodLink RX6 251 yX6_isSpot ∈ gW := gW_mem (i := 803) (by decide +kernel) (by decide +kernel)
theorem qw804 : Cond.static yX6_isSpot ∈ gW := gW_mem (i := 804) (by decide +kernel) (by decide +kernel)
theorem qw805 : Cond.code yX6_isSpot cX6_isSpot 1 (some .boolean) ∈ gW := gW_mem (i := 805) (by decide +kernel) (by decide +kernel)
theorem qw806 : Cond.methodLink RL 151 yX6_as ∈ gW := gW_mem (i := 806) (by decide +kernel) (by decide +kernel)
theorem qw807 : Cond.instanceMethod yX6_as ∈ gW := gW_mem (i := 807) (by decide +kernel) (by decide +kernel)
theorem qw808 : Cond.selects RX6 yX6_as yX6_as ∈ gW := gW_mem (i := 808) (by decide +kernel) (by decide +kernel)
theorem qw809 : Cond.code yX6_as cX6_as 4 (some .int) ∈ gW := gW_mem (i := 809) (by decide +kernel) (by decide +kernel)
theorem qw810 : Cond.methodLink RX6 257 yX6_isUnder ∈ gW := gW_mem (i := 810) (by decide +kernel) (by decide +kernel)
theorem qw811 : Cond.static yX6_isUnder ∈ gW := gW_mem (i := 811) (by decide +kernel) (by decide +kernel)
theorem qw812 : Cond.code yX6_isUnder cX6_isUnder 2 (some .boolean) ∈ gW := gW_mem (i := 812) (by decide +kernel) (by decide +kernel)
theorem qw813 : Cond.methodLink RL 155 yX6_sheet ∈ gW := gW_mem (i := 813) (by decide +kernel) (by decide +kernel)
theorem qw814 : Cond.instanceMethod yX6_sheet ∈ gW := gW_mem (i := 814) (by decide +kernel) (by decide +kernel)
theorem qw815 : Cond.selects RX6 yX6_sheet yX6_sheet ∈ gW := gW_mem (i := 815) (by decide +kernel) (by decide +kernel)
theorem qw816 : Cond.code yX6_sheet cX6_sheet 4 (some .int) ∈ gW := gW_mem (i := 816) (by decide +kernel) (by decide +kernel)
theorem qw817 : Cond.methodLink RX6 260 yX6_isSheet ∈ gW := gW_mem (i := 817) (by decide +kernel) (by decide +kernel)
theorem qw818 : Cond.static yX6_isSheet ∈ gW := gW_mem (i := 818) (by decide +kernel) (by decide +kernel)
theorem qw819 : Cond.code yX6_isSheet cX6_isSheet 1 (some .boolean) ∈ gW := gW_mem (i := 819) (by decide +kernel) (by decide +kernel)
theorem qw820 : Cond.methodLink RX6 263 yX2_renew ∈ gW := gW_mem (i := 820) (by decide +kernel) (by decide +kernel)
theorem qw821 : Cond.instanceMethod yX2_renew ∈ gW := gW_mem (i := 821) (by decide +kernel) (by decide +kernel)
theorem qw822 : Cond.selects RX2 yX2_renew yX2_renew ∈ gW := gW_mem (i := 822) (by decide +kernel) (by decide +kernel)
theorem qw823 : Cond.code yX2_renew cX2_renew 4 none ∈ gW := gW_mem (i := 823) (by decide +kernel) (by decide +kernel)
theorem qw824 : Cond.methodLink RL 159 yX6_write ∈ gW := gW_mem (i := 824) (by decide +kernel) (by decide +kernel)
theorem qw825 : Cond.instanceMethod yX6_write ∈ gW := gW_mem (i := 825) (by decide +kernel) (by decide +kernel)
theorem qw826 : Cond.selects RX6 yX6_write yX6_write ∈ gW := gW_mem (i := 826) (by decide +kernel) (by decide +kernel)
theorem qw827 : Cond.code yX6_write cX6_write 4 (some .int) ∈ gW := gW_mem (i := 827) (by decide +kernel) (by decide +kernel)
theorem qw828 : Cond.methodLink RX6 269 yX2_isMissing ∈ gW := gW_mem (i := 828) (by decide +kernel) (by decide +kernel)
theorem qw829 : Cond.instanceMethod yX2_isMissing ∈ gW := gW_mem (i := 829) (by decide +kernel) (by decide +kernel)
theorem qw830 : Cond.selects RX2 yX2_isMissing yX2_isMissing ∈ gW := gW_mem (i := 830) (by decide +kernel) (by decide +kernel)
theorem qw831 : Cond.code yX2_isMissing cX2_isMissing 1 (some .boolean) ∈ gW := gW_mem (i := 831) (by decide +kernel) (by decide +kernel)
theorem qw832 : Cond.methodLink RX6 272 yX2_put ∈ gW := gW_mem (i := 832) (by decide +kernel) (by decide +kernel)
theorem qw833 : Cond.instanceMethod yX2_put ∈ gW := gW_mem (i := 833) (by decide +kernel) (by decide +kernel)
theorem qw834 : Cond.selects RX2 yX2_put yX2_put ∈ gW := gW_mem (i := 834) (by decide +kernel) (by decide +kernel)
theorem qw835 : Cond.code yX2_put cX2_put 3 none ∈ gW := gW_mem (i := 835) (by decide +kernel) (by decide +kernel)
theorem qw836 : Cond.methodLink RL 163 yX6_copy ∈ gW := gW_mem (i := 836) (by decide +kernel) (by decide +kernel)
theorem qw837 : Cond.instanceMethod yX6_copy ∈ gW := gW_mem (i := 837) (by decide +kernel) (by decide +kernel)
theorem qw838 : Cond.selects RX6 yX6_copy yX6_copy ∈ gW := gW_mem (i := 838) (by decide +kernel) (by decide +kernel)
theorem qw839 : Cond.code yX6_copy cX6_copy 8 (some .int) ∈ gW := gW_mem (i := 839) (by decide +kernel) (by decide +kernel)
theorem qw840 : Cond.methodLink RX6 278 yX2_hasRange ∈ gW := gW_mem (i := 840) (by decide +kernel) (by decide +kernel)
theorem qw841 : Cond.instanceMethod yX2_hasRange ∈ gW := gW_mem (i := 841) (by decide +kernel) (by decide +kernel)
theorem qw842 : Cond.selects RX2 yX2_hasRange yX2_hasRange ∈ gW := gW_mem (i := 842) (by decide +kernel) (by decide +kernel)
theorem qw843 : Cond.code yX2_hasRange cX2_hasRange 3 (some .boolean) ∈ gW := gW_mem (i := 843) (by decide +kernel) (by decide +kernel)
theorem qw844 : Cond.methodLink RX6 284 arraycopyName ∈ gW := gW_mem (i := 844) (by decide +kernel) (by decide +kernel)
theorem qw845 : Cond.methodLink RL 168 yX6_load ∈ gW := gW_mem (i := 845) (by decide +kernel) (by decide +kernel)
theorem qw846 : Cond.instanceMethod yX6_load ∈ gW := gW_mem (i := 846) (by decide +kernel) (by decide +kernel)
theorem qw847 : Cond.selects RX6 yX6_load yX6_load ∈ gW := gW_mem (i := 847) (by decide +kernel) (by decide +kernel)
theorem qw848 : Cond.code yX6_load cX6_load 4 (some .int) ∈ gW := gW_mem (i := 848) (by decide +kernel) (by decide +kernel)
theorem qw849 : Cond.methodLink RX6 290 yX1_canBeWonBy ∈ gW := gW_mem (i := 849) (by decide +kernel) (by decide +kernel)
theorem qw850 : Cond.instanceMethod yX1_canBeWonBy ∈ gW := gW_mem (i := 850) (by decide +kernel) (by decide +kernel)
theorem qw851 : Cond.selects RX1 yX1_canBeWonBy yX1_canBeWonBy ∈ gW := gW_mem (i := 851) (by decide +kernel) (by decide +kernel)
theorem qw852 : Cond.code yX1_canBeWonBy cX1_canBeWonBy 2 (some .boolean) ∈ gW := gW_mem (i := 852) (by decide +kernel) (by decide +kernel)
theorem qw853 : Cond.methodLink RX1 146 yX1_allPlayed ∈ gW := gW_mem (i := 853) (by decide +kernel) (by decide +kernel)
theorem qw854 : Cond.methodLink RL 172 yX6_judge ∈ gW := gW_mem (i := 854) (by decide +kernel) (by decide +kernel)
theorem qw855 : Cond.instanceMethod yX6_judge ∈ gW := gW_mem (i := 855) (by decide +kernel) (by decide +kernel)
theorem qw856 : Cond.selects RX6 yX6_judge yX6_judge ∈ gW := gW_mem (i := 856) (by decide +kernel) (by decide +kernel)
theorem qw857 : Cond.code yX6_judge cX6_judge 5 (some .int) ∈ gW := gW_mem (i := 857) (by decide +kernel) (by decide +kernel)
theorem qw858 : Cond.methodLink RL 176 yX6_image ∈ gW := gW_mem (i := 858) (by decide +kernel) (by decide +kernel)
theorem qw859 : Cond.instanceMethod yX6_image ∈ gW := gW_mem (i := 859) (by decide +kernel) (by decide +kernel)
theorem qw860 : Cond.selects RX6 yX6_image yX6_image ∈ gW := gW_mem (i := 860) (by decide +kernel) (by decide +kernel)
theorem qw861 : Cond.code yX6_image cX6_image 1 (some .int) ∈ gW := gW_mem (i := 861) (by decide +kernel) (by decide +kernel)
theorem qw862 : Cond.methodLink RL 180 yX6_undo ∈ gW := gW_mem (i := 862) (by decide +kernel) (by decide +kernel)
theorem qw863 : Cond.instanceMethod yX6_undo ∈ gW := gW_mem (i := 863) (by decide +kernel) (by decide +kernel)
theorem qw864 : Cond.selects RX6 yX6_undo yX6_undo ∈ gW := gW_mem (i := 864) (by decide +kernel) (by decide +kernel)
theorem qw865 : Cond.code yX6_undo cX6_undo 1 (some .int) ∈ gW := gW_mem (i := 865) (by decide +kernel) (by decide +kernel)
theorem qw866 : Cond.methodLink RL 184 yX6_tear ∈ gW := gW_mem (i := 866) (by decide +kernel) (by decide +kernel)
theorem qw867 : Cond.instanceMethod yX6_tear ∈ gW := gW_mem (i := 867) (by decide +kernel) (by decide +kernel)
theorem qw868 : Cond.selects RX6 yX6_tear yX6_tear ∈ gW := gW_mem (i := 868) (by decide +kernel) (by decide +kernel)
theorem qw869 : Cond.code yX6_tear cX6_tear 2 (some .int) ∈ gW := gW_mem (i := 869) (by decide +kernel) (by decide +kernel)
theorem qw870 : Cond.methodLink RL 188 yX6_count ∈ gW := gW_mem (i := 870) (by decide +kernel) (by decide +kernel)
theorem qw871 : Cond.instanceMethod yX6_count ∈ gW := gW_mem (i := 871) (by decide +kernel) (by decide +kernel)
theorem qw872 : Cond.selects RX6 yX6_count yX6_count ∈ gW := gW_mem (i := 872) (by decide +kernel) (by decide +kernel)
theorem qw873 : Cond.code yX6_count cX6_count 2 (some .int) ∈ gW := gW_mem (i := 873) (by decide +kernel) (by decide +kernel)
theorem qw874 : Cond.methodLink RX6 293 yX1_spotsInUse ∈ gW := gW_mem (i := 874) (by decide +kernel) (by decide +kernel)
theorem qw875 : Cond.instanceMethod yX1_spotsInUse ∈ gW := gW_mem (i := 875) (by decide +kernel) (by decide +kernel)
theorem qw876 : Cond.selects RX1 yX1_spotsInUse yX1_spotsInUse ∈ gW := gW_mem (i := 876) (by decide +kernel) (by decide +kernel)
theorem qw877 : Cond.code yX1_spotsInUse cX1_spotsInUse 3 (some .int) ∈ gW := gW_mem (i := 877) (by decide +kernel) (by decide +kernel)
theorem qw878 : Cond.methodLink RL 192 yX6_status ∈ gW := gW_mem (i := 878) (by decide +kernel) (by decide +kernel)
theorem qw879 : Cond.instanceMethod yX6_status ∈ gW := gW_mem (i := 879) (by decide +kernel) (by decide +kernel)
theorem qw880 : Cond.selects RX6 yX6_status yX6_status ∈ gW := gW_mem (i := 880) (by decide +kernel) (by decide +kernel)
theorem qw881 : Cond.code yX6_status cX6_status 4 (some .int) ∈ gW := gW_mem (i := 881) (by decide +kernel) (by decide +kernel)
theorem qw882 : Cond.classLink RL 10 RX7 ∈ gW := gW_mem (i := 882) (by decide +kernel) (by decide +kernel)
theorem qw883 : Cond.instantiable RX7 30 ∈ gW := gW_mem (i := 883) (by decide +kernel) (by decide +kernel)
theorem qw884 : Cond.methodLink RL 12 yX7_init ∈ gW := gW_mem (i := 884) (by decide +kernel) (by decide +kernel)
theorem qw885 : Cond.instanceMethod yX7_init ∈ gW := gW_mem (i := 885) (by decide +kernel) (by decide +kernel)
theorem qw886 : Cond.code yX7_init cX7_init 2 none ∈ gW := gW_mem (i := 886) (by decide +kernel) (by decide +kernel)
theorem qw887 : Cond.methodLink RX7 1 objectInit ∈ gW := gW_mem (i := 887) (by decide +kernel) (by decide +kernel)
theorem qw888 : Cond.fieldLink RX7 7 "TwiceRunningModel" "s" "[I" ∈ gW := gW_mem (i := 888) (by decide +kernel) (by decide +kernel)
theorem qw889 : Cond.fieldLink RX7 13 "TwiceRunningModel" "kept" "[I" ∈ gW := gW_mem (i := 889) (by decide +kernel) (by decide +kernel)
theorem qw890 : Cond.fieldLink RX7 16 "TwiceRunningModel" "put" "[I" ∈ gW := gW_mem (i := 890) (by decide +kernel) (by decide +kernel)
theorem qw891 : Cond.fieldLink RX7 293 "TwiceRunningModel" "isKept" "Z" ∈ gW := gW_mem (i := 891) (by decide +kernel) (by decide +kernel)
theorem qw892 : Cond.fieldLink RX7 19 "TwiceRunningModel" "findings" "[I" ∈ gW := gW_mem (i := 892) (by decide +kernel) (by decide +kernel)
theorem qw893 : Cond.fieldLink RX7 22 "TwiceRunningModel" "toldGame" "I" ∈ gW := gW_mem (i := 893) (by decide +kernel) (by decide +kernel)
theorem qw894 : Cond.fieldLink RX7 79 "TwiceRunningModel" "toldSide" "I" ∈ gW := gW_mem (i := 894) (by decide +kernel) (by decide +kernel)
theorem qw895 : Cond.fieldLink RX7 82 "TwiceRunningModel" "toldEffort" "I" ∈ gW := gW_mem (i := 895) (by decide +kernel) (by decide +kernel)
theorem qw896 : Cond.fieldLink RX7 26 "TwiceRunningModel" "tape" "[I" ∈ gW := gW_mem (i := 896) (by decide +kernel) (by decide +kernel)
theorem qw897 : Cond.fieldLink RX7 138 "TwiceRunningModel" "taped" "I" ∈ gW := gW_mem (i := 897) (by decide +kernel) (by decide +kernel)
theorem qw898 : Cond.fieldLink RX7 141 "TwiceRunningModel" "at" "I" ∈ gW := gW_mem (i := 898) (by decide +kernel) (by decide +kernel)
theorem qw899 : Cond.fieldLink RX7 150 "TwiceRunningModel" "token" "I" ∈ gW := gW_mem (i := 899) (by decide +kernel) (by decide +kernel)
theorem qw900 : Cond.fieldLink RX7 147 "TwiceRunningModel" "tokenAt" "I" ∈ gW := gW_mem (i := 900) (by decide +kernel) (by decide +kernel)
theorem qw901 : Cond.fieldLink RX7 153 "TwiceRunningModel" "value" "I" ∈ gW := gW_mem (i := 901) (by decide +kernel) (by decide +kernel)
theorem qw902 : Cond.fieldLink RX7 176 "TwiceRunningModel" "taken" "I" ∈ gW := gW_mem (i := 902) (by decide +kernel) (by decide +kernel)
theorem qw903 : Cond.fieldLink RX7 214 "TwiceRunningModel" "items" "I" ∈ gW := gW_mem (i := 903) (by decide +kernel) (by decide +kernel)
theorem qw904 : Cond.fieldLink RX7 29 "TwiceRunningModel" "given" "[J" ∈ gW := gW_mem (i := 904) (by decide +kernel) (by decide +kernel)
theorem qw905 : Cond.fieldLink RX7 33 "TwiceRunningModel" "moves" "[J" ∈ gW := gW_mem (i := 905) (by decide +kernel) (by decide +kernel)
theorem qw906 : Cond.fieldLink RX7 36 "TwiceRunningModel" "firsts" "[J" ∈ gW := gW_mem (i := 906) (by decide +kernel) (by decide +kernel)
theorem qw907 : Cond.fieldLink RX7 39 "TwiceRunningModel" "means" "[J" ∈ gW := gW_mem (i := 907) (by decide +kernel) (by decide +kernel)
theorem qw908 : Cond.fieldLink RX7 42 "TwiceRunningModel" "mosts" "[I" ∈ gW := gW_mem (i := 908) (by decide +kernel) (by decide +kernel)
theorem qw909 : Cond.fieldLink RX7 251 "TwiceRunningModel" "asked" "I" ∈ gW := gW_mem (i := 909) (by decide +kernel) (by decide +kernel)
theorem qw910 : Cond.fieldLink RX7 45 "TwiceRunningModel" "leasts" "[J" ∈ gW := gW_mem (i := 910) (by decide +kernel) (by decide +kernel)
theorem qw911 : Cond.fieldLink RX7 248 "TwiceRunningModel" "wayCount" "I" ∈ gW := gW_mem (i := 911) (by decide +kernel) (by decide +kernel)
theorem qw912 : Cond.fieldLink RX7 48 "TwiceRunningModel" "row" "[I" ∈ gW := gW_mem (i := 912) (by decide +kernel) (by decide +kernel)
theorem qw913 : Cond.fieldLink RX7 51 "TwiceRunningModel" "meansBy" "[J" ∈ gW := gW_mem (i := 913) (by decide +kernel) (by decide +kernel)
theorem qw914 : Cond.fieldLink RX7 54 "TwiceRunningModel" "bits" "[I" ∈ gW := gW_mem (i := 914) (by decide +kernel) (by decide +kernel)
theorem qw915 : Cond.fieldLink RX7 57 "TwiceRunningModel" "sizes" "[I" ∈ gW := gW_mem (i := 915) (by decide +kernel) (by decide +kernel)
theorem qw916 : Cond.fieldLink RX7 60 "TwiceRunningModel" "number" "[I" ∈ gW := gW_mem (i := 916) (by decide +kernel) (by decide +kernel)
theorem qw917 : Cond.fieldLink RX7 63 "TwiceRunningModel" "carried" "[I" ∈ gW := gW_mem (i := 917) (by decide +kernel) (by decide +kernel)
theorem qw979 : Cond.methodLink RL 17 yX7_side ∈ gW := gW_mem (i := 979) (by decide +kernel) (by decide +kernel)
theorem qw980 : Cond.instanceMethod yX7_side ∈ gW := gW_mem (i := 980) (by decide +kernel) (by decide +kernel)
theorem qw981 : Cond.selects RX7 yX7_side yX7_side ∈ gW := gW_mem (i := 981) (by decide +kernel) (by decide +kernel)
theorem qw982 : Cond.code yX7_side cX7_side 3 (some .int) ∈ gW := gW_mem (i := 982) (by decide +kernel) (by decide +kernel)
theorem qw983 : Cond.methodLink RX7 67 yX7_in ∈ gW := gW_mem (i := 983) (by decide +kernel) (by decide +kernel)
theorem qw984 : Cond.static yX7_in ∈ gW := gW_mem (i := 984) (by decide +kernel) (by decide +kernel)
theorem qw985 : Cond.code yX7_in cX7_in 3 (some .boolean) ∈ gW := gW_mem (i := 985) (by decide +kernel) (by decide +kernel)
theorem qw986 : Cond.methodLink RX7 115 yX7_finding ∈ gW := gW_mem (i := 986) (by decide +kernel) (by decide +kernel)
theorem qw988 : Cond.instanceMethod yX7_finding ∈ gW := gW_mem (i := 988) (by decide +kernel) (by decide +kernel)
theorem qw989 : Cond.code yX7_finding cX7_finding 2 (some .int) ∈ gW := gW_mem (i := 989) (by decide +kernel) (by decide +kernel)
theorem qw990 : Cond.constant RX7 66 (-1000001) ∈ gW := gW_mem (i := 990) (by decide +kernel) (by decide +kernel)
theorem qw991 : Cond.methodLink RX7 118 yX7_addSide ∈ gW := gW_mem (i := 991) (by decide +kernel) (by decide +kernel)
theorem qw993 : Cond.instanceMethod yX7_addSide ∈ gW := gW_mem (i := 993) (by decide +kernel) (by decide +kernel)
theorem qw994 : Cond.code yX7_addSide cX7_addSide 5 none ∈ gW := gW_mem (i := 994) (by decide +kernel) (by decide +kernel)
theorem qw995 : Cond.methodLink RL 21 yX7_sideOf ∈ gW := gW_mem (i := 995) (by decide +kernel) (by decide +kernel)
theorem qw996 : Cond.instanceMethod yX7_sideOf ∈ gW := gW_mem (i := 996) (by decide +kernel) (by decide +kernel)
theorem qw997 : Cond.selects RX7 yX7_sideOf yX7_sideOf ∈ gW := gW_mem (i := 997) (by decide +kernel) (by decide +kernel)
theorem qw998 : Cond.code yX7_sideOf cX7_sideOf 3 (some .int) ∈ gW := gW_mem (i := 998) (by decide +kernel) (by decide +kernel)
theorem qw999 : Cond.methodLink RX7 121 yX7_isSide ∈ gW := gW_mem (i := 999) (by decide +kernel) (by decide +kernel)
theorem qw1001 : Cond.instanceMethod yX7_isSide ∈ gW := gW_mem (i := 1001) (by decide +kernel) (by decide +kernel)
theorem qw1002 : Cond.code yX7_isSide cX7_isSide 2 (some .boolean) ∈ gW := gW_mem (i := 1002) (by decide +kernel) (by decide +kernel)
theorem qw1003 : Cond.methodLink RX7 101 yX7_points ∈ gW := gW_mem (i := 1003) (by decide +kernel) (by decide +kernel)
theorem qw1005 : Cond.instanceMethod yX7_points ∈ gW := gW_mem (i := 1005) (by decide +kernel) (by decide +kernel)
theorem qw1006 : Cond.code yX7_points cX7_points 4 (some .int) ∈ gW := gW_mem (i := 1006) (by decide +kernel) (by decide +kernel)
theorem qw1007 : Cond.methodLink RX7 71 yX7_of ∈ gW := gW_mem (i := 1007) (by decide +kernel) (by decide +kernel)
theorem qw1009 : Cond.instanceMethod yX7_of ∈ gW := gW_mem (i := 1009) (by decide +kernel) (by decide +kernel)
theorem qw1010 : Cond.code yX7_of cX7_of 3 (some .int) ∈ gW := gW_mem (i := 1010) (by decide +kernel) (by decide +kernel)
theorem qw1011 : Cond.methodLink RX7 85 yX7_isBarred ∈ gW := gW_mem (i := 1011) (by decide +kernel) (by decide +kernel)
theorem qw1013 : Cond.instanceMethod yX7_isBarred ∈ gW := gW_mem (i := 1013) (by decide +kernel) (by decide +kernel)
theorem qw1014 : Cond.code yX7_isBarred cX7_isBarred 4 (some .boolean) ∈ gW := gW_mem (i := 1014) (by decide +kernel) (by decide +kernel)
theorem qw1015 : Cond.methodLink RX7 75 yX7_plays ∈ gW := gW_mem (i := 1015) (by decide +kernel) (by decide +kernel)
theorem qw1017 : Cond.instanceMethod yX7_plays ∈ gW := gW_mem (i := 1017) (by decide +kernel) (by decide +kernel)
theorem qw1018 : Cond.code yX7_plays cX7_plays 3 (some .boolean) ∈ gW := gW_mem (i := 1018) (by decide +kernel) (by decide +kernel)
theorem qw1019 : Cond.methodLink RX7 95 yX7_isTired ∈ gW := gW_mem (i := 1019) (by decide +kernel) (by decide +kernel)
theorem qw1021 : Cond.instanceMethod yX7_isTired ∈ gW := gW_mem (i := 1021) (by decide +kernel) (by decide +kernel)
theorem qw1022 : Cond.code yX7_isTired cX7_isTired 3 (some .boolean) ∈ gW := gW_mem (i := 1022) (by decide +kernel) (by decide +kernel)
theorem qw1023 : Cond.methodLink RX7 124 yX7_games ∈ gW := gW_mem (i := 1023) (by decide +kernel) (by decide +kernel)
theorem qw1025 : Cond.instanceMethod yX7_games ∈ gW := gW_mem (i := 1025) (by decide +kernel) (by decide +kernel)
theorem qw1026 : Cond.code yX7_games cX7_games 5 (some .int) ∈ gW := gW_mem (i := 1026) (by decide +kernel) (by decide +kernel)
theorem qw1027 : Cond.methodLink RX7 89 yX7_its ∈ gW := gW_mem (i := 1027) (by decide +kernel) (by decide +kernel)
theorem qw1029 : Cond.instanceMethod yX7_its ∈ gW := gW_mem (i := 1029) (by decide +kernel) (by decide +kernel)
theorem qw1030 : Cond.code yX7_its cX7_its 3 (some .int) ∈ gW := gW_mem (i := 1030) (by decide +kernel) (by decide +kernel)
theorem qw1031 : Cond.methodLink RL 26 yX7_change ∈ gW := gW_mem (i := 1031) (by decide +kernel) (by decide +kernel)
theorem qw1032 : Cond.instanceMethod yX7_change ∈ gW := gW_mem (i := 1032) (by decide +kernel) (by decide +kernel)
theorem qw1033 : Cond.selects RX7 yX7_change yX7_change ∈ gW := gW_mem (i := 1033) (by decide +kernel) (by decide +kernel)
theorem qw1034 : Cond.code yX7_change cX7_change 5 (some .int) ∈ gW := gW_mem (i := 1034) (by decide +kernel) (by decide +kernel)
theorem qw1035 : Cond.methodLink RL 30 yX7_game ∈ gW := gW_mem (i := 1035) (by decide +kernel) (by decide +kernel)
theorem qw1036 : Cond.instanceMethod yX7_game ∈ gW := gW_mem (i := 1036) (by decide +kernel) (by decide +kernel)
theorem qw1037 : Cond.selects RX7 yX7_game yX7_game ∈ gW := gW_mem (i := 1037) (by decide +kernel) (by decide +kernel)
theorem qw1038 : Cond.code yX7_game cX7_game 4 (some .int) ∈ gW := gW_mem (i := 1038) (by decide +kernel) (by decide +kernel)
theorem qw1039 : Cond.methodLink RX7 128 yX7_addGame ∈ gW := gW_mem (i := 1039) (by decide +kernel) (by decide +kernel)
theorem qw1041 : Cond.instanceMethod yX7_addGame ∈ gW := gW_mem (i := 1041) (by decide +kernel) (by decide +kernel)
theorem qw1042 : Cond.code yX7_addGame cX7_addGame 5 none ∈ gW := gW_mem (i := 1042) (by decide +kernel) (by decide +kernel)
theorem qw1043 : Cond.methodLink RL 34 yX7_gameOf ∈ gW := gW_mem (i := 1043) (by decide +kernel) (by decide +kernel)
theorem qw1044 : Cond.instanceMethod yX7_gameOf ∈ gW := gW_mem (i := 1044) (by decide +kernel) (by decide +kernel)
theorem qw1045 : Cond.selects RX7 yX7_gameOf yX7_gameOf ∈ gW := gW_mem (i := 1045) (by decide +kernel) (by decide +kernel)
theorem qw1046 : Cond.code yX7_gameOf cX7_gameOf 3 (some .int) ∈ gW := gW_mem (i := 1046) (by decide +kernel) (by decide +kernel)
theorem qw1047 : Cond.methodLink RX7 131 yX7_isGame ∈ gW := gW_mem (i := 1047) (by decide +kernel) (by decide +kernel)
theorem qw1049 : Cond.instanceMethod yX7_isGame ∈ gW := gW_mem (i := 1049) (by decide +kernel) (by decide +kernel)
theorem qw1050 : Cond.code yX7_isGame cX7_isGame 2 (some .boolean) ∈ gW := gW_mem (i := 1050) (by decide +kernel) (by decide +kernel)
theorem qw1051 : Cond.methodLink RL 38 yX7_swap ∈ gW := gW_mem (i := 1051) (by decide +kernel) (by decide +kernel)
theorem qw1052 : Cond.instanceMethod yX7_swap ∈ gW := gW_mem (i := 1052) (by decide +kernel) (by decide +kernel)
theorem qw1053 : Cond.selects RX7 yX7_swap yX7_swap ∈ gW := gW_mem (i := 1053) (by decide +kernel) (by decide +kernel)
theorem qw1054 : Cond.code yX7_swap cX7_swap 3 (some .int) ∈ gW := gW_mem (i := 1054) (by decide +kernel) (by decide +kernel)
theorem qw1055 : Cond.methodLink RX7 134 yX7_swaps ∈ gW := gW_mem (i := 1055) (by decide +kernel) (by decide +kernel)
theorem qw1057 : Cond.instanceMethod yX7_swaps ∈ gW := gW_mem (i := 1057) (by decide +kernel) (by decide +kernel)
theorem qw1058 : Cond.code yX7_swaps cX7_swaps 5 none ∈ gW := gW_mem (i := 1058) (by decide +kernel) (by decide +kernel)
theorem qw1059 : Cond.methodLink RL 43 yX7_law ∈ gW := gW_mem (i := 1059) (by decide +kernel) (by decide +kernel)
theorem qw1060 : Cond.instanceMethod yX7_law ∈ gW := gW_mem (i := 1060) (by decide +kernel) (by decide +kernel)
theorem qw1061 : Cond.selects RX7 yX7_law yX7_law ∈ gW := gW_mem (i := 1061) (by decide +kernel) (by decide +kernel)
theorem qw1062 : Cond.code yX7_law cX7_law 3 (some .int) ∈ gW := gW_mem (i := 1062) (by decide +kernel) (by decide +kernel)
theorem qw1063 : Cond.methodLink RL 47 yX7_feed ∈ gW := gW_mem (i := 1063) (by decide +kernel) (by decide +kernel)
theorem qw1064 : Cond.instanceMethod yX7_feed ∈ gW := gW_mem (i := 1064) (by decide +kernel) (by decide +kernel)
theorem qw1065 : Cond.selects RX7 yX7_feed yX7_feed ∈ gW := gW_mem (i := 1065) (by decide +kernel) (by decide +kernel)
theorem qw1066 : Cond.code yX7_feed cX7_feed 4 (some .int) ∈ gW := gW_mem (i := 1066) (by decide +kernel) (by decide +kernel)
theorem qw1067 : Cond.methodLink RL 52 yX7_wipe ∈ gW := gW_mem (i := 1067) (by decide +kernel) (by decide +kernel)
theorem qw1068 : Cond.instanceMethod yX7_wipe ∈ gW := gW_mem (i := 1068) (by decide +kernel) (by decide +kernel)
theorem qw1069 : Cond.selects RX7 yX7_wipe yX7_wipe ∈ gW := gW_mem (i := 1069) (by decide +kernel) (by decide +kernel)
theorem qw1070 : Cond.code yX7_wipe cX7_wipe 2 (some .int) ∈ gW := gW_mem (i := 1070) (by decide +kernel) (by decide +kernel)
theorem qw1071 : Cond.methodLink RL 56 yX7_text ∈ gW := gW_mem (i := 1071) (by decide +kernel) (by decide +kernel)
theorem qw1072 : Cond.instanceMethod yX7_text ∈ gW := gW_mem (i := 1072) (by decide +kernel) (by decide +kernel)
theorem qw1073 : Cond.selects RX7 yX7_text yX7_text ∈ gW := gW_mem (i := 1073) (by decide +kernel) (by decide +kernel)
theorem qw1074 : Cond.code yX7_text cX7_text 2 (some .int) ∈ gW := gW_mem (i := 1074) (by decide +kernel) (by decide +kernel)
theorem qw1075 : Cond.methodLink RX7 220 yX7_carry ∈ gW := gW_mem (i := 1075) (by decide +kernel) (by decide +kernel)
theorem qw1076 : Cond.static yX7_carry ∈ gW := gW_mem (i := 1076) (by decide +kernel) (by decide +kernel)
theorem qw1077 : Cond.code yX7_carry cX7_carry 3 none ∈ gW := gW_mem (i := 1077) (by decide +kernel) (by decide +kernel)
theorem qw1078 : Cond.methodLink RX7 224 yX7_takesAll ∈ gW := gW_mem (i := 1078) (by decide +kernel) (by decide +kernel)
theorem qw1080 : Cond.instanceMethod yX7_takesAll ∈ gW := gW_mem (i := 1080) (by decide +kernel) (by decide +kernel)
theorem qw1081 : Cond.code yX7_takesAll cX7_takesAll 2 (some .boolean) ∈ gW := gW_mem (i := 1081) (by decide +kernel) (by decide +kernel)
theorem qw1082 : Cond.methodLink RX7 170 yX7_nextToken ∈ gW := gW_mem (i := 1082) (by decide +kernel) (by decide +kernel)
theorem qw1084 : Cond.instanceMethod yX7_nextToken ∈ gW := gW_mem (i := 1084) (by decide +kernel) (by decide +kernel)
theorem qw1085 : Cond.code yX7_nextToken cX7_nextToken 2 none ∈ gW := gW_mem (i := 1085) (by decide +kernel) (by decide +kernel)
theorem qw1086 : Cond.methodLink RX7 144 yX7_byteAt ∈ gW := gW_mem (i := 1086) (by decide +kernel) (by decide +kernel)
theorem qw1088 : Cond.instanceMethod yX7_byteAt ∈ gW := gW_mem (i := 1088) (by decide +kernel) (by decide +kernel)
theorem qw1089 : Cond.code yX7_byteAt cX7_byteAt 2 (some .int) ∈ gW := gW_mem (i := 1089) (by decide +kernel) (by decide +kernel)
theorem qw1090 : Cond.methodLink RX7 217 yX7_takesItem ∈ gW := gW_mem (i := 1090) (by decide +kernel) (by decide +kernel)
theorem qw1092 : Cond.instanceMethod yX7_takesItem ∈ gW := gW_mem (i := 1092) (by decide +kernel) (by decide +kernel)
theorem qw1093 : Cond.code yX7_takesItem cX7_takesItem 2 (some .boolean) ∈ gW := gW_mem (i := 1093) (by decide +kernel) (by decide +kernel)
theorem qw1095 : Cond.methodLink RX7 184 yX7_takes ∈ gW := gW_mem (i := 1095) (by decide +kernel) (by decide +kernel)
theorem qw1097 : Cond.instanceMethod yX7_takes ∈ gW := gW_mem (i := 1097) (by decide +kernel) (by decide +kernel)
theorem qw1098 : Cond.code yX7_takes cX7_takes 2 (some .boolean) ∈ gW := gW_mem (i := 1098) (by decide +kernel) (by decide +kernel)
theorem qw1099 : Cond.methodLink RX7 166 yX7_isWord ∈ gW := gW_mem (i := 1099) (by decide +kernel) (by decide +kernel)
theorem qw1101 : Cond.instanceMethod yX7_isWord ∈ gW := gW_mem (i := 1101) (by decide +kernel) (by decide +kernel)
theorem qw1102 : Cond.code yX7_isWord cX7_isWord 4 (some .boolean) ∈ gW := gW_mem (i := 1102) (by decide +kernel) (by decide +kernel)
theorem qw1103 : Cond.methodLink RX7 156 yJ0_length_8abf5 ∈ gW := gW_mem (i := 1103) (by decide +kernel) (by decide +kernel)
theorem qw1104 : Cond.methodLink RX7 162 yJ0_charAt_5068e ∈ gW := gW_mem (i := 1104) (by decide +kernel) (by decide +kernel)
theorem qw1105 : Cond.methodLink RX7 179 yX7_takesNumber ∈ gW := gW_mem (i := 1105) (by decide +kernel) (by decide +kernel)
theorem qw1107 : Cond.instanceMethod yX7_takesNumber ∈ gW := gW_mem (i := 1107) (by decide +kernel) (by decide +kernel)
theorem qw1108 : Cond.code yX7_takesNumber cX7_takesNumber 3 (some .boolean) ∈ gW := gW_mem (i := 1108) (by decide +kernel) (by decide +kernel)
theorem qw1109 : Cond.methodLink RX7 173 yX7_isNumber ∈ gW := gW_mem (i := 1109) (by decide +kernel) (by decide +kernel)
theorem qw1111 : Cond.instanceMethod yX7_isNumber ∈ gW := gW_mem (i := 1111) (by decide +kernel) (by decide +kernel)
theorem qw1112 : Cond.code yX7_isNumber cX7_isNumber 3 (some .boolean) ∈ gW := gW_mem (i := 1112) (by decide +kernel) (by decide +kernel)
theorem qw1114 : Cond.methodLink RX7 193 yX7_takesGame ∈ gW := gW_mem (i := 1114) (by decide +kernel) (by decide +kernel)
theorem qw1116 : Cond.instanceMethod yX7_takesGame ∈ gW := gW_mem (i := 1116) (by decide +kernel) (by decide +kernel)
theorem qw1117 : Cond.code yX7_takesGame cX7_takesGame 4 (some .boolean) ∈ gW := gW_mem (i := 1117) (by decide +kernel) (by decide +kernel)
theorem qw1126 : Cond.methodLink RX7 211 yX7_takesSide ∈ gW := gW_mem (i := 1126) (by decide +kernel) (by decide +kernel)
theorem qw1128 : Cond.instanceMethod yX7_takesSide ∈ gW := gW_mem (i := 1128) (by decide +kernel) (by decide +kernel)
theorem qw1129 : Cond.code yX7_takesSide cX7_takesSide 4 (some .boolean) ∈ gW := gW_mem (i := 1129) (by decide +kernel) (by decide +kernel)
theorem qw1131 : Cond.methodLink RL 60 yX7_next ∈ gW := gW_mem (i := 1131) (by decide +kernel) (by decide +kernel)
theorem qw1132 : Cond.instanceMethod yX7_next ∈ gW := gW_mem (i := 1132) (by decide +kernel) (by decide +kernel)
theorem qw1133 : Cond.selects RX7 yX7_next yX7_next ∈ gW := gW_mem (i := 1133) (by decide +kernel) (by decide +kernel)
theorem qw1134 : Cond.code yX7_next cX7_next 5 (some .int) ∈ gW := gW_mem (i := 1134) (by decide +kernel) (by decide +kernel)
theorem qw1135 : Cond.methodLink RX7 227 yX7_isOver ∈ gW := gW_mem (i := 1135) (by decide +kernel) (by decide +kernel)
theorem qw1137 : Cond.instanceMethod yX7_isOver ∈ gW := gW_mem (i := 1137) (by decide +kernel) (by decide +kernel)
theorem qw1138 : Cond.code yX7_isOver cX7_isOver 1 (some .boolean) ∈ gW := gW_mem (i := 1138) (by decide +kernel) (by decide +kernel)
theorem qw1139 : Cond.methodLink RX7 108 yX7_effort ∈ gW := gW_mem (i := 1139) (by decide +kernel) (by decide +kernel)
theorem qw1141 : Cond.instanceMethod yX7_effort ∈ gW := gW_mem (i := 1141) (by decide +kernel) (by decide +kernel)
theorem qw1142 : Cond.code yX7_effort cX7_effort 6 (some .int) ∈ gW := gW_mem (i := 1142) (by decide +kernel) (by decide +kernel)
theorem qw1143 : Cond.methodLink RX7 92 yX7_hasGreater ∈ gW := gW_mem (i := 1143) (by decide +kernel) (by decide +kernel)
theorem qw1145 : Cond.instanceMethod yX7_hasGreater ∈ gW := gW_mem (i := 1145) (by decide +kernel) (by decide +kernel)
theorem qw1146 : Cond.code yX7_hasGreater cX7_hasGreater 4 (some .boolean) ∈ gW := gW_mem (i := 1146) (by decide +kernel) (by decide +kernel)
theorem qw1147 : Cond.methodLink RX7 230 yX7_chance ∈ gW := gW_mem (i := 1147) (by decide +kernel) (by decide +kernel)
theorem qw1149 : Cond.instanceMethod yX7_chance ∈ gW := gW_mem (i := 1149) (by decide +kernel) (by decide +kernel)
theorem qw1150 : Cond.code yX7_chance cX7_chance 6 (some .int) ∈ gW := gW_mem (i := 1150) (by decide +kernel) (by decide +kernel)
theorem qw1151 : Cond.methodLink RX7 98 yX7_force ∈ gW := gW_mem (i := 1151) (by decide +kernel) (by decide +kernel)
theorem qw1153 : Cond.instanceMethod yX7_force ∈ gW := gW_mem (i := 1153) (by decide +kernel) (by decide +kernel)
theorem qw1154 : Cond.code yX7_force cX7_force 4 (some .int) ∈ gW := gW_mem (i := 1154) (by decide +kernel) (by decide +kernel)
theorem qw1155 : Cond.methodLink RL 64 yX7_win ∈ gW := gW_mem (i := 1155) (by decide +kernel) (by decide +kernel)
theorem qw1156 : Cond.instanceMethod yX7_win ∈ gW := gW_mem (i := 1156) (by decide +kernel) (by decide +kernel)
theorem qw1157 : Cond.selects RX7 yX7_win yX7_win ∈ gW := gW_mem (i := 1157) (by decide +kernel) (by decide +kernel)
theorem qw1158 : Cond.code yX7_win cX7_win 2 (some .int) ∈ gW := gW_mem (i := 1158) (by decide +kernel) (by decide +kernel)
theorem qw1159 : Cond.methodLink RX7 234 yX7_winsNow ∈ gW := gW_mem (i := 1159) (by decide +kernel) (by decide +kernel)
theorem qw1161 : Cond.instanceMethod yX7_winsNow ∈ gW := gW_mem (i := 1161) (by decide +kernel) (by decide +kernel)
theorem qw1162 : Cond.code yX7_winsNow cX7_winsNow 3 none ∈ gW := gW_mem (i := 1162) (by decide +kernel) (by decide +kernel)
theorem qw1163 : Cond.methodLink RX7 111 yX7_wins ∈ gW := gW_mem (i := 1163) (by decide +kernel) (by decide +kernel)
theorem qw1165 : Cond.instanceMethod yX7_wins ∈ gW := gW_mem (i := 1165) (by decide +kernel) (by decide +kernel)
theorem qw1166 : Cond.code yX7_wins cX7_wins 6 none ∈ gW := gW_mem (i := 1166) (by decide +kernel) (by decide +kernel)
theorem qw1167 : Cond.methodLink RX7 105 yX7_givenTo ∈ gW := gW_mem (i := 1167) (by decide +kernel) (by decide +kernel)
theorem qw1169 : Cond.instanceMethod yX7_givenTo ∈ gW := gW_mem (i := 1169) (by decide +kernel) (by decide +kernel)
theorem qw1170 : Cond.code yX7_givenTo cX7_givenTo 5 (some .int) ∈ gW := gW_mem (i := 1170) (by decide +kernel) (by decide +kernel)
theorem qw1171 : Cond.methodLink RL 68 yX7_play ∈ gW := gW_mem (i := 1171) (by decide +kernel) (by decide +kernel)
theorem qw1172 : Cond.instanceMethod yX7_play ∈ gW := gW_mem (i := 1172) (by decide +kernel) (by decide +kernel)
theorem qw1173 : Cond.selects RX7 yX7_play yX7_play ∈ gW := gW_mem (i := 1173) (by decide +kernel) (by decide +kernel)
theorem qw1174 : Cond.code yX7_play cX7_play 1 (some .int) ∈ gW := gW_mem (i := 1174) (by decide +kernel) (by decide +kernel)
theorem qw1175 : Cond.methodLink RX7 242 yX7_drawsNext ∈ gW := gW_mem (i := 1175) (by decide +kernel) (by decide +kernel)
theorem qw1177 : Cond.instanceMethod yX7_drawsNext ∈ gW := gW_mem (i := 1177) (by decide +kernel) (by decide +kernel)
theorem qw1178 : Cond.code yX7_drawsNext cX7_drawsNext 4 none ∈ gW := gW_mem (i := 1178) (by decide +kernel) (by decide +kernel)
theorem qw1179 : Cond.methodLink RX7 239 yX7_draw ∈ gW := gW_mem (i := 1179) (by decide +kernel) (by decide +kernel)
theorem qw1181 : Cond.instanceMethod yX7_draw ∈ gW := gW_mem (i := 1181) (by decide +kernel) (by decide +kernel)
theorem qw1182 : Cond.code yX7_draw cX7_draw 1 (some .int) ∈ gW := gW_mem (i := 1182) (by decide +kernel) (by decide +kernel)
theorem qw1183 : Cond.constant RX7 238 (1103515245) ∈ gW := gW_mem (i := 1183) (by decide +kernel) (by decide +kernel)
theorem qw1184 : Cond.methodLink RL 72 yX7_anew ∈ gW := gW_mem (i := 1184) (by decide +kernel) (by decide +kernel)
theorem qw1185 : Cond.instanceMethod yX7_anew ∈ gW := gW_mem (i := 1185) (by decide +kernel) (by decide +kernel)
theorem qw1186 : Cond.selects RX7 yX7_anew yX7_anew ∈ gW := gW_mem (i := 1186) (by decide +kernel) (by decide +kernel)
theorem qw1187 : Cond.code yX7_anew cX7_anew 2 (some .int) ∈ gW := gW_mem (i := 1187) (by decide +kernel) (by decide +kernel)
theorem qw1188 : Cond.methodLink RL 76 yX7_leads ∈ gW := gW_mem (i := 1188) (by decide +kernel) (by decide +kernel)
theorem qw1189 : Cond.instanceMethod yX7_leads ∈ gW := gW_mem (i := 1189) (by decide +kernel) (by decide +kernel)
theorem qw1190 : Cond.selects RX7 yX7_leads yX7_leads ∈ gW := gW_mem (i := 1190) (by decide +kernel) (by decide +kernel)
theorem qw1191 : Cond.code yX7_leads cX7_leads 1 (some .int) ∈ gW := gW_mem (i := 1191) (by decide +kernel) (by decide +kernel)
theorem qw1192 : Cond.methodLink RX7 245 yX7_leader ∈ gW := gW_mem (i := 1192) (by decide +kernel) (by decide +kernel)
theorem qw1194 : Cond.instanceMethod yX7_leader ∈ gW := gW_mem (i := 1194) (by decide +kernel) (by decide +kernel)
theorem qw1195 : Cond.code yX7_leader cX7_leader 3 (some .int) ∈ gW := gW_mem (i := 1195) (by decide +kernel) (by decide +kernel)
theorem qw1196 : Cond.methodLink RL 80 yX7_place ∈ gW := gW_mem (i := 1196) (by decide +kernel) (by decide +kernel)
theorem qw1197 : Cond.instanceMethod yX7_place ∈ gW := gW_mem (i := 1197) (by decide +kernel) (by decide +kernel)
theorem qw1198 : Cond.selects RX7 yX7_place yX7_place ∈ gW := gW_mem (i := 1198) (by decide +kernel) (by decide +kernel)
theorem qw1199 : Cond.code yX7_place cX7_place 4 (some .int) ∈ gW := gW_mem (i := 1199) (by decide +kernel) (by decide +kernel)
theorem qw1200 : Cond.methodLink RL 85 yX7_gets ∈ gW := gW_mem (i := 1200) (by decide +kernel) (by decide +kernel)
theorem qw1201 : Cond.instanceMethod yX7_gets ∈ gW := gW_mem (i := 1201) (by decide +kernel) (by decide +kernel)
theorem qw1202 : Cond.selects RX7 yX7_gets yX7_gets ∈ gW := gW_mem (i := 1202) (by decide +kernel) (by decide +kernel)
theorem qw1203 : Cond.code yX7_gets cX7_gets 6 (some .long) ∈ gW := gW_mem (i := 1203) (by decide +kernel) (by decide +kernel)
theorem qw1204 : Cond.methodLink RX7 263 yX7_isPart ∈ gW := gW_mem (i := 1204) (by decide +kernel) (by decide +kernel)
theorem qw1205 : Cond.static yX7_isPart ∈ gW := gW_mem (i := 1205) (by decide +kernel) (by decide +kernel)
theorem qw1206 : Cond.code yX7_isPart cX7_isPart 1 (some .boolean) ∈ gW := gW_mem (i := 1206) (by decide +kernel) (by decide +kernel)
theorem qw1207 : Cond.methodLink RX7 266 yX7_findWays ∈ gW := gW_mem (i := 1207) (by decide +kernel) (by decide +kernel)
theorem qw1209 : Cond.instanceMethod yX7_findWays ∈ gW := gW_mem (i := 1209) (by decide +kernel) (by decide +kernel)
theorem qw1210 : Cond.code yX7_findWays cX7_findWays 4 (some .long) ∈ gW := gW_mem (i := 1210) (by decide +kernel) (by decide +kernel)
theorem qw1211 : Cond.methodLink RX7 258 yX7_goesOn ∈ gW := gW_mem (i := 1211) (by decide +kernel) (by decide +kernel)
theorem qw1213 : Cond.instanceMethod yX7_goesOn ∈ gW := gW_mem (i := 1213) (by decide +kernel) (by decide +kernel)
theorem qw1214 : Cond.code yX7_goesOn cX7_goesOn 7 none ∈ gW := gW_mem (i := 1214) (by decide +kernel) (by decide +kernel)
theorem qw1215 : Cond.methodLink RX7 254 yX7_ends ∈ gW := gW_mem (i := 1215) (by decide +kernel) (by decide +kernel)
theorem qw1217 : Cond.instanceMethod yX7_ends ∈ gW := gW_mem (i := 1217) (by decide +kernel) (by decide +kernel)
theorem qw1218 : Cond.code yX7_ends cX7_ends 5 none ∈ gW := gW_mem (i := 1218) (by decide +kernel) (by decide +kernel)
theorem qw1219 : Cond.constantLong RX7 261 (10) ∈ gW := gW_mem (i := 1219) (by decide +kernel) (by decide +kernel)
theorem qw1220 : Cond.methodLink RX7 270 yX7_told ∈ gW := gW_mem (i := 1220) (by decide +kernel) (by decide +kernel)
theorem qw1221 : Cond.static yX7_told ∈ gW := gW_mem (i := 1221) (by decide +kernel) (by decide +kernel)
theorem qw1222 : Cond.code yX7_told cX7_told 11 (some .long) ∈ gW := gW_mem (i := 1222) (by decide +kernel) (by decide +kernel)
theorem qw1223 : Cond.methodLink RL 90 yX7_first ∈ gW := gW_mem (i := 1223) (by decide +kernel) (by decide +kernel)
theorem qw1224 : Cond.instanceMethod yX7_first ∈ gW := gW_mem (i := 1224) (by decide +kernel) (by decide +kernel)
theorem qw1225 : Cond.selects RX7 yX7_first yX7_first ∈ gW := gW_mem (i := 1225) (by decide +kernel) (by decide +kernel)
theorem qw1226 : Cond.code yX7_first cX7_first 5 (some .long) ∈ gW := gW_mem (i := 1226) (by decide +kernel) (by decide +kernel)
theorem qw1227 : Cond.methodLink RL 94 yX7_mean ∈ gW := gW_mem (i := 1227) (by decide +kernel) (by decide +kernel)
theorem qw1228 : Cond.instanceMethod yX7_mean ∈ gW := gW_mem (i := 1228) (by decide +kernel) (by decide +kernel)
theorem qw1229 : Cond.selects RX7 yX7_mean yX7_mean ∈ gW := gW_mem (i := 1229) (by decide +kernel) (by decide +kernel)
theorem qw1230 : Cond.code yX7_mean cX7_mean 5 (some .long) ∈ gW := gW_mem (i := 1230) (by decide +kernel) (by decide +kernel)
theorem qw1231 : Cond.methodLink RL 98 yX7_least ∈ gW := gW_mem (i := 1231) (by decide +kernel) (by decide +kernel)
theorem qw1232 : Cond.instanceMethod yX7_least ∈ gW := gW_mem (i := 1232) (by decide +kernel) (by decide +kernel)
theorem qw1233 : Cond.selects RX7 yX7_least yX7_least ∈ gW := gW_mem (i := 1233) (by decide +kernel) (by decide +kernel)
theorem qw1234 : Cond.code yX7_least cX7_least 6 (some .long) ∈ gW := gW_mem (i := 1234) (by decide +kernel) (by decide +kernel)
theorem qw1235 : Cond.methodLink RL 102 yX7_most ∈ gW := gW_mem (i := 1235) (by decide +kernel) (by decide +kernel)
theorem qw1236 : Cond.instanceMethod yX7_most ∈ gW := gW_mem (i := 1236) (by decide +kernel) (by decide +kernel)
theorem qw1237 : Cond.selects RX7 yX7_most yX7_most ∈ gW := gW_mem (i := 1237) (by decide +kernel) (by decide +kernel)
theorem qw1238 : Cond.code yX7_most cX7_most 4 (some .int) ∈ gW := gW_mem (i := 1238) (by decide +kernel) (by decide +kernel)
theorem qw1239 : Cond.methodLink RL 106 yX7_ways ∈ gW := gW_mem (i := 1239) (by decide +kernel) (by decide +kernel)
theorem qw1240 : Cond.instanceMethod yX7_ways ∈ gW := gW_mem (i := 1240) (by decide +kernel) (by decide +kernel)
theorem qw1241 : Cond.selects RX7 yX7_ways yX7_ways ∈ gW := gW_mem (i := 1241) (by decide +kernel) (by decide +kernel)
theorem qw1242 : Cond.code yX7_ways cX7_ways 3 (some .int) ∈ gW := gW_mem (i := 1242) (by decide +kernel) (by decide +kernel)
theorem qw1243 : Cond.methodLink RL 110 yX7_moved ∈ gW := gW_mem (i := 1243) (by decide +kernel) (by decide +kernel)
theorem qw1244 : Cond.instanceMethod yX7_moved ∈ gW := gW_mem (i := 1244) (by decide +kernel) (by decide +kernel)
theorem qw1245 : Cond.selects RX7 yX7_moved yX7_moved ∈ gW := gW_mem (i := 1245) (by decide +kernel) (by decide +kernel)
theorem qw1246 : Cond.code yX7_moved cX7_moved 5 (some .long) ∈ gW := gW_mem (i := 1246) (by decide +kernel) (by decide +kernel)
theorem qw1247 : Cond.methodLink RL 114 yX7_best ∈ gW := gW_mem (i := 1247) (by decide +kernel) (by decide +kernel)
theorem qw1248 : Cond.instanceMethod yX7_best ∈ gW := gW_mem (i := 1248) (by decide +kernel) (by decide +kernel)
theorem qw1249 : Cond.selects RX7 yX7_best yX7_best ∈ gW := gW_mem (i := 1249) (by decide +kernel) (by decide +kernel)
theorem qw1250 : Cond.code yX7_best cX7_best 8 (some .int) ∈ gW := gW_mem (i := 1250) (by decide +kernel) (by decide +kernel)
theorem qw1251 : Cond.methodLink RX7 273 yX7_meanOf ∈ gW := gW_mem (i := 1251) (by decide +kernel) (by decide +kernel)
theorem qw1253 : Cond.instanceMethod yX7_meanOf ∈ gW := gW_mem (i := 1253) (by decide +kernel) (by decide +kernel)
theorem qw1254 : Cond.code yX7_meanOf cX7_meanOf 4 (some .long) ∈ gW := gW_mem (i := 1254) (by decide +kernel) (by decide +kernel)
theorem qw1255 : Cond.methodLink RL 118 yX7_kindFor ∈ gW := gW_mem (i := 1255) (by decide +kernel) (by decide +kernel)
theorem qw1256 : Cond.instanceMethod yX7_kindFor ∈ gW := gW_mem (i := 1256) (by decide +kernel) (by decide +kernel)
theorem qw1257 : Cond.selects RX7 yX7_kindFor yX7_kindFor ∈ gW := gW_mem (i := 1257) (by decide +kernel) (by decide +kernel)
theorem qw1258 : Cond.code yX7_kindFor cX7_kindFor 2 (some .int) ∈ gW := gW_mem (i := 1258) (by decide +kernel) (by decide +kernel)
theorem qw1259 : Cond.methodLink RX7 277 yX7_bestLaid ∈ gW := gW_mem (i := 1259) (by decide +kernel) (by decide +kernel)
theorem qw1261 : Cond.instanceMethod yX7_bestLaid ∈ gW := gW_mem (i := 1261) (by decide +kernel) (by decide +kernel)
theorem qw1262 : Cond.code yX7_bestLaid cX7_bestLaid 12 (some .int) ∈ gW := gW_mem (i := 1262) (by decide +kernel) (by decide +kernel)
theorem qw1263 : Cond.methodLink RL 122 yX7_tellsFor ∈ gW := gW_mem (i := 1263) (by decide +kernel) (by decide +kernel)
theorem qw1264 : Cond.instanceMethod yX7_tellsFor ∈ gW := gW_mem (i := 1264) (by decide +kernel) (by decide +kernel)
theorem qw1265 : Cond.selects RX7 yX7_tellsFor yX7_tellsFor ∈ gW := gW_mem (i := 1265) (by decide +kernel) (by decide +kernel)
theorem qw1266 : Cond.code yX7_tellsFor cX7_tellsFor 2 (some .int) ∈ gW := gW_mem (i := 1266) (by decide +kernel) (by decide +kernel)
theorem qw1267 : Cond.methodLink RL 126 yX7_order ∈ gW := gW_mem (i := 1267) (by decide +kernel) (by decide +kernel)
theorem qw1268 : Cond.instanceMethod yX7_order ∈ gW := gW_mem (i := 1268) (by decide +kernel) (by decide +kernel)
theorem qw1269 : Cond.selects RX7 yX7_order yX7_order ∈ gW := gW_mem (i := 1269) (by decide +kernel) (by decide +kernel)
theorem qw1270 : Cond.code yX7_order cX7_order 10 (some .int) ∈ gW := gW_mem (i := 1270) (by decide +kernel) (by decide +kernel)
theorem qw1271 : Cond.methodLink RX7 281 yX7_nextRow ∈ gW := gW_mem (i := 1271) (by decide +kernel) (by decide +kernel)
theorem qw1273 : Cond.instanceMethod yX7_nextRow ∈ gW := gW_mem (i := 1273) (by decide +kernel) (by decide +kernel)
theorem qw1274 : Cond.code yX7_nextRow cX7_nextRow 7 (some .boolean) ∈ gW := gW_mem (i := 1274) (by decide +kernel) (by decide +kernel)
theorem qw1275 : Cond.methodLink RL 130 yX7_lawFor ∈ gW := gW_mem (i := 1275) (by decide +kernel) (by decide +kernel)
theorem qw1276 : Cond.instanceMethod yX7_lawFor ∈ gW := gW_mem (i := 1276) (by decide +kernel) (by decide +kernel)
theorem qw1277 : Cond.selects RX7 yX7_lawFor yX7_lawFor ∈ gW := gW_mem (i := 1277) (by decide +kernel) (by decide +kernel)
theorem qw1278 : Cond.code yX7_lawFor cX7_lawFor 2 (some .int) ∈ gW := gW_mem (i := 1278) (by decide +kernel) (by decide +kernel)
theorem qw1279 : Cond.methodLink RL 134 yX7_gains ∈ gW := gW_mem (i := 1279) (by decide +kernel) (by decide +kernel)
theorem qw1280 : Cond.instanceMethod yX7_gains ∈ gW := gW_mem (i := 1280) (by decide +kernel) (by decide +kernel)
theorem qw1281 : Cond.selects RX7 yX7_gains yX7_gains ∈ gW := gW_mem (i := 1281) (by decide +kernel) (by decide +kernel)
theorem qw1282 : Cond.code yX7_gains cX7_gains 6 (some .int) ∈ gW := gW_mem (i := 1282) (by decide +kernel) (by decide +kernel)
theorem qw1283 : Cond.methodLink RL 138 yX7_wronged ∈ gW := gW_mem (i := 1283) (by decide +kernel) (by decide +kernel)
theorem qw1284 : Cond.instanceMethod yX7_wronged ∈ gW := gW_mem (i := 1284) (by decide +kernel) (by decide +kernel)
theorem qw1285 : Cond.selects RX7 yX7_wronged yX7_wronged ∈ gW := gW_mem (i := 1285) (by decide +kernel) (by decide +kernel)
theorem qw1286 : Cond.code yX7_wronged cX7_wronged 10 (some .int) ∈ gW := gW_mem (i := 1286) (by decide +kernel) (by decide +kernel)
theorem qw1287 : Cond.methodLink RL 142 yX7_tries ∈ gW := gW_mem (i := 1287) (by decide +kernel) (by decide +kernel)
theorem qw1288 : Cond.instanceMethod yX7_tries ∈ gW := gW_mem (i := 1288) (by decide +kernel) (by decide +kernel)
theorem qw1289 : Cond.selects RX7 yX7_tries yX7_tries ∈ gW := gW_mem (i := 1289) (by decide +kernel) (by decide +kernel)
theorem qw1290 : Cond.code yX7_tries cX7_tries 6 (some .int) ∈ gW := gW_mem (i := 1290) (by decide +kernel) (by decide +kernel)
theorem qw1291 : Cond.methodLink RL 146 yX7_seed ∈ gW := gW_mem (i := 1291) (by decide +kernel) (by decide +kernel)
theorem qw1292 : Cond.instanceMethod yX7_seed ∈ gW := gW_mem (i := 1292) (by decide +kernel) (by decide +kernel)
theorem qw1293 : Cond.selects RX7 yX7_seed yX7_seed ∈ gW := gW_mem (i := 1293) (by decide +kernel) (by decide +kernel)
theorem qw1294 : Cond.code yX7_seed cX7_seed 3 (some .int) ∈ gW := gW_mem (i := 1294) (by decide +kernel) (by decide +kernel)
theorem qw1295 : Cond.methodLink RL 150 yX7_hold ∈ gW := gW_mem (i := 1295) (by decide +kernel) (by decide +kernel)
theorem qw1296 : Cond.instanceMethod yX7_hold ∈ gW := gW_mem (i := 1296) (by decide +kernel) (by decide +kernel)
theorem qw1297 : Cond.selects RX7 yX7_hold yX7_hold ∈ gW := gW_mem (i := 1297) (by decide +kernel) (by decide +kernel)
theorem qw1298 : Cond.code yX7_hold cX7_hold 3 (some .int) ∈ gW := gW_mem (i := 1298) (by decide +kernel) (by decide +kernel)
theorem qw1299 : Cond.methodLink RL 154 yX7_as ∈ gW := gW_mem (i := 1299) (by decide +kernel) (by decide +kernel)
theorem qw1300 : Cond.instanceMethod yX7_as ∈ gW := gW_mem (i := 1300) (by decide +kernel) (by decide +kernel)
theorem qw1301 : Cond.selects RX7 yX7_as yX7_as ∈ gW := gW_mem (i := 1301) (by decide +kernel) (by decide +kernel)
theorem qw1302 : Cond.code yX7_as cX7_as 4 (some .int) ∈ gW := gW_mem (i := 1302) (by decide +kernel) (by decide +kernel)
theorem qw1303 : Cond.methodLink RX7 284 yX7_isUnder ∈ gW := gW_mem (i := 1303) (by decide +kernel) (by decide +kernel)
theorem qw1304 : Cond.static yX7_isUnder ∈ gW := gW_mem (i := 1304) (by decide +kernel) (by decide +kernel)
theorem qw1305 : Cond.code yX7_isUnder cX7_isUnder 2 (some .boolean) ∈ gW := gW_mem (i := 1305) (by decide +kernel) (by decide +kernel)
theorem qw1306 : Cond.methodLink RL 158 yX7_sheet ∈ gW := gW_mem (i := 1306) (by decide +kernel) (by decide +kernel)
theorem qw1307 : Cond.instanceMethod yX7_sheet ∈ gW := gW_mem (i := 1307) (by decide +kernel) (by decide +kernel)
theorem qw1308 : Cond.selects RX7 yX7_sheet yX7_sheet ∈ gW := gW_mem (i := 1308) (by decide +kernel) (by decide +kernel)
theorem qw1309 : Cond.code yX7_sheet cX7_sheet 5 (some .int) ∈ gW := gW_mem (i := 1309) (by decide +kernel) (by decide +kernel)
theorem qw1310 : Cond.methodLink RX7 287 yX7_isSheet ∈ gW := gW_mem (i := 1310) (by decide +kernel) (by decide +kernel)
theorem qw1311 : Cond.static yX7_isSheet ∈ gW := gW_mem (i := 1311) (by decide +kernel) (by decide +kernel)
theorem qw1312 : Cond.code yX7_isSheet cX7_isSheet 1 (some .boolean) ∈ gW := gW_mem (i := 1312) (by decide +kernel) (by decide +kernel)
theorem qw1313 : Cond.methodLink RL 162 yX7_write ∈ gW := gW_mem (i := 1313) (by decide +kernel) (by decide +kernel)
theorem qw1314 : Cond.instanceMethod yX7_write ∈ gW := gW_mem (i := 1314) (by decide +kernel) (by decide +kernel)
theorem qw1315 : Cond.selects RX7 yX7_write yX7_write ∈ gW := gW_mem (i := 1315) (by decide +kernel) (by decide +kernel)
theorem qw1316 : Cond.code yX7_write cX7_write 5 (some .int) ∈ gW := gW_mem (i := 1316) (by decide +kernel) (by decide +kernel)
theorem qw1317 : Cond.methodLink RL 167 yX7_copy ∈ gW := gW_mem (i := 1317) (by decide +kernel) (by decide +kernel)
theorem qw1318 : Cond.instanceMethod yX7_copy ∈ gW := gW_mem (i := 1318) (by decide +kernel) (by decide +kernel)
theorem qw1319 : Cond.selects RX7 yX7_copy yX7_copy ∈ gW := gW_mem (i := 1319) (by decide +kernel) (by decide +kernel)
theorem qw1320 : Cond.code yX7_copy cX7_copy 7 (some .int) ∈ gW := gW_mem (i := 1320) (by decide +kernel) (by decide +kernel)
theorem qw1321 : Cond.methodLink RL 171 yX7_load ∈ gW := gW_mem (i := 1321) (by decide +kernel) (by decide +kernel)
theorem qw1322 : Cond.instanceMethod yX7_load ∈ gW := gW_mem (i := 1322) (by decide +kernel) (by decide +kernel)
theorem qw1323 : Cond.selects RX7 yX7_load yX7_load ∈ gW := gW_mem (i := 1323) (by decide +kernel) (by decide +kernel)
theorem qw1324 : Cond.code yX7_load cX7_load 4 (some .int) ∈ gW := gW_mem (i := 1324) (by decide +kernel) (by decide +kernel)
theorem qw1325 : Cond.methodLink RX7 290 yX7_lacks ∈ gW := gW_mem (i := 1325) (by decide +kernel) (by decide +kernel)
theorem qw1327 : Cond.instanceMethod yX7_lacks ∈ gW := gW_mem (i := 1327) (by decide +kernel) (by decide +kernel)
theorem qw1328 : Cond.code yX7_lacks cX7_lacks 2 (some .int) ∈ gW := gW_mem (i := 1328) (by decide +kernel) (by decide +kernel)
theorem qw1329 : Cond.methodLink RL 175 yX7_judge ∈ gW := gW_mem (i := 1329) (by decide +kernel) (by decide +kernel)
theorem qw1330 : Cond.instanceMethod yX7_judge ∈ gW := gW_mem (i := 1330) (by decide +kernel) (by decide +kernel)
theorem qw1331 : Cond.selects RX7 yX7_judge yX7_judge ∈ gW := gW_mem (i := 1331) (by decide +kernel) (by decide +kernel)
theorem qw1332 : Cond.code yX7_judge cX7_judge 6 (some .int) ∈ gW := gW_mem (i := 1332) (by decide +kernel) (by decide +kernel)
theorem qw1333 : Cond.methodLink RL 179 yX7_image ∈ gW := gW_mem (i := 1333) (by decide +kernel) (by decide +kernel)
theorem qw1334 : Cond.instanceMethod yX7_image ∈ gW := gW_mem (i := 1334) (by decide +kernel) (by decide +kernel)
theorem qw1335 : Cond.selects RX7 yX7_image yX7_image ∈ gW := gW_mem (i := 1335) (by decide +kernel) (by decide +kernel)
theorem qw1336 : Cond.code yX7_image cX7_image 1 (some .int) ∈ gW := gW_mem (i := 1336) (by decide +kernel) (by decide +kernel)
theorem qw1337 : Cond.methodLink RL 183 yX7_undo ∈ gW := gW_mem (i := 1337) (by decide +kernel) (by decide +kernel)
theorem qw1338 : Cond.instanceMethod yX7_undo ∈ gW := gW_mem (i := 1338) (by decide +kernel) (by decide +kernel)
theorem qw1339 : Cond.selects RX7 yX7_undo yX7_undo ∈ gW := gW_mem (i := 1339) (by decide +kernel) (by decide +kernel)
theorem qw1340 : Cond.code yX7_undo cX7_undo 1 (some .int) ∈ gW := gW_mem (i := 1340) (by decide +kernel) (by decide +kernel)
theorem qw1341 : Cond.methodLink RL 187 yX7_tear ∈ gW := gW_mem (i := 1341) (by decide +kernel) (by decide +kernel)
theorem qw1342 : Cond.instanceMethod yX7_tear ∈ gW := gW_mem (i := 1342) (by decide +kernel) (by decide +kernel)
theorem qw1343 : Cond.selects RX7 yX7_tear yX7_tear ∈ gW := gW_mem (i := 1343) (by decide +kernel) (by decide +kernel)
theorem qw1344 : Cond.code yX7_tear cX7_tear 2 (some .int) ∈ gW := gW_mem (i := 1344) (by decide +kernel) (by decide +kernel)
theorem qw1345 : Cond.methodLink RL 191 yX7_count ∈ gW := gW_mem (i := 1345) (by decide +kernel) (by decide +kernel)
theorem qw1346 : Cond.instanceMethod yX7_count ∈ gW := gW_mem (i := 1346) (by decide +kernel) (by decide +kernel)
theorem qw1347 : Cond.selects RX7 yX7_count yX7_count ∈ gW := gW_mem (i := 1347) (by decide +kernel) (by decide +kernel)
theorem qw1348 : Cond.code yX7_count cX7_count 4 (some .int) ∈ gW := gW_mem (i := 1348) (by decide +kernel) (by decide +kernel)
theorem qw1349 : Cond.methodLink RL 195 yX7_status ∈ gW := gW_mem (i := 1349) (by decide +kernel) (by decide +kernel)
theorem qw1350 : Cond.instanceMethod yX7_status ∈ gW := gW_mem (i := 1350) (by decide +kernel) (by decide +kernel)
theorem qw1351 : Cond.selects RX7 yX7_status yX7_status ∈ gW := gW_mem (i := 1351) (by decide +kernel) (by decide +kernel)
theorem qw1352 : Cond.code yX7_status cX7_status 4 (some .int) ∈ gW := gW_mem (i := 1352) (by decide +kernel) (by decide +kernel)
theorem qw1353 : Cond.fieldLink RJ0 9 "java/lang/String" "value" "[B" ∈ gW := gW_mem (i := 1353) (by decide +kernel) (by decide +kernel)
theorem qw1354 : Cond.fieldLink RJ0 15 "java/lang/String" "coder" "B" ∈ gW := gW_mem (i := 1354) (by decide +kernel) (by decide +kernel)
theorem iX0 : ∀ w ∈ u_ws RX0 TX0 9, w ∈ gW := by decide +kernel
theorem iX1 : ∀ w ∈ u_ws RX1 TX1 11, w ∈ gW := by decide +kernel
theorem iX2 : ∀ w ∈ u_ws RX2 TX2 3, w ∈ gW := by decide +kernel
theorem iX3 : ∀ w ∈ u_ws RX3 TX3 6, w ∈ gW := by decide +kernel
theorem iX4 : ∀ w ∈ u_ws RX4 TX4 6, w ∈ gW := by decide +kernel
theorem iX5 : ∀ w ∈ u_ws RX5 TX5 13, w ∈ gW := by decide +kernel
theorem iX6 : ∀ w ∈ u_ws RX6 TX6 8, w ∈ gW := by decide +kernel
theorem iX7 : ∀ w ∈ u_ws RX7 TX7 30, w ∈ gW := by decide +kernel
