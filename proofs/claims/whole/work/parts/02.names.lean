/-! ===== BEGIN words of one list among another's, by their places ===== -/
theorem goodIn_r {big : List Cond} (ws : List Cond) (ps : List Nat) (hp : ws = ps.filterMap (fun i => big[i]?)) (h : ws.all goodWord = true) : GoodIn big ws := by
  intro w hw
  have h1 := List.all_eq_true.mp h w hw
  rw [hp] at hw
  obtain ⟨i, -, hi⟩ := List.mem_filterMap.mp hw
  have hm : w ∈ big := by first | exact List.mem_of_getElem? hi | exact List.getElem?_mem hi
  exact ⟨hm, good_of_word h1⟩
theorem goodIn_app {big a b : List Cond} (ha : GoodIn big a) (hb : GoodIn big b) : GoodIn big (a ++ b) := fun w h => (List.mem_append.mp h).elim (ha w) (hb w)
theorem goodIn_ca {big a b : List Cond} {c : Cond} (ha : GoodIn big (c :: a)) (hb : GoodIn big b) : GoodIn big (c :: (a ++ b)) := fun w h => (List.mem_cons.mp h).elim (fun e => ha w (List.mem_cons.mpr (Or.inl e))) (fun h => (List.mem_append.mp h).elim (fun h => ha w (List.mem_cons.mpr (Or.inr h))) (hb w))
theorem goodIn_sub {big ws : List Cond} (hm : ∀ w ∈ ws, w ∈ big) (h : ws.all goodWord = true) : GoodIn big ws := fun w hw => ⟨hm w hw, good_of_word (List.all_eq_true.mp h w hw)⟩
/-! ===== END ===== -/

/-! ===== BEGIN printed: names, fields, word lists, decode rows ===== -/
def RX0 : String := "TwigsAndStones$Clubs"
def TX0 : u_T := fun k => match k with
  | 0 => ("TwigsAndStones$Clubs", "pathsByClub", "LTwigsAndStones$Row;", true)
  | 1 => ("TwigsAndStones$Clubs", "toldClubs", "LTwigsAndStones$Row;", true)
  | 2 => ("TwigsAndStones$Clubs", "toldHues", "LTwigsAndStones$Row;", true)
  | _ => ("TwigsAndStones$Clubs", "toldDays", "LTwigsAndStones$Row;", true)
def tyX0 : Nat → FieldType := fun k => match k with
  | 0 => .object "TwigsAndStones$Row"
  | 1 => .object "TwigsAndStones$Row"
  | 2 => .object "TwigsAndStones$Row"
  | _ => .object "TwigsAndStones$Row"
abbrev wsX00 : List Cond := u_ws RX0 TX0 4
theorem nmX0 : ∀ a, a < 4 → ∀ b, b < 4 → a ≠ b → (TX0 a).2.1 ≠ (TX0 b).2.1 := by decide +kernel
theorem tyX0_ok : ∀ k, k < 4 → parseFieldDescriptor (TX0 k).2.2.1 = some (tyX0 k) := by decide +kernel
abbrev cX0_init : ByteArray := prog_2_method_1_code
def yX0_init : MethodName := ⟨RX0, "<init>", "()V"⟩
abbrev cX0_changePaths : ByteArray := prog_2_method_2_code
def yX0_changePaths : MethodName := ⟨RX0, "changePaths", "(II)I"⟩
abbrev cX0_toldColours : ByteArray := prog_2_method_3_code
def yX0_toldColours : MethodName := ⟨RX0, "toldColours", "()I"⟩
abbrev cX0_tellColour : ByteArray := prog_2_method_4_code
def yX0_tellColour : MethodName := ⟨RX0, "tellColour", "(III)I"⟩
abbrev cX0_ownersOf : ByteArray := prog_2_method_5_code
def yX0_ownersOf : MethodName := ⟨RX0, "ownersOf", "(IIIZ)I"⟩
abbrev cX0_lastHue : ByteArray := prog_2_method_6_code
def yX0_lastHue : MethodName := ⟨RX0, "lastHue", "(II)I"⟩
abbrev cX0_everHad : ByteArray := prog_2_method_7_code
def yX0_everHad : MethodName := ⟨RX0, "everHad", "(III)Z"⟩
def RX1 : String := "TwigsAndStones$Fork"
def TX1 : u_T := fun k => match k with
  | 0 => ("TwigsAndStones$Fork", "lengths", "LTwigsAndStones$Row;", true)
  | 1 => ("TwigsAndStones$Fork", "tried", "LTwigsAndStones$Row;", true)
  | _ => ("TwigsAndStones$Fork", "best", "LTwigsAndStones$Row;", true)
def tyX1 : Nat → FieldType := fun k => match k with
  | 0 => .object "TwigsAndStones$Row"
  | 1 => .object "TwigsAndStones$Row"
  | _ => .object "TwigsAndStones$Row"
abbrev wsX10 : List Cond := u_ws RX1 TX1 3
theorem nmX1 : ∀ a, a < 3 → ∀ b, b < 3 → a ≠ b → (TX1 a).2.1 ≠ (TX1 b).2.1 := by decide +kernel
theorem tyX1_ok : ∀ k, k < 3 → parseFieldDescriptor (TX1 k).2.2.1 = some (tyX1 k) := by decide +kernel
abbrev cX1_init : ByteArray := prog_3_method_1_code
def yX1_init : MethodName := ⟨RX1, "<init>", "()V"⟩
abbrev cX1_branchCount : ByteArray := prog_3_method_2_code
def yX1_branchCount : MethodName := ⟨RX1, "branchCount", "()I"⟩
abbrev cX1_grow : ByteArray := prog_3_method_3_code
def yX1_grow : MethodName := ⟨RX1, "grow", "(I)I"⟩
abbrev cX1_dropAll : ByteArray := prog_3_method_4_code
def yX1_dropAll : MethodName := ⟨RX1, "dropAll", "()I"⟩
abbrev cX1_houndOf : ByteArray := prog_3_method_5_code
def yX1_houndOf : MethodName := ⟨RX1, "houndOf", "(I)I"⟩
abbrev cX1_findBestSplit : ByteArray := prog_3_method_6_code
def yX1_findBestSplit : MethodName := ⟨RX1, "findBestSplit", "(I)I"⟩
abbrev cX1_keepTried : ByteArray := prog_3_method_7_code
def yX1_keepTried : MethodName := ⟨RX1, "keepTried", "()V"⟩
abbrev cX1_takeNextSplit : ByteArray := prog_3_method_8_code
def yX1_takeNextSplit : MethodName := ⟨RX1, "takeNextSplit", "(I)Z"⟩
abbrev cX1_worstTime : ByteArray := prog_3_method_9_code
def yX1_worstTime : MethodName := ⟨RX1, "worstTime", "(I)I"⟩
abbrev cX1_timeOf : ByteArray := prog_3_method_10_code
def yX1_timeOf : MethodName := ⟨RX1, "timeOf", "(I)I"⟩
abbrev cX1_comesBefore : ByteArray := prog_3_method_11_code
def yX1_comesBefore : MethodName := ⟨RX1, "comesBefore", "(II)Z"⟩
def RX2 : String := "TwigsAndStones$Net"
def TX2 : u_T := fun k => match k with
  | 0 => ("TwigsAndStones$Net", "firsts", "LTwigsAndStones$Row;", true)
  | 1 => ("TwigsAndStones$Net", "seconds", "LTwigsAndStones$Row;", true)
  | 2 => ("TwigsAndStones$Net", "lengths", "LTwigsAndStones$Row;", true)
  | _ => ("TwigsAndStones$Net", "pathsByPlace", "LTwigsAndStones$Row;", true)
def tyX2 : Nat → FieldType := fun k => match k with
  | 0 => .object "TwigsAndStones$Row"
  | 1 => .object "TwigsAndStones$Row"
  | 2 => .object "TwigsAndStones$Row"
  | _ => .object "TwigsAndStones$Row"
abbrev wsX20 : List Cond := u_ws RX2 TX2 4
theorem nmX2 : ∀ a, a < 4 → ∀ b, b < 4 → a ≠ b → (TX2 a).2.1 ≠ (TX2 b).2.1 := by decide +kernel
theorem tyX2_ok : ∀ k, k < 4 → parseFieldDescriptor (TX2 k).2.2.1 = some (tyX2 k) := by decide +kernel
abbrev cX2_init : ByteArray := prog_4_method_1_code
def yX2_init : MethodName := ⟨RX2, "<init>", "()V"⟩
abbrev cX2_pathCount : ByteArray := prog_4_method_2_code
def yX2_pathCount : MethodName := ⟨RX2, "pathCount", "()I"⟩
abbrev cX2_join : ByteArray := prog_4_method_3_code
def yX2_join : MethodName := ⟨RX2, "join", "(III)I"⟩
abbrev cX2_pathsAt : ByteArray := prog_4_method_4_code
def yX2_pathsAt : MethodName := ⟨RX2, "pathsAt", "(I)I"⟩
abbrev cX2_allPaths : ByteArray := prog_4_method_5_code
def yX2_allPaths : MethodName := ⟨RX2, "allPaths", "()I"⟩
abbrev cX2_touches : ByteArray := prog_4_method_6_code
def yX2_touches : MethodName := ⟨RX2, "touches", "(II)Z"⟩
abbrev cX2_joining : ByteArray := prog_4_method_7_code
def yX2_joining : MethodName := ⟨RX2, "joining", "(II)I"⟩
abbrev cX2_lengthOf : ByteArray := prog_4_method_8_code
def yX2_lengthOf : MethodName := ⟨RX2, "lengthOf", "(I)I"⟩
abbrev cX2_arcFrom : ByteArray := prog_4_method_9_code
def yX2_arcFrom : MethodName := ⟨RX2, "arcFrom", "(II)I"⟩
abbrev cX2_endOf : ByteArray := prog_4_method_10_code
def yX2_endOf : MethodName := ⟨RX2, "endOf", "(I)I"⟩
abbrev cX2_otherEnd : ByteArray := prog_4_method_11_code
def yX2_otherEnd : MethodName := ⟨RX2, "otherEnd", "(II)I"⟩
def RX3 : String := "TwigsAndStones$Notes"
def TX3 : u_T := fun k => match k with
  | 0 => ("TwigsAndStones$Notes", "net", "LTwigsAndStones$Net;", true)
  | 1 => ("TwigsAndStones$Notes", "signs", "LTwigsAndStones$Signs;", true)
  | 2 => ("TwigsAndStones$Notes", "noted", "LTwigsAndStones$Row;", true)
  | _ => ("TwigsAndStones$Notes", "waysByArc", "LTwigsAndStones$Row;", true)
def tyX3 : Nat → FieldType := fun k => match k with
  | 0 => .object "TwigsAndStones$Net"
  | 1 => .object "TwigsAndStones$Signs"
  | 2 => .object "TwigsAndStones$Row"
  | _ => .object "TwigsAndStones$Row"
abbrev wsX30 : List Cond := u_ws RX3 TX3 4
theorem nmX3 : ∀ a, a < 4 → ∀ b, b < 4 → a ≠ b → (TX3 a).2.1 ≠ (TX3 b).2.1 := by decide +kernel
theorem tyX3_ok : ∀ k, k < 4 → parseFieldDescriptor (TX3 k).2.2.1 = some (tyX3 k) := by decide +kernel
abbrev cX3_init : ByteArray := prog_5_method_1_code
def yX3_init : MethodName := ⟨RX3, "<init>", "(LTwigsAndStones$Net;LTwigsAndStones$Signs;)V"⟩
abbrev cX3_noteCount : ByteArray := prog_5_method_2_code
def yX3_noteCount : MethodName := ⟨RX3, "noteCount", "()I"⟩
abbrev cX3_takeDown : ByteArray := prog_5_method_3_code
def yX3_takeDown : MethodName := ⟨RX3, "takeDown", "(I)I"⟩
abbrev cX3_dropAll : ByteArray := prog_5_method_4_code
def yX3_dropAll : MethodName := ⟨RX3, "dropAll", "()I"⟩
abbrev cX3_waysFrom : ByteArray := prog_5_method_5_code
def yX3_waysFrom : MethodName := ⟨RX3, "waysFrom", "(I)I"⟩
abbrev cX3_waysOn : ByteArray := prog_5_method_6_code
def yX3_waysOn : MethodName := ⟨RX3, "waysOn", "(III)I"⟩
abbrev cX3_exitsFrom : ByteArray := prog_5_method_7_code
def yX3_exitsFrom : MethodName := ⟨RX3, "exitsFrom", "(II)I"⟩
abbrev cX3_waysBehind : ByteArray := prog_5_method_8_code
def yX3_waysBehind : MethodName := ⟨RX3, "waysBehind", "(III)I"⟩
abbrev cX3_placeOnTheWay : ByteArray := prog_5_method_9_code
def yX3_placeOnTheWay : MethodName := ⟨RX3, "placeOnTheWay", "(II)I"⟩
abbrev cX3_pathOn : ByteArray := prog_5_method_10_code
def yX3_pathOn : MethodName := ⟨RX3, "pathOn", "(III)I"⟩
def RX4 : String := "TwigsAndStones$Route"
def TX4 : u_T := fun k => match k with
  | 0 => ("TwigsAndStones$Route", "net", "LTwigsAndStones$Net;", true)
  | 1 => ("TwigsAndStones$Route", "walker", "LTwigsAndStones$Walker;", true)
  | 2 => ("TwigsAndStones$Route", "places", "LTwigsAndStones$Row;", true)
  | _ => ("TwigsAndStones$Route", "leeway", "I", false)
def tyX4 : Nat → FieldType := fun k => match k with
  | 0 => .object "TwigsAndStones$Net"
  | 1 => .object "TwigsAndStones$Walker"
  | 2 => .object "TwigsAndStones$Row"
  | _ => .int
abbrev wsX40 : List Cond := u_ws RX4 TX4 4
theorem nmX4 : ∀ a, a < 4 → ∀ b, b < 4 → a ≠ b → (TX4 a).2.1 ≠ (TX4 b).2.1 := by decide +kernel
theorem tyX4_ok : ∀ k, k < 4 → parseFieldDescriptor (TX4 k).2.2.1 = some (tyX4 k) := by decide +kernel
abbrev cX4_init : ByteArray := prog_6_method_1_code
def yX4_init : MethodName := ⟨RX4, "<init>", "(LTwigsAndStones$Net;LTwigsAndStones$Walker;)V"⟩
abbrev cX4_placeCount : ByteArray := prog_6_method_2_code
def yX4_placeCount : MethodName := ⟨RX4, "placeCount", "()I"⟩
abbrev cX4_passes : ByteArray := prog_6_method_3_code
def yX4_passes : MethodName := ⟨RX4, "passes", "(I)Z"⟩
abbrev cX4_changeLeeway : ByteArray := prog_6_method_4_code
def yX4_changeLeeway : MethodName := ⟨RX4, "changeLeeway", "(I)I"⟩
abbrev cX4_mayGoOnTo : ByteArray := prog_6_method_5_code
def yX4_mayGoOnTo : MethodName := ⟨RX4, "mayGoOnTo", "(I)Z"⟩
abbrev cX4_goOnTo : ByteArray := prog_6_method_6_code
def yX4_goOnTo : MethodName := ⟨RX4, "goOnTo", "(I)I"⟩
abbrev cX4_dropAll : ByteArray := prog_6_method_7_code
def yX4_dropAll : MethodName := ⟨RX4, "dropAll", "()I"⟩
abbrev cX4_marksNeeded : ByteArray := prog_6_method_8_code
def yX4_marksNeeded : MethodName := ⟨RX4, "marksNeeded", "(I)I"⟩
abbrev cX4_mayGoBadlyWrong : ByteArray := prog_6_method_9_code
def yX4_mayGoBadlyWrong : MethodName := ⟨RX4, "mayGoBadlyWrong", "(III)Z"⟩
abbrev cX4_isHarmless : ByteArray := prog_6_method_10_code
def yX4_isHarmless : MethodName := ⟨RX4, "isHarmless", "(II)Z"⟩
def RX5 : String := "TwigsAndStones$Row"
def TX5 : u_T := fun k => match k with
  | 0 => ("TwigsAndStones$Row", "cells", "[I", true)
  | _ => ("TwigsAndStones$Row", "size", "I", false)
def tyX5 : Nat → FieldType := fun k => match k with
  | 0 => .array .int
  | _ => .int
abbrev wsX50 : List Cond := u_ws RX5 TX5 2
theorem nmX5 : ∀ a, a < 2 → ∀ b, b < 2 → a ≠ b → (TX5 a).2.1 ≠ (TX5 b).2.1 := by decide +kernel
theorem tyX5_ok : ∀ k, k < 2 → parseFieldDescriptor (TX5 k).2.2.1 = some (tyX5 k) := by decide +kernel
abbrev cX5_init : ByteArray := prog_7_method_1_code
def yX5_init : MethodName := ⟨RX5, "<init>", "(I)V"⟩
abbrev cX5_filled : ByteArray := prog_7_method_2_code
def yX5_filled : MethodName := ⟨RX5, "filled", "()LTwigsAndStones$Row;"⟩
abbrev cX5_size : ByteArray := prog_7_method_3_code
def yX5_size : MethodName := ⟨RX5, "size", "()I"⟩
abbrev cX5_get : ByteArray := prog_7_method_4_code
def yX5_get : MethodName := ⟨RX5, "get", "(I)I"⟩
abbrev cX5_put : ByteArray := prog_7_method_5_code
def yX5_put : MethodName := ⟨RX5, "put", "(II)V"⟩
abbrev cX5_push : ByteArray := prog_7_method_6_code
def yX5_push : MethodName := ⟨RX5, "push", "(I)I"⟩
abbrev cX5_has : ByteArray := prog_7_method_7_code
def yX5_has : MethodName := ⟨RX5, "has", "(I)Z"⟩
abbrev cX5_clear : ByteArray := prog_7_method_8_code
def yX5_clear : MethodName := ⟨RX5, "clear", "()I"⟩
def RX6 : String := "TwigsAndStones$Signs"
def TX6 : u_T := fun k => match k with
  | 0 => ("TwigsAndStones$Signs", "net", "LTwigsAndStones$Net;", true)
  | 1 => ("TwigsAndStones$Signs", "places", "LTwigsAndStones$Row;", true)
  | 2 => ("TwigsAndStones$Signs", "kinds", "LTwigsAndStones$Row;", true)
  | 3 => ("TwigsAndStones$Signs", "values", "LTwigsAndStones$Row;", true)
  | 4 => ("TwigsAndStones$Signs", "lives", "LTwigsAndStones$Row;", true)
  | 5 => ("TwigsAndStones$Signs", "laidOn", "LTwigsAndStones$Row;", true)
  | 6 => ("TwigsAndStones$Signs", "turned", "LTwigsAndStones$Row;", true)
  | 7 => ("TwigsAndStones$Signs", "seenBy", "LTwigsAndStones$Row;", true)
  | 8 => ("TwigsAndStones$Signs", "day", "I", false)
  | 9 => ("TwigsAndStones$Signs", "weatherNow", "I", false)
  | _ => ("TwigsAndStones$Signs", "fog", "I", false)
def tyX6 : Nat → FieldType := fun k => match k with
  | 0 => .object "TwigsAndStones$Net"
  | 1 => .object "TwigsAndStones$Row"
  | 2 => .object "TwigsAndStones$Row"
  | 3 => .object "TwigsAndStones$Row"
  | 4 => .object "TwigsAndStones$Row"
  | 5 => .object "TwigsAndStones$Row"
  | 6 => .object "TwigsAndStones$Row"
  | 7 => .object "TwigsAndStones$Row"
  | 8 => .int
  | 9 => .int
  | _ => .int
abbrev wsX60 : List Cond := u_ws RX6 TX6 11
theorem nmX6 : ∀ a, a < 11 → ∀ b, b < 11 → a ≠ b → (TX6 a).2.1 ≠ (TX6 b).2.1 := by decide +kernel
theorem tyX6_ok : ∀ k, k < 11 → parseFieldDescriptor (TX6 k).2.2.1 = some (tyX6 k) := by decide +kernel
abbrev cX6_init : ByteArray := prog_8_method_1_code
def yX6_init : MethodName := ⟨RX6, "<init>", "(LTwigsAndStones$Net;)V"⟩
abbrev cX6_signCount : ByteArray := prog_8_method_2_code
def yX6_signCount : MethodName := ⟨RX6, "signCount", "()I"⟩
abbrev cX6_today : ByteArray := prog_8_method_3_code
def yX6_today : MethodName := ⟨RX6, "today", "()I"⟩
abbrev cX6_changeWeather : ByteArray := prog_8_method_4_code
def yX6_changeWeather : MethodName := ⟨RX6, "changeWeather", "(I)I"⟩
abbrev cX6_changeFog : ByteArray := prog_8_method_5_code
def yX6_changeFog : MethodName := ⟨RX6, "changeFog", "(I)I"⟩
abbrev cX6_letDaysGoBy : ByteArray := prog_8_method_6_code
def yX6_letDaysGoBy : MethodName := ⟨RX6, "letDaysGoBy", "(I)I"⟩
abbrev cX6_lay : ByteArray := prog_8_method_7_code
def yX6_lay : MethodName := ⟨RX6, "lay", "(IIIIIZ)I"⟩
abbrev cX6_pointTo : ByteArray := prog_8_method_8_code
def yX6_pointTo : MethodName := ⟨RX6, "pointTo", "(II)I"⟩
abbrev cX6_placeOf : ByteArray := prog_8_method_9_code
def yX6_placeOf : MethodName := ⟨RX6, "placeOf", "(I)I"⟩
abbrev cX6_kindOf : ByteArray := prog_8_method_10_code
def yX6_kindOf : MethodName := ⟨RX6, "kindOf", "(I)I"⟩
abbrev cX6_valueOf : ByteArray := prog_8_method_11_code
def yX6_valueOf : MethodName := ⟨RX6, "valueOf", "(I)I"⟩
abbrev cX6_isGone : ByteArray := prog_8_method_12_code
def yX6_isGone : MethodName := ⟨RX6, "isGone", "(I)Z"⟩
abbrev cX6_tell : ByteArray := prog_8_method_13_code
def yX6_tell : MethodName := ⟨RX6, "tell", "(II)I"⟩
abbrev cX6_countLeft : ByteArray := prog_8_method_14_code
def yX6_countLeft : MethodName := ⟨RX6, "countLeft", "()I"⟩
abbrev cX6_isSeen : ByteArray := prog_8_method_15_code
def yX6_isSeen : MethodName := ⟨RX6, "isSeen", "(III)Z"⟩
abbrev cX6_allSeen : ByteArray := prog_8_method_16_code
def yX6_allSeen : MethodName := ⟨RX6, "allSeen", "(II)I"⟩
abbrev cX6_kindsSeen : ByteArray := prog_8_method_17_code
def yX6_kindsSeen : MethodName := ⟨RX6, "kindsSeen", "(II)I"⟩
def RX7 : String := "TwigsAndStones$Trails"
def TX7 : u_T := fun k => match k with
  | 0 => ("TwigsAndStones$Trails", "net", "LTwigsAndStones$Net;", true)
  | 1 => ("TwigsAndStones$Trails", "ofGame", "LTwigsAndStones$Route;", true)
  | 2 => ("TwigsAndStones$Trails", "places", "LTwigsAndStones$Row;", true)
  | 3 => ("TwigsAndStones$Trails", "sizes", "LTwigsAndStones$Row;", true)
  | 4 => ("TwigsAndStones$Trails", "falseOnes", "LTwigsAndStones$Row;", true)
  | _ => ("TwigsAndStones$Trails", "reach", "I", false)
def tyX7 : Nat → FieldType := fun k => match k with
  | 0 => .object "TwigsAndStones$Net"
  | 1 => .object "TwigsAndStones$Route"
  | 2 => .object "TwigsAndStones$Row"
  | 3 => .object "TwigsAndStones$Row"
  | 4 => .object "TwigsAndStones$Row"
  | _ => .int
abbrev wsX70 : List Cond := u_ws RX7 TX7 6
theorem nmX7 : ∀ a, a < 6 → ∀ b, b < 6 → a ≠ b → (TX7 a).2.1 ≠ (TX7 b).2.1 := by decide +kernel
theorem tyX7_ok : ∀ k, k < 6 → parseFieldDescriptor (TX7 k).2.2.1 = some (tyX7 k) := by decide +kernel
abbrev cX7_init : ByteArray := prog_9_method_1_code
def yX7_init : MethodName := ⟨RX7, "<init>", "(LTwigsAndStones$Net;LTwigsAndStones$Route;)V"⟩
abbrev cX7_trailCount : ByteArray := prog_9_method_2_code
def yX7_trailCount : MethodName := ⟨RX7, "trailCount", "()I"⟩
abbrev cX7_sizeOf : ByteArray := prog_9_method_3_code
def yX7_sizeOf : MethodName := ⟨RX7, "sizeOf", "(I)I"⟩
abbrev cX7_changeReach : ByteArray := prog_9_method_4_code
def yX7_changeReach : MethodName := ⟨RX7, "changeReach", "(I)I"⟩
abbrev cX7_begin : ByteArray := prog_9_method_5_code
def yX7_begin : MethodName := ⟨RX7, "begin", "(IZ)I"⟩
abbrev cX7_placeAt : ByteArray := prog_9_method_6_code
def yX7_placeAt : MethodName := ⟨RX7, "placeAt", "(II)I"⟩
abbrev cX7_indexOf : ByteArray := prog_9_method_7_code
def yX7_indexOf : MethodName := ⟨RX7, "indexOf", "(II)I"⟩
abbrev cX7_mayGoOnTo : ByteArray := prog_9_method_8_code
def yX7_mayGoOnTo : MethodName := ⟨RX7, "mayGoOnTo", "(II)Z"⟩
abbrev cX7_goOnTo : ByteArray := prog_9_method_9_code
def yX7_goOnTo : MethodName := ⟨RX7, "goOnTo", "(II)I"⟩
abbrev cX7_faultsOf : ByteArray := prog_9_method_10_code
def yX7_faultsOf : MethodName := ⟨RX7, "faultsOf", "(I)I"⟩
abbrev cX7_isFalse : ByteArray := prog_9_method_11_code
def yX7_isFalse : MethodName := ⟨RX7, "isFalse", "(I)Z"⟩
abbrev cX7_comesBackToRoute : ByteArray := prog_9_method_12_code
def yX7_comesBackToRoute : MethodName := ⟨RX7, "comesBackToRoute", "(I)Z"⟩
abbrev cX7_wholeLength : ByteArray := prog_9_method_13_code
def yX7_wholeLength : MethodName := ⟨RX7, "wholeLength", "(I)I"⟩
abbrev cX7_crosses : ByteArray := prog_9_method_14_code
def yX7_crosses : MethodName := ⟨RX7, "crosses", "(II)Z"⟩
def RX8 : String := "TwigsAndStones$Walker"
def TX8 : u_T := fun k => match k with
  | 0 => ("TwigsAndStones$Walker", "net", "LTwigsAndStones$Net;", true)
  | 1 => ("TwigsAndStones$Walker", "signs", "LTwigsAndStones$Signs;", true)
  | 2 => ("TwigsAndStones$Walker", "places", "LTwigsAndStones$Row;", true)
  | 3 => ("TwigsAndStones$Walker", "ending", "I", false)
  | _ => ("TwigsAndStones$Walker", "length", "I", false)
def tyX8 : Nat → FieldType := fun k => match k with
  | 0 => .object "TwigsAndStones$Net"
  | 1 => .object "TwigsAndStones$Signs"
  | 2 => .object "TwigsAndStones$Row"
  | 3 => .int
  | _ => .int
abbrev wsX80 : List Cond := u_ws RX8 TX8 5
theorem nmX8 : ∀ a, a < 5 → ∀ b, b < 5 → a ≠ b → (TX8 a).2.1 ≠ (TX8 b).2.1 := by decide +kernel
theorem tyX8_ok : ∀ k, k < 5 → parseFieldDescriptor (TX8 k).2.2.1 = some (tyX8 k) := by decide +kernel
abbrev cX8_init : ByteArray := prog_10_method_1_code
def yX8_init : MethodName := ⟨RX8, "<init>", "(LTwigsAndStones$Net;LTwigsAndStones$Signs;)V"⟩
abbrev cX8_choice : ByteArray := prog_10_method_2_code
def yX8_choice : MethodName := ⟨RX8, "choice", "(II)I"⟩
abbrev cX8_choiceAmong : ByteArray := prog_10_method_3_code
def yX8_choiceAmong : MethodName := ⟨RX8, "choiceAmong", "(II)I"⟩
abbrev cX8_goFrom : ByteArray := prog_10_method_4_code
def yX8_goFrom : MethodName := ⟨RX8, "goFrom", "(I)V"⟩
abbrev cX8_tell : ByteArray := prog_10_method_5_code
def yX8_tell : MethodName := ⟨RX8, "tell", "(I)I"⟩
abbrev cX8_placeBehind : ByteArray := prog_10_method_6_code
def yX8_placeBehind : MethodName := ⟨RX8, "placeBehind", "(I)I"⟩
def RX9 : String := "TwigsAndStones"
def TX9 : u_T := fun k => match k with
  | 0 => ("TwigsAndStones", "net", "LTwigsAndStones$Net;", true)
  | 1 => ("TwigsAndStones", "signs", "LTwigsAndStones$Signs;", true)
  | 2 => ("TwigsAndStones", "walker", "LTwigsAndStones$Walker;", true)
  | 3 => ("TwigsAndStones", "notes", "LTwigsAndStones$Notes;", true)
  | 4 => ("TwigsAndStones", "theRoute", "LTwigsAndStones$Route;", true)
  | 5 => ("TwigsAndStones", "trails", "LTwigsAndStones$Trails;", true)
  | 6 => ("TwigsAndStones", "fork", "LTwigsAndStones$Fork;", true)
  | _ => ("TwigsAndStones", "clubs", "LTwigsAndStones$Clubs;", true)
def tyX9 : Nat → FieldType := fun k => match k with
  | 0 => .object "TwigsAndStones$Net"
  | 1 => .object "TwigsAndStones$Signs"
  | 2 => .object "TwigsAndStones$Walker"
  | 3 => .object "TwigsAndStones$Notes"
  | 4 => .object "TwigsAndStones$Route"
  | 5 => .object "TwigsAndStones$Trails"
  | 6 => .object "TwigsAndStones$Fork"
  | _ => .object "TwigsAndStones$Clubs"
abbrev wsX90 : List Cond := u_ws RX9 TX9 8
theorem nmX9 : ∀ a, a < 8 → ∀ b, b < 8 → a ≠ b → (TX9 a).2.1 ≠ (TX9 b).2.1 := by decide +kernel
theorem tyX9_ok : ∀ k, k < 8 → parseFieldDescriptor (TX9 k).2.2.1 = some (tyX9 k) := by decide +kernel
abbrev cX9_init : ByteArray := prog_1_method_1_code
def yX9_init : MethodName := ⟨RX9, "<init>", "()V"⟩
abbrev cX9_path : ByteArray := prog_1_method_2_code
def yX9_path : MethodName := ⟨RX9, "path", "(III)I"⟩
abbrev cX9_weather : ByteArray := prog_1_method_3_code
def yX9_weather : MethodName := ⟨RX9, "weather", "(I)I"⟩
abbrev cX9_days : ByteArray := prog_1_method_4_code
def yX9_days : MethodName := ⟨RX9, "days", "(I)I"⟩
abbrev cX9_sign : ByteArray := prog_1_method_5_code
def yX9_sign : MethodName := ⟨RX9, "sign", "(IIIIIZ)I"⟩
abbrev cX9_turn : ByteArray := prog_1_method_6_code
def yX9_turn : MethodName := ⟨RX9, "turn", "(II)I"⟩
abbrev cX9_at : ByteArray := prog_1_method_7_code
def yX9_at : MethodName := ⟨RX9, "at", "(II)I"⟩
abbrev cX9_set : ByteArray := prog_1_method_8_code
def yX9_set : MethodName := ⟨RX9, "set", "(II)I"⟩
abbrev cX9_seen : ByteArray := prog_1_method_9_code
def yX9_seen : MethodName := ⟨RX9, "seen", "(II)I"⟩
abbrev cX9_walk : ByteArray := prog_1_method_10_code
def yX9_walk : MethodName := ⟨RX9, "walk", "(II)I"⟩
abbrev cX9_walked : ByteArray := prog_1_method_11_code
def yX9_walked : MethodName := ⟨RX9, "walked", "(II)I"⟩
abbrev cX9_note : ByteArray := prog_1_method_12_code
def yX9_note : MethodName := ⟨RX9, "note", "(I)I"⟩
abbrev cX9_forget : ByteArray := prog_1_method_13_code
def yX9_forget : MethodName := ⟨RX9, "forget", "()I"⟩
abbrev cX9_ways : ByteArray := prog_1_method_14_code
def yX9_ways : MethodName := ⟨RX9, "ways", "(I)I"⟩
abbrev cX9_only : ByteArray := prog_1_method_15_code
def yX9_only : MethodName := ⟨RX9, "only", "(II)I"⟩
abbrev cX9_route : ByteArray := prog_1_method_16_code
def yX9_route : MethodName := ⟨RX9, "route", "(I)I"⟩
abbrev cX9_unroute : ByteArray := prog_1_method_17_code
def yX9_unroute : MethodName := ⟨RX9, "unroute", "()I"⟩
abbrev cX9_needed : ByteArray := prog_1_method_18_code
def yX9_needed : MethodName := ⟨RX9, "needed", "(I)I"⟩
abbrev cX9_trail : ByteArray := prog_1_method_19_code
def yX9_trail : MethodName := ⟨RX9, "trail", "(IZ)I"⟩
abbrev cX9_add : ByteArray := prog_1_method_20_code
def yX9_add : MethodName := ⟨RX9, "add", "(II)I"⟩
abbrev cX9_breaks : ByteArray := prog_1_method_21_code
def yX9_breaks : MethodName := ⟨RX9, "breaks", "(I)I"⟩
abbrev cX9_branch : ByteArray := prog_1_method_22_code
def yX9_branch : MethodName := ⟨RX9, "branch", "(I)I"⟩
abbrev cX9_unbranch : ByteArray := prog_1_method_23_code
def yX9_unbranch : MethodName := ⟨RX9, "unbranch", "()I"⟩
abbrev cX9_worst : ByteArray := prog_1_method_24_code
def yX9_worst : MethodName := ⟨RX9, "worst", "(I)I"⟩
abbrev cX9_split : ByteArray := prog_1_method_25_code
def yX9_split : MethodName := ⟨RX9, "split", "(III)I"⟩
abbrev cX9_club : ByteArray := prog_1_method_26_code
def yX9_club : MethodName := ⟨RX9, "club", "(II)I"⟩
abbrev cX9_colour : ByteArray := prog_1_method_27_code
def yX9_colour : MethodName := ⟨RX9, "colour", "(III)I"⟩
abbrev cX9_whose : ByteArray := prog_1_method_28_code
def yX9_whose : MethodName := ⟨RX9, "whose", "(IIII)I"⟩
abbrev cX9_count : ByteArray := prog_1_method_29_code
def yX9_count : MethodName := ⟨RX9, "count", "(I)I"⟩
abbrev cX9_isWithin : ByteArray := prog_1_method_30_code
def yX9_isWithin : MethodName := ⟨RX9, "isWithin", "(III)Z"⟩
abbrev cX9_isPlace : ByteArray := prog_1_method_31_code
def yX9_isPlace : MethodName := ⟨RX9, "isPlace", "(I)Z"⟩
abbrev cX9_isClub : ByteArray := prog_1_method_32_code
def yX9_isClub : MethodName := ⟨RX9, "isClub", "(I)Z"⟩
abbrev cX9_isColour : ByteArray := prog_1_method_33_code
def yX9_isColour : MethodName := ⟨RX9, "isColour", "(I)Z"⟩
abbrev cX9_isOfPath : ByteArray := prog_1_method_34_code
def yX9_isOfPath : MethodName := ⟨RX9, "isOfPath", "(I)Z"⟩
abbrev cX9_isSignValue : ByteArray := prog_1_method_35_code
def yX9_isSignValue : MethodName := ⟨RX9, "isSignValue", "(II)Z"⟩
abbrev cX9_bitOf : ByteArray := prog_1_method_36_code
def yX9_bitOf : MethodName := ⟨RX9, "bitOf", "(I)I"⟩
def RX10 : String := "TwigsAndStonesModel"
def TX10 : u_T := fun k => match k with
  | 0 => ("TwigsAndStonesModel", "paths", "I", false)
  | 1 => ("TwigsAndStonesModel", "endA", "[I", true)
  | 2 => ("TwigsAndStonesModel", "endB", "[I", true)
  | 3 => ("TwigsAndStonesModel", "lengthOf", "[I", true)
  | 4 => ("TwigsAndStonesModel", "day", "I", false)
  | 5 => ("TwigsAndStonesModel", "weather", "I", false)
  | 6 => ("TwigsAndStonesModel", "signs", "I", false)
  | 7 => ("TwigsAndStonesModel", "place", "[I", true)
  | 8 => ("TwigsAndStonesModel", "kind", "[I", true)
  | 9 => ("TwigsAndStonesModel", "value", "[I", true)
  | 10 => ("TwigsAndStonesModel", "life", "[I", true)
  | 11 => ("TwigsAndStonesModel", "laid", "[I", true)
  | 12 => ("TwigsAndStonesModel", "by", "[I", true)
  | 13 => ("TwigsAndStonesModel", "atStart", "[Z", true)
  | 14 => ("TwigsAndStonesModel", "isTurned", "[Z", true)
  | 15 => ("TwigsAndStonesModel", "fog", "I", false)
  | 16 => ("TwigsAndStonesModel", "leeway", "I", false)
  | 17 => ("TwigsAndStonesModel", "reach", "I", false)
  | 18 => ("TwigsAndStonesModel", "walkEnds", "I", false)
  | 19 => ("TwigsAndStonesModel", "walkPaths", "I", false)
  | 20 => ("TwigsAndStonesModel", "walkLength", "I", false)
  | 21 => ("TwigsAndStonesModel", "walkAt", "[I", true)
  | 22 => ("TwigsAndStonesModel", "came", "[Z", true)
  | 23 => ("TwigsAndStonesModel", "notes", "I", false)
  | 24 => ("TwigsAndStonesModel", "note", "[I", true)
  | 25 => ("TwigsAndStonesModel", "goesOn", "[I", true)
  | 26 => ("TwigsAndStonesModel", "routes", "I", false)
  | 27 => ("TwigsAndStonesModel", "route", "[I", true)
  | 28 => ("TwigsAndStonesModel", "trails", "I", false)
  | 29 => ("TwigsAndStonesModel", "trailMany", "[I", true)
  | 30 => ("TwigsAndStonesModel", "trail", "[I", true)
  | 31 => ("TwigsAndStonesModel", "isFalse", "[Z", true)
  | 32 => ("TwigsAndStonesModel", "branches", "I", false)
  | 33 => ("TwigsAndStonesModel", "branch", "[I", true)
  | 34 => ("TwigsAndStonesModel", "bestWorst", "I", false)
  | 35 => ("TwigsAndStonesModel", "bestHound", "[I", true)
  | 36 => ("TwigsAndStonesModel", "clubPaths", "[I", true)
  | 37 => ("TwigsAndStonesModel", "colours", "I", false)
  | 38 => ("TwigsAndStonesModel", "colourClub", "[I", true)
  | 39 => ("TwigsAndStonesModel", "colourOf", "[I", true)
  | _ => ("TwigsAndStonesModel", "colourDay", "[I", true)
def tyX10 : Nat → FieldType := fun k => match k with
  | 0 => .int
  | 1 => .array .int
  | 2 => .array .int
  | 3 => .array .int
  | 4 => .int
  | 5 => .int
  | 6 => .int
  | 7 => .array .int
  | 8 => .array .int
  | 9 => .array .int
  | 10 => .array .int
  | 11 => .array .int
  | 12 => .array .int
  | 13 => .array .boolean
  | 14 => .array .boolean
  | 15 => .int
  | 16 => .int
  | 17 => .int
  | 18 => .int
  | 19 => .int
  | 20 => .int
  | 21 => .array .int
  | 22 => .array .boolean
  | 23 => .int
  | 24 => .array .int
  | 25 => .array .int
  | 26 => .int
  | 27 => .array .int
  | 28 => .int
  | 29 => .array .int
  | 30 => .array .int
  | 31 => .array .boolean
  | 32 => .int
  | 33 => .array .int
  | 34 => .int
  | 35 => .array .int
  | 36 => .array .int
  | 37 => .int
  | 38 => .array .int
  | 39 => .array .int
  | _ => .array .int
abbrev wsX100 : List Cond := u_ws RX10 TX10 41
theorem nmX10 : ∀ a, a < 41 → ∀ b, b < 41 → a ≠ b → (TX10 a).2.1 ≠ (TX10 b).2.1 := by decide +kernel
theorem tyX10_ok : ∀ k, k < 41 → parseFieldDescriptor (TX10 k).2.2.1 = some (tyX10 k) := by decide +kernel
abbrev cX10_init : ByteArray := prog_12_method_1_code
def yX10_init : MethodName := ⟨RX10, "<init>", "()V"⟩
abbrev cX10_in : ByteArray := prog_12_method_2_code
def yX10_in : MethodName := ⟨RX10, "in", "(III)Z"⟩
abbrev cX10_isPlace : ByteArray := prog_12_method_3_code
def yX10_isPlace : MethodName := ⟨RX10, "isPlace", "(I)Z"⟩
abbrev cX10_isAt : ByteArray := prog_12_method_4_code
def yX10_isAt : MethodName := ⟨RX10, "isAt", "(II)Z"⟩
abbrev cX10_otherEnd : ByteArray := prog_12_method_5_code
def yX10_otherEnd : MethodName := ⟨RX10, "otherEnd", "(II)I"⟩
abbrev cX10_joins : ByteArray := prog_12_method_6_code
def yX10_joins : MethodName := ⟨RX10, "joins", "(II)I"⟩
abbrev cX10_pathsAt : ByteArray := prog_12_method_7_code
def yX10_pathsAt : MethodName := ⟨RX10, "pathsAt", "(I)I"⟩
abbrev cX10_path : ByteArray := prog_12_method_8_code
def yX10_path : MethodName := ⟨RX10, "path", "(III)I"⟩
abbrev cX10_weather : ByteArray := prog_12_method_9_code
def yX10_weather : MethodName := ⟨RX10, "weather", "(I)I"⟩
abbrev cX10_days : ByteArray := prog_12_method_10_code
def yX10_days : MethodName := ⟨RX10, "days", "(I)I"⟩
abbrev cX10_sign : ByteArray := prog_12_method_11_code
def yX10_sign : MethodName := ⟨RX10, "sign", "(IIIIIZ)I"⟩
abbrev cX10_turn : ByteArray := prog_12_method_12_code
def yX10_turn : MethodName := ⟨RX10, "turn", "(II)I"⟩
abbrev cX10_at : ByteArray := prog_12_method_13_code
def yX10_at : MethodName := ⟨RX10, "at", "(II)I"⟩
abbrev cX10_set : ByteArray := prog_12_method_14_code
def yX10_set : MethodName := ⟨RX10, "set", "(II)I"⟩
abbrev cX10_seenBy : ByteArray := prog_12_method_15_code
def yX10_seenBy : MethodName := ⟨RX10, "seenBy", "(II)I"⟩
abbrev cX10_seen : ByteArray := prog_12_method_16_code
def yX10_seen : MethodName := ⟨RX10, "seen", "(II)I"⟩
abbrev cX10_goesBy : ByteArray := prog_12_method_17_code
def yX10_goesBy : MethodName := ⟨RX10, "goesBy", "(II)I"⟩
abbrev cX10_goWalk : ByteArray := prog_12_method_18_code
def yX10_goWalk : MethodName := ⟨RX10, "goWalk", "(I)V"⟩
abbrev cX10_walk : ByteArray := prog_12_method_19_code
def yX10_walk : MethodName := ⟨RX10, "walk", "(II)I"⟩
abbrev cX10_walked : ByteArray := prog_12_method_20_code
def yX10_walked : MethodName := ⟨RX10, "walked", "(II)I"⟩
abbrev cX10_note : ByteArray := prog_12_method_21_code
def yX10_note : MethodName := ⟨RX10, "note", "(I)I"⟩
abbrev cX10_forget : ByteArray := prog_12_method_22_code
def yX10_forget : MethodName := ⟨RX10, "forget", "()I"⟩
abbrev cX10_isNoted : ByteArray := prog_12_method_23_code
def yX10_isNoted : MethodName := ⟨RX10, "isNoted", "(III)Z"⟩
abbrev cX10_mayGo : ByteArray := prog_12_method_24_code
def yX10_mayGo : MethodName := ⟨RX10, "mayGo", "(III)Z"⟩
abbrev cX10_findWays : ByteArray := prog_12_method_25_code
def yX10_findWays : MethodName := ⟨RX10, "findWays", "()V"⟩
abbrev cX10_ways : ByteArray := prog_12_method_26_code
def yX10_ways : MethodName := ⟨RX10, "ways", "(I)I"⟩
abbrev cX10_only : ByteArray := prog_12_method_27_code
def yX10_only : MethodName := ⟨RX10, "only", "(II)I"⟩
abbrev cX10_route : ByteArray := prog_12_method_28_code
def yX10_route : MethodName := ⟨RX10, "route", "(I)I"⟩
abbrev cX10_unroute : ByteArray := prog_12_method_29_code
def yX10_unroute : MethodName := ⟨RX10, "unroute", "()I"⟩
abbrev cX10_isHarmless : ByteArray := prog_12_method_30_code
def yX10_isHarmless : MethodName := ⟨RX10, "isHarmless", "(II)Z"⟩
abbrev cX10_isNeeded : ByteArray := prog_12_method_31_code
def yX10_isNeeded : MethodName := ⟨RX10, "isNeeded", "(III)Z"⟩
abbrev cX10_needed : ByteArray := prog_12_method_32_code
def yX10_needed : MethodName := ⟨RX10, "needed", "(I)I"⟩
abbrev cX10_trail : ByteArray := prog_12_method_33_code
def yX10_trail : MethodName := ⟨RX10, "trail", "(IZ)I"⟩
abbrev cX10_add : ByteArray := prog_12_method_34_code
def yX10_add : MethodName := ⟨RX10, "add", "(II)I"⟩
abbrev cX10_isOnRoute : ByteArray := prog_12_method_35_code
def yX10_isOnRoute : MethodName := ⟨RX10, "isOnRoute", "(I)Z"⟩
abbrev cX10_doCross : ByteArray := prog_12_method_36_code
def yX10_doCross : MethodName := ⟨RX10, "doCross", "(II)Z"⟩
abbrev cX10_breaks : ByteArray := prog_12_method_37_code
def yX10_breaks : MethodName := ⟨RX10, "breaks", "(I)I"⟩
abbrev cX10_branch : ByteArray := prog_12_method_38_code
def yX10_branch : MethodName := ⟨RX10, "branch", "(I)I"⟩
abbrev cX10_unbranch : ByteArray := prog_12_method_39_code
def yX10_unbranch : MethodName := ⟨RX10, "unbranch", "()I"⟩
abbrev cX10_houndOf : ByteArray := prog_12_method_40_code
def yX10_houndOf : MethodName := ⟨RX10, "houndOf", "(III)I"⟩
abbrev cX10_foundAt : ByteArray := prog_12_method_41_code
def yX10_foundAt : MethodName := ⟨RX10, "foundAt", "(III)I"⟩
abbrev cX10_findSplit : ByteArray := prog_12_method_42_code
def yX10_findSplit : MethodName := ⟨RX10, "findSplit", "(I)I"⟩
abbrev cX10_worst : ByteArray := prog_12_method_43_code
def yX10_worst : MethodName := ⟨RX10, "worst", "(I)I"⟩
abbrev cX10_split : ByteArray := prog_12_method_44_code
def yX10_split : MethodName := ⟨RX10, "split", "(III)I"⟩
abbrev cX10_club : ByteArray := prog_12_method_45_code
def yX10_club : MethodName := ⟨RX10, "club", "(II)I"⟩
abbrev cX10_colour : ByteArray := prog_12_method_46_code
def yX10_colour : MethodName := ⟨RX10, "colour", "(III)I"⟩
abbrev cX10_colourTo : ByteArray := prog_12_method_47_code
def yX10_colourTo : MethodName := ⟨RX10, "colourTo", "(III)I"⟩
abbrev cX10_whose : ByteArray := prog_12_method_48_code
def yX10_whose : MethodName := ⟨RX10, "whose", "(IIII)I"⟩
abbrev cX10_count : ByteArray := prog_12_method_49_code
def yX10_count : MethodName := ⟨RX10, "count", "(I)I"⟩
def RJ6 : String := "java/lang/Integer"
def TJ6 : u_T := fun k => match k with
  | _ => ("", "", "", false)
def tyJ6 : Nat → FieldType := fun k => match k with
  | _ => .int
abbrev wsJ60 : List Cond := u_ws RJ6 TJ6 0
theorem nmJ6 : ∀ a, a < 0 → ∀ b, b < 0 → a ≠ b → (TJ6 a).2.1 ≠ (TJ6 b).2.1 := by decide +kernel
theorem tyJ6_ok : ∀ k, k < 0 → parseFieldDescriptor (TJ6 k).2.2.1 = some (tyJ6 k) := by decide +kernel
abbrev cJ6_bitCount_0f7a4 : ByteArray := prog_13_method_49_code
def yJ6_bitCount_0f7a4 : MethodName := ⟨RJ6, "bitCount", "(I)I"⟩
def RJ9 : String := "java/lang/Math"
def TJ9 : u_T := fun k => match k with
  | _ => ("", "", "", false)
def tyJ9 : Nat → FieldType := fun k => match k with
  | _ => .int
abbrev wsJ90 : List Cond := u_ws RJ9 TJ9 0
theorem nmJ9 : ∀ a, a < 0 → ∀ b, b < 0 → a ≠ b → (TJ9 a).2.1 ≠ (TJ9 b).2.1 := by decide +kernel
theorem tyJ9_ok : ∀ k, k < 0 → parseFieldDescriptor (TJ9 k).2.2.1 = some (tyJ9 k) := by decide +kernel
abbrev cJ9_max_7cf53 : ByteArray := prog_14_method_65_code
def yJ9_max_7cf53 : MethodName := ⟨RJ9, "max", "(II)I"⟩
def RL : String := "TwigsAndStonesLaw"
abbrev cL_law : ByteArray := code
def yL_law : MethodName := ⟨RL, "law", "([I)Z"⟩
def wsL_law_r1 : List Cond := [Cond.classLink RL 7 RX9, Cond.instantiable RX9 8, Cond.initialized RX9, Cond.classLink RL 10 RX10, Cond.instantiable RX10 41, Cond.initialized RX10, Cond.methodLink RL 9 yX9_init, Cond.instanceMethod yX9_init, Cond.code yX9_init cX9_init 1 none, Cond.methodLink RX9 1 objectInit, Cond.instanceMethod objectInit, Cond.code objectInit ⟨#[0xb1]⟩ 1 none, Cond.classLink RX9 7 RX2, Cond.instantiable RX2 4, Cond.initialized RX2, Cond.fieldLink RX9 10 "TwigsAndStones" "net" "LTwigsAndStones$Net;", Cond.classLink RX9 16 RX6, Cond.instantiable RX6 11, Cond.initialized RX6, Cond.fieldLink RX9 21 "TwigsAndStones" "signs" "LTwigsAndStones$Signs;", Cond.classLink RX9 25 RX8, Cond.instantiable RX8 5, Cond.initialized RX8, Cond.fieldLink RX9 30 "TwigsAndStones" "walker" "LTwigsAndStones$Walker;"]
def wsL_law_r2 : List Cond := [Cond.classLink RX9 34 RX3, Cond.instantiable RX3 4, Cond.initialized RX3, Cond.fieldLink RX9 37 "TwigsAndStones" "notes" "LTwigsAndStones$Notes;", Cond.classLink RX9 41 RX4, Cond.instantiable RX4 4, Cond.initialized RX4, Cond.fieldLink RX9 46 "TwigsAndStones" "theRoute" "LTwigsAndStones$Route;", Cond.classLink RX9 50 RX7, Cond.instantiable RX7 6, Cond.initialized RX7, Cond.fieldLink RX9 55 "TwigsAndStones" "trails" "LTwigsAndStones$Trails;", Cond.classLink RX9 59 RX1, Cond.instantiable RX1 3, Cond.initialized RX1, Cond.fieldLink RX9 62 "TwigsAndStones" "fork" "LTwigsAndStones$Fork;", Cond.classLink RX9 66 RX0, Cond.instantiable RX0 4, Cond.initialized RX0, Cond.fieldLink RX9 69 "TwigsAndStones" "clubs" "LTwigsAndStones$Clubs;", Cond.instanceMethod yX2_init, Cond.code yX2_init cX2_init 1 none, Cond.methodLink RX2 3 objectInit, Cond.classLink RX2 9 RX5]
def wsL_law_r3 : List Cond := [Cond.instantiable RX5 2, Cond.initialized RX5, Cond.fieldLink RX2 14 "TwigsAndStones$Net" "firsts" "LTwigsAndStones$Row;", Cond.fieldLink RX2 20 "TwigsAndStones$Net" "seconds" "LTwigsAndStones$Row;", Cond.fieldLink RX2 23 "TwigsAndStones$Net" "lengths" "LTwigsAndStones$Row;", Cond.fieldLink RX2 30 "TwigsAndStones$Net" "pathsByPlace" "LTwigsAndStones$Row;", Cond.methodLink RX2 11 yX5_init, Cond.instanceMethod yX5_init, Cond.code yX5_init cX5_init 2 none, Cond.methodLink RX5 3 objectInit, Cond.arrayClass .int, Cond.fieldLink RX5 9 "TwigsAndStones$Row" "cells" "[I", Cond.methodLink RX2 26 yX5_filled, Cond.instanceMethod yX5_filled, Cond.selects RX5 yX5_filled yX5_filled, Cond.code yX5_filled cX5_filled 1 (some (.object "TwigsAndStones$Row")), Cond.fieldLink RX5 15 "TwigsAndStones$Row" "size" "I", Cond.methodLink RX9 18 yX6_init, Cond.instanceMethod yX6_init, Cond.code yX6_init cX6_init 2 none, Cond.methodLink RX6 3 objectInit, Cond.classLink RX6 9 RX5, Cond.fieldLink RX6 16 "TwigsAndStones$Signs" "places" "LTwigsAndStones$Row;", Cond.fieldLink RX6 20 "TwigsAndStones$Signs" "kinds" "LTwigsAndStones$Row;"]
def wsL_law_r4 : List Cond := [Cond.fieldLink RX6 23 "TwigsAndStones$Signs" "values" "LTwigsAndStones$Row;", Cond.fieldLink RX6 26 "TwigsAndStones$Signs" "lives" "LTwigsAndStones$Row;", Cond.fieldLink RX6 29 "TwigsAndStones$Signs" "laidOn" "LTwigsAndStones$Row;", Cond.fieldLink RX6 32 "TwigsAndStones$Signs" "turned" "LTwigsAndStones$Row;", Cond.fieldLink RX6 35 "TwigsAndStones$Signs" "seenBy" "LTwigsAndStones$Row;", Cond.fieldLink RX6 38 "TwigsAndStones$Signs" "day" "I", Cond.fieldLink RX6 42 "TwigsAndStones$Signs" "weatherNow" "I", Cond.fieldLink RX6 45 "TwigsAndStones$Signs" "fog" "I", Cond.fieldLink RX6 48 "TwigsAndStones$Signs" "net" "LTwigsAndStones$Net;", Cond.methodLink RX6 13 yX5_init, Cond.methodLink RX9 27 yX8_init, Cond.instanceMethod yX8_init, Cond.code yX8_init cX8_init 3 none, Cond.methodLink RX8 3 objectInit, Cond.classLink RX8 9 RX5, Cond.fieldLink RX8 16 "TwigsAndStones$Walker" "places" "LTwigsAndStones$Row;", Cond.fieldLink RX8 20 "TwigsAndStones$Walker" "ending" "I", Cond.fieldLink RX8 24 "TwigsAndStones$Walker" "length" "I", Cond.fieldLink RX8 27 "TwigsAndStones$Walker" "net" "LTwigsAndStones$Net;", Cond.fieldLink RX8 31 "TwigsAndStones$Walker" "signs" "LTwigsAndStones$Signs;", Cond.methodLink RX8 13 yX5_init, Cond.methodLink RX9 36 yX3_init, Cond.instanceMethod yX3_init, Cond.code yX3_init cX3_init 3 none]
def wsL_law_r5 : List Cond := [Cond.methodLink RX3 3 objectInit, Cond.classLink RX3 9 RX5, Cond.fieldLink RX3 16 "TwigsAndStones$Notes" "noted" "LTwigsAndStones$Row;", Cond.fieldLink RX3 26 "TwigsAndStones$Notes" "waysByArc" "LTwigsAndStones$Row;", Cond.fieldLink RX3 29 "TwigsAndStones$Notes" "net" "LTwigsAndStones$Net;", Cond.fieldLink RX3 33 "TwigsAndStones$Notes" "signs" "LTwigsAndStones$Signs;", Cond.methodLink RX3 13 yX5_init, Cond.methodLink RX3 22 yX5_filled, Cond.methodLink RX9 43 yX4_init, Cond.instanceMethod yX4_init, Cond.code yX4_init cX4_init 3 none, Cond.methodLink RX4 3 objectInit, Cond.classLink RX4 9 RX5, Cond.fieldLink RX4 16 "TwigsAndStones$Route" "places" "LTwigsAndStones$Row;", Cond.fieldLink RX4 20 "TwigsAndStones$Route" "leeway" "I", Cond.fieldLink RX4 24 "TwigsAndStones$Route" "net" "LTwigsAndStones$Net;", Cond.fieldLink RX4 28 "TwigsAndStones$Route" "walker" "LTwigsAndStones$Walker;", Cond.methodLink RX4 13 yX5_init, Cond.methodLink RX9 52 yX7_init, Cond.instanceMethod yX7_init, Cond.code yX7_init cX7_init 3 none, Cond.methodLink RX7 3 objectInit, Cond.classLink RX7 9 RX5, Cond.fieldLink RX7 20 "TwigsAndStones$Trails" "places" "LTwigsAndStones$Row;"]
def wsL_law_r6 : List Cond := [Cond.fieldLink RX7 24 "TwigsAndStones$Trails" "sizes" "LTwigsAndStones$Row;", Cond.fieldLink RX7 27 "TwigsAndStones$Trails" "falseOnes" "LTwigsAndStones$Row;", Cond.fieldLink RX7 30 "TwigsAndStones$Trails" "reach" "I", Cond.fieldLink RX7 34 "TwigsAndStones$Trails" "net" "LTwigsAndStones$Net;", Cond.fieldLink RX7 38 "TwigsAndStones$Trails" "ofGame" "LTwigsAndStones$Route;", Cond.methodLink RX7 13 yX5_init, Cond.methodLink RX7 16 yX5_filled, Cond.instanceMethod yX1_init, Cond.code yX1_init cX1_init 1 none, Cond.methodLink RX1 1 objectInit, Cond.classLink RX1 7 RX5, Cond.fieldLink RX1 14 "TwigsAndStones$Fork" "lengths" "LTwigsAndStones$Row;", Cond.fieldLink RX1 22 "TwigsAndStones$Fork" "tried" "LTwigsAndStones$Row;", Cond.fieldLink RX1 25 "TwigsAndStones$Fork" "best" "LTwigsAndStones$Row;", Cond.methodLink RX1 11 yX5_init, Cond.methodLink RX1 18 yX5_filled, Cond.instanceMethod yX0_init, Cond.code yX0_init cX0_init 1 none, Cond.methodLink RX0 3 objectInit, Cond.classLink RX0 9 RX5, Cond.fieldLink RX0 20 "TwigsAndStones$Clubs" "pathsByClub" "LTwigsAndStones$Row;", Cond.fieldLink RX0 24 "TwigsAndStones$Clubs" "toldClubs" "LTwigsAndStones$Row;", Cond.fieldLink RX0 27 "TwigsAndStones$Clubs" "toldHues" "LTwigsAndStones$Row;", Cond.fieldLink RX0 30 "TwigsAndStones$Clubs" "toldDays" "LTwigsAndStones$Row;"]
def wsL_law_r7 : List Cond := [Cond.methodLink RX0 13 yX5_init, Cond.methodLink RX0 16 yX5_filled, Cond.methodLink RL 12 yX10_init, Cond.instanceMethod yX10_init, Cond.code yX10_init cX10_init 1 none, Cond.methodLink RX10 1 objectInit, Cond.fieldLink RX10 7 "TwigsAndStonesModel" "endA" "[I", Cond.fieldLink RX10 13 "TwigsAndStonesModel" "endB" "[I", Cond.fieldLink RX10 16 "TwigsAndStonesModel" "lengthOf" "[I", Cond.fieldLink RX10 19 "TwigsAndStonesModel" "place" "[I", Cond.fieldLink RX10 22 "TwigsAndStonesModel" "kind" "[I", Cond.fieldLink RX10 25 "TwigsAndStonesModel" "value" "[I", Cond.fieldLink RX10 28 "TwigsAndStonesModel" "life" "[I", Cond.fieldLink RX10 31 "TwigsAndStonesModel" "laid" "[I", Cond.fieldLink RX10 34 "TwigsAndStonesModel" "by" "[I", Cond.arrayClass .boolean, Cond.fieldLink RX10 37 "TwigsAndStonesModel" "atStart" "[Z", Cond.fieldLink RX10 41 "TwigsAndStonesModel" "isTurned" "[Z", Cond.fieldLink RX10 44 "TwigsAndStonesModel" "reach" "I", Cond.fieldLink RX10 48 "TwigsAndStonesModel" "walkAt" "[I", Cond.fieldLink RX10 51 "TwigsAndStonesModel" "came" "[Z", Cond.fieldLink RX10 54 "TwigsAndStonesModel" "note" "[I", Cond.fieldLink RX10 57 "TwigsAndStonesModel" "goesOn" "[I", Cond.fieldLink RX10 60 "TwigsAndStonesModel" "route" "[I"]
def wsL_law_r8 : List Cond := [Cond.fieldLink RX10 63 "TwigsAndStonesModel" "trailMany" "[I", Cond.fieldLink RX10 66 "TwigsAndStonesModel" "trail" "[I", Cond.fieldLink RX10 69 "TwigsAndStonesModel" "isFalse" "[Z", Cond.fieldLink RX10 72 "TwigsAndStonesModel" "branch" "[I", Cond.fieldLink RX10 75 "TwigsAndStonesModel" "bestHound" "[I", Cond.fieldLink RX10 78 "TwigsAndStonesModel" "clubPaths" "[I", Cond.fieldLink RX10 81 "TwigsAndStonesModel" "colourClub" "[I", Cond.fieldLink RX10 84 "TwigsAndStonesModel" "colourOf" "[I", Cond.fieldLink RX10 87 "TwigsAndStonesModel" "colourDay" "[I", Cond.methodLink RL 13 yX9_path, Cond.instanceMethod yX9_path, Cond.selects RX9 yX9_path yX9_path, Cond.code yX9_path cX9_path 4 (some .int), Cond.methodLink RX9 73 yX9_isPlace, Cond.static yX9_isPlace, Cond.code yX9_isPlace cX9_isPlace 1 (some .boolean), Cond.methodLink RX9 77 yX9_isWithin, Cond.static yX9_isWithin, Cond.code yX9_isWithin cX9_isWithin 3 (some .boolean), Cond.methodLink RX9 81 yX2_joining, Cond.instanceMethod yX2_joining, Cond.selects RX2 yX2_joining yX2_joining, Cond.code yX2_joining cX2_joining 4 (some .int), Cond.methodLink RX2 44 yX2_pathsAt]
def wsL_law_r9 : List Cond := [Cond.instanceMethod yX2_pathsAt, Cond.selects RX2 yX2_pathsAt yX2_pathsAt, Cond.code yX2_pathsAt cX2_pathsAt 2 (some .int), Cond.methodLink RX2 58 yX5_get, Cond.instanceMethod yX5_get, Cond.selects RX5 yX5_get yX5_get, Cond.code yX5_get cX5_get 2 (some .int), Cond.methodLink RX2 61 yJ6_bitCount_0f7a4, Cond.static yJ6_bitCount_0f7a4, Cond.initialized RJ6, Cond.code yJ6_bitCount_0f7a4 cJ6_bitCount_0f7a4 1 (some .int), Cond.constant RJ6 265 (1431655765), Cond.constant RJ6 266 (858993459), Cond.constant RJ6 267 (252645135), Cond.methodLink RX9 85 yX2_pathCount, Cond.instanceMethod yX2_pathCount, Cond.selects RX2 yX2_pathCount yX2_pathCount, Cond.code yX2_pathCount cX2_pathCount 1 (some .int), Cond.methodLink RX2 33 yX5_size, Cond.instanceMethod yX5_size, Cond.selects RX5 yX5_size yX5_size, Cond.code yX5_size cX5_size 1 (some .int), Cond.methodLink RX9 89 yX2_join, Cond.instanceMethod yX2_join]
def wsL_law_r10 : List Cond := [Cond.selects RX2 yX2_join yX2_join, Cond.code yX2_join cX2_join 5 (some .int), Cond.methodLink RX2 37 yX2_pathCount, Cond.methodLink RX2 40 yX5_push, Cond.instanceMethod yX5_push, Cond.selects RX5 yX5_push yX5_push, Cond.code yX5_push cX5_push 2 (some .int), Cond.static yX9_bitOf, Cond.code yX9_bitOf cX9_bitOf 1 (some .int), Cond.methodLink RX2 50 yX5_put, Cond.instanceMethod yX5_put, Cond.selects RX5 yX5_put yX5_put, Cond.code yX5_put cX5_put 3 none, Cond.methodLink RL 17 yX10_path, Cond.instanceMethod yX10_path, Cond.selects RX10 yX10_path yX10_path, Cond.code yX10_path cX10_path 4 (some .int), Cond.fieldLink RX10 94 "TwigsAndStonesModel" "paths" "I", Cond.methodLink RX10 101 yX10_isPlace, Cond.static yX10_isPlace, Cond.code yX10_isPlace cX10_isPlace 1 (some .boolean), Cond.methodLink RX10 90 yX10_in, Cond.static yX10_in, Cond.code yX10_in cX10_in 3 (some .boolean)]
def wsL_law_r11 : List Cond := [Cond.methodLink RX10 105 yX10_joins, Cond.instanceMethod yX10_joins, Cond.selects RX10 yX10_joins yX10_joins, Cond.code yX10_joins cX10_joins 5 (some .int), Cond.methodLink RX10 97 yX10_isAt, Cond.instanceMethod yX10_isAt, Cond.selects RX10 yX10_isAt yX10_isAt, Cond.code yX10_isAt cX10_isAt 3 (some .boolean), Cond.methodLink RL 18 yX9_weather, Cond.instanceMethod yX9_weather, Cond.selects RX9 yX9_weather yX9_weather, Cond.code yX9_weather cX9_weather 2 (some .int), Cond.methodLink RX9 93 yX6_changeWeather, Cond.instanceMethod yX6_changeWeather, Cond.selects RX6 yX6_changeWeather yX6_changeWeather, Cond.code yX6_changeWeather cX6_changeWeather 3 (some .int), Cond.methodLink RL 22 yX10_weather, Cond.instanceMethod yX10_weather, Cond.selects RX10 yX10_weather yX10_weather, Cond.code yX10_weather cX10_weather 3 (some .int), Cond.fieldLink RX10 109 "TwigsAndStonesModel" "weather" "I", Cond.methodLink RL 23 yX9_days, Cond.instanceMethod yX9_days, Cond.selects RX9 yX9_days yX9_days]
def wsL_law_r12 : List Cond := [Cond.code yX9_days cX9_days 2 (some .int), Cond.methodLink RX9 97 yX6_today, Cond.instanceMethod yX6_today, Cond.selects RX6 yX6_today yX6_today, Cond.code yX6_today cX6_today 1 (some .int), Cond.methodLink RX9 100 yX6_letDaysGoBy, Cond.instanceMethod yX6_letDaysGoBy, Cond.selects RX6 yX6_letDaysGoBy yX6_letDaysGoBy, Cond.code yX6_letDaysGoBy cX6_letDaysGoBy 4 (some .int), Cond.methodLink RX6 66 Lib.Math.max.name, Cond.static Lib.Math.max.name, Cond.initialized "java/lang/Math", Cond.code Lib.Math.max.name Lib.Math.max.code 2 (some .int), Cond.methodLink RX6 56 yX6_signCount, Cond.instanceMethod yX6_signCount, Cond.selects RX6 yX6_signCount yX6_signCount, Cond.code yX6_signCount cX6_signCount 1 (some .int), Cond.methodLink RX6 52 yX5_size, Cond.methodLink RX6 59 yX6_kindOf, Cond.instanceMethod yX6_kindOf, Cond.selects RX6 yX6_kindOf yX6_kindOf, Cond.code yX6_kindOf cX6_kindOf 2 (some .int), Cond.methodLink RX6 63 yX5_get, Cond.methodLink RX6 72 yX5_put]
def wsL_law_r13 : List Cond := [Cond.methodLink RL 26 yX10_days, Cond.instanceMethod yX10_days, Cond.selects RX10 yX10_days yX10_days, Cond.code yX10_days cX10_days 4 (some .int), Cond.fieldLink RX10 112 "TwigsAndStonesModel" "day" "I", Cond.fieldLink RX10 115 "TwigsAndStonesModel" "signs" "I", Cond.methodLink RL 27 yX9_sign, Cond.instanceMethod yX9_sign, Cond.selects RX9 yX9_sign yX9_sign, Cond.code yX9_sign cX9_sign 7 (some .int), Cond.methodLink RX9 103 yX9_isOfPath, Cond.static yX9_isOfPath, Cond.code yX9_isOfPath cX9_isOfPath 1 (some .boolean), Cond.methodLink RX9 106 yX2_touches, Cond.instanceMethod yX2_touches, Cond.selects RX2 yX2_touches yX2_touches, Cond.code yX2_touches cX2_touches 3 (some .boolean), Cond.methodLink RX9 110 yX9_isSignValue, Cond.static yX9_isSignValue, Cond.code yX9_isSignValue cX9_isSignValue 2 (some .boolean), Cond.methodLink RX9 232 yX9_isColour, Cond.static yX9_isColour, Cond.code yX9_isColour cX9_isColour 1 (some .boolean), Cond.methodLink RX9 113 yX2_pathsAt]
def wsL_law_r14 : List Cond := [Cond.methodLink RX9 116 yX6_signCount, Cond.methodLink RX9 119 yX6_lay, Cond.instanceMethod yX6_lay, Cond.selects RX6 yX6_lay yX6_lay, Cond.code yX6_lay cX6_lay 8 (some .int), Cond.constant RX6 79 (65536), Cond.methodLink RX6 76 yX5_push, Cond.methodLink RL 31 yX10_sign, Cond.instanceMethod yX10_sign, Cond.selects RX10 yX10_sign yX10_sign, Cond.code yX10_sign cX10_sign 7 (some .int), Cond.methodLink RX10 118 yX10_pathsAt, Cond.instanceMethod yX10_pathsAt, Cond.selects RX10 yX10_pathsAt yX10_pathsAt, Cond.code yX10_pathsAt cX10_pathsAt 4 (some .int), Cond.methodLink RL 32 yX9_turn, Cond.instanceMethod yX9_turn, Cond.selects RX9 yX9_turn yX9_turn, Cond.code yX9_turn cX9_turn 3 (some .int), Cond.methodLink RX9 123 yX6_placeOf, Cond.instanceMethod yX6_placeOf, Cond.selects RX6 yX6_placeOf yX6_placeOf, Cond.code yX6_placeOf cX6_placeOf 2 (some .int), Cond.methodLink RX9 126 yX6_kindOf]
def wsL_law_r15 : List Cond := [Cond.methodLink RX9 129 yX6_isGone, Cond.instanceMethod yX6_isGone, Cond.selects RX6 yX6_isGone yX6_isGone, Cond.code yX6_isGone cX6_isGone 2 (some .boolean), Cond.methodLink RX9 132 yX6_valueOf, Cond.instanceMethod yX6_valueOf, Cond.selects RX6 yX6_valueOf yX6_valueOf, Cond.code yX6_valueOf cX6_valueOf 2 (some .int), Cond.methodLink RX9 135 yX6_pointTo, Cond.instanceMethod yX6_pointTo, Cond.selects RX6 yX6_pointTo yX6_pointTo, Cond.code yX6_pointTo cX6_pointTo 4 (some .int), Cond.methodLink RX6 80 yX6_valueOf, Cond.methodLink RL 36 yX10_turn, Cond.instanceMethod yX10_turn, Cond.selects RX10 yX10_turn yX10_turn, Cond.code yX10_turn cX10_turn 4 (some .int), Cond.methodLink RL 37 yX9_at, Cond.instanceMethod yX9_at, Cond.selects RX9 yX9_at yX9_at, Cond.code yX9_at cX9_at 3 (some .int), Cond.methodLink RX9 138 yX6_tell, Cond.instanceMethod yX6_tell, Cond.selects RX6 yX6_tell yX6_tell]
def wsL_law_r16 : List Cond := [Cond.code yX6_tell cX6_tell 3 (some .int), Cond.methodLink RX6 83 yX6_placeOf, Cond.methodLink RL 40 yX10_at, Cond.instanceMethod yX10_at, Cond.selects RX10 yX10_at yX10_at, Cond.code yX10_at cX10_at 3 (some .int), Cond.methodLink RL 41 yX9_set, Cond.instanceMethod yX9_set, Cond.selects RX9 yX9_set yX9_set, Cond.code yX9_set cX9_set 3 (some .int), Cond.methodLink RX9 141 yX6_changeFog, Cond.instanceMethod yX6_changeFog, Cond.selects RX6 yX6_changeFog yX6_changeFog, Cond.code yX6_changeFog cX6_changeFog 3 (some .int), Cond.methodLink RX9 144 yX4_changeLeeway, Cond.instanceMethod yX4_changeLeeway, Cond.selects RX4 yX4_changeLeeway yX4_changeLeeway, Cond.code yX4_changeLeeway cX4_changeLeeway 3 (some .int), Cond.methodLink RX9 147 yX7_changeReach, Cond.instanceMethod yX7_changeReach, Cond.selects RX7 yX7_changeReach yX7_changeReach, Cond.code yX7_changeReach cX7_changeReach 3 (some .int), Cond.methodLink RL 44 yX10_set, Cond.instanceMethod yX10_set]
def wsL_law_r17 : List Cond := [Cond.selects RX10 yX10_set yX10_set, Cond.code yX10_set cX10_set 4 (some .int), Cond.fieldLink RX10 122 "TwigsAndStonesModel" "fog" "I", Cond.fieldLink RX10 125 "TwigsAndStonesModel" "leeway" "I", Cond.methodLink RL 45 yX9_seen, Cond.instanceMethod yX9_seen, Cond.selects RX9 yX9_seen yX9_seen, Cond.code yX9_seen cX9_seen 3 (some .int), Cond.methodLink RX9 150 yX6_allSeen, Cond.instanceMethod yX6_allSeen, Cond.selects RX6 yX6_allSeen yX6_allSeen, Cond.code yX6_allSeen cX6_allSeen 5 (some .int), Cond.methodLink RX6 101 yX6_isSeen, Cond.instanceMethod yX6_isSeen, Cond.selects RX6 yX6_isSeen yX6_isSeen, Cond.code yX6_isSeen cX6_isSeen 5 (some .boolean), Cond.methodLink RX6 86 yX6_isGone, Cond.methodLink RX6 96 yX2_lengthOf, Cond.instanceMethod yX2_lengthOf, Cond.selects RX2 yX2_lengthOf yX2_lengthOf, Cond.code yX2_lengthOf cX2_lengthOf 2 (some .int), Cond.methodLink RL 48 yX10_seen, Cond.instanceMethod yX10_seen, Cond.selects RX10 yX10_seen yX10_seen]
def wsL_law_r18 : List Cond := [Cond.code yX10_seen cX10_seen 3 (some .int), Cond.methodLink RX10 128 yX10_seenBy, Cond.instanceMethod yX10_seenBy, Cond.selects RX10 yX10_seenBy yX10_seenBy, Cond.code yX10_seenBy cX10_seenBy 6 (some .int), Cond.methodLink RL 49 yX9_walk, Cond.instanceMethod yX9_walk, Cond.selects RX9 yX9_walk yX9_walk, Cond.code yX9_walk cX9_walk 3 (some .int), Cond.methodLink RX9 153 yX8_goFrom, Cond.instanceMethod yX8_goFrom, Cond.selects RX8 yX8_goFrom yX8_goFrom, Cond.code yX8_goFrom cX8_goFrom 8 none, Cond.methodLink RX8 69 yX5_clear, Cond.instanceMethod yX5_clear, Cond.selects RX5 yX5_clear yX5_clear, Cond.code yX5_clear cX5_clear 2 (some .int), Cond.methodLink RX8 72 yX5_push, Cond.methodLink RX8 75 yX8_choice, Cond.instanceMethod yX8_choice, Cond.selects RX8 yX8_choice yX8_choice, Cond.code yX8_choice cX8_choice 8 (some .int), Cond.methodLink RX8 35 yX6_signCount, Cond.methodLink RX8 41 yX6_isSeen]
def wsL_law_r19 : List Cond := [Cond.methodLink RX8 45 yX6_kindOf, Cond.methodLink RX8 49 yX6_valueOf, Cond.methodLink RX8 55 yX2_pathsAt, Cond.methodLink RX8 60 yX8_choiceAmong, Cond.instanceMethod yX8_choiceAmong, Cond.selects RX8 yX8_choiceAmong yX8_choiceAmong, Cond.code yX8_choiceAmong cX8_choiceAmong 4 (some .int), Cond.methodLink RX8 64 yJ6_bitCount_0f7a4, Cond.methodLink RX8 78 yX2_arcFrom, Cond.instanceMethod yX2_arcFrom, Cond.selects RX2 yX2_arcFrom yX2_arcFrom, Cond.code yX2_arcFrom cX2_arcFrom 3 (some .int), Cond.methodLink RX8 81 yX2_endOf, Cond.instanceMethod yX2_endOf, Cond.selects RX2 yX2_endOf yX2_endOf, Cond.code yX2_endOf cX2_endOf 2 (some .int), Cond.methodLink RX8 84 yX2_lengthOf, Cond.methodLink RX9 157 yX8_tell, Cond.instanceMethod yX8_tell, Cond.selects RX8 yX8_tell yX8_tell, Cond.code yX8_tell cX8_tell 2 (some .int), Cond.methodLink RX8 87 yX5_size, Cond.methodLink RX8 90 yX5_get, Cond.methodLink RL 52 yX10_walk]
def wsL_law_r20 : List Cond := [Cond.instanceMethod yX10_walk, Cond.selects RX10 yX10_walk yX10_walk, Cond.code yX10_walk cX10_walk 3 (some .int), Cond.fieldLink RX10 137 "TwigsAndStonesModel" "walkEnds" "I", Cond.fieldLink RX10 131 "TwigsAndStonesModel" "walkPaths" "I", Cond.fieldLink RX10 134 "TwigsAndStonesModel" "walkLength" "I", Cond.methodLink RX10 146 yX10_goWalk, Cond.instanceMethod yX10_goWalk, Cond.selects RX10 yX10_goWalk yX10_goWalk, Cond.code yX10_goWalk cX10_goWalk 6 none, Cond.methodLink RX10 140 yX10_goesBy, Cond.instanceMethod yX10_goesBy, Cond.selects RX10 yX10_goesBy yX10_goesBy, Cond.code yX10_goesBy cX10_goesBy 9 (some .int), Cond.methodLink RX10 143 yX10_otherEnd, Cond.instanceMethod yX10_otherEnd, Cond.selects RX10 yX10_otherEnd yX10_otherEnd, Cond.code yX10_otherEnd cX10_otherEnd 3 (some .int), Cond.methodLink RL 53 yX9_walked, Cond.instanceMethod yX9_walked, Cond.selects RX9 yX9_walked yX9_walked, Cond.code yX9_walked cX9_walked 3 (some .int), Cond.methodLink RX9 159 yX8_placeBehind, Cond.instanceMethod yX8_placeBehind]
def wsL_law_r21 : List Cond := [Cond.selects RX8 yX8_placeBehind yX8_placeBehind, Cond.code yX8_placeBehind cX8_placeBehind 2 (some .int), Cond.methodLink RL 56 yX10_walked, Cond.instanceMethod yX10_walked, Cond.selects RX10 yX10_walked yX10_walked, Cond.code yX10_walked cX10_walked 3 (some .int), Cond.methodLink RL 57 yX9_note, Cond.instanceMethod yX9_note, Cond.selects RX9 yX9_note yX9_note, Cond.code yX9_note cX9_note 2 (some .int), Cond.methodLink RX9 162 yX3_noteCount, Cond.instanceMethod yX3_noteCount, Cond.selects RX3 yX3_noteCount yX3_noteCount, Cond.code yX3_noteCount cX3_noteCount 1 (some .int), Cond.methodLink RX3 37 yX5_size, Cond.methodLink RX9 165 yX3_takeDown, Cond.instanceMethod yX3_takeDown, Cond.selects RX3 yX3_takeDown yX3_takeDown, Cond.code yX3_takeDown cX3_takeDown 2 (some .int), Cond.methodLink RX3 41 yX5_push, Cond.methodLink RL 60 yX10_note, Cond.instanceMethod yX10_note, Cond.selects RX10 yX10_note yX10_note, Cond.code yX10_note cX10_note 2 (some .int)]
def wsL_law_r22 : List Cond := [Cond.fieldLink RX10 150 "TwigsAndStonesModel" "notes" "I", Cond.methodLink RL 61 yX9_forget, Cond.instanceMethod yX9_forget, Cond.selects RX9 yX9_forget yX9_forget, Cond.code yX9_forget cX9_forget 1 (some .int), Cond.methodLink RX9 168 yX3_dropAll, Cond.instanceMethod yX3_dropAll, Cond.selects RX3 yX3_dropAll yX3_dropAll, Cond.code yX3_dropAll cX3_dropAll 1 (some .int), Cond.methodLink RX3 45 yX5_clear, Cond.methodLink RL 65 yX10_forget, Cond.instanceMethod yX10_forget, Cond.selects RX10 yX10_forget yX10_forget, Cond.code yX10_forget cX10_forget 2 (some .int), Cond.methodLink RL 66 yX9_ways, Cond.instanceMethod yX9_ways, Cond.selects RX9 yX9_ways yX9_ways, Cond.code yX9_ways cX9_ways 2 (some .int), Cond.methodLink RX9 171 yX3_waysFrom, Cond.instanceMethod yX3_waysFrom, Cond.selects RX3 yX3_waysFrom yX3_waysFrom, Cond.code yX3_waysFrom cX3_waysFrom 4 (some .int), Cond.methodLink RX3 48 yX3_noteCount, Cond.methodLink RX3 51 yX2_pathCount]
def wsL_law_r23 : List Cond := [Cond.methodLink RX3 54 yX2_endOf, Cond.methodLink RX3 57 yX3_waysOn, Cond.instanceMethod yX3_waysOn, Cond.selects RX3 yX3_waysOn yX3_waysOn, Cond.code yX3_waysOn cX3_waysOn 8 (some .int), Cond.methodLink RX3 65 yX5_get, Cond.methodLink RX3 68 yX6_kindsSeen, Cond.instanceMethod yX6_kindsSeen, Cond.selects RX6 yX6_kindsSeen yX6_kindsSeen, Cond.code yX6_kindsSeen cX6_kindsSeen 5 (some .int), Cond.methodLink RX3 74 yX3_exitsFrom, Cond.instanceMethod yX3_exitsFrom, Cond.selects RX3 yX3_exitsFrom yX3_exitsFrom, Cond.code yX3_exitsFrom cX3_exitsFrom 4 (some .int), Cond.methodLink RX3 83 yX2_pathsAt, Cond.methodLink RX3 80 yX3_waysBehind, Cond.instanceMethod yX3_waysBehind, Cond.selects RX3 yX3_waysBehind yX3_waysBehind, Cond.code yX3_waysBehind cX3_waysBehind 4 (some .int), Cond.methodLink RX3 86 yX2_arcFrom, Cond.methodLink RX3 61 yX5_put, Cond.methodLink RL 69 yX10_ways, Cond.instanceMethod yX10_ways, Cond.selects RX10 yX10_ways yX10_ways]
def wsL_law_r24 : List Cond := [Cond.code yX10_ways cX10_ways 2 (some .int), Cond.methodLink RX10 159 yX10_findWays, Cond.instanceMethod yX10_findWays, Cond.selects RX10 yX10_findWays yX10_findWays, Cond.code yX10_findWays cX10_findWays 7 none, Cond.methodLink RX10 153 yX10_isNoted, Cond.instanceMethod yX10_isNoted, Cond.selects RX10 yX10_isNoted yX10_isNoted, Cond.code yX10_isNoted cX10_isNoted 7 (some .boolean), Cond.methodLink RX10 156 yX10_mayGo, Cond.instanceMethod yX10_mayGo, Cond.selects RX10 yX10_mayGo yX10_mayGo, Cond.code yX10_mayGo cX10_mayGo 5 (some .boolean), Cond.methodLink RL 70 yX9_only, Cond.instanceMethod yX9_only, Cond.selects RX9 yX9_only yX9_only, Cond.code yX9_only cX9_only 3 (some .int), Cond.methodLink RX9 174 yX3_placeOnTheWay, Cond.instanceMethod yX3_placeOnTheWay, Cond.selects RX3 yX3_placeOnTheWay yX3_placeOnTheWay, Cond.code yX3_placeOnTheWay cX3_placeOnTheWay 6 (some .int), Cond.methodLink RX3 89 yX3_pathOn, Cond.instanceMethod yX3_pathOn, Cond.selects RX3 yX3_pathOn yX3_pathOn]
def wsL_law_r25 : List Cond := [Cond.code yX3_pathOn cX3_pathOn 6 (some .int), Cond.methodLink RX3 92 yX2_otherEnd, Cond.instanceMethod yX2_otherEnd, Cond.selects RX2 yX2_otherEnd yX2_otherEnd, Cond.code yX2_otherEnd cX2_otherEnd 3 (some .int), Cond.methodLink RX2 66 yX2_arcFrom, Cond.methodLink RX2 70 yX2_endOf, Cond.methodLink RL 73 yX10_only, Cond.instanceMethod yX10_only, Cond.selects RX10 yX10_only yX10_only, Cond.code yX10_only cX10_only 9 (some .int), Cond.methodLink RL 74 yX9_route, Cond.instanceMethod yX9_route, Cond.selects RX9 yX9_route yX9_route, Cond.code yX9_route cX9_route 2 (some .int), Cond.methodLink RX9 177 yX4_mayGoOnTo, Cond.instanceMethod yX4_mayGoOnTo, Cond.selects RX4 yX4_mayGoOnTo yX4_mayGoOnTo, Cond.code yX4_mayGoOnTo cX4_mayGoOnTo 2 (some .boolean), Cond.methodLink RX4 40 yX4_placeCount, Cond.instanceMethod yX4_placeCount, Cond.selects RX4 yX4_placeCount yX4_placeCount, Cond.code yX4_placeCount cX4_placeCount 1 (some .int), Cond.methodLink RX4 32 yX5_size]
def wsL_law_r26 : List Cond := [Cond.methodLink RX4 43 yX4_passes, Cond.instanceMethod yX4_passes, Cond.selects RX4 yX4_passes yX4_passes, Cond.code yX4_passes cX4_passes 2 (some .boolean), Cond.methodLink RX4 36 yX5_has, Cond.instanceMethod yX5_has, Cond.selects RX5 yX5_has yX5_has, Cond.code yX5_has cX5_has 3 (some .boolean), Cond.methodLink RX5 19 yX5_get, Cond.methodLink RX4 46 yX5_get, Cond.methodLink RX4 50 yX2_joining, Cond.methodLink RX9 180 yX4_placeCount, Cond.methodLink RX9 183 yX4_goOnTo, Cond.instanceMethod yX4_goOnTo, Cond.selects RX4 yX4_goOnTo yX4_goOnTo, Cond.code yX4_goOnTo cX4_goOnTo 2 (some .int), Cond.methodLink RX4 56 yX5_push, Cond.methodLink RL 77 yX10_route, Cond.instanceMethod yX10_route, Cond.selects RX10 yX10_route yX10_route, Cond.code yX10_route cX10_route 3 (some .int), Cond.fieldLink RX10 162 "TwigsAndStonesModel" "routes" "I", Cond.methodLink RL 78 yX9_unroute, Cond.instanceMethod yX9_unroute]
def wsL_law_r27 : List Cond := [Cond.selects RX9 yX9_unroute yX9_unroute, Cond.code yX9_unroute cX9_unroute 1 (some .int), Cond.methodLink RX9 186 yX4_dropAll, Cond.instanceMethod yX4_dropAll, Cond.selects RX4 yX4_dropAll yX4_dropAll, Cond.code yX4_dropAll cX4_dropAll 1 (some .int), Cond.methodLink RX4 59 yX5_clear, Cond.methodLink RL 81 yX10_unroute, Cond.instanceMethod yX10_unroute, Cond.selects RX10 yX10_unroute yX10_unroute, Cond.code yX10_unroute cX10_unroute 2 (some .int), Cond.methodLink RL 82 yX9_needed, Cond.instanceMethod yX9_needed, Cond.selects RX9 yX9_needed yX9_needed, Cond.code yX9_needed cX9_needed 2 (some .int), Cond.methodLink RX9 187 yX4_marksNeeded, Cond.instanceMethod yX4_marksNeeded, Cond.selects RX4 yX4_marksNeeded yX4_marksNeeded, Cond.code yX4_marksNeeded cX4_marksNeeded 8 (some .int), Cond.methodLink RX4 62 yX4_mayGoBadlyWrong, Cond.instanceMethod yX4_mayGoBadlyWrong, Cond.selects RX4 yX4_mayGoBadlyWrong yX4_mayGoBadlyWrong, Cond.code yX4_mayGoBadlyWrong cX4_mayGoBadlyWrong 6 (some .boolean), Cond.methodLink RX4 71 yX2_pathsAt]
def wsL_law_r28 : List Cond := [Cond.methodLink RX4 77 yX2_pathCount, Cond.methodLink RX4 80 yX4_isHarmless, Cond.instanceMethod yX4_isHarmless, Cond.selects RX4 yX4_isHarmless yX4_isHarmless, Cond.code yX4_isHarmless cX4_isHarmless 4 (some .boolean), Cond.methodLink RX4 84 yX2_otherEnd, Cond.methodLink RX4 87 yX2_lengthOf, Cond.methodLink RX4 66 yX8_choice, Cond.methodLink RL 85 yX10_needed, Cond.instanceMethod yX10_needed, Cond.selects RX10 yX10_needed yX10_needed, Cond.code yX10_needed cX10_needed 6 (some .int), Cond.methodLink RX10 168 yX10_isNeeded, Cond.instanceMethod yX10_isNeeded, Cond.selects RX10 yX10_isNeeded yX10_isNeeded, Cond.code yX10_isNeeded cX10_isNeeded 8 (some .boolean), Cond.methodLink RX10 165 yX10_isHarmless, Cond.instanceMethod yX10_isHarmless, Cond.selects RX10 yX10_isHarmless yX10_isHarmless, Cond.code yX10_isHarmless cX10_isHarmless 3 (some .boolean), Cond.methodLink RL 86 yX9_trail, Cond.instanceMethod yX9_trail, Cond.selects RX9 yX9_trail yX9_trail, Cond.code yX9_trail cX9_trail 3 (some .int)]
def wsL_law_r29 : List Cond := [Cond.methodLink RX9 190 yX7_trailCount, Cond.instanceMethod yX7_trailCount, Cond.selects RX7 yX7_trailCount yX7_trailCount, Cond.code yX7_trailCount cX7_trailCount 1 (some .int), Cond.methodLink RX7 42 yX5_size, Cond.methodLink RX9 193 yX7_begin, Cond.instanceMethod yX7_begin, Cond.selects RX7 yX7_begin yX7_begin, Cond.code yX7_begin cX7_begin 4 (some .int), Cond.methodLink RX7 50 yX7_trailCount, Cond.methodLink RX7 53 yX5_push, Cond.methodLink RX7 56 yX7_goOnTo, Cond.instanceMethod yX7_goOnTo, Cond.selects RX7 yX7_goOnTo yX7_goOnTo, Cond.code yX7_goOnTo cX7_goOnTo 4 (some .int), Cond.methodLink RX7 60 yX7_sizeOf, Cond.instanceMethod yX7_sizeOf, Cond.selects RX7 yX7_sizeOf yX7_sizeOf, Cond.code yX7_sizeOf cX7_sizeOf 2 (some .int), Cond.methodLink RX7 46 yX5_get, Cond.methodLink RX7 74 yX5_put, Cond.methodLink RL 90 yX10_trail, Cond.instanceMethod yX10_trail, Cond.selects RX10 yX10_trail yX10_trail]
def wsL_law_r30 : List Cond := [Cond.code yX10_trail cX10_trail 3 (some .int), Cond.fieldLink RX10 171 "TwigsAndStonesModel" "trails" "I", Cond.methodLink RL 91 yX9_add, Cond.instanceMethod yX9_add, Cond.selects RX9 yX9_add yX9_add, Cond.code yX9_add cX9_add 3 (some .int), Cond.methodLink RX9 197 yX7_mayGoOnTo, Cond.instanceMethod yX7_mayGoOnTo, Cond.selects RX7 yX7_mayGoOnTo yX7_mayGoOnTo, Cond.code yX7_mayGoOnTo cX7_mayGoOnTo 4 (some .boolean), Cond.methodLink RX7 63 yX7_placeAt, Cond.instanceMethod yX7_placeAt, Cond.selects RX7 yX7_placeAt yX7_placeAt, Cond.code yX7_placeAt cX7_placeAt 3 (some .int), Cond.methodLink RX7 66 yX7_indexOf, Cond.instanceMethod yX7_indexOf, Cond.selects RX7 yX7_indexOf yX7_indexOf, Cond.code yX7_indexOf cX7_indexOf 4 (some .int), Cond.methodLink RX7 69 yX2_joining, Cond.methodLink RX9 199 yX7_sizeOf, Cond.methodLink RX9 202 yX7_goOnTo, Cond.methodLink RL 94 yX10_add, Cond.instanceMethod yX10_add, Cond.selects RX10 yX10_add yX10_add]
def wsL_law_r31 : List Cond := [Cond.code yX10_add cX10_add 5 (some .int), Cond.methodLink RL 95 yX9_breaks, Cond.instanceMethod yX9_breaks, Cond.selects RX9 yX9_breaks yX9_breaks, Cond.code yX9_breaks cX9_breaks 2 (some .int), Cond.methodLink RX9 204 yX7_faultsOf, Cond.instanceMethod yX7_faultsOf, Cond.selects RX7 yX7_faultsOf yX7_faultsOf, Cond.code yX7_faultsOf cX7_faultsOf 4 (some .int), Cond.methodLink RX7 78 yX7_isFalse, Cond.instanceMethod yX7_isFalse, Cond.selects RX7 yX7_isFalse yX7_isFalse, Cond.code yX7_isFalse cX7_isFalse 2 (some .boolean), Cond.methodLink RX7 82 yX4_passes, Cond.methodLink RX7 87 yX7_comesBackToRoute, Cond.instanceMethod yX7_comesBackToRoute, Cond.selects RX7 yX7_comesBackToRoute yX7_comesBackToRoute, Cond.code yX7_comesBackToRoute cX7_comesBackToRoute 3 (some .boolean), Cond.methodLink RX7 90 yX7_wholeLength, Cond.instanceMethod yX7_wholeLength, Cond.selects RX7 yX7_wholeLength yX7_wholeLength, Cond.code yX7_wholeLength cX7_wholeLength 4 (some .int), Cond.methodLink RX7 97 yX2_lengthOf, Cond.methodLink RX7 93 yX7_crosses]
def wsL_law_r32 : List Cond := [Cond.instanceMethod yX7_crosses, Cond.selects RX7 yX7_crosses yX7_crosses, Cond.code yX7_crosses cX7_crosses 5 (some .boolean), Cond.methodLink RL 98 yX10_breaks, Cond.instanceMethod yX10_breaks, Cond.selects RX10 yX10_breaks yX10_breaks, Cond.code yX10_breaks cX10_breaks 5 (some .int), Cond.methodLink RX10 174 yX10_isOnRoute, Cond.instanceMethod yX10_isOnRoute, Cond.selects RX10 yX10_isOnRoute yX10_isOnRoute, Cond.code yX10_isOnRoute cX10_isOnRoute 4 (some .boolean), Cond.methodLink RX10 177 yX10_doCross, Cond.instanceMethod yX10_doCross, Cond.selects RX10 yX10_doCross yX10_doCross, Cond.code yX10_doCross cX10_doCross 6 (some .boolean), Cond.methodLink RL 99 yX9_branch, Cond.instanceMethod yX9_branch, Cond.selects RX9 yX9_branch yX9_branch, Cond.code yX9_branch cX9_branch 2 (some .int), Cond.methodLink RX9 207 yX1_branchCount, Cond.instanceMethod yX1_branchCount, Cond.selects RX1 yX1_branchCount yX1_branchCount, Cond.code yX1_branchCount cX1_branchCount 1 (some .int), Cond.methodLink RX1 28 yX5_size]
def wsL_law_r33 : List Cond := [Cond.methodLink RX9 210 yX1_grow, Cond.instanceMethod yX1_grow, Cond.selects RX1 yX1_grow yX1_grow, Cond.code yX1_grow cX1_grow 2 (some .int), Cond.methodLink RX1 32 yX5_push, Cond.methodLink RL 102 yX10_branch, Cond.instanceMethod yX10_branch, Cond.selects RX10 yX10_branch yX10_branch, Cond.code yX10_branch cX10_branch 2 (some .int), Cond.fieldLink RX10 180 "TwigsAndStonesModel" "branches" "I", Cond.methodLink RL 103 yX9_unbranch, Cond.instanceMethod yX9_unbranch, Cond.selects RX9 yX9_unbranch yX9_unbranch, Cond.code yX9_unbranch cX9_unbranch 1 (some .int), Cond.methodLink RX9 213 yX1_dropAll, Cond.instanceMethod yX1_dropAll, Cond.selects RX1 yX1_dropAll yX1_dropAll, Cond.code yX1_dropAll cX1_dropAll 1 (some .int), Cond.methodLink RX1 36 yX5_clear, Cond.methodLink RL 106 yX10_unbranch, Cond.instanceMethod yX10_unbranch, Cond.selects RX10 yX10_unbranch yX10_unbranch, Cond.code yX10_unbranch cX10_unbranch 2 (some .int), Cond.methodLink RL 107 yX9_worst]
def wsL_law_r34 : List Cond := [Cond.instanceMethod yX9_worst, Cond.selects RX9 yX9_worst yX9_worst, Cond.code yX9_worst cX9_worst 2 (some .int), Cond.methodLink RX9 214 yX1_findBestSplit, Cond.instanceMethod yX1_findBestSplit, Cond.selects RX1 yX1_findBestSplit yX1_findBestSplit, Cond.code yX1_findBestSplit cX1_findBestSplit 5 (some .int), Cond.methodLink RX1 42 yX1_branchCount, Cond.methodLink RX1 45 yX5_put, Cond.methodLink RX1 49 yX1_worstTime, Cond.instanceMethod yX1_worstTime, Cond.selects RX1 yX1_worstTime yX1_worstTime, Cond.code yX1_worstTime cX1_worstTime 8 (some .int), Cond.methodLink RX1 59 Lib.Math.max.name, Cond.methodLink RX1 39 yX5_get, Cond.methodLink RX1 52 yX1_keepTried, Cond.instanceMethod yX1_keepTried, Cond.selects RX1 yX1_keepTried yX1_keepTried, Cond.code yX1_keepTried cX1_keepTried 2 none, Cond.methodLink RX1 55 yX1_takeNextSplit, Cond.instanceMethod yX1_takeNextSplit, Cond.selects RX1 yX1_takeNextSplit yX1_takeNextSplit, Cond.code yX1_takeNextSplit cX1_takeNextSplit 4 (some .boolean), Cond.methodLink RL 110 yX10_worst]
def wsL_law_r35 : List Cond := [Cond.instanceMethod yX10_worst, Cond.selects RX10 yX10_worst yX10_worst, Cond.code yX10_worst cX10_worst 2 (some .int), Cond.fieldLink RX10 187 "TwigsAndStonesModel" "bestWorst" "I", Cond.methodLink RX10 193 yX10_findSplit, Cond.instanceMethod yX10_findSplit, Cond.selects RX10 yX10_findSplit yX10_findSplit, Cond.code yX10_findSplit cX10_findSplit 8 (some .int), Cond.methodLink RX10 190 yX10_foundAt, Cond.instanceMethod yX10_foundAt, Cond.selects RX10 yX10_foundAt yX10_foundAt, Cond.code yX10_foundAt cX10_foundAt 7 (some .int), Cond.methodLink RX10 183 yX10_houndOf, Cond.instanceMethod yX10_houndOf, Cond.selects RX10 yX10_houndOf yX10_houndOf, Cond.code yX10_houndOf cX10_houndOf 6 (some .int), Cond.methodLink RL 111 yX9_split, Cond.instanceMethod yX9_split, Cond.selects RX9 yX9_split yX9_split, Cond.code yX9_split cX9_split 4 (some .int), Cond.methodLink RX9 217 yX1_houndOf, Cond.instanceMethod yX1_houndOf, Cond.selects RX1 yX1_houndOf yX1_houndOf, Cond.code yX1_houndOf cX1_houndOf 2 (some .int)]
def wsL_law_r36 : List Cond := [Cond.methodLink RX9 220 yX1_timeOf, Cond.instanceMethod yX1_timeOf, Cond.selects RX1 yX1_timeOf yX1_timeOf, Cond.code yX1_timeOf cX1_timeOf 4 (some .int), Cond.methodLink RX1 65 yX1_houndOf, Cond.methodLink RX1 68 yX1_comesBefore, Cond.instanceMethod yX1_comesBefore, Cond.selects RX1 yX1_comesBefore yX1_comesBefore, Cond.code yX1_comesBefore cX1_comesBefore 4 (some .boolean), Cond.methodLink RL 114 yX10_split, Cond.instanceMethod yX10_split, Cond.selects RX10 yX10_split yX10_split, Cond.code yX10_split cX10_split 5 (some .int), Cond.methodLink RL 115 yX9_club, Cond.instanceMethod yX9_club, Cond.selects RX9 yX9_club yX9_club, Cond.code yX9_club cX9_club 3 (some .int), Cond.methodLink RX9 223 yX9_isClub, Cond.static yX9_isClub, Cond.code yX9_isClub cX9_isClub 1 (some .boolean), Cond.methodLink RX9 226 yX2_allPaths, Cond.instanceMethod yX2_allPaths, Cond.selects RX2 yX2_allPaths yX2_allPaths, Cond.code yX2_allPaths cX2_allPaths 1 (some .int)]
def wsL_law_r37 : List Cond := [Cond.methodLink RX9 229 yX0_changePaths, Cond.instanceMethod yX0_changePaths, Cond.selects RX0 yX0_changePaths yX0_changePaths, Cond.code yX0_changePaths cX0_changePaths 4 (some .int), Cond.methodLink RX0 33 yX5_get, Cond.methodLink RX0 37 yX5_put, Cond.methodLink RL 118 yX10_club, Cond.instanceMethod yX10_club, Cond.selects RX10 yX10_club yX10_club, Cond.code yX10_club cX10_club 4 (some .int), Cond.methodLink RL 119 yX9_colour, Cond.instanceMethod yX9_colour, Cond.selects RX9 yX9_colour yX9_colour, Cond.code yX9_colour cX9_colour 4 (some .int), Cond.methodLink RX9 235 yX0_toldColours, Cond.instanceMethod yX0_toldColours, Cond.selects RX0 yX0_toldColours yX0_toldColours, Cond.code yX0_toldColours cX0_toldColours 1 (some .int), Cond.methodLink RX0 41 yX5_size, Cond.methodLink RX9 238 yX0_tellColour, Cond.instanceMethod yX0_tellColour, Cond.selects RX0 yX0_tellColour yX0_tellColour, Cond.code yX0_tellColour cX0_tellColour 4 (some .int), Cond.methodLink RX0 45 yX5_push]
def wsL_law_r38 : List Cond := [Cond.methodLink RL 122 yX10_colour, Cond.instanceMethod yX10_colour, Cond.selects RX10 yX10_colour yX10_colour, Cond.code yX10_colour cX10_colour 4 (some .int), Cond.fieldLink RX10 196 "TwigsAndStonesModel" "colours" "I", Cond.methodLink RL 123 yX9_whose, Cond.instanceMethod yX9_whose, Cond.selects RX9 yX9_whose yX9_whose, Cond.code yX9_whose cX9_whose 5 (some .int), Cond.methodLink RX9 241 yX0_ownersOf, Cond.instanceMethod yX0_ownersOf, Cond.selects RX0 yX0_ownersOf yX0_ownersOf, Cond.code yX0_ownersOf cX0_ownersOf 9 (some .int), Cond.methodLink RX0 48 yX0_lastHue, Cond.instanceMethod yX0_lastHue, Cond.selects RX0 yX0_lastHue yX0_lastHue, Cond.code yX0_lastHue cX0_lastHue 7 (some .int), Cond.methodLink RX0 59 yX0_toldColours, Cond.methodLink RX0 52 yX0_everHad, Cond.instanceMethod yX0_everHad, Cond.selects RX0 yX0_everHad yX0_everHad, Cond.code yX0_everHad cX0_everHad 5 (some .boolean), Cond.methodLink RL 127 yX10_whose, Cond.instanceMethod yX10_whose]
def wsL_law_r39 : List Cond := [Cond.selects RX10 yX10_whose yX10_whose, Cond.code yX10_whose cX10_whose 8 (some .int), Cond.methodLink RX10 199 yX10_colourTo, Cond.instanceMethod yX10_colourTo, Cond.selects RX10 yX10_colourTo yX10_colourTo, Cond.code yX10_colourTo cX10_colourTo 7 (some .int), Cond.methodLink RL 128 yX9_count, Cond.instanceMethod yX9_count, Cond.selects RX9 yX9_count yX9_count, Cond.code yX9_count cX9_count 2 (some .int), Cond.methodLink RX9 245 yX6_countLeft, Cond.instanceMethod yX6_countLeft, Cond.selects RX6 yX6_countLeft yX6_countLeft, Cond.code yX6_countLeft cX6_countLeft 3 (some .int), Cond.methodLink RL 131 yX10_count, Cond.instanceMethod yX10_count, Cond.selects RX10 yX10_count yX10_count, Cond.code yX10_count cX10_count 4 (some .int)]
def wsL_law : List Cond := (wsL_law_r1 ++ (wsL_law_r2 ++ (wsL_law_r3 ++ (wsL_law_r4 ++ (wsL_law_r5 ++ (wsL_law_r6 ++ (wsL_law_r7 ++ (wsL_law_r8 ++ (wsL_law_r9 ++ (wsL_law_r10 ++ (wsL_law_r11 ++ (wsL_law_r12 ++ (wsL_law_r13 ++ (wsL_law_r14 ++ (wsL_law_r15 ++ (wsL_law_r16 ++ (wsL_law_r17 ++ (wsL_law_r18 ++ (wsL_law_r19 ++ (wsL_law_r20 ++ (wsL_law_r21 ++ (wsL_law_r22 ++ (wsL_law_r23 ++ (wsL_law_r24 ++ (wsL_law_r25 ++ (wsL_law_r26 ++ (wsL_law_r27 ++ (wsL_law_r28 ++ (wsL_law_r29 ++ (wsL_law_r30 ++ (wsL_law_r31 ++ (wsL_law_r32 ++ (wsL_law_r33 ++ (wsL_law_r34 ++ (wsL_law_r35 ++ (wsL_law_r36 ++ (wsL_law_r37 ++ (wsL_law_r38 ++ wsL_law_r39)))))))))))))))))))))))))))))))))))))) ++ wsX90 ++ wsX100 ++ wsX20 ++ wsX60 ++ wsX80 ++ wsX30 ++ wsX40 ++ wsX70 ++ wsX10 ++ wsX00 ++ wsX50 ++ ([] : List Cond)
set_option maxRecDepth 20000 in
theorem gr_1 : GoodIn lw_tbl wsL_law_r1 := goodIn_r _ [51, 52, 38, 853, 854, 48, 53, 54, 55, 56, 57, 58, 59, 60, 39, 274, 96, 97, 41, 275, 138, 139, 42, 276] (by decide +kernel) (by decide +kernel)
set_option maxRecDepth 20000 in
theorem gr_2 : GoodIn lw_tbl wsL_law_r2 := goodIn_r _ [162, 163, 43, 277, 184, 185, 44, 278, 205, 206, 45, 279, 233, 234, 46, 280, 252, 253, 47, 281, 62, 63, 64, 65] (by decide +kernel) (by decide +kernel)
set_option maxRecDepth 20000 in
theorem gr_3 : GoodIn lw_tbl wsL_law_r3 := goodIn_r _ [66, 40, 83, 84, 85, 86, 67, 68, 69, 70, 78, 71, 79, 80, 81, 82, 72, 98, 99, 100, 101, 102, 105, 106] (by decide +kernel) (by decide +kernel)
set_option maxRecDepth 20000 in
theorem gr_4 : GoodIn lw_tbl wsL_law_r4 := goodIn_r _ [107, 108, 109, 110, 111, 112, 113, 114, 104, 103, 140, 141, 142, 143, 144, 148, 149, 150, 146, 147, 145, 164, 165, 166] (by decide +kernel) (by decide +kernel)
set_option maxRecDepth 20000 in
theorem gr_5 : GoodIn lw_tbl wsL_law_r5 := goodIn_r _ [167, 168, 173, 174, 171, 172, 169, 170, 186, 187, 188, 189, 190, 194, 195, 192, 193, 191, 207, 208, 209, 210, 211, 216] (by decide +kernel) (by decide +kernel)
set_option maxRecDepth 20000 in
theorem gr_6 : GoodIn lw_tbl wsL_law_r6 := goodIn_r _ [217, 218, 219, 214, 215, 212, 213, 236, 237, 238, 239, 242, 243, 244, 240, 241, 255, 256, 257, 258, 261, 262, 263, 264] (by decide +kernel) (by decide +kernel)
set_option maxRecDepth 20000 in
theorem gr_7 : GoodIn lw_tbl wsL_law_r7 := goodIn_r _ [259, 260, 855, 856, 857, 858, 860, 861, 862, 866, 867, 868, 869, 870, 871, 983, 872, 873, 876, 880, 881, 883, 884, 886] (by decide +kernel) (by decide +kernel)
set_option maxRecDepth 20000 in
theorem gr_8 : GoodIn lw_tbl wsL_law_r8 := goodIn_r _ [888, 889, 890, 892, 894, 895, 897, 898, 899, 299, 300, 301, 302, 303, 304, 305, 306, 307, 308, 309, 310, 311, 312, 313] (by decide +kernel) (by decide +kernel)
set_option maxRecDepth 20000 in
theorem gr_9 : GoodIn lw_tbl wsL_law_r9 := goodIn_r _ [314, 315, 316, 318, 319, 320, 321, 322, 323, 49, 324, 325, 326, 327, 328, 329, 330, 331, 332, 333, 334, 335, 336, 337] (by decide +kernel) (by decide +kernel)
set_option maxRecDepth 20000 in
theorem gr_10 : GoodIn lw_tbl wsL_law_r10 := goodIn_r _ [338, 339, 340, 341, 342, 343, 344, 346, 347, 348, 349, 350, 351, 984, 985, 986, 987, 859, 988, 989, 990, 991, 992, 993] (by decide +kernel) (by decide +kernel)
set_option maxRecDepth 20000 in
theorem gr_11 : GoodIn lw_tbl wsL_law_r11 := goodIn_r _ [994, 996, 19, 997, 998, 1000, 20, 1001, 352, 353, 354, 355, 356, 357, 358, 359, 1002, 1003, 1004, 1005, 864, 360, 361, 362] (by decide +kernel) (by decide +kernel)
set_option maxRecDepth 20000 in
theorem gr_12 : GoodIn lw_tbl wsL_law_r12 := goodIn_r _ [363, 364, 365, 366, 367, 368, 369, 370, 371, 382, 383, 50, 384, 372, 373, 374, 375, 376, 377, 378, 379, 380, 381, 385] (by decide +kernel) (by decide +kernel)
set_option maxRecDepth 20000 in
theorem gr_13 : GoodIn lw_tbl wsL_law_r13 := goodIn_r _ [1006, 1007, 1008, 1009, 863, 865, 386, 387, 388, 389, 390, 391, 392, 393, 394, 395, 396, 397, 398, 399, 400, 401, 402, 403] (by decide +kernel) (by decide +kernel)
set_option maxRecDepth 20000 in
theorem gr_14 : GoodIn lw_tbl wsL_law_r14 := goodIn_r _ [404, 405, 406, 407, 408, 410, 409, 1010, 1011, 1012, 1013, 1014, 1016, 21, 1017, 411, 412, 413, 414, 415, 416, 417, 418, 419] (by decide +kernel) (by decide +kernel)
set_option maxRecDepth 20000 in
theorem gr_15 : GoodIn lw_tbl wsL_law_r15 := goodIn_r _ [420, 421, 422, 423, 424, 425, 426, 427, 428, 429, 430, 431, 432, 1018, 1019, 1020, 1021, 433, 434, 435, 436, 437, 438, 439] (by decide +kernel) (by decide +kernel)
set_option maxRecDepth 20000 in
theorem gr_16 : GoodIn lw_tbl wsL_law_r16 := goodIn_r _ [440, 441, 1022, 1023, 1024, 1025, 442, 443, 444, 445, 446, 447, 448, 449, 450, 451, 452, 453, 454, 455, 456, 457, 1026, 1027] (by decide +kernel) (by decide +kernel)
set_option maxRecDepth 20000 in
theorem gr_17 : GoodIn lw_tbl wsL_law_r17 := goodIn_r _ [1028, 1029, 874, 875, 458, 459, 460, 461, 462, 463, 464, 465, 466, 467, 468, 469, 470, 473, 474, 475, 476, 1030, 1031, 1032] (by decide +kernel) (by decide +kernel)
set_option maxRecDepth 20000 in
theorem gr_18 : GoodIn lw_tbl wsL_law_r18 := goodIn_r _ [1033, 1034, 1036, 22, 1037, 477, 478, 479, 480, 481, 482, 483, 484, 485, 486, 487, 488, 489, 490, 491, 492, 493, 494, 495] (by decide +kernel) (by decide +kernel)
set_option maxRecDepth 20000 in
theorem gr_19 : GoodIn lw_tbl wsL_law_r19 := goodIn_r _ [496, 497, 499, 500, 502, 0, 503, 504, 505, 506, 507, 508, 509, 510, 511, 512, 513, 514, 515, 516, 517, 518, 519, 1038] (by decide +kernel) (by decide +kernel)
set_option maxRecDepth 20000 in
theorem gr_20 : GoodIn lw_tbl wsL_law_r20 := goodIn_r _ [1039, 1040, 1041, 877, 878, 879, 1042, 1044, 23, 1045, 1046, 1048, 24, 1049, 1050, 1052, 25, 1053, 520, 521, 522, 523, 524, 525] (by decide +kernel) (by decide +kernel)
set_option maxRecDepth 20000 in
theorem gr_21 : GoodIn lw_tbl wsL_law_r21 := goodIn_r _ [526, 527, 1054, 1055, 1056, 1057, 528, 529, 530, 531, 532, 533, 534, 535, 536, 537, 538, 539, 540, 541, 1058, 1059, 1060, 1061] (by decide +kernel) (by decide +kernel)
set_option maxRecDepth 20000 in
theorem gr_22 : GoodIn lw_tbl wsL_law_r22 := goodIn_r _ [882, 542, 543, 544, 545, 546, 547, 548, 549, 550, 1062, 1063, 1064, 1065, 551, 552, 553, 554, 555, 556, 557, 558, 559, 560] (by decide +kernel) (by decide +kernel)
set_option maxRecDepth 20000 in
theorem gr_23 : GoodIn lw_tbl wsL_law_r23 := goodIn_r _ [561, 562, 564, 1, 565, 566, 567, 568, 569, 570, 571, 573, 2, 574, 575, 577, 579, 3, 580, 581, 582, 1066, 1067, 1068] (by decide +kernel) (by decide +kernel)
set_option maxRecDepth 20000 in
theorem gr_24 : GoodIn lw_tbl wsL_law_r24 := goodIn_r _ [1069, 1070, 1072, 26, 1073, 1074, 1076, 27, 1077, 1078, 1080, 28, 1081, 583, 584, 585, 586, 587, 588, 589, 590, 591, 593, 4] (by decide +kernel) (by decide +kernel)
set_option maxRecDepth 20000 in
theorem gr_25 : GoodIn lw_tbl wsL_law_r25 := goodIn_r _ [594, 595, 596, 597, 598, 599, 600, 1082, 1083, 1084, 1085, 601, 602, 603, 604, 605, 606, 607, 608, 609, 610, 611, 612, 613] (by decide +kernel) (by decide +kernel)
set_option maxRecDepth 20000 in
theorem gr_26 : GoodIn lw_tbl wsL_law_r26 := goodIn_r _ [614, 615, 616, 617, 618, 619, 620, 621, 622, 623, 624, 625, 626, 627, 628, 629, 630, 1086, 1087, 1088, 1089, 885, 631, 632] (by decide +kernel) (by decide +kernel)
set_option maxRecDepth 20000 in
theorem gr_27 : GoodIn lw_tbl wsL_law_r27 := goodIn_r _ [633, 634, 635, 636, 637, 638, 639, 1090, 1091, 1092, 1093, 640, 641, 642, 643, 644, 645, 646, 647, 648, 650, 5, 651, 652] (by decide +kernel) (by decide +kernel)
set_option maxRecDepth 20000 in
theorem gr_28 : GoodIn lw_tbl wsL_law_r28 := goodIn_r _ [654, 655, 657, 6, 658, 659, 660, 661, 1094, 1095, 1096, 1097, 1098, 1100, 29, 1101, 1102, 1104, 30, 1105, 662, 663, 664, 665] (by decide +kernel) (by decide +kernel)
set_option maxRecDepth 20000 in
theorem gr_29 : GoodIn lw_tbl wsL_law_r29 := goodIn_r _ [666, 667, 668, 669, 670, 671, 672, 673, 674, 675, 676, 677, 678, 679, 680, 681, 682, 683, 684, 685, 686, 1106, 1107, 1108] (by decide +kernel) (by decide +kernel)
set_option maxRecDepth 20000 in
theorem gr_30 : GoodIn lw_tbl wsL_law_r30 := goodIn_r _ [1109, 887, 687, 688, 689, 690, 691, 692, 693, 694, 695, 697, 7, 698, 699, 701, 8, 702, 703, 704, 705, 1110, 1111, 1112] (by decide +kernel) (by decide +kernel)
set_option maxRecDepth 20000 in
theorem gr_31 : GoodIn lw_tbl wsL_law_r31 := goodIn_r _ [1113, 706, 707, 708, 709, 710, 711, 712, 713, 714, 716, 9, 717, 718, 719, 721, 10, 722, 723, 725, 11, 726, 727, 728] (by decide +kernel) (by decide +kernel)
set_option maxRecDepth 20000 in
theorem gr_32 : GoodIn lw_tbl wsL_law_r32 := goodIn_r _ [730, 12, 731, 1114, 1115, 1116, 1117, 1118, 1120, 31, 1121, 1122, 1124, 32, 1125, 732, 733, 734, 735, 736, 737, 738, 739, 740] (by decide +kernel) (by decide +kernel)
set_option maxRecDepth 20000 in
theorem gr_33 : GoodIn lw_tbl wsL_law_r33 := goodIn_r _ [741, 742, 743, 744, 745, 1126, 1127, 1128, 1129, 891, 746, 747, 748, 749, 750, 751, 752, 753, 754, 1130, 1131, 1132, 1133, 755] (by decide +kernel) (by decide +kernel)
set_option maxRecDepth 20000 in
theorem gr_34 : GoodIn lw_tbl wsL_law_r34 := goodIn_r _ [756, 757, 758, 759, 760, 761, 762, 763, 764, 765, 767, 13, 768, 770, 769, 771, 773, 14, 774, 775, 777, 15, 778, 1134] (by decide +kernel) (by decide +kernel)
set_option maxRecDepth 20000 in
theorem gr_35 : GoodIn lw_tbl wsL_law_r35 := goodIn_r _ [1135, 1136, 1137, 893, 1138, 1140, 33, 1141, 1142, 1144, 34, 1145, 1146, 1148, 35, 1149, 779, 780, 781, 782, 783, 784, 785, 786] (by decide +kernel) (by decide +kernel)
set_option maxRecDepth 20000 in
theorem gr_36 : GoodIn lw_tbl wsL_law_r36 := goodIn_r _ [787, 788, 789, 790, 791, 792, 794, 16, 795, 1150, 1151, 1152, 1153, 796, 797, 798, 799, 800, 801, 802, 803, 804, 805, 806] (by decide +kernel) (by decide +kernel)
set_option maxRecDepth 20000 in
theorem gr_37 : GoodIn lw_tbl wsL_law_r37 := goodIn_r _ [807, 808, 809, 810, 811, 812, 1154, 1155, 1156, 1157, 813, 814, 815, 816, 817, 818, 819, 820, 821, 822, 823, 824, 825, 826] (by decide +kernel) (by decide +kernel)
set_option maxRecDepth 20000 in
theorem gr_38 : GoodIn lw_tbl wsL_law_r38 := goodIn_r _ [1158, 1159, 1160, 1161, 896, 827, 828, 829, 830, 831, 832, 833, 834, 835, 837, 17, 838, 839, 840, 842, 18, 843, 1162, 1163] (by decide +kernel) (by decide +kernel)
set_option maxRecDepth 20000 in
theorem gr_39 : GoodIn lw_tbl wsL_law_r39 := goodIn_r _ [1164, 1165, 1166, 1168, 36, 1169, 845, 846, 847, 848, 849, 850, 851, 852, 1170, 1171, 1172, 1173] (by decide +kernel) (by decide +kernel)
set_option maxRecDepth 20000 in
theorem gx_0 : GoodIn lw_tbl wsX00 := goodIn_r _ [265, 267, 269, 271] (by decide +kernel) (by decide +kernel)
set_option maxRecDepth 20000 in
theorem gx_1 : GoodIn lw_tbl wsX10 := goodIn_r _ [245, 247, 249] (by decide +kernel) (by decide +kernel)
set_option maxRecDepth 20000 in
theorem gx_2 : GoodIn lw_tbl wsX20 := goodIn_r _ [87, 89, 91, 93] (by decide +kernel) (by decide +kernel)
set_option maxRecDepth 20000 in
theorem gx_3 : GoodIn lw_tbl wsX30 := goodIn_r _ [175, 177, 179, 181] (by decide +kernel) (by decide +kernel)
set_option maxRecDepth 20000 in
theorem gx_4 : GoodIn lw_tbl wsX40 := goodIn_r _ [196, 198, 200, 202] (by decide +kernel) (by decide +kernel)
set_option maxRecDepth 20000 in
theorem gx_5 : GoodIn lw_tbl wsX50 := goodIn_r _ [73, 75] (by decide +kernel) (by decide +kernel)
set_option maxRecDepth 20000 in
theorem gx_6 : GoodIn lw_tbl wsX60 := goodIn_r _ [115, 117, 119, 121, 123, 125, 127, 129, 131, 133, 135] (by decide +kernel) (by decide +kernel)
set_option maxRecDepth 20000 in
theorem gx_7 : GoodIn lw_tbl wsX70 := goodIn_r _ [220, 222, 224, 226, 228, 230] (by decide +kernel) (by decide +kernel)
set_option maxRecDepth 20000 in
theorem gx_8 : GoodIn lw_tbl wsX80 := goodIn_r _ [151, 153, 155, 157, 159] (by decide +kernel) (by decide +kernel)
set_option maxRecDepth 20000 in
theorem gx_9 : GoodIn lw_tbl wsX90 := goodIn_r _ [282, 284, 286, 288, 290, 292, 294, 296] (by decide +kernel) (by decide +kernel)
set_option maxRecDepth 20000 in
theorem gx_10 : GoodIn lw_tbl wsX100 := goodIn_r _ [900, 902, 904, 906, 908, 910, 912, 914, 916, 918, 920, 922, 924, 926, 928, 930, 932, 934, 936, 938, 940, 942, 944, 946, 948, 950, 952, 954, 956, 958, 960, 962, 964, 966, 968, 970, 972, 974, 976, 978, 980] (by decide +kernel) (by decide +kernel)
theorem big_G : GoodIn lw_tbl wsL_law := goodIn_app (goodIn_app (goodIn_app (goodIn_app (goodIn_app (goodIn_app (goodIn_app (goodIn_app (goodIn_app (goodIn_app (goodIn_app (goodIn_app (goodIn_app gr_1 (goodIn_app gr_2 (goodIn_app gr_3 (goodIn_app gr_4 (goodIn_app gr_5 (goodIn_app gr_6 (goodIn_app gr_7 (goodIn_app gr_8 (goodIn_app gr_9 (goodIn_app gr_10 (goodIn_app gr_11 (goodIn_app gr_12 (goodIn_app gr_13 (goodIn_app gr_14 (goodIn_app gr_15 (goodIn_app gr_16 (goodIn_app gr_17 (goodIn_app gr_18 (goodIn_app gr_19 (goodIn_app gr_20 (goodIn_app gr_21 (goodIn_app gr_22 (goodIn_app gr_23 (goodIn_app gr_24 (goodIn_app gr_25 (goodIn_app gr_26 (goodIn_app gr_27 (goodIn_app gr_28 (goodIn_app gr_29 (goodIn_app gr_30 (goodIn_app gr_31 (goodIn_app gr_32 (goodIn_app gr_33 (goodIn_app gr_34 (goodIn_app gr_35 (goodIn_app gr_36 (goodIn_app gr_37 (goodIn_app gr_38 gr_39)))))))))))))))))))))))))))))))))))))) gx_9) gx_10) gx_2) gx_6) gx_8) gx_3) gx_4) gx_7) gx_1) gx_0) gx_5) (fun _ h => absurd h List.not_mem_nil)
theorem wsL_law_in : ∀ w ∈ wsL_law, w ∈ lw_tbl := fun w h => (big_G w h).1
theorem inlX0 : ∀ w ∈ wsX00, w ∈ wsL_law := fun _ h => List.mem_append_left _ (List.mem_append_left _ (List.mem_append_right _ h))
theorem inX0 : ∀ w ∈ wsX00, w ∈ lw_tbl := fun w h => wsL_law_in w (inlX0 w h)
theorem inlX1 : ∀ w ∈ wsX10, w ∈ wsL_law := fun _ h => List.mem_append_left _ (List.mem_append_left _ (List.mem_append_left _ (List.mem_append_right _ h)))
theorem inX1 : ∀ w ∈ wsX10, w ∈ lw_tbl := fun w h => wsL_law_in w (inlX1 w h)
theorem inlX2 : ∀ w ∈ wsX20, w ∈ wsL_law := fun _ h => List.mem_append_left _ (List.mem_append_left _ (List.mem_append_left _ (List.mem_append_left _ (List.mem_append_left _ (List.mem_append_left _ (List.mem_append_left _ (List.mem_append_left _ (List.mem_append_left _ (List.mem_append_right _ h)))))))))
theorem inX2 : ∀ w ∈ wsX20, w ∈ lw_tbl := fun w h => wsL_law_in w (inlX2 w h)
theorem inlX3 : ∀ w ∈ wsX30, w ∈ wsL_law := fun _ h => List.mem_append_left _ (List.mem_append_left _ (List.mem_append_left _ (List.mem_append_left _ (List.mem_append_left _ (List.mem_append_left _ (List.mem_append_right _ h))))))
theorem inX3 : ∀ w ∈ wsX30, w ∈ lw_tbl := fun w h => wsL_law_in w (inlX3 w h)
theorem inlX4 : ∀ w ∈ wsX40, w ∈ wsL_law := fun _ h => List.mem_append_left _ (List.mem_append_left _ (List.mem_append_left _ (List.mem_append_left _ (List.mem_append_left _ (List.mem_append_right _ h)))))
theorem inX4 : ∀ w ∈ wsX40, w ∈ lw_tbl := fun w h => wsL_law_in w (inlX4 w h)
theorem inlX5 : ∀ w ∈ wsX50, w ∈ wsL_law := fun _ h => List.mem_append_left _ (List.mem_append_right _ h)
theorem inX5 : ∀ w ∈ wsX50, w ∈ lw_tbl := fun w h => wsL_law_in w (inlX5 w h)
theorem inlX6 : ∀ w ∈ wsX60, w ∈ wsL_law := fun _ h => List.mem_append_left _ (List.mem_append_left _ (List.mem_append_left _ (List.mem_append_left _ (List.mem_append_left _ (List.mem_append_left _ (List.mem_append_left _ (List.mem_append_left _ (List.mem_append_right _ h))))))))
theorem inX6 : ∀ w ∈ wsX60, w ∈ lw_tbl := fun w h => wsL_law_in w (inlX6 w h)
theorem inlX7 : ∀ w ∈ wsX70, w ∈ wsL_law := fun _ h => List.mem_append_left _ (List.mem_append_left _ (List.mem_append_left _ (List.mem_append_left _ (List.mem_append_right _ h))))
theorem inX7 : ∀ w ∈ wsX70, w ∈ lw_tbl := fun w h => wsL_law_in w (inlX7 w h)
theorem inlX8 : ∀ w ∈ wsX80, w ∈ wsL_law := fun _ h => List.mem_append_left _ (List.mem_append_left _ (List.mem_append_left _ (List.mem_append_left _ (List.mem_append_left _ (List.mem_append_left _ (List.mem_append_left _ (List.mem_append_right _ h)))))))
theorem inX8 : ∀ w ∈ wsX80, w ∈ lw_tbl := fun w h => wsL_law_in w (inlX8 w h)
theorem inlX9 : ∀ w ∈ wsX90, w ∈ wsL_law := fun _ h => List.mem_append_left _ (List.mem_append_left _ (List.mem_append_left _ (List.mem_append_left _ (List.mem_append_left _ (List.mem_append_left _ (List.mem_append_left _ (List.mem_append_left _ (List.mem_append_left _ (List.mem_append_left _ (List.mem_append_left _ (List.mem_append_right _ h)))))))))))
theorem inX9 : ∀ w ∈ wsX90, w ∈ lw_tbl := fun w h => wsL_law_in w (inlX9 w h)
theorem inlX10 : ∀ w ∈ wsX100, w ∈ wsL_law := fun _ h => List.mem_append_left _ (List.mem_append_left _ (List.mem_append_left _ (List.mem_append_left _ (List.mem_append_left _ (List.mem_append_left _ (List.mem_append_left _ (List.mem_append_left _ (List.mem_append_left _ (List.mem_append_left _ (List.mem_append_right _ h))))))))))
theorem inX10 : ∀ w ∈ wsX100, w ∈ lw_tbl := fun w h => wsL_law_in w (inlX10 w h)
theorem inJ6 : ∀ w ∈ wsJ60, w ∈ lw_tbl := by decide +kernel
theorem inJ9 : ∀ w ∈ wsJ90, w ∈ lw_tbl := by decide +kernel
abbrev vwCl : List vw_C := [(RX0, TX0, 4), (RX1, TX1, 3), (RX2, TX2, 4), (RX3, TX3, 4), (RX4, TX4, 4), (RX5, TX5, 2), (RX6, TX6, 11), (RX7, TX7, 6), (RX8, TX8, 5), (RX9, TX9, 8), (RX10, TX10, 41)]
