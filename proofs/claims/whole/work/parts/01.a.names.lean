/-! ===== BEGIN words of one list among another's, by their places ===== -/
theorem goodIn_r {big : List Cond} (ws : List Cond) (ps : List Nat) (hp : ws = ps.filterMap (fun i => big[i]?)) (h : ws.all goodWord = true) : GoodIn big ws := by
  intro w hw
  have h1 := List.all_eq_true.mp h w hw
  rw [hp] at hw
  obtain ⟨i, -, hi⟩ := List.mem_filterMap.mp hw
  have hm : w ∈ big := by first | exact List.mem_of_getElem? hi | exact List.getElem?_mem hi
  exact ⟨hm, good_of_word h1⟩
theorem goodIn_app {big a b : List Cond} (ha : GoodIn big a) (hb : GoodIn big b) : GoodIn big (a ++ b) := fun w h => (List.mem_append.mp h).elim (ha w) (hb w)
theorem goodIn_ca {big a b : List Cond} {c : Cond} (ha : GoodIn big (c :: a)) (hb : GoodIn big b) : GoodIn big (c :: (a ++ b)) := fun w h => (List.mem_cons.mp h).elim (fun e => ha w (List.mem_cons.mpr (Or.inl e))) (fun h => (List.mem_append.mp h).elim (fun h => ha w (List.mem_cons.mpr (Or.inr h))) (hb w))
theorem goodIn_sub {big ws : List Cond} (hm : ∀ w ∈ ws, w ∈ big) (h : ws.all goodWord = true) : GoodIn big ws := fun w hw => ⟨hm w hw, good_of_word (List.all_eq_true.mp h w hw)⟩
/-! ===== END ===== -/

/-! ===== BEGIN printed: names, fields, word lists, decode rows ===== -/
def RX0 : String := "FireworkDeeds$Bay"
def TX0 : u_T := fun k => match k with
  | 0 => ("FireworkDeeds$Bay", "width", "I", false)
  | 1 => ("FireworkDeeds$Bay", "firstFog", "I", false)
  | 2 => ("FireworkDeeds$Bay", "firstWind", "I", false)
  | 3 => ("FireworkDeeds$Bay", "smoke", "I", false)
  | 4 => ("FireworkDeeds$Bay", "dampPercent", "I", false)
  | 5 => ("FireworkDeeds$Bay", "count", "I", false)
  | 6 => ("FireworkDeeds$Bay", "cell", "[I", true)
  | 7 => ("FireworkDeeds$Bay", "powder", "[I", true)
  | 8 => ("FireworkDeeds$Bay", "firstRockets", "[I", true)
  | _ => ("FireworkDeeds$Bay", "stars", "[I", true)
def tyX0 : Nat → FieldType := fun k => match k with
  | 0 => .int
  | 1 => .int
  | 2 => .int
  | 3 => .int
  | 4 => .int
  | 5 => .int
  | 6 => .array .int
  | 7 => .array .int
  | 8 => .array .int
  | _ => .array .int
abbrev wsX00 : List Cond := u_ws RX0 TX0 10
theorem nmX0 : ∀ a, a < 10 → ∀ b, b < 10 → a ≠ b → (TX0 a).2.1 ≠ (TX0 b).2.1 := by decide +kernel
theorem tyX0_ok : ∀ k, k < 10 → parseFieldDescriptor (TX0 k).2.2.1 = some (tyX0 k) := by decide +kernel
abbrev cX0_init : ByteArray := prog_2_method_1_code
def yX0_init : MethodName := ⟨RX0, "<init>", "()V"⟩
abbrev cX0_empty : ByteArray := prog_2_method_2_code
def yX0_empty : MethodName := ⟨RX0, "empty", "()V"⟩
abbrev cX0_settle : ByteArray := prog_2_method_3_code
def yX0_settle : MethodName := ⟨RX0, "settle", "(IIII)V"⟩
abbrev cX0_has : ByteArray := prog_2_method_4_code
def yX0_has : MethodName := ⟨RX0, "has", "(I)Z"⟩
abbrev cX0_hasTwo : ByteArray := prog_2_method_5_code
def yX0_hasTwo : MethodName := ⟨RX0, "hasTwo", "(II)Z"⟩
abbrev cX0_hasAll : ByteArray := prog_2_method_6_code
def yX0_hasAll : MethodName := ⟨RX0, "hasAll", "(I)Z"⟩
abbrev cX0_apart : ByteArray := prog_2_method_7_code
def yX0_apart : MethodName := ⟨RX0, "apart", "(II)I"⟩
abbrev cX0_houseOn : ByteArray := prog_2_method_8_code
def yX0_houseOn : MethodName := ⟨RX0, "houseOn", "(I)I"⟩
abbrev cX0_houseOfStars : ByteArray := prog_2_method_9_code
def yX0_houseOfStars : MethodName := ⟨RX0, "houseOfStars", "(I)I"⟩
abbrev cX0_anyGreen : ByteArray := prog_2_method_10_code
def yX0_anyGreen : MethodName := ⟨RX0, "anyGreen", "(II)Z"⟩
abbrev cX0_readAs : ByteArray := prog_2_method_11_code
def yX0_readAs : MethodName := ⟨RX0, "readAs", "(I)I"⟩
def RX1 : String := "FireworkDeeds$Book"
def TX1 : u_T := fun k => match k with
  | 0 => ("FireworkDeeds$Book", "count", "I", false)
  | 1 => ("FireworkDeeds$Book", "first", "[I", true)
  | 2 => ("FireworkDeeds$Book", "second", "[I", true)
  | _ => ("FireworkDeeds$Book", "toldToHold", "[Z", true)
def tyX1 : Nat → FieldType := fun k => match k with
  | 0 => .int
  | 1 => .array .int
  | 2 => .array .int
  | _ => .array .boolean
abbrev wsX10 : List Cond := u_ws RX1 TX1 4
theorem nmX1 : ∀ a, a < 4 → ∀ b, b < 4 → a ≠ b → (TX1 a).2.1 ≠ (TX1 b).2.1 := by decide +kernel
theorem tyX1_ok : ∀ k, k < 4 → parseFieldDescriptor (TX1 k).2.2.1 = some (tyX1 k) := by decide +kernel
abbrev cX1_init : ByteArray := prog_3_method_1_code
def yX1_init : MethodName := ⟨RX1, "<init>", "()V"⟩
abbrev cX1_add : ByteArray := prog_3_method_2_code
def yX1_add : MethodName := ⟨RX1, "add", "(IIZ)V"⟩
abbrev cX1_firstWrong : ByteArray := prog_3_method_3_code
def yX1_firstWrong : MethodName := ⟨RX1, "firstWrong", "(LFireworkDeeds$Night;)I"⟩
def RX2 : String := "FireworkDeeds$Ducks"
def TX2 : u_T := fun k => match k with
  | 0 => ("FireworkDeeds$Ducks", "count", "I", false)
  | 1 => ("FireworkDeeds$Ducks", "minute", "[I", true)
  | _ => ("FireworkDeeds$Ducks", "cell", "[I", true)
def tyX2 : Nat → FieldType := fun k => match k with
  | 0 => .int
  | 1 => .array .int
  | _ => .array .int
abbrev wsX20 : List Cond := u_ws RX2 TX2 3
theorem nmX2 : ∀ a, a < 3 → ∀ b, b < 3 → a ≠ b → (TX2 a).2.1 ≠ (TX2 b).2.1 := by decide +kernel
theorem tyX2_ok : ∀ k, k < 3 → parseFieldDescriptor (TX2 k).2.2.1 = some (tyX2 k) := by decide +kernel
abbrev cX2_init : ByteArray := prog_4_method_1_code
def yX2_init : MethodName := ⟨RX2, "<init>", "()V"⟩
abbrev cX2_add : ByteArray := prog_4_method_2_code
def yX2_add : MethodName := ⟨RX2, "add", "(II)V"⟩
abbrev cX2_ways : ByteArray := prog_4_method_3_code
def yX2_ways : MethodName := ⟨RX2, "ways", "(LFireworkDeeds$Bay;LFireworkDeeds$Night;)I"⟩
abbrev cX2_alikeAhead : ByteArray := prog_4_method_4_code
def yX2_alikeAhead : MethodName := ⟨RX2, "alikeAhead", "(I)I"⟩
def RX3 : String := "FireworkDeeds$Night"
def TX3 : u_T := fun k => match k with
  | 0 => ("FireworkDeeds$Night", "minutes", "I", false)
  | 1 => ("FireworkDeeds$Night", "fog", "I", false)
  | 2 => ("FireworkDeeds$Night", "wind", "I", false)
  | 3 => ("FireworkDeeds$Night", "holds", "I", false)
  | 4 => ("FireworkDeeds$Night", "rockets", "[I", true)
  | 5 => ("FireworkDeeds$Night", "signedAt", "[I", true)
  | 6 => ("FireworkDeeds$Night", "signedOver", "[I", true)
  | _ => ("FireworkDeeds$Night", "seenBy", "[I", true)
def tyX3 : Nat → FieldType := fun k => match k with
  | 0 => .int
  | 1 => .int
  | 2 => .int
  | 3 => .int
  | 4 => .array .int
  | 5 => .array .int
  | 6 => .array .int
  | _ => .array .int
abbrev wsX30 : List Cond := u_ws RX3 TX3 8
theorem nmX3 : ∀ a, a < 8 → ∀ b, b < 8 → a ≠ b → (TX3 a).2.1 ≠ (TX3 b).2.1 := by decide +kernel
theorem tyX3_ok : ∀ k, k < 8 → parseFieldDescriptor (TX3 k).2.2.1 = some (tyX3 k) := by decide +kernel
abbrev cX3_init : ByteArray := prog_5_method_1_code
def yX3_init : MethodName := ⟨RX3, "<init>", "()V"⟩
abbrev cX3_begin : ByteArray := prog_5_method_2_code
def yX3_begin : MethodName := ⟨RX3, "begin", "(LFireworkDeeds$Bay;)V"⟩
abbrev cX3_become : ByteArray := prog_5_method_3_code
def yX3_become : MethodName := ⟨RX3, "become", "(LFireworkDeeds$Night;)V"⟩
abbrev cX3_signedAs : ByteArray := prog_5_method_4_code
def yX3_signedAs : MethodName := ⟨RX3, "signedAs", "(ILFireworkDeeds$Night;)V"⟩
abbrev cX3_cellOver : ByteArray := prog_5_method_5_code
def yX3_cellOver : MethodName := ⟨RX3, "cellOver", "(LFireworkDeeds$Bay;I)I"⟩
abbrev cX3_housesOver : ByteArray := prog_5_method_6_code
def yX3_housesOver : MethodName := ⟨RX3, "housesOver", "(LFireworkDeeds$Bay;I)I"⟩
abbrev cX3_reach : ByteArray := prog_5_method_7_code
def yX3_reach : MethodName := ⟨RX3, "reach", "(LFireworkDeeds$Bay;I)I"⟩
abbrev cX3_inReach : ByteArray := prog_5_method_8_code
def yX3_inReach : MethodName := ⟨RX3, "inReach", "(LFireworkDeeds$Bay;I)I"⟩
abbrev cX3_hidden : ByteArray := prog_5_method_9_code
def yX3_hidden : MethodName := ⟨RX3, "hidden", "(LFireworkDeeds$Bay;I)Z"⟩
abbrev cX3_viewers : ByteArray := prog_5_method_10_code
def yX3_viewers : MethodName := ⟨RX3, "viewers", "(LFireworkDeeds$Bay;I)I"⟩
abbrev cX3_sign : ByteArray := prog_5_method_11_code
def yX3_sign : MethodName := ⟨RX3, "sign", "(LFireworkDeeds$Bay;I)V"⟩
abbrev cX3_agree : ByteArray := prog_5_method_12_code
def yX3_agree : MethodName := ⟨RX3, "agree", "(LFireworkDeeds$Bay;I)I"⟩
abbrev cX3_meet : ByteArray := prog_5_method_13_code
def yX3_meet : MethodName := ⟨RX3, "meet", "(LFireworkDeeds$Bay;II)V"⟩
abbrev cX3_holdsFor : ByteArray := prog_5_method_14_code
def yX3_holdsFor : MethodName := ⟨RX3, "holdsFor", "(II)Z"⟩
abbrev cX3_conditionals : ByteArray := prog_5_method_15_code
def yX3_conditionals : MethodName := ⟨RX3, "conditionals", "(LFireworkDeeds$Bay;)I"⟩
abbrev cX3_lackOfPowder : ByteArray := prog_5_method_16_code
def yX3_lackOfPowder : MethodName := ⟨RX3, "lackOfPowder", "(LFireworkDeeds$Bay;II)I"⟩
abbrev cX3_pairBit : ByteArray := prog_5_method_17_code
def yX3_pairBit : MethodName := ⟨RX3, "pairBit", "(II)I"⟩
def RX4 : String := "FireworkDeeds$Offers"
def TX4 : u_T := fun k => match k with
  | 0 => ("FireworkDeeds$Offers", "taken", "[I", true)
  | _ => ("FireworkDeeds$Offers", "refusedBy", "[I", true)
def tyX4 : Nat → FieldType := fun k => match k with
  | 0 => .array .int
  | _ => .array .int
abbrev wsX40 : List Cond := u_ws RX4 TX4 2
theorem nmX4 : ∀ a, a < 2 → ∀ b, b < 2 → a ≠ b → (TX4 a).2.1 ≠ (TX4 b).2.1 := by decide +kernel
theorem tyX4_ok : ∀ k, k < 2 → parseFieldDescriptor (TX4 k).2.2.1 = some (tyX4 k) := by decide +kernel
abbrev cX4_init : ByteArray := prog_6_method_1_code
def yX4_init : MethodName := ⟨RX4, "<init>", "()V"⟩
abbrev cX4_settle : ByteArray := prog_6_method_2_code
def yX4_settle : MethodName := ⟨RX4, "settle", "(LFireworkDeeds$Bay;LFireworkDeeds$Night;)V"⟩
abbrev cX4_askAll : ByteArray := prog_6_method_3_code
def yX4_askAll : MethodName := ⟨RX4, "askAll", "(LFireworkDeeds$Bay;LFireworkDeeds$Night;)Z"⟩
abbrev cX4_nearestToAsk : ByteArray := prog_6_method_4_code
def yX4_nearestToAsk : MethodName := ⟨RX4, "nearestToAsk", "(LFireworkDeeds$Bay;LFireworkDeeds$Night;I)I"⟩
abbrev cX4_ask : ByteArray := prog_6_method_5_code
def yX4_ask : MethodName := ⟨RX4, "ask", "(LFireworkDeeds$Bay;II)V"⟩
abbrev cX4_pair : ByteArray := prog_6_method_6_code
def yX4_pair : MethodName := ⟨RX4, "pair", "(II)V"⟩
abbrev cX4_isNearer : ByteArray := prog_6_method_7_code
def yX4_isNearer : MethodName := ⟨RX4, "isNearer", "(LFireworkDeeds$Bay;III)Z"⟩
def RX5 : String := "FireworkDeeds$Past"
def TX5 : u_T := fun k => match k with
  | 0 => ("FireworkDeeds$Past", "nights", "[LFireworkDeeds$Night;", true)
  | 1 => ("FireworkDeeds$Past", "next", "I", false)
  | _ => ("FireworkDeeds$Past", "count", "I", false)
def tyX5 : Nat → FieldType := fun k => match k with
  | 0 => .array (.object "FireworkDeeds$Night")
  | 1 => .int
  | _ => .int
abbrev wsX50 : List Cond := u_ws RX5 TX5 3
theorem nmX5 : ∀ a, a < 3 → ∀ b, b < 3 → a ≠ b → (TX5 a).2.1 ≠ (TX5 b).2.1 := by decide +kernel
theorem tyX5_ok : ∀ k, k < 3 → parseFieldDescriptor (TX5 k).2.2.1 = some (tyX5 k) := by decide +kernel
abbrev cX5_init : ByteArray := prog_7_method_1_code
def yX5_init : MethodName := ⟨RX5, "<init>", "()V"⟩
abbrev cX5_clear : ByteArray := prog_7_method_2_code
def yX5_clear : MethodName := ⟨RX5, "clear", "()V"⟩
abbrev cX5_push : ByteArray := prog_7_method_3_code
def yX5_push : MethodName := ⟨RX5, "push", "(LFireworkDeeds$Night;)V"⟩
abbrev cX5_pop : ByteArray := prog_7_method_4_code
def yX5_pop : MethodName := ⟨RX5, "pop", "(LFireworkDeeds$Night;)V"⟩
def RX6 : String := "FireworkDeeds$Reader"
def TX6 : u_T := fun k => match k with
  | 0 => ("FireworkDeeds$Reader", "text", "[I", false)
  | 1 => ("FireworkDeeds$Reader", "length", "I", false)
  | 2 => ("FireworkDeeds$Reader", "at", "I", false)
  | 3 => ("FireworkDeeds$Reader", "numberAt", "I", false)
  | 4 => ("FireworkDeeds$Reader", "faultNumber", "I", false)
  | 5 => ("FireworkDeeds$Reader", "faultAt", "I", false)
  | 6 => ("FireworkDeeds$Reader", "smokeTold", "Z", false)
  | _ => ("FireworkDeeds$Reader", "dampTold", "Z", false)
def tyX6 : Nat → FieldType := fun k => match k with
  | 0 => .array .int
  | 1 => .int
  | 2 => .int
  | 3 => .int
  | 4 => .int
  | 5 => .int
  | 6 => .boolean
  | _ => .boolean
abbrev wsX60 : List Cond := u_ws RX6 TX6 8
theorem nmX6 : ∀ a, a < 8 → ∀ b, b < 8 → a ≠ b → (TX6 a).2.1 ≠ (TX6 b).2.1 := by decide +kernel
theorem tyX6_ok : ∀ k, k < 8 → parseFieldDescriptor (TX6 k).2.2.1 = some (tyX6 k) := by decide +kernel
abbrev cX6_init : ByteArray := prog_8_method_1_code
def yX6_init : MethodName := ⟨RX6, "<init>", "()V"⟩
abbrev cX6_read : ByteArray := prog_8_method_2_code
def yX6_read : MethodName := ⟨RX6, "read", "([IILFireworkDeeds$Bay;)I"⟩
abbrev cX6_readClause : ByteArray := prog_8_method_3_code
def yX6_readClause : MethodName := ⟨RX6, "readClause", "(LFireworkDeeds$Bay;)V"⟩
abbrev cX6_readCells : ByteArray := prog_8_method_4_code
def yX6_readCells : MethodName := ⟨RX6, "readCells", "(LFireworkDeeds$Bay;)V"⟩
abbrev cX6_readHouse : ByteArray := prog_8_method_5_code
def yX6_readHouse : MethodName := ⟨RX6, "readHouse", "(LFireworkDeeds$Bay;)V"⟩
abbrev cX6_readSmoke : ByteArray := prog_8_method_6_code
def yX6_readSmoke : MethodName := ⟨RX6, "readSmoke", "(LFireworkDeeds$Bay;)V"⟩
abbrev cX6_readDamp : ByteArray := prog_8_method_7_code
def yX6_readDamp : MethodName := ⟨RX6, "readDamp", "(LFireworkDeeds$Bay;)V"⟩
abbrev cX6_passWord : ByteArray := prog_8_method_8_code
def yX6_passWord : MethodName := ⟨RX6, "passWord", "(Z)V"⟩
abbrev cX6_passEnd : ByteArray := prog_8_method_9_code
def yX6_passEnd : MethodName := ⟨RX6, "passEnd", "()V"⟩
abbrev cX6_readNumber : ByteArray := prog_8_method_10_code
def yX6_readNumber : MethodName := ⟨RX6, "readNumber", "(II)I"⟩
abbrev cX6_readStars : ByteArray := prog_8_method_11_code
def yX6_readStars : MethodName := ⟨RX6, "readStars", "(LFireworkDeeds$Bay;)I"⟩
abbrev cX6_skipBlanks : ByteArray := prog_8_method_12_code
def yX6_skipBlanks : MethodName := ⟨RX6, "skipBlanks", "()V"⟩
abbrev cX6_fail : ByteArray := prog_8_method_13_code
def yX6_fail : MethodName := ⟨RX6, "fail", "(II)V"⟩
def RX7 : String := "FireworkDeeds$Row"
def TX7 : u_T := fun k => match k with
  | 0 => ("FireworkDeeds$Row", "houses", "[I", true)
  | _ => ("FireworkDeeds$Row", "tried", "LFireworkDeeds$Night;", true)
def tyX7 : Nat → FieldType := fun k => match k with
  | 0 => .array .int
  | _ => .object "FireworkDeeds$Night"
abbrev wsX70 : List Cond := u_ws RX7 TX7 2
theorem nmX7 : ∀ a, a < 2 → ∀ b, b < 2 → a ≠ b → (TX7 a).2.1 ≠ (TX7 b).2.1 := by decide +kernel
theorem tyX7_ok : ∀ k, k < 2 → parseFieldDescriptor (TX7 k).2.2.1 = some (tyX7 k) := by decide +kernel
abbrev cX7_init : ByteArray := prog_9_method_1_code
def yX7_init : MethodName := ⟨RX7, "<init>", "()V"⟩
abbrev cX7_find : ByteArray := prog_9_method_2_code
def yX7_find : MethodName := ⟨RX7, "find", "(LFireworkDeeds$Bay;LFireworkDeeds$Night;I)Z"⟩
abbrev cX7_extend : ByteArray := prog_9_method_3_code
def yX7_extend : MethodName := ⟨RX7, "extend", "(LFireworkDeeds$Bay;LFireworkDeeds$Night;II)Z"⟩
abbrev cX7_fits : ByteArray := prog_9_method_4_code
def yX7_fits : MethodName := ⟨RX7, "fits", "(LFireworkDeeds$Bay;II)Z"⟩
def RX8 : String := "FireworkDeeds$Stars"
def TX8 : u_T := fun k => match k with
  | _ => ("", "", "", false)
def tyX8 : Nat → FieldType := fun k => match k with
  | _ => .int
abbrev wsX80 : List Cond := u_ws RX8 TX8 0
theorem nmX8 : ∀ a, a < 0 → ∀ b, b < 0 → a ≠ b → (TX8 a).2.1 ≠ (TX8 b).2.1 := by decide +kernel
theorem tyX8_ok : ∀ k, k < 0 → parseFieldDescriptor (TX8 k).2.2.1 = some (tyX8 k) := by decide +kernel
abbrev cX8_areStars : ByteArray := prog_10_method_2_code
def yX8_areStars : MethodName := ⟨RX8, "areStars", "(I)Z"⟩
abbrev cX8_count : ByteArray := prog_10_method_3_code
def yX8_count : MethodName := ⟨RX8, "count", "(I)I"⟩
abbrev cX8_greens : ByteArray := prog_10_method_4_code
def yX8_greens : MethodName := ⟨RX8, "greens", "(I)I"⟩
abbrev cX8_fromTheEnd : ByteArray := prog_10_method_5_code
def yX8_fromTheEnd : MethodName := ⟨RX8, "fromTheEnd", "(I)I"⟩
abbrev cX8_unlike : ByteArray := prog_10_method_6_code
def yX8_unlike : MethodName := ⟨RX8, "unlike", "(II)I"⟩
def RX9 : String := "FireworkDeeds"
def TX9 : u_T := fun k => match k with
  | 0 => ("FireworkDeeds", "text", "[I", true)
  | 1 => ("FireworkDeeds", "letters", "I", false)
  | 2 => ("FireworkDeeds", "faultAt", "I", false)
  | 3 => ("FireworkDeeds", "shore", "LFireworkDeeds$Bay;", false)
  | 4 => ("FireworkDeeds", "spare", "LFireworkDeeds$Bay;", false)
  | 5 => ("FireworkDeeds", "seed", "I", false)
  | 6 => ("FireworkDeeds", "reader", "LFireworkDeeds$Reader;", true)
  | 7 => ("FireworkDeeds", "now", "LFireworkDeeds$Night;", true)
  | 8 => ("FireworkDeeds", "past", "LFireworkDeeds$Past;", true)
  | 9 => ("FireworkDeeds", "images", "[LFireworkDeeds$Night;", true)
  | 10 => ("FireworkDeeds", "imageKept", "[Z", true)
  | 11 => ("FireworkDeeds", "imageSeed", "[I", true)
  | 12 => ("FireworkDeeds", "row", "LFireworkDeeds$Row;", true)
  | 13 => ("FireworkDeeds", "offers", "LFireworkDeeds$Offers;", true)
  | 14 => ("FireworkDeeds", "ducks", "LFireworkDeeds$Ducks;", true)
  | _ => ("FireworkDeeds", "book", "LFireworkDeeds$Book;", true)
def tyX9 : Nat → FieldType := fun k => match k with
  | 0 => .array .int
  | 1 => .int
  | 2 => .int
  | 3 => .object "FireworkDeeds$Bay"
  | 4 => .object "FireworkDeeds$Bay"
  | 5 => .int
  | 6 => .object "FireworkDeeds$Reader"
  | 7 => .object "FireworkDeeds$Night"
  | 8 => .object "FireworkDeeds$Past"
  | 9 => .array (.object "FireworkDeeds$Night")
  | 10 => .array .boolean
  | 11 => .array .int
  | 12 => .object "FireworkDeeds$Row"
  | 13 => .object "FireworkDeeds$Offers"
  | 14 => .object "FireworkDeeds$Ducks"
  | _ => .object "FireworkDeeds$Book"
abbrev wsX90 : List Cond := u_ws RX9 TX9 16
theorem nmX9 : ∀ a, a < 16 → ∀ b, b < 16 → a ≠ b → (TX9 a).2.1 ≠ (TX9 b).2.1 := by decide +kernel
theorem tyX9_ok : ∀ k, k < 16 → parseFieldDescriptor (TX9 k).2.2.1 = some (tyX9 k) := by decide +kernel
abbrev cX9_init : ByteArray := prog_1_method_1_code
def yX9_init : MethodName := ⟨RX9, "<init>", "()V"⟩
abbrev cX9_feed : ByteArray := prog_1_method_2_code
def yX9_feed : MethodName := ⟨RX9, "feed", "(I)I"⟩
abbrev cX9_bay : ByteArray := prog_1_method_3_code
def yX9_bay : MethodName := ⟨RX9, "bay", "()I"⟩
abbrev cX9_fault : ByteArray := prog_1_method_4_code
def yX9_fault : MethodName := ⟨RX9, "fault", "()I"⟩
abbrev cX9_told : ByteArray := prog_1_method_5_code
def yX9_told : MethodName := ⟨RX9, "told", "(I)I"⟩
abbrev cX9_house : ByteArray := prog_1_method_6_code
def yX9_house : MethodName := ⟨RX9, "house", "(II)I"⟩
abbrev cX9_sees : ByteArray := prog_1_method_7_code
def yX9_sees : MethodName := ⟨RX9, "sees", "(II)I"⟩
abbrev cX9_contract : ByteArray := prog_1_method_8_code
def yX9_contract : MethodName := ⟨RX9, "contract", "(II)I"⟩
abbrev cX9_light : ByteArray := prog_1_method_9_code
def yX9_light : MethodName := ⟨RX9, "light", "(I)I"⟩
abbrev cX9_minute : ByteArray := prog_1_method_10_code
def yX9_minute : MethodName := ⟨RX9, "minute", "(I)I"⟩
abbrev cX9_fog : ByteArray := prog_1_method_11_code
def yX9_fog : MethodName := ⟨RX9, "fog", "(I)I"⟩
abbrev cX9_wind : ByteArray := prog_1_method_12_code
def yX9_wind : MethodName := ⟨RX9, "wind", "(I)I"⟩
abbrev cX9_drift : ByteArray := prog_1_method_13_code
def yX9_drift : MethodName := ⟨RX9, "drift", "(I)I"⟩
abbrev cX9_undo : ByteArray := prog_1_method_14_code
def yX9_undo : MethodName := ⟨RX9, "undo", "()I"⟩
abbrev cX9_order : ByteArray := prog_1_method_15_code
def yX9_order : MethodName := ⟨RX9, "order", "(II)I"⟩
abbrev cX9_signers : ByteArray := prog_1_method_16_code
def yX9_signers : MethodName := ⟨RX9, "signers", "(I)I"⟩
abbrev cX9_farShore : ByteArray := prog_1_method_17_code
def yX9_farShore : MethodName := ⟨RX9, "farShore", "(I)I"⟩
abbrev cX9_cross : ByteArray := prog_1_method_18_code
def yX9_cross : MethodName := ⟨RX9, "cross", "(II)I"⟩
abbrev cX9_treaty : ByteArray := prog_1_method_19_code
def yX9_treaty : MethodName := ⟨RX9, "treaty", "(I)I"⟩
abbrev cX9_forged : ByteArray := prog_1_method_20_code
def yX9_forged : MethodName := ⟨RX9, "forged", "(III)I"⟩
abbrev cX9_damp : ByteArray := prog_1_method_21_code
def yX9_damp : MethodName := ⟨RX9, "damp", "(I)I"⟩
abbrev cX9_partner : ByteArray := prog_1_method_22_code
def yX9_partner : MethodName := ⟨RX9, "partner", "(I)I"⟩
abbrev cX9_duck : ByteArray := prog_1_method_23_code
def yX9_duck : MethodName := ⟨RX9, "duck", "(II)I"⟩
abbrev cX9_lit : ByteArray := prog_1_method_24_code
def yX9_lit : MethodName := ⟨RX9, "lit", "(I)I"⟩
abbrev cX9_write : ByteArray := prog_1_method_25_code
def yX9_write : MethodName := ⟨RX9, "write", "(IIZ)I"⟩
abbrev cX9_tear : ByteArray := prog_1_method_26_code
def yX9_tear : MethodName := ⟨RX9, "tear", "()I"⟩
abbrev cX9_judge : ByteArray := prog_1_method_27_code
def yX9_judge : MethodName := ⟨RX9, "judge", "()I"⟩
abbrev cX9_seed : ByteArray := prog_1_method_28_code
def yX9_seed : MethodName := ⟨RX9, "seed", "(I)I"⟩
abbrev cX9_keep : ByteArray := prog_1_method_29_code
def yX9_keep : MethodName := ⟨RX9, "keep", "(I)I"⟩
abbrev cX9_goBack : ByteArray := prog_1_method_30_code
def yX9_goBack : MethodName := ⟨RX9, "goBack", "(I)I"⟩
abbrev cX9_refusalOfMinutes : ByteArray := prog_1_method_31_code
def yX9_refusalOfMinutes : MethodName := ⟨RX9, "refusalOfMinutes", "(I)I"⟩
abbrev cX9_changeWeather : ByteArray := prog_1_method_32_code
def yX9_changeWeather : MethodName := ⟨RX9, "changeWeather", "()V"⟩
abbrev cX9_draw : ByteArray := prog_1_method_33_code
def yX9_draw : MethodName := ⟨RX9, "draw", "(I)I"⟩
abbrev cX9_cutOdds : ByteArray := prog_1_method_34_code
def yX9_cutOdds : MethodName := ⟨RX9, "cutOdds", "(III)I"⟩
def RX10 : String := "FireworkDeedsModel"
def TX10 : u_T := fun k => match k with
  | 0 => ("FireworkDeedsModel", "wide", "I", false)
  | 1 => ("FireworkDeedsModel", "houses", "I", false)
  | 2 => ("FireworkDeedsModel", "cell", "[I", true)
  | 3 => ("FireworkDeedsModel", "powder", "[I", true)
  | 4 => ("FireworkDeedsModel", "starsMany", "[I", true)
  | 5 => ("FireworkDeedsModel", "stars", "[I", true)
  | 6 => ("FireworkDeedsModel", "smoke", "I", false)
  | 7 => ("FireworkDeedsModel", "damp", "I", false)
  | 8 => ("FireworkDeedsModel", "now", "[I", true)
  | 9 => ("FireworkDeedsModel", "seed", "I", false)
  | 10 => ("FireworkDeedsModel", "text", "[I", true)
  | 11 => ("FireworkDeedsModel", "texted", "I", false)
  | 12 => ("FireworkDeedsModel", "faultPlace", "I", false)
  | 13 => ("FireworkDeedsModel", "at0", "I", false)
  | 14 => ("FireworkDeedsModel", "number", "I", false)
  | 15 => ("FireworkDeedsModel", "numberAt", "I", false)
  | 16 => ("FireworkDeedsModel", "readBay", "[I", true)
  | 17 => ("FireworkDeedsModel", "readHouses", "I", false)
  | 18 => ("FireworkDeedsModel", "readCell", "[I", true)
  | 19 => ("FireworkDeedsModel", "readPowder", "[I", true)
  | 20 => ("FireworkDeedsModel", "readRockets", "[I", true)
  | 21 => ("FireworkDeedsModel", "readMany", "[I", true)
  | 22 => ("FireworkDeedsModel", "readStars", "[I", true)
  | 23 => ("FireworkDeedsModel", "readSmoke", "[I", true)
  | 24 => ("FireworkDeedsModel", "readDamp", "[I", true)
  | 25 => ("FireworkDeedsModel", "hasSmoke", "Z", false)
  | 26 => ("FireworkDeedsModel", "hasDamp", "Z", false)
  | 27 => ("FireworkDeedsModel", "undos", "I", false)
  | 28 => ("FireworkDeedsModel", "past", "[I", true)
  | 29 => ("FireworkDeedsModel", "was", "[I", true)
  | 30 => ("FireworkDeedsModel", "figures", "[I", true)
  | 31 => ("FireworkDeedsModel", "refused", "[I", true)
  | 32 => ("FireworkDeedsModel", "partners", "[I", true)
  | 33 => ("FireworkDeedsModel", "ducks", "I", false)
  | 34 => ("FireworkDeedsModel", "duckMinute", "[I", true)
  | 35 => ("FireworkDeedsModel", "duckCell", "[I", true)
  | 36 => ("FireworkDeedsModel", "booked", "I", false)
  | 37 => ("FireworkDeedsModel", "bookA", "[I", true)
  | 38 => ("FireworkDeedsModel", "bookB", "[I", true)
  | 39 => ("FireworkDeedsModel", "bookHolds", "[Z", true)
  | 40 => ("FireworkDeedsModel", "images", "[I", true)
  | _ => ("FireworkDeedsModel", "isKept", "[Z", true)
def tyX10 : Nat → FieldType := fun k => match k with
  | 0 => .int
  | 1 => .int
  | 2 => .array .int
  | 3 => .array .int
  | 4 => .array .int
  | 5 => .array .int
  | 6 => .int
  | 7 => .int
  | 8 => .array .int
  | 9 => .int
  | 10 => .array .int
  | 11 => .int
  | 12 => .int
  | 13 => .int
  | 14 => .int
  | 15 => .int
  | 16 => .array .int
  | 17 => .int
  | 18 => .array .int
  | 19 => .array .int
  | 20 => .array .int
  | 21 => .array .int
  | 22 => .array .int
  | 23 => .array .int
  | 24 => .array .int
  | 25 => .boolean
  | 26 => .boolean
  | 27 => .int
  | 28 => .array .int
  | 29 => .array .int
  | 30 => .array .int
  | 31 => .array .int
  | 32 => .array .int
  | 33 => .int
  | 34 => .array .int
  | 35 => .array .int
  | 36 => .int
  | 37 => .array .int
  | 38 => .array .int
  | 39 => .array .boolean
  | 40 => .array .int
  | _ => .array .boolean
abbrev wsX100 : List Cond := u_ws RX10 TX10 42
theorem nmX10 : ∀ a, a < 42 → ∀ b, b < 42 → a ≠ b → (TX10 a).2.1 ≠ (TX10 b).2.1 := by decide +kernel
theorem tyX10_ok : ∀ k, k < 42 → parseFieldDescriptor (TX10 k).2.2.1 = some (tyX10 k) := by decide +kernel
abbrev cX10_init : ByteArray := prog_12_method_1_code
def yX10_init : MethodName := ⟨RX10, "<init>", "()V"⟩
abbrev cX10_in : ByteArray := prog_12_method_3_code
def yX10_in : MethodName := ⟨RX10, "in", "(JJJ)Z"⟩
abbrev cX10_has : ByteArray := prog_12_method_4_code
def yX10_has : MethodName := ⟨RX10, "has", "(II)Z"⟩
abbrev cX10_bits : ByteArray := prog_12_method_5_code
def yX10_bits : MethodName := ⟨RX10, "bits", "(I)I"⟩
abbrev cX10_apart : ByteArray := prog_12_method_6_code
def yX10_apart : MethodName := ⟨RX10, "apart", "(II)I"⟩
abbrev cX10_isHouse : ByteArray := prog_12_method_7_code
def yX10_isHouse : MethodName := ⟨RX10, "isHouse", "(I)Z"⟩
abbrev cX10_isSet : ByteArray := prog_12_method_8_code
def yX10_isSet : MethodName := ⟨RX10, "isSet", "(I)Z"⟩
abbrev cX10_feed : ByteArray := prog_12_method_9_code
def yX10_feed : MethodName := ⟨RX10, "feed", "(I)I"⟩
abbrev cX10_here : ByteArray := prog_12_method_10_code
def yX10_here : MethodName := ⟨RX10, "here", "()I"⟩
abbrev cX10_fails : ByteArray := prog_12_method_11_code
def yX10_fails : MethodName := ⟨RX10, "fails", "(II)I"⟩
abbrev cX10_takeNumber : ByteArray := prog_12_method_12_code
def yX10_takeNumber : MethodName := ⟨RX10, "takeNumber", "(II)I"⟩
abbrev cX10_into : ByteArray := prog_12_method_13_code
def yX10_into : MethodName := ⟨RX10, "into", "([IIII)I"⟩
abbrev cX10_takeBay : ByteArray := prog_12_method_14_code
def yX10_takeBay : MethodName := ⟨RX10, "takeBay", "()I"⟩
abbrev cX10_takeCell : ByteArray := prog_12_method_15_code
def yX10_takeCell : MethodName := ⟨RX10, "takeCell", "(I)I"⟩
abbrev cX10_isStar : ByteArray := prog_12_method_16_code
def yX10_isStar : MethodName := ⟨RX10, "isStar", "(I)Z"⟩
abbrev cX10_areLike : ByteArray := prog_12_method_17_code
def yX10_areLike : MethodName := ⟨RX10, "areLike", "(II)Z"⟩
abbrev cX10_takeStars : ByteArray := prog_12_method_18_code
def yX10_takeStars : MethodName := ⟨RX10, "takeStars", "(I)I"⟩
abbrev cX10_takeHouse : ByteArray := prog_12_method_19_code
def yX10_takeHouse : MethodName := ⟨RX10, "takeHouse", "()I"⟩
abbrev cX10_takeClause : ByteArray := prog_12_method_20_code
def yX10_takeClause : MethodName := ⟨RX10, "takeClause", "()I"⟩
abbrev cX10_takeRead : ByteArray := prog_12_method_21_code
def yX10_takeRead : MethodName := ⟨RX10, "takeRead", "()V"⟩
abbrev cX10_bay : ByteArray := prog_12_method_22_code
def yX10_bay : MethodName := ⟨RX10, "bay", "()I"⟩
abbrev cX10_fault : ByteArray := prog_12_method_23_code
def yX10_fault : MethodName := ⟨RX10, "fault", "()I"⟩
abbrev cX10_isGreen : ByteArray := prog_12_method_24_code
def yX10_isGreen : MethodName := ⟨RX10, "isGreen", "(I)Z"⟩
abbrev cX10_contracts : ByteArray := prog_12_method_25_code
def yX10_contracts : MethodName := ⟨RX10, "contracts", "(Z)I"⟩
abbrev cX10_told : ByteArray := prog_12_method_26_code
def yX10_told : MethodName := ⟨RX10, "told", "(I)I"⟩
abbrev cX10_starNumber : ByteArray := prog_12_method_27_code
def yX10_starNumber : MethodName := ⟨RX10, "starNumber", "(I)I"⟩
abbrev cX10_readAs : ByteArray := prog_12_method_28_code
def yX10_readAs : MethodName := ⟨RX10, "readAs", "(I)I"⟩
abbrev cX10_house : ByteArray := prog_12_method_29_code
def yX10_house : MethodName := ⟨RX10, "house", "(II)I"⟩
abbrev cX10_overOf : ByteArray := prog_12_method_30_code
def yX10_overOf : MethodName := ⟨RX10, "overOf", "(I)I"⟩
abbrev cX10_isHidden : ByteArray := prog_12_method_31_code
def yX10_isHidden : MethodName := ⟨RX10, "isHidden", "(II)Z"⟩
abbrev cX10_reach : ByteArray := prog_12_method_32_code
def yX10_reach : MethodName := ⟨RX10, "reach", "(I)I"⟩
abbrev cX10_seers : ByteArray := prog_12_method_33_code
def yX10_seers : MethodName := ⟨RX10, "seers", "(I)I"⟩
abbrev cX10_areTwo : ByteArray := prog_12_method_34_code
def yX10_areTwo : MethodName := ⟨RX10, "areTwo", "(II)Z"⟩
abbrev cX10_sees : ByteArray := prog_12_method_35_code
def yX10_sees : MethodName := ⟨RX10, "sees", "(II)I"⟩
abbrev cX10_contract : ByteArray := prog_12_method_36_code
def yX10_contract : MethodName := ⟨RX10, "contract", "(II)I"⟩
abbrev cX10_remember : ByteArray := prog_12_method_37_code
def yX10_remember : MethodName := ⟨RX10, "remember", "()V"⟩
abbrev cX10_holds : ByteArray := prog_12_method_38_code
def yX10_holds : MethodName := ⟨RX10, "holds", "(II)Z"⟩
abbrev cX10_lightNow : ByteArray := prog_12_method_39_code
def yX10_lightNow : MethodName := ⟨RX10, "lightNow", "(I)V"⟩
abbrev cX10_light : ByteArray := prog_12_method_40_code
def yX10_light : MethodName := ⟨RX10, "light", "(I)I"⟩
abbrev cX10_minutesRefused : ByteArray := prog_12_method_41_code
def yX10_minutesRefused : MethodName := ⟨RX10, "minutesRefused", "(I)I"⟩
abbrev cX10_minute : ByteArray := prog_12_method_42_code
def yX10_minute : MethodName := ⟨RX10, "minute", "(I)I"⟩
abbrev cX10_fog : ByteArray := prog_12_method_43_code
def yX10_fog : MethodName := ⟨RX10, "fog", "(I)I"⟩
abbrev cX10_wind : ByteArray := prog_12_method_44_code
def yX10_wind : MethodName := ⟨RX10, "wind", "(I)I"⟩
abbrev cX10_draw : ByteArray := prog_12_method_45_code
def yX10_draw : MethodName := ⟨RX10, "draw", "(I)I"⟩
abbrev cX10_drift : ByteArray := prog_12_method_46_code
def yX10_drift : MethodName := ⟨RX10, "drift", "(I)I"⟩
abbrev cX10_undo : ByteArray := prog_12_method_47_code
def yX10_undo : MethodName := ⟨RX10, "undo", "()I"⟩
abbrev cX10_figure : ByteArray := prog_12_method_48_code
def yX10_figure : MethodName := ⟨RX10, "figure", "(III)I"⟩
abbrev cX10_isOrder : ByteArray := prog_12_method_49_code
def yX10_isOrder : MethodName := ⟨RX10, "isOrder", "(III)Z"⟩
abbrev cX10_order : ByteArray := prog_12_method_50_code
def yX10_order : MethodName := ⟨RX10, "order", "(II)I"⟩
abbrev cX10_signers : ByteArray := prog_12_method_51_code
def yX10_signers : MethodName := ⟨RX10, "signers", "(I)I"⟩
abbrev cX10_isFarOf : ByteArray := prog_12_method_52_code
def yX10_isFarOf : MethodName := ⟨RX10, "isFarOf", "(II)Z"⟩
abbrev cX10_farShore : ByteArray := prog_12_method_53_code
def yX10_farShore : MethodName := ⟨RX10, "farShore", "(I)I"⟩
abbrev cX10_cross : ByteArray := prog_12_method_54_code
def yX10_cross : MethodName := ⟨RX10, "cross", "(II)I"⟩
abbrev cX10_treaty : ByteArray := prog_12_method_55_code
def yX10_treaty : MethodName := ⟨RX10, "treaty", "(I)I"⟩
abbrev cX10_figuresOf : ByteArray := prog_12_method_56_code
def yX10_figuresOf : MethodName := ⟨RX10, "figuresOf", "(I)I"⟩
abbrev cX10_forged : ByteArray := prog_12_method_57_code
def yX10_forged : MethodName := ⟨RX10, "forged", "(III)I"⟩
abbrev cX10_damp : ByteArray := prog_12_method_58_code
def yX10_damp : MethodName := ⟨RX10, "damp", "(I)I"⟩
abbrev cX10_nearest : ByteArray := prog_12_method_59_code
def yX10_nearest : MethodName := ⟨RX10, "nearest", "(I)I"⟩
abbrev cX10_isKeptOf : ByteArray := prog_12_method_60_code
def yX10_isKeptOf : MethodName := ⟨RX10, "isKeptOf", "(III)Z"⟩
abbrev cX10_ask : ByteArray := prog_12_method_61_code
def yX10_ask : MethodName := ⟨RX10, "ask", "(II)V"⟩
abbrev cX10_partner : ByteArray := prog_12_method_62_code
def yX10_partner : MethodName := ⟨RX10, "partner", "(I)I"⟩
abbrev cX10_duck : ByteArray := prog_12_method_63_code
def yX10_duck : MethodName := ⟨RX10, "duck", "(II)I"⟩
abbrev cX10_litOver : ByteArray := prog_12_method_64_code
def yX10_litOver : MethodName := ⟨RX10, "litOver", "(I)I"⟩
abbrev cX10_lit : ByteArray := prog_12_method_65_code
def yX10_lit : MethodName := ⟨RX10, "lit", "(I)I"⟩
abbrev cX10_write : ByteArray := prog_12_method_66_code
def yX10_write : MethodName := ⟨RX10, "write", "(IIZ)I"⟩
abbrev cX10_tear : ByteArray := prog_12_method_67_code
def yX10_tear : MethodName := ⟨RX10, "tear", "()I"⟩
abbrev cX10_judge : ByteArray := prog_12_method_68_code
def yX10_judge : MethodName := ⟨RX10, "judge", "()I"⟩
abbrev cX10_seed : ByteArray := prog_12_method_69_code
def yX10_seed : MethodName := ⟨RX10, "seed", "(I)I"⟩
abbrev cX10_keep : ByteArray := prog_12_method_70_code
def yX10_keep : MethodName := ⟨RX10, "keep", "(I)I"⟩
abbrev cX10_goBack : ByteArray := prog_12_method_71_code
def yX10_goBack : MethodName := ⟨RX10, "goBack", "(I)I"⟩
def RJ6 : String := "java/lang/Integer"
def TJ6 : u_T := fun k => match k with
  | _ => ("", "", "", false)
def tyJ6 : Nat → FieldType := fun k => match k with
  | _ => .int
abbrev wsJ60 : List Cond := u_ws RJ6 TJ6 0
theorem nmJ6 : ∀ a, a < 0 → ∀ b, b < 0 → a ≠ b → (TJ6 a).2.1 ≠ (TJ6 b).2.1 := by decide +kernel
theorem tyJ6_ok : ∀ k, k < 0 → parseFieldDescriptor (TJ6 k).2.2.1 = some (tyJ6 k) := by decide +kernel
abbrev cJ6_bitCount_0f7a4 : ByteArray := prog_13_method_49_code
def yJ6_bitCount_0f7a4 : MethodName := ⟨RJ6, "bitCount", "(I)I"⟩
def RJ9 : String := "java/lang/Math"
def TJ9 : u_T := fun k => match k with
  | _ => ("", "", "", false)
def tyJ9 : Nat → FieldType := fun k => match k with
  | _ => .int
abbrev wsJ90 : List Cond := u_ws RJ9 TJ9 0
theorem nmJ9 : ∀ a, a < 0 → ∀ b, b < 0 → a ≠ b → (TJ9 a).2.1 ≠ (TJ9 b).2.1 := by decide +kernel
theorem tyJ9_ok : ∀ k, k < 0 → parseFieldDescriptor (TJ9 k).2.2.1 = some (tyJ9 k) := by decide +kernel
abbrev cJ9_abs_0f7a4 : ByteArray := prog_14_method_59_code
def yJ9_abs_0f7a4 : MethodName := ⟨RJ9, "abs", "(I)I"⟩
abbrev cJ9_max_7cf53 : ByteArray := prog_14_method_65_code
def yJ9_max_7cf53 : MethodName := ⟨RJ9, "max", "(II)I"⟩
abbrev cJ9_min_7cf53 : ByteArray := prog_14_method_69_code
def yJ9_min_7cf53 : MethodName := ⟨RJ9, "min", "(II)I"⟩
def RL : String := "FireworkDeedsLaw"
abbrev cL_law : ByteArray := code
def yL_law : MethodName := ⟨RL, "law", "([I)Z"⟩
def wsL_law_r1 : List Cond := [Cond.classLink RL 7 RX9, Cond.instantiable RX9 16, Cond.initialized RX9, Cond.classLink RL 10 RX10, Cond.instantiable RX10 42, Cond.initialized RX10, Cond.methodLink RL 9 yX9_init, Cond.instanceMethod yX9_init, Cond.code yX9_init cX9_init 2 none, Cond.methodLink RX9 1 objectInit, Cond.instanceMethod objectInit, Cond.code objectInit ⟨#[0xb1]⟩ 1 none, Cond.arrayClass .int, Cond.fieldLink RX9 9 "FireworkDeeds" "text" "[I", Cond.fieldLink RX9 13 "FireworkDeeds" "letters" "I", Cond.fieldLink RX9 17 "FireworkDeeds" "faultAt" "I", Cond.classLink RX9 20 RX0, Cond.instantiable RX0 10, Cond.initialized RX0, Cond.fieldLink RX9 23 "FireworkDeeds" "shore" "LFireworkDeeds$Bay;", Cond.fieldLink RX9 27 "FireworkDeeds" "spare" "LFireworkDeeds$Bay;", Cond.fieldLink RX9 30 "FireworkDeeds" "seed" "I", Cond.classLink RX9 33 RX6, Cond.instantiable RX6 8]
def wsL_law_r2 : List Cond := [Cond.initialized RX6, Cond.fieldLink RX9 36 "FireworkDeeds" "reader" "LFireworkDeeds$Reader;", Cond.classLink RX9 40 RX3, Cond.instantiable RX3 8, Cond.initialized RX3, Cond.fieldLink RX9 43 "FireworkDeeds" "now" "LFireworkDeeds$Night;", Cond.classLink RX9 51 RX5, Cond.instantiable RX5 3, Cond.initialized RX5, Cond.fieldLink RX9 54 "FireworkDeeds" "past" "LFireworkDeeds$Past;", Cond.fieldLink RX9 58 "FireworkDeeds" "images" "[LFireworkDeeds$Night;", Cond.arrayClass .boolean, Cond.fieldLink RX9 62 "FireworkDeeds" "imageKept" "[Z", Cond.fieldLink RX9 66 "FireworkDeeds" "imageSeed" "[I", Cond.classLink RX9 69 RX7, Cond.instantiable RX7 2, Cond.initialized RX7, Cond.fieldLink RX9 72 "FireworkDeeds" "row" "LFireworkDeeds$Row;", Cond.classLink RX9 76 RX4, Cond.instantiable RX4 2, Cond.initialized RX4, Cond.fieldLink RX9 79 "FireworkDeeds" "offers" "LFireworkDeeds$Offers;", Cond.classLink RX9 83 RX2, Cond.instantiable RX2 3]
def wsL_law_r3 : List Cond := [Cond.initialized RX2, Cond.fieldLink RX9 86 "FireworkDeeds" "ducks" "LFireworkDeeds$Ducks;", Cond.classLink RX9 90 RX1, Cond.instantiable RX1 4, Cond.initialized RX1, Cond.fieldLink RX9 93 "FireworkDeeds" "book" "LFireworkDeeds$Book;", Cond.methodLink RX9 22 yX0_init, Cond.instanceMethod yX0_init, Cond.code yX0_init cX0_init 1 none, Cond.methodLink RX0 3 objectInit, Cond.fieldLink RX0 9 "FireworkDeeds$Bay" "cell" "[I", Cond.fieldLink RX0 15 "FireworkDeeds$Bay" "powder" "[I", Cond.fieldLink RX0 18 "FireworkDeeds$Bay" "firstRockets" "[I", Cond.fieldLink RX0 21 "FireworkDeeds$Bay" "stars" "[I", Cond.methodLink RX0 24 yX0_empty, Cond.instanceMethod yX0_empty, Cond.selects RX0 yX0_empty yX0_empty, Cond.code yX0_empty cX0_empty 1 none, Cond.fieldLink RX0 27 "FireworkDeeds$Bay" "width" "I", Cond.fieldLink RX0 31 "FireworkDeeds$Bay" "firstFog" "I", Cond.fieldLink RX0 34 "FireworkDeeds$Bay" "firstWind" "I", Cond.fieldLink RX0 37 "FireworkDeeds$Bay" "smoke" "I", Cond.fieldLink RX0 40 "FireworkDeeds$Bay" "dampPercent" "I", Cond.fieldLink RX0 43 "FireworkDeeds$Bay" "count" "I"]
def wsL_law_r4 : List Cond := [Cond.instanceMethod yX6_init, Cond.code yX6_init cX6_init 1 none, Cond.methodLink RX6 3 objectInit, Cond.fieldLink RX6 9 "FireworkDeeds$Reader" "text" "[I", Cond.instanceMethod yX3_init, Cond.code yX3_init cX3_init 1 none, Cond.methodLink RX3 3 objectInit, Cond.fieldLink RX3 9 "FireworkDeeds$Night" "rockets" "[I", Cond.fieldLink RX3 15 "FireworkDeeds$Night" "signedAt" "[I", Cond.fieldLink RX3 18 "FireworkDeeds$Night" "signedOver" "[I", Cond.fieldLink RX3 21 "FireworkDeeds$Night" "seenBy" "[I", Cond.methodLink RX9 47 yX3_begin, Cond.instanceMethod yX3_begin, Cond.selects RX3 yX3_begin yX3_begin, Cond.code yX3_begin cX3_begin 3 none, Cond.fieldLink RX3 24 "FireworkDeeds$Night" "minutes" "I", Cond.fieldLink RX3 28 "FireworkDeeds$Bay" "firstFog" "I", Cond.fieldLink RX3 33 "FireworkDeeds$Night" "fog" "I", Cond.fieldLink RX3 36 "FireworkDeeds$Bay" "firstWind" "I", Cond.fieldLink RX3 39 "FireworkDeeds$Night" "wind" "I", Cond.fieldLink RX3 42 "FireworkDeeds$Night" "holds" "I", Cond.fieldLink RX3 45 "FireworkDeeds$Bay" "count" "I", Cond.fieldLink RX3 48 "FireworkDeeds$Bay" "firstRockets" "[I", Cond.methodLink RX9 53 yX5_init]
def wsL_law_r5 : List Cond := [Cond.instanceMethod yX5_init, Cond.code yX5_init cX5_init 2 none, Cond.methodLink RX5 3 objectInit, Cond.classLink RX5 9 RX3, Cond.fieldLink RX5 11 "FireworkDeeds$Past" "nights" "[LFireworkDeeds$Night;", Cond.instanceMethod yX7_init, Cond.code yX7_init cX7_init 1 none, Cond.methodLink RX7 3 objectInit, Cond.fieldLink RX7 9 "FireworkDeeds$Row" "houses" "[I", Cond.classLink RX7 15 RX3, Cond.fieldLink RX7 18 "FireworkDeeds$Row" "tried" "LFireworkDeeds$Night;", Cond.instanceMethod yX4_init, Cond.code yX4_init cX4_init 1 none, Cond.methodLink RX4 3 objectInit, Cond.fieldLink RX4 9 "FireworkDeeds$Offers" "taken" "[I", Cond.fieldLink RX4 15 "FireworkDeeds$Offers" "refusedBy" "[I", Cond.instanceMethod yX2_init, Cond.code yX2_init cX2_init 1 none, Cond.methodLink RX2 3 objectInit, Cond.fieldLink RX2 9 "FireworkDeeds$Ducks" "minute" "[I", Cond.fieldLink RX2 15 "FireworkDeeds$Ducks" "cell" "[I", Cond.instanceMethod yX1_init, Cond.code yX1_init cX1_init 1 none, Cond.methodLink RX1 3 objectInit]
def wsL_law_r6 : List Cond := [Cond.fieldLink RX1 9 "FireworkDeeds$Book" "first" "[I", Cond.fieldLink RX1 15 "FireworkDeeds$Book" "second" "[I", Cond.fieldLink RX1 18 "FireworkDeeds$Book" "toldToHold" "[Z", Cond.methodLink RL 12 yX10_init, Cond.instanceMethod yX10_init, Cond.code yX10_init cX10_init 1 none, Cond.methodLink RX10 1 objectInit, Cond.fieldLink RX10 7 "FireworkDeedsModel" "cell" "[I", Cond.fieldLink RX10 13 "FireworkDeedsModel" "powder" "[I", Cond.fieldLink RX10 16 "FireworkDeedsModel" "starsMany" "[I", Cond.fieldLink RX10 19 "FireworkDeedsModel" "stars" "[I", Cond.fieldLink RX10 22 "FireworkDeedsModel" "smoke" "I", Cond.fieldLink RX10 26 "FireworkDeedsModel" "damp" "I", Cond.fieldLink RX10 29 "FireworkDeedsModel" "now" "[I", Cond.fieldLink RX10 32 "FireworkDeedsModel" "text" "[I", Cond.fieldLink RX10 35 "FireworkDeedsModel" "faultPlace" "I", Cond.fieldLink RX10 38 "FireworkDeedsModel" "readBay" "[I", Cond.fieldLink RX10 41 "FireworkDeedsModel" "readCell" "[I", Cond.fieldLink RX10 44 "FireworkDeedsModel" "readPowder" "[I", Cond.fieldLink RX10 47 "FireworkDeedsModel" "readRockets" "[I", Cond.fieldLink RX10 50 "FireworkDeedsModel" "readMany" "[I", Cond.fieldLink RX10 53 "FireworkDeedsModel" "readStars" "[I", Cond.fieldLink RX10 56 "FireworkDeedsModel" "readSmoke" "[I", Cond.fieldLink RX10 59 "FireworkDeedsModel" "readDamp" "[I"]
def wsL_law_r7 : List Cond := [Cond.fieldLink RX10 62 "FireworkDeedsModel" "past" "[I", Cond.fieldLink RX10 65 "FireworkDeedsModel" "was" "[I", Cond.fieldLink RX10 68 "FireworkDeedsModel" "figures" "[I", Cond.fieldLink RX10 71 "FireworkDeedsModel" "refused" "[I", Cond.fieldLink RX10 74 "FireworkDeedsModel" "partners" "[I", Cond.fieldLink RX10 77 "FireworkDeedsModel" "duckMinute" "[I", Cond.fieldLink RX10 80 "FireworkDeedsModel" "duckCell" "[I", Cond.fieldLink RX10 83 "FireworkDeedsModel" "bookA" "[I", Cond.fieldLink RX10 86 "FireworkDeedsModel" "bookB" "[I", Cond.fieldLink RX10 89 "FireworkDeedsModel" "bookHolds" "[Z", Cond.fieldLink RX10 93 "FireworkDeedsModel" "images" "[I", Cond.fieldLink RX10 96 "FireworkDeedsModel" "isKept" "[Z", Cond.fieldLink RX10 99 "FireworkDeedsModel" "wide" "I", Cond.methodLink RL 13 yX9_feed, Cond.instanceMethod yX9_feed, Cond.selects RX9 yX9_feed yX9_feed, Cond.code yX9_feed cX9_feed 2 (some .int), Cond.constant RX9 97 (-1000000002), Cond.constant RX9 98 (-1000000004), Cond.methodLink RL 17 yX10_feed, Cond.instanceMethod yX10_feed, Cond.selects RX10 yX10_feed yX10_feed, Cond.code yX10_feed cX10_feed 2 (some .int), Cond.constantLong RX10 109 (255)]
def wsL_law_r8 : List Cond := [Cond.constant RX10 111 (-1000000002), Cond.fieldLink RX10 112 "FireworkDeedsModel" "texted" "I", Cond.constant RX10 115 (-1000000004), Cond.methodLink RX10 105 yX10_in, Cond.static yX10_in, Cond.code yX10_in cX10_in 6 (some .boolean), Cond.methodLink RL 18 yX9_bay, Cond.instanceMethod yX9_bay, Cond.selects RX9 yX9_bay yX9_bay, Cond.code yX9_bay cX9_bay 4 (some .int), Cond.fieldLink RX9 107 "FireworkDeeds$Ducks" "count" "I", Cond.fieldLink RX9 110 "FireworkDeeds$Book" "count" "I", Cond.fieldLink RX9 111 "FireworkDeeds$Bay" "count" "I", Cond.methodLink RX9 99 yX6_read, Cond.instanceMethod yX6_read, Cond.selects RX6 yX6_read yX6_read, Cond.code yX6_read cX6_read 5 (some .int), Cond.methodLink RX6 15 Lib.Math.min.name, Cond.static Lib.Math.min.name, Cond.initialized "java/lang/Math", Cond.code Lib.Math.min.name Lib.Math.min.code 2 (some .int), Cond.fieldLink RX6 21 "FireworkDeeds$Reader" "length" "I", Cond.fieldLink RX6 25 "FireworkDeeds$Reader" "at" "I", Cond.fieldLink RX6 28 "FireworkDeeds$Reader" "faultNumber" "I"]
def wsL_law_r9 : List Cond := [Cond.fieldLink RX6 31 "FireworkDeeds$Reader" "faultAt" "I", Cond.fieldLink RX6 34 "FireworkDeeds$Reader" "smokeTold" "Z", Cond.fieldLink RX6 38 "FireworkDeeds$Reader" "dampTold" "Z", Cond.methodLink RX6 41 yX0_empty, Cond.methodLink RX6 46 yX6_skipBlanks, Cond.instanceMethod yX6_skipBlanks, Cond.selects RX6 yX6_skipBlanks yX6_skipBlanks, Cond.code yX6_skipBlanks cX6_skipBlanks 1 none, Cond.methodLink RX6 49 yX6_readClause, Cond.instanceMethod yX6_readClause, Cond.selects RX6 yX6_readClause yX6_readClause, Cond.code yX6_readClause cX6_readClause 3 none, Cond.fieldLink RX6 53 "FireworkDeeds$Bay" "width" "I", Cond.methodLink RX6 56 yX6_fail, Cond.instanceMethod yX6_fail, Cond.selects RX6 yX6_fail yX6_fail, Cond.code yX6_fail cX6_fail 3 none, Cond.methodLink RX6 60 yX6_readCells, Cond.instanceMethod yX6_readCells, Cond.selects RX6 yX6_readCells yX6_readCells, Cond.code yX6_readCells cX6_readCells 5 none, Cond.fieldLink RX6 82 "FireworkDeeds$Bay" "firstFog" "I", Cond.fieldLink RX6 85 "FireworkDeeds$Bay" "firstWind" "I", Cond.methodLink RX6 72 yX6_passWord]
def wsL_law_r10 : List Cond := [Cond.instanceMethod yX6_passWord, Cond.selects RX6 yX6_passWord yX6_passWord, Cond.code yX6_passWord cX6_passWord 2 none, Cond.methodLink RX6 76 yX6_readNumber, Cond.instanceMethod yX6_readNumber, Cond.selects RX6 yX6_readNumber yX6_readNumber, Cond.code yX6_readNumber cX6_readNumber 5 (some .int), Cond.fieldLink RX6 95 "FireworkDeeds$Reader" "numberAt" "I", Cond.methodLink RX6 79 yX6_passEnd, Cond.instanceMethod yX6_passEnd, Cond.selects RX6 yX6_passEnd yX6_passEnd, Cond.code yX6_passEnd cX6_passEnd 1 none, Cond.methodLink RX6 63 yX6_readHouse, Cond.instanceMethod yX6_readHouse, Cond.selects RX6 yX6_readHouse yX6_readHouse, Cond.code yX6_readHouse cX6_readHouse 6 none, Cond.fieldLink RX6 88 "FireworkDeeds$Bay" "count" "I", Cond.methodLink RX6 91 yX0_houseOn, Cond.instanceMethod yX0_houseOn, Cond.selects RX0 yX0_houseOn yX0_houseOn, Cond.code yX0_houseOn cX0_houseOn 3 (some .int), Cond.methodLink RX6 98 yX6_readStars, Cond.instanceMethod yX6_readStars, Cond.selects RX6 yX6_readStars yX6_readStars]
def wsL_law_r11 : List Cond := [Cond.code yX6_readStars cX6_readStars 4 (some .int), Cond.methodLink RX6 112 yX0_houseOfStars, Cond.instanceMethod yX0_houseOfStars, Cond.selects RX0 yX0_houseOfStars yX0_houseOfStars, Cond.code yX0_houseOfStars cX0_houseOfStars 3 (some .int), Cond.methodLink RX6 102 yX0_settle, Cond.instanceMethod yX0_settle, Cond.selects RX0 yX0_settle yX0_settle, Cond.code yX0_settle cX0_settle 5 none, Cond.methodLink RX6 66 yX6_readSmoke, Cond.instanceMethod yX6_readSmoke, Cond.selects RX6 yX6_readSmoke yX6_readSmoke, Cond.code yX6_readSmoke cX6_readSmoke 3 none, Cond.fieldLink RX6 106 "FireworkDeeds$Bay" "smoke" "I", Cond.methodLink RX6 69 yX6_readDamp, Cond.instanceMethod yX6_readDamp, Cond.selects RX6 yX6_readDamp yX6_readDamp, Cond.code yX6_readDamp cX6_readDamp 3 none, Cond.fieldLink RX6 109 "FireworkDeeds$Bay" "dampPercent" "I", Cond.methodLink RX9 104 yX5_clear, Cond.instanceMethod yX5_clear, Cond.selects RX5 yX5_clear yX5_clear, Cond.code yX5_clear cX5_clear 1 none, Cond.fieldLink RX5 18 "FireworkDeeds$Past" "next" "I"]
def wsL_law_r12 : List Cond := [Cond.fieldLink RX5 22 "FireworkDeeds$Past" "count" "I", Cond.methodLink RL 22 yX10_bay, Cond.instanceMethod yX10_bay, Cond.selects RX10 yX10_bay yX10_bay, Cond.code yX10_bay cX10_bay 2 (some .int), Cond.fieldLink RX10 116 "FireworkDeedsModel" "at0" "I", Cond.fieldLink RX10 156 "FireworkDeedsModel" "readHouses" "I", Cond.fieldLink RX10 166 "FireworkDeedsModel" "hasSmoke" "Z", Cond.fieldLink RX10 170 "FireworkDeedsModel" "hasDamp" "Z", Cond.fieldLink RX10 185 "FireworkDeedsModel" "ducks" "I", Cond.fieldLink RX10 188 "FireworkDeedsModel" "booked" "I", Cond.fieldLink RX10 191 "FireworkDeedsModel" "undos" "I", Cond.fieldLink RX10 102 "FireworkDeedsModel" "houses" "I", Cond.methodLink RX10 119 yX10_here, Cond.instanceMethod yX10_here, Cond.selects RX10 yX10_here yX10_here, Cond.code yX10_here cX10_here 1 (some .int), Cond.methodLink RX10 179 yX10_takeClause, Cond.instanceMethod yX10_takeClause, Cond.selects RX10 yX10_takeClause yX10_takeClause, Cond.code yX10_takeClause cX10_takeClause 5 (some .int), Cond.methodLink RX10 127 yX10_fails, Cond.instanceMethod yX10_fails, Cond.selects RX10 yX10_fails yX10_fails]
def wsL_law_r13 : List Cond := [Cond.code yX10_fails cX10_fails 3 (some .int), Cond.methodLink RX10 173 yX10_takeBay, Cond.instanceMethod yX10_takeBay, Cond.selects RX10 yX10_takeBay yX10_takeBay, Cond.code yX10_takeBay cX10_takeBay 2 (some .int), Cond.methodLink RX10 140 yX10_into, Cond.instanceMethod yX10_into, Cond.selects RX10 yX10_into yX10_into, Cond.code yX10_into cX10_into 6 (some .int), Cond.fieldLink RX10 134 "FireworkDeedsModel" "number" "I", Cond.methodLink RX10 137 yX10_takeNumber, Cond.instanceMethod yX10_takeNumber, Cond.selects RX10 yX10_takeNumber yX10_takeNumber, Cond.code yX10_takeNumber cX10_takeNumber 4 (some .int), Cond.constantLong RX10 123 (48), Cond.constantLong RX10 125 (57), Cond.fieldLink RX10 131 "FireworkDeedsModel" "numberAt" "I", Cond.methodLink RX10 176 yX10_takeHouse, Cond.instanceMethod yX10_takeHouse, Cond.selects RX10 yX10_takeHouse yX10_takeHouse, Cond.code yX10_takeHouse cX10_takeHouse 3 (some .int), Cond.methodLink RX10 159 yX10_takeCell, Cond.instanceMethod yX10_takeCell, Cond.selects RX10 yX10_takeCell yX10_takeCell]
def wsL_law_r14 : List Cond := [Cond.code yX10_takeCell cX10_takeCell 4 (some .int), Cond.methodLink RX10 163 yX10_takeStars, Cond.instanceMethod yX10_takeStars, Cond.selects RX10 yX10_takeStars yX10_takeStars, Cond.code yX10_takeStars cX10_takeStars 6 (some .int), Cond.constantLong RX10 144 (97), Cond.constantLong RX10 146 (101), Cond.methodLink RX10 148 yX10_isStar, Cond.instanceMethod yX10_isStar, Cond.selects RX10 yX10_isStar yX10_isStar, Cond.code yX10_isStar cX10_isStar 2 (some .boolean), Cond.methodLink RX10 152 yX10_areLike, Cond.instanceMethod yX10_areLike, Cond.selects RX10 yX10_areLike yX10_areLike, Cond.code yX10_areLike cX10_areLike 5 (some .boolean), Cond.methodLink RX10 182 yX10_takeRead, Cond.instanceMethod yX10_takeRead, Cond.selects RX10 yX10_takeRead yX10_takeRead, Cond.code yX10_takeRead cX10_takeRead 3 none, Cond.methodLink RL 23 yX9_fault, Cond.instanceMethod yX9_fault, Cond.selects RX9 yX9_fault yX9_fault, Cond.code yX9_fault cX9_fault 1 (some .int), Cond.methodLink RL 26 yX10_fault]
def wsL_law_r15 : List Cond := [Cond.instanceMethod yX10_fault, Cond.selects RX10 yX10_fault yX10_fault, Cond.code yX10_fault cX10_fault 1 (some .int), Cond.methodLink RL 27 yX9_told, Cond.instanceMethod yX9_told, Cond.selects RX9 yX9_told yX9_told, Cond.code yX9_told cX9_told 2 (some .int), Cond.fieldLink RX9 112 "FireworkDeeds$Bay" "width" "I", Cond.fieldLink RX9 115 "FireworkDeeds$Night" "fog" "I", Cond.fieldLink RX9 118 "FireworkDeeds$Night" "wind" "I", Cond.fieldLink RX9 121 "FireworkDeeds$Bay" "smoke" "I", Cond.fieldLink RX9 124 "FireworkDeeds$Bay" "dampPercent" "I", Cond.fieldLink RX9 127 "FireworkDeeds$Night" "minutes" "I", Cond.fieldLink RX9 130 "FireworkDeeds$Night" "holds" "I", Cond.fieldLink RX9 143 "FireworkDeeds$Past" "count" "I", Cond.methodLink RX9 133 yJ6_bitCount_0f7a4, Cond.static yJ6_bitCount_0f7a4, Cond.initialized RJ6, Cond.code yJ6_bitCount_0f7a4 cJ6_bitCount_0f7a4 1 (some .int), Cond.constant RJ6 265 (1431655765), Cond.constant RJ6 266 (858993459), Cond.constant RJ6 267 (252645135), Cond.methodLink RX9 139 yX3_conditionals, Cond.instanceMethod yX3_conditionals]
def wsL_law_r16 : List Cond := [Cond.selects RX3 yX3_conditionals yX3_conditionals, Cond.code yX3_conditionals cX3_conditionals 5 (some .int), Cond.methodLink RX3 112 yX3_holdsFor, Cond.instanceMethod yX3_holdsFor, Cond.selects RX3 yX3_holdsFor yX3_holdsFor, Cond.code yX3_holdsFor cX3_holdsFor 3 (some .boolean), Cond.methodLink RX3 109 yX3_pairBit, Cond.static yX3_pairBit, Cond.code yX3_pairBit cX3_pairBit 3 (some .int), Cond.methodLink RX3 67 Lib.Math.max.name, Cond.static Lib.Math.max.name, Cond.code Lib.Math.max.name Lib.Math.max.code 2 (some .int), Cond.methodLink RX3 61 Lib.Math.min.name, Cond.methodLink RX3 116 yX0_anyGreen, Cond.instanceMethod yX0_anyGreen, Cond.selects RX0 yX0_anyGreen yX0_anyGreen, Cond.code yX0_anyGreen cX0_anyGreen 3 (some .boolean), Cond.methodLink RX0 56 yX8_greens, Cond.static yX8_greens, Cond.initialized RX8, Cond.code yX8_greens cX8_greens 3 (some .int), Cond.methodLink RL 30 yX10_told, Cond.instanceMethod yX10_told, Cond.selects RX10 yX10_told yX10_told]
def wsL_law_r17 : List Cond := [Cond.code yX10_told cX10_told 2 (some .int), Cond.methodLink RX10 200 yX10_contracts, Cond.instanceMethod yX10_contracts, Cond.selects RX10 yX10_contracts yX10_contracts, Cond.code yX10_contracts cX10_contracts 5 (some .int), Cond.methodLink RX10 194 yX10_has, Cond.static yX10_has, Cond.code yX10_has cX10_has 2 (some .boolean), Cond.methodLink RX10 197 yX10_isGreen, Cond.instanceMethod yX10_isGreen, Cond.selects RX10 yX10_isGreen yX10_isGreen, Cond.code yX10_isGreen cX10_isGreen 4 (some .boolean), Cond.methodLink RL 31 yX9_house, Cond.instanceMethod yX9_house, Cond.selects RX9 yX9_house yX9_house, Cond.code yX9_house cX9_house 3 (some .int), Cond.constant RX9 148 (-1000000001), Cond.fieldLink RX9 149 "FireworkDeeds$Bay" "cell" "[I", Cond.fieldLink RX9 152 "FireworkDeeds$Bay" "powder" "[I", Cond.fieldLink RX9 155 "FireworkDeeds$Night" "rockets" "[I", Cond.fieldLink RX9 158 "FireworkDeeds$Bay" "stars" "[I", Cond.fieldLink RX9 165 "FireworkDeeds$Night" "signedAt" "[I", Cond.fieldLink RX9 168 "FireworkDeeds$Night" "signedOver" "[I", Cond.methodLink RX9 144 yX0_has]
def wsL_law_r18 : List Cond := [Cond.instanceMethod yX0_has, Cond.selects RX0 yX0_has yX0_has, Cond.code yX0_has cX0_has 2 (some .boolean), Cond.methodLink RX9 161 yX8_count, Cond.static yX8_count, Cond.code yX8_count cX8_count 3 (some .int), Cond.methodLink RX9 171 yX0_readAs, Cond.instanceMethod yX0_readAs, Cond.selects RX0 yX0_readAs yX0_readAs, Cond.code yX0_readAs cX0_readAs 4 (some .int), Cond.methodLink RL 35 yX10_house, Cond.instanceMethod yX10_house, Cond.selects RX10 yX10_house yX10_house, Cond.code yX10_house cX10_house 3 (some .int), Cond.constant RX10 207 (-1000000001), Cond.methodLink RX10 204 yX10_isHouse, Cond.instanceMethod yX10_isHouse, Cond.selects RX10 yX10_isHouse yX10_isHouse, Cond.code yX10_isHouse cX10_isHouse 2 (some .boolean), Cond.methodLink RX10 208 yX10_starNumber, Cond.instanceMethod yX10_starNumber, Cond.selects RX10 yX10_starNumber yX10_starNumber, Cond.code yX10_starNumber cX10_starNumber 4 (some .int), Cond.methodLink RX10 211 yX10_readAs]
def wsL_law_r19 : List Cond := [Cond.instanceMethod yX10_readAs, Cond.selects RX10 yX10_readAs yX10_readAs, Cond.code yX10_readAs cX10_readAs 5 (some .int), Cond.methodLink RL 36 yX9_sees, Cond.instanceMethod yX9_sees, Cond.selects RX9 yX9_sees yX9_sees, Cond.code yX9_sees cX9_sees 3 (some .int), Cond.methodLink RX9 174 yX0_hasTwo, Cond.instanceMethod yX0_hasTwo, Cond.selects RX0 yX0_hasTwo yX0_hasTwo, Cond.code yX0_hasTwo cX0_hasTwo 3 (some .boolean), Cond.methodLink RX0 46 yX0_has, Cond.methodLink RX9 178 yX3_viewers, Cond.instanceMethod yX3_viewers, Cond.selects RX3 yX3_viewers yX3_viewers, Cond.code yX3_viewers cX3_viewers 3 (some .int), Cond.methodLink RX3 87 yX3_hidden, Cond.instanceMethod yX3_hidden, Cond.selects RX3 yX3_hidden yX3_hidden, Cond.code yX3_hidden cX3_hidden 6 (some .boolean), Cond.fieldLink RX3 84 "FireworkDeeds$Bay" "smoke" "I", Cond.methodLink RX3 70 yX3_cellOver, Cond.instanceMethod yX3_cellOver, Cond.selects RX3 yX3_cellOver yX3_cellOver]
def wsL_law_r20 : List Cond := [Cond.code yX3_cellOver cX3_cellOver 3 (some .int), Cond.fieldLink RX3 55 "FireworkDeeds$Bay" "width" "I", Cond.fieldLink RX3 58 "FireworkDeeds$Bay" "cell" "[I", Cond.methodLink RX3 91 yX3_inReach, Cond.instanceMethod yX3_inReach, Cond.selects RX3 yX3_inReach yX3_inReach, Cond.code yX3_inReach cX3_inReach 7 (some .int), Cond.methodLink RX3 80 Lib.Math.abs.name, Cond.static Lib.Math.abs.name, Cond.code Lib.Math.abs.name Lib.Math.abs.code 1 (some .int), Cond.methodLink RX3 77 yX3_reach, Cond.instanceMethod yX3_reach, Cond.selects RX3 yX3_reach yX3_reach, Cond.code yX3_reach cX3_reach 3 (some .int), Cond.fieldLink RX3 74 "FireworkDeeds$Bay" "powder" "[I", Cond.methodLink RL 39 yX10_sees, Cond.instanceMethod yX10_sees, Cond.selects RX10 yX10_sees yX10_sees, Cond.code yX10_sees cX10_sees 3 (some .int), Cond.methodLink RX10 226 yX10_areTwo, Cond.instanceMethod yX10_areTwo, Cond.selects RX10 yX10_areTwo yX10_areTwo, Cond.code yX10_areTwo cX10_areTwo 3 (some .boolean), Cond.methodLink RX10 229 yX10_seers]
def wsL_law_r21 : List Cond := [Cond.instanceMethod yX10_seers, Cond.selects RX10 yX10_seers yX10_seers, Cond.code yX10_seers cX10_seers 5 (some .int), Cond.methodLink RX10 214 yX10_overOf, Cond.instanceMethod yX10_overOf, Cond.selects RX10 yX10_overOf yX10_overOf, Cond.code yX10_overOf cX10_overOf 3 (some .int), Cond.methodLink RX10 217 yX10_apart, Cond.static yX10_apart, Cond.code yX10_apart cX10_apart 2 (some .int), Cond.methodLink RX10 220 yX10_reach, Cond.instanceMethod yX10_reach, Cond.selects RX10 yX10_reach yX10_reach, Cond.code yX10_reach cX10_reach 2 (some .int), Cond.methodLink RX10 223 yX10_isHidden, Cond.instanceMethod yX10_isHidden, Cond.selects RX10 yX10_isHidden yX10_isHidden, Cond.code yX10_isHidden cX10_isHidden 5 (some .boolean), Cond.methodLink RL 40 yX9_contract, Cond.instanceMethod yX9_contract, Cond.selects RX9 yX9_contract yX9_contract, Cond.code yX9_contract cX9_contract 3 (some .int), Cond.methodLink RX9 182 yX3_holdsFor, Cond.methodLink RX9 185 yX0_anyGreen]
def wsL_law_r22 : List Cond := [Cond.methodLink RL 43 yX10_contract, Cond.instanceMethod yX10_contract, Cond.selects RX10 yX10_contract yX10_contract, Cond.code yX10_contract cX10_contract 3 (some .int), Cond.methodLink RL 44 yX9_light, Cond.instanceMethod yX9_light, Cond.selects RX9 yX9_light yX9_light, Cond.code yX9_light cX9_light 2 (some .int), Cond.constant RX9 188 (-1000000003), Cond.methodLink RX9 189 yX5_push, Cond.instanceMethod yX5_push, Cond.selects RX5 yX5_push yX5_push, Cond.code yX5_push cX5_push 2 none, Cond.methodLink RX5 29 Lib.Math.min.name, Cond.methodLink RX5 25 yX3_become, Cond.instanceMethod yX3_become, Cond.selects RX3 yX3_become yX3_become, Cond.code yX3_become cX3_become 3 none, Cond.methodLink RX3 51 yX3_signedAs, Cond.instanceMethod yX3_signedAs, Cond.selects RX3 yX3_signedAs yX3_signedAs, Cond.code yX3_signedAs cX3_signedAs 3 none, Cond.methodLink RX9 193 yX3_sign, Cond.instanceMethod yX3_sign]
def wsL_law_r23 : List Cond := [Cond.selects RX3 yX3_sign yX3_sign, Cond.code yX3_sign cX3_sign 3 none, Cond.methodLink RX3 94 yX3_viewers, Cond.methodLink RX9 197 yX3_agree, Cond.instanceMethod yX3_agree, Cond.selects RX3 yX3_agree yX3_agree, Cond.code yX3_agree cX3_agree 5 (some .int), Cond.methodLink RX3 97 yJ6_bitCount_0f7a4, Cond.methodLink RX3 102 yX3_meet, Cond.instanceMethod yX3_meet, Cond.selects RX3 yX3_meet yX3_meet, Cond.code yX3_meet cX3_meet 7 none, Cond.methodLink RX3 106 yX0_readAs, Cond.methodLink RL 47 yX10_light, Cond.instanceMethod yX10_light, Cond.selects RX10 yX10_light yX10_light, Cond.code yX10_light cX10_light 5 (some .int), Cond.constant RX10 232 (-1000000003), Cond.methodLink RX10 233 yX10_remember, Cond.instanceMethod yX10_remember, Cond.selects RX10 yX10_remember yX10_remember, Cond.code yX10_remember cX10_remember 2 none, Cond.methodLink RX10 236 yX10_lightNow, Cond.instanceMethod yX10_lightNow]
def wsL_law_r24 : List Cond := [Cond.selects RX10 yX10_lightNow yX10_lightNow, Cond.code yX10_lightNow cX10_lightNow 3 none, Cond.methodLink RX10 240 yX10_holds, Cond.instanceMethod yX10_holds, Cond.selects RX10 yX10_holds yX10_holds, Cond.code yX10_holds cX10_holds 6 (some .boolean), Cond.methodLink RL 48 yX9_minute, Cond.instanceMethod yX9_minute, Cond.selects RX9 yX9_minute yX9_minute, Cond.code yX9_minute cX9_minute 3 (some .int), Cond.methodLink RX9 200 yX9_refusalOfMinutes, Cond.instanceMethod yX9_refusalOfMinutes, Cond.selects RX9 yX9_refusalOfMinutes yX9_refusalOfMinutes, Cond.code yX9_refusalOfMinutes cX9_refusalOfMinutes 2 (some .int), Cond.constant RX9 287 (90000), Cond.methodLink RL 51 yX10_minute, Cond.instanceMethod yX10_minute, Cond.selects RX10 yX10_minute yX10_minute, Cond.code yX10_minute cX10_minute 3 (some .int), Cond.methodLink RX10 246 yX10_minutesRefused, Cond.instanceMethod yX10_minutesRefused, Cond.selects RX10 yX10_minutesRefused yX10_minutesRefused, Cond.code yX10_minutesRefused cX10_minutesRefused 2 (some .int), Cond.constantLong RX10 243 (99)]
def wsL_law_r25 : List Cond := [Cond.constant RX10 245 (90000), Cond.methodLink RL 52 yX9_fog, Cond.instanceMethod yX9_fog, Cond.selects RX9 yX9_fog yX9_fog, Cond.code yX9_fog cX9_fog 3 (some .int), Cond.methodLink RL 55 yX10_fog, Cond.instanceMethod yX10_fog, Cond.selects RX10 yX10_fog yX10_fog, Cond.code yX10_fog cX10_fog 3 (some .int), Cond.constantLong RX10 249 (20), Cond.methodLink RL 56 yX9_wind, Cond.instanceMethod yX9_wind, Cond.selects RX9 yX9_wind yX9_wind, Cond.code yX9_wind cX9_wind 3 (some .int), Cond.methodLink RL 59 yX10_wind, Cond.instanceMethod yX10_wind, Cond.selects RX10 yX10_wind yX10_wind, Cond.code yX10_wind cX10_wind 3 (some .int), Cond.constantLong RX10 251 (-5), Cond.constantLong RX10 253 (5), Cond.methodLink RL 60 yX9_drift, Cond.instanceMethod yX9_drift, Cond.selects RX9 yX9_drift yX9_drift, Cond.code yX9_drift cX9_drift 4 (some .int)]
def wsL_law_r26 : List Cond := [Cond.methodLink RX9 203 yX9_changeWeather, Cond.instanceMethod yX9_changeWeather, Cond.selects RX9 yX9_changeWeather yX9_changeWeather, Cond.code yX9_changeWeather cX9_changeWeather 2 none, Cond.methodLink RX9 288 yX9_draw, Cond.instanceMethod yX9_draw, Cond.selects RX9 yX9_draw yX9_draw, Cond.code yX9_draw cX9_draw 2 (some .int), Cond.constantLong RX9 291 (1103515245), Cond.constantLong RX9 293 (12345), Cond.constantLong RX9 295 (2147483647), Cond.constant RX9 297 (65536), Cond.methodLink RL 63 yX10_drift, Cond.instanceMethod yX10_drift, Cond.selects RX10 yX10_drift yX10_drift, Cond.code yX10_drift cX10_drift 5 (some .int), Cond.methodLink RX10 265 yX10_draw, Cond.instanceMethod yX10_draw, Cond.selects RX10 yX10_draw yX10_draw, Cond.code yX10_draw cX10_draw 2 (some .int), Cond.fieldLink RX10 255 "FireworkDeedsModel" "seed" "I", Cond.constantLong RX10 258 (1103515245), Cond.constantLong RX10 260 (12345), Cond.constantLong RX10 262 (2147483648)]
def wsL_law_r27 : List Cond := [Cond.constant RX10 264 (65536), Cond.methodLink RL 64 yX9_undo, Cond.instanceMethod yX9_undo, Cond.selects RX9 yX9_undo yX9_undo, Cond.code yX9_undo cX9_undo 1 (some .int), Cond.methodLink RX9 206 yX5_pop, Cond.instanceMethod yX5_pop, Cond.selects RX5 yX5_pop yX5_pop, Cond.code yX5_pop cX5_pop 2 none, Cond.methodLink RL 67 yX10_undo, Cond.instanceMethod yX10_undo, Cond.selects RX10 yX10_undo yX10_undo, Cond.code yX10_undo cX10_undo 2 (some .int), Cond.methodLink RL 68 yX9_order, Cond.instanceMethod yX9_order, Cond.selects RX9 yX9_order yX9_order, Cond.code yX9_order cX9_order 4 (some .int), Cond.fieldLink RX9 216 "FireworkDeeds$Row" "houses" "[I", Cond.methodLink RX9 209 yX0_hasAll, Cond.instanceMethod yX0_hasAll, Cond.selects RX0 yX0_hasAll yX0_hasAll, Cond.code yX0_hasAll cX0_hasAll 2 (some .boolean), Cond.methodLink RX9 212 yX7_find, Cond.instanceMethod yX7_find]
def wsL_law_r28 : List Cond := [Cond.selects RX7 yX7_find yX7_find, Cond.code yX7_find cX7_find 5 (some .boolean), Cond.fieldLink RX7 22 "FireworkDeeds$Bay" "count" "I", Cond.methodLink RX7 28 yX3_inReach, Cond.methodLink RX7 32 yJ6_bitCount_0f7a4, Cond.methodLink RX7 38 yX3_become, Cond.methodLink RX7 42 yX7_extend, Cond.instanceMethod yX7_extend, Cond.selects RX7 yX7_extend yX7_extend, Cond.code yX7_extend cX7_extend 6 (some .boolean), Cond.fieldLink RX7 46 "FireworkDeeds$Night" "minutes" "I", Cond.methodLink RX7 49 yX7_fits, Cond.instanceMethod yX7_fits, Cond.selects RX7 yX7_fits yX7_fits, Cond.code yX7_fits cX7_fits 4 (some .boolean), Cond.methodLink RX7 61 yX0_apart, Cond.instanceMethod yX0_apart, Cond.selects RX0 yX0_apart yX0_apart, Cond.code yX0_apart cX0_apart 3 (some .int), Cond.methodLink RX0 50 Lib.Math.abs.name, Cond.methodLink RX7 65 yX3_hidden, Cond.methodLink RX7 53 yX3_sign, Cond.methodLink RX7 57 yX3_signedAs, Cond.methodLink RL 71 yX10_order]
def wsL_law_r29 : List Cond := [Cond.instanceMethod yX10_order, Cond.selects RX10 yX10_order yX10_order, Cond.code yX10_order cX10_order 5 (some .int), Cond.methodLink RX10 275 yX10_isSet, Cond.instanceMethod yX10_isSet, Cond.selects RX10 yX10_isSet yX10_isSet, Cond.code yX10_isSet cX10_isSet 2 (some .boolean), Cond.methodLink RX10 272 yX10_bits, Cond.static yX10_bits, Cond.code yX10_bits cX10_bits 3 (some .int), Cond.methodLink RX10 278 yX10_isOrder, Cond.instanceMethod yX10_isOrder, Cond.selects RX10 yX10_isOrder yX10_isOrder, Cond.code yX10_isOrder cX10_isOrder 8 (some .boolean), Cond.methodLink RX10 268 yX10_figure, Cond.static yX10_figure, Cond.code yX10_figure cX10_figure 3 (some .int), Cond.methodLink RL 72 yX9_signers, Cond.instanceMethod yX9_signers, Cond.selects RX9 yX9_signers yX9_signers, Cond.code yX9_signers cX9_signers 4 (some .int), Cond.methodLink RL 75 yX10_signers, Cond.instanceMethod yX10_signers, Cond.selects RX10 yX10_signers yX10_signers]
def wsL_law_r30 : List Cond := [Cond.code yX10_signers cX10_signers 4 (some .int), Cond.methodLink RL 76 yX9_farShore, Cond.instanceMethod yX9_farShore, Cond.selects RX9 yX9_farShore yX9_farShore, Cond.code yX9_farShore cX9_farShore 6 (some .int), Cond.methodLink RX9 219 yX8_fromTheEnd, Cond.static yX8_fromTheEnd, Cond.code yX8_fromTheEnd cX8_fromTheEnd 3 (some .int), Cond.methodLink RX9 222 yX0_houseOfStars, Cond.methodLink RL 79 yX10_farShore, Cond.instanceMethod yX10_farShore, Cond.selects RX10 yX10_farShore yX10_farShore, Cond.code yX10_farShore cX10_farShore 5 (some .int), Cond.methodLink RX10 282 yX10_isFarOf, Cond.instanceMethod yX10_isFarOf, Cond.selects RX10 yX10_isFarOf yX10_isFarOf, Cond.code yX10_isFarOf cX10_isFarOf 5 (some .boolean), Cond.methodLink RL 80 yX9_cross, Cond.instanceMethod yX9_cross, Cond.selects RX9 yX9_cross yX9_cross, Cond.code yX9_cross cX9_cross 3 (some .int), Cond.methodLink RX9 229 Lib.Math.min.name, Cond.methodLink RX9 225 yX0_apart, Cond.methodLink RX9 234 yX0_houseOn]
def wsL_law_r31 : List Cond := [Cond.methodLink RL 83 yX10_cross, Cond.instanceMethod yX10_cross, Cond.selects RX10 yX10_cross yX10_cross, Cond.code yX10_cross cX10_cross 5 (some .int), Cond.methodLink RL 84 yX9_treaty, Cond.instanceMethod yX9_treaty, Cond.selects RX9 yX9_treaty yX9_treaty, Cond.code yX9_treaty cX9_treaty 4 (some .int), Cond.methodLink RX9 237 yX3_lackOfPowder, Cond.instanceMethod yX3_lackOfPowder, Cond.selects RX3 yX3_lackOfPowder yX3_lackOfPowder, Cond.code yX3_lackOfPowder cX3_lackOfPowder 7 (some .int), Cond.methodLink RL 87 yX10_treaty, Cond.instanceMethod yX10_treaty, Cond.selects RX10 yX10_treaty yX10_treaty, Cond.code yX10_treaty cX10_treaty 7 (some .int), Cond.methodLink RL 88 yX9_forged, Cond.instanceMethod yX9_forged, Cond.selects RX9 yX9_forged yX9_forged, Cond.code yX9_forged cX9_forged 6 (some .int), Cond.methodLink RX9 247 Lib.Math.max.name, Cond.constant RX9 250 (1000000000), Cond.methodLink RX9 241 yX8_areStars, Cond.static yX8_areStars]
def wsL_law_r32 : List Cond := [Cond.code yX8_areStars cX8_areStars 3 (some .boolean), Cond.constant RX8 9 (99999), Cond.methodLink RX9 244 yX8_unlike, Cond.static yX8_unlike, Cond.code yX8_unlike cX8_unlike 6 (some .int), Cond.methodLink RX8 10 yX8_fromTheEnd, Cond.methodLink RX9 251 yX9_cutOdds, Cond.static yX9_cutOdds, Cond.code yX9_cutOdds cX9_cutOdds 6 (some .int), Cond.constantLong RX9 298 (100), Cond.methodLink RL 92 yX10_forged, Cond.instanceMethod yX10_forged, Cond.selects RX10 yX10_forged yX10_forged, Cond.code yX10_forged cX10_forged 11 (some .int), Cond.constantLong RX10 288 (1000000000), Cond.constantLong RX10 290 (100), Cond.methodLink RX10 285 yX10_figuresOf, Cond.instanceMethod yX10_figuresOf, Cond.selects RX10 yX10_figuresOf yX10_figuresOf, Cond.code yX10_figuresOf cX10_figuresOf 5 (some .int), Cond.methodLink RL 93 yX9_damp, Cond.instanceMethod yX9_damp, Cond.selects RX9 yX9_damp yX9_damp, Cond.code yX9_damp cX9_damp 4 (some .int)]
def wsL_law_r33 : List Cond := [Cond.methodLink RX9 255 yX8_greens, Cond.methodLink RL 96 yX10_damp, Cond.instanceMethod yX10_damp, Cond.selects RX10 yX10_damp yX10_damp, Cond.code yX10_damp cX10_damp 6 (some .int), Cond.methodLink RL 97 yX9_partner, Cond.instanceMethod yX9_partner, Cond.selects RX9 yX9_partner yX9_partner, Cond.code yX9_partner cX9_partner 2 (some .int), Cond.fieldLink RX9 262 "FireworkDeeds$Offers" "taken" "[I", Cond.methodLink RX9 258 yX4_settle, Cond.instanceMethod yX4_settle, Cond.selects RX4 yX4_settle yX4_settle, Cond.code yX4_settle cX4_settle 5 none, Cond.methodLink RX4 18 yX4_askAll, Cond.instanceMethod yX4_askAll, Cond.selects RX4 yX4_askAll yX4_askAll, Cond.code yX4_askAll cX4_askAll 6 (some .boolean), Cond.fieldLink RX4 22 "FireworkDeeds$Bay" "count" "I", Cond.fieldLink RX4 28 "FireworkDeeds$Night" "rockets" "[I", Cond.methodLink RX4 33 yX4_nearestToAsk, Cond.instanceMethod yX4_nearestToAsk, Cond.selects RX4 yX4_nearestToAsk yX4_nearestToAsk, Cond.code yX4_nearestToAsk cX4_nearestToAsk 7 (some .int)]
def wsL_law_r34 : List Cond := [Cond.methodLink RX4 41 yX0_apart, Cond.methodLink RX4 37 yX4_ask, Cond.instanceMethod yX4_ask, Cond.selects RX4 yX4_ask yX4_ask, Cond.code yX4_ask cX4_ask 5 none, Cond.methodLink RX4 45 yX4_pair, Cond.instanceMethod yX4_pair, Cond.selects RX4 yX4_pair yX4_pair, Cond.code yX4_pair cX4_pair 3 none, Cond.methodLink RX4 49 yX4_isNearer, Cond.static yX4_isNearer, Cond.code yX4_isNearer cX4_isNearer 6 (some .boolean), Cond.methodLink RL 100 yX10_partner, Cond.instanceMethod yX10_partner, Cond.selects RX10 yX10_partner yX10_partner, Cond.code yX10_partner cX10_partner 5 (some .int), Cond.methodLink RX10 295 yX10_nearest, Cond.instanceMethod yX10_nearest, Cond.selects RX10 yX10_nearest yX10_nearest, Cond.code yX10_nearest cX10_nearest 5 (some .int), Cond.methodLink RX10 298 yX10_ask, Cond.instanceMethod yX10_ask, Cond.selects RX10 yX10_ask yX10_ask, Cond.code yX10_ask cX10_ask 4 none]
def wsL_law_r35 : List Cond := [Cond.methodLink RX10 292 yX10_isKeptOf, Cond.instanceMethod yX10_isKeptOf, Cond.selects RX10 yX10_isKeptOf yX10_isKeptOf, Cond.code yX10_isKeptOf cX10_isKeptOf 6 (some .boolean), Cond.methodLink RL 101 yX9_duck, Cond.instanceMethod yX9_duck, Cond.selects RX9 yX9_duck yX9_duck, Cond.code yX9_duck cX9_duck 3 (some .int), Cond.methodLink RX9 265 yX2_add, Cond.instanceMethod yX2_add, Cond.selects RX2 yX2_add yX2_add, Cond.code yX2_add cX2_add 3 none, Cond.fieldLink RX2 18 "FireworkDeeds$Ducks" "count" "I", Cond.methodLink RL 104 yX10_duck, Cond.instanceMethod yX10_duck, Cond.selects RX10 yX10_duck yX10_duck, Cond.code yX10_duck cX10_duck 3 (some .int), Cond.constantLong RX10 302 (999), Cond.methodLink RL 105 yX9_lit, Cond.instanceMethod yX9_lit, Cond.selects RX9 yX9_lit yX9_lit, Cond.code yX9_lit cX9_lit 2 (some .int), Cond.fieldLink RX9 273 "FireworkDeeds$Ducks" "cell" "[I", Cond.methodLink RX9 269 yX2_ways]
def wsL_law_r36 : List Cond := [Cond.instanceMethod yX2_ways, Cond.selects RX2 yX2_ways yX2_ways, Cond.code yX2_ways cX2_ways 6 (some .int), Cond.methodLink RX2 37 Lib.Math.max.name, Cond.methodLink RX2 22 yX3_housesOver, Cond.instanceMethod yX3_housesOver, Cond.selects RX3 yX3_housesOver yX3_housesOver, Cond.code yX3_housesOver cX3_housesOver 5 (some .int), Cond.methodLink RX2 28 yJ6_bitCount_0f7a4, Cond.methodLink RX2 34 yX2_alikeAhead, Cond.instanceMethod yX2_alikeAhead, Cond.selects RX2 yX2_alikeAhead yX2_alikeAhead, Cond.code yX2_alikeAhead cX2_alikeAhead 4 (some .int), Cond.methodLink RX9 274 yX3_housesOver, Cond.methodLink RL 108 yX10_lit, Cond.instanceMethod yX10_lit, Cond.selects RX10 yX10_lit yX10_lit, Cond.code yX10_lit cX10_lit 6 (some .int), Cond.methodLink RX10 304 yX10_litOver, Cond.instanceMethod yX10_litOver, Cond.selects RX10 yX10_litOver yX10_litOver, Cond.code yX10_litOver cX10_litOver 4 (some .int), Cond.methodLink RL 109 yX9_write, Cond.instanceMethod yX9_write]
def wsL_law_r37 : List Cond := [Cond.selects RX9 yX9_write yX9_write, Cond.code yX9_write cX9_write 4 (some .int), Cond.methodLink RX9 277 yX1_add, Cond.instanceMethod yX1_add, Cond.selects RX1 yX1_add yX1_add, Cond.code yX1_add cX1_add 4 none, Cond.fieldLink RX1 22 "FireworkDeeds$Book" "count" "I", Cond.methodLink RL 113 yX10_write, Cond.instanceMethod yX10_write, Cond.selects RX10 yX10_write yX10_write, Cond.code yX10_write cX10_write 4 (some .int), Cond.methodLink RL 114 yX9_tear, Cond.instanceMethod yX9_tear, Cond.selects RX9 yX9_tear yX9_tear, Cond.code yX9_tear cX9_tear 2 (some .int), Cond.methodLink RL 117 yX10_tear, Cond.instanceMethod yX10_tear, Cond.selects RX10 yX10_tear yX10_tear, Cond.code yX10_tear cX10_tear 2 (some .int), Cond.methodLink RL 118 yX9_judge, Cond.instanceMethod yX9_judge, Cond.selects RX9 yX9_judge yX9_judge, Cond.code yX9_judge cX9_judge 1 (some .int), Cond.methodLink RX9 280 yX1_firstWrong]
def wsL_law_r38 : List Cond := [Cond.instanceMethod yX1_firstWrong, Cond.selects RX1 yX1_firstWrong yX1_firstWrong, Cond.code yX1_firstWrong cX1_firstWrong 3 (some .int), Cond.methodLink RX1 26 yX3_holdsFor, Cond.methodLink RL 121 yX10_judge, Cond.instanceMethod yX10_judge, Cond.selects RX10 yX10_judge yX10_judge, Cond.code yX10_judge cX10_judge 2 (some .int), Cond.methodLink RL 122 yX9_seed, Cond.instanceMethod yX9_seed, Cond.selects RX9 yX9_seed yX9_seed, Cond.code yX9_seed cX9_seed 3 (some .int), Cond.methodLink RL 125 yX10_seed, Cond.instanceMethod yX10_seed, Cond.selects RX10 yX10_seed yX10_seed, Cond.code yX10_seed cX10_seed 3 (some .int), Cond.methodLink RL 126 yX9_keep, Cond.instanceMethod yX9_keep, Cond.selects RX9 yX9_keep yX9_keep, Cond.code yX9_keep cX9_keep 2 (some .int), Cond.methodLink RX9 284 yX3_become, Cond.methodLink RL 129 yX10_keep, Cond.instanceMethod yX10_keep, Cond.selects RX10 yX10_keep yX10_keep]
def wsL_law_r39 : List Cond := [Cond.code yX10_keep cX10_keep 3 (some .int), Cond.methodLink RL 130 yX9_goBack, Cond.instanceMethod yX9_goBack, Cond.selects RX9 yX9_goBack yX9_goBack, Cond.code yX9_goBack cX9_goBack 2 (some .int), Cond.methodLink RL 133 yX10_goBack, Cond.instanceMethod yX10_goBack, Cond.selects RX10 yX10_goBack yX10_goBack, Cond.code yX10_goBack cX10_goBack 3 (some .int)]
def wsL_law : List Cond := (wsL_law_r1 ++ (wsL_law_r2 ++ (wsL_law_r3 ++ (wsL_law_r4 ++ (wsL_law_r5 ++ (wsL_law_r6 ++ (wsL_law_r7 ++ (wsL_law_r8 ++ (wsL_law_r9 ++ (wsL_law_r10 ++ (wsL_law_r11 ++ (wsL_law_r12 ++ (wsL_law_r13 ++ (wsL_law_r14 ++ (wsL_law_r15 ++ (wsL_law_r16 ++ (wsL_law_r17 ++ (wsL_law_r18 ++ (wsL_law_r19 ++ (wsL_law_r20 ++ (wsL_law_r21 ++ (wsL_law_r22 ++ (wsL_law_r23 ++ (wsL_law_r24 ++ (wsL_law_r25 ++ (wsL_law_r26 ++ (wsL_law_r27 ++ (wsL_law_r28 ++ (wsL_law_r29 ++ (wsL_law_r30 ++ (wsL_law_r31 ++ (wsL_law_r32 ++ (wsL_law_r33 ++ (wsL_law_r34 ++ (wsL_law_r35 ++ (wsL_law_r36 ++ (wsL_law_r37 ++ (wsL_law_r38 ++ wsL_law_r39)))))))))))))))))))))))))))))))))))))) ++ wsX90 ++ wsX100 ++ wsX00 ++ wsX60 ++ wsX30 ++ wsX50 ++ wsX70 ++ wsX40 ++ wsX20 ++ wsX10 ++ ([] : List Cond)
set_option maxRecDepth 20000 in
theorem wsL_law_in : ∀ w ∈ wsL_law, w ∈ lw_tbl := fun w h => (goodIn_p wsL_law [75, 78, 83, 88, 148, 180, 219, 224, 244, 261, 275, 293, 774, 361, 906, 910, 367, 371, 374, 379, 383, 387, 391, 395, 399, 403, 407, 411, 415, 419, 423, 427, 431, 435, 916, 920, 924, 928, 932, 936, 940, 946, 950, 954, 960, 964, 968, 439, 972, 443, 446, 453, 457, 460, 463, 468, 471, 976, 980, 983, 987, 475, 479, 483, 487, 991, 995, 1000, 1004, 491, 495, 500, 504, 508, 512, 519, 516, 1008, 1012, 1016, 1020, 1023, 1027, 1031, 523, 1035, 529, 534, 538, 542, 547, 552, 557, 1039, 1044, 1048, 1052, 562, 566, 1056, 1060, 571, 1066, 575, 1071, 579, 583, 587, 1077, 1081, 595, 599, 1089, 603, 607, 611, 618, 622, 626, 1093, 1097, 1100, 1104, 1107, 634, 1111, 638, 641, 1115, 1119, 646, 1123, 653, 657, 1127, 661, 664, 668, 674, 1131, 1135, 679, 1141, 684, 688, 692, 696, 701, 705, 708, 1145, 1149, 1153, 1157, 712, 716, 1161, 720, 724, 728, 733, 1166, 1170, 739, 743, 1174, 747, 1178, 751, 755, 1182, 760, 1186, 764, 1190, 769, 1194] (by decide +kernel) (by decide +kernel) w h).1
theorem inlX0 : ∀ w ∈ wsX00, w ∈ wsL_law := fun _ h => List.mem_append_left _ (List.mem_append_left _ (List.mem_append_left _ (List.mem_append_left _ (List.mem_append_left _ (List.mem_append_left _ (List.mem_append_left _ (List.mem_append_left _ (List.mem_append_right _ h))))))))
theorem inX0 : ∀ w ∈ wsX00, w ∈ lw_tbl := fun w h => wsL_law_in w (inlX0 w h)
theorem inlX1 : ∀ w ∈ wsX10, w ∈ wsL_law := fun _ h => List.mem_append_left _ (List.mem_append_right _ h)
theorem inX1 : ∀ w ∈ wsX10, w ∈ lw_tbl := fun w h => wsL_law_in w (inlX1 w h)
theorem inlX2 : ∀ w ∈ wsX20, w ∈ wsL_law := fun _ h => List.mem_append_left _ (List.mem_append_left _ (List.mem_append_right _ h))
theorem inX2 : ∀ w ∈ wsX20, w ∈ lw_tbl := fun w h => wsL_law_in w (inlX2 w h)
theorem inlX3 : ∀ w ∈ wsX30, w ∈ wsL_law := fun _ h => List.mem_append_left _ (List.mem_append_left _ (List.mem_append_left _ (List.mem_append_left _ (List.mem_append_left _ (List.mem_append_left _ (List.mem_append_right _ h))))))
theorem inX3 : ∀ w ∈ wsX30, w ∈ lw_tbl := fun w h => wsL_law_in w (inlX3 w h)
theorem inlX4 : ∀ w ∈ wsX40, w ∈ wsL_law := fun _ h => List.mem_append_left _ (List.mem_append_left _ (List.mem_append_left _ (List.mem_append_right _ h)))
theorem inX4 : ∀ w ∈ wsX40, w ∈ lw_tbl := fun w h => wsL_law_in w (inlX4 w h)
theorem inlX5 : ∀ w ∈ wsX50, w ∈ wsL_law := fun _ h => List.mem_append_left _ (List.mem_append_left _ (List.mem_append_left _ (List.mem_append_left _ (List.mem_append_left _ (List.mem_append_right _ h)))))
theorem inX5 : ∀ w ∈ wsX50, w ∈ lw_tbl := fun w h => wsL_law_in w (inlX5 w h)
theorem inlX6 : ∀ w ∈ wsX60, w ∈ wsL_law := fun _ h => List.mem_append_left _ (List.mem_append_left _ (List.mem_append_left _ (List.mem_append_left _ (List.mem_append_left _ (List.mem_append_left _ (List.mem_append_left _ (List.mem_append_right _ h)))))))
theorem inX6 : ∀ w ∈ wsX60, w ∈ lw_tbl := fun w h => wsL_law_in w (inlX6 w h)
theorem inlX7 : ∀ w ∈ wsX70, w ∈ wsL_law := fun _ h => List.mem_append_left _ (List.mem_append_left _ (List.mem_append_left _ (List.mem_append_left _ (List.mem_append_right _ h))))
theorem inX7 : ∀ w ∈ wsX70, w ∈ lw_tbl := fun w h => wsL_law_in w (inlX7 w h)
theorem inX8 : ∀ w ∈ wsX80, w ∈ lw_tbl := by decide +kernel
theorem inlX9 : ∀ w ∈ wsX90, w ∈ wsL_law := fun _ h => List.mem_append_left _ (List.mem_append_left _ (List.mem_append_left _ (List.mem_append_left _ (List.mem_append_left _ (List.mem_append_left _ (List.mem_append_left _ (List.mem_append_left _ (List.mem_append_left _ (List.mem_append_left _ (List.mem_append_right _ h))))))))))
theorem inX9 : ∀ w ∈ wsX90, w ∈ lw_tbl := fun w h => wsL_law_in w (inlX9 w h)
theorem inlX10 : ∀ w ∈ wsX100, w ∈ wsL_law := fun _ h => List.mem_append_left _ (List.mem_append_left _ (List.mem_append_left _ (List.mem_append_left _ (List.mem_append_left _ (List.mem_append_left _ (List.mem_append_left _ (List.mem_append_left _ (List.mem_append_left _ (List.mem_append_right _ h)))))))))
theorem inX10 : ∀ w ∈ wsX100, w ∈ lw_tbl := fun w h => wsL_law_in w (inlX10 w h)
theorem inJ6 : ∀ w ∈ wsJ60, w ∈ lw_tbl := by decide +kernel
theorem inJ9 : ∀ w ∈ wsJ90, w ∈ lw_tbl := by decide +kernel
abbrev vwCl : List vw_C := [(RX0, TX0, 10), (RX1, TX1, 4), (RX2, TX2, 3), (RX3, TX3, 8), (RX4, TX4, 2), (RX5, TX5, 3), (RX6, TX6, 8), (RX7, TX7, 2), (RX9, TX9, 16), (RX10, TX10, 42)]
