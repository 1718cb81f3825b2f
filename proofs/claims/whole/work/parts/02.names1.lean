/-! ===== BEGIN words of one list among another's, by their places ===== -/
theorem goodIn_r {big : List Cond} (ws : List Cond) (ps : List Nat) (hp : ws = ps.filterMap (fun i => big[i]?)) (h : ws.all goodWord = true) : GoodIn big ws := by
  intro w hw
  have h1 := List.all_eq_true.mp h w hw
  rw [hp] at hw
  obtain ⟨i, -, hi⟩ := List.mem_filterMap.mp hw
  have hm : w ∈ big := by first | exact List.mem_of_getElem? hi | exact List.getElem?_mem hi
  exact ⟨hm, good_of_word h1⟩
theorem goodIn_app {big a b : List Cond} (ha : GoodIn big a) (hb : GoodIn big b) : GoodIn big (a ++ b) := fun w h => (List.mem_append.mp h).elim (ha w) (hb w)
theorem goodIn_ca {big a b : List Cond} {c : Cond} (ha : GoodIn big (c :: a)) (hb : GoodIn big b) : GoodIn big (c :: (a ++ b)) := fun w h => (List.mem_cons.mp h).elim (fun e => ha w (List.mem_cons.mpr (Or.inl e))) (fun h => (List.mem_append.mp h).elim (fun h => ha w (List.mem_cons.mpr (Or.inr h))) (hb w))
theorem goodIn_sub {big ws : List Cond} (hm : ∀ w ∈ ws, w ∈ big) (h : ws.all goodWord = true) : GoodIn big ws := fun w hw => ⟨hm w hw, good_of_word (List.all_eq_true.mp h w hw)⟩
/-! ===== END ===== -/

/-! ===== BEGIN printed: names, fields, word lists, decode rows ===== -/
def RX0 : String := "PleatRoads$ActRow"
def TX0 : u_T := fun k => match k with
  | 0 => ("PleatRoads$ActRow", "ahead", "[LPleatRoads$Standing;", true)
  | 1 => ("PleatRoads$ActRow", "end", "I", false)
  | _ => ("PleatRoads$ActRow", "length", "I", false)
def tyX0 : Nat → FieldType := fun k => match k with
  | 0 => .array (.object "PleatRoads$Standing")
  | 1 => .int
  | _ => .int
abbrev wsX00 : List Cond := u_ws RX0 TX0 3
theorem nmX0 : ∀ a, a < 3 → ∀ b, b < 3 → a ≠ b → (TX0 a).2.1 ≠ (TX0 b).2.1 := by decide +kernel
theorem tyX0_ok : ∀ k, k < 3 → parseFieldDescriptor (TX0 k).2.2.1 = some (tyX0 k) := by decide +kernel
abbrev cX0_init : ByteArray := prog_2_method_1_code
def yX0_init : MethodName := ⟨RX0, "<init>", "(LPleatRoads$Road;)V"⟩
abbrev cX0_remember : ByteArray := prog_2_method_2_code
def yX0_remember : MethodName := ⟨RX0, "remember", "(LPleatRoads$Standing;)V"⟩
abbrev cX0_takeBack : ByteArray := prog_2_method_3_code
def yX0_takeBack : MethodName := ⟨RX0, "takeBack", "(LPleatRoads$Standing;)V"⟩
def RX1 : String := "PleatRoads$Hearsay"
def TX1 : u_T := fun k => match k with
  | 0 => ("PleatRoads$Hearsay", "road", "LPleatRoads$Road;", true)
  | 1 => ("PleatRoads$Hearsay", "place", "[I", true)
  | 2 => ("PleatRoads$Hearsay", "came", "[Z", true)
  | _ => ("PleatRoads$Hearsay", "length", "I", false)
def tyX1 : Nat → FieldType := fun k => match k with
  | 0 => .object "PleatRoads$Road"
  | 1 => .array .int
  | 2 => .array .boolean
  | _ => .int
abbrev wsX10 : List Cond := u_ws RX1 TX1 4
theorem nmX1 : ∀ a, a < 4 → ∀ b, b < 4 → a ≠ b → (TX1 a).2.1 ≠ (TX1 b).2.1 := by decide +kernel
theorem tyX1_ok : ∀ k, k < 4 → parseFieldDescriptor (TX1 k).2.2.1 = some (tyX1 k) := by decide +kernel
abbrev cX1_init : ByteArray := prog_3_method_1_code
def yX1_init : MethodName := ⟨RX1, "<init>", "(LPleatRoads$Road;)V"⟩
abbrev cX1_append : ByteArray := prog_3_method_2_code
def yX1_append : MethodName := ⟨RX1, "append", "(IZ)I"⟩
abbrev cX1_howMany : ByteArray := prog_3_method_3_code
def yX1_howMany : MethodName := ⟨RX1, "howMany", "()I"⟩
abbrev cX1_firstOne : ByteArray := prog_3_method_4_code
def yX1_firstOne : MethodName := ⟨RX1, "firstOne", "()I"⟩
abbrev cX1_isOne : ByteArray := prog_3_method_5_code
def yX1_isOne : MethodName := ⟨RX1, "isOne", "(II)Z"⟩
abbrev cX1_farthestOn : ByteArray := prog_3_method_6_code
def yX1_farthestOn : MethodName := ⟨RX1, "farthestOn", "(II)I"⟩
def RX2 : String := "PleatRoads$Road"
def TX2 : u_T := fun k => match k with
  | 0 => ("PleatRoads$Road", "stiffness", "[I", true)
  | 1 => ("PleatRoads$Road", "pleatKind", "[I", true)
  | 2 => ("PleatRoads$Road", "firstPlace", "[I", true)
  | 3 => ("PleatRoads$Road", "breath", "[I", true)
  | 4 => ("PleatRoads$Road", "travellerKind", "[I", true)
  | 5 => ("PleatRoads$Road", "pleats", "I", false)
  | _ => ("PleatRoads$Road", "travellers", "I", false)
def tyX2 : Nat → FieldType := fun k => match k with
  | 0 => .array .int
  | 1 => .array .int
  | 2 => .array .int
  | 3 => .array .int
  | 4 => .array .int
  | 5 => .int
  | _ => .int
abbrev wsX20 : List Cond := u_ws RX2 TX2 7
theorem nmX2 : ∀ a, a < 7 → ∀ b, b < 7 → a ≠ b → (TX2 a).2.1 ≠ (TX2 b).2.1 := by decide +kernel
theorem tyX2_ok : ∀ k, k < 7 → parseFieldDescriptor (TX2 k).2.2.1 = some (tyX2 k) := by decide +kernel
abbrev cX2_init : ByteArray := prog_4_method_1_code
def yX2_init : MethodName := ⟨RX2, "<init>", "()V"⟩
abbrev cX2_hasPleat : ByteArray := prog_4_method_2_code
def yX2_hasPleat : MethodName := ⟨RX2, "hasPleat", "(I)Z"⟩
abbrev cX2_hasTraveller : ByteArray := prog_4_method_3_code
def yX2_hasTraveller : MethodName := ⟨RX2, "hasTraveller", "(I)Z"⟩
abbrev cX2_hasPlace : ByteArray := prog_4_method_4_code
def yX2_hasPlace : MethodName := ⟨RX2, "hasPlace", "(I)Z"⟩
abbrev cX2_clear : ByteArray := prog_4_method_5_code
def yX2_clear : MethodName := ⟨RX2, "clear", "()V"⟩
abbrev cX2_addPleat : ByteArray := prog_4_method_6_code
def yX2_addPleat : MethodName := ⟨RX2, "addPleat", "(II)V"⟩
abbrev cX2_addTraveller : ByteArray := prog_4_method_7_code
def yX2_addTraveller : MethodName := ⟨RX2, "addTraveller", "(III)V"⟩
abbrev cX2_smoothOnes : ByteArray := prog_4_method_8_code
def yX2_smoothOnes : MethodName := ⟨RX2, "smoothOnes", "()I"⟩
abbrev cX2_canBeIced : ByteArray := prog_4_method_9_code
def yX2_canBeIced : MethodName := ⟨RX2, "canBeIced", "()I"⟩
abbrev cX2_costShut : ByteArray := prog_4_method_10_code
def yX2_costShut : MethodName := ⟨RX2, "costShut", "(III)I"⟩
abbrev cX2_tollFor : ByteArray := prog_4_method_11_code
def yX2_tollFor : MethodName := ⟨RX2, "tollFor", "(II)I"⟩
abbrev cX2_windRested : ByteArray := prog_4_method_12_code
def yX2_windRested : MethodName := ⟨RX2, "windRested", "(II)I"⟩
def RX3 : String := "PleatRoads$Script"
def TX3 : u_T := fun k => match k with
  | 0 => ("PleatRoads$Script", "letters", "[I", true)
  | _ => ("PleatRoads$Script", "length", "I", false)
def tyX3 : Nat → FieldType := fun k => match k with
  | 0 => .array .int
  | _ => .int
abbrev wsX30 : List Cond := u_ws RX3 TX3 2
theorem nmX3 : ∀ a, a < 2 → ∀ b, b < 2 → a ≠ b → (TX3 a).2.1 ≠ (TX3 b).2.1 := by decide +kernel
theorem tyX3_ok : ∀ k, k < 2 → parseFieldDescriptor (TX3 k).2.2.1 = some (tyX3 k) := by decide +kernel
abbrev cX3_init : ByteArray := prog_5_method_1_code
def yX3_init : MethodName := ⟨RX3, "<init>", "()V"⟩
abbrev cX3_append : ByteArray := prog_5_method_2_code
def yX3_append : MethodName := ⟨RX3, "append", "(I)I"⟩
abbrev cX3_readInto : ByteArray := prog_5_method_3_code
def yX3_readInto : MethodName := ⟨RX3, "readInto", "(LPleatRoads$Road;)I"⟩
abbrev cX3_readPart : ByteArray := prog_5_method_4_code
def yX3_readPart : MethodName := ⟨RX3, "readPart", "(ILPleatRoads$Road;)I"⟩
abbrev cX3_readPleat : ByteArray := prog_5_method_5_code
def yX3_readPleat : MethodName := ⟨RX3, "readPleat", "(ILPleatRoads$Road;)I"⟩
abbrev cX3_readTraveller : ByteArray := prog_5_method_6_code
def yX3_readTraveller : MethodName := ⟨RX3, "readTraveller", "(ILPleatRoads$Road;)I"⟩
abbrev cX3_figureFault : ByteArray := prog_5_method_7_code
def yX3_figureFault : MethodName := ⟨RX3, "figureFault", "(III)I"⟩
abbrev cX3_figure : ByteArray := prog_5_method_8_code
def yX3_figure : MethodName := ⟨RX3, "figure", "(I)I"⟩
def RX4 : String := "PleatRoads$Standing"
def TX4 : u_T := fun k => match k with
  | 0 => ("PleatRoads$Standing", "road", "LPleatRoads$Road;", true)
  | 1 => ("PleatRoads$Standing", "place", "[I", true)
  | 2 => ("PleatRoads$Standing", "wind", "[I", true)
  | 3 => ("PleatRoads$Standing", "greased", "I", false)
  | 4 => ("PleatRoads$Standing", "open", "I", false)
  | 5 => ("PleatRoads$Standing", "frost", "I", false)
  | _ => ("PleatRoads$Standing", "steps", "I", false)
def tyX4 : Nat → FieldType := fun k => match k with
  | 0 => .object "PleatRoads$Road"
  | 1 => .array .int
  | 2 => .array .int
  | 3 => .int
  | 4 => .int
  | 5 => .int
  | _ => .int
abbrev wsX40 : List Cond := u_ws RX4 TX4 7
theorem nmX4 : ∀ a, a < 7 → ∀ b, b < 7 → a ≠ b → (TX4 a).2.1 ≠ (TX4 b).2.1 := by decide +kernel
theorem tyX4_ok : ∀ k, k < 7 → parseFieldDescriptor (TX4 k).2.2.1 = some (tyX4 k) := by decide +kernel
abbrev cX4_init : ByteArray := prog_6_method_1_code
def yX4_init : MethodName := ⟨RX4, "<init>", "(LPleatRoads$Road;)V"⟩
abbrev cX4_begin : ByteArray := prog_6_method_2_code
def yX4_begin : MethodName := ⟨RX4, "begin", "()V"⟩
abbrev cX4_takeFrom : ByteArray := prog_6_method_3_code
def yX4_takeFrom : MethodName := ⟨RX4, "takeFrom", "(LPleatRoads$Standing;)V"⟩
abbrev cX4_costOf : ByteArray := prog_6_method_4_code
def yX4_costOf : MethodName := ⟨RX4, "costOf", "(I)I"⟩
abbrev cX4_pleatBeside : ByteArray := prog_6_method_5_code
def yX4_pleatBeside : MethodName := ⟨RX4, "pleatBeside", "(IZ)I"⟩
abbrev cX4_tollBeside : ByteArray := prog_6_method_6_code
def yX4_tollBeside : MethodName := ⟨RX4, "tollBeside", "(IZ)I"⟩
abbrev cX4_canStep : ByteArray := prog_6_method_7_code
def yX4_canStep : MethodName := ⟨RX4, "canStep", "(IZ)Z"⟩
abbrev cX4_doStep : ByteArray := prog_6_method_8_code
def yX4_doStep : MethodName := ⟨RX4, "doStep", "(IZ)V"⟩
abbrev cX4_doRest : ByteArray := prog_6_method_9_code
def yX4_doRest : MethodName := ⟨RX4, "doRest", "(I)V"⟩
abbrev cX4_canGrease : ByteArray := prog_6_method_10_code
def yX4_canGrease : MethodName := ⟨RX4, "canGrease", "(I)Z"⟩
abbrev cX4_doGrease : ByteArray := prog_6_method_11_code
def yX4_doGrease : MethodName := ⟨RX4, "doGrease", "(I)V"⟩
abbrev cX4_canFreeze : ByteArray := prog_6_method_12_code
def yX4_canFreeze : MethodName := ⟨RX4, "canFreeze", "()Z"⟩
abbrev cX4_stepIfItCan : ByteArray := prog_6_method_13_code
def yX4_stepIfItCan : MethodName := ⟨RX4, "stepIfItCan", "(IZ)Z"⟩
abbrev cX4_restIfItCan : ByteArray := prog_6_method_14_code
def yX4_restIfItCan : MethodName := ⟨RX4, "restIfItCan", "(I)Z"⟩
abbrev cX4_greaseIfItCan : ByteArray := prog_6_method_15_code
def yX4_greaseIfItCan : MethodName := ⟨RX4, "greaseIfItCan", "(I)Z"⟩
abbrev cX4_freezeIfItCan : ByteArray := prog_6_method_16_code
def yX4_freezeIfItCan : MethodName := ⟨RX4, "freezeIfItCan", "()Z"⟩
abbrev cX4_doTold : ByteArray := prog_6_method_17_code
def yX4_doTold : MethodName := ⟨RX4, "doTold", "(III)Z"⟩
abbrev cX4_doDrawn : ByteArray := prog_6_method_18_code
def yX4_doDrawn : MethodName := ⟨RX4, "doDrawn", "(I)V"⟩
abbrev cX4_placesTogether : ByteArray := prog_6_method_19_code
def yX4_placesTogether : MethodName := ⟨RX4, "placesTogether", "()I"⟩
abbrev cX4_placesTaken : ByteArray := prog_6_method_20_code
def yX4_placesTaken : MethodName := ⟨RX4, "placesTaken", "()I"⟩
abbrev cX4_windTogether : ByteArray := prog_6_method_21_code
def yX4_windTogether : MethodName := ⟨RX4, "windTogether", "()I"⟩
def RX5 : String := "PleatRoads$Walk"
def TX5 : u_T := fun k => match k with
  | 0 => ("PleatRoads$Walk", "road", "LPleatRoads$Road;", true)
  | 1 => ("PleatRoads$Walk", "most", "[I", true)
  | 2 => ("PleatRoads$Walk", "mostNext", "[I", true)
  | 3 => ("PleatRoads$Walk", "queue", "[I", true)
  | 4 => ("PleatRoads$Walk", "tollShut", "[I", true)
  | 5 => ("PleatRoads$Walk", "tollOpen", "[I", true)
  | 6 => ("PleatRoads$Walk", "breath", "I", false)
  | 7 => ("PleatRoads$Walk", "isLungs", "Z", false)
  | 8 => ("PleatRoads$Walk", "startNode", "I", false)
  | _ => ("PleatRoads$Walk", "startWind", "I", false)
def tyX5 : Nat → FieldType := fun k => match k with
  | 0 => .object "PleatRoads$Road"
  | 1 => .array .int
  | 2 => .array .int
  | 3 => .array .int
  | 4 => .array .int
  | 5 => .array .int
  | 6 => .int
  | 7 => .boolean
  | 8 => .int
  | _ => .int
abbrev wsX50 : List Cond := u_ws RX5 TX5 10
theorem nmX5 : ∀ a, a < 10 → ∀ b, b < 10 → a ≠ b → (TX5 a).2.1 ≠ (TX5 b).2.1 := by decide +kernel
theorem tyX5_ok : ∀ k, k < 10 → parseFieldDescriptor (TX5 k).2.2.1 = some (tyX5 k) := by decide +kernel
abbrev cX5_init : ByteArray := prog_7_method_1_code
def yX5_init : MethodName := ⟨RX5, "<init>", "(LPleatRoads$Road;)V"⟩
abbrev cX5_prepare : ByteArray := prog_7_method_2_code
def yX5_prepare : MethodName := ⟨RX5, "prepare", "(LPleatRoads$Standing;III)V"⟩
abbrev cX5_modeAt : ByteArray := prog_7_method_3_code
def yX5_modeAt : MethodName := ⟨RX5, "modeAt", "(II)I"⟩
abbrev cX5_beginAt : ByteArray := prog_7_method_4_code
def yX5_beginAt : MethodName := ⟨RX5, "beginAt", "()V"⟩
abbrev cX5_windBeyond : ByteArray := prog_7_method_5_code
def yX5_windBeyond : MethodName := ⟨RX5, "windBeyond", "(IZ)I"⟩
abbrev cX5_nodeBeyond : ByteArray := prog_7_method_6_code
def yX5_nodeBeyond : MethodName := ⟨RX5, "nodeBeyond", "(IZ)I"⟩
abbrev cX5_places : ByteArray := prog_7_method_7_code
def yX5_places : MethodName := ⟨RX5, "places", "()I"⟩
abbrev cX5_enqueueBeyond : ByteArray := prog_7_method_8_code
def yX5_enqueueBeyond : MethodName := ⟨RX5, "enqueueBeyond", "(IZI)I"⟩
abbrev cX5_movesTo : ByteArray := prog_7_method_9_code
def yX5_movesTo : MethodName := ⟨RX5, "movesTo", "(I)I"⟩
abbrev cX5_moveOnce : ByteArray := prog_7_method_10_code
def yX5_moveOnce : MethodName := ⟨RX5, "moveOnce", "()V"⟩
abbrev cX5_stepOnce : ByteArray := prog_7_method_11_code
def yX5_stepOnce : MethodName := ⟨RX5, "stepOnce", "(IZ)V"⟩
abbrev cX5_raise : ByteArray := prog_7_method_12_code
def yX5_raise : MethodName := ⟨RX5, "raise", "(II)V"⟩
def RX6 : String := "PleatRoads"
def TX6 : u_T := fun k => match k with
  | 0 => ("PleatRoads", "script", "LPleatRoads$Script;", true)
  | 1 => ("PleatRoads", "draft", "LPleatRoads$Road;", true)
  | 2 => ("PleatRoads", "road", "LPleatRoads$Road;", true)
  | 3 => ("PleatRoads", "now", "LPleatRoads$Standing;", true)
  | 4 => ("PleatRoads", "supposed", "LPleatRoads$Standing;", true)
  | 5 => ("PleatRoads", "acts", "LPleatRoads$ActRow;", true)
  | 6 => ("PleatRoads", "slots", "[LPleatRoads$Standing;", true)
  | 7 => ("PleatRoads", "kept", "[Z", true)
  | 8 => ("PleatRoads", "walk", "LPleatRoads$Walk;", true)
  | 9 => ("PleatRoads", "hearsay", "LPleatRoads$Hearsay;", true)
  | 10 => ("PleatRoads", "gainsOfOne", "[I", true)
  | 11 => ("PleatRoads", "gainsOfOther", "[I", true)
  | _ => ("PleatRoads", "seed", "J", false)
def tyX6 : Nat → FieldType := fun k => match k with
  | 0 => .object "PleatRoads$Script"
  | 1 => .object "PleatRoads$Road"
  | 2 => .object "PleatRoads$Road"
  | 3 => .object "PleatRoads$Standing"
  | 4 => .object "PleatRoads$Standing"
  | 5 => .object "PleatRoads$ActRow"
  | 6 => .array (.object "PleatRoads$Standing")
  | 7 => .array .boolean
  | 8 => .object "PleatRoads$Walk"
  | 9 => .object "PleatRoads$Hearsay"
  | 10 => .array .int
  | 11 => .array .int
  | _ => .long
abbrev wsX60 : List Cond := u_ws RX6 TX6 13
theorem nmX6 : ∀ a, a < 13 → ∀ b, b < 13 → a ≠ b → (TX6 a).2.1 ≠ (TX6 b).2.1 := by decide +kernel
theorem tyX6_ok : ∀ k, k < 13 → parseFieldDescriptor (TX6 k).2.2.1 = some (tyX6 k) := by decide +kernel
abbrev cX6_init : ByteArray := prog_1_method_1_code
def yX6_init : MethodName := ⟨RX6, "<init>", "()V"⟩
abbrev cX6_write : ByteArray := prog_1_method_2_code
def yX6_write : MethodName := ⟨RX6, "write", "(I)I"⟩
abbrev cX6_wipe : ByteArray := prog_1_method_3_code
def yX6_wipe : MethodName := ⟨RX6, "wipe", "()I"⟩
abbrev cX6_fault : ByteArray := prog_1_method_4_code
def yX6_fault : MethodName := ⟨RX6, "fault", "()I"⟩
abbrev cX6_road : ByteArray := prog_1_method_5_code
def yX6_road : MethodName := ⟨RX6, "road", "()I"⟩
abbrev cX6_pleat : ByteArray := prog_1_method_6_code
def yX6_pleat : MethodName := ⟨RX6, "pleat", "(II)I"⟩
abbrev cX6_traveller : ByteArray := prog_1_method_7_code
def yX6_traveller : MethodName := ⟨RX6, "traveller", "(II)I"⟩
abbrev cX6_step : ByteArray := prog_1_method_8_code
def yX6_step : MethodName := ⟨RX6, "step", "(IZ)I"⟩
abbrev cX6_rest : ByteArray := prog_1_method_9_code
def yX6_rest : MethodName := ⟨RX6, "rest", "(I)I"⟩
abbrev cX6_grease : ByteArray := prog_1_method_10_code
def yX6_grease : MethodName := ⟨RX6, "grease", "(I)I"⟩
abbrev cX6_freeze : ByteArray := prog_1_method_11_code
def yX6_freeze : MethodName := ⟨RX6, "freeze", "()I"⟩
abbrev cX6_thaw : ByteArray := prog_1_method_12_code
def yX6_thaw : MethodName := ⟨RX6, "thaw", "()I"⟩
abbrev cX6_undo : ByteArray := prog_1_method_13_code
def yX6_undo : MethodName := ⟨RX6, "undo", "()I"⟩
abbrev cX6_reach : ByteArray := prog_1_method_14_code
def yX6_reach : MethodName := ⟨RX6, "reach", "(I)I"⟩
abbrev cX6_fewest : ByteArray := prog_1_method_15_code
def yX6_fewest : MethodName := ⟨RX6, "fewest", "(II)I"⟩
abbrev cX6_wants : ByteArray := prog_1_method_16_code
def yX6_wants : MethodName := ⟨RX6, "wants", "(II)I"⟩
abbrev cX6_shutIn : ByteArray := prog_1_method_17_code
def yX6_shutIn : MethodName := ⟨RX6, "shutIn", "()I"⟩
abbrev cX6_meet : ByteArray := prog_1_method_18_code
def yX6_meet : MethodName := ⟨RX6, "meet", "(II)I"⟩
abbrev cX6_judge : ByteArray := prog_1_method_19_code
def yX6_judge : MethodName := ⟨RX6, "judge", "(IJ)I"⟩
abbrev cX6_hear : ByteArray := prog_1_method_20_code
def yX6_hear : MethodName := ⟨RX6, "hear", "(II)I"⟩
abbrev cX6_unhear : ByteArray := prog_1_method_21_code
def yX6_unhear : MethodName := ⟨RX6, "unhear", "()I"⟩
abbrev cX6_who : ByteArray := prog_1_method_22_code
def yX6_who : MethodName := ⟨RX6, "who", "(I)I"⟩
abbrev cX6_share : ByteArray := prog_1_method_23_code
def yX6_share : MethodName := ⟨RX6, "share", "(IZ)I"⟩
abbrev cX6_rests : ByteArray := prog_1_method_24_code
def yX6_rests : MethodName := ⟨RX6, "rests", "(III)I"⟩
abbrev cX6_icy : ByteArray := prog_1_method_25_code
def yX6_icy : MethodName := ⟨RX6, "icy", "(IIIZ)I"⟩
abbrev cX6_seed : ByteArray := prog_1_method_26_code
def yX6_seed : MethodName := ⟨RX6, "seed", "(J)J"⟩
abbrev cX6_summers : ByteArray := prog_1_method_27_code
def yX6_summers : MethodName := ⟨RX6, "summers", "(I)I"⟩
abbrev cX6_keep : ByteArray := prog_1_method_28_code
def yX6_keep : MethodName := ⟨RX6, "keep", "(I)I"⟩
abbrev cX6_again : ByteArray := prog_1_method_29_code
def yX6_again : MethodName := ⟨RX6, "again", "(I)I"⟩
abbrev cX6_count : ByteArray := prog_1_method_30_code
def yX6_count : MethodName := ⟨RX6, "count", "(I)I"⟩
abbrev cX6_reachIn : ByteArray := prog_1_method_31_code
def yX6_reachIn : MethodName := ⟨RX6, "reachIn", "(LPleatRoads$Standing;I)I"⟩
abbrev cX6_comesWith : ByteArray := prog_1_method_32_code
def yX6_comesWith : MethodName := ⟨RX6, "comesWith", "(IIII)Z"⟩
abbrev cX6_howManyReach : ByteArray := prog_1_method_33_code
def yX6_howManyReach : MethodName := ⟨RX6, "howManyReach", "(I)I"⟩
abbrev cX6_sharedPart : ByteArray := prog_1_method_34_code
def yX6_sharedPart : MethodName := ⟨RX6, "sharedPart", "(I)I"⟩
abbrev cX6_power : ByteArray := prog_1_method_35_code
def yX6_power : MethodName := ⟨RX6, "power", "(II)I"⟩
abbrev cX6_fraction : ByteArray := prog_1_method_36_code
def yX6_fraction : MethodName := ⟨RX6, "fraction", "(IIZ)I"⟩
abbrev cX6_commonDivisor : ByteArray := prog_1_method_37_code
def yX6_commonDivisor : MethodName := ⟨RX6, "commonDivisor", "(II)I"⟩
abbrev cX6_tryPair : ByteArray := prog_1_method_38_code
def yX6_tryPair : MethodName := ⟨RX6, "tryPair", "(III)V"⟩
abbrev cX6_gainOfPlaces : ByteArray := prog_1_method_39_code
def yX6_gainOfPlaces : MethodName := ⟨RX6, "gainOfPlaces", "(II)I"⟩
abbrev cX6_isAtRest : ByteArray := prog_1_method_40_code
def yX6_isAtRest : MethodName := ⟨RX6, "isAtRest", "(I)Z"⟩
abbrev cX6_pairsAtRest : ByteArray := prog_1_method_41_code
def yX6_pairsAtRest : MethodName := ⟨RX6, "pairsAtRest", "()I"⟩
abbrev cX6_firstPairAtRest : ByteArray := prog_1_method_42_code
def yX6_firstPairAtRest : MethodName := ⟨RX6, "firstPairAtRest", "()I"⟩
def RX7 : String := "PleatRoadsModel"
def TX7 : u_T := fun k => match k with
  | 0 => ("PleatRoadsModel", "pleats", "I", false)
  | 1 => ("PleatRoadsModel", "travellers", "I", false)
  | 2 => ("PleatRoadsModel", "stiffness", "[I", true)
  | 3 => ("PleatRoadsModel", "pleatKind", "[I", true)
  | 4 => ("PleatRoadsModel", "breath", "[I", true)
  | 5 => ("PleatRoadsModel", "kind", "[I", true)
  | 6 => ("PleatRoadsModel", "now", "[I", true)
  | 7 => ("PleatRoadsModel", "readPleat", "[I", true)
  | 8 => ("PleatRoadsModel", "readTraveller", "[I", true)
  | 9 => ("PleatRoadsModel", "readPleats", "I", false)
  | 10 => ("PleatRoadsModel", "readTravellers", "I", false)
  | 11 => ("PleatRoadsModel", "text", "[I", true)
  | 12 => ("PleatRoadsModel", "length", "I", false)
  | 13 => ("PleatRoadsModel", "at", "I", false)
  | 14 => ("PleatRoadsModel", "faultAt", "I", false)
  | 15 => ("PleatRoadsModel", "ice", "I", false)
  | 16 => ("PleatRoadsModel", "acts", "I", false)
  | 17 => ("PleatRoadsModel", "next", "I", false)
  | 18 => ("PleatRoadsModel", "row", "[I", true)
  | 19 => ("PleatRoadsModel", "far", "[I", true)
  | 20 => ("PleatRoadsModel", "queue", "[I", true)
  | 21 => ("PleatRoadsModel", "queued", "I", false)
  | 22 => ("PleatRoadsModel", "greasedHere", "I", false)
  | 23 => ("PleatRoadsModel", "heard", "I", false)
  | 24 => ("PleatRoadsModel", "heardPlace", "[I", true)
  | 25 => ("PleatRoadsModel", "heardCame", "[I", true)
  | 26 => ("PleatRoadsModel", "reaches", "[I", true)
  | 27 => ("PleatRoadsModel", "seed", "J", false)
  | 28 => ("PleatRoadsModel", "isKept", "[Z", true)
  | _ => ("PleatRoadsModel", "kept", "[I", true)
def tyX7 : Nat → FieldType := fun k => match k with
  | 0 => .int
  | 1 => .int
  | 2 => .array .int
  | 3 => .array .int
  | 4 => .array .int
  | 5 => .array .int
  | 6 => .array .int
  | 7 => .array .int
  | 8 => .array .int
  | 9 => .int
  | 10 => .int
  | 11 => .array .int
  | 12 => .int
  | 13 => .int
  | 14 => .int
  | 15 => .int
  | 16 => .int
  | 17 => .int
  | 18 => .array .int
  | 19 => .array .int
  | 20 => .array .int
  | 21 => .int
  | 22 => .int
  | 23 => .int
  | 24 => .array .int
  | 25 => .array .int
  | 26 => .array .int
  | 27 => .long
  | 28 => .array .boolean
  | _ => .array .int
abbrev wsX70 : List Cond := u_ws RX7 TX7 30
theorem nmX7 : ∀ a, a < 30 → ∀ b, b < 30 → a ≠ b → (TX7 a).2.1 ≠ (TX7 b).2.1 := by decide +kernel
theorem tyX7_ok : ∀ k, k < 30 → parseFieldDescriptor (TX7 k).2.2.1 = some (tyX7 k) := by decide +kernel
abbrev cX7_init : ByteArray := prog_9_method_1_code
def yX7_init : MethodName := ⟨RX7, "<init>", "()V"⟩
abbrev cX7_in : ByteArray := prog_9_method_3_code
def yX7_in : MethodName := ⟨RX7, "in", "(JJJ)Z"⟩
abbrev cX7_has : ByteArray := prog_9_method_4_code
def yX7_has : MethodName := ⟨RX7, "has", "(II)Z"⟩
abbrev cX7_ones : ByteArray := prog_9_method_5_code
def yX7_ones : MethodName := ⟨RX7, "ones", "(I)I"⟩
abbrev cX7_atLeast : ByteArray := prog_9_method_6_code
def yX7_atLeast : MethodName := ⟨RX7, "atLeast", "(II)I"⟩
abbrev cX7_write : ByteArray := prog_9_method_7_code
def yX7_write : MethodName := ⟨RX7, "write", "(I)I"⟩
abbrev cX7_wipe : ByteArray := prog_9_method_8_code
def yX7_wipe : MethodName := ⟨RX7, "wipe", "()I"⟩
abbrev cX7_figureOf : ByteArray := prog_9_method_9_code
def yX7_figureOf : MethodName := ⟨RX7, "figureOf", "(II)I"⟩
abbrev cX7_readText : ByteArray := prog_9_method_10_code
def yX7_readText : MethodName := ⟨RX7, "readText", "()I"⟩
abbrev cX7_readPart : ByteArray := prog_9_method_11_code
def yX7_readPart : MethodName := ⟨RX7, "readPart", "(I)V"⟩
abbrev cX7_fault : ByteArray := prog_9_method_12_code
def yX7_fault : MethodName := ⟨RX7, "fault", "()I"⟩
abbrev cX7_smooth : ByteArray := prog_9_method_13_code
def yX7_smooth : MethodName := ⟨RX7, "smooth", "()I"⟩
abbrev cX7_road : ByteArray := prog_9_method_14_code
def yX7_road : MethodName := ⟨RX7, "road", "()I"⟩
abbrev cX7_isPleat : ByteArray := prog_9_method_15_code
def yX7_isPleat : MethodName := ⟨RX7, "isPleat", "(I)Z"⟩
abbrev cX7_isTraveller : ByteArray := prog_9_method_16_code
def yX7_isTraveller : MethodName := ⟨RX7, "isTraveller", "(I)Z"⟩
abbrev cX7_isPlace : ByteArray := prog_9_method_17_code
def yX7_isPlace : MethodName := ⟨RX7, "isPlace", "(I)Z"⟩
abbrev cX7_costs : ByteArray := prog_9_method_18_code
def yX7_costs : MethodName := ⟨RX7, "costs", "(IIII)I"⟩
abbrev cX7_pays : ByteArray := prog_9_method_19_code
def yX7_pays : MethodName := ⟨RX7, "pays", "(II)I"⟩
abbrev cX7_paysOn : ByteArray := prog_9_method_20_code
def yX7_paysOn : MethodName := ⟨RX7, "paysOn", "(III)I"⟩
abbrev cX7_pleatOf : ByteArray := prog_9_method_21_code
def yX7_pleatOf : MethodName := ⟨RX7, "pleatOf", "(IZ)I"⟩
abbrev cX7_canStep : ByteArray := prog_9_method_22_code
def yX7_canStep : MethodName := ⟨RX7, "canStep", "(IIZ)Z"⟩
abbrev cX7_stepOn : ByteArray := prog_9_method_23_code
def yX7_stepOn : MethodName := ⟨RX7, "stepOn", "(IIZ)V"⟩
abbrev cX7_rested : ByteArray := prog_9_method_24_code
def yX7_rested : MethodName := ⟨RX7, "rested", "(II)I"⟩
abbrev cX7_restOn : ByteArray := prog_9_method_25_code
def yX7_restOn : MethodName := ⟨RX7, "restOn", "(II)V"⟩
abbrev cX7_pleat : ByteArray := prog_9_method_26_code
def yX7_pleat : MethodName := ⟨RX7, "pleat", "(II)I"⟩
abbrev cX7_paysFor : ByteArray := prog_9_method_27_code
def yX7_paysFor : MethodName := ⟨RX7, "paysFor", "(IZ)I"⟩
abbrev cX7_traveller : ByteArray := prog_9_method_28_code
def yX7_traveller : MethodName := ⟨RX7, "traveller", "(II)I"⟩
abbrev cX7_keepAct : ByteArray := prog_9_method_29_code
def yX7_keepAct : MethodName := ⟨RX7, "keepAct", "()V"⟩
abbrev cX7_step : ByteArray := prog_9_method_30_code
def yX7_step : MethodName := ⟨RX7, "step", "(IZ)I"⟩
abbrev cX7_rest : ByteArray := prog_9_method_31_code
def yX7_rest : MethodName := ⟨RX7, "rest", "(I)I"⟩
abbrev cX7_grease : ByteArray := prog_9_method_32_code
def yX7_grease : MethodName := ⟨RX7, "grease", "(I)I"⟩
abbrev cX7_freeze : ByteArray := prog_9_method_33_code
def yX7_freeze : MethodName := ⟨RX7, "freeze", "()I"⟩
abbrev cX7_thaw : ByteArray := prog_9_method_34_code
def yX7_thaw : MethodName := ⟨RX7, "thaw", "()I"⟩
abbrev cX7_undo : ByteArray := prog_9_method_35_code
def yX7_undo : MethodName := ⟨RX7, "undo", "()I"⟩
abbrev cX7_meetState : ByteArray := prog_9_method_36_code
def yX7_meetState : MethodName := ⟨RX7, "meetState", "(IIII)V"⟩
abbrev cX7_goFrom : ByteArray := prog_9_method_37_code
def yX7_goFrom : MethodName := ⟨RX7, "goFrom", "(IIIZ)V"⟩
abbrev cX7_spread : ByteArray := prog_9_method_38_code
def yX7_spread : MethodName := ⟨RX7, "spread", "(IIZI)V"⟩
abbrev cX7_reachOn : ByteArray := prog_9_method_39_code
def yX7_reachOn : MethodName := ⟨RX7, "reachOn", "(III)I"⟩
abbrev cX7_reachNow : ByteArray := prog_9_method_40_code
def yX7_reachNow : MethodName := ⟨RX7, "reachNow", "(I)I"⟩
abbrev cX7_reach : ByteArray := prog_9_method_41_code
def yX7_reach : MethodName := ⟨RX7, "reach", "(I)I"⟩
abbrev cX7_fewest : ByteArray := prog_9_method_42_code
def yX7_fewest : MethodName := ⟨RX7, "fewest", "(II)I"⟩
abbrev cX7_wants : ByteArray := prog_9_method_43_code
def yX7_wants : MethodName := ⟨RX7, "wants", "(II)I"⟩
abbrev cX7_shutIn : ByteArray := prog_9_method_44_code
def yX7_shutIn : MethodName := ⟨RX7, "shutIn", "()I"⟩
abbrev cX7_meet : ByteArray := prog_9_method_45_code
def yX7_meet : MethodName := ⟨RX7, "meet", "(II)I"⟩
abbrev cX7_layTrial : ByteArray := prog_9_method_46_code
def yX7_layTrial : MethodName := ⟨RX7, "layTrial", "()V"⟩
abbrev cX7_tryThing : ByteArray := prog_9_method_47_code
def yX7_tryThing : MethodName := ⟨RX7, "tryThing", "(III)Z"⟩
abbrev cX7_thousandTo : ByteArray := prog_9_method_48_code
def yX7_thousandTo : MethodName := ⟨RX7, "thousandTo", "(I)J"⟩
abbrev cX7_judge : ByteArray := prog_9_method_49_code
def yX7_judge : MethodName := ⟨RX7, "judge", "(IJ)I"⟩
abbrev cX7_hear : ByteArray := prog_9_method_50_code
def yX7_hear : MethodName := ⟨RX7, "hear", "(II)I"⟩
abbrev cX7_unhear : ByteArray := prog_9_method_51_code
def yX7_unhear : MethodName := ⟨RX7, "unhear", "()I"⟩
abbrev cX7_farthest : ByteArray := prog_9_method_52_code
def yX7_farthest : MethodName := ⟨RX7, "farthest", "(II)I"⟩
abbrev cX7_who : ByteArray := prog_9_method_53_code
def yX7_who : MethodName := ⟨RX7, "who", "(I)I"⟩
abbrev cX7_factorial : ByteArray := prog_9_method_54_code
def yX7_factorial : MethodName := ⟨RX7, "factorial", "(I)I"⟩
abbrev cX7_common : ByteArray := prog_9_method_55_code
def yX7_common : MethodName := ⟨RX7, "common", "(II)I"⟩
abbrev cX7_comeTo : ByteArray := prog_9_method_56_code
def yX7_comeTo : MethodName := ⟨RX7, "comeTo", "(I)I"⟩
abbrev cX7_share : ByteArray := prog_9_method_57_code
def yX7_share : MethodName := ⟨RX7, "share", "(IZ)I"⟩
abbrev cX7_choose : ByteArray := prog_9_method_58_code
def yX7_choose : MethodName := ⟨RX7, "choose", "(II)Z"⟩
abbrev cX7_gain : ByteArray := prog_9_method_59_code
def yX7_gain : MethodName := ⟨RX7, "gain", "(IIIIZ)I"⟩
abbrev cX7_isRest : ByteArray := prog_9_method_60_code
def yX7_isRest : MethodName := ⟨RX7, "isRest", "(IIII)Z"⟩
abbrev cX7_rests : ByteArray := prog_9_method_61_code
def yX7_rests : MethodName := ⟨RX7, "rests", "(III)I"⟩
abbrev cX7_power : ByteArray := prog_9_method_62_code
def yX7_power : MethodName := ⟨RX7, "power", "(II)I"⟩
abbrev cX7_iceable : ByteArray := prog_9_method_63_code
def yX7_iceable : MethodName := ⟨RX7, "iceable", "()I"⟩
abbrev cX7_icy : ByteArray := prog_9_method_64_code
def yX7_icy : MethodName := ⟨RX7, "icy", "(IIIZ)I"⟩
abbrev cX7_seed : ByteArray := prog_9_method_65_code
def yX7_seed : MethodName := ⟨RX7, "seed", "(J)J"⟩
abbrev cX7_summers : ByteArray := prog_9_method_66_code
def yX7_summers : MethodName := ⟨RX7, "summers", "(I)I"⟩
abbrev cX7_keep : ByteArray := prog_9_method_67_code
def yX7_keep : MethodName := ⟨RX7, "keep", "(I)I"⟩
abbrev cX7_again : ByteArray := prog_9_method_68_code
def yX7_again : MethodName := ⟨RX7, "again", "(I)I"⟩
abbrev cX7_placesOf : ByteArray := prog_9_method_69_code
def yX7_placesOf : MethodName := ⟨RX7, "placesOf", "()I"⟩
abbrev cX7_windOfAll : ByteArray := prog_9_method_70_code
def yX7_windOfAll : MethodName := ⟨RX7, "windOfAll", "()I"⟩
abbrev cX7_count : ByteArray := prog_9_method_71_code
def yX7_count : MethodName := ⟨RX7, "count", "(I)I"⟩
def RJ6 : String := "java/lang/Integer"
def TJ6 : u_T := fun k => match k with
  | _ => ("", "", "", false)
def tyJ6 : Nat → FieldType := fun k => match k with
  | _ => .int
abbrev wsJ60 : List Cond := u_ws RJ6 TJ6 0
theorem nmJ6 : ∀ a, a < 0 → ∀ b, b < 0 → a ≠ b → (TJ6 a).2.1 ≠ (TJ6 b).2.1 := by decide +kernel
theorem tyJ6_ok : ∀ k, k < 0 → parseFieldDescriptor (TJ6 k).2.2.1 = some (tyJ6 k) := by decide +kernel
abbrev cJ6_bitCount_0f7a4 : ByteArray := prog_10_method_49_code
def yJ6_bitCount_0f7a4 : MethodName := ⟨RJ6, "bitCount", "(I)I"⟩
def RJ9 : String := "java/lang/Math"
def TJ9 : u_T := fun k => match k with
  | _ => ("", "", "", false)
def tyJ9 : Nat → FieldType := fun k => match k with
  | _ => .int
abbrev wsJ90 : List Cond := u_ws RJ9 TJ9 0
theorem nmJ9 : ∀ a, a < 0 → ∀ b, b < 0 → a ≠ b → (TJ9 a).2.1 ≠ (TJ9 b).2.1 := by decide +kernel
theorem tyJ9_ok : ∀ k, k < 0 → parseFieldDescriptor (TJ9 k).2.2.1 = some (tyJ9 k) := by decide +kernel
abbrev cJ9_max_7cf53 : ByteArray := prog_11_method_65_code
def yJ9_max_7cf53 : MethodName := ⟨RJ9, "max", "(II)I"⟩
abbrev cJ9_min_7cf53 : ByteArray := prog_11_method_69_code
def yJ9_min_7cf53 : MethodName := ⟨RJ9, "min", "(II)I"⟩
def RJ10 : String := "java/lang/System"
def TJ10 : u_T := fun k => match k with
  | _ => ("", "", "", false)
def tyJ10 : Nat → FieldType := fun k => match k with
  | _ => .int
abbrev wsJ100 : List Cond := u_ws RJ10 TJ10 0
theorem nmJ10 : ∀ a, a < 0 → ∀ b, b < 0 → a ≠ b → (TJ10 a).2.1 ≠ (TJ10 b).2.1 := by decide +kernel
theorem tyJ10_ok : ∀ k, k < 0 → parseFieldDescriptor (TJ10 k).2.2.1 = some (tyJ10 k) := by decide +kernel
def RJ7 : String := "java/util/Arrays"
def TJ7 : u_T := fun k => match k with
  | _ => ("", "", "", false)
def tyJ7 : Nat → FieldType := fun k => match k with
  | _ => .int
abbrev wsJ70 : List Cond := u_ws RJ7 TJ7 0
theorem nmJ7 : ∀ a, a < 0 → ∀ b, b < 0 → a ≠ b → (TJ7 a).2.1 ≠ (TJ7 b).2.1 := by decide +kernel
theorem tyJ7_ok : ∀ k, k < 0 → parseFieldDescriptor (TJ7 k).2.2.1 = some (tyJ7 k) := by decide +kernel
abbrev cJ7_fill_53178 : ByteArray := prog_13_method_103_code
def yJ7_fill_53178 : MethodName := ⟨RJ7, "fill", "([II)V"⟩
def RL : String := "PleatRoadsLaw"
abbrev cL_law : ByteArray := code
def yL_law : MethodName := ⟨RL, "law", "([I)Z"⟩
def wsX4_init : List Cond := .code yX4_init cX4_init 2 none :: ([.methodLink RX4 3 objectInit, .instanceMethod objectInit, .code objectInit ⟨#[0xb1]⟩ 1 none, .arrayClass .int, .fieldLink RX4 9 "PleatRoads$Standing" "place" "[I", .fieldLink RX4 15 "PleatRoads$Standing" "wind" "[I", .fieldLink RX4 18 "PleatRoads$Standing" "road" "LPleatRoads$Road;"] ++ wsX40)
def wsX0_init : List Cond := .code yX0_init cX0_init 3 none :: ([.methodLink RX0 3 objectInit, .instanceMethod objectInit, .code objectInit ⟨#[0xb1]⟩ 1 none, .classLink RX0 9 RX4, .fieldLink RX0 11 "PleatRoads$ActRow" "ahead" "[LPleatRoads$Standing;", .instantiable RX4 7, .initialized RX4, .methodLink RX0 17 yX4_init, .instanceMethod yX4_init, .code yX4_init cX4_init 2 none, .methodLink RX4 3 objectInit, .arrayClass .int, .fieldLink RX4 9 "PleatRoads$Standing" "place" "[I", .fieldLink RX4 15 "PleatRoads$Standing" "wind" "[I", .fieldLink RX4 18 "PleatRoads$Standing" "road" "LPleatRoads$Road;"] ++ wsX00 ++ wsX40)
def wsX4_takeFrom : List Cond := .code yX4_takeFrom cX4_takeFrom 3 none :: ([.fieldLink RX4 9 "PleatRoads$Standing" "place" "[I", .fieldLink RX4 15 "PleatRoads$Standing" "wind" "[I", .fieldLink RX4 38 "PleatRoads$Standing" "greased" "I", .fieldLink RX4 41 "PleatRoads$Standing" "open" "I", .fieldLink RX4 44 "PleatRoads$Standing" "frost" "I", .fieldLink RX4 47 "PleatRoads$Standing" "steps" "I"] ++ wsX40)
def wsX0_remember : List Cond := .code yX0_remember cX0_remember 2 none :: ([.fieldLink RX0 11 "PleatRoads$ActRow" "ahead" "[LPleatRoads$Standing;", .fieldLink RX0 20 "PleatRoads$ActRow" "end" "I", .fieldLink RX0 28 "PleatRoads$ActRow" "length" "I", .methodLink RX0 31 Lib.Math.min.name, .static Lib.Math.min.name, .initialized "java/lang/Math", .code Lib.Math.min.name Lib.Math.min.code 2 (some .int), .methodLink RX0 24 yX4_takeFrom, .instanceMethod yX4_takeFrom, .selects RX4 yX4_takeFrom yX4_takeFrom, .initialized RX4, .code yX4_takeFrom cX4_takeFrom 3 none, .fieldLink RX4 9 "PleatRoads$Standing" "place" "[I", .fieldLink RX4 15 "PleatRoads$Standing" "wind" "[I", .fieldLink RX4 38 "PleatRoads$Standing" "greased" "I", .fieldLink RX4 41 "PleatRoads$Standing" "open" "I", .fieldLink RX4 44 "PleatRoads$Standing" "frost" "I", .fieldLink RX4 47 "PleatRoads$Standing" "steps" "I"] ++ wsX00 ++ wsX40)
def wsX0_takeBack : List Cond := .code yX0_takeBack cX0_takeBack 2 none :: ([.fieldLink RX0 20 "PleatRoads$ActRow" "end" "I", .fieldLink RX0 28 "PleatRoads$ActRow" "length" "I", .fieldLink RX0 11 "PleatRoads$ActRow" "ahead" "[LPleatRoads$Standing;", .methodLink RX0 24 yX4_takeFrom, .instanceMethod yX4_takeFrom, .selects RX4 yX4_takeFrom yX4_takeFrom, .initialized RX4, .code yX4_takeFrom cX4_takeFrom 3 none, .fieldLink RX4 9 "PleatRoads$Standing" "place" "[I", .fieldLink RX4 15 "PleatRoads$Standing" "wind" "[I", .fieldLink RX4 38 "PleatRoads$Standing" "greased" "I", .fieldLink RX4 41 "PleatRoads$Standing" "open" "I", .fieldLink RX4 44 "PleatRoads$Standing" "frost" "I", .fieldLink RX4 47 "PleatRoads$Standing" "steps" "I"] ++ wsX00 ++ wsX40)
def wsX1_init : List Cond := .code yX1_init cX1_init 2 none :: ([.methodLink RX1 3 objectInit, .instanceMethod objectInit, .code objectInit ⟨#[0xb1]⟩ 1 none, .arrayClass .int, .fieldLink RX1 9 "PleatRoads$Hearsay" "place" "[I", .arrayClass .boolean, .fieldLink RX1 15 "PleatRoads$Hearsay" "came" "[Z", .fieldLink RX1 19 "PleatRoads$Hearsay" "road" "LPleatRoads$Road;"] ++ wsX10)
def wsX1_append : List Cond := .code yX1_append cX1_append 3 (some .int) :: ([.fieldLink RX1 23 "PleatRoads$Hearsay" "length" "I", .fieldLink RX1 9 "PleatRoads$Hearsay" "place" "[I", .fieldLink RX1 15 "PleatRoads$Hearsay" "came" "[Z"] ++ wsX10)
def wsX2_smoothOnes : List Cond := .code yX2_smoothOnes cX2_smoothOnes 3 (some .int) :: ([.fieldLink RX2 27 "PleatRoads$Road" "pleats" "I", .fieldLink RX2 15 "PleatRoads$Road" "pleatKind" "[I"] ++ wsX20)
def wsX2_costShut : List Cond := .code yX2_costShut cX2_costShut 6 (some .int) :: ([.fieldLink RX2 15 "PleatRoads$Road" "pleatKind" "[I", .fieldLink RX2 9 "PleatRoads$Road" "stiffness" "[I"] ++ wsX20)
def wsX2_tollFor : List Cond := .code yX2_tollFor cX2_tollFor 2 (some .int) :: ([])
def wsX1_farthestOn : List Cond := .code yX1_farthestOn cX1_farthestOn 7 (some .int) :: ([.fieldLink RX1 19 "PleatRoads$Hearsay" "road" "LPleatRoads$Road;", .fieldLink RX1 41 "PleatRoads$Road" "pleats" "I", .fieldLink RX1 51 "PleatRoads$Road" "pleatKind" "[I", .methodLink RX1 35 yX2_smoothOnes, .instanceMethod yX2_smoothOnes, .selects RX2 yX2_smoothOnes yX2_smoothOnes, .initialized RX2, .code yX2_smoothOnes cX2_smoothOnes 3 (some .int), .fieldLink RX2 27 "PleatRoads$Road" "pleats" "I", .fieldLink RX2 15 "PleatRoads$Road" "pleatKind" "[I", .methodLink RX1 44 yX2_costShut, .instanceMethod yX2_costShut, .selects RX2 yX2_costShut yX2_costShut, .code yX2_costShut cX2_costShut 6 (some .int), .fieldLink RX2 9 "PleatRoads$Road" "stiffness" "[I", .methodLink RX1 48 yX2_tollFor, .static yX2_tollFor, .code yX2_tollFor cX2_tollFor 2 (some .int)] ++ wsX10 ++ wsX20)
def wsX1_isOne_r1 : List Cond := [Cond.fieldLink RX1 23 "PleatRoads$Hearsay" "length" "I", Cond.fieldLink RX1 9 "PleatRoads$Hearsay" "place" "[I", Cond.fieldLink RX1 15 "PleatRoads$Hearsay" "came" "[Z", Cond.methodLink RX1 31 yX1_farthestOn, Cond.instanceMethod yX1_farthestOn, Cond.selects RX1 yX1_farthestOn yX1_farthestOn, Cond.initialized RX1, Cond.code yX1_farthestOn cX1_farthestOn 7 (some .int), Cond.fieldLink RX1 19 "PleatRoads$Hearsay" "road" "LPleatRoads$Road;", Cond.fieldLink RX1 41 "PleatRoads$Road" "pleats" "I", Cond.fieldLink RX1 51 "PleatRoads$Road" "pleatKind" "[I", Cond.methodLink RX1 35 yX2_smoothOnes, Cond.instanceMethod yX2_smoothOnes, Cond.selects RX2 yX2_smoothOnes yX2_smoothOnes, Cond.initialized RX2, Cond.code yX2_smoothOnes cX2_smoothOnes 3 (some .int), Cond.fieldLink RX2 27 "PleatRoads$Road" "pleats" "I", Cond.fieldLink RX2 15 "PleatRoads$Road" "pleatKind" "[I", Cond.methodLink RX1 44 yX2_costShut, Cond.instanceMethod yX2_costShut, Cond.selects RX2 yX2_costShut yX2_costShut, Cond.code yX2_costShut cX2_costShut 6 (some .int), Cond.fieldLink RX2 9 "PleatRoads$Road" "stiffness" "[I", Cond.methodLink RX1 48 yX2_tollFor]
def wsX1_isOne_r2 : List Cond := [Cond.static yX2_tollFor, Cond.code yX2_tollFor cX2_tollFor 2 (some .int)]
def wsX1_isOne : List Cond := .code yX1_isOne cX1_isOne 5 (some .boolean) :: ((wsX1_isOne_r1 ++ wsX1_isOne_r2) ++ wsX10 ++ wsX20)
def wsX1_howMany_r1 : List Cond := [Cond.methodLink RX1 27 yX1_isOne, Cond.instanceMethod yX1_isOne, Cond.selects RX1 yX1_isOne yX1_isOne, Cond.initialized RX1, Cond.code yX1_isOne cX1_isOne 5 (some .boolean), Cond.fieldLink RX1 23 "PleatRoads$Hearsay" "length" "I", Cond.fieldLink RX1 9 "PleatRoads$Hearsay" "place" "[I", Cond.fieldLink RX1 15 "PleatRoads$Hearsay" "came" "[Z", Cond.methodLink RX1 31 yX1_farthestOn, Cond.instanceMethod yX1_farthestOn, Cond.selects RX1 yX1_farthestOn yX1_farthestOn, Cond.code yX1_farthestOn cX1_farthestOn 7 (some .int), Cond.fieldLink RX1 19 "PleatRoads$Hearsay" "road" "LPleatRoads$Road;", Cond.fieldLink RX1 41 "PleatRoads$Road" "pleats" "I", Cond.fieldLink RX1 51 "PleatRoads$Road" "pleatKind" "[I", Cond.methodLink RX1 35 yX2_smoothOnes, Cond.instanceMethod yX2_smoothOnes, Cond.selects RX2 yX2_smoothOnes yX2_smoothOnes, Cond.initialized RX2, Cond.code yX2_smoothOnes cX2_smoothOnes 3 (some .int), Cond.fieldLink RX2 27 "PleatRoads$Road" "pleats" "I", Cond.fieldLink RX2 15 "PleatRoads$Road" "pleatKind" "[I", Cond.methodLink RX1 44 yX2_costShut, Cond.instanceMethod yX2_costShut]
def wsX1_howMany_r2 : List Cond := [Cond.selects RX2 yX2_costShut yX2_costShut, Cond.code yX2_costShut cX2_costShut 6 (some .int), Cond.fieldLink RX2 9 "PleatRoads$Road" "stiffness" "[I", Cond.methodLink RX1 48 yX2_tollFor, Cond.static yX2_tollFor, Cond.code yX2_tollFor cX2_tollFor 2 (some .int)]
def wsX1_howMany : List Cond := .code yX1_howMany cX1_howMany 4 (some .int) :: ((wsX1_howMany_r1 ++ wsX1_howMany_r2) ++ wsX10 ++ wsX20)
def wsX1_firstOne_r1 : List Cond := [Cond.methodLink RX1 27 yX1_isOne, Cond.instanceMethod yX1_isOne, Cond.selects RX1 yX1_isOne yX1_isOne, Cond.initialized RX1, Cond.code yX1_isOne cX1_isOne 5 (some .boolean), Cond.fieldLink RX1 23 "PleatRoads$Hearsay" "length" "I", Cond.fieldLink RX1 9 "PleatRoads$Hearsay" "place" "[I", Cond.fieldLink RX1 15 "PleatRoads$Hearsay" "came" "[Z", Cond.methodLink RX1 31 yX1_farthestOn, Cond.instanceMethod yX1_farthestOn, Cond.selects RX1 yX1_farthestOn yX1_farthestOn, Cond.code yX1_farthestOn cX1_farthestOn 7 (some .int), Cond.fieldLink RX1 19 "PleatRoads$Hearsay" "road" "LPleatRoads$Road;", Cond.fieldLink RX1 41 "PleatRoads$Road" "pleats" "I", Cond.fieldLink RX1 51 "PleatRoads$Road" "pleatKind" "[I", Cond.methodLink RX1 35 yX2_smoothOnes, Cond.instanceMethod yX2_smoothOnes, Cond.selects RX2 yX2_smoothOnes yX2_smoothOnes, Cond.initialized RX2, Cond.code yX2_smoothOnes cX2_smoothOnes 3 (some .int), Cond.fieldLink RX2 27 "PleatRoads$Road" "pleats" "I", Cond.fieldLink RX2 15 "PleatRoads$Road" "pleatKind" "[I", Cond.methodLink RX1 44 yX2_costShut, Cond.instanceMethod yX2_costShut]
def wsX1_firstOne_r2 : List Cond := [Cond.selects RX2 yX2_costShut yX2_costShut, Cond.code yX2_costShut cX2_costShut 6 (some .int), Cond.fieldLink RX2 9 "PleatRoads$Road" "stiffness" "[I", Cond.methodLink RX1 48 yX2_tollFor, Cond.static yX2_tollFor, Cond.code yX2_tollFor cX2_tollFor 2 (some .int)]
def wsX1_firstOne : List Cond := .code yX1_firstOne cX1_firstOne 3 (some .int) :: ((wsX1_firstOne_r1 ++ wsX1_firstOne_r2) ++ wsX10 ++ wsX20)
def wsX2_init : List Cond := .code yX2_init cX2_init 1 none :: ([.methodLink RX2 3 objectInit, .instanceMethod objectInit, .code objectInit ⟨#[0xb1]⟩ 1 none, .arrayClass .int, .fieldLink RX2 9 "PleatRoads$Road" "stiffness" "[I", .fieldLink RX2 15 "PleatRoads$Road" "pleatKind" "[I", .fieldLink RX2 18 "PleatRoads$Road" "firstPlace" "[I", .fieldLink RX2 21 "PleatRoads$Road" "breath" "[I", .fieldLink RX2 24 "PleatRoads$Road" "travellerKind" "[I"] ++ wsX20)
def wsX2_hasPleat : List Cond := .code yX2_hasPleat cX2_hasPleat 2 (some .boolean) :: ([.fieldLink RX2 27 "PleatRoads$Road" "pleats" "I"] ++ wsX20)
def wsX2_hasTraveller : List Cond := .code yX2_hasTraveller cX2_hasTraveller 2 (some .boolean) :: ([.fieldLink RX2 31 "PleatRoads$Road" "travellers" "I"] ++ wsX20)
def wsX2_hasPlace : List Cond := .code yX2_hasPlace cX2_hasPlace 2 (some .boolean) :: ([.fieldLink RX2 27 "PleatRoads$Road" "pleats" "I"] ++ wsX20)
def wsX2_clear : List Cond := .code yX2_clear cX2_clear 1 none :: ([.fieldLink RX2 27 "PleatRoads$Road" "pleats" "I", .fieldLink RX2 31 "PleatRoads$Road" "travellers" "I"] ++ wsX20)
def wsX2_addPleat : List Cond := .code yX2_addPleat cX2_addPleat 3 none :: ([.fieldLink RX2 27 "PleatRoads$Road" "pleats" "I", .fieldLink RX2 9 "PleatRoads$Road" "stiffness" "[I", .fieldLink RX2 15 "PleatRoads$Road" "pleatKind" "[I"] ++ wsX20)
def wsX2_addTraveller : List Cond := .code yX2_addTraveller cX2_addTraveller 4 none :: ([.fieldLink RX2 31 "PleatRoads$Road" "travellers" "I", .fieldLink RX2 18 "PleatRoads$Road" "firstPlace" "[I", .fieldLink RX2 21 "PleatRoads$Road" "breath" "[I", .fieldLink RX2 24 "PleatRoads$Road" "travellerKind" "[I"] ++ wsX20)
def wsX2_canBeIced : List Cond := .code yX2_canBeIced cX2_canBeIced 3 (some .int) :: ([.fieldLink RX2 27 "PleatRoads$Road" "pleats" "I", .fieldLink RX2 15 "PleatRoads$Road" "pleatKind" "[I"] ++ wsX20)
def wsX2_windRested : List Cond := .code yX2_windRested cX2_windRested 2 (some .int) :: ([.methodLink RX2 34 Lib.Math.max.name, .static Lib.Math.max.name, .initialized "java/lang/Math", .code Lib.Math.max.name Lib.Math.max.code 2 (some .int), .methodLink RX2 40 Lib.Math.min.name, .static Lib.Math.min.name, .code Lib.Math.min.name Lib.Math.min.code 2 (some .int)])
def wsX3_init : List Cond := .code yX3_init cX3_init 1 none :: ([.methodLink RX3 3 objectInit, .instanceMethod objectInit, .code objectInit ⟨#[0xb1]⟩ 1 none, .arrayClass .int, .fieldLink RX3 9 "PleatRoads$Script" "letters" "[I"] ++ wsX30)
def wsX3_append : List Cond := .code yX3_append cX3_append 2 (some .int) :: ([.fieldLink RX3 15 "PleatRoads$Script" "length" "I", .fieldLink RX3 9 "PleatRoads$Script" "letters" "[I"] ++ wsX30)
def wsX3_figure : List Cond := .code yX3_figure cX3_figure 2 (some .int) :: ([.fieldLink RX3 9 "PleatRoads$Script" "letters" "[I"] ++ wsX30)
def wsX3_figureFault : List Cond := .code yX3_figureFault cX3_figureFault 4 (some .int) :: ([.fieldLink RX3 15 "PleatRoads$Script" "length" "I", .methodLink RX3 44 yX3_figure, .instanceMethod yX3_figure, .selects RX3 yX3_figure yX3_figure, .initialized RX3, .code yX3_figure cX3_figure 2 (some .int), .fieldLink RX3 9 "PleatRoads$Script" "letters" "[I"] ++ wsX30)
def wsX3_readPleat : List Cond := .code yX3_readPleat cX3_readPleat 4 (some .int) :: ([.methodLink RX3 40 yX3_figureFault, .instanceMethod yX3_figureFault, .selects RX3 yX3_figureFault yX3_figureFault, .initialized RX3, .code yX3_figureFault cX3_figureFault 4 (some .int), .fieldLink RX3 15 "PleatRoads$Script" "length" "I", .methodLink RX3 44 yX3_figure, .instanceMethod yX3_figure, .selects RX3 yX3_figure yX3_figure, .code yX3_figure cX3_figure 2 (some .int), .fieldLink RX3 9 "PleatRoads$Script" "letters" "[I", .methodLink RX3 48 yX2_addPleat, .instanceMethod yX2_addPleat, .selects RX2 yX2_addPleat yX2_addPleat, .initialized RX2, .code yX2_addPleat cX2_addPleat 3 none, .fieldLink RX2 27 "PleatRoads$Road" "pleats" "I", .fieldLink RX2 9 "PleatRoads$Road" "stiffness" "[I", .fieldLink RX2 15 "PleatRoads$Road" "pleatKind" "[I"] ++ wsX30 ++ wsX20)
def wsX3_readTraveller_r1 : List Cond := [Cond.fieldLink RX3 28 "PleatRoads$Road" "pleats" "I", Cond.methodLink RX3 52 Lib.Math.min.name, Cond.static Lib.Math.min.name, Cond.initialized "java/lang/Math", Cond.code Lib.Math.min.name Lib.Math.min.code 2 (some .int), Cond.methodLink RX3 40 yX3_figureFault, Cond.instanceMethod yX3_figureFault, Cond.selects RX3 yX3_figureFault yX3_figureFault, Cond.initialized RX3, Cond.code yX3_figureFault cX3_figureFault 4 (some .int), Cond.fieldLink RX3 15 "PleatRoads$Script" "length" "I", Cond.methodLink RX3 44 yX3_figure, Cond.instanceMethod yX3_figure, Cond.selects RX3 yX3_figure yX3_figure, Cond.code yX3_figure cX3_figure 2 (some .int), Cond.fieldLink RX3 9 "PleatRoads$Script" "letters" "[I", Cond.methodLink RX3 58 yX2_addTraveller, Cond.instanceMethod yX2_addTraveller, Cond.selects RX2 yX2_addTraveller yX2_addTraveller, Cond.initialized RX2, Cond.code yX2_addTraveller cX2_addTraveller 4 none, Cond.fieldLink RX2 31 "PleatRoads$Road" "travellers" "I", Cond.fieldLink RX2 18 "PleatRoads$Road" "firstPlace" "[I", Cond.fieldLink RX2 21 "PleatRoads$Road" "breath" "[I"]
def wsX3_readTraveller_r2 : List Cond := [Cond.fieldLink RX2 24 "PleatRoads$Road" "travellerKind" "[I"]
def wsX3_readTraveller : List Cond := .code yX3_readTraveller cX3_readTraveller 4 (some .int) :: ((wsX3_readTraveller_r1 ++ wsX3_readTraveller_r2) ++ wsX20 ++ wsX30)
def wsX3_readPart_r1 : List Cond := [Cond.fieldLink RX3 9 "PleatRoads$Script" "letters" "[I", Cond.fieldLink RX3 28 "PleatRoads$Road" "pleats" "I", Cond.fieldLink RX3 34 "PleatRoads$Road" "travellers" "I", Cond.methodLink RX3 31 yX3_readPleat, Cond.instanceMethod yX3_readPleat, Cond.selects RX3 yX3_readPleat yX3_readPleat, Cond.initialized RX3, Cond.code yX3_readPleat cX3_readPleat 4 (some .int), Cond.methodLink RX3 40 yX3_figureFault, Cond.instanceMethod yX3_figureFault, Cond.selects RX3 yX3_figureFault yX3_figureFault, Cond.code yX3_figureFault cX3_figureFault 4 (some .int), Cond.fieldLink RX3 15 "PleatRoads$Script" "length" "I", Cond.methodLink RX3 44 yX3_figure, Cond.instanceMethod yX3_figure, Cond.selects RX3 yX3_figure yX3_figure, Cond.code yX3_figure cX3_figure 2 (some .int), Cond.methodLink RX3 48 yX2_addPleat, Cond.instanceMethod yX2_addPleat, Cond.selects RX2 yX2_addPleat yX2_addPleat, Cond.initialized RX2, Cond.code yX2_addPleat cX2_addPleat 3 none, Cond.fieldLink RX2 27 "PleatRoads$Road" "pleats" "I", Cond.fieldLink RX2 9 "PleatRoads$Road" "stiffness" "[I"]
def wsX3_readPart_r2 : List Cond := [Cond.fieldLink RX2 15 "PleatRoads$Road" "pleatKind" "[I", Cond.methodLink RX3 37 yX3_readTraveller, Cond.instanceMethod yX3_readTraveller, Cond.selects RX3 yX3_readTraveller yX3_readTraveller, Cond.code yX3_readTraveller cX3_readTraveller 4 (some .int), Cond.methodLink RX3 52 Lib.Math.min.name, Cond.static Lib.Math.min.name, Cond.initialized "java/lang/Math", Cond.code Lib.Math.min.name Lib.Math.min.code 2 (some .int), Cond.methodLink RX3 58 yX2_addTraveller, Cond.instanceMethod yX2_addTraveller, Cond.selects RX2 yX2_addTraveller yX2_addTraveller, Cond.code yX2_addTraveller cX2_addTraveller 4 none, Cond.fieldLink RX2 31 "PleatRoads$Road" "travellers" "I", Cond.fieldLink RX2 18 "PleatRoads$Road" "firstPlace" "[I", Cond.fieldLink RX2 21 "PleatRoads$Road" "breath" "[I", Cond.fieldLink RX2 24 "PleatRoads$Road" "travellerKind" "[I"]
def wsX3_readPart : List Cond := .code yX3_readPart cX3_readPart 3 (some .int) :: ((wsX3_readPart_r1 ++ wsX3_readPart_r2) ++ wsX30 ++ wsX20)
def wsX3_readInto_r1 : List Cond := [Cond.fieldLink RX3 15 "PleatRoads$Script" "length" "I", Cond.fieldLink RX3 9 "PleatRoads$Script" "letters" "[I", Cond.methodLink RX3 19 yX2_clear, Cond.instanceMethod yX2_clear, Cond.selects RX2 yX2_clear yX2_clear, Cond.initialized RX2, Cond.code yX2_clear cX2_clear 1 none, Cond.fieldLink RX2 27 "PleatRoads$Road" "pleats" "I", Cond.fieldLink RX2 31 "PleatRoads$Road" "travellers" "I", Cond.methodLink RX3 24 yX3_readPart, Cond.instanceMethod yX3_readPart, Cond.selects RX3 yX3_readPart yX3_readPart, Cond.initialized RX3, Cond.code yX3_readPart cX3_readPart 3 (some .int), Cond.fieldLink RX3 28 "PleatRoads$Road" "pleats" "I", Cond.fieldLink RX3 34 "PleatRoads$Road" "travellers" "I", Cond.methodLink RX3 31 yX3_readPleat, Cond.instanceMethod yX3_readPleat, Cond.selects RX3 yX3_readPleat yX3_readPleat, Cond.code yX3_readPleat cX3_readPleat 4 (some .int), Cond.methodLink RX3 40 yX3_figureFault, Cond.instanceMethod yX3_figureFault, Cond.selects RX3 yX3_figureFault yX3_figureFault, Cond.code yX3_figureFault cX3_figureFault 4 (some .int)]
def wsX3_readInto_r2 : List Cond := [Cond.methodLink RX3 44 yX3_figure, Cond.instanceMethod yX3_figure, Cond.selects RX3 yX3_figure yX3_figure, Cond.code yX3_figure cX3_figure 2 (some .int), Cond.methodLink RX3 48 yX2_addPleat, Cond.instanceMethod yX2_addPleat, Cond.selects RX2 yX2_addPleat yX2_addPleat, Cond.code yX2_addPleat cX2_addPleat 3 none, Cond.fieldLink RX2 9 "PleatRoads$Road" "stiffness" "[I", Cond.fieldLink RX2 15 "PleatRoads$Road" "pleatKind" "[I", Cond.methodLink RX3 37 yX3_readTraveller, Cond.instanceMethod yX3_readTraveller, Cond.selects RX3 yX3_readTraveller yX3_readTraveller, Cond.code yX3_readTraveller cX3_readTraveller 4 (some .int), Cond.methodLink RX3 52 Lib.Math.min.name, Cond.static Lib.Math.min.name, Cond.initialized "java/lang/Math", Cond.code Lib.Math.min.name Lib.Math.min.code 2 (some .int), Cond.methodLink RX3 58 yX2_addTraveller, Cond.instanceMethod yX2_addTraveller, Cond.selects RX2 yX2_addTraveller yX2_addTraveller, Cond.code yX2_addTraveller cX2_addTraveller 4 none, Cond.fieldLink RX2 18 "PleatRoads$Road" "firstPlace" "[I", Cond.fieldLink RX2 21 "PleatRoads$Road" "breath" "[I"]
def wsX3_readInto_r3 : List Cond := [Cond.fieldLink RX2 24 "PleatRoads$Road" "travellerKind" "[I"]
def wsX3_readInto : List Cond := .code yX3_readInto cX3_readInto 5 (some .int) :: ((wsX3_readInto_r1 ++ (wsX3_readInto_r2 ++ wsX3_readInto_r3)) ++ wsX30 ++ wsX20)
def wsX4_begin : List Cond := .code yX4_begin cX4_begin 2 none :: ([.fieldLink RX4 18 "PleatRoads$Standing" "road" "LPleatRoads$Road;", .fieldLink RX4 22 "PleatRoads$Road" "travellers" "I", .fieldLink RX4 9 "PleatRoads$Standing" "place" "[I", .fieldLink RX4 28 "PleatRoads$Road" "firstPlace" "[I", .fieldLink RX4 15 "PleatRoads$Standing" "wind" "[I", .fieldLink RX4 31 "PleatRoads$Road" "breath" "[I", .fieldLink RX4 38 "PleatRoads$Standing" "greased" "I", .fieldLink RX4 41 "PleatRoads$Standing" "open" "I", .fieldLink RX4 44 "PleatRoads$Standing" "frost" "I", .fieldLink RX4 47 "PleatRoads$Standing" "steps" "I", .methodLink RX4 34 yX2_smoothOnes, .instanceMethod yX2_smoothOnes, .selects RX2 yX2_smoothOnes yX2_smoothOnes, .initialized RX2, .code yX2_smoothOnes cX2_smoothOnes 3 (some .int), .fieldLink RX2 27 "PleatRoads$Road" "pleats" "I", .fieldLink RX2 15 "PleatRoads$Road" "pleatKind" "[I"] ++ wsX40 ++ wsX20)
def wsX4_costOf : List Cond := .code yX4_costOf cX4_costOf 2 (some .int) :: ([.fieldLink RX4 41 "PleatRoads$Standing" "open" "I", .fieldLink RX4 18 "PleatRoads$Standing" "road" "LPleatRoads$Road;", .fieldLink RX4 44 "PleatRoads$Standing" "frost" "I", .fieldLink RX4 38 "PleatRoads$Standing" "greased" "I", .methodLink RX4 50 yX2_costShut, .instanceMethod yX2_costShut, .selects RX2 yX2_costShut yX2_costShut, .initialized RX2, .code yX2_costShut cX2_costShut 6 (some .int), .fieldLink RX2 15 "PleatRoads$Road" "pleatKind" "[I", .fieldLink RX2 9 "PleatRoads$Road" "stiffness" "[I"] ++ wsX40 ++ wsX20)
def wsX4_pleatBeside : List Cond := .code yX4_pleatBeside cX4_pleatBeside 3 (some .int) :: ([.fieldLink RX4 9 "PleatRoads$Standing" "place" "[I"] ++ wsX40)
def wsX4_tollBeside_r1 : List Cond := [Cond.fieldLink RX4 18 "PleatRoads$Standing" "road" "LPleatRoads$Road;", Cond.fieldLink RX4 62 "PleatRoads$Road" "travellerKind" "[I", Cond.methodLink RX4 54 yX4_pleatBeside, Cond.instanceMethod yX4_pleatBeside, Cond.selects RX4 yX4_pleatBeside yX4_pleatBeside, Cond.initialized RX4, Cond.code yX4_pleatBeside cX4_pleatBeside 3 (some .int), Cond.fieldLink RX4 9 "PleatRoads$Standing" "place" "[I", Cond.methodLink RX4 58 yX2_hasPleat, Cond.instanceMethod yX2_hasPleat, Cond.selects RX2 yX2_hasPleat yX2_hasPleat, Cond.initialized RX2, Cond.code yX2_hasPleat cX2_hasPleat 2 (some .boolean), Cond.fieldLink RX2 27 "PleatRoads$Road" "pleats" "I", Cond.methodLink RX4 65 yX4_costOf, Cond.instanceMethod yX4_costOf, Cond.selects RX4 yX4_costOf yX4_costOf, Cond.code yX4_costOf cX4_costOf 2 (some .int), Cond.fieldLink RX4 41 "PleatRoads$Standing" "open" "I", Cond.fieldLink RX4 44 "PleatRoads$Standing" "frost" "I", Cond.fieldLink RX4 38 "PleatRoads$Standing" "greased" "I", Cond.methodLink RX4 50 yX2_costShut, Cond.instanceMethod yX2_costShut, Cond.selects RX2 yX2_costShut yX2_costShut]
def wsX4_tollBeside_r2 : List Cond := [Cond.code yX2_costShut cX2_costShut 6 (some .int), Cond.fieldLink RX2 15 "PleatRoads$Road" "pleatKind" "[I", Cond.fieldLink RX2 9 "PleatRoads$Road" "stiffness" "[I", Cond.methodLink RX4 69 yX2_tollFor, Cond.static yX2_tollFor, Cond.code yX2_tollFor cX2_tollFor 2 (some .int)]
def wsX4_tollBeside : List Cond := .code yX4_tollBeside cX4_tollBeside 4 (some .int) :: ((wsX4_tollBeside_r1 ++ wsX4_tollBeside_r2) ++ wsX40 ++ wsX20)
def wsX4_canStep_r1 : List Cond := [Cond.fieldLink RX4 18 "PleatRoads$Standing" "road" "LPleatRoads$Road;", Cond.fieldLink RX4 15 "PleatRoads$Standing" "wind" "[I", Cond.methodLink RX4 73 yX2_hasTraveller, Cond.instanceMethod yX2_hasTraveller, Cond.selects RX2 yX2_hasTraveller yX2_hasTraveller, Cond.initialized RX2, Cond.code yX2_hasTraveller cX2_hasTraveller 2 (some .boolean), Cond.fieldLink RX2 31 "PleatRoads$Road" "travellers" "I", Cond.methodLink RX4 76 yX4_tollBeside, Cond.instanceMethod yX4_tollBeside, Cond.selects RX4 yX4_tollBeside yX4_tollBeside, Cond.initialized RX4, Cond.code yX4_tollBeside cX4_tollBeside 4 (some .int), Cond.fieldLink RX4 62 "PleatRoads$Road" "travellerKind" "[I", Cond.methodLink RX4 54 yX4_pleatBeside, Cond.instanceMethod yX4_pleatBeside, Cond.selects RX4 yX4_pleatBeside yX4_pleatBeside, Cond.code yX4_pleatBeside cX4_pleatBeside 3 (some .int), Cond.fieldLink RX4 9 "PleatRoads$Standing" "place" "[I", Cond.methodLink RX4 58 yX2_hasPleat, Cond.instanceMethod yX2_hasPleat, Cond.selects RX2 yX2_hasPleat yX2_hasPleat, Cond.code yX2_hasPleat cX2_hasPleat 2 (some .boolean), Cond.fieldLink RX2 27 "PleatRoads$Road" "pleats" "I"]
def wsX4_canStep_r2 : List Cond := [Cond.methodLink RX4 65 yX4_costOf, Cond.instanceMethod yX4_costOf, Cond.selects RX4 yX4_costOf yX4_costOf, Cond.code yX4_costOf cX4_costOf 2 (some .int), Cond.fieldLink RX4 41 "PleatRoads$Standing" "open" "I", Cond.fieldLink RX4 44 "PleatRoads$Standing" "frost" "I", Cond.fieldLink RX4 38 "PleatRoads$Standing" "greased" "I", Cond.methodLink RX4 50 yX2_costShut, Cond.instanceMethod yX2_costShut, Cond.selects RX2 yX2_costShut yX2_costShut, Cond.code yX2_costShut cX2_costShut 6 (some .int), Cond.fieldLink RX2 15 "PleatRoads$Road" "pleatKind" "[I", Cond.fieldLink RX2 9 "PleatRoads$Road" "stiffness" "[I", Cond.methodLink RX4 69 yX2_tollFor, Cond.static yX2_tollFor, Cond.code yX2_tollFor cX2_tollFor 2 (some .int)]
def wsX4_canStep : List Cond := .code yX4_canStep cX4_canStep 4 (some .boolean) :: ((wsX4_canStep_r1 ++ wsX4_canStep_r2) ++ wsX40 ++ wsX20)
def wsX4_doStep_r1 : List Cond := [Cond.fieldLink RX4 18 "PleatRoads$Standing" "road" "LPleatRoads$Road;", Cond.fieldLink RX4 79 "PleatRoads$Road" "pleatKind" "[I", Cond.fieldLink RX4 15 "PleatRoads$Standing" "wind" "[I", Cond.fieldLink RX4 31 "PleatRoads$Road" "breath" "[I", Cond.fieldLink RX4 9 "PleatRoads$Standing" "place" "[I", Cond.fieldLink RX4 62 "PleatRoads$Road" "travellerKind" "[I", Cond.fieldLink RX4 41 "PleatRoads$Standing" "open" "I", Cond.fieldLink RX4 47 "PleatRoads$Standing" "steps" "I", Cond.methodLink RX4 54 yX4_pleatBeside, Cond.instanceMethod yX4_pleatBeside, Cond.selects RX4 yX4_pleatBeside yX4_pleatBeside, Cond.initialized RX4, Cond.code yX4_pleatBeside cX4_pleatBeside 3 (some .int), Cond.methodLink RX4 58 yX2_hasPleat, Cond.instanceMethod yX2_hasPleat, Cond.selects RX2 yX2_hasPleat yX2_hasPleat, Cond.initialized RX2, Cond.code yX2_hasPleat cX2_hasPleat 2 (some .boolean), Cond.fieldLink RX2 27 "PleatRoads$Road" "pleats" "I", Cond.methodLink RX4 76 yX4_tollBeside, Cond.instanceMethod yX4_tollBeside, Cond.selects RX4 yX4_tollBeside yX4_tollBeside, Cond.code yX4_tollBeside cX4_tollBeside 4 (some .int), Cond.methodLink RX4 65 yX4_costOf]
def wsX4_doStep_r2 : List Cond := [Cond.instanceMethod yX4_costOf, Cond.selects RX4 yX4_costOf yX4_costOf, Cond.code yX4_costOf cX4_costOf 2 (some .int), Cond.fieldLink RX4 44 "PleatRoads$Standing" "frost" "I", Cond.fieldLink RX4 38 "PleatRoads$Standing" "greased" "I", Cond.methodLink RX4 50 yX2_costShut, Cond.instanceMethod yX2_costShut, Cond.selects RX2 yX2_costShut yX2_costShut, Cond.code yX2_costShut cX2_costShut 6 (some .int), Cond.fieldLink RX2 15 "PleatRoads$Road" "pleatKind" "[I", Cond.fieldLink RX2 9 "PleatRoads$Road" "stiffness" "[I", Cond.methodLink RX4 69 yX2_tollFor, Cond.static yX2_tollFor, Cond.code yX2_tollFor cX2_tollFor 2 (some .int)]
def wsX4_doStep : List Cond := .code yX4_doStep cX4_doStep 5 none :: ((wsX4_doStep_r1 ++ wsX4_doStep_r2) ++ wsX40 ++ wsX20)
def wsX4_doRest : List Cond := .code yX4_doRest cX4_doRest 2 none :: ([.fieldLink RX4 15 "PleatRoads$Standing" "wind" "[I", .fieldLink RX4 18 "PleatRoads$Standing" "road" "LPleatRoads$Road;", .fieldLink RX4 31 "PleatRoads$Road" "breath" "[I", .fieldLink RX4 41 "PleatRoads$Standing" "open" "I", .fieldLink RX4 47 "PleatRoads$Standing" "steps" "I", .methodLink RX4 82 yX2_windRested, .static yX2_windRested, .initialized RX2, .code yX2_windRested cX2_windRested 2 (some .int), .methodLink RX2 34 Lib.Math.max.name, .static Lib.Math.max.name, .initialized "java/lang/Math", .code Lib.Math.max.name Lib.Math.max.code 2 (some .int), .methodLink RX2 40 Lib.Math.min.name, .static Lib.Math.min.name, .code Lib.Math.min.name Lib.Math.min.code 2 (some .int)] ++ wsX40 ++ wsX20)
def wsX4_canGrease : List Cond := .code yX4_canGrease cX4_canGrease 2 (some .boolean) :: ([.fieldLink RX4 18 "PleatRoads$Standing" "road" "LPleatRoads$Road;", .fieldLink RX4 38 "PleatRoads$Standing" "greased" "I", .methodLink RX4 58 yX2_hasPleat, .instanceMethod yX2_hasPleat, .selects RX2 yX2_hasPleat yX2_hasPleat, .initialized RX2, .code yX2_hasPleat cX2_hasPleat 2 (some .boolean), .fieldLink RX2 27 "PleatRoads$Road" "pleats" "I"] ++ wsX40 ++ wsX20)
def wsX4_doGrease : List Cond := .code yX4_doGrease cX4_doGrease 2 none :: ([.fieldLink RX4 38 "PleatRoads$Standing" "greased" "I"] ++ wsX40)
def wsX4_canFreeze : List Cond := .code yX4_canFreeze cX4_canFreeze 1 (some .boolean) :: ([.fieldLink RX4 44 "PleatRoads$Standing" "frost" "I"] ++ wsX40)
def wsX4_stepIfItCan_r1 : List Cond := [Cond.methodLink RX4 85 yX4_canStep, Cond.instanceMethod yX4_canStep, Cond.selects RX4 yX4_canStep yX4_canStep, Cond.initialized RX4, Cond.code yX4_canStep cX4_canStep 4 (some .boolean), Cond.fieldLink RX4 18 "PleatRoads$Standing" "road" "LPleatRoads$Road;", Cond.fieldLink RX4 15 "PleatRoads$Standing" "wind" "[I", Cond.methodLink RX4 73 yX2_hasTraveller, Cond.instanceMethod yX2_hasTraveller, Cond.selects RX2 yX2_hasTraveller yX2_hasTraveller, Cond.initialized RX2, Cond.code yX2_hasTraveller cX2_hasTraveller 2 (some .boolean), Cond.fieldLink RX2 31 "PleatRoads$Road" "travellers" "I", Cond.methodLink RX4 76 yX4_tollBeside, Cond.instanceMethod yX4_tollBeside, Cond.selects RX4 yX4_tollBeside yX4_tollBeside, Cond.code yX4_tollBeside cX4_tollBeside 4 (some .int), Cond.fieldLink RX4 62 "PleatRoads$Road" "travellerKind" "[I", Cond.methodLink RX4 54 yX4_pleatBeside, Cond.instanceMethod yX4_pleatBeside, Cond.selects RX4 yX4_pleatBeside yX4_pleatBeside, Cond.code yX4_pleatBeside cX4_pleatBeside 3 (some .int), Cond.fieldLink RX4 9 "PleatRoads$Standing" "place" "[I", Cond.methodLink RX4 58 yX2_hasPleat]
def wsX4_stepIfItCan_r2 : List Cond := [Cond.instanceMethod yX2_hasPleat, Cond.selects RX2 yX2_hasPleat yX2_hasPleat, Cond.code yX2_hasPleat cX2_hasPleat 2 (some .boolean), Cond.fieldLink RX2 27 "PleatRoads$Road" "pleats" "I", Cond.methodLink RX4 65 yX4_costOf, Cond.instanceMethod yX4_costOf, Cond.selects RX4 yX4_costOf yX4_costOf, Cond.code yX4_costOf cX4_costOf 2 (some .int), Cond.fieldLink RX4 41 "PleatRoads$Standing" "open" "I", Cond.fieldLink RX4 44 "PleatRoads$Standing" "frost" "I", Cond.fieldLink RX4 38 "PleatRoads$Standing" "greased" "I", Cond.methodLink RX4 50 yX2_costShut, Cond.instanceMethod yX2_costShut, Cond.selects RX2 yX2_costShut yX2_costShut, Cond.code yX2_costShut cX2_costShut 6 (some .int), Cond.fieldLink RX2 15 "PleatRoads$Road" "pleatKind" "[I", Cond.fieldLink RX2 9 "PleatRoads$Road" "stiffness" "[I", Cond.methodLink RX4 69 yX2_tollFor, Cond.static yX2_tollFor, Cond.code yX2_tollFor cX2_tollFor 2 (some .int), Cond.methodLink RX4 89 yX4_doStep, Cond.instanceMethod yX4_doStep, Cond.selects RX4 yX4_doStep yX4_doStep, Cond.code yX4_doStep cX4_doStep 5 none]
def wsX4_stepIfItCan_r3 : List Cond := [Cond.fieldLink RX4 79 "PleatRoads$Road" "pleatKind" "[I", Cond.fieldLink RX4 31 "PleatRoads$Road" "breath" "[I", Cond.fieldLink RX4 47 "PleatRoads$Standing" "steps" "I"]
def wsX4_stepIfItCan : List Cond := .code yX4_stepIfItCan cX4_stepIfItCan 4 (some .boolean) :: ((wsX4_stepIfItCan_r1 ++ (wsX4_stepIfItCan_r2 ++ wsX4_stepIfItCan_r3)) ++ wsX40 ++ wsX20)
def wsX4_restIfItCan_r1 : List Cond := [Cond.fieldLink RX4 18 "PleatRoads$Standing" "road" "LPleatRoads$Road;", Cond.methodLink RX4 73 yX2_hasTraveller, Cond.instanceMethod yX2_hasTraveller, Cond.selects RX2 yX2_hasTraveller yX2_hasTraveller, Cond.initialized RX2, Cond.code yX2_hasTraveller cX2_hasTraveller 2 (some .boolean), Cond.fieldLink RX2 31 "PleatRoads$Road" "travellers" "I", Cond.methodLink RX4 93 yX4_doRest, Cond.instanceMethod yX4_doRest, Cond.selects RX4 yX4_doRest yX4_doRest, Cond.initialized RX4, Cond.code yX4_doRest cX4_doRest 2 none, Cond.fieldLink RX4 15 "PleatRoads$Standing" "wind" "[I", Cond.fieldLink RX4 31 "PleatRoads$Road" "breath" "[I", Cond.fieldLink RX4 41 "PleatRoads$Standing" "open" "I", Cond.fieldLink RX4 47 "PleatRoads$Standing" "steps" "I", Cond.methodLink RX4 82 yX2_windRested, Cond.static yX2_windRested, Cond.code yX2_windRested cX2_windRested 2 (some .int), Cond.methodLink RX2 34 Lib.Math.max.name, Cond.static Lib.Math.max.name, Cond.initialized "java/lang/Math", Cond.code Lib.Math.max.name Lib.Math.max.code 2 (some .int), Cond.methodLink RX2 40 Lib.Math.min.name]
def wsX4_restIfItCan_r2 : List Cond := [Cond.static Lib.Math.min.name, Cond.code Lib.Math.min.name Lib.Math.min.code 2 (some .int)]
def wsX4_restIfItCan : List Cond := .code yX4_restIfItCan cX4_restIfItCan 3 (some .boolean) :: ((wsX4_restIfItCan_r1 ++ wsX4_restIfItCan_r2) ++ wsX40 ++ wsX20)
def wsX4_greaseIfItCan : List Cond := .code yX4_greaseIfItCan cX4_greaseIfItCan 3 (some .boolean) :: ([.methodLink RX4 97 yX4_canGrease, .instanceMethod yX4_canGrease, .selects RX4 yX4_canGrease yX4_canGrease, .initialized RX4, .code yX4_canGrease cX4_canGrease 2 (some .boolean), .fieldLink RX4 18 "PleatRoads$Standing" "road" "LPleatRoads$Road;", .fieldLink RX4 38 "PleatRoads$Standing" "greased" "I", .methodLink RX4 58 yX2_hasPleat, .instanceMethod yX2_hasPleat, .selects RX2 yX2_hasPleat yX2_hasPleat, .initialized RX2, .code yX2_hasPleat cX2_hasPleat 2 (some .boolean), .fieldLink RX2 27 "PleatRoads$Road" "pleats" "I", .methodLink RX4 100 yX4_doGrease, .instanceMethod yX4_doGrease, .selects RX4 yX4_doGrease yX4_doGrease, .code yX4_doGrease cX4_doGrease 2 none] ++ wsX40 ++ wsX20)
def wsX4_freezeIfItCan : List Cond := .code yX4_freezeIfItCan cX4_freezeIfItCan 2 (some .boolean) :: ([.fieldLink RX4 44 "PleatRoads$Standing" "frost" "I", .methodLink RX4 103 yX4_canFreeze, .instanceMethod yX4_canFreeze, .selects RX4 yX4_canFreeze yX4_canFreeze, .initialized RX4, .code yX4_canFreeze cX4_canFreeze 1 (some .boolean)] ++ wsX40)
def wsX4_doTold_r1 : List Cond := [Cond.fieldLink RX4 18 "PleatRoads$Standing" "road" "LPleatRoads$Road;", Cond.fieldLink RX4 9 "PleatRoads$Standing" "place" "[I", Cond.methodLink RX4 107 yX4_stepIfItCan, Cond.instanceMethod yX4_stepIfItCan, Cond.selects RX4 yX4_stepIfItCan yX4_stepIfItCan, Cond.initialized RX4, Cond.code yX4_stepIfItCan cX4_stepIfItCan 4 (some .boolean), Cond.methodLink RX4 85 yX4_canStep, Cond.instanceMethod yX4_canStep, Cond.selects RX4 yX4_canStep yX4_canStep, Cond.code yX4_canStep cX4_canStep 4 (some .boolean), Cond.fieldLink RX4 15 "PleatRoads$Standing" "wind" "[I", Cond.methodLink RX4 73 yX2_hasTraveller, Cond.instanceMethod yX2_hasTraveller, Cond.selects RX2 yX2_hasTraveller yX2_hasTraveller, Cond.initialized RX2, Cond.code yX2_hasTraveller cX2_hasTraveller 2 (some .boolean), Cond.fieldLink RX2 31 "PleatRoads$Road" "travellers" "I", Cond.methodLink RX4 76 yX4_tollBeside, Cond.instanceMethod yX4_tollBeside, Cond.selects RX4 yX4_tollBeside yX4_tollBeside, Cond.code yX4_tollBeside cX4_tollBeside 4 (some .int), Cond.fieldLink RX4 62 "PleatRoads$Road" "travellerKind" "[I", Cond.methodLink RX4 54 yX4_pleatBeside]
def wsX4_doTold_r2 : List Cond := [Cond.instanceMethod yX4_pleatBeside, Cond.selects RX4 yX4_pleatBeside yX4_pleatBeside, Cond.code yX4_pleatBeside cX4_pleatBeside 3 (some .int), Cond.methodLink RX4 58 yX2_hasPleat, Cond.instanceMethod yX2_hasPleat, Cond.selects RX2 yX2_hasPleat yX2_hasPleat, Cond.code yX2_hasPleat cX2_hasPleat 2 (some .boolean), Cond.fieldLink RX2 27 "PleatRoads$Road" "pleats" "I", Cond.methodLink RX4 65 yX4_costOf, Cond.instanceMethod yX4_costOf, Cond.selects RX4 yX4_costOf yX4_costOf, Cond.code yX4_costOf cX4_costOf 2 (some .int), Cond.fieldLink RX4 41 "PleatRoads$Standing" "open" "I", Cond.fieldLink RX4 44 "PleatRoads$Standing" "frost" "I", Cond.fieldLink RX4 38 "PleatRoads$Standing" "greased" "I", Cond.methodLink RX4 50 yX2_costShut, Cond.instanceMethod yX2_costShut, Cond.selects RX2 yX2_costShut yX2_costShut, Cond.code yX2_costShut cX2_costShut 6 (some .int), Cond.fieldLink RX2 15 "PleatRoads$Road" "pleatKind" "[I", Cond.fieldLink RX2 9 "PleatRoads$Road" "stiffness" "[I", Cond.methodLink RX4 69 yX2_tollFor, Cond.static yX2_tollFor, Cond.code yX2_tollFor cX2_tollFor 2 (some .int)]
def wsX4_doTold_r3 : List Cond := [Cond.methodLink RX4 89 yX4_doStep, Cond.instanceMethod yX4_doStep, Cond.selects RX4 yX4_doStep yX4_doStep, Cond.code yX4_doStep cX4_doStep 5 none, Cond.fieldLink RX4 79 "PleatRoads$Road" "pleatKind" "[I", Cond.fieldLink RX4 31 "PleatRoads$Road" "breath" "[I", Cond.fieldLink RX4 47 "PleatRoads$Standing" "steps" "I", Cond.methodLink RX4 110 yX4_restIfItCan, Cond.instanceMethod yX4_restIfItCan, Cond.selects RX4 yX4_restIfItCan yX4_restIfItCan, Cond.code yX4_restIfItCan cX4_restIfItCan 3 (some .boolean), Cond.methodLink RX4 93 yX4_doRest, Cond.instanceMethod yX4_doRest, Cond.selects RX4 yX4_doRest yX4_doRest, Cond.code yX4_doRest cX4_doRest 2 none, Cond.methodLink RX4 82 yX2_windRested, Cond.static yX2_windRested, Cond.code yX2_windRested cX2_windRested 2 (some .int), Cond.methodLink RX2 34 Lib.Math.max.name, Cond.static Lib.Math.max.name, Cond.initialized "java/lang/Math", Cond.code Lib.Math.max.name Lib.Math.max.code 2 (some .int), Cond.methodLink RX2 40 Lib.Math.min.name, Cond.static Lib.Math.min.name]
def wsX4_doTold_r4 : List Cond := [Cond.code Lib.Math.min.name Lib.Math.min.code 2 (some .int), Cond.methodLink RX4 113 yX4_greaseIfItCan, Cond.instanceMethod yX4_greaseIfItCan, Cond.selects RX4 yX4_greaseIfItCan yX4_greaseIfItCan, Cond.code yX4_greaseIfItCan cX4_greaseIfItCan 3 (some .boolean), Cond.methodLink RX4 97 yX4_canGrease, Cond.instanceMethod yX4_canGrease, Cond.selects RX4 yX4_canGrease yX4_canGrease, Cond.code yX4_canGrease cX4_canGrease 2 (some .boolean), Cond.methodLink RX4 100 yX4_doGrease, Cond.instanceMethod yX4_doGrease, Cond.selects RX4 yX4_doGrease yX4_doGrease, Cond.code yX4_doGrease cX4_doGrease 2 none, Cond.methodLink RX4 116 yX4_freezeIfItCan, Cond.instanceMethod yX4_freezeIfItCan, Cond.selects RX4 yX4_freezeIfItCan yX4_freezeIfItCan, Cond.code yX4_freezeIfItCan cX4_freezeIfItCan 2 (some .boolean), Cond.methodLink RX4 103 yX4_canFreeze, Cond.instanceMethod yX4_canFreeze, Cond.selects RX4 yX4_canFreeze yX4_canFreeze, Cond.code yX4_canFreeze cX4_canFreeze 1 (some .boolean)]
def wsX4_doTold : List Cond := .code yX4_doTold cX4_doTold 4 (some .boolean) :: ((wsX4_doTold_r1 ++ (wsX4_doTold_r2 ++ (wsX4_doTold_r3 ++ wsX4_doTold_r4))) ++ wsX40 ++ wsX20)
def wsX4_doDrawn_r1 : List Cond := [Cond.methodLink RX4 107 yX4_stepIfItCan, Cond.instanceMethod yX4_stepIfItCan, Cond.selects RX4 yX4_stepIfItCan yX4_stepIfItCan, Cond.initialized RX4, Cond.code yX4_stepIfItCan cX4_stepIfItCan 4 (some .boolean), Cond.methodLink RX4 85 yX4_canStep, Cond.instanceMethod yX4_canStep, Cond.selects RX4 yX4_canStep yX4_canStep, Cond.code yX4_canStep cX4_canStep 4 (some .boolean), Cond.fieldLink RX4 18 "PleatRoads$Standing" "road" "LPleatRoads$Road;", Cond.fieldLink RX4 15 "PleatRoads$Standing" "wind" "[I", Cond.methodLink RX4 73 yX2_hasTraveller, Cond.instanceMethod yX2_hasTraveller, Cond.selects RX2 yX2_hasTraveller yX2_hasTraveller, Cond.initialized RX2, Cond.code yX2_hasTraveller cX2_hasTraveller 2 (some .boolean), Cond.fieldLink RX2 31 "PleatRoads$Road" "travellers" "I", Cond.methodLink RX4 76 yX4_tollBeside, Cond.instanceMethod yX4_tollBeside, Cond.selects RX4 yX4_tollBeside yX4_tollBeside, Cond.code yX4_tollBeside cX4_tollBeside 4 (some .int), Cond.fieldLink RX4 62 "PleatRoads$Road" "travellerKind" "[I", Cond.methodLink RX4 54 yX4_pleatBeside, Cond.instanceMethod yX4_pleatBeside]
def wsX4_doDrawn_r2 : List Cond := [Cond.selects RX4 yX4_pleatBeside yX4_pleatBeside, Cond.code yX4_pleatBeside cX4_pleatBeside 3 (some .int), Cond.fieldLink RX4 9 "PleatRoads$Standing" "place" "[I", Cond.methodLink RX4 58 yX2_hasPleat, Cond.instanceMethod yX2_hasPleat, Cond.selects RX2 yX2_hasPleat yX2_hasPleat, Cond.code yX2_hasPleat cX2_hasPleat 2 (some .boolean), Cond.fieldLink RX2 27 "PleatRoads$Road" "pleats" "I", Cond.methodLink RX4 65 yX4_costOf, Cond.instanceMethod yX4_costOf, Cond.selects RX4 yX4_costOf yX4_costOf, Cond.code yX4_costOf cX4_costOf 2 (some .int), Cond.fieldLink RX4 41 "PleatRoads$Standing" "open" "I", Cond.fieldLink RX4 44 "PleatRoads$Standing" "frost" "I", Cond.fieldLink RX4 38 "PleatRoads$Standing" "greased" "I", Cond.methodLink RX4 50 yX2_costShut, Cond.instanceMethod yX2_costShut, Cond.selects RX2 yX2_costShut yX2_costShut, Cond.code yX2_costShut cX2_costShut 6 (some .int), Cond.fieldLink RX2 15 "PleatRoads$Road" "pleatKind" "[I", Cond.fieldLink RX2 9 "PleatRoads$Road" "stiffness" "[I", Cond.methodLink RX4 69 yX2_tollFor, Cond.static yX2_tollFor, Cond.code yX2_tollFor cX2_tollFor 2 (some .int)]
def wsX4_doDrawn_r3 : List Cond := [Cond.methodLink RX4 89 yX4_doStep, Cond.instanceMethod yX4_doStep, Cond.selects RX4 yX4_doStep yX4_doStep, Cond.code yX4_doStep cX4_doStep 5 none, Cond.fieldLink RX4 79 "PleatRoads$Road" "pleatKind" "[I", Cond.fieldLink RX4 31 "PleatRoads$Road" "breath" "[I", Cond.fieldLink RX4 47 "PleatRoads$Standing" "steps" "I", Cond.methodLink RX4 110 yX4_restIfItCan, Cond.instanceMethod yX4_restIfItCan, Cond.selects RX4 yX4_restIfItCan yX4_restIfItCan, Cond.code yX4_restIfItCan cX4_restIfItCan 3 (some .boolean), Cond.methodLink RX4 93 yX4_doRest, Cond.instanceMethod yX4_doRest, Cond.selects RX4 yX4_doRest yX4_doRest, Cond.code yX4_doRest cX4_doRest 2 none, Cond.methodLink RX4 82 yX2_windRested, Cond.static yX2_windRested, Cond.code yX2_windRested cX2_windRested 2 (some .int), Cond.methodLink RX2 34 Lib.Math.max.name, Cond.static Lib.Math.max.name, Cond.initialized "java/lang/Math", Cond.code Lib.Math.max.name Lib.Math.max.code 2 (some .int), Cond.methodLink RX2 40 Lib.Math.min.name, Cond.static Lib.Math.min.name]
def wsX4_doDrawn_r4 : List Cond := [Cond.code Lib.Math.min.name Lib.Math.min.code 2 (some .int), Cond.methodLink RX4 113 yX4_greaseIfItCan, Cond.instanceMethod yX4_greaseIfItCan, Cond.selects RX4 yX4_greaseIfItCan yX4_greaseIfItCan, Cond.code yX4_greaseIfItCan cX4_greaseIfItCan 3 (some .boolean), Cond.methodLink RX4 97 yX4_canGrease, Cond.instanceMethod yX4_canGrease, Cond.selects RX4 yX4_canGrease yX4_canGrease, Cond.code yX4_canGrease cX4_canGrease 2 (some .boolean), Cond.methodLink RX4 100 yX4_doGrease, Cond.instanceMethod yX4_doGrease, Cond.selects RX4 yX4_doGrease yX4_doGrease, Cond.code yX4_doGrease cX4_doGrease 2 none, Cond.methodLink RX4 116 yX4_freezeIfItCan, Cond.instanceMethod yX4_freezeIfItCan, Cond.selects RX4 yX4_freezeIfItCan yX4_freezeIfItCan, Cond.code yX4_freezeIfItCan cX4_freezeIfItCan 2 (some .boolean), Cond.methodLink RX4 103 yX4_canFreeze, Cond.instanceMethod yX4_canFreeze, Cond.selects RX4 yX4_canFreeze yX4_canFreeze, Cond.code yX4_canFreeze cX4_canFreeze 1 (some .boolean)]
def wsX4_doDrawn : List Cond := .code yX4_doDrawn cX4_doDrawn 2 none :: ((wsX4_doDrawn_r1 ++ (wsX4_doDrawn_r2 ++ (wsX4_doDrawn_r3 ++ wsX4_doDrawn_r4))) ++ wsX40 ++ wsX20)
def wsX4_placesTogether : List Cond := .code yX4_placesTogether cX4_placesTogether 3 (some .int) :: ([.fieldLink RX4 18 "PleatRoads$Standing" "road" "LPleatRoads$Road;", .fieldLink RX4 22 "PleatRoads$Road" "travellers" "I", .fieldLink RX4 9 "PleatRoads$Standing" "place" "[I"] ++ wsX40 ++ wsX20)
def wsX4_placesTaken : List Cond := .code yX4_placesTaken cX4_placesTaken 3 (some .int) :: ([.fieldLink RX4 18 "PleatRoads$Standing" "road" "LPleatRoads$Road;", .fieldLink RX4 22 "PleatRoads$Road" "travellers" "I", .fieldLink RX4 9 "PleatRoads$Standing" "place" "[I"] ++ wsX40 ++ wsX20)
def wsX4_windTogether : List Cond := .code yX4_windTogether cX4_windTogether 3 (some .int) :: ([.fieldLink RX4 18 "PleatRoads$Standing" "road" "LPleatRoads$Road;", .fieldLink RX4 22 "PleatRoads$Road" "travellers" "I", .fieldLink RX4 15 "PleatRoads$Standing" "wind" "[I"] ++ wsX40 ++ wsX20)
def wsX5_init : List Cond := .code yX5_init cX5_init 2 none :: ([.methodLink RX5 5 objectInit, .instanceMethod objectInit, .code objectInit ⟨#[0xb1]⟩ 1 none, .arrayClass .int, .fieldLink RX5 11 "PleatRoads$Walk" "most" "[I", .fieldLink RX5 15 "PleatRoads$Walk" "mostNext" "[I", .fieldLink RX5 18 "PleatRoads$Walk" "queue" "[I", .fieldLink RX5 21 "PleatRoads$Walk" "tollShut" "[I", .fieldLink RX5 24 "PleatRoads$Walk" "tollOpen" "[I", .fieldLink RX5 27 "PleatRoads$Walk" "road" "LPleatRoads$Road;"] ++ wsX50)
def wsX5_modeAt : List Cond := .code yX5_modeAt cX5_modeAt 2 (some .int) :: ([])
def wsX5_prepare_r1 : List Cond := [Cond.fieldLink RX5 27 "PleatRoads$Walk" "road" "LPleatRoads$Road;", Cond.fieldLink RX5 31 "PleatRoads$Road" "travellerKind" "[I", Cond.fieldLink RX5 36 "PleatRoads$Road" "pleats" "I", Cond.fieldLink RX5 21 "PleatRoads$Walk" "tollShut" "[I", Cond.fieldLink RX5 40 "PleatRoads$Standing" "frost" "I", Cond.fieldLink RX5 24 "PleatRoads$Walk" "tollOpen" "[I", Cond.fieldLink RX5 53 "PleatRoads$Road" "breath" "[I", Cond.fieldLink RX5 56 "PleatRoads$Walk" "breath" "I", Cond.fieldLink RX5 58 "PleatRoads$Walk" "isLungs" "Z", Cond.fieldLink RX5 62 "PleatRoads$Standing" "wind" "[I", Cond.fieldLink RX5 65 "PleatRoads$Walk" "startWind" "I", Cond.fieldLink RX5 68 "PleatRoads$Standing" "place" "[I", Cond.fieldLink RX5 71 "PleatRoads$Standing" "open" "I", Cond.fieldLink RX5 77 "PleatRoads$Walk" "startNode" "I", Cond.methodLink RX5 45 yX2_costShut, Cond.instanceMethod yX2_costShut, Cond.selects RX2 yX2_costShut yX2_costShut, Cond.initialized RX2, Cond.code yX2_costShut cX2_costShut 6 (some .int), Cond.fieldLink RX2 15 "PleatRoads$Road" "pleatKind" "[I", Cond.fieldLink RX2 9 "PleatRoads$Road" "stiffness" "[I", Cond.methodLink RX5 49 yX2_tollFor, Cond.static yX2_tollFor, Cond.code yX2_tollFor cX2_tollFor 2 (some .int)]
def wsX5_prepare_r2 : List Cond := [Cond.methodLink RX5 74 yX5_modeAt, Cond.static yX5_modeAt, Cond.initialized RX5, Cond.code yX5_modeAt cX5_modeAt 2 (some .int)]
def wsX5_prepare : List Cond := .code yX5_prepare cX5_prepare 8 none :: ((wsX5_prepare_r1 ++ wsX5_prepare_r2) ++ wsX50 ++ wsX20 ++ wsX40)
def wsJ7_fill_53178 : List Cond := .code yJ7_fill_53178 cJ7_fill_53178 4 none :: ([])
def wsX5_beginAt : List Cond := .code yX5_beginAt cX5_beginAt 1 none :: ([.fieldLink RX5 11 "PleatRoads$Walk" "most" "[I", .fieldLink RX5 77 "PleatRoads$Walk" "startNode" "I", .fieldLink RX5 65 "PleatRoads$Walk" "startWind" "I", .methodLink RX5 80 yJ7_fill_53178, .static yJ7_fill_53178, .initialized RJ7, .code yJ7_fill_53178 cJ7_fill_53178 4 none] ++ wsX50)
def wsX5_windBeyond : List Cond := .code yX5_windBeyond cX5_windBeyond 7 (some .int) :: ([.fieldLink RX5 27 "PleatRoads$Walk" "road" "LPleatRoads$Road;", .fieldLink RX5 36 "PleatRoads$Road" "pleats" "I", .fieldLink RX5 11 "PleatRoads$Walk" "most" "[I", .fieldLink RX5 24 "PleatRoads$Walk" "tollOpen" "[I", .fieldLink RX5 21 "PleatRoads$Walk" "tollShut" "[I", .fieldLink RX5 86 "PleatRoads$Road" "pleatKind" "[I", .fieldLink RX5 56 "PleatRoads$Walk" "breath" "I"] ++ wsX50 ++ wsX20)
def wsX5_nodeBeyond : List Cond := .code yX5_nodeBeyond cX5_nodeBeyond 5 (some .int) :: ([.fieldLink RX5 58 "PleatRoads$Walk" "isLungs" "Z"] ++ wsX50)
def wsX5_enqueueBeyond : List Cond := .code yX5_enqueueBeyond cX5_enqueueBeyond 6 (some .int) :: ([.fieldLink RX5 18 "PleatRoads$Walk" "queue" "[I", .fieldLink RX5 11 "PleatRoads$Walk" "most" "[I", .methodLink RX5 96 yX5_windBeyond, .instanceMethod yX5_windBeyond, .selects RX5 yX5_windBeyond yX5_windBeyond, .initialized RX5, .code yX5_windBeyond cX5_windBeyond 7 (some .int), .fieldLink RX5 27 "PleatRoads$Walk" "road" "LPleatRoads$Road;", .fieldLink RX5 36 "PleatRoads$Road" "pleats" "I", .fieldLink RX5 24 "PleatRoads$Walk" "tollOpen" "[I", .fieldLink RX5 21 "PleatRoads$Walk" "tollShut" "[I", .fieldLink RX5 86 "PleatRoads$Road" "pleatKind" "[I", .fieldLink RX5 56 "PleatRoads$Walk" "breath" "I", .methodLink RX5 100 yX5_nodeBeyond, .instanceMethod yX5_nodeBeyond, .selects RX5 yX5_nodeBeyond yX5_nodeBeyond, .code yX5_nodeBeyond cX5_nodeBeyond 5 (some .int), .fieldLink RX5 58 "PleatRoads$Walk" "isLungs" "Z"] ++ wsX50 ++ wsX20)
def wsX5_places_r1 : List Cond := [Cond.fieldLink RX5 18 "PleatRoads$Walk" "queue" "[I", Cond.fieldLink RX5 77 "PleatRoads$Walk" "startNode" "I", Cond.methodLink RX5 89 yX5_beginAt, Cond.instanceMethod yX5_beginAt, Cond.selects RX5 yX5_beginAt yX5_beginAt, Cond.initialized RX5, Cond.code yX5_beginAt cX5_beginAt 1 none, Cond.fieldLink RX5 11 "PleatRoads$Walk" "most" "[I", Cond.fieldLink RX5 65 "PleatRoads$Walk" "startWind" "I", Cond.methodLink RX5 80 yJ7_fill_53178, Cond.static yJ7_fill_53178, Cond.initialized RJ7, Cond.code yJ7_fill_53178 cJ7_fill_53178 4 none, Cond.methodLink RX5 92 yX5_enqueueBeyond, Cond.instanceMethod yX5_enqueueBeyond, Cond.selects RX5 yX5_enqueueBeyond yX5_enqueueBeyond, Cond.code yX5_enqueueBeyond cX5_enqueueBeyond 6 (some .int), Cond.methodLink RX5 96 yX5_windBeyond, Cond.instanceMethod yX5_windBeyond, Cond.selects RX5 yX5_windBeyond yX5_windBeyond, Cond.code yX5_windBeyond cX5_windBeyond 7 (some .int), Cond.fieldLink RX5 27 "PleatRoads$Walk" "road" "LPleatRoads$Road;", Cond.fieldLink RX5 36 "PleatRoads$Road" "pleats" "I", Cond.fieldLink RX5 24 "PleatRoads$Walk" "tollOpen" "[I"]
def wsX5_places_r2 : List Cond := [Cond.fieldLink RX5 21 "PleatRoads$Walk" "tollShut" "[I", Cond.fieldLink RX5 86 "PleatRoads$Road" "pleatKind" "[I", Cond.fieldLink RX5 56 "PleatRoads$Walk" "breath" "I", Cond.methodLink RX5 100 yX5_nodeBeyond, Cond.instanceMethod yX5_nodeBeyond, Cond.selects RX5 yX5_nodeBeyond yX5_nodeBeyond, Cond.code yX5_nodeBeyond cX5_nodeBeyond 5 (some .int), Cond.fieldLink RX5 58 "PleatRoads$Walk" "isLungs" "Z"]
def wsX5_places : List Cond := .code yX5_places cX5_places 4 (some .int) :: ((wsX5_places_r1 ++ wsX5_places_r2) ++ wsX50 ++ wsX20)
def wsX5_raise : List Cond := .code yX5_raise cX5_raise 3 none :: ([.fieldLink RX5 15 "PleatRoads$Walk" "mostNext" "[I", .methodLink RX5 123 Lib.Math.max.name, .static Lib.Math.max.name, .initialized "java/lang/Math", .code Lib.Math.max.name Lib.Math.max.code 2 (some .int)] ++ wsX50)
def wsX5_stepOnce_r1 : List Cond := [Cond.methodLink RX5 96 yX5_windBeyond, Cond.instanceMethod yX5_windBeyond, Cond.selects RX5 yX5_windBeyond yX5_windBeyond, Cond.initialized RX5, Cond.code yX5_windBeyond cX5_windBeyond 7 (some .int), Cond.fieldLink RX5 27 "PleatRoads$Walk" "road" "LPleatRoads$Road;", Cond.fieldLink RX5 36 "PleatRoads$Road" "pleats" "I", Cond.fieldLink RX5 11 "PleatRoads$Walk" "most" "[I", Cond.fieldLink RX5 24 "PleatRoads$Walk" "tollOpen" "[I", Cond.fieldLink RX5 21 "PleatRoads$Walk" "tollShut" "[I", Cond.fieldLink RX5 86 "PleatRoads$Road" "pleatKind" "[I", Cond.fieldLink RX5 56 "PleatRoads$Walk" "breath" "I", Cond.methodLink RX5 100 yX5_nodeBeyond, Cond.instanceMethod yX5_nodeBeyond, Cond.selects RX5 yX5_nodeBeyond yX5_nodeBeyond, Cond.code yX5_nodeBeyond cX5_nodeBeyond 5 (some .int), Cond.fieldLink RX5 58 "PleatRoads$Walk" "isLungs" "Z", Cond.methodLink RX5 113 yX5_raise, Cond.instanceMethod yX5_raise, Cond.selects RX5 yX5_raise yX5_raise, Cond.code yX5_raise cX5_raise 3 none, Cond.fieldLink RX5 15 "PleatRoads$Walk" "mostNext" "[I", Cond.methodLink RX5 123 Lib.Math.max.name, Cond.static Lib.Math.max.name]
def wsX5_stepOnce_r2 : List Cond := [Cond.initialized "java/lang/Math", Cond.code Lib.Math.max.name Lib.Math.max.code 2 (some .int)]
def wsX5_stepOnce : List Cond := .code yX5_stepOnce cX5_stepOnce 4 none :: ((wsX5_stepOnce_r1 ++ wsX5_stepOnce_r2) ++ wsX50 ++ wsX20)
def wsX5_moveOnce_r1 : List Cond := [Cond.fieldLink RX5 15 "PleatRoads$Walk" "mostNext" "[I", Cond.fieldLink RX5 11 "PleatRoads$Walk" "most" "[I", Cond.fieldLink RX5 56 "PleatRoads$Walk" "breath" "I", Cond.methodLink RX5 117 arraycopyName, Cond.native arraycopyName, Cond.static arraycopyName, Cond.initialized "java/lang/System", Cond.methodLink RX5 80 yJ7_fill_53178, Cond.static yJ7_fill_53178, Cond.initialized RJ7, Cond.code yJ7_fill_53178 cJ7_fill_53178 4 none, Cond.methodLink RX5 106 yX5_stepOnce, Cond.instanceMethod yX5_stepOnce, Cond.selects RX5 yX5_stepOnce yX5_stepOnce, Cond.initialized RX5, Cond.code yX5_stepOnce cX5_stepOnce 4 none, Cond.methodLink RX5 96 yX5_windBeyond, Cond.instanceMethod yX5_windBeyond, Cond.selects RX5 yX5_windBeyond yX5_windBeyond, Cond.code yX5_windBeyond cX5_windBeyond 7 (some .int), Cond.fieldLink RX5 27 "PleatRoads$Walk" "road" "LPleatRoads$Road;", Cond.fieldLink RX5 36 "PleatRoads$Road" "pleats" "I", Cond.fieldLink RX5 24 "PleatRoads$Walk" "tollOpen" "[I", Cond.fieldLink RX5 21 "PleatRoads$Walk" "tollShut" "[I"]
def wsX5_moveOnce_r2 : List Cond := [Cond.fieldLink RX5 86 "PleatRoads$Road" "pleatKind" "[I", Cond.methodLink RX5 100 yX5_nodeBeyond, Cond.instanceMethod yX5_nodeBeyond, Cond.selects RX5 yX5_nodeBeyond yX5_nodeBeyond, Cond.code yX5_nodeBeyond cX5_nodeBeyond 5 (some .int), Cond.fieldLink RX5 58 "PleatRoads$Walk" "isLungs" "Z", Cond.methodLink RX5 113 yX5_raise, Cond.instanceMethod yX5_raise, Cond.selects RX5 yX5_raise yX5_raise, Cond.code yX5_raise cX5_raise 3 none, Cond.methodLink RX5 123 Lib.Math.max.name, Cond.static Lib.Math.max.name, Cond.initialized "java/lang/Math", Cond.code Lib.Math.max.name Lib.Math.max.code 2 (some .int), Cond.methodLink RX5 110 yX2_windRested, Cond.static yX2_windRested, Cond.initialized RX2, Cond.code yX2_windRested cX2_windRested 2 (some .int), Cond.methodLink RX2 34 Lib.Math.max.name, Cond.methodLink RX2 40 Lib.Math.min.name, Cond.static Lib.Math.min.name, Cond.code Lib.Math.min.name Lib.Math.min.code 2 (some .int)]
def wsX5_moveOnce : List Cond := .code yX5_moveOnce cX5_moveOnce 2 none :: ((wsX5_moveOnce_r1 ++ wsX5_moveOnce_r2) ++ wsX50 ++ wsX20)
def wsX5_movesTo_r1 : List Cond := [Cond.fieldLink RX5 11 "PleatRoads$Walk" "most" "[I", Cond.methodLink RX5 89 yX5_beginAt, Cond.instanceMethod yX5_beginAt, Cond.selects RX5 yX5_beginAt yX5_beginAt, Cond.initialized RX5, Cond.code yX5_beginAt cX5_beginAt 1 none, Cond.fieldLink RX5 77 "PleatRoads$Walk" "startNode" "I", Cond.fieldLink RX5 65 "PleatRoads$Walk" "startWind" "I", Cond.methodLink RX5 80 yJ7_fill_53178, Cond.static yJ7_fill_53178, Cond.initialized RJ7, Cond.code yJ7_fill_53178 cJ7_fill_53178 4 none, Cond.methodLink RX5 103 yX5_moveOnce, Cond.instanceMethod yX5_moveOnce, Cond.selects RX5 yX5_moveOnce yX5_moveOnce, Cond.code yX5_moveOnce cX5_moveOnce 2 none, Cond.fieldLink RX5 15 "PleatRoads$Walk" "mostNext" "[I", Cond.fieldLink RX5 56 "PleatRoads$Walk" "breath" "I", Cond.methodLink RX5 117 arraycopyName, Cond.native arraycopyName, Cond.static arraycopyName, Cond.initialized "java/lang/System", Cond.methodLink RX5 106 yX5_stepOnce, Cond.instanceMethod yX5_stepOnce]
def wsX5_movesTo_r2 : List Cond := [Cond.selects RX5 yX5_stepOnce yX5_stepOnce, Cond.code yX5_stepOnce cX5_stepOnce 4 none, Cond.methodLink RX5 96 yX5_windBeyond, Cond.instanceMethod yX5_windBeyond, Cond.selects RX5 yX5_windBeyond yX5_windBeyond, Cond.code yX5_windBeyond cX5_windBeyond 7 (some .int), Cond.fieldLink RX5 27 "PleatRoads$Walk" "road" "LPleatRoads$Road;", Cond.fieldLink RX5 36 "PleatRoads$Road" "pleats" "I", Cond.fieldLink RX5 24 "PleatRoads$Walk" "tollOpen" "[I", Cond.fieldLink RX5 21 "PleatRoads$Walk" "tollShut" "[I", Cond.fieldLink RX5 86 "PleatRoads$Road" "pleatKind" "[I", Cond.methodLink RX5 100 yX5_nodeBeyond, Cond.instanceMethod yX5_nodeBeyond, Cond.selects RX5 yX5_nodeBeyond yX5_nodeBeyond, Cond.code yX5_nodeBeyond cX5_nodeBeyond 5 (some .int), Cond.fieldLink RX5 58 "PleatRoads$Walk" "isLungs" "Z", Cond.methodLink RX5 113 yX5_raise, Cond.instanceMethod yX5_raise, Cond.selects RX5 yX5_raise yX5_raise, Cond.code yX5_raise cX5_raise 3 none, Cond.methodLink RX5 123 Lib.Math.max.name, Cond.static Lib.Math.max.name, Cond.initialized "java/lang/Math", Cond.code Lib.Math.max.name Lib.Math.max.code 2 (some .int)]
def wsX5_movesTo_r3 : List Cond := [Cond.methodLink RX5 110 yX2_windRested, Cond.static yX2_windRested, Cond.initialized RX2, Cond.code yX2_windRested cX2_windRested 2 (some .int), Cond.methodLink RX2 34 Lib.Math.max.name, Cond.methodLink RX2 40 Lib.Math.min.name, Cond.static Lib.Math.min.name, Cond.code Lib.Math.min.name Lib.Math.min.code 2 (some .int)]
def wsX5_movesTo : List Cond := .code yX5_movesTo cX5_movesTo 4 (some .int) :: ((wsX5_movesTo_r1 ++ (wsX5_movesTo_r2 ++ wsX5_movesTo_r3)) ++ wsX50 ++ wsX20)
def wsX6_init_r1 : List Cond := [Cond.methodLink RX6 3 objectInit, Cond.instanceMethod objectInit, Cond.code objectInit ⟨#[0xb1]⟩ 1 none, Cond.classLink RX6 9 RX3, Cond.instantiable RX3 2, Cond.initialized RX3, Cond.fieldLink RX6 12 "PleatRoads" "script" "LPleatRoads$Script;", Cond.classLink RX6 16 RX2, Cond.instantiable RX2 7, Cond.initialized RX2, Cond.fieldLink RX6 19 "PleatRoads" "draft" "LPleatRoads$Road;", Cond.fieldLink RX6 23 "PleatRoads" "road" "LPleatRoads$Road;", Cond.classLink RX6 26 RX4, Cond.instantiable RX4 7, Cond.initialized RX4, Cond.fieldLink RX6 31 "PleatRoads" "now" "LPleatRoads$Standing;", Cond.fieldLink RX6 35 "PleatRoads" "supposed" "LPleatRoads$Standing;", Cond.classLink RX6 38 RX0, Cond.instantiable RX0 3, Cond.initialized RX0, Cond.fieldLink RX6 41 "PleatRoads" "acts" "LPleatRoads$ActRow;", Cond.fieldLink RX6 45 "PleatRoads" "slots" "[LPleatRoads$Standing;", Cond.arrayClass .boolean, Cond.fieldLink RX6 49 "PleatRoads" "kept" "[Z"]
def wsX6_init_r2 : List Cond := [Cond.classLink RX6 53 RX5, Cond.instantiable RX5 10, Cond.initialized RX5, Cond.fieldLink RX6 56 "PleatRoads" "walk" "LPleatRoads$Walk;", Cond.classLink RX6 60 RX1, Cond.instantiable RX1 4, Cond.initialized RX1, Cond.fieldLink RX6 63 "PleatRoads" "hearsay" "LPleatRoads$Hearsay;", Cond.arrayClass .int, Cond.fieldLink RX6 67 "PleatRoads" "gainsOfOne" "[I", Cond.fieldLink RX6 71 "PleatRoads" "gainsOfOther" "[I", Cond.instanceMethod yX3_init, Cond.code yX3_init cX3_init 1 none, Cond.methodLink RX3 3 objectInit, Cond.fieldLink RX3 9 "PleatRoads$Script" "letters" "[I", Cond.instanceMethod yX2_init, Cond.code yX2_init cX2_init 1 none, Cond.methodLink RX2 3 objectInit, Cond.fieldLink RX2 9 "PleatRoads$Road" "stiffness" "[I", Cond.fieldLink RX2 15 "PleatRoads$Road" "pleatKind" "[I", Cond.fieldLink RX2 18 "PleatRoads$Road" "firstPlace" "[I", Cond.fieldLink RX2 21 "PleatRoads$Road" "breath" "[I", Cond.fieldLink RX2 24 "PleatRoads$Road" "travellerKind" "[I", Cond.methodLink RX6 28 yX4_init]
def wsX6_init_r3 : List Cond := [Cond.instanceMethod yX4_init, Cond.code yX4_init cX4_init 2 none, Cond.methodLink RX4 3 objectInit, Cond.fieldLink RX4 9 "PleatRoads$Standing" "place" "[I", Cond.fieldLink RX4 15 "PleatRoads$Standing" "wind" "[I", Cond.fieldLink RX4 18 "PleatRoads$Standing" "road" "LPleatRoads$Road;", Cond.methodLink RX6 40 yX0_init, Cond.instanceMethod yX0_init, Cond.code yX0_init cX0_init 3 none, Cond.methodLink RX0 3 objectInit, Cond.classLink RX0 9 RX4, Cond.fieldLink RX0 11 "PleatRoads$ActRow" "ahead" "[LPleatRoads$Standing;", Cond.methodLink RX0 17 yX4_init, Cond.methodLink RX6 55 yX5_init, Cond.instanceMethod yX5_init, Cond.code yX5_init cX5_init 2 none, Cond.methodLink RX5 5 objectInit, Cond.fieldLink RX5 11 "PleatRoads$Walk" "most" "[I", Cond.fieldLink RX5 15 "PleatRoads$Walk" "mostNext" "[I", Cond.fieldLink RX5 18 "PleatRoads$Walk" "queue" "[I", Cond.fieldLink RX5 21 "PleatRoads$Walk" "tollShut" "[I", Cond.fieldLink RX5 24 "PleatRoads$Walk" "tollOpen" "[I", Cond.fieldLink RX5 27 "PleatRoads$Walk" "road" "LPleatRoads$Road;", Cond.methodLink RX6 62 yX1_init]
def wsX6_init_r4 : List Cond := [Cond.instanceMethod yX1_init, Cond.code yX1_init cX1_init 2 none, Cond.methodLink RX1 3 objectInit, Cond.fieldLink RX1 9 "PleatRoads$Hearsay" "place" "[I", Cond.fieldLink RX1 15 "PleatRoads$Hearsay" "came" "[Z", Cond.fieldLink RX1 19 "PleatRoads$Hearsay" "road" "LPleatRoads$Road;"]
def wsX6_init : List Cond := .code yX6_init cX6_init 2 none :: ((wsX6_init_r1 ++ (wsX6_init_r2 ++ (wsX6_init_r3 ++ wsX6_init_r4))) ++ wsX30 ++ wsX60 ++ wsX20 ++ wsX40 ++ wsX00 ++ wsX50 ++ wsX10)
def wsX6_write : List Cond := .code yX6_write cX6_write 2 (some .int) :: ([.fieldLink RX6 12 "PleatRoads" "script" "LPleatRoads$Script;", .methodLink RX6 74 yX3_append, .instanceMethod yX3_append, .selects RX3 yX3_append yX3_append, .initialized RX3, .code yX3_append cX3_append 2 (some .int), .fieldLink RX3 15 "PleatRoads$Script" "length" "I", .fieldLink RX3 9 "PleatRoads$Script" "letters" "[I"] ++ wsX60 ++ wsX30)
def wsX6_wipe : List Cond := .code yX6_wipe cX6_wipe 2 (some .int) :: ([.fieldLink RX6 12 "PleatRoads" "script" "LPleatRoads$Script;", .fieldLink RX6 78 "PleatRoads$Script" "length" "I"] ++ wsX60 ++ wsX30)
def wsX6_fault_r1 : List Cond := [Cond.fieldLink RX6 12 "PleatRoads" "script" "LPleatRoads$Script;", Cond.fieldLink RX6 19 "PleatRoads" "draft" "LPleatRoads$Road;", Cond.methodLink RX6 82 yX3_readInto, Cond.instanceMethod yX3_readInto, Cond.selects RX3 yX3_readInto yX3_readInto, Cond.initialized RX3, Cond.code yX3_readInto cX3_readInto 5 (some .int), Cond.fieldLink RX3 15 "PleatRoads$Script" "length" "I", Cond.fieldLink RX3 9 "PleatRoads$Script" "letters" "[I", Cond.methodLink RX3 19 yX2_clear, Cond.instanceMethod yX2_clear, Cond.selects RX2 yX2_clear yX2_clear, Cond.initialized RX2, Cond.code yX2_clear cX2_clear 1 none, Cond.fieldLink RX2 27 "PleatRoads$Road" "pleats" "I", Cond.fieldLink RX2 31 "PleatRoads$Road" "travellers" "I", Cond.methodLink RX3 24 yX3_readPart, Cond.instanceMethod yX3_readPart, Cond.selects RX3 yX3_readPart yX3_readPart, Cond.code yX3_readPart cX3_readPart 3 (some .int), Cond.fieldLink RX3 28 "PleatRoads$Road" "pleats" "I", Cond.fieldLink RX3 34 "PleatRoads$Road" "travellers" "I", Cond.methodLink RX3 31 yX3_readPleat, Cond.instanceMethod yX3_readPleat]
def wsX6_fault_r2 : List Cond := [Cond.selects RX3 yX3_readPleat yX3_readPleat, Cond.code yX3_readPleat cX3_readPleat 4 (some .int), Cond.methodLink RX3 40 yX3_figureFault, Cond.instanceMethod yX3_figureFault, Cond.selects RX3 yX3_figureFault yX3_figureFault, Cond.code yX3_figureFault cX3_figureFault 4 (some .int), Cond.methodLink RX3 44 yX3_figure, Cond.instanceMethod yX3_figure, Cond.selects RX3 yX3_figure yX3_figure, Cond.code yX3_figure cX3_figure 2 (some .int), Cond.methodLink RX3 48 yX2_addPleat, Cond.instanceMethod yX2_addPleat, Cond.selects RX2 yX2_addPleat yX2_addPleat, Cond.code yX2_addPleat cX2_addPleat 3 none, Cond.fieldLink RX2 9 "PleatRoads$Road" "stiffness" "[I", Cond.fieldLink RX2 15 "PleatRoads$Road" "pleatKind" "[I", Cond.methodLink RX3 37 yX3_readTraveller, Cond.instanceMethod yX3_readTraveller, Cond.selects RX3 yX3_readTraveller yX3_readTraveller, Cond.code yX3_readTraveller cX3_readTraveller 4 (some .int), Cond.methodLink RX3 52 Lib.Math.min.name, Cond.static Lib.Math.min.name, Cond.initialized "java/lang/Math", Cond.code Lib.Math.min.name Lib.Math.min.code 2 (some .int)]
def wsX6_fault_r3 : List Cond := [Cond.methodLink RX3 58 yX2_addTraveller, Cond.instanceMethod yX2_addTraveller, Cond.selects RX2 yX2_addTraveller yX2_addTraveller, Cond.code yX2_addTraveller cX2_addTraveller 4 none, Cond.fieldLink RX2 18 "PleatRoads$Road" "firstPlace" "[I", Cond.fieldLink RX2 21 "PleatRoads$Road" "breath" "[I", Cond.fieldLink RX2 24 "PleatRoads$Road" "travellerKind" "[I"]
def wsX6_fault : List Cond := .code yX6_fault cX6_fault 1 (some .int) :: ((wsX6_fault_r1 ++ (wsX6_fault_r2 ++ wsX6_fault_r3)) ++ wsX60 ++ wsX30 ++ wsX20)
def wsX6_road_r1 : List Cond := [Cond.fieldLink RX6 12 "PleatRoads" "script" "LPleatRoads$Script;", Cond.fieldLink RX6 19 "PleatRoads" "draft" "LPleatRoads$Road;", Cond.fieldLink RX6 23 "PleatRoads" "road" "LPleatRoads$Road;", Cond.fieldLink RX6 31 "PleatRoads" "now" "LPleatRoads$Standing;", Cond.fieldLink RX6 41 "PleatRoads" "acts" "LPleatRoads$ActRow;", Cond.fieldLink RX6 89 "PleatRoads$ActRow" "length" "I", Cond.fieldLink RX6 49 "PleatRoads" "kept" "[Z", Cond.fieldLink RX6 90 "PleatRoads$Road" "pleats" "I", Cond.fieldLink RX6 93 "PleatRoads$Road" "travellers" "I", Cond.methodLink RX6 82 yX3_readInto, Cond.instanceMethod yX3_readInto, Cond.selects RX3 yX3_readInto yX3_readInto, Cond.initialized RX3, Cond.code yX3_readInto cX3_readInto 5 (some .int), Cond.fieldLink RX3 15 "PleatRoads$Script" "length" "I", Cond.fieldLink RX3 9 "PleatRoads$Script" "letters" "[I", Cond.methodLink RX3 19 yX2_clear, Cond.instanceMethod yX2_clear, Cond.selects RX2 yX2_clear yX2_clear, Cond.initialized RX2, Cond.code yX2_clear cX2_clear 1 none, Cond.fieldLink RX2 27 "PleatRoads$Road" "pleats" "I", Cond.fieldLink RX2 31 "PleatRoads$Road" "travellers" "I", Cond.methodLink RX3 24 yX3_readPart]
def wsX6_road_r2 : List Cond := [Cond.instanceMethod yX3_readPart, Cond.selects RX3 yX3_readPart yX3_readPart, Cond.code yX3_readPart cX3_readPart 3 (some .int), Cond.fieldLink RX3 28 "PleatRoads$Road" "pleats" "I", Cond.fieldLink RX3 34 "PleatRoads$Road" "travellers" "I", Cond.methodLink RX3 31 yX3_readPleat, Cond.instanceMethod yX3_readPleat, Cond.selects RX3 yX3_readPleat yX3_readPleat, Cond.code yX3_readPleat cX3_readPleat 4 (some .int), Cond.methodLink RX3 40 yX3_figureFault, Cond.instanceMethod yX3_figureFault, Cond.selects RX3 yX3_figureFault yX3_figureFault, Cond.code yX3_figureFault cX3_figureFault 4 (some .int), Cond.methodLink RX3 44 yX3_figure, Cond.instanceMethod yX3_figure, Cond.selects RX3 yX3_figure yX3_figure, Cond.code yX3_figure cX3_figure 2 (some .int), Cond.methodLink RX3 48 yX2_addPleat, Cond.instanceMethod yX2_addPleat, Cond.selects RX2 yX2_addPleat yX2_addPleat, Cond.code yX2_addPleat cX2_addPleat 3 none, Cond.fieldLink RX2 9 "PleatRoads$Road" "stiffness" "[I", Cond.fieldLink RX2 15 "PleatRoads$Road" "pleatKind" "[I", Cond.methodLink RX3 37 yX3_readTraveller]
def wsX6_road_r3 : List Cond := [Cond.instanceMethod yX3_readTraveller, Cond.selects RX3 yX3_readTraveller yX3_readTraveller, Cond.code yX3_readTraveller cX3_readTraveller 4 (some .int), Cond.methodLink RX3 52 Lib.Math.min.name, Cond.static Lib.Math.min.name, Cond.initialized "java/lang/Math", Cond.code Lib.Math.min.name Lib.Math.min.code 2 (some .int), Cond.methodLink RX3 58 yX2_addTraveller, Cond.instanceMethod yX2_addTraveller, Cond.selects RX2 yX2_addTraveller yX2_addTraveller, Cond.code yX2_addTraveller cX2_addTraveller 4 none, Cond.fieldLink RX2 18 "PleatRoads$Road" "firstPlace" "[I", Cond.fieldLink RX2 21 "PleatRoads$Road" "breath" "[I", Cond.fieldLink RX2 24 "PleatRoads$Road" "travellerKind" "[I", Cond.methodLink RX6 86 yX4_begin, Cond.instanceMethod yX4_begin, Cond.selects RX4 yX4_begin yX4_begin, Cond.initialized RX4, Cond.code yX4_begin cX4_begin 2 none, Cond.fieldLink RX4 18 "PleatRoads$Standing" "road" "LPleatRoads$Road;", Cond.fieldLink RX4 22 "PleatRoads$Road" "travellers" "I", Cond.fieldLink RX4 9 "PleatRoads$Standing" "place" "[I", Cond.fieldLink RX4 28 "PleatRoads$Road" "firstPlace" "[I", Cond.fieldLink RX4 15 "PleatRoads$Standing" "wind" "[I"]
def wsX6_road_r4 : List Cond := [Cond.fieldLink RX4 31 "PleatRoads$Road" "breath" "[I", Cond.fieldLink RX4 38 "PleatRoads$Standing" "greased" "I", Cond.fieldLink RX4 41 "PleatRoads$Standing" "open" "I", Cond.fieldLink RX4 44 "PleatRoads$Standing" "frost" "I", Cond.fieldLink RX4 47 "PleatRoads$Standing" "steps" "I", Cond.methodLink RX4 34 yX2_smoothOnes, Cond.instanceMethod yX2_smoothOnes, Cond.selects RX2 yX2_smoothOnes yX2_smoothOnes, Cond.code yX2_smoothOnes cX2_smoothOnes 3 (some .int)]
def wsX6_road : List Cond := .code yX6_road cX6_road 2 (some .int) :: ((wsX6_road_r1 ++ (wsX6_road_r2 ++ (wsX6_road_r3 ++ wsX6_road_r4))) ++ wsX60 ++ wsX00 ++ wsX20 ++ wsX30 ++ wsX40)
def wsX6_pleat_r1 : List Cond := [Cond.fieldLink RX6 23 "PleatRoads" "road" "LPleatRoads$Road;", Cond.fieldLink RX6 100 "PleatRoads$Road" "stiffness" "[I", Cond.fieldLink RX6 103 "PleatRoads$Road" "pleatKind" "[I", Cond.fieldLink RX6 31 "PleatRoads" "now" "LPleatRoads$Standing;", Cond.fieldLink RX6 109 "PleatRoads$Standing" "greased" "I", Cond.fieldLink RX6 112 "PleatRoads$Standing" "open" "I", Cond.methodLink RX6 96 yX2_hasPleat, Cond.instanceMethod yX2_hasPleat, Cond.selects RX2 yX2_hasPleat yX2_hasPleat, Cond.initialized RX2, Cond.code yX2_hasPleat cX2_hasPleat 2 (some .boolean), Cond.fieldLink RX2 27 "PleatRoads$Road" "pleats" "I", Cond.methodLink RX6 106 yX4_costOf, Cond.instanceMethod yX4_costOf, Cond.selects RX4 yX4_costOf yX4_costOf, Cond.initialized RX4, Cond.code yX4_costOf cX4_costOf 2 (some .int), Cond.fieldLink RX4 41 "PleatRoads$Standing" "open" "I", Cond.fieldLink RX4 18 "PleatRoads$Standing" "road" "LPleatRoads$Road;", Cond.fieldLink RX4 44 "PleatRoads$Standing" "frost" "I", Cond.fieldLink RX4 38 "PleatRoads$Standing" "greased" "I", Cond.methodLink RX4 50 yX2_costShut, Cond.instanceMethod yX2_costShut, Cond.selects RX2 yX2_costShut yX2_costShut]
def wsX6_pleat_r2 : List Cond := [Cond.code yX2_costShut cX2_costShut 6 (some .int), Cond.fieldLink RX2 15 "PleatRoads$Road" "pleatKind" "[I", Cond.fieldLink RX2 9 "PleatRoads$Road" "stiffness" "[I"]
def wsX6_pleat : List Cond := .code yX6_pleat cX6_pleat 3 (some .int) :: ((wsX6_pleat_r1 ++ wsX6_pleat_r2) ++ wsX60 ++ wsX20 ++ wsX40)
def wsX6_traveller_r1 : List Cond := [Cond.fieldLink RX6 23 "PleatRoads" "road" "LPleatRoads$Road;", Cond.fieldLink RX6 31 "PleatRoads" "now" "LPleatRoads$Standing;", Cond.fieldLink RX6 118 "PleatRoads$Standing" "place" "[I", Cond.fieldLink RX6 121 "PleatRoads$Road" "breath" "[I", Cond.fieldLink RX6 124 "PleatRoads$Road" "travellerKind" "[I", Cond.fieldLink RX6 127 "PleatRoads$Standing" "wind" "[I", Cond.methodLink RX6 115 yX2_hasTraveller, Cond.instanceMethod yX2_hasTraveller, Cond.selects RX2 yX2_hasTraveller yX2_hasTraveller, Cond.initialized RX2, Cond.code yX2_hasTraveller cX2_hasTraveller 2 (some .boolean), Cond.fieldLink RX2 31 "PleatRoads$Road" "travellers" "I", Cond.methodLink RX6 130 yX4_tollBeside, Cond.instanceMethod yX4_tollBeside, Cond.selects RX4 yX4_tollBeside yX4_tollBeside, Cond.initialized RX4, Cond.code yX4_tollBeside cX4_tollBeside 4 (some .int), Cond.fieldLink RX4 18 "PleatRoads$Standing" "road" "LPleatRoads$Road;", Cond.fieldLink RX4 62 "PleatRoads$Road" "travellerKind" "[I", Cond.methodLink RX4 54 yX4_pleatBeside, Cond.instanceMethod yX4_pleatBeside, Cond.selects RX4 yX4_pleatBeside yX4_pleatBeside, Cond.code yX4_pleatBeside cX4_pleatBeside 3 (some .int), Cond.fieldLink RX4 9 "PleatRoads$Standing" "place" "[I"]
def wsX6_traveller_r2 : List Cond := [Cond.methodLink RX4 58 yX2_hasPleat, Cond.instanceMethod yX2_hasPleat, Cond.selects RX2 yX2_hasPleat yX2_hasPleat, Cond.code yX2_hasPleat cX2_hasPleat 2 (some .boolean), Cond.fieldLink RX2 27 "PleatRoads$Road" "pleats" "I", Cond.methodLink RX4 65 yX4_costOf, Cond.instanceMethod yX4_costOf, Cond.selects RX4 yX4_costOf yX4_costOf, Cond.code yX4_costOf cX4_costOf 2 (some .int), Cond.fieldLink RX4 41 "PleatRoads$Standing" "open" "I", Cond.fieldLink RX4 44 "PleatRoads$Standing" "frost" "I", Cond.fieldLink RX4 38 "PleatRoads$Standing" "greased" "I", Cond.methodLink RX4 50 yX2_costShut, Cond.instanceMethod yX2_costShut, Cond.selects RX2 yX2_costShut yX2_costShut, Cond.code yX2_costShut cX2_costShut 6 (some .int), Cond.fieldLink RX2 15 "PleatRoads$Road" "pleatKind" "[I", Cond.fieldLink RX2 9 "PleatRoads$Road" "stiffness" "[I", Cond.methodLink RX4 69 yX2_tollFor, Cond.static yX2_tollFor, Cond.code yX2_tollFor cX2_tollFor 2 (some .int)]
def wsX6_traveller : List Cond := .code yX6_traveller cX6_traveller 3 (some .int) :: ((wsX6_traveller_r1 ++ wsX6_traveller_r2) ++ wsX60 ++ wsX40 ++ wsX20)
def wsX6_step_r1 : List Cond := [Cond.fieldLink RX6 23 "PleatRoads" "road" "LPleatRoads$Road;", Cond.fieldLink RX6 31 "PleatRoads" "now" "LPleatRoads$Standing;", Cond.fieldLink RX6 41 "PleatRoads" "acts" "LPleatRoads$ActRow;", Cond.fieldLink RX6 118 "PleatRoads$Standing" "place" "[I", Cond.methodLink RX6 115 yX2_hasTraveller, Cond.instanceMethod yX2_hasTraveller, Cond.selects RX2 yX2_hasTraveller yX2_hasTraveller, Cond.initialized RX2, Cond.code yX2_hasTraveller cX2_hasTraveller 2 (some .boolean), Cond.fieldLink RX2 31 "PleatRoads$Road" "travellers" "I", Cond.methodLink RX6 134 yX4_canStep, Cond.instanceMethod yX4_canStep, Cond.selects RX4 yX4_canStep yX4_canStep, Cond.initialized RX4, Cond.code yX4_canStep cX4_canStep 4 (some .boolean), Cond.fieldLink RX4 18 "PleatRoads$Standing" "road" "LPleatRoads$Road;", Cond.fieldLink RX4 15 "PleatRoads$Standing" "wind" "[I", Cond.methodLink RX4 73 yX2_hasTraveller, Cond.methodLink RX4 76 yX4_tollBeside, Cond.instanceMethod yX4_tollBeside, Cond.selects RX4 yX4_tollBeside yX4_tollBeside, Cond.code yX4_tollBeside cX4_tollBeside 4 (some .int), Cond.fieldLink RX4 62 "PleatRoads$Road" "travellerKind" "[I", Cond.methodLink RX4 54 yX4_pleatBeside]
def wsX6_step_r2 : List Cond := [Cond.instanceMethod yX4_pleatBeside, Cond.selects RX4 yX4_pleatBeside yX4_pleatBeside, Cond.code yX4_pleatBeside cX4_pleatBeside 3 (some .int), Cond.fieldLink RX4 9 "PleatRoads$Standing" "place" "[I", Cond.methodLink RX4 58 yX2_hasPleat, Cond.instanceMethod yX2_hasPleat, Cond.selects RX2 yX2_hasPleat yX2_hasPleat, Cond.code yX2_hasPleat cX2_hasPleat 2 (some .boolean), Cond.fieldLink RX2 27 "PleatRoads$Road" "pleats" "I", Cond.methodLink RX4 65 yX4_costOf, Cond.instanceMethod yX4_costOf, Cond.selects RX4 yX4_costOf yX4_costOf, Cond.code yX4_costOf cX4_costOf 2 (some .int), Cond.fieldLink RX4 41 "PleatRoads$Standing" "open" "I", Cond.fieldLink RX4 44 "PleatRoads$Standing" "frost" "I", Cond.fieldLink RX4 38 "PleatRoads$Standing" "greased" "I", Cond.methodLink RX4 50 yX2_costShut, Cond.instanceMethod yX2_costShut, Cond.selects RX2 yX2_costShut yX2_costShut, Cond.code yX2_costShut cX2_costShut 6 (some .int), Cond.fieldLink RX2 15 "PleatRoads$Road" "pleatKind" "[I", Cond.fieldLink RX2 9 "PleatRoads$Road" "stiffness" "[I", Cond.methodLink RX4 69 yX2_tollFor, Cond.static yX2_tollFor]
def wsX6_step_r3 : List Cond := [Cond.code yX2_tollFor cX2_tollFor 2 (some .int), Cond.methodLink RX6 138 yX0_remember, Cond.instanceMethod yX0_remember, Cond.selects RX0 yX0_remember yX0_remember, Cond.initialized RX0, Cond.code yX0_remember cX0_remember 2 none, Cond.fieldLink RX0 11 "PleatRoads$ActRow" "ahead" "[LPleatRoads$Standing;", Cond.fieldLink RX0 20 "PleatRoads$ActRow" "end" "I", Cond.fieldLink RX0 28 "PleatRoads$ActRow" "length" "I", Cond.methodLink RX0 31 Lib.Math.min.name, Cond.static Lib.Math.min.name, Cond.initialized "java/lang/Math", Cond.code Lib.Math.min.name Lib.Math.min.code 2 (some .int), Cond.methodLink RX0 24 yX4_takeFrom, Cond.instanceMethod yX4_takeFrom, Cond.selects RX4 yX4_takeFrom yX4_takeFrom, Cond.code yX4_takeFrom cX4_takeFrom 3 none, Cond.fieldLink RX4 47 "PleatRoads$Standing" "steps" "I", Cond.methodLink RX6 142 yX4_doStep, Cond.instanceMethod yX4_doStep, Cond.selects RX4 yX4_doStep yX4_doStep, Cond.code yX4_doStep cX4_doStep 5 none, Cond.fieldLink RX4 79 "PleatRoads$Road" "pleatKind" "[I", Cond.fieldLink RX4 31 "PleatRoads$Road" "breath" "[I"]
def wsX6_step : List Cond := .code yX6_step cX6_step 3 (some .int) :: ((wsX6_step_r1 ++ (wsX6_step_r2 ++ wsX6_step_r3)) ++ wsX60 ++ wsX40 ++ wsX20 ++ wsX00)
def wsX6_rest_r1 : List Cond := [Cond.fieldLink RX6 23 "PleatRoads" "road" "LPleatRoads$Road;", Cond.fieldLink RX6 41 "PleatRoads" "acts" "LPleatRoads$ActRow;", Cond.fieldLink RX6 31 "PleatRoads" "now" "LPleatRoads$Standing;", Cond.fieldLink RX6 127 "PleatRoads$Standing" "wind" "[I", Cond.methodLink RX6 115 yX2_hasTraveller, Cond.instanceMethod yX2_hasTraveller, Cond.selects RX2 yX2_hasTraveller yX2_hasTraveller, Cond.initialized RX2, Cond.code yX2_hasTraveller cX2_hasTraveller 2 (some .boolean), Cond.fieldLink RX2 31 "PleatRoads$Road" "travellers" "I", Cond.methodLink RX6 138 yX0_remember, Cond.instanceMethod yX0_remember, Cond.selects RX0 yX0_remember yX0_remember, Cond.initialized RX0, Cond.code yX0_remember cX0_remember 2 none, Cond.fieldLink RX0 11 "PleatRoads$ActRow" "ahead" "[LPleatRoads$Standing;", Cond.fieldLink RX0 20 "PleatRoads$ActRow" "end" "I", Cond.fieldLink RX0 28 "PleatRoads$ActRow" "length" "I", Cond.methodLink RX0 31 Lib.Math.min.name, Cond.static Lib.Math.min.name, Cond.initialized "java/lang/Math", Cond.code Lib.Math.min.name Lib.Math.min.code 2 (some .int), Cond.methodLink RX0 24 yX4_takeFrom, Cond.instanceMethod yX4_takeFrom]
def wsX6_rest_r2 : List Cond := [Cond.selects RX4 yX4_takeFrom yX4_takeFrom, Cond.initialized RX4, Cond.code yX4_takeFrom cX4_takeFrom 3 none, Cond.fieldLink RX4 9 "PleatRoads$Standing" "place" "[I", Cond.fieldLink RX4 15 "PleatRoads$Standing" "wind" "[I", Cond.fieldLink RX4 38 "PleatRoads$Standing" "greased" "I", Cond.fieldLink RX4 41 "PleatRoads$Standing" "open" "I", Cond.fieldLink RX4 44 "PleatRoads$Standing" "frost" "I", Cond.fieldLink RX4 47 "PleatRoads$Standing" "steps" "I", Cond.methodLink RX6 146 yX4_doRest, Cond.instanceMethod yX4_doRest, Cond.selects RX4 yX4_doRest yX4_doRest, Cond.code yX4_doRest cX4_doRest 2 none, Cond.fieldLink RX4 18 "PleatRoads$Standing" "road" "LPleatRoads$Road;", Cond.fieldLink RX4 31 "PleatRoads$Road" "breath" "[I", Cond.methodLink RX4 82 yX2_windRested, Cond.static yX2_windRested, Cond.code yX2_windRested cX2_windRested 2 (some .int), Cond.methodLink RX2 34 Lib.Math.max.name, Cond.static Lib.Math.max.name, Cond.code Lib.Math.max.name Lib.Math.max.code 2 (some .int), Cond.methodLink RX2 40 Lib.Math.min.name]
def wsX6_rest : List Cond := .code yX6_rest cX6_rest 2 (some .int) :: ((wsX6_rest_r1 ++ wsX6_rest_r2) ++ wsX60 ++ wsX40 ++ wsX20 ++ wsX00)
def wsX6_grease_r1 : List Cond := [Cond.fieldLink RX6 23 "PleatRoads" "road" "LPleatRoads$Road;", Cond.fieldLink RX6 31 "PleatRoads" "now" "LPleatRoads$Standing;", Cond.fieldLink RX6 41 "PleatRoads" "acts" "LPleatRoads$ActRow;", Cond.methodLink RX6 96 yX2_hasPleat, Cond.instanceMethod yX2_hasPleat, Cond.selects RX2 yX2_hasPleat yX2_hasPleat, Cond.initialized RX2, Cond.code yX2_hasPleat cX2_hasPleat 2 (some .boolean), Cond.fieldLink RX2 27 "PleatRoads$Road" "pleats" "I", Cond.methodLink RX6 150 yX4_canGrease, Cond.instanceMethod yX4_canGrease, Cond.selects RX4 yX4_canGrease yX4_canGrease, Cond.initialized RX4, Cond.code yX4_canGrease cX4_canGrease 2 (some .boolean), Cond.fieldLink RX4 18 "PleatRoads$Standing" "road" "LPleatRoads$Road;", Cond.fieldLink RX4 38 "PleatRoads$Standing" "greased" "I", Cond.methodLink RX4 58 yX2_hasPleat, Cond.methodLink RX6 138 yX0_remember, Cond.instanceMethod yX0_remember, Cond.selects RX0 yX0_remember yX0_remember, Cond.initialized RX0, Cond.code yX0_remember cX0_remember 2 none, Cond.fieldLink RX0 11 "PleatRoads$ActRow" "ahead" "[LPleatRoads$Standing;", Cond.fieldLink RX0 20 "PleatRoads$ActRow" "end" "I"]
def wsX6_grease_r2 : List Cond := [Cond.fieldLink RX0 28 "PleatRoads$ActRow" "length" "I", Cond.methodLink RX0 31 Lib.Math.min.name, Cond.static Lib.Math.min.name, Cond.initialized "java/lang/Math", Cond.code Lib.Math.min.name Lib.Math.min.code 2 (some .int), Cond.methodLink RX0 24 yX4_takeFrom, Cond.instanceMethod yX4_takeFrom, Cond.selects RX4 yX4_takeFrom yX4_takeFrom, Cond.code yX4_takeFrom cX4_takeFrom 3 none, Cond.fieldLink RX4 9 "PleatRoads$Standing" "place" "[I", Cond.fieldLink RX4 15 "PleatRoads$Standing" "wind" "[I", Cond.fieldLink RX4 41 "PleatRoads$Standing" "open" "I", Cond.fieldLink RX4 44 "PleatRoads$Standing" "frost" "I", Cond.fieldLink RX4 47 "PleatRoads$Standing" "steps" "I", Cond.methodLink RX6 153 yX4_doGrease, Cond.instanceMethod yX4_doGrease, Cond.selects RX4 yX4_doGrease yX4_doGrease, Cond.code yX4_doGrease cX4_doGrease 2 none, Cond.methodLink RX6 106 yX4_costOf, Cond.instanceMethod yX4_costOf, Cond.selects RX4 yX4_costOf yX4_costOf, Cond.code yX4_costOf cX4_costOf 2 (some .int), Cond.methodLink RX4 50 yX2_costShut, Cond.instanceMethod yX2_costShut]
def wsX6_grease_r3 : List Cond := [Cond.selects RX2 yX2_costShut yX2_costShut, Cond.code yX2_costShut cX2_costShut 6 (some .int), Cond.fieldLink RX2 15 "PleatRoads$Road" "pleatKind" "[I", Cond.fieldLink RX2 9 "PleatRoads$Road" "stiffness" "[I"]
def wsX6_grease : List Cond := .code yX6_grease cX6_grease 2 (some .int) :: ((wsX6_grease_r1 ++ (wsX6_grease_r2 ++ wsX6_grease_r3)) ++ wsX60 ++ wsX20 ++ wsX40 ++ wsX00)
def wsX6_freeze_r1 : List Cond := [Cond.fieldLink RX6 31 "PleatRoads" "now" "LPleatRoads$Standing;", Cond.fieldLink RX6 41 "PleatRoads" "acts" "LPleatRoads$ActRow;", Cond.fieldLink RX6 160 "PleatRoads$Standing" "frost" "I", Cond.methodLink RX6 156 yX4_canFreeze, Cond.instanceMethod yX4_canFreeze, Cond.selects RX4 yX4_canFreeze yX4_canFreeze, Cond.initialized RX4, Cond.code yX4_canFreeze cX4_canFreeze 1 (some .boolean), Cond.fieldLink RX4 44 "PleatRoads$Standing" "frost" "I", Cond.methodLink RX6 138 yX0_remember, Cond.instanceMethod yX0_remember, Cond.selects RX0 yX0_remember yX0_remember, Cond.initialized RX0, Cond.code yX0_remember cX0_remember 2 none, Cond.fieldLink RX0 11 "PleatRoads$ActRow" "ahead" "[LPleatRoads$Standing;", Cond.fieldLink RX0 20 "PleatRoads$ActRow" "end" "I", Cond.fieldLink RX0 28 "PleatRoads$ActRow" "length" "I", Cond.methodLink RX0 31 Lib.Math.min.name, Cond.static Lib.Math.min.name, Cond.initialized "java/lang/Math", Cond.code Lib.Math.min.name Lib.Math.min.code 2 (some .int), Cond.methodLink RX0 24 yX4_takeFrom, Cond.instanceMethod yX4_takeFrom, Cond.selects RX4 yX4_takeFrom yX4_takeFrom]
def wsX6_freeze_r2 : List Cond := [Cond.code yX4_takeFrom cX4_takeFrom 3 none, Cond.fieldLink RX4 9 "PleatRoads$Standing" "place" "[I", Cond.fieldLink RX4 15 "PleatRoads$Standing" "wind" "[I", Cond.fieldLink RX4 38 "PleatRoads$Standing" "greased" "I", Cond.fieldLink RX4 41 "PleatRoads$Standing" "open" "I", Cond.fieldLink RX4 47 "PleatRoads$Standing" "steps" "I"]
def wsX6_freeze : List Cond := .code yX6_freeze cX6_freeze 1 (some .int) :: ((wsX6_freeze_r1 ++ wsX6_freeze_r2) ++ wsX60 ++ wsX40 ++ wsX00)
def wsX6_thaw_r1 : List Cond := [Cond.fieldLink RX6 31 "PleatRoads" "now" "LPleatRoads$Standing;", Cond.fieldLink RX6 160 "PleatRoads$Standing" "frost" "I", Cond.fieldLink RX6 41 "PleatRoads" "acts" "LPleatRoads$ActRow;", Cond.methodLink RX6 138 yX0_remember, Cond.instanceMethod yX0_remember, Cond.selects RX0 yX0_remember yX0_remember, Cond.initialized RX0, Cond.code yX0_remember cX0_remember 2 none, Cond.fieldLink RX0 11 "PleatRoads$ActRow" "ahead" "[LPleatRoads$Standing;", Cond.fieldLink RX0 20 "PleatRoads$ActRow" "end" "I", Cond.fieldLink RX0 28 "PleatRoads$ActRow" "length" "I", Cond.methodLink RX0 31 Lib.Math.min.name, Cond.static Lib.Math.min.name, Cond.initialized "java/lang/Math", Cond.code Lib.Math.min.name Lib.Math.min.code 2 (some .int), Cond.methodLink RX0 24 yX4_takeFrom, Cond.instanceMethod yX4_takeFrom, Cond.selects RX4 yX4_takeFrom yX4_takeFrom, Cond.initialized RX4, Cond.code yX4_takeFrom cX4_takeFrom 3 none, Cond.fieldLink RX4 9 "PleatRoads$Standing" "place" "[I", Cond.fieldLink RX4 15 "PleatRoads$Standing" "wind" "[I", Cond.fieldLink RX4 38 "PleatRoads$Standing" "greased" "I", Cond.fieldLink RX4 41 "PleatRoads$Standing" "open" "I"]
def wsX6_thaw_r2 : List Cond := [Cond.fieldLink RX4 44 "PleatRoads$Standing" "frost" "I", Cond.fieldLink RX4 47 "PleatRoads$Standing" "steps" "I"]
def wsX6_thaw : List Cond := .code yX6_thaw cX6_thaw 2 (some .int) :: ((wsX6_thaw_r1 ++ wsX6_thaw_r2) ++ wsX60 ++ wsX40 ++ wsX00)
def wsX6_undo : List Cond := .code yX6_undo cX6_undo 1 (some .int) :: ([.fieldLink RX6 41 "PleatRoads" "acts" "LPleatRoads$ActRow;", .fieldLink RX6 89 "PleatRoads$ActRow" "length" "I", .fieldLink RX6 31 "PleatRoads" "now" "LPleatRoads$Standing;", .methodLink RX6 163 yX0_takeBack, .instanceMethod yX0_takeBack, .selects RX0 yX0_takeBack yX0_takeBack, .initialized RX0, .code yX0_takeBack cX0_takeBack 2 none, .fieldLink RX0 20 "PleatRoads$ActRow" "end" "I", .fieldLink RX0 28 "PleatRoads$ActRow" "length" "I", .fieldLink RX0 11 "PleatRoads$ActRow" "ahead" "[LPleatRoads$Standing;", .methodLink RX0 24 yX4_takeFrom, .instanceMethod yX4_takeFrom, .selects RX4 yX4_takeFrom yX4_takeFrom, .initialized RX4, .code yX4_takeFrom cX4_takeFrom 3 none, .fieldLink RX4 9 "PleatRoads$Standing" "place" "[I", .fieldLink RX4 15 "PleatRoads$Standing" "wind" "[I", .fieldLink RX4 38 "PleatRoads$Standing" "greased" "I", .fieldLink RX4 41 "PleatRoads$Standing" "open" "I", .fieldLink RX4 44 "PleatRoads$Standing" "frost" "I", .fieldLink RX4 47 "PleatRoads$Standing" "steps" "I"] ++ wsX60 ++ wsX00 ++ wsX40)
def wsX6_reachIn_r1 : List Cond := [Cond.fieldLink RX6 56 "PleatRoads" "walk" "LPleatRoads$Walk;", Cond.fieldLink RX6 109 "PleatRoads$Standing" "greased" "I", Cond.methodLink RX6 173 yX5_prepare, Cond.instanceMethod yX5_prepare, Cond.selects RX5 yX5_prepare yX5_prepare, Cond.initialized RX5, Cond.code yX5_prepare cX5_prepare 8 none, Cond.fieldLink RX5 27 "PleatRoads$Walk" "road" "LPleatRoads$Road;", Cond.fieldLink RX5 31 "PleatRoads$Road" "travellerKind" "[I", Cond.fieldLink RX5 36 "PleatRoads$Road" "pleats" "I", Cond.fieldLink RX5 21 "PleatRoads$Walk" "tollShut" "[I", Cond.fieldLink RX5 40 "PleatRoads$Standing" "frost" "I", Cond.fieldLink RX5 24 "PleatRoads$Walk" "tollOpen" "[I", Cond.fieldLink RX5 53 "PleatRoads$Road" "breath" "[I", Cond.fieldLink RX5 56 "PleatRoads$Walk" "breath" "I", Cond.fieldLink RX5 58 "PleatRoads$Walk" "isLungs" "Z", Cond.fieldLink RX5 62 "PleatRoads$Standing" "wind" "[I", Cond.fieldLink RX5 65 "PleatRoads$Walk" "startWind" "I", Cond.fieldLink RX5 68 "PleatRoads$Standing" "place" "[I", Cond.fieldLink RX5 71 "PleatRoads$Standing" "open" "I", Cond.fieldLink RX5 77 "PleatRoads$Walk" "startNode" "I", Cond.methodLink RX5 45 yX2_costShut, Cond.instanceMethod yX2_costShut, Cond.selects RX2 yX2_costShut yX2_costShut]
def wsX6_reachIn_r2 : List Cond := [Cond.initialized RX2, Cond.code yX2_costShut cX2_costShut 6 (some .int), Cond.fieldLink RX2 15 "PleatRoads$Road" "pleatKind" "[I", Cond.fieldLink RX2 9 "PleatRoads$Road" "stiffness" "[I", Cond.methodLink RX5 49 yX2_tollFor, Cond.static yX2_tollFor, Cond.code yX2_tollFor cX2_tollFor 2 (some .int), Cond.methodLink RX5 74 yX5_modeAt, Cond.static yX5_modeAt, Cond.code yX5_modeAt cX5_modeAt 2 (some .int), Cond.methodLink RX6 264 yX5_places, Cond.instanceMethod yX5_places, Cond.selects RX5 yX5_places yX5_places, Cond.code yX5_places cX5_places 4 (some .int), Cond.fieldLink RX5 18 "PleatRoads$Walk" "queue" "[I", Cond.methodLink RX5 89 yX5_beginAt, Cond.instanceMethod yX5_beginAt, Cond.selects RX5 yX5_beginAt yX5_beginAt, Cond.code yX5_beginAt cX5_beginAt 1 none, Cond.fieldLink RX5 11 "PleatRoads$Walk" "most" "[I", Cond.methodLink RX5 80 yJ7_fill_53178, Cond.static yJ7_fill_53178, Cond.initialized RJ7, Cond.code yJ7_fill_53178 cJ7_fill_53178 4 none]
def wsX6_reachIn_r3 : List Cond := [Cond.methodLink RX5 92 yX5_enqueueBeyond, Cond.instanceMethod yX5_enqueueBeyond, Cond.selects RX5 yX5_enqueueBeyond yX5_enqueueBeyond, Cond.code yX5_enqueueBeyond cX5_enqueueBeyond 6 (some .int), Cond.methodLink RX5 96 yX5_windBeyond, Cond.instanceMethod yX5_windBeyond, Cond.selects RX5 yX5_windBeyond yX5_windBeyond, Cond.code yX5_windBeyond cX5_windBeyond 7 (some .int), Cond.fieldLink RX5 86 "PleatRoads$Road" "pleatKind" "[I", Cond.methodLink RX5 100 yX5_nodeBeyond, Cond.instanceMethod yX5_nodeBeyond, Cond.selects RX5 yX5_nodeBeyond yX5_nodeBeyond, Cond.code yX5_nodeBeyond cX5_nodeBeyond 5 (some .int)]
def wsX6_reachIn : List Cond := .code yX6_reachIn cX6_reachIn 3 (some .int) :: ((wsX6_reachIn_r1 ++ (wsX6_reachIn_r2 ++ wsX6_reachIn_r3)) ++ wsX60 ++ wsX40 ++ wsX50 ++ wsX20)
def wsX6_reach_r1 : List Cond := [Cond.fieldLink RX6 23 "PleatRoads" "road" "LPleatRoads$Road;", Cond.fieldLink RX6 31 "PleatRoads" "now" "LPleatRoads$Standing;", Cond.methodLink RX6 115 yX2_hasTraveller, Cond.instanceMethod yX2_hasTraveller, Cond.selects RX2 yX2_hasTraveller yX2_hasTraveller, Cond.initialized RX2, Cond.code yX2_hasTraveller cX2_hasTraveller 2 (some .boolean), Cond.fieldLink RX2 31 "PleatRoads$Road" "travellers" "I", Cond.methodLink RX6 166 yX6_reachIn, Cond.instanceMethod yX6_reachIn, Cond.selects RX6 yX6_reachIn yX6_reachIn, Cond.initialized RX6, Cond.code yX6_reachIn cX6_reachIn 3 (some .int), Cond.fieldLink RX6 56 "PleatRoads" "walk" "LPleatRoads$Walk;", Cond.fieldLink RX6 109 "PleatRoads$Standing" "greased" "I", Cond.methodLink RX6 173 yX5_prepare, Cond.instanceMethod yX5_prepare, Cond.selects RX5 yX5_prepare yX5_prepare, Cond.initialized RX5, Cond.code yX5_prepare cX5_prepare 8 none, Cond.fieldLink RX5 27 "PleatRoads$Walk" "road" "LPleatRoads$Road;", Cond.fieldLink RX5 31 "PleatRoads$Road" "travellerKind" "[I", Cond.fieldLink RX5 36 "PleatRoads$Road" "pleats" "I", Cond.fieldLink RX5 21 "PleatRoads$Walk" "tollShut" "[I"]
def wsX6_reach_r2 : List Cond := [Cond.fieldLink RX5 40 "PleatRoads$Standing" "frost" "I", Cond.fieldLink RX5 24 "PleatRoads$Walk" "tollOpen" "[I", Cond.fieldLink RX5 53 "PleatRoads$Road" "breath" "[I", Cond.fieldLink RX5 56 "PleatRoads$Walk" "breath" "I", Cond.fieldLink RX5 58 "PleatRoads$Walk" "isLungs" "Z", Cond.fieldLink RX5 62 "PleatRoads$Standing" "wind" "[I", Cond.fieldLink RX5 65 "PleatRoads$Walk" "startWind" "I", Cond.fieldLink RX5 68 "PleatRoads$Standing" "place" "[I", Cond.fieldLink RX5 71 "PleatRoads$Standing" "open" "I", Cond.fieldLink RX5 77 "PleatRoads$Walk" "startNode" "I", Cond.methodLink RX5 45 yX2_costShut, Cond.instanceMethod yX2_costShut, Cond.selects RX2 yX2_costShut yX2_costShut, Cond.code yX2_costShut cX2_costShut 6 (some .int), Cond.fieldLink RX2 15 "PleatRoads$Road" "pleatKind" "[I", Cond.fieldLink RX2 9 "PleatRoads$Road" "stiffness" "[I", Cond.methodLink RX5 49 yX2_tollFor, Cond.static yX2_tollFor, Cond.code yX2_tollFor cX2_tollFor 2 (some .int), Cond.methodLink RX5 74 yX5_modeAt, Cond.static yX5_modeAt, Cond.code yX5_modeAt cX5_modeAt 2 (some .int), Cond.methodLink RX6 264 yX5_places, Cond.instanceMethod yX5_places]
def wsX6_reach_r3 : List Cond := [Cond.selects RX5 yX5_places yX5_places, Cond.code yX5_places cX5_places 4 (some .int), Cond.fieldLink RX5 18 "PleatRoads$Walk" "queue" "[I", Cond.methodLink RX5 89 yX5_beginAt, Cond.instanceMethod yX5_beginAt, Cond.selects RX5 yX5_beginAt yX5_beginAt, Cond.code yX5_beginAt cX5_beginAt 1 none, Cond.fieldLink RX5 11 "PleatRoads$Walk" "most" "[I", Cond.methodLink RX5 80 yJ7_fill_53178, Cond.static yJ7_fill_53178, Cond.initialized RJ7, Cond.code yJ7_fill_53178 cJ7_fill_53178 4 none, Cond.methodLink RX5 92 yX5_enqueueBeyond, Cond.instanceMethod yX5_enqueueBeyond, Cond.selects RX5 yX5_enqueueBeyond yX5_enqueueBeyond, Cond.code yX5_enqueueBeyond cX5_enqueueBeyond 6 (some .int), Cond.methodLink RX5 96 yX5_windBeyond, Cond.instanceMethod yX5_windBeyond, Cond.selects RX5 yX5_windBeyond yX5_windBeyond, Cond.code yX5_windBeyond cX5_windBeyond 7 (some .int), Cond.fieldLink RX5 86 "PleatRoads$Road" "pleatKind" "[I", Cond.methodLink RX5 100 yX5_nodeBeyond, Cond.instanceMethod yX5_nodeBeyond, Cond.selects RX5 yX5_nodeBeyond yX5_nodeBeyond]
def wsX6_reach_r4 : List Cond := [Cond.code yX5_nodeBeyond cX5_nodeBeyond 5 (some .int)]
def wsX6_reach : List Cond := .code yX6_reach cX6_reach 2 (some .int) :: ((wsX6_reach_r1 ++ (wsX6_reach_r2 ++ (wsX6_reach_r3 ++ wsX6_reach_r4))) ++ wsX60 ++ wsX20 ++ wsX40 ++ wsX50)
def wsX6_fewest_r1 : List Cond := [Cond.fieldLink RX6 23 "PleatRoads" "road" "LPleatRoads$Road;", Cond.fieldLink RX6 56 "PleatRoads" "walk" "LPleatRoads$Walk;", Cond.fieldLink RX6 31 "PleatRoads" "now" "LPleatRoads$Standing;", Cond.fieldLink RX6 109 "PleatRoads$Standing" "greased" "I", Cond.methodLink RX6 115 yX2_hasTraveller, Cond.instanceMethod yX2_hasTraveller, Cond.selects RX2 yX2_hasTraveller yX2_hasTraveller, Cond.initialized RX2, Cond.code yX2_hasTraveller cX2_hasTraveller 2 (some .boolean), Cond.fieldLink RX2 31 "PleatRoads$Road" "travellers" "I", Cond.methodLink RX6 170 yX2_hasPlace, Cond.instanceMethod yX2_hasPlace, Cond.selects RX2 yX2_hasPlace yX2_hasPlace, Cond.code yX2_hasPlace cX2_hasPlace 2 (some .boolean), Cond.fieldLink RX2 27 "PleatRoads$Road" "pleats" "I", Cond.methodLink RX6 173 yX5_prepare, Cond.instanceMethod yX5_prepare, Cond.selects RX5 yX5_prepare yX5_prepare, Cond.initialized RX5, Cond.code yX5_prepare cX5_prepare 8 none, Cond.fieldLink RX5 27 "PleatRoads$Walk" "road" "LPleatRoads$Road;", Cond.fieldLink RX5 31 "PleatRoads$Road" "travellerKind" "[I", Cond.fieldLink RX5 36 "PleatRoads$Road" "pleats" "I", Cond.fieldLink RX5 21 "PleatRoads$Walk" "tollShut" "[I"]
def wsX6_fewest_r2 : List Cond := [Cond.fieldLink RX5 40 "PleatRoads$Standing" "frost" "I", Cond.fieldLink RX5 24 "PleatRoads$Walk" "tollOpen" "[I", Cond.fieldLink RX5 53 "PleatRoads$Road" "breath" "[I", Cond.fieldLink RX5 56 "PleatRoads$Walk" "breath" "I", Cond.fieldLink RX5 58 "PleatRoads$Walk" "isLungs" "Z", Cond.fieldLink RX5 62 "PleatRoads$Standing" "wind" "[I", Cond.fieldLink RX5 65 "PleatRoads$Walk" "startWind" "I", Cond.fieldLink RX5 68 "PleatRoads$Standing" "place" "[I", Cond.fieldLink RX5 71 "PleatRoads$Standing" "open" "I", Cond.fieldLink RX5 77 "PleatRoads$Walk" "startNode" "I", Cond.methodLink RX5 45 yX2_costShut, Cond.instanceMethod yX2_costShut, Cond.selects RX2 yX2_costShut yX2_costShut, Cond.code yX2_costShut cX2_costShut 6 (some .int), Cond.fieldLink RX2 15 "PleatRoads$Road" "pleatKind" "[I", Cond.fieldLink RX2 9 "PleatRoads$Road" "stiffness" "[I", Cond.methodLink RX5 49 yX2_tollFor, Cond.static yX2_tollFor, Cond.code yX2_tollFor cX2_tollFor 2 (some .int), Cond.methodLink RX5 74 yX5_modeAt, Cond.static yX5_modeAt, Cond.code yX5_modeAt cX5_modeAt 2 (some .int), Cond.methodLink RX6 177 yX5_movesTo, Cond.instanceMethod yX5_movesTo]
def wsX6_fewest_r3 : List Cond := [Cond.selects RX5 yX5_movesTo yX5_movesTo, Cond.code yX5_movesTo cX5_movesTo 4 (some .int), Cond.fieldLink RX5 11 "PleatRoads$Walk" "most" "[I", Cond.methodLink RX5 89 yX5_beginAt, Cond.instanceMethod yX5_beginAt, Cond.selects RX5 yX5_beginAt yX5_beginAt, Cond.code yX5_beginAt cX5_beginAt 1 none, Cond.methodLink RX5 80 yJ7_fill_53178, Cond.static yJ7_fill_53178, Cond.initialized RJ7, Cond.code yJ7_fill_53178 cJ7_fill_53178 4 none, Cond.methodLink RX5 103 yX5_moveOnce, Cond.instanceMethod yX5_moveOnce, Cond.selects RX5 yX5_moveOnce yX5_moveOnce, Cond.code yX5_moveOnce cX5_moveOnce 2 none, Cond.fieldLink RX5 15 "PleatRoads$Walk" "mostNext" "[I", Cond.methodLink RX5 117 arraycopyName, Cond.native arraycopyName, Cond.static arraycopyName, Cond.initialized "java/lang/System", Cond.methodLink RX5 106 yX5_stepOnce, Cond.instanceMethod yX5_stepOnce, Cond.selects RX5 yX5_stepOnce yX5_stepOnce, Cond.code yX5_stepOnce cX5_stepOnce 4 none]
def wsX6_fewest_r4 : List Cond := [Cond.methodLink RX5 96 yX5_windBeyond, Cond.instanceMethod yX5_windBeyond, Cond.selects RX5 yX5_windBeyond yX5_windBeyond, Cond.code yX5_windBeyond cX5_windBeyond 7 (some .int), Cond.fieldLink RX5 86 "PleatRoads$Road" "pleatKind" "[I", Cond.methodLink RX5 100 yX5_nodeBeyond, Cond.instanceMethod yX5_nodeBeyond, Cond.selects RX5 yX5_nodeBeyond yX5_nodeBeyond, Cond.code yX5_nodeBeyond cX5_nodeBeyond 5 (some .int), Cond.methodLink RX5 113 yX5_raise, Cond.instanceMethod yX5_raise, Cond.selects RX5 yX5_raise yX5_raise, Cond.code yX5_raise cX5_raise 3 none, Cond.methodLink RX5 123 Lib.Math.max.name, Cond.static Lib.Math.max.name, Cond.initialized "java/lang/Math", Cond.code Lib.Math.max.name Lib.Math.max.code 2 (some .int), Cond.methodLink RX5 110 yX2_windRested, Cond.static yX2_windRested, Cond.code yX2_windRested cX2_windRested 2 (some .int), Cond.methodLink RX2 34 Lib.Math.max.name, Cond.methodLink RX2 40 Lib.Math.min.name, Cond.static Lib.Math.min.name, Cond.code Lib.Math.min.name Lib.Math.min.code 2 (some .int)]
def wsX6_fewest : List Cond := .code yX6_fewest cX6_fewest 3 (some .int) :: ((wsX6_fewest_r1 ++ (wsX6_fewest_r2 ++ (wsX6_fewest_r3 ++ wsX6_fewest_r4))) ++ wsX60 ++ wsX40 ++ wsX20 ++ wsX50)
def wsX6_comesWith_r1 : List Cond := [Cond.fieldLink RX6 56 "PleatRoads" "walk" "LPleatRoads$Walk;", Cond.fieldLink RX6 31 "PleatRoads" "now" "LPleatRoads$Standing;", Cond.methodLink RX6 173 yX5_prepare, Cond.instanceMethod yX5_prepare, Cond.selects RX5 yX5_prepare yX5_prepare, Cond.initialized RX5, Cond.code yX5_prepare cX5_prepare 8 none, Cond.fieldLink RX5 27 "PleatRoads$Walk" "road" "LPleatRoads$Road;", Cond.fieldLink RX5 31 "PleatRoads$Road" "travellerKind" "[I", Cond.fieldLink RX5 36 "PleatRoads$Road" "pleats" "I", Cond.fieldLink RX5 21 "PleatRoads$Walk" "tollShut" "[I", Cond.fieldLink RX5 40 "PleatRoads$Standing" "frost" "I", Cond.fieldLink RX5 24 "PleatRoads$Walk" "tollOpen" "[I", Cond.fieldLink RX5 53 "PleatRoads$Road" "breath" "[I", Cond.fieldLink RX5 56 "PleatRoads$Walk" "breath" "I", Cond.fieldLink RX5 58 "PleatRoads$Walk" "isLungs" "Z", Cond.fieldLink RX5 62 "PleatRoads$Standing" "wind" "[I", Cond.fieldLink RX5 65 "PleatRoads$Walk" "startWind" "I", Cond.fieldLink RX5 68 "PleatRoads$Standing" "place" "[I", Cond.fieldLink RX5 71 "PleatRoads$Standing" "open" "I", Cond.fieldLink RX5 77 "PleatRoads$Walk" "startNode" "I", Cond.methodLink RX5 45 yX2_costShut, Cond.instanceMethod yX2_costShut, Cond.selects RX2 yX2_costShut yX2_costShut]
def wsX6_comesWith_r2 : List Cond := [Cond.initialized RX2, Cond.code yX2_costShut cX2_costShut 6 (some .int), Cond.fieldLink RX2 15 "PleatRoads$Road" "pleatKind" "[I", Cond.fieldLink RX2 9 "PleatRoads$Road" "stiffness" "[I", Cond.methodLink RX5 49 yX2_tollFor, Cond.static yX2_tollFor, Cond.code yX2_tollFor cX2_tollFor 2 (some .int), Cond.methodLink RX5 74 yX5_modeAt, Cond.static yX5_modeAt, Cond.code yX5_modeAt cX5_modeAt 2 (some .int), Cond.methodLink RX6 264 yX5_places, Cond.instanceMethod yX5_places, Cond.selects RX5 yX5_places yX5_places, Cond.code yX5_places cX5_places 4 (some .int), Cond.fieldLink RX5 18 "PleatRoads$Walk" "queue" "[I", Cond.methodLink RX5 89 yX5_beginAt, Cond.instanceMethod yX5_beginAt, Cond.selects RX5 yX5_beginAt yX5_beginAt, Cond.code yX5_beginAt cX5_beginAt 1 none, Cond.fieldLink RX5 11 "PleatRoads$Walk" "most" "[I", Cond.methodLink RX5 80 yJ7_fill_53178, Cond.static yJ7_fill_53178, Cond.initialized RJ7, Cond.code yJ7_fill_53178 cJ7_fill_53178 4 none]
def wsX6_comesWith_r3 : List Cond := [Cond.methodLink RX5 92 yX5_enqueueBeyond, Cond.instanceMethod yX5_enqueueBeyond, Cond.selects RX5 yX5_enqueueBeyond yX5_enqueueBeyond, Cond.code yX5_enqueueBeyond cX5_enqueueBeyond 6 (some .int), Cond.methodLink RX5 96 yX5_windBeyond, Cond.instanceMethod yX5_windBeyond, Cond.selects RX5 yX5_windBeyond yX5_windBeyond, Cond.code yX5_windBeyond cX5_windBeyond 7 (some .int), Cond.fieldLink RX5 86 "PleatRoads$Road" "pleatKind" "[I", Cond.methodLink RX5 100 yX5_nodeBeyond, Cond.instanceMethod yX5_nodeBeyond, Cond.selects RX5 yX5_nodeBeyond yX5_nodeBeyond, Cond.code yX5_nodeBeyond cX5_nodeBeyond 5 (some .int)]
def wsX6_comesWith : List Cond := .code yX6_comesWith cX6_comesWith 5 (some .boolean) :: ((wsX6_comesWith_r1 ++ (wsX6_comesWith_r2 ++ wsX6_comesWith_r3)) ++ wsX60 ++ wsX50 ++ wsX20 ++ wsX40)
def wsJ6_bitCount_0f7a4 : List Cond := .code yJ6_bitCount_0f7a4 cJ6_bitCount_0f7a4 1 (some .int) :: ([.constant RJ6 265 (1431655765), .constant RJ6 266 (858993459), .constant RJ6 267 (252645135)])
def wsX6_wants_r1 : List Cond := [Cond.fieldLink RX6 23 "PleatRoads" "road" "LPleatRoads$Road;", Cond.fieldLink RX6 90 "PleatRoads$Road" "pleats" "I", Cond.fieldLink RX6 31 "PleatRoads" "now" "LPleatRoads$Standing;", Cond.fieldLink RX6 109 "PleatRoads$Standing" "greased" "I", Cond.methodLink RX6 115 yX2_hasTraveller, Cond.instanceMethod yX2_hasTraveller, Cond.selects RX2 yX2_hasTraveller yX2_hasTraveller, Cond.initialized RX2, Cond.code yX2_hasTraveller cX2_hasTraveller 2 (some .boolean), Cond.fieldLink RX2 31 "PleatRoads$Road" "travellers" "I", Cond.methodLink RX6 170 yX2_hasPlace, Cond.instanceMethod yX2_hasPlace, Cond.selects RX2 yX2_hasPlace yX2_hasPlace, Cond.code yX2_hasPlace cX2_hasPlace 2 (some .boolean), Cond.fieldLink RX2 27 "PleatRoads$Road" "pleats" "I", Cond.methodLink RX6 180 yX6_comesWith, Cond.instanceMethod yX6_comesWith, Cond.selects RX6 yX6_comesWith yX6_comesWith, Cond.initialized RX6, Cond.code yX6_comesWith cX6_comesWith 5 (some .boolean), Cond.fieldLink RX6 56 "PleatRoads" "walk" "LPleatRoads$Walk;", Cond.methodLink RX6 173 yX5_prepare, Cond.instanceMethod yX5_prepare, Cond.selects RX5 yX5_prepare yX5_prepare]
def wsX6_wants_r2 : List Cond := [Cond.initialized RX5, Cond.code yX5_prepare cX5_prepare 8 none, Cond.fieldLink RX5 27 "PleatRoads$Walk" "road" "LPleatRoads$Road;", Cond.fieldLink RX5 31 "PleatRoads$Road" "travellerKind" "[I", Cond.fieldLink RX5 36 "PleatRoads$Road" "pleats" "I", Cond.fieldLink RX5 21 "PleatRoads$Walk" "tollShut" "[I", Cond.fieldLink RX5 40 "PleatRoads$Standing" "frost" "I", Cond.fieldLink RX5 24 "PleatRoads$Walk" "tollOpen" "[I", Cond.fieldLink RX5 53 "PleatRoads$Road" "breath" "[I", Cond.fieldLink RX5 56 "PleatRoads$Walk" "breath" "I", Cond.fieldLink RX5 58 "PleatRoads$Walk" "isLungs" "Z", Cond.fieldLink RX5 62 "PleatRoads$Standing" "wind" "[I", Cond.fieldLink RX5 65 "PleatRoads$Walk" "startWind" "I", Cond.fieldLink RX5 68 "PleatRoads$Standing" "place" "[I", Cond.fieldLink RX5 71 "PleatRoads$Standing" "open" "I", Cond.fieldLink RX5 77 "PleatRoads$Walk" "startNode" "I", Cond.methodLink RX5 45 yX2_costShut, Cond.instanceMethod yX2_costShut, Cond.selects RX2 yX2_costShut yX2_costShut, Cond.code yX2_costShut cX2_costShut 6 (some .int), Cond.fieldLink RX2 15 "PleatRoads$Road" "pleatKind" "[I", Cond.fieldLink RX2 9 "PleatRoads$Road" "stiffness" "[I", Cond.methodLink RX5 49 yX2_tollFor, Cond.static yX2_tollFor]
def wsX6_wants_r3 : List Cond := [Cond.code yX2_tollFor cX2_tollFor 2 (some .int), Cond.methodLink RX5 74 yX5_modeAt, Cond.static yX5_modeAt, Cond.code yX5_modeAt cX5_modeAt 2 (some .int), Cond.methodLink RX6 264 yX5_places, Cond.instanceMethod yX5_places, Cond.selects RX5 yX5_places yX5_places, Cond.code yX5_places cX5_places 4 (some .int), Cond.fieldLink RX5 18 "PleatRoads$Walk" "queue" "[I", Cond.methodLink RX5 89 yX5_beginAt, Cond.instanceMethod yX5_beginAt, Cond.selects RX5 yX5_beginAt yX5_beginAt, Cond.code yX5_beginAt cX5_beginAt 1 none, Cond.fieldLink RX5 11 "PleatRoads$Walk" "most" "[I", Cond.methodLink RX5 80 yJ7_fill_53178, Cond.static yJ7_fill_53178, Cond.initialized RJ7, Cond.code yJ7_fill_53178 cJ7_fill_53178 4 none, Cond.methodLink RX5 92 yX5_enqueueBeyond, Cond.instanceMethod yX5_enqueueBeyond, Cond.selects RX5 yX5_enqueueBeyond yX5_enqueueBeyond, Cond.code yX5_enqueueBeyond cX5_enqueueBeyond 6 (some .int), Cond.methodLink RX5 96 yX5_windBeyond, Cond.instanceMethod yX5_windBeyond]
def wsX6_wants_r4 : List Cond := [Cond.selects RX5 yX5_windBeyond yX5_windBeyond, Cond.code yX5_windBeyond cX5_windBeyond 7 (some .int), Cond.fieldLink RX5 86 "PleatRoads$Road" "pleatKind" "[I", Cond.methodLink RX5 100 yX5_nodeBeyond, Cond.instanceMethod yX5_nodeBeyond, Cond.selects RX5 yX5_nodeBeyond yX5_nodeBeyond, Cond.code yX5_nodeBeyond cX5_nodeBeyond 5 (some .int), Cond.methodLink RX6 184 yJ6_bitCount_0f7a4, Cond.static yJ6_bitCount_0f7a4, Cond.initialized RJ6, Cond.code yJ6_bitCount_0f7a4 cJ6_bitCount_0f7a4 1 (some .int), Cond.constant RJ6 265 (1431655765), Cond.constant RJ6 266 (858993459), Cond.constant RJ6 267 (252645135)]
def wsX6_wants : List Cond := .code yX6_wants cX6_wants 6 (some .int) :: ((wsX6_wants_r1 ++ (wsX6_wants_r2 ++ (wsX6_wants_r3 ++ wsX6_wants_r4))) ++ wsX60 ++ wsX20 ++ wsX40 ++ wsX50)
def wsX6_shutIn_r1 : List Cond := [Cond.fieldLink RX6 23 "PleatRoads" "road" "LPleatRoads$Road;", Cond.fieldLink RX6 93 "PleatRoads$Road" "travellers" "I", Cond.fieldLink RX6 31 "PleatRoads" "now" "LPleatRoads$Standing;", Cond.fieldLink RX6 118 "PleatRoads$Standing" "place" "[I", Cond.methodLink RX6 166 yX6_reachIn, Cond.instanceMethod yX6_reachIn, Cond.selects RX6 yX6_reachIn yX6_reachIn, Cond.initialized RX6, Cond.code yX6_reachIn cX6_reachIn 3 (some .int), Cond.fieldLink RX6 56 "PleatRoads" "walk" "LPleatRoads$Walk;", Cond.fieldLink RX6 109 "PleatRoads$Standing" "greased" "I", Cond.methodLink RX6 173 yX5_prepare, Cond.instanceMethod yX5_prepare, Cond.selects RX5 yX5_prepare yX5_prepare, Cond.initialized RX5, Cond.code yX5_prepare cX5_prepare 8 none, Cond.fieldLink RX5 27 "PleatRoads$Walk" "road" "LPleatRoads$Road;", Cond.fieldLink RX5 31 "PleatRoads$Road" "travellerKind" "[I", Cond.fieldLink RX5 36 "PleatRoads$Road" "pleats" "I", Cond.fieldLink RX5 21 "PleatRoads$Walk" "tollShut" "[I", Cond.fieldLink RX5 40 "PleatRoads$Standing" "frost" "I", Cond.fieldLink RX5 24 "PleatRoads$Walk" "tollOpen" "[I", Cond.fieldLink RX5 53 "PleatRoads$Road" "breath" "[I", Cond.fieldLink RX5 56 "PleatRoads$Walk" "breath" "I"]
def wsX6_shutIn_r2 : List Cond := [Cond.fieldLink RX5 58 "PleatRoads$Walk" "isLungs" "Z", Cond.fieldLink RX5 62 "PleatRoads$Standing" "wind" "[I", Cond.fieldLink RX5 65 "PleatRoads$Walk" "startWind" "I", Cond.fieldLink RX5 68 "PleatRoads$Standing" "place" "[I", Cond.fieldLink RX5 71 "PleatRoads$Standing" "open" "I", Cond.fieldLink RX5 77 "PleatRoads$Walk" "startNode" "I", Cond.methodLink RX5 45 yX2_costShut, Cond.instanceMethod yX2_costShut, Cond.selects RX2 yX2_costShut yX2_costShut, Cond.initialized RX2, Cond.code yX2_costShut cX2_costShut 6 (some .int), Cond.fieldLink RX2 15 "PleatRoads$Road" "pleatKind" "[I", Cond.fieldLink RX2 9 "PleatRoads$Road" "stiffness" "[I", Cond.methodLink RX5 49 yX2_tollFor, Cond.static yX2_tollFor, Cond.code yX2_tollFor cX2_tollFor 2 (some .int), Cond.methodLink RX5 74 yX5_modeAt, Cond.static yX5_modeAt, Cond.code yX5_modeAt cX5_modeAt 2 (some .int), Cond.methodLink RX6 264 yX5_places, Cond.instanceMethod yX5_places, Cond.selects RX5 yX5_places yX5_places, Cond.code yX5_places cX5_places 4 (some .int), Cond.fieldLink RX5 18 "PleatRoads$Walk" "queue" "[I"]
def wsX6_shutIn_r3 : List Cond := [Cond.methodLink RX5 89 yX5_beginAt, Cond.instanceMethod yX5_beginAt, Cond.selects RX5 yX5_beginAt yX5_beginAt, Cond.code yX5_beginAt cX5_beginAt 1 none, Cond.fieldLink RX5 11 "PleatRoads$Walk" "most" "[I", Cond.methodLink RX5 80 yJ7_fill_53178, Cond.static yJ7_fill_53178, Cond.initialized RJ7, Cond.code yJ7_fill_53178 cJ7_fill_53178 4 none, Cond.methodLink RX5 92 yX5_enqueueBeyond, Cond.instanceMethod yX5_enqueueBeyond, Cond.selects RX5 yX5_enqueueBeyond yX5_enqueueBeyond, Cond.code yX5_enqueueBeyond cX5_enqueueBeyond 6 (some .int), Cond.methodLink RX5 96 yX5_windBeyond, Cond.instanceMethod yX5_windBeyond, Cond.selects RX5 yX5_windBeyond yX5_windBeyond, Cond.code yX5_windBeyond cX5_windBeyond 7 (some .int), Cond.fieldLink RX5 86 "PleatRoads$Road" "pleatKind" "[I", Cond.methodLink RX5 100 yX5_nodeBeyond, Cond.instanceMethod yX5_nodeBeyond, Cond.selects RX5 yX5_nodeBeyond yX5_nodeBeyond, Cond.code yX5_nodeBeyond cX5_nodeBeyond 5 (some .int)]
def wsX6_shutIn : List Cond := .code yX6_shutIn cX6_shutIn 3 (some .int) :: ((wsX6_shutIn_r1 ++ (wsX6_shutIn_r2 ++ wsX6_shutIn_r3)) ++ wsX60 ++ wsX20 ++ wsX40 ++ wsX50)
def wsX6_meet_r1 : List Cond := [Cond.fieldLink RX6 23 "PleatRoads" "road" "LPleatRoads$Road;", Cond.fieldLink RX6 31 "PleatRoads" "now" "LPleatRoads$Standing;", Cond.methodLink RX6 115 yX2_hasTraveller, Cond.instanceMethod yX2_hasTraveller, Cond.selects RX2 yX2_hasTraveller yX2_hasTraveller, Cond.initialized RX2, Cond.code yX2_hasTraveller cX2_hasTraveller 2 (some .boolean), Cond.fieldLink RX2 31 "PleatRoads$Road" "travellers" "I", Cond.methodLink RX6 166 yX6_reachIn, Cond.instanceMethod yX6_reachIn, Cond.selects RX6 yX6_reachIn yX6_reachIn, Cond.initialized RX6, Cond.code yX6_reachIn cX6_reachIn 3 (some .int), Cond.fieldLink RX6 56 "PleatRoads" "walk" "LPleatRoads$Walk;", Cond.fieldLink RX6 109 "PleatRoads$Standing" "greased" "I", Cond.methodLink RX6 173 yX5_prepare, Cond.instanceMethod yX5_prepare, Cond.selects RX5 yX5_prepare yX5_prepare, Cond.initialized RX5, Cond.code yX5_prepare cX5_prepare 8 none, Cond.fieldLink RX5 27 "PleatRoads$Walk" "road" "LPleatRoads$Road;", Cond.fieldLink RX5 31 "PleatRoads$Road" "travellerKind" "[I", Cond.fieldLink RX5 36 "PleatRoads$Road" "pleats" "I", Cond.fieldLink RX5 21 "PleatRoads$Walk" "tollShut" "[I"]
def wsX6_meet_r2 : List Cond := [Cond.fieldLink RX5 40 "PleatRoads$Standing" "frost" "I", Cond.fieldLink RX5 24 "PleatRoads$Walk" "tollOpen" "[I", Cond.fieldLink RX5 53 "PleatRoads$Road" "breath" "[I", Cond.fieldLink RX5 56 "PleatRoads$Walk" "breath" "I", Cond.fieldLink RX5 58 "PleatRoads$Walk" "isLungs" "Z", Cond.fieldLink RX5 62 "PleatRoads$Standing" "wind" "[I", Cond.fieldLink RX5 65 "PleatRoads$Walk" "startWind" "I", Cond.fieldLink RX5 68 "PleatRoads$Standing" "place" "[I", Cond.fieldLink RX5 71 "PleatRoads$Standing" "open" "I", Cond.fieldLink RX5 77 "PleatRoads$Walk" "startNode" "I", Cond.methodLink RX5 45 yX2_costShut, Cond.instanceMethod yX2_costShut, Cond.selects RX2 yX2_costShut yX2_costShut, Cond.code yX2_costShut cX2_costShut 6 (some .int), Cond.fieldLink RX2 15 "PleatRoads$Road" "pleatKind" "[I", Cond.fieldLink RX2 9 "PleatRoads$Road" "stiffness" "[I", Cond.methodLink RX5 49 yX2_tollFor, Cond.static yX2_tollFor, Cond.code yX2_tollFor cX2_tollFor 2 (some .int), Cond.methodLink RX5 74 yX5_modeAt, Cond.static yX5_modeAt, Cond.code yX5_modeAt cX5_modeAt 2 (some .int), Cond.methodLink RX6 264 yX5_places, Cond.instanceMethod yX5_places]
def wsX6_meet_r3 : List Cond := [Cond.selects RX5 yX5_places yX5_places, Cond.code yX5_places cX5_places 4 (some .int), Cond.fieldLink RX5 18 "PleatRoads$Walk" "queue" "[I", Cond.methodLink RX5 89 yX5_beginAt, Cond.instanceMethod yX5_beginAt, Cond.selects RX5 yX5_beginAt yX5_beginAt, Cond.code yX5_beginAt cX5_beginAt 1 none, Cond.fieldLink RX5 11 "PleatRoads$Walk" "most" "[I", Cond.methodLink RX5 80 yJ7_fill_53178, Cond.static yJ7_fill_53178, Cond.initialized RJ7, Cond.code yJ7_fill_53178 cJ7_fill_53178 4 none, Cond.methodLink RX5 92 yX5_enqueueBeyond, Cond.instanceMethod yX5_enqueueBeyond, Cond.selects RX5 yX5_enqueueBeyond yX5_enqueueBeyond, Cond.code yX5_enqueueBeyond cX5_enqueueBeyond 6 (some .int), Cond.methodLink RX5 96 yX5_windBeyond, Cond.instanceMethod yX5_windBeyond, Cond.selects RX5 yX5_windBeyond yX5_windBeyond, Cond.code yX5_windBeyond cX5_windBeyond 7 (some .int), Cond.fieldLink RX5 86 "PleatRoads$Road" "pleatKind" "[I", Cond.methodLink RX5 100 yX5_nodeBeyond, Cond.instanceMethod yX5_nodeBeyond, Cond.selects RX5 yX5_nodeBeyond yX5_nodeBeyond]
def wsX6_meet_r4 : List Cond := [Cond.code yX5_nodeBeyond cX5_nodeBeyond 5 (some .int)]
def wsX6_meet : List Cond := .code yX6_meet cX6_meet 3 (some .int) :: ((wsX6_meet_r1 ++ (wsX6_meet_r2 ++ (wsX6_meet_r3 ++ wsX6_meet_r4))) ++ wsX60 ++ wsX20 ++ wsX40 ++ wsX50)
def wsX6_judge_r1 : List Cond := [Cond.fieldLink RX6 189 "PleatRoads" "THOUSANDS" "[J", Cond.fieldLink RX6 35 "PleatRoads" "supposed" "LPleatRoads$Standing;", Cond.fieldLink RX6 31 "PleatRoads" "now" "LPleatRoads$Standing;", Cond.constantLong RX6 196 (1000), Cond.methodLink RX6 193 yX4_takeFrom, Cond.instanceMethod yX4_takeFrom, Cond.selects RX4 yX4_takeFrom yX4_takeFrom, Cond.initialized RX4, Cond.code yX4_takeFrom cX4_takeFrom 3 none, Cond.fieldLink RX4 9 "PleatRoads$Standing" "place" "[I", Cond.fieldLink RX4 15 "PleatRoads$Standing" "wind" "[I", Cond.fieldLink RX4 38 "PleatRoads$Standing" "greased" "I", Cond.fieldLink RX4 41 "PleatRoads$Standing" "open" "I", Cond.fieldLink RX4 44 "PleatRoads$Standing" "frost" "I", Cond.fieldLink RX4 47 "PleatRoads$Standing" "steps" "I", Cond.methodLink RX6 198 yX4_doTold, Cond.instanceMethod yX4_doTold, Cond.selects RX4 yX4_doTold yX4_doTold, Cond.code yX4_doTold cX4_doTold 4 (some .boolean), Cond.fieldLink RX4 18 "PleatRoads$Standing" "road" "LPleatRoads$Road;", Cond.methodLink RX4 107 yX4_stepIfItCan, Cond.instanceMethod yX4_stepIfItCan, Cond.selects RX4 yX4_stepIfItCan yX4_stepIfItCan, Cond.code yX4_stepIfItCan cX4_stepIfItCan 4 (some .boolean)]
def wsX6_judge_r2 : List Cond := [Cond.methodLink RX4 85 yX4_canStep, Cond.instanceMethod yX4_canStep, Cond.selects RX4 yX4_canStep yX4_canStep, Cond.code yX4_canStep cX4_canStep 4 (some .boolean), Cond.methodLink RX4 73 yX2_hasTraveller, Cond.instanceMethod yX2_hasTraveller, Cond.selects RX2 yX2_hasTraveller yX2_hasTraveller, Cond.initialized RX2, Cond.code yX2_hasTraveller cX2_hasTraveller 2 (some .boolean), Cond.fieldLink RX2 31 "PleatRoads$Road" "travellers" "I", Cond.methodLink RX4 76 yX4_tollBeside, Cond.instanceMethod yX4_tollBeside, Cond.selects RX4 yX4_tollBeside yX4_tollBeside, Cond.code yX4_tollBeside cX4_tollBeside 4 (some .int), Cond.fieldLink RX4 62 "PleatRoads$Road" "travellerKind" "[I", Cond.methodLink RX4 54 yX4_pleatBeside, Cond.instanceMethod yX4_pleatBeside, Cond.selects RX4 yX4_pleatBeside yX4_pleatBeside, Cond.code yX4_pleatBeside cX4_pleatBeside 3 (some .int), Cond.methodLink RX4 58 yX2_hasPleat, Cond.instanceMethod yX2_hasPleat, Cond.selects RX2 yX2_hasPleat yX2_hasPleat, Cond.code yX2_hasPleat cX2_hasPleat 2 (some .boolean), Cond.fieldLink RX2 27 "PleatRoads$Road" "pleats" "I"]
def wsX6_judge_r3 : List Cond := [Cond.methodLink RX4 65 yX4_costOf, Cond.instanceMethod yX4_costOf, Cond.selects RX4 yX4_costOf yX4_costOf, Cond.code yX4_costOf cX4_costOf 2 (some .int), Cond.methodLink RX4 50 yX2_costShut, Cond.instanceMethod yX2_costShut, Cond.selects RX2 yX2_costShut yX2_costShut, Cond.code yX2_costShut cX2_costShut 6 (some .int), Cond.fieldLink RX2 15 "PleatRoads$Road" "pleatKind" "[I", Cond.fieldLink RX2 9 "PleatRoads$Road" "stiffness" "[I", Cond.methodLink RX4 69 yX2_tollFor, Cond.static yX2_tollFor, Cond.code yX2_tollFor cX2_tollFor 2 (some .int), Cond.methodLink RX4 89 yX4_doStep, Cond.instanceMethod yX4_doStep, Cond.selects RX4 yX4_doStep yX4_doStep, Cond.code yX4_doStep cX4_doStep 5 none, Cond.fieldLink RX4 79 "PleatRoads$Road" "pleatKind" "[I", Cond.fieldLink RX4 31 "PleatRoads$Road" "breath" "[I", Cond.methodLink RX4 110 yX4_restIfItCan, Cond.instanceMethod yX4_restIfItCan, Cond.selects RX4 yX4_restIfItCan yX4_restIfItCan, Cond.code yX4_restIfItCan cX4_restIfItCan 3 (some .boolean), Cond.methodLink RX4 93 yX4_doRest]
def wsX6_judge_r4 : List Cond := [Cond.instanceMethod yX4_doRest, Cond.selects RX4 yX4_doRest yX4_doRest, Cond.code yX4_doRest cX4_doRest 2 none, Cond.methodLink RX4 82 yX2_windRested, Cond.static yX2_windRested, Cond.code yX2_windRested cX2_windRested 2 (some .int), Cond.methodLink RX2 34 Lib.Math.max.name, Cond.static Lib.Math.max.name, Cond.initialized "java/lang/Math", Cond.code Lib.Math.max.name Lib.Math.max.code 2 (some .int), Cond.methodLink RX2 40 Lib.Math.min.name, Cond.static Lib.Math.min.name, Cond.code Lib.Math.min.name Lib.Math.min.code 2 (some .int), Cond.methodLink RX4 113 yX4_greaseIfItCan, Cond.instanceMethod yX4_greaseIfItCan, Cond.selects RX4 yX4_greaseIfItCan yX4_greaseIfItCan, Cond.code yX4_greaseIfItCan cX4_greaseIfItCan 3 (some .boolean), Cond.methodLink RX4 97 yX4_canGrease, Cond.instanceMethod yX4_canGrease, Cond.selects RX4 yX4_canGrease yX4_canGrease, Cond.code yX4_canGrease cX4_canGrease 2 (some .boolean), Cond.methodLink RX4 100 yX4_doGrease, Cond.instanceMethod yX4_doGrease, Cond.selects RX4 yX4_doGrease yX4_doGrease]
def wsX6_judge_r5 : List Cond := [Cond.code yX4_doGrease cX4_doGrease 2 none, Cond.methodLink RX4 116 yX4_freezeIfItCan, Cond.instanceMethod yX4_freezeIfItCan, Cond.selects RX4 yX4_freezeIfItCan yX4_freezeIfItCan, Cond.code yX4_freezeIfItCan cX4_freezeIfItCan 2 (some .boolean), Cond.methodLink RX4 103 yX4_canFreeze, Cond.instanceMethod yX4_canFreeze, Cond.selects RX4 yX4_canFreeze yX4_canFreeze, Cond.code yX4_canFreeze cX4_canFreeze 1 (some .boolean)]
def wsX6_judge : List Cond := .code yX6_judge cX6_judge 6 (some .int) :: ((wsX6_judge_r1 ++ (wsX6_judge_r2 ++ (wsX6_judge_r3 ++ (wsX6_judge_r4 ++ wsX6_judge_r5)))) ++ wsX60 ++ wsX40 ++ wsX20)
def wsX6_hear : List Cond := .code yX6_hear cX6_hear 3 (some .int) :: ([.fieldLink RX6 63 "PleatRoads" "hearsay" "LPleatRoads$Hearsay;", .methodLink RX6 202 yX1_append, .instanceMethod yX1_append, .selects RX1 yX1_append yX1_append, .initialized RX1, .code yX1_append cX1_append 3 (some .int), .fieldLink RX1 23 "PleatRoads$Hearsay" "length" "I", .fieldLink RX1 9 "PleatRoads$Hearsay" "place" "[I", .fieldLink RX1 15 "PleatRoads$Hearsay" "came" "[Z"] ++ wsX60 ++ wsX10)
def wsX6_unhear : List Cond := .code yX6_unhear cX6_unhear 2 (some .int) :: ([.fieldLink RX6 63 "PleatRoads" "hearsay" "LPleatRoads$Hearsay;", .fieldLink RX6 204 "PleatRoads$Hearsay" "length" "I"] ++ wsX60 ++ wsX10)
def wsX6_who_r1 : List Cond := [Cond.fieldLink RX6 63 "PleatRoads" "hearsay" "LPleatRoads$Hearsay;", Cond.methodLink RX6 205 yX1_howMany, Cond.instanceMethod yX1_howMany, Cond.selects RX1 yX1_howMany yX1_howMany, Cond.initialized RX1, Cond.code yX1_howMany cX1_howMany 4 (some .int), Cond.methodLink RX1 27 yX1_isOne, Cond.instanceMethod yX1_isOne, Cond.selects RX1 yX1_isOne yX1_isOne, Cond.code yX1_isOne cX1_isOne 5 (some .boolean), Cond.fieldLink RX1 23 "PleatRoads$Hearsay" "length" "I", Cond.fieldLink RX1 9 "PleatRoads$Hearsay" "place" "[I", Cond.fieldLink RX1 15 "PleatRoads$Hearsay" "came" "[Z", Cond.methodLink RX1 31 yX1_farthestOn, Cond.instanceMethod yX1_farthestOn, Cond.selects RX1 yX1_farthestOn yX1_farthestOn, Cond.code yX1_farthestOn cX1_farthestOn 7 (some .int), Cond.fieldLink RX1 19 "PleatRoads$Hearsay" "road" "LPleatRoads$Road;", Cond.fieldLink RX1 41 "PleatRoads$Road" "pleats" "I", Cond.fieldLink RX1 51 "PleatRoads$Road" "pleatKind" "[I", Cond.methodLink RX1 35 yX2_smoothOnes, Cond.instanceMethod yX2_smoothOnes, Cond.selects RX2 yX2_smoothOnes yX2_smoothOnes, Cond.initialized RX2]
def wsX6_who_r2 : List Cond := [Cond.code yX2_smoothOnes cX2_smoothOnes 3 (some .int), Cond.fieldLink RX2 27 "PleatRoads$Road" "pleats" "I", Cond.fieldLink RX2 15 "PleatRoads$Road" "pleatKind" "[I", Cond.methodLink RX1 44 yX2_costShut, Cond.instanceMethod yX2_costShut, Cond.selects RX2 yX2_costShut yX2_costShut, Cond.code yX2_costShut cX2_costShut 6 (some .int), Cond.fieldLink RX2 9 "PleatRoads$Road" "stiffness" "[I", Cond.methodLink RX1 48 yX2_tollFor, Cond.static yX2_tollFor, Cond.code yX2_tollFor cX2_tollFor 2 (some .int), Cond.methodLink RX6 209 yX1_firstOne, Cond.instanceMethod yX1_firstOne, Cond.selects RX1 yX1_firstOne yX1_firstOne, Cond.code yX1_firstOne cX1_firstOne 3 (some .int)]
def wsX6_who : List Cond := .code yX6_who cX6_who 2 (some .int) :: ((wsX6_who_r1 ++ wsX6_who_r2) ++ wsX60 ++ wsX10 ++ wsX20)
def wsX6_howManyReach_r1 : List Cond := [Cond.fieldLink RX6 23 "PleatRoads" "road" "LPleatRoads$Road;", Cond.fieldLink RX6 93 "PleatRoads$Road" "travellers" "I", Cond.fieldLink RX6 31 "PleatRoads" "now" "LPleatRoads$Standing;", Cond.methodLink RX6 166 yX6_reachIn, Cond.instanceMethod yX6_reachIn, Cond.selects RX6 yX6_reachIn yX6_reachIn, Cond.initialized RX6, Cond.code yX6_reachIn cX6_reachIn 3 (some .int), Cond.fieldLink RX6 56 "PleatRoads" "walk" "LPleatRoads$Walk;", Cond.fieldLink RX6 109 "PleatRoads$Standing" "greased" "I", Cond.methodLink RX6 173 yX5_prepare, Cond.instanceMethod yX5_prepare, Cond.selects RX5 yX5_prepare yX5_prepare, Cond.initialized RX5, Cond.code yX5_prepare cX5_prepare 8 none, Cond.fieldLink RX5 27 "PleatRoads$Walk" "road" "LPleatRoads$Road;", Cond.fieldLink RX5 31 "PleatRoads$Road" "travellerKind" "[I", Cond.fieldLink RX5 36 "PleatRoads$Road" "pleats" "I", Cond.fieldLink RX5 21 "PleatRoads$Walk" "tollShut" "[I", Cond.fieldLink RX5 40 "PleatRoads$Standing" "frost" "I", Cond.fieldLink RX5 24 "PleatRoads$Walk" "tollOpen" "[I", Cond.fieldLink RX5 53 "PleatRoads$Road" "breath" "[I", Cond.fieldLink RX5 56 "PleatRoads$Walk" "breath" "I", Cond.fieldLink RX5 58 "PleatRoads$Walk" "isLungs" "Z"]
def wsX6_howManyReach_r2 : List Cond := [Cond.fieldLink RX5 62 "PleatRoads$Standing" "wind" "[I", Cond.fieldLink RX5 65 "PleatRoads$Walk" "startWind" "I", Cond.fieldLink RX5 68 "PleatRoads$Standing" "place" "[I", Cond.fieldLink RX5 71 "PleatRoads$Standing" "open" "I", Cond.fieldLink RX5 77 "PleatRoads$Walk" "startNode" "I", Cond.methodLink RX5 45 yX2_costShut, Cond.instanceMethod yX2_costShut, Cond.selects RX2 yX2_costShut yX2_costShut, Cond.initialized RX2, Cond.code yX2_costShut cX2_costShut 6 (some .int), Cond.fieldLink RX2 15 "PleatRoads$Road" "pleatKind" "[I", Cond.fieldLink RX2 9 "PleatRoads$Road" "stiffness" "[I", Cond.methodLink RX5 49 yX2_tollFor, Cond.static yX2_tollFor, Cond.code yX2_tollFor cX2_tollFor 2 (some .int), Cond.methodLink RX5 74 yX5_modeAt, Cond.static yX5_modeAt, Cond.code yX5_modeAt cX5_modeAt 2 (some .int), Cond.methodLink RX6 264 yX5_places, Cond.instanceMethod yX5_places, Cond.selects RX5 yX5_places yX5_places, Cond.code yX5_places cX5_places 4 (some .int), Cond.fieldLink RX5 18 "PleatRoads$Walk" "queue" "[I", Cond.methodLink RX5 89 yX5_beginAt]
def wsX6_howManyReach_r3 : List Cond := [Cond.instanceMethod yX5_beginAt, Cond.selects RX5 yX5_beginAt yX5_beginAt, Cond.code yX5_beginAt cX5_beginAt 1 none, Cond.fieldLink RX5 11 "PleatRoads$Walk" "most" "[I", Cond.methodLink RX5 80 yJ7_fill_53178, Cond.static yJ7_fill_53178, Cond.initialized RJ7, Cond.code yJ7_fill_53178 cJ7_fill_53178 4 none, Cond.methodLink RX5 92 yX5_enqueueBeyond, Cond.instanceMethod yX5_enqueueBeyond, Cond.selects RX5 yX5_enqueueBeyond yX5_enqueueBeyond, Cond.code yX5_enqueueBeyond cX5_enqueueBeyond 6 (some .int), Cond.methodLink RX5 96 yX5_windBeyond, Cond.instanceMethod yX5_windBeyond, Cond.selects RX5 yX5_windBeyond yX5_windBeyond, Cond.code yX5_windBeyond cX5_windBeyond 7 (some .int), Cond.fieldLink RX5 86 "PleatRoads$Road" "pleatKind" "[I", Cond.methodLink RX5 100 yX5_nodeBeyond, Cond.instanceMethod yX5_nodeBeyond, Cond.selects RX5 yX5_nodeBeyond yX5_nodeBeyond, Cond.code yX5_nodeBeyond cX5_nodeBeyond 5 (some .int)]
def wsX6_howManyReach : List Cond := .code yX6_howManyReach cX6_howManyReach 4 (some .int) :: ((wsX6_howManyReach_r1 ++ (wsX6_howManyReach_r2 ++ wsX6_howManyReach_r3)) ++ wsX60 ++ wsX20 ++ wsX40 ++ wsX50)
def wsX6_sharedPart : List Cond := .code yX6_sharedPart cX6_sharedPart 1 (some .int) :: ([])
def wsX6_commonDivisor : List Cond := .code yX6_commonDivisor cX6_commonDivisor 6 (some .int) :: ([])
def wsX6_fraction : List Cond := .code yX6_fraction cX6_fraction 4 (some .int) :: ([.methodLink RX6 267 yX6_commonDivisor, .static yX6_commonDivisor, .initialized RX6, .code yX6_commonDivisor cX6_commonDivisor 6 (some .int)])
def wsX6_share_r1 : List Cond := [Cond.fieldLink RX6 23 "PleatRoads" "road" "LPleatRoads$Road;", Cond.fieldLink RX6 31 "PleatRoads" "now" "LPleatRoads$Standing;", Cond.fieldLink RX6 90 "PleatRoads$Road" "pleats" "I", Cond.methodLink RX6 115 yX2_hasTraveller, Cond.instanceMethod yX2_hasTraveller, Cond.selects RX2 yX2_hasTraveller yX2_hasTraveller, Cond.initialized RX2, Cond.code yX2_hasTraveller cX2_hasTraveller 2 (some .boolean), Cond.fieldLink RX2 31 "PleatRoads$Road" "travellers" "I", Cond.methodLink RX6 166 yX6_reachIn, Cond.instanceMethod yX6_reachIn, Cond.selects RX6 yX6_reachIn yX6_reachIn, Cond.initialized RX6, Cond.code yX6_reachIn cX6_reachIn 3 (some .int), Cond.fieldLink RX6 56 "PleatRoads" "walk" "LPleatRoads$Walk;", Cond.fieldLink RX6 109 "PleatRoads$Standing" "greased" "I", Cond.methodLink RX6 173 yX5_prepare, Cond.instanceMethod yX5_prepare, Cond.selects RX5 yX5_prepare yX5_prepare, Cond.initialized RX5, Cond.code yX5_prepare cX5_prepare 8 none, Cond.fieldLink RX5 27 "PleatRoads$Walk" "road" "LPleatRoads$Road;", Cond.fieldLink RX5 31 "PleatRoads$Road" "travellerKind" "[I", Cond.fieldLink RX5 36 "PleatRoads$Road" "pleats" "I"]
def wsX6_share_r2 : List Cond := [Cond.fieldLink RX5 21 "PleatRoads$Walk" "tollShut" "[I", Cond.fieldLink RX5 40 "PleatRoads$Standing" "frost" "I", Cond.fieldLink RX5 24 "PleatRoads$Walk" "tollOpen" "[I", Cond.fieldLink RX5 53 "PleatRoads$Road" "breath" "[I", Cond.fieldLink RX5 56 "PleatRoads$Walk" "breath" "I", Cond.fieldLink RX5 58 "PleatRoads$Walk" "isLungs" "Z", Cond.fieldLink RX5 62 "PleatRoads$Standing" "wind" "[I", Cond.fieldLink RX5 65 "PleatRoads$Walk" "startWind" "I", Cond.fieldLink RX5 68 "PleatRoads$Standing" "place" "[I", Cond.fieldLink RX5 71 "PleatRoads$Standing" "open" "I", Cond.fieldLink RX5 77 "PleatRoads$Walk" "startNode" "I", Cond.methodLink RX5 45 yX2_costShut, Cond.instanceMethod yX2_costShut, Cond.selects RX2 yX2_costShut yX2_costShut, Cond.code yX2_costShut cX2_costShut 6 (some .int), Cond.fieldLink RX2 15 "PleatRoads$Road" "pleatKind" "[I", Cond.fieldLink RX2 9 "PleatRoads$Road" "stiffness" "[I", Cond.methodLink RX5 49 yX2_tollFor, Cond.static yX2_tollFor, Cond.code yX2_tollFor cX2_tollFor 2 (some .int), Cond.methodLink RX5 74 yX5_modeAt, Cond.static yX5_modeAt, Cond.code yX5_modeAt cX5_modeAt 2 (some .int), Cond.methodLink RX6 264 yX5_places]
def wsX6_share_r3 : List Cond := [Cond.instanceMethod yX5_places, Cond.selects RX5 yX5_places yX5_places, Cond.code yX5_places cX5_places 4 (some .int), Cond.fieldLink RX5 18 "PleatRoads$Walk" "queue" "[I", Cond.methodLink RX5 89 yX5_beginAt, Cond.instanceMethod yX5_beginAt, Cond.selects RX5 yX5_beginAt yX5_beginAt, Cond.code yX5_beginAt cX5_beginAt 1 none, Cond.fieldLink RX5 11 "PleatRoads$Walk" "most" "[I", Cond.methodLink RX5 80 yJ7_fill_53178, Cond.static yJ7_fill_53178, Cond.initialized RJ7, Cond.code yJ7_fill_53178 cJ7_fill_53178 4 none, Cond.methodLink RX5 92 yX5_enqueueBeyond, Cond.instanceMethod yX5_enqueueBeyond, Cond.selects RX5 yX5_enqueueBeyond yX5_enqueueBeyond, Cond.code yX5_enqueueBeyond cX5_enqueueBeyond 6 (some .int), Cond.methodLink RX5 96 yX5_windBeyond, Cond.instanceMethod yX5_windBeyond, Cond.selects RX5 yX5_windBeyond yX5_windBeyond, Cond.code yX5_windBeyond cX5_windBeyond 7 (some .int), Cond.fieldLink RX5 86 "PleatRoads$Road" "pleatKind" "[I", Cond.methodLink RX5 100 yX5_nodeBeyond, Cond.instanceMethod yX5_nodeBeyond]
def wsX6_share_r4 : List Cond := [Cond.selects RX5 yX5_nodeBeyond yX5_nodeBeyond, Cond.code yX5_nodeBeyond cX5_nodeBeyond 5 (some .int), Cond.methodLink RX6 212 yX6_howManyReach, Cond.instanceMethod yX6_howManyReach, Cond.selects RX6 yX6_howManyReach yX6_howManyReach, Cond.code yX6_howManyReach cX6_howManyReach 4 (some .int), Cond.fieldLink RX6 93 "PleatRoads$Road" "travellers" "I", Cond.methodLink RX6 215 yX6_sharedPart, Cond.static yX6_sharedPart, Cond.code yX6_sharedPart cX6_sharedPart 1 (some .int), Cond.methodLink RX6 218 yX6_fraction, Cond.static yX6_fraction, Cond.code yX6_fraction cX6_fraction 4 (some .int), Cond.methodLink RX6 267 yX6_commonDivisor, Cond.static yX6_commonDivisor, Cond.code yX6_commonDivisor cX6_commonDivisor 6 (some .int)]
def wsX6_share : List Cond := .code yX6_share cX6_share 6 (some .int) :: ((wsX6_share_r1 ++ (wsX6_share_r2 ++ (wsX6_share_r3 ++ wsX6_share_r4))) ++ wsX60 ++ wsX20 ++ wsX40 ++ wsX50)
def wsX6_gainOfPlaces_r1 : List Cond := [Cond.fieldLink RX6 35 "PleatRoads" "supposed" "LPleatRoads$Standing;", Cond.fieldLink RX6 118 "PleatRoads$Standing" "place" "[I", Cond.methodLink RX6 166 yX6_reachIn, Cond.instanceMethod yX6_reachIn, Cond.selects RX6 yX6_reachIn yX6_reachIn, Cond.initialized RX6, Cond.code yX6_reachIn cX6_reachIn 3 (some .int), Cond.fieldLink RX6 56 "PleatRoads" "walk" "LPleatRoads$Walk;", Cond.fieldLink RX6 109 "PleatRoads$Standing" "greased" "I", Cond.methodLink RX6 173 yX5_prepare, Cond.instanceMethod yX5_prepare, Cond.selects RX5 yX5_prepare yX5_prepare, Cond.initialized RX5, Cond.code yX5_prepare cX5_prepare 8 none, Cond.fieldLink RX5 27 "PleatRoads$Walk" "road" "LPleatRoads$Road;", Cond.fieldLink RX5 31 "PleatRoads$Road" "travellerKind" "[I", Cond.fieldLink RX5 36 "PleatRoads$Road" "pleats" "I", Cond.fieldLink RX5 21 "PleatRoads$Walk" "tollShut" "[I", Cond.fieldLink RX5 40 "PleatRoads$Standing" "frost" "I", Cond.fieldLink RX5 24 "PleatRoads$Walk" "tollOpen" "[I", Cond.fieldLink RX5 53 "PleatRoads$Road" "breath" "[I", Cond.fieldLink RX5 56 "PleatRoads$Walk" "breath" "I", Cond.fieldLink RX5 58 "PleatRoads$Walk" "isLungs" "Z", Cond.fieldLink RX5 62 "PleatRoads$Standing" "wind" "[I"]
def wsX6_gainOfPlaces_r2 : List Cond := [Cond.fieldLink RX5 65 "PleatRoads$Walk" "startWind" "I", Cond.fieldLink RX5 68 "PleatRoads$Standing" "place" "[I", Cond.fieldLink RX5 71 "PleatRoads$Standing" "open" "I", Cond.fieldLink RX5 77 "PleatRoads$Walk" "startNode" "I", Cond.methodLink RX5 45 yX2_costShut, Cond.instanceMethod yX2_costShut, Cond.selects RX2 yX2_costShut yX2_costShut, Cond.initialized RX2, Cond.code yX2_costShut cX2_costShut 6 (some .int), Cond.fieldLink RX2 15 "PleatRoads$Road" "pleatKind" "[I", Cond.fieldLink RX2 9 "PleatRoads$Road" "stiffness" "[I", Cond.methodLink RX5 49 yX2_tollFor, Cond.static yX2_tollFor, Cond.code yX2_tollFor cX2_tollFor 2 (some .int), Cond.methodLink RX5 74 yX5_modeAt, Cond.static yX5_modeAt, Cond.code yX5_modeAt cX5_modeAt 2 (some .int), Cond.methodLink RX6 264 yX5_places, Cond.instanceMethod yX5_places, Cond.selects RX5 yX5_places yX5_places, Cond.code yX5_places cX5_places 4 (some .int), Cond.fieldLink RX5 18 "PleatRoads$Walk" "queue" "[I", Cond.methodLink RX5 89 yX5_beginAt, Cond.instanceMethod yX5_beginAt]
def wsX6_gainOfPlaces_r3 : List Cond := [Cond.selects RX5 yX5_beginAt yX5_beginAt, Cond.code yX5_beginAt cX5_beginAt 1 none, Cond.fieldLink RX5 11 "PleatRoads$Walk" "most" "[I", Cond.methodLink RX5 80 yJ7_fill_53178, Cond.static yJ7_fill_53178, Cond.initialized RJ7, Cond.code yJ7_fill_53178 cJ7_fill_53178 4 none, Cond.methodLink RX5 92 yX5_enqueueBeyond, Cond.instanceMethod yX5_enqueueBeyond, Cond.selects RX5 yX5_enqueueBeyond yX5_enqueueBeyond, Cond.code yX5_enqueueBeyond cX5_enqueueBeyond 6 (some .int), Cond.methodLink RX5 96 yX5_windBeyond, Cond.instanceMethod yX5_windBeyond, Cond.selects RX5 yX5_windBeyond yX5_windBeyond, Cond.code yX5_windBeyond cX5_windBeyond 7 (some .int), Cond.fieldLink RX5 86 "PleatRoads$Road" "pleatKind" "[I", Cond.methodLink RX5 100 yX5_nodeBeyond, Cond.instanceMethod yX5_nodeBeyond, Cond.selects RX5 yX5_nodeBeyond yX5_nodeBeyond, Cond.code yX5_nodeBeyond cX5_nodeBeyond 5 (some .int)]
def wsX6_gainOfPlaces : List Cond := .code yX6_gainOfPlaces cX6_gainOfPlaces 4 (some .int) :: ((wsX6_gainOfPlaces_r1 ++ (wsX6_gainOfPlaces_r2 ++ wsX6_gainOfPlaces_r3)) ++ wsX60 ++ wsX40 ++ wsX50 ++ wsX20)
def wsX6_tryPair_r1 : List Cond := [Cond.fieldLink RX6 35 "PleatRoads" "supposed" "LPleatRoads$Standing;", Cond.fieldLink RX6 31 "PleatRoads" "now" "LPleatRoads$Standing;", Cond.fieldLink RX6 67 "PleatRoads" "gainsOfOne" "[I", Cond.fieldLink RX6 71 "PleatRoads" "gainsOfOther" "[I", Cond.methodLink RX6 193 yX4_takeFrom, Cond.instanceMethod yX4_takeFrom, Cond.selects RX4 yX4_takeFrom yX4_takeFrom, Cond.initialized RX4, Cond.code yX4_takeFrom cX4_takeFrom 3 none, Cond.fieldLink RX4 9 "PleatRoads$Standing" "place" "[I", Cond.fieldLink RX4 15 "PleatRoads$Standing" "wind" "[I", Cond.fieldLink RX4 38 "PleatRoads$Standing" "greased" "I", Cond.fieldLink RX4 41 "PleatRoads$Standing" "open" "I", Cond.fieldLink RX4 44 "PleatRoads$Standing" "frost" "I", Cond.fieldLink RX4 47 "PleatRoads$Standing" "steps" "I", Cond.methodLink RX6 270 yX4_stepIfItCan, Cond.instanceMethod yX4_stepIfItCan, Cond.selects RX4 yX4_stepIfItCan yX4_stepIfItCan, Cond.code yX4_stepIfItCan cX4_stepIfItCan 4 (some .boolean), Cond.methodLink RX4 85 yX4_canStep, Cond.instanceMethod yX4_canStep, Cond.selects RX4 yX4_canStep yX4_canStep, Cond.code yX4_canStep cX4_canStep 4 (some .boolean), Cond.fieldLink RX4 18 "PleatRoads$Standing" "road" "LPleatRoads$Road;"]
def wsX6_tryPair_r2 : List Cond := [Cond.methodLink RX4 73 yX2_hasTraveller, Cond.instanceMethod yX2_hasTraveller, Cond.selects RX2 yX2_hasTraveller yX2_hasTraveller, Cond.initialized RX2, Cond.code yX2_hasTraveller cX2_hasTraveller 2 (some .boolean), Cond.fieldLink RX2 31 "PleatRoads$Road" "travellers" "I", Cond.methodLink RX4 76 yX4_tollBeside, Cond.instanceMethod yX4_tollBeside, Cond.selects RX4 yX4_tollBeside yX4_tollBeside, Cond.code yX4_tollBeside cX4_tollBeside 4 (some .int), Cond.fieldLink RX4 62 "PleatRoads$Road" "travellerKind" "[I", Cond.methodLink RX4 54 yX4_pleatBeside, Cond.instanceMethod yX4_pleatBeside, Cond.selects RX4 yX4_pleatBeside yX4_pleatBeside, Cond.code yX4_pleatBeside cX4_pleatBeside 3 (some .int), Cond.methodLink RX4 58 yX2_hasPleat, Cond.instanceMethod yX2_hasPleat, Cond.selects RX2 yX2_hasPleat yX2_hasPleat, Cond.code yX2_hasPleat cX2_hasPleat 2 (some .boolean), Cond.fieldLink RX2 27 "PleatRoads$Road" "pleats" "I", Cond.methodLink RX4 65 yX4_costOf, Cond.instanceMethod yX4_costOf, Cond.selects RX4 yX4_costOf yX4_costOf, Cond.code yX4_costOf cX4_costOf 2 (some .int)]
def wsX6_tryPair_r3 : List Cond := [Cond.methodLink RX4 50 yX2_costShut, Cond.instanceMethod yX2_costShut, Cond.selects RX2 yX2_costShut yX2_costShut, Cond.code yX2_costShut cX2_costShut 6 (some .int), Cond.fieldLink RX2 15 "PleatRoads$Road" "pleatKind" "[I", Cond.fieldLink RX2 9 "PleatRoads$Road" "stiffness" "[I", Cond.methodLink RX4 69 yX2_tollFor, Cond.static yX2_tollFor, Cond.code yX2_tollFor cX2_tollFor 2 (some .int), Cond.methodLink RX4 89 yX4_doStep, Cond.instanceMethod yX4_doStep, Cond.selects RX4 yX4_doStep yX4_doStep, Cond.code yX4_doStep cX4_doStep 5 none, Cond.fieldLink RX4 79 "PleatRoads$Road" "pleatKind" "[I", Cond.fieldLink RX4 31 "PleatRoads$Road" "breath" "[I", Cond.methodLink RX6 273 yX6_gainOfPlaces, Cond.instanceMethod yX6_gainOfPlaces, Cond.selects RX6 yX6_gainOfPlaces yX6_gainOfPlaces, Cond.initialized RX6, Cond.code yX6_gainOfPlaces cX6_gainOfPlaces 4 (some .int), Cond.fieldLink RX6 118 "PleatRoads$Standing" "place" "[I", Cond.methodLink RX6 166 yX6_reachIn, Cond.instanceMethod yX6_reachIn, Cond.selects RX6 yX6_reachIn yX6_reachIn]
def wsX6_tryPair_r4 : List Cond := [Cond.code yX6_reachIn cX6_reachIn 3 (some .int), Cond.fieldLink RX6 56 "PleatRoads" "walk" "LPleatRoads$Walk;", Cond.fieldLink RX6 109 "PleatRoads$Standing" "greased" "I", Cond.methodLink RX6 173 yX5_prepare, Cond.instanceMethod yX5_prepare, Cond.selects RX5 yX5_prepare yX5_prepare, Cond.initialized RX5, Cond.code yX5_prepare cX5_prepare 8 none, Cond.fieldLink RX5 27 "PleatRoads$Walk" "road" "LPleatRoads$Road;", Cond.fieldLink RX5 31 "PleatRoads$Road" "travellerKind" "[I", Cond.fieldLink RX5 36 "PleatRoads$Road" "pleats" "I", Cond.fieldLink RX5 21 "PleatRoads$Walk" "tollShut" "[I", Cond.fieldLink RX5 40 "PleatRoads$Standing" "frost" "I", Cond.fieldLink RX5 24 "PleatRoads$Walk" "tollOpen" "[I", Cond.fieldLink RX5 53 "PleatRoads$Road" "breath" "[I", Cond.fieldLink RX5 56 "PleatRoads$Walk" "breath" "I", Cond.fieldLink RX5 58 "PleatRoads$Walk" "isLungs" "Z", Cond.fieldLink RX5 62 "PleatRoads$Standing" "wind" "[I", Cond.fieldLink RX5 65 "PleatRoads$Walk" "startWind" "I", Cond.fieldLink RX5 68 "PleatRoads$Standing" "place" "[I", Cond.fieldLink RX5 71 "PleatRoads$Standing" "open" "I", Cond.fieldLink RX5 77 "PleatRoads$Walk" "startNode" "I", Cond.methodLink RX5 45 yX2_costShut, Cond.methodLink RX5 49 yX2_tollFor]
def wsX6_tryPair_r5 : List Cond := [Cond.methodLink RX5 74 yX5_modeAt, Cond.static yX5_modeAt, Cond.code yX5_modeAt cX5_modeAt 2 (some .int), Cond.methodLink RX6 264 yX5_places, Cond.instanceMethod yX5_places, Cond.selects RX5 yX5_places yX5_places, Cond.code yX5_places cX5_places 4 (some .int), Cond.fieldLink RX5 18 "PleatRoads$Walk" "queue" "[I", Cond.methodLink RX5 89 yX5_beginAt, Cond.instanceMethod yX5_beginAt, Cond.selects RX5 yX5_beginAt yX5_beginAt, Cond.code yX5_beginAt cX5_beginAt 1 none, Cond.fieldLink RX5 11 "PleatRoads$Walk" "most" "[I", Cond.methodLink RX5 80 yJ7_fill_53178, Cond.static yJ7_fill_53178, Cond.initialized RJ7, Cond.code yJ7_fill_53178 cJ7_fill_53178 4 none, Cond.methodLink RX5 92 yX5_enqueueBeyond, Cond.instanceMethod yX5_enqueueBeyond, Cond.selects RX5 yX5_enqueueBeyond yX5_enqueueBeyond, Cond.code yX5_enqueueBeyond cX5_enqueueBeyond 6 (some .int), Cond.methodLink RX5 96 yX5_windBeyond, Cond.instanceMethod yX5_windBeyond, Cond.selects RX5 yX5_windBeyond yX5_windBeyond]
def wsX6_tryPair_r6 : List Cond := [Cond.code yX5_windBeyond cX5_windBeyond 7 (some .int), Cond.fieldLink RX5 86 "PleatRoads$Road" "pleatKind" "[I", Cond.methodLink RX5 100 yX5_nodeBeyond, Cond.instanceMethod yX5_nodeBeyond, Cond.selects RX5 yX5_nodeBeyond yX5_nodeBeyond, Cond.code yX5_nodeBeyond cX5_nodeBeyond 5 (some .int)]
def wsX6_tryPair : List Cond := .code yX6_tryPair cX6_tryPair 8 none :: ((wsX6_tryPair_r1 ++ (wsX6_tryPair_r2 ++ (wsX6_tryPair_r3 ++ (wsX6_tryPair_r4 ++ (wsX6_tryPair_r5 ++ wsX6_tryPair_r6))))) ++ wsX60 ++ wsX40 ++ wsX20 ++ wsX50)
def wsX6_isAtRest : List Cond := .code yX6_isAtRest cX6_isAtRest 5 (some .boolean) :: ([.fieldLink RX6 67 "PleatRoads" "gainsOfOne" "[I", .fieldLink RX6 71 "PleatRoads" "gainsOfOther" "[I"] ++ wsX60)
def wsX6_pairsAtRest : List Cond := .code yX6_pairsAtRest cX6_pairsAtRest 3 (some .int) :: ([.methodLink RX6 276 yX6_isAtRest, .instanceMethod yX6_isAtRest, .selects RX6 yX6_isAtRest yX6_isAtRest, .initialized RX6, .code yX6_isAtRest cX6_isAtRest 5 (some .boolean), .fieldLink RX6 67 "PleatRoads" "gainsOfOne" "[I", .fieldLink RX6 71 "PleatRoads" "gainsOfOther" "[I"] ++ wsX60)
def wsX6_firstPairAtRest : List Cond := .code yX6_firstPairAtRest cX6_firstPairAtRest 2 (some .int) :: ([.methodLink RX6 276 yX6_isAtRest, .instanceMethod yX6_isAtRest, .selects RX6 yX6_isAtRest yX6_isAtRest, .initialized RX6, .code yX6_isAtRest cX6_isAtRest 5 (some .boolean), .fieldLink RX6 67 "PleatRoads" "gainsOfOne" "[I", .fieldLink RX6 71 "PleatRoads" "gainsOfOther" "[I"] ++ wsX60)
def wsX6_rests_r1 : List Cond := [Cond.fieldLink RX6 23 "PleatRoads" "road" "LPleatRoads$Road;", Cond.methodLink RX6 115 yX2_hasTraveller, Cond.instanceMethod yX2_hasTraveller, Cond.selects RX2 yX2_hasTraveller yX2_hasTraveller, Cond.initialized RX2, Cond.code yX2_hasTraveller cX2_hasTraveller 2 (some .boolean), Cond.fieldLink RX2 31 "PleatRoads$Road" "travellers" "I", Cond.methodLink RX6 222 yX6_tryPair, Cond.instanceMethod yX6_tryPair, Cond.selects RX6 yX6_tryPair yX6_tryPair, Cond.initialized RX6, Cond.code yX6_tryPair cX6_tryPair 8 none, Cond.fieldLink RX6 35 "PleatRoads" "supposed" "LPleatRoads$Standing;", Cond.fieldLink RX6 31 "PleatRoads" "now" "LPleatRoads$Standing;", Cond.fieldLink RX6 67 "PleatRoads" "gainsOfOne" "[I", Cond.fieldLink RX6 71 "PleatRoads" "gainsOfOther" "[I", Cond.methodLink RX6 193 yX4_takeFrom, Cond.instanceMethod yX4_takeFrom, Cond.selects RX4 yX4_takeFrom yX4_takeFrom, Cond.initialized RX4, Cond.code yX4_takeFrom cX4_takeFrom 3 none, Cond.fieldLink RX4 9 "PleatRoads$Standing" "place" "[I", Cond.fieldLink RX4 15 "PleatRoads$Standing" "wind" "[I", Cond.fieldLink RX4 38 "PleatRoads$Standing" "greased" "I"]
def wsX6_rests_r2 : List Cond := [Cond.fieldLink RX4 41 "PleatRoads$Standing" "open" "I", Cond.fieldLink RX4 44 "PleatRoads$Standing" "frost" "I", Cond.fieldLink RX4 47 "PleatRoads$Standing" "steps" "I", Cond.methodLink RX6 270 yX4_stepIfItCan, Cond.instanceMethod yX4_stepIfItCan, Cond.selects RX4 yX4_stepIfItCan yX4_stepIfItCan, Cond.code yX4_stepIfItCan cX4_stepIfItCan 4 (some .boolean), Cond.methodLink RX4 85 yX4_canStep, Cond.instanceMethod yX4_canStep, Cond.selects RX4 yX4_canStep yX4_canStep, Cond.code yX4_canStep cX4_canStep 4 (some .boolean), Cond.fieldLink RX4 18 "PleatRoads$Standing" "road" "LPleatRoads$Road;", Cond.methodLink RX4 73 yX2_hasTraveller, Cond.methodLink RX4 76 yX4_tollBeside, Cond.instanceMethod yX4_tollBeside, Cond.selects RX4 yX4_tollBeside yX4_tollBeside, Cond.code yX4_tollBeside cX4_tollBeside 4 (some .int), Cond.fieldLink RX4 62 "PleatRoads$Road" "travellerKind" "[I", Cond.methodLink RX4 54 yX4_pleatBeside, Cond.instanceMethod yX4_pleatBeside, Cond.selects RX4 yX4_pleatBeside yX4_pleatBeside, Cond.code yX4_pleatBeside cX4_pleatBeside 3 (some .int), Cond.methodLink RX4 58 yX2_hasPleat, Cond.instanceMethod yX2_hasPleat]
def wsX6_rests_r3 : List Cond := [Cond.selects RX2 yX2_hasPleat yX2_hasPleat, Cond.code yX2_hasPleat cX2_hasPleat 2 (some .boolean), Cond.fieldLink RX2 27 "PleatRoads$Road" "pleats" "I", Cond.methodLink RX4 65 yX4_costOf, Cond.instanceMethod yX4_costOf, Cond.selects RX4 yX4_costOf yX4_costOf, Cond.code yX4_costOf cX4_costOf 2 (some .int), Cond.methodLink RX4 50 yX2_costShut, Cond.instanceMethod yX2_costShut, Cond.selects RX2 yX2_costShut yX2_costShut, Cond.code yX2_costShut cX2_costShut 6 (some .int), Cond.fieldLink RX2 15 "PleatRoads$Road" "pleatKind" "[I", Cond.fieldLink RX2 9 "PleatRoads$Road" "stiffness" "[I", Cond.methodLink RX4 69 yX2_tollFor, Cond.static yX2_tollFor, Cond.code yX2_tollFor cX2_tollFor 2 (some .int), Cond.methodLink RX4 89 yX4_doStep, Cond.instanceMethod yX4_doStep, Cond.selects RX4 yX4_doStep yX4_doStep, Cond.code yX4_doStep cX4_doStep 5 none, Cond.fieldLink RX4 79 "PleatRoads$Road" "pleatKind" "[I", Cond.fieldLink RX4 31 "PleatRoads$Road" "breath" "[I", Cond.methodLink RX6 273 yX6_gainOfPlaces, Cond.instanceMethod yX6_gainOfPlaces]
def wsX6_rests_r4 : List Cond := [Cond.selects RX6 yX6_gainOfPlaces yX6_gainOfPlaces, Cond.code yX6_gainOfPlaces cX6_gainOfPlaces 4 (some .int), Cond.fieldLink RX6 118 "PleatRoads$Standing" "place" "[I", Cond.methodLink RX6 166 yX6_reachIn, Cond.instanceMethod yX6_reachIn, Cond.selects RX6 yX6_reachIn yX6_reachIn, Cond.code yX6_reachIn cX6_reachIn 3 (some .int), Cond.fieldLink RX6 56 "PleatRoads" "walk" "LPleatRoads$Walk;", Cond.fieldLink RX6 109 "PleatRoads$Standing" "greased" "I", Cond.methodLink RX6 173 yX5_prepare, Cond.instanceMethod yX5_prepare, Cond.selects RX5 yX5_prepare yX5_prepare, Cond.initialized RX5, Cond.code yX5_prepare cX5_prepare 8 none, Cond.fieldLink RX5 27 "PleatRoads$Walk" "road" "LPleatRoads$Road;", Cond.fieldLink RX5 31 "PleatRoads$Road" "travellerKind" "[I", Cond.fieldLink RX5 36 "PleatRoads$Road" "pleats" "I", Cond.fieldLink RX5 21 "PleatRoads$Walk" "tollShut" "[I", Cond.fieldLink RX5 40 "PleatRoads$Standing" "frost" "I", Cond.fieldLink RX5 24 "PleatRoads$Walk" "tollOpen" "[I", Cond.fieldLink RX5 53 "PleatRoads$Road" "breath" "[I", Cond.fieldLink RX5 56 "PleatRoads$Walk" "breath" "I", Cond.fieldLink RX5 58 "PleatRoads$Walk" "isLungs" "Z", Cond.fieldLink RX5 62 "PleatRoads$Standing" "wind" "[I"]
def wsX6_rests_r5 : List Cond := [Cond.fieldLink RX5 65 "PleatRoads$Walk" "startWind" "I", Cond.fieldLink RX5 68 "PleatRoads$Standing" "place" "[I", Cond.fieldLink RX5 71 "PleatRoads$Standing" "open" "I", Cond.fieldLink RX5 77 "PleatRoads$Walk" "startNode" "I", Cond.methodLink RX5 45 yX2_costShut, Cond.methodLink RX5 49 yX2_tollFor, Cond.methodLink RX5 74 yX5_modeAt, Cond.static yX5_modeAt, Cond.code yX5_modeAt cX5_modeAt 2 (some .int), Cond.methodLink RX6 264 yX5_places, Cond.instanceMethod yX5_places, Cond.selects RX5 yX5_places yX5_places, Cond.code yX5_places cX5_places 4 (some .int), Cond.fieldLink RX5 18 "PleatRoads$Walk" "queue" "[I", Cond.methodLink RX5 89 yX5_beginAt, Cond.instanceMethod yX5_beginAt, Cond.selects RX5 yX5_beginAt yX5_beginAt, Cond.code yX5_beginAt cX5_beginAt 1 none, Cond.fieldLink RX5 11 "PleatRoads$Walk" "most" "[I", Cond.methodLink RX5 80 yJ7_fill_53178, Cond.static yJ7_fill_53178, Cond.initialized RJ7, Cond.code yJ7_fill_53178 cJ7_fill_53178 4 none, Cond.methodLink RX5 92 yX5_enqueueBeyond]
def wsX6_rests_r6 : List Cond := [Cond.instanceMethod yX5_enqueueBeyond, Cond.selects RX5 yX5_enqueueBeyond yX5_enqueueBeyond, Cond.code yX5_enqueueBeyond cX5_enqueueBeyond 6 (some .int), Cond.methodLink RX5 96 yX5_windBeyond, Cond.instanceMethod yX5_windBeyond, Cond.selects RX5 yX5_windBeyond yX5_windBeyond, Cond.code yX5_windBeyond cX5_windBeyond 7 (some .int), Cond.fieldLink RX5 86 "PleatRoads$Road" "pleatKind" "[I", Cond.methodLink RX5 100 yX5_nodeBeyond, Cond.instanceMethod yX5_nodeBeyond, Cond.selects RX5 yX5_nodeBeyond yX5_nodeBeyond, Cond.code yX5_nodeBeyond cX5_nodeBeyond 5 (some .int), Cond.methodLink RX6 226 yX6_pairsAtRest, Cond.instanceMethod yX6_pairsAtRest, Cond.selects RX6 yX6_pairsAtRest yX6_pairsAtRest, Cond.code yX6_pairsAtRest cX6_pairsAtRest 3 (some .int), Cond.methodLink RX6 276 yX6_isAtRest, Cond.instanceMethod yX6_isAtRest, Cond.selects RX6 yX6_isAtRest yX6_isAtRest, Cond.code yX6_isAtRest cX6_isAtRest 5 (some .boolean), Cond.methodLink RX6 229 yX6_firstPairAtRest, Cond.instanceMethod yX6_firstPairAtRest, Cond.selects RX6 yX6_firstPairAtRest yX6_firstPairAtRest, Cond.code yX6_firstPairAtRest cX6_firstPairAtRest 2 (some .int)]
def wsX6_rests : List Cond := .code yX6_rests cX6_rests 5 (some .int) :: ((wsX6_rests_r1 ++ (wsX6_rests_r2 ++ (wsX6_rests_r3 ++ (wsX6_rests_r4 ++ (wsX6_rests_r5 ++ wsX6_rests_r6))))) ++ wsX60 ++ wsX20 ++ wsX40 ++ wsX50)
def wsX6_power : List Cond := .code yX6_power cX6_power 4 (some .int) :: ([])
def wsX6_icy_r1 : List Cond := [Cond.fieldLink RX6 23 "PleatRoads" "road" "LPleatRoads$Road;", Cond.fieldLink RX6 31 "PleatRoads" "now" "LPleatRoads$Standing;", Cond.fieldLink RX6 109 "PleatRoads$Standing" "greased" "I", Cond.methodLink RX6 115 yX2_hasTraveller, Cond.instanceMethod yX2_hasTraveller, Cond.selects RX2 yX2_hasTraveller yX2_hasTraveller, Cond.initialized RX2, Cond.code yX2_hasTraveller cX2_hasTraveller 2 (some .boolean), Cond.fieldLink RX2 31 "PleatRoads$Road" "travellers" "I", Cond.methodLink RX6 170 yX2_hasPlace, Cond.instanceMethod yX2_hasPlace, Cond.selects RX2 yX2_hasPlace yX2_hasPlace, Cond.code yX2_hasPlace cX2_hasPlace 2 (some .boolean), Cond.fieldLink RX2 27 "PleatRoads$Road" "pleats" "I", Cond.methodLink RX6 232 yX2_canBeIced, Cond.instanceMethod yX2_canBeIced, Cond.selects RX2 yX2_canBeIced yX2_canBeIced, Cond.code yX2_canBeIced cX2_canBeIced 3 (some .int), Cond.fieldLink RX2 15 "PleatRoads$Road" "pleatKind" "[I", Cond.methodLink RX6 184 yJ6_bitCount_0f7a4, Cond.static yJ6_bitCount_0f7a4, Cond.initialized RJ6, Cond.code yJ6_bitCount_0f7a4 cJ6_bitCount_0f7a4 1 (some .int), Cond.constant RJ6 265 (1431655765)]
def wsX6_icy_r2 : List Cond := [Cond.constant RJ6 266 (858993459), Cond.constant RJ6 267 (252645135), Cond.methodLink RX6 235 yX6_power, Cond.static yX6_power, Cond.initialized RX6, Cond.code yX6_power cX6_power 4 (some .int), Cond.methodLink RX6 180 yX6_comesWith, Cond.instanceMethod yX6_comesWith, Cond.selects RX6 yX6_comesWith yX6_comesWith, Cond.code yX6_comesWith cX6_comesWith 5 (some .boolean), Cond.fieldLink RX6 56 "PleatRoads" "walk" "LPleatRoads$Walk;", Cond.methodLink RX6 173 yX5_prepare, Cond.instanceMethod yX5_prepare, Cond.selects RX5 yX5_prepare yX5_prepare, Cond.initialized RX5, Cond.code yX5_prepare cX5_prepare 8 none, Cond.fieldLink RX5 27 "PleatRoads$Walk" "road" "LPleatRoads$Road;", Cond.fieldLink RX5 31 "PleatRoads$Road" "travellerKind" "[I", Cond.fieldLink RX5 36 "PleatRoads$Road" "pleats" "I", Cond.fieldLink RX5 21 "PleatRoads$Walk" "tollShut" "[I", Cond.fieldLink RX5 40 "PleatRoads$Standing" "frost" "I", Cond.fieldLink RX5 24 "PleatRoads$Walk" "tollOpen" "[I", Cond.fieldLink RX5 53 "PleatRoads$Road" "breath" "[I", Cond.fieldLink RX5 56 "PleatRoads$Walk" "breath" "I"]
def wsX6_icy_r3 : List Cond := [Cond.fieldLink RX5 58 "PleatRoads$Walk" "isLungs" "Z", Cond.fieldLink RX5 62 "PleatRoads$Standing" "wind" "[I", Cond.fieldLink RX5 65 "PleatRoads$Walk" "startWind" "I", Cond.fieldLink RX5 68 "PleatRoads$Standing" "place" "[I", Cond.fieldLink RX5 71 "PleatRoads$Standing" "open" "I", Cond.fieldLink RX5 77 "PleatRoads$Walk" "startNode" "I", Cond.methodLink RX5 45 yX2_costShut, Cond.instanceMethod yX2_costShut, Cond.selects RX2 yX2_costShut yX2_costShut, Cond.code yX2_costShut cX2_costShut 6 (some .int), Cond.fieldLink RX2 9 "PleatRoads$Road" "stiffness" "[I", Cond.methodLink RX5 49 yX2_tollFor, Cond.static yX2_tollFor, Cond.code yX2_tollFor cX2_tollFor 2 (some .int), Cond.methodLink RX5 74 yX5_modeAt, Cond.static yX5_modeAt, Cond.code yX5_modeAt cX5_modeAt 2 (some .int), Cond.methodLink RX6 264 yX5_places, Cond.instanceMethod yX5_places, Cond.selects RX5 yX5_places yX5_places, Cond.code yX5_places cX5_places 4 (some .int), Cond.fieldLink RX5 18 "PleatRoads$Walk" "queue" "[I", Cond.methodLink RX5 89 yX5_beginAt, Cond.instanceMethod yX5_beginAt]
def wsX6_icy_r4 : List Cond := [Cond.selects RX5 yX5_beginAt yX5_beginAt, Cond.code yX5_beginAt cX5_beginAt 1 none, Cond.fieldLink RX5 11 "PleatRoads$Walk" "most" "[I", Cond.methodLink RX5 80 yJ7_fill_53178, Cond.static yJ7_fill_53178, Cond.initialized RJ7, Cond.code yJ7_fill_53178 cJ7_fill_53178 4 none, Cond.methodLink RX5 92 yX5_enqueueBeyond, Cond.instanceMethod yX5_enqueueBeyond, Cond.selects RX5 yX5_enqueueBeyond yX5_enqueueBeyond, Cond.code yX5_enqueueBeyond cX5_enqueueBeyond 6 (some .int), Cond.methodLink RX5 96 yX5_windBeyond, Cond.instanceMethod yX5_windBeyond, Cond.selects RX5 yX5_windBeyond yX5_windBeyond, Cond.code yX5_windBeyond cX5_windBeyond 7 (some .int), Cond.fieldLink RX5 86 "PleatRoads$Road" "pleatKind" "[I", Cond.methodLink RX5 100 yX5_nodeBeyond, Cond.instanceMethod yX5_nodeBeyond, Cond.selects RX5 yX5_nodeBeyond yX5_nodeBeyond, Cond.code yX5_nodeBeyond cX5_nodeBeyond 5 (some .int), Cond.methodLink RX6 218 yX6_fraction, Cond.static yX6_fraction, Cond.code yX6_fraction cX6_fraction 4 (some .int), Cond.methodLink RX6 267 yX6_commonDivisor]
def wsX6_icy_r5 : List Cond := [Cond.static yX6_commonDivisor, Cond.code yX6_commonDivisor cX6_commonDivisor 6 (some .int)]
def wsX6_icy : List Cond := .code yX6_icy cX6_icy 11 (some .int) :: ((wsX6_icy_r1 ++ (wsX6_icy_r2 ++ (wsX6_icy_r3 ++ (wsX6_icy_r4 ++ wsX6_icy_r5)))) ++ wsX60 ++ wsX40 ++ wsX20 ++ wsX50)
def wsX6_seed : List Cond := .code yX6_seed cX6_seed 5 (some .long) :: ([.fieldLink RX6 239 "PleatRoads" "seed" "J"] ++ wsX60)
def wsX6_summers_r1 : List Cond := [Cond.fieldLink RX6 35 "PleatRoads" "supposed" "LPleatRoads$Standing;", Cond.fieldLink RX6 31 "PleatRoads" "now" "LPleatRoads$Standing;", Cond.fieldLink RX6 239 "PleatRoads" "seed" "J", Cond.constantLong RX6 243 (6364136223846793005), Cond.constantLong RX6 245 (1442695040888963407), Cond.constantLong RX6 247 (26), Cond.methodLink RX6 193 yX4_takeFrom, Cond.instanceMethod yX4_takeFrom, Cond.selects RX4 yX4_takeFrom yX4_takeFrom, Cond.initialized RX4, Cond.code yX4_takeFrom cX4_takeFrom 3 none, Cond.fieldLink RX4 9 "PleatRoads$Standing" "place" "[I", Cond.fieldLink RX4 15 "PleatRoads$Standing" "wind" "[I", Cond.fieldLink RX4 38 "PleatRoads$Standing" "greased" "I", Cond.fieldLink RX4 41 "PleatRoads$Standing" "open" "I", Cond.fieldLink RX4 44 "PleatRoads$Standing" "frost" "I", Cond.fieldLink RX4 47 "PleatRoads$Standing" "steps" "I", Cond.methodLink RX6 249 yX4_doDrawn, Cond.instanceMethod yX4_doDrawn, Cond.selects RX4 yX4_doDrawn yX4_doDrawn, Cond.code yX4_doDrawn cX4_doDrawn 2 none, Cond.methodLink RX4 107 yX4_stepIfItCan, Cond.instanceMethod yX4_stepIfItCan, Cond.selects RX4 yX4_stepIfItCan yX4_stepIfItCan]
def wsX6_summers_r2 : List Cond := [Cond.code yX4_stepIfItCan cX4_stepIfItCan 4 (some .boolean), Cond.methodLink RX4 85 yX4_canStep, Cond.instanceMethod yX4_canStep, Cond.selects RX4 yX4_canStep yX4_canStep, Cond.code yX4_canStep cX4_canStep 4 (some .boolean), Cond.fieldLink RX4 18 "PleatRoads$Standing" "road" "LPleatRoads$Road;", Cond.methodLink RX4 73 yX2_hasTraveller, Cond.instanceMethod yX2_hasTraveller, Cond.selects RX2 yX2_hasTraveller yX2_hasTraveller, Cond.initialized RX2, Cond.code yX2_hasTraveller cX2_hasTraveller 2 (some .boolean), Cond.fieldLink RX2 31 "PleatRoads$Road" "travellers" "I", Cond.methodLink RX4 76 yX4_tollBeside, Cond.instanceMethod yX4_tollBeside, Cond.selects RX4 yX4_tollBeside yX4_tollBeside, Cond.code yX4_tollBeside cX4_tollBeside 4 (some .int), Cond.fieldLink RX4 62 "PleatRoads$Road" "travellerKind" "[I", Cond.methodLink RX4 54 yX4_pleatBeside, Cond.instanceMethod yX4_pleatBeside, Cond.selects RX4 yX4_pleatBeside yX4_pleatBeside, Cond.code yX4_pleatBeside cX4_pleatBeside 3 (some .int), Cond.methodLink RX4 58 yX2_hasPleat, Cond.instanceMethod yX2_hasPleat, Cond.selects RX2 yX2_hasPleat yX2_hasPleat]
def wsX6_summers_r3 : List Cond := [Cond.code yX2_hasPleat cX2_hasPleat 2 (some .boolean), Cond.fieldLink RX2 27 "PleatRoads$Road" "pleats" "I", Cond.methodLink RX4 65 yX4_costOf, Cond.instanceMethod yX4_costOf, Cond.selects RX4 yX4_costOf yX4_costOf, Cond.code yX4_costOf cX4_costOf 2 (some .int), Cond.methodLink RX4 50 yX2_costShut, Cond.instanceMethod yX2_costShut, Cond.selects RX2 yX2_costShut yX2_costShut, Cond.code yX2_costShut cX2_costShut 6 (some .int), Cond.fieldLink RX2 15 "PleatRoads$Road" "pleatKind" "[I", Cond.fieldLink RX2 9 "PleatRoads$Road" "stiffness" "[I", Cond.methodLink RX4 69 yX2_tollFor, Cond.static yX2_tollFor, Cond.code yX2_tollFor cX2_tollFor 2 (some .int), Cond.methodLink RX4 89 yX4_doStep, Cond.instanceMethod yX4_doStep, Cond.selects RX4 yX4_doStep yX4_doStep, Cond.code yX4_doStep cX4_doStep 5 none, Cond.fieldLink RX4 79 "PleatRoads$Road" "pleatKind" "[I", Cond.fieldLink RX4 31 "PleatRoads$Road" "breath" "[I", Cond.methodLink RX4 110 yX4_restIfItCan, Cond.instanceMethod yX4_restIfItCan, Cond.selects RX4 yX4_restIfItCan yX4_restIfItCan]
def wsX6_summers_r4 : List Cond := [Cond.code yX4_restIfItCan cX4_restIfItCan 3 (some .boolean), Cond.methodLink RX4 93 yX4_doRest, Cond.instanceMethod yX4_doRest, Cond.selects RX4 yX4_doRest yX4_doRest, Cond.code yX4_doRest cX4_doRest 2 none, Cond.methodLink RX4 82 yX2_windRested, Cond.static yX2_windRested, Cond.code yX2_windRested cX2_windRested 2 (some .int), Cond.methodLink RX2 34 Lib.Math.max.name, Cond.static Lib.Math.max.name, Cond.initialized "java/lang/Math", Cond.code Lib.Math.max.name Lib.Math.max.code 2 (some .int), Cond.methodLink RX2 40 Lib.Math.min.name, Cond.static Lib.Math.min.name, Cond.code Lib.Math.min.name Lib.Math.min.code 2 (some .int), Cond.methodLink RX4 113 yX4_greaseIfItCan, Cond.instanceMethod yX4_greaseIfItCan, Cond.selects RX4 yX4_greaseIfItCan yX4_greaseIfItCan, Cond.code yX4_greaseIfItCan cX4_greaseIfItCan 3 (some .boolean), Cond.methodLink RX4 97 yX4_canGrease, Cond.instanceMethod yX4_canGrease, Cond.selects RX4 yX4_canGrease yX4_canGrease, Cond.code yX4_canGrease cX4_canGrease 2 (some .boolean), Cond.methodLink RX4 100 yX4_doGrease]
def wsX6_summers_r5 : List Cond := [Cond.instanceMethod yX4_doGrease, Cond.selects RX4 yX4_doGrease yX4_doGrease, Cond.code yX4_doGrease cX4_doGrease 2 none, Cond.methodLink RX4 116 yX4_freezeIfItCan, Cond.instanceMethod yX4_freezeIfItCan, Cond.selects RX4 yX4_freezeIfItCan yX4_freezeIfItCan, Cond.code yX4_freezeIfItCan cX4_freezeIfItCan 2 (some .boolean), Cond.methodLink RX4 103 yX4_canFreeze, Cond.instanceMethod yX4_canFreeze, Cond.selects RX4 yX4_canFreeze yX4_canFreeze, Cond.code yX4_canFreeze cX4_canFreeze 1 (some .boolean), Cond.methodLink RX6 252 yX4_placesTogether, Cond.instanceMethod yX4_placesTogether, Cond.selects RX4 yX4_placesTogether yX4_placesTogether, Cond.code yX4_placesTogether cX4_placesTogether 3 (some .int), Cond.fieldLink RX4 22 "PleatRoads$Road" "travellers" "I"]
def wsX6_summers : List Cond := .code yX6_summers cX6_summers 4 (some .int) :: ((wsX6_summers_r1 ++ (wsX6_summers_r2 ++ (wsX6_summers_r3 ++ (wsX6_summers_r4 ++ wsX6_summers_r5)))) ++ wsX60 ++ wsX40 ++ wsX20)
def wsX6_keep : List Cond := .code yX6_keep cX6_keep 2 (some .int) :: ([.fieldLink RX6 45 "PleatRoads" "slots" "[LPleatRoads$Standing;", .fieldLink RX6 31 "PleatRoads" "now" "LPleatRoads$Standing;", .fieldLink RX6 49 "PleatRoads" "kept" "[Z", .fieldLink RX6 255 "PleatRoads$Standing" "steps" "I", .methodLink RX6 193 yX4_takeFrom, .instanceMethod yX4_takeFrom, .selects RX4 yX4_takeFrom yX4_takeFrom, .initialized RX4, .code yX4_takeFrom cX4_takeFrom 3 none, .fieldLink RX4 9 "PleatRoads$Standing" "place" "[I", .fieldLink RX4 15 "PleatRoads$Standing" "wind" "[I", .fieldLink RX4 38 "PleatRoads$Standing" "greased" "I", .fieldLink RX4 41 "PleatRoads$Standing" "open" "I", .fieldLink RX4 44 "PleatRoads$Standing" "frost" "I", .fieldLink RX4 47 "PleatRoads$Standing" "steps" "I"] ++ wsX60 ++ wsX40)
def wsX6_again : List Cond := .code yX6_again cX6_again 2 (some .int) :: ([.fieldLink RX6 49 "PleatRoads" "kept" "[Z", .fieldLink RX6 31 "PleatRoads" "now" "LPleatRoads$Standing;", .fieldLink RX6 45 "PleatRoads" "slots" "[LPleatRoads$Standing;", .fieldLink RX6 41 "PleatRoads" "acts" "LPleatRoads$ActRow;", .fieldLink RX6 89 "PleatRoads$ActRow" "length" "I", .fieldLink RX6 255 "PleatRoads$Standing" "steps" "I", .methodLink RX6 193 yX4_takeFrom, .instanceMethod yX4_takeFrom, .selects RX4 yX4_takeFrom yX4_takeFrom, .initialized RX4, .code yX4_takeFrom cX4_takeFrom 3 none, .fieldLink RX4 9 "PleatRoads$Standing" "place" "[I", .fieldLink RX4 15 "PleatRoads$Standing" "wind" "[I", .fieldLink RX4 38 "PleatRoads$Standing" "greased" "I", .fieldLink RX4 41 "PleatRoads$Standing" "open" "I", .fieldLink RX4 44 "PleatRoads$Standing" "frost" "I", .fieldLink RX4 47 "PleatRoads$Standing" "steps" "I"] ++ wsX60 ++ wsX00 ++ wsX40)
def wsX6_count_r1 : List Cond := [Cond.fieldLink RX6 12 "PleatRoads" "script" "LPleatRoads$Script;", Cond.fieldLink RX6 78 "PleatRoads$Script" "length" "I", Cond.fieldLink RX6 23 "PleatRoads" "road" "LPleatRoads$Road;", Cond.fieldLink RX6 90 "PleatRoads$Road" "pleats" "I", Cond.fieldLink RX6 93 "PleatRoads$Road" "travellers" "I", Cond.fieldLink RX6 31 "PleatRoads" "now" "LPleatRoads$Standing;", Cond.fieldLink RX6 255 "PleatRoads$Standing" "steps" "I", Cond.fieldLink RX6 160 "PleatRoads$Standing" "frost" "I", Cond.fieldLink RX6 109 "PleatRoads$Standing" "greased" "I", Cond.fieldLink RX6 112 "PleatRoads$Standing" "open" "I", Cond.fieldLink RX6 41 "PleatRoads" "acts" "LPleatRoads$ActRow;", Cond.fieldLink RX6 89 "PleatRoads$ActRow" "length" "I", Cond.fieldLink RX6 63 "PleatRoads" "hearsay" "LPleatRoads$Hearsay;", Cond.fieldLink RX6 204 "PleatRoads$Hearsay" "length" "I", Cond.methodLink RX6 258 yX4_placesTaken, Cond.instanceMethod yX4_placesTaken, Cond.selects RX4 yX4_placesTaken yX4_placesTaken, Cond.initialized RX4, Cond.code yX4_placesTaken cX4_placesTaken 3 (some .int), Cond.fieldLink RX4 18 "PleatRoads$Standing" "road" "LPleatRoads$Road;", Cond.fieldLink RX4 22 "PleatRoads$Road" "travellers" "I", Cond.fieldLink RX4 9 "PleatRoads$Standing" "place" "[I", Cond.methodLink RX6 261 yX4_windTogether, Cond.instanceMethod yX4_windTogether]
def wsX6_count_r2 : List Cond := [Cond.selects RX4 yX4_windTogether yX4_windTogether, Cond.code yX4_windTogether cX4_windTogether 3 (some .int), Cond.fieldLink RX4 15 "PleatRoads$Standing" "wind" "[I"]
def wsX6_count : List Cond := .code yX6_count cX6_count 2 (some .int) :: ((wsX6_count_r1 ++ wsX6_count_r2) ++ wsX60 ++ wsX30 ++ wsX20 ++ wsX40 ++ wsX00 ++ wsX10)
def wsX7_init : List Cond := .code yX7_init cX7_init 1 none :: ([.methodLink RX7 1 objectInit, .instanceMethod objectInit, .code objectInit ⟨#[0xb1]⟩ 1 none, .arrayClass .int, .fieldLink RX7 7 "PleatRoadsModel" "stiffness" "[I", .fieldLink RX7 13 "PleatRoadsModel" "pleatKind" "[I", .fieldLink RX7 16 "PleatRoadsModel" "breath" "[I", .fieldLink RX7 19 "PleatRoadsModel" "kind" "[I", .fieldLink RX7 22 "PleatRoadsModel" "now" "[I", .fieldLink RX7 25 "PleatRoadsModel" "readPleat" "[I", .fieldLink RX7 28 "PleatRoadsModel" "readTraveller" "[I", .fieldLink RX7 31 "PleatRoadsModel" "text" "[I", .fieldLink RX7 34 "PleatRoadsModel" "row" "[I", .fieldLink RX7 37 "PleatRoadsModel" "far" "[I", .fieldLink RX7 40 "PleatRoadsModel" "queue" "[I", .fieldLink RX7 43 "PleatRoadsModel" "heardPlace" "[I", .fieldLink RX7 46 "PleatRoadsModel" "heardCame" "[I", .fieldLink RX7 49 "PleatRoadsModel" "reaches" "[I", .arrayClass .boolean, .fieldLink RX7 52 "PleatRoadsModel" "isKept" "[Z", .fieldLink RX7 56 "PleatRoadsModel" "kept" "[I"] ++ wsX70)
def wsX7_in : List Cond := .code yX7_in cX7_in 6 (some .boolean) :: ([])
def wsX7_has : List Cond := .code yX7_has cX7_has 2 (some .boolean) :: ([])
def wsX7_ones : List Cond := .code yX7_ones cX7_ones 3 (some .int) :: ([])
def wsX7_atLeast : List Cond := .code yX7_atLeast cX7_atLeast 2 (some .int) :: ([])
def wsX7_write : List Cond := .code yX7_write cX7_write 2 (some .int) :: ([.constantLong RX7 59 (255), .fieldLink RX7 65 "PleatRoadsModel" "length" "I", .fieldLink RX7 31 "PleatRoadsModel" "text" "[I", .methodLink RX7 61 yX7_in, .static yX7_in, .initialized RX7, .code yX7_in cX7_in 6 (some .boolean)] ++ wsX70)
def wsX7_wipe : List Cond := .code yX7_wipe cX7_wipe 2 (some .int) :: ([.fieldLink RX7 65 "PleatRoadsModel" "length" "I"] ++ wsX70)
def wsX7_figureOf : List Cond := .code yX7_figureOf cX7_figureOf 5 (some .int) :: ([.fieldLink RX7 69 "PleatRoadsModel" "faultAt" "I", .fieldLink RX7 72 "PleatRoadsModel" "at" "I", .fieldLink RX7 65 "PleatRoadsModel" "length" "I", .fieldLink RX7 31 "PleatRoadsModel" "text" "[I", .methodLink RX7 61 yX7_in, .static yX7_in, .initialized RX7, .code yX7_in cX7_in 6 (some .boolean)] ++ wsX70)
def wsX7_readPart : List Cond := .code yX7_readPart cX7_readPart 2 none :: ([.fieldLink RX7 75 "PleatRoadsModel" "readPleats" "I", .fieldLink RX7 72 "PleatRoadsModel" "at" "I", .fieldLink RX7 25 "PleatRoadsModel" "readPleat" "[I", .fieldLink RX7 78 "PleatRoadsModel" "readTravellers" "I", .fieldLink RX7 28 "PleatRoadsModel" "readTraveller" "[I", .fieldLink RX7 69 "PleatRoadsModel" "faultAt" "I", .methodLink RX7 85 yX7_figureOf, .instanceMethod yX7_figureOf, .selects RX7 yX7_figureOf yX7_figureOf, .initialized RX7, .code yX7_figureOf cX7_figureOf 5 (some .int), .fieldLink RX7 65 "PleatRoadsModel" "length" "I", .fieldLink RX7 31 "PleatRoadsModel" "text" "[I", .methodLink RX7 61 yX7_in, .static yX7_in, .code yX7_in cX7_in 6 (some .boolean)] ++ wsX70)
def wsX7_readText : List Cond := .code yX7_readText cX7_readText 1 (some .int) :: ([.fieldLink RX7 72 "PleatRoadsModel" "at" "I", .fieldLink RX7 69 "PleatRoadsModel" "faultAt" "I", .fieldLink RX7 75 "PleatRoadsModel" "readPleats" "I", .fieldLink RX7 78 "PleatRoadsModel" "readTravellers" "I", .fieldLink RX7 65 "PleatRoadsModel" "length" "I", .fieldLink RX7 31 "PleatRoadsModel" "text" "[I", .methodLink RX7 81 yX7_readPart, .instanceMethod yX7_readPart, .selects RX7 yX7_readPart yX7_readPart, .initialized RX7, .code yX7_readPart cX7_readPart 2 none, .fieldLink RX7 25 "PleatRoadsModel" "readPleat" "[I", .fieldLink RX7 28 "PleatRoadsModel" "readTraveller" "[I", .methodLink RX7 85 yX7_figureOf, .instanceMethod yX7_figureOf, .selects RX7 yX7_figureOf yX7_figureOf, .code yX7_figureOf cX7_figureOf 5 (some .int), .methodLink RX7 61 yX7_in, .static yX7_in, .code yX7_in cX7_in 6 (some .boolean)] ++ wsX70)
def wsX7_fault : List Cond := .code yX7_fault cX7_fault 1 (some .int) :: ([.methodLink RX7 89 yX7_readText, .instanceMethod yX7_readText, .selects RX7 yX7_readText yX7_readText, .initialized RX7, .code yX7_readText cX7_readText 1 (some .int), .fieldLink RX7 72 "PleatRoadsModel" "at" "I", .fieldLink RX7 69 "PleatRoadsModel" "faultAt" "I", .fieldLink RX7 75 "PleatRoadsModel" "readPleats" "I", .fieldLink RX7 78 "PleatRoadsModel" "readTravellers" "I", .fieldLink RX7 65 "PleatRoadsModel" "length" "I", .fieldLink RX7 31 "PleatRoadsModel" "text" "[I", .methodLink RX7 81 yX7_readPart, .instanceMethod yX7_readPart, .selects RX7 yX7_readPart yX7_readPart, .code yX7_readPart cX7_readPart 2 none, .fieldLink RX7 25 "PleatRoadsModel" "readPleat" "[I", .fieldLink RX7 28 "PleatRoadsModel" "readTraveller" "[I", .methodLink RX7 85 yX7_figureOf, .instanceMethod yX7_figureOf, .selects RX7 yX7_figureOf yX7_figureOf, .code yX7_figureOf cX7_figureOf 5 (some .int), .methodLink RX7 61 yX7_in, .static yX7_in, .code yX7_in cX7_in 6 (some .boolean)] ++ wsX70)
def wsX7_smooth : List Cond := .code yX7_smooth cX7_smooth 3 (some .int) :: ([.fieldLink RX7 93 "PleatRoadsModel" "pleats" "I", .fieldLink RX7 13 "PleatRoadsModel" "pleatKind" "[I"] ++ wsX70)
def wsX7_road_r1 : List Cond := [Cond.fieldLink RX7 75 "PleatRoadsModel" "readPleats" "I", Cond.fieldLink RX7 93 "PleatRoadsModel" "pleats" "I", Cond.fieldLink RX7 78 "PleatRoadsModel" "readTravellers" "I", Cond.fieldLink RX7 96 "PleatRoadsModel" "travellers" "I", Cond.fieldLink RX7 22 "PleatRoadsModel" "now" "[I", Cond.fieldLink RX7 7 "PleatRoadsModel" "stiffness" "[I", Cond.fieldLink RX7 25 "PleatRoadsModel" "readPleat" "[I", Cond.fieldLink RX7 13 "PleatRoadsModel" "pleatKind" "[I", Cond.fieldLink RX7 28 "PleatRoadsModel" "readTraveller" "[I", Cond.fieldLink RX7 16 "PleatRoadsModel" "breath" "[I", Cond.fieldLink RX7 19 "PleatRoadsModel" "kind" "[I", Cond.fieldLink RX7 102 "PleatRoadsModel" "acts" "I", Cond.fieldLink RX7 52 "PleatRoadsModel" "isKept" "[Z", Cond.methodLink RX7 89 yX7_readText, Cond.instanceMethod yX7_readText, Cond.selects RX7 yX7_readText yX7_readText, Cond.initialized RX7, Cond.code yX7_readText cX7_readText 1 (some .int), Cond.fieldLink RX7 72 "PleatRoadsModel" "at" "I", Cond.fieldLink RX7 69 "PleatRoadsModel" "faultAt" "I", Cond.fieldLink RX7 65 "PleatRoadsModel" "length" "I", Cond.fieldLink RX7 31 "PleatRoadsModel" "text" "[I", Cond.methodLink RX7 81 yX7_readPart, Cond.instanceMethod yX7_readPart]
def wsX7_road_r2 : List Cond := [Cond.selects RX7 yX7_readPart yX7_readPart, Cond.code yX7_readPart cX7_readPart 2 none, Cond.methodLink RX7 85 yX7_figureOf, Cond.instanceMethod yX7_figureOf, Cond.selects RX7 yX7_figureOf yX7_figureOf, Cond.code yX7_figureOf cX7_figureOf 5 (some .int), Cond.methodLink RX7 61 yX7_in, Cond.static yX7_in, Cond.code yX7_in cX7_in 6 (some .boolean), Cond.methodLink RX7 99 yX7_smooth, Cond.instanceMethod yX7_smooth, Cond.selects RX7 yX7_smooth yX7_smooth, Cond.code yX7_smooth cX7_smooth 3 (some .int)]
def wsX7_road : List Cond := .code yX7_road cX7_road 2 (some .int) :: ((wsX7_road_r1 ++ wsX7_road_r2) ++ wsX70)
def wsX7_isPleat : List Cond := .code yX7_isPleat cX7_isPleat 2 (some .boolean) :: ([.fieldLink RX7 93 "PleatRoadsModel" "pleats" "I", .methodLink RX7 61 yX7_in, .static yX7_in, .initialized RX7, .code yX7_in cX7_in 6 (some .boolean)] ++ wsX70)
def wsX7_isTraveller : List Cond := .code yX7_isTraveller cX7_isTraveller 2 (some .boolean) :: ([.fieldLink RX7 96 "PleatRoadsModel" "travellers" "I", .methodLink RX7 61 yX7_in, .static yX7_in, .initialized RX7, .code yX7_in cX7_in 6 (some .boolean)] ++ wsX70)
def wsX7_isPlace : List Cond := .code yX7_isPlace cX7_isPlace 2 (some .boolean) :: ([.fieldLink RX7 93 "PleatRoadsModel" "pleats" "I", .methodLink RX7 61 yX7_in, .static yX7_in, .initialized RX7, .code yX7_in cX7_in 6 (some .boolean)] ++ wsX70)
def wsX7_costs : List Cond := .code yX7_costs cX7_costs 7 (some .int) :: ([.fieldLink RX7 105 "PleatRoadsModel" "ice" "I", .fieldLink RX7 13 "PleatRoadsModel" "pleatKind" "[I", .fieldLink RX7 7 "PleatRoadsModel" "stiffness" "[I", .methodLink RX7 108 yX7_has, .static yX7_has, .initialized RX7, .code yX7_has cX7_has 2 (some .boolean), .methodLink RX7 112 yX7_atLeast, .static yX7_atLeast, .code yX7_atLeast cX7_atLeast 2 (some .int)] ++ wsX70)
def wsX7_pays : List Cond := .code yX7_pays cX7_pays 2 (some .int) :: ([])
def wsX7_paysOn : List Cond := .code yX7_paysOn cX7_paysOn 5 (some .int) :: ([.fieldLink RX7 19 "PleatRoadsModel" "kind" "[I", .fieldLink RX7 22 "PleatRoadsModel" "now" "[I", .methodLink RX7 115 yX7_costs, .instanceMethod yX7_costs, .selects RX7 yX7_costs yX7_costs, .initialized RX7, .code yX7_costs cX7_costs 7 (some .int), .fieldLink RX7 105 "PleatRoadsModel" "ice" "I", .fieldLink RX7 13 "PleatRoadsModel" "pleatKind" "[I", .fieldLink RX7 7 "PleatRoadsModel" "stiffness" "[I", .methodLink RX7 108 yX7_has, .static yX7_has, .code yX7_has cX7_has 2 (some .boolean), .methodLink RX7 112 yX7_atLeast, .static yX7_atLeast, .code yX7_atLeast cX7_atLeast 2 (some .int), .methodLink RX7 119 yX7_pays, .static yX7_pays, .code yX7_pays cX7_pays 2 (some .int)] ++ wsX70)
def wsX7_pleatOf : List Cond := .code yX7_pleatOf cX7_pleatOf 4 (some .int) :: ([.methodLink RX7 122 yX7_isPleat, .instanceMethod yX7_isPleat, .selects RX7 yX7_isPleat yX7_isPleat, .initialized RX7, .code yX7_isPleat cX7_isPleat 2 (some .boolean), .fieldLink RX7 93 "PleatRoadsModel" "pleats" "I", .methodLink RX7 61 yX7_in, .static yX7_in, .code yX7_in cX7_in 6 (some .boolean)] ++ wsX70)
def wsX7_canStep_r1 : List Cond := [Cond.fieldLink RX7 22 "PleatRoadsModel" "now" "[I", Cond.methodLink RX7 126 yX7_isTraveller, Cond.instanceMethod yX7_isTraveller, Cond.selects RX7 yX7_isTraveller yX7_isTraveller, Cond.initialized RX7, Cond.code yX7_isTraveller cX7_isTraveller 2 (some .boolean), Cond.fieldLink RX7 96 "PleatRoadsModel" "travellers" "I", Cond.methodLink RX7 61 yX7_in, Cond.static yX7_in, Cond.code yX7_in cX7_in 6 (some .boolean), Cond.methodLink RX7 129 yX7_pleatOf, Cond.instanceMethod yX7_pleatOf, Cond.selects RX7 yX7_pleatOf yX7_pleatOf, Cond.code yX7_pleatOf cX7_pleatOf 4 (some .int), Cond.methodLink RX7 122 yX7_isPleat, Cond.instanceMethod yX7_isPleat, Cond.selects RX7 yX7_isPleat yX7_isPleat, Cond.code yX7_isPleat cX7_isPleat 2 (some .boolean), Cond.fieldLink RX7 93 "PleatRoadsModel" "pleats" "I", Cond.methodLink RX7 133 yX7_paysOn, Cond.instanceMethod yX7_paysOn, Cond.selects RX7 yX7_paysOn yX7_paysOn, Cond.code yX7_paysOn cX7_paysOn 5 (some .int), Cond.fieldLink RX7 19 "PleatRoadsModel" "kind" "[I"]
def wsX7_canStep_r2 : List Cond := [Cond.methodLink RX7 115 yX7_costs, Cond.instanceMethod yX7_costs, Cond.selects RX7 yX7_costs yX7_costs, Cond.code yX7_costs cX7_costs 7 (some .int), Cond.fieldLink RX7 105 "PleatRoadsModel" "ice" "I", Cond.fieldLink RX7 13 "PleatRoadsModel" "pleatKind" "[I", Cond.fieldLink RX7 7 "PleatRoadsModel" "stiffness" "[I", Cond.methodLink RX7 108 yX7_has, Cond.static yX7_has, Cond.code yX7_has cX7_has 2 (some .boolean), Cond.methodLink RX7 112 yX7_atLeast, Cond.static yX7_atLeast, Cond.code yX7_atLeast cX7_atLeast 2 (some .int), Cond.methodLink RX7 119 yX7_pays, Cond.static yX7_pays, Cond.code yX7_pays cX7_pays 2 (some .int)]
def wsX7_canStep : List Cond := .code yX7_canStep cX7_canStep 6 (some .boolean) :: ((wsX7_canStep_r1 ++ wsX7_canStep_r2) ++ wsX70)
def wsX7_stepOn_r1 : List Cond := [Cond.fieldLink RX7 22 "PleatRoadsModel" "now" "[I", Cond.fieldLink RX7 13 "PleatRoadsModel" "pleatKind" "[I", Cond.fieldLink RX7 16 "PleatRoadsModel" "breath" "[I", Cond.fieldLink RX7 19 "PleatRoadsModel" "kind" "[I", Cond.methodLink RX7 129 yX7_pleatOf, Cond.instanceMethod yX7_pleatOf, Cond.selects RX7 yX7_pleatOf yX7_pleatOf, Cond.initialized RX7, Cond.code yX7_pleatOf cX7_pleatOf 4 (some .int), Cond.methodLink RX7 122 yX7_isPleat, Cond.instanceMethod yX7_isPleat, Cond.selects RX7 yX7_isPleat yX7_isPleat, Cond.code yX7_isPleat cX7_isPleat 2 (some .boolean), Cond.fieldLink RX7 93 "PleatRoadsModel" "pleats" "I", Cond.methodLink RX7 61 yX7_in, Cond.static yX7_in, Cond.code yX7_in cX7_in 6 (some .boolean), Cond.methodLink RX7 133 yX7_paysOn, Cond.instanceMethod yX7_paysOn, Cond.selects RX7 yX7_paysOn yX7_paysOn, Cond.code yX7_paysOn cX7_paysOn 5 (some .int), Cond.methodLink RX7 115 yX7_costs, Cond.instanceMethod yX7_costs, Cond.selects RX7 yX7_costs yX7_costs]
def wsX7_stepOn_r2 : List Cond := [Cond.code yX7_costs cX7_costs 7 (some .int), Cond.fieldLink RX7 105 "PleatRoadsModel" "ice" "I", Cond.fieldLink RX7 7 "PleatRoadsModel" "stiffness" "[I", Cond.methodLink RX7 108 yX7_has, Cond.static yX7_has, Cond.code yX7_has cX7_has 2 (some .boolean), Cond.methodLink RX7 112 yX7_atLeast, Cond.static yX7_atLeast, Cond.code yX7_atLeast cX7_atLeast 2 (some .int), Cond.methodLink RX7 119 yX7_pays, Cond.static yX7_pays, Cond.code yX7_pays cX7_pays 2 (some .int)]
def wsX7_stepOn : List Cond := .code yX7_stepOn cX7_stepOn 6 none :: ((wsX7_stepOn_r1 ++ wsX7_stepOn_r2) ++ wsX70)
def wsX7_rested : List Cond := .code yX7_rested cX7_rested 4 (some .int) :: ([.fieldLink RX7 16 "PleatRoadsModel" "breath" "[I", .methodLink RX7 112 yX7_atLeast, .static yX7_atLeast, .initialized RX7, .code yX7_atLeast cX7_atLeast 2 (some .int)] ++ wsX70)
def wsX7_restOn : List Cond := .code yX7_restOn cX7_restOn 4 none :: ([.fieldLink RX7 22 "PleatRoadsModel" "now" "[I", .methodLink RX7 137 yX7_rested, .instanceMethod yX7_rested, .selects RX7 yX7_rested yX7_rested, .initialized RX7, .code yX7_rested cX7_rested 4 (some .int), .fieldLink RX7 16 "PleatRoadsModel" "breath" "[I", .methodLink RX7 112 yX7_atLeast, .static yX7_atLeast, .code yX7_atLeast cX7_atLeast 2 (some .int)] ++ wsX70)
def wsX7_pleat : List Cond := .code yX7_pleat cX7_pleat 3 (some .int) :: ([.fieldLink RX7 7 "PleatRoadsModel" "stiffness" "[I", .fieldLink RX7 13 "PleatRoadsModel" "pleatKind" "[I", .fieldLink RX7 22 "PleatRoadsModel" "now" "[I", .methodLink RX7 122 yX7_isPleat, .instanceMethod yX7_isPleat, .selects RX7 yX7_isPleat yX7_isPleat, .initialized RX7, .code yX7_isPleat cX7_isPleat 2 (some .boolean), .fieldLink RX7 93 "PleatRoadsModel" "pleats" "I", .methodLink RX7 61 yX7_in, .static yX7_in, .code yX7_in cX7_in 6 (some .boolean), .methodLink RX7 115 yX7_costs, .instanceMethod yX7_costs, .selects RX7 yX7_costs yX7_costs, .code yX7_costs cX7_costs 7 (some .int), .fieldLink RX7 105 "PleatRoadsModel" "ice" "I", .methodLink RX7 108 yX7_has, .static yX7_has, .code yX7_has cX7_has 2 (some .boolean), .methodLink RX7 112 yX7_atLeast, .static yX7_atLeast, .code yX7_atLeast cX7_atLeast 2 (some .int)] ++ wsX70)
def wsX7_paysFor_r1 : List Cond := [Cond.fieldLink RX7 22 "PleatRoadsModel" "now" "[I", Cond.methodLink RX7 129 yX7_pleatOf, Cond.instanceMethod yX7_pleatOf, Cond.selects RX7 yX7_pleatOf yX7_pleatOf, Cond.initialized RX7, Cond.code yX7_pleatOf cX7_pleatOf 4 (some .int), Cond.methodLink RX7 122 yX7_isPleat, Cond.instanceMethod yX7_isPleat, Cond.selects RX7 yX7_isPleat yX7_isPleat, Cond.code yX7_isPleat cX7_isPleat 2 (some .boolean), Cond.fieldLink RX7 93 "PleatRoadsModel" "pleats" "I", Cond.methodLink RX7 61 yX7_in, Cond.static yX7_in, Cond.code yX7_in cX7_in 6 (some .boolean), Cond.methodLink RX7 133 yX7_paysOn, Cond.instanceMethod yX7_paysOn, Cond.selects RX7 yX7_paysOn yX7_paysOn, Cond.code yX7_paysOn cX7_paysOn 5 (some .int), Cond.fieldLink RX7 19 "PleatRoadsModel" "kind" "[I", Cond.methodLink RX7 115 yX7_costs, Cond.instanceMethod yX7_costs, Cond.selects RX7 yX7_costs yX7_costs, Cond.code yX7_costs cX7_costs 7 (some .int), Cond.fieldLink RX7 105 "PleatRoadsModel" "ice" "I"]
def wsX7_paysFor_r2 : List Cond := [Cond.fieldLink RX7 13 "PleatRoadsModel" "pleatKind" "[I", Cond.fieldLink RX7 7 "PleatRoadsModel" "stiffness" "[I", Cond.methodLink RX7 108 yX7_has, Cond.static yX7_has, Cond.code yX7_has cX7_has 2 (some .boolean), Cond.methodLink RX7 112 yX7_atLeast, Cond.static yX7_atLeast, Cond.code yX7_atLeast cX7_atLeast 2 (some .int), Cond.methodLink RX7 119 yX7_pays, Cond.static yX7_pays, Cond.code yX7_pays cX7_pays 2 (some .int)]
def wsX7_paysFor : List Cond := .code yX7_paysFor cX7_paysFor 4 (some .int) :: ((wsX7_paysFor_r1 ++ wsX7_paysFor_r2) ++ wsX70)
def wsX7_traveller_r1 : List Cond := [Cond.fieldLink RX7 22 "PleatRoadsModel" "now" "[I", Cond.fieldLink RX7 16 "PleatRoadsModel" "breath" "[I", Cond.fieldLink RX7 19 "PleatRoadsModel" "kind" "[I", Cond.methodLink RX7 126 yX7_isTraveller, Cond.instanceMethod yX7_isTraveller, Cond.selects RX7 yX7_isTraveller yX7_isTraveller, Cond.initialized RX7, Cond.code yX7_isTraveller cX7_isTraveller 2 (some .boolean), Cond.fieldLink RX7 96 "PleatRoadsModel" "travellers" "I", Cond.methodLink RX7 61 yX7_in, Cond.static yX7_in, Cond.code yX7_in cX7_in 6 (some .boolean), Cond.methodLink RX7 140 yX7_paysFor, Cond.instanceMethod yX7_paysFor, Cond.selects RX7 yX7_paysFor yX7_paysFor, Cond.code yX7_paysFor cX7_paysFor 4 (some .int), Cond.methodLink RX7 129 yX7_pleatOf, Cond.instanceMethod yX7_pleatOf, Cond.selects RX7 yX7_pleatOf yX7_pleatOf, Cond.code yX7_pleatOf cX7_pleatOf 4 (some .int), Cond.methodLink RX7 122 yX7_isPleat, Cond.instanceMethod yX7_isPleat, Cond.selects RX7 yX7_isPleat yX7_isPleat, Cond.code yX7_isPleat cX7_isPleat 2 (some .boolean)]
def wsX7_traveller_r2 : List Cond := [Cond.fieldLink RX7 93 "PleatRoadsModel" "pleats" "I", Cond.methodLink RX7 133 yX7_paysOn, Cond.instanceMethod yX7_paysOn, Cond.selects RX7 yX7_paysOn yX7_paysOn, Cond.code yX7_paysOn cX7_paysOn 5 (some .int), Cond.methodLink RX7 115 yX7_costs, Cond.instanceMethod yX7_costs, Cond.selects RX7 yX7_costs yX7_costs, Cond.code yX7_costs cX7_costs 7 (some .int), Cond.fieldLink RX7 105 "PleatRoadsModel" "ice" "I", Cond.fieldLink RX7 13 "PleatRoadsModel" "pleatKind" "[I", Cond.fieldLink RX7 7 "PleatRoadsModel" "stiffness" "[I", Cond.methodLink RX7 108 yX7_has, Cond.static yX7_has, Cond.code yX7_has cX7_has 2 (some .boolean), Cond.methodLink RX7 112 yX7_atLeast, Cond.static yX7_atLeast, Cond.code yX7_atLeast cX7_atLeast 2 (some .int), Cond.methodLink RX7 119 yX7_pays, Cond.static yX7_pays, Cond.code yX7_pays cX7_pays 2 (some .int)]
def wsX7_traveller : List Cond := .code yX7_traveller cX7_traveller 3 (some .int) :: ((wsX7_traveller_r1 ++ wsX7_traveller_r2) ++ wsX70)
def wsX7_keepAct : List Cond := .code yX7_keepAct cX7_keepAct 2 none :: ([.fieldLink RX7 34 "PleatRoadsModel" "row" "[I", .fieldLink RX7 143 "PleatRoadsModel" "next" "I", .fieldLink RX7 22 "PleatRoadsModel" "now" "[I", .fieldLink RX7 102 "PleatRoadsModel" "acts" "I"] ++ wsX70)
def wsX7_step_r1 : List Cond := [Cond.fieldLink RX7 22 "PleatRoadsModel" "now" "[I", Cond.methodLink RX7 126 yX7_isTraveller, Cond.instanceMethod yX7_isTraveller, Cond.selects RX7 yX7_isTraveller yX7_isTraveller, Cond.initialized RX7, Cond.code yX7_isTraveller cX7_isTraveller 2 (some .boolean), Cond.fieldLink RX7 96 "PleatRoadsModel" "travellers" "I", Cond.methodLink RX7 61 yX7_in, Cond.static yX7_in, Cond.code yX7_in cX7_in 6 (some .boolean), Cond.methodLink RX7 146 yX7_canStep, Cond.instanceMethod yX7_canStep, Cond.selects RX7 yX7_canStep yX7_canStep, Cond.code yX7_canStep cX7_canStep 6 (some .boolean), Cond.methodLink RX7 129 yX7_pleatOf, Cond.instanceMethod yX7_pleatOf, Cond.selects RX7 yX7_pleatOf yX7_pleatOf, Cond.code yX7_pleatOf cX7_pleatOf 4 (some .int), Cond.methodLink RX7 122 yX7_isPleat, Cond.instanceMethod yX7_isPleat, Cond.selects RX7 yX7_isPleat yX7_isPleat, Cond.code yX7_isPleat cX7_isPleat 2 (some .boolean), Cond.fieldLink RX7 93 "PleatRoadsModel" "pleats" "I", Cond.methodLink RX7 133 yX7_paysOn]
def wsX7_step_r2 : List Cond := [Cond.instanceMethod yX7_paysOn, Cond.selects RX7 yX7_paysOn yX7_paysOn, Cond.code yX7_paysOn cX7_paysOn 5 (some .int), Cond.fieldLink RX7 19 "PleatRoadsModel" "kind" "[I", Cond.methodLink RX7 115 yX7_costs, Cond.instanceMethod yX7_costs, Cond.selects RX7 yX7_costs yX7_costs, Cond.code yX7_costs cX7_costs 7 (some .int), Cond.fieldLink RX7 105 "PleatRoadsModel" "ice" "I", Cond.fieldLink RX7 13 "PleatRoadsModel" "pleatKind" "[I", Cond.fieldLink RX7 7 "PleatRoadsModel" "stiffness" "[I", Cond.methodLink RX7 108 yX7_has, Cond.static yX7_has, Cond.code yX7_has cX7_has 2 (some .boolean), Cond.methodLink RX7 112 yX7_atLeast, Cond.static yX7_atLeast, Cond.code yX7_atLeast cX7_atLeast 2 (some .int), Cond.methodLink RX7 119 yX7_pays, Cond.static yX7_pays, Cond.code yX7_pays cX7_pays 2 (some .int), Cond.methodLink RX7 150 yX7_keepAct, Cond.instanceMethod yX7_keepAct, Cond.selects RX7 yX7_keepAct yX7_keepAct, Cond.code yX7_keepAct cX7_keepAct 2 none]
def wsX7_step_r3 : List Cond := [Cond.fieldLink RX7 34 "PleatRoadsModel" "row" "[I", Cond.fieldLink RX7 143 "PleatRoadsModel" "next" "I", Cond.fieldLink RX7 102 "PleatRoadsModel" "acts" "I", Cond.methodLink RX7 153 yX7_stepOn, Cond.instanceMethod yX7_stepOn, Cond.selects RX7 yX7_stepOn yX7_stepOn, Cond.code yX7_stepOn cX7_stepOn 6 none, Cond.fieldLink RX7 16 "PleatRoadsModel" "breath" "[I"]
def wsX7_step : List Cond := .code yX7_step cX7_step 3 (some .int) :: ((wsX7_step_r1 ++ (wsX7_step_r2 ++ wsX7_step_r3)) ++ wsX70)
def wsX7_rest_r1 : List Cond := [Cond.fieldLink RX7 22 "PleatRoadsModel" "now" "[I", Cond.methodLink RX7 126 yX7_isTraveller, Cond.instanceMethod yX7_isTraveller, Cond.selects RX7 yX7_isTraveller yX7_isTraveller, Cond.initialized RX7, Cond.code yX7_isTraveller cX7_isTraveller 2 (some .boolean), Cond.fieldLink RX7 96 "PleatRoadsModel" "travellers" "I", Cond.methodLink RX7 61 yX7_in, Cond.static yX7_in, Cond.code yX7_in cX7_in 6 (some .boolean), Cond.methodLink RX7 150 yX7_keepAct, Cond.instanceMethod yX7_keepAct, Cond.selects RX7 yX7_keepAct yX7_keepAct, Cond.code yX7_keepAct cX7_keepAct 2 none, Cond.fieldLink RX7 34 "PleatRoadsModel" "row" "[I", Cond.fieldLink RX7 143 "PleatRoadsModel" "next" "I", Cond.fieldLink RX7 102 "PleatRoadsModel" "acts" "I", Cond.methodLink RX7 157 yX7_restOn, Cond.instanceMethod yX7_restOn, Cond.selects RX7 yX7_restOn yX7_restOn, Cond.code yX7_restOn cX7_restOn 4 none, Cond.methodLink RX7 137 yX7_rested, Cond.instanceMethod yX7_rested, Cond.selects RX7 yX7_rested yX7_rested]
def wsX7_rest_r2 : List Cond := [Cond.code yX7_rested cX7_rested 4 (some .int), Cond.fieldLink RX7 16 "PleatRoadsModel" "breath" "[I", Cond.methodLink RX7 112 yX7_atLeast, Cond.static yX7_atLeast, Cond.code yX7_atLeast cX7_atLeast 2 (some .int)]
def wsX7_rest : List Cond := .code yX7_rest cX7_rest 2 (some .int) :: ((wsX7_rest_r1 ++ wsX7_rest_r2) ++ wsX70)
def wsX7_grease_r1 : List Cond := [Cond.fieldLink RX7 22 "PleatRoadsModel" "now" "[I", Cond.methodLink RX7 122 yX7_isPleat, Cond.instanceMethod yX7_isPleat, Cond.selects RX7 yX7_isPleat yX7_isPleat, Cond.initialized RX7, Cond.code yX7_isPleat cX7_isPleat 2 (some .boolean), Cond.fieldLink RX7 93 "PleatRoadsModel" "pleats" "I", Cond.methodLink RX7 61 yX7_in, Cond.static yX7_in, Cond.code yX7_in cX7_in 6 (some .boolean), Cond.methodLink RX7 108 yX7_has, Cond.static yX7_has, Cond.code yX7_has cX7_has 2 (some .boolean), Cond.methodLink RX7 150 yX7_keepAct, Cond.instanceMethod yX7_keepAct, Cond.selects RX7 yX7_keepAct yX7_keepAct, Cond.code yX7_keepAct cX7_keepAct 2 none, Cond.fieldLink RX7 34 "PleatRoadsModel" "row" "[I", Cond.fieldLink RX7 143 "PleatRoadsModel" "next" "I", Cond.fieldLink RX7 102 "PleatRoadsModel" "acts" "I", Cond.methodLink RX7 115 yX7_costs, Cond.instanceMethod yX7_costs, Cond.selects RX7 yX7_costs yX7_costs, Cond.code yX7_costs cX7_costs 7 (some .int)]
def wsX7_grease_r2 : List Cond := [Cond.fieldLink RX7 105 "PleatRoadsModel" "ice" "I", Cond.fieldLink RX7 13 "PleatRoadsModel" "pleatKind" "[I", Cond.fieldLink RX7 7 "PleatRoadsModel" "stiffness" "[I", Cond.methodLink RX7 112 yX7_atLeast, Cond.static yX7_atLeast, Cond.code yX7_atLeast cX7_atLeast 2 (some .int)]
def wsX7_grease : List Cond := .code yX7_grease cX7_grease 2 (some .int) :: ((wsX7_grease_r1 ++ wsX7_grease_r2) ++ wsX70)
def wsX7_freeze : List Cond := .code yX7_freeze cX7_freeze 1 (some .int) :: ([.fieldLink RX7 22 "PleatRoadsModel" "now" "[I", .methodLink RX7 150 yX7_keepAct, .instanceMethod yX7_keepAct, .selects RX7 yX7_keepAct yX7_keepAct, .initialized RX7, .code yX7_keepAct cX7_keepAct 2 none, .fieldLink RX7 34 "PleatRoadsModel" "row" "[I", .fieldLink RX7 143 "PleatRoadsModel" "next" "I", .fieldLink RX7 102 "PleatRoadsModel" "acts" "I"] ++ wsX70)
def wsX7_thaw : List Cond := .code yX7_thaw cX7_thaw 2 (some .int) :: ([.fieldLink RX7 22 "PleatRoadsModel" "now" "[I", .methodLink RX7 150 yX7_keepAct, .instanceMethod yX7_keepAct, .selects RX7 yX7_keepAct yX7_keepAct, .initialized RX7, .code yX7_keepAct cX7_keepAct 2 none, .fieldLink RX7 34 "PleatRoadsModel" "row" "[I", .fieldLink RX7 143 "PleatRoadsModel" "next" "I", .fieldLink RX7 102 "PleatRoadsModel" "acts" "I"] ++ wsX70)
def wsX7_undo : List Cond := .code yX7_undo cX7_undo 2 (some .int) :: ([.fieldLink RX7 102 "PleatRoadsModel" "acts" "I", .fieldLink RX7 143 "PleatRoadsModel" "next" "I", .fieldLink RX7 22 "PleatRoadsModel" "now" "[I", .fieldLink RX7 34 "PleatRoadsModel" "row" "[I"] ++ wsX70)
def wsX7_meetState : List Cond := .code yX7_meetState cX7_meetState 6 none :: ([.fieldLink RX7 37 "PleatRoadsModel" "far" "[I", .fieldLink RX7 40 "PleatRoadsModel" "queue" "[I", .fieldLink RX7 161 "PleatRoadsModel" "queued" "I"] ++ wsX70)
def wsX7_goFrom_r1 : List Cond := [Cond.fieldLink RX7 19 "PleatRoadsModel" "kind" "[I", Cond.fieldLink RX7 164 "PleatRoadsModel" "greasedHere" "I", Cond.fieldLink RX7 22 "PleatRoadsModel" "now" "[I", Cond.fieldLink RX7 13 "PleatRoadsModel" "pleatKind" "[I", Cond.fieldLink RX7 16 "PleatRoadsModel" "breath" "[I", Cond.fieldLink RX7 37 "PleatRoadsModel" "far" "[I", Cond.methodLink RX7 129 yX7_pleatOf, Cond.instanceMethod yX7_pleatOf, Cond.selects RX7 yX7_pleatOf yX7_pleatOf, Cond.initialized RX7, Cond.code yX7_pleatOf cX7_pleatOf 4 (some .int), Cond.methodLink RX7 122 yX7_isPleat, Cond.instanceMethod yX7_isPleat, Cond.selects RX7 yX7_isPleat yX7_isPleat, Cond.code yX7_isPleat cX7_isPleat 2 (some .boolean), Cond.fieldLink RX7 93 "PleatRoadsModel" "pleats" "I", Cond.methodLink RX7 61 yX7_in, Cond.static yX7_in, Cond.code yX7_in cX7_in 6 (some .boolean), Cond.methodLink RX7 115 yX7_costs, Cond.instanceMethod yX7_costs, Cond.selects RX7 yX7_costs yX7_costs, Cond.code yX7_costs cX7_costs 7 (some .int), Cond.fieldLink RX7 105 "PleatRoadsModel" "ice" "I"]
def wsX7_goFrom_r2 : List Cond := [Cond.fieldLink RX7 7 "PleatRoadsModel" "stiffness" "[I", Cond.methodLink RX7 108 yX7_has, Cond.static yX7_has, Cond.code yX7_has cX7_has 2 (some .boolean), Cond.methodLink RX7 112 yX7_atLeast, Cond.static yX7_atLeast, Cond.code yX7_atLeast cX7_atLeast 2 (some .int), Cond.methodLink RX7 119 yX7_pays, Cond.static yX7_pays, Cond.code yX7_pays cX7_pays 2 (some .int), Cond.methodLink RX7 167 yX7_meetState, Cond.instanceMethod yX7_meetState, Cond.selects RX7 yX7_meetState yX7_meetState, Cond.code yX7_meetState cX7_meetState 6 none, Cond.fieldLink RX7 40 "PleatRoadsModel" "queue" "[I", Cond.fieldLink RX7 161 "PleatRoadsModel" "queued" "I"]
def wsX7_goFrom : List Cond := .code yX7_goFrom cX7_goFrom 9 none :: ((wsX7_goFrom_r1 ++ wsX7_goFrom_r2) ++ wsX70)
def wsX7_spread_r1 : List Cond := [Cond.fieldLink RX7 37 "PleatRoadsModel" "far" "[I", Cond.fieldLink RX7 161 "PleatRoadsModel" "queued" "I", Cond.fieldLink RX7 164 "PleatRoadsModel" "greasedHere" "I", Cond.fieldLink RX7 22 "PleatRoadsModel" "now" "[I", Cond.fieldLink RX7 40 "PleatRoadsModel" "queue" "[I", Cond.methodLink RX7 167 yX7_meetState, Cond.instanceMethod yX7_meetState, Cond.selects RX7 yX7_meetState yX7_meetState, Cond.initialized RX7, Cond.code yX7_meetState cX7_meetState 6 none, Cond.methodLink RX7 171 yX7_goFrom, Cond.instanceMethod yX7_goFrom, Cond.selects RX7 yX7_goFrom yX7_goFrom, Cond.code yX7_goFrom cX7_goFrom 9 none, Cond.fieldLink RX7 19 "PleatRoadsModel" "kind" "[I", Cond.fieldLink RX7 13 "PleatRoadsModel" "pleatKind" "[I", Cond.fieldLink RX7 16 "PleatRoadsModel" "breath" "[I", Cond.methodLink RX7 129 yX7_pleatOf, Cond.instanceMethod yX7_pleatOf, Cond.selects RX7 yX7_pleatOf yX7_pleatOf, Cond.code yX7_pleatOf cX7_pleatOf 4 (some .int), Cond.methodLink RX7 122 yX7_isPleat, Cond.instanceMethod yX7_isPleat, Cond.selects RX7 yX7_isPleat yX7_isPleat]
def wsX7_spread_r2 : List Cond := [Cond.code yX7_isPleat cX7_isPleat 2 (some .boolean), Cond.fieldLink RX7 93 "PleatRoadsModel" "pleats" "I", Cond.methodLink RX7 61 yX7_in, Cond.static yX7_in, Cond.code yX7_in cX7_in 6 (some .boolean), Cond.methodLink RX7 115 yX7_costs, Cond.instanceMethod yX7_costs, Cond.selects RX7 yX7_costs yX7_costs, Cond.code yX7_costs cX7_costs 7 (some .int), Cond.fieldLink RX7 105 "PleatRoadsModel" "ice" "I", Cond.fieldLink RX7 7 "PleatRoadsModel" "stiffness" "[I", Cond.methodLink RX7 108 yX7_has, Cond.static yX7_has, Cond.code yX7_has cX7_has 2 (some .boolean), Cond.methodLink RX7 112 yX7_atLeast, Cond.static yX7_atLeast, Cond.code yX7_atLeast cX7_atLeast 2 (some .int), Cond.methodLink RX7 119 yX7_pays, Cond.static yX7_pays, Cond.code yX7_pays cX7_pays 2 (some .int), Cond.methodLink RX7 137 yX7_rested, Cond.instanceMethod yX7_rested, Cond.selects RX7 yX7_rested yX7_rested, Cond.code yX7_rested cX7_rested 4 (some .int)]
def wsX7_spread : List Cond := .code yX7_spread cX7_spread 8 none :: ((wsX7_spread_r1 ++ wsX7_spread_r2) ++ wsX70)
def wsX7_reachOn_r1 : List Cond := [Cond.fieldLink RX7 161 "PleatRoadsModel" "queued" "I", Cond.fieldLink RX7 40 "PleatRoadsModel" "queue" "[I", Cond.methodLink RX7 175 yX7_spread, Cond.instanceMethod yX7_spread, Cond.selects RX7 yX7_spread yX7_spread, Cond.initialized RX7, Cond.code yX7_spread cX7_spread 8 none, Cond.fieldLink RX7 37 "PleatRoadsModel" "far" "[I", Cond.fieldLink RX7 164 "PleatRoadsModel" "greasedHere" "I", Cond.fieldLink RX7 22 "PleatRoadsModel" "now" "[I", Cond.methodLink RX7 167 yX7_meetState, Cond.instanceMethod yX7_meetState, Cond.selects RX7 yX7_meetState yX7_meetState, Cond.code yX7_meetState cX7_meetState 6 none, Cond.methodLink RX7 171 yX7_goFrom, Cond.instanceMethod yX7_goFrom, Cond.selects RX7 yX7_goFrom yX7_goFrom, Cond.code yX7_goFrom cX7_goFrom 9 none, Cond.fieldLink RX7 19 "PleatRoadsModel" "kind" "[I", Cond.fieldLink RX7 13 "PleatRoadsModel" "pleatKind" "[I", Cond.fieldLink RX7 16 "PleatRoadsModel" "breath" "[I", Cond.methodLink RX7 129 yX7_pleatOf, Cond.instanceMethod yX7_pleatOf, Cond.selects RX7 yX7_pleatOf yX7_pleatOf]
def wsX7_reachOn_r2 : List Cond := [Cond.code yX7_pleatOf cX7_pleatOf 4 (some .int), Cond.methodLink RX7 122 yX7_isPleat, Cond.instanceMethod yX7_isPleat, Cond.selects RX7 yX7_isPleat yX7_isPleat, Cond.code yX7_isPleat cX7_isPleat 2 (some .boolean), Cond.fieldLink RX7 93 "PleatRoadsModel" "pleats" "I", Cond.methodLink RX7 61 yX7_in, Cond.static yX7_in, Cond.code yX7_in cX7_in 6 (some .boolean), Cond.methodLink RX7 115 yX7_costs, Cond.instanceMethod yX7_costs, Cond.selects RX7 yX7_costs yX7_costs, Cond.code yX7_costs cX7_costs 7 (some .int), Cond.fieldLink RX7 105 "PleatRoadsModel" "ice" "I", Cond.fieldLink RX7 7 "PleatRoadsModel" "stiffness" "[I", Cond.methodLink RX7 108 yX7_has, Cond.static yX7_has, Cond.code yX7_has cX7_has 2 (some .boolean), Cond.methodLink RX7 112 yX7_atLeast, Cond.static yX7_atLeast, Cond.code yX7_atLeast cX7_atLeast 2 (some .int), Cond.methodLink RX7 119 yX7_pays, Cond.static yX7_pays, Cond.code yX7_pays cX7_pays 2 (some .int)]
def wsX7_reachOn_r3 : List Cond := [Cond.methodLink RX7 137 yX7_rested, Cond.instanceMethod yX7_rested, Cond.selects RX7 yX7_rested yX7_rested, Cond.code yX7_rested cX7_rested 4 (some .int)]
def wsX7_reachOn : List Cond := .code yX7_reachOn cX7_reachOn 6 (some .int) :: ((wsX7_reachOn_r1 ++ (wsX7_reachOn_r2 ++ wsX7_reachOn_r3)) ++ wsX70)
def wsX7_reachNow_r1 : List Cond := [Cond.fieldLink RX7 22 "PleatRoadsModel" "now" "[I", Cond.methodLink RX7 179 yX7_reachOn, Cond.instanceMethod yX7_reachOn, Cond.selects RX7 yX7_reachOn yX7_reachOn, Cond.initialized RX7, Cond.code yX7_reachOn cX7_reachOn 6 (some .int), Cond.fieldLink RX7 161 "PleatRoadsModel" "queued" "I", Cond.fieldLink RX7 40 "PleatRoadsModel" "queue" "[I", Cond.methodLink RX7 175 yX7_spread, Cond.instanceMethod yX7_spread, Cond.selects RX7 yX7_spread yX7_spread, Cond.code yX7_spread cX7_spread 8 none, Cond.fieldLink RX7 37 "PleatRoadsModel" "far" "[I", Cond.fieldLink RX7 164 "PleatRoadsModel" "greasedHere" "I", Cond.methodLink RX7 167 yX7_meetState, Cond.instanceMethod yX7_meetState, Cond.selects RX7 yX7_meetState yX7_meetState, Cond.code yX7_meetState cX7_meetState 6 none, Cond.methodLink RX7 171 yX7_goFrom, Cond.instanceMethod yX7_goFrom, Cond.selects RX7 yX7_goFrom yX7_goFrom, Cond.code yX7_goFrom cX7_goFrom 9 none, Cond.fieldLink RX7 19 "PleatRoadsModel" "kind" "[I", Cond.fieldLink RX7 13 "PleatRoadsModel" "pleatKind" "[I"]
def wsX7_reachNow_r2 : List Cond := [Cond.fieldLink RX7 16 "PleatRoadsModel" "breath" "[I", Cond.methodLink RX7 129 yX7_pleatOf, Cond.instanceMethod yX7_pleatOf, Cond.selects RX7 yX7_pleatOf yX7_pleatOf, Cond.code yX7_pleatOf cX7_pleatOf 4 (some .int), Cond.methodLink RX7 122 yX7_isPleat, Cond.instanceMethod yX7_isPleat, Cond.selects RX7 yX7_isPleat yX7_isPleat, Cond.code yX7_isPleat cX7_isPleat 2 (some .boolean), Cond.fieldLink RX7 93 "PleatRoadsModel" "pleats" "I", Cond.methodLink RX7 61 yX7_in, Cond.static yX7_in, Cond.code yX7_in cX7_in 6 (some .boolean), Cond.methodLink RX7 115 yX7_costs, Cond.instanceMethod yX7_costs, Cond.selects RX7 yX7_costs yX7_costs, Cond.code yX7_costs cX7_costs 7 (some .int), Cond.fieldLink RX7 105 "PleatRoadsModel" "ice" "I", Cond.fieldLink RX7 7 "PleatRoadsModel" "stiffness" "[I", Cond.methodLink RX7 108 yX7_has, Cond.static yX7_has, Cond.code yX7_has cX7_has 2 (some .boolean), Cond.methodLink RX7 112 yX7_atLeast, Cond.static yX7_atLeast]
def wsX7_reachNow_r3 : List Cond := [Cond.code yX7_atLeast cX7_atLeast 2 (some .int), Cond.methodLink RX7 119 yX7_pays, Cond.static yX7_pays, Cond.code yX7_pays cX7_pays 2 (some .int), Cond.methodLink RX7 137 yX7_rested, Cond.instanceMethod yX7_rested, Cond.selects RX7 yX7_rested yX7_rested, Cond.code yX7_rested cX7_rested 4 (some .int)]
def wsX7_reachNow : List Cond := .code yX7_reachNow cX7_reachNow 2 (some .int) :: ((wsX7_reachNow_r1 ++ (wsX7_reachNow_r2 ++ wsX7_reachNow_r3)) ++ wsX70)
def wsX7_reach_r1 : List Cond := [Cond.methodLink RX7 126 yX7_isTraveller, Cond.instanceMethod yX7_isTraveller, Cond.selects RX7 yX7_isTraveller yX7_isTraveller, Cond.initialized RX7, Cond.code yX7_isTraveller cX7_isTraveller 2 (some .boolean), Cond.fieldLink RX7 96 "PleatRoadsModel" "travellers" "I", Cond.methodLink RX7 61 yX7_in, Cond.static yX7_in, Cond.code yX7_in cX7_in 6 (some .boolean), Cond.methodLink RX7 182 yX7_reachNow, Cond.instanceMethod yX7_reachNow, Cond.selects RX7 yX7_reachNow yX7_reachNow, Cond.code yX7_reachNow cX7_reachNow 2 (some .int), Cond.fieldLink RX7 22 "PleatRoadsModel" "now" "[I", Cond.methodLink RX7 179 yX7_reachOn, Cond.instanceMethod yX7_reachOn, Cond.selects RX7 yX7_reachOn yX7_reachOn, Cond.code yX7_reachOn cX7_reachOn 6 (some .int), Cond.fieldLink RX7 161 "PleatRoadsModel" "queued" "I", Cond.fieldLink RX7 40 "PleatRoadsModel" "queue" "[I", Cond.methodLink RX7 175 yX7_spread, Cond.instanceMethod yX7_spread, Cond.selects RX7 yX7_spread yX7_spread, Cond.code yX7_spread cX7_spread 8 none]
def wsX7_reach_r2 : List Cond := [Cond.fieldLink RX7 37 "PleatRoadsModel" "far" "[I", Cond.fieldLink RX7 164 "PleatRoadsModel" "greasedHere" "I", Cond.methodLink RX7 167 yX7_meetState, Cond.instanceMethod yX7_meetState, Cond.selects RX7 yX7_meetState yX7_meetState, Cond.code yX7_meetState cX7_meetState 6 none, Cond.methodLink RX7 171 yX7_goFrom, Cond.instanceMethod yX7_goFrom, Cond.selects RX7 yX7_goFrom yX7_goFrom, Cond.code yX7_goFrom cX7_goFrom 9 none, Cond.fieldLink RX7 19 "PleatRoadsModel" "kind" "[I", Cond.fieldLink RX7 13 "PleatRoadsModel" "pleatKind" "[I", Cond.fieldLink RX7 16 "PleatRoadsModel" "breath" "[I", Cond.methodLink RX7 129 yX7_pleatOf, Cond.instanceMethod yX7_pleatOf, Cond.selects RX7 yX7_pleatOf yX7_pleatOf, Cond.code yX7_pleatOf cX7_pleatOf 4 (some .int), Cond.methodLink RX7 122 yX7_isPleat, Cond.instanceMethod yX7_isPleat, Cond.selects RX7 yX7_isPleat yX7_isPleat, Cond.code yX7_isPleat cX7_isPleat 2 (some .boolean), Cond.fieldLink RX7 93 "PleatRoadsModel" "pleats" "I", Cond.methodLink RX7 115 yX7_costs, Cond.instanceMethod yX7_costs]
def wsX7_reach_r3 : List Cond := [Cond.selects RX7 yX7_costs yX7_costs, Cond.code yX7_costs cX7_costs 7 (some .int), Cond.fieldLink RX7 105 "PleatRoadsModel" "ice" "I", Cond.fieldLink RX7 7 "PleatRoadsModel" "stiffness" "[I", Cond.methodLink RX7 108 yX7_has, Cond.static yX7_has, Cond.code yX7_has cX7_has 2 (some .boolean), Cond.methodLink RX7 112 yX7_atLeast, Cond.static yX7_atLeast, Cond.code yX7_atLeast cX7_atLeast 2 (some .int), Cond.methodLink RX7 119 yX7_pays, Cond.static yX7_pays, Cond.code yX7_pays cX7_pays 2 (some .int), Cond.methodLink RX7 137 yX7_rested, Cond.instanceMethod yX7_rested, Cond.selects RX7 yX7_rested yX7_rested, Cond.code yX7_rested cX7_rested 4 (some .int)]
def wsX7_reach : List Cond := .code yX7_reach cX7_reach 2 (some .int) :: ((wsX7_reach_r1 ++ (wsX7_reach_r2 ++ wsX7_reach_r3)) ++ wsX70)
def wsX7_fewest_r1 : List Cond := [Cond.fieldLink RX7 22 "PleatRoadsModel" "now" "[I", Cond.fieldLink RX7 161 "PleatRoadsModel" "queued" "I", Cond.fieldLink RX7 40 "PleatRoadsModel" "queue" "[I", Cond.fieldLink RX7 37 "PleatRoadsModel" "far" "[I", Cond.methodLink RX7 126 yX7_isTraveller, Cond.instanceMethod yX7_isTraveller, Cond.selects RX7 yX7_isTraveller yX7_isTraveller, Cond.initialized RX7, Cond.code yX7_isTraveller cX7_isTraveller 2 (some .boolean), Cond.fieldLink RX7 96 "PleatRoadsModel" "travellers" "I", Cond.methodLink RX7 61 yX7_in, Cond.static yX7_in, Cond.code yX7_in cX7_in 6 (some .boolean), Cond.methodLink RX7 186 yX7_isPlace, Cond.instanceMethod yX7_isPlace, Cond.selects RX7 yX7_isPlace yX7_isPlace, Cond.code yX7_isPlace cX7_isPlace 2 (some .boolean), Cond.fieldLink RX7 93 "PleatRoadsModel" "pleats" "I", Cond.methodLink RX7 175 yX7_spread, Cond.instanceMethod yX7_spread, Cond.selects RX7 yX7_spread yX7_spread, Cond.code yX7_spread cX7_spread 8 none, Cond.fieldLink RX7 164 "PleatRoadsModel" "greasedHere" "I", Cond.methodLink RX7 167 yX7_meetState]
def wsX7_fewest_r2 : List Cond := [Cond.instanceMethod yX7_meetState, Cond.selects RX7 yX7_meetState yX7_meetState, Cond.code yX7_meetState cX7_meetState 6 none, Cond.methodLink RX7 171 yX7_goFrom, Cond.instanceMethod yX7_goFrom, Cond.selects RX7 yX7_goFrom yX7_goFrom, Cond.code yX7_goFrom cX7_goFrom 9 none, Cond.fieldLink RX7 19 "PleatRoadsModel" "kind" "[I", Cond.fieldLink RX7 13 "PleatRoadsModel" "pleatKind" "[I", Cond.fieldLink RX7 16 "PleatRoadsModel" "breath" "[I", Cond.methodLink RX7 129 yX7_pleatOf, Cond.instanceMethod yX7_pleatOf, Cond.selects RX7 yX7_pleatOf yX7_pleatOf, Cond.code yX7_pleatOf cX7_pleatOf 4 (some .int), Cond.methodLink RX7 122 yX7_isPleat, Cond.instanceMethod yX7_isPleat, Cond.selects RX7 yX7_isPleat yX7_isPleat, Cond.code yX7_isPleat cX7_isPleat 2 (some .boolean), Cond.methodLink RX7 115 yX7_costs, Cond.instanceMethod yX7_costs, Cond.selects RX7 yX7_costs yX7_costs, Cond.code yX7_costs cX7_costs 7 (some .int), Cond.fieldLink RX7 105 "PleatRoadsModel" "ice" "I", Cond.fieldLink RX7 7 "PleatRoadsModel" "stiffness" "[I"]
def wsX7_fewest_r3 : List Cond := [Cond.methodLink RX7 108 yX7_has, Cond.static yX7_has, Cond.code yX7_has cX7_has 2 (some .boolean), Cond.methodLink RX7 112 yX7_atLeast, Cond.static yX7_atLeast, Cond.code yX7_atLeast cX7_atLeast 2 (some .int), Cond.methodLink RX7 119 yX7_pays, Cond.static yX7_pays, Cond.code yX7_pays cX7_pays 2 (some .int), Cond.methodLink RX7 137 yX7_rested, Cond.instanceMethod yX7_rested, Cond.selects RX7 yX7_rested yX7_rested, Cond.code yX7_rested cX7_rested 4 (some .int)]
def wsX7_fewest : List Cond := .code yX7_fewest cX7_fewest 4 (some .int) :: ((wsX7_fewest_r1 ++ (wsX7_fewest_r2 ++ wsX7_fewest_r3)) ++ wsX70)
def wsX7_wants_r1 : List Cond := [Cond.fieldLink RX7 93 "PleatRoadsModel" "pleats" "I", Cond.fieldLink RX7 22 "PleatRoadsModel" "now" "[I", Cond.methodLink RX7 126 yX7_isTraveller, Cond.instanceMethod yX7_isTraveller, Cond.selects RX7 yX7_isTraveller yX7_isTraveller, Cond.initialized RX7, Cond.code yX7_isTraveller cX7_isTraveller 2 (some .boolean), Cond.fieldLink RX7 96 "PleatRoadsModel" "travellers" "I", Cond.methodLink RX7 61 yX7_in, Cond.static yX7_in, Cond.code yX7_in cX7_in 6 (some .boolean), Cond.methodLink RX7 186 yX7_isPlace, Cond.instanceMethod yX7_isPlace, Cond.selects RX7 yX7_isPlace yX7_isPlace, Cond.code yX7_isPlace cX7_isPlace 2 (some .boolean), Cond.methodLink RX7 189 yX7_ones, Cond.static yX7_ones, Cond.code yX7_ones cX7_ones 3 (some .int), Cond.methodLink RX7 179 yX7_reachOn, Cond.instanceMethod yX7_reachOn, Cond.selects RX7 yX7_reachOn yX7_reachOn, Cond.code yX7_reachOn cX7_reachOn 6 (some .int), Cond.fieldLink RX7 161 "PleatRoadsModel" "queued" "I", Cond.fieldLink RX7 40 "PleatRoadsModel" "queue" "[I"]
def wsX7_wants_r2 : List Cond := [Cond.methodLink RX7 175 yX7_spread, Cond.instanceMethod yX7_spread, Cond.selects RX7 yX7_spread yX7_spread, Cond.code yX7_spread cX7_spread 8 none, Cond.fieldLink RX7 37 "PleatRoadsModel" "far" "[I", Cond.fieldLink RX7 164 "PleatRoadsModel" "greasedHere" "I", Cond.methodLink RX7 167 yX7_meetState, Cond.instanceMethod yX7_meetState, Cond.selects RX7 yX7_meetState yX7_meetState, Cond.code yX7_meetState cX7_meetState 6 none, Cond.methodLink RX7 171 yX7_goFrom, Cond.instanceMethod yX7_goFrom, Cond.selects RX7 yX7_goFrom yX7_goFrom, Cond.code yX7_goFrom cX7_goFrom 9 none, Cond.fieldLink RX7 19 "PleatRoadsModel" "kind" "[I", Cond.fieldLink RX7 13 "PleatRoadsModel" "pleatKind" "[I", Cond.fieldLink RX7 16 "PleatRoadsModel" "breath" "[I", Cond.methodLink RX7 129 yX7_pleatOf, Cond.instanceMethod yX7_pleatOf, Cond.selects RX7 yX7_pleatOf yX7_pleatOf, Cond.code yX7_pleatOf cX7_pleatOf 4 (some .int), Cond.methodLink RX7 122 yX7_isPleat, Cond.instanceMethod yX7_isPleat, Cond.selects RX7 yX7_isPleat yX7_isPleat]
def wsX7_wants_r3 : List Cond := [Cond.code yX7_isPleat cX7_isPleat 2 (some .boolean), Cond.methodLink RX7 115 yX7_costs, Cond.instanceMethod yX7_costs, Cond.selects RX7 yX7_costs yX7_costs, Cond.code yX7_costs cX7_costs 7 (some .int), Cond.fieldLink RX7 105 "PleatRoadsModel" "ice" "I", Cond.fieldLink RX7 7 "PleatRoadsModel" "stiffness" "[I", Cond.methodLink RX7 108 yX7_has, Cond.static yX7_has, Cond.code yX7_has cX7_has 2 (some .boolean), Cond.methodLink RX7 112 yX7_atLeast, Cond.static yX7_atLeast, Cond.code yX7_atLeast cX7_atLeast 2 (some .int), Cond.methodLink RX7 119 yX7_pays, Cond.static yX7_pays, Cond.code yX7_pays cX7_pays 2 (some .int), Cond.methodLink RX7 137 yX7_rested, Cond.instanceMethod yX7_rested, Cond.selects RX7 yX7_rested yX7_rested, Cond.code yX7_rested cX7_rested 4 (some .int)]
def wsX7_wants : List Cond := .code yX7_wants cX7_wants 6 (some .int) :: ((wsX7_wants_r1 ++ (wsX7_wants_r2 ++ wsX7_wants_r3)) ++ wsX70)
def wsX7_shutIn_r1 : List Cond := [Cond.fieldLink RX7 96 "PleatRoadsModel" "travellers" "I", Cond.fieldLink RX7 22 "PleatRoadsModel" "now" "[I", Cond.methodLink RX7 182 yX7_reachNow, Cond.instanceMethod yX7_reachNow, Cond.selects RX7 yX7_reachNow yX7_reachNow, Cond.initialized RX7, Cond.code yX7_reachNow cX7_reachNow 2 (some .int), Cond.methodLink RX7 179 yX7_reachOn, Cond.instanceMethod yX7_reachOn, Cond.selects RX7 yX7_reachOn yX7_reachOn, Cond.code yX7_reachOn cX7_reachOn 6 (some .int), Cond.fieldLink RX7 161 "PleatRoadsModel" "queued" "I", Cond.fieldLink RX7 40 "PleatRoadsModel" "queue" "[I", Cond.methodLink RX7 175 yX7_spread, Cond.instanceMethod yX7_spread, Cond.selects RX7 yX7_spread yX7_spread, Cond.code yX7_spread cX7_spread 8 none, Cond.fieldLink RX7 37 "PleatRoadsModel" "far" "[I", Cond.fieldLink RX7 164 "PleatRoadsModel" "greasedHere" "I", Cond.methodLink RX7 167 yX7_meetState, Cond.instanceMethod yX7_meetState, Cond.selects RX7 yX7_meetState yX7_meetState, Cond.code yX7_meetState cX7_meetState 6 none, Cond.methodLink RX7 171 yX7_goFrom]
def wsX7_shutIn_r2 : List Cond := [Cond.instanceMethod yX7_goFrom, Cond.selects RX7 yX7_goFrom yX7_goFrom, Cond.code yX7_goFrom cX7_goFrom 9 none, Cond.fieldLink RX7 19 "PleatRoadsModel" "kind" "[I", Cond.fieldLink RX7 13 "PleatRoadsModel" "pleatKind" "[I", Cond.fieldLink RX7 16 "PleatRoadsModel" "breath" "[I", Cond.methodLink RX7 129 yX7_pleatOf, Cond.instanceMethod yX7_pleatOf, Cond.selects RX7 yX7_pleatOf yX7_pleatOf, Cond.code yX7_pleatOf cX7_pleatOf 4 (some .int), Cond.methodLink RX7 122 yX7_isPleat, Cond.instanceMethod yX7_isPleat, Cond.selects RX7 yX7_isPleat yX7_isPleat, Cond.code yX7_isPleat cX7_isPleat 2 (some .boolean), Cond.fieldLink RX7 93 "PleatRoadsModel" "pleats" "I", Cond.methodLink RX7 61 yX7_in, Cond.static yX7_in, Cond.code yX7_in cX7_in 6 (some .boolean), Cond.methodLink RX7 115 yX7_costs, Cond.instanceMethod yX7_costs, Cond.selects RX7 yX7_costs yX7_costs, Cond.code yX7_costs cX7_costs 7 (some .int), Cond.fieldLink RX7 105 "PleatRoadsModel" "ice" "I", Cond.fieldLink RX7 7 "PleatRoadsModel" "stiffness" "[I"]
def wsX7_shutIn_r3 : List Cond := [Cond.methodLink RX7 108 yX7_has, Cond.static yX7_has, Cond.code yX7_has cX7_has 2 (some .boolean), Cond.methodLink RX7 112 yX7_atLeast, Cond.static yX7_atLeast, Cond.code yX7_atLeast cX7_atLeast 2 (some .int), Cond.methodLink RX7 119 yX7_pays, Cond.static yX7_pays, Cond.code yX7_pays cX7_pays 2 (some .int), Cond.methodLink RX7 137 yX7_rested, Cond.instanceMethod yX7_rested, Cond.selects RX7 yX7_rested yX7_rested, Cond.code yX7_rested cX7_rested 4 (some .int)]
def wsX7_shutIn : List Cond := .code yX7_shutIn cX7_shutIn 3 (some .int) :: ((wsX7_shutIn_r1 ++ (wsX7_shutIn_r2 ++ wsX7_shutIn_r3)) ++ wsX70)
def wsX7_meet_r1 : List Cond := [Cond.methodLink RX7 126 yX7_isTraveller, Cond.instanceMethod yX7_isTraveller, Cond.selects RX7 yX7_isTraveller yX7_isTraveller, Cond.initialized RX7, Cond.code yX7_isTraveller cX7_isTraveller 2 (some .boolean), Cond.fieldLink RX7 96 "PleatRoadsModel" "travellers" "I", Cond.methodLink RX7 61 yX7_in, Cond.static yX7_in, Cond.code yX7_in cX7_in 6 (some .boolean), Cond.methodLink RX7 182 yX7_reachNow, Cond.instanceMethod yX7_reachNow, Cond.selects RX7 yX7_reachNow yX7_reachNow, Cond.code yX7_reachNow cX7_reachNow 2 (some .int), Cond.fieldLink RX7 22 "PleatRoadsModel" "now" "[I", Cond.methodLink RX7 179 yX7_reachOn, Cond.instanceMethod yX7_reachOn, Cond.selects RX7 yX7_reachOn yX7_reachOn, Cond.code yX7_reachOn cX7_reachOn 6 (some .int), Cond.fieldLink RX7 161 "PleatRoadsModel" "queued" "I", Cond.fieldLink RX7 40 "PleatRoadsModel" "queue" "[I", Cond.methodLink RX7 175 yX7_spread, Cond.instanceMethod yX7_spread, Cond.selects RX7 yX7_spread yX7_spread, Cond.code yX7_spread cX7_spread 8 none]
def wsX7_meet_r2 : List Cond := [Cond.fieldLink RX7 37 "PleatRoadsModel" "far" "[I", Cond.fieldLink RX7 164 "PleatRoadsModel" "greasedHere" "I", Cond.methodLink RX7 167 yX7_meetState, Cond.instanceMethod yX7_meetState, Cond.selects RX7 yX7_meetState yX7_meetState, Cond.code yX7_meetState cX7_meetState 6 none, Cond.methodLink RX7 171 yX7_goFrom, Cond.instanceMethod yX7_goFrom, Cond.selects RX7 yX7_goFrom yX7_goFrom, Cond.code yX7_goFrom cX7_goFrom 9 none, Cond.fieldLink RX7 19 "PleatRoadsModel" "kind" "[I", Cond.fieldLink RX7 13 "PleatRoadsModel" "pleatKind" "[I", Cond.fieldLink RX7 16 "PleatRoadsModel" "breath" "[I", Cond.methodLink RX7 129 yX7_pleatOf, Cond.instanceMethod yX7_pleatOf, Cond.selects RX7 yX7_pleatOf yX7_pleatOf, Cond.code yX7_pleatOf cX7_pleatOf 4 (some .int), Cond.methodLink RX7 122 yX7_isPleat, Cond.instanceMethod yX7_isPleat, Cond.selects RX7 yX7_isPleat yX7_isPleat, Cond.code yX7_isPleat cX7_isPleat 2 (some .boolean), Cond.fieldLink RX7 93 "PleatRoadsModel" "pleats" "I", Cond.methodLink RX7 115 yX7_costs, Cond.instanceMethod yX7_costs]
def wsX7_meet_r3 : List Cond := [Cond.selects RX7 yX7_costs yX7_costs, Cond.code yX7_costs cX7_costs 7 (some .int), Cond.fieldLink RX7 105 "PleatRoadsModel" "ice" "I", Cond.fieldLink RX7 7 "PleatRoadsModel" "stiffness" "[I", Cond.methodLink RX7 108 yX7_has, Cond.static yX7_has, Cond.code yX7_has cX7_has 2 (some .boolean), Cond.methodLink RX7 112 yX7_atLeast, Cond.static yX7_atLeast, Cond.code yX7_atLeast cX7_atLeast 2 (some .int), Cond.methodLink RX7 119 yX7_pays, Cond.static yX7_pays, Cond.code yX7_pays cX7_pays 2 (some .int), Cond.methodLink RX7 137 yX7_rested, Cond.instanceMethod yX7_rested, Cond.selects RX7 yX7_rested yX7_rested, Cond.code yX7_rested cX7_rested 4 (some .int)]
def wsX7_meet : List Cond := .code yX7_meet cX7_meet 3 (some .int) :: ((wsX7_meet_r1 ++ (wsX7_meet_r2 ++ wsX7_meet_r3)) ++ wsX70)
def wsX7_layTrial : List Cond := .code yX7_layTrial cX7_layTrial 2 none :: ([.fieldLink RX7 22 "PleatRoadsModel" "now" "[I"] ++ wsX70)
def wsX7_tryThing_r1 : List Cond := [Cond.fieldLink RX7 22 "PleatRoadsModel" "now" "[I", Cond.methodLink RX7 146 yX7_canStep, Cond.instanceMethod yX7_canStep, Cond.selects RX7 yX7_canStep yX7_canStep, Cond.initialized RX7, Cond.code yX7_canStep cX7_canStep 6 (some .boolean), Cond.methodLink RX7 126 yX7_isTraveller, Cond.instanceMethod yX7_isTraveller, Cond.selects RX7 yX7_isTraveller yX7_isTraveller, Cond.code yX7_isTraveller cX7_isTraveller 2 (some .boolean), Cond.fieldLink RX7 96 "PleatRoadsModel" "travellers" "I", Cond.methodLink RX7 61 yX7_in, Cond.static yX7_in, Cond.code yX7_in cX7_in 6 (some .boolean), Cond.methodLink RX7 129 yX7_pleatOf, Cond.instanceMethod yX7_pleatOf, Cond.selects RX7 yX7_pleatOf yX7_pleatOf, Cond.code yX7_pleatOf cX7_pleatOf 4 (some .int), Cond.methodLink RX7 122 yX7_isPleat, Cond.instanceMethod yX7_isPleat, Cond.selects RX7 yX7_isPleat yX7_isPleat, Cond.code yX7_isPleat cX7_isPleat 2 (some .boolean), Cond.fieldLink RX7 93 "PleatRoadsModel" "pleats" "I", Cond.methodLink RX7 133 yX7_paysOn]
def wsX7_tryThing_r2 : List Cond := [Cond.instanceMethod yX7_paysOn, Cond.selects RX7 yX7_paysOn yX7_paysOn, Cond.code yX7_paysOn cX7_paysOn 5 (some .int), Cond.fieldLink RX7 19 "PleatRoadsModel" "kind" "[I", Cond.methodLink RX7 115 yX7_costs, Cond.instanceMethod yX7_costs, Cond.selects RX7 yX7_costs yX7_costs, Cond.code yX7_costs cX7_costs 7 (some .int), Cond.fieldLink RX7 105 "PleatRoadsModel" "ice" "I", Cond.fieldLink RX7 13 "PleatRoadsModel" "pleatKind" "[I", Cond.fieldLink RX7 7 "PleatRoadsModel" "stiffness" "[I", Cond.methodLink RX7 108 yX7_has, Cond.static yX7_has, Cond.code yX7_has cX7_has 2 (some .boolean), Cond.methodLink RX7 112 yX7_atLeast, Cond.static yX7_atLeast, Cond.code yX7_atLeast cX7_atLeast 2 (some .int), Cond.methodLink RX7 119 yX7_pays, Cond.static yX7_pays, Cond.code yX7_pays cX7_pays 2 (some .int), Cond.methodLink RX7 153 yX7_stepOn, Cond.instanceMethod yX7_stepOn, Cond.selects RX7 yX7_stepOn yX7_stepOn, Cond.code yX7_stepOn cX7_stepOn 6 none]
def wsX7_tryThing_r3 : List Cond := [Cond.fieldLink RX7 16 "PleatRoadsModel" "breath" "[I", Cond.methodLink RX7 157 yX7_restOn, Cond.instanceMethod yX7_restOn, Cond.selects RX7 yX7_restOn yX7_restOn, Cond.code yX7_restOn cX7_restOn 4 none, Cond.methodLink RX7 137 yX7_rested, Cond.instanceMethod yX7_rested, Cond.selects RX7 yX7_rested yX7_rested, Cond.code yX7_rested cX7_rested 4 (some .int)]
def wsX7_tryThing : List Cond := .code yX7_tryThing cX7_tryThing 8 (some .boolean) :: ((wsX7_tryThing_r1 ++ (wsX7_tryThing_r2 ++ wsX7_tryThing_r3)) ++ wsX70)
def wsX7_thousandTo : List Cond := .code yX7_thousandTo cX7_thousandTo 4 (some .long) :: ([.constantLong RX7 192 (1000)])
def wsX7_judge_r1 : List Cond := [Cond.constantLong RX7 194 (4), Cond.constantLong RX7 192 (1000), Cond.methodLink RX7 61 yX7_in, Cond.static yX7_in, Cond.initialized RX7, Cond.code yX7_in cX7_in 6 (some .boolean), Cond.methodLink RX7 196 yX7_thousandTo, Cond.static yX7_thousandTo, Cond.code yX7_thousandTo cX7_thousandTo 4 (some .long), Cond.methodLink RX7 200 yX7_layTrial, Cond.instanceMethod yX7_layTrial, Cond.selects RX7 yX7_layTrial yX7_layTrial, Cond.code yX7_layTrial cX7_layTrial 2 none, Cond.fieldLink RX7 22 "PleatRoadsModel" "now" "[I", Cond.methodLink RX7 203 yX7_tryThing, Cond.instanceMethod yX7_tryThing, Cond.selects RX7 yX7_tryThing yX7_tryThing, Cond.code yX7_tryThing cX7_tryThing 8 (some .boolean), Cond.methodLink RX7 146 yX7_canStep, Cond.instanceMethod yX7_canStep, Cond.selects RX7 yX7_canStep yX7_canStep, Cond.code yX7_canStep cX7_canStep 6 (some .boolean), Cond.methodLink RX7 126 yX7_isTraveller, Cond.instanceMethod yX7_isTraveller]
def wsX7_judge_r2 : List Cond := [Cond.selects RX7 yX7_isTraveller yX7_isTraveller, Cond.code yX7_isTraveller cX7_isTraveller 2 (some .boolean), Cond.fieldLink RX7 96 "PleatRoadsModel" "travellers" "I", Cond.methodLink RX7 129 yX7_pleatOf, Cond.instanceMethod yX7_pleatOf, Cond.selects RX7 yX7_pleatOf yX7_pleatOf, Cond.code yX7_pleatOf cX7_pleatOf 4 (some .int), Cond.methodLink RX7 122 yX7_isPleat, Cond.instanceMethod yX7_isPleat, Cond.selects RX7 yX7_isPleat yX7_isPleat, Cond.code yX7_isPleat cX7_isPleat 2 (some .boolean), Cond.fieldLink RX7 93 "PleatRoadsModel" "pleats" "I", Cond.methodLink RX7 133 yX7_paysOn, Cond.instanceMethod yX7_paysOn, Cond.selects RX7 yX7_paysOn yX7_paysOn, Cond.code yX7_paysOn cX7_paysOn 5 (some .int), Cond.fieldLink RX7 19 "PleatRoadsModel" "kind" "[I", Cond.methodLink RX7 115 yX7_costs, Cond.instanceMethod yX7_costs, Cond.selects RX7 yX7_costs yX7_costs, Cond.code yX7_costs cX7_costs 7 (some .int), Cond.fieldLink RX7 105 "PleatRoadsModel" "ice" "I", Cond.fieldLink RX7 13 "PleatRoadsModel" "pleatKind" "[I", Cond.fieldLink RX7 7 "PleatRoadsModel" "stiffness" "[I"]
def wsX7_judge_r3 : List Cond := [Cond.methodLink RX7 108 yX7_has, Cond.static yX7_has, Cond.code yX7_has cX7_has 2 (some .boolean), Cond.methodLink RX7 112 yX7_atLeast, Cond.static yX7_atLeast, Cond.code yX7_atLeast cX7_atLeast 2 (some .int), Cond.methodLink RX7 119 yX7_pays, Cond.static yX7_pays, Cond.code yX7_pays cX7_pays 2 (some .int), Cond.methodLink RX7 153 yX7_stepOn, Cond.instanceMethod yX7_stepOn, Cond.selects RX7 yX7_stepOn yX7_stepOn, Cond.code yX7_stepOn cX7_stepOn 6 none, Cond.fieldLink RX7 16 "PleatRoadsModel" "breath" "[I", Cond.methodLink RX7 157 yX7_restOn, Cond.instanceMethod yX7_restOn, Cond.selects RX7 yX7_restOn yX7_restOn, Cond.code yX7_restOn cX7_restOn 4 none, Cond.methodLink RX7 137 yX7_rested, Cond.instanceMethod yX7_rested, Cond.selects RX7 yX7_rested yX7_rested, Cond.code yX7_rested cX7_rested 4 (some .int)]
def wsX7_judge : List Cond := .code yX7_judge cX7_judge 6 (some .int) :: ((wsX7_judge_r1 ++ (wsX7_judge_r2 ++ wsX7_judge_r3)) ++ wsX70)
def wsX7_hear : List Cond := .code yX7_hear cX7_hear 3 (some .int) :: ([.constantLong RX7 207 (10), .fieldLink RX7 209 "PleatRoadsModel" "heard" "I", .fieldLink RX7 43 "PleatRoadsModel" "heardPlace" "[I", .fieldLink RX7 46 "PleatRoadsModel" "heardCame" "[I", .methodLink RX7 61 yX7_in, .static yX7_in, .initialized RX7, .code yX7_in cX7_in 6 (some .boolean)] ++ wsX70)
def wsX7_unhear : List Cond := .code yX7_unhear cX7_unhear 2 (some .int) :: ([.fieldLink RX7 209 "PleatRoadsModel" "heard" "I"] ++ wsX70)
def wsX7_farthest : List Cond := .code yX7_farthest cX7_farthest 6 (some .int) :: ([.fieldLink RX7 93 "PleatRoadsModel" "pleats" "I", .fieldLink RX7 13 "PleatRoadsModel" "pleatKind" "[I", .methodLink RX7 99 yX7_smooth, .instanceMethod yX7_smooth, .selects RX7 yX7_smooth yX7_smooth, .initialized RX7, .code yX7_smooth cX7_smooth 3 (some .int), .methodLink RX7 115 yX7_costs, .instanceMethod yX7_costs, .selects RX7 yX7_costs yX7_costs, .code yX7_costs cX7_costs 7 (some .int), .fieldLink RX7 105 "PleatRoadsModel" "ice" "I", .fieldLink RX7 7 "PleatRoadsModel" "stiffness" "[I", .methodLink RX7 108 yX7_has, .static yX7_has, .code yX7_has cX7_has 2 (some .boolean), .methodLink RX7 112 yX7_atLeast, .static yX7_atLeast, .code yX7_atLeast cX7_atLeast 2 (some .int), .methodLink RX7 119 yX7_pays, .static yX7_pays, .code yX7_pays cX7_pays 2 (some .int)] ++ wsX70)
def wsX7_who_r1 : List Cond := [Cond.fieldLink RX7 209 "PleatRoadsModel" "heard" "I", Cond.fieldLink RX7 43 "PleatRoadsModel" "heardPlace" "[I", Cond.fieldLink RX7 46 "PleatRoadsModel" "heardCame" "[I", Cond.methodLink RX7 61 yX7_in, Cond.static yX7_in, Cond.initialized RX7, Cond.code yX7_in cX7_in 6 (some .boolean), Cond.methodLink RX7 212 yX7_farthest, Cond.instanceMethod yX7_farthest, Cond.selects RX7 yX7_farthest yX7_farthest, Cond.code yX7_farthest cX7_farthest 6 (some .int), Cond.fieldLink RX7 93 "PleatRoadsModel" "pleats" "I", Cond.fieldLink RX7 13 "PleatRoadsModel" "pleatKind" "[I", Cond.methodLink RX7 99 yX7_smooth, Cond.instanceMethod yX7_smooth, Cond.selects RX7 yX7_smooth yX7_smooth, Cond.code yX7_smooth cX7_smooth 3 (some .int), Cond.methodLink RX7 115 yX7_costs, Cond.instanceMethod yX7_costs, Cond.selects RX7 yX7_costs yX7_costs, Cond.code yX7_costs cX7_costs 7 (some .int), Cond.fieldLink RX7 105 "PleatRoadsModel" "ice" "I", Cond.fieldLink RX7 7 "PleatRoadsModel" "stiffness" "[I", Cond.methodLink RX7 108 yX7_has]
def wsX7_who_r2 : List Cond := [Cond.static yX7_has, Cond.code yX7_has cX7_has 2 (some .boolean), Cond.methodLink RX7 112 yX7_atLeast, Cond.static yX7_atLeast, Cond.code yX7_atLeast cX7_atLeast 2 (some .int), Cond.methodLink RX7 119 yX7_pays, Cond.static yX7_pays, Cond.code yX7_pays cX7_pays 2 (some .int)]
def wsX7_who : List Cond := .code yX7_who cX7_who 8 (some .int) :: ((wsX7_who_r1 ++ wsX7_who_r2) ++ wsX70)
def wsX7_factorial : List Cond := .code yX7_factorial cX7_factorial 3 (some .int) :: ([])
def wsX7_common : List Cond := .code yX7_common cX7_common 5 (some .int) :: ([])
def wsX7_comeTo : List Cond := .code yX7_comeTo cX7_comeTo 4 (some .int) :: ([.fieldLink RX7 96 "PleatRoadsModel" "travellers" "I", .fieldLink RX7 49 "PleatRoadsModel" "reaches" "[I", .methodLink RX7 108 yX7_has, .static yX7_has, .initialized RX7, .code yX7_has cX7_has 2 (some .boolean), .methodLink RX7 189 yX7_ones, .static yX7_ones, .code yX7_ones cX7_ones 3 (some .int)] ++ wsX70)
def wsX7_share_r1 : List Cond := [Cond.fieldLink RX7 96 "PleatRoadsModel" "travellers" "I", Cond.fieldLink RX7 49 "PleatRoadsModel" "reaches" "[I", Cond.methodLink RX7 126 yX7_isTraveller, Cond.instanceMethod yX7_isTraveller, Cond.selects RX7 yX7_isTraveller yX7_isTraveller, Cond.initialized RX7, Cond.code yX7_isTraveller cX7_isTraveller 2 (some .boolean), Cond.methodLink RX7 61 yX7_in, Cond.static yX7_in, Cond.code yX7_in cX7_in 6 (some .boolean), Cond.methodLink RX7 182 yX7_reachNow, Cond.instanceMethod yX7_reachNow, Cond.selects RX7 yX7_reachNow yX7_reachNow, Cond.code yX7_reachNow cX7_reachNow 2 (some .int), Cond.fieldLink RX7 22 "PleatRoadsModel" "now" "[I", Cond.methodLink RX7 179 yX7_reachOn, Cond.instanceMethod yX7_reachOn, Cond.selects RX7 yX7_reachOn yX7_reachOn, Cond.code yX7_reachOn cX7_reachOn 6 (some .int), Cond.fieldLink RX7 161 "PleatRoadsModel" "queued" "I", Cond.fieldLink RX7 40 "PleatRoadsModel" "queue" "[I", Cond.methodLink RX7 175 yX7_spread, Cond.instanceMethod yX7_spread, Cond.selects RX7 yX7_spread yX7_spread]
def wsX7_share_r2 : List Cond := [Cond.code yX7_spread cX7_spread 8 none, Cond.fieldLink RX7 37 "PleatRoadsModel" "far" "[I", Cond.fieldLink RX7 164 "PleatRoadsModel" "greasedHere" "I", Cond.methodLink RX7 167 yX7_meetState, Cond.instanceMethod yX7_meetState, Cond.selects RX7 yX7_meetState yX7_meetState, Cond.code yX7_meetState cX7_meetState 6 none, Cond.methodLink RX7 171 yX7_goFrom, Cond.instanceMethod yX7_goFrom, Cond.selects RX7 yX7_goFrom yX7_goFrom, Cond.code yX7_goFrom cX7_goFrom 9 none, Cond.fieldLink RX7 19 "PleatRoadsModel" "kind" "[I", Cond.fieldLink RX7 13 "PleatRoadsModel" "pleatKind" "[I", Cond.fieldLink RX7 16 "PleatRoadsModel" "breath" "[I", Cond.methodLink RX7 129 yX7_pleatOf, Cond.instanceMethod yX7_pleatOf, Cond.selects RX7 yX7_pleatOf yX7_pleatOf, Cond.code yX7_pleatOf cX7_pleatOf 4 (some .int), Cond.methodLink RX7 122 yX7_isPleat, Cond.instanceMethod yX7_isPleat, Cond.selects RX7 yX7_isPleat yX7_isPleat, Cond.code yX7_isPleat cX7_isPleat 2 (some .boolean), Cond.fieldLink RX7 93 "PleatRoadsModel" "pleats" "I", Cond.methodLink RX7 115 yX7_costs]
def wsX7_share_r3 : List Cond := [Cond.instanceMethod yX7_costs, Cond.selects RX7 yX7_costs yX7_costs, Cond.code yX7_costs cX7_costs 7 (some .int), Cond.fieldLink RX7 105 "PleatRoadsModel" "ice" "I", Cond.fieldLink RX7 7 "PleatRoadsModel" "stiffness" "[I", Cond.methodLink RX7 108 yX7_has, Cond.static yX7_has, Cond.code yX7_has cX7_has 2 (some .boolean), Cond.methodLink RX7 112 yX7_atLeast, Cond.static yX7_atLeast, Cond.code yX7_atLeast cX7_atLeast 2 (some .int), Cond.methodLink RX7 119 yX7_pays, Cond.static yX7_pays, Cond.code yX7_pays cX7_pays 2 (some .int), Cond.methodLink RX7 137 yX7_rested, Cond.instanceMethod yX7_rested, Cond.selects RX7 yX7_rested yX7_rested, Cond.code yX7_rested cX7_rested 4 (some .int), Cond.methodLink RX7 189 yX7_ones, Cond.static yX7_ones, Cond.code yX7_ones cX7_ones 3 (some .int), Cond.methodLink RX7 215 yX7_factorial, Cond.static yX7_factorial, Cond.code yX7_factorial cX7_factorial 3 (some .int)]
def wsX7_share_r4 : List Cond := [Cond.methodLink RX7 218 yX7_comeTo, Cond.instanceMethod yX7_comeTo, Cond.selects RX7 yX7_comeTo yX7_comeTo, Cond.code yX7_comeTo cX7_comeTo 4 (some .int), Cond.methodLink RX7 221 yX7_common, Cond.static yX7_common, Cond.code yX7_common cX7_common 5 (some .int)]
def wsX7_share : List Cond := .code yX7_share cX7_share 6 (some .int) :: ((wsX7_share_r1 ++ (wsX7_share_r2 ++ (wsX7_share_r3 ++ wsX7_share_r4))) ++ wsX70)
def wsX7_choose_r1 : List Cond := [Cond.methodLink RX7 146 yX7_canStep, Cond.instanceMethod yX7_canStep, Cond.selects RX7 yX7_canStep yX7_canStep, Cond.initialized RX7, Cond.code yX7_canStep cX7_canStep 6 (some .boolean), Cond.fieldLink RX7 22 "PleatRoadsModel" "now" "[I", Cond.methodLink RX7 126 yX7_isTraveller, Cond.instanceMethod yX7_isTraveller, Cond.selects RX7 yX7_isTraveller yX7_isTraveller, Cond.code yX7_isTraveller cX7_isTraveller 2 (some .boolean), Cond.fieldLink RX7 96 "PleatRoadsModel" "travellers" "I", Cond.methodLink RX7 61 yX7_in, Cond.static yX7_in, Cond.code yX7_in cX7_in 6 (some .boolean), Cond.methodLink RX7 129 yX7_pleatOf, Cond.instanceMethod yX7_pleatOf, Cond.selects RX7 yX7_pleatOf yX7_pleatOf, Cond.code yX7_pleatOf cX7_pleatOf 4 (some .int), Cond.methodLink RX7 122 yX7_isPleat, Cond.instanceMethod yX7_isPleat, Cond.selects RX7 yX7_isPleat yX7_isPleat, Cond.code yX7_isPleat cX7_isPleat 2 (some .boolean), Cond.fieldLink RX7 93 "PleatRoadsModel" "pleats" "I", Cond.methodLink RX7 133 yX7_paysOn]
def wsX7_choose_r2 : List Cond := [Cond.instanceMethod yX7_paysOn, Cond.selects RX7 yX7_paysOn yX7_paysOn, Cond.code yX7_paysOn cX7_paysOn 5 (some .int), Cond.fieldLink RX7 19 "PleatRoadsModel" "kind" "[I", Cond.methodLink RX7 115 yX7_costs, Cond.instanceMethod yX7_costs, Cond.selects RX7 yX7_costs yX7_costs, Cond.code yX7_costs cX7_costs 7 (some .int), Cond.fieldLink RX7 105 "PleatRoadsModel" "ice" "I", Cond.fieldLink RX7 13 "PleatRoadsModel" "pleatKind" "[I", Cond.fieldLink RX7 7 "PleatRoadsModel" "stiffness" "[I", Cond.methodLink RX7 108 yX7_has, Cond.static yX7_has, Cond.code yX7_has cX7_has 2 (some .boolean), Cond.methodLink RX7 112 yX7_atLeast, Cond.static yX7_atLeast, Cond.code yX7_atLeast cX7_atLeast 2 (some .int), Cond.methodLink RX7 119 yX7_pays, Cond.static yX7_pays, Cond.code yX7_pays cX7_pays 2 (some .int), Cond.methodLink RX7 153 yX7_stepOn, Cond.instanceMethod yX7_stepOn, Cond.selects RX7 yX7_stepOn yX7_stepOn, Cond.code yX7_stepOn cX7_stepOn 6 none]
def wsX7_choose_r3 : List Cond := [Cond.fieldLink RX7 16 "PleatRoadsModel" "breath" "[I"]
def wsX7_choose : List Cond := .code yX7_choose cX7_choose 4 (some .boolean) :: ((wsX7_choose_r1 ++ (wsX7_choose_r2 ++ wsX7_choose_r3)) ++ wsX70)
def wsX7_gain_r1 : List Cond := [Cond.fieldLink RX7 22 "PleatRoadsModel" "now" "[I", Cond.methodLink RX7 200 yX7_layTrial, Cond.instanceMethod yX7_layTrial, Cond.selects RX7 yX7_layTrial yX7_layTrial, Cond.initialized RX7, Cond.code yX7_layTrial cX7_layTrial 2 none, Cond.methodLink RX7 224 yX7_choose, Cond.instanceMethod yX7_choose, Cond.selects RX7 yX7_choose yX7_choose, Cond.code yX7_choose cX7_choose 4 (some .boolean), Cond.methodLink RX7 146 yX7_canStep, Cond.instanceMethod yX7_canStep, Cond.selects RX7 yX7_canStep yX7_canStep, Cond.code yX7_canStep cX7_canStep 6 (some .boolean), Cond.methodLink RX7 126 yX7_isTraveller, Cond.instanceMethod yX7_isTraveller, Cond.selects RX7 yX7_isTraveller yX7_isTraveller, Cond.code yX7_isTraveller cX7_isTraveller 2 (some .boolean), Cond.fieldLink RX7 96 "PleatRoadsModel" "travellers" "I", Cond.methodLink RX7 61 yX7_in, Cond.static yX7_in, Cond.code yX7_in cX7_in 6 (some .boolean), Cond.methodLink RX7 129 yX7_pleatOf, Cond.instanceMethod yX7_pleatOf]
def wsX7_gain_r2 : List Cond := [Cond.selects RX7 yX7_pleatOf yX7_pleatOf, Cond.code yX7_pleatOf cX7_pleatOf 4 (some .int), Cond.methodLink RX7 122 yX7_isPleat, Cond.instanceMethod yX7_isPleat, Cond.selects RX7 yX7_isPleat yX7_isPleat, Cond.code yX7_isPleat cX7_isPleat 2 (some .boolean), Cond.fieldLink RX7 93 "PleatRoadsModel" "pleats" "I", Cond.methodLink RX7 133 yX7_paysOn, Cond.instanceMethod yX7_paysOn, Cond.selects RX7 yX7_paysOn yX7_paysOn, Cond.code yX7_paysOn cX7_paysOn 5 (some .int), Cond.fieldLink RX7 19 "PleatRoadsModel" "kind" "[I", Cond.methodLink RX7 115 yX7_costs, Cond.instanceMethod yX7_costs, Cond.selects RX7 yX7_costs yX7_costs, Cond.code yX7_costs cX7_costs 7 (some .int), Cond.fieldLink RX7 105 "PleatRoadsModel" "ice" "I", Cond.fieldLink RX7 13 "PleatRoadsModel" "pleatKind" "[I", Cond.fieldLink RX7 7 "PleatRoadsModel" "stiffness" "[I", Cond.methodLink RX7 108 yX7_has, Cond.static yX7_has, Cond.code yX7_has cX7_has 2 (some .boolean), Cond.methodLink RX7 112 yX7_atLeast, Cond.static yX7_atLeast]
def wsX7_gain_r3 : List Cond := [Cond.code yX7_atLeast cX7_atLeast 2 (some .int), Cond.methodLink RX7 119 yX7_pays, Cond.static yX7_pays, Cond.code yX7_pays cX7_pays 2 (some .int), Cond.methodLink RX7 153 yX7_stepOn, Cond.instanceMethod yX7_stepOn, Cond.selects RX7 yX7_stepOn yX7_stepOn, Cond.code yX7_stepOn cX7_stepOn 6 none, Cond.fieldLink RX7 16 "PleatRoadsModel" "breath" "[I", Cond.methodLink RX7 179 yX7_reachOn, Cond.instanceMethod yX7_reachOn, Cond.selects RX7 yX7_reachOn yX7_reachOn, Cond.code yX7_reachOn cX7_reachOn 6 (some .int), Cond.fieldLink RX7 161 "PleatRoadsModel" "queued" "I", Cond.fieldLink RX7 40 "PleatRoadsModel" "queue" "[I", Cond.methodLink RX7 175 yX7_spread, Cond.instanceMethod yX7_spread, Cond.selects RX7 yX7_spread yX7_spread, Cond.code yX7_spread cX7_spread 8 none, Cond.fieldLink RX7 37 "PleatRoadsModel" "far" "[I", Cond.fieldLink RX7 164 "PleatRoadsModel" "greasedHere" "I", Cond.methodLink RX7 167 yX7_meetState, Cond.instanceMethod yX7_meetState, Cond.selects RX7 yX7_meetState yX7_meetState]
def wsX7_gain_r4 : List Cond := [Cond.code yX7_meetState cX7_meetState 6 none, Cond.methodLink RX7 171 yX7_goFrom, Cond.instanceMethod yX7_goFrom, Cond.selects RX7 yX7_goFrom yX7_goFrom, Cond.code yX7_goFrom cX7_goFrom 9 none, Cond.methodLink RX7 137 yX7_rested, Cond.instanceMethod yX7_rested, Cond.selects RX7 yX7_rested yX7_rested, Cond.code yX7_rested cX7_rested 4 (some .int)]
def wsX7_gain : List Cond := .code yX7_gain cX7_gain 12 (some .int) :: ((wsX7_gain_r1 ++ (wsX7_gain_r2 ++ (wsX7_gain_r3 ++ wsX7_gain_r4))) ++ wsX70)
def wsX7_isRest_r1 : List Cond := [Cond.methodLink RX7 227 yX7_gain, Cond.instanceMethod yX7_gain, Cond.selects RX7 yX7_gain yX7_gain, Cond.initialized RX7, Cond.code yX7_gain cX7_gain 12 (some .int), Cond.fieldLink RX7 22 "PleatRoadsModel" "now" "[I", Cond.methodLink RX7 200 yX7_layTrial, Cond.instanceMethod yX7_layTrial, Cond.selects RX7 yX7_layTrial yX7_layTrial, Cond.code yX7_layTrial cX7_layTrial 2 none, Cond.methodLink RX7 224 yX7_choose, Cond.instanceMethod yX7_choose, Cond.selects RX7 yX7_choose yX7_choose, Cond.code yX7_choose cX7_choose 4 (some .boolean), Cond.methodLink RX7 146 yX7_canStep, Cond.instanceMethod yX7_canStep, Cond.selects RX7 yX7_canStep yX7_canStep, Cond.code yX7_canStep cX7_canStep 6 (some .boolean), Cond.methodLink RX7 126 yX7_isTraveller, Cond.instanceMethod yX7_isTraveller, Cond.selects RX7 yX7_isTraveller yX7_isTraveller, Cond.code yX7_isTraveller cX7_isTraveller 2 (some .boolean), Cond.fieldLink RX7 96 "PleatRoadsModel" "travellers" "I", Cond.methodLink RX7 61 yX7_in]
def wsX7_isRest_r2 : List Cond := [Cond.static yX7_in, Cond.code yX7_in cX7_in 6 (some .boolean), Cond.methodLink RX7 129 yX7_pleatOf, Cond.instanceMethod yX7_pleatOf, Cond.selects RX7 yX7_pleatOf yX7_pleatOf, Cond.code yX7_pleatOf cX7_pleatOf 4 (some .int), Cond.methodLink RX7 122 yX7_isPleat, Cond.instanceMethod yX7_isPleat, Cond.selects RX7 yX7_isPleat yX7_isPleat, Cond.code yX7_isPleat cX7_isPleat 2 (some .boolean), Cond.fieldLink RX7 93 "PleatRoadsModel" "pleats" "I", Cond.methodLink RX7 133 yX7_paysOn, Cond.instanceMethod yX7_paysOn, Cond.selects RX7 yX7_paysOn yX7_paysOn, Cond.code yX7_paysOn cX7_paysOn 5 (some .int), Cond.fieldLink RX7 19 "PleatRoadsModel" "kind" "[I", Cond.methodLink RX7 115 yX7_costs, Cond.instanceMethod yX7_costs, Cond.selects RX7 yX7_costs yX7_costs, Cond.code yX7_costs cX7_costs 7 (some .int), Cond.fieldLink RX7 105 "PleatRoadsModel" "ice" "I", Cond.fieldLink RX7 13 "PleatRoadsModel" "pleatKind" "[I", Cond.fieldLink RX7 7 "PleatRoadsModel" "stiffness" "[I", Cond.methodLink RX7 108 yX7_has]
def wsX7_isRest_r3 : List Cond := [Cond.static yX7_has, Cond.code yX7_has cX7_has 2 (some .boolean), Cond.methodLink RX7 112 yX7_atLeast, Cond.static yX7_atLeast, Cond.code yX7_atLeast cX7_atLeast 2 (some .int), Cond.methodLink RX7 119 yX7_pays, Cond.static yX7_pays, Cond.code yX7_pays cX7_pays 2 (some .int), Cond.methodLink RX7 153 yX7_stepOn, Cond.instanceMethod yX7_stepOn, Cond.selects RX7 yX7_stepOn yX7_stepOn, Cond.code yX7_stepOn cX7_stepOn 6 none, Cond.fieldLink RX7 16 "PleatRoadsModel" "breath" "[I", Cond.methodLink RX7 179 yX7_reachOn, Cond.instanceMethod yX7_reachOn, Cond.selects RX7 yX7_reachOn yX7_reachOn, Cond.code yX7_reachOn cX7_reachOn 6 (some .int), Cond.fieldLink RX7 161 "PleatRoadsModel" "queued" "I", Cond.fieldLink RX7 40 "PleatRoadsModel" "queue" "[I", Cond.methodLink RX7 175 yX7_spread, Cond.instanceMethod yX7_spread, Cond.selects RX7 yX7_spread yX7_spread, Cond.code yX7_spread cX7_spread 8 none, Cond.fieldLink RX7 37 "PleatRoadsModel" "far" "[I"]
def wsX7_isRest_r4 : List Cond := [Cond.fieldLink RX7 164 "PleatRoadsModel" "greasedHere" "I", Cond.methodLink RX7 167 yX7_meetState, Cond.instanceMethod yX7_meetState, Cond.selects RX7 yX7_meetState yX7_meetState, Cond.code yX7_meetState cX7_meetState 6 none, Cond.methodLink RX7 171 yX7_goFrom, Cond.instanceMethod yX7_goFrom, Cond.selects RX7 yX7_goFrom yX7_goFrom, Cond.code yX7_goFrom cX7_goFrom 9 none, Cond.methodLink RX7 137 yX7_rested, Cond.instanceMethod yX7_rested, Cond.selects RX7 yX7_rested yX7_rested, Cond.code yX7_rested cX7_rested 4 (some .int)]
def wsX7_isRest : List Cond := .code yX7_isRest cX7_isRest 7 (some .boolean) :: ((wsX7_isRest_r1 ++ (wsX7_isRest_r2 ++ (wsX7_isRest_r3 ++ wsX7_isRest_r4))) ++ wsX70)
def wsX7_rests_r1 : List Cond := [Cond.methodLink RX7 126 yX7_isTraveller, Cond.instanceMethod yX7_isTraveller, Cond.selects RX7 yX7_isTraveller yX7_isTraveller, Cond.initialized RX7, Cond.code yX7_isTraveller cX7_isTraveller 2 (some .boolean), Cond.fieldLink RX7 96 "PleatRoadsModel" "travellers" "I", Cond.methodLink RX7 61 yX7_in, Cond.static yX7_in, Cond.code yX7_in cX7_in 6 (some .boolean), Cond.methodLink RX7 231 yX7_isRest, Cond.instanceMethod yX7_isRest, Cond.selects RX7 yX7_isRest yX7_isRest, Cond.code yX7_isRest cX7_isRest 7 (some .boolean), Cond.methodLink RX7 227 yX7_gain, Cond.instanceMethod yX7_gain, Cond.selects RX7 yX7_gain yX7_gain, Cond.code yX7_gain cX7_gain 12 (some .int), Cond.fieldLink RX7 22 "PleatRoadsModel" "now" "[I", Cond.methodLink RX7 200 yX7_layTrial, Cond.instanceMethod yX7_layTrial, Cond.selects RX7 yX7_layTrial yX7_layTrial, Cond.code yX7_layTrial cX7_layTrial 2 none, Cond.methodLink RX7 224 yX7_choose, Cond.instanceMethod yX7_choose]
def wsX7_rests_r2 : List Cond := [Cond.selects RX7 yX7_choose yX7_choose, Cond.code yX7_choose cX7_choose 4 (some .boolean), Cond.methodLink RX7 146 yX7_canStep, Cond.instanceMethod yX7_canStep, Cond.selects RX7 yX7_canStep yX7_canStep, Cond.code yX7_canStep cX7_canStep 6 (some .boolean), Cond.methodLink RX7 129 yX7_pleatOf, Cond.instanceMethod yX7_pleatOf, Cond.selects RX7 yX7_pleatOf yX7_pleatOf, Cond.code yX7_pleatOf cX7_pleatOf 4 (some .int), Cond.methodLink RX7 122 yX7_isPleat, Cond.instanceMethod yX7_isPleat, Cond.selects RX7 yX7_isPleat yX7_isPleat, Cond.code yX7_isPleat cX7_isPleat 2 (some .boolean), Cond.fieldLink RX7 93 "PleatRoadsModel" "pleats" "I", Cond.methodLink RX7 133 yX7_paysOn, Cond.instanceMethod yX7_paysOn, Cond.selects RX7 yX7_paysOn yX7_paysOn, Cond.code yX7_paysOn cX7_paysOn 5 (some .int), Cond.fieldLink RX7 19 "PleatRoadsModel" "kind" "[I", Cond.methodLink RX7 115 yX7_costs, Cond.instanceMethod yX7_costs, Cond.selects RX7 yX7_costs yX7_costs, Cond.code yX7_costs cX7_costs 7 (some .int)]
def wsX7_rests_r3 : List Cond := [Cond.fieldLink RX7 105 "PleatRoadsModel" "ice" "I", Cond.fieldLink RX7 13 "PleatRoadsModel" "pleatKind" "[I", Cond.fieldLink RX7 7 "PleatRoadsModel" "stiffness" "[I", Cond.methodLink RX7 108 yX7_has, Cond.static yX7_has, Cond.code yX7_has cX7_has 2 (some .boolean), Cond.methodLink RX7 112 yX7_atLeast, Cond.static yX7_atLeast, Cond.code yX7_atLeast cX7_atLeast 2 (some .int), Cond.methodLink RX7 119 yX7_pays, Cond.static yX7_pays, Cond.code yX7_pays cX7_pays 2 (some .int), Cond.methodLink RX7 153 yX7_stepOn, Cond.instanceMethod yX7_stepOn, Cond.selects RX7 yX7_stepOn yX7_stepOn, Cond.code yX7_stepOn cX7_stepOn 6 none, Cond.fieldLink RX7 16 "PleatRoadsModel" "breath" "[I", Cond.methodLink RX7 179 yX7_reachOn, Cond.instanceMethod yX7_reachOn, Cond.selects RX7 yX7_reachOn yX7_reachOn, Cond.code yX7_reachOn cX7_reachOn 6 (some .int), Cond.fieldLink RX7 161 "PleatRoadsModel" "queued" "I", Cond.fieldLink RX7 40 "PleatRoadsModel" "queue" "[I", Cond.methodLink RX7 175 yX7_spread]
def wsX7_rests_r4 : List Cond := [Cond.instanceMethod yX7_spread, Cond.selects RX7 yX7_spread yX7_spread, Cond.code yX7_spread cX7_spread 8 none, Cond.fieldLink RX7 37 "PleatRoadsModel" "far" "[I", Cond.fieldLink RX7 164 "PleatRoadsModel" "greasedHere" "I", Cond.methodLink RX7 167 yX7_meetState, Cond.instanceMethod yX7_meetState, Cond.selects RX7 yX7_meetState yX7_meetState, Cond.code yX7_meetState cX7_meetState 6 none, Cond.methodLink RX7 171 yX7_goFrom, Cond.instanceMethod yX7_goFrom, Cond.selects RX7 yX7_goFrom yX7_goFrom, Cond.code yX7_goFrom cX7_goFrom 9 none, Cond.methodLink RX7 137 yX7_rested, Cond.instanceMethod yX7_rested, Cond.selects RX7 yX7_rested yX7_rested, Cond.code yX7_rested cX7_rested 4 (some .int)]
def wsX7_rests : List Cond := .code yX7_rests cX7_rests 7 (some .int) :: ((wsX7_rests_r1 ++ (wsX7_rests_r2 ++ (wsX7_rests_r3 ++ wsX7_rests_r4))) ++ wsX70)
def wsX7_power : List Cond := .code yX7_power cX7_power 4 (some .int) :: ([])
def wsX7_iceable : List Cond := .code yX7_iceable cX7_iceable 3 (some .int) :: ([.fieldLink RX7 93 "PleatRoadsModel" "pleats" "I", .fieldLink RX7 13 "PleatRoadsModel" "pleatKind" "[I"] ++ wsX70)
def wsX7_icy_r1 : List Cond := [Cond.constantLong RX7 207 (10), Cond.fieldLink RX7 105 "PleatRoadsModel" "ice" "I", Cond.methodLink RX7 126 yX7_isTraveller, Cond.instanceMethod yX7_isTraveller, Cond.selects RX7 yX7_isTraveller yX7_isTraveller, Cond.initialized RX7, Cond.code yX7_isTraveller cX7_isTraveller 2 (some .boolean), Cond.fieldLink RX7 96 "PleatRoadsModel" "travellers" "I", Cond.methodLink RX7 61 yX7_in, Cond.static yX7_in, Cond.code yX7_in cX7_in 6 (some .boolean), Cond.methodLink RX7 186 yX7_isPlace, Cond.instanceMethod yX7_isPlace, Cond.selects RX7 yX7_isPlace yX7_isPlace, Cond.code yX7_isPlace cX7_isPlace 2 (some .boolean), Cond.fieldLink RX7 93 "PleatRoadsModel" "pleats" "I", Cond.methodLink RX7 235 yX7_iceable, Cond.instanceMethod yX7_iceable, Cond.selects RX7 yX7_iceable yX7_iceable, Cond.code yX7_iceable cX7_iceable 3 (some .int), Cond.fieldLink RX7 13 "PleatRoadsModel" "pleatKind" "[I", Cond.methodLink RX7 189 yX7_ones, Cond.static yX7_ones, Cond.code yX7_ones cX7_ones 3 (some .int)]
def wsX7_icy_r2 : List Cond := [Cond.methodLink RX7 238 yX7_power, Cond.static yX7_power, Cond.code yX7_power cX7_power 4 (some .int), Cond.methodLink RX7 182 yX7_reachNow, Cond.instanceMethod yX7_reachNow, Cond.selects RX7 yX7_reachNow yX7_reachNow, Cond.code yX7_reachNow cX7_reachNow 2 (some .int), Cond.fieldLink RX7 22 "PleatRoadsModel" "now" "[I", Cond.methodLink RX7 179 yX7_reachOn, Cond.instanceMethod yX7_reachOn, Cond.selects RX7 yX7_reachOn yX7_reachOn, Cond.code yX7_reachOn cX7_reachOn 6 (some .int), Cond.fieldLink RX7 161 "PleatRoadsModel" "queued" "I", Cond.fieldLink RX7 40 "PleatRoadsModel" "queue" "[I", Cond.methodLink RX7 175 yX7_spread, Cond.instanceMethod yX7_spread, Cond.selects RX7 yX7_spread yX7_spread, Cond.code yX7_spread cX7_spread 8 none, Cond.fieldLink RX7 37 "PleatRoadsModel" "far" "[I", Cond.fieldLink RX7 164 "PleatRoadsModel" "greasedHere" "I", Cond.methodLink RX7 167 yX7_meetState, Cond.instanceMethod yX7_meetState, Cond.selects RX7 yX7_meetState yX7_meetState, Cond.code yX7_meetState cX7_meetState 6 none]
def wsX7_icy_r3 : List Cond := [Cond.methodLink RX7 171 yX7_goFrom, Cond.instanceMethod yX7_goFrom, Cond.selects RX7 yX7_goFrom yX7_goFrom, Cond.code yX7_goFrom cX7_goFrom 9 none, Cond.fieldLink RX7 19 "PleatRoadsModel" "kind" "[I", Cond.fieldLink RX7 16 "PleatRoadsModel" "breath" "[I", Cond.methodLink RX7 129 yX7_pleatOf, Cond.instanceMethod yX7_pleatOf, Cond.selects RX7 yX7_pleatOf yX7_pleatOf, Cond.code yX7_pleatOf cX7_pleatOf 4 (some .int), Cond.methodLink RX7 122 yX7_isPleat, Cond.instanceMethod yX7_isPleat, Cond.selects RX7 yX7_isPleat yX7_isPleat, Cond.code yX7_isPleat cX7_isPleat 2 (some .boolean), Cond.methodLink RX7 115 yX7_costs, Cond.instanceMethod yX7_costs, Cond.selects RX7 yX7_costs yX7_costs, Cond.code yX7_costs cX7_costs 7 (some .int), Cond.fieldLink RX7 7 "PleatRoadsModel" "stiffness" "[I", Cond.methodLink RX7 108 yX7_has, Cond.static yX7_has, Cond.code yX7_has cX7_has 2 (some .boolean), Cond.methodLink RX7 112 yX7_atLeast, Cond.static yX7_atLeast]
def wsX7_icy_r4 : List Cond := [Cond.code yX7_atLeast cX7_atLeast 2 (some .int), Cond.methodLink RX7 119 yX7_pays, Cond.static yX7_pays, Cond.code yX7_pays cX7_pays 2 (some .int), Cond.methodLink RX7 137 yX7_rested, Cond.instanceMethod yX7_rested, Cond.selects RX7 yX7_rested yX7_rested, Cond.code yX7_rested cX7_rested 4 (some .int), Cond.methodLink RX7 221 yX7_common, Cond.static yX7_common, Cond.code yX7_common cX7_common 5 (some .int)]
def wsX7_icy : List Cond := .code yX7_icy cX7_icy 10 (some .int) :: ((wsX7_icy_r1 ++ (wsX7_icy_r2 ++ (wsX7_icy_r3 ++ wsX7_icy_r4))) ++ wsX70)
def wsX7_seed : List Cond := .code yX7_seed cX7_seed 5 (some .long) :: ([.fieldLink RX7 241 "PleatRoadsModel" "seed" "J"] ++ wsX70)
def wsX7_summers_r1 : List Cond := [Cond.constantLong RX7 245 (30), Cond.fieldLink RX7 241 "PleatRoadsModel" "seed" "J", Cond.constantLong RX7 247 (6364136223846793005), Cond.constantLong RX7 249 (1442695040888963407), Cond.constantLong RX7 251 (26), Cond.fieldLink RX7 96 "PleatRoadsModel" "travellers" "I", Cond.fieldLink RX7 22 "PleatRoadsModel" "now" "[I", Cond.methodLink RX7 61 yX7_in, Cond.static yX7_in, Cond.initialized RX7, Cond.code yX7_in cX7_in 6 (some .boolean), Cond.methodLink RX7 200 yX7_layTrial, Cond.instanceMethod yX7_layTrial, Cond.selects RX7 yX7_layTrial yX7_layTrial, Cond.code yX7_layTrial cX7_layTrial 2 none, Cond.methodLink RX7 203 yX7_tryThing, Cond.instanceMethod yX7_tryThing, Cond.selects RX7 yX7_tryThing yX7_tryThing, Cond.code yX7_tryThing cX7_tryThing 8 (some .boolean), Cond.methodLink RX7 146 yX7_canStep, Cond.instanceMethod yX7_canStep, Cond.selects RX7 yX7_canStep yX7_canStep, Cond.code yX7_canStep cX7_canStep 6 (some .boolean), Cond.methodLink RX7 126 yX7_isTraveller]
def wsX7_summers_r2 : List Cond := [Cond.instanceMethod yX7_isTraveller, Cond.selects RX7 yX7_isTraveller yX7_isTraveller, Cond.code yX7_isTraveller cX7_isTraveller 2 (some .boolean), Cond.methodLink RX7 129 yX7_pleatOf, Cond.instanceMethod yX7_pleatOf, Cond.selects RX7 yX7_pleatOf yX7_pleatOf, Cond.code yX7_pleatOf cX7_pleatOf 4 (some .int), Cond.methodLink RX7 122 yX7_isPleat, Cond.instanceMethod yX7_isPleat, Cond.selects RX7 yX7_isPleat yX7_isPleat, Cond.code yX7_isPleat cX7_isPleat 2 (some .boolean), Cond.fieldLink RX7 93 "PleatRoadsModel" "pleats" "I", Cond.methodLink RX7 133 yX7_paysOn, Cond.instanceMethod yX7_paysOn, Cond.selects RX7 yX7_paysOn yX7_paysOn, Cond.code yX7_paysOn cX7_paysOn 5 (some .int), Cond.fieldLink RX7 19 "PleatRoadsModel" "kind" "[I", Cond.methodLink RX7 115 yX7_costs, Cond.instanceMethod yX7_costs, Cond.selects RX7 yX7_costs yX7_costs, Cond.code yX7_costs cX7_costs 7 (some .int), Cond.fieldLink RX7 105 "PleatRoadsModel" "ice" "I", Cond.fieldLink RX7 13 "PleatRoadsModel" "pleatKind" "[I", Cond.fieldLink RX7 7 "PleatRoadsModel" "stiffness" "[I"]
def wsX7_summers_r3 : List Cond := [Cond.methodLink RX7 108 yX7_has, Cond.static yX7_has, Cond.code yX7_has cX7_has 2 (some .boolean), Cond.methodLink RX7 112 yX7_atLeast, Cond.static yX7_atLeast, Cond.code yX7_atLeast cX7_atLeast 2 (some .int), Cond.methodLink RX7 119 yX7_pays, Cond.static yX7_pays, Cond.code yX7_pays cX7_pays 2 (some .int), Cond.methodLink RX7 153 yX7_stepOn, Cond.instanceMethod yX7_stepOn, Cond.selects RX7 yX7_stepOn yX7_stepOn, Cond.code yX7_stepOn cX7_stepOn 6 none, Cond.fieldLink RX7 16 "PleatRoadsModel" "breath" "[I", Cond.methodLink RX7 157 yX7_restOn, Cond.instanceMethod yX7_restOn, Cond.selects RX7 yX7_restOn yX7_restOn, Cond.code yX7_restOn cX7_restOn 4 none, Cond.methodLink RX7 137 yX7_rested, Cond.instanceMethod yX7_rested, Cond.selects RX7 yX7_rested yX7_rested, Cond.code yX7_rested cX7_rested 4 (some .int)]
def wsX7_summers : List Cond := .code yX7_summers cX7_summers 7 (some .int) :: ((wsX7_summers_r1 ++ (wsX7_summers_r2 ++ wsX7_summers_r3)) ++ wsX70)
def wsX7_keep : List Cond := .code yX7_keep cX7_keep 3 (some .int) :: ([.fieldLink RX7 52 "PleatRoadsModel" "isKept" "[Z", .fieldLink RX7 56 "PleatRoadsModel" "kept" "[I", .fieldLink RX7 22 "PleatRoadsModel" "now" "[I", .methodLink RX7 61 yX7_in, .static yX7_in, .initialized RX7, .code yX7_in cX7_in 6 (some .boolean)] ++ wsX70)
def wsX7_again : List Cond := .code yX7_again cX7_again 3 (some .int) :: ([.fieldLink RX7 52 "PleatRoadsModel" "isKept" "[Z", .fieldLink RX7 22 "PleatRoadsModel" "now" "[I", .fieldLink RX7 56 "PleatRoadsModel" "kept" "[I", .fieldLink RX7 102 "PleatRoadsModel" "acts" "I", .methodLink RX7 61 yX7_in, .static yX7_in, .initialized RX7, .code yX7_in cX7_in 6 (some .boolean)] ++ wsX70)
def wsX7_placesOf : List Cond := .code yX7_placesOf cX7_placesOf 3 (some .int) :: ([.fieldLink RX7 96 "PleatRoadsModel" "travellers" "I", .fieldLink RX7 22 "PleatRoadsModel" "now" "[I"] ++ wsX70)
def wsX7_windOfAll : List Cond := .code yX7_windOfAll cX7_windOfAll 3 (some .int) :: ([.fieldLink RX7 96 "PleatRoadsModel" "travellers" "I", .fieldLink RX7 22 "PleatRoadsModel" "now" "[I"] ++ wsX70)
def wsX7_count : List Cond := .code yX7_count cX7_count 2 (some .int) :: ([.fieldLink RX7 65 "PleatRoadsModel" "length" "I", .fieldLink RX7 93 "PleatRoadsModel" "pleats" "I", .fieldLink RX7 96 "PleatRoadsModel" "travellers" "I", .fieldLink RX7 22 "PleatRoadsModel" "now" "[I", .fieldLink RX7 102 "PleatRoadsModel" "acts" "I", .fieldLink RX7 209 "PleatRoadsModel" "heard" "I", .methodLink RX7 253 yX7_placesOf, .instanceMethod yX7_placesOf, .selects RX7 yX7_placesOf yX7_placesOf, .initialized RX7, .code yX7_placesOf cX7_placesOf 3 (some .int), .methodLink RX7 256 yX7_windOfAll, .instanceMethod yX7_windOfAll, .selects RX7 yX7_windOfAll yX7_windOfAll, .code yX7_windOfAll cX7_windOfAll 3 (some .int)] ++ wsX70)
def wsJ9_max_7cf53 : List Cond := .code yJ9_max_7cf53 cJ9_max_7cf53 2 (some .int) :: ([])
def wsJ9_min_7cf53 : List Cond := .code yJ9_min_7cf53 cJ9_min_7cf53 2 (some .int) :: ([])
def wsL_law_r1 : List Cond := [Cond.classLink RL 7 RX6, Cond.instantiable RX6 13, Cond.initialized RX6, Cond.classLink RL 10 RX7, Cond.instantiable RX7 30, Cond.initialized RX7, Cond.constantLong RL 85 (4294967295), Cond.methodLink RL 9 yX6_init, Cond.instanceMethod yX6_init, Cond.code yX6_init cX6_init 2 none, Cond.methodLink RX6 3 objectInit, Cond.instanceMethod objectInit, Cond.code objectInit ⟨#[0xb1]⟩ 1 none, Cond.classLink RX6 9 RX3, Cond.instantiable RX3 2, Cond.initialized RX3, Cond.fieldLink RX6 12 "PleatRoads" "script" "LPleatRoads$Script;", Cond.classLink RX6 16 RX2, Cond.instantiable RX2 7, Cond.initialized RX2, Cond.fieldLink RX6 19 "PleatRoads" "draft" "LPleatRoads$Road;", Cond.fieldLink RX6 23 "PleatRoads" "road" "LPleatRoads$Road;", Cond.classLink RX6 26 RX4, Cond.instantiable RX4 7]
def wsL_law_r2 : List Cond := [Cond.initialized RX4, Cond.fieldLink RX6 31 "PleatRoads" "now" "LPleatRoads$Standing;", Cond.fieldLink RX6 35 "PleatRoads" "supposed" "LPleatRoads$Standing;", Cond.classLink RX6 38 RX0, Cond.instantiable RX0 3, Cond.initialized RX0, Cond.fieldLink RX6 41 "PleatRoads" "acts" "LPleatRoads$ActRow;", Cond.fieldLink RX6 45 "PleatRoads" "slots" "[LPleatRoads$Standing;", Cond.arrayClass .boolean, Cond.fieldLink RX6 49 "PleatRoads" "kept" "[Z", Cond.classLink RX6 53 RX5, Cond.instantiable RX5 10, Cond.initialized RX5, Cond.fieldLink RX6 56 "PleatRoads" "walk" "LPleatRoads$Walk;", Cond.classLink RX6 60 RX1, Cond.instantiable RX1 4, Cond.initialized RX1, Cond.fieldLink RX6 63 "PleatRoads" "hearsay" "LPleatRoads$Hearsay;", Cond.arrayClass .int, Cond.fieldLink RX6 67 "PleatRoads" "gainsOfOne" "[I", Cond.fieldLink RX6 71 "PleatRoads" "gainsOfOther" "[I", Cond.instanceMethod yX3_init, Cond.code yX3_init cX3_init 1 none, Cond.methodLink RX3 3 objectInit]
def wsL_law_r3 : List Cond := [Cond.fieldLink RX3 9 "PleatRoads$Script" "letters" "[I", Cond.instanceMethod yX2_init, Cond.code yX2_init cX2_init 1 none, Cond.methodLink RX2 3 objectInit, Cond.fieldLink RX2 9 "PleatRoads$Road" "stiffness" "[I", Cond.fieldLink RX2 15 "PleatRoads$Road" "pleatKind" "[I", Cond.fieldLink RX2 18 "PleatRoads$Road" "firstPlace" "[I", Cond.fieldLink RX2 21 "PleatRoads$Road" "breath" "[I", Cond.fieldLink RX2 24 "PleatRoads$Road" "travellerKind" "[I", Cond.methodLink RX6 28 yX4_init, Cond.instanceMethod yX4_init, Cond.code yX4_init cX4_init 2 none, Cond.methodLink RX4 3 objectInit, Cond.fieldLink RX4 9 "PleatRoads$Standing" "place" "[I", Cond.fieldLink RX4 15 "PleatRoads$Standing" "wind" "[I", Cond.fieldLink RX4 18 "PleatRoads$Standing" "road" "LPleatRoads$Road;", Cond.methodLink RX6 40 yX0_init, Cond.instanceMethod yX0_init, Cond.code yX0_init cX0_init 3 none, Cond.methodLink RX0 3 objectInit, Cond.classLink RX0 9 RX4, Cond.fieldLink RX0 11 "PleatRoads$ActRow" "ahead" "[LPleatRoads$Standing;", Cond.methodLink RX0 17 yX4_init, Cond.methodLink RX6 55 yX5_init]
def wsL_law_r4 : List Cond := [Cond.instanceMethod yX5_init, Cond.code yX5_init cX5_init 2 none, Cond.methodLink RX5 5 objectInit, Cond.fieldLink RX5 11 "PleatRoads$Walk" "most" "[I", Cond.fieldLink RX5 15 "PleatRoads$Walk" "mostNext" "[I", Cond.fieldLink RX5 18 "PleatRoads$Walk" "queue" "[I", Cond.fieldLink RX5 21 "PleatRoads$Walk" "tollShut" "[I", Cond.fieldLink RX5 24 "PleatRoads$Walk" "tollOpen" "[I", Cond.fieldLink RX5 27 "PleatRoads$Walk" "road" "LPleatRoads$Road;", Cond.methodLink RX6 62 yX1_init, Cond.instanceMethod yX1_init, Cond.code yX1_init cX1_init 2 none, Cond.methodLink RX1 3 objectInit, Cond.fieldLink RX1 9 "PleatRoads$Hearsay" "place" "[I", Cond.fieldLink RX1 15 "PleatRoads$Hearsay" "came" "[Z", Cond.fieldLink RX1 19 "PleatRoads$Hearsay" "road" "LPleatRoads$Road;", Cond.methodLink RL 12 yX7_init, Cond.instanceMethod yX7_init, Cond.code yX7_init cX7_init 1 none, Cond.methodLink RX7 1 objectInit, Cond.fieldLink RX7 7 "PleatRoadsModel" "stiffness" "[I", Cond.fieldLink RX7 13 "PleatRoadsModel" "pleatKind" "[I", Cond.fieldLink RX7 16 "PleatRoadsModel" "breath" "[I", Cond.fieldLink RX7 19 "PleatRoadsModel" "kind" "[I"]
def wsL_law_r5 : List Cond := [Cond.fieldLink RX7 22 "PleatRoadsModel" "now" "[I", Cond.fieldLink RX7 25 "PleatRoadsModel" "readPleat" "[I", Cond.fieldLink RX7 28 "PleatRoadsModel" "readTraveller" "[I", Cond.fieldLink RX7 31 "PleatRoadsModel" "text" "[I", Cond.fieldLink RX7 34 "PleatRoadsModel" "row" "[I", Cond.fieldLink RX7 37 "PleatRoadsModel" "far" "[I", Cond.fieldLink RX7 40 "PleatRoadsModel" "queue" "[I", Cond.fieldLink RX7 43 "PleatRoadsModel" "heardPlace" "[I", Cond.fieldLink RX7 46 "PleatRoadsModel" "heardCame" "[I", Cond.fieldLink RX7 49 "PleatRoadsModel" "reaches" "[I", Cond.fieldLink RX7 52 "PleatRoadsModel" "isKept" "[Z", Cond.fieldLink RX7 56 "PleatRoadsModel" "kept" "[I", Cond.methodLink RL 13 yX6_write, Cond.instanceMethod yX6_write, Cond.selects RX6 yX6_write yX6_write, Cond.code yX6_write cX6_write 2 (some .int), Cond.methodLink RX6 74 yX3_append, Cond.instanceMethod yX3_append, Cond.selects RX3 yX3_append yX3_append, Cond.code yX3_append cX3_append 2 (some .int), Cond.fieldLink RX3 15 "PleatRoads$Script" "length" "I", Cond.methodLink RL 17 yX7_write, Cond.instanceMethod yX7_write, Cond.selects RX7 yX7_write yX7_write]
def wsL_law_r6 : List Cond := [Cond.code yX7_write cX7_write 2 (some .int), Cond.constantLong RX7 59 (255), Cond.fieldLink RX7 65 "PleatRoadsModel" "length" "I", Cond.methodLink RX7 61 yX7_in, Cond.static yX7_in, Cond.code yX7_in cX7_in 6 (some .boolean), Cond.methodLink RL 18 yX6_wipe, Cond.instanceMethod yX6_wipe, Cond.selects RX6 yX6_wipe yX6_wipe, Cond.code yX6_wipe cX6_wipe 2 (some .int), Cond.fieldLink RX6 78 "PleatRoads$Script" "length" "I", Cond.methodLink RL 22 yX7_wipe, Cond.instanceMethod yX7_wipe, Cond.selects RX7 yX7_wipe yX7_wipe, Cond.code yX7_wipe cX7_wipe 2 (some .int), Cond.methodLink RL 23 yX6_fault, Cond.instanceMethod yX6_fault, Cond.selects RX6 yX6_fault yX6_fault, Cond.code yX6_fault cX6_fault 1 (some .int), Cond.methodLink RX6 82 yX3_readInto, Cond.instanceMethod yX3_readInto, Cond.selects RX3 yX3_readInto yX3_readInto, Cond.code yX3_readInto cX3_readInto 5 (some .int), Cond.methodLink RX3 19 yX2_clear]
def wsL_law_r7 : List Cond := [Cond.instanceMethod yX2_clear, Cond.selects RX2 yX2_clear yX2_clear, Cond.code yX2_clear cX2_clear 1 none, Cond.fieldLink RX2 27 "PleatRoads$Road" "pleats" "I", Cond.fieldLink RX2 31 "PleatRoads$Road" "travellers" "I", Cond.methodLink RX3 24 yX3_readPart, Cond.instanceMethod yX3_readPart, Cond.selects RX3 yX3_readPart yX3_readPart, Cond.code yX3_readPart cX3_readPart 3 (some .int), Cond.fieldLink RX3 28 "PleatRoads$Road" "pleats" "I", Cond.fieldLink RX3 34 "PleatRoads$Road" "travellers" "I", Cond.methodLink RX3 31 yX3_readPleat, Cond.instanceMethod yX3_readPleat, Cond.selects RX3 yX3_readPleat yX3_readPleat, Cond.code yX3_readPleat cX3_readPleat 4 (some .int), Cond.methodLink RX3 40 yX3_figureFault, Cond.instanceMethod yX3_figureFault, Cond.selects RX3 yX3_figureFault yX3_figureFault, Cond.code yX3_figureFault cX3_figureFault 4 (some .int), Cond.methodLink RX3 44 yX3_figure, Cond.instanceMethod yX3_figure, Cond.selects RX3 yX3_figure yX3_figure, Cond.code yX3_figure cX3_figure 2 (some .int), Cond.methodLink RX3 48 yX2_addPleat]
def wsL_law_r8 : List Cond := [Cond.instanceMethod yX2_addPleat, Cond.selects RX2 yX2_addPleat yX2_addPleat, Cond.code yX2_addPleat cX2_addPleat 3 none, Cond.methodLink RX3 37 yX3_readTraveller, Cond.instanceMethod yX3_readTraveller, Cond.selects RX3 yX3_readTraveller yX3_readTraveller, Cond.code yX3_readTraveller cX3_readTraveller 4 (some .int), Cond.methodLink RX3 52 Lib.Math.min.name, Cond.static Lib.Math.min.name, Cond.initialized "java/lang/Math", Cond.code Lib.Math.min.name Lib.Math.min.code 2 (some .int), Cond.methodLink RX3 58 yX2_addTraveller, Cond.instanceMethod yX2_addTraveller, Cond.selects RX2 yX2_addTraveller yX2_addTraveller, Cond.code yX2_addTraveller cX2_addTraveller 4 none, Cond.methodLink RL 26 yX7_fault, Cond.instanceMethod yX7_fault, Cond.selects RX7 yX7_fault yX7_fault, Cond.code yX7_fault cX7_fault 1 (some .int), Cond.methodLink RX7 89 yX7_readText, Cond.instanceMethod yX7_readText, Cond.selects RX7 yX7_readText yX7_readText, Cond.code yX7_readText cX7_readText 1 (some .int), Cond.fieldLink RX7 72 "PleatRoadsModel" "at" "I"]
def wsL_law_r9 : List Cond := [Cond.fieldLink RX7 69 "PleatRoadsModel" "faultAt" "I", Cond.fieldLink RX7 75 "PleatRoadsModel" "readPleats" "I", Cond.fieldLink RX7 78 "PleatRoadsModel" "readTravellers" "I", Cond.methodLink RX7 81 yX7_readPart, Cond.instanceMethod yX7_readPart, Cond.selects RX7 yX7_readPart yX7_readPart, Cond.code yX7_readPart cX7_readPart 2 none, Cond.methodLink RX7 85 yX7_figureOf, Cond.instanceMethod yX7_figureOf, Cond.selects RX7 yX7_figureOf yX7_figureOf, Cond.code yX7_figureOf cX7_figureOf 5 (some .int), Cond.methodLink RL 27 yX6_road, Cond.instanceMethod yX6_road, Cond.selects RX6 yX6_road yX6_road, Cond.code yX6_road cX6_road 2 (some .int), Cond.fieldLink RX6 89 "PleatRoads$ActRow" "length" "I", Cond.fieldLink RX6 90 "PleatRoads$Road" "pleats" "I", Cond.fieldLink RX6 93 "PleatRoads$Road" "travellers" "I", Cond.methodLink RX6 86 yX4_begin, Cond.instanceMethod yX4_begin, Cond.selects RX4 yX4_begin yX4_begin, Cond.code yX4_begin cX4_begin 2 none, Cond.fieldLink RX4 22 "PleatRoads$Road" "travellers" "I", Cond.fieldLink RX4 28 "PleatRoads$Road" "firstPlace" "[I"]
def wsL_law_r10 : List Cond := [Cond.fieldLink RX4 31 "PleatRoads$Road" "breath" "[I", Cond.fieldLink RX4 38 "PleatRoads$Standing" "greased" "I", Cond.fieldLink RX4 41 "PleatRoads$Standing" "open" "I", Cond.fieldLink RX4 44 "PleatRoads$Standing" "frost" "I", Cond.fieldLink RX4 47 "PleatRoads$Standing" "steps" "I", Cond.methodLink RX4 34 yX2_smoothOnes, Cond.instanceMethod yX2_smoothOnes, Cond.selects RX2 yX2_smoothOnes yX2_smoothOnes, Cond.code yX2_smoothOnes cX2_smoothOnes 3 (some .int), Cond.methodLink RL 30 yX7_road, Cond.instanceMethod yX7_road, Cond.selects RX7 yX7_road yX7_road, Cond.code yX7_road cX7_road 2 (some .int), Cond.fieldLink RX7 93 "PleatRoadsModel" "pleats" "I", Cond.fieldLink RX7 96 "PleatRoadsModel" "travellers" "I", Cond.fieldLink RX7 102 "PleatRoadsModel" "acts" "I", Cond.methodLink RX7 99 yX7_smooth, Cond.instanceMethod yX7_smooth, Cond.selects RX7 yX7_smooth yX7_smooth, Cond.code yX7_smooth cX7_smooth 3 (some .int), Cond.methodLink RL 31 yX6_pleat, Cond.instanceMethod yX6_pleat, Cond.selects RX6 yX6_pleat yX6_pleat, Cond.code yX6_pleat cX6_pleat 3 (some .int)]
def wsL_law_r11 : List Cond := [Cond.fieldLink RX6 100 "PleatRoads$Road" "stiffness" "[I", Cond.fieldLink RX6 103 "PleatRoads$Road" "pleatKind" "[I", Cond.fieldLink RX6 109 "PleatRoads$Standing" "greased" "I", Cond.fieldLink RX6 112 "PleatRoads$Standing" "open" "I", Cond.methodLink RX6 96 yX2_hasPleat, Cond.instanceMethod yX2_hasPleat, Cond.selects RX2 yX2_hasPleat yX2_hasPleat, Cond.code yX2_hasPleat cX2_hasPleat 2 (some .boolean), Cond.methodLink RX6 106 yX4_costOf, Cond.instanceMethod yX4_costOf, Cond.selects RX4 yX4_costOf yX4_costOf, Cond.code yX4_costOf cX4_costOf 2 (some .int), Cond.methodLink RX4 50 yX2_costShut, Cond.instanceMethod yX2_costShut, Cond.selects RX2 yX2_costShut yX2_costShut, Cond.code yX2_costShut cX2_costShut 6 (some .int), Cond.methodLink RL 35 yX7_pleat, Cond.instanceMethod yX7_pleat, Cond.selects RX7 yX7_pleat yX7_pleat, Cond.code yX7_pleat cX7_pleat 3 (some .int), Cond.methodLink RX7 122 yX7_isPleat, Cond.instanceMethod yX7_isPleat, Cond.selects RX7 yX7_isPleat yX7_isPleat, Cond.code yX7_isPleat cX7_isPleat 2 (some .boolean)]
def wsL_law_r12 : List Cond := [Cond.methodLink RX7 115 yX7_costs, Cond.instanceMethod yX7_costs, Cond.selects RX7 yX7_costs yX7_costs, Cond.code yX7_costs cX7_costs 7 (some .int), Cond.fieldLink RX7 105 "PleatRoadsModel" "ice" "I", Cond.methodLink RX7 108 yX7_has, Cond.static yX7_has, Cond.code yX7_has cX7_has 2 (some .boolean), Cond.methodLink RX7 112 yX7_atLeast, Cond.static yX7_atLeast, Cond.code yX7_atLeast cX7_atLeast 2 (some .int), Cond.methodLink RL 36 yX6_traveller, Cond.instanceMethod yX6_traveller, Cond.selects RX6 yX6_traveller yX6_traveller, Cond.code yX6_traveller cX6_traveller 3 (some .int), Cond.fieldLink RX6 118 "PleatRoads$Standing" "place" "[I", Cond.fieldLink RX6 121 "PleatRoads$Road" "breath" "[I", Cond.fieldLink RX6 124 "PleatRoads$Road" "travellerKind" "[I", Cond.fieldLink RX6 127 "PleatRoads$Standing" "wind" "[I", Cond.methodLink RX6 115 yX2_hasTraveller, Cond.instanceMethod yX2_hasTraveller, Cond.selects RX2 yX2_hasTraveller yX2_hasTraveller, Cond.code yX2_hasTraveller cX2_hasTraveller 2 (some .boolean), Cond.methodLink RX6 130 yX4_tollBeside]
def wsL_law_r13 : List Cond := [Cond.instanceMethod yX4_tollBeside, Cond.selects RX4 yX4_tollBeside yX4_tollBeside, Cond.code yX4_tollBeside cX4_tollBeside 4 (some .int), Cond.fieldLink RX4 62 "PleatRoads$Road" "travellerKind" "[I", Cond.methodLink RX4 54 yX4_pleatBeside, Cond.instanceMethod yX4_pleatBeside, Cond.selects RX4 yX4_pleatBeside yX4_pleatBeside, Cond.code yX4_pleatBeside cX4_pleatBeside 3 (some .int), Cond.methodLink RX4 58 yX2_hasPleat, Cond.methodLink RX4 65 yX4_costOf, Cond.methodLink RX4 69 yX2_tollFor, Cond.static yX2_tollFor, Cond.code yX2_tollFor cX2_tollFor 2 (some .int), Cond.methodLink RL 39 yX7_traveller, Cond.instanceMethod yX7_traveller, Cond.selects RX7 yX7_traveller yX7_traveller, Cond.code yX7_traveller cX7_traveller 3 (some .int), Cond.methodLink RX7 126 yX7_isTraveller, Cond.instanceMethod yX7_isTraveller, Cond.selects RX7 yX7_isTraveller yX7_isTraveller, Cond.code yX7_isTraveller cX7_isTraveller 2 (some .boolean), Cond.methodLink RX7 140 yX7_paysFor, Cond.instanceMethod yX7_paysFor, Cond.selects RX7 yX7_paysFor yX7_paysFor]
def wsL_law_r14 : List Cond := [Cond.code yX7_paysFor cX7_paysFor 4 (some .int), Cond.methodLink RX7 129 yX7_pleatOf, Cond.instanceMethod yX7_pleatOf, Cond.selects RX7 yX7_pleatOf yX7_pleatOf, Cond.code yX7_pleatOf cX7_pleatOf 4 (some .int), Cond.methodLink RX7 133 yX7_paysOn, Cond.instanceMethod yX7_paysOn, Cond.selects RX7 yX7_paysOn yX7_paysOn, Cond.code yX7_paysOn cX7_paysOn 5 (some .int), Cond.methodLink RX7 119 yX7_pays, Cond.static yX7_pays, Cond.code yX7_pays cX7_pays 2 (some .int), Cond.methodLink RL 40 yX6_step, Cond.instanceMethod yX6_step, Cond.selects RX6 yX6_step yX6_step, Cond.code yX6_step cX6_step 3 (some .int), Cond.methodLink RX6 134 yX4_canStep, Cond.instanceMethod yX4_canStep, Cond.selects RX4 yX4_canStep yX4_canStep, Cond.code yX4_canStep cX4_canStep 4 (some .boolean), Cond.methodLink RX4 73 yX2_hasTraveller, Cond.methodLink RX4 76 yX4_tollBeside, Cond.methodLink RX6 138 yX0_remember, Cond.instanceMethod yX0_remember]
def wsL_law_r15 : List Cond := [Cond.selects RX0 yX0_remember yX0_remember, Cond.code yX0_remember cX0_remember 2 none, Cond.fieldLink RX0 20 "PleatRoads$ActRow" "end" "I", Cond.fieldLink RX0 28 "PleatRoads$ActRow" "length" "I", Cond.methodLink RX0 31 Lib.Math.min.name, Cond.methodLink RX0 24 yX4_takeFrom, Cond.instanceMethod yX4_takeFrom, Cond.selects RX4 yX4_takeFrom yX4_takeFrom, Cond.code yX4_takeFrom cX4_takeFrom 3 none, Cond.methodLink RX6 142 yX4_doStep, Cond.instanceMethod yX4_doStep, Cond.selects RX4 yX4_doStep yX4_doStep, Cond.code yX4_doStep cX4_doStep 5 none, Cond.fieldLink RX4 79 "PleatRoads$Road" "pleatKind" "[I", Cond.methodLink RL 44 yX7_step, Cond.instanceMethod yX7_step, Cond.selects RX7 yX7_step yX7_step, Cond.code yX7_step cX7_step 3 (some .int), Cond.methodLink RX7 146 yX7_canStep, Cond.instanceMethod yX7_canStep, Cond.selects RX7 yX7_canStep yX7_canStep, Cond.code yX7_canStep cX7_canStep 6 (some .boolean), Cond.methodLink RX7 150 yX7_keepAct, Cond.instanceMethod yX7_keepAct]
def wsL_law_r16 : List Cond := [Cond.selects RX7 yX7_keepAct yX7_keepAct, Cond.code yX7_keepAct cX7_keepAct 2 none, Cond.fieldLink RX7 143 "PleatRoadsModel" "next" "I", Cond.methodLink RX7 153 yX7_stepOn, Cond.instanceMethod yX7_stepOn, Cond.selects RX7 yX7_stepOn yX7_stepOn, Cond.code yX7_stepOn cX7_stepOn 6 none, Cond.methodLink RL 45 yX6_rest, Cond.instanceMethod yX6_rest, Cond.selects RX6 yX6_rest yX6_rest, Cond.code yX6_rest cX6_rest 2 (some .int), Cond.methodLink RX6 146 yX4_doRest, Cond.instanceMethod yX4_doRest, Cond.selects RX4 yX4_doRest yX4_doRest, Cond.code yX4_doRest cX4_doRest 2 none, Cond.methodLink RX4 82 yX2_windRested, Cond.static yX2_windRested, Cond.code yX2_windRested cX2_windRested 2 (some .int), Cond.methodLink RX2 34 Lib.Math.max.name, Cond.static Lib.Math.max.name, Cond.code Lib.Math.max.name Lib.Math.max.code 2 (some .int), Cond.methodLink RX2 40 Lib.Math.min.name, Cond.methodLink RL 48 yX7_rest, Cond.instanceMethod yX7_rest]
def wsL_law_r17 : List Cond := [Cond.selects RX7 yX7_rest yX7_rest, Cond.code yX7_rest cX7_rest 2 (some .int), Cond.methodLink RX7 157 yX7_restOn, Cond.instanceMethod yX7_restOn, Cond.selects RX7 yX7_restOn yX7_restOn, Cond.code yX7_restOn cX7_restOn 4 none, Cond.methodLink RX7 137 yX7_rested, Cond.instanceMethod yX7_rested, Cond.selects RX7 yX7_rested yX7_rested, Cond.code yX7_rested cX7_rested 4 (some .int), Cond.methodLink RL 49 yX6_grease, Cond.instanceMethod yX6_grease, Cond.selects RX6 yX6_grease yX6_grease, Cond.code yX6_grease cX6_grease 2 (some .int), Cond.methodLink RX6 150 yX4_canGrease, Cond.instanceMethod yX4_canGrease, Cond.selects RX4 yX4_canGrease yX4_canGrease, Cond.code yX4_canGrease cX4_canGrease 2 (some .boolean), Cond.methodLink RX6 153 yX4_doGrease, Cond.instanceMethod yX4_doGrease, Cond.selects RX4 yX4_doGrease yX4_doGrease, Cond.code yX4_doGrease cX4_doGrease 2 none, Cond.methodLink RL 52 yX7_grease, Cond.instanceMethod yX7_grease]
def wsL_law_r18 : List Cond := [Cond.selects RX7 yX7_grease yX7_grease, Cond.code yX7_grease cX7_grease 2 (some .int), Cond.methodLink RL 53 yX6_freeze, Cond.instanceMethod yX6_freeze, Cond.selects RX6 yX6_freeze yX6_freeze, Cond.code yX6_freeze cX6_freeze 1 (some .int), Cond.fieldLink RX6 160 "PleatRoads$Standing" "frost" "I", Cond.methodLink RX6 156 yX4_canFreeze, Cond.instanceMethod yX4_canFreeze, Cond.selects RX4 yX4_canFreeze yX4_canFreeze, Cond.code yX4_canFreeze cX4_canFreeze 1 (some .boolean), Cond.methodLink RL 56 yX7_freeze, Cond.instanceMethod yX7_freeze, Cond.selects RX7 yX7_freeze yX7_freeze, Cond.code yX7_freeze cX7_freeze 1 (some .int), Cond.methodLink RL 57 yX6_thaw, Cond.instanceMethod yX6_thaw, Cond.selects RX6 yX6_thaw yX6_thaw, Cond.code yX6_thaw cX6_thaw 2 (some .int), Cond.methodLink RL 60 yX7_thaw, Cond.instanceMethod yX7_thaw, Cond.selects RX7 yX7_thaw yX7_thaw, Cond.code yX7_thaw cX7_thaw 2 (some .int), Cond.methodLink RL 61 yX6_undo]
def wsL_law_r19 : List Cond := [Cond.instanceMethod yX6_undo, Cond.selects RX6 yX6_undo yX6_undo, Cond.code yX6_undo cX6_undo 1 (some .int), Cond.methodLink RX6 163 yX0_takeBack, Cond.instanceMethod yX0_takeBack, Cond.selects RX0 yX0_takeBack yX0_takeBack, Cond.code yX0_takeBack cX0_takeBack 2 none, Cond.methodLink RL 64 yX7_undo, Cond.instanceMethod yX7_undo, Cond.selects RX7 yX7_undo yX7_undo, Cond.code yX7_undo cX7_undo 2 (some .int), Cond.methodLink RL 65 yX6_reach, Cond.instanceMethod yX6_reach, Cond.selects RX6 yX6_reach yX6_reach, Cond.code yX6_reach cX6_reach 2 (some .int), Cond.methodLink RX6 166 yX6_reachIn, Cond.instanceMethod yX6_reachIn, Cond.selects RX6 yX6_reachIn yX6_reachIn, Cond.code yX6_reachIn cX6_reachIn 3 (some .int), Cond.methodLink RX6 173 yX5_prepare, Cond.instanceMethod yX5_prepare, Cond.selects RX5 yX5_prepare yX5_prepare, Cond.code yX5_prepare cX5_prepare 8 none, Cond.fieldLink RX5 31 "PleatRoads$Road" "travellerKind" "[I"]
def wsL_law_r20 : List Cond := [Cond.fieldLink RX5 36 "PleatRoads$Road" "pleats" "I", Cond.fieldLink RX5 40 "PleatRoads$Standing" "frost" "I", Cond.fieldLink RX5 53 "PleatRoads$Road" "breath" "[I", Cond.fieldLink RX5 56 "PleatRoads$Walk" "breath" "I", Cond.fieldLink RX5 58 "PleatRoads$Walk" "isLungs" "Z", Cond.fieldLink RX5 62 "PleatRoads$Standing" "wind" "[I", Cond.fieldLink RX5 65 "PleatRoads$Walk" "startWind" "I", Cond.fieldLink RX5 68 "PleatRoads$Standing" "place" "[I", Cond.fieldLink RX5 71 "PleatRoads$Standing" "open" "I", Cond.fieldLink RX5 77 "PleatRoads$Walk" "startNode" "I", Cond.methodLink RX5 45 yX2_costShut, Cond.methodLink RX5 49 yX2_tollFor, Cond.methodLink RX5 74 yX5_modeAt, Cond.static yX5_modeAt, Cond.code yX5_modeAt cX5_modeAt 2 (some .int), Cond.methodLink RX6 264 yX5_places, Cond.instanceMethod yX5_places, Cond.selects RX5 yX5_places yX5_places, Cond.code yX5_places cX5_places 4 (some .int), Cond.methodLink RX5 89 yX5_beginAt, Cond.instanceMethod yX5_beginAt, Cond.selects RX5 yX5_beginAt yX5_beginAt, Cond.code yX5_beginAt cX5_beginAt 1 none, Cond.methodLink RX5 80 yJ7_fill_53178]
def wsL_law_r21 : List Cond := [Cond.static yJ7_fill_53178, Cond.initialized RJ7, Cond.code yJ7_fill_53178 cJ7_fill_53178 4 none, Cond.methodLink RX5 92 yX5_enqueueBeyond, Cond.instanceMethod yX5_enqueueBeyond, Cond.selects RX5 yX5_enqueueBeyond yX5_enqueueBeyond, Cond.code yX5_enqueueBeyond cX5_enqueueBeyond 6 (some .int), Cond.methodLink RX5 96 yX5_windBeyond, Cond.instanceMethod yX5_windBeyond, Cond.selects RX5 yX5_windBeyond yX5_windBeyond, Cond.code yX5_windBeyond cX5_windBeyond 7 (some .int), Cond.fieldLink RX5 86 "PleatRoads$Road" "pleatKind" "[I", Cond.methodLink RX5 100 yX5_nodeBeyond, Cond.instanceMethod yX5_nodeBeyond, Cond.selects RX5 yX5_nodeBeyond yX5_nodeBeyond, Cond.code yX5_nodeBeyond cX5_nodeBeyond 5 (some .int), Cond.methodLink RL 68 yX7_reach, Cond.instanceMethod yX7_reach, Cond.selects RX7 yX7_reach yX7_reach, Cond.code yX7_reach cX7_reach 2 (some .int), Cond.methodLink RX7 182 yX7_reachNow, Cond.instanceMethod yX7_reachNow, Cond.selects RX7 yX7_reachNow yX7_reachNow, Cond.code yX7_reachNow cX7_reachNow 2 (some .int)]
def wsL_law_r22 : List Cond := [Cond.methodLink RX7 179 yX7_reachOn, Cond.instanceMethod yX7_reachOn, Cond.selects RX7 yX7_reachOn yX7_reachOn, Cond.code yX7_reachOn cX7_reachOn 6 (some .int), Cond.fieldLink RX7 161 "PleatRoadsModel" "queued" "I", Cond.methodLink RX7 175 yX7_spread, Cond.instanceMethod yX7_spread, Cond.selects RX7 yX7_spread yX7_spread, Cond.code yX7_spread cX7_spread 8 none, Cond.fieldLink RX7 164 "PleatRoadsModel" "greasedHere" "I", Cond.methodLink RX7 167 yX7_meetState, Cond.instanceMethod yX7_meetState, Cond.selects RX7 yX7_meetState yX7_meetState, Cond.code yX7_meetState cX7_meetState 6 none, Cond.methodLink RX7 171 yX7_goFrom, Cond.instanceMethod yX7_goFrom, Cond.selects RX7 yX7_goFrom yX7_goFrom, Cond.code yX7_goFrom cX7_goFrom 9 none, Cond.methodLink RL 69 yX6_fewest, Cond.instanceMethod yX6_fewest, Cond.selects RX6 yX6_fewest yX6_fewest, Cond.code yX6_fewest cX6_fewest 3 (some .int), Cond.methodLink RX6 170 yX2_hasPlace, Cond.instanceMethod yX2_hasPlace]
def wsL_law_r23 : List Cond := [Cond.selects RX2 yX2_hasPlace yX2_hasPlace, Cond.code yX2_hasPlace cX2_hasPlace 2 (some .boolean), Cond.methodLink RX6 177 yX5_movesTo, Cond.instanceMethod yX5_movesTo, Cond.selects RX5 yX5_movesTo yX5_movesTo, Cond.code yX5_movesTo cX5_movesTo 4 (some .int), Cond.methodLink RX5 103 yX5_moveOnce, Cond.instanceMethod yX5_moveOnce, Cond.selects RX5 yX5_moveOnce yX5_moveOnce, Cond.code yX5_moveOnce cX5_moveOnce 2 none, Cond.methodLink RX5 117 arraycopyName, Cond.native arraycopyName, Cond.static arraycopyName, Cond.initialized "java/lang/System", Cond.methodLink RX5 106 yX5_stepOnce, Cond.instanceMethod yX5_stepOnce, Cond.selects RX5 yX5_stepOnce yX5_stepOnce, Cond.code yX5_stepOnce cX5_stepOnce 4 none, Cond.methodLink RX5 113 yX5_raise, Cond.instanceMethod yX5_raise, Cond.selects RX5 yX5_raise yX5_raise, Cond.code yX5_raise cX5_raise 3 none, Cond.methodLink RX5 123 Lib.Math.max.name, Cond.methodLink RX5 110 yX2_windRested]
def wsL_law_r24 : List Cond := [Cond.methodLink RL 72 yX7_fewest, Cond.instanceMethod yX7_fewest, Cond.selects RX7 yX7_fewest yX7_fewest, Cond.code yX7_fewest cX7_fewest 4 (some .int), Cond.methodLink RX7 186 yX7_isPlace, Cond.instanceMethod yX7_isPlace, Cond.selects RX7 yX7_isPlace yX7_isPlace, Cond.code yX7_isPlace cX7_isPlace 2 (some .boolean), Cond.methodLink RL 73 yX6_wants, Cond.instanceMethod yX6_wants, Cond.selects RX6 yX6_wants yX6_wants, Cond.code yX6_wants cX6_wants 6 (some .int), Cond.methodLink RX6 180 yX6_comesWith, Cond.instanceMethod yX6_comesWith, Cond.selects RX6 yX6_comesWith yX6_comesWith, Cond.code yX6_comesWith cX6_comesWith 5 (some .boolean), Cond.methodLink RX6 184 yJ6_bitCount_0f7a4, Cond.static yJ6_bitCount_0f7a4, Cond.initialized RJ6, Cond.code yJ6_bitCount_0f7a4 cJ6_bitCount_0f7a4 1 (some .int), Cond.constant RJ6 265 (1431655765), Cond.constant RJ6 266 (858993459), Cond.constant RJ6 267 (252645135), Cond.methodLink RL 76 yX7_wants]
def wsL_law_r25 : List Cond := [Cond.instanceMethod yX7_wants, Cond.selects RX7 yX7_wants yX7_wants, Cond.code yX7_wants cX7_wants 6 (some .int), Cond.methodLink RX7 189 yX7_ones, Cond.static yX7_ones, Cond.code yX7_ones cX7_ones 3 (some .int), Cond.methodLink RL 77 yX6_shutIn, Cond.instanceMethod yX6_shutIn, Cond.selects RX6 yX6_shutIn yX6_shutIn, Cond.code yX6_shutIn cX6_shutIn 3 (some .int), Cond.methodLink RL 80 yX7_shutIn, Cond.instanceMethod yX7_shutIn, Cond.selects RX7 yX7_shutIn yX7_shutIn, Cond.code yX7_shutIn cX7_shutIn 3 (some .int), Cond.methodLink RL 81 yX6_meet, Cond.instanceMethod yX6_meet, Cond.selects RX6 yX6_meet yX6_meet, Cond.code yX6_meet cX6_meet 3 (some .int), Cond.methodLink RL 84 yX7_meet, Cond.instanceMethod yX7_meet, Cond.selects RX7 yX7_meet yX7_meet, Cond.code yX7_meet cX7_meet 3 (some .int), Cond.methodLink RL 87 yX6_judge, Cond.instanceMethod yX6_judge]
def wsL_law_r26 : List Cond := [Cond.selects RX6 yX6_judge yX6_judge, Cond.code yX6_judge cX6_judge 6 (some .int), Cond.fieldLink RX6 189 "PleatRoads" "THOUSANDS" "[J", Cond.constantLong RX6 196 (1000), Cond.methodLink RX6 193 yX4_takeFrom, Cond.methodLink RX6 198 yX4_doTold, Cond.instanceMethod yX4_doTold, Cond.selects RX4 yX4_doTold yX4_doTold, Cond.code yX4_doTold cX4_doTold 4 (some .boolean), Cond.methodLink RX4 107 yX4_stepIfItCan, Cond.instanceMethod yX4_stepIfItCan, Cond.selects RX4 yX4_stepIfItCan yX4_stepIfItCan, Cond.code yX4_stepIfItCan cX4_stepIfItCan 4 (some .boolean), Cond.methodLink RX4 85 yX4_canStep, Cond.methodLink RX4 89 yX4_doStep, Cond.methodLink RX4 110 yX4_restIfItCan, Cond.instanceMethod yX4_restIfItCan, Cond.selects RX4 yX4_restIfItCan yX4_restIfItCan, Cond.code yX4_restIfItCan cX4_restIfItCan 3 (some .boolean), Cond.methodLink RX4 93 yX4_doRest, Cond.methodLink RX4 113 yX4_greaseIfItCan, Cond.instanceMethod yX4_greaseIfItCan, Cond.selects RX4 yX4_greaseIfItCan yX4_greaseIfItCan, Cond.code yX4_greaseIfItCan cX4_greaseIfItCan 3 (some .boolean)]
def wsL_law_r27 : List Cond := [Cond.methodLink RX4 97 yX4_canGrease, Cond.methodLink RX4 100 yX4_doGrease, Cond.methodLink RX4 116 yX4_freezeIfItCan, Cond.instanceMethod yX4_freezeIfItCan, Cond.selects RX4 yX4_freezeIfItCan yX4_freezeIfItCan, Cond.code yX4_freezeIfItCan cX4_freezeIfItCan 2 (some .boolean), Cond.methodLink RX4 103 yX4_canFreeze, Cond.methodLink RL 91 yX7_judge, Cond.instanceMethod yX7_judge, Cond.selects RX7 yX7_judge yX7_judge, Cond.code yX7_judge cX7_judge 6 (some .int), Cond.constantLong RX7 194 (4), Cond.constantLong RX7 192 (1000), Cond.methodLink RX7 196 yX7_thousandTo, Cond.static yX7_thousandTo, Cond.code yX7_thousandTo cX7_thousandTo 4 (some .long), Cond.methodLink RX7 200 yX7_layTrial, Cond.instanceMethod yX7_layTrial, Cond.selects RX7 yX7_layTrial yX7_layTrial, Cond.code yX7_layTrial cX7_layTrial 2 none, Cond.methodLink RX7 203 yX7_tryThing, Cond.instanceMethod yX7_tryThing, Cond.selects RX7 yX7_tryThing yX7_tryThing, Cond.code yX7_tryThing cX7_tryThing 8 (some .boolean)]
def wsL_law_r28 : List Cond := [Cond.methodLink RL 92 yX6_hear, Cond.instanceMethod yX6_hear, Cond.selects RX6 yX6_hear yX6_hear, Cond.code yX6_hear cX6_hear 3 (some .int), Cond.methodLink RX6 202 yX1_append, Cond.instanceMethod yX1_append, Cond.selects RX1 yX1_append yX1_append, Cond.code yX1_append cX1_append 3 (some .int), Cond.fieldLink RX1 23 "PleatRoads$Hearsay" "length" "I", Cond.methodLink RL 95 yX7_hear, Cond.instanceMethod yX7_hear, Cond.selects RX7 yX7_hear yX7_hear, Cond.code yX7_hear cX7_hear 3 (some .int), Cond.constantLong RX7 207 (10), Cond.fieldLink RX7 209 "PleatRoadsModel" "heard" "I", Cond.methodLink RL 96 yX6_unhear, Cond.instanceMethod yX6_unhear, Cond.selects RX6 yX6_unhear yX6_unhear, Cond.code yX6_unhear cX6_unhear 2 (some .int), Cond.fieldLink RX6 204 "PleatRoads$Hearsay" "length" "I", Cond.methodLink RL 99 yX7_unhear, Cond.instanceMethod yX7_unhear, Cond.selects RX7 yX7_unhear yX7_unhear, Cond.code yX7_unhear cX7_unhear 2 (some .int)]
def wsL_law_r29 : List Cond := [Cond.methodLink RL 100 yX6_who, Cond.instanceMethod yX6_who, Cond.selects RX6 yX6_who yX6_who, Cond.code yX6_who cX6_who 2 (some .int), Cond.methodLink RX6 205 yX1_howMany, Cond.instanceMethod yX1_howMany, Cond.selects RX1 yX1_howMany yX1_howMany, Cond.code yX1_howMany cX1_howMany 4 (some .int), Cond.methodLink RX1 27 yX1_isOne, Cond.instanceMethod yX1_isOne, Cond.selects RX1 yX1_isOne yX1_isOne, Cond.code yX1_isOne cX1_isOne 5 (some .boolean), Cond.methodLink RX1 31 yX1_farthestOn, Cond.instanceMethod yX1_farthestOn, Cond.selects RX1 yX1_farthestOn yX1_farthestOn, Cond.code yX1_farthestOn cX1_farthestOn 7 (some .int), Cond.fieldLink RX1 41 "PleatRoads$Road" "pleats" "I", Cond.fieldLink RX1 51 "PleatRoads$Road" "pleatKind" "[I", Cond.methodLink RX1 35 yX2_smoothOnes, Cond.methodLink RX1 44 yX2_costShut, Cond.methodLink RX1 48 yX2_tollFor, Cond.methodLink RX6 209 yX1_firstOne, Cond.instanceMethod yX1_firstOne, Cond.selects RX1 yX1_firstOne yX1_firstOne]
def wsL_law_r30 : List Cond := [Cond.code yX1_firstOne cX1_firstOne 3 (some .int), Cond.methodLink RL 103 yX7_who, Cond.instanceMethod yX7_who, Cond.selects RX7 yX7_who yX7_who, Cond.code yX7_who cX7_who 8 (some .int), Cond.methodLink RX7 212 yX7_farthest, Cond.instanceMethod yX7_farthest, Cond.selects RX7 yX7_farthest yX7_farthest, Cond.code yX7_farthest cX7_farthest 6 (some .int), Cond.methodLink RL 104 yX6_share, Cond.instanceMethod yX6_share, Cond.selects RX6 yX6_share yX6_share, Cond.code yX6_share cX6_share 6 (some .int), Cond.methodLink RX6 212 yX6_howManyReach, Cond.instanceMethod yX6_howManyReach, Cond.selects RX6 yX6_howManyReach yX6_howManyReach, Cond.code yX6_howManyReach cX6_howManyReach 4 (some .int), Cond.methodLink RX6 215 yX6_sharedPart, Cond.static yX6_sharedPart, Cond.code yX6_sharedPart cX6_sharedPart 1 (some .int), Cond.methodLink RX6 218 yX6_fraction, Cond.static yX6_fraction, Cond.code yX6_fraction cX6_fraction 4 (some .int), Cond.methodLink RX6 267 yX6_commonDivisor]
def wsL_law_r31 : List Cond := [Cond.static yX6_commonDivisor, Cond.code yX6_commonDivisor cX6_commonDivisor 6 (some .int), Cond.methodLink RL 107 yX7_share, Cond.instanceMethod yX7_share, Cond.selects RX7 yX7_share yX7_share, Cond.code yX7_share cX7_share 6 (some .int), Cond.methodLink RX7 215 yX7_factorial, Cond.static yX7_factorial, Cond.code yX7_factorial cX7_factorial 3 (some .int), Cond.methodLink RX7 218 yX7_comeTo, Cond.instanceMethod yX7_comeTo, Cond.selects RX7 yX7_comeTo yX7_comeTo, Cond.code yX7_comeTo cX7_comeTo 4 (some .int), Cond.methodLink RX7 221 yX7_common, Cond.static yX7_common, Cond.code yX7_common cX7_common 5 (some .int), Cond.methodLink RL 108 yX6_rests, Cond.instanceMethod yX6_rests, Cond.selects RX6 yX6_rests yX6_rests, Cond.code yX6_rests cX6_rests 5 (some .int), Cond.methodLink RX6 222 yX6_tryPair, Cond.instanceMethod yX6_tryPair, Cond.selects RX6 yX6_tryPair yX6_tryPair, Cond.code yX6_tryPair cX6_tryPair 8 none]
def wsL_law_r32 : List Cond := [Cond.methodLink RX6 270 yX4_stepIfItCan, Cond.methodLink RX6 273 yX6_gainOfPlaces, Cond.instanceMethod yX6_gainOfPlaces, Cond.selects RX6 yX6_gainOfPlaces yX6_gainOfPlaces, Cond.code yX6_gainOfPlaces cX6_gainOfPlaces 4 (some .int), Cond.methodLink RX6 226 yX6_pairsAtRest, Cond.instanceMethod yX6_pairsAtRest, Cond.selects RX6 yX6_pairsAtRest yX6_pairsAtRest, Cond.code yX6_pairsAtRest cX6_pairsAtRest 3 (some .int), Cond.methodLink RX6 276 yX6_isAtRest, Cond.instanceMethod yX6_isAtRest, Cond.selects RX6 yX6_isAtRest yX6_isAtRest, Cond.code yX6_isAtRest cX6_isAtRest 5 (some .boolean), Cond.methodLink RX6 229 yX6_firstPairAtRest, Cond.instanceMethod yX6_firstPairAtRest, Cond.selects RX6 yX6_firstPairAtRest yX6_firstPairAtRest, Cond.code yX6_firstPairAtRest cX6_firstPairAtRest 2 (some .int), Cond.methodLink RL 112 yX7_rests, Cond.instanceMethod yX7_rests, Cond.selects RX7 yX7_rests yX7_rests, Cond.code yX7_rests cX7_rests 7 (some .int), Cond.methodLink RX7 231 yX7_isRest, Cond.instanceMethod yX7_isRest, Cond.selects RX7 yX7_isRest yX7_isRest]
def wsL_law_r33 : List Cond := [Cond.code yX7_isRest cX7_isRest 7 (some .boolean), Cond.methodLink RX7 227 yX7_gain, Cond.instanceMethod yX7_gain, Cond.selects RX7 yX7_gain yX7_gain, Cond.code yX7_gain cX7_gain 12 (some .int), Cond.methodLink RX7 224 yX7_choose, Cond.instanceMethod yX7_choose, Cond.selects RX7 yX7_choose yX7_choose, Cond.code yX7_choose cX7_choose 4 (some .boolean), Cond.methodLink RL 113 yX6_icy, Cond.instanceMethod yX6_icy, Cond.selects RX6 yX6_icy yX6_icy, Cond.code yX6_icy cX6_icy 11 (some .int), Cond.methodLink RX6 232 yX2_canBeIced, Cond.instanceMethod yX2_canBeIced, Cond.selects RX2 yX2_canBeIced yX2_canBeIced, Cond.code yX2_canBeIced cX2_canBeIced 3 (some .int), Cond.methodLink RX6 235 yX6_power, Cond.static yX6_power, Cond.code yX6_power cX6_power 4 (some .int), Cond.methodLink RL 117 yX7_icy, Cond.instanceMethod yX7_icy, Cond.selects RX7 yX7_icy yX7_icy, Cond.code yX7_icy cX7_icy 10 (some .int)]
def wsL_law_r34 : List Cond := [Cond.methodLink RX7 235 yX7_iceable, Cond.instanceMethod yX7_iceable, Cond.selects RX7 yX7_iceable yX7_iceable, Cond.code yX7_iceable cX7_iceable 3 (some .int), Cond.methodLink RX7 238 yX7_power, Cond.static yX7_power, Cond.code yX7_power cX7_power 4 (some .int), Cond.methodLink RL 118 yX6_seed, Cond.instanceMethod yX6_seed, Cond.selects RX6 yX6_seed yX6_seed, Cond.code yX6_seed cX6_seed 5 (some .long), Cond.fieldLink RX6 239 "PleatRoads" "seed" "J", Cond.methodLink RL 122 yX7_seed, Cond.instanceMethod yX7_seed, Cond.selects RX7 yX7_seed yX7_seed, Cond.code yX7_seed cX7_seed 5 (some .long), Cond.fieldLink RX7 241 "PleatRoadsModel" "seed" "J", Cond.methodLink RL 123 yX6_summers, Cond.instanceMethod yX6_summers, Cond.selects RX6 yX6_summers yX6_summers, Cond.code yX6_summers cX6_summers 4 (some .int), Cond.constantLong RX6 243 (6364136223846793005), Cond.constantLong RX6 245 (1442695040888963407), Cond.constantLong RX6 247 (26)]
def wsL_law_r35 : List Cond := [Cond.methodLink RX6 249 yX4_doDrawn, Cond.instanceMethod yX4_doDrawn, Cond.selects RX4 yX4_doDrawn yX4_doDrawn, Cond.code yX4_doDrawn cX4_doDrawn 2 none, Cond.methodLink RX6 252 yX4_placesTogether, Cond.instanceMethod yX4_placesTogether, Cond.selects RX4 yX4_placesTogether yX4_placesTogether, Cond.code yX4_placesTogether cX4_placesTogether 3 (some .int), Cond.methodLink RL 126 yX7_summers, Cond.instanceMethod yX7_summers, Cond.selects RX7 yX7_summers yX7_summers, Cond.code yX7_summers cX7_summers 7 (some .int), Cond.constantLong RX7 245 (30), Cond.constantLong RX7 247 (6364136223846793005), Cond.constantLong RX7 249 (1442695040888963407), Cond.constantLong RX7 251 (26), Cond.methodLink RL 127 yX6_keep, Cond.instanceMethod yX6_keep, Cond.selects RX6 yX6_keep yX6_keep, Cond.code yX6_keep cX6_keep 2 (some .int), Cond.fieldLink RX6 255 "PleatRoads$Standing" "steps" "I", Cond.methodLink RL 130 yX7_keep, Cond.instanceMethod yX7_keep, Cond.selects RX7 yX7_keep yX7_keep]
def wsL_law_r36 : List Cond := [Cond.code yX7_keep cX7_keep 3 (some .int), Cond.methodLink RL 131 yX6_again, Cond.instanceMethod yX6_again, Cond.selects RX6 yX6_again yX6_again, Cond.code yX6_again cX6_again 2 (some .int), Cond.methodLink RL 134 yX7_again, Cond.instanceMethod yX7_again, Cond.selects RX7 yX7_again yX7_again, Cond.code yX7_again cX7_again 3 (some .int), Cond.methodLink RL 135 yX6_count, Cond.instanceMethod yX6_count, Cond.selects RX6 yX6_count yX6_count, Cond.code yX6_count cX6_count 2 (some .int), Cond.methodLink RX6 258 yX4_placesTaken, Cond.instanceMethod yX4_placesTaken, Cond.selects RX4 yX4_placesTaken yX4_placesTaken, Cond.code yX4_placesTaken cX4_placesTaken 3 (some .int), Cond.methodLink RX6 261 yX4_windTogether, Cond.instanceMethod yX4_windTogether, Cond.selects RX4 yX4_windTogether yX4_windTogether, Cond.code yX4_windTogether cX4_windTogether 3 (some .int), Cond.methodLink RL 138 yX7_count, Cond.instanceMethod yX7_count, Cond.selects RX7 yX7_count yX7_count]
def wsL_law_r37 : List Cond := [Cond.code yX7_count cX7_count 2 (some .int), Cond.methodLink RX7 253 yX7_placesOf, Cond.instanceMethod yX7_placesOf, Cond.selects RX7 yX7_placesOf yX7_placesOf, Cond.code yX7_placesOf cX7_placesOf 3 (some .int), Cond.methodLink RX7 256 yX7_windOfAll, Cond.instanceMethod yX7_windOfAll, Cond.selects RX7 yX7_windOfAll yX7_windOfAll, Cond.code yX7_windOfAll cX7_windOfAll 3 (some .int)]
def wsL_law : List Cond := (wsL_law_r1 ++ (wsL_law_r2 ++ (wsL_law_r3 ++ (wsL_law_r4 ++ (wsL_law_r5 ++ (wsL_law_r6 ++ (wsL_law_r7 ++ (wsL_law_r8 ++ (wsL_law_r9 ++ (wsL_law_r10 ++ (wsL_law_r11 ++ (wsL_law_r12 ++ (wsL_law_r13 ++ (wsL_law_r14 ++ (wsL_law_r15 ++ (wsL_law_r16 ++ (wsL_law_r17 ++ (wsL_law_r18 ++ (wsL_law_r19 ++ (wsL_law_r20 ++ (wsL_law_r21 ++ (wsL_law_r22 ++ (wsL_law_r23 ++ (wsL_law_r24 ++ (wsL_law_r25 ++ (wsL_law_r26 ++ (wsL_law_r27 ++ (wsL_law_r28 ++ (wsL_law_r29 ++ (wsL_law_r30 ++ (wsL_law_r31 ++ (wsL_law_r32 ++ (wsL_law_r33 ++ (wsL_law_r34 ++ (wsL_law_r35 ++ (wsL_law_r36 ++ wsL_law_r37)))))))))))))))))))))))))))))))))))) ++ wsX60 ++ wsX70 ++ wsX30 ++ wsX20 ++ wsX40 ++ wsX00 ++ wsX50 ++ wsX10 ++ ([] : List Cond)
theorem inlX0 : ∀ w ∈ wsX00, w ∈ wsL_law := fun _ h => List.mem_append_left _ (List.mem_append_left _ (List.mem_append_left _ (List.mem_append_right _ h)))
theorem inlX1 : ∀ w ∈ wsX10, w ∈ wsL_law := fun _ h => List.mem_append_left _ (List.mem_append_right _ h)
theorem inlX2 : ∀ w ∈ wsX20, w ∈ wsL_law := fun _ h => List.mem_append_left _ (List.mem_append_left _ (List.mem_append_left _ (List.mem_append_left _ (List.mem_append_left _ (List.mem_append_right _ h)))))
theorem inlX3 : ∀ w ∈ wsX30, w ∈ wsL_law := fun _ h => List.mem_append_left _ (List.mem_append_left _ (List.mem_append_left _ (List.mem_append_left _ (List.mem_append_left _ (List.mem_append_left _ (List.mem_append_right _ h))))))
theorem inlX4 : ∀ w ∈ wsX40, w ∈ wsL_law := fun _ h => List.mem_append_left _ (List.mem_append_left _ (List.mem_append_left _ (List.mem_append_left _ (List.mem_append_right _ h))))
theorem inlX5 : ∀ w ∈ wsX50, w ∈ wsL_law := fun _ h => List.mem_append_left _ (List.mem_append_left _ (List.mem_append_right _ h))
theorem inlX6 : ∀ w ∈ wsX60, w ∈ wsL_law := fun _ h => List.mem_append_left _ (List.mem_append_left _ (List.mem_append_left _ (List.mem_append_left _ (List.mem_append_left _ (List.mem_append_left _ (List.mem_append_left _ (List.mem_append_left _ (List.mem_append_right _ h))))))))
theorem inlX7 : ∀ w ∈ wsX70, w ∈ wsL_law := fun _ h => List.mem_append_left _ (List.mem_append_left _ (List.mem_append_left _ (List.mem_append_left _ (List.mem_append_left _ (List.mem_append_left _ (List.mem_append_left _ (List.mem_append_right _ h)))))))
theorem inJ6 : ∀ w ∈ wsJ60, w ∈ lw_tbl := by decide +kernel
theorem inJ9 : ∀ w ∈ wsJ90, w ∈ lw_tbl := by decide +kernel
theorem inJ10 : ∀ w ∈ wsJ100, w ∈ lw_tbl := by decide +kernel
theorem inJ7 : ∀ w ∈ wsJ70, w ∈ lw_tbl := by decide +kernel
set_option maxRecDepth 20000 in
theorem ggX0_init_X4_init : GoodIn wsX0_init wsX4_init := goodIn_r _ [10, 11, 2, 3, 12, 13, 14, 15, 19, 20, 21, 22, 23, 24, 25] (by decide +kernel) (by decide +kernel)
set_option maxRecDepth 20000 in
theorem gX0_init_X4_init : GoodIn wsX0_init (wsX4_init) := ggX0_init_X4_init
theorem dX0_init_0 : decode cX0_init 0 = .ok (.aload_n 0, 1) := by decide +kernel
theorem dX0_init_1 : decode cX0_init 1 = .ok (.invokespecial 3, 3) := by decide +kernel
theorem dX0_init_4 : decode cX0_init 4 = .ok (.aload_n 0, 1) := by decide +kernel
theorem dX0_init_5 : decode cX0_init 5 = .ok (.bipush 14, 2) := by decide +kernel
theorem dX0_init_7 : decode cX0_init 7 = .ok (.anewarray 9, 3) := by decide +kernel
theorem dX0_init_10 : decode cX0_init 10 = .ok (.putfield 11, 3) := by decide +kernel
theorem dX0_init_13 : decode cX0_init 13 = .ok (.iconst 0, 1) := by decide +kernel
theorem dX0_init_14 : decode cX0_init 14 = .ok (.istore_n 2, 1) := by decide +kernel
theorem dX0_init_15 : decode cX0_init 15 = .ok (.iload_n 2, 1) := by decide +kernel
theorem dX0_init_16 : decode cX0_init 16 = .ok (.bipush 14, 2) := by decide +kernel
theorem dX0_init_18 : decode cX0_init 18 = .ok (.if_icmp .ge 23, 3) := by decide +kernel
theorem dX0_init_21 : decode cX0_init 21 = .ok (.aload_n 0, 1) := by decide +kernel
theorem dX0_init_22 : decode cX0_init 22 = .ok (.getfield 11, 3) := by decide +kernel
theorem dX0_init_25 : decode cX0_init 25 = .ok (.iload_n 2, 1) := by decide +kernel
theorem dX0_init_26 : decode cX0_init 26 = .ok (.new 9, 3) := by decide +kernel
theorem dX0_init_29 : decode cX0_init 29 = .ok (.dup, 1) := by decide +kernel
theorem dX0_init_30 : decode cX0_init 30 = .ok (.aload_n 1, 1) := by decide +kernel
theorem dX0_init_31 : decode cX0_init 31 = .ok (.invokespecial 17, 3) := by decide +kernel
theorem dX0_init_34 : decode cX0_init 34 = .ok (.aastore, 1) := by decide +kernel
theorem dX0_init_35 : decode cX0_init 35 = .ok (.iinc 2 1, 3) := by decide +kernel
theorem dX0_init_38 : decode cX0_init 38 = .ok (.goto (-23), 3) := by decide +kernel
theorem dX0_init_41 : decode cX0_init 41 = .ok (.return_, 1) := by decide +kernel
set_option maxRecDepth 20000 in
theorem ggX0_remember_X4_takeFrom : GoodIn wsX0_remember wsX4_takeFrom := goodIn_r _ [12, 13, 14, 15, 16, 17, 18, 22, 23, 24, 25, 26, 27, 28] (by decide +kernel) (by decide +kernel)
set_option maxRecDepth 20000 in
theorem gX0_remember_X4_takeFrom : GoodIn wsX0_remember (wsV RX0 24 RX4 yX4_takeFrom wsX4_takeFrom) := goodIn_app (goodIn_of _ (by decide +kernel)) ggX0_remember_X4_takeFrom
theorem dX0_remember_0 : decode cX0_remember 0 = .ok (.aload_n 0, 1) := by decide +kernel
theorem dX0_remember_1 : decode cX0_remember 1 = .ok (.getfield 11, 3) := by decide +kernel
theorem dX0_remember_4 : decode cX0_remember 4 = .ok (.aload_n 0, 1) := by decide +kernel
theorem dX0_remember_5 : decode cX0_remember 5 = .ok (.getfield 20, 3) := by decide +kernel
theorem dX0_remember_8 : decode cX0_remember 8 = .ok (.aaload, 1) := by decide +kernel
theorem dX0_remember_9 : decode cX0_remember 9 = .ok (.aload_n 1, 1) := by decide +kernel
theorem dX0_remember_10 : decode cX0_remember 10 = .ok (.invokevirtual 24, 3) := by decide +kernel
theorem dX0_remember_13 : decode cX0_remember 13 = .ok (.aload_n 0, 1) := by decide +kernel
theorem dX0_remember_14 : decode cX0_remember 14 = .ok (.aload_n 0, 1) := by decide +kernel
theorem dX0_remember_15 : decode cX0_remember 15 = .ok (.getfield 20, 3) := by decide +kernel
theorem dX0_remember_18 : decode cX0_remember 18 = .ok (.iconst 1, 1) := by decide +kernel
theorem dX0_remember_19 : decode cX0_remember 19 = .ok (.iadd, 1) := by decide +kernel
theorem dX0_remember_20 : decode cX0_remember 20 = .ok (.bipush 14, 2) := by decide +kernel
theorem dX0_remember_22 : decode cX0_remember 22 = .ok (.irem, 1) := by decide +kernel
theorem dX0_remember_23 : decode cX0_remember 23 = .ok (.putfield 20, 3) := by decide +kernel
theorem dX0_remember_26 : decode cX0_remember 26 = .ok (.aload_n 0, 1) := by decide +kernel
theorem dX0_remember_27 : decode cX0_remember 27 = .ok (.bipush 14, 2) := by decide +kernel
theorem dX0_remember_29 : decode cX0_remember 29 = .ok (.aload_n 0, 1) := by decide +kernel
theorem dX0_remember_30 : decode cX0_remember 30 = .ok (.getfield 28, 3) := by decide +kernel
theorem dX0_remember_33 : decode cX0_remember 33 = .ok (.iconst 1, 1) := by decide +kernel
theorem dX0_remember_34 : decode cX0_remember 34 = .ok (.iadd, 1) := by decide +kernel
theorem dX0_remember_35 : decode cX0_remember 35 = .ok (.invokestatic 31, 3) := by decide +kernel
theorem dX0_remember_38 : decode cX0_remember 38 = .ok (.putfield 28, 3) := by decide +kernel
theorem dX0_remember_41 : decode cX0_remember 41 = .ok (.return_, 1) := by decide +kernel
set_option maxRecDepth 20000 in
theorem ggX0_takeBack_X4_takeFrom : GoodIn wsX0_takeBack wsX4_takeFrom := goodIn_r _ [8, 9, 10, 11, 12, 13, 14, 18, 19, 20, 21, 22, 23, 24] (by decide +kernel) (by decide +kernel)
set_option maxRecDepth 20000 in
theorem gX0_takeBack_X4_takeFrom : GoodIn wsX0_takeBack (wsV RX0 24 RX4 yX4_takeFrom wsX4_takeFrom) := goodIn_app (goodIn_of _ (by decide +kernel)) ggX0_takeBack_X4_takeFrom
theorem dX0_takeBack_0 : decode cX0_takeBack 0 = .ok (.aload_n 0, 1) := by decide +kernel
theorem dX0_takeBack_1 : decode cX0_takeBack 1 = .ok (.aload_n 0, 1) := by decide +kernel
theorem dX0_takeBack_2 : decode cX0_takeBack 2 = .ok (.getfield 20, 3) := by decide +kernel
theorem dX0_takeBack_5 : decode cX0_takeBack 5 = .ok (.bipush 14, 2) := by decide +kernel
theorem dX0_takeBack_7 : decode cX0_takeBack 7 = .ok (.iadd, 1) := by decide +kernel
theorem dX0_takeBack_8 : decode cX0_takeBack 8 = .ok (.iconst 1, 1) := by decide +kernel
theorem dX0_takeBack_9 : decode cX0_takeBack 9 = .ok (.isub, 1) := by decide +kernel
theorem dX0_takeBack_10 : decode cX0_takeBack 10 = .ok (.bipush 14, 2) := by decide +kernel
theorem dX0_takeBack_12 : decode cX0_takeBack 12 = .ok (.irem, 1) := by decide +kernel
theorem dX0_takeBack_13 : decode cX0_takeBack 13 = .ok (.putfield 20, 3) := by decide +kernel
theorem dX0_takeBack_16 : decode cX0_takeBack 16 = .ok (.aload_n 0, 1) := by decide +kernel
theorem dX0_takeBack_17 : decode cX0_takeBack 17 = .ok (.dup, 1) := by decide +kernel
theorem dX0_takeBack_18 : decode cX0_takeBack 18 = .ok (.getfield 28, 3) := by decide +kernel
theorem dX0_takeBack_21 : decode cX0_takeBack 21 = .ok (.iconst 1, 1) := by decide +kernel
theorem dX0_takeBack_22 : decode cX0_takeBack 22 = .ok (.isub, 1) := by decide +kernel
theorem dX0_takeBack_23 : decode cX0_takeBack 23 = .ok (.putfield 28, 3) := by decide +kernel
theorem dX0_takeBack_26 : decode cX0_takeBack 26 = .ok (.aload_n 1, 1) := by decide +kernel
theorem dX0_takeBack_27 : decode cX0_takeBack 27 = .ok (.aload_n 0, 1) := by decide +kernel
theorem dX0_takeBack_28 : decode cX0_takeBack 28 = .ok (.getfield 11, 3) := by decide +kernel
theorem dX0_takeBack_31 : decode cX0_takeBack 31 = .ok (.aload_n 0, 1) := by decide +kernel
theorem dX0_takeBack_32 : decode cX0_takeBack 32 = .ok (.getfield 20, 3) := by decide +kernel
theorem dX0_takeBack_35 : decode cX0_takeBack 35 = .ok (.aaload, 1) := by decide +kernel
theorem dX0_takeBack_36 : decode cX0_takeBack 36 = .ok (.invokevirtual 24, 3) := by decide +kernel
theorem dX0_takeBack_39 : decode cX0_takeBack 39 = .ok (.return_, 1) := by decide +kernel
theorem dX1_init_0 : decode cX1_init 0 = .ok (.aload_n 0, 1) := by decide +kernel
theorem dX1_init_1 : decode cX1_init 1 = .ok (.invokespecial 3, 3) := by decide +kernel
theorem dX1_init_4 : decode cX1_init 4 = .ok (.aload_n 0, 1) := by decide +kernel
theorem dX1_init_5 : decode cX1_init 5 = .ok (.bipush 6, 2) := by decide +kernel
theorem dX1_init_7 : decode cX1_init 7 = .ok (.newarray .int, 2) := by decide +kernel
theorem dX1_init_9 : decode cX1_init 9 = .ok (.putfield 9, 3) := by decide +kernel
theorem dX1_init_12 : decode cX1_init 12 = .ok (.aload_n 0, 1) := by decide +kernel
theorem dX1_init_13 : decode cX1_init 13 = .ok (.bipush 6, 2) := by decide +kernel
theorem dX1_init_15 : decode cX1_init 15 = .ok (.newarray .boolean, 2) := by decide +kernel
theorem dX1_init_17 : decode cX1_init 17 = .ok (.putfield 15, 3) := by decide +kernel
theorem dX1_init_20 : decode cX1_init 20 = .ok (.aload_n 0, 1) := by decide +kernel
theorem dX1_init_21 : decode cX1_init 21 = .ok (.aload_n 1, 1) := by decide +kernel
theorem dX1_init_22 : decode cX1_init 22 = .ok (.putfield 19, 3) := by decide +kernel
theorem dX1_init_25 : decode cX1_init 25 = .ok (.return_, 1) := by decide +kernel
theorem dX1_append_0 : decode cX1_append 0 = .ok (.aload_n 0, 1) := by decide +kernel
theorem dX1_append_1 : decode cX1_append 1 = .ok (.getfield 23, 3) := by decide +kernel
theorem dX1_append_4 : decode cX1_append 4 = .ok (.bipush 6, 2) := by decide +kernel
theorem dX1_append_6 : decode cX1_append 6 = .ok (.if_icmp .lt 6, 3) := by decide +kernel
theorem dX1_append_9 : decode cX1_append 9 = .ok (.bipush (-4), 2) := by decide +kernel
theorem dX1_append_11 : decode cX1_append 11 = .ok (.ireturn, 1) := by decide +kernel
theorem dX1_append_12 : decode cX1_append 12 = .ok (.aload_n 0, 1) := by decide +kernel
theorem dX1_append_13 : decode cX1_append 13 = .ok (.getfield 9, 3) := by decide +kernel
theorem dX1_append_16 : decode cX1_append 16 = .ok (.aload_n 0, 1) := by decide +kernel
theorem dX1_append_17 : decode cX1_append 17 = .ok (.getfield 23, 3) := by decide +kernel
theorem dX1_append_20 : decode cX1_append 20 = .ok (.iload_n 1, 1) := by decide +kernel
theorem dX1_append_21 : decode cX1_append 21 = .ok (.iastore, 1) := by decide +kernel
theorem dX1_append_22 : decode cX1_append 22 = .ok (.aload_n 0, 1) := by decide +kernel
theorem dX1_append_23 : decode cX1_append 23 = .ok (.getfield 15, 3) := by decide +kernel
theorem dX1_append_26 : decode cX1_append 26 = .ok (.aload_n 0, 1) := by decide +kernel
theorem dX1_append_27 : decode cX1_append 27 = .ok (.getfield 23, 3) := by decide +kernel
theorem dX1_append_30 : decode cX1_append 30 = .ok (.iload_n 2, 1) := by decide +kernel
theorem dX1_append_31 : decode cX1_append 31 = .ok (.bastore, 1) := by decide +kernel
theorem dX1_append_32 : decode cX1_append 32 = .ok (.aload_n 0, 1) := by decide +kernel
theorem dX1_append_33 : decode cX1_append 33 = .ok (.dup, 1) := by decide +kernel
theorem dX1_append_34 : decode cX1_append 34 = .ok (.getfield 23, 3) := by decide +kernel
theorem dX1_append_37 : decode cX1_append 37 = .ok (.iconst 1, 1) := by decide +kernel
theorem dX1_append_38 : decode cX1_append 38 = .ok (.iadd, 1) := by decide +kernel
theorem dX1_append_39 : decode cX1_append 39 = .ok (.putfield 23, 3) := by decide +kernel
theorem dX1_append_42 : decode cX1_append 42 = .ok (.aload_n 0, 1) := by decide +kernel
theorem dX1_append_43 : decode cX1_append 43 = .ok (.getfield 23, 3) := by decide +kernel
theorem dX1_append_46 : decode cX1_append 46 = .ok (.ireturn, 1) := by decide +kernel
set_option maxRecDepth 20000 in
theorem ggX1_howMany_X1_isOne : GoodIn wsX1_howMany wsX1_isOne := goodIn_r _ [5, 6, 7, 8, 9, 10, 11, 4, 12, 13, 14, 15, 16, 17, 18, 19, 20, 21, 22, 23, 24, 25, 26, 27, 28, 29, 30, 31, 32, 33, 34, 35, 36, 37, 38, 39, 40, 41] (by decide +kernel) (by decide +kernel)
set_option maxRecDepth 20000 in
theorem gX1_howMany_X1_isOne : GoodIn wsX1_howMany (wsV RX1 27 RX1 yX1_isOne wsX1_isOne) := goodIn_app (goodIn_of _ (by decide +kernel)) ggX1_howMany_X1_isOne
theorem dX1_howMany_0 : decode cX1_howMany 0 = .ok (.iconst 0, 1) := by decide +kernel
theorem dX1_howMany_1 : decode cX1_howMany 1 = .ok (.istore_n 1, 1) := by decide +kernel
theorem dX1_howMany_2 : decode cX1_howMany 2 = .ok (.iconst 0, 1) := by decide +kernel
theorem dX1_howMany_3 : decode cX1_howMany 3 = .ok (.istore_n 2, 1) := by decide +kernel
theorem dX1_howMany_4 : decode cX1_howMany 4 = .ok (.iload_n 2, 1) := by decide +kernel
theorem dX1_howMany_5 : decode cX1_howMany 5 = .ok (.iconst 4, 1) := by decide +kernel
theorem dX1_howMany_6 : decode cX1_howMany 6 = .ok (.if_icmp .ge 40, 3) := by decide +kernel
theorem dX1_howMany_9 : decode cX1_howMany 9 = .ok (.iconst 1, 1) := by decide +kernel
theorem dX1_howMany_10 : decode cX1_howMany 10 = .ok (.istore_n 3, 1) := by decide +kernel
theorem dX1_howMany_11 : decode cX1_howMany 11 = .ok (.iload_n 3, 1) := by decide +kernel
theorem dX1_howMany_12 : decode cX1_howMany 12 = .ok (.bipush 9, 2) := by decide +kernel
theorem dX1_howMany_14 : decode cX1_howMany 14 = .ok (.if_icmp .gt 26, 3) := by decide +kernel
theorem dX1_howMany_17 : decode cX1_howMany 17 = .ok (.iload_n 1, 1) := by decide +kernel
theorem dX1_howMany_18 : decode cX1_howMany 18 = .ok (.aload_n 0, 1) := by decide +kernel
theorem dX1_howMany_19 : decode cX1_howMany 19 = .ok (.iload_n 2, 1) := by decide +kernel
theorem dX1_howMany_20 : decode cX1_howMany 20 = .ok (.iload_n 3, 1) := by decide +kernel
theorem dX1_howMany_21 : decode cX1_howMany 21 = .ok (.invokevirtual 27, 3) := by decide +kernel
theorem dX1_howMany_24 : decode cX1_howMany 24 = .ok (.ifCond .eq 7, 3) := by decide +kernel
theorem dX1_howMany_27 : decode cX1_howMany 27 = .ok (.iconst 1, 1) := by decide +kernel
theorem dX1_howMany_28 : decode cX1_howMany 28 = .ok (.goto 4, 3) := by decide +kernel
theorem dX1_howMany_31 : decode cX1_howMany 31 = .ok (.iconst 0, 1) := by decide +kernel
theorem dX1_howMany_32 : decode cX1_howMany 32 = .ok (.iadd, 1) := by decide +kernel
theorem dX1_howMany_33 : decode cX1_howMany 33 = .ok (.istore_n 1, 1) := by decide +kernel
theorem dX1_howMany_34 : decode cX1_howMany 34 = .ok (.iinc 3 1, 3) := by decide +kernel
theorem dX1_howMany_37 : decode cX1_howMany 37 = .ok (.goto (-26), 3) := by decide +kernel
theorem dX1_howMany_40 : decode cX1_howMany 40 = .ok (.iinc 2 1, 3) := by decide +kernel
theorem dX1_howMany_43 : decode cX1_howMany 43 = .ok (.goto (-39), 3) := by decide +kernel
theorem dX1_howMany_46 : decode cX1_howMany 46 = .ok (.iload_n 1, 1) := by decide +kernel
theorem dX1_howMany_47 : decode cX1_howMany 47 = .ok (.ireturn, 1) := by decide +kernel
set_option maxRecDepth 20000 in
theorem ggX1_firstOne_X1_isOne : GoodIn wsX1_firstOne wsX1_isOne := goodIn_r _ [5, 6, 7, 8, 9, 10, 11, 4, 12, 13, 14, 15, 16, 17, 18, 19, 20, 21, 22, 23, 24, 25, 26, 27, 28, 29, 30, 31, 32, 33, 34, 35, 36, 37, 38, 39, 40, 41] (by decide +kernel) (by decide +kernel)
set_option maxRecDepth 20000 in
theorem gX1_firstOne_X1_isOne : GoodIn wsX1_firstOne (wsV RX1 27 RX1 yX1_isOne wsX1_isOne) := goodIn_app (goodIn_of _ (by decide +kernel)) ggX1_firstOne_X1_isOne
theorem dX1_firstOne_0 : decode cX1_firstOne 0 = .ok (.iconst 0, 1) := by decide +kernel
theorem dX1_firstOne_1 : decode cX1_firstOne 1 = .ok (.istore_n 1, 1) := by decide +kernel
theorem dX1_firstOne_2 : decode cX1_firstOne 2 = .ok (.iload_n 1, 1) := by decide +kernel
theorem dX1_firstOne_3 : decode cX1_firstOne 3 = .ok (.iconst 4, 1) := by decide +kernel
theorem dX1_firstOne_4 : decode cX1_firstOne 4 = .ok (.if_icmp .ge 39, 3) := by decide +kernel
theorem dX1_firstOne_7 : decode cX1_firstOne 7 = .ok (.iconst 1, 1) := by decide +kernel
theorem dX1_firstOne_8 : decode cX1_firstOne 8 = .ok (.istore_n 2, 1) := by decide +kernel
theorem dX1_firstOne_9 : decode cX1_firstOne 9 = .ok (.iload_n 2, 1) := by decide +kernel
theorem dX1_firstOne_10 : decode cX1_firstOne 10 = .ok (.bipush 9, 2) := by decide +kernel
theorem dX1_firstOne_12 : decode cX1_firstOne 12 = .ok (.if_icmp .gt 25, 3) := by decide +kernel
theorem dX1_firstOne_15 : decode cX1_firstOne 15 = .ok (.aload_n 0, 1) := by decide +kernel
theorem dX1_firstOne_16 : decode cX1_firstOne 16 = .ok (.iload_n 1, 1) := by decide +kernel
theorem dX1_firstOne_17 : decode cX1_firstOne 17 = .ok (.iload_n 2, 1) := by decide +kernel
theorem dX1_firstOne_18 : decode cX1_firstOne 18 = .ok (.invokevirtual 27, 3) := by decide +kernel
theorem dX1_firstOne_21 : decode cX1_firstOne 21 = .ok (.ifCond .eq 10, 3) := by decide +kernel
theorem dX1_firstOne_24 : decode cX1_firstOne 24 = .ok (.bipush 10, 2) := by decide +kernel
theorem dX1_firstOne_26 : decode cX1_firstOne 26 = .ok (.iload_n 1, 1) := by decide +kernel
theorem dX1_firstOne_27 : decode cX1_firstOne 27 = .ok (.imul, 1) := by decide +kernel
theorem dX1_firstOne_28 : decode cX1_firstOne 28 = .ok (.iload_n 2, 1) := by decide +kernel
theorem dX1_firstOne_29 : decode cX1_firstOne 29 = .ok (.iadd, 1) := by decide +kernel
theorem dX1_firstOne_30 : decode cX1_firstOne 30 = .ok (.ireturn, 1) := by decide +kernel
theorem dX1_firstOne_31 : decode cX1_firstOne 31 = .ok (.iinc 2 1, 3) := by decide +kernel
theorem dX1_firstOne_34 : decode cX1_firstOne 34 = .ok (.goto (-25), 3) := by decide +kernel
theorem dX1_firstOne_37 : decode cX1_firstOne 37 = .ok (.iinc 1 1, 3) := by decide +kernel
theorem dX1_firstOne_40 : decode cX1_firstOne 40 = .ok (.goto (-38), 3) := by decide +kernel
theorem dX1_firstOne_43 : decode cX1_firstOne 43 = .ok (.bipush (-9), 2) := by decide +kernel
theorem dX1_firstOne_45 : decode cX1_firstOne 45 = .ok (.ireturn, 1) := by decide +kernel
set_option maxRecDepth 20000 in
theorem ggX1_isOne_X1_farthestOn : GoodIn wsX1_isOne wsX1_farthestOn := goodIn_r _ [8, 9, 10, 11, 12, 13, 14, 15, 16, 17, 18, 19, 20, 21, 22, 23, 24, 25, 26, 27, 28, 29, 30, 31, 32, 33, 34, 35, 36, 37] (by decide +kernel) (by decide +kernel)
set_option maxRecDepth 20000 in
theorem gX1_isOne_X1_farthestOn : GoodIn wsX1_isOne (wsV RX1 31 RX1 yX1_farthestOn wsX1_farthestOn) := goodIn_app (goodIn_of _ (by decide +kernel)) ggX1_isOne_X1_farthestOn
theorem dX1_isOne_0 : decode cX1_isOne 0 = .ok (.aload_n 0, 1) := by decide +kernel
theorem dX1_isOne_1 : decode cX1_isOne 1 = .ok (.iload_n 1, 1) := by decide +kernel
theorem dX1_isOne_2 : decode cX1_isOne 2 = .ok (.iload_n 2, 1) := by decide +kernel
theorem dX1_isOne_3 : decode cX1_isOne 3 = .ok (.invokevirtual 31, 3) := by decide +kernel
theorem dX1_isOne_6 : decode cX1_isOne 6 = .ok (.istore_n 3, 1) := by decide +kernel
theorem dX1_isOne_7 : decode cX1_isOne 7 = .ok (.iconst 0, 1) := by decide +kernel
theorem dX1_isOne_8 : decode cX1_isOne 8 = .ok (.istore 4, 2) := by decide +kernel
theorem dX1_isOne_10 : decode cX1_isOne 10 = .ok (.iload 4, 2) := by decide +kernel
theorem dX1_isOne_12 : decode cX1_isOne 12 = .ok (.aload_n 0, 1) := by decide +kernel
theorem dX1_isOne_13 : decode cX1_isOne 13 = .ok (.getfield 23, 3) := by decide +kernel
theorem dX1_isOne_16 : decode cX1_isOne 16 = .ok (.if_icmp .ge 37, 3) := by decide +kernel
theorem dX1_isOne_19 : decode cX1_isOne 19 = .ok (.iload_n 3, 1) := by decide +kernel
theorem dX1_isOne_20 : decode cX1_isOne 20 = .ok (.aload_n 0, 1) := by decide +kernel
theorem dX1_isOne_21 : decode cX1_isOne 21 = .ok (.getfield 9, 3) := by decide +kernel
theorem dX1_isOne_24 : decode cX1_isOne 24 = .ok (.iload 4, 2) := by decide +kernel
theorem dX1_isOne_26 : decode cX1_isOne 26 = .ok (.iaload, 1) := by decide +kernel
theorem dX1_isOne_27 : decode cX1_isOne 27 = .ok (.if_icmp .lt 7, 3) := by decide +kernel
theorem dX1_isOne_30 : decode cX1_isOne 30 = .ok (.iconst 1, 1) := by decide +kernel
theorem dX1_isOne_31 : decode cX1_isOne 31 = .ok (.goto 4, 3) := by decide +kernel
theorem dX1_isOne_34 : decode cX1_isOne 34 = .ok (.iconst 0, 1) := by decide +kernel
theorem dX1_isOne_35 : decode cX1_isOne 35 = .ok (.aload_n 0, 1) := by decide +kernel
theorem dX1_isOne_36 : decode cX1_isOne 36 = .ok (.getfield 15, 3) := by decide +kernel
theorem dX1_isOne_39 : decode cX1_isOne 39 = .ok (.iload 4, 2) := by decide +kernel
theorem dX1_isOne_41 : decode cX1_isOne 41 = .ok (.baload, 1) := by decide +kernel
theorem dX1_isOne_42 : decode cX1_isOne 42 = .ok (.if_icmp .eq 5, 3) := by decide +kernel
theorem dX1_isOne_45 : decode cX1_isOne 45 = .ok (.iconst 0, 1) := by decide +kernel
theorem dX1_isOne_46 : decode cX1_isOne 46 = .ok (.ireturn, 1) := by decide +kernel
theorem dX1_isOne_47 : decode cX1_isOne 47 = .ok (.iinc 4 1, 3) := by decide +kernel
theorem dX1_isOne_50 : decode cX1_isOne 50 = .ok (.goto (-40), 3) := by decide +kernel
theorem dX1_isOne_53 : decode cX1_isOne 53 = .ok (.iconst 1, 1) := by decide +kernel
theorem dX1_isOne_54 : decode cX1_isOne 54 = .ok (.ireturn, 1) := by decide +kernel
set_option maxRecDepth 20000 in
theorem ggX1_farthestOn_X2_smoothOnes : GoodIn wsX1_farthestOn wsX2_smoothOnes := goodIn_r _ [8, 9, 10, 23, 24, 25, 26, 27, 28, 29] (by decide +kernel) (by decide +kernel)
set_option maxRecDepth 20000 in
theorem gX1_farthestOn_X2_smoothOnes : GoodIn wsX1_farthestOn (wsV RX1 35 RX2 yX2_smoothOnes wsX2_smoothOnes) := goodIn_app (goodIn_of _ (by decide +kernel)) ggX1_farthestOn_X2_smoothOnes
set_option maxRecDepth 20000 in
theorem ggX1_farthestOn_X2_costShut : GoodIn wsX1_farthestOn wsX2_costShut := goodIn_r _ [14, 10, 15, 23, 24, 25, 26, 27, 28, 29] (by decide +kernel) (by decide +kernel)
set_option maxRecDepth 20000 in
theorem gX1_farthestOn_X2_costShut : GoodIn wsX1_farthestOn (wsV RX1 44 RX2 yX2_costShut wsX2_costShut) := goodIn_app (goodIn_of _ (by decide +kernel)) ggX1_farthestOn_X2_costShut
set_option maxRecDepth 20000 in
theorem ggX1_farthestOn_X2_tollFor : GoodIn wsX1_farthestOn wsX2_tollFor := goodIn_r _ [18] (by decide +kernel) (by decide +kernel)
set_option maxRecDepth 20000 in
theorem gX1_farthestOn_X2_tollFor : GoodIn wsX1_farthestOn (va_wsS RX1 48 yX2_tollFor wsX2_tollFor) := goodIn_app (goodIn_of _ (by decide +kernel)) ggX1_farthestOn_X2_tollFor
theorem dX1_farthestOn_0 : decode cX1_farthestOn 0 = .ok (.aload_n 0, 1) := by decide +kernel
theorem dX1_farthestOn_1 : decode cX1_farthestOn 1 = .ok (.getfield 19, 3) := by decide +kernel
theorem dX1_farthestOn_4 : decode cX1_farthestOn 4 = .ok (.invokevirtual 35, 3) := by decide +kernel
theorem dX1_farthestOn_7 : decode cX1_farthestOn 7 = .ok (.istore_n 3, 1) := by decide +kernel
theorem dX1_farthestOn_8 : decode cX1_farthestOn 8 = .ok (.iload_n 2, 1) := by decide +kernel
theorem dX1_farthestOn_9 : decode cX1_farthestOn 9 = .ok (.istore 4, 2) := by decide +kernel
theorem dX1_farthestOn_11 : decode cX1_farthestOn 11 = .ok (.iconst 0, 1) := by decide +kernel
theorem dX1_farthestOn_12 : decode cX1_farthestOn 12 = .ok (.istore 5, 2) := by decide +kernel
theorem dX1_farthestOn_14 : decode cX1_farthestOn 14 = .ok (.iload 5, 2) := by decide +kernel
theorem dX1_farthestOn_16 : decode cX1_farthestOn 16 = .ok (.aload_n 0, 1) := by decide +kernel
theorem dX1_farthestOn_17 : decode cX1_farthestOn 17 = .ok (.getfield 19, 3) := by decide +kernel
theorem dX1_farthestOn_20 : decode cX1_farthestOn 20 = .ok (.getfield 41, 3) := by decide +kernel
theorem dX1_farthestOn_23 : decode cX1_farthestOn 23 = .ok (.if_icmp .ge 61, 3) := by decide +kernel
theorem dX1_farthestOn_26 : decode cX1_farthestOn 26 = .ok (.iload_n 1, 1) := by decide +kernel
theorem dX1_farthestOn_27 : decode cX1_farthestOn 27 = .ok (.aload_n 0, 1) := by decide +kernel
theorem dX1_farthestOn_28 : decode cX1_farthestOn 28 = .ok (.getfield 19, 3) := by decide +kernel
theorem dX1_farthestOn_31 : decode cX1_farthestOn 31 = .ok (.iload 5, 2) := by decide +kernel
theorem dX1_farthestOn_33 : decode cX1_farthestOn 33 = .ok (.iconst 0, 1) := by decide +kernel
theorem dX1_farthestOn_34 : decode cX1_farthestOn 34 = .ok (.iload_n 3, 1) := by decide +kernel
theorem dX1_farthestOn_35 : decode cX1_farthestOn 35 = .ok (.invokevirtual 44, 3) := by decide +kernel
theorem dX1_farthestOn_38 : decode cX1_farthestOn 38 = .ok (.invokestatic 48, 3) := by decide +kernel
theorem dX1_farthestOn_41 : decode cX1_farthestOn 41 = .ok (.istore 6, 2) := by decide +kernel
theorem dX1_farthestOn_43 : decode cX1_farthestOn 43 = .ok (.iload 6, 2) := by decide +kernel
theorem dX1_farthestOn_45 : decode cX1_farthestOn 45 = .ok (.iload 4, 2) := by decide +kernel
theorem dX1_farthestOn_47 : decode cX1_farthestOn 47 = .ok (.if_icmp .le 6, 3) := by decide +kernel
theorem dX1_farthestOn_50 : decode cX1_farthestOn 50 = .ok (.iload 5, 2) := by decide +kernel
theorem dX1_farthestOn_52 : decode cX1_farthestOn 52 = .ok (.ireturn, 1) := by decide +kernel
theorem dX1_farthestOn_53 : decode cX1_farthestOn 53 = .ok (.aload_n 0, 1) := by decide +kernel
theorem dX1_farthestOn_54 : decode cX1_farthestOn 54 = .ok (.getfield 19, 3) := by decide +kernel
theorem dX1_farthestOn_57 : decode cX1_farthestOn 57 = .ok (.getfield 51, 3) := by decide +kernel
theorem dX1_farthestOn_60 : decode cX1_farthestOn 60 = .ok (.iload 5, 2) := by decide +kernel
theorem dX1_farthestOn_62 : decode cX1_farthestOn 62 = .ok (.iaload, 1) := by decide +kernel
theorem dX1_farthestOn_63 : decode cX1_farthestOn 63 = .ok (.iconst 3, 1) := by decide +kernel
theorem dX1_farthestOn_64 : decode cX1_farthestOn 64 = .ok (.if_icmp .ne 7, 3) := by decide +kernel
theorem dX1_farthestOn_67 : decode cX1_farthestOn 67 = .ok (.iload_n 2, 1) := by decide +kernel
theorem dX1_farthestOn_68 : decode cX1_farthestOn 68 = .ok (.goto 8, 3) := by decide +kernel
theorem dX1_farthestOn_71 : decode cX1_farthestOn 71 = .ok (.iload 4, 2) := by decide +kernel
theorem dX1_farthestOn_73 : decode cX1_farthestOn 73 = .ok (.iload 6, 2) := by decide +kernel
theorem dX1_farthestOn_75 : decode cX1_farthestOn 75 = .ok (.isub, 1) := by decide +kernel
theorem dX1_farthestOn_76 : decode cX1_farthestOn 76 = .ok (.istore 4, 2) := by decide +kernel
theorem dX1_farthestOn_78 : decode cX1_farthestOn 78 = .ok (.iinc 5 1, 3) := by decide +kernel
theorem dX1_farthestOn_81 : decode cX1_farthestOn 81 = .ok (.goto (-67), 3) := by decide +kernel
theorem dX1_farthestOn_84 : decode cX1_farthestOn 84 = .ok (.aload_n 0, 1) := by decide +kernel
theorem dX1_farthestOn_85 : decode cX1_farthestOn 85 = .ok (.getfield 19, 3) := by decide +kernel
theorem dX1_farthestOn_88 : decode cX1_farthestOn 88 = .ok (.getfield 41, 3) := by decide +kernel
theorem dX1_farthestOn_91 : decode cX1_farthestOn 91 = .ok (.ireturn, 1) := by decide +kernel
theorem dX2_init_0 : decode cX2_init 0 = .ok (.aload_n 0, 1) := by decide +kernel
theorem dX2_init_1 : decode cX2_init 1 = .ok (.invokespecial 3, 3) := by decide +kernel
theorem dX2_init_4 : decode cX2_init 4 = .ok (.aload_n 0, 1) := by decide +kernel
theorem dX2_init_5 : decode cX2_init 5 = .ok (.bipush 10, 2) := by decide +kernel
theorem dX2_init_7 : decode cX2_init 7 = .ok (.newarray .int, 2) := by decide +kernel
theorem dX2_init_9 : decode cX2_init 9 = .ok (.putfield 9, 3) := by decide +kernel
theorem dX2_init_12 : decode cX2_init 12 = .ok (.aload_n 0, 1) := by decide +kernel
theorem dX2_init_13 : decode cX2_init 13 = .ok (.bipush 10, 2) := by decide +kernel
theorem dX2_init_15 : decode cX2_init 15 = .ok (.newarray .int, 2) := by decide +kernel
theorem dX2_init_17 : decode cX2_init 17 = .ok (.putfield 15, 3) := by decide +kernel
theorem dX2_init_20 : decode cX2_init 20 = .ok (.aload_n 0, 1) := by decide +kernel
theorem dX2_init_21 : decode cX2_init 21 = .ok (.iconst 5, 1) := by decide +kernel
theorem dX2_init_22 : decode cX2_init 22 = .ok (.newarray .int, 2) := by decide +kernel
theorem dX2_init_24 : decode cX2_init 24 = .ok (.putfield 18, 3) := by decide +kernel
theorem dX2_init_27 : decode cX2_init 27 = .ok (.aload_n 0, 1) := by decide +kernel
theorem dX2_init_28 : decode cX2_init 28 = .ok (.iconst 5, 1) := by decide +kernel
theorem dX2_init_29 : decode cX2_init 29 = .ok (.newarray .int, 2) := by decide +kernel
theorem dX2_init_31 : decode cX2_init 31 = .ok (.putfield 21, 3) := by decide +kernel
theorem dX2_init_34 : decode cX2_init 34 = .ok (.aload_n 0, 1) := by decide +kernel
theorem dX2_init_35 : decode cX2_init 35 = .ok (.iconst 5, 1) := by decide +kernel
theorem dX2_init_36 : decode cX2_init 36 = .ok (.newarray .int, 2) := by decide +kernel
theorem dX2_init_38 : decode cX2_init 38 = .ok (.putfield 24, 3) := by decide +kernel
theorem dX2_init_41 : decode cX2_init 41 = .ok (.return_, 1) := by decide +kernel
theorem dX2_hasPleat_0 : decode cX2_hasPleat 0 = .ok (.iload_n 1, 1) := by decide +kernel
theorem dX2_hasPleat_1 : decode cX2_hasPleat 1 = .ok (.ifCond .lt 15, 3) := by decide +kernel
theorem dX2_hasPleat_4 : decode cX2_hasPleat 4 = .ok (.iload_n 1, 1) := by decide +kernel
theorem dX2_hasPleat_5 : decode cX2_hasPleat 5 = .ok (.aload_n 0, 1) := by decide +kernel
theorem dX2_hasPleat_6 : decode cX2_hasPleat 6 = .ok (.getfield 27, 3) := by decide +kernel
theorem dX2_hasPleat_9 : decode cX2_hasPleat 9 = .ok (.if_icmp .ge 7, 3) := by decide +kernel
theorem dX2_hasPleat_12 : decode cX2_hasPleat 12 = .ok (.iconst 1, 1) := by decide +kernel
theorem dX2_hasPleat_13 : decode cX2_hasPleat 13 = .ok (.goto 4, 3) := by decide +kernel
theorem dX2_hasPleat_16 : decode cX2_hasPleat 16 = .ok (.iconst 0, 1) := by decide +kernel
theorem dX2_hasPleat_17 : decode cX2_hasPleat 17 = .ok (.ireturn, 1) := by decide +kernel
theorem dX2_hasTraveller_0 : decode cX2_hasTraveller 0 = .ok (.iload_n 1, 1) := by decide +kernel
theorem dX2_hasTraveller_1 : decode cX2_hasTraveller 1 = .ok (.ifCond .lt 15, 3) := by decide +kernel
theorem dX2_hasTraveller_4 : decode cX2_hasTraveller 4 = .ok (.iload_n 1, 1) := by decide +kernel
theorem dX2_hasTraveller_5 : decode cX2_hasTraveller 5 = .ok (.aload_n 0, 1) := by decide +kernel
theorem dX2_hasTraveller_6 : decode cX2_hasTraveller 6 = .ok (.getfield 31, 3) := by decide +kernel
theorem dX2_hasTraveller_9 : decode cX2_hasTraveller 9 = .ok (.if_icmp .ge 7, 3) := by decide +kernel
theorem dX2_hasTraveller_12 : decode cX2_hasTraveller 12 = .ok (.iconst 1, 1) := by decide +kernel
theorem dX2_hasTraveller_13 : decode cX2_hasTraveller 13 = .ok (.goto 4, 3) := by decide +kernel
theorem dX2_hasTraveller_16 : decode cX2_hasTraveller 16 = .ok (.iconst 0, 1) := by decide +kernel
theorem dX2_hasTraveller_17 : decode cX2_hasTraveller 17 = .ok (.ireturn, 1) := by decide +kernel
theorem dX2_hasPlace_0 : decode cX2_hasPlace 0 = .ok (.iload_n 1, 1) := by decide +kernel
theorem dX2_hasPlace_1 : decode cX2_hasPlace 1 = .ok (.ifCond .lt 15, 3) := by decide +kernel
theorem dX2_hasPlace_4 : decode cX2_hasPlace 4 = .ok (.iload_n 1, 1) := by decide +kernel
theorem dX2_hasPlace_5 : decode cX2_hasPlace 5 = .ok (.aload_n 0, 1) := by decide +kernel
theorem dX2_hasPlace_6 : decode cX2_hasPlace 6 = .ok (.getfield 27, 3) := by decide +kernel
theorem dX2_hasPlace_9 : decode cX2_hasPlace 9 = .ok (.if_icmp .gt 7, 3) := by decide +kernel
theorem dX2_hasPlace_12 : decode cX2_hasPlace 12 = .ok (.iconst 1, 1) := by decide +kernel
theorem dX2_hasPlace_13 : decode cX2_hasPlace 13 = .ok (.goto 4, 3) := by decide +kernel
theorem dX2_hasPlace_16 : decode cX2_hasPlace 16 = .ok (.iconst 0, 1) := by decide +kernel
theorem dX2_hasPlace_17 : decode cX2_hasPlace 17 = .ok (.ireturn, 1) := by decide +kernel
theorem dX2_clear_0 : decode cX2_clear 0 = .ok (.aload_n 0, 1) := by decide +kernel
theorem dX2_clear_1 : decode cX2_clear 1 = .ok (.iconst 0, 1) := by decide +kernel
theorem dX2_clear_2 : decode cX2_clear 2 = .ok (.putfield 27, 3) := by decide +kernel
theorem dX2_clear_5 : decode cX2_clear 5 = .ok (.aload_n 0, 1) := by decide +kernel
theorem dX2_clear_6 : decode cX2_clear 6 = .ok (.iconst 0, 1) := by decide +kernel
theorem dX2_clear_7 : decode cX2_clear 7 = .ok (.putfield 31, 3) := by decide +kernel
theorem dX2_clear_10 : decode cX2_clear 10 = .ok (.return_, 1) := by decide +kernel
theorem dX2_addPleat_0 : decode cX2_addPleat 0 = .ok (.aload_n 0, 1) := by decide +kernel
theorem dX2_addPleat_1 : decode cX2_addPleat 1 = .ok (.getfield 27, 3) := by decide +kernel
theorem dX2_addPleat_4 : decode cX2_addPleat 4 = .ok (.bipush 10, 2) := by decide +kernel
theorem dX2_addPleat_6 : decode cX2_addPleat 6 = .ok (.if_icmp .ge 33, 3) := by decide +kernel
theorem dX2_addPleat_9 : decode cX2_addPleat 9 = .ok (.aload_n 0, 1) := by decide +kernel
theorem dX2_addPleat_10 : decode cX2_addPleat 10 = .ok (.getfield 9, 3) := by decide +kernel
theorem dX2_addPleat_13 : decode cX2_addPleat 13 = .ok (.aload_n 0, 1) := by decide +kernel
theorem dX2_addPleat_14 : decode cX2_addPleat 14 = .ok (.getfield 27, 3) := by decide +kernel
theorem dX2_addPleat_17 : decode cX2_addPleat 17 = .ok (.iload_n 1, 1) := by decide +kernel
theorem dX2_addPleat_18 : decode cX2_addPleat 18 = .ok (.iastore, 1) := by decide +kernel
theorem dX2_addPleat_19 : decode cX2_addPleat 19 = .ok (.aload_n 0, 1) := by decide +kernel
theorem dX2_addPleat_20 : decode cX2_addPleat 20 = .ok (.getfield 15, 3) := by decide +kernel
theorem dX2_addPleat_23 : decode cX2_addPleat 23 = .ok (.aload_n 0, 1) := by decide +kernel
theorem dX2_addPleat_24 : decode cX2_addPleat 24 = .ok (.getfield 27, 3) := by decide +kernel
theorem dX2_addPleat_27 : decode cX2_addPleat 27 = .ok (.iload_n 2, 1) := by decide +kernel
theorem dX2_addPleat_28 : decode cX2_addPleat 28 = .ok (.iastore, 1) := by decide +kernel
theorem dX2_addPleat_29 : decode cX2_addPleat 29 = .ok (.aload_n 0, 1) := by decide +kernel
theorem dX2_addPleat_30 : decode cX2_addPleat 30 = .ok (.dup, 1) := by decide +kernel
theorem dX2_addPleat_31 : decode cX2_addPleat 31 = .ok (.getfield 27, 3) := by decide +kernel
theorem dX2_addPleat_34 : decode cX2_addPleat 34 = .ok (.iconst 1, 1) := by decide +kernel
theorem dX2_addPleat_35 : decode cX2_addPleat 35 = .ok (.iadd, 1) := by decide +kernel
theorem dX2_addPleat_36 : decode cX2_addPleat 36 = .ok (.putfield 27, 3) := by decide +kernel
theorem dX2_addPleat_39 : decode cX2_addPleat 39 = .ok (.return_, 1) := by decide +kernel
theorem dX2_addTraveller_0 : decode cX2_addTraveller 0 = .ok (.aload_n 0, 1) := by decide +kernel
theorem dX2_addTraveller_1 : decode cX2_addTraveller 1 = .ok (.getfield 31, 3) := by decide +kernel
theorem dX2_addTraveller_4 : decode cX2_addTraveller 4 = .ok (.iconst 5, 1) := by decide +kernel
theorem dX2_addTraveller_5 : decode cX2_addTraveller 5 = .ok (.if_icmp .ge 43, 3) := by decide +kernel
theorem dX2_addTraveller_8 : decode cX2_addTraveller 8 = .ok (.aload_n 0, 1) := by decide +kernel
theorem dX2_addTraveller_9 : decode cX2_addTraveller 9 = .ok (.getfield 18, 3) := by decide +kernel
theorem dX2_addTraveller_12 : decode cX2_addTraveller 12 = .ok (.aload_n 0, 1) := by decide +kernel
theorem dX2_addTraveller_13 : decode cX2_addTraveller 13 = .ok (.getfield 31, 3) := by decide +kernel
theorem dX2_addTraveller_16 : decode cX2_addTraveller 16 = .ok (.iload_n 1, 1) := by decide +kernel
theorem dX2_addTraveller_17 : decode cX2_addTraveller 17 = .ok (.iastore, 1) := by decide +kernel
theorem dX2_addTraveller_18 : decode cX2_addTraveller 18 = .ok (.aload_n 0, 1) := by decide +kernel
theorem dX2_addTraveller_19 : decode cX2_addTraveller 19 = .ok (.getfield 21, 3) := by decide +kernel
theorem dX2_addTraveller_22 : decode cX2_addTraveller 22 = .ok (.aload_n 0, 1) := by decide +kernel
theorem dX2_addTraveller_23 : decode cX2_addTraveller 23 = .ok (.getfield 31, 3) := by decide +kernel
theorem dX2_addTraveller_26 : decode cX2_addTraveller 26 = .ok (.iload_n 2, 1) := by decide +kernel
theorem dX2_addTraveller_27 : decode cX2_addTraveller 27 = .ok (.iastore, 1) := by decide +kernel
theorem dX2_addTraveller_28 : decode cX2_addTraveller 28 = .ok (.aload_n 0, 1) := by decide +kernel
theorem dX2_addTraveller_29 : decode cX2_addTraveller 29 = .ok (.getfield 24, 3) := by decide +kernel
theorem dX2_addTraveller_32 : decode cX2_addTraveller 32 = .ok (.aload_n 0, 1) := by decide +kernel
theorem dX2_addTraveller_33 : decode cX2_addTraveller 33 = .ok (.getfield 31, 3) := by decide +kernel
theorem dX2_addTraveller_36 : decode cX2_addTraveller 36 = .ok (.iload_n 3, 1) := by decide +kernel
theorem dX2_addTraveller_37 : decode cX2_addTraveller 37 = .ok (.iastore, 1) := by decide +kernel
theorem dX2_addTraveller_38 : decode cX2_addTraveller 38 = .ok (.aload_n 0, 1) := by decide +kernel
theorem dX2_addTraveller_39 : decode cX2_addTraveller 39 = .ok (.dup, 1) := by decide +kernel
theorem dX2_addTraveller_40 : decode cX2_addTraveller 40 = .ok (.getfield 31, 3) := by decide +kernel
theorem dX2_addTraveller_43 : decode cX2_addTraveller 43 = .ok (.iconst 1, 1) := by decide +kernel
theorem dX2_addTraveller_44 : decode cX2_addTraveller 44 = .ok (.iadd, 1) := by decide +kernel
theorem dX2_addTraveller_45 : decode cX2_addTraveller 45 = .ok (.putfield 31, 3) := by decide +kernel
theorem dX2_addTraveller_48 : decode cX2_addTraveller 48 = .ok (.return_, 1) := by decide +kernel
theorem dX2_smoothOnes_0 : decode cX2_smoothOnes 0 = .ok (.iconst 0, 1) := by decide +kernel
theorem dX2_smoothOnes_1 : decode cX2_smoothOnes 1 = .ok (.istore_n 1, 1) := by decide +kernel
theorem dX2_smoothOnes_2 : decode cX2_smoothOnes 2 = .ok (.iconst 0, 1) := by decide +kernel
theorem dX2_smoothOnes_3 : decode cX2_smoothOnes 3 = .ok (.istore_n 2, 1) := by decide +kernel
theorem dX2_smoothOnes_4 : decode cX2_smoothOnes 4 = .ok (.iload_n 2, 1) := by decide +kernel
theorem dX2_smoothOnes_5 : decode cX2_smoothOnes 5 = .ok (.aload_n 0, 1) := by decide +kernel
theorem dX2_smoothOnes_6 : decode cX2_smoothOnes 6 = .ok (.getfield 27, 3) := by decide +kernel
theorem dX2_smoothOnes_9 : decode cX2_smoothOnes 9 = .ok (.if_icmp .ge 29, 3) := by decide +kernel
theorem dX2_smoothOnes_12 : decode cX2_smoothOnes 12 = .ok (.iload_n 1, 1) := by decide +kernel
theorem dX2_smoothOnes_13 : decode cX2_smoothOnes 13 = .ok (.aload_n 0, 1) := by decide +kernel
theorem dX2_smoothOnes_14 : decode cX2_smoothOnes 14 = .ok (.getfield 15, 3) := by decide +kernel
theorem dX2_smoothOnes_17 : decode cX2_smoothOnes 17 = .ok (.iload_n 2, 1) := by decide +kernel
theorem dX2_smoothOnes_18 : decode cX2_smoothOnes 18 = .ok (.iaload, 1) := by decide +kernel
theorem dX2_smoothOnes_19 : decode cX2_smoothOnes 19 = .ok (.iconst 2, 1) := by decide +kernel
theorem dX2_smoothOnes_20 : decode cX2_smoothOnes 20 = .ok (.if_icmp .ne 9, 3) := by decide +kernel
theorem dX2_smoothOnes_23 : decode cX2_smoothOnes 23 = .ok (.iconst 1, 1) := by decide +kernel
theorem dX2_smoothOnes_24 : decode cX2_smoothOnes 24 = .ok (.iload_n 2, 1) := by decide +kernel
theorem dX2_smoothOnes_25 : decode cX2_smoothOnes 25 = .ok (.ishl, 1) := by decide +kernel
theorem dX2_smoothOnes_26 : decode cX2_smoothOnes 26 = .ok (.goto 4, 3) := by decide +kernel
theorem dX2_smoothOnes_29 : decode cX2_smoothOnes 29 = .ok (.iconst 0, 1) := by decide +kernel
theorem dX2_smoothOnes_30 : decode cX2_smoothOnes 30 = .ok (.ior, 1) := by decide +kernel
theorem dX2_smoothOnes_31 : decode cX2_smoothOnes 31 = .ok (.istore_n 1, 1) := by decide +kernel
theorem dX2_smoothOnes_32 : decode cX2_smoothOnes 32 = .ok (.iinc 2 1, 3) := by decide +kernel
theorem dX2_smoothOnes_35 : decode cX2_smoothOnes 35 = .ok (.goto (-31), 3) := by decide +kernel
theorem dX2_smoothOnes_38 : decode cX2_smoothOnes 38 = .ok (.iload_n 1, 1) := by decide +kernel
theorem dX2_smoothOnes_39 : decode cX2_smoothOnes 39 = .ok (.ireturn, 1) := by decide +kernel
theorem dX2_canBeIced_0 : decode cX2_canBeIced 0 = .ok (.iconst 0, 1) := by decide +kernel
theorem dX2_canBeIced_1 : decode cX2_canBeIced 1 = .ok (.istore_n 1, 1) := by decide +kernel
theorem dX2_canBeIced_2 : decode cX2_canBeIced 2 = .ok (.iconst 0, 1) := by decide +kernel
theorem dX2_canBeIced_3 : decode cX2_canBeIced 3 = .ok (.istore_n 2, 1) := by decide +kernel
theorem dX2_canBeIced_4 : decode cX2_canBeIced 4 = .ok (.iload_n 2, 1) := by decide +kernel
theorem dX2_canBeIced_5 : decode cX2_canBeIced 5 = .ok (.aload_n 0, 1) := by decide +kernel
theorem dX2_canBeIced_6 : decode cX2_canBeIced 6 = .ok (.getfield 27, 3) := by decide +kernel
theorem dX2_canBeIced_9 : decode cX2_canBeIced 9 = .ok (.if_icmp .ge 35, 3) := by decide +kernel
theorem dX2_canBeIced_12 : decode cX2_canBeIced 12 = .ok (.iload_n 2, 1) := by decide +kernel
theorem dX2_canBeIced_13 : decode cX2_canBeIced 13 = .ok (.bipush 8, 2) := by decide +kernel
theorem dX2_canBeIced_15 : decode cX2_canBeIced 15 = .ok (.if_icmp .ge 29, 3) := by decide +kernel
theorem dX2_canBeIced_18 : decode cX2_canBeIced 18 = .ok (.iload_n 1, 1) := by decide +kernel
theorem dX2_canBeIced_19 : decode cX2_canBeIced 19 = .ok (.aload_n 0, 1) := by decide +kernel
theorem dX2_canBeIced_20 : decode cX2_canBeIced 20 = .ok (.getfield 15, 3) := by decide +kernel
theorem dX2_canBeIced_23 : decode cX2_canBeIced 23 = .ok (.iload_n 2, 1) := by decide +kernel
theorem dX2_canBeIced_24 : decode cX2_canBeIced 24 = .ok (.iaload, 1) := by decide +kernel
theorem dX2_canBeIced_25 : decode cX2_canBeIced 25 = .ok (.iconst 3, 1) := by decide +kernel
theorem dX2_canBeIced_26 : decode cX2_canBeIced 26 = .ok (.if_icmp .eq 9, 3) := by decide +kernel
theorem dX2_canBeIced_29 : decode cX2_canBeIced 29 = .ok (.iconst 1, 1) := by decide +kernel
theorem dX2_canBeIced_30 : decode cX2_canBeIced 30 = .ok (.iload_n 2, 1) := by decide +kernel
theorem dX2_canBeIced_31 : decode cX2_canBeIced 31 = .ok (.ishl, 1) := by decide +kernel
theorem dX2_canBeIced_32 : decode cX2_canBeIced 32 = .ok (.goto 4, 3) := by decide +kernel
theorem dX2_canBeIced_35 : decode cX2_canBeIced 35 = .ok (.iconst 0, 1) := by decide +kernel
theorem dX2_canBeIced_36 : decode cX2_canBeIced 36 = .ok (.ior, 1) := by decide +kernel
theorem dX2_canBeIced_37 : decode cX2_canBeIced 37 = .ok (.istore_n 1, 1) := by decide +kernel
theorem dX2_canBeIced_38 : decode cX2_canBeIced 38 = .ok (.iinc 2 1, 3) := by decide +kernel
theorem dX2_canBeIced_41 : decode cX2_canBeIced 41 = .ok (.goto (-37), 3) := by decide +kernel
theorem dX2_canBeIced_44 : decode cX2_canBeIced 44 = .ok (.iload_n 1, 1) := by decide +kernel
theorem dX2_canBeIced_45 : decode cX2_canBeIced 45 = .ok (.ireturn, 1) := by decide +kernel
theorem dX2_costShut_0 : decode cX2_costShut 0 = .ok (.aload_n 0, 1) := by decide +kernel
theorem dX2_costShut_1 : decode cX2_costShut 1 = .ok (.getfield 15, 3) := by decide +kernel
theorem dX2_costShut_4 : decode cX2_costShut 4 = .ok (.iload_n 1, 1) := by decide +kernel
theorem dX2_costShut_5 : decode cX2_costShut 5 = .ok (.iaload, 1) := by decide +kernel
theorem dX2_costShut_6 : decode cX2_costShut 6 = .ok (.istore 4, 2) := by decide +kernel
theorem dX2_costShut_8 : decode cX2_costShut 8 = .ok (.iload 4, 2) := by decide +kernel
theorem dX2_costShut_10 : decode cX2_costShut 10 = .ok (.iconst 3, 1) := by decide +kernel
theorem dX2_costShut_11 : decode cX2_costShut 11 = .ok (.if_icmp .ne 5, 3) := by decide +kernel
theorem dX2_costShut_14 : decode cX2_costShut 14 = .ok (.iconst 1, 1) := by decide +kernel
theorem dX2_costShut_15 : decode cX2_costShut 15 = .ok (.ireturn, 1) := by decide +kernel
theorem dX2_costShut_16 : decode cX2_costShut 16 = .ok (.aload_n 0, 1) := by decide +kernel
theorem dX2_costShut_17 : decode cX2_costShut 17 = .ok (.getfield 9, 3) := by decide +kernel
theorem dX2_costShut_20 : decode cX2_costShut 20 = .ok (.iload_n 1, 1) := by decide +kernel
theorem dX2_costShut_21 : decode cX2_costShut 21 = .ok (.iaload, 1) := by decide +kernel
theorem dX2_costShut_22 : decode cX2_costShut 22 = .ok (.iload_n 2, 1) := by decide +kernel
theorem dX2_costShut_23 : decode cX2_costShut 23 = .ok (.iadd, 1) := by decide +kernel
theorem dX2_costShut_24 : decode cX2_costShut 24 = .ok (.istore 5, 2) := by decide +kernel
theorem dX2_costShut_26 : decode cX2_costShut 26 = .ok (.iload 4, 2) := by decide +kernel
theorem dX2_costShut_28 : decode cX2_costShut 28 = .ok (.iconst 1, 1) := by decide +kernel
theorem dX2_costShut_29 : decode cX2_costShut 29 = .ok (.if_icmp .ne 9, 3) := by decide +kernel
theorem dX2_costShut_32 : decode cX2_costShut 32 = .ok (.iload 5, 2) := by decide +kernel
theorem dX2_costShut_34 : decode cX2_costShut 34 = .ok (.iconst 2, 1) := by decide +kernel
theorem dX2_costShut_35 : decode cX2_costShut 35 = .ok (.idiv, 1) := by decide +kernel
theorem dX2_costShut_36 : decode cX2_costShut 36 = .ok (.istore 5, 2) := by decide +kernel
theorem dX2_costShut_38 : decode cX2_costShut 38 = .ok (.iload_n 3, 1) := by decide +kernel
theorem dX2_costShut_39 : decode cX2_costShut 39 = .ok (.iload_n 1, 1) := by decide +kernel
theorem dX2_costShut_40 : decode cX2_costShut 40 = .ok (.ishr, 1) := by decide +kernel
theorem dX2_costShut_41 : decode cX2_costShut 41 = .ok (.iconst 1, 1) := by decide +kernel
theorem dX2_costShut_42 : decode cX2_costShut 42 = .ok (.iand, 1) := by decide +kernel
theorem dX2_costShut_43 : decode cX2_costShut 43 = .ok (.iconst 1, 1) := by decide +kernel
theorem dX2_costShut_44 : decode cX2_costShut 44 = .ok (.if_icmp .ne 6, 3) := by decide +kernel
theorem dX2_costShut_47 : decode cX2_costShut 47 = .ok (.iinc 5 (-2), 3) := by decide +kernel
theorem dX2_costShut_50 : decode cX2_costShut 50 = .ok (.iload 5, 2) := by decide +kernel
theorem dX2_costShut_52 : decode cX2_costShut 52 = .ok (.iconst 1, 1) := by decide +kernel
theorem dX2_costShut_53 : decode cX2_costShut 53 = .ok (.if_icmp .ge 7, 3) := by decide +kernel
theorem dX2_costShut_56 : decode cX2_costShut 56 = .ok (.iconst 1, 1) := by decide +kernel
theorem dX2_costShut_57 : decode cX2_costShut 57 = .ok (.goto 5, 3) := by decide +kernel
theorem dX2_costShut_60 : decode cX2_costShut 60 = .ok (.iload 5, 2) := by decide +kernel
theorem dX2_costShut_62 : decode cX2_costShut 62 = .ok (.ireturn, 1) := by decide +kernel
theorem dX2_tollFor_0 : decode cX2_tollFor 0 = .ok (.iload_n 0, 1) := by decide +kernel
theorem dX2_tollFor_1 : decode cX2_tollFor 1 = .ok (.lookupswitch 35 #[(1, 27), (2, 31)], 27) := by decide +kernel
theorem dX2_tollFor_28 : decode cX2_tollFor 28 = .ok (.iload_n 1, 1) := by decide +kernel
theorem dX2_tollFor_29 : decode cX2_tollFor 29 = .ok (.iconst 2, 1) := by decide +kernel
theorem dX2_tollFor_30 : decode cX2_tollFor 30 = .ok (.idiv, 1) := by decide +kernel
theorem dX2_tollFor_31 : decode cX2_tollFor 31 = .ok (.ireturn, 1) := by decide +kernel
theorem dX2_tollFor_32 : decode cX2_tollFor 32 = .ok (.iload_n 1, 1) := by decide +kernel
theorem dX2_tollFor_33 : decode cX2_tollFor 33 = .ok (.iconst 1, 1) := by decide +kernel
theorem dX2_tollFor_34 : decode cX2_tollFor 34 = .ok (.iadd, 1) := by decide +kernel
theorem dX2_tollFor_35 : decode cX2_tollFor 35 = .ok (.ireturn, 1) := by decide +kernel
theorem dX2_tollFor_36 : decode cX2_tollFor 36 = .ok (.iload_n 1, 1) := by decide +kernel
theorem dX2_tollFor_37 : decode cX2_tollFor 37 = .ok (.ireturn, 1) := by decide +kernel
theorem dX2_windRested_0 : decode cX2_windRested 0 = .ok (.iload_n 1, 1) := by decide +kernel
theorem dX2_windRested_1 : decode cX2_windRested 1 = .ok (.iload_n 0, 1) := by decide +kernel
theorem dX2_windRested_2 : decode cX2_windRested 2 = .ok (.iconst 1, 1) := by decide +kernel
theorem dX2_windRested_3 : decode cX2_windRested 3 = .ok (.iload_n 1, 1) := by decide +kernel
theorem dX2_windRested_4 : decode cX2_windRested 4 = .ok (.iconst 2, 1) := by decide +kernel
theorem dX2_windRested_5 : decode cX2_windRested 5 = .ok (.idiv, 1) := by decide +kernel
theorem dX2_windRested_6 : decode cX2_windRested 6 = .ok (.invokestatic 34, 3) := by decide +kernel
theorem dX2_windRested_9 : decode cX2_windRested 9 = .ok (.iadd, 1) := by decide +kernel
theorem dX2_windRested_10 : decode cX2_windRested 10 = .ok (.invokestatic 40, 3) := by decide +kernel
theorem dX2_windRested_13 : decode cX2_windRested 13 = .ok (.ireturn, 1) := by decide +kernel
theorem dX3_init_0 : decode cX3_init 0 = .ok (.aload_n 0, 1) := by decide +kernel
theorem dX3_init_1 : decode cX3_init 1 = .ok (.invokespecial 3, 3) := by decide +kernel
theorem dX3_init_4 : decode cX3_init 4 = .ok (.aload_n 0, 1) := by decide +kernel
theorem dX3_init_5 : decode cX3_init 5 = .ok (.bipush 52, 2) := by decide +kernel
theorem dX3_init_7 : decode cX3_init 7 = .ok (.newarray .int, 2) := by decide +kernel
theorem dX3_init_9 : decode cX3_init 9 = .ok (.putfield 9, 3) := by decide +kernel
theorem dX3_init_12 : decode cX3_init 12 = .ok (.return_, 1) := by decide +kernel
theorem dX3_append_0 : decode cX3_append 0 = .ok (.aload_n 0, 1) := by decide +kernel
theorem dX3_append_1 : decode cX3_append 1 = .ok (.getfield 15, 3) := by decide +kernel
theorem dX3_append_4 : decode cX3_append 4 = .ok (.bipush 52, 2) := by decide +kernel
theorem dX3_append_6 : decode cX3_append 6 = .ok (.if_icmp .lt 6, 3) := by decide +kernel
theorem dX3_append_9 : decode cX3_append 9 = .ok (.bipush (-4), 2) := by decide +kernel
theorem dX3_append_11 : decode cX3_append 11 = .ok (.ireturn, 1) := by decide +kernel
theorem dX3_append_12 : decode cX3_append 12 = .ok (.aload_n 0, 1) := by decide +kernel
theorem dX3_append_13 : decode cX3_append 13 = .ok (.getfield 9, 3) := by decide +kernel
theorem dX3_append_16 : decode cX3_append 16 = .ok (.aload_n 0, 1) := by decide +kernel
theorem dX3_append_17 : decode cX3_append 17 = .ok (.getfield 15, 3) := by decide +kernel
theorem dX3_append_20 : decode cX3_append 20 = .ok (.iload_n 1, 1) := by decide +kernel
theorem dX3_append_21 : decode cX3_append 21 = .ok (.iastore, 1) := by decide +kernel
theorem dX3_append_22 : decode cX3_append 22 = .ok (.aload_n 0, 1) := by decide +kernel
theorem dX3_append_23 : decode cX3_append 23 = .ok (.dup, 1) := by decide +kernel
theorem dX3_append_24 : decode cX3_append 24 = .ok (.getfield 15, 3) := by decide +kernel
theorem dX3_append_27 : decode cX3_append 27 = .ok (.iconst 1, 1) := by decide +kernel
theorem dX3_append_28 : decode cX3_append 28 = .ok (.iadd, 1) := by decide +kernel
theorem dX3_append_29 : decode cX3_append 29 = .ok (.putfield 15, 3) := by decide +kernel
theorem dX3_append_32 : decode cX3_append 32 = .ok (.aload_n 0, 1) := by decide +kernel
theorem dX3_append_33 : decode cX3_append 33 = .ok (.getfield 15, 3) := by decide +kernel
theorem dX3_append_36 : decode cX3_append 36 = .ok (.ireturn, 1) := by decide +kernel
set_option maxRecDepth 20000 in
theorem ggX3_readInto_X2_clear : GoodIn wsX3_readInto wsX2_clear := goodIn_r _ [7, 8, 9, 52, 53, 54, 55, 56, 57, 58] (by decide +kernel) (by decide +kernel)
set_option maxRecDepth 20000 in
theorem gX3_readInto_X2_clear : GoodIn wsX3_readInto (wsV RX3 19 RX2 yX2_clear wsX2_clear) := goodIn_app (goodIn_of _ (by decide +kernel)) ggX3_readInto_X2_clear
set_option maxRecDepth 20000 in
theorem ggX3_readInto_X3_readPart : GoodIn wsX3_readInto wsX3_readPart := goodIn_r _ [14, 2, 15, 16, 17, 18, 19, 13, 20, 21, 22, 23, 24, 1, 25, 26, 27, 28, 29, 30, 31, 6, 32, 8, 33, 34, 35, 36, 37, 38, 39, 40, 41, 42, 43, 44, 45, 46, 9, 47, 48, 49, 50, 51, 52, 53, 54, 55, 56, 57, 58] (by decide +kernel) (by decide +kernel)
set_option maxRecDepth 20000 in
theorem gX3_readInto_X3_readPart : GoodIn wsX3_readInto (wsV RX3 24 RX3 yX3_readPart wsX3_readPart) := goodIn_app (goodIn_of _ (by decide +kernel)) ggX3_readInto_X3_readPart
theorem dX3_readInto_0 : decode cX3_readInto 0 = .ok (.aload_n 1, 1) := by decide +kernel
theorem dX3_readInto_1 : decode cX3_readInto 1 = .ok (.invokevirtual 19, 3) := by decide +kernel
theorem dX3_readInto_4 : decode cX3_readInto 4 = .ok (.aload_n 0, 1) := by decide +kernel
theorem dX3_readInto_5 : decode cX3_readInto 5 = .ok (.getfield 15, 3) := by decide +kernel
theorem dX3_readInto_8 : decode cX3_readInto 8 = .ok (.ifCond .eq 14, 3) := by decide +kernel
theorem dX3_readInto_11 : decode cX3_readInto 11 = .ok (.aload_n 0, 1) := by decide +kernel
theorem dX3_readInto_12 : decode cX3_readInto 12 = .ok (.getfield 9, 3) := by decide +kernel
theorem dX3_readInto_15 : decode cX3_readInto 15 = .ok (.iconst 0, 1) := by decide +kernel
theorem dX3_readInto_16 : decode cX3_readInto 16 = .ok (.iaload, 1) := by decide +kernel
theorem dX3_readInto_17 : decode cX3_readInto 17 = .ok (.bipush 82, 2) := by decide +kernel
theorem dX3_readInto_19 : decode cX3_readInto 19 = .ok (.if_icmp .eq 5, 3) := by decide +kernel
theorem dX3_readInto_22 : decode cX3_readInto 22 = .ok (.iconst 0, 1) := by decide +kernel
theorem dX3_readInto_23 : decode cX3_readInto 23 = .ok (.ireturn, 1) := by decide +kernel
theorem dX3_readInto_24 : decode cX3_readInto 24 = .ok (.iconst 1, 1) := by decide +kernel
theorem dX3_readInto_25 : decode cX3_readInto 25 = .ok (.istore_n 2, 1) := by decide +kernel
theorem dX3_readInto_26 : decode cX3_readInto 26 = .ok (.iconst 0, 1) := by decide +kernel
theorem dX3_readInto_27 : decode cX3_readInto 27 = .ok (.istore_n 3, 1) := by decide +kernel
theorem dX3_readInto_28 : decode cX3_readInto 28 = .ok (.iload_n 3, 1) := by decide +kernel
theorem dX3_readInto_29 : decode cX3_readInto 29 = .ok (.bipush 52, 2) := by decide +kernel
theorem dX3_readInto_31 : decode cX3_readInto 31 = .ok (.if_icmp .ge 54, 3) := by decide +kernel
theorem dX3_readInto_34 : decode cX3_readInto 34 = .ok (.iload_n 2, 1) := by decide +kernel
theorem dX3_readInto_35 : decode cX3_readInto 35 = .ok (.aload_n 0, 1) := by decide +kernel
theorem dX3_readInto_36 : decode cX3_readInto 36 = .ok (.getfield 15, 3) := by decide +kernel
theorem dX3_readInto_39 : decode cX3_readInto 39 = .ok (.if_icmp .ge 46, 3) := by decide +kernel
theorem dX3_readInto_42 : decode cX3_readInto 42 = .ok (.aload_n 0, 1) := by decide +kernel
theorem dX3_readInto_43 : decode cX3_readInto 43 = .ok (.iload_n 2, 1) := by decide +kernel
theorem dX3_readInto_44 : decode cX3_readInto 44 = .ok (.aload_n 1, 1) := by decide +kernel
theorem dX3_readInto_45 : decode cX3_readInto 45 = .ok (.invokevirtual 24, 3) := by decide +kernel
theorem dX3_readInto_48 : decode cX3_readInto 48 = .ok (.istore 4, 2) := by decide +kernel
theorem dX3_readInto_50 : decode cX3_readInto 50 = .ok (.iload 4, 2) := by decide +kernel
theorem dX3_readInto_52 : decode cX3_readInto 52 = .ok (.bipush (-9), 2) := by decide +kernel
theorem dX3_readInto_54 : decode cX3_readInto 54 = .ok (.if_icmp .eq 6, 3) := by decide +kernel
theorem dX3_readInto_57 : decode cX3_readInto 57 = .ok (.iload 4, 2) := by decide +kernel
theorem dX3_readInto_59 : decode cX3_readInto 59 = .ok (.ireturn, 1) := by decide +kernel
theorem dX3_readInto_60 : decode cX3_readInto 60 = .ok (.iload_n 2, 1) := by decide +kernel
theorem dX3_readInto_61 : decode cX3_readInto 61 = .ok (.aload_n 0, 1) := by decide +kernel
theorem dX3_readInto_62 : decode cX3_readInto 62 = .ok (.getfield 9, 3) := by decide +kernel
theorem dX3_readInto_65 : decode cX3_readInto 65 = .ok (.iload_n 2, 1) := by decide +kernel
theorem dX3_readInto_66 : decode cX3_readInto 66 = .ok (.iaload, 1) := by decide +kernel
theorem dX3_readInto_67 : decode cX3_readInto 67 = .ok (.bipush 70, 2) := by decide +kernel
theorem dX3_readInto_69 : decode cX3_readInto 69 = .ok (.if_icmp .ne 7, 3) := by decide +kernel
theorem dX3_readInto_72 : decode cX3_readInto 72 = .ok (.iconst 3, 1) := by decide +kernel
theorem dX3_readInto_73 : decode cX3_readInto 73 = .ok (.goto 4, 3) := by decide +kernel
theorem dX3_readInto_76 : decode cX3_readInto 76 = .ok (.iconst 4, 1) := by decide +kernel
theorem dX3_readInto_77 : decode cX3_readInto 77 = .ok (.iadd, 1) := by decide +kernel
theorem dX3_readInto_78 : decode cX3_readInto 78 = .ok (.istore_n 2, 1) := by decide +kernel
theorem dX3_readInto_79 : decode cX3_readInto 79 = .ok (.iinc 3 1, 3) := by decide +kernel
theorem dX3_readInto_82 : decode cX3_readInto 82 = .ok (.goto (-54), 3) := by decide +kernel
theorem dX3_readInto_85 : decode cX3_readInto 85 = .ok (.bipush (-9), 2) := by decide +kernel
theorem dX3_readInto_87 : decode cX3_readInto 87 = .ok (.ireturn, 1) := by decide +kernel
set_option maxRecDepth 20000 in
theorem ggX3_readPart_X3_readPleat : GoodIn wsX3_readPart wsX3_readPleat := goodIn_r _ [8, 9, 10, 11, 7, 12, 13, 14, 15, 16, 17, 1, 18, 19, 20, 21, 22, 23, 24, 25, 42, 43, 44, 45, 46, 47, 48, 49, 50] (by decide +kernel) (by decide +kernel)
set_option maxRecDepth 20000 in
theorem gX3_readPart_X3_readPleat : GoodIn wsX3_readPart (wsV RX3 31 RX3 yX3_readPleat wsX3_readPleat) := goodIn_app (goodIn_of _ (by decide +kernel)) ggX3_readPart_X3_readPleat
set_option maxRecDepth 20000 in
theorem ggX3_readPart_X3_readTraveller : GoodIn wsX3_readPart wsX3_readTraveller := goodIn_r _ [29, 2, 30, 31, 32, 33, 9, 10, 11, 7, 12, 13, 14, 15, 16, 17, 1, 34, 35, 36, 21, 37, 38, 39, 40, 41, 44, 45, 46, 47, 48, 49, 50, 42, 43] (by decide +kernel) (by decide +kernel)
set_option maxRecDepth 20000 in
theorem gX3_readPart_X3_readTraveller : GoodIn wsX3_readPart (wsV RX3 37 RX3 yX3_readTraveller wsX3_readTraveller) := goodIn_app (goodIn_of _ (by decide +kernel)) ggX3_readPart_X3_readTraveller
theorem dX3_readPart_0 : decode cX3_readPart 0 = .ok (.aload_n 0, 1) := by decide +kernel
theorem dX3_readPart_1 : decode cX3_readPart 1 = .ok (.getfield 9, 3) := by decide +kernel
theorem dX3_readPart_4 : decode cX3_readPart 4 = .ok (.iload_n 1, 1) := by decide +kernel
theorem dX3_readPart_5 : decode cX3_readPart 5 = .ok (.iaload, 1) := by decide +kernel
theorem dX3_readPart_6 : decode cX3_readPart 6 = .ok (.bipush 70, 2) := by decide +kernel
theorem dX3_readPart_8 : decode cX3_readPart 8 = .ok (.if_icmp .ne 19, 3) := by decide +kernel
theorem dX3_readPart_11 : decode cX3_readPart 11 = .ok (.aload_n 2, 1) := by decide +kernel
theorem dX3_readPart_12 : decode cX3_readPart 12 = .ok (.getfield 28, 3) := by decide +kernel
theorem dX3_readPart_15 : decode cX3_readPart 15 = .ok (.bipush 10, 2) := by decide +kernel
theorem dX3_readPart_17 : decode cX3_readPart 17 = .ok (.if_icmp .ge 10, 3) := by decide +kernel
theorem dX3_readPart_20 : decode cX3_readPart 20 = .ok (.aload_n 0, 1) := by decide +kernel
theorem dX3_readPart_21 : decode cX3_readPart 21 = .ok (.iload_n 1, 1) := by decide +kernel
theorem dX3_readPart_22 : decode cX3_readPart 22 = .ok (.aload_n 2, 1) := by decide +kernel
theorem dX3_readPart_23 : decode cX3_readPart 23 = .ok (.invokevirtual 31, 3) := by decide +kernel
theorem dX3_readPart_26 : decode cX3_readPart 26 = .ok (.ireturn, 1) := by decide +kernel
theorem dX3_readPart_27 : decode cX3_readPart 27 = .ok (.aload_n 0, 1) := by decide +kernel
theorem dX3_readPart_28 : decode cX3_readPart 28 = .ok (.getfield 9, 3) := by decide +kernel
theorem dX3_readPart_31 : decode cX3_readPart 31 = .ok (.iload_n 1, 1) := by decide +kernel
theorem dX3_readPart_32 : decode cX3_readPart 32 = .ok (.iaload, 1) := by decide +kernel
theorem dX3_readPart_33 : decode cX3_readPart 33 = .ok (.bipush 84, 2) := by decide +kernel
theorem dX3_readPart_35 : decode cX3_readPart 35 = .ok (.if_icmp .ne 18, 3) := by decide +kernel
theorem dX3_readPart_38 : decode cX3_readPart 38 = .ok (.aload_n 2, 1) := by decide +kernel
theorem dX3_readPart_39 : decode cX3_readPart 39 = .ok (.getfield 34, 3) := by decide +kernel
theorem dX3_readPart_42 : decode cX3_readPart 42 = .ok (.iconst 5, 1) := by decide +kernel
theorem dX3_readPart_43 : decode cX3_readPart 43 = .ok (.if_icmp .ge 10, 3) := by decide +kernel
theorem dX3_readPart_46 : decode cX3_readPart 46 = .ok (.aload_n 0, 1) := by decide +kernel
theorem dX3_readPart_47 : decode cX3_readPart 47 = .ok (.iload_n 1, 1) := by decide +kernel
theorem dX3_readPart_48 : decode cX3_readPart 48 = .ok (.aload_n 2, 1) := by decide +kernel
theorem dX3_readPart_49 : decode cX3_readPart 49 = .ok (.invokevirtual 37, 3) := by decide +kernel
theorem dX3_readPart_52 : decode cX3_readPart 52 = .ok (.ireturn, 1) := by decide +kernel
theorem dX3_readPart_53 : decode cX3_readPart 53 = .ok (.iload_n 1, 1) := by decide +kernel
theorem dX3_readPart_54 : decode cX3_readPart 54 = .ok (.ireturn, 1) := by decide +kernel
set_option maxRecDepth 20000 in
theorem ggX3_readPleat_X3_figureFault : GoodIn wsX3_readPleat wsX3_figureFault := goodIn_r _ [5, 6, 7, 8, 9, 4, 10, 11, 20, 21] (by decide +kernel) (by decide +kernel)
set_option maxRecDepth 20000 in
theorem gX3_readPleat_X3_figureFault : GoodIn wsX3_readPleat (wsV RX3 40 RX3 yX3_figureFault wsX3_figureFault) := goodIn_app (goodIn_of _ (by decide +kernel)) ggX3_readPleat_X3_figureFault
set_option maxRecDepth 20000 in
theorem ggX3_readPleat_X3_figure : GoodIn wsX3_readPleat wsX3_figure := goodIn_r _ [10, 11, 20, 21] (by decide +kernel) (by decide +kernel)
set_option maxRecDepth 20000 in
theorem gX3_readPleat_X3_figure : GoodIn wsX3_readPleat (wsV RX3 44 RX3 yX3_figure wsX3_figure) := goodIn_app (goodIn_of _ (by decide +kernel)) ggX3_readPleat_X3_figure
set_option maxRecDepth 20000 in
theorem ggX3_readPleat_X2_addPleat : GoodIn wsX3_readPleat wsX2_addPleat := goodIn_r _ [16, 17, 18, 19, 22, 23, 24, 25, 26, 27, 28] (by decide +kernel) (by decide +kernel)
set_option maxRecDepth 20000 in
theorem gX3_readPleat_X2_addPleat : GoodIn wsX3_readPleat (wsV RX3 48 RX2 yX2_addPleat wsX2_addPleat) := goodIn_app (goodIn_of _ (by decide +kernel)) ggX3_readPleat_X2_addPleat
theorem dX3_readPleat_0 : decode cX3_readPleat 0 = .ok (.aload_n 0, 1) := by decide +kernel
theorem dX3_readPleat_1 : decode cX3_readPleat 1 = .ok (.iload_n 1, 1) := by decide +kernel
theorem dX3_readPleat_2 : decode cX3_readPleat 2 = .ok (.iconst 1, 1) := by decide +kernel
theorem dX3_readPleat_3 : decode cX3_readPleat 3 = .ok (.iadd, 1) := by decide +kernel
theorem dX3_readPleat_4 : decode cX3_readPleat 4 = .ok (.iconst 1, 1) := by decide +kernel
theorem dX3_readPleat_5 : decode cX3_readPleat 5 = .ok (.bipush 9, 2) := by decide +kernel
theorem dX3_readPleat_7 : decode cX3_readPleat 7 = .ok (.invokevirtual 40, 3) := by decide +kernel
theorem dX3_readPleat_10 : decode cX3_readPleat 10 = .ok (.istore_n 3, 1) := by decide +kernel
theorem dX3_readPleat_11 : decode cX3_readPleat 11 = .ok (.iload_n 3, 1) := by decide +kernel
theorem dX3_readPleat_12 : decode cX3_readPleat 12 = .ok (.bipush (-9), 2) := by decide +kernel
theorem dX3_readPleat_14 : decode cX3_readPleat 14 = .ok (.if_icmp .ne 13, 3) := by decide +kernel
theorem dX3_readPleat_17 : decode cX3_readPleat 17 = .ok (.aload_n 0, 1) := by decide +kernel
theorem dX3_readPleat_18 : decode cX3_readPleat 18 = .ok (.iload_n 1, 1) := by decide +kernel
theorem dX3_readPleat_19 : decode cX3_readPleat 19 = .ok (.iconst 2, 1) := by decide +kernel
theorem dX3_readPleat_20 : decode cX3_readPleat 20 = .ok (.iadd, 1) := by decide +kernel
theorem dX3_readPleat_21 : decode cX3_readPleat 21 = .ok (.iconst 0, 1) := by decide +kernel
theorem dX3_readPleat_22 : decode cX3_readPleat 22 = .ok (.iconst 3, 1) := by decide +kernel
theorem dX3_readPleat_23 : decode cX3_readPleat 23 = .ok (.invokevirtual 40, 3) := by decide +kernel
theorem dX3_readPleat_26 : decode cX3_readPleat 26 = .ok (.istore_n 3, 1) := by decide +kernel
theorem dX3_readPleat_27 : decode cX3_readPleat 27 = .ok (.iload_n 3, 1) := by decide +kernel
theorem dX3_readPleat_28 : decode cX3_readPleat 28 = .ok (.bipush (-9), 2) := by decide +kernel
theorem dX3_readPleat_30 : decode cX3_readPleat 30 = .ok (.if_icmp .ne 21, 3) := by decide +kernel
theorem dX3_readPleat_33 : decode cX3_readPleat 33 = .ok (.aload_n 2, 1) := by decide +kernel
theorem dX3_readPleat_34 : decode cX3_readPleat 34 = .ok (.aload_n 0, 1) := by decide +kernel
theorem dX3_readPleat_35 : decode cX3_readPleat 35 = .ok (.iload_n 1, 1) := by decide +kernel
theorem dX3_readPleat_36 : decode cX3_readPleat 36 = .ok (.iconst 1, 1) := by decide +kernel
theorem dX3_readPleat_37 : decode cX3_readPleat 37 = .ok (.iadd, 1) := by decide +kernel
theorem dX3_readPleat_38 : decode cX3_readPleat 38 = .ok (.invokevirtual 44, 3) := by decide +kernel
theorem dX3_readPleat_41 : decode cX3_readPleat 41 = .ok (.aload_n 0, 1) := by decide +kernel
theorem dX3_readPleat_42 : decode cX3_readPleat 42 = .ok (.iload_n 1, 1) := by decide +kernel
theorem dX3_readPleat_43 : decode cX3_readPleat 43 = .ok (.iconst 2, 1) := by decide +kernel
theorem dX3_readPleat_44 : decode cX3_readPleat 44 = .ok (.iadd, 1) := by decide +kernel
theorem dX3_readPleat_45 : decode cX3_readPleat 45 = .ok (.invokevirtual 44, 3) := by decide +kernel
theorem dX3_readPleat_48 : decode cX3_readPleat 48 = .ok (.invokevirtual 48, 3) := by decide +kernel
theorem dX3_readPleat_51 : decode cX3_readPleat 51 = .ok (.iload_n 3, 1) := by decide +kernel
theorem dX3_readPleat_52 : decode cX3_readPleat 52 = .ok (.ireturn, 1) := by decide +kernel
set_option maxRecDepth 20000 in
theorem ggX3_readTraveller_X3_figureFault : GoodIn wsX3_readTraveller wsX3_figureFault := goodIn_r _ [10, 11, 12, 13, 14, 9, 15, 16, 33, 34] (by decide +kernel) (by decide +kernel)
set_option maxRecDepth 20000 in
theorem gX3_readTraveller_X3_figureFault : GoodIn wsX3_readTraveller (wsV RX3 40 RX3 yX3_figureFault wsX3_figureFault) := goodIn_app (goodIn_of _ (by decide +kernel)) ggX3_readTraveller_X3_figureFault
set_option maxRecDepth 20000 in
theorem ggX3_readTraveller_X3_figure : GoodIn wsX3_readTraveller wsX3_figure := goodIn_r _ [15, 16, 33, 34] (by decide +kernel) (by decide +kernel)
set_option maxRecDepth 20000 in
theorem gX3_readTraveller_X3_figure : GoodIn wsX3_readTraveller (wsV RX3 44 RX3 yX3_figure wsX3_figure) := goodIn_app (goodIn_of _ (by decide +kernel)) ggX3_readTraveller_X3_figure
set_option maxRecDepth 20000 in
theorem ggX3_readTraveller_X2_addTraveller : GoodIn wsX3_readTraveller wsX2_addTraveller := goodIn_r _ [21, 22, 23, 24, 25, 26, 27, 28, 29, 30, 31, 32] (by decide +kernel) (by decide +kernel)
set_option maxRecDepth 20000 in
theorem gX3_readTraveller_X2_addTraveller : GoodIn wsX3_readTraveller (wsV RX3 58 RX2 yX2_addTraveller wsX2_addTraveller) := goodIn_app (goodIn_of _ (by decide +kernel)) ggX3_readTraveller_X2_addTraveller
theorem dX3_readTraveller_0 : decode cX3_readTraveller 0 = .ok (.aload_n 0, 1) := by decide +kernel
theorem dX3_readTraveller_1 : decode cX3_readTraveller 1 = .ok (.iload_n 1, 1) := by decide +kernel
theorem dX3_readTraveller_2 : decode cX3_readTraveller 2 = .ok (.iconst 1, 1) := by decide +kernel
theorem dX3_readTraveller_3 : decode cX3_readTraveller 3 = .ok (.iadd, 1) := by decide +kernel
theorem dX3_readTraveller_4 : decode cX3_readTraveller 4 = .ok (.iconst 0, 1) := by decide +kernel
theorem dX3_readTraveller_5 : decode cX3_readTraveller 5 = .ok (.bipush 9, 2) := by decide +kernel
theorem dX3_readTraveller_7 : decode cX3_readTraveller 7 = .ok (.aload_n 2, 1) := by decide +kernel
theorem dX3_readTraveller_8 : decode cX3_readTraveller 8 = .ok (.getfield 28, 3) := by decide +kernel
theorem dX3_readTraveller_11 : decode cX3_readTraveller 11 = .ok (.invokestatic 52, 3) := by decide +kernel
theorem dX3_readTraveller_14 : decode cX3_readTraveller 14 = .ok (.invokevirtual 40, 3) := by decide +kernel
theorem dX3_readTraveller_17 : decode cX3_readTraveller 17 = .ok (.istore_n 3, 1) := by decide +kernel
theorem dX3_readTraveller_18 : decode cX3_readTraveller 18 = .ok (.iload_n 3, 1) := by decide +kernel
theorem dX3_readTraveller_19 : decode cX3_readTraveller 19 = .ok (.bipush (-9), 2) := by decide +kernel
theorem dX3_readTraveller_21 : decode cX3_readTraveller 21 = .ok (.if_icmp .ne 14, 3) := by decide +kernel
theorem dX3_readTraveller_24 : decode cX3_readTraveller 24 = .ok (.aload_n 0, 1) := by decide +kernel
theorem dX3_readTraveller_25 : decode cX3_readTraveller 25 = .ok (.iload_n 1, 1) := by decide +kernel
theorem dX3_readTraveller_26 : decode cX3_readTraveller 26 = .ok (.iconst 2, 1) := by decide +kernel
theorem dX3_readTraveller_27 : decode cX3_readTraveller 27 = .ok (.iadd, 1) := by decide +kernel
theorem dX3_readTraveller_28 : decode cX3_readTraveller 28 = .ok (.iconst 1, 1) := by decide +kernel
theorem dX3_readTraveller_29 : decode cX3_readTraveller 29 = .ok (.bipush 9, 2) := by decide +kernel
theorem dX3_readTraveller_31 : decode cX3_readTraveller 31 = .ok (.invokevirtual 40, 3) := by decide +kernel
theorem dX3_readTraveller_34 : decode cX3_readTraveller 34 = .ok (.istore_n 3, 1) := by decide +kernel
theorem dX3_readTraveller_35 : decode cX3_readTraveller 35 = .ok (.iload_n 3, 1) := by decide +kernel
theorem dX3_readTraveller_36 : decode cX3_readTraveller 36 = .ok (.bipush (-9), 2) := by decide +kernel
theorem dX3_readTraveller_38 : decode cX3_readTraveller 38 = .ok (.if_icmp .ne 13, 3) := by decide +kernel
theorem dX3_readTraveller_41 : decode cX3_readTraveller 41 = .ok (.aload_n 0, 1) := by decide +kernel
theorem dX3_readTraveller_42 : decode cX3_readTraveller 42 = .ok (.iload_n 1, 1) := by decide +kernel
theorem dX3_readTraveller_43 : decode cX3_readTraveller 43 = .ok (.iconst 3, 1) := by decide +kernel
theorem dX3_readTraveller_44 : decode cX3_readTraveller 44 = .ok (.iadd, 1) := by decide +kernel
theorem dX3_readTraveller_45 : decode cX3_readTraveller 45 = .ok (.iconst 0, 1) := by decide +kernel
theorem dX3_readTraveller_46 : decode cX3_readTraveller 46 = .ok (.iconst 3, 1) := by decide +kernel
theorem dX3_readTraveller_47 : decode cX3_readTraveller 47 = .ok (.invokevirtual 40, 3) := by decide +kernel
theorem dX3_readTraveller_50 : decode cX3_readTraveller 50 = .ok (.istore_n 3, 1) := by decide +kernel
theorem dX3_readTraveller_51 : decode cX3_readTraveller 51 = .ok (.iload_n 3, 1) := by decide +kernel
theorem dX3_readTraveller_52 : decode cX3_readTraveller 52 = .ok (.bipush (-9), 2) := by decide +kernel
theorem dX3_readTraveller_54 : decode cX3_readTraveller 54 = .ok (.if_icmp .ne 28, 3) := by decide +kernel
theorem dX3_readTraveller_57 : decode cX3_readTraveller 57 = .ok (.aload_n 2, 1) := by decide +kernel
theorem dX3_readTraveller_58 : decode cX3_readTraveller 58 = .ok (.aload_n 0, 1) := by decide +kernel
theorem dX3_readTraveller_59 : decode cX3_readTraveller 59 = .ok (.iload_n 1, 1) := by decide +kernel
theorem dX3_readTraveller_60 : decode cX3_readTraveller 60 = .ok (.iconst 1, 1) := by decide +kernel
theorem dX3_readTraveller_61 : decode cX3_readTraveller 61 = .ok (.iadd, 1) := by decide +kernel
theorem dX3_readTraveller_62 : decode cX3_readTraveller 62 = .ok (.invokevirtual 44, 3) := by decide +kernel
theorem dX3_readTraveller_65 : decode cX3_readTraveller 65 = .ok (.aload_n 0, 1) := by decide +kernel
theorem dX3_readTraveller_66 : decode cX3_readTraveller 66 = .ok (.iload_n 1, 1) := by decide +kernel
theorem dX3_readTraveller_67 : decode cX3_readTraveller 67 = .ok (.iconst 2, 1) := by decide +kernel
theorem dX3_readTraveller_68 : decode cX3_readTraveller 68 = .ok (.iadd, 1) := by decide +kernel
theorem dX3_readTraveller_69 : decode cX3_readTraveller 69 = .ok (.invokevirtual 44, 3) := by decide +kernel
theorem dX3_readTraveller_72 : decode cX3_readTraveller 72 = .ok (.aload_n 0, 1) := by decide +kernel
theorem dX3_readTraveller_73 : decode cX3_readTraveller 73 = .ok (.iload_n 1, 1) := by decide +kernel
theorem dX3_readTraveller_74 : decode cX3_readTraveller 74 = .ok (.iconst 3, 1) := by decide +kernel
theorem dX3_readTraveller_75 : decode cX3_readTraveller 75 = .ok (.iadd, 1) := by decide +kernel
theorem dX3_readTraveller_76 : decode cX3_readTraveller 76 = .ok (.invokevirtual 44, 3) := by decide +kernel
theorem dX3_readTraveller_79 : decode cX3_readTraveller 79 = .ok (.invokevirtual 58, 3) := by decide +kernel
theorem dX3_readTraveller_82 : decode cX3_readTraveller 82 = .ok (.iload_n 3, 1) := by decide +kernel
theorem dX3_readTraveller_83 : decode cX3_readTraveller 83 = .ok (.ireturn, 1) := by decide +kernel
set_option maxRecDepth 20000 in
theorem ggX3_figureFault_X3_figure : GoodIn wsX3_figureFault wsX3_figure := goodIn_r _ [6, 7, 8, 9] (by decide +kernel) (by decide +kernel)
set_option maxRecDepth 20000 in
theorem gX3_figureFault_X3_figure : GoodIn wsX3_figureFault (wsV RX3 44 RX3 yX3_figure wsX3_figure) := goodIn_app (goodIn_of _ (by decide +kernel)) ggX3_figureFault_X3_figure
theorem dX3_figureFault_0 : decode cX3_figureFault 0 = .ok (.iload_n 1, 1) := by decide +kernel
theorem dX3_figureFault_1 : decode cX3_figureFault 1 = .ok (.aload_n 0, 1) := by decide +kernel
theorem dX3_figureFault_2 : decode cX3_figureFault 2 = .ok (.getfield 15, 3) := by decide +kernel
theorem dX3_figureFault_5 : decode cX3_figureFault 5 = .ok (.if_icmp .lt 8, 3) := by decide +kernel
theorem dX3_figureFault_8 : decode cX3_figureFault 8 = .ok (.aload_n 0, 1) := by decide +kernel
theorem dX3_figureFault_9 : decode cX3_figureFault 9 = .ok (.getfield 15, 3) := by decide +kernel
theorem dX3_figureFault_12 : decode cX3_figureFault 12 = .ok (.ireturn, 1) := by decide +kernel
theorem dX3_figureFault_13 : decode cX3_figureFault 13 = .ok (.aload_n 0, 1) := by decide +kernel
theorem dX3_figureFault_14 : decode cX3_figureFault 14 = .ok (.iload_n 1, 1) := by decide +kernel
theorem dX3_figureFault_15 : decode cX3_figureFault 15 = .ok (.invokevirtual 44, 3) := by decide +kernel
theorem dX3_figureFault_18 : decode cX3_figureFault 18 = .ok (.iload_n 2, 1) := by decide +kernel
theorem dX3_figureFault_19 : decode cX3_figureFault 19 = .ok (.if_icmp .lt 17, 3) := by decide +kernel
theorem dX3_figureFault_22 : decode cX3_figureFault 22 = .ok (.aload_n 0, 1) := by decide +kernel
theorem dX3_figureFault_23 : decode cX3_figureFault 23 = .ok (.iload_n 1, 1) := by decide +kernel
theorem dX3_figureFault_24 : decode cX3_figureFault 24 = .ok (.invokevirtual 44, 3) := by decide +kernel
theorem dX3_figureFault_27 : decode cX3_figureFault 27 = .ok (.iload_n 3, 1) := by decide +kernel
theorem dX3_figureFault_28 : decode cX3_figureFault 28 = .ok (.if_icmp .gt 8, 3) := by decide +kernel
theorem dX3_figureFault_31 : decode cX3_figureFault 31 = .ok (.bipush (-9), 2) := by decide +kernel
theorem dX3_figureFault_33 : decode cX3_figureFault 33 = .ok (.goto 4, 3) := by decide +kernel
theorem dX3_figureFault_36 : decode cX3_figureFault 36 = .ok (.iload_n 1, 1) := by decide +kernel
theorem dX3_figureFault_37 : decode cX3_figureFault 37 = .ok (.ireturn, 1) := by decide +kernel
theorem dX3_figure_0 : decode cX3_figure 0 = .ok (.iload_n 1, 1) := by decide +kernel
theorem dX3_figure_1 : decode cX3_figure 1 = .ok (.ifCond .lt 21, 3) := by decide +kernel
theorem dX3_figure_4 : decode cX3_figure 4 = .ok (.iload_n 1, 1) := by decide +kernel
theorem dX3_figure_5 : decode cX3_figure 5 = .ok (.bipush 52, 2) := by decide +kernel
theorem dX3_figure_7 : decode cX3_figure 7 = .ok (.if_icmp .ge 15, 3) := by decide +kernel
theorem dX3_figure_10 : decode cX3_figure 10 = .ok (.aload_n 0, 1) := by decide +kernel
theorem dX3_figure_11 : decode cX3_figure 11 = .ok (.getfield 9, 3) := by decide +kernel
theorem dX3_figure_14 : decode cX3_figure 14 = .ok (.iload_n 1, 1) := by decide +kernel
theorem dX3_figure_15 : decode cX3_figure 15 = .ok (.iaload, 1) := by decide +kernel
theorem dX3_figure_16 : decode cX3_figure 16 = .ok (.bipush 48, 2) := by decide +kernel
theorem dX3_figure_18 : decode cX3_figure 18 = .ok (.isub, 1) := by decide +kernel
theorem dX3_figure_19 : decode cX3_figure 19 = .ok (.goto 4, 3) := by decide +kernel
theorem dX3_figure_22 : decode cX3_figure 22 = .ok (.iconst (-1), 1) := by decide +kernel
theorem dX3_figure_23 : decode cX3_figure 23 = .ok (.ireturn, 1) := by decide +kernel
theorem dX4_init_0 : decode cX4_init 0 = .ok (.aload_n 0, 1) := by decide +kernel
theorem dX4_init_1 : decode cX4_init 1 = .ok (.invokespecial 3, 3) := by decide +kernel
theorem dX4_init_4 : decode cX4_init 4 = .ok (.aload_n 0, 1) := by decide +kernel
theorem dX4_init_5 : decode cX4_init 5 = .ok (.iconst 5, 1) := by decide +kernel
theorem dX4_init_6 : decode cX4_init 6 = .ok (.newarray .int, 2) := by decide +kernel
theorem dX4_init_8 : decode cX4_init 8 = .ok (.putfield 9, 3) := by decide +kernel
theorem dX4_init_11 : decode cX4_init 11 = .ok (.aload_n 0, 1) := by decide +kernel
theorem dX4_init_12 : decode cX4_init 12 = .ok (.iconst 5, 1) := by decide +kernel
theorem dX4_init_13 : decode cX4_init 13 = .ok (.newarray .int, 2) := by decide +kernel
theorem dX4_init_15 : decode cX4_init 15 = .ok (.putfield 15, 3) := by decide +kernel
theorem dX4_init_18 : decode cX4_init 18 = .ok (.aload_n 0, 1) := by decide +kernel
theorem dX4_init_19 : decode cX4_init 19 = .ok (.aload_n 1, 1) := by decide +kernel
theorem dX4_init_20 : decode cX4_init 20 = .ok (.putfield 18, 3) := by decide +kernel
theorem dX4_init_23 : decode cX4_init 23 = .ok (.return_, 1) := by decide +kernel
set_option maxRecDepth 20000 in
theorem ggX4_begin_X2_smoothOnes : GoodIn wsX4_begin wsX2_smoothOnes := goodIn_r _ [15, 16, 17, 25, 26, 27, 28, 29, 30, 31] (by decide +kernel) (by decide +kernel)
set_option maxRecDepth 20000 in
theorem gX4_begin_X2_smoothOnes : GoodIn wsX4_begin (wsV RX4 34 RX2 yX2_smoothOnes wsX2_smoothOnes) := goodIn_app (goodIn_of _ (by decide +kernel)) ggX4_begin_X2_smoothOnes
theorem dX4_begin_0 : decode cX4_begin 0 = .ok (.iconst 0, 1) := by decide +kernel
theorem dX4_begin_1 : decode cX4_begin 1 = .ok (.istore_n 1, 1) := by decide +kernel
theorem dX4_begin_2 : decode cX4_begin 2 = .ok (.iload_n 1, 1) := by decide +kernel
theorem dX4_begin_3 : decode cX4_begin 3 = .ok (.aload_n 0, 1) := by decide +kernel
theorem dX4_begin_4 : decode cX4_begin 4 = .ok (.getfield 18, 3) := by decide +kernel
theorem dX4_begin_7 : decode cX4_begin 7 = .ok (.getfield 22, 3) := by decide +kernel
theorem dX4_begin_10 : decode cX4_begin 10 = .ok (.if_icmp .ge 39, 3) := by decide +kernel
theorem dX4_begin_13 : decode cX4_begin 13 = .ok (.aload_n 0, 1) := by decide +kernel
theorem dX4_begin_14 : decode cX4_begin 14 = .ok (.getfield 9, 3) := by decide +kernel
theorem dX4_begin_17 : decode cX4_begin 17 = .ok (.iload_n 1, 1) := by decide +kernel
theorem dX4_begin_18 : decode cX4_begin 18 = .ok (.aload_n 0, 1) := by decide +kernel
theorem dX4_begin_19 : decode cX4_begin 19 = .ok (.getfield 18, 3) := by decide +kernel
theorem dX4_begin_22 : decode cX4_begin 22 = .ok (.getfield 28, 3) := by decide +kernel
theorem dX4_begin_25 : decode cX4_begin 25 = .ok (.iload_n 1, 1) := by decide +kernel
theorem dX4_begin_26 : decode cX4_begin 26 = .ok (.iaload, 1) := by decide +kernel
theorem dX4_begin_27 : decode cX4_begin 27 = .ok (.iastore, 1) := by decide +kernel
theorem dX4_begin_28 : decode cX4_begin 28 = .ok (.aload_n 0, 1) := by decide +kernel
theorem dX4_begin_29 : decode cX4_begin 29 = .ok (.getfield 15, 3) := by decide +kernel
theorem dX4_begin_32 : decode cX4_begin 32 = .ok (.iload_n 1, 1) := by decide +kernel
theorem dX4_begin_33 : decode cX4_begin 33 = .ok (.aload_n 0, 1) := by decide +kernel
theorem dX4_begin_34 : decode cX4_begin 34 = .ok (.getfield 18, 3) := by decide +kernel
theorem dX4_begin_37 : decode cX4_begin 37 = .ok (.getfield 31, 3) := by decide +kernel
theorem dX4_begin_40 : decode cX4_begin 40 = .ok (.iload_n 1, 1) := by decide +kernel
theorem dX4_begin_41 : decode cX4_begin 41 = .ok (.iaload, 1) := by decide +kernel
theorem dX4_begin_42 : decode cX4_begin 42 = .ok (.iastore, 1) := by decide +kernel
theorem dX4_begin_43 : decode cX4_begin 43 = .ok (.iinc 1 1, 3) := by decide +kernel
theorem dX4_begin_46 : decode cX4_begin 46 = .ok (.goto (-44), 3) := by decide +kernel
theorem dX4_begin_49 : decode cX4_begin 49 = .ok (.aload_n 0, 1) := by decide +kernel
theorem dX4_begin_50 : decode cX4_begin 50 = .ok (.aload_n 0, 1) := by decide +kernel
theorem dX4_begin_51 : decode cX4_begin 51 = .ok (.getfield 18, 3) := by decide +kernel
theorem dX4_begin_54 : decode cX4_begin 54 = .ok (.invokevirtual 34, 3) := by decide +kernel
theorem dX4_begin_57 : decode cX4_begin 57 = .ok (.putfield 38, 3) := by decide +kernel
theorem dX4_begin_60 : decode cX4_begin 60 = .ok (.aload_n 0, 1) := by decide +kernel
theorem dX4_begin_61 : decode cX4_begin 61 = .ok (.iconst 0, 1) := by decide +kernel
theorem dX4_begin_62 : decode cX4_begin 62 = .ok (.putfield 41, 3) := by decide +kernel
theorem dX4_begin_65 : decode cX4_begin 65 = .ok (.aload_n 0, 1) := by decide +kernel
theorem dX4_begin_66 : decode cX4_begin 66 = .ok (.iconst 0, 1) := by decide +kernel
theorem dX4_begin_67 : decode cX4_begin 67 = .ok (.putfield 44, 3) := by decide +kernel
theorem dX4_begin_70 : decode cX4_begin 70 = .ok (.aload_n 0, 1) := by decide +kernel
theorem dX4_begin_71 : decode cX4_begin 71 = .ok (.iconst 0, 1) := by decide +kernel
theorem dX4_begin_72 : decode cX4_begin 72 = .ok (.putfield 47, 3) := by decide +kernel
theorem dX4_begin_75 : decode cX4_begin 75 = .ok (.return_, 1) := by decide +kernel
theorem dX4_takeFrom_0 : decode cX4_takeFrom 0 = .ok (.iconst 0, 1) := by decide +kernel
theorem dX4_takeFrom_1 : decode cX4_takeFrom 1 = .ok (.istore_n 2, 1) := by decide +kernel
theorem dX4_takeFrom_2 : decode cX4_takeFrom 2 = .ok (.iload_n 2, 1) := by decide +kernel
theorem dX4_takeFrom_3 : decode cX4_takeFrom 3 = .ok (.iconst 5, 1) := by decide +kernel
theorem dX4_takeFrom_4 : decode cX4_takeFrom 4 = .ok (.if_icmp .ge 33, 3) := by decide +kernel
theorem dX4_takeFrom_7 : decode cX4_takeFrom 7 = .ok (.aload_n 0, 1) := by decide +kernel
theorem dX4_takeFrom_8 : decode cX4_takeFrom 8 = .ok (.getfield 9, 3) := by decide +kernel
theorem dX4_takeFrom_11 : decode cX4_takeFrom 11 = .ok (.iload_n 2, 1) := by decide +kernel
theorem dX4_takeFrom_12 : decode cX4_takeFrom 12 = .ok (.aload_n 1, 1) := by decide +kernel
theorem dX4_takeFrom_13 : decode cX4_takeFrom 13 = .ok (.getfield 9, 3) := by decide +kernel
theorem dX4_takeFrom_16 : decode cX4_takeFrom 16 = .ok (.iload_n 2, 1) := by decide +kernel
theorem dX4_takeFrom_17 : decode cX4_takeFrom 17 = .ok (.iaload, 1) := by decide +kernel
theorem dX4_takeFrom_18 : decode cX4_takeFrom 18 = .ok (.iastore, 1) := by decide +kernel
theorem dX4_takeFrom_19 : decode cX4_takeFrom 19 = .ok (.aload_n 0, 1) := by decide +kernel
theorem dX4_takeFrom_20 : decode cX4_takeFrom 20 = .ok (.getfield 15, 3) := by decide +kernel
theorem dX4_takeFrom_23 : decode cX4_takeFrom 23 = .ok (.iload_n 2, 1) := by decide +kernel
theorem dX4_takeFrom_24 : decode cX4_takeFrom 24 = .ok (.aload_n 1, 1) := by decide +kernel
theorem dX4_takeFrom_25 : decode cX4_takeFrom 25 = .ok (.getfield 15, 3) := by decide +kernel
theorem dX4_takeFrom_28 : decode cX4_takeFrom 28 = .ok (.iload_n 2, 1) := by decide +kernel
theorem dX4_takeFrom_29 : decode cX4_takeFrom 29 = .ok (.iaload, 1) := by decide +kernel
theorem dX4_takeFrom_30 : decode cX4_takeFrom 30 = .ok (.iastore, 1) := by decide +kernel
theorem dX4_takeFrom_31 : decode cX4_takeFrom 31 = .ok (.iinc 2 1, 3) := by decide +kernel
theorem dX4_takeFrom_34 : decode cX4_takeFrom 34 = .ok (.goto (-32), 3) := by decide +kernel
theorem dX4_takeFrom_37 : decode cX4_takeFrom 37 = .ok (.aload_n 0, 1) := by decide +kernel
theorem dX4_takeFrom_38 : decode cX4_takeFrom 38 = .ok (.aload_n 1, 1) := by decide +kernel
theorem dX4_takeFrom_39 : decode cX4_takeFrom 39 = .ok (.getfield 38, 3) := by decide +kernel
theorem dX4_takeFrom_42 : decode cX4_takeFrom 42 = .ok (.putfield 38, 3) := by decide +kernel
theorem dX4_takeFrom_45 : decode cX4_takeFrom 45 = .ok (.aload_n 0, 1) := by decide +kernel
theorem dX4_takeFrom_46 : decode cX4_takeFrom 46 = .ok (.aload_n 1, 1) := by decide +kernel
theorem dX4_takeFrom_47 : decode cX4_takeFrom 47 = .ok (.getfield 41, 3) := by decide +kernel
theorem dX4_takeFrom_50 : decode cX4_takeFrom 50 = .ok (.putfield 41, 3) := by decide +kernel
theorem dX4_takeFrom_53 : decode cX4_takeFrom 53 = .ok (.aload_n 0, 1) := by decide +kernel
theorem dX4_takeFrom_54 : decode cX4_takeFrom 54 = .ok (.aload_n 1, 1) := by decide +kernel
theorem dX4_takeFrom_55 : decode cX4_takeFrom 55 = .ok (.getfield 44, 3) := by decide +kernel
theorem dX4_takeFrom_58 : decode cX4_takeFrom 58 = .ok (.putfield 44, 3) := by decide +kernel
theorem dX4_takeFrom_61 : decode cX4_takeFrom 61 = .ok (.aload_n 0, 1) := by decide +kernel
theorem dX4_takeFrom_62 : decode cX4_takeFrom 62 = .ok (.aload_n 1, 1) := by decide +kernel
theorem dX4_takeFrom_63 : decode cX4_takeFrom 63 = .ok (.getfield 47, 3) := by decide +kernel
theorem dX4_takeFrom_66 : decode cX4_takeFrom 66 = .ok (.putfield 47, 3) := by decide +kernel
theorem dX4_takeFrom_69 : decode cX4_takeFrom 69 = .ok (.return_, 1) := by decide +kernel
set_option maxRecDepth 20000 in
theorem ggX4_costOf_X2_costShut : GoodIn wsX4_costOf wsX2_costShut := goodIn_r _ [9, 10, 11, 19, 20, 21, 22, 23, 24, 25] (by decide +kernel) (by decide +kernel)
set_option maxRecDepth 20000 in
theorem gX4_costOf_X2_costShut : GoodIn wsX4_costOf (wsV RX4 50 RX2 yX2_costShut wsX2_costShut) := goodIn_app (goodIn_of _ (by decide +kernel)) ggX4_costOf_X2_costShut
theorem dX4_costOf_0 : decode cX4_costOf 0 = .ok (.aload_n 0, 1) := by decide +kernel
theorem dX4_costOf_1 : decode cX4_costOf 1 = .ok (.getfield 41, 3) := by decide +kernel
theorem dX4_costOf_4 : decode cX4_costOf 4 = .ok (.iload_n 1, 1) := by decide +kernel
theorem dX4_costOf_5 : decode cX4_costOf 5 = .ok (.ishr, 1) := by decide +kernel
theorem dX4_costOf_6 : decode cX4_costOf 6 = .ok (.iconst 1, 1) := by decide +kernel
theorem dX4_costOf_7 : decode cX4_costOf 7 = .ok (.iand, 1) := by decide +kernel
theorem dX4_costOf_8 : decode cX4_costOf 8 = .ok (.iconst 1, 1) := by decide +kernel
theorem dX4_costOf_9 : decode cX4_costOf 9 = .ok (.if_icmp .ne 7, 3) := by decide +kernel
theorem dX4_costOf_12 : decode cX4_costOf 12 = .ok (.iconst 0, 1) := by decide +kernel
theorem dX4_costOf_13 : decode cX4_costOf 13 = .ok (.goto 19, 3) := by decide +kernel
theorem dX4_costOf_16 : decode cX4_costOf 16 = .ok (.aload_n 0, 1) := by decide +kernel
theorem dX4_costOf_17 : decode cX4_costOf 17 = .ok (.getfield 18, 3) := by decide +kernel
theorem dX4_costOf_20 : decode cX4_costOf 20 = .ok (.iload_n 1, 1) := by decide +kernel
theorem dX4_costOf_21 : decode cX4_costOf 21 = .ok (.aload_n 0, 1) := by decide +kernel
theorem dX4_costOf_22 : decode cX4_costOf 22 = .ok (.getfield 44, 3) := by decide +kernel
theorem dX4_costOf_25 : decode cX4_costOf 25 = .ok (.aload_n 0, 1) := by decide +kernel
theorem dX4_costOf_26 : decode cX4_costOf 26 = .ok (.getfield 38, 3) := by decide +kernel
theorem dX4_costOf_29 : decode cX4_costOf 29 = .ok (.invokevirtual 50, 3) := by decide +kernel
theorem dX4_costOf_32 : decode cX4_costOf 32 = .ok (.ireturn, 1) := by decide +kernel
theorem dX4_pleatBeside_0 : decode cX4_pleatBeside 0 = .ok (.iload_n 2, 1) := by decide +kernel
theorem dX4_pleatBeside_1 : decode cX4_pleatBeside 1 = .ok (.ifCond .eq 12, 3) := by decide +kernel
theorem dX4_pleatBeside_4 : decode cX4_pleatBeside 4 = .ok (.aload_n 0, 1) := by decide +kernel
theorem dX4_pleatBeside_5 : decode cX4_pleatBeside 5 = .ok (.getfield 9, 3) := by decide +kernel
theorem dX4_pleatBeside_8 : decode cX4_pleatBeside 8 = .ok (.iload_n 1, 1) := by decide +kernel
theorem dX4_pleatBeside_9 : decode cX4_pleatBeside 9 = .ok (.iaload, 1) := by decide +kernel
theorem dX4_pleatBeside_10 : decode cX4_pleatBeside 10 = .ok (.goto 11, 3) := by decide +kernel
theorem dX4_pleatBeside_13 : decode cX4_pleatBeside 13 = .ok (.aload_n 0, 1) := by decide +kernel
theorem dX4_pleatBeside_14 : decode cX4_pleatBeside 14 = .ok (.getfield 9, 3) := by decide +kernel
theorem dX4_pleatBeside_17 : decode cX4_pleatBeside 17 = .ok (.iload_n 1, 1) := by decide +kernel
theorem dX4_pleatBeside_18 : decode cX4_pleatBeside 18 = .ok (.iaload, 1) := by decide +kernel
theorem dX4_pleatBeside_19 : decode cX4_pleatBeside 19 = .ok (.iconst 1, 1) := by decide +kernel
theorem dX4_pleatBeside_20 : decode cX4_pleatBeside 20 = .ok (.isub, 1) := by decide +kernel
theorem dX4_pleatBeside_21 : decode cX4_pleatBeside 21 = .ok (.ireturn, 1) := by decide +kernel
set_option maxRecDepth 20000 in
theorem ggX4_tollBeside_X4_pleatBeside : GoodIn wsX4_tollBeside wsX4_pleatBeside := goodIn_r _ [7, 8, 31, 32, 33, 34, 35, 36, 37] (by decide +kernel) (by decide +kernel)
set_option maxRecDepth 20000 in
theorem gX4_tollBeside_X4_pleatBeside : GoodIn wsX4_tollBeside (wsV RX4 54 RX4 yX4_pleatBeside wsX4_pleatBeside) := goodIn_app (goodIn_of _ (by decide +kernel)) ggX4_tollBeside_X4_pleatBeside
set_option maxRecDepth 20000 in
theorem ggX4_tollBeside_X2_hasPleat : GoodIn wsX4_tollBeside wsX2_hasPleat := goodIn_r _ [13, 14, 38, 39, 40, 41, 42, 43, 44] (by decide +kernel) (by decide +kernel)
set_option maxRecDepth 20000 in
theorem gX4_tollBeside_X2_hasPleat : GoodIn wsX4_tollBeside (wsV RX4 58 RX2 yX2_hasPleat wsX2_hasPleat) := goodIn_app (goodIn_of _ (by decide +kernel)) ggX4_tollBeside_X2_hasPleat
set_option maxRecDepth 20000 in
theorem ggX4_tollBeside_X4_costOf : GoodIn wsX4_tollBeside wsX4_costOf := goodIn_r _ [18, 19, 1, 20, 21, 22, 23, 24, 12, 25, 26, 27, 31, 32, 33, 34, 35, 36, 37, 38, 39, 40, 41, 42, 43, 44] (by decide +kernel) (by decide +kernel)
set_option maxRecDepth 20000 in
theorem gX4_tollBeside_X4_costOf : GoodIn wsX4_tollBeside (wsV RX4 65 RX4 yX4_costOf wsX4_costOf) := goodIn_app (goodIn_of _ (by decide +kernel)) ggX4_tollBeside_X4_costOf
set_option maxRecDepth 20000 in
theorem ggX4_tollBeside_X2_tollFor : GoodIn wsX4_tollBeside wsX2_tollFor := goodIn_r _ [30] (by decide +kernel) (by decide +kernel)
set_option maxRecDepth 20000 in
theorem gX4_tollBeside_X2_tollFor : GoodIn wsX4_tollBeside (va_wsS RX4 69 yX2_tollFor wsX2_tollFor) := goodIn_app (goodIn_of _ (by decide +kernel)) ggX4_tollBeside_X2_tollFor
theorem dX4_tollBeside_0 : decode cX4_tollBeside 0 = .ok (.aload_n 0, 1) := by decide +kernel
theorem dX4_tollBeside_1 : decode cX4_tollBeside 1 = .ok (.iload_n 1, 1) := by decide +kernel
theorem dX4_tollBeside_2 : decode cX4_tollBeside 2 = .ok (.iload_n 2, 1) := by decide +kernel
theorem dX4_tollBeside_3 : decode cX4_tollBeside 3 = .ok (.invokevirtual 54, 3) := by decide +kernel
theorem dX4_tollBeside_6 : decode cX4_tollBeside 6 = .ok (.istore_n 3, 1) := by decide +kernel
theorem dX4_tollBeside_7 : decode cX4_tollBeside 7 = .ok (.aload_n 0, 1) := by decide +kernel
theorem dX4_tollBeside_8 : decode cX4_tollBeside 8 = .ok (.getfield 18, 3) := by decide +kernel
theorem dX4_tollBeside_11 : decode cX4_tollBeside 11 = .ok (.iload_n 3, 1) := by decide +kernel
theorem dX4_tollBeside_12 : decode cX4_tollBeside 12 = .ok (.invokevirtual 58, 3) := by decide +kernel
theorem dX4_tollBeside_15 : decode cX4_tollBeside 15 = .ok (.ifCond .eq 23, 3) := by decide +kernel
theorem dX4_tollBeside_18 : decode cX4_tollBeside 18 = .ok (.aload_n 0, 1) := by decide +kernel
theorem dX4_tollBeside_19 : decode cX4_tollBeside 19 = .ok (.getfield 18, 3) := by decide +kernel
theorem dX4_tollBeside_22 : decode cX4_tollBeside 22 = .ok (.getfield 62, 3) := by decide +kernel
theorem dX4_tollBeside_25 : decode cX4_tollBeside 25 = .ok (.iload_n 1, 1) := by decide +kernel
theorem dX4_tollBeside_26 : decode cX4_tollBeside 26 = .ok (.iaload, 1) := by decide +kernel
theorem dX4_tollBeside_27 : decode cX4_tollBeside 27 = .ok (.aload_n 0, 1) := by decide +kernel
theorem dX4_tollBeside_28 : decode cX4_tollBeside 28 = .ok (.iload_n 3, 1) := by decide +kernel
theorem dX4_tollBeside_29 : decode cX4_tollBeside 29 = .ok (.invokevirtual 65, 3) := by decide +kernel
theorem dX4_tollBeside_32 : decode cX4_tollBeside 32 = .ok (.invokestatic 69, 3) := by decide +kernel
theorem dX4_tollBeside_35 : decode cX4_tollBeside 35 = .ok (.goto 5, 3) := by decide +kernel
theorem dX4_tollBeside_38 : decode cX4_tollBeside 38 = .ok (.bipush (-9), 2) := by decide +kernel
theorem dX4_tollBeside_40 : decode cX4_tollBeside 40 = .ok (.ireturn, 1) := by decide +kernel
set_option maxRecDepth 20000 in
theorem ggX4_canStep_X2_hasTraveller : GoodIn wsX4_canStep wsX2_hasTraveller := goodIn_r _ [7, 8, 48, 49, 50, 51, 52, 53, 54] (by decide +kernel) (by decide +kernel)
set_option maxRecDepth 20000 in
theorem gX4_canStep_X2_hasTraveller : GoodIn wsX4_canStep (wsV RX4 73 RX2 yX2_hasTraveller wsX2_hasTraveller) := goodIn_app (goodIn_of _ (by decide +kernel)) ggX4_canStep_X2_hasTraveller
set_option maxRecDepth 20000 in
theorem ggX4_canStep_X4_tollBeside : GoodIn wsX4_canStep wsX4_tollBeside := goodIn_r _ [13, 1, 14, 15, 16, 17, 12, 18, 19, 20, 21, 22, 6, 23, 24, 25, 26, 27, 28, 29, 30, 31, 32, 33, 34, 35, 36, 37, 38, 39, 40, 41, 42, 43, 44, 45, 46, 47, 48, 49, 50, 51, 52, 53, 54] (by decide +kernel) (by decide +kernel)
set_option maxRecDepth 20000 in
theorem gX4_canStep_X4_tollBeside : GoodIn wsX4_canStep (wsV RX4 76 RX4 yX4_tollBeside wsX4_tollBeside) := goodIn_app (goodIn_of _ (by decide +kernel)) ggX4_canStep_X4_tollBeside
theorem dX4_canStep_0 : decode cX4_canStep 0 = .ok (.aload_n 0, 1) := by decide +kernel
theorem dX4_canStep_1 : decode cX4_canStep 1 = .ok (.getfield 18, 3) := by decide +kernel
theorem dX4_canStep_4 : decode cX4_canStep 4 = .ok (.iload_n 1, 1) := by decide +kernel
theorem dX4_canStep_5 : decode cX4_canStep 5 = .ok (.invokevirtual 73, 3) := by decide +kernel
theorem dX4_canStep_8 : decode cX4_canStep 8 = .ok (.ifCond .ne 5, 3) := by decide +kernel
theorem dX4_canStep_11 : decode cX4_canStep 11 = .ok (.iconst 0, 1) := by decide +kernel
theorem dX4_canStep_12 : decode cX4_canStep 12 = .ok (.ireturn, 1) := by decide +kernel
theorem dX4_canStep_13 : decode cX4_canStep 13 = .ok (.aload_n 0, 1) := by decide +kernel
theorem dX4_canStep_14 : decode cX4_canStep 14 = .ok (.iload_n 1, 1) := by decide +kernel
theorem dX4_canStep_15 : decode cX4_canStep 15 = .ok (.iload_n 2, 1) := by decide +kernel
theorem dX4_canStep_16 : decode cX4_canStep 16 = .ok (.invokevirtual 76, 3) := by decide +kernel
theorem dX4_canStep_19 : decode cX4_canStep 19 = .ok (.istore_n 3, 1) := by decide +kernel
theorem dX4_canStep_20 : decode cX4_canStep 20 = .ok (.iload_n 3, 1) := by decide +kernel
theorem dX4_canStep_21 : decode cX4_canStep 21 = .ok (.bipush (-9), 2) := by decide +kernel
theorem dX4_canStep_23 : decode cX4_canStep 23 = .ok (.if_icmp .eq 17, 3) := by decide +kernel
theorem dX4_canStep_26 : decode cX4_canStep 26 = .ok (.aload_n 0, 1) := by decide +kernel
theorem dX4_canStep_27 : decode cX4_canStep 27 = .ok (.getfield 15, 3) := by decide +kernel
theorem dX4_canStep_30 : decode cX4_canStep 30 = .ok (.iload_n 1, 1) := by decide +kernel
theorem dX4_canStep_31 : decode cX4_canStep 31 = .ok (.iaload, 1) := by decide +kernel
theorem dX4_canStep_32 : decode cX4_canStep 32 = .ok (.iload_n 3, 1) := by decide +kernel
theorem dX4_canStep_33 : decode cX4_canStep 33 = .ok (.if_icmp .lt 7, 3) := by decide +kernel
theorem dX4_canStep_36 : decode cX4_canStep 36 = .ok (.iconst 1, 1) := by decide +kernel
theorem dX4_canStep_37 : decode cX4_canStep 37 = .ok (.goto 4, 3) := by decide +kernel
theorem dX4_canStep_40 : decode cX4_canStep 40 = .ok (.iconst 0, 1) := by decide +kernel
theorem dX4_canStep_41 : decode cX4_canStep 41 = .ok (.ireturn, 1) := by decide +kernel
set_option maxRecDepth 20000 in
theorem ggX4_doStep_X4_pleatBeside : GoodIn wsX4_doStep wsX4_pleatBeside := goodIn_r _ [13, 5, 39, 40, 41, 42, 43, 44, 45] (by decide +kernel) (by decide +kernel)
set_option maxRecDepth 20000 in
theorem gX4_doStep_X4_pleatBeside : GoodIn wsX4_doStep (wsV RX4 54 RX4 yX4_pleatBeside wsX4_pleatBeside) := goodIn_app (goodIn_of _ (by decide +kernel)) ggX4_doStep_X4_pleatBeside
set_option maxRecDepth 20000 in
theorem ggX4_doStep_X2_hasPleat : GoodIn wsX4_doStep wsX2_hasPleat := goodIn_r _ [18, 19, 46, 47, 48, 49, 50, 51, 52] (by decide +kernel) (by decide +kernel)
set_option maxRecDepth 20000 in
theorem gX4_doStep_X2_hasPleat : GoodIn wsX4_doStep (wsV RX4 58 RX2 yX2_hasPleat wsX2_hasPleat) := goodIn_app (goodIn_of _ (by decide +kernel)) ggX4_doStep_X2_hasPleat
set_option maxRecDepth 20000 in
theorem ggX4_doStep_X4_tollBeside : GoodIn wsX4_doStep wsX4_tollBeside := goodIn_r _ [23, 1, 6, 9, 10, 11, 12, 13, 5, 14, 15, 16, 17, 18, 19, 24, 25, 26, 27, 7, 28, 29, 30, 31, 32, 33, 34, 35, 36, 37, 38, 39, 40, 41, 42, 43, 44, 45, 46, 47, 48, 49, 50, 51, 52] (by decide +kernel) (by decide +kernel)
set_option maxRecDepth 20000 in
theorem gX4_doStep_X4_tollBeside : GoodIn wsX4_doStep (wsV RX4 76 RX4 yX4_tollBeside wsX4_tollBeside) := goodIn_app (goodIn_of _ (by decide +kernel)) ggX4_doStep_X4_tollBeside
theorem dX4_doStep_0 : decode cX4_doStep 0 = .ok (.aload_n 0, 1) := by decide +kernel
theorem dX4_doStep_1 : decode cX4_doStep 1 = .ok (.iload_n 1, 1) := by decide +kernel
theorem dX4_doStep_2 : decode cX4_doStep 2 = .ok (.iload_n 2, 1) := by decide +kernel
theorem dX4_doStep_3 : decode cX4_doStep 3 = .ok (.invokevirtual 54, 3) := by decide +kernel
theorem dX4_doStep_6 : decode cX4_doStep 6 = .ok (.istore_n 3, 1) := by decide +kernel
theorem dX4_doStep_7 : decode cX4_doStep 7 = .ok (.aload_n 0, 1) := by decide +kernel
theorem dX4_doStep_8 : decode cX4_doStep 8 = .ok (.getfield 18, 3) := by decide +kernel
theorem dX4_doStep_11 : decode cX4_doStep 11 = .ok (.iload_n 3, 1) := by decide +kernel
theorem dX4_doStep_12 : decode cX4_doStep 12 = .ok (.invokevirtual 58, 3) := by decide +kernel
theorem dX4_doStep_15 : decode cX4_doStep 15 = .ok (.ifCond .ne 4, 3) := by decide +kernel
theorem dX4_doStep_18 : decode cX4_doStep 18 = .ok (.return_, 1) := by decide +kernel
theorem dX4_doStep_19 : decode cX4_doStep 19 = .ok (.aload_n 0, 1) := by decide +kernel
theorem dX4_doStep_20 : decode cX4_doStep 20 = .ok (.getfield 18, 3) := by decide +kernel
theorem dX4_doStep_23 : decode cX4_doStep 23 = .ok (.getfield 79, 3) := by decide +kernel
theorem dX4_doStep_26 : decode cX4_doStep 26 = .ok (.iload_n 3, 1) := by decide +kernel
theorem dX4_doStep_27 : decode cX4_doStep 27 = .ok (.iaload, 1) := by decide +kernel
theorem dX4_doStep_28 : decode cX4_doStep 28 = .ok (.iconst 3, 1) := by decide +kernel
theorem dX4_doStep_29 : decode cX4_doStep 29 = .ok (.if_icmp .ne 7, 3) := by decide +kernel
theorem dX4_doStep_32 : decode cX4_doStep 32 = .ok (.iconst 1, 1) := by decide +kernel
theorem dX4_doStep_33 : decode cX4_doStep 33 = .ok (.goto 4, 3) := by decide +kernel
theorem dX4_doStep_36 : decode cX4_doStep 36 = .ok (.iconst 0, 1) := by decide +kernel
theorem dX4_doStep_37 : decode cX4_doStep 37 = .ok (.istore 4, 2) := by decide +kernel
theorem dX4_doStep_39 : decode cX4_doStep 39 = .ok (.aload_n 0, 1) := by decide +kernel
theorem dX4_doStep_40 : decode cX4_doStep 40 = .ok (.getfield 15, 3) := by decide +kernel
theorem dX4_doStep_43 : decode cX4_doStep 43 = .ok (.iload_n 1, 1) := by decide +kernel
theorem dX4_doStep_44 : decode cX4_doStep 44 = .ok (.iload 4, 2) := by decide +kernel
theorem dX4_doStep_46 : decode cX4_doStep 46 = .ok (.ifCond .eq 15, 3) := by decide +kernel
theorem dX4_doStep_49 : decode cX4_doStep 49 = .ok (.aload_n 0, 1) := by decide +kernel
theorem dX4_doStep_50 : decode cX4_doStep 50 = .ok (.getfield 18, 3) := by decide +kernel
theorem dX4_doStep_53 : decode cX4_doStep 53 = .ok (.getfield 31, 3) := by decide +kernel
theorem dX4_doStep_56 : decode cX4_doStep 56 = .ok (.iload_n 1, 1) := by decide +kernel
theorem dX4_doStep_57 : decode cX4_doStep 57 = .ok (.iaload, 1) := by decide +kernel
theorem dX4_doStep_58 : decode cX4_doStep 58 = .ok (.goto 16, 3) := by decide +kernel
theorem dX4_doStep_61 : decode cX4_doStep 61 = .ok (.aload_n 0, 1) := by decide +kernel
theorem dX4_doStep_62 : decode cX4_doStep 62 = .ok (.getfield 15, 3) := by decide +kernel
theorem dX4_doStep_65 : decode cX4_doStep 65 = .ok (.iload_n 1, 1) := by decide +kernel
theorem dX4_doStep_66 : decode cX4_doStep 66 = .ok (.iaload, 1) := by decide +kernel
theorem dX4_doStep_67 : decode cX4_doStep 67 = .ok (.aload_n 0, 1) := by decide +kernel
theorem dX4_doStep_68 : decode cX4_doStep 68 = .ok (.iload_n 1, 1) := by decide +kernel
theorem dX4_doStep_69 : decode cX4_doStep 69 = .ok (.iload_n 2, 1) := by decide +kernel
theorem dX4_doStep_70 : decode cX4_doStep 70 = .ok (.invokevirtual 76, 3) := by decide +kernel
theorem dX4_doStep_73 : decode cX4_doStep 73 = .ok (.isub, 1) := by decide +kernel
theorem dX4_doStep_74 : decode cX4_doStep 74 = .ok (.iastore, 1) := by decide +kernel
theorem dX4_doStep_75 : decode cX4_doStep 75 = .ok (.aload_n 0, 1) := by decide +kernel
theorem dX4_doStep_76 : decode cX4_doStep 76 = .ok (.getfield 9, 3) := by decide +kernel
theorem dX4_doStep_79 : decode cX4_doStep 79 = .ok (.iload_n 1, 1) := by decide +kernel
theorem dX4_doStep_80 : decode cX4_doStep 80 = .ok (.dup2, 1) := by decide +kernel
theorem dX4_doStep_81 : decode cX4_doStep 81 = .ok (.iaload, 1) := by decide +kernel
theorem dX4_doStep_82 : decode cX4_doStep 82 = .ok (.iload_n 2, 1) := by decide +kernel
theorem dX4_doStep_83 : decode cX4_doStep 83 = .ok (.ifCond .eq 7, 3) := by decide +kernel
theorem dX4_doStep_86 : decode cX4_doStep 86 = .ok (.iconst 1, 1) := by decide +kernel
theorem dX4_doStep_87 : decode cX4_doStep 87 = .ok (.goto 4, 3) := by decide +kernel
theorem dX4_doStep_90 : decode cX4_doStep 90 = .ok (.iconst (-1), 1) := by decide +kernel
theorem dX4_doStep_91 : decode cX4_doStep 91 = .ok (.iadd, 1) := by decide +kernel
theorem dX4_doStep_92 : decode cX4_doStep 92 = .ok (.iastore, 1) := by decide +kernel
theorem dX4_doStep_93 : decode cX4_doStep 93 = .ok (.aload_n 0, 1) := by decide +kernel
theorem dX4_doStep_94 : decode cX4_doStep 94 = .ok (.aload_n 0, 1) := by decide +kernel
theorem dX4_doStep_95 : decode cX4_doStep 95 = .ok (.getfield 18, 3) := by decide +kernel
theorem dX4_doStep_98 : decode cX4_doStep 98 = .ok (.getfield 62, 3) := by decide +kernel
theorem dX4_doStep_101 : decode cX4_doStep 101 = .ok (.iload_n 1, 1) := by decide +kernel
theorem dX4_doStep_102 : decode cX4_doStep 102 = .ok (.iaload, 1) := by decide +kernel
theorem dX4_doStep_103 : decode cX4_doStep 103 = .ok (.iconst 3, 1) := by decide +kernel
theorem dX4_doStep_104 : decode cX4_doStep 104 = .ok (.if_icmp .ne 9, 3) := by decide +kernel
theorem dX4_doStep_107 : decode cX4_doStep 107 = .ok (.iconst 1, 1) := by decide +kernel
theorem dX4_doStep_108 : decode cX4_doStep 108 = .ok (.iload_n 3, 1) := by decide +kernel
theorem dX4_doStep_109 : decode cX4_doStep 109 = .ok (.ishl, 1) := by decide +kernel
theorem dX4_doStep_110 : decode cX4_doStep 110 = .ok (.goto 4, 3) := by decide +kernel
theorem dX4_doStep_113 : decode cX4_doStep 113 = .ok (.iconst 0, 1) := by decide +kernel
theorem dX4_doStep_114 : decode cX4_doStep 114 = .ok (.putfield 41, 3) := by decide +kernel
theorem dX4_doStep_117 : decode cX4_doStep 117 = .ok (.aload_n 0, 1) := by decide +kernel
theorem dX4_doStep_118 : decode cX4_doStep 118 = .ok (.dup, 1) := by decide +kernel
theorem dX4_doStep_119 : decode cX4_doStep 119 = .ok (.getfield 47, 3) := by decide +kernel
theorem dX4_doStep_122 : decode cX4_doStep 122 = .ok (.iconst 1, 1) := by decide +kernel
theorem dX4_doStep_123 : decode cX4_doStep 123 = .ok (.iadd, 1) := by decide +kernel
theorem dX4_doStep_124 : decode cX4_doStep 124 = .ok (.putfield 47, 3) := by decide +kernel
theorem dX4_doStep_127 : decode cX4_doStep 127 = .ok (.return_, 1) := by decide +kernel
set_option maxRecDepth 20000 in
theorem ggX4_doRest_X2_windRested : GoodIn wsX4_doRest wsX2_windRested := goodIn_r _ [9, 10, 11, 12, 13, 14, 15, 16] (by decide +kernel) (by decide +kernel)
set_option maxRecDepth 20000 in
theorem gX4_doRest_X2_windRested : GoodIn wsX4_doRest (va_wsS RX4 82 yX2_windRested wsX2_windRested) := goodIn_app (goodIn_of _ (by decide +kernel)) ggX4_doRest_X2_windRested
theorem dX4_doRest_0 : decode cX4_doRest 0 = .ok (.aload_n 0, 1) := by decide +kernel
theorem dX4_doRest_1 : decode cX4_doRest 1 = .ok (.getfield 15, 3) := by decide +kernel
theorem dX4_doRest_4 : decode cX4_doRest 4 = .ok (.iload_n 1, 1) := by decide +kernel
theorem dX4_doRest_5 : decode cX4_doRest 5 = .ok (.aload_n 0, 1) := by decide +kernel
theorem dX4_doRest_6 : decode cX4_doRest 6 = .ok (.getfield 15, 3) := by decide +kernel
theorem dX4_doRest_9 : decode cX4_doRest 9 = .ok (.iload_n 1, 1) := by decide +kernel
theorem dX4_doRest_10 : decode cX4_doRest 10 = .ok (.iaload, 1) := by decide +kernel
theorem dX4_doRest_11 : decode cX4_doRest 11 = .ok (.aload_n 0, 1) := by decide +kernel
theorem dX4_doRest_12 : decode cX4_doRest 12 = .ok (.getfield 18, 3) := by decide +kernel
theorem dX4_doRest_15 : decode cX4_doRest 15 = .ok (.getfield 31, 3) := by decide +kernel
theorem dX4_doRest_18 : decode cX4_doRest 18 = .ok (.iload_n 1, 1) := by decide +kernel
theorem dX4_doRest_19 : decode cX4_doRest 19 = .ok (.iaload, 1) := by decide +kernel
theorem dX4_doRest_20 : decode cX4_doRest 20 = .ok (.invokestatic 82, 3) := by decide +kernel
theorem dX4_doRest_23 : decode cX4_doRest 23 = .ok (.iastore, 1) := by decide +kernel
theorem dX4_doRest_24 : decode cX4_doRest 24 = .ok (.aload_n 0, 1) := by decide +kernel
theorem dX4_doRest_25 : decode cX4_doRest 25 = .ok (.iconst 0, 1) := by decide +kernel
theorem dX4_doRest_26 : decode cX4_doRest 26 = .ok (.putfield 41, 3) := by decide +kernel
theorem dX4_doRest_29 : decode cX4_doRest 29 = .ok (.aload_n 0, 1) := by decide +kernel
theorem dX4_doRest_30 : decode cX4_doRest 30 = .ok (.dup, 1) := by decide +kernel
theorem dX4_doRest_31 : decode cX4_doRest 31 = .ok (.getfield 47, 3) := by decide +kernel
theorem dX4_doRest_34 : decode cX4_doRest 34 = .ok (.iconst 1, 1) := by decide +kernel
theorem dX4_doRest_35 : decode cX4_doRest 35 = .ok (.iadd, 1) := by decide +kernel
theorem dX4_doRest_36 : decode cX4_doRest 36 = .ok (.putfield 47, 3) := by decide +kernel
theorem dX4_doRest_39 : decode cX4_doRest 39 = .ok (.return_, 1) := by decide +kernel
set_option maxRecDepth 20000 in
theorem ggX4_canGrease_X2_hasPleat : GoodIn wsX4_canGrease wsX2_hasPleat := goodIn_r _ [7, 8, 16, 17, 18, 19, 20, 21, 22] (by decide +kernel) (by decide +kernel)
set_option maxRecDepth 20000 in
theorem gX4_canGrease_X2_hasPleat : GoodIn wsX4_canGrease (wsV RX4 58 RX2 yX2_hasPleat wsX2_hasPleat) := goodIn_app (goodIn_of _ (by decide +kernel)) ggX4_canGrease_X2_hasPleat
theorem dX4_canGrease_0 : decode cX4_canGrease 0 = .ok (.aload_n 0, 1) := by decide +kernel
theorem dX4_canGrease_1 : decode cX4_canGrease 1 = .ok (.getfield 18, 3) := by decide +kernel
theorem dX4_canGrease_4 : decode cX4_canGrease 4 = .ok (.iload_n 1, 1) := by decide +kernel
theorem dX4_canGrease_5 : decode cX4_canGrease 5 = .ok (.invokevirtual 58, 3) := by decide +kernel
theorem dX4_canGrease_8 : decode cX4_canGrease 8 = .ok (.ifCond .eq 18, 3) := by decide +kernel
theorem dX4_canGrease_11 : decode cX4_canGrease 11 = .ok (.aload_n 0, 1) := by decide +kernel
theorem dX4_canGrease_12 : decode cX4_canGrease 12 = .ok (.getfield 38, 3) := by decide +kernel
theorem dX4_canGrease_15 : decode cX4_canGrease 15 = .ok (.iload_n 1, 1) := by decide +kernel
theorem dX4_canGrease_16 : decode cX4_canGrease 16 = .ok (.ishr, 1) := by decide +kernel
theorem dX4_canGrease_17 : decode cX4_canGrease 17 = .ok (.iconst 1, 1) := by decide +kernel
theorem dX4_canGrease_18 : decode cX4_canGrease 18 = .ok (.iand, 1) := by decide +kernel
theorem dX4_canGrease_19 : decode cX4_canGrease 19 = .ok (.ifCond .ne 7, 3) := by decide +kernel
theorem dX4_canGrease_22 : decode cX4_canGrease 22 = .ok (.iconst 1, 1) := by decide +kernel
theorem dX4_canGrease_23 : decode cX4_canGrease 23 = .ok (.goto 4, 3) := by decide +kernel
theorem dX4_canGrease_26 : decode cX4_canGrease 26 = .ok (.iconst 0, 1) := by decide +kernel
theorem dX4_canGrease_27 : decode cX4_canGrease 27 = .ok (.ireturn, 1) := by decide +kernel
theorem dX4_doGrease_0 : decode cX4_doGrease 0 = .ok (.aload_n 0, 1) := by decide +kernel
theorem dX4_doGrease_1 : decode cX4_doGrease 1 = .ok (.dup, 1) := by decide +kernel
theorem dX4_doGrease_2 : decode cX4_doGrease 2 = .ok (.getfield 38, 3) := by decide +kernel
theorem dX4_doGrease_5 : decode cX4_doGrease 5 = .ok (.iconst 1, 1) := by decide +kernel
theorem dX4_doGrease_6 : decode cX4_doGrease 6 = .ok (.iload_n 1, 1) := by decide +kernel
theorem dX4_doGrease_7 : decode cX4_doGrease 7 = .ok (.ishl, 1) := by decide +kernel
theorem dX4_doGrease_8 : decode cX4_doGrease 8 = .ok (.ior, 1) := by decide +kernel
theorem dX4_doGrease_9 : decode cX4_doGrease 9 = .ok (.putfield 38, 3) := by decide +kernel
theorem dX4_doGrease_12 : decode cX4_doGrease 12 = .ok (.return_, 1) := by decide +kernel
theorem dX4_canFreeze_0 : decode cX4_canFreeze 0 = .ok (.aload_n 0, 1) := by decide +kernel
theorem dX4_canFreeze_1 : decode cX4_canFreeze 1 = .ok (.getfield 44, 3) := by decide +kernel
theorem dX4_canFreeze_4 : decode cX4_canFreeze 4 = .ok (.iconst 5, 1) := by decide +kernel
theorem dX4_canFreeze_5 : decode cX4_canFreeze 5 = .ok (.if_icmp .ge 7, 3) := by decide +kernel
theorem dX4_canFreeze_8 : decode cX4_canFreeze 8 = .ok (.iconst 1, 1) := by decide +kernel
theorem dX4_canFreeze_9 : decode cX4_canFreeze 9 = .ok (.goto 4, 3) := by decide +kernel
theorem dX4_canFreeze_12 : decode cX4_canFreeze 12 = .ok (.iconst 0, 1) := by decide +kernel
theorem dX4_canFreeze_13 : decode cX4_canFreeze 13 = .ok (.ireturn, 1) := by decide +kernel
set_option maxRecDepth 20000 in
theorem ggX4_stepIfItCan_X4_canStep : GoodIn wsX4_stepIfItCan wsX4_canStep := goodIn_r _ [5, 6, 7, 8, 9, 10, 11, 12, 13, 14, 15, 16, 4, 17, 18, 19, 20, 21, 22, 23, 24, 25, 26, 27, 28, 29, 30, 31, 32, 33, 34, 35, 36, 37, 38, 39, 40, 41, 42, 43, 44, 52, 53, 54, 55, 56, 57, 58, 59, 60, 61, 62, 63, 64, 65] (by decide +kernel) (by decide +kernel)
set_option maxRecDepth 20000 in
theorem gX4_stepIfItCan_X4_canStep : GoodIn wsX4_stepIfItCan (wsV RX4 85 RX4 yX4_canStep wsX4_canStep) := goodIn_app (goodIn_of _ (by decide +kernel)) ggX4_stepIfItCan_X4_canStep
set_option maxRecDepth 20000 in
theorem ggX4_stepIfItCan_X4_doStep : GoodIn wsX4_stepIfItCan wsX4_doStep := goodIn_r _ [48, 6, 49, 7, 50, 23, 18, 33, 51, 19, 20, 21, 4, 22, 24, 25, 26, 11, 27, 28, 14, 15, 16, 17, 29, 30, 31, 32, 34, 35, 36, 37, 38, 39, 40, 41, 42, 43, 44, 52, 53, 54, 55, 56, 57, 58, 59, 60, 61, 62, 63, 64, 65] (by decide +kernel) (by decide +kernel)
set_option maxRecDepth 20000 in
theorem gX4_stepIfItCan_X4_doStep : GoodIn wsX4_stepIfItCan (wsV RX4 89 RX4 yX4_doStep wsX4_doStep) := goodIn_app (goodIn_of _ (by decide +kernel)) ggX4_stepIfItCan_X4_doStep
theorem dX4_stepIfItCan_0 : decode cX4_stepIfItCan 0 = .ok (.aload_n 0, 1) := by decide +kernel
theorem dX4_stepIfItCan_1 : decode cX4_stepIfItCan 1 = .ok (.iload_n 1, 1) := by decide +kernel
theorem dX4_stepIfItCan_2 : decode cX4_stepIfItCan 2 = .ok (.iload_n 2, 1) := by decide +kernel
theorem dX4_stepIfItCan_3 : decode cX4_stepIfItCan 3 = .ok (.invokevirtual 85, 3) := by decide +kernel
theorem dX4_stepIfItCan_6 : decode cX4_stepIfItCan 6 = .ok (.istore_n 3, 1) := by decide +kernel
theorem dX4_stepIfItCan_7 : decode cX4_stepIfItCan 7 = .ok (.iload_n 3, 1) := by decide +kernel
theorem dX4_stepIfItCan_8 : decode cX4_stepIfItCan 8 = .ok (.ifCond .eq 9, 3) := by decide +kernel
theorem dX4_stepIfItCan_11 : decode cX4_stepIfItCan 11 = .ok (.aload_n 0, 1) := by decide +kernel
theorem dX4_stepIfItCan_12 : decode cX4_stepIfItCan 12 = .ok (.iload_n 1, 1) := by decide +kernel
theorem dX4_stepIfItCan_13 : decode cX4_stepIfItCan 13 = .ok (.iload_n 2, 1) := by decide +kernel
theorem dX4_stepIfItCan_14 : decode cX4_stepIfItCan 14 = .ok (.invokevirtual 89, 3) := by decide +kernel
theorem dX4_stepIfItCan_17 : decode cX4_stepIfItCan 17 = .ok (.iload_n 3, 1) := by decide +kernel
theorem dX4_stepIfItCan_18 : decode cX4_stepIfItCan 18 = .ok (.ireturn, 1) := by decide +kernel
set_option maxRecDepth 20000 in
theorem ggX4_restIfItCan_X2_hasTraveller : GoodIn wsX4_restIfItCan wsX2_hasTraveller := goodIn_r _ [6, 7, 34, 35, 36, 37, 38, 39, 40] (by decide +kernel) (by decide +kernel)
set_option maxRecDepth 20000 in
theorem gX4_restIfItCan_X2_hasTraveller : GoodIn wsX4_restIfItCan (wsV RX4 73 RX2 yX2_hasTraveller wsX2_hasTraveller) := goodIn_app (goodIn_of _ (by decide +kernel)) ggX4_restIfItCan_X2_hasTraveller
set_option maxRecDepth 20000 in
theorem ggX4_restIfItCan_X4_doRest : GoodIn wsX4_restIfItCan wsX4_doRest := goodIn_r _ [12, 13, 1, 14, 15, 16, 17, 18, 5, 19, 20, 21, 22, 23, 24, 25, 26, 27, 28, 29, 30, 31, 32, 33, 34, 35, 36, 37, 38, 39, 40] (by decide +kernel) (by decide +kernel)
set_option maxRecDepth 20000 in
theorem gX4_restIfItCan_X4_doRest : GoodIn wsX4_restIfItCan (wsV RX4 93 RX4 yX4_doRest wsX4_doRest) := goodIn_app (goodIn_of _ (by decide +kernel)) ggX4_restIfItCan_X4_doRest
theorem dX4_restIfItCan_0 : decode cX4_restIfItCan 0 = .ok (.aload_n 0, 1) := by decide +kernel
theorem dX4_restIfItCan_1 : decode cX4_restIfItCan 1 = .ok (.getfield 18, 3) := by decide +kernel
theorem dX4_restIfItCan_4 : decode cX4_restIfItCan 4 = .ok (.iload_n 1, 1) := by decide +kernel
theorem dX4_restIfItCan_5 : decode cX4_restIfItCan 5 = .ok (.invokevirtual 73, 3) := by decide +kernel
theorem dX4_restIfItCan_8 : decode cX4_restIfItCan 8 = .ok (.istore_n 2, 1) := by decide +kernel
theorem dX4_restIfItCan_9 : decode cX4_restIfItCan 9 = .ok (.iload_n 2, 1) := by decide +kernel
theorem dX4_restIfItCan_10 : decode cX4_restIfItCan 10 = .ok (.ifCond .eq 8, 3) := by decide +kernel
theorem dX4_restIfItCan_13 : decode cX4_restIfItCan 13 = .ok (.aload_n 0, 1) := by decide +kernel
theorem dX4_restIfItCan_14 : decode cX4_restIfItCan 14 = .ok (.iload_n 1, 1) := by decide +kernel
theorem dX4_restIfItCan_15 : decode cX4_restIfItCan 15 = .ok (.invokevirtual 93, 3) := by decide +kernel
theorem dX4_restIfItCan_18 : decode cX4_restIfItCan 18 = .ok (.iload_n 2, 1) := by decide +kernel
theorem dX4_restIfItCan_19 : decode cX4_restIfItCan 19 = .ok (.ireturn, 1) := by decide +kernel
set_option maxRecDepth 20000 in
theorem ggX4_greaseIfItCan_X4_canGrease : GoodIn wsX4_greaseIfItCan wsX4_canGrease := goodIn_r _ [5, 6, 7, 8, 9, 10, 11, 12, 13, 18, 19, 20, 21, 22, 23, 24, 25, 26, 27, 28, 29, 30, 31] (by decide +kernel) (by decide +kernel)
set_option maxRecDepth 20000 in
theorem gX4_greaseIfItCan_X4_canGrease : GoodIn wsX4_greaseIfItCan (wsV RX4 97 RX4 yX4_canGrease wsX4_canGrease) := goodIn_app (goodIn_of _ (by decide +kernel)) ggX4_greaseIfItCan_X4_canGrease
set_option maxRecDepth 20000 in
theorem ggX4_greaseIfItCan_X4_doGrease : GoodIn wsX4_greaseIfItCan wsX4_doGrease := goodIn_r _ [17, 7, 18, 19, 20, 21, 22, 23, 24] (by decide +kernel) (by decide +kernel)
set_option maxRecDepth 20000 in
theorem gX4_greaseIfItCan_X4_doGrease : GoodIn wsX4_greaseIfItCan (wsV RX4 100 RX4 yX4_doGrease wsX4_doGrease) := goodIn_app (goodIn_of _ (by decide +kernel)) ggX4_greaseIfItCan_X4_doGrease
theorem dX4_greaseIfItCan_0 : decode cX4_greaseIfItCan 0 = .ok (.aload_n 0, 1) := by decide +kernel
theorem dX4_greaseIfItCan_1 : decode cX4_greaseIfItCan 1 = .ok (.iload_n 1, 1) := by decide +kernel
theorem dX4_greaseIfItCan_2 : decode cX4_greaseIfItCan 2 = .ok (.invokevirtual 97, 3) := by decide +kernel
theorem dX4_greaseIfItCan_5 : decode cX4_greaseIfItCan 5 = .ok (.istore_n 2, 1) := by decide +kernel
theorem dX4_greaseIfItCan_6 : decode cX4_greaseIfItCan 6 = .ok (.iload_n 2, 1) := by decide +kernel
theorem dX4_greaseIfItCan_7 : decode cX4_greaseIfItCan 7 = .ok (.ifCond .eq 8, 3) := by decide +kernel
theorem dX4_greaseIfItCan_10 : decode cX4_greaseIfItCan 10 = .ok (.aload_n 0, 1) := by decide +kernel
theorem dX4_greaseIfItCan_11 : decode cX4_greaseIfItCan 11 = .ok (.iload_n 1, 1) := by decide +kernel
theorem dX4_greaseIfItCan_12 : decode cX4_greaseIfItCan 12 = .ok (.invokevirtual 100, 3) := by decide +kernel
theorem dX4_greaseIfItCan_15 : decode cX4_greaseIfItCan 15 = .ok (.iload_n 2, 1) := by decide +kernel
theorem dX4_greaseIfItCan_16 : decode cX4_greaseIfItCan 16 = .ok (.ireturn, 1) := by decide +kernel
set_option maxRecDepth 20000 in
theorem ggX4_freezeIfItCan_X4_canFreeze : GoodIn wsX4_freezeIfItCan wsX4_canFreeze := goodIn_r _ [6, 1, 7, 8, 9, 10, 11, 12, 13] (by decide +kernel) (by decide +kernel)
set_option maxRecDepth 20000 in
theorem gX4_freezeIfItCan_X4_canFreeze : GoodIn wsX4_freezeIfItCan (wsV RX4 103 RX4 yX4_canFreeze wsX4_canFreeze) := goodIn_app (goodIn_of _ (by decide +kernel)) ggX4_freezeIfItCan_X4_canFreeze
theorem dX4_freezeIfItCan_0 : decode cX4_freezeIfItCan 0 = .ok (.aload_n 0, 1) := by decide +kernel
theorem dX4_freezeIfItCan_1 : decode cX4_freezeIfItCan 1 = .ok (.invokevirtual 103, 3) := by decide +kernel
theorem dX4_freezeIfItCan_4 : decode cX4_freezeIfItCan 4 = .ok (.istore_n 1, 1) := by decide +kernel
theorem dX4_freezeIfItCan_5 : decode cX4_freezeIfItCan 5 = .ok (.iload_n 1, 1) := by decide +kernel
theorem dX4_freezeIfItCan_6 : decode cX4_freezeIfItCan 6 = .ok (.ifCond .eq 13, 3) := by decide +kernel
theorem dX4_freezeIfItCan_9 : decode cX4_freezeIfItCan 9 = .ok (.aload_n 0, 1) := by decide +kernel
theorem dX4_freezeIfItCan_10 : decode cX4_freezeIfItCan 10 = .ok (.dup, 1) := by decide +kernel
theorem dX4_freezeIfItCan_11 : decode cX4_freezeIfItCan 11 = .ok (.getfield 44, 3) := by decide +kernel
theorem dX4_freezeIfItCan_14 : decode cX4_freezeIfItCan 14 = .ok (.iconst 1, 1) := by decide +kernel
theorem dX4_freezeIfItCan_15 : decode cX4_freezeIfItCan 15 = .ok (.iadd, 1) := by decide +kernel
theorem dX4_freezeIfItCan_16 : decode cX4_freezeIfItCan 16 = .ok (.putfield 44, 3) := by decide +kernel
theorem dX4_freezeIfItCan_19 : decode cX4_freezeIfItCan 19 = .ok (.iload_n 1, 1) := by decide +kernel
theorem dX4_freezeIfItCan_20 : decode cX4_freezeIfItCan 20 = .ok (.ireturn, 1) := by decide +kernel
set_option maxRecDepth 20000 in
theorem ggX4_doTold_X4_stepIfItCan : GoodIn wsX4_doTold wsX4_stepIfItCan := goodIn_r _ [7, 8, 9, 10, 6, 11, 1, 12, 13, 14, 15, 16, 17, 18, 19, 20, 21, 22, 23, 24, 25, 26, 27, 2, 28, 29, 30, 31, 32, 33, 34, 35, 36, 37, 38, 39, 40, 41, 42, 43, 44, 45, 46, 47, 48, 49, 50, 51, 52, 53, 54, 55, 94, 95, 96, 97, 98, 99, 100, 101, 102, 103, 104, 105, 106, 107] (by decide +kernel) (by decide +kernel)
set_option maxRecDepth 20000 in
theorem gX4_doTold_X4_stepIfItCan : GoodIn wsX4_doTold (wsV RX4 107 RX4 yX4_stepIfItCan wsX4_stepIfItCan) := goodIn_app (goodIn_of _ (by decide +kernel)) ggX4_doTold_X4_stepIfItCan
set_option maxRecDepth 20000 in
theorem ggX4_doTold_X4_restIfItCan : GoodIn wsX4_doTold wsX4_restIfItCan := goodIn_r _ [59, 1, 13, 14, 15, 16, 17, 18, 60, 61, 62, 6, 63, 12, 54, 37, 55, 64, 65, 66, 67, 68, 69, 70, 71, 72, 73, 94, 95, 96, 97, 98, 99, 100, 101, 102, 103, 104, 105, 106, 107] (by decide +kernel) (by decide +kernel)
set_option maxRecDepth 20000 in
theorem gX4_doTold_X4_restIfItCan : GoodIn wsX4_doTold (wsV RX4 110 RX4 yX4_restIfItCan wsX4_restIfItCan) := goodIn_app (goodIn_of _ (by decide +kernel)) ggX4_doTold_X4_restIfItCan
set_option maxRecDepth 20000 in
theorem ggX4_doTold_X4_greaseIfItCan : GoodIn wsX4_doTold wsX4_greaseIfItCan := goodIn_r _ [77, 78, 79, 80, 6, 81, 1, 39, 28, 29, 30, 16, 31, 32, 82, 83, 84, 85, 94, 95, 96, 97, 98, 99, 100, 101, 102, 103, 104, 105, 106, 107] (by decide +kernel) (by decide +kernel)
set_option maxRecDepth 20000 in
theorem gX4_doTold_X4_greaseIfItCan : GoodIn wsX4_doTold (wsV RX4 113 RX4 yX4_greaseIfItCan wsX4_greaseIfItCan) := goodIn_app (goodIn_of _ (by decide +kernel)) ggX4_doTold_X4_greaseIfItCan
set_option maxRecDepth 20000 in
theorem ggX4_doTold_X4_freezeIfItCan : GoodIn wsX4_doTold wsX4_freezeIfItCan := goodIn_r _ [89, 38, 90, 91, 92, 6, 93, 94, 95, 96, 97, 98, 99, 100] (by decide +kernel) (by decide +kernel)
set_option maxRecDepth 20000 in
theorem gX4_doTold_X4_freezeIfItCan : GoodIn wsX4_doTold (wsV RX4 116 RX4 yX4_freezeIfItCan wsX4_freezeIfItCan) := goodIn_app (goodIn_of _ (by decide +kernel)) ggX4_doTold_X4_freezeIfItCan
set_option maxRecDepth 20000 in
theorem ggX4_doTold_X2_hasTraveller : GoodIn wsX4_doTold wsX2_hasTraveller := goodIn_r _ [17, 18, 101, 102, 103, 104, 105, 106, 107] (by decide +kernel) (by decide +kernel)
set_option maxRecDepth 20000 in
theorem gX4_doTold_X2_hasTraveller : GoodIn wsX4_doTold (wsV RX4 73 RX2 yX2_hasTraveller wsX2_hasTraveller) := goodIn_app (goodIn_of _ (by decide +kernel)) ggX4_doTold_X2_hasTraveller
theorem dX4_doTold_0 : decode cX4_doTold 0 = .ok (.iload_n 1, 1) := by decide +kernel
