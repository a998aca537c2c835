theorem goodIn_r {big : List Cond} (ws : List Cond) (ps : List Nat) (hp : ws = ps.filterMap (fun i => big[i]?)) (h : ws.all goodWord = true) : GoodIn big ws := by
  intro w hw
  have h1 := List.all_eq_true.mp h w hw
  rw [hp] at hw
  obtain ⟨i, -, hi⟩ := List.mem_filterMap.mp hw
  have hm : w ∈ big := by first | exact List.mem_of_getElem? hi | exact List.getElem?_mem hi
  exact ⟨hm, good_of_word h1⟩
theorem goodIn_app {big a b : List Cond} (ha : GoodIn big a) (hb : GoodIn big b) : GoodIn big (a ++ b) := fun w h => (List.mem_append.mp h).elim (ha w) (hb w)
theorem goodIn_ca {big a b : List Cond} {c : Cond} (ha : GoodIn big (c :: a)) (hb : GoodIn big b) : GoodIn big (c :: (a ++ b)) := fun w h => (List.mem_cons.mp h).elim (fun e => ha w (List.mem_cons.mpr (Or.inl e))) (fun h => (List.mem_append.mp h).elim (fun h => ha w (List.mem_cons.mpr (Or.inr h))) (hb w))
theorem goodIn_sub {big ws : List Cond} (hm : ∀ w ∈ ws, w ∈ big) (h : ws.all goodWord = true) : GoodIn big ws := fun w hw => ⟨hm w hw, good_of_word (List.all_eq_true.mp h w hw)⟩
def RX0 : String := "KeptVolunteers$Bill"
def TX0 : u_T := fun k => match k with
  | 0 => ("KeptVolunteers$Bill", "tricks", "[LKeptVolunteers$Trick;", true)
  | _ => ("KeptVolunteers$Bill", "people", "I", true)
def tyX0 : Nat → FieldType := fun k => match k with
  | 0 => .array (.object "KeptVolunteers$Trick")
  | _ => .int
abbrev wsX00 : List Cond := u_ws RX0 TX0 2
theorem nmX0 : ∀ a, a < 2 → ∀ b, b < 2 → a ≠ b → (TX0 a).2.1 ≠ (TX0 b).2.1 := by decide +kernel
theorem tyX0_ok : ∀ k, k < 2 → parseFieldDescriptor (TX0 k).2.2.1 = some (tyX0 k) := by decide +kernel
abbrev cX0_init : ByteArray := prog_2_method_1_code
def yX0_init : MethodName := ⟨RX0, "<init>", "([LKeptVolunteers$Trick;I)V"⟩
abbrev cX0_clashesOf : ByteArray := prog_2_method_2_code
def yX0_clashesOf : MethodName := ⟨RX0, "clashesOf", "(I)I"⟩
abbrev cX0_isDoneBy : ByteArray := prog_2_method_3_code
def yX0_isDoneBy : MethodName := ⟨RX0, "isDoneBy", "(II[I)Z"⟩
abbrev cX0_busyHoursOf : ByteArray := prog_2_method_4_code
def yX0_busyHoursOf : MethodName := ⟨RX0, "busyHoursOf", "(I)I"⟩
abbrev cX0_wantedIn : ByteArray := prog_2_method_5_code
def yX0_wantedIn : MethodName := ⟨RX0, "wantedIn", "(I)I"⟩
abbrev cX0_bound : ByteArray := prog_2_method_6_code
def yX0_bound : MethodName := ⟨RX0, "bound", "()I"⟩
abbrev cX0_trickToTry : ByteArray := prog_2_method_7_code
def yX0_trickToTry : MethodName := ⟨RX0, "trickToTry", "(I)I"⟩
def RX1 : String := "KeptVolunteers$LongTrick"
def TX1 : u_T := fun k => match k with
  | 0 => ("KeptVolunteers$Trick", "hour", "I", true)
  | 1 => ("KeptVolunteers$Trick", "hours", "I", true)
  | _ => ("KeptVolunteers$Trick", "need", "I", true)
def tyX1 : Nat → FieldType := fun k => match k with
  | 0 => .int
  | 1 => .int
  | _ => .int
abbrev wsX10 : List Cond := u_ws RX1 TX1 3
theorem nmX1 : ∀ a, a < 3 → ∀ b, b < 3 → a ≠ b → (TX1 a).2.1 ≠ (TX1 b).2.1 := by decide +kernel
theorem tyX1_ok : ∀ k, k < 3 → parseFieldDescriptor (TX1 k).2.2.1 = some (tyX1 k) := by decide +kernel
abbrev cX1_init : ByteArray := prog_3_method_1_code
def yX1_init : MethodName := ⟨RX1, "<init>", "(III)V"⟩
abbrev cX1_kind : ByteArray := prog_3_method_2_code
def yX1_kind : MethodName := ⟨RX1, "kind", "()I"⟩
abbrev cX1_restHours : ByteArray := prog_3_method_3_code
def yX1_restHours : MethodName := ⟨RX1, "restHours", "()I"⟩
def RX2 : String := "KeptVolunteers$Page"
def TX2 : u_T := fun k => match k with
  | 0 => ("KeptVolunteers$Page", "codes", "[I", true)
  | _ => ("KeptVolunteers$Page", "size", "I", false)
def tyX2 : Nat → FieldType := fun k => match k with
  | 0 => .array .int
  | _ => .int
abbrev wsX20 : List Cond := u_ws RX2 TX2 2
theorem nmX2 : ∀ a, a < 2 → ∀ b, b < 2 → a ≠ b → (TX2 a).2.1 ≠ (TX2 b).2.1 := by decide +kernel
theorem tyX2_ok : ∀ k, k < 2 → parseFieldDescriptor (TX2 k).2.2.1 = some (tyX2 k) := by decide +kernel
abbrev cX2_init : ByteArray := prog_4_method_1_code
def yX2_init : MethodName := ⟨RX2, "<init>", "()V"⟩
abbrev cX2_put : ByteArray := prog_4_method_2_code
def yX2_put : MethodName := ⟨RX2, "put", "(I)Z"⟩
abbrev cX2_firstFault : ByteArray := prog_4_method_3_code
def yX2_firstFault : MethodName := ⟨RX2, "firstFault", "()I"⟩
abbrev cX2_isShow : ByteArray := prog_4_method_4_code
def yX2_isShow : MethodName := ⟨RX2, "isShow", "()Z"⟩
abbrev cX2_tricksEnd : ByteArray := prog_4_method_5_code
def yX2_tricksEnd : MethodName := ⟨RX2, "tricksEnd", "()I"⟩
abbrev cX2_isOfTricks : ByteArray := prog_4_method_6_code
def yX2_isOfTricks : MethodName := ⟨RX2, "isOfTricks", "(I)Z"⟩
abbrev cX2_isOfPeople : ByteArray := prog_4_method_7_code
def yX2_isOfPeople : MethodName := ⟨RX2, "isOfPeople", "(II)Z"⟩
abbrev cX2_isDigit : ByteArray := prog_4_method_8_code
def yX2_isDigit : MethodName := ⟨RX2, "isDigit", "(III)Z"⟩
abbrev cX2_digitAt : ByteArray := prog_4_method_9_code
def yX2_digitAt : MethodName := ⟨RX2, "digitAt", "(I)I"⟩
abbrev cX2_readBill : ByteArray := prog_4_method_10_code
def yX2_readBill : MethodName := ⟨RX2, "readBill", "()LKeptVolunteers$Bill;"⟩
abbrev cX2_readTrick : ByteArray := prog_4_method_11_code
def yX2_readTrick : MethodName := ⟨RX2, "readTrick", "(I)LKeptVolunteers$Trick;"⟩
abbrev cX2_readPeople : ByteArray := prog_4_method_12_code
def yX2_readPeople : MethodName := ⟨RX2, "readPeople", "(LKeptVolunteers$Troupe;I)V"⟩
def RX3 : String := "KeptVolunteers$Pair"
def TX3 : u_T := fun k => match k with
  | 0 => ("KeptVolunteers$Trick", "hour", "I", true)
  | 1 => ("KeptVolunteers$Trick", "hours", "I", true)
  | _ => ("KeptVolunteers$Trick", "need", "I", true)
def tyX3 : Nat → FieldType := fun k => match k with
  | 0 => .int
  | 1 => .int
  | _ => .int
abbrev wsX30 : List Cond := u_ws RX3 TX3 3
theorem nmX3 : ∀ a, a < 3 → ∀ b, b < 3 → a ≠ b → (TX3 a).2.1 ≠ (TX3 b).2.1 := by decide +kernel
theorem tyX3_ok : ∀ k, k < 3 → parseFieldDescriptor (TX3 k).2.2.1 = some (tyX3 k) := by decide +kernel
abbrev cX3_init : ByteArray := prog_5_method_1_code
def yX3_init : MethodName := ⟨RX3, "<init>", "(III)V"⟩
abbrev cX3_kind : ByteArray := prog_5_method_2_code
def yX3_kind : MethodName := ⟨RX3, "kind", "()I"⟩
abbrev cX3_crew : ByteArray := prog_5_method_3_code
def yX3_crew : MethodName := ⟨RX3, "crew", "()I"⟩
def RX4 : String := "KeptVolunteers$Planner"
def TX4 : u_T := fun k => match k with
  | 0 => ("KeptVolunteers$Planner", "best", "[I", true)
  | 1 => ("KeptVolunteers$Planner", "chosen", "[I", true)
  | 2 => ("KeptVolunteers$Planner", "ways", "[I", true)
  | 3 => ("KeptVolunteers$Planner", "clashes", "[I", true)
  | 4 => ("KeptVolunteers$Planner", "apart", "[I", true)
  | 5 => ("KeptVolunteers$Planner", "tricks", "I", false)
  | 6 => ("KeptVolunteers$Planner", "away", "I", false)
  | _ => ("KeptVolunteers$Planner", "bestDone", "I", false)
def tyX4 : Nat → FieldType := fun k => match k with
  | 0 => .array .int
  | 1 => .array .int
  | 2 => .array .int
  | 3 => .array .int
  | 4 => .array .int
  | 5 => .int
  | 6 => .int
  | _ => .int
abbrev wsX40 : List Cond := u_ws RX4 TX4 8
theorem nmX4 : ∀ a, a < 8 → ∀ b, b < 8 → a ≠ b → (TX4 a).2.1 ≠ (TX4 b).2.1 := by decide +kernel
theorem tyX4_ok : ∀ k, k < 8 → parseFieldDescriptor (TX4 k).2.2.1 = some (tyX4 k) := by decide +kernel
abbrev cX4_init : ByteArray := prog_6_method_1_code
def yX4_init : MethodName := ⟨RX4, "<init>", "()V"⟩
abbrev cX4_prepare : ByteArray := prog_6_method_2_code
def yX4_prepare : MethodName := ⟨RX4, "prepare", "(LKeptVolunteers$Bill;[I)V"⟩
abbrev cX4_search : ByteArray := prog_6_method_3_code
def yX4_search : MethodName := ⟨RX4, "search", "(II)I"⟩
abbrev cX4_choose : ByteArray := prog_6_method_4_code
def yX4_choose : MethodName := ⟨RX4, "choose", "(II)V"⟩
abbrev cX4_hindersLater : ByteArray := prog_6_method_5_code
def yX4_hindersLater : MethodName := ⟨RX4, "hindersLater", "(I)Z"⟩
abbrev cX4_stillOpen : ByteArray := prog_6_method_6_code
def yX4_stillOpen : MethodName := ⟨RX4, "stillOpen", "(I)I"⟩
abbrev cX4_openWays : ByteArray := prog_6_method_7_code
def yX4_openWays : MethodName := ⟨RX4, "openWays", "(II)I"⟩
abbrev cX4_fewestOf : ByteArray := prog_6_method_8_code
def yX4_fewestOf : MethodName := ⟨RX4, "fewestOf", "(I)I"⟩
abbrev cX4_sparedOf : ByteArray := prog_6_method_9_code
def yX4_sparedOf : MethodName := ⟨RX4, "sparedOf", "(I)I"⟩
def RX5 : String := "KeptVolunteers$Rope"
def TX5 : u_T := fun k => match k with
  | 0 => ("KeptVolunteers$Trick", "hour", "I", true)
  | 1 => ("KeptVolunteers$Trick", "hours", "I", true)
  | _ => ("KeptVolunteers$Trick", "need", "I", true)
def tyX5 : Nat → FieldType := fun k => match k with
  | 0 => .int
  | 1 => .int
  | _ => .int
abbrev wsX50 : List Cond := u_ws RX5 TX5 3
theorem nmX5 : ∀ a, a < 3 → ∀ b, b < 3 → a ≠ b → (TX5 a).2.1 ≠ (TX5 b).2.1 := by decide +kernel
theorem tyX5_ok : ∀ k, k < 3 → parseFieldDescriptor (TX5 k).2.2.1 = some (tyX5 k) := by decide +kernel
abbrev cX5_init : ByteArray := prog_7_method_1_code
def yX5_init : MethodName := ⟨RX5, "<init>", "(III)V"⟩
abbrev cX5_kind : ByteArray := prog_7_method_2_code
def yX5_kind : MethodName := ⟨RX5, "kind", "()I"⟩
abbrev cX5_suits : ByteArray := prog_7_method_3_code
def yX5_suits : MethodName := ⟨RX5, "suits", "(I)Z"⟩
abbrev cX5_holdsWith : ByteArray := prog_7_method_4_code
def yX5_holdsWith : MethodName := ⟨RX5, "holdsWith", "(I)Z"⟩
def RX6 : String := "KeptVolunteers$Saw"
def TX6 : u_T := fun k => match k with
  | 0 => ("KeptVolunteers$Trick", "hour", "I", true)
  | 1 => ("KeptVolunteers$Trick", "hours", "I", true)
  | _ => ("KeptVolunteers$Trick", "need", "I", true)
def tyX6 : Nat → FieldType := fun k => match k with
  | 0 => .int
  | 1 => .int
  | _ => .int
abbrev wsX60 : List Cond := u_ws RX6 TX6 3
theorem nmX6 : ∀ a, a < 3 → ∀ b, b < 3 → a ≠ b → (TX6 a).2.1 ≠ (TX6 b).2.1 := by decide +kernel
theorem tyX6_ok : ∀ k, k < 3 → parseFieldDescriptor (TX6 k).2.2.1 = some (tyX6 k) := by decide +kernel
abbrev cX6_init : ByteArray := prog_8_method_1_code
def yX6_init : MethodName := ⟨RX6, "<init>", "(III)V"⟩
abbrev cX6_kind : ByteArray := prog_8_method_2_code
def yX6_kind : MethodName := ⟨RX6, "kind", "()I"⟩
abbrev cX6_suits : ByteArray := prog_8_method_3_code
def yX6_suits : MethodName := ⟨RX6, "suits", "(I)Z"⟩
def RX7 : String := "KeptVolunteers$Tour"
def TX7 : u_T := fun k => match k with
  | 0 => ("KeptVolunteers$Tour", "line", "[I", true)
  | 1 => ("KeptVolunteers$Tour", "taken", "[I", true)
  | 2 => ("KeptVolunteers$Tour", "size", "I", false)
  | 3 => ("KeptVolunteers$Tour", "done", "I", false)
  | 4 => ("KeptVolunteers$Tour", "gone", "I", false)
  | _ => ("KeptVolunteers$Tour", "seed", "I", false)
def tyX7 : Nat → FieldType := fun k => match k with
  | 0 => .array .int
  | 1 => .array .int
  | 2 => .int
  | 3 => .int
  | 4 => .int
  | _ => .int
abbrev wsX70 : List Cond := u_ws RX7 TX7 6
theorem nmX7 : ∀ a, a < 6 → ∀ b, b < 6 → a ≠ b → (TX7 a).2.1 ≠ (TX7 b).2.1 := by decide +kernel
theorem tyX7_ok : ∀ k, k < 6 → parseFieldDescriptor (TX7 k).2.2.1 = some (tyX7 k) := by decide +kernel
abbrev cX7_init : ByteArray := prog_9_method_1_code
def yX7_init : MethodName := ⟨RX7, "<init>", "()V"⟩
abbrev cX7_go : ByteArray := prog_9_method_2_code
def yX7_go : MethodName := ⟨RX7, "go", "(LKeptVolunteers$Bill;II)V"⟩
abbrev cX7_drawStrong : ByteArray := prog_9_method_3_code
def yX7_drawStrong : MethodName := ⟨RX7, "drawStrong", "()I"⟩
abbrev cX7_callUp : ByteArray := prog_9_method_4_code
def yX7_callUp : MethodName := ⟨RX7, "callUp", "(I)V"⟩
abbrev cX7_play : ByteArray := prog_9_method_5_code
def yX7_play : MethodName := ⟨RX7, "play", "(LKeptVolunteers$Bill;)I"⟩
abbrev cX7_busyFor : ByteArray := prog_9_method_6_code
def yX7_busyFor : MethodName := ⟨RX7, "busyFor", "(II)I"⟩
abbrev cX7_take : ByteArray := prog_9_method_7_code
def yX7_take : MethodName := ⟨RX7, "take", "(LKeptVolunteers$Trick;I)I"⟩
abbrev cX7_sendHome : ByteArray := prog_9_method_8_code
def yX7_sendHome : MethodName := ⟨RX7, "sendHome", "(I)V"⟩
def RX8 : String := "KeptVolunteers$Trick"
def TX8 : u_T := fun k => match k with
  | 0 => ("KeptVolunteers$Trick", "hour", "I", true)
  | 1 => ("KeptVolunteers$Trick", "hours", "I", true)
  | _ => ("KeptVolunteers$Trick", "need", "I", true)
def tyX8 : Nat → FieldType := fun k => match k with
  | 0 => .int
  | 1 => .int
  | _ => .int
abbrev wsX80 : List Cond := u_ws RX8 TX8 3
theorem nmX8 : ∀ a, a < 3 → ∀ b, b < 3 → a ≠ b → (TX8 a).2.1 ≠ (TX8 b).2.1 := by decide +kernel
theorem tyX8_ok : ∀ k, k < 3 → parseFieldDescriptor (TX8 k).2.2.1 = some (tyX8 k) := by decide +kernel
abbrev cX8_init : ByteArray := prog_10_method_1_code
def yX8_init : MethodName := ⟨RX8, "<init>", "(III)V"⟩
abbrev cX8_kind : ByteArray := prog_10_method_2_code
def yX8_kind : MethodName := ⟨RX8, "kind", "()I"⟩
abbrev cX8_crew : ByteArray := prog_10_method_3_code
def yX8_crew : MethodName := ⟨RX8, "crew", "()I"⟩
abbrev cX8_restHours : ByteArray := prog_10_method_4_code
def yX8_restHours : MethodName := ⟨RX8, "restHours", "()I"⟩
abbrev cX8_suits : ByteArray := prog_10_method_5_code
def yX8_suits : MethodName := ⟨RX8, "suits", "(I)Z"⟩
abbrev cX8_holdsWith : ByteArray := prog_10_method_6_code
def yX8_holdsWith : MethodName := ⟨RX8, "holdsWith", "(I)Z"⟩
abbrev cX8_runningHours : ByteArray := prog_10_method_7_code
def yX8_runningHours : MethodName := ⟨RX8, "runningHours", "()I"⟩
abbrev cX8_busyHours : ByteArray := prog_10_method_8_code
def yX8_busyHours : MethodName := ⟨RX8, "busyHours", "()I"⟩
abbrev cX8_suitedStrongs : ByteArray := prog_10_method_9_code
def yX8_suitedStrongs : MethodName := ⟨RX8, "suitedStrongs", "()I"⟩
def RX9 : String := "KeptVolunteers$Troupe"
def TX9 : u_T := fun k => match k with
  | 0 => ("KeptVolunteers$Troupe", "strong", "[I", true)
  | 1 => ("KeptVolunteers$Troupe", "town", "[I", true)
  | 2 => ("KeptVolunteers$Troupe", "held", "[I", true)
  | 3 => ("KeptVolunteers$Troupe", "casting", "[I", true)
  | 4 => ("KeptVolunteers$Troupe", "seenOf", "[I", true)
  | 5 => ("KeptVolunteers$Troupe", "seenStrongs", "[I", true)
  | 6 => ("KeptVolunteers$Troupe", "kept", "I", false)
  | 7 => ("KeptVolunteers$Troupe", "here", "I", false)
  | 8 => ("KeptVolunteers$Troupe", "nights", "I", false)
  | 9 => ("KeptVolunteers$Troupe", "doneOnNights", "I", false)
  | 10 => ("KeptVolunteers$Troupe", "moves", "I", false)
  | 11 => ("KeptVolunteers$Troupe", "called", "I", false)
  | 12 => ("KeptVolunteers$Troupe", "gone", "I", false)
  | _ => ("KeptVolunteers$Troupe", "seen", "I", false)
def tyX9 : Nat → FieldType := fun k => match k with
  | 0 => .array .int
  | 1 => .array .int
  | 2 => .array .int
  | 3 => .array .int
  | 4 => .array .int
  | 5 => .array .int
  | 6 => .int
  | 7 => .int
  | 8 => .int
  | 9 => .int
  | 10 => .int
  | 11 => .int
  | 12 => .int
  | _ => .int
abbrev wsX90 : List Cond := u_ws RX9 TX9 14
theorem nmX9 : ∀ a, a < 14 → ∀ b, b < 14 → a ≠ b → (TX9 a).2.1 ≠ (TX9 b).2.1 := by decide +kernel
theorem tyX9_ok : ∀ k, k < 14 → parseFieldDescriptor (TX9 k).2.2.1 = some (tyX9 k) := by decide +kernel
abbrev cX9_init : ByteArray := prog_11_method_1_code
def yX9_init : MethodName := ⟨RX9, "<init>", "()V"⟩
abbrev cX9_startAnew : ByteArray := prog_11_method_2_code
def yX9_startAnew : MethodName := ⟨RX9, "startAnew", "(I)V"⟩
abbrev cX9_copyFrom : ByteArray := prog_11_method_3_code
def yX9_copyFrom : MethodName := ⟨RX9, "copyFrom", "(LKeptVolunteers$Troupe;)V"⟩
abbrev cX9_tricksOf : ByteArray := prog_11_method_4_code
def yX9_tricksOf : MethodName := ⟨RX9, "tricksOf", "(I)I"⟩
abbrev cX9_suitedFor : ByteArray := prog_11_method_5_code
def yX9_suitedFor : MethodName := ⟨RX9, "suitedFor", "(LKeptVolunteers$Trick;)I"⟩
abbrev cX9_holdRopes : ByteArray := prog_11_method_6_code
def yX9_holdRopes : MethodName := ⟨RX9, "holdRopes", "(I)V"⟩
abbrev cX9_leave : ByteArray := prog_11_method_7_code
def yX9_leave : MethodName := ⟨RX9, "leave", "(I)V"⟩
abbrev cX9_join : ByteArray := prog_11_method_8_code
def yX9_join : MethodName := ⟨RX9, "join", "(II)V"⟩
abbrev cX9_movesAhead : ByteArray := prog_11_method_9_code
def yX9_movesAhead : MethodName := ⟨RX9, "movesAhead", "(I)I"⟩
abbrev cX9_addSeen : ByteArray := prog_11_method_10_code
def yX9_addSeen : MethodName := ⟨RX9, "addSeen", "(II)Z"⟩
abbrev cX9_strongsOf : ByteArray := prog_11_method_11_code
def yX9_strongsOf : MethodName := ⟨RX9, "strongsOf", "(I)I"⟩
def RX10 : String := "KeptVolunteers"
def TX10 : u_T := fun k => match k with
  | 0 => ("KeptVolunteers", "page", "LKeptVolunteers$Page;", true)
  | 1 => ("KeptVolunteers", "troupe", "LKeptVolunteers$Troupe;", true)
  | 2 => ("KeptVolunteers", "picture", "LKeptVolunteers$Troupe;", true)
  | 3 => ("KeptVolunteers", "planner", "LKeptVolunteers$Planner;", true)
  | 4 => ("KeptVolunteers", "tour", "LKeptVolunteers$Tour;", true)
  | 5 => ("KeptVolunteers", "bill", "LKeptVolunteers$Bill;", false)
  | 6 => ("KeptVolunteers", "pictured", "Z", false)
  | 7 => ("KeptVolunteers", "showsRead", "I", false)
  | 8 => ("KeptVolunteers", "mostsDone", "I", false)
  | 9 => ("KeptVolunteers", "fewestsDone", "I", false)
  | _ => ("KeptVolunteers", "sparesDone", "I", false)
def tyX10 : Nat → FieldType := fun k => match k with
  | 0 => .object "KeptVolunteers$Page"
  | 1 => .object "KeptVolunteers$Troupe"
  | 2 => .object "KeptVolunteers$Troupe"
  | 3 => .object "KeptVolunteers$Planner"
  | 4 => .object "KeptVolunteers$Tour"
  | 5 => .object "KeptVolunteers$Bill"
  | 6 => .boolean
  | 7 => .int
  | 8 => .int
  | 9 => .int
  | _ => .int
abbrev wsX100 : List Cond := u_ws RX10 TX10 11
theorem nmX10 : ∀ a, a < 11 → ∀ b, b < 11 → a ≠ b → (TX10 a).2.1 ≠ (TX10 b).2.1 := by decide +kernel
theorem tyX10_ok : ∀ k, k < 11 → parseFieldDescriptor (TX10 k).2.2.1 = some (tyX10 k) := by decide +kernel
abbrev cX10_init : ByteArray := prog_1_method_1_code
def yX10_init : MethodName := ⟨RX10, "<init>", "()V"⟩
abbrev cX10_letter : ByteArray := prog_1_method_2_code
def yX10_letter : MethodName := ⟨RX10, "letter", "(I)I"⟩
abbrev cX10_blank : ByteArray := prog_1_method_3_code
def yX10_blank : MethodName := ⟨RX10, "blank", "()I"⟩
abbrev cX10_fault : ByteArray := prog_1_method_4_code
def yX10_fault : MethodName := ⟨RX10, "fault", "()I"⟩
abbrev cX10_show : ByteArray := prog_1_method_5_code
def yX10_show : MethodName := ⟨RX10, "show", "()I"⟩
abbrev cX10_trick : ByteArray := prog_1_method_6_code
def yX10_trick : MethodName := ⟨RX10, "trick", "(II)I"⟩
abbrev cX10_as : ByteArray := prog_1_method_7_code
def yX10_as : MethodName := ⟨RX10, "as", "(II)I"⟩
abbrev cX10_person : ByteArray := prog_1_method_8_code
def yX10_person : MethodName := ⟨RX10, "person", "(II)I"⟩
abbrev cX10_cast : ByteArray := prog_1_method_9_code
def yX10_cast : MethodName := ⟨RX10, "cast", "(II)I"⟩
abbrev cX10_drop : ByteArray := prog_1_method_10_code
def yX10_drop : MethodName := ⟨RX10, "drop", "(II)I"⟩
abbrev cX10_clear : ByteArray := prog_1_method_11_code
def yX10_clear : MethodName := ⟨RX10, "clear", "()I"⟩
abbrev cX10_fill : ByteArray := prog_1_method_12_code
def yX10_fill : MethodName := ⟨RX10, "fill", "()I"⟩
abbrev cX10_night : ByteArray := prog_1_method_13_code
def yX10_night : MethodName := ⟨RX10, "night", "()I"⟩
abbrev cX10_move : ByteArray := prog_1_method_14_code
def yX10_move : MethodName := ⟨RX10, "move", "(Z)I"⟩
abbrev cX10_letGo : ByteArray := prog_1_method_15_code
def yX10_letGo : MethodName := ⟨RX10, "letGo", "(I)I"⟩
abbrev cX10_call : ByteArray := prog_1_method_16_code
def yX10_call : MethodName := ⟨RX10, "call", "(II)I"⟩
abbrev cX10_most : ByteArray := prog_1_method_17_code
def yX10_most : MethodName := ⟨RX10, "most", "(I)I"⟩
abbrev cX10_fewest : ByteArray := prog_1_method_18_code
def yX10_fewest : MethodName := ⟨RX10, "fewest", "(I)I"⟩
abbrev cX10_spare : ByteArray := prog_1_method_19_code
def yX10_spare : MethodName := ⟨RX10, "spare", "()I"⟩
abbrev cX10_wants : ByteArray := prog_1_method_20_code
def yX10_wants : MethodName := ⟨RX10, "wants", "(I)I"⟩
abbrev cX10_route : ByteArray := prog_1_method_21_code
def yX10_route : MethodName := ⟨RX10, "route", "(II)I"⟩
abbrev cX10_see : ByteArray := prog_1_method_22_code
def yX10_see : MethodName := ⟨RX10, "see", "(IIZ)I"⟩
abbrev cX10_forget : ByteArray := prog_1_method_23_code
def yX10_forget : MethodName := ⟨RX10, "forget", "()I"⟩
abbrev cX10_tours : ByteArray := prog_1_method_24_code
def yX10_tours : MethodName := ⟨RX10, "tours", "(III)I"⟩
abbrev cX10_image : ByteArray := prog_1_method_25_code
def yX10_image : MethodName := ⟨RX10, "image", "()I"⟩
abbrev cX10_restore : ByteArray := prog_1_method_26_code
def yX10_restore : MethodName := ⟨RX10, "restore", "()I"⟩
abbrev cX10_count : ByteArray := prog_1_method_27_code
def yX10_count : MethodName := ⟨RX10, "count", "(I)I"⟩
abbrev cX10_digest : ByteArray := prog_1_method_28_code
def yX10_digest : MethodName := ⟨RX10, "digest", "()J"⟩
abbrev cX10_digestOfShow : ByteArray := prog_1_method_29_code
def yX10_digestOfShow : MethodName := ⟨RX10, "digestOfShow", "(J)J"⟩
abbrev cX10_hasShow : ByteArray := prog_1_method_30_code
def yX10_hasShow : MethodName := ⟨RX10, "hasShow", "()Z"⟩
abbrev cX10_isTrick : ByteArray := prog_1_method_31_code
def yX10_isTrick : MethodName := ⟨RX10, "isTrick", "(I)Z"⟩
abbrev cX10_isNumber : ByteArray := prog_1_method_32_code
def yX10_isNumber : MethodName := ⟨RX10, "isNumber", "(I)Z"⟩
abbrev cX10_isDoneNow : ByteArray := prog_1_method_33_code
def yX10_isDoneNow : MethodName := ⟨RX10, "isDoneNow", "(I)Z"⟩
abbrev cX10_doneNow : ByteArray := prog_1_method_34_code
def yX10_doneNow : MethodName := ⟨RX10, "doneNow", "()I"⟩
abbrev cX10_mayBeCast : ByteArray := prog_1_method_35_code
def yX10_mayBeCast : MethodName := ⟨RX10, "mayBeCast", "(II)Z"⟩
abbrev cX10_planMost : ByteArray := prog_1_method_36_code
def yX10_planMost : MethodName := ⟨RX10, "planMost", "()I"⟩
abbrev cX10_has : ByteArray := prog_1_method_37_code
def yX10_has : MethodName := ⟨RX10, "has", "(II)Z"⟩
abbrev cX10_isOfKind : ByteArray := prog_1_method_38_code
def yX10_isOfKind : MethodName := ⟨RX10, "isOfKind", "(LKeptVolunteers$Trick;I)Z"⟩
abbrev cX10_fewestMoves : ByteArray := prog_1_method_39_code
def yX10_fewestMoves : MethodName := ⟨RX10, "fewestMoves", "(I)I"⟩
abbrev cX10_firstMove : ByteArray := prog_1_method_40_code
def yX10_firstMove : MethodName := ⟨RX10, "firstMove", "(I)I"⟩
abbrev cX10_movesOnFirst : ByteArray := prog_1_method_41_code
def yX10_movesOnFirst : MethodName := ⟨RX10, "movesOnFirst", "(I)I"⟩
abbrev cX10_movesBackFirst : ByteArray := prog_1_method_42_code
def yX10_movesBackFirst : MethodName := ⟨RX10, "movesBackFirst", "(I)I"⟩
abbrev cX10_movesBackFor : ByteArray := prog_1_method_43_code
def yX10_movesBackFor : MethodName := ⟨RX10, "movesBackFor", "(II)I"⟩
def RX11 : String := "KeptVolunteersModel"
def TX11 : u_T := fun k => match k with
  | 0 => ("KeptVolunteersModel", "page", "[I", true)
  | 1 => ("KeptVolunteersModel", "pageMany", "I", false)
  | 2 => ("KeptVolunteersModel", "endAt", "I", false)
  | 3 => ("KeptVolunteersModel", "tricks", "I", false)
  | 4 => ("KeptVolunteersModel", "people", "I", false)
  | 5 => ("KeptVolunteersModel", "town", "I", false)
  | 6 => ("KeptVolunteersModel", "nights", "I", false)
  | 7 => ("KeptVolunteersModel", "doneAll", "I", false)
  | 8 => ("KeptVolunteersModel", "moves", "I", false)
  | 9 => ("KeptVolunteersModel", "called", "I", false)
  | 10 => ("KeptVolunteersModel", "gone", "I", false)
  | 11 => ("KeptVolunteersModel", "showsRead", "I", false)
  | 12 => ("KeptVolunteersModel", "rows", "[I", true)
  | 13 => ("KeptVolunteersModel", "folk", "[I", true)
  | 14 => ("KeptVolunteersModel", "casts", "[I", true)
  | 15 => ("KeptVolunteersModel", "mostsDone", "I", false)
  | 16 => ("KeptVolunteersModel", "choices", "[I", true)
  | 17 => ("KeptVolunteersModel", "choicesMany", "[I", true)
  | 18 => ("KeptVolunteersModel", "row", "[I", true)
  | 19 => ("KeptVolunteersModel", "bestRow", "[I", true)
  | 20 => ("KeptVolunteersModel", "places", "[I", true)
  | 21 => ("KeptVolunteersModel", "fewestsDone", "I", false)
  | 22 => ("KeptVolunteersModel", "sparesDone", "I", false)
  | 23 => ("KeptVolunteersModel", "seenMany", "I", false)
  | 24 => ("KeptVolunteersModel", "sights", "[I", true)
  | 25 => ("KeptVolunteersModel", "seedNow", "I", false)
  | 26 => ("KeptVolunteersModel", "line", "[I", true)
  | 27 => ("KeptVolunteersModel", "lineIn", "[I", true)
  | 28 => ("KeptVolunteersModel", "lineDone", "[I", true)
  | 29 => ("KeptVolunteersModel", "lineMany", "I", false)
  | 30 => ("KeptVolunteersModel", "keptShow", "I", false)
  | 31 => ("KeptVolunteersModel", "keptTown", "I", false)
  | 32 => ("KeptVolunteersModel", "keptNights", "I", false)
  | 33 => ("KeptVolunteersModel", "keptDone", "I", false)
  | 34 => ("KeptVolunteersModel", "keptMoves", "I", false)
  | 35 => ("KeptVolunteersModel", "keptCalled", "I", false)
  | 36 => ("KeptVolunteersModel", "keptGone", "I", false)
  | 37 => ("KeptVolunteersModel", "keptSeen", "I", false)
  | 38 => ("KeptVolunteersModel", "keptFolk", "[I", true)
  | 39 => ("KeptVolunteersModel", "keptCasts", "[I", true)
  | 40 => ("KeptVolunteersModel", "keptSights", "[I", true)
  | _ => ("KeptVolunteersModel", "hash", "J", false)
def tyX11 : Nat → FieldType := fun k => match k with
  | 0 => .array .int
  | 1 => .int
  | 2 => .int
  | 3 => .int
  | 4 => .int
  | 5 => .int
  | 6 => .int
  | 7 => .int
  | 8 => .int
  | 9 => .int
  | 10 => .int
  | 11 => .int
  | 12 => .array .int
  | 13 => .array .int
  | 14 => .array .int
  | 15 => .int
  | 16 => .array .int
  | 17 => .array .int
  | 18 => .array .int
  | 19 => .array .int
  | 20 => .array .int
  | 21 => .int
  | 22 => .int
  | 23 => .int
  | 24 => .array .int
  | 25 => .int
  | 26 => .array .int
  | 27 => .array .int
  | 28 => .array .int
  | 29 => .int
  | 30 => .int
  | 31 => .int
  | 32 => .int
  | 33 => .int
  | 34 => .int
  | 35 => .int
  | 36 => .int
  | 37 => .int
  | 38 => .array .int
  | 39 => .array .int
  | 40 => .array .int
  | _ => .long
abbrev wsX110 : List Cond := u_ws RX11 TX11 42
theorem nmX11 : ∀ a, a < 42 → ∀ b, b < 42 → a ≠ b → (TX11 a).2.1 ≠ (TX11 b).2.1 := by decide +kernel
theorem tyX11_ok : ∀ k, k < 42 → parseFieldDescriptor (TX11 k).2.2.1 = some (tyX11 k) := by decide +kernel
abbrev cX11_init : ByteArray := prog_13_method_1_code
def yX11_init : MethodName := ⟨RX11, "<init>", "()V"⟩
abbrev cX11_in : ByteArray := prog_13_method_2_code
def yX11_in : MethodName := ⟨RX11, "in", "(JJJ)Z"⟩
abbrev cX11_copy : ByteArray := prog_13_method_3_code
def yX11_copy : MethodName := ⟨RX11, "copy", "([I[I)V"⟩
abbrev cX11_ones : ByteArray := prog_13_method_4_code
def yX11_ones : MethodName := ⟨RX11, "ones", "(I)I"⟩
abbrev cX11_letter : ByteArray := prog_13_method_5_code
def yX11_letter : MethodName := ⟨RX11, "letter", "(I)I"⟩
abbrev cX11_blank : ByteArray := prog_13_method_6_code
def yX11_blank : MethodName := ⟨RX11, "blank", "()I"⟩
abbrev cX11_kindBy : ByteArray := prog_13_method_7_code
def yX11_kindBy : MethodName := ⟨RX11, "kindBy", "(I)I"⟩
abbrev cX11_isTrickLetter : ByteArray := prog_13_method_8_code
def yX11_isTrickLetter : MethodName := ⟨RX11, "isTrickLetter", "(I)Z"⟩
abbrev cX11_isGood : ByteArray := prog_13_method_9_code
def yX11_isGood : MethodName := ⟨RX11, "isGood", "(I)Z"⟩
abbrev cX11_faultOf : ByteArray := prog_13_method_10_code
def yX11_faultOf : MethodName := ⟨RX11, "faultOf", "()I"⟩
abbrev cX11_fault : ByteArray := prog_13_method_11_code
def yX11_fault : MethodName := ⟨RX11, "fault", "()I"⟩
abbrev cX11_show : ByteArray := prog_13_method_12_code
def yX11_show : MethodName := ⟨RX11, "show", "()I"⟩
abbrev cX11_lacks : ByteArray := prog_13_method_13_code
def yX11_lacks : MethodName := ⟨RX11, "lacks", "()Z"⟩
abbrev cX11_isTrick : ByteArray := prog_13_method_14_code
def yX11_isTrick : MethodName := ⟨RX11, "isTrick", "(I)Z"⟩
abbrev cX11_isPerson : ByteArray := prog_13_method_15_code
def yX11_isPerson : MethodName := ⟨RX11, "isPerson", "(I)Z"⟩
abbrev cX11_isKept : ByteArray := prog_13_method_16_code
def yX11_isKept : MethodName := ⟨RX11, "isKept", "(I)Z"⟩
abbrev cX11_keptSet : ByteArray := prog_13_method_17_code
def yX11_keptSet : MethodName := ⟨RX11, "keptSet", "()I"⟩
abbrev cX11_wantsOf : ByteArray := prog_13_method_18_code
def yX11_wantsOf : MethodName := ⟨RX11, "wantsOf", "(I)I"⟩
abbrev cX11_fitsBy : ByteArray := prog_13_method_19_code
def yX11_fitsBy : MethodName := ⟨RX11, "fitsBy", "(II)Z"⟩
abbrev cX11_fittingSet : ByteArray := prog_13_method_20_code
def yX11_fittingSet : MethodName := ⟨RX11, "fittingSet", "(I)I"⟩
abbrev cX11_strongAll : ByteArray := prog_13_method_21_code
def yX11_strongAll : MethodName := ⟨RX11, "strongAll", "(I)I"⟩
abbrev cX11_isDoneBy : ByteArray := prog_13_method_22_code
def yX11_isDoneBy : MethodName := ⟨RX11, "isDoneBy", "(II)Z"⟩
abbrev cX11_hoursOf : ByteArray := prog_13_method_23_code
def yX11_hoursOf : MethodName := ⟨RX11, "hoursOf", "(I)I"⟩
abbrev cX11_busyBy : ByteArray := prog_13_method_24_code
def yX11_busyBy : MethodName := ⟨RX11, "busyBy", "(I)I"⟩
abbrev cX11_clash : ByteArray := prog_13_method_25_code
def yX11_clash : MethodName := ⟨RX11, "clash", "(II)Z"⟩
abbrev cX11_clashSet : ByteArray := prog_13_method_26_code
def yX11_clashSet : MethodName := ⟨RX11, "clashSet", "(I)I"⟩
abbrev cX11_tellTrick : ByteArray := prog_13_method_27_code
def yX11_tellTrick : MethodName := ⟨RX11, "tellTrick", "(II)I"⟩
abbrev cX11_trick : ByteArray := prog_13_method_28_code
def yX11_trick : MethodName := ⟨RX11, "trick", "(II)I"⟩
abbrev cX11_as : ByteArray := prog_13_method_29_code
def yX11_as : MethodName := ⟨RX11, "as", "(II)I"⟩
abbrev cX11_castSet : ByteArray := prog_13_method_30_code
def yX11_castSet : MethodName := ⟨RX11, "castSet", "(I)I"⟩
abbrev cX11_busySet : ByteArray := prog_13_method_31_code
def yX11_busySet : MethodName := ⟨RX11, "busySet", "(I)I"⟩
abbrev cX11_tellPerson : ByteArray := prog_13_method_32_code
def yX11_tellPerson : MethodName := ⟨RX11, "tellPerson", "(II)I"⟩
abbrev cX11_person : ByteArray := prog_13_method_33_code
def yX11_person : MethodName := ⟨RX11, "person", "(II)I"⟩
abbrev cX11_cast : ByteArray := prog_13_method_34_code
def yX11_cast : MethodName := ⟨RX11, "cast", "(II)I"⟩
abbrev cX11_drop : ByteArray := prog_13_method_35_code
def yX11_drop : MethodName := ⟨RX11, "drop", "(II)I"⟩
abbrev cX11_clear : ByteArray := prog_13_method_36_code
def yX11_clear : MethodName := ⟨RX11, "clear", "()I"⟩
abbrev cX11_doneNow : ByteArray := prog_13_method_37_code
def yX11_doneNow : MethodName := ⟨RX11, "doneNow", "()I"⟩
abbrev cX11_night : ByteArray := prog_13_method_38_code
def yX11_night : MethodName := ⟨RX11, "night", "()I"⟩
abbrev cX11_move : ByteArray := prog_13_method_39_code
def yX11_move : MethodName := ⟨RX11, "move", "(Z)I"⟩
abbrev cX11_letGo : ByteArray := prog_13_method_40_code
def yX11_letGo : MethodName := ⟨RX11, "letGo", "(I)I"⟩
abbrev cX11_call : ByteArray := prog_13_method_41_code
def yX11_call : MethodName := ⟨RX11, "call", "(II)I"⟩
abbrev cX11_layChoices : ByteArray := prog_13_method_42_code
def yX11_layChoices : MethodName := ⟨RX11, "layChoices", "(I)V"⟩
abbrev cX11_isFree : ByteArray := prog_13_method_43_code
def yX11_isFree : MethodName := ⟨RX11, "isFree", "(II)Z"⟩
abbrev cX11_layMost : ByteArray := prog_13_method_44_code
def yX11_layMost : MethodName := ⟨RX11, "layMost", "(I)I"⟩
abbrev cX11_mostOf : ByteArray := prog_13_method_45_code
def yX11_mostOf : MethodName := ⟨RX11, "mostOf", "(I)I"⟩
abbrev cX11_most : ByteArray := prog_13_method_46_code
def yX11_most : MethodName := ⟨RX11, "most", "(I)I"⟩
abbrev cX11_fill : ByteArray := prog_13_method_47_code
def yX11_fill : MethodName := ⟨RX11, "fill", "()I"⟩
abbrev cX11_fewestOf : ByteArray := prog_13_method_48_code
def yX11_fewestOf : MethodName := ⟨RX11, "fewestOf", "(I)I"⟩
abbrev cX11_fewest : ByteArray := prog_13_method_49_code
def yX11_fewest : MethodName := ⟨RX11, "fewest", "(I)I"⟩
abbrev cX11_spareOf : ByteArray := prog_13_method_50_code
def yX11_spareOf : MethodName := ⟨RX11, "spareOf", "()I"⟩
abbrev cX11_spare : ByteArray := prog_13_method_51_code
def yX11_spare : MethodName := ⟨RX11, "spare", "()I"⟩
abbrev cX11_wantsAt : ByteArray := prog_13_method_52_code
def yX11_wantsAt : MethodName := ⟨RX11, "wantsAt", "(I)I"⟩
abbrev cX11_wants : ByteArray := prog_13_method_53_code
def yX11_wants : MethodName := ⟨RX11, "wants", "(I)I"⟩
abbrev cX11_bound : ByteArray := prog_13_method_54_code
def yX11_bound : MethodName := ⟨RX11, "bound", "()I"⟩
abbrev cX11_isThrough : ByteArray := prog_13_method_55_code
def yX11_isThrough : MethodName := ⟨RX11, "isThrough", "(III)Z"⟩
abbrev cX11_routeOf : ByteArray := prog_13_method_56_code
def yX11_routeOf : MethodName := ⟨RX11, "routeOf", "(II)I"⟩
abbrev cX11_route : ByteArray := prog_13_method_57_code
def yX11_route : MethodName := ⟨RX11, "route", "(II)I"⟩
abbrev cX11_see : ByteArray := prog_13_method_58_code
def yX11_see : MethodName := ⟨RX11, "see", "(IIZ)I"⟩
abbrev cX11_forget : ByteArray := prog_13_method_59_code
def yX11_forget : MethodName := ⟨RX11, "forget", "()I"⟩
abbrev cX11_strongsOf : ByteArray := prog_13_method_60_code
def yX11_strongsOf : MethodName := ⟨RX11, "strongsOf", "(I)I"⟩
abbrev cX11_tryOf : ByteArray := prog_13_method_61_code
def yX11_tryOf : MethodName := ⟨RX11, "tryOf", "(I)I"⟩
abbrev cX11_draw : ByteArray := prog_13_method_62_code
def yX11_draw : MethodName := ⟨RX11, "draw", "(I)I"⟩
abbrev cX11_takesLine : ByteArray := prog_13_method_63_code
def yX11_takesLine : MethodName := ⟨RX11, "takesLine", "(I)Z"⟩
abbrev cX11_letLineGo : ByteArray := prog_13_method_64_code
def yX11_letLineGo : MethodName := ⟨RX11, "letLineGo", "()I"⟩
abbrev cX11_tours : ByteArray := prog_13_method_65_code
def yX11_tours : MethodName := ⟨RX11, "tours", "(III)I"⟩
abbrev cX11_image : ByteArray := prog_13_method_66_code
def yX11_image : MethodName := ⟨RX11, "image", "()I"⟩
abbrev cX11_restore : ByteArray := prog_13_method_67_code
def yX11_restore : MethodName := ⟨RX11, "restore", "()I"⟩
abbrev cX11_countOf : ByteArray := prog_13_method_68_code
def yX11_countOf : MethodName := ⟨RX11, "countOf", "(I)I"⟩
abbrev cX11_countMore : ByteArray := prog_13_method_69_code
def yX11_countMore : MethodName := ⟨RX11, "countMore", "(I)I"⟩
abbrev cX11_count : ByteArray := prog_13_method_70_code
def yX11_count : MethodName := ⟨RX11, "count", "(I)I"⟩
abbrev cX11_say : ByteArray := prog_13_method_71_code
def yX11_say : MethodName := ⟨RX11, "say", "(J)V"⟩
abbrev cX11_digest : ByteArray := prog_13_method_72_code
def yX11_digest : MethodName := ⟨RX11, "digest", "()J"⟩
def RJx145de : String := "java/io/Serializable"
def TJx145de : u_T := fun k => match k with
  | _ => ("", "", "", false)
def tyJx145de : Nat → FieldType := fun k => match k with
  | _ => .int
abbrev wsJx145de0 : List Cond := u_ws RJx145de TJx145de 0
theorem nmJx145de : ∀ a, a < 0 → ∀ b, b < 0 → a ≠ b → (TJx145de a).2.1 ≠ (TJx145de b).2.1 := by decide +kernel
theorem tyJx145de_ok : ∀ k, k < 0 → parseFieldDescriptor (TJx145de k).2.2.1 = some (tyJx145de k) := by decide +kernel
def RJx9f9b0 : String := "java/lang/CharSequence"
def TJx9f9b0 : u_T := fun k => match k with
  | _ => ("", "", "", false)
def tyJx9f9b0 : Nat → FieldType := fun k => match k with
  | _ => .int
abbrev wsJx9f9b00 : List Cond := u_ws RJx9f9b0 TJx9f9b0 0
theorem nmJx9f9b0 : ∀ a, a < 0 → ∀ b, b < 0 → a ≠ b → (TJx9f9b0 a).2.1 ≠ (TJx9f9b0 b).2.1 := by decide +kernel
theorem tyJx9f9b0_ok : ∀ k, k < 0 → parseFieldDescriptor (TJx9f9b0 k).2.2.1 = some (tyJx9f9b0 k) := by decide +kernel
def RJ11 : String := "java/lang/Character"
def TJ11 : u_T := fun k => match k with
  | _ => ("", "", "", false)
def tyJ11 : Nat → FieldType := fun k => match k with
  | _ => .int
abbrev wsJ110 : List Cond := u_ws RJ11 TJ11 0
theorem nmJ11 : ∀ a, a < 0 → ∀ b, b < 0 → a ≠ b → (TJ11 a).2.1 ≠ (TJ11 b).2.1 := by decide +kernel
theorem tyJ11_ok : ∀ k, k < 0 → parseFieldDescriptor (TJ11 k).2.2.1 = some (tyJ11 k) := by decide +kernel
abbrev cJ11_isValidCodePoint_9a6ad : ByteArray := prog_14_method_11_code
def yJ11_isValidCodePoint_9a6ad : MethodName := ⟨RJ11, "isValidCodePoint", "(I)Z"⟩
abbrev cJ11_highSurrogate_5068e : ByteArray := prog_14_method_28_code
def yJ11_highSurrogate_5068e : MethodName := ⟨RJ11, "highSurrogate", "(I)C"⟩
abbrev cJ11_lowSurrogate_5068e : ByteArray := prog_14_method_29_code
def yJ11_lowSurrogate_5068e : MethodName := ⟨RJ11, "lowSurrogate", "(I)C"⟩
def RJxb160c : String := "java/lang/Comparable"
def TJxb160c : u_T := fun k => match k with
  | _ => ("", "", "", false)
def tyJxb160c : Nat → FieldType := fun k => match k with
  | _ => .int
abbrev wsJxb160c0 : List Cond := u_ws RJxb160c TJxb160c 0
theorem nmJxb160c : ∀ a, a < 0 → ∀ b, b < 0 → a ≠ b → (TJxb160c a).2.1 ≠ (TJxb160c b).2.1 := by decide +kernel
theorem tyJxb160c_ok : ∀ k, k < 0 → parseFieldDescriptor (TJxb160c k).2.2.1 = some (tyJxb160c k) := by decide +kernel
def RJ6 : String := "java/lang/Integer"
def TJ6 : u_T := fun k => match k with
  | _ => ("", "", "", false)
def tyJ6 : Nat → FieldType := fun k => match k with
  | _ => .int
abbrev wsJ60 : List Cond := u_ws RJ6 TJ6 0
theorem nmJ6 : ∀ a, a < 0 → ∀ b, b < 0 → a ≠ b → (TJ6 a).2.1 ≠ (TJ6 b).2.1 := by decide +kernel
theorem tyJ6_ok : ∀ k, k < 0 → parseFieldDescriptor (TJ6 k).2.2.1 = some (tyJ6 k) := by decide +kernel
abbrev cJ6_bitCount_0f7a4 : ByteArray := prog_15_method_49_code
def yJ6_bitCount_0f7a4 : MethodName := ⟨RJ6, "bitCount", "(I)I"⟩
def RJ9 : String := "java/lang/Math"
def TJ9 : u_T := fun k => match k with
  | _ => ("", "", "", false)
def tyJ9 : Nat → FieldType := fun k => match k with
  | _ => .int
abbrev wsJ90 : List Cond := u_ws RJ9 TJ9 0
theorem nmJ9 : ∀ a, a < 0 → ∀ b, b < 0 → a ≠ b → (TJ9 a).2.1 ≠ (TJ9 b).2.1 := by decide +kernel
theorem tyJ9_ok : ∀ k, k < 0 → parseFieldDescriptor (TJ9 k).2.2.1 = some (tyJ9 k) := by decide +kernel
abbrev cJ9_floorMod_7cf53 : ByteArray := prog_16_method_50_code
def yJ9_floorMod_7cf53 : MethodName := ⟨RJ9, "floorMod", "(II)I"⟩
abbrev cJ9_max_7cf53 : ByteArray := prog_16_method_65_code
def yJ9_max_7cf53 : MethodName := ⟨RJ9, "max", "(II)I"⟩
abbrev cJ9_min_7cf53 : ByteArray := prog_16_method_69_code
def yJ9_min_7cf53 : MethodName := ⟨RJ9, "min", "(II)I"⟩
def RJ0 : String := "java/lang/String"
def TJ0 : u_T := fun k => match k with
  | _ => ("", "", "", false)
def tyJ0 : Nat → FieldType := fun k => match k with
  | _ => .int
abbrev wsJ00 : List Cond := u_ws RJ0 TJ0 0
theorem nmJ0 : ∀ a, a < 0 → ∀ b, b < 0 → a ≠ b → (TJ0 a).2.1 ≠ (TJ0 b).2.1 := by decide +kernel
theorem tyJ0_ok : ∀ k, k < 0 → parseFieldDescriptor (TJ0 k).2.2.1 = some (tyJ0 k) := by decide +kernel
abbrev cJ0_length_8abf5 : ByteArray := prog_17_method_54_code
def yJ0_length_8abf5 : MethodName := ⟨RJ0, "length", "()I"⟩
abbrev cJ0_indexOf_0f7a4 : ByteArray := prog_17_method_79_code
def yJ0_indexOf_0f7a4 : MethodName := ⟨RJ0, "indexOf", "(I)I"⟩
abbrev cJ0_indexOf_7cf53 : ByteArray := prog_17_method_80_code
def yJ0_indexOf_7cf53 : MethodName := ⟨RJ0, "indexOf", "(II)I"⟩
abbrev cJ0_coder_7d493 : ByteArray := prog_17_method_152_code
def yJ0_coder_7d493 : MethodName := ⟨RJ0, "coder", "()B"⟩
abbrev cJ0_isLatin1_aae02 : ByteArray := prog_17_method_154_code
def yJ0_isLatin1_aae02 : MethodName := ⟨RJ0, "isLatin1", "()Z"⟩
abbrev cJ0_checkBoundsBeginEnd_23922 : ByteArray := prog_17_method_158_code
def yJ0_checkBoundsBeginEnd_23922 : MethodName := ⟨RJ0, "checkBoundsBeginEnd", "(III)V"⟩
def RJ1 : String := "java/lang/StringLatin1"
def TJ1 : u_T := fun k => match k with
  | _ => ("", "", "", false)
def tyJ1 : Nat → FieldType := fun k => match k with
  | _ => .int
abbrev wsJ10 : List Cond := u_ws RJ1 TJ1 0
theorem nmJ1 : ∀ a, a < 0 → ∀ b, b < 0 → a ≠ b → (TJ1 a).2.1 ≠ (TJ1 b).2.1 := by decide +kernel
theorem tyJ1_ok : ∀ k, k < 0 → parseFieldDescriptor (TJ1 k).2.2.1 = some (tyJ1 k) := by decide +kernel
abbrev cJ1_canEncode_9a6ad : ByteArray := prog_18_method_4_code
def yJ1_canEncode_9a6ad : MethodName := ⟨RJ1, "canEncode", "(I)Z"⟩
abbrev cJ1_indexOf_4cfef : ByteArray := prog_18_method_22_code
def yJ1_indexOf_4cfef : MethodName := ⟨RJ1, "indexOf", "([BIII)I"⟩
abbrev cJ1_indexOfChar_4cfef : ByteArray := prog_18_method_23_code
def yJ1_indexOfChar_4cfef : MethodName := ⟨RJ1, "indexOfChar", "([BIII)I"⟩
def RJ2 : String := "java/lang/StringUTF16"
def TJ2 : u_T := fun k => match k with
  | _ => ("", "", "", false)
def tyJ2 : Nat → FieldType := fun k => match k with
  | _ => .int
abbrev wsJ20 : List Cond := u_ws RJ2 TJ2 0
theorem nmJ2 : ∀ a, a < 0 → ∀ b, b < 0 → a ≠ b → (TJ2 a).2.1 ≠ (TJ2 b).2.1 := by decide +kernel
theorem tyJ2_ok : ∀ k, k < 0 → parseFieldDescriptor (TJ2 k).2.2.1 = some (tyJ2 k) := by decide +kernel
abbrev cJ2_getChar_3b067 : ByteArray := prog_19_method_5_code
def yJ2_getChar_3b067 : MethodName := ⟨RJ2, "getChar", "([BI)C"⟩
abbrev cJ2_length_9d52b : ByteArray := prog_19_method_6_code
def yJ2_length_9d52b : MethodName := ⟨RJ2, "length", "([B)I"⟩
abbrev cJ2_indexOf_4cfef : ByteArray := prog_19_method_40_code
def yJ2_indexOf_4cfef : MethodName := ⟨RJ2, "indexOf", "([BIII)I"⟩
abbrev cJ2_indexOfChar_4cfef : ByteArray := prog_19_method_47_code
def yJ2_indexOfChar_4cfef : MethodName := ⟨RJ2, "indexOfChar", "([BIII)I"⟩
abbrev cJ2_indexOfCharUnsafe_4cfef : ByteArray := prog_19_method_48_code
def yJ2_indexOfCharUnsafe_4cfef : MethodName := ⟨RJ2, "indexOfCharUnsafe", "([BIII)I"⟩
abbrev cJ2_indexOfSupplementary_4cfef : ByteArray := prog_19_method_49_code
def yJ2_indexOfSupplementary_4cfef : MethodName := ⟨RJ2, "indexOfSupplementary", "([BIII)I"⟩
abbrev cJ2_checkBoundsBeginEnd_d044e : ByteArray := prog_19_method_93_code
def yJ2_checkBoundsBeginEnd_d044e : MethodName := ⟨RJ2, "checkBoundsBeginEnd", "(II[B)V"⟩
def RJ10 : String := "java/lang/System"
def TJ10 : u_T := fun k => match k with
  | _ => ("", "", "", false)
def tyJ10 : Nat → FieldType := fun k => match k with
  | _ => .int
abbrev wsJ100 : List Cond := u_ws RJ10 TJ10 0
theorem nmJ10 : ∀ a, a < 0 → ∀ b, b < 0 → a ≠ b → (TJ10 a).2.1 ≠ (TJ10 b).2.1 := by decide +kernel
theorem tyJ10_ok : ∀ k, k < 0 → parseFieldDescriptor (TJ10 k).2.2.1 = some (tyJ10 k) := by decide +kernel
def RJxfd54e : String := "java/lang/constant/Constable"
def TJxfd54e : u_T := fun k => match k with
  | _ => ("", "", "", false)
def tyJxfd54e : Nat → FieldType := fun k => match k with
  | _ => .int
abbrev wsJxfd54e0 : List Cond := u_ws RJxfd54e TJxfd54e 0
theorem nmJxfd54e : ∀ a, a < 0 → ∀ b, b < 0 → a ≠ b → (TJxfd54e a).2.1 ≠ (TJxfd54e b).2.1 := by decide +kernel
theorem tyJxfd54e_ok : ∀ k, k < 0 → parseFieldDescriptor (TJxfd54e k).2.2.1 = some (tyJxfd54e k) := by decide +kernel
def RJx3cf43 : String := "java/lang/constant/ConstantDesc"
def TJx3cf43 : u_T := fun k => match k with
  | _ => ("", "", "", false)
def tyJx3cf43 : Nat → FieldType := fun k => match k with
  | _ => .int
abbrev wsJx3cf430 : List Cond := u_ws RJx3cf43 TJx3cf43 0
theorem nmJx3cf43 : ∀ a, a < 0 → ∀ b, b < 0 → a ≠ b → (TJx3cf43 a).2.1 ≠ (TJx3cf43 b).2.1 := by decide +kernel
theorem tyJx3cf43_ok : ∀ k, k < 0 → parseFieldDescriptor (TJx3cf43 k).2.2.1 = some (tyJx3cf43 k) := by decide +kernel
def RJ7 : String := "java/util/Arrays"
def TJ7 : u_T := fun k => match k with
  | _ => ("", "", "", false)
def tyJ7 : Nat → FieldType := fun k => match k with
  | _ => .int
abbrev wsJ70 : List Cond := u_ws RJ7 TJ7 0
theorem nmJ7 : ∀ a, a < 0 → ∀ b, b < 0 → a ≠ b → (TJ7 a).2.1 ≠ (TJ7 b).2.1 := by decide +kernel
theorem tyJ7_ok : ∀ k, k < 0 → parseFieldDescriptor (TJ7 k).2.2.1 = some (tyJ7 k) := by decide +kernel
abbrev cJ7_fill_53178 : ByteArray := prog_21_method_103_code
def yJ7_fill_53178 : MethodName := ⟨RJ7, "fill", "([II)V"⟩
def RJ3 : String := "jdk/internal/util/Preconditions"
def TJ3 : u_T := fun k => match k with
  | _ => ("", "", "", false)
def tyJ3 : Nat → FieldType := fun k => match k with
  | _ => .int
abbrev wsJ30 : List Cond := u_ws RJ3 TJ3 0
theorem nmJ3 : ∀ a, a < 0 → ∀ b, b < 0 → a ≠ b → (TJ3 a).2.1 ≠ (TJ3 b).2.1 := by decide +kernel
theorem tyJ3_ok : ∀ k, k < 0 → parseFieldDescriptor (TJ3 k).2.2.1 = some (tyJ3 k) := by decide +kernel
abbrev cJ3_checkFromToIndex_8c36e : ByteArray := prog_22_method_12_code
def yJ3_checkFromToIndex_8c36e : MethodName := ⟨RJ3, "checkFromToIndex", "(IIILjava/util/function/BiFunction;)I"⟩
def RL : String := "KeptVolunteersLaw"
abbrev cL_law : ByteArray := code
def yL_law : MethodName := ⟨RL, "law", "([I)Z"⟩
abbrev vwCl : List vw_C := [(RX0, TX0, 2), (RX1, TX1, 3), (RX2, TX2, 2), (RX3, TX3, 3), (RX4, TX4, 8), (RX5, TX5, 3), (RX6, TX6, 3), (RX7, TX7, 6), (RX8, TX8, 3), (RX9, TX9, 14), (RX10, TX10, 11), (RX11, TX11, 42)]
