/-! ===== BEGIN words of one list among another's, by their places ===== -/
theorem goodIn_r {big : List Cond} (ws : List Cond) (ps : List Nat) (hp : ws = ps.filterMap (fun i => big[i]?)) (h : ws.all goodWord = true) : GoodIn big ws := by
  intro w hw
  have h1 := List.all_eq_true.mp h w hw
  rw [hp] at hw
  obtain ⟨i, -, hi⟩ := List.mem_filterMap.mp hw
  have hm : w ∈ big := by first | exact List.mem_of_getElem? hi | exact List.getElem?_mem hi
  exact ⟨hm, good_of_word h1⟩
theorem goodIn_app {big a b : List Cond} (ha : GoodIn big a) (hb : GoodIn big b) : GoodIn big (a ++ b) := fun w h => (List.mem_append.mp h).elim (ha w) (hb w)
theorem goodIn_ca {big a b : List Cond} {c : Cond} (ha : GoodIn big (c :: a)) (hb : GoodIn big b) : GoodIn big (c :: (a ++ b)) := fun w h => (List.mem_cons.mp h).elim (fun e => ha w (List.mem_cons.mpr (Or.inl e))) (fun h => (List.mem_append.mp h).elim (fun h => ha w (List.mem_cons.mpr (Or.inr h))) (hb w))
theorem goodIn_sub {big ws : List Cond} (hm : ∀ w ∈ ws, w ∈ big) (h : ws.all goodWord = true) : GoodIn big ws := fun w hw => ⟨hm w hw, good_of_word (List.all_eq_true.mp h w hw)⟩
/-! ===== END ===== -/

/-! ===== BEGIN printed: names, fields, word lists, decode rows ===== -/
def RX0 : String := "DropDealers$Beans"
def TX0 : u_T := fun k => match k with
  | _ => ("DropDealers$Kind", "trace", "J", false)
def tyX0 : Nat → FieldType := fun k => match k with
  | _ => .long
abbrev wsX00 : List Cond := u_ws RX0 TX0 1
theorem nmX0 : ∀ a, a < 1 → ∀ b, b < 1 → a ≠ b → (TX0 a).2.1 ≠ (TX0 b).2.1 := by decide +kernel
theorem tyX0_ok : ∀ k, k < 1 → parseFieldDescriptor (TX0 k).2.2.1 = some (tyX0 k) := by decide +kernel
abbrev cX0_init : ByteArray := prog_2_method_1_code
def yX0_init : MethodName := ⟨RX0, "<init>", "()V"⟩
abbrev cX0_marked : ByteArray := prog_2_method_2_code
def yX0_marked : MethodName := ⟨RX0, "marked", "(LDropDealers$Hill;LDropDealers$Now;I)I"⟩
def RX1 : String := "DropDealers$Foresight"
def TX1 : u_T := fun k => match k with
  | 0 => ("DropDealers$Foresight", "water", "[I", true)
  | 1 => ("DropDealers$Foresight", "gain", "[I", true)
  | 2 => ("DropDealers$Foresight", "drops", "[I", true)
  | 3 => ("DropDealers$Foresight", "level", "[I", true)
  | 4 => ("DropDealers$Foresight", "share", "[I", true)
  | 5 => ("DropDealers$Foresight", "song", "[I", true)
  | 6 => ("DropDealers$Foresight", "terraces", "I", false)
  | _ => ("DropDealers$Foresight", "pool", "I", false)
def tyX1 : Nat → FieldType := fun k => match k with
  | 0 => .array .int
  | 1 => .array .int
  | 2 => .array .int
  | 3 => .array .int
  | 4 => .array .int
  | 5 => .array .int
  | 6 => .int
  | _ => .int
abbrev wsX10 : List Cond := u_ws RX1 TX1 8
theorem nmX1 : ∀ a, a < 8 → ∀ b, b < 8 → a ≠ b → (TX1 a).2.1 ≠ (TX1 b).2.1 := by decide +kernel
theorem tyX1_ok : ∀ k, k < 8 → parseFieldDescriptor (TX1 k).2.2.1 = some (tyX1 k) := by decide +kernel
abbrev cX1_init : ByteArray := prog_3_method_1_code
def yX1_init : MethodName := ⟨RX1, "<init>", "()V"⟩
abbrev cX1_from : ByteArray := prog_3_method_2_code
def yX1_from : MethodName := ⟨RX1, "from", "(LDropDealers$Hill;LDropDealers$Now;)LDropDealers$Foresight;"⟩
abbrev cX1_safeDays : ByteArray := prog_3_method_3_code
def yX1_safeDays : MethodName := ⟨RX1, "safeDays", "()I"⟩
abbrev cX1_leastLack : ByteArray := prog_3_method_4_code
def yX1_leastLack : MethodName := ⟨RX1, "leastLack", "(I)I"⟩
abbrev cX1_startDays : ByteArray := prog_3_method_5_code
def yX1_startDays : MethodName := ⟨RX1, "startDays", "()V"⟩
abbrev cX1_lackOfDay : ByteArray := prog_3_method_6_code
def yX1_lackOfDay : MethodName := ⟨RX1, "lackOfDay", "(I)I"⟩
abbrev cX1_passDay : ByteArray := prog_3_method_7_code
def yX1_passDay : MethodName := ⟨RX1, "passDay", "()I"⟩
abbrev cX1_shareOut : ByteArray := prog_3_method_8_code
def yX1_shareOut : MethodName := ⟨RX1, "shareOut", "()I"⟩
abbrev cX1_costOfAll : ByteArray := prog_3_method_9_code
def yX1_costOfAll : MethodName := ⟨RX1, "costOfAll", "(I)I"⟩
abbrev cX1_costOf : ByteArray := prog_3_method_10_code
def yX1_costOf : MethodName := ⟨RX1, "costOf", "(II)I"⟩
abbrev cX1_shareTooFew : ByteArray := prog_3_method_11_code
def yX1_shareTooFew : MethodName := ⟨RX1, "shareTooFew", "()V"⟩
abbrev cX1_shareEnough : ByteArray := prog_3_method_12_code
def yX1_shareEnough : MethodName := ⟨RX1, "shareEnough", "()V"⟩
abbrev cX1_greatestHeight : ByteArray := prog_3_method_13_code
def yX1_greatestHeight : MethodName := ⟨RX1, "greatestHeight", "()I"⟩
abbrev cX1_leastAfterDay : ByteArray := prog_3_method_14_code
def yX1_leastAfterDay : MethodName := ⟨RX1, "leastAfterDay", "()I"⟩
abbrev cX1_trySongs : ByteArray := prog_3_method_15_code
def yX1_trySongs : MethodName := ⟨RX1, "trySongs", "(II)I"⟩
abbrev cX1_songsOf : ByteArray := prog_3_method_16_code
def yX1_songsOf : MethodName := ⟨RX1, "songsOf", "(I)I"⟩
abbrev cX1_spell : ByteArray := prog_3_method_17_code
def yX1_spell : MethodName := ⟨RX1, "spell", "(II)V"⟩
abbrev cX1_lackBySong : ByteArray := prog_3_method_18_code
def yX1_lackBySong : MethodName := ⟨RX1, "lackBySong", "(III)I"⟩
abbrev cX1_singDay : ByteArray := prog_3_method_19_code
def yX1_singDay : MethodName := ⟨RX1, "singDay", "(III)V"⟩
def RX2 : String := "DropDealers$High"
def TX2 : u_T := fun k => match k with
  | _ => ("DropDealers$Kind", "trace", "J", false)
def tyX2 : Nat → FieldType := fun k => match k with
  | _ => .long
abbrev wsX20 : List Cond := u_ws RX2 TX2 1
theorem nmX2 : ∀ a, a < 1 → ∀ b, b < 1 → a ≠ b → (TX2 a).2.1 ≠ (TX2 b).2.1 := by decide +kernel
theorem tyX2_ok : ∀ k, k < 1 → parseFieldDescriptor (TX2 k).2.2.1 = some (tyX2 k) := by decide +kernel
abbrev cX2_init : ByteArray := prog_4_method_1_code
def yX2_init : MethodName := ⟨RX2, "<init>", "()V"⟩
abbrev cX2_marked : ByteArray := prog_4_method_2_code
def yX2_marked : MethodName := ⟨RX2, "marked", "(LDropDealers$Hill;LDropDealers$Now;I)I"⟩
def RX3 : String := "DropDealers$Hill"
def TX3 : u_T := fun k => match k with
  | 0 => ("DropDealers$Hill", "water", "[I", true)
  | 1 => ("DropDealers$Hill", "need", "[I", true)
  | 2 => ("DropDealers$Hill", "dew", "[I", true)
  | 3 => ("DropDealers$Hill", "drops", "[I", true)
  | 4 => ("DropDealers$Hill", "song", "[I", true)
  | 5 => ("DropDealers$Hill", "terraces", "I", false)
  | 6 => ("DropDealers$Hill", "days", "I", false)
  | 7 => ("DropDealers$Hill", "law", "I", false)
  | 8 => ("DropDealers$Hill", "slip", "I", false)
  | _ => ("DropDealers$Hill", "songLength", "I", false)
def tyX3 : Nat → FieldType := fun k => match k with
  | 0 => .array .int
  | 1 => .array .int
  | 2 => .array .int
  | 3 => .array .int
  | 4 => .array .int
  | 5 => .int
  | 6 => .int
  | 7 => .int
  | 8 => .int
  | _ => .int
abbrev wsX30 : List Cond := u_ws RX3 TX3 10
theorem nmX3 : ∀ a, a < 10 → ∀ b, b < 10 → a ≠ b → (TX3 a).2.1 ≠ (TX3 b).2.1 := by decide +kernel
theorem tyX3_ok : ∀ k, k < 10 → parseFieldDescriptor (TX3 k).2.2.1 = some (tyX3 k) := by decide +kernel
abbrev cX3_init : ByteArray := prog_5_method_1_code
def yX3_init : MethodName := ⟨RX3, "<init>", "()V"⟩
abbrev cX3_untell : ByteArray := prog_5_method_2_code
def yX3_untell : MethodName := ⟨RX3, "untell", "()V"⟩
abbrev cX3_become : ByteArray := prog_5_method_3_code
def yX3_become : MethodName := ⟨RX3, "become", "(LDropDealers$Hill;)V"⟩
abbrev cX3_addTerrace : ByteArray := prog_5_method_4_code
def yX3_addTerrace : MethodName := ⟨RX3, "addTerrace", "(III)V"⟩
abbrev cX3_addDays : ByteArray := prog_5_method_5_code
def yX3_addDays : MethodName := ⟨RX3, "addDays", "(II)V"⟩
abbrev cX3_sing : ByteArray := prog_5_method_6_code
def yX3_sing : MethodName := ⟨RX3, "sing", "(II)V"⟩
abbrev cX3_has : ByteArray := prog_5_method_7_code
def yX3_has : MethodName := ⟨RX3, "has", "(I)Z"⟩
abbrev cX3_allBits : ByteArray := prog_5_method_8_code
def yX3_allBits : MethodName := ⟨RX3, "allBits", "()I"⟩
abbrev cX3_dropsOn : ByteArray := prog_5_method_9_code
def yX3_dropsOn : MethodName := ⟨RX3, "dropsOn", "(I)I"⟩
abbrev cX3_sung : ByteArray := prog_5_method_10_code
def yX3_sung : MethodName := ⟨RX3, "sung", "(I)I"⟩
abbrev cX3_nextTo : ByteArray := prog_5_method_11_code
def yX3_nextTo : MethodName := ⟨RX3, "nextTo", "(I)I"⟩
def RX4 : String := "DropDealers$Kind"
def TX4 : u_T := fun k => match k with
  | _ => ("DropDealers$Kind", "trace", "J", false)
def tyX4 : Nat → FieldType := fun k => match k with
  | _ => .long
abbrev wsX40 : List Cond := u_ws RX4 TX4 1
theorem nmX4 : ∀ a, a < 1 → ∀ b, b < 1 → a ≠ b → (TX4 a).2.1 ≠ (TX4 b).2.1 := by decide +kernel
theorem tyX4_ok : ∀ k, k < 1 → parseFieldDescriptor (TX4 k).2.2.1 = some (tyX4 k) := by decide +kernel
abbrev cX4_init : ByteArray := prog_6_method_1_code
def yX4_init : MethodName := ⟨RX4, "<init>", "()V"⟩
abbrev cX4_leave : ByteArray := prog_6_method_2_code
def yX4_leave : MethodName := ⟨RX4, "leave", "(I)V"⟩
abbrev cX4_traced : ByteArray := prog_6_method_3_code
def yX4_traced : MethodName := ⟨RX4, "traced", "()J"⟩
abbrev cX4_marked : ByteArray := prog_6_method_4_code
def yX4_marked : MethodName := ⟨RX4, "marked", "(LDropDealers$Hill;LDropDealers$Now;I)I"⟩
def RX5 : String := "DropDealers$Maize"
def TX5 : u_T := fun k => match k with
  | _ => ("DropDealers$Kind", "trace", "J", false)
def tyX5 : Nat → FieldType := fun k => match k with
  | _ => .long
abbrev wsX50 : List Cond := u_ws RX5 TX5 1
theorem nmX5 : ∀ a, a < 1 → ∀ b, b < 1 → a ≠ b → (TX5 a).2.1 ≠ (TX5 b).2.1 := by decide +kernel
theorem tyX5_ok : ∀ k, k < 1 → parseFieldDescriptor (TX5 k).2.2.1 = some (tyX5 k) := by decide +kernel
abbrev cX5_init : ByteArray := prog_7_method_1_code
def yX5_init : MethodName := ⟨RX5, "<init>", "()V"⟩
abbrev cX5_marked : ByteArray := prog_7_method_2_code
def yX5_marked : MethodName := ⟨RX5, "marked", "(LDropDealers$Hill;LDropDealers$Now;I)I"⟩
def RX6 : String := "DropDealers$Moss"
def TX6 : u_T := fun k => match k with
  | _ => ("DropDealers$Kind", "trace", "J", false)
def tyX6 : Nat → FieldType := fun k => match k with
  | _ => .long
abbrev wsX60 : List Cond := u_ws RX6 TX6 1
theorem nmX6 : ∀ a, a < 1 → ∀ b, b < 1 → a ≠ b → (TX6 a).2.1 ≠ (TX6 b).2.1 := by decide +kernel
theorem tyX6_ok : ∀ k, k < 1 → parseFieldDescriptor (TX6 k).2.2.1 = some (tyX6 k) := by decide +kernel
abbrev cX6_init : ByteArray := prog_8_method_1_code
def yX6_init : MethodName := ⟨RX6, "<init>", "()V"⟩
abbrev cX6_marked : ByteArray := prog_8_method_2_code
def yX6_marked : MethodName := ⟨RX6, "marked", "(LDropDealers$Hill;LDropDealers$Now;I)I"⟩
def RX7 : String := "DropDealers$Now"
def TX7 : u_T := fun k => match k with
  | 0 => ("DropDealers$Now", "water", "[I", true)
  | 1 => ("DropDealers$Now", "lacked", "[I", true)
  | 2 => ("DropDealers$Now", "seenTurn", "[I", true)
  | 3 => ("DropDealers$Now", "seenSet", "[I", true)
  | 4 => ("DropDealers$Now", "day", "I", false)
  | 5 => ("DropDealers$Now", "left", "I", false)
  | 6 => ("DropDealers$Now", "turn", "I", false)
  | 7 => ("DropDealers$Now", "lot", "I", false)
  | _ => ("DropDealers$Now", "seen", "I", false)
def tyX7 : Nat → FieldType := fun k => match k with
  | 0 => .array .int
  | 1 => .array .int
  | 2 => .array .int
  | 3 => .array .int
  | 4 => .int
  | 5 => .int
  | 6 => .int
  | 7 => .int
  | _ => .int
abbrev wsX70 : List Cond := u_ws RX7 TX7 9
theorem nmX7 : ∀ a, a < 9 → ∀ b, b < 9 → a ≠ b → (TX7 a).2.1 ≠ (TX7 b).2.1 := by decide +kernel
theorem tyX7_ok : ∀ k, k < 9 → parseFieldDescriptor (TX7 k).2.2.1 = some (tyX7 k) := by decide +kernel
abbrev cX7_init : ByteArray := prog_9_method_1_code
def yX7_init : MethodName := ⟨RX7, "<init>", "()V"⟩
abbrev cX7_begin : ByteArray := prog_9_method_2_code
def yX7_begin : MethodName := ⟨RX7, "begin", "(LDropDealers$Hill;)V"⟩
abbrev cX7_become : ByteArray := prog_9_method_3_code
def yX7_become : MethodName := ⟨RX7, "become", "(LDropDealers$Now;)V"⟩
abbrev cX7_dealOne : ByteArray := prog_9_method_4_code
def yX7_dealOne : MethodName := ⟨RX7, "dealOne", "(LDropDealers$Hill;)I"⟩
abbrev cX7_byLaw : ByteArray := prog_9_method_5_code
def yX7_byLaw : MethodName := ⟨RX7, "byLaw", "(LDropDealers$Hill;)I"⟩
abbrev cX7_thirstiest : ByteArray := prog_9_method_6_code
def yX7_thirstiest : MethodName := ⟨RX7, "thirstiest", "(LDropDealers$Hill;)I"⟩
abbrev cX7_slips : ByteArray := prog_9_method_7_code
def yX7_slips : MethodName := ⟨RX7, "slips", "(I)Z"⟩
abbrev cX7_endDay : ByteArray := prog_9_method_8_code
def yX7_endDay : MethodName := ⟨RX7, "endDay", "(LDropDealers$Hill;)I"⟩
abbrev cX7_hear : ByteArray := prog_9_method_9_code
def yX7_hear : MethodName := ⟨RX7, "hear", "(II)Z"⟩
abbrev cX7_heardOf : ByteArray := prog_9_method_10_code
def yX7_heardOf : MethodName := ⟨RX7, "heardOf", "(II)I"⟩
def RX8 : String := "DropDealers$Old"
def TX8 : u_T := fun k => match k with
  | _ => ("DropDealers$Kind", "trace", "J", false)
def tyX8 : Nat → FieldType := fun k => match k with
  | _ => .long
abbrev wsX80 : List Cond := u_ws RX8 TX8 1
theorem nmX8 : ∀ a, a < 1 → ∀ b, b < 1 → a ≠ b → (TX8 a).2.1 ≠ (TX8 b).2.1 := by decide +kernel
theorem tyX8_ok : ∀ k, k < 1 → parseFieldDescriptor (TX8 k).2.2.1 = some (tyX8 k) := by decide +kernel
abbrev cX8_init : ByteArray := prog_10_method_1_code
def yX8_init : MethodName := ⟨RX8, "<init>", "()V"⟩
abbrev cX8_marked : ByteArray := prog_10_method_2_code
def yX8_marked : MethodName := ⟨RX8, "marked", "(LDropDealers$Hill;LDropDealers$Now;I)I"⟩
def RX9 : String := "DropDealers$Reader"
def TX9 : u_T := fun k => match k with
  | 0 => ("DropDealers$Reader", "bytes", "[B", true)
  | 1 => ("DropDealers$Reader", "length", "I", false)
  | 2 => ("DropDealers$Reader", "place", "I", false)
  | 3 => ("DropDealers$Reader", "start", "I", false)
  | 4 => ("DropDealers$Reader", "token", "I", false)
  | 5 => ("DropDealers$Reader", "value", "I", false)
  | 6 => ("DropDealers$Reader", "lawTold", "Z", false)
  | 7 => ("DropDealers$Reader", "slipTold", "Z", false)
  | _ => ("DropDealers$Reader", "songTold", "Z", false)
def tyX9 : Nat → FieldType := fun k => match k with
  | 0 => .array .byte
  | 1 => .int
  | 2 => .int
  | 3 => .int
  | 4 => .int
  | 5 => .int
  | 6 => .boolean
  | 7 => .boolean
  | _ => .boolean
abbrev wsX90 : List Cond := u_ws RX9 TX9 9
theorem nmX9 : ∀ a, a < 9 → ∀ b, b < 9 → a ≠ b → (TX9 a).2.1 ≠ (TX9 b).2.1 := by decide +kernel
theorem tyX9_ok : ∀ k, k < 9 → parseFieldDescriptor (TX9 k).2.2.1 = some (tyX9 k) := by decide +kernel
abbrev cX9_init : ByteArray := prog_11_method_1_code
def yX9_init : MethodName := ⟨RX9, "<init>", "()V"⟩
abbrev cX9_size : ByteArray := prog_11_method_2_code
def yX9_size : MethodName := ⟨RX9, "size", "()I"⟩
abbrev cX9_empty : ByteArray := prog_11_method_3_code
def yX9_empty : MethodName := ⟨RX9, "empty", "()V"⟩
abbrev cX9_append : ByteArray := prog_11_method_4_code
def yX9_append : MethodName := ⟨RX9, "append", "(JI)Z"⟩
abbrev cX9_read : ByteArray := prog_11_method_5_code
def yX9_read : MethodName := ⟨RX9, "read", "(LDropDealers$Hill;)I"⟩
abbrev cX9_readItem : ByteArray := prog_11_method_6_code
def yX9_readItem : MethodName := ⟨RX9, "readItem", "(LDropDealers$Hill;)Z"⟩
abbrev cX9_isWord : ByteArray := prog_11_method_7_code
def yX9_isWord : MethodName := ⟨RX9, "isWord", "(Ljava/lang/String;)Z"⟩
abbrev cX9_readTerrace : ByteArray := prog_11_method_8_code
def yX9_readTerrace : MethodName := ⟨RX9, "readTerrace", "(LDropDealers$Hill;)Z"⟩
abbrev cX9_readDrip : ByteArray := prog_11_method_9_code
def yX9_readDrip : MethodName := ⟨RX9, "readDrip", "(LDropDealers$Hill;)Z"⟩
abbrev cX9_readLaw : ByteArray := prog_11_method_10_code
def yX9_readLaw : MethodName := ⟨RX9, "readLaw", "(LDropDealers$Hill;)Z"⟩
abbrev cX9_readSlip : ByteArray := prog_11_method_11_code
def yX9_readSlip : MethodName := ⟨RX9, "readSlip", "(LDropDealers$Hill;)Z"⟩
abbrev cX9_readSong : ByteArray := prog_11_method_12_code
def yX9_readSong : MethodName := ⟨RX9, "readSong", "(LDropDealers$Hill;)Z"⟩
abbrev cX9_takeNumber : ByteArray := prog_11_method_13_code
def yX9_takeNumber : MethodName := ⟨RX9, "takeNumber", "(II)I"⟩
abbrev cX9_takeSemicolon : ByteArray := prog_11_method_14_code
def yX9_takeSemicolon : MethodName := ⟨RX9, "takeSemicolon", "()Z"⟩
abbrev cX9_advance : ByteArray := prog_11_method_15_code
def yX9_advance : MethodName := ⟨RX9, "advance", "()V"⟩
abbrev cX9_isLetter : ByteArray := prog_11_method_16_code
def yX9_isLetter : MethodName := ⟨RX9, "isLetter", "(I)Z"⟩
abbrev cX9_isDigit : ByteArray := prog_11_method_17_code
def yX9_isDigit : MethodName := ⟨RX9, "isDigit", "(I)Z"⟩
abbrev cX9_wordAtPlace : ByteArray := prog_11_method_18_code
def yX9_wordAtPlace : MethodName := ⟨RX9, "wordAtPlace", "()I"⟩
abbrev cX9_numberAtPlace : ByteArray := prog_11_method_19_code
def yX9_numberAtPlace : MethodName := ⟨RX9, "numberAtPlace", "()I"⟩
def RX10 : String := "DropDealers$SongOdds"
def TX10 : u_T := fun k => match k with
  | _ => ("DropDealers$SongOdds", "ways", "[J", true)
def tyX10 : Nat → FieldType := fun k => match k with
  | _ => .array .long
abbrev wsX100 : List Cond := u_ws RX10 TX10 1
theorem nmX10 : ∀ a, a < 1 → ∀ b, b < 1 → a ≠ b → (TX10 a).2.1 ≠ (TX10 b).2.1 := by decide +kernel
theorem tyX10_ok : ∀ k, k < 1 → parseFieldDescriptor (TX10 k).2.2.1 = some (tyX10 k) := by decide +kernel
abbrev cX10_init : ByteArray := prog_12_method_1_code
def yX10_init : MethodName := ⟨RX10, "<init>", "()V"⟩
abbrev cX10_waysInAll : ByteArray := prog_12_method_2_code
def yX10_waysInAll : MethodName := ⟨RX10, "waysInAll", "(I)J"⟩
abbrev cX10_waysToGet : ByteArray := prog_12_method_3_code
def yX10_waysToGet : MethodName := ⟨RX10, "waysToGet", "(LDropDealers$Hill;IIII)J"⟩
abbrev cX10_addDrop : ByteArray := prog_12_method_4_code
def yX10_addDrop : MethodName := ⟨RX10, "addDrop", "(IJ)V"⟩
abbrev cX10_hitsOf : ByteArray := prog_12_method_5_code
def yX10_hitsOf : MethodName := ⟨RX10, "hitsOf", "(LDropDealers$Hill;II)I"⟩
abbrev cX10_greatestDivisor : ByteArray := prog_12_method_6_code
def yX10_greatestDivisor : MethodName := ⟨RX10, "greatestDivisor", "(JJ)J"⟩
abbrev cX10_waysHeard : ByteArray := prog_12_method_7_code
def yX10_waysHeard : MethodName := ⟨RX10, "waysHeard", "(LDropDealers$Hill;LDropDealers$Now;I)I"⟩
abbrev cX10_waysOfTurn : ByteArray := prog_12_method_8_code
def yX10_waysOfTurn : MethodName := ⟨RX10, "waysOfTurn", "(LDropDealers$Hill;LDropDealers$Now;I)I"⟩
abbrev cX10_placesHeard : ByteArray := prog_12_method_9_code
def yX10_placesHeard : MethodName := ⟨RX10, "placesHeard", "(LDropDealers$Hill;LDropDealers$Now;II)I"⟩
def RX11 : String := "DropDealers"
def TX11 : u_T := fun k => match k with
  | 0 => ("DropDealers", "reader", "LDropDealers$Reader;", true)
  | 1 => ("DropDealers", "told", "LDropDealers$Hill;", true)
  | 2 => ("DropDealers", "draft", "LDropDealers$Hill;", true)
  | 3 => ("DropDealers", "present", "LDropDealers$Now;", true)
  | 4 => ("DropDealers", "images", "[LDropDealers$Now;", true)
  | 5 => ("DropDealers", "kept", "[Z", true)
  | 6 => ("DropDealers", "foresight", "LDropDealers$Foresight;", true)
  | 7 => ("DropDealers", "odds", "LDropDealers$SongOdds;", true)
  | _ => ("DropDealers", "kinds", "[LDropDealers$Kind;", true)
def tyX11 : Nat → FieldType := fun k => match k with
  | 0 => .object "DropDealers$Reader"
  | 1 => .object "DropDealers$Hill"
  | 2 => .object "DropDealers$Hill"
  | 3 => .object "DropDealers$Now"
  | 4 => .array (.object "DropDealers$Now")
  | 5 => .array .boolean
  | 6 => .object "DropDealers$Foresight"
  | 7 => .object "DropDealers$SongOdds"
  | _ => .array (.object "DropDealers$Kind")
abbrev wsX110 : List Cond := u_ws RX11 TX11 9
theorem nmX11 : ∀ a, a < 9 → ∀ b, b < 9 → a ≠ b → (TX11 a).2.1 ≠ (TX11 b).2.1 := by decide +kernel
theorem tyX11_ok : ∀ k, k < 9 → parseFieldDescriptor (TX11 k).2.2.1 = some (tyX11 k) := by decide +kernel
abbrev cX11_init : ByteArray := prog_1_method_1_code
def yX11_init : MethodName := ⟨RX11, "<init>", "()V"⟩
abbrev cX11_type : ByteArray := prog_1_method_2_code
def yX11_type : MethodName := ⟨RX11, "type", "(JI)I"⟩
abbrev cX11_clear : ByteArray := prog_1_method_3_code
def yX11_clear : MethodName := ⟨RX11, "clear", "()I"⟩
abbrev cX11_hill : ByteArray := prog_1_method_4_code
def yX11_hill : MethodName := ⟨RX11, "hill", "()I"⟩
abbrev cX11_forgetImages : ByteArray := prog_1_method_5_code
def yX11_forgetImages : MethodName := ⟨RX11, "forgetImages", "()V"⟩
abbrev cX11_terrace : ByteArray := prog_1_method_6_code
def yX11_terrace : MethodName := ⟨RX11, "terrace", "(II)I"⟩
abbrev cX11_drip : ByteArray := prog_1_method_7_code
def yX11_drip : MethodName := ⟨RX11, "drip", "(I)I"⟩
abbrev cX11_song : ByteArray := prog_1_method_8_code
def yX11_song : MethodName := ⟨RX11, "song", "(I)I"⟩
abbrev cX11_deal : ByteArray := prog_1_method_9_code
def yX11_deal : MethodName := ⟨RX11, "deal", "()I"⟩
abbrev cX11_give : ByteArray := prog_1_method_10_code
def yX11_give : MethodName := ⟨RX11, "give", "(II)I"⟩
abbrev cX11_bird : ByteArray := prog_1_method_11_code
def yX11_bird : MethodName := ⟨RX11, "bird", "(I)I"⟩
abbrev cX11_end : ByteArray := prog_1_method_12_code
def yX11_end : MethodName := ⟨RX11, "end", "()I"⟩
abbrev cX11_now : ByteArray := prog_1_method_13_code
def yX11_now : MethodName := ⟨RX11, "now", "(I)I"⟩
abbrev cX11_sumOf : ByteArray := prog_1_method_14_code
def yX11_sumOf : MethodName := ⟨RX11, "sumOf", "([I)I"⟩
abbrev cX11_lot : ByteArray := prog_1_method_15_code
def yX11_lot : MethodName := ⟨RX11, "lot", "(I)I"⟩
abbrev cX11_safe : ByteArray := prog_1_method_16_code
def yX11_safe : MethodName := ⟨RX11, "safe", "()I"⟩
abbrev cX11_least : ByteArray := prog_1_method_17_code
def yX11_least : MethodName := ⟨RX11, "least", "(I)I"⟩
abbrev cX11_today : ByteArray := prog_1_method_18_code
def yX11_today : MethodName := ⟨RX11, "today", "(I)I"⟩
abbrev cX11_got : ByteArray := prog_1_method_19_code
def yX11_got : MethodName := ⟨RX11, "got", "(IIII)J"⟩
abbrev cX11_tried : ByteArray := prog_1_method_20_code
def yX11_tried : MethodName := ⟨RX11, "tried", "(III)I"⟩
abbrev cX11_saw : ByteArray := prog_1_method_21_code
def yX11_saw : MethodName := ⟨RX11, "saw", "(II)I"⟩
abbrev cX11_forget : ByteArray := prog_1_method_22_code
def yX11_forget : MethodName := ⟨RX11, "forget", "()I"⟩
abbrev cX11_could : ByteArray := prog_1_method_23_code
def yX11_could : MethodName := ⟨RX11, "could", "(I)I"⟩
abbrev cX11_who : ByteArray := prog_1_method_24_code
def yX11_who : MethodName := ⟨RX11, "who", "(II)I"⟩
abbrev cX11_mark : ByteArray := prog_1_method_25_code
def yX11_mark : MethodName := ⟨RX11, "mark", "(II)I"⟩
abbrev cX11_keep : ByteArray := prog_1_method_26_code
def yX11_keep : MethodName := ⟨RX11, "keep", "(I)I"⟩
abbrev cX11_back : ByteArray := prog_1_method_27_code
def yX11_back : MethodName := ⟨RX11, "back", "(I)I"⟩
abbrev cX11_count : ByteArray := prog_1_method_28_code
def yX11_count : MethodName := ⟨RX11, "count", "(I)I"⟩
abbrev cX11_trace : ByteArray := prog_1_method_29_code
def yX11_trace : MethodName := ⟨RX11, "trace", "()J"⟩
def RX12 : String := "DropDealersModel"
def TX12 : u_T := fun k => match k with
  | 0 => ("DropDealersModel", "text", "[I", true)
  | 1 => ("DropDealersModel", "size", "I", false)
  | 2 => ("DropDealersModel", "many", "I", false)
  | 3 => ("DropDealersModel", "need", "[I", true)
  | 4 => ("DropDealersModel", "dew", "[I", true)
  | 5 => ("DropDealersModel", "days", "I", false)
  | 6 => ("DropDealersModel", "drip", "[I", true)
  | 7 => ("DropDealersModel", "law", "I", false)
  | 8 => ("DropDealersModel", "slip", "I", false)
  | 9 => ("DropDealersModel", "length", "I", false)
  | 10 => ("DropDealersModel", "song", "[I", true)
  | 11 => ("DropDealersModel", "day", "I", false)
  | 12 => ("DropDealersModel", "left", "I", false)
  | 13 => ("DropDealersModel", "water", "[I", true)
  | 14 => ("DropDealersModel", "lacked", "[I", true)
  | 15 => ("DropDealersModel", "turn", "I", false)
  | 16 => ("DropDealersModel", "lot", "I", false)
  | 17 => ("DropDealersModel", "seen", "I", false)
  | 18 => ("DropDealersModel", "seenTurn", "[I", true)
  | 19 => ("DropDealersModel", "seenSet", "[I", true)
  | 20 => ("DropDealersModel", "images", "[I", true)
  | 21 => ("DropDealersModel", "trace", "J", false)
  | 22 => ("DropDealersModel", "at", "I", false)
  | 23 => ("DropDealersModel", "begin", "I", false)
  | 24 => ("DropDealersModel", "kind", "I", false)
  | 25 => ("DropDealersModel", "value", "J", false)
  | 26 => ("DropDealersModel", "readMany", "I", false)
  | 27 => ("DropDealersModel", "readDays", "I", false)
  | 28 => ("DropDealersModel", "readLaw", "I", false)
  | 29 => ("DropDealersModel", "readSlip", "I", false)
  | 30 => ("DropDealersModel", "readLength", "I", false)
  | 31 => ("DropDealersModel", "readTerrace", "[I", true)
  | 32 => ("DropDealersModel", "readDrip", "[I", true)
  | 33 => ("DropDealersModel", "readSong", "[I", true)
  | 34 => ("DropDealersModel", "gets", "[I", true)
  | 35 => ("DropDealersModel", "best", "[I", true)
  | 36 => ("DropDealersModel", "ways", "[J", true)
  | _ => ("DropDealersModel", "held", "[I", true)
def tyX12 : Nat → FieldType := fun k => match k with
  | 0 => .array .int
  | 1 => .int
  | 2 => .int
  | 3 => .array .int
  | 4 => .array .int
  | 5 => .int
  | 6 => .array .int
  | 7 => .int
  | 8 => .int
  | 9 => .int
  | 10 => .array .int
  | 11 => .int
  | 12 => .int
  | 13 => .array .int
  | 14 => .array .int
  | 15 => .int
  | 16 => .int
  | 17 => .int
  | 18 => .array .int
  | 19 => .array .int
  | 20 => .array .int
  | 21 => .long
  | 22 => .int
  | 23 => .int
  | 24 => .int
  | 25 => .long
  | 26 => .int
  | 27 => .int
  | 28 => .int
  | 29 => .int
  | 30 => .int
  | 31 => .array .int
  | 32 => .array .int
  | 33 => .array .int
  | 34 => .array .int
  | 35 => .array .int
  | 36 => .array .long
  | _ => .array .int
abbrev wsX120 : List Cond := u_ws RX12 TX12 38
theorem nmX12 : ∀ a, a < 38 → ∀ b, b < 38 → a ≠ b → (TX12 a).2.1 ≠ (TX12 b).2.1 := by decide +kernel
theorem tyX12_ok : ∀ k, k < 38 → parseFieldDescriptor (TX12 k).2.2.1 = some (tyX12 k) := by decide +kernel
abbrev cX12_init : ByteArray := prog_14_method_1_code
def yX12_init : MethodName := ⟨RX12, "<init>", "()V"⟩
abbrev cX12_in : ByteArray := prog_14_method_3_code
def yX12_in : MethodName := ⟨RX12, "in", "(JJJ)Z"⟩
abbrev cX12_isTerrace : ByteArray := prog_14_method_4_code
def yX12_isTerrace : MethodName := ⟨RX12, "isTerrace", "(I)Z"⟩
abbrev cX12_type : ByteArray := prog_14_method_5_code
def yX12_type : MethodName := ⟨RX12, "type", "(JI)I"⟩
abbrev cX12_clear : ByteArray := prog_14_method_6_code
def yX12_clear : MethodName := ⟨RX12, "clear", "()I"⟩
abbrev cX12_isLetter : ByteArray := prog_14_method_7_code
def yX12_isLetter : MethodName := ⟨RX12, "isLetter", "(I)Z"⟩
abbrev cX12_isFigure : ByteArray := prog_14_method_8_code
def yX12_isFigure : MethodName := ⟨RX12, "isFigure", "(I)Z"⟩
abbrev cX12_next : ByteArray := prog_14_method_9_code
def yX12_next : MethodName := ⟨RX12, "next", "()V"⟩
abbrev cX12_takes : ByteArray := prog_14_method_10_code
def yX12_takes : MethodName := ⟨RX12, "takes", "(II)Z"⟩
abbrev cX12_stops : ByteArray := prog_14_method_11_code
def yX12_stops : MethodName := ⟨RX12, "stops", "()Z"⟩
abbrev cX12_takesTerrace : ByteArray := prog_14_method_12_code
def yX12_takesTerrace : MethodName := ⟨RX12, "takesTerrace", "()Z"⟩
abbrev cX12_takesDrip : ByteArray := prog_14_method_13_code
def yX12_takesDrip : MethodName := ⟨RX12, "takesDrip", "()Z"⟩
abbrev cX12_takesSong : ByteArray := prog_14_method_14_code
def yX12_takesSong : MethodName := ⟨RX12, "takesSong", "()Z"⟩
abbrev cX12_takesLaw : ByteArray := prog_14_method_15_code
def yX12_takesLaw : MethodName := ⟨RX12, "takesLaw", "()Z"⟩
abbrev cX12_takesSlip : ByteArray := prog_14_method_16_code
def yX12_takesSlip : MethodName := ⟨RX12, "takesSlip", "()Z"⟩
abbrev cX12_takesAll : ByteArray := prog_14_method_17_code
def yX12_takesAll : MethodName := ⟨RX12, "takesAll", "()I"⟩
abbrev cX12_hill : ByteArray := prog_14_method_18_code
def yX12_hill : MethodName := ⟨RX12, "hill", "()I"⟩
abbrev cX12_dripOf : ByteArray := prog_14_method_19_code
def yX12_dripOf : MethodName := ⟨RX12, "dripOf", "(I)I"⟩
abbrev cX12_terrace : ByteArray := prog_14_method_20_code
def yX12_terrace : MethodName := ⟨RX12, "terrace", "(II)I"⟩
abbrev cX12_drip : ByteArray := prog_14_method_21_code
def yX12_drip : MethodName := ⟨RX12, "drip", "(I)I"⟩
abbrev cX12_song : ByteArray := prog_14_method_22_code
def yX12_song : MethodName := ⟨RX12, "song", "(I)I"⟩
abbrev cX12_deal : ByteArray := prog_14_method_23_code
def yX12_deal : MethodName := ⟨RX12, "deal", "()I"⟩
abbrev cX12_give : ByteArray := prog_14_method_24_code
def yX12_give : MethodName := ⟨RX12, "give", "(II)I"⟩
abbrev cX12_bird : ByteArray := prog_14_method_25_code
def yX12_bird : MethodName := ⟨RX12, "bird", "(I)I"⟩
abbrev cX12_end : ByteArray := prog_14_method_26_code
def yX12_end : MethodName := ⟨RX12, "end", "()I"⟩
abbrev cX12_now : ByteArray := prog_14_method_27_code
def yX12_now : MethodName := ⟨RX12, "now", "(I)I"⟩
abbrev cX12_lot : ByteArray := prog_14_method_28_code
def yX12_lot : MethodName := ⟨RX12, "lot", "(I)I"⟩
abbrev cX12_wants : ByteArray := prog_14_method_29_code
def yX12_wants : MethodName := ⟨RX12, "wants", "(II)I"⟩
abbrev cX12_lacks : ByteArray := prog_14_method_30_code
def yX12_lacks : MethodName := ⟨RX12, "lacks", "(IZ)I"⟩
abbrev cX12_safe : ByteArray := prog_14_method_31_code
def yX12_safe : MethodName := ⟨RX12, "safe", "()I"⟩
abbrev cX12_least : ByteArray := prog_14_method_32_code
def yX12_least : MethodName := ⟨RX12, "least", "(I)I"⟩
abbrev cX12_goesOn : ByteArray := prog_14_method_33_code
def yX12_goesOn : MethodName := ⟨RX12, "goesOn", "()Z"⟩
abbrev cX12_today : ByteArray := prog_14_method_34_code
def yX12_today : MethodName := ⟨RX12, "today", "(I)I"⟩
abbrev cX12_got : ByteArray := prog_14_method_35_code
def yX12_got : MethodName := ⟨RX12, "got", "(IIII)J"⟩
abbrev cX12_lacksBy : ByteArray := prog_14_method_36_code
def yX12_lacksBy : MethodName := ⟨RX12, "lacksBy", "(III)I"⟩
abbrev cX12_figure : ByteArray := prog_14_method_37_code
def yX12_figure : MethodName := ⟨RX12, "figure", "(III)I"⟩
abbrev cX12_tried : ByteArray := prog_14_method_38_code
def yX12_tried : MethodName := ⟨RX12, "tried", "(III)I"⟩
abbrev cX12_saw : ByteArray := prog_14_method_39_code
def yX12_saw : MethodName := ⟨RX12, "saw", "(II)I"⟩
abbrev cX12_forget : ByteArray := prog_14_method_40_code
def yX12_forget : MethodName := ⟨RX12, "forget", "()I"⟩
abbrev cX12_heard : ByteArray := prog_14_method_41_code
def yX12_heard : MethodName := ⟨RX12, "heard", "(I)I"⟩
abbrev cX12_waysOf : ByteArray := prog_14_method_42_code
def yX12_waysOf : MethodName := ⟨RX12, "waysOf", "(I)I"⟩
abbrev cX12_couldBe : ByteArray := prog_14_method_43_code
def yX12_couldBe : MethodName := ⟨RX12, "couldBe", "(I)I"⟩
abbrev cX12_could : ByteArray := prog_14_method_44_code
def yX12_could : MethodName := ⟨RX12, "could", "(I)I"⟩
abbrev cX12_who : ByteArray := prog_14_method_45_code
def yX12_who : MethodName := ⟨RX12, "who", "(II)I"⟩
abbrev cX12_mark : ByteArray := prog_14_method_46_code
def yX12_mark : MethodName := ⟨RX12, "mark", "(II)I"⟩
abbrev cX12_keep : ByteArray := prog_14_method_47_code
def yX12_keep : MethodName := ⟨RX12, "keep", "(I)I"⟩
abbrev cX12_back : ByteArray := prog_14_method_48_code
def yX12_back : MethodName := ⟨RX12, "back", "(I)I"⟩
abbrev cX12_count : ByteArray := prog_14_method_49_code
def yX12_count : MethodName := ⟨RX12, "count", "(I)I"⟩
abbrev cX12_trace : ByteArray := prog_14_method_50_code
def yX12_trace : MethodName := ⟨RX12, "trace", "()J"⟩
def RJx145de : String := "java/io/Serializable"
def TJx145de : u_T := fun k => match k with
  | _ => ("", "", "", false)
def tyJx145de : Nat → FieldType := fun k => match k with
  | _ => .int
abbrev wsJx145de0 : List Cond := u_ws RJx145de TJx145de 0
theorem nmJx145de : ∀ a, a < 0 → ∀ b, b < 0 → a ≠ b → (TJx145de a).2.1 ≠ (TJx145de b).2.1 := by decide +kernel
theorem tyJx145de_ok : ∀ k, k < 0 → parseFieldDescriptor (TJx145de k).2.2.1 = some (tyJx145de k) := by decide +kernel
def RJx9f9b0 : String := "java/lang/CharSequence"
def TJx9f9b0 : u_T := fun k => match k with
  | _ => ("", "", "", false)
def tyJx9f9b0 : Nat → FieldType := fun k => match k with
  | _ => .int
abbrev wsJx9f9b00 : List Cond := u_ws RJx9f9b0 TJx9f9b0 0
theorem nmJx9f9b0 : ∀ a, a < 0 → ∀ b, b < 0 → a ≠ b → (TJx9f9b0 a).2.1 ≠ (TJx9f9b0 b).2.1 := by decide +kernel
theorem tyJx9f9b0_ok : ∀ k, k < 0 → parseFieldDescriptor (TJx9f9b0 k).2.2.1 = some (tyJx9f9b0 k) := by decide +kernel
def RJxb160c : String := "java/lang/Comparable"
def TJxb160c : u_T := fun k => match k with
  | _ => ("", "", "", false)
def tyJxb160c : Nat → FieldType := fun k => match k with
  | _ => .int
abbrev wsJxb160c0 : List Cond := u_ws RJxb160c TJxb160c 0
theorem nmJxb160c : ∀ a, a < 0 → ∀ b, b < 0 → a ≠ b → (TJxb160c a).2.1 ≠ (TJxb160c b).2.1 := by decide +kernel
theorem tyJxb160c_ok : ∀ k, k < 0 → parseFieldDescriptor (TJxb160c k).2.2.1 = some (tyJxb160c k) := by decide +kernel
def RJ9 : String := "java/lang/Math"
def TJ9 : u_T := fun k => match k with
  | _ => ("", "", "", false)
def tyJ9 : Nat → FieldType := fun k => match k with
  | _ => .int
abbrev wsJ90 : List Cond := u_ws RJ9 TJ9 0
theorem nmJ9 : ∀ a, a < 0 → ∀ b, b < 0 → a ≠ b → (TJ9 a).2.1 ≠ (TJ9 b).2.1 := by decide +kernel
theorem tyJ9_ok : ∀ k, k < 0 → parseFieldDescriptor (TJ9 k).2.2.1 = some (tyJ9 k) := by decide +kernel
abbrev cJ9_max_7cf53 : ByteArray := prog_15_method_65_code
def yJ9_max_7cf53 : MethodName := ⟨RJ9, "max", "(II)I"⟩
abbrev cJ9_max_f86c9 : ByteArray := prog_15_method_66_code
def yJ9_max_f86c9 : MethodName := ⟨RJ9, "max", "(JJ)J"⟩
abbrev cJ9_min_7cf53 : ByteArray := prog_15_method_69_code
def yJ9_min_7cf53 : MethodName := ⟨RJ9, "min", "(II)I"⟩
def RJ0 : String := "java/lang/String"
def TJ0 : u_T := fun k => match k with
  | _ => ("", "", "", false)
def tyJ0 : Nat → FieldType := fun k => match k with
  | _ => .int
abbrev wsJ00 : List Cond := u_ws RJ0 TJ0 0
theorem nmJ0 : ∀ a, a < 0 → ∀ b, b < 0 → a ≠ b → (TJ0 a).2.1 ≠ (TJ0 b).2.1 := by decide +kernel
theorem tyJ0_ok : ∀ k, k < 0 → parseFieldDescriptor (TJ0 k).2.2.1 = some (tyJ0 k) := by decide +kernel
abbrev cJ0_length_8abf5 : ByteArray := prog_16_method_54_code
def yJ0_length_8abf5 : MethodName := ⟨RJ0, "length", "()I"⟩
abbrev cJ0_charAt_5068e : ByteArray := prog_16_method_56_code
def yJ0_charAt_5068e : MethodName := ⟨RJ0, "charAt", "(I)C"⟩
abbrev cJ0_coder_7d493 : ByteArray := prog_16_method_152_code
def yJ0_coder_7d493 : MethodName := ⟨RJ0, "coder", "()B"⟩
abbrev cJ0_isLatin1_aae02 : ByteArray := prog_16_method_154_code
def yJ0_isLatin1_aae02 : MethodName := ⟨RJ0, "isLatin1", "()Z"⟩
abbrev cJ0_checkIndex_df160 : ByteArray := prog_16_method_155_code
def yJ0_checkIndex_df160 : MethodName := ⟨RJ0, "checkIndex", "(II)V"⟩
def RJ1 : String := "java/lang/StringLatin1"
def TJ1 : u_T := fun k => match k with
  | _ => ("", "", "", false)
def tyJ1 : Nat → FieldType := fun k => match k with
  | _ => .int
abbrev wsJ10 : List Cond := u_ws RJ1 TJ1 0
theorem nmJ1 : ∀ a, a < 0 → ∀ b, b < 0 → a ≠ b → (TJ1 a).2.1 ≠ (TJ1 b).2.1 := by decide +kernel
theorem tyJ1_ok : ∀ k, k < 0 → parseFieldDescriptor (TJ1 k).2.2.1 = some (tyJ1 k) := by decide +kernel
abbrev cJ1_charAt_3b067 : ByteArray := prog_17_method_2_code
def yJ1_charAt_3b067 : MethodName := ⟨RJ1, "charAt", "([BI)C"⟩
def RJ2 : String := "java/lang/StringUTF16"
def TJ2 : u_T := fun k => match k with
  | _ => ("", "", "", false)
def tyJ2 : Nat → FieldType := fun k => match k with
  | _ => .int
abbrev wsJ20 : List Cond := u_ws RJ2 TJ2 0
theorem nmJ2 : ∀ a, a < 0 → ∀ b, b < 0 → a ≠ b → (TJ2 a).2.1 ≠ (TJ2 b).2.1 := by decide +kernel
theorem tyJ2_ok : ∀ k, k < 0 → parseFieldDescriptor (TJ2 k).2.2.1 = some (tyJ2 k) := by decide +kernel
abbrev cJ2_getChar_3b067 : ByteArray := prog_18_method_5_code
def yJ2_getChar_3b067 : MethodName := ⟨RJ2, "getChar", "([BI)C"⟩
abbrev cJ2_length_9d52b : ByteArray := prog_18_method_6_code
def yJ2_length_9d52b : MethodName := ⟨RJ2, "length", "([B)I"⟩
abbrev cJ2_charAt_3b067 : ByteArray := prog_18_method_83_code
def yJ2_charAt_3b067 : MethodName := ⟨RJ2, "charAt", "([BI)C"⟩
abbrev cJ2_checkIndex_2214a : ByteArray := prog_18_method_91_code
def yJ2_checkIndex_2214a : MethodName := ⟨RJ2, "checkIndex", "(I[B)V"⟩
def RJ10 : String := "java/lang/System"
def TJ10 : u_T := fun k => match k with
  | _ => ("", "", "", false)
def tyJ10 : Nat → FieldType := fun k => match k with
  | _ => .int
abbrev wsJ100 : List Cond := u_ws RJ10 TJ10 0
theorem nmJ10 : ∀ a, a < 0 → ∀ b, b < 0 → a ≠ b → (TJ10 a).2.1 ≠ (TJ10 b).2.1 := by decide +kernel
theorem tyJ10_ok : ∀ k, k < 0 → parseFieldDescriptor (TJ10 k).2.2.1 = some (tyJ10 k) := by decide +kernel
def RJxfd54e : String := "java/lang/constant/Constable"
def TJxfd54e : u_T := fun k => match k with
  | _ => ("", "", "", false)
def tyJxfd54e : Nat → FieldType := fun k => match k with
  | _ => .int
abbrev wsJxfd54e0 : List Cond := u_ws RJxfd54e TJxfd54e 0
theorem nmJxfd54e : ∀ a, a < 0 → ∀ b, b < 0 → a ≠ b → (TJxfd54e a).2.1 ≠ (TJxfd54e b).2.1 := by decide +kernel
theorem tyJxfd54e_ok : ∀ k, k < 0 → parseFieldDescriptor (TJxfd54e k).2.2.1 = some (tyJxfd54e k) := by decide +kernel
def RJx3cf43 : String := "java/lang/constant/ConstantDesc"
def TJx3cf43 : u_T := fun k => match k with
  | _ => ("", "", "", false)
def tyJx3cf43 : Nat → FieldType := fun k => match k with
  | _ => .int
abbrev wsJx3cf430 : List Cond := u_ws RJx3cf43 TJx3cf43 0
theorem nmJx3cf43 : ∀ a, a < 0 → ∀ b, b < 0 → a ≠ b → (TJx3cf43 a).2.1 ≠ (TJx3cf43 b).2.1 := by decide +kernel
theorem tyJx3cf43_ok : ∀ k, k < 0 → parseFieldDescriptor (TJx3cf43 k).2.2.1 = some (tyJx3cf43 k) := by decide +kernel
def RJ7 : String := "java/util/Arrays"
def TJ7 : u_T := fun k => match k with
  | _ => ("", "", "", false)
def tyJ7 : Nat → FieldType := fun k => match k with
  | _ => .int
abbrev wsJ70 : List Cond := u_ws RJ7 TJ7 0
theorem nmJ7 : ∀ a, a < 0 → ∀ b, b < 0 → a ≠ b → (TJ7 a).2.1 ≠ (TJ7 b).2.1 := by decide +kernel
theorem tyJ7_ok : ∀ k, k < 0 → parseFieldDescriptor (TJ7 k).2.2.1 = some (tyJ7 k) := by decide +kernel
abbrev cJ7_fill_d0a16 : ByteArray := prog_20_method_101_code
def yJ7_fill_d0a16 : MethodName := ⟨RJ7, "fill", "([JJ)V"⟩
abbrev cJ7_fill_53178 : ByteArray := prog_20_method_103_code
def yJ7_fill_53178 : MethodName := ⟨RJ7, "fill", "([II)V"⟩
def RJ3 : String := "jdk/internal/util/Preconditions"
def TJ3 : u_T := fun k => match k with
  | _ => ("", "", "", false)
def tyJ3 : Nat → FieldType := fun k => match k with
  | _ => .int
abbrev wsJ30 : List Cond := u_ws RJ3 TJ3 0
theorem nmJ3 : ∀ a, a < 0 → ∀ b, b < 0 → a ≠ b → (TJ3 a).2.1 ≠ (TJ3 b).2.1 := by decide +kernel
theorem tyJ3_ok : ∀ k, k < 0 → parseFieldDescriptor (TJ3 k).2.2.1 = some (tyJ3 k) := by decide +kernel
abbrev cJ3_checkIndex_8e157 : ByteArray := prog_21_method_11_code
def yJ3_checkIndex_8e157 : MethodName := ⟨RJ3, "checkIndex", "(IILjava/util/function/BiFunction;)I"⟩
