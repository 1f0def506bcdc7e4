/-! ===== BEGIN words of one list among another's, by their places ===== -/
theorem goodIn_r {big : List Cond} (ws : List Cond) (ps : List Nat) (hp : ws = ps.filterMap (fun i => big[i]?)) (h : ws.all goodWord = true) : GoodIn big ws := by
  intro w hw
  have h1 := List.all_eq_true.mp h w hw
  rw [hp] at hw
  obtain ⟨i, -, hi⟩ := List.mem_filterMap.mp hw
  have hm : w ∈ big := by first | exact List.mem_of_getElem? hi | exact List.getElem?_mem hi
  exact ⟨hm, good_of_word h1⟩
theorem goodIn_app {big a b : List Cond} (ha : GoodIn big a) (hb : GoodIn big b) : GoodIn big (a ++ b) := fun w h => (List.mem_append.mp h).elim (ha w) (hb w)
theorem goodIn_ca {big a b : List Cond} {c : Cond} (ha : GoodIn big (c :: a)) (hb : GoodIn big b) : GoodIn big (c :: (a ++ b)) := fun w h => (List.mem_cons.mp h).elim (fun e => ha w (List.mem_cons.mpr (Or.inl e))) (fun h => (List.mem_append.mp h).elim (fun h => ha w (List.mem_cons.mpr (Or.inr h))) (hb w))
theorem goodIn_sub {big ws : List Cond} (hm : ∀ w ∈ ws, w ∈ big) (h : ws.all goodWord = true) : GoodIn big ws := fun w hw => ⟨hm w hw, good_of_word (List.all_eq_true.mp h w hw)⟩
/-! ===== END ===== -/

/-! ===== BEGIN printed: names, fields, word lists, decode rows ===== -/
def RX0 : String := "KeyTrees$Book"
def TX0 : u_T := fun k => match k with
  | 0 => ("KeyTrees$Book", "seats", "LKeyTrees$Seats;", true)
  | 1 => ("KeyTrees$Book", "keys", "LKeyTrees$Keys;", true)
  | 2 => ("KeyTrees$Book", "letters", "LKeyTrees$Letters;", true)
  | 3 => ("KeyTrees$Book", "comers", "I", false)
  | 4 => ("KeyTrees$Book", "leavers", "I", false)
  | 5 => ("KeyTrees$Book", "sleepers", "I", false)
  | 6 => ("KeyTrees$Book", "batches", "I", false)
  | 7 => ("KeyTrees$Book", "draw", "I", false)
  | 8 => ("KeyTrees$Book", "cameIn", "[I", true)
  | 9 => ("KeyTrees$Book", "leftIn", "[I", true)
  | _ => ("KeyTrees$Book", "unreadFrom", "[I", true)
def tyX0 : Nat → FieldType := fun k => match k with
  | 0 => .object "KeyTrees$Seats"
  | 1 => .object "KeyTrees$Keys"
  | 2 => .object "KeyTrees$Letters"
  | 3 => .int
  | 4 => .int
  | 5 => .int
  | 6 => .int
  | 7 => .int
  | 8 => .array .int
  | 9 => .array .int
  | _ => .array .int
abbrev wsX00 : List Cond := u_ws RX0 TX0 11
theorem nmX0 : ∀ a, a < 11 → ∀ b, b < 11 → a ≠ b → (TX0 a).2.1 ≠ (TX0 b).2.1 := by decide +kernel
theorem tyX0_ok : ∀ k, k < 11 → parseFieldDescriptor (TX0 k).2.2.1 = some (tyX0 k) := by decide +kernel
abbrev cX0_init : ByteArray := prog_2_method_1_code
def yX0_init : MethodName := ⟨RX0, "<init>", "()V"⟩
abbrev cX0_take : ByteArray := prog_2_method_2_code
def yX0_take : MethodName := ⟨RX0, "take", "(LKeyTrees$Book;)V"⟩
abbrev cX0_beginAnew : ByteArray := prog_2_method_3_code
def yX0_beginAnew : MethodName := ⟨RX0, "beginAnew", "()V"⟩
abbrev cX0_groupKey : ByteArray := prog_2_method_4_code
def yX0_groupKey : MethodName := ⟨RX0, "groupKey", "()I"⟩
abbrev cX0_unread : ByteArray := prog_2_method_5_code
def yX0_unread : MethodName := ⟨RX0, "unread", "(I)I"⟩
abbrev cX0_mayCome : ByteArray := prog_2_method_6_code
def yX0_mayCome : MethodName := ⟨RX0, "mayCome", "(I)Z"⟩
abbrev cX0_mayLeave : ByteArray := prog_2_method_7_code
def yX0_mayLeave : MethodName := ⟨RX0, "mayLeave", "(I)Z"⟩
abbrev cX0_isAwake : ByteArray := prog_2_method_8_code
def yX0_isAwake : MethodName := ⟨RX0, "isAwake", "(I)Z"⟩
abbrev cX0_isAsleep : ByteArray := prog_2_method_9_code
def yX0_isAsleep : MethodName := ⟨RX0, "isAsleep", "(I)Z"⟩
abbrev cX0_batchRefusal : ByteArray := prog_2_method_10_code
def yX0_batchRefusal : MethodName := ⟨RX0, "batchRefusal", "()I"⟩
abbrev cX0_mendRefusal : ByteArray := prog_2_method_11_code
def yX0_mendRefusal : MethodName := ⟨RX0, "mendRefusal", "(I)I"⟩
abbrev cX0_fullRefusal : ByteArray := prog_2_method_12_code
def yX0_fullRefusal : MethodName := ⟨RX0, "fullRefusal", "()I"⟩
abbrev cX0_holdsAllAbove : ByteArray := prog_2_method_13_code
def yX0_holdsAllAbove : MethodName := ⟨RX0, "holdsAllAbove", "(I)Z"⟩
abbrev cX0_addComer : ByteArray := prog_2_method_14_code
def yX0_addComer : MethodName := ⟨RX0, "addComer", "(I)V"⟩
abbrev cX0_addLeaver : ByteArray := prog_2_method_15_code
def yX0_addLeaver : MethodName := ⟨RX0, "addLeaver", "(I)V"⟩
abbrev cX0_tryCome : ByteArray := prog_2_method_16_code
def yX0_tryCome : MethodName := ⟨RX0, "tryCome", "(I)Z"⟩
abbrev cX0_tryLeave : ByteArray := prog_2_method_17_code
def yX0_tryLeave : MethodName := ⟨RX0, "tryLeave", "(I)Z"⟩
abbrev cX0_tryBatch : ByteArray := prog_2_method_18_code
def yX0_tryBatch : MethodName := ⟨RX0, "tryBatch", "()Z"⟩
abbrev cX0_changeAll : ByteArray := prog_2_method_19_code
def yX0_changeAll : MethodName := ⟨RX0, "changeAll", "()I"⟩
abbrev cX0_tellChanged : ByteArray := prog_2_method_20_code
def yX0_tellChanged : MethodName := ⟨RX0, "tellChanged", "(I)V"⟩
abbrev cX0_tell : ByteArray := prog_2_method_21_code
def yX0_tell : MethodName := ⟨RX0, "tell", "(II)V"⟩
abbrev cX0_readByAll : ByteArray := prog_2_method_22_code
def yX0_readByAll : MethodName := ⟨RX0, "readByAll", "()V"⟩
abbrev cX0_readUnread : ByteArray := prog_2_method_23_code
def yX0_readUnread : MethodName := ⟨RX0, "readUnread", "(I)I"⟩
abbrev cX0_fallAsleep : ByteArray := prog_2_method_24_code
def yX0_fallAsleep : MethodName := ⟨RX0, "fallAsleep", "(I)I"⟩
abbrev cX0_wakeUp : ByteArray := prog_2_method_25_code
def yX0_wakeUp : MethodName := ⟨RX0, "wakeUp", "(I)I"⟩
abbrev cX0_loseLetters : ByteArray := prog_2_method_26_code
def yX0_loseLetters : MethodName := ⟨RX0, "loseLetters", "(II)I"⟩
abbrev cX0_mendKeys : ByteArray := prog_2_method_27_code
def yX0_mendKeys : MethodName := ⟨RX0, "mendKeys", "(I)I"⟩
abbrev cX0_whyShut : ByteArray := prog_2_method_28_code
def yX0_whyShut : MethodName := ⟨RX0, "whyShut", "(II)I"⟩
abbrev cX0_lettersNeeded : ByteArray := prog_2_method_29_code
def yX0_lettersNeeded : MethodName := ⟨RX0, "lettersNeeded", "(I)I"⟩
def RX1 : String := "KeyTrees$Keys"
def TX1 : u_T := fun k => match k with
  | 0 => ("KeyTrees$Keys", "made", "I", false)
  | 1 => ("KeyTrees$Keys", "nodes", "[I", true)
  | 2 => ("KeyTrees$Keys", "batches", "[I", true)
  | 3 => ("KeyTrees$Keys", "holders", "[I", true)
  | _ => ("KeyTrees$Keys", "ofNode", "[I", true)
def tyX1 : Nat → FieldType := fun k => match k with
  | 0 => .int
  | 1 => .array .int
  | 2 => .array .int
  | 3 => .array .int
  | _ => .array .int
abbrev wsX10 : List Cond := u_ws RX1 TX1 5
theorem nmX1 : ∀ a, a < 5 → ∀ b, b < 5 → a ≠ b → (TX1 a).2.1 ≠ (TX1 b).2.1 := by decide +kernel
theorem tyX1_ok : ∀ k, k < 5 → parseFieldDescriptor (TX1 k).2.2.1 = some (tyX1 k) := by decide +kernel
abbrev cX1_init : ByteArray := prog_3_method_1_code
def yX1_init : MethodName := ⟨RX1, "<init>", "()V"⟩
abbrev cX1_take : ByteArray := prog_3_method_2_code
def yX1_take : MethodName := ⟨RX1, "take", "(LKeyTrees$Keys;)V"⟩
abbrev cX1_clear : ByteArray := prog_3_method_3_code
def yX1_clear : MethodName := ⟨RX1, "clear", "()V"⟩
abbrev cX1_known : ByteArray := prog_3_method_4_code
def yX1_known : MethodName := ⟨RX1, "known", "(I)Z"⟩
abbrev cX1_renew : ByteArray := prog_3_method_5_code
def yX1_renew : MethodName := ⟨RX1, "renew", "(LKeyTrees$Seats;II)V"⟩
abbrev cX1_add : ByteArray := prog_3_method_6_code
def yX1_add : MethodName := ⟨RX1, "add", "(II)I"⟩
abbrev cX1_give : ByteArray := prog_3_method_7_code
def yX1_give : MethodName := ⟨RX1, "give", "(II)V"⟩
abbrev cX1_nodeOf : ByteArray := prog_3_method_8_code
def yX1_nodeOf : MethodName := ⟨RX1, "nodeOf", "(I)I"⟩
abbrev cX1_batchOf : ByteArray := prog_3_method_9_code
def yX1_batchOf : MethodName := ⟨RX1, "batchOf", "(I)I"⟩
abbrev cX1_holdersOf : ByteArray := prog_3_method_10_code
def yX1_holdersOf : MethodName := ⟨RX1, "holdersOf", "(I)I"⟩
abbrev cX1_held : ByteArray := prog_3_method_11_code
def yX1_held : MethodName := ⟨RX1, "held", "(II)Z"⟩
abbrev cX1_heldBy : ByteArray := prog_3_method_12_code
def yX1_heldBy : MethodName := ⟨RX1, "heldBy", "(I)I"⟩
def RX2 : String := "KeyTrees$Letters"
def TX2 : u_T := fun k => match k with
  | 0 => ("KeyTrees$Letters", "written", "I", false)
  | 1 => ("KeyTrees$Letters", "inside", "[I", true)
  | 2 => ("KeyTrees$Letters", "under", "[I", true)
  | _ => ("KeyTrees$Letters", "batches", "[I", true)
def tyX2 : Nat → FieldType := fun k => match k with
  | 0 => .int
  | 1 => .array .int
  | 2 => .array .int
  | _ => .array .int
abbrev wsX20 : List Cond := u_ws RX2 TX2 4
theorem nmX2 : ∀ a, a < 4 → ∀ b, b < 4 → a ≠ b → (TX2 a).2.1 ≠ (TX2 b).2.1 := by decide +kernel
theorem tyX2_ok : ∀ k, k < 4 → parseFieldDescriptor (TX2 k).2.2.1 = some (tyX2 k) := by decide +kernel
abbrev cX2_init : ByteArray := prog_4_method_1_code
def yX2_init : MethodName := ⟨RX2, "<init>", "()V"⟩
abbrev cX2_take : ByteArray := prog_4_method_2_code
def yX2_take : MethodName := ⟨RX2, "take", "(LKeyTrees$Letters;)V"⟩
abbrev cX2_known : ByteArray := prog_4_method_3_code
def yX2_known : MethodName := ⟨RX2, "known", "(I)Z"⟩
abbrev cX2_add : ByteArray := prog_4_method_4_code
def yX2_add : MethodName := ⟨RX2, "add", "(III)V"⟩
def RX3 : String := "KeyTrees$Past"
def TX3 : u_T := fun k => match k with
  | 0 => ("KeyTrees$Past", "books", "[LKeyTrees$Book;", true)
  | 1 => ("KeyTrees$Past", "known", "I", false)
  | _ => ("KeyTrees$Past", "next", "I", false)
def tyX3 : Nat → FieldType := fun k => match k with
  | 0 => .array (.object "KeyTrees$Book")
  | 1 => .int
  | _ => .int
abbrev wsX30 : List Cond := u_ws RX3 TX3 3
theorem nmX3 : ∀ a, a < 3 → ∀ b, b < 3 → a ≠ b → (TX3 a).2.1 ≠ (TX3 b).2.1 := by decide +kernel
theorem tyX3_ok : ∀ k, k < 3 → parseFieldDescriptor (TX3 k).2.2.1 = some (tyX3 k) := by decide +kernel
abbrev cX3_init : ByteArray := prog_5_method_1_code
def yX3_init : MethodName := ⟨RX3, "<init>", "()V"⟩
abbrev cX3_take : ByteArray := prog_5_method_2_code
def yX3_take : MethodName := ⟨RX3, "take", "(LKeyTrees$Past;)V"⟩
abbrev cX3_keep : ByteArray := prog_5_method_3_code
def yX3_keep : MethodName := ⟨RX3, "keep", "(LKeyTrees$Book;)V"⟩
abbrev cX3_goBack : ByteArray := prog_5_method_4_code
def yX3_goBack : MethodName := ⟨RX3, "goBack", "(LKeyTrees$Book;)V"⟩
def RX4 : String := "KeyTrees$Ring"
def TX4 : u_T := fun k => match k with
  | 0 => ("KeyTrees$Ring", "opened", "[Z", true)
  | _ => ("KeyTrees$Ring", "size", "I", false)
def tyX4 : Nat → FieldType := fun k => match k with
  | 0 => .array .boolean
  | _ => .int
abbrev wsX40 : List Cond := u_ws RX4 TX4 2
theorem nmX4 : ∀ a, a < 2 → ∀ b, b < 2 → a ≠ b → (TX4 a).2.1 ≠ (TX4 b).2.1 := by decide +kernel
theorem tyX4_ok : ∀ k, k < 2 → parseFieldDescriptor (TX4 k).2.2.1 = some (tyX4 k) := by decide +kernel
abbrev cX4_init : ByteArray := prog_6_method_1_code
def yX4_init : MethodName := ⟨RX4, "<init>", "()V"⟩
abbrev cX4_take : ByteArray := prog_6_method_2_code
def yX4_take : MethodName := ⟨RX4, "take", "(LKeyTrees$Keys;I)V"⟩
abbrev cX4_has : ByteArray := prog_6_method_3_code
def yX4_has : MethodName := ⟨RX4, "has", "(I)Z"⟩
abbrev cX4_lacks : ByteArray := prog_6_method_4_code
def yX4_lacks : MethodName := ⟨RX4, "lacks", "(I)Z"⟩
abbrev cX4_open : ByteArray := prog_6_method_5_code
def yX4_open : MethodName := ⟨RX4, "open", "(LKeyTrees$Letters;I)Z"⟩
abbrev cX4_openAll : ByteArray := prog_6_method_6_code
def yX4_openAll : MethodName := ⟨RX4, "openAll", "(LKeyTrees$Letters;)V"⟩
def RX5 : String := "KeyTrees$Seats"
def TX5 : u_T := fun k => match k with
  | 0 => ("KeyTrees$Seats", "leafOf", "[I", true)
  | _ => ("KeyTrees$Seats", "sitters", "[I", true)
def tyX5 : Nat → FieldType := fun k => match k with
  | 0 => .array .int
  | _ => .array .int
abbrev wsX50 : List Cond := u_ws RX5 TX5 2
theorem nmX5 : ∀ a, a < 2 → ∀ b, b < 2 → a ≠ b → (TX5 a).2.1 ≠ (TX5 b).2.1 := by decide +kernel
theorem tyX5_ok : ∀ k, k < 2 → parseFieldDescriptor (TX5 k).2.2.1 = some (tyX5 k) := by decide +kernel
abbrev cX5_init : ByteArray := prog_7_method_1_code
def yX5_init : MethodName := ⟨RX5, "<init>", "()V"⟩
abbrev cX5_take : ByteArray := prog_7_method_2_code
def yX5_take : MethodName := ⟨RX5, "take", "(LKeyTrees$Seats;)V"⟩
abbrev cX5_clear : ByteArray := prog_7_method_3_code
def yX5_clear : MethodName := ⟨RX5, "clear", "()V"⟩
abbrev cX5_all : ByteArray := prog_7_method_4_code
def yX5_all : MethodName := ⟨RX5, "all", "()I"⟩
abbrev cX5_sits : ByteArray := prog_7_method_5_code
def yX5_sits : MethodName := ⟨RX5, "sits", "(I)Z"⟩
abbrev cX5_live : ByteArray := prog_7_method_6_code
def yX5_live : MethodName := ⟨RX5, "live", "(I)Z"⟩
abbrev cX5_move : ByteArray := prog_7_method_7_code
def yX5_move : MethodName := ⟨RX5, "move", "(II)I"⟩
abbrev cX5_lettersFor : ByteArray := prog_7_method_8_code
def yX5_lettersFor : MethodName := ⟨RX5, "lettersFor", "(I)I"⟩
abbrev cX5_sit : ByteArray := prog_7_method_9_code
def yX5_sit : MethodName := ⟨RX5, "sit", "(II)V"⟩
abbrev cX5_stand : ByteArray := prog_7_method_10_code
def yX5_stand : MethodName := ⟨RX5, "stand", "(I)V"⟩
abbrev cX5_emptiestLeaf : ByteArray := prog_7_method_11_code
def yX5_emptiestLeaf : MethodName := ⟨RX5, "emptiestLeaf", "()I"⟩
abbrev cX5_pathFrom : ByteArray := prog_7_method_12_code
def yX5_pathFrom : MethodName := ⟨RX5, "pathFrom", "(I)I"⟩
def RX6 : String := "KeyTrees$Sheet"
def TX6 : u_T := fun k => match k with
  | 0 => ("KeyTrees$Sheet", "row", "[J", true)
  | 1 => ("KeyTrees$Sheet", "lane", "I", false)
  | _ => ("KeyTrees$Sheet", "size", "I", false)
def tyX6 : Nat → FieldType := fun k => match k with
  | 0 => .array .long
  | 1 => .int
  | _ => .int
abbrev wsX60 : List Cond := u_ws RX6 TX6 3
theorem nmX6 : ∀ a, a < 3 → ∀ b, b < 3 → a ≠ b → (TX6 a).2.1 ≠ (TX6 b).2.1 := by decide +kernel
theorem tyX6_ok : ∀ k, k < 3 → parseFieldDescriptor (TX6 k).2.2.1 = some (tyX6 k) := by decide +kernel
abbrev cX6_init : ByteArray := prog_8_method_1_code
def yX6_init : MethodName := ⟨RX6, "<init>", "()V"⟩
abbrev cX6_renew : ByteArray := prog_8_method_2_code
def yX6_renew : MethodName := ⟨RX6, "renew", "(II)V"⟩
abbrev cX6_refusal : ByteArray := prog_8_method_3_code
def yX6_refusal : MethodName := ⟨RX6, "refusal", "(III)I"⟩
abbrev cX6_lacks : ByteArray := prog_8_method_4_code
def yX6_lacks : MethodName := ⟨RX6, "lacks", "(II)Z"⟩
abbrev cX6_put : ByteArray := prog_8_method_5_code
def yX6_put : MethodName := ⟨RX6, "put", "(IJ)V"⟩
def RX7 : String := "KeyTrees$Tape"
def TX7 : u_T := fun k => match k with
  | 0 => ("KeyTrees$Tape", "signs", "[C", true)
  | _ => ("KeyTrees$Tape", "size", "I", false)
def tyX7 : Nat → FieldType := fun k => match k with
  | 0 => .array .char
  | _ => .int
abbrev wsX70 : List Cond := u_ws RX7 TX7 2
theorem nmX7 : ∀ a, a < 2 → ∀ b, b < 2 → a ≠ b → (TX7 a).2.1 ≠ (TX7 b).2.1 := by decide +kernel
theorem tyX7_ok : ∀ k, k < 2 → parseFieldDescriptor (TX7 k).2.2.1 = some (tyX7 k) := by decide +kernel
abbrev cX7_init : ByteArray := prog_9_method_1_code
def yX7_init : MethodName := ⟨RX7, "<init>", "()V"⟩
def RX8 : String := "KeyTrees"
def TX8 : u_T := fun k => match k with
  | 0 => ("KeyTrees", "now", "LKeyTrees$Book;", true)
  | 1 => ("KeyTrees", "past", "LKeyTrees$Past;", true)
  | 2 => ("KeyTrees", "imageBook", "LKeyTrees$Book;", true)
  | 3 => ("KeyTrees", "imagePast", "LKeyTrees$Past;", true)
  | 4 => ("KeyTrees", "imageTaken", "Z", false)
  | 5 => ("KeyTrees", "tape", "LKeyTrees$Tape;", true)
  | 6 => ("KeyTrees", "sheets", "[LKeyTrees$Sheet;", true)
  | 7 => ("KeyTrees", "plan", "LKeyTrees$Seats;", true)
  | _ => ("KeyTrees", "ring", "LKeyTrees$Ring;", true)
def tyX8 : Nat → FieldType := fun k => match k with
  | 0 => .object "KeyTrees$Book"
  | 1 => .object "KeyTrees$Past"
  | 2 => .object "KeyTrees$Book"
  | 3 => .object "KeyTrees$Past"
  | 4 => .boolean
  | 5 => .object "KeyTrees$Tape"
  | 6 => .array (.object "KeyTrees$Sheet")
  | 7 => .object "KeyTrees$Seats"
  | _ => .object "KeyTrees$Ring"
abbrev wsX80 : List Cond := u_ws RX8 TX8 9
theorem nmX8 : ∀ a, a < 9 → ∀ b, b < 9 → a ≠ b → (TX8 a).2.1 ≠ (TX8 b).2.1 := by decide +kernel
theorem tyX8_ok : ∀ k, k < 9 → parseFieldDescriptor (TX8 k).2.2.1 = some (tyX8 k) := by decide +kernel
abbrev cX8_init : ByteArray := prog_1_method_1_code
def yX8_init : MethodName := ⟨RX8, "<init>", "()V"⟩
abbrev cX8_come : ByteArray := prog_1_method_2_code
def yX8_come : MethodName := ⟨RX8, "come", "(I)I"⟩
abbrev cX8_leave : ByteArray := prog_1_method_3_code
def yX8_leave : MethodName := ⟨RX8, "leave", "(I)I"⟩
abbrev cX8_batch : ByteArray := prog_1_method_4_code
def yX8_batch : MethodName := ⟨RX8, "batch", "()I"⟩
abbrev cX8_late : ByteArray := prog_1_method_5_code
def yX8_late : MethodName := ⟨RX8, "late", "(II)I"⟩
abbrev cX8_lose : ByteArray := prog_1_method_6_code
def yX8_lose : MethodName := ⟨RX8, "lose", "(II)I"⟩
abbrev cX8_mend : ByteArray := prog_1_method_7_code
def yX8_mend : MethodName := ⟨RX8, "mend", "(I)I"⟩
abbrev cX8_begin : ByteArray := prog_1_method_8_code
def yX8_begin : MethodName := ⟨RX8, "begin", "()I"⟩
abbrev cX8_member : ByteArray := prog_1_method_9_code
def yX8_member : MethodName := ⟨RX8, "member", "(II)I"⟩
abbrev cX8_node : ByteArray := prog_1_method_10_code
def yX8_node : MethodName := ⟨RX8, "node", "(II)I"⟩
abbrev cX8_key : ByteArray := prog_1_method_11_code
def yX8_key : MethodName := ⟨RX8, "key", "(II)I"⟩
abbrev cX8_letter : ByteArray := prog_1_method_12_code
def yX8_letter : MethodName := ⟨RX8, "letter", "(II)I"⟩
abbrev cX8_count : ByteArray := prog_1_method_13_code
def yX8_count : MethodName := ⟨RX8, "count", "(I)I"⟩
abbrev cX8_why : ByteArray := prog_1_method_14_code
def yX8_why : MethodName := ⟨RX8, "why", "(II)I"⟩
abbrev cX8_opens : ByteArray := prog_1_method_15_code
def yX8_opens : MethodName := ⟨RX8, "opens", "(II)I"⟩
abbrev cX8_due : ByteArray := prog_1_method_16_code
def yX8_due : MethodName := ⟨RX8, "due", "(I)I"⟩
abbrev cX8_luck : ByteArray := prog_1_method_17_code
def yX8_luck : MethodName := ⟨RX8, "luck", "(III)I"⟩
abbrev cX8_drift : ByteArray := prog_1_method_20_code
def yX8_drift : MethodName := ⟨RX8, "drift", "(I)I"⟩
abbrev cX8_undo : ByteArray := prog_1_method_21_code
def yX8_undo : MethodName := ⟨RX8, "undo", "()I"⟩
abbrev cX8_seed : ByteArray := prog_1_method_22_code
def yX8_seed : MethodName := ⟨RX8, "seed", "(I)I"⟩
abbrev cX8_image : ByteArray := prog_1_method_23_code
def yX8_image : MethodName := ⟨RX8, "image", "()I"⟩
abbrev cX8_restore : ByteArray := prog_1_method_24_code
def yX8_restore : MethodName := ⟨RX8, "restore", "()I"⟩
abbrev cX8_got : ByteArray := prog_1_method_25_code
def yX8_got : MethodName := ⟨RX8, "got", "(IIIII)I"⟩
abbrev cX8_film : ByteArray := prog_1_method_26_code
def yX8_film : MethodName := ⟨RX8, "film", "(IIII)I"⟩
abbrev cX8_sheet : ByteArray := prog_1_method_27_code
def yX8_sheet : MethodName := ⟨RX8, "sheet", "(III)I"⟩
abbrev cX8_drop : ByteArray := prog_1_method_28_code
def yX8_drop : MethodName := ⟨RX8, "drop", "(I)I"⟩
abbrev cX8_item : ByteArray := prog_1_method_29_code
def yX8_item : MethodName := ⟨RX8, "item", "(IIIJ)I"⟩
abbrev cX8_noMember : ByteArray := prog_1_method_31_code
def yX8_noMember : MethodName := ⟨RX8, "noMember", "(I)Z"⟩
abbrev cX8_noSheet : ByteArray := prog_1_method_32_code
def yX8_noSheet : MethodName := ⟨RX8, "noSheet", "(I)Z"⟩
abbrev cX8_noLane : ByteArray := prog_1_method_33_code
def yX8_noLane : MethodName := ⟨RX8, "noLane", "(I)Z"⟩
abbrev cX8_bit : ByteArray := prog_1_method_34_code
def yX8_bit : MethodName := ⟨RX8, "bit", "(II)I"⟩
abbrev cX8_has : ByteArray := prog_1_method_35_code
def yX8_has : MethodName := ⟨RX8, "has", "(II)Z"⟩
abbrev cX8_commonOfTen : ByteArray := prog_1_method_36_code
def yX8_commonOfTen : MethodName := ⟨RX8, "commonOfTen", "(I)I"⟩
abbrev cX8_planSingles : ByteArray := prog_1_method_37_code
def yX8_planSingles : MethodName := ⟨RX8, "planSingles", "()I"⟩
abbrev cX8_driftOnce : ByteArray := prog_1_method_40_code
def yX8_driftOnce : MethodName := ⟨RX8, "driftOnce", "()V"⟩
abbrev cX8_toldLetters : ByteArray := prog_1_method_41_code
def yX8_toldLetters : MethodName := ⟨RX8, "toldLetters", "(LKeyTrees$Sheet;II)Z"⟩
def RX9 : String := "KeyTreesModel"
def TX9 : u_T := fun k => match k with
  | _ => ("", "", "", false)
def tyX9 : Nat → FieldType := fun k => match k with
  | _ => .int
abbrev wsX90 : List Cond := u_ws RX9 TX9 0
theorem nmX9 : ∀ a, a < 0 → ∀ b, b < 0 → a ≠ b → (TX9 a).2.1 ≠ (TX9 b).2.1 := by decide +kernel
theorem tyX9_ok : ∀ k, k < 0 → parseFieldDescriptor (TX9 k).2.2.1 = some (tyX9 k) := by decide +kernel
def RJ6 : String := "java/lang/Integer"
def TJ6 : u_T := fun k => match k with
  | _ => ("", "", "", false)
def tyJ6 : Nat → FieldType := fun k => match k with
  | _ => .int
abbrev wsJ60 : List Cond := u_ws RJ6 TJ6 0
theorem nmJ6 : ∀ a, a < 0 → ∀ b, b < 0 → a ≠ b → (TJ6 a).2.1 ≠ (TJ6 b).2.1 := by decide +kernel
theorem tyJ6_ok : ∀ k, k < 0 → parseFieldDescriptor (TJ6 k).2.2.1 = some (tyJ6 k) := by decide +kernel
abbrev cJ6_numberOfTrailingZeros_0f7a4 : ByteArray := prog_12_method_48_code
def yJ6_numberOfTrailingZeros_0f7a4 : MethodName := ⟨RJ6, "numberOfTrailingZeros", "(I)I"⟩
abbrev cJ6_bitCount_0f7a4 : ByteArray := prog_12_method_49_code
def yJ6_bitCount_0f7a4 : MethodName := ⟨RJ6, "bitCount", "(I)I"⟩
def RJ9 : String := "java/lang/Math"
def TJ9 : u_T := fun k => match k with
  | _ => ("", "", "", false)
def tyJ9 : Nat → FieldType := fun k => match k with
  | _ => .int
abbrev wsJ90 : List Cond := u_ws RJ9 TJ9 0
theorem nmJ9 : ∀ a, a < 0 → ∀ b, b < 0 → a ≠ b → (TJ9 a).2.1 ≠ (TJ9 b).2.1 := by decide +kernel
theorem tyJ9_ok : ∀ k, k < 0 → parseFieldDescriptor (TJ9 k).2.2.1 = some (tyJ9 k) := by decide +kernel
abbrev cJ9_min_7cf53 : ByteArray := prog_13_method_69_code
def yJ9_min_7cf53 : MethodName := ⟨RJ9, "min", "(II)I"⟩
def RJ10 : String := "java/lang/System"
def TJ10 : u_T := fun k => match k with
  | _ => ("", "", "", false)
def tyJ10 : Nat → FieldType := fun k => match k with
  | _ => .int
abbrev wsJ100 : List Cond := u_ws RJ10 TJ10 0
theorem nmJ10 : ∀ a, a < 0 → ∀ b, b < 0 → a ≠ b → (TJ10 a).2.1 ≠ (TJ10 b).2.1 := by decide +kernel
theorem tyJ10_ok : ∀ k, k < 0 → parseFieldDescriptor (TJ10 k).2.2.1 = some (tyJ10 k) := by decide +kernel
def RJ7 : String := "java/util/Arrays"
def TJ7 : u_T := fun k => match k with
  | _ => ("", "", "", false)
def tyJ7 : Nat → FieldType := fun k => match k with
  | _ => .int
abbrev wsJ70 : List Cond := u_ws RJ7 TJ7 0
theorem nmJ7 : ∀ a, a < 0 → ∀ b, b < 0 → a ≠ b → (TJ7 a).2.1 ≠ (TJ7 b).2.1 := by decide +kernel
theorem tyJ7_ok : ∀ k, k < 0 → parseFieldDescriptor (TJ7 k).2.2.1 = some (tyJ7 k) := by decide +kernel
abbrev cJ7_fill_d0a16 : ByteArray := prog_15_method_101_code
def yJ7_fill_d0a16 : MethodName := ⟨RJ7, "fill", "([JJ)V"⟩
abbrev cJ7_fill_53178 : ByteArray := prog_15_method_103_code
def yJ7_fill_53178 : MethodName := ⟨RJ7, "fill", "([II)V"⟩
def RL : String := "KeyTreesLaw"
abbrev cL_cell : ByteArray := method_2_code
def yL_cell : MethodName := ⟨RL, "cell", "([II)I"⟩
abbrev cL_has : ByteArray := method_3_code
def yL_has : MethodName := ⟨RL, "has", "(II)Z"⟩
abbrev cL_bits : ByteArray := method_4_code
def yL_bits : MethodName := ⟨RL, "bits", "(I)I"⟩
abbrev cL_law : ByteArray := code
def yL_law : MethodName := ⟨RL, "law", "([I)Z"⟩
abbrev cL_mark : ByteArray := method_6_code
def yL_mark : MethodName := ⟨RL, "mark", "(LKeyTrees;)I"⟩
abbrev cL_level : ByteArray := method_7_code
def yL_level : MethodName := ⟨RL, "level", "(LKeyTrees;[I)Z"⟩
abbrev cL_gathers : ByteArray := method_8_code
def yL_gathers : MethodName := ⟨RL, "gathers", "(LKeyTrees;I)Z"⟩
abbrev cL_batch : ByteArray := method_9_code
def yL_batch : MethodName := ⟨RL, "batch", "(LKeyTrees;)Z"⟩
abbrev cL_shut : ByteArray := method_10_code
def yL_shut : MethodName := ⟨RL, "shut", "(LKeyTrees;I)Z"⟩
abbrev cL_newcomer : ByteArray := method_11_code
def yL_newcomer : MethodName := ⟨RL, "newcomer", "(LKeyTrees;I)Z"⟩
abbrev cL_late : ByteArray := method_12_code
def yL_late : MethodName := ⟨RL, "late", "(LKeyTrees;I)Z"⟩
abbrev cL_told : ByteArray := method_13_code
def yL_told : MethodName := ⟨RL, "told", "(LKeyTrees;)Z"⟩
abbrev cL_drifts : ByteArray := method_14_code
def yL_drifts : MethodName := ⟨RL, "drifts", "(LKeyTrees;[I)Z"⟩
abbrev vwCl : List vw_C := [(RX0, TX0, 11), (RX1, TX1, 5), (RX2, TX2, 4), (RX3, TX3, 3), (RX4, TX4, 2), (RX5, TX5, 2), (RX6, TX6, 3), (RX7, TX7, 2), (RX8, TX8, 9)]
