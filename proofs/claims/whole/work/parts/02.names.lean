/-! ===== BEGIN words of one list among another's, by their places ===== -/
theorem goodIn_r {big : List Cond} (ws : List Cond) (ps : List Nat) (hp : ws = ps.filterMap (fun i => big[i]?)) (h : ws.all goodWord = true) : GoodIn big ws := by
  intro w hw
  have h1 := List.all_eq_true.mp h w hw
  rw [hp] at hw
  obtain ⟨i, -, hi⟩ := List.mem_filterMap.mp hw
  have hm : w ∈ big := by first | exact List.mem_of_getElem? hi | exact List.getElem?_mem hi
  exact ⟨hm, good_of_word h1⟩
theorem goodIn_app {big a b : List Cond} (ha : GoodIn big a) (hb : GoodIn big b) : GoodIn big (a ++ b) := fun w h => (List.mem_append.mp h).elim (ha w) (hb w)
theorem goodIn_ca {big a b : List Cond} {c : Cond} (ha : GoodIn big (c :: a)) (hb : GoodIn big b) : GoodIn big (c :: (a ++ b)) := fun w h => (List.mem_cons.mp h).elim (fun e => ha w (List.mem_cons.mpr (Or.inl e))) (fun h => (List.mem_append.mp h).elim (fun h => ha w (List.mem_cons.mpr (Or.inr h))) (hb w))
theorem goodIn_sub {big ws : List Cond} (hm : ∀ w ∈ ws, w ∈ big) (h : ws.all goodWord = true) : GoodIn big ws := fun w hw => ⟨hm w hw, good_of_word (List.all_eq_true.mp h w hw)⟩
/-! ===== END ===== -/

def RX0 : String := "WatchBill$Bosun"
def TX0 : u_T := fun k => match k with
  | _ => ("", "", "", false)
def tyX0 : Nat → FieldType := fun k => match k with
  | _ => .int
abbrev wsX00 : List Cond := u_ws RX0 TX0 0
theorem nmX0 : ∀ a, a < 0 → ∀ b, b < 0 → a ≠ b → (TX0 a).2.1 ≠ (TX0 b).2.1 := by decide +kernel
theorem tyX0_ok : ∀ k, k < 0 → parseFieldDescriptor (TX0 k).2.2.1 = some (tyX0 k) := by decide +kernel
abbrev cX0_init : ByteArray := prog_2_method_1_code
def yX0_init : MethodName := ⟨RX0, "<init>", "()V"⟩
abbrev cX0_payWay : ByteArray := prog_2_method_2_code
def yX0_payWay : MethodName := ⟨RX0, "payWay", "(LWatchBill$Crew;LWatchBill$Member;I)J"⟩
abbrev cX0_heedWay : ByteArray := prog_2_method_3_code
def yX0_heedWay : MethodName := ⟨RX0, "heedWay", "(LWatchBill$Crew;LWatchBill$Member;I)I"⟩
def RX1 : String := "WatchBill$Cook"
def TX1 : u_T := fun k => match k with
  | _ => ("", "", "", false)
def tyX1 : Nat → FieldType := fun k => match k with
  | _ => .int
abbrev wsX10 : List Cond := u_ws RX1 TX1 0
theorem nmX1 : ∀ a, a < 0 → ∀ b, b < 0 → a ≠ b → (TX1 a).2.1 ≠ (TX1 b).2.1 := by decide +kernel
theorem tyX1_ok : ∀ k, k < 0 → parseFieldDescriptor (TX1 k).2.2.1 = some (tyX1 k) := by decide +kernel
abbrev cX1_init : ByteArray := prog_3_method_1_code
def yX1_init : MethodName := ⟨RX1, "<init>", "()V"⟩
abbrev cX1_toilWay : ByteArray := prog_3_method_2_code
def yX1_toilWay : MethodName := ⟨RX1, "toilWay", "(LWatchBill$Crew;LWatchBill$Member;I)J"⟩
abbrev cX1_heedWay : ByteArray := prog_3_method_3_code
def yX1_heedWay : MethodName := ⟨RX1, "heedWay", "(LWatchBill$Crew;LWatchBill$Member;I)I"⟩
def RX2 : String := "WatchBill$Crew"
def TX2 : u_T := fun k => match k with
  | 0 => ("WatchBill$Crew", "first", "LWatchBill$Member;", false)
  | 1 => ("WatchBill$Crew", "last", "LWatchBill$Member;", false)
  | 2 => ("WatchBill$Crew", "count", "I", false)
  | 3 => ("WatchBill$Crew", "kept", "[I", true)
  | _ => ("WatchBill$Crew", "noted", "I", false)
def tyX2 : Nat → FieldType := fun k => match k with
  | 0 => .object "WatchBill$Member"
  | 1 => .object "WatchBill$Member"
  | 2 => .int
  | 3 => .array .int
  | _ => .int
abbrev wsX20 : List Cond := u_ws RX2 TX2 5
theorem nmX2 : ∀ a, a < 5 → ∀ b, b < 5 → a ≠ b → (TX2 a).2.1 ≠ (TX2 b).2.1 := by decide +kernel
theorem tyX2_ok : ∀ k, k < 5 → parseFieldDescriptor (TX2 k).2.2.1 = some (tyX2 k) := by decide +kernel
abbrev cX2_init : ByteArray := prog_4_method_1_code
def yX2_init : MethodName := ⟨RX2, "<init>", "()V"⟩
abbrev cX2_add : ByteArray := prog_4_method_2_code
def yX2_add : MethodName := ⟨RX2, "add", "(IILWatchBill$Soul;)I"⟩
abbrev cX2_member : ByteArray := prog_4_method_3_code
def yX2_member : MethodName := ⟨RX2, "member", "(I)LWatchBill$Member;"⟩
abbrev cX2_forgetNotes : ByteArray := prog_4_method_4_code
def yX2_forgetNotes : MethodName := ⟨RX2, "forgetNotes", "()V"⟩
abbrev cX2_noteWay : ByteArray := prog_4_method_5_code
def yX2_noteWay : MethodName := ⟨RX2, "noteWay", "(II)V"⟩
def RX3 : String := "WatchBill$Hand"
def TX3 : u_T := fun k => match k with
  | _ => ("", "", "", false)
def tyX3 : Nat → FieldType := fun k => match k with
  | _ => .int
abbrev wsX30 : List Cond := u_ws RX3 TX3 0
theorem nmX3 : ∀ a, a < 0 → ∀ b, b < 0 → a ≠ b → (TX3 a).2.1 ≠ (TX3 b).2.1 := by decide +kernel
theorem tyX3_ok : ∀ k, k < 0 → parseFieldDescriptor (TX3 k).2.2.1 = some (tyX3 k) := by decide +kernel
abbrev cX3_init : ByteArray := prog_5_method_1_code
def yX3_init : MethodName := ⟨RX3, "<init>", "()V"⟩
abbrev cX3_payWay : ByteArray := prog_5_method_2_code
def yX3_payWay : MethodName := ⟨RX3, "payWay", "(LWatchBill$Crew;LWatchBill$Member;I)J"⟩
def RX4 : String := "WatchBill$Master"
def TX4 : u_T := fun k => match k with
  | _ => ("", "", "", false)
def tyX4 : Nat → FieldType := fun k => match k with
  | _ => .int
abbrev wsX40 : List Cond := u_ws RX4 TX4 0
theorem nmX4 : ∀ a, a < 0 → ∀ b, b < 0 → a ≠ b → (TX4 a).2.1 ≠ (TX4 b).2.1 := by decide +kernel
theorem tyX4_ok : ∀ k, k < 0 → parseFieldDescriptor (TX4 k).2.2.1 = some (tyX4 k) := by decide +kernel
abbrev cX4_init : ByteArray := prog_6_method_1_code
def yX4_init : MethodName := ⟨RX4, "<init>", "()V"⟩
abbrev cX4_toilWay : ByteArray := prog_6_method_2_code
def yX4_toilWay : MethodName := ⟨RX4, "toilWay", "(LWatchBill$Crew;LWatchBill$Member;I)J"⟩
abbrev cX4_payWay : ByteArray := prog_6_method_3_code
def yX4_payWay : MethodName := ⟨RX4, "payWay", "(LWatchBill$Crew;LWatchBill$Member;I)J"⟩
abbrev cX4_heedWay : ByteArray := prog_6_method_4_code
def yX4_heedWay : MethodName := ⟨RX4, "heedWay", "(LWatchBill$Crew;LWatchBill$Member;I)I"⟩
abbrev cX4_raceWay : ByteArray := prog_6_method_5_code
def yX4_raceWay : MethodName := ⟨RX4, "raceWay", "(LWatchBill$Crew;LWatchBill$Member;II)I"⟩
def RX5 : String := "WatchBill$Mate"
def TX5 : u_T := fun k => match k with
  | _ => ("", "", "", false)
def tyX5 : Nat → FieldType := fun k => match k with
  | _ => .int
abbrev wsX50 : List Cond := u_ws RX5 TX5 0
theorem nmX5 : ∀ a, a < 0 → ∀ b, b < 0 → a ≠ b → (TX5 a).2.1 ≠ (TX5 b).2.1 := by decide +kernel
theorem tyX5_ok : ∀ k, k < 0 → parseFieldDescriptor (TX5 k).2.2.1 = some (tyX5 k) := by decide +kernel
abbrev cX5_init : ByteArray := prog_7_method_1_code
def yX5_init : MethodName := ⟨RX5, "<init>", "()V"⟩
abbrev cX5_toilWay : ByteArray := prog_7_method_2_code
def yX5_toilWay : MethodName := ⟨RX5, "toilWay", "(LWatchBill$Crew;LWatchBill$Member;I)J"⟩
abbrev cX5_climbWay : ByteArray := prog_7_method_3_code
def yX5_climbWay : MethodName := ⟨RX5, "climbWay", "(LWatchBill$Crew;LWatchBill$Member;I)I"⟩
def RX6 : String := "WatchBill$Member"
def TX6 : u_T := fun k => match k with
  | 0 => ("WatchBill$Member", "number", "I", true)
  | 1 => ("WatchBill$Member", "skill", "I", true)
  | 2 => ("WatchBill$Member", "rank", "I", false)
  | 3 => ("WatchBill$Member", "ways", "LWatchBill$Soul;", false)
  | 4 => ("WatchBill$Member", "weary", "I", false)
  | 5 => ("WatchBill$Member", "purse", "J", false)
  | _ => ("WatchBill$Member", "next", "LWatchBill$Member;", false)
def tyX6 : Nat → FieldType := fun k => match k with
  | 0 => .int
  | 1 => .int
  | 2 => .int
  | 3 => .object "WatchBill$Soul"
  | 4 => .int
  | 5 => .long
  | _ => .object "WatchBill$Member"
abbrev wsX60 : List Cond := u_ws RX6 TX6 7
theorem nmX6 : ∀ a, a < 7 → ∀ b, b < 7 → a ≠ b → (TX6 a).2.1 ≠ (TX6 b).2.1 := by decide +kernel
theorem tyX6_ok : ∀ k, k < 7 → parseFieldDescriptor (TX6 k).2.2.1 = some (tyX6 k) := by decide +kernel
abbrev cX6_init : ByteArray := prog_8_method_1_code
def yX6_init : MethodName := ⟨RX6, "<init>", "(IIILWatchBill$Soul;)V"⟩
abbrev cX6_tire : ByteArray := prog_8_method_2_code
def yX6_tire : MethodName := ⟨RX6, "tire", "(I)V"⟩
abbrev cX6_isBelowBosun : ByteArray := prog_8_method_3_code
def yX6_isBelowBosun : MethodName := ⟨RX6, "isBelowBosun", "()Z"⟩
abbrev cX6_isClimber : ByteArray := prog_8_method_4_code
def yX6_isClimber : MethodName := ⟨RX6, "isClimber", "()Z"⟩
abbrev cX6_isPayee : ByteArray := prog_8_method_5_code
def yX6_isPayee : MethodName := ⟨RX6, "isPayee", "()Z"⟩
abbrev cX6_isCarer : ByteArray := prog_8_method_6_code
def yX6_isCarer : MethodName := ⟨RX6, "isCarer", "()Z"⟩
def RX7 : String := "WatchBill$Sailor"
def TX7 : u_T := fun k => match k with
  | _ => ("", "", "", false)
def tyX7 : Nat → FieldType := fun k => match k with
  | _ => .int
abbrev wsX70 : List Cond := u_ws RX7 TX7 0
theorem nmX7 : ∀ a, a < 0 → ∀ b, b < 0 → a ≠ b → (TX7 a).2.1 ≠ (TX7 b).2.1 := by decide +kernel
theorem tyX7_ok : ∀ k, k < 0 → parseFieldDescriptor (TX7 k).2.2.1 = some (tyX7 k) := by decide +kernel
abbrev cX7_init : ByteArray := prog_9_method_1_code
def yX7_init : MethodName := ⟨RX7, "<init>", "()V"⟩
abbrev cX7_climbWay : ByteArray := prog_9_method_2_code
def yX7_climbWay : MethodName := ⟨RX7, "climbWay", "(LWatchBill$Crew;LWatchBill$Member;I)I"⟩
def RX8 : String := "WatchBill$Soul"
def TX8 : u_T := fun k => match k with
  | _ => ("", "", "", false)
def tyX8 : Nat → FieldType := fun k => match k with
  | _ => .int
abbrev wsX80 : List Cond := u_ws RX8 TX8 0
theorem nmX8 : ∀ a, a < 0 → ∀ b, b < 0 → a ≠ b → (TX8 a).2.1 ≠ (TX8 b).2.1 := by decide +kernel
theorem tyX8_ok : ∀ k, k < 0 → parseFieldDescriptor (TX8 k).2.2.1 = some (tyX8 k) := by decide +kernel
abbrev cX8_init : ByteArray := prog_10_method_1_code
def yX8_init : MethodName := ⟨RX8, "<init>", "()V"⟩
abbrev cX8_toilWay : ByteArray := prog_10_method_2_code
def yX8_toilWay : MethodName := ⟨RX8, "toilWay", "(LWatchBill$Crew;LWatchBill$Member;I)J"⟩
abbrev cX8_climbWay : ByteArray := prog_10_method_4_code
def yX8_climbWay : MethodName := ⟨RX8, "climbWay", "(LWatchBill$Crew;LWatchBill$Member;I)I"⟩
abbrev cX8_heedWay : ByteArray := prog_10_method_5_code
def yX8_heedWay : MethodName := ⟨RX8, "heedWay", "(LWatchBill$Crew;LWatchBill$Member;I)I"⟩
abbrev cX8_raceWay : ByteArray := prog_10_method_6_code
def yX8_raceWay : MethodName := ⟨RX8, "raceWay", "(LWatchBill$Crew;LWatchBill$Member;II)I"⟩
def RX9 : String := "WatchBill$Surgeon"
def TX9 : u_T := fun k => match k with
  | _ => ("", "", "", false)
def tyX9 : Nat → FieldType := fun k => match k with
  | _ => .int
abbrev wsX90 : List Cond := u_ws RX9 TX9 0
theorem nmX9 : ∀ a, a < 0 → ∀ b, b < 0 → a ≠ b → (TX9 a).2.1 ≠ (TX9 b).2.1 := by decide +kernel
theorem tyX9_ok : ∀ k, k < 0 → parseFieldDescriptor (TX9 k).2.2.1 = some (tyX9 k) := by decide +kernel
abbrev cX9_init : ByteArray := prog_11_method_1_code
def yX9_init : MethodName := ⟨RX9, "<init>", "()V"⟩
abbrev cX9_payWay : ByteArray := prog_11_method_2_code
def yX9_payWay : MethodName := ⟨RX9, "payWay", "(LWatchBill$Crew;LWatchBill$Member;I)J"⟩
abbrev cX9_climbWay : ByteArray := prog_11_method_3_code
def yX9_climbWay : MethodName := ⟨RX9, "climbWay", "(LWatchBill$Crew;LWatchBill$Member;I)I"⟩
def RX10 : String := "WatchBill$Topman"
def TX10 : u_T := fun k => match k with
  | _ => ("", "", "", false)
def tyX10 : Nat → FieldType := fun k => match k with
  | _ => .int
abbrev wsX100 : List Cond := u_ws RX10 TX10 0
theorem nmX10 : ∀ a, a < 0 → ∀ b, b < 0 → a ≠ b → (TX10 a).2.1 ≠ (TX10 b).2.1 := by decide +kernel
theorem tyX10_ok : ∀ k, k < 0 → parseFieldDescriptor (TX10 k).2.2.1 = some (tyX10 k) := by decide +kernel
abbrev cX10_init : ByteArray := prog_12_method_1_code
def yX10_init : MethodName := ⟨RX10, "<init>", "()V"⟩
abbrev cX10_toilWay : ByteArray := prog_12_method_2_code
def yX10_toilWay : MethodName := ⟨RX10, "toilWay", "(LWatchBill$Crew;LWatchBill$Member;I)J"⟩
abbrev cX10_heedWay : ByteArray := prog_12_method_3_code
def yX10_heedWay : MethodName := ⟨RX10, "heedWay", "(LWatchBill$Crew;LWatchBill$Member;I)I"⟩
def RX11 : String := "WatchBill"
def TX11 : u_T := fun k => match k with
  | 0 => ("WatchBill", "crew", "LWatchBill$Crew;", true)
  | 1 => ("WatchBill", "ranks", "[LWatchBill$Soul;", true)
  | 2 => ("WatchBill", "lineDuty", "[I", true)
  | 3 => ("WatchBill", "lineNumber", "[I", true)
  | 4 => ("WatchBill", "lineLow", "[I", true)
  | _ => ("WatchBill", "lineHigh", "[I", true)
def tyX11 : Nat → FieldType := fun k => match k with
  | 0 => .object "WatchBill$Crew"
  | 1 => .array (.object "WatchBill$Soul")
  | 2 => .array .int
  | 3 => .array .int
  | 4 => .array .int
  | _ => .array .int
abbrev wsX110 : List Cond := u_ws RX11 TX11 6
theorem nmX11 : ∀ a, a < 6 → ∀ b, b < 6 → a ≠ b → (TX11 a).2.1 ≠ (TX11 b).2.1 := by decide +kernel
theorem tyX11_ok : ∀ k, k < 6 → parseFieldDescriptor (TX11 k).2.2.1 = some (tyX11 k) := by decide +kernel
abbrev cX11_init : ByteArray := prog_1_method_1_code
def yX11_init : MethodName := ⟨RX11, "<init>", "()V"⟩
abbrev cX11_enlist : ByteArray := prog_1_method_2_code
def yX11_enlist : MethodName := ⟨RX11, "enlist", "(II)I"⟩
abbrev cX11_promote : ByteArray := prog_1_method_3_code
def yX11_promote : MethodName := ⟨RX11, "promote", "(I)I"⟩
abbrev cX11_demote : ByteArray := prog_1_method_4_code
def yX11_demote : MethodName := ⟨RX11, "demote", "(I)I"⟩
abbrev cX11_toil : ByteArray := prog_1_method_5_code
def yX11_toil : MethodName := ⟨RX11, "toil", "(II)J"⟩
abbrev cX11_pay : ByteArray := prog_1_method_6_code
def yX11_pay : MethodName := ⟨RX11, "pay", "(II)J"⟩
abbrev cX11_climb : ByteArray := prog_1_method_7_code
def yX11_climb : MethodName := ⟨RX11, "climb", "(II)I"⟩
abbrev cX11_heed : ByteArray := prog_1_method_8_code
def yX11_heed : MethodName := ⟨RX11, "heed", "(II)I"⟩
abbrev cX11_race : ByteArray := prog_1_method_9_code
def yX11_race : MethodName := ⟨RX11, "race", "(III)I"⟩
abbrev cX11_due : ByteArray := prog_1_method_10_code
def yX11_due : MethodName := ⟨RX11, "due", "(III)J"⟩
abbrev cX11_feed : ByteArray := prog_1_method_11_code
def yX11_feed : MethodName := ⟨RX11, "feed", "(II)I"⟩
abbrev cX11_watch : ByteArray := prog_1_method_12_code
def yX11_watch : MethodName := ⟨RX11, "watch", "(II)J"⟩
abbrev cX11_line : ByteArray := prog_1_method_13_code
def yX11_line : MethodName := ⟨RX11, "line", "(IIIII)I"⟩
abbrev cX11_sail : ByteArray := prog_1_method_14_code
def yX11_sail : MethodName := ⟨RX11, "sail", "(I)J"⟩
abbrev cX11_rest : ByteArray := prog_1_method_15_code
def yX11_rest : MethodName := ⟨RX11, "rest", "(I)I"⟩
abbrev cX11_told : ByteArray := prog_1_method_16_code
def yX11_told : MethodName := ⟨RX11, "told", "(II)J"⟩
abbrev cX11_note : ByteArray := prog_1_method_17_code
def yX11_note : MethodName := ⟨RX11, "note", "(I)I"⟩
abbrev cX11_notes : ByteArray := prog_1_method_18_code
def yX11_notes : MethodName := ⟨RX11, "notes", "()I"⟩
abbrev cX11_giveRank : ByteArray := prog_1_method_19_code
def yX11_giveRank : MethodName := ⟨RX11, "giveRank", "(LWatchBill$Member;I)I"⟩
abbrev cX11_sailLine : ByteArray := prog_1_method_20_code
def yX11_sailLine : MethodName := ⟨RX11, "sailLine", "(IIII)J"⟩
abbrev cX11_doDuty : ByteArray := prog_1_method_21_code
def yX11_doDuty : MethodName := ⟨RX11, "doDuty", "(LWatchBill$Member;II)J"⟩
abbrev cX11_isRank : ByteArray := prog_1_method_22_code
def yX11_isRank : MethodName := ⟨RX11, "isRank", "(I)Z"⟩
abbrev cX11_isDuty : ByteArray := prog_1_method_23_code
def yX11_isDuty : MethodName := ⟨RX11, "isDuty", "(I)Z"⟩
abbrev cX11_isTimes : ByteArray := prog_1_method_24_code
def yX11_isTimes : MethodName := ⟨RX11, "isTimes", "(I)Z"⟩
abbrev cX11_isBeyondBound : ByteArray := prog_1_method_25_code
def yX11_isBeyondBound : MethodName := ⟨RX11, "isBeyondBound", "(II)Z"⟩
abbrev cX11_boundOf : ByteArray := prog_1_method_26_code
def yX11_boundOf : MethodName := ⟨RX11, "boundOf", "(I)I"⟩
def RX12 : String := "WatchBillModel"
def TX12 : u_T := fun k => match k with
  | 0 => ("WatchBillModel", "members", "I", false)
  | 1 => ("WatchBillModel", "rank", "[I", true)
  | 2 => ("WatchBillModel", "skill", "[I", true)
  | 3 => ("WatchBillModel", "weary", "[I", true)
  | 4 => ("WatchBillModel", "purse", "[J", true)
  | 5 => ("WatchBillModel", "lineDuty", "[I", true)
  | 6 => ("WatchBillModel", "lineNumber", "[I", true)
  | 7 => ("WatchBillModel", "lineLow", "[I", true)
  | 8 => ("WatchBillModel", "lineHigh", "[I", true)
  | 9 => ("WatchBillModel", "kept", "[I", true)
  | _ => ("WatchBillModel", "noted", "I", false)
def tyX12 : Nat → FieldType := fun k => match k with
  | 0 => .int
  | 1 => .array .int
  | 2 => .array .int
  | 3 => .array .int
  | 4 => .array .long
  | 5 => .array .int
  | 6 => .array .int
  | 7 => .array .int
  | 8 => .array .int
  | 9 => .array .int
  | _ => .int
abbrev wsX120 : List Cond := u_ws RX12 TX12 11
theorem nmX12 : ∀ a, a < 11 → ∀ b, b < 11 → a ≠ b → (TX12 a).2.1 ≠ (TX12 b).2.1 := by decide +kernel
theorem tyX12_ok : ∀ k, k < 11 → parseFieldDescriptor (TX12 k).2.2.1 = some (tyX12 k) := by decide +kernel
abbrev cX12_init : ByteArray := prog_14_method_1_code
def yX12_init : MethodName := ⟨RX12, "<init>", "()V"⟩
abbrev cX12_elderOf : ByteArray := prog_14_method_2_code
def yX12_elderOf : MethodName := ⟨RX12, "elderOf", "(I)I"⟩
abbrev cX12_boundOf : ByteArray := prog_14_method_3_code
def yX12_boundOf : MethodName := ⟨RX12, "boundOf", "(I)I"⟩
abbrev cX12_isMember : ByteArray := prog_14_method_4_code
def yX12_isMember : MethodName := ⟨RX12, "isMember", "(I)Z"⟩
abbrev cX12_isWithin : ByteArray := prog_14_method_5_code
def yX12_isWithin : MethodName := ⟨RX12, "isWithin", "(II)Z"⟩
abbrev cX12_mark : ByteArray := prog_14_method_6_code
def yX12_mark : MethodName := ⟨RX12, "mark", "(I)V"⟩
abbrev cX12_tire : ByteArray := prog_14_method_7_code
def yX12_tire : MethodName := ⟨RX12, "tire", "(II)V"⟩
abbrev cX12_howMany : ByteArray := prog_14_method_8_code
def yX12_howMany : MethodName := ⟨RX12, "howMany", "(II)I"⟩
abbrev cX12_soulToils : ByteArray := prog_14_method_9_code
def yX12_soulToils : MethodName := ⟨RX12, "soulToils", "(II)J"⟩
abbrev cX12_topmanToils : ByteArray := prog_14_method_10_code
def yX12_topmanToils : MethodName := ⟨RX12, "topmanToils", "(II)J"⟩
abbrev cX12_mateToils : ByteArray := prog_14_method_11_code
def yX12_mateToils : MethodName := ⟨RX12, "mateToils", "(II)J"⟩
abbrev cX12_masterToils : ByteArray := prog_14_method_12_code
def yX12_masterToils : MethodName := ⟨RX12, "masterToils", "(II)J"⟩
abbrev cX12_cookToils : ByteArray := prog_14_method_13_code
def yX12_cookToils : MethodName := ⟨RX12, "cookToils", "(II)J"⟩
abbrev cX12_toils : ByteArray := prog_14_method_14_code
def yX12_toils : MethodName := ⟨RX12, "toils", "(II)J"⟩
abbrev cX12_handIsPaid : ByteArray := prog_14_method_15_code
def yX12_handIsPaid : MethodName := ⟨RX12, "handIsPaid", "(II)J"⟩
abbrev cX12_bosunIsPaid : ByteArray := prog_14_method_16_code
def yX12_bosunIsPaid : MethodName := ⟨RX12, "bosunIsPaid", "(II)J"⟩
abbrev cX12_masterIsPaid : ByteArray := prog_14_method_17_code
def yX12_masterIsPaid : MethodName := ⟨RX12, "masterIsPaid", "(II)J"⟩
abbrev cX12_surgeonIsPaid : ByteArray := prog_14_method_18_code
def yX12_surgeonIsPaid : MethodName := ⟨RX12, "surgeonIsPaid", "(II)J"⟩
abbrev cX12_isPaid : ByteArray := prog_14_method_19_code
def yX12_isPaid : MethodName := ⟨RX12, "isPaid", "(II)J"⟩
abbrev cX12_soulClimbs : ByteArray := prog_14_method_20_code
def yX12_soulClimbs : MethodName := ⟨RX12, "soulClimbs", "(II)J"⟩
abbrev cX12_sailorClimbs : ByteArray := prog_14_method_21_code
def yX12_sailorClimbs : MethodName := ⟨RX12, "sailorClimbs", "(II)J"⟩
abbrev cX12_mateClimbs : ByteArray := prog_14_method_22_code
def yX12_mateClimbs : MethodName := ⟨RX12, "mateClimbs", "(II)J"⟩
abbrev cX12_surgeonClimbs : ByteArray := prog_14_method_23_code
def yX12_surgeonClimbs : MethodName := ⟨RX12, "surgeonClimbs", "(II)J"⟩
abbrev cX12_climbs : ByteArray := prog_14_method_24_code
def yX12_climbs : MethodName := ⟨RX12, "climbs", "(II)J"⟩
abbrev cX12_soulHeeds : ByteArray := prog_14_method_25_code
def yX12_soulHeeds : MethodName := ⟨RX12, "soulHeeds", "(II)J"⟩
abbrev cX12_topmanHeeds : ByteArray := prog_14_method_26_code
def yX12_topmanHeeds : MethodName := ⟨RX12, "topmanHeeds", "(II)J"⟩
abbrev cX12_bosunHeeds : ByteArray := prog_14_method_27_code
def yX12_bosunHeeds : MethodName := ⟨RX12, "bosunHeeds", "(II)J"⟩
abbrev cX12_masterHeeds : ByteArray := prog_14_method_28_code
def yX12_masterHeeds : MethodName := ⟨RX12, "masterHeeds", "(II)J"⟩
abbrev cX12_cookHeeds : ByteArray := prog_14_method_29_code
def yX12_cookHeeds : MethodName := ⟨RX12, "cookHeeds", "(II)J"⟩
abbrev cX12_heeds : ByteArray := prog_14_method_30_code
def yX12_heeds : MethodName := ⟨RX12, "heeds", "(II)J"⟩
abbrev cX12_does : ByteArray := prog_14_method_31_code
def yX12_does : MethodName := ⟨RX12, "does", "(III)J"⟩
abbrev cX12_work : ByteArray := prog_14_method_32_code
def yX12_work : MethodName := ⟨RX12, "work", "(IIIZ)J"⟩
abbrev cX12_may : ByteArray := prog_14_method_33_code
def yX12_may : MethodName := ⟨RX12, "may", "(III)Z"⟩
abbrev cX12_begin : ByteArray := prog_14_method_34_code
def yX12_begin : MethodName := ⟨RX12, "begin", "(III)J"⟩
abbrev cX12_enlist : ByteArray := prog_14_method_35_code
def yX12_enlist : MethodName := ⟨RX12, "enlist", "(II)I"⟩
abbrev cX12_promote : ByteArray := prog_14_method_36_code
def yX12_promote : MethodName := ⟨RX12, "promote", "(I)I"⟩
abbrev cX12_demote : ByteArray := prog_14_method_37_code
def yX12_demote : MethodName := ⟨RX12, "demote", "(I)I"⟩
abbrev cX12_toil : ByteArray := prog_14_method_38_code
def yX12_toil : MethodName := ⟨RX12, "toil", "(II)J"⟩
abbrev cX12_pay : ByteArray := prog_14_method_39_code
def yX12_pay : MethodName := ⟨RX12, "pay", "(II)J"⟩
abbrev cX12_climb : ByteArray := prog_14_method_40_code
def yX12_climb : MethodName := ⟨RX12, "climb", "(II)I"⟩
abbrev cX12_heed : ByteArray := prog_14_method_41_code
def yX12_heed : MethodName := ⟨RX12, "heed", "(II)I"⟩
abbrev cX12_isClimber : ByteArray := prog_14_method_42_code
def yX12_isClimber : MethodName := ⟨RX12, "isClimber", "(I)Z"⟩
abbrev cX12_isCarer : ByteArray := prog_14_method_43_code
def yX12_isCarer : MethodName := ⟨RX12, "isCarer", "(I)Z"⟩
abbrev cX12_race : ByteArray := prog_14_method_44_code
def yX12_race : MethodName := ⟨RX12, "race", "(III)I"⟩
abbrev cX12_due : ByteArray := prog_14_method_45_code
def yX12_due : MethodName := ⟨RX12, "due", "(III)J"⟩
abbrev cX12_feed : ByteArray := prog_14_method_46_code
def yX12_feed : MethodName := ⟨RX12, "feed", "(II)I"⟩
abbrev cX12_watch : ByteArray := prog_14_method_47_code
def yX12_watch : MethodName := ⟨RX12, "watch", "(II)J"⟩
abbrev cX12_line : ByteArray := prog_14_method_48_code
def yX12_line : MethodName := ⟨RX12, "line", "(IIIII)I"⟩
abbrev cX12_sail : ByteArray := prog_14_method_49_code
def yX12_sail : MethodName := ⟨RX12, "sail", "(I)J"⟩
abbrev cX12_rest : ByteArray := prog_14_method_50_code
def yX12_rest : MethodName := ⟨RX12, "rest", "(I)I"⟩
abbrev cX12_told : ByteArray := prog_14_method_51_code
def yX12_told : MethodName := ⟨RX12, "told", "(II)J"⟩
abbrev cX12_note : ByteArray := prog_14_method_52_code
def yX12_note : MethodName := ⟨RX12, "note", "(I)I"⟩
abbrev cX12_notes : ByteArray := prog_14_method_53_code
def yX12_notes : MethodName := ⟨RX12, "notes", "()I"⟩
def RL : String := "WatchBillLaw"
abbrev cL_law : ByteArray := code
def yL_law : MethodName := ⟨RL, "law", "([I)Z"⟩
abbrev vwCl : List vw_C := [(RX0, TX0, 0), (RX1, TX1, 0), (RX2, TX2, 5), (RX3, TX3, 0), (RX4, TX4, 0), (RX5, TX5, 0), (RX6, TX6, 7), (RX7, TX7, 0), (RX9, TX9, 0), (RX10, TX10, 0), (RX11, TX11, 6), (RX12, TX12, 11)]
