section
-- ===== PART A: goes FIRST, ahead of the names: the tables' words, and 'selects' of the private methods out of them =====
/-- a private method of a class that the tables say can be made, by its rows of tables_1 -/
def lw_okq (q : MethodName × Nat) : Prop := (q.1.cls ≠ "java/lang/invoke/MethodHandle" ∧ q.1.cls ≠ "java/lang/invoke/VarHandle") ∧ Cond.instantiable q.1.cls q.2 ∈ tables_1 ∧ Cond.privateMethod q.1 ∈ tables_1 ∧ Cond.instanceMethod q.1 ∈ tables_1
theorem lw_p0 : lw_okq (⟨"WatchBill", "giveRank", "(LWatchBill$Member;I)I"⟩, 6) := ⟨⟨by decide +kernel, by decide +kernel⟩, List.mem_of_getElem? (i := 15) (by decide +kernel), List.mem_of_getElem? (i := 196) (by decide +kernel), List.mem_of_getElem? (i := 197) (by decide +kernel)⟩
theorem lw_p1 : lw_okq (⟨"WatchBill", "doDuty", "(LWatchBill$Member;II)J"⟩, 6) := ⟨⟨by decide +kernel, by decide +kernel⟩, List.mem_of_getElem? (i := 15) (by decide +kernel), List.mem_of_getElem? (i := 424) (by decide +kernel), List.mem_of_getElem? (i := 425) (by decide +kernel)⟩
theorem lw_p2 : lw_okq (⟨"WatchBill", "sailLine", "(IIII)J"⟩, 6) := ⟨⟨by decide +kernel, by decide +kernel⟩, List.mem_of_getElem? (i := 15) (by decide +kernel), List.mem_of_getElem? (i := 436) (by decide +kernel), List.mem_of_getElem? (i := 437) (by decide +kernel)⟩
theorem lw_p3 : lw_okq (⟨"WatchBillModel", "isMember", "(I)Z"⟩, 11) := ⟨⟨by decide +kernel, by decide +kernel⟩, List.mem_of_getElem? (i := 456) (by decide +kernel), List.mem_of_getElem? (i := 506) (by decide +kernel), List.mem_of_getElem? (i := 507) (by decide +kernel)⟩
theorem lw_p4 : lw_okq (⟨"WatchBillModel", "begin", "(III)J"⟩, 11) := ⟨⟨by decide +kernel, by decide +kernel⟩, List.mem_of_getElem? (i := 456) (by decide +kernel), List.mem_of_getElem? (i := 521) (by decide +kernel), List.mem_of_getElem? (i := 522) (by decide +kernel)⟩
theorem lw_p5 : lw_okq (⟨"WatchBillModel", "may", "(III)Z"⟩, 11) := ⟨⟨by decide +kernel, by decide +kernel⟩, List.mem_of_getElem? (i := 456) (by decide +kernel), List.mem_of_getElem? (i := 525) (by decide +kernel), List.mem_of_getElem? (i := 526) (by decide +kernel)⟩
theorem lw_p6 : lw_okq (⟨"WatchBillModel", "work", "(IIIZ)J"⟩, 11) := ⟨⟨by decide +kernel, by decide +kernel⟩, List.mem_of_getElem? (i := 456) (by decide +kernel), List.mem_of_getElem? (i := 536) (by decide +kernel), List.mem_of_getElem? (i := 537) (by decide +kernel)⟩
theorem lw_p7 : lw_okq (⟨"WatchBillModel", "does", "(III)J"⟩, 11) := ⟨⟨by decide +kernel, by decide +kernel⟩, List.mem_of_getElem? (i := 456) (by decide +kernel), List.mem_of_getElem? (i := 540) (by decide +kernel), List.mem_of_getElem? (i := 541) (by decide +kernel)⟩
theorem lw_p8 : lw_okq (⟨"WatchBillModel", "toils", "(II)J"⟩, 11) := ⟨⟨by decide +kernel, by decide +kernel⟩, List.mem_of_getElem? (i := 456) (by decide +kernel), List.mem_of_getElem? (i := 544) (by decide +kernel), List.mem_of_getElem? (i := 545) (by decide +kernel)⟩
theorem lw_p9 : lw_okq (⟨"WatchBillModel", "soulToils", "(II)J"⟩, 11) := ⟨⟨by decide +kernel, by decide +kernel⟩, List.mem_of_getElem? (i := 456) (by decide +kernel), List.mem_of_getElem? (i := 548) (by decide +kernel), List.mem_of_getElem? (i := 549) (by decide +kernel)⟩
theorem lw_p10 : lw_okq (⟨"WatchBillModel", "mark", "(I)V"⟩, 11) := ⟨⟨by decide +kernel, by decide +kernel⟩, List.mem_of_getElem? (i := 456) (by decide +kernel), List.mem_of_getElem? (i := 552) (by decide +kernel), List.mem_of_getElem? (i := 553) (by decide +kernel)⟩
theorem lw_p11 : lw_okq (⟨"WatchBillModel", "tire", "(II)V"⟩, 11) := ⟨⟨by decide +kernel, by decide +kernel⟩, List.mem_of_getElem? (i := 456) (by decide +kernel), List.mem_of_getElem? (i := 556) (by decide +kernel), List.mem_of_getElem? (i := 557) (by decide +kernel)⟩
theorem lw_p12 : lw_okq (⟨"WatchBillModel", "topmanToils", "(II)J"⟩, 11) := ⟨⟨by decide +kernel, by decide +kernel⟩, List.mem_of_getElem? (i := 456) (by decide +kernel), List.mem_of_getElem? (i := 560) (by decide +kernel), List.mem_of_getElem? (i := 561) (by decide +kernel)⟩
theorem lw_p13 : lw_okq (⟨"WatchBillModel", "mateToils", "(II)J"⟩, 11) := ⟨⟨by decide +kernel, by decide +kernel⟩, List.mem_of_getElem? (i := 456) (by decide +kernel), List.mem_of_getElem? (i := 565) (by decide +kernel), List.mem_of_getElem? (i := 566) (by decide +kernel)⟩
theorem lw_p14 : lw_okq (⟨"WatchBillModel", "masterToils", "(II)J"⟩, 11) := ⟨⟨by decide +kernel, by decide +kernel⟩, List.mem_of_getElem? (i := 456) (by decide +kernel), List.mem_of_getElem? (i := 569) (by decide +kernel), List.mem_of_getElem? (i := 570) (by decide +kernel)⟩
theorem lw_p15 : lw_okq (⟨"WatchBillModel", "cookToils", "(II)J"⟩, 11) := ⟨⟨by decide +kernel, by decide +kernel⟩, List.mem_of_getElem? (i := 456) (by decide +kernel), List.mem_of_getElem? (i := 574) (by decide +kernel), List.mem_of_getElem? (i := 575) (by decide +kernel)⟩
def lw_privs_1 : List (MethodName × Nat) := [(⟨"WatchBill", "giveRank", "(LWatchBill$Member;I)I"⟩, 6), (⟨"WatchBill", "doDuty", "(LWatchBill$Member;II)J"⟩, 6), (⟨"WatchBill", "sailLine", "(IIII)J"⟩, 6), (⟨"WatchBillModel", "isMember", "(I)Z"⟩, 11), (⟨"WatchBillModel", "begin", "(III)J"⟩, 11), (⟨"WatchBillModel", "may", "(III)Z"⟩, 11), (⟨"WatchBillModel", "work", "(IIIZ)J"⟩, 11), (⟨"WatchBillModel", "does", "(III)J"⟩, 11), (⟨"WatchBillModel", "toils", "(II)J"⟩, 11), (⟨"WatchBillModel", "soulToils", "(II)J"⟩, 11), (⟨"WatchBillModel", "mark", "(I)V"⟩, 11), (⟨"WatchBillModel", "tire", "(II)V"⟩, 11), (⟨"WatchBillModel", "topmanToils", "(II)J"⟩, 11), (⟨"WatchBillModel", "mateToils", "(II)J"⟩, 11), (⟨"WatchBillModel", "masterToils", "(II)J"⟩, 11), (⟨"WatchBillModel", "cookToils", "(II)J"⟩, 11)]
theorem lw_r1 : ∀ q ∈ lw_privs_1, lw_okq q := List.forall_mem_cons.mpr ⟨lw_p0, List.forall_mem_cons.mpr ⟨lw_p1, List.forall_mem_cons.mpr ⟨lw_p2, List.forall_mem_cons.mpr ⟨lw_p3, List.forall_mem_cons.mpr ⟨lw_p4, List.forall_mem_cons.mpr ⟨lw_p5, List.forall_mem_cons.mpr ⟨lw_p6, List.forall_mem_cons.mpr ⟨lw_p7, List.forall_mem_cons.mpr ⟨lw_p8, List.forall_mem_cons.mpr ⟨lw_p9, List.forall_mem_cons.mpr ⟨lw_p10, List.forall_mem_cons.mpr ⟨lw_p11, List.forall_mem_cons.mpr ⟨lw_p12, List.forall_mem_cons.mpr ⟨lw_p13, List.forall_mem_cons.mpr ⟨lw_p14, List.forall_mem_cons.mpr ⟨lw_p15, fun _ h => absurd h List.not_mem_nil⟩⟩⟩⟩⟩⟩⟩⟩⟩⟩⟩⟩⟩⟩⟩⟩
theorem lw_p16 : lw_okq (⟨"WatchBillModel", "isPaid", "(II)J"⟩, 11) := ⟨⟨by decide +kernel, by decide +kernel⟩, List.mem_of_getElem? (i := 456) (by decide +kernel), List.mem_of_getElem? (i := 578) (by decide +kernel), List.mem_of_getElem? (i := 579) (by decide +kernel)⟩
theorem lw_p17 : lw_okq (⟨"WatchBillModel", "bosunIsPaid", "(II)J"⟩, 11) := ⟨⟨by decide +kernel, by decide +kernel⟩, List.mem_of_getElem? (i := 456) (by decide +kernel), List.mem_of_getElem? (i := 582) (by decide +kernel), List.mem_of_getElem? (i := 583) (by decide +kernel)⟩
theorem lw_p18 : lw_okq (⟨"WatchBillModel", "handIsPaid", "(II)J"⟩, 11) := ⟨⟨by decide +kernel, by decide +kernel⟩, List.mem_of_getElem? (i := 456) (by decide +kernel), List.mem_of_getElem? (i := 586) (by decide +kernel), List.mem_of_getElem? (i := 587) (by decide +kernel)⟩
theorem lw_p19 : lw_okq (⟨"WatchBillModel", "howMany", "(II)I"⟩, 11) := ⟨⟨by decide +kernel, by decide +kernel⟩, List.mem_of_getElem? (i := 456) (by decide +kernel), List.mem_of_getElem? (i := 591) (by decide +kernel), List.mem_of_getElem? (i := 592) (by decide +kernel)⟩
theorem lw_p20 : lw_okq (⟨"WatchBillModel", "masterIsPaid", "(II)J"⟩, 11) := ⟨⟨by decide +kernel, by decide +kernel⟩, List.mem_of_getElem? (i := 456) (by decide +kernel), List.mem_of_getElem? (i := 595) (by decide +kernel), List.mem_of_getElem? (i := 596) (by decide +kernel)⟩
theorem lw_p21 : lw_okq (⟨"WatchBillModel", "surgeonIsPaid", "(II)J"⟩, 11) := ⟨⟨by decide +kernel, by decide +kernel⟩, List.mem_of_getElem? (i := 456) (by decide +kernel), List.mem_of_getElem? (i := 599) (by decide +kernel), List.mem_of_getElem? (i := 600) (by decide +kernel)⟩
theorem lw_p22 : lw_okq (⟨"WatchBillModel", "climbs", "(II)J"⟩, 11) := ⟨⟨by decide +kernel, by decide +kernel⟩, List.mem_of_getElem? (i := 456) (by decide +kernel), List.mem_of_getElem? (i := 604) (by decide +kernel), List.mem_of_getElem? (i := 605) (by decide +kernel)⟩
theorem lw_p23 : lw_okq (⟨"WatchBillModel", "sailorClimbs", "(II)J"⟩, 11) := ⟨⟨by decide +kernel, by decide +kernel⟩, List.mem_of_getElem? (i := 456) (by decide +kernel), List.mem_of_getElem? (i := 608) (by decide +kernel), List.mem_of_getElem? (i := 609) (by decide +kernel)⟩
theorem lw_p24 : lw_okq (⟨"WatchBillModel", "soulClimbs", "(II)J"⟩, 11) := ⟨⟨by decide +kernel, by decide +kernel⟩, List.mem_of_getElem? (i := 456) (by decide +kernel), List.mem_of_getElem? (i := 612) (by decide +kernel), List.mem_of_getElem? (i := 613) (by decide +kernel)⟩
theorem lw_p25 : lw_okq (⟨"WatchBillModel", "mateClimbs", "(II)J"⟩, 11) := ⟨⟨by decide +kernel, by decide +kernel⟩, List.mem_of_getElem? (i := 456) (by decide +kernel), List.mem_of_getElem? (i := 617) (by decide +kernel), List.mem_of_getElem? (i := 618) (by decide +kernel)⟩
theorem lw_p26 : lw_okq (⟨"WatchBillModel", "surgeonClimbs", "(II)J"⟩, 11) := ⟨⟨by decide +kernel, by decide +kernel⟩, List.mem_of_getElem? (i := 456) (by decide +kernel), List.mem_of_getElem? (i := 621) (by decide +kernel), List.mem_of_getElem? (i := 622) (by decide +kernel)⟩
theorem lw_p27 : lw_okq (⟨"WatchBillModel", "heeds", "(II)J"⟩, 11) := ⟨⟨by decide +kernel, by decide +kernel⟩, List.mem_of_getElem? (i := 456) (by decide +kernel), List.mem_of_getElem? (i := 625) (by decide +kernel), List.mem_of_getElem? (i := 626) (by decide +kernel)⟩
theorem lw_p28 : lw_okq (⟨"WatchBillModel", "soulHeeds", "(II)J"⟩, 11) := ⟨⟨by decide +kernel, by decide +kernel⟩, List.mem_of_getElem? (i := 456) (by decide +kernel), List.mem_of_getElem? (i := 629) (by decide +kernel), List.mem_of_getElem? (i := 630) (by decide +kernel)⟩
theorem lw_p29 : lw_okq (⟨"WatchBillModel", "topmanHeeds", "(II)J"⟩, 11) := ⟨⟨by decide +kernel, by decide +kernel⟩, List.mem_of_getElem? (i := 456) (by decide +kernel), List.mem_of_getElem? (i := 635) (by decide +kernel), List.mem_of_getElem? (i := 636) (by decide +kernel)⟩
theorem lw_p30 : lw_okq (⟨"WatchBillModel", "bosunHeeds", "(II)J"⟩, 11) := ⟨⟨by decide +kernel, by decide +kernel⟩, List.mem_of_getElem? (i := 456) (by decide +kernel), List.mem_of_getElem? (i := 639) (by decide +kernel), List.mem_of_getElem? (i := 640) (by decide +kernel)⟩
theorem lw_p31 : lw_okq (⟨"WatchBillModel", "masterHeeds", "(II)J"⟩, 11) := ⟨⟨by decide +kernel, by decide +kernel⟩, List.mem_of_getElem? (i := 456) (by decide +kernel), List.mem_of_getElem? (i := 643) (by decide +kernel), List.mem_of_getElem? (i := 644) (by decide +kernel)⟩
def lw_privs_2 : List (MethodName × Nat) := [(⟨"WatchBillModel", "isPaid", "(II)J"⟩, 11), (⟨"WatchBillModel", "bosunIsPaid", "(II)J"⟩, 11), (⟨"WatchBillModel", "handIsPaid", "(II)J"⟩, 11), (⟨"WatchBillModel", "howMany", "(II)I"⟩, 11), (⟨"WatchBillModel", "masterIsPaid", "(II)J"⟩, 11), (⟨"WatchBillModel", "surgeonIsPaid", "(II)J"⟩, 11), (⟨"WatchBillModel", "climbs", "(II)J"⟩, 11), (⟨"WatchBillModel", "sailorClimbs", "(II)J"⟩, 11), (⟨"WatchBillModel", "soulClimbs", "(II)J"⟩, 11), (⟨"WatchBillModel", "mateClimbs", "(II)J"⟩, 11), (⟨"WatchBillModel", "surgeonClimbs", "(II)J"⟩, 11), (⟨"WatchBillModel", "heeds", "(II)J"⟩, 11), (⟨"WatchBillModel", "soulHeeds", "(II)J"⟩, 11), (⟨"WatchBillModel", "topmanHeeds", "(II)J"⟩, 11), (⟨"WatchBillModel", "bosunHeeds", "(II)J"⟩, 11), (⟨"WatchBillModel", "masterHeeds", "(II)J"⟩, 11)]
theorem lw_r2 : ∀ q ∈ lw_privs_2, lw_okq q := List.forall_mem_cons.mpr ⟨lw_p16, List.forall_mem_cons.mpr ⟨lw_p17, List.forall_mem_cons.mpr ⟨lw_p18, List.forall_mem_cons.mpr ⟨lw_p19, List.forall_mem_cons.mpr ⟨lw_p20, List.forall_mem_cons.mpr ⟨lw_p21, List.forall_mem_cons.mpr ⟨lw_p22, List.forall_mem_cons.mpr ⟨lw_p23, List.forall_mem_cons.mpr ⟨lw_p24, List.forall_mem_cons.mpr ⟨lw_p25, List.forall_mem_cons.mpr ⟨lw_p26, List.forall_mem_cons.mpr ⟨lw_p27, List.forall_mem_cons.mpr ⟨lw_p28, List.forall_mem_cons.mpr ⟨lw_p29, List.forall_mem_cons.mpr ⟨lw_p30, List.forall_mem_cons.mpr ⟨lw_p31, fun _ h => absurd h List.not_mem_nil⟩⟩⟩⟩⟩⟩⟩⟩⟩⟩⟩⟩⟩⟩⟩⟩
theorem lw_p32 : lw_okq (⟨"WatchBillModel", "cookHeeds", "(II)J"⟩, 11) := ⟨⟨by decide +kernel, by decide +kernel⟩, List.mem_of_getElem? (i := 456) (by decide +kernel), List.mem_of_getElem? (i := 648) (by decide +kernel), List.mem_of_getElem? (i := 649) (by decide +kernel)⟩
def lw_privs_3 : List (MethodName × Nat) := [(⟨"WatchBillModel", "cookHeeds", "(II)J"⟩, 11)]
theorem lw_r3 : ∀ q ∈ lw_privs_3, lw_okq q := List.forall_mem_cons.mpr ⟨lw_p32, fun _ h => absurd h List.not_mem_nil⟩
def lw_privs : List (MethodName × Nat) := lw_privs_1 ++ (lw_privs_2 ++ (lw_privs_3))
def lw_tbl : List Cond := k2_sels lw_privs ++ tables_1
theorem lw_privs_ok : ∀ q ∈ lw_privs, lw_okq q := by
  show ∀ q ∈ lw_privs_1 ++ (lw_privs_2 ++ (lw_privs_3)), lw_okq q
  exact List.forall_mem_append.mpr ⟨lw_r1, List.forall_mem_append.mpr ⟨lw_r2, lw_r3⟩⟩
end
section
/-! ===== BEGIN words of one list among another's, by their places ===== -/
theorem goodIn_r {big : List Cond} (ws : List Cond) (ps : List Nat) (hp : ws = ps.filterMap (fun i => big[i]?)) (h : ws.all goodWord = true) : GoodIn big ws := by
  intro w hw
  have h1 := List.all_eq_true.mp h w hw
  rw [hp] at hw
  obtain ⟨i, -, hi⟩ := List.mem_filterMap.mp hw
  have hm : w ∈ big := by first | exact List.mem_of_getElem? hi | exact List.getElem?_mem hi
  exact ⟨hm, good_of_word h1⟩
theorem goodIn_app {big a b : List Cond} (ha : GoodIn big a) (hb : GoodIn big b) : GoodIn big (a ++ b) := fun w h => (List.mem_append.mp h).elim (ha w) (hb w)
theorem goodIn_ca {big a b : List Cond} {c : Cond} (ha : GoodIn big (c :: a)) (hb : GoodIn big b) : GoodIn big (c :: (a ++ b)) := fun w h => (List.mem_cons.mp h).elim (fun e => ha w (List.mem_cons.mpr (Or.inl e))) (fun h => (List.mem_append.mp h).elim (fun h => ha w (List.mem_cons.mpr (Or.inr h))) (hb w))
theorem goodIn_sub {big ws : List Cond} (hm : ∀ w ∈ ws, w ∈ big) (h : ws.all goodWord = true) : GoodIn big ws := fun w hw => ⟨hm w hw, good_of_word (List.all_eq_true.mp h w hw)⟩
/-! ===== END ===== -/

def RX0 : String := "WatchBill$Bosun"
def TX0 : u_T := fun k => match k with
  | _ => ("", "", "", false)
def tyX0 : Nat → FieldType := fun k => match k with
  | _ => .int
abbrev wsX00 : List Cond := u_ws RX0 TX0 0
theorem nmX0 : ∀ a, a < 0 → ∀ b, b < 0 → a ≠ b → (TX0 a).2.1 ≠ (TX0 b).2.1 := by decide +kernel
theorem tyX0_ok : ∀ k, k < 0 → parseFieldDescriptor (TX0 k).2.2.1 = some (tyX0 k) := by decide +kernel
abbrev cX0_init : ByteArray := prog_2_method_1_code
def yX0_init : MethodName := ⟨RX0, "<init>", "()V"⟩
abbrev cX0_payWay : ByteArray := prog_2_method_2_code
def yX0_payWay : MethodName := ⟨RX0, "payWay", "(LWatchBill$Crew;LWatchBill$Member;I)J"⟩
abbrev cX0_heedWay : ByteArray := prog_2_method_3_code
def yX0_heedWay : MethodName := ⟨RX0, "heedWay", "(LWatchBill$Crew;LWatchBill$Member;I)I"⟩
def RX1 : String := "WatchBill$Cook"
def TX1 : u_T := fun k => match k with
  | _ => ("", "", "", false)
def tyX1 : Nat → FieldType := fun k => match k with
  | _ => .int
abbrev wsX10 : List Cond := u_ws RX1 TX1 0
theorem nmX1 : ∀ a, a < 0 → ∀ b, b < 0 → a ≠ b → (TX1 a).2.1 ≠ (TX1 b).2.1 := by decide +kernel
theorem tyX1_ok : ∀ k, k < 0 → parseFieldDescriptor (TX1 k).2.2.1 = some (tyX1 k) := by decide +kernel
abbrev cX1_init : ByteArray := prog_3_method_1_code
def yX1_init : MethodName := ⟨RX1, "<init>", "()V"⟩
abbrev cX1_toilWay : ByteArray := prog_3_method_2_code
def yX1_toilWay : MethodName := ⟨RX1, "toilWay", "(LWatchBill$Crew;LWatchBill$Member;I)J"⟩
abbrev cX1_heedWay : ByteArray := prog_3_method_3_code
def yX1_heedWay : MethodName := ⟨RX1, "heedWay", "(LWatchBill$Crew;LWatchBill$Member;I)I"⟩
def RX2 : String := "WatchBill$Crew"
def TX2 : u_T := fun k => match k with
  | 0 => ("WatchBill$Crew", "first", "LWatchBill$Member;", false)
  | 1 => ("WatchBill$Crew", "last", "LWatchBill$Member;", false)
  | 2 => ("WatchBill$Crew", "count", "I", false)
  | 3 => ("WatchBill$Crew", "kept", "[I", true)
  | _ => ("WatchBill$Crew", "noted", "I", false)
def tyX2 : Nat → FieldType := fun k => match k with
  | 0 => .object "WatchBill$Member"
  | 1 => .object "WatchBill$Member"
  | 2 => .int
  | 3 => .array .int
  | _ => .int
abbrev wsX20 : List Cond := u_ws RX2 TX2 5
theorem nmX2 : ∀ a, a < 5 → ∀ b, b < 5 → a ≠ b → (TX2 a).2.1 ≠ (TX2 b).2.1 := by decide +kernel
theorem tyX2_ok : ∀ k, k < 5 → parseFieldDescriptor (TX2 k).2.2.1 = some (tyX2 k) := by decide +kernel
abbrev cX2_init : ByteArray := prog_4_method_1_code
def yX2_init : MethodName := ⟨RX2, "<init>", "()V"⟩
abbrev cX2_add : ByteArray := prog_4_method_2_code
def yX2_add : MethodName := ⟨RX2, "add", "(IILWatchBill$Soul;)I"⟩
abbrev cX2_member : ByteArray := prog_4_method_3_code
def yX2_member : MethodName := ⟨RX2, "member", "(I)LWatchBill$Member;"⟩
abbrev cX2_forgetNotes : ByteArray := prog_4_method_4_code
def yX2_forgetNotes : MethodName := ⟨RX2, "forgetNotes", "()V"⟩
abbrev cX2_noteWay : ByteArray := prog_4_method_5_code
def yX2_noteWay : MethodName := ⟨RX2, "noteWay", "(II)V"⟩
def RX3 : String := "WatchBill$Hand"
def TX3 : u_T := fun k => match k with
  | _ => ("", "", "", false)
def tyX3 : Nat → FieldType := fun k => match k with
  | _ => .int
abbrev wsX30 : List Cond := u_ws RX3 TX3 0
theorem nmX3 : ∀ a, a < 0 → ∀ b, b < 0 → a ≠ b → (TX3 a).2.1 ≠ (TX3 b).2.1 := by decide +kernel
theorem tyX3_ok : ∀ k, k < 0 → parseFieldDescriptor (TX3 k).2.2.1 = some (tyX3 k) := by decide +kernel
abbrev cX3_init : ByteArray := prog_5_method_1_code
def yX3_init : MethodName := ⟨RX3, "<init>", "()V"⟩
abbrev cX3_payWay : ByteArray := prog_5_method_2_code
def yX3_payWay : MethodName := ⟨RX3, "payWay", "(LWatchBill$Crew;LWatchBill$Member;I)J"⟩
def RX4 : String := "WatchBill$Master"
def TX4 : u_T := fun k => match k with
  | _ => ("", "", "", false)
def tyX4 : Nat → FieldType := fun k => match k with
  | _ => .int
abbrev wsX40 : List Cond := u_ws RX4 TX4 0
theorem nmX4 : ∀ a, a < 0 → ∀ b, b < 0 → a ≠ b → (TX4 a).2.1 ≠ (TX4 b).2.1 := by decide +kernel
theorem tyX4_ok : ∀ k, k < 0 → parseFieldDescriptor (TX4 k).2.2.1 = some (tyX4 k) := by decide +kernel
abbrev cX4_init : ByteArray := prog_6_method_1_code
def yX4_init : MethodName := ⟨RX4, "<init>", "()V"⟩
abbrev cX4_toilWay : ByteArray := prog_6_method_2_code
def yX4_toilWay : MethodName := ⟨RX4, "toilWay", "(LWatchBill$Crew;LWatchBill$Member;I)J"⟩
abbrev cX4_payWay : ByteArray := prog_6_method_3_code
def yX4_payWay : MethodName := ⟨RX4, "payWay", "(LWatchBill$Crew;LWatchBill$Member;I)J"⟩
abbrev cX4_heedWay : ByteArray := prog_6_method_4_code
def yX4_heedWay : MethodName := ⟨RX4, "heedWay", "(LWatchBill$Crew;LWatchBill$Member;I)I"⟩
abbrev cX4_raceWay : ByteArray := prog_6_method_5_code
def yX4_raceWay : MethodName := ⟨RX4, "raceWay", "(LWatchBill$Crew;LWatchBill$Member;II)I"⟩
def RX5 : String := "WatchBill$Mate"
def TX5 : u_T := fun k => match k with
  | _ => ("", "", "", false)
def tyX5 : Nat → FieldType := fun k => match k with
  | _ => .int
abbrev wsX50 : List Cond := u_ws RX5 TX5 0
theorem nmX5 : ∀ a, a < 0 → ∀ b, b < 0 → a ≠ b → (TX5 a).2.1 ≠ (TX5 b).2.1 := by decide +kernel
theorem tyX5_ok : ∀ k, k < 0 → parseFieldDescriptor (TX5 k).2.2.1 = some (tyX5 k) := by decide +kernel
abbrev cX5_init : ByteArray := prog_7_method_1_code
def yX5_init : MethodName := ⟨RX5, "<init>", "()V"⟩
abbrev cX5_toilWay : ByteArray := prog_7_method_2_code
def yX5_toilWay : MethodName := ⟨RX5, "toilWay", "(LWatchBill$Crew;LWatchBill$Member;I)J"⟩
abbrev cX5_climbWay : ByteArray := prog_7_method_3_code
def yX5_climbWay : MethodName := ⟨RX5, "climbWay", "(LWatchBill$Crew;LWatchBill$Member;I)I"⟩
def RX6 : String := "WatchBill$Member"
def TX6 : u_T := fun k => match k with
  | 0 => ("WatchBill$Member", "number", "I", true)
  | 1 => ("WatchBill$Member", "skill", "I", true)
  | 2 => ("WatchBill$Member", "rank", "I", false)
  | 3 => ("WatchBill$Member", "ways", "LWatchBill$Soul;", false)
  | 4 => ("WatchBill$Member", "weary", "I", false)
  | 5 => ("WatchBill$Member", "purse", "J", false)
  | _ => ("WatchBill$Member", "next", "LWatchBill$Member;", false)
def tyX6 : Nat → FieldType := fun k => match k with
  | 0 => .int
  | 1 => .int
  | 2 => .int
  | 3 => .object "WatchBill$Soul"
  | 4 => .int
  | 5 => .long
  | _ => .object "WatchBill$Member"
abbrev wsX60 : List Cond := u_ws RX6 TX6 7
theorem nmX6 : ∀ a, a < 7 → ∀ b, b < 7 → a ≠ b → (TX6 a).2.1 ≠ (TX6 b).2.1 := by decide +kernel
theorem tyX6_ok : ∀ k, k < 7 → parseFieldDescriptor (TX6 k).2.2.1 = some (tyX6 k) := by decide +kernel
abbrev cX6_init : ByteArray := prog_8_method_1_code
def yX6_init : MethodName := ⟨RX6, "<init>", "(IIILWatchBill$Soul;)V"⟩
abbrev cX6_tire : ByteArray := prog_8_method_2_code
def yX6_tire : MethodName := ⟨RX6, "tire", "(I)V"⟩
abbrev cX6_isBelowBosun : ByteArray := prog_8_method_3_code
def yX6_isBelowBosun : MethodName := ⟨RX6, "isBelowBosun", "()Z"⟩
abbrev cX6_isClimber : ByteArray := prog_8_method_4_code
def yX6_isClimber : MethodName := ⟨RX6, "isClimber", "()Z"⟩
abbrev cX6_isPayee : ByteArray := prog_8_method_5_code
def yX6_isPayee : MethodName := ⟨RX6, "isPayee", "()Z"⟩
abbrev cX6_isCarer : ByteArray := prog_8_method_6_code
def yX6_isCarer : MethodName := ⟨RX6, "isCarer", "()Z"⟩
def RX7 : String := "WatchBill$Sailor"
def TX7 : u_T := fun k => match k with
  | _ => ("", "", "", false)
def tyX7 : Nat → FieldType := fun k => match k with
  | _ => .int
abbrev wsX70 : List Cond := u_ws RX7 TX7 0
theorem nmX7 : ∀ a, a < 0 → ∀ b, b < 0 → a ≠ b → (TX7 a).2.1 ≠ (TX7 b).2.1 := by decide +kernel
theorem tyX7_ok : ∀ k, k < 0 → parseFieldDescriptor (TX7 k).2.2.1 = some (tyX7 k) := by decide +kernel
abbrev cX7_init : ByteArray := prog_9_method_1_code
def yX7_init : MethodName := ⟨RX7, "<init>", "()V"⟩
abbrev cX7_climbWay : ByteArray := prog_9_method_2_code
def yX7_climbWay : MethodName := ⟨RX7, "climbWay", "(LWatchBill$Crew;LWatchBill$Member;I)I"⟩
def RX8 : String := "WatchBill$Soul"
def TX8 : u_T := fun k => match k with
  | _ => ("", "", "", false)
def tyX8 : Nat → FieldType := fun k => match k with
  | _ => .int
abbrev wsX80 : List Cond := u_ws RX8 TX8 0
theorem nmX8 : ∀ a, a < 0 → ∀ b, b < 0 → a ≠ b → (TX8 a).2.1 ≠ (TX8 b).2.1 := by decide +kernel
theorem tyX8_ok : ∀ k, k < 0 → parseFieldDescriptor (TX8 k).2.2.1 = some (tyX8 k) := by decide +kernel
abbrev cX8_init : ByteArray := prog_10_method_1_code
def yX8_init : MethodName := ⟨RX8, "<init>", "()V"⟩
abbrev cX8_toilWay : ByteArray := prog_10_method_2_code
def yX8_toilWay : MethodName := ⟨RX8, "toilWay", "(LWatchBill$Crew;LWatchBill$Member;I)J"⟩
abbrev cX8_climbWay : ByteArray := prog_10_method_4_code
def yX8_climbWay : MethodName := ⟨RX8, "climbWay", "(LWatchBill$Crew;LWatchBill$Member;I)I"⟩
abbrev cX8_heedWay : ByteArray := prog_10_method_5_code
def yX8_heedWay : MethodName := ⟨RX8, "heedWay", "(LWatchBill$Crew;LWatchBill$Member;I)I"⟩
abbrev cX8_raceWay : ByteArray := prog_10_method_6_code
def yX8_raceWay : MethodName := ⟨RX8, "raceWay", "(LWatchBill$Crew;LWatchBill$Member;II)I"⟩
def RX9 : String := "WatchBill$Surgeon"
def TX9 : u_T := fun k => match k with
  | _ => ("", "", "", false)
def tyX9 : Nat → FieldType := fun k => match k with
  | _ => .int
abbrev wsX90 : List Cond := u_ws RX9 TX9 0
theorem nmX9 : ∀ a, a < 0 → ∀ b, b < 0 → a ≠ b → (TX9 a).2.1 ≠ (TX9 b).2.1 := by decide +kernel
theorem tyX9_ok : ∀ k, k < 0 → parseFieldDescriptor (TX9 k).2.2.1 = some (tyX9 k) := by decide +kernel
abbrev cX9_init : ByteArray := prog_11_method_1_code
def yX9_init : MethodName := ⟨RX9, "<init>", "()V"⟩
abbrev cX9_payWay : ByteArray := prog_11_method_2_code
def yX9_payWay : MethodName := ⟨RX9, "payWay", "(LWatchBill$Crew;LWatchBill$Member;I)J"⟩
abbrev cX9_climbWay : ByteArray := prog_11_method_3_code
def yX9_climbWay : MethodName := ⟨RX9, "climbWay", "(LWatchBill$Crew;LWatchBill$Member;I)I"⟩
def RX10 : String := "WatchBill$Topman"
def TX10 : u_T := fun k => match k with
  | _ => ("", "", "", false)
def tyX10 : Nat → FieldType := fun k => match k with
  | _ => .int
abbrev wsX100 : List Cond := u_ws RX10 TX10 0
theorem nmX10 : ∀ a, a < 0 → ∀ b, b < 0 → a ≠ b → (TX10 a).2.1 ≠ (TX10 b).2.1 := by decide +kernel
theorem tyX10_ok : ∀ k, k < 0 → parseFieldDescriptor (TX10 k).2.2.1 = some (tyX10 k) := by decide +kernel
abbrev cX10_init : ByteArray := prog_12_method_1_code
def yX10_init : MethodName := ⟨RX10, "<init>", "()V"⟩
abbrev cX10_toilWay : ByteArray := prog_12_method_2_code
def yX10_toilWay : MethodName := ⟨RX10, "toilWay", "(LWatchBill$Crew;LWatchBill$Member;I)J"⟩
abbrev cX10_heedWay : ByteArray := prog_12_method_3_code
def yX10_heedWay : MethodName := ⟨RX10, "heedWay", "(LWatchBill$Crew;LWatchBill$Member;I)I"⟩
def RX11 : String := "WatchBill"
def TX11 : u_T := fun k => match k with
  | 0 => ("WatchBill", "crew", "LWatchBill$Crew;", true)
  | 1 => ("WatchBill", "ranks", "[LWatchBill$Soul;", true)
  | 2 => ("WatchBill", "lineDuty", "[I", true)
  | 3 => ("WatchBill", "lineNumber", "[I", true)
  | 4 => ("WatchBill", "lineLow", "[I", true)
  | _ => ("WatchBill", "lineHigh", "[I", true)
def tyX11 : Nat → FieldType := fun k => match k with
  | 0 => .object "WatchBill$Crew"
  | 1 => .array (.object "WatchBill$Soul")
  | 2 => .array .int
  | 3 => .array .int
  | 4 => .array .int
  | _ => .array .int
abbrev wsX110 : List Cond := u_ws RX11 TX11 6
theorem nmX11 : ∀ a, a < 6 → ∀ b, b < 6 → a ≠ b → (TX11 a).2.1 ≠ (TX11 b).2.1 := by decide +kernel
theorem tyX11_ok : ∀ k, k < 6 → parseFieldDescriptor (TX11 k).2.2.1 = some (tyX11 k) := by decide +kernel
abbrev cX11_init : ByteArray := prog_1_method_1_code
def yX11_init : MethodName := ⟨RX11, "<init>", "()V"⟩
abbrev cX11_enlist : ByteArray := prog_1_method_2_code
def yX11_enlist : MethodName := ⟨RX11, "enlist", "(II)I"⟩
abbrev cX11_promote : ByteArray := prog_1_method_3_code
def yX11_promote : MethodName := ⟨RX11, "promote", "(I)I"⟩
abbrev cX11_demote : ByteArray := prog_1_method_4_code
def yX11_demote : MethodName := ⟨RX11, "demote", "(I)I"⟩
abbrev cX11_toil : ByteArray := prog_1_method_5_code
def yX11_toil : MethodName := ⟨RX11, "toil", "(II)J"⟩
abbrev cX11_pay : ByteArray := prog_1_method_6_code
def yX11_pay : MethodName := ⟨RX11, "pay", "(II)J"⟩
abbrev cX11_climb : ByteArray := prog_1_method_7_code
def yX11_climb : MethodName := ⟨RX11, "climb", "(II)I"⟩
abbrev cX11_heed : ByteArray := prog_1_method_8_code
def yX11_heed : MethodName := ⟨RX11, "heed", "(II)I"⟩
abbrev cX11_race : ByteArray := prog_1_method_9_code
def yX11_race : MethodName := ⟨RX11, "race", "(III)I"⟩
abbrev cX11_due : ByteArray := prog_1_method_10_code
def yX11_due : MethodName := ⟨RX11, "due", "(III)J"⟩
abbrev cX11_feed : ByteArray := prog_1_method_11_code
def yX11_feed : MethodName := ⟨RX11, "feed", "(II)I"⟩
abbrev cX11_watch : ByteArray := prog_1_method_12_code
def yX11_watch : MethodName := ⟨RX11, "watch", "(II)J"⟩
abbrev cX11_line : ByteArray := prog_1_method_13_code
def yX11_line : MethodName := ⟨RX11, "line", "(IIIII)I"⟩
abbrev cX11_sail : ByteArray := prog_1_method_14_code
def yX11_sail : MethodName := ⟨RX11, "sail", "(I)J"⟩
abbrev cX11_rest : ByteArray := prog_1_method_15_code
def yX11_rest : MethodName := ⟨RX11, "rest", "(I)I"⟩
abbrev cX11_told : ByteArray := prog_1_method_16_code
def yX11_told : MethodName := ⟨RX11, "told", "(II)J"⟩
abbrev cX11_note : ByteArray := prog_1_method_17_code
def yX11_note : MethodName := ⟨RX11, "note", "(I)I"⟩
abbrev cX11_notes : ByteArray := prog_1_method_18_code
def yX11_notes : MethodName := ⟨RX11, "notes", "()I"⟩
abbrev cX11_giveRank : ByteArray := prog_1_method_19_code
def yX11_giveRank : MethodName := ⟨RX11, "giveRank", "(LWatchBill$Member;I)I"⟩
abbrev cX11_sailLine : ByteArray := prog_1_method_20_code
def yX11_sailLine : MethodName := ⟨RX11, "sailLine", "(IIII)J"⟩
abbrev cX11_doDuty : ByteArray := prog_1_method_21_code
def yX11_doDuty : MethodName := ⟨RX11, "doDuty", "(LWatchBill$Member;II)J"⟩
abbrev cX11_isRank : ByteArray := prog_1_method_22_code
def yX11_isRank : MethodName := ⟨RX11, "isRank", "(I)Z"⟩
abbrev cX11_isDuty : ByteArray := prog_1_method_23_code
def yX11_isDuty : MethodName := ⟨RX11, "isDuty", "(I)Z"⟩
abbrev cX11_isTimes : ByteArray := prog_1_method_24_code
def yX11_isTimes : MethodName := ⟨RX11, "isTimes", "(I)Z"⟩
abbrev cX11_isBeyondBound : ByteArray := prog_1_method_25_code
def yX11_isBeyondBound : MethodName := ⟨RX11, "isBeyondBound", "(II)Z"⟩
abbrev cX11_boundOf : ByteArray := prog_1_method_26_code
def yX11_boundOf : MethodName := ⟨RX11, "boundOf", "(I)I"⟩
def RX12 : String := "WatchBillModel"
def TX12 : u_T := fun k => match k with
  | 0 => ("WatchBillModel", "members", "I", false)
  | 1 => ("WatchBillModel", "rank", "[I", true)
  | 2 => ("WatchBillModel", "skill", "[I", true)
  | 3 => ("WatchBillModel", "weary", "[I", true)
  | 4 => ("WatchBillModel", "purse", "[J", true)
  | 5 => ("WatchBillModel", "lineDuty", "[I", true)
  | 6 => ("WatchBillModel", "lineNumber", "[I", true)
  | 7 => ("WatchBillModel", "lineLow", "[I", true)
  | 8 => ("WatchBillModel", "lineHigh", "[I", true)
  | 9 => ("WatchBillModel", "kept", "[I", true)
  | _ => ("WatchBillModel", "noted", "I", false)
def tyX12 : Nat → FieldType := fun k => match k with
  | 0 => .int
  | 1 => .array .int
  | 2 => .array .int
  | 3 => .array .int
  | 4 => .array .long
  | 5 => .array .int
  | 6 => .array .int
  | 7 => .array .int
  | 8 => .array .int
  | 9 => .array .int
  | _ => .int
abbrev wsX120 : List Cond := u_ws RX12 TX12 11
theorem nmX12 : ∀ a, a < 11 → ∀ b, b < 11 → a ≠ b → (TX12 a).2.1 ≠ (TX12 b).2.1 := by decide +kernel
theorem tyX12_ok : ∀ k, k < 11 → parseFieldDescriptor (TX12 k).2.2.1 = some (tyX12 k) := by decide +kernel
abbrev cX12_init : ByteArray := prog_14_method_1_code
def yX12_init : MethodName := ⟨RX12, "<init>", "()V"⟩
abbrev cX12_elderOf : ByteArray := prog_14_method_2_code
def yX12_elderOf : MethodName := ⟨RX12, "elderOf", "(I)I"⟩
abbrev cX12_boundOf : ByteArray := prog_14_method_3_code
def yX12_boundOf : MethodName := ⟨RX12, "boundOf", "(I)I"⟩
abbrev cX12_isMember : ByteArray := prog_14_method_4_code
def yX12_isMember : MethodName := ⟨RX12, "isMember", "(I)Z"⟩
abbrev cX12_isWithin : ByteArray := prog_14_method_5_code
def yX12_isWithin : MethodName := ⟨RX12, "isWithin", "(II)Z"⟩
abbrev cX12_mark : ByteArray := prog_14_method_6_code
def yX12_mark : MethodName := ⟨RX12, "mark", "(I)V"⟩
abbrev cX12_tire : ByteArray := prog_14_method_7_code
def yX12_tire : MethodName := ⟨RX12, "tire", "(II)V"⟩
abbrev cX12_howMany : ByteArray := prog_14_method_8_code
def yX12_howMany : MethodName := ⟨RX12, "howMany", "(II)I"⟩
abbrev cX12_soulToils : ByteArray := prog_14_method_9_code
def yX12_soulToils : MethodName := ⟨RX12, "soulToils", "(II)J"⟩
abbrev cX12_topmanToils : ByteArray := prog_14_method_10_code
def yX12_topmanToils : MethodName := ⟨RX12, "topmanToils", "(II)J"⟩
abbrev cX12_mateToils : ByteArray := prog_14_method_11_code
def yX12_mateToils : MethodName := ⟨RX12, "mateToils", "(II)J"⟩
abbrev cX12_masterToils : ByteArray := prog_14_method_12_code
def yX12_masterToils : MethodName := ⟨RX12, "masterToils", "(II)J"⟩
abbrev cX12_cookToils : ByteArray := prog_14_method_13_code
def yX12_cookToils : MethodName := ⟨RX12, "cookToils", "(II)J"⟩
abbrev cX12_toils : ByteArray := prog_14_method_14_code
def yX12_toils : MethodName := ⟨RX12, "toils", "(II)J"⟩
abbrev cX12_handIsPaid : ByteArray := prog_14_method_15_code
def yX12_handIsPaid : MethodName := ⟨RX12, "handIsPaid", "(II)J"⟩
abbrev cX12_bosunIsPaid : ByteArray := prog_14_method_16_code
def yX12_bosunIsPaid : MethodName := ⟨RX12, "bosunIsPaid", "(II)J"⟩
abbrev cX12_masterIsPaid : ByteArray := prog_14_method_17_code
def yX12_masterIsPaid : MethodName := ⟨RX12, "masterIsPaid", "(II)J"⟩
abbrev cX12_surgeonIsPaid : ByteArray := prog_14_method_18_code
def yX12_surgeonIsPaid : MethodName := ⟨RX12, "surgeonIsPaid", "(II)J"⟩
abbrev cX12_isPaid : ByteArray := prog_14_method_19_code
def yX12_isPaid : MethodName := ⟨RX12, "isPaid", "(II)J"⟩
abbrev cX12_soulClimbs : ByteArray := prog_14_method_20_code
def yX12_soulClimbs : MethodName := ⟨RX12, "soulClimbs", "(II)J"⟩
abbrev cX12_sailorClimbs : ByteArray := prog_14_method_21_code
def yX12_sailorClimbs : MethodName := ⟨RX12, "sailorClimbs", "(II)J"⟩
abbrev cX12_mateClimbs : ByteArray := prog_14_method_22_code
def yX12_mateClimbs : MethodName := ⟨RX12, "mateClimbs", "(II)J"⟩
abbrev cX12_surgeonClimbs : ByteArray := prog_14_method_23_code
def yX12_surgeonClimbs : MethodName := ⟨RX12, "surgeonClimbs", "(II)J"⟩
abbrev cX12_climbs : ByteArray := prog_14_method_24_code
def yX12_climbs : MethodName := ⟨RX12, "climbs", "(II)J"⟩
abbrev cX12_soulHeeds : ByteArray := prog_14_method_25_code
def yX12_soulHeeds : MethodName := ⟨RX12, "soulHeeds", "(II)J"⟩
abbrev cX12_topmanHeeds : ByteArray := prog_14_method_26_code
def yX12_topmanHeeds : MethodName := ⟨RX12, "topmanHeeds", "(II)J"⟩
abbrev cX12_bosunHeeds : ByteArray := prog_14_method_27_code
def yX12_bosunHeeds : MethodName := ⟨RX12, "bosunHeeds", "(II)J"⟩
abbrev cX12_masterHeeds : ByteArray := prog_14_method_28_code
def yX12_masterHeeds : MethodName := ⟨RX12, "masterHeeds", "(II)J"⟩
abbrev cX12_cookHeeds : ByteArray := prog_14_method_29_code
def yX12_cookHeeds : MethodName := ⟨RX12, "cookHeeds", "(II)J"⟩
abbrev cX12_heeds : ByteArray := prog_14_method_30_code
def yX12_heeds : MethodName := ⟨RX12, "heeds", "(II)J"⟩
abbrev cX12_does : ByteArray := prog_14_method_31_code
def yX12_does : MethodName := ⟨RX12, "does", "(III)J"⟩
abbrev cX12_work : ByteArray := prog_14_method_32_code
def yX12_work : MethodName := ⟨RX12, "work", "(IIIZ)J"⟩
abbrev cX12_may : ByteArray := prog_14_method_33_code
def yX12_may : MethodName := ⟨RX12, "may", "(III)Z"⟩
abbrev cX12_begin : ByteArray := prog_14_method_34_code
def yX12_begin : MethodName := ⟨RX12, "begin", "(III)J"⟩
abbrev cX12_enlist : ByteArray := prog_14_method_35_code
def yX12_enlist : MethodName := ⟨RX12, "enlist", "(II)I"⟩
abbrev cX12_promote : ByteArray := prog_14_method_36_code
def yX12_promote : MethodName := ⟨RX12, "promote", "(I)I"⟩
abbrev cX12_demote : ByteArray := prog_14_method_37_code
def yX12_demote : MethodName := ⟨RX12, "demote", "(I)I"⟩
abbrev cX12_toil : ByteArray := prog_14_method_38_code
def yX12_toil : MethodName := ⟨RX12, "toil", "(II)J"⟩
abbrev cX12_pay : ByteArray := prog_14_method_39_code
def yX12_pay : MethodName := ⟨RX12, "pay", "(II)J"⟩
abbrev cX12_climb : ByteArray := prog_14_method_40_code
def yX12_climb : MethodName := ⟨RX12, "climb", "(II)I"⟩
abbrev cX12_heed : ByteArray := prog_14_method_41_code
def yX12_heed : MethodName := ⟨RX12, "heed", "(II)I"⟩
abbrev cX12_isClimber : ByteArray := prog_14_method_42_code
def yX12_isClimber : MethodName := ⟨RX12, "isClimber", "(I)Z"⟩
abbrev cX12_isCarer : ByteArray := prog_14_method_43_code
def yX12_isCarer : MethodName := ⟨RX12, "isCarer", "(I)Z"⟩
abbrev cX12_race : ByteArray := prog_14_method_44_code
def yX12_race : MethodName := ⟨RX12, "race", "(III)I"⟩
abbrev cX12_due : ByteArray := prog_14_method_45_code
def yX12_due : MethodName := ⟨RX12, "due", "(III)J"⟩
abbrev cX12_feed : ByteArray := prog_14_method_46_code
def yX12_feed : MethodName := ⟨RX12, "feed", "(II)I"⟩
abbrev cX12_watch : ByteArray := prog_14_method_47_code
def yX12_watch : MethodName := ⟨RX12, "watch", "(II)J"⟩
abbrev cX12_line : ByteArray := prog_14_method_48_code
def yX12_line : MethodName := ⟨RX12, "line", "(IIIII)I"⟩
abbrev cX12_sail : ByteArray := prog_14_method_49_code
def yX12_sail : MethodName := ⟨RX12, "sail", "(I)J"⟩
abbrev cX12_rest : ByteArray := prog_14_method_50_code
def yX12_rest : MethodName := ⟨RX12, "rest", "(I)I"⟩
abbrev cX12_told : ByteArray := prog_14_method_51_code
def yX12_told : MethodName := ⟨RX12, "told", "(II)J"⟩
abbrev cX12_note : ByteArray := prog_14_method_52_code
def yX12_note : MethodName := ⟨RX12, "note", "(I)I"⟩
abbrev cX12_notes : ByteArray := prog_14_method_53_code
def yX12_notes : MethodName := ⟨RX12, "notes", "()I"⟩
def RL : String := "WatchBillLaw"
abbrev cL_law : ByteArray := code
def yL_law : MethodName := ⟨RL, "law", "([I)Z"⟩
abbrev vwCl : List vw_C := [(RX0, TX0, 0), (RX1, TX1, 0), (RX2, TX2, 5), (RX3, TX3, 0), (RX4, TX4, 0), (RX5, TX5, 0), (RX6, TX6, 7), (RX7, TX7, 0), (RX9, TX9, 0), (RX10, TX10, 0), (RX11, TX11, 6), (RX12, TX12, 11)]
end
section
theorem dX0_init_0 : decode cX0_init 0 = .ok (.aload_n 0, 1) := by decide +kernel
theorem dX0_init_1 : decode cX0_init 1 = .ok (.invokespecial 3, 3) := by decide +kernel
theorem dX0_init_4 : decode cX0_init 4 = .ok (.return_, 1) := by decide +kernel
theorem dX0_payWay_0 : decode cX0_payWay 0 = .ok (.aload_n 1, 1) := by decide +kernel
theorem dX0_payWay_1 : decode cX0_payWay 1 = .ok (.iconst 3, 1) := by decide +kernel
theorem dX0_payWay_2 : decode cX0_payWay 2 = .ok (.iconst 1, 1) := by decide +kernel
theorem dX0_payWay_3 : decode cX0_payWay 3 = .ok (.invokevirtual 9, 3) := by decide +kernel
theorem dX0_payWay_6 : decode cX0_payWay 6 = .ok (.aload_n 0, 1) := by decide +kernel
theorem dX0_payWay_7 : decode cX0_payWay 7 = .ok (.aload_n 1, 1) := by decide +kernel
theorem dX0_payWay_8 : decode cX0_payWay 8 = .ok (.aload_n 2, 1) := by decide +kernel
theorem dX0_payWay_9 : decode cX0_payWay 9 = .ok (.iload_n 3, 1) := by decide +kernel
theorem dX0_payWay_10 : decode cX0_payWay 10 = .ok (.invokespecial 15, 3) := by decide +kernel
theorem dX0_payWay_13 : decode cX0_payWay 13 = .ok (.ldc2_w 19, 3) := by decide +kernel
theorem dX0_payWay_16 : decode cX0_payWay 16 = .ok (.iload_n 3, 1) := by decide +kernel
theorem dX0_payWay_17 : decode cX0_payWay 17 = .ok (.i2l, 1) := by decide +kernel
theorem dX0_payWay_18 : decode cX0_payWay 18 = .ok (.lmul, 1) := by decide +kernel
theorem dX0_payWay_19 : decode cX0_payWay 19 = .ok (.ladd, 1) := by decide +kernel
theorem dX0_payWay_20 : decode cX0_payWay 20 = .ok (.lstore 4, 2) := by decide +kernel
theorem dX0_payWay_22 : decode cX0_payWay 22 = .ok (.aload_n 1, 1) := by decide +kernel
theorem dX0_payWay_23 : decode cX0_payWay 23 = .ok (.getfield 21, 3) := by decide +kernel
theorem dX0_payWay_26 : decode cX0_payWay 26 = .ok (.astore 6, 2) := by decide +kernel
theorem dX0_payWay_28 : decode cX0_payWay 28 = .ok (.aload 6, 2) := by decide +kernel
theorem dX0_payWay_30 : decode cX0_payWay 30 = .ok (.ifnull 28, 3) := by decide +kernel
theorem dX0_payWay_33 : decode cX0_payWay 33 = .ok (.aload 6, 2) := by decide +kernel
theorem dX0_payWay_35 : decode cX0_payWay 35 = .ok (.invokevirtual 25, 3) := by decide +kernel
theorem dX0_payWay_38 : decode cX0_payWay 38 = .ok (.ifCond .eq 10, 3) := by decide +kernel
theorem dX0_payWay_41 : decode cX0_payWay 41 = .ok (.lload 4, 2) := by decide +kernel
theorem dX0_payWay_43 : decode cX0_payWay 43 = .ok (.iload_n 3, 1) := by decide +kernel
theorem dX0_payWay_44 : decode cX0_payWay 44 = .ok (.i2l, 1) := by decide +kernel
theorem dX0_payWay_45 : decode cX0_payWay 45 = .ok (.ladd, 1) := by decide +kernel
theorem dX0_payWay_46 : decode cX0_payWay 46 = .ok (.lstore 4, 2) := by decide +kernel
theorem dX0_payWay_48 : decode cX0_payWay 48 = .ok (.aload 6, 2) := by decide +kernel
theorem dX0_payWay_50 : decode cX0_payWay 50 = .ok (.getfield 31, 3) := by decide +kernel
theorem dX0_payWay_53 : decode cX0_payWay 53 = .ok (.astore 6, 2) := by decide +kernel
theorem dX0_payWay_55 : decode cX0_payWay 55 = .ok (.goto (-27), 3) := by decide +kernel
theorem dX0_payWay_58 : decode cX0_payWay 58 = .ok (.lload 4, 2) := by decide +kernel
theorem dX0_payWay_60 : decode cX0_payWay 60 = .ok (.lreturn, 1) := by decide +kernel
theorem dX0_heedWay_0 : decode cX0_heedWay 0 = .ok (.aload_n 1, 1) := by decide +kernel
theorem dX0_heedWay_1 : decode cX0_heedWay 1 = .ok (.iconst 3, 1) := by decide +kernel
theorem dX0_heedWay_2 : decode cX0_heedWay 2 = .ok (.iconst 3, 1) := by decide +kernel
theorem dX0_heedWay_3 : decode cX0_heedWay 3 = .ok (.invokevirtual 9, 3) := by decide +kernel
theorem dX0_heedWay_6 : decode cX0_heedWay 6 = .ok (.aload_n 0, 1) := by decide +kernel
theorem dX0_heedWay_7 : decode cX0_heedWay 7 = .ok (.aload_n 1, 1) := by decide +kernel
theorem dX0_heedWay_8 : decode cX0_heedWay 8 = .ok (.aload_n 2, 1) := by decide +kernel
theorem dX0_heedWay_9 : decode cX0_heedWay 9 = .ok (.iload_n 3, 1) := by decide +kernel
theorem dX0_heedWay_10 : decode cX0_heedWay 10 = .ok (.invokespecial 34, 3) := by decide +kernel
theorem dX0_heedWay_13 : decode cX0_heedWay 13 = .ok (.istore 4, 2) := by decide +kernel
theorem dX0_heedWay_15 : decode cX0_heedWay 15 = .ok (.aload_n 1, 1) := by decide +kernel
theorem dX0_heedWay_16 : decode cX0_heedWay 16 = .ok (.getfield 21, 3) := by decide +kernel
theorem dX0_heedWay_19 : decode cX0_heedWay 19 = .ok (.astore 5, 2) := by decide +kernel
theorem dX0_heedWay_21 : decode cX0_heedWay 21 = .ok (.aload 5, 2) := by decide +kernel
theorem dX0_heedWay_23 : decode cX0_heedWay 23 = .ok (.ifnull 38, 3) := by decide +kernel
theorem dX0_heedWay_26 : decode cX0_heedWay 26 = .ok (.aload 5, 2) := by decide +kernel
theorem dX0_heedWay_28 : decode cX0_heedWay 28 = .ok (.invokevirtual 25, 3) := by decide +kernel
theorem dX0_heedWay_31 : decode cX0_heedWay 31 = .ok (.ifCond .eq 20, 3) := by decide +kernel
theorem dX0_heedWay_34 : decode cX0_heedWay 34 = .ok (.iload 4, 2) := by decide +kernel
theorem dX0_heedWay_36 : decode cX0_heedWay 36 = .ok (.aload 5, 2) := by decide +kernel
theorem dX0_heedWay_38 : decode cX0_heedWay 38 = .ok (.getfield 38, 3) := by decide +kernel
theorem dX0_heedWay_41 : decode cX0_heedWay 41 = .ok (.aload_n 1, 1) := by decide +kernel
theorem dX0_heedWay_42 : decode cX0_heedWay 42 = .ok (.aload 5, 2) := by decide +kernel
theorem dX0_heedWay_44 : decode cX0_heedWay 44 = .ok (.iload_n 3, 1) := by decide +kernel
theorem dX0_heedWay_45 : decode cX0_heedWay 45 = .ok (.invokevirtual 42, 3) := by decide +kernel
theorem dX0_heedWay_48 : decode cX0_heedWay 48 = .ok (.iadd, 1) := by decide +kernel
theorem dX0_heedWay_49 : decode cX0_heedWay 49 = .ok (.istore 4, 2) := by decide +kernel
theorem dX0_heedWay_51 : decode cX0_heedWay 51 = .ok (.aload 5, 2) := by decide +kernel
theorem dX0_heedWay_53 : decode cX0_heedWay 53 = .ok (.getfield 31, 3) := by decide +kernel
theorem dX0_heedWay_56 : decode cX0_heedWay 56 = .ok (.astore 5, 2) := by decide +kernel
theorem dX0_heedWay_58 : decode cX0_heedWay 58 = .ok (.goto (-37), 3) := by decide +kernel
theorem dX0_heedWay_61 : decode cX0_heedWay 61 = .ok (.iload 4, 2) := by decide +kernel
theorem dX0_heedWay_63 : decode cX0_heedWay 63 = .ok (.ireturn, 1) := by decide +kernel
theorem dX1_init_0 : decode cX1_init 0 = .ok (.aload_n 0, 1) := by decide +kernel
theorem dX1_init_1 : decode cX1_init 1 = .ok (.invokespecial 3, 3) := by decide +kernel
theorem dX1_init_4 : decode cX1_init 4 = .ok (.return_, 1) := by decide +kernel
theorem dX1_toilWay_0 : decode cX1_toilWay 0 = .ok (.aload_n 1, 1) := by decide +kernel
theorem dX1_toilWay_1 : decode cX1_toilWay 1 = .ok (.bipush 6, 2) := by decide +kernel
theorem dX1_toilWay_3 : decode cX1_toilWay 3 = .ok (.iconst 0, 1) := by decide +kernel
theorem dX1_toilWay_4 : decode cX1_toilWay 4 = .ok (.invokevirtual 9, 3) := by decide +kernel
theorem dX1_toilWay_7 : decode cX1_toilWay 7 = .ok (.aload_n 0, 1) := by decide +kernel
theorem dX1_toilWay_8 : decode cX1_toilWay 8 = .ok (.aload_n 1, 1) := by decide +kernel
theorem dX1_toilWay_9 : decode cX1_toilWay 9 = .ok (.aload_n 2, 1) := by decide +kernel
theorem dX1_toilWay_10 : decode cX1_toilWay 10 = .ok (.iload_n 3, 1) := by decide +kernel
theorem dX1_toilWay_11 : decode cX1_toilWay 11 = .ok (.invokespecial 15, 3) := by decide +kernel
theorem dX1_toilWay_14 : decode cX1_toilWay 14 = .ok (.lstore 4, 2) := by decide +kernel
theorem dX1_toilWay_16 : decode cX1_toilWay 16 = .ok (.aload_n 2, 1) := by decide +kernel
theorem dX1_toilWay_17 : decode cX1_toilWay 17 = .ok (.iload_n 3, 1) := by decide +kernel
theorem dX1_toilWay_18 : decode cX1_toilWay 18 = .ok (.iconst 2, 1) := by decide +kernel
theorem dX1_toilWay_19 : decode cX1_toilWay 19 = .ok (.idiv, 1) := by decide +kernel
theorem dX1_toilWay_20 : decode cX1_toilWay 20 = .ok (.ineg, 1) := by decide +kernel
theorem dX1_toilWay_21 : decode cX1_toilWay 21 = .ok (.invokevirtual 19, 3) := by decide +kernel
theorem dX1_toilWay_24 : decode cX1_toilWay 24 = .ok (.lload 4, 2) := by decide +kernel
theorem dX1_toilWay_26 : decode cX1_toilWay 26 = .ok (.lreturn, 1) := by decide +kernel
theorem dX1_heedWay_0 : decode cX1_heedWay 0 = .ok (.aload_n 1, 1) := by decide +kernel
theorem dX1_heedWay_1 : decode cX1_heedWay 1 = .ok (.bipush 6, 2) := by decide +kernel
theorem dX1_heedWay_3 : decode cX1_heedWay 3 = .ok (.iconst 3, 1) := by decide +kernel
theorem dX1_heedWay_4 : decode cX1_heedWay 4 = .ok (.invokevirtual 9, 3) := by decide +kernel
theorem dX1_heedWay_7 : decode cX1_heedWay 7 = .ok (.aload_n 0, 1) := by decide +kernel
theorem dX1_heedWay_8 : decode cX1_heedWay 8 = .ok (.aload_n 1, 1) := by decide +kernel
theorem dX1_heedWay_9 : decode cX1_heedWay 9 = .ok (.aload_n 2, 1) := by decide +kernel
theorem dX1_heedWay_10 : decode cX1_heedWay 10 = .ok (.iload_n 3, 1) := by decide +kernel
theorem dX1_heedWay_11 : decode cX1_heedWay 11 = .ok (.invokespecial 25, 3) := by decide +kernel
theorem dX1_heedWay_14 : decode cX1_heedWay 14 = .ok (.ineg, 1) := by decide +kernel
theorem dX1_heedWay_15 : decode cX1_heedWay 15 = .ok (.ireturn, 1) := by decide +kernel
theorem dX2_init_0 : decode cX2_init 0 = .ok (.aload_n 0, 1) := by decide +kernel
theorem dX2_init_1 : decode cX2_init 1 = .ok (.invokespecial 3, 3) := by decide +kernel
theorem dX2_init_4 : decode cX2_init 4 = .ok (.aload_n 0, 1) := by decide +kernel
theorem dX2_init_5 : decode cX2_init 5 = .ok (.bipush 64, 2) := by decide +kernel
theorem dX2_init_7 : decode cX2_init 7 = .ok (.newarray .int, 2) := by decide +kernel
theorem dX2_init_9 : decode cX2_init 9 = .ok (.putfield 9, 3) := by decide +kernel
theorem dX2_init_12 : decode cX2_init 12 = .ok (.return_, 1) := by decide +kernel
theorem dX2_add_0 : decode cX2_add 0 = .ok (.new 15, 3) := by decide +kernel
theorem dX2_add_3 : decode cX2_add 3 = .ok (.dup, 1) := by decide +kernel
theorem dX2_add_4 : decode cX2_add 4 = .ok (.aload_n 0, 1) := by decide +kernel
theorem dX2_add_5 : decode cX2_add 5 = .ok (.getfield 17, 3) := by decide +kernel
theorem dX2_add_8 : decode cX2_add 8 = .ok (.iload_n 1, 1) := by decide +kernel
theorem dX2_add_9 : decode cX2_add 9 = .ok (.iload_n 2, 1) := by decide +kernel
theorem dX2_add_10 : decode cX2_add 10 = .ok (.aload_n 3, 1) := by decide +kernel
theorem dX2_add_11 : decode cX2_add 11 = .ok (.invokespecial 21, 3) := by decide +kernel
theorem dX2_add_14 : decode cX2_add 14 = .ok (.astore 4, 2) := by decide +kernel
theorem dX2_add_16 : decode cX2_add 16 = .ok (.aload_n 0, 1) := by decide +kernel
theorem dX2_add_17 : decode cX2_add 17 = .ok (.getfield 24, 3) := by decide +kernel
theorem dX2_add_20 : decode cX2_add 20 = .ok (.ifnonnull 12, 3) := by decide +kernel
theorem dX2_add_23 : decode cX2_add 23 = .ok (.aload_n 0, 1) := by decide +kernel
theorem dX2_add_24 : decode cX2_add 24 = .ok (.aload 4, 2) := by decide +kernel
theorem dX2_add_26 : decode cX2_add 26 = .ok (.putfield 28, 3) := by decide +kernel
theorem dX2_add_29 : decode cX2_add 29 = .ok (.goto 12, 3) := by decide +kernel
theorem dX2_add_32 : decode cX2_add 32 = .ok (.aload_n 0, 1) := by decide +kernel
theorem dX2_add_33 : decode cX2_add 33 = .ok (.getfield 24, 3) := by decide +kernel
theorem dX2_add_36 : decode cX2_add 36 = .ok (.aload 4, 2) := by decide +kernel
theorem dX2_add_38 : decode cX2_add 38 = .ok (.putfield 31, 3) := by decide +kernel
theorem dX2_add_41 : decode cX2_add 41 = .ok (.aload_n 0, 1) := by decide +kernel
theorem dX2_add_42 : decode cX2_add 42 = .ok (.aload 4, 2) := by decide +kernel
theorem dX2_add_44 : decode cX2_add 44 = .ok (.putfield 24, 3) := by decide +kernel
theorem dX2_add_47 : decode cX2_add 47 = .ok (.aload_n 0, 1) := by decide +kernel
theorem dX2_add_48 : decode cX2_add 48 = .ok (.dup, 1) := by decide +kernel
theorem dX2_add_49 : decode cX2_add 49 = .ok (.getfield 17, 3) := by decide +kernel
theorem dX2_add_52 : decode cX2_add 52 = .ok (.iconst 1, 1) := by decide +kernel
theorem dX2_add_53 : decode cX2_add 53 = .ok (.iadd, 1) := by decide +kernel
theorem dX2_add_54 : decode cX2_add 54 = .ok (.putfield 17, 3) := by decide +kernel
theorem dX2_add_57 : decode cX2_add 57 = .ok (.aload 4, 2) := by decide +kernel
theorem dX2_add_59 : decode cX2_add 59 = .ok (.getfield 34, 3) := by decide +kernel
theorem dX2_add_62 : decode cX2_add 62 = .ok (.ireturn, 1) := by decide +kernel
theorem dX2_member_0 : decode cX2_member 0 = .ok (.aload_n 0, 1) := by decide +kernel
theorem dX2_member_1 : decode cX2_member 1 = .ok (.getfield 28, 3) := by decide +kernel
theorem dX2_member_4 : decode cX2_member 4 = .ok (.astore_n 2, 1) := by decide +kernel
theorem dX2_member_5 : decode cX2_member 5 = .ok (.aload_n 2, 1) := by decide +kernel
theorem dX2_member_6 : decode cX2_member 6 = .ok (.ifnull 21, 3) := by decide +kernel
theorem dX2_member_9 : decode cX2_member 9 = .ok (.aload_n 2, 1) := by decide +kernel
theorem dX2_member_10 : decode cX2_member 10 = .ok (.getfield 34, 3) := by decide +kernel
theorem dX2_member_13 : decode cX2_member 13 = .ok (.iload_n 1, 1) := by decide +kernel
theorem dX2_member_14 : decode cX2_member 14 = .ok (.if_icmp .ne 5, 3) := by decide +kernel
theorem dX2_member_17 : decode cX2_member 17 = .ok (.aload_n 2, 1) := by decide +kernel
theorem dX2_member_18 : decode cX2_member 18 = .ok (.areturn, 1) := by decide +kernel
theorem dX2_member_19 : decode cX2_member 19 = .ok (.aload_n 2, 1) := by decide +kernel
theorem dX2_member_20 : decode cX2_member 20 = .ok (.getfield 31, 3) := by decide +kernel
theorem dX2_member_23 : decode cX2_member 23 = .ok (.astore_n 2, 1) := by decide +kernel
theorem dX2_member_24 : decode cX2_member 24 = .ok (.goto (-19), 3) := by decide +kernel
theorem dX2_member_27 : decode cX2_member 27 = .ok (.aconst_null, 1) := by decide +kernel
theorem dX2_member_28 : decode cX2_member 28 = .ok (.areturn, 1) := by decide +kernel
theorem dX2_forgetNotes_0 : decode cX2_forgetNotes 0 = .ok (.aload_n 0, 1) := by decide +kernel
theorem dX2_forgetNotes_1 : decode cX2_forgetNotes 1 = .ok (.iconst 0, 1) := by decide +kernel
theorem dX2_forgetNotes_2 : decode cX2_forgetNotes 2 = .ok (.putfield 37, 3) := by decide +kernel
theorem dX2_forgetNotes_5 : decode cX2_forgetNotes 5 = .ok (.return_, 1) := by decide +kernel
theorem dX2_noteWay_0 : decode cX2_noteWay 0 = .ok (.aload_n 0, 1) := by decide +kernel
theorem dX2_noteWay_1 : decode cX2_noteWay 1 = .ok (.getfield 37, 3) := by decide +kernel
theorem dX2_noteWay_4 : decode cX2_noteWay 4 = .ok (.bipush 64, 2) := by decide +kernel
theorem dX2_noteWay_6 : decode cX2_noteWay 6 = .ok (.if_icmp .ge 18, 3) := by decide +kernel
theorem dX2_noteWay_9 : decode cX2_noteWay 9 = .ok (.aload_n 0, 1) := by decide +kernel
theorem dX2_noteWay_10 : decode cX2_noteWay 10 = .ok (.getfield 9, 3) := by decide +kernel
theorem dX2_noteWay_13 : decode cX2_noteWay 13 = .ok (.aload_n 0, 1) := by decide +kernel
theorem dX2_noteWay_14 : decode cX2_noteWay 14 = .ok (.getfield 37, 3) := by decide +kernel
theorem dX2_noteWay_17 : decode cX2_noteWay 17 = .ok (.bipush 10, 2) := by decide +kernel
theorem dX2_noteWay_19 : decode cX2_noteWay 19 = .ok (.iload_n 1, 1) := by decide +kernel
theorem dX2_noteWay_20 : decode cX2_noteWay 20 = .ok (.imul, 1) := by decide +kernel
theorem dX2_noteWay_21 : decode cX2_noteWay 21 = .ok (.iload_n 2, 1) := by decide +kernel
theorem dX2_noteWay_22 : decode cX2_noteWay 22 = .ok (.iadd, 1) := by decide +kernel
theorem dX2_noteWay_23 : decode cX2_noteWay 23 = .ok (.iastore, 1) := by decide +kernel
theorem dX2_noteWay_24 : decode cX2_noteWay 24 = .ok (.aload_n 0, 1) := by decide +kernel
theorem dX2_noteWay_25 : decode cX2_noteWay 25 = .ok (.dup, 1) := by decide +kernel
theorem dX2_noteWay_26 : decode cX2_noteWay 26 = .ok (.getfield 37, 3) := by decide +kernel
theorem dX2_noteWay_29 : decode cX2_noteWay 29 = .ok (.iconst 1, 1) := by decide +kernel
theorem dX2_noteWay_30 : decode cX2_noteWay 30 = .ok (.iadd, 1) := by decide +kernel
theorem dX2_noteWay_31 : decode cX2_noteWay 31 = .ok (.putfield 37, 3) := by decide +kernel
theorem dX2_noteWay_34 : decode cX2_noteWay 34 = .ok (.return_, 1) := by decide +kernel
theorem dX3_init_0 : decode cX3_init 0 = .ok (.aload_n 0, 1) := by decide +kernel
theorem dX3_init_1 : decode cX3_init 1 = .ok (.invokespecial 3, 3) := by decide +kernel
theorem dX3_init_4 : decode cX3_init 4 = .ok (.return_, 1) := by decide +kernel
theorem dX3_payWay_0 : decode cX3_payWay 0 = .ok (.aload_n 1, 1) := by decide +kernel
theorem dX3_payWay_1 : decode cX3_payWay 1 = .ok (.iconst 0, 1) := by decide +kernel
theorem dX3_payWay_2 : decode cX3_payWay 2 = .ok (.iconst 1, 1) := by decide +kernel
theorem dX3_payWay_3 : decode cX3_payWay 3 = .ok (.invokevirtual 9, 3) := by decide +kernel
theorem dX3_payWay_6 : decode cX3_payWay 6 = .ok (.iload_n 3, 1) := by decide +kernel
theorem dX3_payWay_7 : decode cX3_payWay 7 = .ok (.i2l, 1) := by decide +kernel
theorem dX3_payWay_8 : decode cX3_payWay 8 = .ok (.iconst 5, 1) := by decide +kernel
theorem dX3_payWay_9 : decode cX3_payWay 9 = .ok (.aload_n 2, 1) := by decide +kernel
theorem dX3_payWay_10 : decode cX3_payWay 10 = .ok (.getfield 15, 3) := by decide +kernel
theorem dX3_payWay_13 : decode cX3_payWay 13 = .ok (.bipush 10, 2) := by decide +kernel
theorem dX3_payWay_15 : decode cX3_payWay 15 = .ok (.idiv, 1) := by decide +kernel
theorem dX3_payWay_16 : decode cX3_payWay 16 = .ok (.iadd, 1) := by decide +kernel
theorem dX3_payWay_17 : decode cX3_payWay 17 = .ok (.i2l, 1) := by decide +kernel
theorem dX3_payWay_18 : decode cX3_payWay 18 = .ok (.lmul, 1) := by decide +kernel
theorem dX3_payWay_19 : decode cX3_payWay 19 = .ok (.lreturn, 1) := by decide +kernel
theorem dX4_init_0 : decode cX4_init 0 = .ok (.aload_n 0, 1) := by decide +kernel
theorem dX4_init_1 : decode cX4_init 1 = .ok (.invokespecial 3, 3) := by decide +kernel
theorem dX4_init_4 : decode cX4_init 4 = .ok (.return_, 1) := by decide +kernel
theorem dX4_toilWay_0 : decode cX4_toilWay 0 = .ok (.aload_n 1, 1) := by decide +kernel
theorem dX4_toilWay_1 : decode cX4_toilWay 1 = .ok (.iconst 5, 1) := by decide +kernel
theorem dX4_toilWay_2 : decode cX4_toilWay 2 = .ok (.iconst 0, 1) := by decide +kernel
theorem dX4_toilWay_3 : decode cX4_toilWay 3 = .ok (.invokevirtual 9, 3) := by decide +kernel
theorem dX4_toilWay_6 : decode cX4_toilWay 6 = .ok (.iload_n 3, 1) := by decide +kernel
theorem dX4_toilWay_7 : decode cX4_toilWay 7 = .ok (.bipush 40, 2) := by decide +kernel
theorem dX4_toilWay_9 : decode cX4_toilWay 9 = .ok (.if_icmp .gt 11, 3) := by decide +kernel
theorem dX4_toilWay_12 : decode cX4_toilWay 12 = .ok (.aload_n 0, 1) := by decide +kernel
theorem dX4_toilWay_13 : decode cX4_toilWay 13 = .ok (.aload_n 1, 1) := by decide +kernel
theorem dX4_toilWay_14 : decode cX4_toilWay 14 = .ok (.aload_n 2, 1) := by decide +kernel
theorem dX4_toilWay_15 : decode cX4_toilWay 15 = .ok (.iload_n 3, 1) := by decide +kernel
theorem dX4_toilWay_16 : decode cX4_toilWay 16 = .ok (.invokespecial 15, 3) := by decide +kernel
theorem dX4_toilWay_19 : decode cX4_toilWay 19 = .ok (.lreturn, 1) := by decide +kernel
theorem dX4_toilWay_20 : decode cX4_toilWay 20 = .ok (.ldc2_w 19, 3) := by decide +kernel
theorem dX4_toilWay_23 : decode cX4_toilWay 23 = .ok (.aload_n 0, 1) := by decide +kernel
theorem dX4_toilWay_24 : decode cX4_toilWay 24 = .ok (.aload_n 1, 1) := by decide +kernel
theorem dX4_toilWay_25 : decode cX4_toilWay 25 = .ok (.aload_n 2, 1) := by decide +kernel
theorem dX4_toilWay_26 : decode cX4_toilWay 26 = .ok (.iload_n 3, 1) := by decide +kernel
theorem dX4_toilWay_27 : decode cX4_toilWay 27 = .ok (.iconst 4, 1) := by decide +kernel
theorem dX4_toilWay_28 : decode cX4_toilWay 28 = .ok (.idiv, 1) := by decide +kernel
theorem dX4_toilWay_29 : decode cX4_toilWay 29 = .ok (.invokespecial 15, 3) := by decide +kernel
theorem dX4_toilWay_32 : decode cX4_toilWay 32 = .ok (.lmul, 1) := by decide +kernel
theorem dX4_toilWay_33 : decode cX4_toilWay 33 = .ok (.lreturn, 1) := by decide +kernel
theorem dX4_payWay_0 : decode cX4_payWay 0 = .ok (.aload_n 1, 1) := by decide +kernel
theorem dX4_payWay_1 : decode cX4_payWay 1 = .ok (.iconst 5, 1) := by decide +kernel
theorem dX4_payWay_2 : decode cX4_payWay 2 = .ok (.iconst 1, 1) := by decide +kernel
theorem dX4_payWay_3 : decode cX4_payWay 3 = .ok (.invokevirtual 9, 3) := by decide +kernel
theorem dX4_payWay_6 : decode cX4_payWay 6 = .ok (.aload_n 0, 1) := by decide +kernel
theorem dX4_payWay_7 : decode cX4_payWay 7 = .ok (.aload_n 1, 1) := by decide +kernel
theorem dX4_payWay_8 : decode cX4_payWay 8 = .ok (.aload_n 2, 1) := by decide +kernel
theorem dX4_payWay_9 : decode cX4_payWay 9 = .ok (.iload_n 3, 1) := by decide +kernel
theorem dX4_payWay_10 : decode cX4_payWay 10 = .ok (.invokespecial 21, 3) := by decide +kernel
theorem dX4_payWay_13 : decode cX4_payWay 13 = .ok (.lstore 4, 2) := by decide +kernel
theorem dX4_payWay_15 : decode cX4_payWay 15 = .ok (.aload_n 2, 1) := by decide +kernel
theorem dX4_payWay_16 : decode cX4_payWay 16 = .ok (.getfield 24, 3) := by decide +kernel
theorem dX4_payWay_19 : decode cX4_payWay 19 = .ok (.sipush 300, 3) := by decide +kernel
theorem dX4_payWay_22 : decode cX4_payWay 22 = .ok (.if_icmp .ge 12, 3) := by decide +kernel
theorem dX4_payWay_25 : decode cX4_payWay 25 = .ok (.ldc2_w 30, 3) := by decide +kernel
theorem dX4_payWay_28 : decode cX4_payWay 28 = .ok (.lload 4, 2) := by decide +kernel
theorem dX4_payWay_30 : decode cX4_payWay 30 = .ok (.lmul, 1) := by decide +kernel
theorem dX4_payWay_31 : decode cX4_payWay 31 = .ok (.goto 5, 3) := by decide +kernel
theorem dX4_payWay_34 : decode cX4_payWay 34 = .ok (.lload 4, 2) := by decide +kernel
theorem dX4_payWay_36 : decode cX4_payWay 36 = .ok (.lreturn, 1) := by decide +kernel
theorem dX4_heedWay_0 : decode cX4_heedWay 0 = .ok (.aload_n 1, 1) := by decide +kernel
theorem dX4_heedWay_1 : decode cX4_heedWay 1 = .ok (.iconst 5, 1) := by decide +kernel
theorem dX4_heedWay_2 : decode cX4_heedWay 2 = .ok (.iconst 3, 1) := by decide +kernel
theorem dX4_heedWay_3 : decode cX4_heedWay 3 = .ok (.invokevirtual 9, 3) := by decide +kernel
theorem dX4_heedWay_6 : decode cX4_heedWay 6 = .ok (.aload_n 2, 1) := by decide +kernel
theorem dX4_heedWay_7 : decode cX4_heedWay 7 = .ok (.getfield 24, 3) := by decide +kernel
theorem dX4_heedWay_10 : decode cX4_heedWay 10 = .ok (.sipush 700, 3) := by decide +kernel
theorem dX4_heedWay_13 : decode cX4_heedWay 13 = .ok (.if_icmp .lt 6, 3) := by decide +kernel
theorem dX4_heedWay_16 : decode cX4_heedWay 16 = .ok (.bipush (-5), 2) := by decide +kernel
theorem dX4_heedWay_18 : decode cX4_heedWay 18 = .ok (.ireturn, 1) := by decide +kernel
theorem dX4_heedWay_19 : decode cX4_heedWay 19 = .ok (.aload_n 0, 1) := by decide +kernel
theorem dX4_heedWay_20 : decode cX4_heedWay 20 = .ok (.aload_n 1, 1) := by decide +kernel
theorem dX4_heedWay_21 : decode cX4_heedWay 21 = .ok (.aload_n 2, 1) := by decide +kernel
theorem dX4_heedWay_22 : decode cX4_heedWay 22 = .ok (.iload_n 3, 1) := by decide +kernel
theorem dX4_heedWay_23 : decode cX4_heedWay 23 = .ok (.iconst 1, 1) := by decide +kernel
theorem dX4_heedWay_24 : decode cX4_heedWay 24 = .ok (.iadd, 1) := by decide +kernel
theorem dX4_heedWay_25 : decode cX4_heedWay 25 = .ok (.invokespecial 32, 3) := by decide +kernel
theorem dX4_heedWay_28 : decode cX4_heedWay 28 = .ok (.ireturn, 1) := by decide +kernel
theorem dX4_raceWay_0 : decode cX4_raceWay 0 = .ok (.iconst 2, 1) := by decide +kernel
theorem dX4_raceWay_1 : decode cX4_raceWay 1 = .ok (.aload_n 0, 1) := by decide +kernel
theorem dX4_raceWay_2 : decode cX4_raceWay 2 = .ok (.aload_n 1, 1) := by decide +kernel
theorem dX4_raceWay_3 : decode cX4_raceWay 3 = .ok (.aload_n 2, 1) := by decide +kernel
theorem dX4_raceWay_4 : decode cX4_raceWay 4 = .ok (.iload_n 3, 1) := by decide +kernel
theorem dX4_raceWay_5 : decode cX4_raceWay 5 = .ok (.iload 4, 2) := by decide +kernel
theorem dX4_raceWay_7 : decode cX4_raceWay 7 = .ok (.iconst 3, 1) := by decide +kernel
theorem dX4_raceWay_8 : decode cX4_raceWay 8 = .ok (.if_icmp .ge 8, 3) := by decide +kernel
theorem dX4_raceWay_11 : decode cX4_raceWay 11 = .ok (.iload 4, 2) := by decide +kernel
theorem dX4_raceWay_13 : decode cX4_raceWay 13 = .ok (.goto 4, 3) := by decide +kernel
theorem dX4_raceWay_16 : decode cX4_raceWay 16 = .ok (.iconst 3, 1) := by decide +kernel
theorem dX4_raceWay_17 : decode cX4_raceWay 17 = .ok (.invokespecial 36, 3) := by decide +kernel
theorem dX4_raceWay_20 : decode cX4_raceWay 20 = .ok (.imul, 1) := by decide +kernel
theorem dX4_raceWay_21 : decode cX4_raceWay 21 = .ok (.ireturn, 1) := by decide +kernel
theorem dX5_init_0 : decode cX5_init 0 = .ok (.aload_n 0, 1) := by decide +kernel
theorem dX5_init_1 : decode cX5_init 1 = .ok (.invokespecial 3, 3) := by decide +kernel
theorem dX5_init_4 : decode cX5_init 4 = .ok (.return_, 1) := by decide +kernel
theorem dX5_toilWay_0 : decode cX5_toilWay 0 = .ok (.aload_n 1, 1) := by decide +kernel
theorem dX5_toilWay_1 : decode cX5_toilWay 1 = .ok (.iconst 4, 1) := by decide +kernel
theorem dX5_toilWay_2 : decode cX5_toilWay 2 = .ok (.iconst 0, 1) := by decide +kernel
theorem dX5_toilWay_3 : decode cX5_toilWay 3 = .ok (.invokevirtual 9, 3) := by decide +kernel
theorem dX5_toilWay_6 : decode cX5_toilWay 6 = .ok (.iload_n 3, 1) := by decide +kernel
theorem dX5_toilWay_7 : decode cX5_toilWay 7 = .ok (.iconst 2, 1) := by decide +kernel
theorem dX5_toilWay_8 : decode cX5_toilWay 8 = .ok (.idiv, 1) := by decide +kernel
theorem dX5_toilWay_9 : decode cX5_toilWay 9 = .ok (.istore 4, 2) := by decide +kernel
theorem dX5_toilWay_11 : decode cX5_toilWay 11 = .ok (.aload_n 0, 1) := by decide +kernel
theorem dX5_toilWay_12 : decode cX5_toilWay 12 = .ok (.aload_n 1, 1) := by decide +kernel
theorem dX5_toilWay_13 : decode cX5_toilWay 13 = .ok (.aload_n 2, 1) := by decide +kernel
theorem dX5_toilWay_14 : decode cX5_toilWay 14 = .ok (.iload 4, 2) := by decide +kernel
theorem dX5_toilWay_16 : decode cX5_toilWay 16 = .ok (.invokespecial 15, 3) := by decide +kernel
theorem dX5_toilWay_19 : decode cX5_toilWay 19 = .ok (.lstore 5, 2) := by decide +kernel
theorem dX5_toilWay_21 : decode cX5_toilWay 21 = .ok (.lload 5, 2) := by decide +kernel
theorem dX5_toilWay_23 : decode cX5_toilWay 23 = .ok (.aload_n 0, 1) := by decide +kernel
theorem dX5_toilWay_24 : decode cX5_toilWay 24 = .ok (.aload_n 1, 1) := by decide +kernel
theorem dX5_toilWay_25 : decode cX5_toilWay 25 = .ok (.aload_n 2, 1) := by decide +kernel
theorem dX5_toilWay_26 : decode cX5_toilWay 26 = .ok (.iload_n 3, 1) := by decide +kernel
theorem dX5_toilWay_27 : decode cX5_toilWay 27 = .ok (.iload 4, 2) := by decide +kernel
theorem dX5_toilWay_29 : decode cX5_toilWay 29 = .ok (.isub, 1) := by decide +kernel
theorem dX5_toilWay_30 : decode cX5_toilWay 30 = .ok (.invokespecial 15, 3) := by decide +kernel
theorem dX5_toilWay_33 : decode cX5_toilWay 33 = .ok (.ladd, 1) := by decide +kernel
theorem dX5_toilWay_34 : decode cX5_toilWay 34 = .ok (.lreturn, 1) := by decide +kernel
theorem dX5_climbWay_0 : decode cX5_climbWay 0 = .ok (.aload_n 1, 1) := by decide +kernel
theorem dX5_climbWay_1 : decode cX5_climbWay 1 = .ok (.iconst 4, 1) := by decide +kernel
theorem dX5_climbWay_2 : decode cX5_climbWay 2 = .ok (.iconst 2, 1) := by decide +kernel
theorem dX5_climbWay_3 : decode cX5_climbWay 3 = .ok (.invokevirtual 9, 3) := by decide +kernel
theorem dX5_climbWay_6 : decode cX5_climbWay 6 = .ok (.aload_n 0, 1) := by decide +kernel
theorem dX5_climbWay_7 : decode cX5_climbWay 7 = .ok (.aload_n 1, 1) := by decide +kernel
theorem dX5_climbWay_8 : decode cX5_climbWay 8 = .ok (.aload_n 2, 1) := by decide +kernel
theorem dX5_climbWay_9 : decode cX5_climbWay 9 = .ok (.iload_n 3, 1) := by decide +kernel
theorem dX5_climbWay_10 : decode cX5_climbWay 10 = .ok (.invokespecial 19, 3) := by decide +kernel
theorem dX5_climbWay_13 : decode cX5_climbWay 13 = .ok (.istore 4, 2) := by decide +kernel
theorem dX5_climbWay_15 : decode cX5_climbWay 15 = .ok (.iload 4, 2) := by decide +kernel
theorem dX5_climbWay_17 : decode cX5_climbWay 17 = .ok (.iconst (-1), 1) := by decide +kernel
theorem dX5_climbWay_18 : decode cX5_climbWay 18 = .ok (.if_icmp .ne 7, 3) := by decide +kernel
theorem dX5_climbWay_21 : decode cX5_climbWay 21 = .ok (.iconst (-1), 1) := by decide +kernel
theorem dX5_climbWay_22 : decode cX5_climbWay 22 = .ok (.goto 7, 3) := by decide +kernel
theorem dX5_climbWay_25 : decode cX5_climbWay 25 = .ok (.iload 4, 2) := by decide +kernel
theorem dX5_climbWay_27 : decode cX5_climbWay 27 = .ok (.iconst 1, 1) := by decide +kernel
theorem dX5_climbWay_28 : decode cX5_climbWay 28 = .ok (.iadd, 1) := by decide +kernel
theorem dX5_climbWay_29 : decode cX5_climbWay 29 = .ok (.ireturn, 1) := by decide +kernel
theorem dX6_init_0 : decode cX6_init 0 = .ok (.aload_n 0, 1) := by decide +kernel
theorem dX6_init_1 : decode cX6_init 1 = .ok (.invokespecial 3, 3) := by decide +kernel
theorem dX6_init_4 : decode cX6_init 4 = .ok (.aload_n 0, 1) := by decide +kernel
theorem dX6_init_5 : decode cX6_init 5 = .ok (.iload_n 1, 1) := by decide +kernel
theorem dX6_init_6 : decode cX6_init 6 = .ok (.putfield 9, 3) := by decide +kernel
theorem dX6_init_9 : decode cX6_init 9 = .ok (.aload_n 0, 1) := by decide +kernel
theorem dX6_init_10 : decode cX6_init 10 = .ok (.iload_n 2, 1) := by decide +kernel
theorem dX6_init_11 : decode cX6_init 11 = .ok (.putfield 15, 3) := by decide +kernel
theorem dX6_init_14 : decode cX6_init 14 = .ok (.aload_n 0, 1) := by decide +kernel
theorem dX6_init_15 : decode cX6_init 15 = .ok (.iload_n 3, 1) := by decide +kernel
theorem dX6_init_16 : decode cX6_init 16 = .ok (.putfield 18, 3) := by decide +kernel
theorem dX6_init_19 : decode cX6_init 19 = .ok (.aload_n 0, 1) := by decide +kernel
theorem dX6_init_20 : decode cX6_init 20 = .ok (.aload 4, 2) := by decide +kernel
theorem dX6_init_22 : decode cX6_init 22 = .ok (.putfield 21, 3) := by decide +kernel
theorem dX6_init_25 : decode cX6_init 25 = .ok (.return_, 1) := by decide +kernel
theorem dX6_tire_0 : decode cX6_tire 0 = .ok (.aload_n 0, 1) := by decide +kernel
theorem dX6_tire_1 : decode cX6_tire 1 = .ok (.getfield 25, 3) := by decide +kernel
theorem dX6_tire_4 : decode cX6_tire 4 = .ok (.iload_n 1, 1) := by decide +kernel
theorem dX6_tire_5 : decode cX6_tire 5 = .ok (.iadd, 1) := by decide +kernel
theorem dX6_tire_6 : decode cX6_tire 6 = .ok (.istore_n 2, 1) := by decide +kernel
theorem dX6_tire_7 : decode cX6_tire 7 = .ok (.iload_n 2, 1) := by decide +kernel
theorem dX6_tire_8 : decode cX6_tire 8 = .ok (.ifCond .ge 5, 3) := by decide +kernel
theorem dX6_tire_11 : decode cX6_tire 11 = .ok (.iconst 0, 1) := by decide +kernel
theorem dX6_tire_12 : decode cX6_tire 12 = .ok (.istore_n 2, 1) := by decide +kernel
theorem dX6_tire_13 : decode cX6_tire 13 = .ok (.aload_n 0, 1) := by decide +kernel
theorem dX6_tire_14 : decode cX6_tire 14 = .ok (.iload_n 2, 1) := by decide +kernel
theorem dX6_tire_15 : decode cX6_tire 15 = .ok (.sipush 1000, 3) := by decide +kernel
theorem dX6_tire_18 : decode cX6_tire 18 = .ok (.if_icmp .le 9, 3) := by decide +kernel
theorem dX6_tire_21 : decode cX6_tire 21 = .ok (.sipush 1000, 3) := by decide +kernel
theorem dX6_tire_24 : decode cX6_tire 24 = .ok (.goto 4, 3) := by decide +kernel
theorem dX6_tire_27 : decode cX6_tire 27 = .ok (.iload_n 2, 1) := by decide +kernel
theorem dX6_tire_28 : decode cX6_tire 28 = .ok (.putfield 25, 3) := by decide +kernel
theorem dX6_tire_31 : decode cX6_tire 31 = .ok (.return_, 1) := by decide +kernel
theorem dX6_isBelowBosun_0 : decode cX6_isBelowBosun 0 = .ok (.aload_n 0, 1) := by decide +kernel
theorem dX6_isBelowBosun_1 : decode cX6_isBelowBosun 1 = .ok (.getfield 18, 3) := by decide +kernel
theorem dX6_isBelowBosun_4 : decode cX6_isBelowBosun 4 = .ok (.iconst 2, 1) := by decide +kernel
theorem dX6_isBelowBosun_5 : decode cX6_isBelowBosun 5 = .ok (.if_icmp .gt 7, 3) := by decide +kernel
theorem dX6_isBelowBosun_8 : decode cX6_isBelowBosun 8 = .ok (.iconst 1, 1) := by decide +kernel
theorem dX6_isBelowBosun_9 : decode cX6_isBelowBosun 9 = .ok (.goto 4, 3) := by decide +kernel
theorem dX6_isBelowBosun_12 : decode cX6_isBelowBosun 12 = .ok (.iconst 0, 1) := by decide +kernel
theorem dX6_isBelowBosun_13 : decode cX6_isBelowBosun 13 = .ok (.ireturn, 1) := by decide +kernel
theorem dX6_isClimber_0 : decode cX6_isClimber 0 = .ok (.aload_n 0, 1) := by decide +kernel
theorem dX6_isClimber_1 : decode cX6_isClimber 1 = .ok (.getfield 18, 3) := by decide +kernel
theorem dX6_isClimber_4 : decode cX6_isClimber 4 = .ok (.iconst 2, 1) := by decide +kernel
theorem dX6_isClimber_5 : decode cX6_isClimber 5 = .ok (.if_icmp .lt 15, 3) := by decide +kernel
theorem dX6_isClimber_8 : decode cX6_isClimber 8 = .ok (.aload_n 0, 1) := by decide +kernel
theorem dX6_isClimber_9 : decode cX6_isClimber 9 = .ok (.getfield 18, 3) := by decide +kernel
theorem dX6_isClimber_12 : decode cX6_isClimber 12 = .ok (.iconst 5, 1) := by decide +kernel
theorem dX6_isClimber_13 : decode cX6_isClimber 13 = .ok (.if_icmp .gt 7, 3) := by decide +kernel
theorem dX6_isClimber_16 : decode cX6_isClimber 16 = .ok (.iconst 1, 1) := by decide +kernel
theorem dX6_isClimber_17 : decode cX6_isClimber 17 = .ok (.goto 4, 3) := by decide +kernel
theorem dX6_isClimber_20 : decode cX6_isClimber 20 = .ok (.iconst 0, 1) := by decide +kernel
theorem dX6_isClimber_21 : decode cX6_isClimber 21 = .ok (.ireturn, 1) := by decide +kernel
theorem dX6_isPayee_0 : decode cX6_isPayee 0 = .ok (.aload_n 0, 1) := by decide +kernel
theorem dX6_isPayee_1 : decode cX6_isPayee 1 = .ok (.getfield 18, 3) := by decide +kernel
theorem dX6_isPayee_4 : decode cX6_isPayee 4 = .ok (.iconst 1, 1) := by decide +kernel
theorem dX6_isPayee_5 : decode cX6_isPayee 5 = .ok (.if_icmp .lt 7, 3) := by decide +kernel
theorem dX6_isPayee_8 : decode cX6_isPayee 8 = .ok (.iconst 1, 1) := by decide +kernel
theorem dX6_isPayee_9 : decode cX6_isPayee 9 = .ok (.goto 4, 3) := by decide +kernel
theorem dX6_isPayee_12 : decode cX6_isPayee 12 = .ok (.iconst 0, 1) := by decide +kernel
theorem dX6_isPayee_13 : decode cX6_isPayee 13 = .ok (.ireturn, 1) := by decide +kernel
theorem dX6_isCarer_0 : decode cX6_isCarer 0 = .ok (.aload_n 0, 1) := by decide +kernel
theorem dX6_isCarer_1 : decode cX6_isCarer 1 = .ok (.getfield 18, 3) := by decide +kernel
theorem dX6_isCarer_4 : decode cX6_isCarer 4 = .ok (.bipush 6, 2) := by decide +kernel
theorem dX6_isCarer_6 : decode cX6_isCarer 6 = .ok (.if_icmp .eq 12, 3) := by decide +kernel
theorem dX6_isCarer_9 : decode cX6_isCarer 9 = .ok (.aload_n 0, 1) := by decide +kernel
theorem dX6_isCarer_10 : decode cX6_isCarer 10 = .ok (.getfield 18, 3) := by decide +kernel
theorem dX6_isCarer_13 : decode cX6_isCarer 13 = .ok (.bipush 7, 2) := by decide +kernel
theorem dX6_isCarer_15 : decode cX6_isCarer 15 = .ok (.if_icmp .ne 7, 3) := by decide +kernel
theorem dX6_isCarer_18 : decode cX6_isCarer 18 = .ok (.iconst 1, 1) := by decide +kernel
theorem dX6_isCarer_19 : decode cX6_isCarer 19 = .ok (.goto 4, 3) := by decide +kernel
theorem dX6_isCarer_22 : decode cX6_isCarer 22 = .ok (.iconst 0, 1) := by decide +kernel
theorem dX6_isCarer_23 : decode cX6_isCarer 23 = .ok (.ireturn, 1) := by decide +kernel
theorem dX7_init_0 : decode cX7_init 0 = .ok (.aload_n 0, 1) := by decide +kernel
theorem dX7_init_1 : decode cX7_init 1 = .ok (.invokespecial 3, 3) := by decide +kernel
theorem dX7_init_4 : decode cX7_init 4 = .ok (.return_, 1) := by decide +kernel
theorem dX7_climbWay_0 : decode cX7_climbWay 0 = .ok (.aload_n 1, 1) := by decide +kernel
theorem dX7_climbWay_1 : decode cX7_climbWay 1 = .ok (.iconst 1, 1) := by decide +kernel
theorem dX7_climbWay_2 : decode cX7_climbWay 2 = .ok (.iconst 2, 1) := by decide +kernel
theorem dX7_climbWay_3 : decode cX7_climbWay 3 = .ok (.invokevirtual 9, 3) := by decide +kernel
theorem dX7_climbWay_6 : decode cX7_climbWay 6 = .ok (.iload_n 3, 1) := by decide +kernel
theorem dX7_climbWay_7 : decode cX7_climbWay 7 = .ok (.bipush 30, 2) := by decide +kernel
theorem dX7_climbWay_9 : decode cX7_climbWay 9 = .ok (.if_icmp .le 11, 3) := by decide +kernel
theorem dX7_climbWay_12 : decode cX7_climbWay 12 = .ok (.aload_n 0, 1) := by decide +kernel
theorem dX7_climbWay_13 : decode cX7_climbWay 13 = .ok (.aload_n 1, 1) := by decide +kernel
theorem dX7_climbWay_14 : decode cX7_climbWay 14 = .ok (.aload_n 2, 1) := by decide +kernel
theorem dX7_climbWay_15 : decode cX7_climbWay 15 = .ok (.iload_n 3, 1) := by decide +kernel
theorem dX7_climbWay_16 : decode cX7_climbWay 16 = .ok (.invokespecial 15, 3) := by decide +kernel
theorem dX7_climbWay_19 : decode cX7_climbWay 19 = .ok (.ireturn, 1) := by decide +kernel
theorem dX7_climbWay_20 : decode cX7_climbWay 20 = .ok (.aload_n 2, 1) := by decide +kernel
theorem dX7_climbWay_21 : decode cX7_climbWay 21 = .ok (.iload_n 3, 1) := by decide +kernel
theorem dX7_climbWay_22 : decode cX7_climbWay 22 = .ok (.iconst 2, 1) := by decide +kernel
theorem dX7_climbWay_23 : decode cX7_climbWay 23 = .ok (.idiv, 1) := by decide +kernel
theorem dX7_climbWay_24 : decode cX7_climbWay 24 = .ok (.invokevirtual 19, 3) := by decide +kernel
theorem dX7_climbWay_27 : decode cX7_climbWay 27 = .ok (.iconst 3, 1) := by decide +kernel
theorem dX7_climbWay_28 : decode cX7_climbWay 28 = .ok (.iload_n 3, 1) := by decide +kernel
theorem dX7_climbWay_29 : decode cX7_climbWay 29 = .ok (.imul, 1) := by decide +kernel
theorem dX7_climbWay_30 : decode cX7_climbWay 30 = .ok (.ireturn, 1) := by decide +kernel
theorem dX8_init_0 : decode cX8_init 0 = .ok (.aload_n 0, 1) := by decide +kernel
theorem dX8_init_1 : decode cX8_init 1 = .ok (.invokespecial 3, 3) := by decide +kernel
theorem dX8_init_4 : decode cX8_init 4 = .ok (.return_, 1) := by decide +kernel
theorem dX8_toilWay_0 : decode cX8_toilWay 0 = .ok (.aload_n 1, 1) := by decide +kernel
theorem dX8_toilWay_1 : decode cX8_toilWay 1 = .ok (.bipush 8, 2) := by decide +kernel
theorem dX8_toilWay_3 : decode cX8_toilWay 3 = .ok (.iconst 0, 1) := by decide +kernel
theorem dX8_toilWay_4 : decode cX8_toilWay 4 = .ok (.invokevirtual 9, 3) := by decide +kernel
theorem dX8_toilWay_7 : decode cX8_toilWay 7 = .ok (.iload_n 3, 1) := by decide +kernel
theorem dX8_toilWay_8 : decode cX8_toilWay 8 = .ok (.i2l, 1) := by decide +kernel
theorem dX8_toilWay_9 : decode cX8_toilWay 9 = .ok (.bipush 10, 2) := by decide +kernel
theorem dX8_toilWay_11 : decode cX8_toilWay 11 = .ok (.aload_n 2, 1) := by decide +kernel
theorem dX8_toilWay_12 : decode cX8_toilWay 12 = .ok (.getfield 15, 3) := by decide +kernel
theorem dX8_toilWay_15 : decode cX8_toilWay 15 = .ok (.iadd, 1) := by decide +kernel
theorem dX8_toilWay_16 : decode cX8_toilWay 16 = .ok (.i2l, 1) := by decide +kernel
theorem dX8_toilWay_17 : decode cX8_toilWay 17 = .ok (.lmul, 1) := by decide +kernel
theorem dX8_toilWay_18 : decode cX8_toilWay 18 = .ok (.aload_n 2, 1) := by decide +kernel
theorem dX8_toilWay_19 : decode cX8_toilWay 19 = .ok (.getfield 21, 3) := by decide +kernel
theorem dX8_toilWay_22 : decode cX8_toilWay 22 = .ok (.i2l, 1) := by decide +kernel
theorem dX8_toilWay_23 : decode cX8_toilWay 23 = .ok (.lsub, 1) := by decide +kernel
theorem dX8_toilWay_24 : decode cX8_toilWay 24 = .ok (.lstore 4, 2) := by decide +kernel
theorem dX8_toilWay_26 : decode cX8_toilWay 26 = .ok (.aload_n 2, 1) := by decide +kernel
theorem dX8_toilWay_27 : decode cX8_toilWay 27 = .ok (.iload_n 3, 1) := by decide +kernel
theorem dX8_toilWay_28 : decode cX8_toilWay 28 = .ok (.invokevirtual 24, 3) := by decide +kernel
theorem dX8_toilWay_31 : decode cX8_toilWay 31 = .ok (.lload 4, 2) := by decide +kernel
theorem dX8_toilWay_33 : decode cX8_toilWay 33 = .ok (.lconst 0, 1) := by decide +kernel
theorem dX8_toilWay_34 : decode cX8_toilWay 34 = .ok (.lcmp, 1) := by decide +kernel
theorem dX8_toilWay_35 : decode cX8_toilWay 35 = .ok (.ifCond .ge 7, 3) := by decide +kernel
theorem dX8_toilWay_38 : decode cX8_toilWay 38 = .ok (.lconst 0, 1) := by decide +kernel
theorem dX8_toilWay_39 : decode cX8_toilWay 39 = .ok (.goto 5, 3) := by decide +kernel
theorem dX8_toilWay_42 : decode cX8_toilWay 42 = .ok (.lload 4, 2) := by decide +kernel
theorem dX8_toilWay_44 : decode cX8_toilWay 44 = .ok (.lreturn, 1) := by decide +kernel
theorem dX8_climbWay_0 : decode cX8_climbWay 0 = .ok (.aload_n 1, 1) := by decide +kernel
theorem dX8_climbWay_1 : decode cX8_climbWay 1 = .ok (.bipush 8, 2) := by decide +kernel
theorem dX8_climbWay_3 : decode cX8_climbWay 3 = .ok (.iconst 2, 1) := by decide +kernel
theorem dX8_climbWay_4 : decode cX8_climbWay 4 = .ok (.invokevirtual 9, 3) := by decide +kernel
theorem dX8_climbWay_7 : decode cX8_climbWay 7 = .ok (.iload_n 3, 1) := by decide +kernel
theorem dX8_climbWay_8 : decode cX8_climbWay 8 = .ok (.bipush 10, 2) := by decide +kernel
theorem dX8_climbWay_10 : decode cX8_climbWay 10 = .ok (.aload_n 2, 1) := by decide +kernel
theorem dX8_climbWay_11 : decode cX8_climbWay 11 = .ok (.getfield 15, 3) := by decide +kernel
theorem dX8_climbWay_14 : decode cX8_climbWay 14 = .ok (.iadd, 1) := by decide +kernel
theorem dX8_climbWay_15 : decode cX8_climbWay 15 = .ok (.if_icmp .le 5, 3) := by decide +kernel
theorem dX8_climbWay_18 : decode cX8_climbWay 18 = .ok (.iconst (-1), 1) := by decide +kernel
theorem dX8_climbWay_19 : decode cX8_climbWay 19 = .ok (.ireturn, 1) := by decide +kernel
theorem dX8_climbWay_20 : decode cX8_climbWay 20 = .ok (.aload_n 2, 1) := by decide +kernel
theorem dX8_climbWay_21 : decode cX8_climbWay 21 = .ok (.iload_n 3, 1) := by decide +kernel
theorem dX8_climbWay_22 : decode cX8_climbWay 22 = .ok (.invokevirtual 24, 3) := by decide +kernel
theorem dX8_climbWay_25 : decode cX8_climbWay 25 = .ok (.iconst 2, 1) := by decide +kernel
theorem dX8_climbWay_26 : decode cX8_climbWay 26 = .ok (.iload_n 3, 1) := by decide +kernel
theorem dX8_climbWay_27 : decode cX8_climbWay 27 = .ok (.imul, 1) := by decide +kernel
theorem dX8_climbWay_28 : decode cX8_climbWay 28 = .ok (.ireturn, 1) := by decide +kernel
theorem dX8_heedWay_0 : decode cX8_heedWay 0 = .ok (.aload_n 1, 1) := by decide +kernel
theorem dX8_heedWay_1 : decode cX8_heedWay 1 = .ok (.bipush 8, 2) := by decide +kernel
theorem dX8_heedWay_3 : decode cX8_heedWay 3 = .ok (.iconst 3, 1) := by decide +kernel
theorem dX8_heedWay_4 : decode cX8_heedWay 4 = .ok (.invokevirtual 9, 3) := by decide +kernel
theorem dX8_heedWay_7 : decode cX8_heedWay 7 = .ok (.bipush 31, 2) := by decide +kernel
theorem dX8_heedWay_9 : decode cX8_heedWay 9 = .ok (.iload_n 3, 1) := by decide +kernel
theorem dX8_heedWay_10 : decode cX8_heedWay 10 = .ok (.imul, 1) := by decide +kernel
theorem dX8_heedWay_11 : decode cX8_heedWay 11 = .ok (.aload_n 2, 1) := by decide +kernel
theorem dX8_heedWay_12 : decode cX8_heedWay 12 = .ok (.getfield 28, 3) := by decide +kernel
theorem dX8_heedWay_15 : decode cX8_heedWay 15 = .ok (.iadd, 1) := by decide +kernel
theorem dX8_heedWay_16 : decode cX8_heedWay 16 = .ok (.sipush 1000, 3) := by decide +kernel
theorem dX8_heedWay_19 : decode cX8_heedWay 19 = .ok (.irem, 1) := by decide +kernel
theorem dX8_heedWay_20 : decode cX8_heedWay 20 = .ok (.ireturn, 1) := by decide +kernel
theorem dX8_raceWay_0 : decode cX8_raceWay 0 = .ok (.iconst 0, 1) := by decide +kernel
theorem dX8_raceWay_1 : decode cX8_raceWay 1 = .ok (.istore 5, 2) := by decide +kernel
theorem dX8_raceWay_3 : decode cX8_raceWay 3 = .ok (.iconst 0, 1) := by decide +kernel
theorem dX8_raceWay_4 : decode cX8_raceWay 4 = .ok (.istore 6, 2) := by decide +kernel
theorem dX8_raceWay_6 : decode cX8_raceWay 6 = .ok (.iload 6, 2) := by decide +kernel
theorem dX8_raceWay_8 : decode cX8_raceWay 8 = .ok (.iload 4, 2) := by decide +kernel
theorem dX8_raceWay_10 : decode cX8_raceWay 10 = .ok (.if_icmp .ge 34, 3) := by decide +kernel
theorem dX8_raceWay_13 : decode cX8_raceWay 13 = .ok (.aload_n 0, 1) := by decide +kernel
theorem dX8_raceWay_14 : decode cX8_raceWay 14 = .ok (.aload_n 1, 1) := by decide +kernel
theorem dX8_raceWay_15 : decode cX8_raceWay 15 = .ok (.aload_n 2, 1) := by decide +kernel
theorem dX8_raceWay_16 : decode cX8_raceWay 16 = .ok (.iload_n 3, 1) := by decide +kernel
theorem dX8_raceWay_17 : decode cX8_raceWay 17 = .ok (.invokevirtual 31, 3) := by decide +kernel
theorem dX8_raceWay_20 : decode cX8_raceWay 20 = .ok (.istore 7, 2) := by decide +kernel
theorem dX8_raceWay_22 : decode cX8_raceWay 22 = .ok (.iload 7, 2) := by decide +kernel
theorem dX8_raceWay_24 : decode cX8_raceWay 24 = .ok (.iconst (-1), 1) := by decide +kernel
theorem dX8_raceWay_25 : decode cX8_raceWay 25 = .ok (.if_icmp .ne 6, 3) := by decide +kernel
theorem dX8_raceWay_28 : decode cX8_raceWay 28 = .ok (.iload 5, 2) := by decide +kernel
theorem dX8_raceWay_30 : decode cX8_raceWay 30 = .ok (.ireturn, 1) := by decide +kernel
theorem dX8_raceWay_31 : decode cX8_raceWay 31 = .ok (.iload 5, 2) := by decide +kernel
theorem dX8_raceWay_33 : decode cX8_raceWay 33 = .ok (.iload 7, 2) := by decide +kernel
theorem dX8_raceWay_35 : decode cX8_raceWay 35 = .ok (.iadd, 1) := by decide +kernel
theorem dX8_raceWay_36 : decode cX8_raceWay 36 = .ok (.istore 5, 2) := by decide +kernel
theorem dX8_raceWay_38 : decode cX8_raceWay 38 = .ok (.iinc 6 1, 3) := by decide +kernel
theorem dX8_raceWay_41 : decode cX8_raceWay 41 = .ok (.goto (-35), 3) := by decide +kernel
theorem dX8_raceWay_44 : decode cX8_raceWay 44 = .ok (.iload 5, 2) := by decide +kernel
theorem dX8_raceWay_46 : decode cX8_raceWay 46 = .ok (.ireturn, 1) := by decide +kernel
theorem dX9_init_0 : decode cX9_init 0 = .ok (.aload_n 0, 1) := by decide +kernel
theorem dX9_init_1 : decode cX9_init 1 = .ok (.invokespecial 3, 3) := by decide +kernel
theorem dX9_init_4 : decode cX9_init 4 = .ok (.return_, 1) := by decide +kernel
theorem dX9_payWay_0 : decode cX9_payWay 0 = .ok (.aload_n 1, 1) := by decide +kernel
theorem dX9_payWay_1 : decode cX9_payWay 1 = .ok (.bipush 7, 2) := by decide +kernel
theorem dX9_payWay_3 : decode cX9_payWay 3 = .ok (.iconst 1, 1) := by decide +kernel
theorem dX9_payWay_4 : decode cX9_payWay 4 = .ok (.invokevirtual 9, 3) := by decide +kernel
theorem dX9_payWay_7 : decode cX9_payWay 7 = .ok (.aload_n 0, 1) := by decide +kernel
theorem dX9_payWay_8 : decode cX9_payWay 8 = .ok (.aload_n 1, 1) := by decide +kernel
theorem dX9_payWay_9 : decode cX9_payWay 9 = .ok (.aload_n 2, 1) := by decide +kernel
theorem dX9_payWay_10 : decode cX9_payWay 10 = .ok (.iload_n 3, 1) := by decide +kernel
theorem dX9_payWay_11 : decode cX9_payWay 11 = .ok (.invokespecial 15, 3) := by decide +kernel
theorem dX9_payWay_14 : decode cX9_payWay 14 = .ok (.lstore 4, 2) := by decide +kernel
theorem dX9_payWay_16 : decode cX9_payWay 16 = .ok (.aload_n 1, 1) := by decide +kernel
theorem dX9_payWay_17 : decode cX9_payWay 17 = .ok (.getfield 19, 3) := by decide +kernel
theorem dX9_payWay_20 : decode cX9_payWay 20 = .ok (.astore 6, 2) := by decide +kernel
theorem dX9_payWay_22 : decode cX9_payWay 22 = .ok (.aload 6, 2) := by decide +kernel
theorem dX9_payWay_24 : decode cX9_payWay 24 = .ok (.ifnull 32, 3) := by decide +kernel
theorem dX9_payWay_27 : decode cX9_payWay 27 = .ok (.aload 6, 2) := by decide +kernel
theorem dX9_payWay_29 : decode cX9_payWay 29 = .ok (.getfield 23, 3) := by decide +kernel
theorem dX9_payWay_32 : decode cX9_payWay 32 = .ok (.sipush 500, 3) := by decide +kernel
theorem dX9_payWay_35 : decode cX9_payWay 35 = .ok (.if_icmp .le 11, 3) := by decide +kernel
theorem dX9_payWay_38 : decode cX9_payWay 38 = .ok (.lload 4, 2) := by decide +kernel
theorem dX9_payWay_40 : decode cX9_payWay 40 = .ok (.ldc2_w 29, 3) := by decide +kernel
theorem dX9_payWay_43 : decode cX9_payWay 43 = .ok (.ladd, 1) := by decide +kernel
theorem dX9_payWay_44 : decode cX9_payWay 44 = .ok (.lstore 4, 2) := by decide +kernel
theorem dX9_payWay_46 : decode cX9_payWay 46 = .ok (.aload 6, 2) := by decide +kernel
theorem dX9_payWay_48 : decode cX9_payWay 48 = .ok (.getfield 31, 3) := by decide +kernel
theorem dX9_payWay_51 : decode cX9_payWay 51 = .ok (.astore 6, 2) := by decide +kernel
theorem dX9_payWay_53 : decode cX9_payWay 53 = .ok (.goto (-31), 3) := by decide +kernel
theorem dX9_payWay_56 : decode cX9_payWay 56 = .ok (.lload 4, 2) := by decide +kernel
theorem dX9_payWay_58 : decode cX9_payWay 58 = .ok (.lreturn, 1) := by decide +kernel
theorem dX9_climbWay_0 : decode cX9_climbWay 0 = .ok (.aload_n 1, 1) := by decide +kernel
theorem dX9_climbWay_1 : decode cX9_climbWay 1 = .ok (.bipush 7, 2) := by decide +kernel
theorem dX9_climbWay_3 : decode cX9_climbWay 3 = .ok (.iconst 2, 1) := by decide +kernel
theorem dX9_climbWay_4 : decode cX9_climbWay 4 = .ok (.invokevirtual 9, 3) := by decide +kernel
theorem dX9_climbWay_7 : decode cX9_climbWay 7 = .ok (.aload_n 0, 1) := by decide +kernel
theorem dX9_climbWay_8 : decode cX9_climbWay 8 = .ok (.aload_n 1, 1) := by decide +kernel
theorem dX9_climbWay_9 : decode cX9_climbWay 9 = .ok (.aload_n 2, 1) := by decide +kernel
theorem dX9_climbWay_10 : decode cX9_climbWay 10 = .ok (.iload_n 3, 1) := by decide +kernel
theorem dX9_climbWay_11 : decode cX9_climbWay 11 = .ok (.iconst 2, 1) := by decide +kernel
theorem dX9_climbWay_12 : decode cX9_climbWay 12 = .ok (.idiv, 1) := by decide +kernel
theorem dX9_climbWay_13 : decode cX9_climbWay 13 = .ok (.invokespecial 34, 3) := by decide +kernel
theorem dX9_climbWay_16 : decode cX9_climbWay 16 = .ok (.ireturn, 1) := by decide +kernel
theorem dX10_init_0 : decode cX10_init 0 = .ok (.aload_n 0, 1) := by decide +kernel
theorem dX10_init_1 : decode cX10_init 1 = .ok (.invokespecial 3, 3) := by decide +kernel
theorem dX10_init_4 : decode cX10_init 4 = .ok (.return_, 1) := by decide +kernel
theorem dX10_toilWay_0 : decode cX10_toilWay 0 = .ok (.aload_n 1, 1) := by decide +kernel
theorem dX10_toilWay_1 : decode cX10_toilWay 1 = .ok (.iconst 2, 1) := by decide +kernel
theorem dX10_toilWay_2 : decode cX10_toilWay 2 = .ok (.iconst 0, 1) := by decide +kernel
theorem dX10_toilWay_3 : decode cX10_toilWay 3 = .ok (.invokevirtual 9, 3) := by decide +kernel
theorem dX10_toilWay_6 : decode cX10_toilWay 6 = .ok (.aload_n 2, 1) := by decide +kernel
theorem dX10_toilWay_7 : decode cX10_toilWay 7 = .ok (.getfield 15, 3) := by decide +kernel
theorem dX10_toilWay_10 : decode cX10_toilWay 10 = .ok (.sipush 500, 3) := by decide +kernel
theorem dX10_toilWay_13 : decode cX10_toilWay 13 = .ok (.if_icmp .le 5, 3) := by decide +kernel
theorem dX10_toilWay_16 : decode cX10_toilWay 16 = .ok (.lconst 0, 1) := by decide +kernel
theorem dX10_toilWay_17 : decode cX10_toilWay 17 = .ok (.lreturn, 1) := by decide +kernel
theorem dX10_toilWay_18 : decode cX10_toilWay 18 = .ok (.aload_n 0, 1) := by decide +kernel
theorem dX10_toilWay_19 : decode cX10_toilWay 19 = .ok (.aload_n 1, 1) := by decide +kernel
theorem dX10_toilWay_20 : decode cX10_toilWay 20 = .ok (.aload_n 2, 1) := by decide +kernel
theorem dX10_toilWay_21 : decode cX10_toilWay 21 = .ok (.iload_n 3, 1) := by decide +kernel
theorem dX10_toilWay_22 : decode cX10_toilWay 22 = .ok (.invokespecial 21, 3) := by decide +kernel
theorem dX10_toilWay_25 : decode cX10_toilWay 25 = .ok (.ldc2_w 25, 3) := by decide +kernel
theorem dX10_toilWay_28 : decode cX10_toilWay 28 = .ok (.iload_n 3, 1) := by decide +kernel
theorem dX10_toilWay_29 : decode cX10_toilWay 29 = .ok (.i2l, 1) := by decide +kernel
theorem dX10_toilWay_30 : decode cX10_toilWay 30 = .ok (.lmul, 1) := by decide +kernel
theorem dX10_toilWay_31 : decode cX10_toilWay 31 = .ok (.ladd, 1) := by decide +kernel
theorem dX10_toilWay_32 : decode cX10_toilWay 32 = .ok (.lreturn, 1) := by decide +kernel
theorem dX10_heedWay_0 : decode cX10_heedWay 0 = .ok (.aload_n 1, 1) := by decide +kernel
theorem dX10_heedWay_1 : decode cX10_heedWay 1 = .ok (.iconst 2, 1) := by decide +kernel
theorem dX10_heedWay_2 : decode cX10_heedWay 2 = .ok (.iconst 3, 1) := by decide +kernel
theorem dX10_heedWay_3 : decode cX10_heedWay 3 = .ok (.invokevirtual 9, 3) := by decide +kernel
theorem dX10_heedWay_6 : decode cX10_heedWay 6 = .ok (.iload_n 3, 1) := by decide +kernel
theorem dX10_heedWay_7 : decode cX10_heedWay 7 = .ok (.iconst 2, 1) := by decide +kernel
theorem dX10_heedWay_8 : decode cX10_heedWay 8 = .ok (.irem, 1) := by decide +kernel
theorem dX10_heedWay_9 : decode cX10_heedWay 9 = .ok (.ifCond .eq 5, 3) := by decide +kernel
theorem dX10_heedWay_12 : decode cX10_heedWay 12 = .ok (.iload_n 3, 1) := by decide +kernel
theorem dX10_heedWay_13 : decode cX10_heedWay 13 = .ok (.ireturn, 1) := by decide +kernel
theorem dX10_heedWay_14 : decode cX10_heedWay 14 = .ok (.aload_n 0, 1) := by decide +kernel
theorem dX10_heedWay_15 : decode cX10_heedWay 15 = .ok (.aload_n 1, 1) := by decide +kernel
theorem dX10_heedWay_16 : decode cX10_heedWay 16 = .ok (.aload_n 2, 1) := by decide +kernel
theorem dX10_heedWay_17 : decode cX10_heedWay 17 = .ok (.iload_n 3, 1) := by decide +kernel
theorem dX10_heedWay_18 : decode cX10_heedWay 18 = .ok (.invokespecial 27, 3) := by decide +kernel
theorem dX10_heedWay_21 : decode cX10_heedWay 21 = .ok (.sipush 1000, 3) := by decide +kernel
theorem dX10_heedWay_24 : decode cX10_heedWay 24 = .ok (.iadd, 1) := by decide +kernel
theorem dX10_heedWay_25 : decode cX10_heedWay 25 = .ok (.ireturn, 1) := by decide +kernel
end
section
theorem dX11_init_0 : decode cX11_init 0 = .ok (.aload_n 0, 1) := by decide +kernel
theorem dX11_init_1 : decode cX11_init 1 = .ok (.invokespecial 1, 3) := by decide +kernel
theorem dX11_init_4 : decode cX11_init 4 = .ok (.aload_n 0, 1) := by decide +kernel
theorem dX11_init_5 : decode cX11_init 5 = .ok (.new 7, 3) := by decide +kernel
theorem dX11_init_8 : decode cX11_init 8 = .ok (.dup, 1) := by decide +kernel
theorem dX11_init_9 : decode cX11_init 9 = .ok (.invokespecial 9, 3) := by decide +kernel
theorem dX11_init_12 : decode cX11_init 12 = .ok (.putfield 10, 3) := by decide +kernel
theorem dX11_init_15 : decode cX11_init 15 = .ok (.aload_n 0, 1) := by decide +kernel
theorem dX11_init_16 : decode cX11_init 16 = .ok (.bipush 8, 2) := by decide +kernel
theorem dX11_init_18 : decode cX11_init 18 = .ok (.anewarray 16, 3) := by decide +kernel
theorem dX11_init_21 : decode cX11_init 21 = .ok (.dup, 1) := by decide +kernel
theorem dX11_init_22 : decode cX11_init 22 = .ok (.iconst 0, 1) := by decide +kernel
theorem dX11_init_23 : decode cX11_init 23 = .ok (.new 18, 3) := by decide +kernel
theorem dX11_init_26 : decode cX11_init 26 = .ok (.dup, 1) := by decide +kernel
theorem dX11_init_27 : decode cX11_init 27 = .ok (.invokespecial 20, 3) := by decide +kernel
theorem dX11_init_30 : decode cX11_init 30 = .ok (.aastore, 1) := by decide +kernel
theorem dX11_init_31 : decode cX11_init 31 = .ok (.dup, 1) := by decide +kernel
theorem dX11_init_32 : decode cX11_init 32 = .ok (.iconst 1, 1) := by decide +kernel
theorem dX11_init_33 : decode cX11_init 33 = .ok (.new 21, 3) := by decide +kernel
theorem dX11_init_36 : decode cX11_init 36 = .ok (.dup, 1) := by decide +kernel
theorem dX11_init_37 : decode cX11_init 37 = .ok (.invokespecial 23, 3) := by decide +kernel
theorem dX11_init_40 : decode cX11_init 40 = .ok (.aastore, 1) := by decide +kernel
theorem dX11_init_41 : decode cX11_init 41 = .ok (.dup, 1) := by decide +kernel
theorem dX11_init_42 : decode cX11_init 42 = .ok (.iconst 2, 1) := by decide +kernel
theorem dX11_init_43 : decode cX11_init 43 = .ok (.new 24, 3) := by decide +kernel
theorem dX11_init_46 : decode cX11_init 46 = .ok (.dup, 1) := by decide +kernel
theorem dX11_init_47 : decode cX11_init 47 = .ok (.invokespecial 26, 3) := by decide +kernel
theorem dX11_init_50 : decode cX11_init 50 = .ok (.aastore, 1) := by decide +kernel
theorem dX11_init_51 : decode cX11_init 51 = .ok (.dup, 1) := by decide +kernel
theorem dX11_init_52 : decode cX11_init 52 = .ok (.iconst 3, 1) := by decide +kernel
theorem dX11_init_53 : decode cX11_init 53 = .ok (.new 27, 3) := by decide +kernel
theorem dX11_init_56 : decode cX11_init 56 = .ok (.dup, 1) := by decide +kernel
theorem dX11_init_57 : decode cX11_init 57 = .ok (.invokespecial 29, 3) := by decide +kernel
theorem dX11_init_60 : decode cX11_init 60 = .ok (.aastore, 1) := by decide +kernel
theorem dX11_init_61 : decode cX11_init 61 = .ok (.dup, 1) := by decide +kernel
theorem dX11_init_62 : decode cX11_init 62 = .ok (.iconst 4, 1) := by decide +kernel
theorem dX11_init_63 : decode cX11_init 63 = .ok (.new 30, 3) := by decide +kernel
theorem dX11_init_66 : decode cX11_init 66 = .ok (.dup, 1) := by decide +kernel
theorem dX11_init_67 : decode cX11_init 67 = .ok (.invokespecial 32, 3) := by decide +kernel
theorem dX11_init_70 : decode cX11_init 70 = .ok (.aastore, 1) := by decide +kernel
theorem dX11_init_71 : decode cX11_init 71 = .ok (.dup, 1) := by decide +kernel
theorem dX11_init_72 : decode cX11_init 72 = .ok (.iconst 5, 1) := by decide +kernel
theorem dX11_init_73 : decode cX11_init 73 = .ok (.new 33, 3) := by decide +kernel
theorem dX11_init_76 : decode cX11_init 76 = .ok (.dup, 1) := by decide +kernel
theorem dX11_init_77 : decode cX11_init 77 = .ok (.invokespecial 35, 3) := by decide +kernel
theorem dX11_init_80 : decode cX11_init 80 = .ok (.aastore, 1) := by decide +kernel
theorem dX11_init_81 : decode cX11_init 81 = .ok (.dup, 1) := by decide +kernel
theorem dX11_init_82 : decode cX11_init 82 = .ok (.bipush 6, 2) := by decide +kernel
theorem dX11_init_84 : decode cX11_init 84 = .ok (.new 36, 3) := by decide +kernel
theorem dX11_init_87 : decode cX11_init 87 = .ok (.dup, 1) := by decide +kernel
theorem dX11_init_88 : decode cX11_init 88 = .ok (.invokespecial 38, 3) := by decide +kernel
theorem dX11_init_91 : decode cX11_init 91 = .ok (.aastore, 1) := by decide +kernel
theorem dX11_init_92 : decode cX11_init 92 = .ok (.dup, 1) := by decide +kernel
theorem dX11_init_93 : decode cX11_init 93 = .ok (.bipush 7, 2) := by decide +kernel
theorem dX11_init_95 : decode cX11_init 95 = .ok (.new 39, 3) := by decide +kernel
theorem dX11_init_98 : decode cX11_init 98 = .ok (.dup, 1) := by decide +kernel
theorem dX11_init_99 : decode cX11_init 99 = .ok (.invokespecial 41, 3) := by decide +kernel
theorem dX11_init_102 : decode cX11_init 102 = .ok (.aastore, 1) := by decide +kernel
theorem dX11_init_103 : decode cX11_init 103 = .ok (.putfield 42, 3) := by decide +kernel
theorem dX11_init_106 : decode cX11_init 106 = .ok (.aload_n 0, 1) := by decide +kernel
theorem dX11_init_107 : decode cX11_init 107 = .ok (.bipush 8, 2) := by decide +kernel
theorem dX11_init_109 : decode cX11_init 109 = .ok (.newarray .int, 2) := by decide +kernel
theorem dX11_init_111 : decode cX11_init 111 = .ok (.putfield 46, 3) := by decide +kernel
theorem dX11_init_114 : decode cX11_init 114 = .ok (.aload_n 0, 1) := by decide +kernel
theorem dX11_init_115 : decode cX11_init 115 = .ok (.bipush 8, 2) := by decide +kernel
theorem dX11_init_117 : decode cX11_init 117 = .ok (.newarray .int, 2) := by decide +kernel
theorem dX11_init_119 : decode cX11_init 119 = .ok (.putfield 50, 3) := by decide +kernel
theorem dX11_init_122 : decode cX11_init 122 = .ok (.aload_n 0, 1) := by decide +kernel
theorem dX11_init_123 : decode cX11_init 123 = .ok (.bipush 8, 2) := by decide +kernel
theorem dX11_init_125 : decode cX11_init 125 = .ok (.newarray .int, 2) := by decide +kernel
theorem dX11_init_127 : decode cX11_init 127 = .ok (.putfield 53, 3) := by decide +kernel
theorem dX11_init_130 : decode cX11_init 130 = .ok (.aload_n 0, 1) := by decide +kernel
theorem dX11_init_131 : decode cX11_init 131 = .ok (.bipush 8, 2) := by decide +kernel
theorem dX11_init_133 : decode cX11_init 133 = .ok (.newarray .int, 2) := by decide +kernel
theorem dX11_init_135 : decode cX11_init 135 = .ok (.putfield 56, 3) := by decide +kernel
theorem dX11_init_138 : decode cX11_init 138 = .ok (.iconst 0, 1) := by decide +kernel
theorem dX11_init_139 : decode cX11_init 139 = .ok (.istore_n 1, 1) := by decide +kernel
theorem dX11_init_140 : decode cX11_init 140 = .ok (.iload_n 1, 1) := by decide +kernel
theorem dX11_init_141 : decode cX11_init 141 = .ok (.bipush 8, 2) := by decide +kernel
theorem dX11_init_143 : decode cX11_init 143 = .ok (.if_icmp .ge 16, 3) := by decide +kernel
theorem dX11_init_146 : decode cX11_init 146 = .ok (.aload_n 0, 1) := by decide +kernel
theorem dX11_init_147 : decode cX11_init 147 = .ok (.getfield 46, 3) := by decide +kernel
theorem dX11_init_150 : decode cX11_init 150 = .ok (.iload_n 1, 1) := by decide +kernel
theorem dX11_init_151 : decode cX11_init 151 = .ok (.iconst (-1), 1) := by decide +kernel
theorem dX11_init_152 : decode cX11_init 152 = .ok (.iastore, 1) := by decide +kernel
theorem dX11_init_153 : decode cX11_init 153 = .ok (.iinc 1 1, 3) := by decide +kernel
theorem dX11_init_156 : decode cX11_init 156 = .ok (.goto (-16), 3) := by decide +kernel
theorem dX11_init_159 : decode cX11_init 159 = .ok (.return_, 1) := by decide +kernel
theorem dX11_enlist_0 : decode cX11_enlist 0 = .ok (.iload_n 1, 1) := by decide +kernel
theorem dX11_enlist_1 : decode cX11_enlist 1 = .ok (.invokestatic 59, 3) := by decide +kernel
theorem dX11_enlist_4 : decode cX11_enlist 4 = .ok (.ifCond .eq 25, 3) := by decide +kernel
theorem dX11_enlist_7 : decode cX11_enlist 7 = .ok (.iload_n 2, 1) := by decide +kernel
theorem dX11_enlist_8 : decode cX11_enlist 8 = .ok (.ifCond .lt 21, 3) := by decide +kernel
theorem dX11_enlist_11 : decode cX11_enlist 11 = .ok (.iload_n 2, 1) := by decide +kernel
theorem dX11_enlist_12 : decode cX11_enlist 12 = .ok (.bipush 99, 2) := by decide +kernel
theorem dX11_enlist_14 : decode cX11_enlist 14 = .ok (.if_icmp .gt 15, 3) := by decide +kernel
theorem dX11_enlist_17 : decode cX11_enlist 17 = .ok (.aload_n 0, 1) := by decide +kernel
theorem dX11_enlist_18 : decode cX11_enlist 18 = .ok (.getfield 10, 3) := by decide +kernel
theorem dX11_enlist_21 : decode cX11_enlist 21 = .ok (.getfield 63, 3) := by decide +kernel
theorem dX11_enlist_24 : decode cX11_enlist 24 = .ok (.bipush 12, 2) := by decide +kernel
theorem dX11_enlist_26 : decode cX11_enlist 26 = .ok (.if_icmp .lt 6, 3) := by decide +kernel
theorem dX11_enlist_29 : decode cX11_enlist 29 = .ok (.ldc 67, 2) := by decide +kernel
theorem dX11_enlist_31 : decode cX11_enlist 31 = .ok (.ireturn, 1) := by decide +kernel
theorem dX11_enlist_32 : decode cX11_enlist 32 = .ok (.aload_n 0, 1) := by decide +kernel
theorem dX11_enlist_33 : decode cX11_enlist 33 = .ok (.getfield 10, 3) := by decide +kernel
theorem dX11_enlist_36 : decode cX11_enlist 36 = .ok (.iload_n 2, 1) := by decide +kernel
theorem dX11_enlist_37 : decode cX11_enlist 37 = .ok (.iload_n 1, 1) := by decide +kernel
theorem dX11_enlist_38 : decode cX11_enlist 38 = .ok (.aload_n 0, 1) := by decide +kernel
theorem dX11_enlist_39 : decode cX11_enlist 39 = .ok (.getfield 42, 3) := by decide +kernel
theorem dX11_enlist_42 : decode cX11_enlist 42 = .ok (.iload_n 1, 1) := by decide +kernel
theorem dX11_enlist_43 : decode cX11_enlist 43 = .ok (.aaload, 1) := by decide +kernel
theorem dX11_enlist_44 : decode cX11_enlist 44 = .ok (.invokevirtual 68, 3) := by decide +kernel
theorem dX11_enlist_47 : decode cX11_enlist 47 = .ok (.ireturn, 1) := by decide +kernel
theorem dX11_promote_0 : decode cX11_promote 0 = .ok (.aload_n 0, 1) := by decide +kernel
theorem dX11_promote_1 : decode cX11_promote 1 = .ok (.getfield 10, 3) := by decide +kernel
theorem dX11_promote_4 : decode cX11_promote 4 = .ok (.iload_n 1, 1) := by decide +kernel
theorem dX11_promote_5 : decode cX11_promote 5 = .ok (.invokevirtual 72, 3) := by decide +kernel
theorem dX11_promote_8 : decode cX11_promote 8 = .ok (.astore_n 2, 1) := by decide +kernel
theorem dX11_promote_9 : decode cX11_promote 9 = .ok (.aload_n 2, 1) := by decide +kernel
theorem dX11_promote_10 : decode cX11_promote 10 = .ok (.ifnull 20, 3) := by decide +kernel
theorem dX11_promote_13 : decode cX11_promote 13 = .ok (.aload_n 2, 1) := by decide +kernel
theorem dX11_promote_14 : decode cX11_promote 14 = .ok (.getfield 76, 3) := by decide +kernel
theorem dX11_promote_17 : decode cX11_promote 17 = .ok (.iconst 5, 1) := by decide +kernel
theorem dX11_promote_18 : decode cX11_promote 18 = .ok (.if_icmp .eq 12, 3) := by decide +kernel
theorem dX11_promote_21 : decode cX11_promote 21 = .ok (.aload_n 2, 1) := by decide +kernel
theorem dX11_promote_22 : decode cX11_promote 22 = .ok (.getfield 76, 3) := by decide +kernel
theorem dX11_promote_25 : decode cX11_promote 25 = .ok (.bipush 7, 2) := by decide +kernel
theorem dX11_promote_27 : decode cX11_promote 27 = .ok (.if_icmp .ne 6, 3) := by decide +kernel
theorem dX11_promote_30 : decode cX11_promote 30 = .ok (.ldc 67, 2) := by decide +kernel
theorem dX11_promote_32 : decode cX11_promote 32 = .ok (.ireturn, 1) := by decide +kernel
theorem dX11_promote_33 : decode cX11_promote 33 = .ok (.aload_n 0, 1) := by decide +kernel
theorem dX11_promote_34 : decode cX11_promote 34 = .ok (.aload_n 2, 1) := by decide +kernel
theorem dX11_promote_35 : decode cX11_promote 35 = .ok (.aload_n 2, 1) := by decide +kernel
theorem dX11_promote_36 : decode cX11_promote 36 = .ok (.getfield 76, 3) := by decide +kernel
theorem dX11_promote_39 : decode cX11_promote 39 = .ok (.iconst 1, 1) := by decide +kernel
theorem dX11_promote_40 : decode cX11_promote 40 = .ok (.iadd, 1) := by decide +kernel
theorem dX11_promote_41 : decode cX11_promote 41 = .ok (.invokevirtual 81, 3) := by decide +kernel
theorem dX11_promote_44 : decode cX11_promote 44 = .ok (.ireturn, 1) := by decide +kernel
theorem dX11_demote_0 : decode cX11_demote 0 = .ok (.aload_n 0, 1) := by decide +kernel
theorem dX11_demote_1 : decode cX11_demote 1 = .ok (.getfield 10, 3) := by decide +kernel
theorem dX11_demote_4 : decode cX11_demote 4 = .ok (.iload_n 1, 1) := by decide +kernel
theorem dX11_demote_5 : decode cX11_demote 5 = .ok (.invokevirtual 72, 3) := by decide +kernel
theorem dX11_demote_8 : decode cX11_demote 8 = .ok (.astore_n 2, 1) := by decide +kernel
theorem dX11_demote_9 : decode cX11_demote 9 = .ok (.aload_n 2, 1) := by decide +kernel
theorem dX11_demote_10 : decode cX11_demote 10 = .ok (.ifnull 10, 3) := by decide +kernel
theorem dX11_demote_13 : decode cX11_demote 13 = .ok (.aload_n 2, 1) := by decide +kernel
theorem dX11_demote_14 : decode cX11_demote 14 = .ok (.getfield 76, 3) := by decide +kernel
theorem dX11_demote_17 : decode cX11_demote 17 = .ok (.ifCond .ne 6, 3) := by decide +kernel
theorem dX11_demote_20 : decode cX11_demote 20 = .ok (.ldc 67, 2) := by decide +kernel
theorem dX11_demote_22 : decode cX11_demote 22 = .ok (.ireturn, 1) := by decide +kernel
theorem dX11_demote_23 : decode cX11_demote 23 = .ok (.aload_n 0, 1) := by decide +kernel
theorem dX11_demote_24 : decode cX11_demote 24 = .ok (.aload_n 2, 1) := by decide +kernel
theorem dX11_demote_25 : decode cX11_demote 25 = .ok (.aload_n 2, 1) := by decide +kernel
theorem dX11_demote_26 : decode cX11_demote 26 = .ok (.getfield 76, 3) := by decide +kernel
theorem dX11_demote_29 : decode cX11_demote 29 = .ok (.bipush 6, 2) := by decide +kernel
theorem dX11_demote_31 : decode cX11_demote 31 = .ok (.if_icmp .ne 7, 3) := by decide +kernel
theorem dX11_demote_34 : decode cX11_demote 34 = .ok (.iconst 0, 1) := by decide +kernel
theorem dX11_demote_35 : decode cX11_demote 35 = .ok (.goto 9, 3) := by decide +kernel
theorem dX11_demote_38 : decode cX11_demote 38 = .ok (.aload_n 2, 1) := by decide +kernel
theorem dX11_demote_39 : decode cX11_demote 39 = .ok (.getfield 76, 3) := by decide +kernel
theorem dX11_demote_42 : decode cX11_demote 42 = .ok (.iconst 1, 1) := by decide +kernel
theorem dX11_demote_43 : decode cX11_demote 43 = .ok (.isub, 1) := by decide +kernel
theorem dX11_demote_44 : decode cX11_demote 44 = .ok (.invokevirtual 81, 3) := by decide +kernel
theorem dX11_demote_47 : decode cX11_demote 47 = .ok (.ireturn, 1) := by decide +kernel
theorem dX11_toil_0 : decode cX11_toil 0 = .ok (.aload_n 0, 1) := by decide +kernel
theorem dX11_toil_1 : decode cX11_toil 1 = .ok (.getfield 10, 3) := by decide +kernel
theorem dX11_toil_4 : decode cX11_toil 4 = .ok (.iload_n 1, 1) := by decide +kernel
theorem dX11_toil_5 : decode cX11_toil 5 = .ok (.invokevirtual 72, 3) := by decide +kernel
theorem dX11_toil_8 : decode cX11_toil 8 = .ok (.astore_n 3, 1) := by decide +kernel
theorem dX11_toil_9 : decode cX11_toil 9 = .ok (.aload_n 3, 1) := by decide +kernel
theorem dX11_toil_10 : decode cX11_toil 10 = .ok (.ifnull 11, 3) := by decide +kernel
theorem dX11_toil_13 : decode cX11_toil 13 = .ok (.iconst 0, 1) := by decide +kernel
theorem dX11_toil_14 : decode cX11_toil 14 = .ok (.iload_n 2, 1) := by decide +kernel
theorem dX11_toil_15 : decode cX11_toil 15 = .ok (.invokestatic 85, 3) := by decide +kernel
theorem dX11_toil_18 : decode cX11_toil 18 = .ok (.ifCond .eq 7, 3) := by decide +kernel
theorem dX11_toil_21 : decode cX11_toil 21 = .ok (.ldc2_w 89, 3) := by decide +kernel
theorem dX11_toil_24 : decode cX11_toil 24 = .ok (.lreturn, 1) := by decide +kernel
theorem dX11_toil_25 : decode cX11_toil 25 = .ok (.aload_n 0, 1) := by decide +kernel
theorem dX11_toil_26 : decode cX11_toil 26 = .ok (.getfield 10, 3) := by decide +kernel
theorem dX11_toil_29 : decode cX11_toil 29 = .ok (.invokevirtual 91, 3) := by decide +kernel
theorem dX11_toil_32 : decode cX11_toil 32 = .ok (.aload_n 3, 1) := by decide +kernel
theorem dX11_toil_33 : decode cX11_toil 33 = .ok (.getfield 94, 3) := by decide +kernel
theorem dX11_toil_36 : decode cX11_toil 36 = .ok (.aload_n 0, 1) := by decide +kernel
theorem dX11_toil_37 : decode cX11_toil 37 = .ok (.getfield 10, 3) := by decide +kernel
theorem dX11_toil_40 : decode cX11_toil 40 = .ok (.aload_n 3, 1) := by decide +kernel
theorem dX11_toil_41 : decode cX11_toil 41 = .ok (.iload_n 2, 1) := by decide +kernel
theorem dX11_toil_42 : decode cX11_toil 42 = .ok (.invokevirtual 98, 3) := by decide +kernel
theorem dX11_toil_45 : decode cX11_toil 45 = .ok (.lreturn, 1) := by decide +kernel
theorem dX11_pay_0 : decode cX11_pay 0 = .ok (.aload_n 0, 1) := by decide +kernel
theorem dX11_pay_1 : decode cX11_pay 1 = .ok (.getfield 10, 3) := by decide +kernel
theorem dX11_pay_4 : decode cX11_pay 4 = .ok (.iload_n 1, 1) := by decide +kernel
theorem dX11_pay_5 : decode cX11_pay 5 = .ok (.invokevirtual 72, 3) := by decide +kernel
theorem dX11_pay_8 : decode cX11_pay 8 = .ok (.astore_n 3, 1) := by decide +kernel
theorem dX11_pay_9 : decode cX11_pay 9 = .ok (.aload_n 3, 1) := by decide +kernel
theorem dX11_pay_10 : decode cX11_pay 10 = .ok (.ifnull 11, 3) := by decide +kernel
theorem dX11_pay_13 : decode cX11_pay 13 = .ok (.iconst 1, 1) := by decide +kernel
theorem dX11_pay_14 : decode cX11_pay 14 = .ok (.iload_n 2, 1) := by decide +kernel
theorem dX11_pay_15 : decode cX11_pay 15 = .ok (.invokestatic 85, 3) := by decide +kernel
theorem dX11_pay_18 : decode cX11_pay 18 = .ok (.ifCond .eq 7, 3) := by decide +kernel
theorem dX11_pay_21 : decode cX11_pay 21 = .ok (.ldc2_w 89, 3) := by decide +kernel
theorem dX11_pay_24 : decode cX11_pay 24 = .ok (.lreturn, 1) := by decide +kernel
theorem dX11_pay_25 : decode cX11_pay 25 = .ok (.aload_n 0, 1) := by decide +kernel
theorem dX11_pay_26 : decode cX11_pay 26 = .ok (.getfield 10, 3) := by decide +kernel
theorem dX11_pay_29 : decode cX11_pay 29 = .ok (.invokevirtual 91, 3) := by decide +kernel
theorem dX11_pay_32 : decode cX11_pay 32 = .ok (.aload_n 3, 1) := by decide +kernel
theorem dX11_pay_33 : decode cX11_pay 33 = .ok (.getfield 94, 3) := by decide +kernel
theorem dX11_pay_36 : decode cX11_pay 36 = .ok (.aload_n 0, 1) := by decide +kernel
theorem dX11_pay_37 : decode cX11_pay 37 = .ok (.getfield 10, 3) := by decide +kernel
theorem dX11_pay_40 : decode cX11_pay 40 = .ok (.aload_n 3, 1) := by decide +kernel
theorem dX11_pay_41 : decode cX11_pay 41 = .ok (.iload_n 2, 1) := by decide +kernel
theorem dX11_pay_42 : decode cX11_pay 42 = .ok (.invokevirtual 102, 3) := by decide +kernel
theorem dX11_pay_45 : decode cX11_pay 45 = .ok (.lstore 4, 2) := by decide +kernel
theorem dX11_pay_47 : decode cX11_pay 47 = .ok (.aload_n 3, 1) := by decide +kernel
theorem dX11_pay_48 : decode cX11_pay 48 = .ok (.dup, 1) := by decide +kernel
theorem dX11_pay_49 : decode cX11_pay 49 = .ok (.getfield 105, 3) := by decide +kernel
theorem dX11_pay_52 : decode cX11_pay 52 = .ok (.lload 4, 2) := by decide +kernel
theorem dX11_pay_54 : decode cX11_pay 54 = .ok (.ladd, 1) := by decide +kernel
theorem dX11_pay_55 : decode cX11_pay 55 = .ok (.putfield 105, 3) := by decide +kernel
theorem dX11_pay_58 : decode cX11_pay 58 = .ok (.lload 4, 2) := by decide +kernel
theorem dX11_pay_60 : decode cX11_pay 60 = .ok (.lreturn, 1) := by decide +kernel
theorem dX11_climb_0 : decode cX11_climb 0 = .ok (.aload_n 0, 1) := by decide +kernel
theorem dX11_climb_1 : decode cX11_climb 1 = .ok (.getfield 10, 3) := by decide +kernel
theorem dX11_climb_4 : decode cX11_climb 4 = .ok (.iload_n 1, 1) := by decide +kernel
theorem dX11_climb_5 : decode cX11_climb 5 = .ok (.invokevirtual 72, 3) := by decide +kernel
theorem dX11_climb_8 : decode cX11_climb 8 = .ok (.astore_n 3, 1) := by decide +kernel
theorem dX11_climb_9 : decode cX11_climb 9 = .ok (.aload_n 3, 1) := by decide +kernel
theorem dX11_climb_10 : decode cX11_climb 10 = .ok (.ifnull 11, 3) := by decide +kernel
theorem dX11_climb_13 : decode cX11_climb 13 = .ok (.iconst 2, 1) := by decide +kernel
theorem dX11_climb_14 : decode cX11_climb 14 = .ok (.iload_n 2, 1) := by decide +kernel
theorem dX11_climb_15 : decode cX11_climb 15 = .ok (.invokestatic 85, 3) := by decide +kernel
theorem dX11_climb_18 : decode cX11_climb 18 = .ok (.ifCond .eq 6, 3) := by decide +kernel
theorem dX11_climb_21 : decode cX11_climb 21 = .ok (.ldc 67, 2) := by decide +kernel
theorem dX11_climb_23 : decode cX11_climb 23 = .ok (.ireturn, 1) := by decide +kernel
theorem dX11_climb_24 : decode cX11_climb 24 = .ok (.aload_n 0, 1) := by decide +kernel
theorem dX11_climb_25 : decode cX11_climb 25 = .ok (.getfield 10, 3) := by decide +kernel
theorem dX11_climb_28 : decode cX11_climb 28 = .ok (.invokevirtual 91, 3) := by decide +kernel
theorem dX11_climb_31 : decode cX11_climb 31 = .ok (.aload_n 3, 1) := by decide +kernel
theorem dX11_climb_32 : decode cX11_climb 32 = .ok (.getfield 94, 3) := by decide +kernel
theorem dX11_climb_35 : decode cX11_climb 35 = .ok (.aload_n 0, 1) := by decide +kernel
theorem dX11_climb_36 : decode cX11_climb 36 = .ok (.getfield 10, 3) := by decide +kernel
theorem dX11_climb_39 : decode cX11_climb 39 = .ok (.aload_n 3, 1) := by decide +kernel
theorem dX11_climb_40 : decode cX11_climb 40 = .ok (.iload_n 2, 1) := by decide +kernel
theorem dX11_climb_41 : decode cX11_climb 41 = .ok (.invokevirtual 109, 3) := by decide +kernel
theorem dX11_climb_44 : decode cX11_climb 44 = .ok (.ireturn, 1) := by decide +kernel
theorem dX11_heed_0 : decode cX11_heed 0 = .ok (.aload_n 0, 1) := by decide +kernel
theorem dX11_heed_1 : decode cX11_heed 1 = .ok (.getfield 10, 3) := by decide +kernel
theorem dX11_heed_4 : decode cX11_heed 4 = .ok (.iload_n 1, 1) := by decide +kernel
theorem dX11_heed_5 : decode cX11_heed 5 = .ok (.invokevirtual 72, 3) := by decide +kernel
theorem dX11_heed_8 : decode cX11_heed 8 = .ok (.astore_n 3, 1) := by decide +kernel
theorem dX11_heed_9 : decode cX11_heed 9 = .ok (.aload_n 3, 1) := by decide +kernel
theorem dX11_heed_10 : decode cX11_heed 10 = .ok (.ifnull 11, 3) := by decide +kernel
theorem dX11_heed_13 : decode cX11_heed 13 = .ok (.iconst 3, 1) := by decide +kernel
theorem dX11_heed_14 : decode cX11_heed 14 = .ok (.iload_n 2, 1) := by decide +kernel
theorem dX11_heed_15 : decode cX11_heed 15 = .ok (.invokestatic 85, 3) := by decide +kernel
theorem dX11_heed_18 : decode cX11_heed 18 = .ok (.ifCond .eq 6, 3) := by decide +kernel
theorem dX11_heed_21 : decode cX11_heed 21 = .ok (.ldc 67, 2) := by decide +kernel
theorem dX11_heed_23 : decode cX11_heed 23 = .ok (.ireturn, 1) := by decide +kernel
theorem dX11_heed_24 : decode cX11_heed 24 = .ok (.aload_n 0, 1) := by decide +kernel
theorem dX11_heed_25 : decode cX11_heed 25 = .ok (.getfield 10, 3) := by decide +kernel
theorem dX11_heed_28 : decode cX11_heed 28 = .ok (.invokevirtual 91, 3) := by decide +kernel
theorem dX11_heed_31 : decode cX11_heed 31 = .ok (.aload_n 3, 1) := by decide +kernel
theorem dX11_heed_32 : decode cX11_heed 32 = .ok (.getfield 94, 3) := by decide +kernel
theorem dX11_heed_35 : decode cX11_heed 35 = .ok (.aload_n 0, 1) := by decide +kernel
theorem dX11_heed_36 : decode cX11_heed 36 = .ok (.getfield 10, 3) := by decide +kernel
theorem dX11_heed_39 : decode cX11_heed 39 = .ok (.aload_n 3, 1) := by decide +kernel
theorem dX11_heed_40 : decode cX11_heed 40 = .ok (.iload_n 2, 1) := by decide +kernel
theorem dX11_heed_41 : decode cX11_heed 41 = .ok (.invokevirtual 113, 3) := by decide +kernel
theorem dX11_heed_44 : decode cX11_heed 44 = .ok (.ireturn, 1) := by decide +kernel
theorem dX11_race_0 : decode cX11_race 0 = .ok (.aload_n 0, 1) := by decide +kernel
theorem dX11_race_1 : decode cX11_race 1 = .ok (.getfield 10, 3) := by decide +kernel
theorem dX11_race_4 : decode cX11_race 4 = .ok (.iload_n 1, 1) := by decide +kernel
theorem dX11_race_5 : decode cX11_race 5 = .ok (.invokevirtual 72, 3) := by decide +kernel
theorem dX11_race_8 : decode cX11_race 8 = .ok (.astore 4, 2) := by decide +kernel
theorem dX11_race_10 : decode cX11_race 10 = .ok (.aload 4, 2) := by decide +kernel
theorem dX11_race_12 : decode cX11_race 12 = .ok (.ifnull 26, 3) := by decide +kernel
theorem dX11_race_15 : decode cX11_race 15 = .ok (.aload 4, 2) := by decide +kernel
theorem dX11_race_17 : decode cX11_race 17 = .ok (.invokevirtual 116, 3) := by decide +kernel
theorem dX11_race_20 : decode cX11_race 20 = .ok (.ifCond .eq 18, 3) := by decide +kernel
theorem dX11_race_23 : decode cX11_race 23 = .ok (.iconst 2, 1) := by decide +kernel
theorem dX11_race_24 : decode cX11_race 24 = .ok (.iload_n 2, 1) := by decide +kernel
theorem dX11_race_25 : decode cX11_race 25 = .ok (.invokestatic 85, 3) := by decide +kernel
theorem dX11_race_28 : decode cX11_race 28 = .ok (.ifCond .ne 10, 3) := by decide +kernel
theorem dX11_race_31 : decode cX11_race 31 = .ok (.iload_n 3, 1) := by decide +kernel
theorem dX11_race_32 : decode cX11_race 32 = .ok (.invokestatic 120, 3) := by decide +kernel
theorem dX11_race_35 : decode cX11_race 35 = .ok (.ifCond .ne 6, 3) := by decide +kernel
theorem dX11_race_38 : decode cX11_race 38 = .ok (.ldc 67, 2) := by decide +kernel
theorem dX11_race_40 : decode cX11_race 40 = .ok (.ireturn, 1) := by decide +kernel
theorem dX11_race_41 : decode cX11_race 41 = .ok (.aload_n 0, 1) := by decide +kernel
theorem dX11_race_42 : decode cX11_race 42 = .ok (.getfield 10, 3) := by decide +kernel
theorem dX11_race_45 : decode cX11_race 45 = .ok (.invokevirtual 91, 3) := by decide +kernel
theorem dX11_race_48 : decode cX11_race 48 = .ok (.aload 4, 2) := by decide +kernel
theorem dX11_race_50 : decode cX11_race 50 = .ok (.getfield 94, 3) := by decide +kernel
theorem dX11_race_53 : decode cX11_race 53 = .ok (.aload_n 0, 1) := by decide +kernel
theorem dX11_race_54 : decode cX11_race 54 = .ok (.getfield 10, 3) := by decide +kernel
theorem dX11_race_57 : decode cX11_race 57 = .ok (.aload 4, 2) := by decide +kernel
theorem dX11_race_59 : decode cX11_race 59 = .ok (.iload_n 2, 1) := by decide +kernel
theorem dX11_race_60 : decode cX11_race 60 = .ok (.iload_n 3, 1) := by decide +kernel
theorem dX11_race_61 : decode cX11_race 61 = .ok (.invokevirtual 123, 3) := by decide +kernel
theorem dX11_race_64 : decode cX11_race 64 = .ok (.ireturn, 1) := by decide +kernel
theorem dX11_due_0 : decode cX11_due 0 = .ok (.aload_n 0, 1) := by decide +kernel
theorem dX11_due_1 : decode cX11_due 1 = .ok (.getfield 10, 3) := by decide +kernel
theorem dX11_due_4 : decode cX11_due 4 = .ok (.iload_n 1, 1) := by decide +kernel
theorem dX11_due_5 : decode cX11_due 5 = .ok (.invokevirtual 72, 3) := by decide +kernel
theorem dX11_due_8 : decode cX11_due 8 = .ok (.astore 4, 2) := by decide +kernel
theorem dX11_due_10 : decode cX11_due 10 = .ok (.aload 4, 2) := by decide +kernel
theorem dX11_due_12 : decode cX11_due 12 = .ok (.ifnull 23, 3) := by decide +kernel
theorem dX11_due_15 : decode cX11_due 15 = .ok (.aload 4, 2) := by decide +kernel
theorem dX11_due_17 : decode cX11_due 17 = .ok (.invokevirtual 127, 3) := by decide +kernel
theorem dX11_due_20 : decode cX11_due 20 = .ok (.ifCond .eq 15, 3) := by decide +kernel
theorem dX11_due_23 : decode cX11_due 23 = .ok (.iconst 1, 1) := by decide +kernel
theorem dX11_due_24 : decode cX11_due 24 = .ok (.iload_n 2, 1) := by decide +kernel
theorem dX11_due_25 : decode cX11_due 25 = .ok (.invokestatic 85, 3) := by decide +kernel
theorem dX11_due_28 : decode cX11_due 28 = .ok (.ifCond .ne 7, 3) := by decide +kernel
theorem dX11_due_31 : decode cX11_due 31 = .ok (.iload_n 3, 1) := by decide +kernel
theorem dX11_due_32 : decode cX11_due 32 = .ok (.ifCond .ge 7, 3) := by decide +kernel
theorem dX11_due_35 : decode cX11_due 35 = .ok (.ldc2_w 89, 3) := by decide +kernel
theorem dX11_due_38 : decode cX11_due 38 = .ok (.lreturn, 1) := by decide +kernel
theorem dX11_due_39 : decode cX11_due 39 = .ok (.aload_n 0, 1) := by decide +kernel
theorem dX11_due_40 : decode cX11_due 40 = .ok (.getfield 10, 3) := by decide +kernel
theorem dX11_due_43 : decode cX11_due 43 = .ok (.invokevirtual 91, 3) := by decide +kernel
theorem dX11_due_46 : decode cX11_due 46 = .ok (.aload 4, 2) := by decide +kernel
theorem dX11_due_48 : decode cX11_due 48 = .ok (.getfield 94, 3) := by decide +kernel
theorem dX11_due_51 : decode cX11_due 51 = .ok (.aload_n 0, 1) := by decide +kernel
theorem dX11_due_52 : decode cX11_due 52 = .ok (.getfield 10, 3) := by decide +kernel
theorem dX11_due_55 : decode cX11_due 55 = .ok (.aload 4, 2) := by decide +kernel
theorem dX11_due_57 : decode cX11_due 57 = .ok (.iload_n 2, 1) := by decide +kernel
theorem dX11_due_58 : decode cX11_due 58 = .ok (.invokevirtual 102, 3) := by decide +kernel
theorem dX11_due_61 : decode cX11_due 61 = .ok (.iload_n 3, 1) := by decide +kernel
theorem dX11_due_62 : decode cX11_due 62 = .ok (.i2l, 1) := by decide +kernel
theorem dX11_due_63 : decode cX11_due 63 = .ok (.lsub, 1) := by decide +kernel
theorem dX11_due_64 : decode cX11_due 64 = .ok (.lstore 5, 2) := by decide +kernel
theorem dX11_due_66 : decode cX11_due 66 = .ok (.lload 5, 2) := by decide +kernel
theorem dX11_due_68 : decode cX11_due 68 = .ok (.lconst 0, 1) := by decide +kernel
theorem dX11_due_69 : decode cX11_due 69 = .ok (.lcmp, 1) := by decide +kernel
theorem dX11_due_70 : decode cX11_due 70 = .ok (.ifCond .ge 7, 3) := by decide +kernel
theorem dX11_due_73 : decode cX11_due 73 = .ok (.lconst 0, 1) := by decide +kernel
theorem dX11_due_74 : decode cX11_due 74 = .ok (.goto 5, 3) := by decide +kernel
theorem dX11_due_77 : decode cX11_due 77 = .ok (.lload 5, 2) := by decide +kernel
theorem dX11_due_79 : decode cX11_due 79 = .ok (.lreturn, 1) := by decide +kernel
theorem dX11_feed_0 : decode cX11_feed 0 = .ok (.aload_n 0, 1) := by decide +kernel
theorem dX11_feed_1 : decode cX11_feed 1 = .ok (.getfield 10, 3) := by decide +kernel
theorem dX11_feed_4 : decode cX11_feed 4 = .ok (.iload_n 1, 1) := by decide +kernel
theorem dX11_feed_5 : decode cX11_feed 5 = .ok (.invokevirtual 72, 3) := by decide +kernel
theorem dX11_feed_8 : decode cX11_feed 8 = .ok (.astore_n 3, 1) := by decide +kernel
theorem dX11_feed_9 : decode cX11_feed 9 = .ok (.aload_n 3, 1) := by decide +kernel
theorem dX11_feed_10 : decode cX11_feed 10 = .ok (.ifnull 18, 3) := by decide +kernel
theorem dX11_feed_13 : decode cX11_feed 13 = .ok (.aload_n 3, 1) := by decide +kernel
theorem dX11_feed_14 : decode cX11_feed 14 = .ok (.invokevirtual 130, 3) := by decide +kernel
theorem dX11_feed_17 : decode cX11_feed 17 = .ok (.ifCond .eq 11, 3) := by decide +kernel
theorem dX11_feed_20 : decode cX11_feed 20 = .ok (.iconst 0, 1) := by decide +kernel
theorem dX11_feed_21 : decode cX11_feed 21 = .ok (.iload_n 2, 1) := by decide +kernel
theorem dX11_feed_22 : decode cX11_feed 22 = .ok (.invokestatic 85, 3) := by decide +kernel
theorem dX11_feed_25 : decode cX11_feed 25 = .ok (.ifCond .eq 6, 3) := by decide +kernel
theorem dX11_feed_28 : decode cX11_feed 28 = .ok (.ldc 67, 2) := by decide +kernel
theorem dX11_feed_30 : decode cX11_feed 30 = .ok (.ireturn, 1) := by decide +kernel
theorem dX11_feed_31 : decode cX11_feed 31 = .ok (.aload_n 0, 1) := by decide +kernel
theorem dX11_feed_32 : decode cX11_feed 32 = .ok (.getfield 10, 3) := by decide +kernel
theorem dX11_feed_35 : decode cX11_feed 35 = .ok (.invokevirtual 91, 3) := by decide +kernel
theorem dX11_feed_38 : decode cX11_feed 38 = .ok (.aload_n 3, 1) := by decide +kernel
theorem dX11_feed_39 : decode cX11_feed 39 = .ok (.getfield 94, 3) := by decide +kernel
theorem dX11_feed_42 : decode cX11_feed 42 = .ok (.aload_n 0, 1) := by decide +kernel
theorem dX11_feed_43 : decode cX11_feed 43 = .ok (.getfield 10, 3) := by decide +kernel
theorem dX11_feed_46 : decode cX11_feed 46 = .ok (.aload_n 3, 1) := by decide +kernel
theorem dX11_feed_47 : decode cX11_feed 47 = .ok (.iload_n 2, 1) := by decide +kernel
theorem dX11_feed_48 : decode cX11_feed 48 = .ok (.invokevirtual 98, 3) := by decide +kernel
theorem dX11_feed_51 : decode cX11_feed 51 = .ok (.ldc2_w 133, 3) := by decide +kernel
theorem dX11_feed_54 : decode cX11_feed 54 = .ok (.ldiv, 1) := by decide +kernel
theorem dX11_feed_55 : decode cX11_feed 55 = .ok (.l2i, 1) := by decide +kernel
theorem dX11_feed_56 : decode cX11_feed 56 = .ok (.istore 4, 2) := by decide +kernel
theorem dX11_feed_58 : decode cX11_feed 58 = .ok (.aload_n 0, 1) := by decide +kernel
theorem dX11_feed_59 : decode cX11_feed 59 = .ok (.getfield 10, 3) := by decide +kernel
theorem dX11_feed_62 : decode cX11_feed 62 = .ok (.getfield 135, 3) := by decide +kernel
theorem dX11_feed_65 : decode cX11_feed 65 = .ok (.astore 5, 2) := by decide +kernel
theorem dX11_feed_67 : decode cX11_feed 67 = .ok (.aload 5, 2) := by decide +kernel
theorem dX11_feed_69 : decode cX11_feed 69 = .ok (.ifnull 27, 3) := by decide +kernel
theorem dX11_feed_72 : decode cX11_feed 72 = .ok (.aload 5, 2) := by decide +kernel
theorem dX11_feed_74 : decode cX11_feed 74 = .ok (.aload_n 3, 1) := by decide +kernel
theorem dX11_feed_75 : decode cX11_feed 75 = .ok (.if_acmp .eq 11, 3) := by decide +kernel
theorem dX11_feed_78 : decode cX11_feed 78 = .ok (.aload 5, 2) := by decide +kernel
theorem dX11_feed_80 : decode cX11_feed 80 = .ok (.iload 4, 2) := by decide +kernel
theorem dX11_feed_82 : decode cX11_feed 82 = .ok (.ineg, 1) := by decide +kernel
theorem dX11_feed_83 : decode cX11_feed 83 = .ok (.invokevirtual 139, 3) := by decide +kernel
theorem dX11_feed_86 : decode cX11_feed 86 = .ok (.aload 5, 2) := by decide +kernel
theorem dX11_feed_88 : decode cX11_feed 88 = .ok (.getfield 143, 3) := by decide +kernel
theorem dX11_feed_91 : decode cX11_feed 91 = .ok (.astore 5, 2) := by decide +kernel
theorem dX11_feed_93 : decode cX11_feed 93 = .ok (.goto (-26), 3) := by decide +kernel
theorem dX11_feed_96 : decode cX11_feed 96 = .ok (.iload 4, 2) := by decide +kernel
theorem dX11_feed_98 : decode cX11_feed 98 = .ok (.ireturn, 1) := by decide +kernel
theorem dX11_watch_0 : decode cX11_watch 0 = .ok (.iload_n 1, 1) := by decide +kernel
theorem dX11_watch_1 : decode cX11_watch 1 = .ok (.invokestatic 146, 3) := by decide +kernel
theorem dX11_watch_4 : decode cX11_watch 4 = .ok (.ifCond .eq 11, 3) := by decide +kernel
theorem dX11_watch_7 : decode cX11_watch 7 = .ok (.iload_n 1, 1) := by decide +kernel
theorem dX11_watch_8 : decode cX11_watch 8 = .ok (.iload_n 2, 1) := by decide +kernel
theorem dX11_watch_9 : decode cX11_watch 9 = .ok (.invokestatic 85, 3) := by decide +kernel
theorem dX11_watch_12 : decode cX11_watch 12 = .ok (.ifCond .eq 7, 3) := by decide +kernel
theorem dX11_watch_15 : decode cX11_watch 15 = .ok (.ldc2_w 89, 3) := by decide +kernel
theorem dX11_watch_18 : decode cX11_watch 18 = .ok (.lreturn, 1) := by decide +kernel
theorem dX11_watch_19 : decode cX11_watch 19 = .ok (.aload_n 0, 1) := by decide +kernel
theorem dX11_watch_20 : decode cX11_watch 20 = .ok (.getfield 10, 3) := by decide +kernel
theorem dX11_watch_23 : decode cX11_watch 23 = .ok (.invokevirtual 91, 3) := by decide +kernel
theorem dX11_watch_26 : decode cX11_watch 26 = .ok (.lconst 0, 1) := by decide +kernel
theorem dX11_watch_27 : decode cX11_watch 27 = .ok (.lstore_n 3, 1) := by decide +kernel
theorem dX11_watch_28 : decode cX11_watch 28 = .ok (.aload_n 0, 1) := by decide +kernel
theorem dX11_watch_29 : decode cX11_watch 29 = .ok (.getfield 10, 3) := by decide +kernel
theorem dX11_watch_32 : decode cX11_watch 32 = .ok (.getfield 135, 3) := by decide +kernel
theorem dX11_watch_35 : decode cX11_watch 35 = .ok (.astore 5, 2) := by decide +kernel
theorem dX11_watch_37 : decode cX11_watch 37 = .ok (.aload 5, 2) := by decide +kernel
theorem dX11_watch_39 : decode cX11_watch 39 = .ok (.ifnull 24, 3) := by decide +kernel
theorem dX11_watch_42 : decode cX11_watch 42 = .ok (.lload_n 3, 1) := by decide +kernel
theorem dX11_watch_43 : decode cX11_watch 43 = .ok (.aload_n 0, 1) := by decide +kernel
theorem dX11_watch_44 : decode cX11_watch 44 = .ok (.aload 5, 2) := by decide +kernel
theorem dX11_watch_46 : decode cX11_watch 46 = .ok (.iload_n 1, 1) := by decide +kernel
theorem dX11_watch_47 : decode cX11_watch 47 = .ok (.iload_n 2, 1) := by decide +kernel
theorem dX11_watch_48 : decode cX11_watch 48 = .ok (.invokevirtual 149, 3) := by decide +kernel
theorem dX11_watch_51 : decode cX11_watch 51 = .ok (.ladd, 1) := by decide +kernel
theorem dX11_watch_52 : decode cX11_watch 52 = .ok (.lstore_n 3, 1) := by decide +kernel
theorem dX11_watch_53 : decode cX11_watch 53 = .ok (.aload 5, 2) := by decide +kernel
theorem dX11_watch_55 : decode cX11_watch 55 = .ok (.getfield 143, 3) := by decide +kernel
theorem dX11_watch_58 : decode cX11_watch 58 = .ok (.astore 5, 2) := by decide +kernel
theorem dX11_watch_60 : decode cX11_watch 60 = .ok (.goto (-23), 3) := by decide +kernel
theorem dX11_watch_63 : decode cX11_watch 63 = .ok (.lload_n 3, 1) := by decide +kernel
theorem dX11_watch_64 : decode cX11_watch 64 = .ok (.lreturn, 1) := by decide +kernel
theorem dX11_line_0 : decode cX11_line 0 = .ok (.iload_n 1, 1) := by decide +kernel
theorem dX11_line_1 : decode cX11_line 1 = .ok (.ifCond .lt 9, 3) := by decide +kernel
theorem dX11_line_4 : decode cX11_line 4 = .ok (.iload_n 1, 1) := by decide +kernel
theorem dX11_line_5 : decode cX11_line 5 = .ok (.bipush 8, 2) := by decide +kernel
theorem dX11_line_7 : decode cX11_line 7 = .ok (.if_icmp .lt 6, 3) := by decide +kernel
theorem dX11_line_10 : decode cX11_line 10 = .ok (.ldc 67, 2) := by decide +kernel
theorem dX11_line_12 : decode cX11_line 12 = .ok (.ireturn, 1) := by decide +kernel
theorem dX11_line_13 : decode cX11_line 13 = .ok (.iload_n 2, 1) := by decide +kernel
theorem dX11_line_14 : decode cX11_line 14 = .ok (.iconst (-1), 1) := by decide +kernel
theorem dX11_line_15 : decode cX11_line 15 = .ok (.if_icmp .ne 12, 3) := by decide +kernel
theorem dX11_line_18 : decode cX11_line 18 = .ok (.aload_n 0, 1) := by decide +kernel
theorem dX11_line_19 : decode cX11_line 19 = .ok (.getfield 46, 3) := by decide +kernel
theorem dX11_line_22 : decode cX11_line 22 = .ok (.iload_n 1, 1) := by decide +kernel
theorem dX11_line_23 : decode cX11_line 23 = .ok (.iconst (-1), 1) := by decide +kernel
theorem dX11_line_24 : decode cX11_line 24 = .ok (.iastore, 1) := by decide +kernel
theorem dX11_line_25 : decode cX11_line 25 = .ok (.iconst 1, 1) := by decide +kernel
theorem dX11_line_26 : decode cX11_line 26 = .ok (.ireturn, 1) := by decide +kernel
theorem dX11_line_27 : decode cX11_line 27 = .ok (.iload_n 2, 1) := by decide +kernel
theorem dX11_line_28 : decode cX11_line 28 = .ok (.invokestatic 146, 3) := by decide +kernel
theorem dX11_line_31 : decode cX11_line 31 = .ok (.ifCond .eq 34, 3) := by decide +kernel
theorem dX11_line_34 : decode cX11_line 34 = .ok (.iload_n 2, 1) := by decide +kernel
theorem dX11_line_35 : decode cX11_line 35 = .ok (.iload_n 3, 1) := by decide +kernel
theorem dX11_line_36 : decode cX11_line 36 = .ok (.invokestatic 85, 3) := by decide +kernel
theorem dX11_line_39 : decode cX11_line 39 = .ok (.ifCond .ne 26, 3) := by decide +kernel
theorem dX11_line_42 : decode cX11_line 42 = .ok (.iload 4, 2) := by decide +kernel
theorem dX11_line_44 : decode cX11_line 44 = .ok (.invokestatic 59, 3) := by decide +kernel
theorem dX11_line_47 : decode cX11_line 47 = .ok (.ifCond .eq 18, 3) := by decide +kernel
theorem dX11_line_50 : decode cX11_line 50 = .ok (.iload 5, 2) := by decide +kernel
theorem dX11_line_52 : decode cX11_line 52 = .ok (.invokestatic 59, 3) := by decide +kernel
theorem dX11_line_55 : decode cX11_line 55 = .ok (.ifCond .eq 10, 3) := by decide +kernel
theorem dX11_line_58 : decode cX11_line 58 = .ok (.iload 4, 2) := by decide +kernel
theorem dX11_line_60 : decode cX11_line 60 = .ok (.iload 5, 2) := by decide +kernel
theorem dX11_line_62 : decode cX11_line 62 = .ok (.if_icmp .le 6, 3) := by decide +kernel
theorem dX11_line_65 : decode cX11_line 65 = .ok (.ldc 67, 2) := by decide +kernel
theorem dX11_line_67 : decode cX11_line 67 = .ok (.ireturn, 1) := by decide +kernel
theorem dX11_line_68 : decode cX11_line 68 = .ok (.aload_n 0, 1) := by decide +kernel
theorem dX11_line_69 : decode cX11_line 69 = .ok (.getfield 46, 3) := by decide +kernel
theorem dX11_line_72 : decode cX11_line 72 = .ok (.iload_n 1, 1) := by decide +kernel
theorem dX11_line_73 : decode cX11_line 73 = .ok (.iload_n 2, 1) := by decide +kernel
theorem dX11_line_74 : decode cX11_line 74 = .ok (.iastore, 1) := by decide +kernel
theorem dX11_line_75 : decode cX11_line 75 = .ok (.aload_n 0, 1) := by decide +kernel
theorem dX11_line_76 : decode cX11_line 76 = .ok (.getfield 50, 3) := by decide +kernel
theorem dX11_line_79 : decode cX11_line 79 = .ok (.iload_n 1, 1) := by decide +kernel
theorem dX11_line_80 : decode cX11_line 80 = .ok (.iload_n 3, 1) := by decide +kernel
theorem dX11_line_81 : decode cX11_line 81 = .ok (.iastore, 1) := by decide +kernel
theorem dX11_line_82 : decode cX11_line 82 = .ok (.aload_n 0, 1) := by decide +kernel
theorem dX11_line_83 : decode cX11_line 83 = .ok (.getfield 53, 3) := by decide +kernel
theorem dX11_line_86 : decode cX11_line 86 = .ok (.iload_n 1, 1) := by decide +kernel
theorem dX11_line_87 : decode cX11_line 87 = .ok (.iload 4, 2) := by decide +kernel
theorem dX11_line_89 : decode cX11_line 89 = .ok (.iastore, 1) := by decide +kernel
theorem dX11_line_90 : decode cX11_line 90 = .ok (.aload_n 0, 1) := by decide +kernel
theorem dX11_line_91 : decode cX11_line 91 = .ok (.getfield 56, 3) := by decide +kernel
theorem dX11_line_94 : decode cX11_line 94 = .ok (.iload_n 1, 1) := by decide +kernel
theorem dX11_line_95 : decode cX11_line 95 = .ok (.iload 5, 2) := by decide +kernel
theorem dX11_line_97 : decode cX11_line 97 = .ok (.iastore, 1) := by decide +kernel
theorem dX11_line_98 : decode cX11_line 98 = .ok (.iconst 1, 1) := by decide +kernel
theorem dX11_line_99 : decode cX11_line 99 = .ok (.ireturn, 1) := by decide +kernel
theorem dX11_sail_0 : decode cX11_sail 0 = .ok (.iload_n 1, 1) := by decide +kernel
theorem dX11_sail_1 : decode cX11_sail 1 = .ok (.invokestatic 120, 3) := by decide +kernel
theorem dX11_sail_4 : decode cX11_sail 4 = .ok (.ifCond .ne 7, 3) := by decide +kernel
theorem dX11_sail_7 : decode cX11_sail 7 = .ok (.ldc2_w 89, 3) := by decide +kernel
theorem dX11_sail_10 : decode cX11_sail 10 = .ok (.lreturn, 1) := by decide +kernel
theorem dX11_sail_11 : decode cX11_sail 11 = .ok (.aload_n 0, 1) := by decide +kernel
theorem dX11_sail_12 : decode cX11_sail 12 = .ok (.getfield 10, 3) := by decide +kernel
theorem dX11_sail_15 : decode cX11_sail 15 = .ok (.invokevirtual 91, 3) := by decide +kernel
theorem dX11_sail_18 : decode cX11_sail 18 = .ok (.lconst 0, 1) := by decide +kernel
theorem dX11_sail_19 : decode cX11_sail 19 = .ok (.lstore_n 2, 1) := by decide +kernel
theorem dX11_sail_20 : decode cX11_sail 20 = .ok (.iconst 0, 1) := by decide +kernel
theorem dX11_sail_21 : decode cX11_sail 21 = .ok (.istore 4, 2) := by decide +kernel
theorem dX11_sail_23 : decode cX11_sail 23 = .ok (.iload 4, 2) := by decide +kernel
theorem dX11_sail_25 : decode cX11_sail 25 = .ok (.iload_n 1, 1) := by decide +kernel
theorem dX11_sail_26 : decode cX11_sail 26 = .ok (.if_icmp .ge 71, 3) := by decide +kernel
theorem dX11_sail_29 : decode cX11_sail 29 = .ok (.iconst 0, 1) := by decide +kernel
theorem dX11_sail_30 : decode cX11_sail 30 = .ok (.istore 5, 2) := by decide +kernel
theorem dX11_sail_32 : decode cX11_sail 32 = .ok (.iload 5, 2) := by decide +kernel
theorem dX11_sail_34 : decode cX11_sail 34 = .ok (.bipush 8, 2) := by decide +kernel
theorem dX11_sail_36 : decode cX11_sail 36 = .ok (.if_icmp .ge 55, 3) := by decide +kernel
theorem dX11_sail_39 : decode cX11_sail 39 = .ok (.aload_n 0, 1) := by decide +kernel
theorem dX11_sail_40 : decode cX11_sail 40 = .ok (.getfield 46, 3) := by decide +kernel
theorem dX11_sail_43 : decode cX11_sail 43 = .ok (.iload 5, 2) := by decide +kernel
theorem dX11_sail_45 : decode cX11_sail 45 = .ok (.iaload, 1) := by decide +kernel
theorem dX11_sail_46 : decode cX11_sail 46 = .ok (.iconst (-1), 1) := by decide +kernel
theorem dX11_sail_47 : decode cX11_sail 47 = .ok (.if_icmp .eq 38, 3) := by decide +kernel
theorem dX11_sail_50 : decode cX11_sail 50 = .ok (.lload_n 2, 1) := by decide +kernel
theorem dX11_sail_51 : decode cX11_sail 51 = .ok (.aload_n 0, 1) := by decide +kernel
theorem dX11_sail_52 : decode cX11_sail 52 = .ok (.aload_n 0, 1) := by decide +kernel
theorem dX11_sail_53 : decode cX11_sail 53 = .ok (.getfield 46, 3) := by decide +kernel
theorem dX11_sail_56 : decode cX11_sail 56 = .ok (.iload 5, 2) := by decide +kernel
theorem dX11_sail_58 : decode cX11_sail 58 = .ok (.iaload, 1) := by decide +kernel
theorem dX11_sail_59 : decode cX11_sail 59 = .ok (.aload_n 0, 1) := by decide +kernel
theorem dX11_sail_60 : decode cX11_sail 60 = .ok (.getfield 50, 3) := by decide +kernel
theorem dX11_sail_63 : decode cX11_sail 63 = .ok (.iload 5, 2) := by decide +kernel
theorem dX11_sail_65 : decode cX11_sail 65 = .ok (.iaload, 1) := by decide +kernel
theorem dX11_sail_66 : decode cX11_sail 66 = .ok (.aload_n 0, 1) := by decide +kernel
theorem dX11_sail_67 : decode cX11_sail 67 = .ok (.getfield 53, 3) := by decide +kernel
theorem dX11_sail_70 : decode cX11_sail 70 = .ok (.iload 5, 2) := by decide +kernel
theorem dX11_sail_72 : decode cX11_sail 72 = .ok (.iaload, 1) := by decide +kernel
theorem dX11_sail_73 : decode cX11_sail 73 = .ok (.aload_n 0, 1) := by decide +kernel
theorem dX11_sail_74 : decode cX11_sail 74 = .ok (.getfield 56, 3) := by decide +kernel
theorem dX11_sail_77 : decode cX11_sail 77 = .ok (.iload 5, 2) := by decide +kernel
theorem dX11_sail_79 : decode cX11_sail 79 = .ok (.iaload, 1) := by decide +kernel
theorem dX11_sail_80 : decode cX11_sail 80 = .ok (.invokevirtual 153, 3) := by decide +kernel
theorem dX11_sail_83 : decode cX11_sail 83 = .ok (.ladd, 1) := by decide +kernel
theorem dX11_sail_84 : decode cX11_sail 84 = .ok (.lstore_n 2, 1) := by decide +kernel
theorem dX11_sail_85 : decode cX11_sail 85 = .ok (.iinc 5 1, 3) := by decide +kernel
theorem dX11_sail_88 : decode cX11_sail 88 = .ok (.goto (-56), 3) := by decide +kernel
theorem dX11_sail_91 : decode cX11_sail 91 = .ok (.iinc 4 1, 3) := by decide +kernel
theorem dX11_sail_94 : decode cX11_sail 94 = .ok (.goto (-71), 3) := by decide +kernel
theorem dX11_sail_97 : decode cX11_sail 97 = .ok (.lload_n 2, 1) := by decide +kernel
theorem dX11_sail_98 : decode cX11_sail 98 = .ok (.lreturn, 1) := by decide +kernel
theorem dX11_rest_0 : decode cX11_rest 0 = .ok (.iload_n 1, 1) := by decide +kernel
theorem dX11_rest_1 : decode cX11_rest 1 = .ok (.ifCond .lt 10, 3) := by decide +kernel
theorem dX11_rest_4 : decode cX11_rest 4 = .ok (.iload_n 1, 1) := by decide +kernel
theorem dX11_rest_5 : decode cX11_rest 5 = .ok (.sipush 1000, 3) := by decide +kernel
theorem dX11_rest_8 : decode cX11_rest 8 = .ok (.if_icmp .le 6, 3) := by decide +kernel
theorem dX11_rest_11 : decode cX11_rest 11 = .ok (.ldc 67, 2) := by decide +kernel
theorem dX11_rest_13 : decode cX11_rest 13 = .ok (.ireturn, 1) := by decide +kernel
theorem dX11_rest_14 : decode cX11_rest 14 = .ok (.aload_n 0, 1) := by decide +kernel
theorem dX11_rest_15 : decode cX11_rest 15 = .ok (.getfield 10, 3) := by decide +kernel
theorem dX11_rest_18 : decode cX11_rest 18 = .ok (.getfield 135, 3) := by decide +kernel
theorem dX11_rest_21 : decode cX11_rest 21 = .ok (.astore_n 2, 1) := by decide +kernel
theorem dX11_rest_22 : decode cX11_rest 22 = .ok (.aload_n 2, 1) := by decide +kernel
theorem dX11_rest_23 : decode cX11_rest 23 = .ok (.ifnull 17, 3) := by decide +kernel
theorem dX11_rest_26 : decode cX11_rest 26 = .ok (.aload_n 2, 1) := by decide +kernel
theorem dX11_rest_27 : decode cX11_rest 27 = .ok (.iload_n 1, 1) := by decide +kernel
theorem dX11_rest_28 : decode cX11_rest 28 = .ok (.ineg, 1) := by decide +kernel
theorem dX11_rest_29 : decode cX11_rest 29 = .ok (.invokevirtual 139, 3) := by decide +kernel
theorem dX11_rest_32 : decode cX11_rest 32 = .ok (.aload_n 2, 1) := by decide +kernel
theorem dX11_rest_33 : decode cX11_rest 33 = .ok (.getfield 143, 3) := by decide +kernel
theorem dX11_rest_36 : decode cX11_rest 36 = .ok (.astore_n 2, 1) := by decide +kernel
theorem dX11_rest_37 : decode cX11_rest 37 = .ok (.goto (-15), 3) := by decide +kernel
theorem dX11_rest_40 : decode cX11_rest 40 = .ok (.aload_n 0, 1) := by decide +kernel
theorem dX11_rest_41 : decode cX11_rest 41 = .ok (.getfield 10, 3) := by decide +kernel
theorem dX11_rest_44 : decode cX11_rest 44 = .ok (.getfield 63, 3) := by decide +kernel
theorem dX11_rest_47 : decode cX11_rest 47 = .ok (.ireturn, 1) := by decide +kernel
theorem dX11_told_0 : decode cX11_told 0 = .ok (.aload_n 0, 1) := by decide +kernel
theorem dX11_told_1 : decode cX11_told 1 = .ok (.getfield 10, 3) := by decide +kernel
theorem dX11_told_4 : decode cX11_told 4 = .ok (.iload_n 1, 1) := by decide +kernel
theorem dX11_told_5 : decode cX11_told 5 = .ok (.invokevirtual 72, 3) := by decide +kernel
theorem dX11_told_8 : decode cX11_told 8 = .ok (.astore_n 3, 1) := by decide +kernel
theorem dX11_told_9 : decode cX11_told 9 = .ok (.aload_n 3, 1) := by decide +kernel
theorem dX11_told_10 : decode cX11_told 10 = .ok (.ifnonnull 7, 3) := by decide +kernel
theorem dX11_told_13 : decode cX11_told 13 = .ok (.ldc2_w 89, 3) := by decide +kernel
theorem dX11_told_16 : decode cX11_told 16 = .ok (.lreturn, 1) := by decide +kernel
theorem dX11_told_17 : decode cX11_told 17 = .ok (.iload_n 2, 1) := by decide +kernel
theorem dX11_told_18 : decode cX11_told 18 = .ok (.tableswitch 104 0 6 #[42, 48, 54, 60, 65, 78, 91], 42) := by decide +kernel
theorem dX11_told_60 : decode cX11_told 60 = .ok (.aload_n 3, 1) := by decide +kernel
theorem dX11_told_61 : decode cX11_told 61 = .ok (.getfield 76, 3) := by decide +kernel
theorem dX11_told_64 : decode cX11_told 64 = .ok (.i2l, 1) := by decide +kernel
theorem dX11_told_65 : decode cX11_told 65 = .ok (.lreturn, 1) := by decide +kernel
theorem dX11_told_66 : decode cX11_told 66 = .ok (.aload_n 3, 1) := by decide +kernel
theorem dX11_told_67 : decode cX11_told 67 = .ok (.getfield 157, 3) := by decide +kernel
theorem dX11_told_70 : decode cX11_told 70 = .ok (.i2l, 1) := by decide +kernel
theorem dX11_told_71 : decode cX11_told 71 = .ok (.lreturn, 1) := by decide +kernel
theorem dX11_told_72 : decode cX11_told 72 = .ok (.aload_n 3, 1) := by decide +kernel
theorem dX11_told_73 : decode cX11_told 73 = .ok (.getfield 160, 3) := by decide +kernel
theorem dX11_told_76 : decode cX11_told 76 = .ok (.i2l, 1) := by decide +kernel
theorem dX11_told_77 : decode cX11_told 77 = .ok (.lreturn, 1) := by decide +kernel
theorem dX11_told_78 : decode cX11_told 78 = .ok (.aload_n 3, 1) := by decide +kernel
theorem dX11_told_79 : decode cX11_told 79 = .ok (.getfield 105, 3) := by decide +kernel
theorem dX11_told_82 : decode cX11_told 82 = .ok (.lreturn, 1) := by decide +kernel
theorem dX11_told_83 : decode cX11_told 83 = .ok (.aload_n 3, 1) := by decide +kernel
theorem dX11_told_84 : decode cX11_told 84 = .ok (.invokevirtual 116, 3) := by decide +kernel
theorem dX11_told_87 : decode cX11_told 87 = .ok (.ifCond .eq 7, 3) := by decide +kernel
theorem dX11_told_90 : decode cX11_told 90 = .ok (.lconst 1, 1) := by decide +kernel
theorem dX11_told_91 : decode cX11_told 91 = .ok (.goto 4, 3) := by decide +kernel
theorem dX11_told_94 : decode cX11_told 94 = .ok (.lconst 0, 1) := by decide +kernel
theorem dX11_told_95 : decode cX11_told 95 = .ok (.lreturn, 1) := by decide +kernel
theorem dX11_told_96 : decode cX11_told 96 = .ok (.aload_n 3, 1) := by decide +kernel
theorem dX11_told_97 : decode cX11_told 97 = .ok (.invokevirtual 127, 3) := by decide +kernel
theorem dX11_told_100 : decode cX11_told 100 = .ok (.ifCond .eq 7, 3) := by decide +kernel
theorem dX11_told_103 : decode cX11_told 103 = .ok (.lconst 1, 1) := by decide +kernel
theorem dX11_told_104 : decode cX11_told 104 = .ok (.goto 4, 3) := by decide +kernel
theorem dX11_told_107 : decode cX11_told 107 = .ok (.lconst 0, 1) := by decide +kernel
theorem dX11_told_108 : decode cX11_told 108 = .ok (.lreturn, 1) := by decide +kernel
theorem dX11_told_109 : decode cX11_told 109 = .ok (.aload_n 3, 1) := by decide +kernel
theorem dX11_told_110 : decode cX11_told 110 = .ok (.invokevirtual 130, 3) := by decide +kernel
theorem dX11_told_113 : decode cX11_told 113 = .ok (.ifCond .eq 7, 3) := by decide +kernel
theorem dX11_told_116 : decode cX11_told 116 = .ok (.lconst 1, 1) := by decide +kernel
theorem dX11_told_117 : decode cX11_told 117 = .ok (.goto 4, 3) := by decide +kernel
theorem dX11_told_120 : decode cX11_told 120 = .ok (.lconst 0, 1) := by decide +kernel
theorem dX11_told_121 : decode cX11_told 121 = .ok (.lreturn, 1) := by decide +kernel
theorem dX11_told_122 : decode cX11_told 122 = .ok (.ldc2_w 89, 3) := by decide +kernel
theorem dX11_told_125 : decode cX11_told 125 = .ok (.lreturn, 1) := by decide +kernel
theorem dX11_note_0 : decode cX11_note 0 = .ok (.iload_n 1, 1) := by decide +kernel
theorem dX11_note_1 : decode cX11_note 1 = .ok (.ifCond .lt 20, 3) := by decide +kernel
theorem dX11_note_4 : decode cX11_note 4 = .ok (.iload_n 1, 1) := by decide +kernel
theorem dX11_note_5 : decode cX11_note 5 = .ok (.aload_n 0, 1) := by decide +kernel
theorem dX11_note_6 : decode cX11_note 6 = .ok (.getfield 10, 3) := by decide +kernel
theorem dX11_note_9 : decode cX11_note 9 = .ok (.getfield 163, 3) := by decide +kernel
theorem dX11_note_12 : decode cX11_note 12 = .ok (.if_icmp .ge 9, 3) := by decide +kernel
theorem dX11_note_15 : decode cX11_note 15 = .ok (.iload_n 1, 1) := by decide +kernel
theorem dX11_note_16 : decode cX11_note 16 = .ok (.bipush 64, 2) := by decide +kernel
theorem dX11_note_18 : decode cX11_note 18 = .ok (.if_icmp .lt 6, 3) := by decide +kernel
theorem dX11_note_21 : decode cX11_note 21 = .ok (.ldc 67, 2) := by decide +kernel
theorem dX11_note_23 : decode cX11_note 23 = .ok (.ireturn, 1) := by decide +kernel
theorem dX11_note_24 : decode cX11_note 24 = .ok (.aload_n 0, 1) := by decide +kernel
theorem dX11_note_25 : decode cX11_note 25 = .ok (.getfield 10, 3) := by decide +kernel
theorem dX11_note_28 : decode cX11_note 28 = .ok (.getfield 166, 3) := by decide +kernel
theorem dX11_note_31 : decode cX11_note 31 = .ok (.iload_n 1, 1) := by decide +kernel
theorem dX11_note_32 : decode cX11_note 32 = .ok (.iaload, 1) := by decide +kernel
theorem dX11_note_33 : decode cX11_note 33 = .ok (.ireturn, 1) := by decide +kernel
theorem dX11_notes_0 : decode cX11_notes 0 = .ok (.aload_n 0, 1) := by decide +kernel
theorem dX11_notes_1 : decode cX11_notes 1 = .ok (.getfield 10, 3) := by decide +kernel
theorem dX11_notes_4 : decode cX11_notes 4 = .ok (.getfield 163, 3) := by decide +kernel
theorem dX11_notes_7 : decode cX11_notes 7 = .ok (.ireturn, 1) := by decide +kernel
theorem dX11_giveRank_0 : decode cX11_giveRank 0 = .ok (.iload_n 2, 1) := by decide +kernel
theorem dX11_giveRank_1 : decode cX11_giveRank 1 = .ok (.invokestatic 59, 3) := by decide +kernel
theorem dX11_giveRank_4 : decode cX11_giveRank 4 = .ok (.ifCond .ne 6, 3) := by decide +kernel
theorem dX11_giveRank_7 : decode cX11_giveRank 7 = .ok (.ldc 67, 2) := by decide +kernel
theorem dX11_giveRank_9 : decode cX11_giveRank 9 = .ok (.ireturn, 1) := by decide +kernel
theorem dX11_giveRank_10 : decode cX11_giveRank 10 = .ok (.aload_n 1, 1) := by decide +kernel
theorem dX11_giveRank_11 : decode cX11_giveRank 11 = .ok (.iload_n 2, 1) := by decide +kernel
theorem dX11_giveRank_12 : decode cX11_giveRank 12 = .ok (.putfield 76, 3) := by decide +kernel
theorem dX11_giveRank_15 : decode cX11_giveRank 15 = .ok (.aload_n 1, 1) := by decide +kernel
theorem dX11_giveRank_16 : decode cX11_giveRank 16 = .ok (.aload_n 0, 1) := by decide +kernel
theorem dX11_giveRank_17 : decode cX11_giveRank 17 = .ok (.getfield 42, 3) := by decide +kernel
theorem dX11_giveRank_20 : decode cX11_giveRank 20 = .ok (.iload_n 2, 1) := by decide +kernel
theorem dX11_giveRank_21 : decode cX11_giveRank 21 = .ok (.aaload, 1) := by decide +kernel
theorem dX11_giveRank_22 : decode cX11_giveRank 22 = .ok (.putfield 94, 3) := by decide +kernel
theorem dX11_giveRank_25 : decode cX11_giveRank 25 = .ok (.iload_n 2, 1) := by decide +kernel
theorem dX11_giveRank_26 : decode cX11_giveRank 26 = .ok (.ireturn, 1) := by decide +kernel
theorem dX11_sailLine_0 : decode cX11_sailLine 0 = .ok (.lconst 0, 1) := by decide +kernel
theorem dX11_sailLine_1 : decode cX11_sailLine 1 = .ok (.lstore 5, 2) := by decide +kernel
theorem dX11_sailLine_3 : decode cX11_sailLine 3 = .ok (.aload_n 0, 1) := by decide +kernel
theorem dX11_sailLine_4 : decode cX11_sailLine 4 = .ok (.getfield 10, 3) := by decide +kernel
theorem dX11_sailLine_7 : decode cX11_sailLine 7 = .ok (.getfield 135, 3) := by decide +kernel
theorem dX11_sailLine_10 : decode cX11_sailLine 10 = .ok (.astore 7, 2) := by decide +kernel
theorem dX11_sailLine_12 : decode cX11_sailLine 12 = .ok (.aload 7, 2) := by decide +kernel
theorem dX11_sailLine_14 : decode cX11_sailLine 14 = .ok (.ifnull 66, 3) := by decide +kernel
theorem dX11_sailLine_17 : decode cX11_sailLine 17 = .ok (.aload 7, 2) := by decide +kernel
theorem dX11_sailLine_19 : decode cX11_sailLine 19 = .ok (.getfield 76, 3) := by decide +kernel
theorem dX11_sailLine_22 : decode cX11_sailLine 22 = .ok (.iload_n 3, 1) := by decide +kernel
theorem dX11_sailLine_23 : decode cX11_sailLine 23 = .ok (.if_icmp .lt 47, 3) := by decide +kernel
theorem dX11_sailLine_26 : decode cX11_sailLine 26 = .ok (.aload 7, 2) := by decide +kernel
theorem dX11_sailLine_28 : decode cX11_sailLine 28 = .ok (.getfield 76, 3) := by decide +kernel
theorem dX11_sailLine_31 : decode cX11_sailLine 31 = .ok (.iload 4, 2) := by decide +kernel
theorem dX11_sailLine_33 : decode cX11_sailLine 33 = .ok (.if_icmp .gt 37, 3) := by decide +kernel
theorem dX11_sailLine_36 : decode cX11_sailLine 36 = .ok (.aload_n 0, 1) := by decide +kernel
theorem dX11_sailLine_37 : decode cX11_sailLine 37 = .ok (.aload 7, 2) := by decide +kernel
theorem dX11_sailLine_39 : decode cX11_sailLine 39 = .ok (.iload_n 1, 1) := by decide +kernel
theorem dX11_sailLine_40 : decode cX11_sailLine 40 = .ok (.iload_n 2, 1) := by decide +kernel
theorem dX11_sailLine_41 : decode cX11_sailLine 41 = .ok (.invokevirtual 149, 3) := by decide +kernel
theorem dX11_sailLine_44 : decode cX11_sailLine 44 = .ok (.lstore 8, 2) := by decide +kernel
theorem dX11_sailLine_46 : decode cX11_sailLine 46 = .ok (.iload_n 1, 1) := by decide +kernel
theorem dX11_sailLine_47 : decode cX11_sailLine 47 = .ok (.iconst 1, 1) := by decide +kernel
theorem dX11_sailLine_48 : decode cX11_sailLine 48 = .ok (.if_icmp .ne 15, 3) := by decide +kernel
theorem dX11_sailLine_51 : decode cX11_sailLine 51 = .ok (.aload 7, 2) := by decide +kernel
theorem dX11_sailLine_53 : decode cX11_sailLine 53 = .ok (.dup, 1) := by decide +kernel
theorem dX11_sailLine_54 : decode cX11_sailLine 54 = .ok (.getfield 105, 3) := by decide +kernel
theorem dX11_sailLine_57 : decode cX11_sailLine 57 = .ok (.lload 8, 2) := by decide +kernel
theorem dX11_sailLine_59 : decode cX11_sailLine 59 = .ok (.ladd, 1) := by decide +kernel
theorem dX11_sailLine_60 : decode cX11_sailLine 60 = .ok (.putfield 105, 3) := by decide +kernel
theorem dX11_sailLine_63 : decode cX11_sailLine 63 = .ok (.lload 5, 2) := by decide +kernel
theorem dX11_sailLine_65 : decode cX11_sailLine 65 = .ok (.lload 8, 2) := by decide +kernel
theorem dX11_sailLine_67 : decode cX11_sailLine 67 = .ok (.ladd, 1) := by decide +kernel
theorem dX11_sailLine_68 : decode cX11_sailLine 68 = .ok (.lstore 5, 2) := by decide +kernel
theorem dX11_sailLine_70 : decode cX11_sailLine 70 = .ok (.aload 7, 2) := by decide +kernel
theorem dX11_sailLine_72 : decode cX11_sailLine 72 = .ok (.getfield 143, 3) := by decide +kernel
theorem dX11_sailLine_75 : decode cX11_sailLine 75 = .ok (.astore 7, 2) := by decide +kernel
theorem dX11_sailLine_77 : decode cX11_sailLine 77 = .ok (.goto (-65), 3) := by decide +kernel
theorem dX11_sailLine_80 : decode cX11_sailLine 80 = .ok (.lload 5, 2) := by decide +kernel
theorem dX11_sailLine_82 : decode cX11_sailLine 82 = .ok (.lreturn, 1) := by decide +kernel
theorem dX11_doDuty_0 : decode cX11_doDuty 0 = .ok (.iload_n 2, 1) := by decide +kernel
theorem dX11_doDuty_1 : decode cX11_doDuty 1 = .ok (.tableswitch 70 0 2 #[27, 41, 55], 27) := by decide +kernel
theorem dX11_doDuty_28 : decode cX11_doDuty 28 = .ok (.aload_n 1, 1) := by decide +kernel
theorem dX11_doDuty_29 : decode cX11_doDuty 29 = .ok (.getfield 94, 3) := by decide +kernel
theorem dX11_doDuty_32 : decode cX11_doDuty 32 = .ok (.aload_n 0, 1) := by decide +kernel
theorem dX11_doDuty_33 : decode cX11_doDuty 33 = .ok (.getfield 10, 3) := by decide +kernel
theorem dX11_doDuty_36 : decode cX11_doDuty 36 = .ok (.aload_n 1, 1) := by decide +kernel
theorem dX11_doDuty_37 : decode cX11_doDuty 37 = .ok (.iload_n 3, 1) := by decide +kernel
theorem dX11_doDuty_38 : decode cX11_doDuty 38 = .ok (.invokevirtual 98, 3) := by decide +kernel
theorem dX11_doDuty_41 : decode cX11_doDuty 41 = .ok (.lreturn, 1) := by decide +kernel
theorem dX11_doDuty_42 : decode cX11_doDuty 42 = .ok (.aload_n 1, 1) := by decide +kernel
theorem dX11_doDuty_43 : decode cX11_doDuty 43 = .ok (.getfield 94, 3) := by decide +kernel
theorem dX11_doDuty_46 : decode cX11_doDuty 46 = .ok (.aload_n 0, 1) := by decide +kernel
theorem dX11_doDuty_47 : decode cX11_doDuty 47 = .ok (.getfield 10, 3) := by decide +kernel
theorem dX11_doDuty_50 : decode cX11_doDuty 50 = .ok (.aload_n 1, 1) := by decide +kernel
theorem dX11_doDuty_51 : decode cX11_doDuty 51 = .ok (.iload_n 3, 1) := by decide +kernel
theorem dX11_doDuty_52 : decode cX11_doDuty 52 = .ok (.invokevirtual 102, 3) := by decide +kernel
theorem dX11_doDuty_55 : decode cX11_doDuty 55 = .ok (.lreturn, 1) := by decide +kernel
theorem dX11_doDuty_56 : decode cX11_doDuty 56 = .ok (.aload_n 1, 1) := by decide +kernel
theorem dX11_doDuty_57 : decode cX11_doDuty 57 = .ok (.getfield 94, 3) := by decide +kernel
theorem dX11_doDuty_60 : decode cX11_doDuty 60 = .ok (.aload_n 0, 1) := by decide +kernel
theorem dX11_doDuty_61 : decode cX11_doDuty 61 = .ok (.getfield 10, 3) := by decide +kernel
theorem dX11_doDuty_64 : decode cX11_doDuty 64 = .ok (.aload_n 1, 1) := by decide +kernel
theorem dX11_doDuty_65 : decode cX11_doDuty 65 = .ok (.iload_n 3, 1) := by decide +kernel
theorem dX11_doDuty_66 : decode cX11_doDuty 66 = .ok (.invokevirtual 109, 3) := by decide +kernel
theorem dX11_doDuty_69 : decode cX11_doDuty 69 = .ok (.i2l, 1) := by decide +kernel
theorem dX11_doDuty_70 : decode cX11_doDuty 70 = .ok (.lreturn, 1) := by decide +kernel
theorem dX11_doDuty_71 : decode cX11_doDuty 71 = .ok (.aload_n 1, 1) := by decide +kernel
theorem dX11_doDuty_72 : decode cX11_doDuty 72 = .ok (.getfield 94, 3) := by decide +kernel
theorem dX11_doDuty_75 : decode cX11_doDuty 75 = .ok (.aload_n 0, 1) := by decide +kernel
theorem dX11_doDuty_76 : decode cX11_doDuty 76 = .ok (.getfield 10, 3) := by decide +kernel
theorem dX11_doDuty_79 : decode cX11_doDuty 79 = .ok (.aload_n 1, 1) := by decide +kernel
theorem dX11_doDuty_80 : decode cX11_doDuty 80 = .ok (.iload_n 3, 1) := by decide +kernel
theorem dX11_doDuty_81 : decode cX11_doDuty 81 = .ok (.invokevirtual 113, 3) := by decide +kernel
theorem dX11_doDuty_84 : decode cX11_doDuty 84 = .ok (.i2l, 1) := by decide +kernel
theorem dX11_doDuty_85 : decode cX11_doDuty 85 = .ok (.lreturn, 1) := by decide +kernel
theorem dX11_isRank_0 : decode cX11_isRank 0 = .ok (.iload_n 0, 1) := by decide +kernel
theorem dX11_isRank_1 : decode cX11_isRank 1 = .ok (.ifCond .lt 13, 3) := by decide +kernel
theorem dX11_isRank_4 : decode cX11_isRank 4 = .ok (.iload_n 0, 1) := by decide +kernel
theorem dX11_isRank_5 : decode cX11_isRank 5 = .ok (.bipush 7, 2) := by decide +kernel
theorem dX11_isRank_7 : decode cX11_isRank 7 = .ok (.if_icmp .gt 7, 3) := by decide +kernel
theorem dX11_isRank_10 : decode cX11_isRank 10 = .ok (.iconst 1, 1) := by decide +kernel
theorem dX11_isRank_11 : decode cX11_isRank 11 = .ok (.goto 4, 3) := by decide +kernel
theorem dX11_isRank_14 : decode cX11_isRank 14 = .ok (.iconst 0, 1) := by decide +kernel
theorem dX11_isRank_15 : decode cX11_isRank 15 = .ok (.ireturn, 1) := by decide +kernel
theorem dX11_isDuty_0 : decode cX11_isDuty 0 = .ok (.iload_n 0, 1) := by decide +kernel
theorem dX11_isDuty_1 : decode cX11_isDuty 1 = .ok (.ifCond .lt 12, 3) := by decide +kernel
theorem dX11_isDuty_4 : decode cX11_isDuty 4 = .ok (.iload_n 0, 1) := by decide +kernel
theorem dX11_isDuty_5 : decode cX11_isDuty 5 = .ok (.iconst 3, 1) := by decide +kernel
theorem dX11_isDuty_6 : decode cX11_isDuty 6 = .ok (.if_icmp .gt 7, 3) := by decide +kernel
theorem dX11_isDuty_9 : decode cX11_isDuty 9 = .ok (.iconst 1, 1) := by decide +kernel
theorem dX11_isDuty_10 : decode cX11_isDuty 10 = .ok (.goto 4, 3) := by decide +kernel
theorem dX11_isDuty_13 : decode cX11_isDuty 13 = .ok (.iconst 0, 1) := by decide +kernel
theorem dX11_isDuty_14 : decode cX11_isDuty 14 = .ok (.ireturn, 1) := by decide +kernel
theorem dX11_isTimes_0 : decode cX11_isTimes 0 = .ok (.iload_n 0, 1) := by decide +kernel
theorem dX11_isTimes_1 : decode cX11_isTimes 1 = .ok (.ifCond .lt 13, 3) := by decide +kernel
theorem dX11_isTimes_4 : decode cX11_isTimes 4 = .ok (.iload_n 0, 1) := by decide +kernel
theorem dX11_isTimes_5 : decode cX11_isTimes 5 = .ok (.bipush 20, 2) := by decide +kernel
theorem dX11_isTimes_7 : decode cX11_isTimes 7 = .ok (.if_icmp .gt 7, 3) := by decide +kernel
theorem dX11_isTimes_10 : decode cX11_isTimes 10 = .ok (.iconst 1, 1) := by decide +kernel
theorem dX11_isTimes_11 : decode cX11_isTimes 11 = .ok (.goto 4, 3) := by decide +kernel
theorem dX11_isTimes_14 : decode cX11_isTimes 14 = .ok (.iconst 0, 1) := by decide +kernel
theorem dX11_isTimes_15 : decode cX11_isTimes 15 = .ok (.ireturn, 1) := by decide +kernel
theorem dX11_isBeyondBound_0 : decode cX11_isBeyondBound 0 = .ok (.iload_n 1, 1) := by decide +kernel
theorem dX11_isBeyondBound_1 : decode cX11_isBeyondBound 1 = .ok (.ifCond .lt 11, 3) := by decide +kernel
theorem dX11_isBeyondBound_4 : decode cX11_isBeyondBound 4 = .ok (.iload_n 1, 1) := by decide +kernel
theorem dX11_isBeyondBound_5 : decode cX11_isBeyondBound 5 = .ok (.iload_n 0, 1) := by decide +kernel
theorem dX11_isBeyondBound_6 : decode cX11_isBeyondBound 6 = .ok (.invokestatic 169, 3) := by decide +kernel
theorem dX11_isBeyondBound_9 : decode cX11_isBeyondBound 9 = .ok (.if_icmp .le 7, 3) := by decide +kernel
theorem dX11_isBeyondBound_12 : decode cX11_isBeyondBound 12 = .ok (.iconst 1, 1) := by decide +kernel
theorem dX11_isBeyondBound_13 : decode cX11_isBeyondBound 13 = .ok (.goto 4, 3) := by decide +kernel
theorem dX11_isBeyondBound_16 : decode cX11_isBeyondBound 16 = .ok (.iconst 0, 1) := by decide +kernel
theorem dX11_isBeyondBound_17 : decode cX11_isBeyondBound 17 = .ok (.ireturn, 1) := by decide +kernel
theorem dX11_boundOf_0 : decode cX11_boundOf 0 = .ok (.iload_n 0, 1) := by decide +kernel
theorem dX11_boundOf_1 : decode cX11_boundOf 1 = .ok (.tableswitch 38 0 2 #[27, 30, 34], 27) := by decide +kernel
theorem dX11_boundOf_28 : decode cX11_boundOf 28 = .ok (.bipush 100, 2) := by decide +kernel
theorem dX11_boundOf_30 : decode cX11_boundOf 30 = .ok (.ireturn, 1) := by decide +kernel
theorem dX11_boundOf_31 : decode cX11_boundOf 31 = .ok (.sipush 1000, 3) := by decide +kernel
theorem dX11_boundOf_34 : decode cX11_boundOf 34 = .ok (.ireturn, 1) := by decide +kernel
theorem dX11_boundOf_35 : decode cX11_boundOf 35 = .ok (.sipush 200, 3) := by decide +kernel
theorem dX11_boundOf_38 : decode cX11_boundOf 38 = .ok (.ireturn, 1) := by decide +kernel
theorem dX11_boundOf_39 : decode cX11_boundOf 39 = .ok (.sipush 9999, 3) := by decide +kernel
theorem dX11_boundOf_42 : decode cX11_boundOf 42 = .ok (.ireturn, 1) := by decide +kernel
end
section
theorem dX12_init_0 : decode cX12_init 0 = .ok (.aload_n 0, 1) := by decide +kernel
theorem dX12_init_1 : decode cX12_init 1 = .ok (.invokespecial 1, 3) := by decide +kernel
theorem dX12_init_4 : decode cX12_init 4 = .ok (.aload_n 0, 1) := by decide +kernel
theorem dX12_init_5 : decode cX12_init 5 = .ok (.bipush 12, 2) := by decide +kernel
theorem dX12_init_7 : decode cX12_init 7 = .ok (.newarray .int, 2) := by decide +kernel
theorem dX12_init_9 : decode cX12_init 9 = .ok (.putfield 7, 3) := by decide +kernel
theorem dX12_init_12 : decode cX12_init 12 = .ok (.aload_n 0, 1) := by decide +kernel
theorem dX12_init_13 : decode cX12_init 13 = .ok (.bipush 12, 2) := by decide +kernel
theorem dX12_init_15 : decode cX12_init 15 = .ok (.newarray .int, 2) := by decide +kernel
theorem dX12_init_17 : decode cX12_init 17 = .ok (.putfield 13, 3) := by decide +kernel
theorem dX12_init_20 : decode cX12_init 20 = .ok (.aload_n 0, 1) := by decide +kernel
theorem dX12_init_21 : decode cX12_init 21 = .ok (.bipush 12, 2) := by decide +kernel
theorem dX12_init_23 : decode cX12_init 23 = .ok (.newarray .int, 2) := by decide +kernel
theorem dX12_init_25 : decode cX12_init 25 = .ok (.putfield 16, 3) := by decide +kernel
theorem dX12_init_28 : decode cX12_init 28 = .ok (.aload_n 0, 1) := by decide +kernel
theorem dX12_init_29 : decode cX12_init 29 = .ok (.bipush 12, 2) := by decide +kernel
theorem dX12_init_31 : decode cX12_init 31 = .ok (.newarray .long, 2) := by decide +kernel
theorem dX12_init_33 : decode cX12_init 33 = .ok (.putfield 19, 3) := by decide +kernel
theorem dX12_init_36 : decode cX12_init 36 = .ok (.aload_n 0, 1) := by decide +kernel
theorem dX12_init_37 : decode cX12_init 37 = .ok (.bipush 8, 2) := by decide +kernel
theorem dX12_init_39 : decode cX12_init 39 = .ok (.newarray .int, 2) := by decide +kernel
theorem dX12_init_41 : decode cX12_init 41 = .ok (.putfield 23, 3) := by decide +kernel
theorem dX12_init_44 : decode cX12_init 44 = .ok (.aload_n 0, 1) := by decide +kernel
theorem dX12_init_45 : decode cX12_init 45 = .ok (.bipush 8, 2) := by decide +kernel
theorem dX12_init_47 : decode cX12_init 47 = .ok (.newarray .int, 2) := by decide +kernel
theorem dX12_init_49 : decode cX12_init 49 = .ok (.putfield 26, 3) := by decide +kernel
theorem dX12_init_52 : decode cX12_init 52 = .ok (.aload_n 0, 1) := by decide +kernel
theorem dX12_init_53 : decode cX12_init 53 = .ok (.bipush 8, 2) := by decide +kernel
theorem dX12_init_55 : decode cX12_init 55 = .ok (.newarray .int, 2) := by decide +kernel
theorem dX12_init_57 : decode cX12_init 57 = .ok (.putfield 29, 3) := by decide +kernel
theorem dX12_init_60 : decode cX12_init 60 = .ok (.aload_n 0, 1) := by decide +kernel
theorem dX12_init_61 : decode cX12_init 61 = .ok (.bipush 8, 2) := by decide +kernel
theorem dX12_init_63 : decode cX12_init 63 = .ok (.newarray .int, 2) := by decide +kernel
theorem dX12_init_65 : decode cX12_init 65 = .ok (.putfield 32, 3) := by decide +kernel
theorem dX12_init_68 : decode cX12_init 68 = .ok (.aload_n 0, 1) := by decide +kernel
theorem dX12_init_69 : decode cX12_init 69 = .ok (.bipush 64, 2) := by decide +kernel
theorem dX12_init_71 : decode cX12_init 71 = .ok (.newarray .int, 2) := by decide +kernel
theorem dX12_init_73 : decode cX12_init 73 = .ok (.putfield 35, 3) := by decide +kernel
theorem dX12_init_76 : decode cX12_init 76 = .ok (.iconst 0, 1) := by decide +kernel
theorem dX12_init_77 : decode cX12_init 77 = .ok (.istore_n 1, 1) := by decide +kernel
theorem dX12_init_78 : decode cX12_init 78 = .ok (.iload_n 1, 1) := by decide +kernel
theorem dX12_init_79 : decode cX12_init 79 = .ok (.bipush 8, 2) := by decide +kernel
theorem dX12_init_81 : decode cX12_init 81 = .ok (.if_icmp .ge 16, 3) := by decide +kernel
theorem dX12_init_84 : decode cX12_init 84 = .ok (.aload_n 0, 1) := by decide +kernel
theorem dX12_init_85 : decode cX12_init 85 = .ok (.getfield 23, 3) := by decide +kernel
theorem dX12_init_88 : decode cX12_init 88 = .ok (.iload_n 1, 1) := by decide +kernel
theorem dX12_init_89 : decode cX12_init 89 = .ok (.iconst (-1), 1) := by decide +kernel
theorem dX12_init_90 : decode cX12_init 90 = .ok (.iastore, 1) := by decide +kernel
theorem dX12_init_91 : decode cX12_init 91 = .ok (.iinc 1 1, 3) := by decide +kernel
theorem dX12_init_94 : decode cX12_init 94 = .ok (.goto (-16), 3) := by decide +kernel
theorem dX12_init_97 : decode cX12_init 97 = .ok (.return_, 1) := by decide +kernel
theorem dX12_elderOf_0 : decode cX12_elderOf 0 = .ok (.iload_n 0, 1) := by decide +kernel
theorem dX12_elderOf_1 : decode cX12_elderOf 1 = .ok (.lookupswitch 32 #[(0, 27), (6, 30)], 27) := by decide +kernel
theorem dX12_elderOf_28 : decode cX12_elderOf 28 = .ok (.bipush 8, 2) := by decide +kernel
theorem dX12_elderOf_30 : decode cX12_elderOf 30 = .ok (.ireturn, 1) := by decide +kernel
theorem dX12_elderOf_31 : decode cX12_elderOf 31 = .ok (.iconst 0, 1) := by decide +kernel
theorem dX12_elderOf_32 : decode cX12_elderOf 32 = .ok (.ireturn, 1) := by decide +kernel
theorem dX12_elderOf_33 : decode cX12_elderOf 33 = .ok (.iload_n 0, 1) := by decide +kernel
theorem dX12_elderOf_34 : decode cX12_elderOf 34 = .ok (.iconst 1, 1) := by decide +kernel
theorem dX12_elderOf_35 : decode cX12_elderOf 35 = .ok (.isub, 1) := by decide +kernel
theorem dX12_elderOf_36 : decode cX12_elderOf 36 = .ok (.ireturn, 1) := by decide +kernel
theorem dX12_boundOf_0 : decode cX12_boundOf 0 = .ok (.iload_n 0, 1) := by decide +kernel
theorem dX12_boundOf_1 : decode cX12_boundOf 1 = .ok (.ifCond .ne 8, 3) := by decide +kernel
theorem dX12_boundOf_4 : decode cX12_boundOf 4 = .ok (.bipush 100, 2) := by decide +kernel
theorem dX12_boundOf_6 : decode cX12_boundOf 6 = .ok (.goto 28, 3) := by decide +kernel
theorem dX12_boundOf_9 : decode cX12_boundOf 9 = .ok (.iload_n 0, 1) := by decide +kernel
theorem dX12_boundOf_10 : decode cX12_boundOf 10 = .ok (.iconst 1, 1) := by decide +kernel
theorem dX12_boundOf_11 : decode cX12_boundOf 11 = .ok (.if_icmp .ne 9, 3) := by decide +kernel
theorem dX12_boundOf_14 : decode cX12_boundOf 14 = .ok (.sipush 1000, 3) := by decide +kernel
theorem dX12_boundOf_17 : decode cX12_boundOf 17 = .ok (.goto 17, 3) := by decide +kernel
theorem dX12_boundOf_20 : decode cX12_boundOf 20 = .ok (.iload_n 0, 1) := by decide +kernel
theorem dX12_boundOf_21 : decode cX12_boundOf 21 = .ok (.iconst 2, 1) := by decide +kernel
theorem dX12_boundOf_22 : decode cX12_boundOf 22 = .ok (.if_icmp .ne 9, 3) := by decide +kernel
theorem dX12_boundOf_25 : decode cX12_boundOf 25 = .ok (.sipush 200, 3) := by decide +kernel
theorem dX12_boundOf_28 : decode cX12_boundOf 28 = .ok (.goto 6, 3) := by decide +kernel
theorem dX12_boundOf_31 : decode cX12_boundOf 31 = .ok (.sipush 9999, 3) := by decide +kernel
theorem dX12_boundOf_34 : decode cX12_boundOf 34 = .ok (.ireturn, 1) := by decide +kernel
theorem dX12_isMember_0 : decode cX12_isMember 0 = .ok (.iload_n 1, 1) := by decide +kernel
theorem dX12_isMember_1 : decode cX12_isMember 1 = .ok (.ifCond .lt 15, 3) := by decide +kernel
theorem dX12_isMember_4 : decode cX12_isMember 4 = .ok (.iload_n 1, 1) := by decide +kernel
theorem dX12_isMember_5 : decode cX12_isMember 5 = .ok (.aload_n 0, 1) := by decide +kernel
theorem dX12_isMember_6 : decode cX12_isMember 6 = .ok (.getfield 38, 3) := by decide +kernel
theorem dX12_isMember_9 : decode cX12_isMember 9 = .ok (.if_icmp .ge 7, 3) := by decide +kernel
theorem dX12_isMember_12 : decode cX12_isMember 12 = .ok (.iconst 1, 1) := by decide +kernel
theorem dX12_isMember_13 : decode cX12_isMember 13 = .ok (.goto 4, 3) := by decide +kernel
theorem dX12_isMember_16 : decode cX12_isMember 16 = .ok (.iconst 0, 1) := by decide +kernel
theorem dX12_isMember_17 : decode cX12_isMember 17 = .ok (.ireturn, 1) := by decide +kernel
theorem dX12_isWithin_0 : decode cX12_isWithin 0 = .ok (.iload_n 1, 1) := by decide +kernel
theorem dX12_isWithin_1 : decode cX12_isWithin 1 = .ok (.ifCond .lt 15, 3) := by decide +kernel
theorem dX12_isWithin_4 : decode cX12_isWithin 4 = .ok (.iload_n 1, 1) := by decide +kernel
theorem dX12_isWithin_5 : decode cX12_isWithin 5 = .ok (.iload_n 0, 1) := by decide +kernel
theorem dX12_isWithin_6 : decode cX12_isWithin 6 = .ok (.invokestatic 42, 3) := by decide +kernel
theorem dX12_isWithin_9 : decode cX12_isWithin 9 = .ok (.if_icmp .gt 7, 3) := by decide +kernel
theorem dX12_isWithin_12 : decode cX12_isWithin 12 = .ok (.iconst 1, 1) := by decide +kernel
theorem dX12_isWithin_13 : decode cX12_isWithin 13 = .ok (.goto 4, 3) := by decide +kernel
theorem dX12_isWithin_16 : decode cX12_isWithin 16 = .ok (.iconst 0, 1) := by decide +kernel
theorem dX12_isWithin_17 : decode cX12_isWithin 17 = .ok (.ireturn, 1) := by decide +kernel
theorem dX12_mark_0 : decode cX12_mark 0 = .ok (.aload_n 0, 1) := by decide +kernel
theorem dX12_mark_1 : decode cX12_mark 1 = .ok (.getfield 46, 3) := by decide +kernel
theorem dX12_mark_4 : decode cX12_mark 4 = .ok (.bipush 64, 2) := by decide +kernel
theorem dX12_mark_6 : decode cX12_mark 6 = .ok (.if_icmp .ge 13, 3) := by decide +kernel
theorem dX12_mark_9 : decode cX12_mark 9 = .ok (.aload_n 0, 1) := by decide +kernel
theorem dX12_mark_10 : decode cX12_mark 10 = .ok (.getfield 35, 3) := by decide +kernel
theorem dX12_mark_13 : decode cX12_mark 13 = .ok (.aload_n 0, 1) := by decide +kernel
theorem dX12_mark_14 : decode cX12_mark 14 = .ok (.getfield 46, 3) := by decide +kernel
theorem dX12_mark_17 : decode cX12_mark 17 = .ok (.iload_n 1, 1) := by decide +kernel
theorem dX12_mark_18 : decode cX12_mark 18 = .ok (.iastore, 1) := by decide +kernel
theorem dX12_mark_19 : decode cX12_mark 19 = .ok (.aload_n 0, 1) := by decide +kernel
theorem dX12_mark_20 : decode cX12_mark 20 = .ok (.dup, 1) := by decide +kernel
theorem dX12_mark_21 : decode cX12_mark 21 = .ok (.getfield 46, 3) := by decide +kernel
theorem dX12_mark_24 : decode cX12_mark 24 = .ok (.iconst 1, 1) := by decide +kernel
theorem dX12_mark_25 : decode cX12_mark 25 = .ok (.iadd, 1) := by decide +kernel
theorem dX12_mark_26 : decode cX12_mark 26 = .ok (.putfield 46, 3) := by decide +kernel
theorem dX12_mark_29 : decode cX12_mark 29 = .ok (.return_, 1) := by decide +kernel
theorem dX12_tire_0 : decode cX12_tire 0 = .ok (.aload_n 0, 1) := by decide +kernel
theorem dX12_tire_1 : decode cX12_tire 1 = .ok (.getfield 16, 3) := by decide +kernel
theorem dX12_tire_4 : decode cX12_tire 4 = .ok (.iload_n 1, 1) := by decide +kernel
theorem dX12_tire_5 : decode cX12_tire 5 = .ok (.iaload, 1) := by decide +kernel
theorem dX12_tire_6 : decode cX12_tire 6 = .ok (.iload_n 2, 1) := by decide +kernel
theorem dX12_tire_7 : decode cX12_tire 7 = .ok (.iadd, 1) := by decide +kernel
theorem dX12_tire_8 : decode cX12_tire 8 = .ok (.istore_n 3, 1) := by decide +kernel
theorem dX12_tire_9 : decode cX12_tire 9 = .ok (.aload_n 0, 1) := by decide +kernel
theorem dX12_tire_10 : decode cX12_tire 10 = .ok (.getfield 16, 3) := by decide +kernel
theorem dX12_tire_13 : decode cX12_tire 13 = .ok (.iload_n 1, 1) := by decide +kernel
theorem dX12_tire_14 : decode cX12_tire 14 = .ok (.iload_n 3, 1) := by decide +kernel
theorem dX12_tire_15 : decode cX12_tire 15 = .ok (.ifCond .ge 7, 3) := by decide +kernel
theorem dX12_tire_18 : decode cX12_tire 18 = .ok (.iconst 0, 1) := by decide +kernel
theorem dX12_tire_19 : decode cX12_tire 19 = .ok (.goto 17, 3) := by decide +kernel
theorem dX12_tire_22 : decode cX12_tire 22 = .ok (.iload_n 3, 1) := by decide +kernel
theorem dX12_tire_23 : decode cX12_tire 23 = .ok (.sipush 1000, 3) := by decide +kernel
theorem dX12_tire_26 : decode cX12_tire 26 = .ok (.if_icmp .le 9, 3) := by decide +kernel
theorem dX12_tire_29 : decode cX12_tire 29 = .ok (.sipush 1000, 3) := by decide +kernel
theorem dX12_tire_32 : decode cX12_tire 32 = .ok (.goto 4, 3) := by decide +kernel
theorem dX12_tire_35 : decode cX12_tire 35 = .ok (.iload_n 3, 1) := by decide +kernel
theorem dX12_tire_36 : decode cX12_tire 36 = .ok (.iastore, 1) := by decide +kernel
theorem dX12_tire_37 : decode cX12_tire 37 = .ok (.return_, 1) := by decide +kernel
theorem dX12_howMany_0 : decode cX12_howMany 0 = .ok (.iconst 0, 1) := by decide +kernel
theorem dX12_howMany_1 : decode cX12_howMany 1 = .ok (.istore_n 3, 1) := by decide +kernel
theorem dX12_howMany_2 : decode cX12_howMany 2 = .ok (.iconst 0, 1) := by decide +kernel
theorem dX12_howMany_3 : decode cX12_howMany 3 = .ok (.istore 4, 2) := by decide +kernel
theorem dX12_howMany_5 : decode cX12_howMany 5 = .ok (.iload 4, 2) := by decide +kernel
theorem dX12_howMany_7 : decode cX12_howMany 7 = .ok (.aload_n 0, 1) := by decide +kernel
theorem dX12_howMany_8 : decode cX12_howMany 8 = .ok (.getfield 38, 3) := by decide +kernel
theorem dX12_howMany_11 : decode cX12_howMany 11 = .ok (.if_icmp .ge 34, 3) := by decide +kernel
theorem dX12_howMany_14 : decode cX12_howMany 14 = .ok (.aload_n 0, 1) := by decide +kernel
theorem dX12_howMany_15 : decode cX12_howMany 15 = .ok (.getfield 7, 3) := by decide +kernel
theorem dX12_howMany_18 : decode cX12_howMany 18 = .ok (.iload 4, 2) := by decide +kernel
theorem dX12_howMany_20 : decode cX12_howMany 20 = .ok (.iaload, 1) := by decide +kernel
theorem dX12_howMany_21 : decode cX12_howMany 21 = .ok (.iload_n 1, 1) := by decide +kernel
theorem dX12_howMany_22 : decode cX12_howMany 22 = .ok (.if_icmp .lt 17, 3) := by decide +kernel
theorem dX12_howMany_25 : decode cX12_howMany 25 = .ok (.aload_n 0, 1) := by decide +kernel
theorem dX12_howMany_26 : decode cX12_howMany 26 = .ok (.getfield 7, 3) := by decide +kernel
theorem dX12_howMany_29 : decode cX12_howMany 29 = .ok (.iload 4, 2) := by decide +kernel
theorem dX12_howMany_31 : decode cX12_howMany 31 = .ok (.iaload, 1) := by decide +kernel
theorem dX12_howMany_32 : decode cX12_howMany 32 = .ok (.iload_n 2, 1) := by decide +kernel
theorem dX12_howMany_33 : decode cX12_howMany 33 = .ok (.if_icmp .gt 6, 3) := by decide +kernel
theorem dX12_howMany_36 : decode cX12_howMany 36 = .ok (.iinc 3 1, 3) := by decide +kernel
theorem dX12_howMany_39 : decode cX12_howMany 39 = .ok (.iinc 4 1, 3) := by decide +kernel
theorem dX12_howMany_42 : decode cX12_howMany 42 = .ok (.goto (-37), 3) := by decide +kernel
theorem dX12_howMany_45 : decode cX12_howMany 45 = .ok (.iload_n 3, 1) := by decide +kernel
theorem dX12_howMany_46 : decode cX12_howMany 46 = .ok (.ireturn, 1) := by decide +kernel
theorem dX12_soulToils_0 : decode cX12_soulToils 0 = .ok (.aload_n 0, 1) := by decide +kernel
theorem dX12_soulToils_1 : decode cX12_soulToils 1 = .ok (.bipush 80, 2) := by decide +kernel
theorem dX12_soulToils_3 : decode cX12_soulToils 3 = .ok (.invokevirtual 49, 3) := by decide +kernel
theorem dX12_soulToils_6 : decode cX12_soulToils 6 = .ok (.iload_n 2, 1) := by decide +kernel
theorem dX12_soulToils_7 : decode cX12_soulToils 7 = .ok (.i2l, 1) := by decide +kernel
theorem dX12_soulToils_8 : decode cX12_soulToils 8 = .ok (.bipush 10, 2) := by decide +kernel
theorem dX12_soulToils_10 : decode cX12_soulToils 10 = .ok (.aload_n 0, 1) := by decide +kernel
theorem dX12_soulToils_11 : decode cX12_soulToils 11 = .ok (.getfield 13, 3) := by decide +kernel
theorem dX12_soulToils_14 : decode cX12_soulToils 14 = .ok (.iload_n 1, 1) := by decide +kernel
theorem dX12_soulToils_15 : decode cX12_soulToils 15 = .ok (.iaload, 1) := by decide +kernel
theorem dX12_soulToils_16 : decode cX12_soulToils 16 = .ok (.iadd, 1) := by decide +kernel
theorem dX12_soulToils_17 : decode cX12_soulToils 17 = .ok (.i2l, 1) := by decide +kernel
theorem dX12_soulToils_18 : decode cX12_soulToils 18 = .ok (.lmul, 1) := by decide +kernel
theorem dX12_soulToils_19 : decode cX12_soulToils 19 = .ok (.aload_n 0, 1) := by decide +kernel
theorem dX12_soulToils_20 : decode cX12_soulToils 20 = .ok (.getfield 16, 3) := by decide +kernel
theorem dX12_soulToils_23 : decode cX12_soulToils 23 = .ok (.iload_n 1, 1) := by decide +kernel
theorem dX12_soulToils_24 : decode cX12_soulToils 24 = .ok (.iaload, 1) := by decide +kernel
theorem dX12_soulToils_25 : decode cX12_soulToils 25 = .ok (.i2l, 1) := by decide +kernel
theorem dX12_soulToils_26 : decode cX12_soulToils 26 = .ok (.lsub, 1) := by decide +kernel
theorem dX12_soulToils_27 : decode cX12_soulToils 27 = .ok (.lstore_n 3, 1) := by decide +kernel
theorem dX12_soulToils_28 : decode cX12_soulToils 28 = .ok (.aload_n 0, 1) := by decide +kernel
theorem dX12_soulToils_29 : decode cX12_soulToils 29 = .ok (.iload_n 1, 1) := by decide +kernel
theorem dX12_soulToils_30 : decode cX12_soulToils 30 = .ok (.iload_n 2, 1) := by decide +kernel
theorem dX12_soulToils_31 : decode cX12_soulToils 31 = .ok (.invokevirtual 53, 3) := by decide +kernel
theorem dX12_soulToils_34 : decode cX12_soulToils 34 = .ok (.lload_n 3, 1) := by decide +kernel
theorem dX12_soulToils_35 : decode cX12_soulToils 35 = .ok (.lconst 0, 1) := by decide +kernel
theorem dX12_soulToils_36 : decode cX12_soulToils 36 = .ok (.lcmp, 1) := by decide +kernel
theorem dX12_soulToils_37 : decode cX12_soulToils 37 = .ok (.ifCond .ge 7, 3) := by decide +kernel
theorem dX12_soulToils_40 : decode cX12_soulToils 40 = .ok (.lconst 0, 1) := by decide +kernel
theorem dX12_soulToils_41 : decode cX12_soulToils 41 = .ok (.goto 4, 3) := by decide +kernel
theorem dX12_soulToils_44 : decode cX12_soulToils 44 = .ok (.lload_n 3, 1) := by decide +kernel
theorem dX12_soulToils_45 : decode cX12_soulToils 45 = .ok (.lreturn, 1) := by decide +kernel
theorem dX12_topmanToils_0 : decode cX12_topmanToils 0 = .ok (.aload_n 0, 1) := by decide +kernel
theorem dX12_topmanToils_1 : decode cX12_topmanToils 1 = .ok (.bipush 20, 2) := by decide +kernel
theorem dX12_topmanToils_3 : decode cX12_topmanToils 3 = .ok (.invokevirtual 49, 3) := by decide +kernel
theorem dX12_topmanToils_6 : decode cX12_topmanToils 6 = .ok (.aload_n 0, 1) := by decide +kernel
theorem dX12_topmanToils_7 : decode cX12_topmanToils 7 = .ok (.getfield 16, 3) := by decide +kernel
theorem dX12_topmanToils_10 : decode cX12_topmanToils 10 = .ok (.iload_n 1, 1) := by decide +kernel
theorem dX12_topmanToils_11 : decode cX12_topmanToils 11 = .ok (.iaload, 1) := by decide +kernel
theorem dX12_topmanToils_12 : decode cX12_topmanToils 12 = .ok (.sipush 500, 3) := by decide +kernel
theorem dX12_topmanToils_15 : decode cX12_topmanToils 15 = .ok (.if_icmp .le 7, 3) := by decide +kernel
theorem dX12_topmanToils_18 : decode cX12_topmanToils 18 = .ok (.lconst 0, 1) := by decide +kernel
theorem dX12_topmanToils_19 : decode cX12_topmanToils 19 = .ok (.goto 16, 3) := by decide +kernel
theorem dX12_topmanToils_22 : decode cX12_topmanToils 22 = .ok (.aload_n 0, 1) := by decide +kernel
theorem dX12_topmanToils_23 : decode cX12_topmanToils 23 = .ok (.iload_n 1, 1) := by decide +kernel
theorem dX12_topmanToils_24 : decode cX12_topmanToils 24 = .ok (.iload_n 2, 1) := by decide +kernel
theorem dX12_topmanToils_25 : decode cX12_topmanToils 25 = .ok (.invokevirtual 57, 3) := by decide +kernel
theorem dX12_topmanToils_28 : decode cX12_topmanToils 28 = .ok (.ldc2_w 61, 3) := by decide +kernel
theorem dX12_topmanToils_31 : decode cX12_topmanToils 31 = .ok (.iload_n 2, 1) := by decide +kernel
theorem dX12_topmanToils_32 : decode cX12_topmanToils 32 = .ok (.i2l, 1) := by decide +kernel
theorem dX12_topmanToils_33 : decode cX12_topmanToils 33 = .ok (.lmul, 1) := by decide +kernel
theorem dX12_topmanToils_34 : decode cX12_topmanToils 34 = .ok (.ladd, 1) := by decide +kernel
theorem dX12_topmanToils_35 : decode cX12_topmanToils 35 = .ok (.lreturn, 1) := by decide +kernel
theorem dX12_mateToils_0 : decode cX12_mateToils 0 = .ok (.aload_n 0, 1) := by decide +kernel
theorem dX12_mateToils_1 : decode cX12_mateToils 1 = .ok (.bipush 40, 2) := by decide +kernel
theorem dX12_mateToils_3 : decode cX12_mateToils 3 = .ok (.invokevirtual 49, 3) := by decide +kernel
theorem dX12_mateToils_6 : decode cX12_mateToils 6 = .ok (.aload_n 0, 1) := by decide +kernel
theorem dX12_mateToils_7 : decode cX12_mateToils 7 = .ok (.iload_n 1, 1) := by decide +kernel
theorem dX12_mateToils_8 : decode cX12_mateToils 8 = .ok (.iload_n 2, 1) := by decide +kernel
theorem dX12_mateToils_9 : decode cX12_mateToils 9 = .ok (.iconst 2, 1) := by decide +kernel
theorem dX12_mateToils_10 : decode cX12_mateToils 10 = .ok (.idiv, 1) := by decide +kernel
theorem dX12_mateToils_11 : decode cX12_mateToils 11 = .ok (.invokevirtual 63, 3) := by decide +kernel
theorem dX12_mateToils_14 : decode cX12_mateToils 14 = .ok (.lstore_n 3, 1) := by decide +kernel
theorem dX12_mateToils_15 : decode cX12_mateToils 15 = .ok (.lload_n 3, 1) := by decide +kernel
theorem dX12_mateToils_16 : decode cX12_mateToils 16 = .ok (.aload_n 0, 1) := by decide +kernel
theorem dX12_mateToils_17 : decode cX12_mateToils 17 = .ok (.iload_n 1, 1) := by decide +kernel
theorem dX12_mateToils_18 : decode cX12_mateToils 18 = .ok (.iload_n 2, 1) := by decide +kernel
theorem dX12_mateToils_19 : decode cX12_mateToils 19 = .ok (.iload_n 2, 1) := by decide +kernel
theorem dX12_mateToils_20 : decode cX12_mateToils 20 = .ok (.iconst 2, 1) := by decide +kernel
theorem dX12_mateToils_21 : decode cX12_mateToils 21 = .ok (.idiv, 1) := by decide +kernel
theorem dX12_mateToils_22 : decode cX12_mateToils 22 = .ok (.isub, 1) := by decide +kernel
theorem dX12_mateToils_23 : decode cX12_mateToils 23 = .ok (.invokevirtual 63, 3) := by decide +kernel
theorem dX12_mateToils_26 : decode cX12_mateToils 26 = .ok (.ladd, 1) := by decide +kernel
theorem dX12_mateToils_27 : decode cX12_mateToils 27 = .ok (.lreturn, 1) := by decide +kernel
theorem dX12_masterToils_0 : decode cX12_masterToils 0 = .ok (.aload_n 0, 1) := by decide +kernel
theorem dX12_masterToils_1 : decode cX12_masterToils 1 = .ok (.bipush 50, 2) := by decide +kernel
theorem dX12_masterToils_3 : decode cX12_masterToils 3 = .ok (.invokevirtual 49, 3) := by decide +kernel
theorem dX12_masterToils_6 : decode cX12_masterToils 6 = .ok (.iload_n 2, 1) := by decide +kernel
theorem dX12_masterToils_7 : decode cX12_masterToils 7 = .ok (.bipush 40, 2) := by decide +kernel
theorem dX12_masterToils_9 : decode cX12_masterToils 9 = .ok (.if_icmp .gt 12, 3) := by decide +kernel
theorem dX12_masterToils_12 : decode cX12_masterToils 12 = .ok (.aload_n 0, 1) := by decide +kernel
theorem dX12_masterToils_13 : decode cX12_masterToils 13 = .ok (.iload_n 1, 1) := by decide +kernel
theorem dX12_masterToils_14 : decode cX12_masterToils 14 = .ok (.iload_n 2, 1) := by decide +kernel
theorem dX12_masterToils_15 : decode cX12_masterToils 15 = .ok (.invokevirtual 66, 3) := by decide +kernel
theorem dX12_masterToils_18 : decode cX12_masterToils 18 = .ok (.goto 15, 3) := by decide +kernel
theorem dX12_masterToils_21 : decode cX12_masterToils 21 = .ok (.ldc2_w 69, 3) := by decide +kernel
theorem dX12_masterToils_24 : decode cX12_masterToils 24 = .ok (.aload_n 0, 1) := by decide +kernel
theorem dX12_masterToils_25 : decode cX12_masterToils 25 = .ok (.iload_n 1, 1) := by decide +kernel
theorem dX12_masterToils_26 : decode cX12_masterToils 26 = .ok (.iload_n 2, 1) := by decide +kernel
theorem dX12_masterToils_27 : decode cX12_masterToils 27 = .ok (.iconst 4, 1) := by decide +kernel
theorem dX12_masterToils_28 : decode cX12_masterToils 28 = .ok (.idiv, 1) := by decide +kernel
theorem dX12_masterToils_29 : decode cX12_masterToils 29 = .ok (.invokevirtual 66, 3) := by decide +kernel
theorem dX12_masterToils_32 : decode cX12_masterToils 32 = .ok (.lmul, 1) := by decide +kernel
theorem dX12_masterToils_33 : decode cX12_masterToils 33 = .ok (.lreturn, 1) := by decide +kernel
theorem dX12_cookToils_0 : decode cX12_cookToils 0 = .ok (.aload_n 0, 1) := by decide +kernel
theorem dX12_cookToils_1 : decode cX12_cookToils 1 = .ok (.bipush 60, 2) := by decide +kernel
theorem dX12_cookToils_3 : decode cX12_cookToils 3 = .ok (.invokevirtual 49, 3) := by decide +kernel
theorem dX12_cookToils_6 : decode cX12_cookToils 6 = .ok (.aload_n 0, 1) := by decide +kernel
theorem dX12_cookToils_7 : decode cX12_cookToils 7 = .ok (.iload_n 1, 1) := by decide +kernel
theorem dX12_cookToils_8 : decode cX12_cookToils 8 = .ok (.iload_n 2, 1) := by decide +kernel
theorem dX12_cookToils_9 : decode cX12_cookToils 9 = .ok (.invokevirtual 57, 3) := by decide +kernel
theorem dX12_cookToils_12 : decode cX12_cookToils 12 = .ok (.lstore_n 3, 1) := by decide +kernel
theorem dX12_cookToils_13 : decode cX12_cookToils 13 = .ok (.aload_n 0, 1) := by decide +kernel
theorem dX12_cookToils_14 : decode cX12_cookToils 14 = .ok (.iload_n 1, 1) := by decide +kernel
theorem dX12_cookToils_15 : decode cX12_cookToils 15 = .ok (.iload_n 2, 1) := by decide +kernel
theorem dX12_cookToils_16 : decode cX12_cookToils 16 = .ok (.iconst 2, 1) := by decide +kernel
theorem dX12_cookToils_17 : decode cX12_cookToils 17 = .ok (.idiv, 1) := by decide +kernel
theorem dX12_cookToils_18 : decode cX12_cookToils 18 = .ok (.ineg, 1) := by decide +kernel
theorem dX12_cookToils_19 : decode cX12_cookToils 19 = .ok (.invokevirtual 53, 3) := by decide +kernel
theorem dX12_cookToils_22 : decode cX12_cookToils 22 = .ok (.lload_n 3, 1) := by decide +kernel
theorem dX12_cookToils_23 : decode cX12_cookToils 23 = .ok (.lreturn, 1) := by decide +kernel
theorem dX12_toils_0 : decode cX12_toils 0 = .ok (.aload_n 0, 1) := by decide +kernel
theorem dX12_toils_1 : decode cX12_toils 1 = .ok (.getfield 7, 3) := by decide +kernel
theorem dX12_toils_4 : decode cX12_toils 4 = .ok (.iload_n 1, 1) := by decide +kernel
theorem dX12_toils_5 : decode cX12_toils 5 = .ok (.iaload, 1) := by decide +kernel
theorem dX12_toils_6 : decode cX12_toils 6 = .ok (.tableswitch 66 0 5 #[38, 38, 45, 45, 52, 59], 38) := by decide +kernel
theorem dX12_toils_44 : decode cX12_toils 44 = .ok (.aload_n 0, 1) := by decide +kernel
theorem dX12_toils_45 : decode cX12_toils 45 = .ok (.iload_n 1, 1) := by decide +kernel
theorem dX12_toils_46 : decode cX12_toils 46 = .ok (.iload_n 2, 1) := by decide +kernel
theorem dX12_toils_47 : decode cX12_toils 47 = .ok (.invokevirtual 57, 3) := by decide +kernel
theorem dX12_toils_50 : decode cX12_toils 50 = .ok (.lreturn, 1) := by decide +kernel
theorem dX12_toils_51 : decode cX12_toils 51 = .ok (.aload_n 0, 1) := by decide +kernel
theorem dX12_toils_52 : decode cX12_toils 52 = .ok (.iload_n 1, 1) := by decide +kernel
theorem dX12_toils_53 : decode cX12_toils 53 = .ok (.iload_n 2, 1) := by decide +kernel
theorem dX12_toils_54 : decode cX12_toils 54 = .ok (.invokevirtual 63, 3) := by decide +kernel
theorem dX12_toils_57 : decode cX12_toils 57 = .ok (.lreturn, 1) := by decide +kernel
theorem dX12_toils_58 : decode cX12_toils 58 = .ok (.aload_n 0, 1) := by decide +kernel
theorem dX12_toils_59 : decode cX12_toils 59 = .ok (.iload_n 1, 1) := by decide +kernel
theorem dX12_toils_60 : decode cX12_toils 60 = .ok (.iload_n 2, 1) := by decide +kernel
theorem dX12_toils_61 : decode cX12_toils 61 = .ok (.invokevirtual 66, 3) := by decide +kernel
theorem dX12_toils_64 : decode cX12_toils 64 = .ok (.lreturn, 1) := by decide +kernel
theorem dX12_toils_65 : decode cX12_toils 65 = .ok (.aload_n 0, 1) := by decide +kernel
theorem dX12_toils_66 : decode cX12_toils 66 = .ok (.iload_n 1, 1) := by decide +kernel
theorem dX12_toils_67 : decode cX12_toils 67 = .ok (.iload_n 2, 1) := by decide +kernel
theorem dX12_toils_68 : decode cX12_toils 68 = .ok (.invokevirtual 71, 3) := by decide +kernel
theorem dX12_toils_71 : decode cX12_toils 71 = .ok (.lreturn, 1) := by decide +kernel
theorem dX12_toils_72 : decode cX12_toils 72 = .ok (.aload_n 0, 1) := by decide +kernel
theorem dX12_toils_73 : decode cX12_toils 73 = .ok (.iload_n 1, 1) := by decide +kernel
theorem dX12_toils_74 : decode cX12_toils 74 = .ok (.iload_n 2, 1) := by decide +kernel
theorem dX12_toils_75 : decode cX12_toils 75 = .ok (.invokevirtual 74, 3) := by decide +kernel
theorem dX12_toils_78 : decode cX12_toils 78 = .ok (.lreturn, 1) := by decide +kernel
theorem dX12_handIsPaid_0 : decode cX12_handIsPaid 0 = .ok (.aload_n 0, 1) := by decide +kernel
theorem dX12_handIsPaid_1 : decode cX12_handIsPaid 1 = .ok (.iconst 1, 1) := by decide +kernel
theorem dX12_handIsPaid_2 : decode cX12_handIsPaid 2 = .ok (.invokevirtual 49, 3) := by decide +kernel
theorem dX12_handIsPaid_5 : decode cX12_handIsPaid 5 = .ok (.iload_n 2, 1) := by decide +kernel
theorem dX12_handIsPaid_6 : decode cX12_handIsPaid 6 = .ok (.i2l, 1) := by decide +kernel
theorem dX12_handIsPaid_7 : decode cX12_handIsPaid 7 = .ok (.iconst 5, 1) := by decide +kernel
theorem dX12_handIsPaid_8 : decode cX12_handIsPaid 8 = .ok (.aload_n 0, 1) := by decide +kernel
theorem dX12_handIsPaid_9 : decode cX12_handIsPaid 9 = .ok (.getfield 13, 3) := by decide +kernel
theorem dX12_handIsPaid_12 : decode cX12_handIsPaid 12 = .ok (.iload_n 1, 1) := by decide +kernel
theorem dX12_handIsPaid_13 : decode cX12_handIsPaid 13 = .ok (.iaload, 1) := by decide +kernel
theorem dX12_handIsPaid_14 : decode cX12_handIsPaid 14 = .ok (.bipush 10, 2) := by decide +kernel
theorem dX12_handIsPaid_16 : decode cX12_handIsPaid 16 = .ok (.idiv, 1) := by decide +kernel
theorem dX12_handIsPaid_17 : decode cX12_handIsPaid 17 = .ok (.iadd, 1) := by decide +kernel
theorem dX12_handIsPaid_18 : decode cX12_handIsPaid 18 = .ok (.i2l, 1) := by decide +kernel
theorem dX12_handIsPaid_19 : decode cX12_handIsPaid 19 = .ok (.lmul, 1) := by decide +kernel
theorem dX12_handIsPaid_20 : decode cX12_handIsPaid 20 = .ok (.lreturn, 1) := by decide +kernel
theorem dX12_bosunIsPaid_0 : decode cX12_bosunIsPaid 0 = .ok (.aload_n 0, 1) := by decide +kernel
theorem dX12_bosunIsPaid_1 : decode cX12_bosunIsPaid 1 = .ok (.bipush 31, 2) := by decide +kernel
theorem dX12_bosunIsPaid_3 : decode cX12_bosunIsPaid 3 = .ok (.invokevirtual 49, 3) := by decide +kernel
theorem dX12_bosunIsPaid_6 : decode cX12_bosunIsPaid 6 = .ok (.aload_n 0, 1) := by decide +kernel
theorem dX12_bosunIsPaid_7 : decode cX12_bosunIsPaid 7 = .ok (.iload_n 1, 1) := by decide +kernel
theorem dX12_bosunIsPaid_8 : decode cX12_bosunIsPaid 8 = .ok (.iload_n 2, 1) := by decide +kernel
theorem dX12_bosunIsPaid_9 : decode cX12_bosunIsPaid 9 = .ok (.invokevirtual 77, 3) := by decide +kernel
theorem dX12_bosunIsPaid_12 : decode cX12_bosunIsPaid 12 = .ok (.lstore_n 3, 1) := by decide +kernel
theorem dX12_bosunIsPaid_13 : decode cX12_bosunIsPaid 13 = .ok (.lload_n 3, 1) := by decide +kernel
theorem dX12_bosunIsPaid_14 : decode cX12_bosunIsPaid 14 = .ok (.ldc2_w 80, 3) := by decide +kernel
theorem dX12_bosunIsPaid_17 : decode cX12_bosunIsPaid 17 = .ok (.iload_n 2, 1) := by decide +kernel
theorem dX12_bosunIsPaid_18 : decode cX12_bosunIsPaid 18 = .ok (.i2l, 1) := by decide +kernel
theorem dX12_bosunIsPaid_19 : decode cX12_bosunIsPaid 19 = .ok (.lmul, 1) := by decide +kernel
theorem dX12_bosunIsPaid_20 : decode cX12_bosunIsPaid 20 = .ok (.ladd, 1) := by decide +kernel
theorem dX12_bosunIsPaid_21 : decode cX12_bosunIsPaid 21 = .ok (.iload_n 2, 1) := by decide +kernel
theorem dX12_bosunIsPaid_22 : decode cX12_bosunIsPaid 22 = .ok (.i2l, 1) := by decide +kernel
theorem dX12_bosunIsPaid_23 : decode cX12_bosunIsPaid 23 = .ok (.aload_n 0, 1) := by decide +kernel
theorem dX12_bosunIsPaid_24 : decode cX12_bosunIsPaid 24 = .ok (.iconst 0, 1) := by decide +kernel
theorem dX12_bosunIsPaid_25 : decode cX12_bosunIsPaid 25 = .ok (.iconst 2, 1) := by decide +kernel
theorem dX12_bosunIsPaid_26 : decode cX12_bosunIsPaid 26 = .ok (.invokevirtual 82, 3) := by decide +kernel
theorem dX12_bosunIsPaid_29 : decode cX12_bosunIsPaid 29 = .ok (.i2l, 1) := by decide +kernel
theorem dX12_bosunIsPaid_30 : decode cX12_bosunIsPaid 30 = .ok (.lmul, 1) := by decide +kernel
theorem dX12_bosunIsPaid_31 : decode cX12_bosunIsPaid 31 = .ok (.ladd, 1) := by decide +kernel
theorem dX12_bosunIsPaid_32 : decode cX12_bosunIsPaid 32 = .ok (.lreturn, 1) := by decide +kernel
theorem dX12_masterIsPaid_0 : decode cX12_masterIsPaid 0 = .ok (.aload_n 0, 1) := by decide +kernel
theorem dX12_masterIsPaid_1 : decode cX12_masterIsPaid 1 = .ok (.bipush 51, 2) := by decide +kernel
theorem dX12_masterIsPaid_3 : decode cX12_masterIsPaid 3 = .ok (.invokevirtual 49, 3) := by decide +kernel
theorem dX12_masterIsPaid_6 : decode cX12_masterIsPaid 6 = .ok (.aload_n 0, 1) := by decide +kernel
theorem dX12_masterIsPaid_7 : decode cX12_masterIsPaid 7 = .ok (.iload_n 1, 1) := by decide +kernel
theorem dX12_masterIsPaid_8 : decode cX12_masterIsPaid 8 = .ok (.iload_n 2, 1) := by decide +kernel
theorem dX12_masterIsPaid_9 : decode cX12_masterIsPaid 9 = .ok (.invokevirtual 86, 3) := by decide +kernel
theorem dX12_masterIsPaid_12 : decode cX12_masterIsPaid 12 = .ok (.lstore_n 3, 1) := by decide +kernel
theorem dX12_masterIsPaid_13 : decode cX12_masterIsPaid 13 = .ok (.aload_n 0, 1) := by decide +kernel
theorem dX12_masterIsPaid_14 : decode cX12_masterIsPaid 14 = .ok (.getfield 16, 3) := by decide +kernel
theorem dX12_masterIsPaid_17 : decode cX12_masterIsPaid 17 = .ok (.iload_n 1, 1) := by decide +kernel
theorem dX12_masterIsPaid_18 : decode cX12_masterIsPaid 18 = .ok (.iaload, 1) := by decide +kernel
theorem dX12_masterIsPaid_19 : decode cX12_masterIsPaid 19 = .ok (.sipush 300, 3) := by decide +kernel
theorem dX12_masterIsPaid_22 : decode cX12_masterIsPaid 22 = .ok (.if_icmp .ge 11, 3) := by decide +kernel
theorem dX12_masterIsPaid_25 : decode cX12_masterIsPaid 25 = .ok (.ldc2_w 80, 3) := by decide +kernel
theorem dX12_masterIsPaid_28 : decode cX12_masterIsPaid 28 = .ok (.lload_n 3, 1) := by decide +kernel
theorem dX12_masterIsPaid_29 : decode cX12_masterIsPaid 29 = .ok (.lmul, 1) := by decide +kernel
theorem dX12_masterIsPaid_30 : decode cX12_masterIsPaid 30 = .ok (.goto 4, 3) := by decide +kernel
theorem dX12_masterIsPaid_33 : decode cX12_masterIsPaid 33 = .ok (.lload_n 3, 1) := by decide +kernel
theorem dX12_masterIsPaid_34 : decode cX12_masterIsPaid 34 = .ok (.lreturn, 1) := by decide +kernel
theorem dX12_surgeonIsPaid_0 : decode cX12_surgeonIsPaid 0 = .ok (.aload_n 0, 1) := by decide +kernel
theorem dX12_surgeonIsPaid_1 : decode cX12_surgeonIsPaid 1 = .ok (.bipush 71, 2) := by decide +kernel
theorem dX12_surgeonIsPaid_3 : decode cX12_surgeonIsPaid 3 = .ok (.invokevirtual 49, 3) := by decide +kernel
theorem dX12_surgeonIsPaid_6 : decode cX12_surgeonIsPaid 6 = .ok (.aload_n 0, 1) := by decide +kernel
theorem dX12_surgeonIsPaid_7 : decode cX12_surgeonIsPaid 7 = .ok (.iload_n 1, 1) := by decide +kernel
theorem dX12_surgeonIsPaid_8 : decode cX12_surgeonIsPaid 8 = .ok (.iload_n 2, 1) := by decide +kernel
theorem dX12_surgeonIsPaid_9 : decode cX12_surgeonIsPaid 9 = .ok (.invokevirtual 77, 3) := by decide +kernel
theorem dX12_surgeonIsPaid_12 : decode cX12_surgeonIsPaid 12 = .ok (.lstore_n 3, 1) := by decide +kernel
theorem dX12_surgeonIsPaid_13 : decode cX12_surgeonIsPaid 13 = .ok (.iconst 0, 1) := by decide +kernel
theorem dX12_surgeonIsPaid_14 : decode cX12_surgeonIsPaid 14 = .ok (.istore 5, 2) := by decide +kernel
theorem dX12_surgeonIsPaid_16 : decode cX12_surgeonIsPaid 16 = .ok (.iload 5, 2) := by decide +kernel
theorem dX12_surgeonIsPaid_18 : decode cX12_surgeonIsPaid 18 = .ok (.aload_n 0, 1) := by decide +kernel
theorem dX12_surgeonIsPaid_19 : decode cX12_surgeonIsPaid 19 = .ok (.getfield 38, 3) := by decide +kernel
theorem dX12_surgeonIsPaid_22 : decode cX12_surgeonIsPaid 22 = .ok (.if_icmp .ge 28, 3) := by decide +kernel
theorem dX12_surgeonIsPaid_25 : decode cX12_surgeonIsPaid 25 = .ok (.aload_n 0, 1) := by decide +kernel
theorem dX12_surgeonIsPaid_26 : decode cX12_surgeonIsPaid 26 = .ok (.getfield 16, 3) := by decide +kernel
theorem dX12_surgeonIsPaid_29 : decode cX12_surgeonIsPaid 29 = .ok (.iload 5, 2) := by decide +kernel
theorem dX12_surgeonIsPaid_31 : decode cX12_surgeonIsPaid 31 = .ok (.iaload, 1) := by decide +kernel
theorem dX12_surgeonIsPaid_32 : decode cX12_surgeonIsPaid 32 = .ok (.sipush 500, 3) := by decide +kernel
theorem dX12_surgeonIsPaid_35 : decode cX12_surgeonIsPaid 35 = .ok (.if_icmp .le 9, 3) := by decide +kernel
theorem dX12_surgeonIsPaid_38 : decode cX12_surgeonIsPaid 38 = .ok (.lload_n 3, 1) := by decide +kernel
theorem dX12_surgeonIsPaid_39 : decode cX12_surgeonIsPaid 39 = .ok (.ldc2_w 89, 3) := by decide +kernel
theorem dX12_surgeonIsPaid_42 : decode cX12_surgeonIsPaid 42 = .ok (.ladd, 1) := by decide +kernel
theorem dX12_surgeonIsPaid_43 : decode cX12_surgeonIsPaid 43 = .ok (.lstore_n 3, 1) := by decide +kernel
theorem dX12_surgeonIsPaid_44 : decode cX12_surgeonIsPaid 44 = .ok (.iinc 5 1, 3) := by decide +kernel
theorem dX12_surgeonIsPaid_47 : decode cX12_surgeonIsPaid 47 = .ok (.goto (-31), 3) := by decide +kernel
theorem dX12_surgeonIsPaid_50 : decode cX12_surgeonIsPaid 50 = .ok (.lload_n 3, 1) := by decide +kernel
theorem dX12_surgeonIsPaid_51 : decode cX12_surgeonIsPaid 51 = .ok (.lreturn, 1) := by decide +kernel
theorem dX12_isPaid_0 : decode cX12_isPaid 0 = .ok (.aload_n 0, 1) := by decide +kernel
theorem dX12_isPaid_1 : decode cX12_isPaid 1 = .ok (.getfield 7, 3) := by decide +kernel
theorem dX12_isPaid_4 : decode cX12_isPaid 4 = .ok (.iload_n 1, 1) := by decide +kernel
theorem dX12_isPaid_5 : decode cX12_isPaid 5 = .ok (.iaload, 1) := by decide +kernel
theorem dX12_isPaid_6 : decode cX12_isPaid 6 = .ok (.tableswitch 55 3 7 #[34, 34, 41, 55, 48], 34) := by decide +kernel
theorem dX12_isPaid_40 : decode cX12_isPaid 40 = .ok (.aload_n 0, 1) := by decide +kernel
theorem dX12_isPaid_41 : decode cX12_isPaid 41 = .ok (.iload_n 1, 1) := by decide +kernel
theorem dX12_isPaid_42 : decode cX12_isPaid 42 = .ok (.iload_n 2, 1) := by decide +kernel
theorem dX12_isPaid_43 : decode cX12_isPaid 43 = .ok (.invokevirtual 86, 3) := by decide +kernel
theorem dX12_isPaid_46 : decode cX12_isPaid 46 = .ok (.lreturn, 1) := by decide +kernel
theorem dX12_isPaid_47 : decode cX12_isPaid 47 = .ok (.aload_n 0, 1) := by decide +kernel
theorem dX12_isPaid_48 : decode cX12_isPaid 48 = .ok (.iload_n 1, 1) := by decide +kernel
theorem dX12_isPaid_49 : decode cX12_isPaid 49 = .ok (.iload_n 2, 1) := by decide +kernel
theorem dX12_isPaid_50 : decode cX12_isPaid 50 = .ok (.invokevirtual 91, 3) := by decide +kernel
theorem dX12_isPaid_53 : decode cX12_isPaid 53 = .ok (.lreturn, 1) := by decide +kernel
theorem dX12_isPaid_54 : decode cX12_isPaid 54 = .ok (.aload_n 0, 1) := by decide +kernel
theorem dX12_isPaid_55 : decode cX12_isPaid 55 = .ok (.iload_n 1, 1) := by decide +kernel
theorem dX12_isPaid_56 : decode cX12_isPaid 56 = .ok (.iload_n 2, 1) := by decide +kernel
theorem dX12_isPaid_57 : decode cX12_isPaid 57 = .ok (.invokevirtual 94, 3) := by decide +kernel
theorem dX12_isPaid_60 : decode cX12_isPaid 60 = .ok (.lreturn, 1) := by decide +kernel
theorem dX12_isPaid_61 : decode cX12_isPaid 61 = .ok (.aload_n 0, 1) := by decide +kernel
theorem dX12_isPaid_62 : decode cX12_isPaid 62 = .ok (.iload_n 1, 1) := by decide +kernel
theorem dX12_isPaid_63 : decode cX12_isPaid 63 = .ok (.iload_n 2, 1) := by decide +kernel
theorem dX12_isPaid_64 : decode cX12_isPaid 64 = .ok (.invokevirtual 77, 3) := by decide +kernel
theorem dX12_isPaid_67 : decode cX12_isPaid 67 = .ok (.lreturn, 1) := by decide +kernel
theorem dX12_soulClimbs_0 : decode cX12_soulClimbs 0 = .ok (.aload_n 0, 1) := by decide +kernel
theorem dX12_soulClimbs_1 : decode cX12_soulClimbs 1 = .ok (.bipush 82, 2) := by decide +kernel
theorem dX12_soulClimbs_3 : decode cX12_soulClimbs 3 = .ok (.invokevirtual 49, 3) := by decide +kernel
theorem dX12_soulClimbs_6 : decode cX12_soulClimbs 6 = .ok (.iload_n 2, 1) := by decide +kernel
theorem dX12_soulClimbs_7 : decode cX12_soulClimbs 7 = .ok (.bipush 10, 2) := by decide +kernel
theorem dX12_soulClimbs_9 : decode cX12_soulClimbs 9 = .ok (.aload_n 0, 1) := by decide +kernel
theorem dX12_soulClimbs_10 : decode cX12_soulClimbs 10 = .ok (.getfield 13, 3) := by decide +kernel
theorem dX12_soulClimbs_13 : decode cX12_soulClimbs 13 = .ok (.iload_n 1, 1) := by decide +kernel
theorem dX12_soulClimbs_14 : decode cX12_soulClimbs 14 = .ok (.iaload, 1) := by decide +kernel
theorem dX12_soulClimbs_15 : decode cX12_soulClimbs 15 = .ok (.iadd, 1) := by decide +kernel
theorem dX12_soulClimbs_16 : decode cX12_soulClimbs 16 = .ok (.if_icmp .le 7, 3) := by decide +kernel
theorem dX12_soulClimbs_19 : decode cX12_soulClimbs 19 = .ok (.ldc2_w 97, 3) := by decide +kernel
theorem dX12_soulClimbs_22 : decode cX12_soulClimbs 22 = .ok (.lreturn, 1) := by decide +kernel
theorem dX12_soulClimbs_23 : decode cX12_soulClimbs 23 = .ok (.aload_n 0, 1) := by decide +kernel
theorem dX12_soulClimbs_24 : decode cX12_soulClimbs 24 = .ok (.iload_n 1, 1) := by decide +kernel
theorem dX12_soulClimbs_25 : decode cX12_soulClimbs 25 = .ok (.iload_n 2, 1) := by decide +kernel
theorem dX12_soulClimbs_26 : decode cX12_soulClimbs 26 = .ok (.invokevirtual 53, 3) := by decide +kernel
theorem dX12_soulClimbs_29 : decode cX12_soulClimbs 29 = .ok (.ldc2_w 80, 3) := by decide +kernel
theorem dX12_soulClimbs_32 : decode cX12_soulClimbs 32 = .ok (.iload_n 2, 1) := by decide +kernel
theorem dX12_soulClimbs_33 : decode cX12_soulClimbs 33 = .ok (.i2l, 1) := by decide +kernel
theorem dX12_soulClimbs_34 : decode cX12_soulClimbs 34 = .ok (.lmul, 1) := by decide +kernel
theorem dX12_soulClimbs_35 : decode cX12_soulClimbs 35 = .ok (.lreturn, 1) := by decide +kernel
theorem dX12_sailorClimbs_0 : decode cX12_sailorClimbs 0 = .ok (.aload_n 0, 1) := by decide +kernel
theorem dX12_sailorClimbs_1 : decode cX12_sailorClimbs 1 = .ok (.bipush 12, 2) := by decide +kernel
theorem dX12_sailorClimbs_3 : decode cX12_sailorClimbs 3 = .ok (.invokevirtual 49, 3) := by decide +kernel
theorem dX12_sailorClimbs_6 : decode cX12_sailorClimbs 6 = .ok (.iload_n 2, 1) := by decide +kernel
theorem dX12_sailorClimbs_7 : decode cX12_sailorClimbs 7 = .ok (.bipush 30, 2) := by decide +kernel
theorem dX12_sailorClimbs_9 : decode cX12_sailorClimbs 9 = .ok (.if_icmp .le 10, 3) := by decide +kernel
theorem dX12_sailorClimbs_12 : decode cX12_sailorClimbs 12 = .ok (.aload_n 0, 1) := by decide +kernel
theorem dX12_sailorClimbs_13 : decode cX12_sailorClimbs 13 = .ok (.iload_n 1, 1) := by decide +kernel
theorem dX12_sailorClimbs_14 : decode cX12_sailorClimbs 14 = .ok (.iload_n 2, 1) := by decide +kernel
theorem dX12_sailorClimbs_15 : decode cX12_sailorClimbs 15 = .ok (.invokevirtual 99, 3) := by decide +kernel
theorem dX12_sailorClimbs_18 : decode cX12_sailorClimbs 18 = .ok (.lreturn, 1) := by decide +kernel
theorem dX12_sailorClimbs_19 : decode cX12_sailorClimbs 19 = .ok (.aload_n 0, 1) := by decide +kernel
theorem dX12_sailorClimbs_20 : decode cX12_sailorClimbs 20 = .ok (.iload_n 1, 1) := by decide +kernel
theorem dX12_sailorClimbs_21 : decode cX12_sailorClimbs 21 = .ok (.iload_n 2, 1) := by decide +kernel
theorem dX12_sailorClimbs_22 : decode cX12_sailorClimbs 22 = .ok (.iconst 2, 1) := by decide +kernel
theorem dX12_sailorClimbs_23 : decode cX12_sailorClimbs 23 = .ok (.idiv, 1) := by decide +kernel
theorem dX12_sailorClimbs_24 : decode cX12_sailorClimbs 24 = .ok (.invokevirtual 53, 3) := by decide +kernel
theorem dX12_sailorClimbs_27 : decode cX12_sailorClimbs 27 = .ok (.ldc2_w 61, 3) := by decide +kernel
theorem dX12_sailorClimbs_30 : decode cX12_sailorClimbs 30 = .ok (.iload_n 2, 1) := by decide +kernel
theorem dX12_sailorClimbs_31 : decode cX12_sailorClimbs 31 = .ok (.i2l, 1) := by decide +kernel
theorem dX12_sailorClimbs_32 : decode cX12_sailorClimbs 32 = .ok (.lmul, 1) := by decide +kernel
theorem dX12_sailorClimbs_33 : decode cX12_sailorClimbs 33 = .ok (.lreturn, 1) := by decide +kernel
theorem dX12_mateClimbs_0 : decode cX12_mateClimbs 0 = .ok (.aload_n 0, 1) := by decide +kernel
theorem dX12_mateClimbs_1 : decode cX12_mateClimbs 1 = .ok (.bipush 42, 2) := by decide +kernel
theorem dX12_mateClimbs_3 : decode cX12_mateClimbs 3 = .ok (.invokevirtual 49, 3) := by decide +kernel
theorem dX12_mateClimbs_6 : decode cX12_mateClimbs 6 = .ok (.aload_n 0, 1) := by decide +kernel
theorem dX12_mateClimbs_7 : decode cX12_mateClimbs 7 = .ok (.iload_n 1, 1) := by decide +kernel
theorem dX12_mateClimbs_8 : decode cX12_mateClimbs 8 = .ok (.iload_n 2, 1) := by decide +kernel
theorem dX12_mateClimbs_9 : decode cX12_mateClimbs 9 = .ok (.invokevirtual 102, 3) := by decide +kernel
theorem dX12_mateClimbs_12 : decode cX12_mateClimbs 12 = .ok (.lstore_n 3, 1) := by decide +kernel
theorem dX12_mateClimbs_13 : decode cX12_mateClimbs 13 = .ok (.lload_n 3, 1) := by decide +kernel
theorem dX12_mateClimbs_14 : decode cX12_mateClimbs 14 = .ok (.ldc2_w 97, 3) := by decide +kernel
theorem dX12_mateClimbs_17 : decode cX12_mateClimbs 17 = .ok (.lcmp, 1) := by decide +kernel
theorem dX12_mateClimbs_18 : decode cX12_mateClimbs 18 = .ok (.ifCond .ne 9, 3) := by decide +kernel
theorem dX12_mateClimbs_21 : decode cX12_mateClimbs 21 = .ok (.ldc2_w 97, 3) := by decide +kernel
theorem dX12_mateClimbs_24 : decode cX12_mateClimbs 24 = .ok (.goto 6, 3) := by decide +kernel
theorem dX12_mateClimbs_27 : decode cX12_mateClimbs 27 = .ok (.lload_n 3, 1) := by decide +kernel
theorem dX12_mateClimbs_28 : decode cX12_mateClimbs 28 = .ok (.lconst 1, 1) := by decide +kernel
theorem dX12_mateClimbs_29 : decode cX12_mateClimbs 29 = .ok (.ladd, 1) := by decide +kernel
theorem dX12_mateClimbs_30 : decode cX12_mateClimbs 30 = .ok (.lreturn, 1) := by decide +kernel
theorem dX12_surgeonClimbs_0 : decode cX12_surgeonClimbs 0 = .ok (.aload_n 0, 1) := by decide +kernel
theorem dX12_surgeonClimbs_1 : decode cX12_surgeonClimbs 1 = .ok (.bipush 72, 2) := by decide +kernel
theorem dX12_surgeonClimbs_3 : decode cX12_surgeonClimbs 3 = .ok (.invokevirtual 49, 3) := by decide +kernel
theorem dX12_surgeonClimbs_6 : decode cX12_surgeonClimbs 6 = .ok (.aload_n 0, 1) := by decide +kernel
theorem dX12_surgeonClimbs_7 : decode cX12_surgeonClimbs 7 = .ok (.iload_n 1, 1) := by decide +kernel
theorem dX12_surgeonClimbs_8 : decode cX12_surgeonClimbs 8 = .ok (.iload_n 2, 1) := by decide +kernel
theorem dX12_surgeonClimbs_9 : decode cX12_surgeonClimbs 9 = .ok (.iconst 2, 1) := by decide +kernel
theorem dX12_surgeonClimbs_10 : decode cX12_surgeonClimbs 10 = .ok (.idiv, 1) := by decide +kernel
theorem dX12_surgeonClimbs_11 : decode cX12_surgeonClimbs 11 = .ok (.invokevirtual 99, 3) := by decide +kernel
theorem dX12_surgeonClimbs_14 : decode cX12_surgeonClimbs 14 = .ok (.lreturn, 1) := by decide +kernel
theorem dX12_climbs_0 : decode cX12_climbs 0 = .ok (.aload_n 0, 1) := by decide +kernel
theorem dX12_climbs_1 : decode cX12_climbs 1 = .ok (.getfield 7, 3) := by decide +kernel
theorem dX12_climbs_4 : decode cX12_climbs 4 = .ok (.iload_n 1, 1) := by decide +kernel
theorem dX12_climbs_5 : decode cX12_climbs 5 = .ok (.iaload, 1) := by decide +kernel
theorem dX12_climbs_6 : decode cX12_climbs 6 = .ok (.tableswitch 63 1 7 #[42, 42, 42, 49, 49, 63, 56], 42) := by decide +kernel
theorem dX12_climbs_48 : decode cX12_climbs 48 = .ok (.aload_n 0, 1) := by decide +kernel
theorem dX12_climbs_49 : decode cX12_climbs 49 = .ok (.iload_n 1, 1) := by decide +kernel
theorem dX12_climbs_50 : decode cX12_climbs 50 = .ok (.iload_n 2, 1) := by decide +kernel
theorem dX12_climbs_51 : decode cX12_climbs 51 = .ok (.invokevirtual 102, 3) := by decide +kernel
theorem dX12_climbs_54 : decode cX12_climbs 54 = .ok (.lreturn, 1) := by decide +kernel
theorem dX12_climbs_55 : decode cX12_climbs 55 = .ok (.aload_n 0, 1) := by decide +kernel
theorem dX12_climbs_56 : decode cX12_climbs 56 = .ok (.iload_n 1, 1) := by decide +kernel
theorem dX12_climbs_57 : decode cX12_climbs 57 = .ok (.iload_n 2, 1) := by decide +kernel
theorem dX12_climbs_58 : decode cX12_climbs 58 = .ok (.invokevirtual 105, 3) := by decide +kernel
theorem dX12_climbs_61 : decode cX12_climbs 61 = .ok (.lreturn, 1) := by decide +kernel
theorem dX12_climbs_62 : decode cX12_climbs 62 = .ok (.aload_n 0, 1) := by decide +kernel
theorem dX12_climbs_63 : decode cX12_climbs 63 = .ok (.iload_n 1, 1) := by decide +kernel
theorem dX12_climbs_64 : decode cX12_climbs 64 = .ok (.iload_n 2, 1) := by decide +kernel
theorem dX12_climbs_65 : decode cX12_climbs 65 = .ok (.invokevirtual 108, 3) := by decide +kernel
theorem dX12_climbs_68 : decode cX12_climbs 68 = .ok (.lreturn, 1) := by decide +kernel
theorem dX12_climbs_69 : decode cX12_climbs 69 = .ok (.aload_n 0, 1) := by decide +kernel
theorem dX12_climbs_70 : decode cX12_climbs 70 = .ok (.iload_n 1, 1) := by decide +kernel
theorem dX12_climbs_71 : decode cX12_climbs 71 = .ok (.iload_n 2, 1) := by decide +kernel
theorem dX12_climbs_72 : decode cX12_climbs 72 = .ok (.invokevirtual 99, 3) := by decide +kernel
theorem dX12_climbs_75 : decode cX12_climbs 75 = .ok (.lreturn, 1) := by decide +kernel
theorem dX12_soulHeeds_0 : decode cX12_soulHeeds 0 = .ok (.aload_n 0, 1) := by decide +kernel
theorem dX12_soulHeeds_1 : decode cX12_soulHeeds 1 = .ok (.bipush 83, 2) := by decide +kernel
theorem dX12_soulHeeds_3 : decode cX12_soulHeeds 3 = .ok (.invokevirtual 49, 3) := by decide +kernel
theorem dX12_soulHeeds_6 : decode cX12_soulHeeds 6 = .ok (.ldc2_w 111, 3) := by decide +kernel
theorem dX12_soulHeeds_9 : decode cX12_soulHeeds 9 = .ok (.iload_n 2, 1) := by decide +kernel
theorem dX12_soulHeeds_10 : decode cX12_soulHeeds 10 = .ok (.i2l, 1) := by decide +kernel
theorem dX12_soulHeeds_11 : decode cX12_soulHeeds 11 = .ok (.lmul, 1) := by decide +kernel
theorem dX12_soulHeeds_12 : decode cX12_soulHeeds 12 = .ok (.iload_n 1, 1) := by decide +kernel
theorem dX12_soulHeeds_13 : decode cX12_soulHeeds 13 = .ok (.i2l, 1) := by decide +kernel
theorem dX12_soulHeeds_14 : decode cX12_soulHeeds 14 = .ok (.ladd, 1) := by decide +kernel
theorem dX12_soulHeeds_15 : decode cX12_soulHeeds 15 = .ok (.ldc2_w 113, 3) := by decide +kernel
theorem dX12_soulHeeds_18 : decode cX12_soulHeeds 18 = .ok (.lrem, 1) := by decide +kernel
theorem dX12_soulHeeds_19 : decode cX12_soulHeeds 19 = .ok (.lreturn, 1) := by decide +kernel
theorem dX12_topmanHeeds_0 : decode cX12_topmanHeeds 0 = .ok (.aload_n 0, 1) := by decide +kernel
theorem dX12_topmanHeeds_1 : decode cX12_topmanHeeds 1 = .ok (.bipush 23, 2) := by decide +kernel
theorem dX12_topmanHeeds_3 : decode cX12_topmanHeeds 3 = .ok (.invokevirtual 49, 3) := by decide +kernel
theorem dX12_topmanHeeds_6 : decode cX12_topmanHeeds 6 = .ok (.iload_n 2, 1) := by decide +kernel
theorem dX12_topmanHeeds_7 : decode cX12_topmanHeeds 7 = .ok (.iconst 2, 1) := by decide +kernel
theorem dX12_topmanHeeds_8 : decode cX12_topmanHeeds 8 = .ok (.irem, 1) := by decide +kernel
theorem dX12_topmanHeeds_9 : decode cX12_topmanHeeds 9 = .ok (.ifCond .ne 16, 3) := by decide +kernel
theorem dX12_topmanHeeds_12 : decode cX12_topmanHeeds 12 = .ok (.aload_n 0, 1) := by decide +kernel
theorem dX12_topmanHeeds_13 : decode cX12_topmanHeeds 13 = .ok (.iload_n 1, 1) := by decide +kernel
theorem dX12_topmanHeeds_14 : decode cX12_topmanHeeds 14 = .ok (.iload_n 2, 1) := by decide +kernel
theorem dX12_topmanHeeds_15 : decode cX12_topmanHeeds 15 = .ok (.invokevirtual 115, 3) := by decide +kernel
theorem dX12_topmanHeeds_18 : decode cX12_topmanHeeds 18 = .ok (.ldc2_w 113, 3) := by decide +kernel
theorem dX12_topmanHeeds_21 : decode cX12_topmanHeeds 21 = .ok (.ladd, 1) := by decide +kernel
theorem dX12_topmanHeeds_22 : decode cX12_topmanHeeds 22 = .ok (.goto 5, 3) := by decide +kernel
theorem dX12_topmanHeeds_25 : decode cX12_topmanHeeds 25 = .ok (.iload_n 2, 1) := by decide +kernel
theorem dX12_topmanHeeds_26 : decode cX12_topmanHeeds 26 = .ok (.i2l, 1) := by decide +kernel
theorem dX12_topmanHeeds_27 : decode cX12_topmanHeeds 27 = .ok (.lreturn, 1) := by decide +kernel
theorem dX12_bosunHeeds_0 : decode cX12_bosunHeeds 0 = .ok (.aload_n 0, 1) := by decide +kernel
theorem dX12_bosunHeeds_1 : decode cX12_bosunHeeds 1 = .ok (.bipush 33, 2) := by decide +kernel
theorem dX12_bosunHeeds_3 : decode cX12_bosunHeeds 3 = .ok (.invokevirtual 49, 3) := by decide +kernel
theorem dX12_bosunHeeds_6 : decode cX12_bosunHeeds 6 = .ok (.aload_n 0, 1) := by decide +kernel
theorem dX12_bosunHeeds_7 : decode cX12_bosunHeeds 7 = .ok (.iload_n 1, 1) := by decide +kernel
theorem dX12_bosunHeeds_8 : decode cX12_bosunHeeds 8 = .ok (.iload_n 2, 1) := by decide +kernel
theorem dX12_bosunHeeds_9 : decode cX12_bosunHeeds 9 = .ok (.invokevirtual 118, 3) := by decide +kernel
theorem dX12_bosunHeeds_12 : decode cX12_bosunHeeds 12 = .ok (.lstore_n 3, 1) := by decide +kernel
theorem dX12_bosunHeeds_13 : decode cX12_bosunHeeds 13 = .ok (.iconst 0, 1) := by decide +kernel
theorem dX12_bosunHeeds_14 : decode cX12_bosunHeeds 14 = .ok (.istore 5, 2) := by decide +kernel
theorem dX12_bosunHeeds_16 : decode cX12_bosunHeeds 16 = .ok (.iload 5, 2) := by decide +kernel
theorem dX12_bosunHeeds_18 : decode cX12_bosunHeeds 18 = .ok (.aload_n 0, 1) := by decide +kernel
theorem dX12_bosunHeeds_19 : decode cX12_bosunHeeds 19 = .ok (.getfield 38, 3) := by decide +kernel
theorem dX12_bosunHeeds_22 : decode cX12_bosunHeeds 22 = .ok (.if_icmp .ge 54, 3) := by decide +kernel
theorem dX12_bosunHeeds_25 : decode cX12_bosunHeeds 25 = .ok (.aload_n 0, 1) := by decide +kernel
theorem dX12_bosunHeeds_26 : decode cX12_bosunHeeds 26 = .ok (.getfield 7, 3) := by decide +kernel
theorem dX12_bosunHeeds_29 : decode cX12_bosunHeeds 29 = .ok (.iload 5, 2) := by decide +kernel
theorem dX12_bosunHeeds_31 : decode cX12_bosunHeeds 31 = .ok (.iaload, 1) := by decide +kernel
theorem dX12_bosunHeeds_32 : decode cX12_bosunHeeds 32 = .ok (.iconst 2, 1) := by decide +kernel
theorem dX12_bosunHeeds_33 : decode cX12_bosunHeeds 33 = .ok (.if_icmp .ge 16, 3) := by decide +kernel
theorem dX12_bosunHeeds_36 : decode cX12_bosunHeeds 36 = .ok (.lload_n 3, 1) := by decide +kernel
theorem dX12_bosunHeeds_37 : decode cX12_bosunHeeds 37 = .ok (.aload_n 0, 1) := by decide +kernel
theorem dX12_bosunHeeds_38 : decode cX12_bosunHeeds 38 = .ok (.iload 5, 2) := by decide +kernel
theorem dX12_bosunHeeds_40 : decode cX12_bosunHeeds 40 = .ok (.iload_n 2, 1) := by decide +kernel
theorem dX12_bosunHeeds_41 : decode cX12_bosunHeeds 41 = .ok (.invokevirtual 115, 3) := by decide +kernel
theorem dX12_bosunHeeds_44 : decode cX12_bosunHeeds 44 = .ok (.ladd, 1) := by decide +kernel
theorem dX12_bosunHeeds_45 : decode cX12_bosunHeeds 45 = .ok (.lstore_n 3, 1) := by decide +kernel
theorem dX12_bosunHeeds_46 : decode cX12_bosunHeeds 46 = .ok (.goto 24, 3) := by decide +kernel
theorem dX12_bosunHeeds_49 : decode cX12_bosunHeeds 49 = .ok (.aload_n 0, 1) := by decide +kernel
theorem dX12_bosunHeeds_50 : decode cX12_bosunHeeds 50 = .ok (.getfield 7, 3) := by decide +kernel
theorem dX12_bosunHeeds_53 : decode cX12_bosunHeeds 53 = .ok (.iload 5, 2) := by decide +kernel
theorem dX12_bosunHeeds_55 : decode cX12_bosunHeeds 55 = .ok (.iaload, 1) := by decide +kernel
theorem dX12_bosunHeeds_56 : decode cX12_bosunHeeds 56 = .ok (.iconst 2, 1) := by decide +kernel
theorem dX12_bosunHeeds_57 : decode cX12_bosunHeeds 57 = .ok (.if_icmp .ne 13, 3) := by decide +kernel
theorem dX12_bosunHeeds_60 : decode cX12_bosunHeeds 60 = .ok (.lload_n 3, 1) := by decide +kernel
theorem dX12_bosunHeeds_61 : decode cX12_bosunHeeds 61 = .ok (.aload_n 0, 1) := by decide +kernel
theorem dX12_bosunHeeds_62 : decode cX12_bosunHeeds 62 = .ok (.iload 5, 2) := by decide +kernel
theorem dX12_bosunHeeds_64 : decode cX12_bosunHeeds 64 = .ok (.iload_n 2, 1) := by decide +kernel
theorem dX12_bosunHeeds_65 : decode cX12_bosunHeeds 65 = .ok (.invokevirtual 118, 3) := by decide +kernel
theorem dX12_bosunHeeds_68 : decode cX12_bosunHeeds 68 = .ok (.ladd, 1) := by decide +kernel
theorem dX12_bosunHeeds_69 : decode cX12_bosunHeeds 69 = .ok (.lstore_n 3, 1) := by decide +kernel
theorem dX12_bosunHeeds_70 : decode cX12_bosunHeeds 70 = .ok (.iinc 5 1, 3) := by decide +kernel
theorem dX12_bosunHeeds_73 : decode cX12_bosunHeeds 73 = .ok (.goto (-57), 3) := by decide +kernel
theorem dX12_bosunHeeds_76 : decode cX12_bosunHeeds 76 = .ok (.lload_n 3, 1) := by decide +kernel
theorem dX12_bosunHeeds_77 : decode cX12_bosunHeeds 77 = .ok (.lreturn, 1) := by decide +kernel
theorem dX12_masterHeeds_0 : decode cX12_masterHeeds 0 = .ok (.aload_n 0, 1) := by decide +kernel
theorem dX12_masterHeeds_1 : decode cX12_masterHeeds 1 = .ok (.bipush 53, 2) := by decide +kernel
theorem dX12_masterHeeds_3 : decode cX12_masterHeeds 3 = .ok (.invokevirtual 49, 3) := by decide +kernel
theorem dX12_masterHeeds_6 : decode cX12_masterHeeds 6 = .ok (.aload_n 0, 1) := by decide +kernel
theorem dX12_masterHeeds_7 : decode cX12_masterHeeds 7 = .ok (.getfield 16, 3) := by decide +kernel
theorem dX12_masterHeeds_10 : decode cX12_masterHeeds 10 = .ok (.iload_n 1, 1) := by decide +kernel
theorem dX12_masterHeeds_11 : decode cX12_masterHeeds 11 = .ok (.iaload, 1) := by decide +kernel
theorem dX12_masterHeeds_12 : decode cX12_masterHeeds 12 = .ok (.sipush 700, 3) := by decide +kernel
theorem dX12_masterHeeds_15 : decode cX12_masterHeeds 15 = .ok (.if_icmp .lt 9, 3) := by decide +kernel
theorem dX12_masterHeeds_18 : decode cX12_masterHeeds 18 = .ok (.ldc2_w 121, 3) := by decide +kernel
theorem dX12_masterHeeds_21 : decode cX12_masterHeeds 21 = .ok (.goto 11, 3) := by decide +kernel
theorem dX12_masterHeeds_24 : decode cX12_masterHeeds 24 = .ok (.aload_n 0, 1) := by decide +kernel
theorem dX12_masterHeeds_25 : decode cX12_masterHeeds 25 = .ok (.iload_n 1, 1) := by decide +kernel
theorem dX12_masterHeeds_26 : decode cX12_masterHeeds 26 = .ok (.iload_n 2, 1) := by decide +kernel
theorem dX12_masterHeeds_27 : decode cX12_masterHeeds 27 = .ok (.iconst 1, 1) := by decide +kernel
theorem dX12_masterHeeds_28 : decode cX12_masterHeeds 28 = .ok (.iadd, 1) := by decide +kernel
theorem dX12_masterHeeds_29 : decode cX12_masterHeeds 29 = .ok (.invokevirtual 123, 3) := by decide +kernel
theorem dX12_masterHeeds_32 : decode cX12_masterHeeds 32 = .ok (.lreturn, 1) := by decide +kernel
theorem dX12_cookHeeds_0 : decode cX12_cookHeeds 0 = .ok (.aload_n 0, 1) := by decide +kernel
theorem dX12_cookHeeds_1 : decode cX12_cookHeeds 1 = .ok (.bipush 63, 2) := by decide +kernel
theorem dX12_cookHeeds_3 : decode cX12_cookHeeds 3 = .ok (.invokevirtual 49, 3) := by decide +kernel
theorem dX12_cookHeeds_6 : decode cX12_cookHeeds 6 = .ok (.aload_n 0, 1) := by decide +kernel
theorem dX12_cookHeeds_7 : decode cX12_cookHeeds 7 = .ok (.iload_n 1, 1) := by decide +kernel
theorem dX12_cookHeeds_8 : decode cX12_cookHeeds 8 = .ok (.iload_n 2, 1) := by decide +kernel
theorem dX12_cookHeeds_9 : decode cX12_cookHeeds 9 = .ok (.invokevirtual 115, 3) := by decide +kernel
theorem dX12_cookHeeds_12 : decode cX12_cookHeeds 12 = .ok (.lneg, 1) := by decide +kernel
theorem dX12_cookHeeds_13 : decode cX12_cookHeeds 13 = .ok (.lreturn, 1) := by decide +kernel
theorem dX12_heeds_0 : decode cX12_heeds 0 = .ok (.aload_n 0, 1) := by decide +kernel
theorem dX12_heeds_1 : decode cX12_heeds 1 = .ok (.getfield 7, 3) := by decide +kernel
theorem dX12_heeds_4 : decode cX12_heeds 4 = .ok (.iload_n 1, 1) := by decide +kernel
theorem dX12_heeds_5 : decode cX12_heeds 5 = .ok (.iaload, 1) := by decide +kernel
theorem dX12_heeds_6 : decode cX12_heeds 6 = .ok (.tableswitch 66 0 5 #[38, 38, 45, 52, 52, 59], 38) := by decide +kernel
theorem dX12_heeds_44 : decode cX12_heeds 44 = .ok (.aload_n 0, 1) := by decide +kernel
theorem dX12_heeds_45 : decode cX12_heeds 45 = .ok (.iload_n 1, 1) := by decide +kernel
theorem dX12_heeds_46 : decode cX12_heeds 46 = .ok (.iload_n 2, 1) := by decide +kernel
theorem dX12_heeds_47 : decode cX12_heeds 47 = .ok (.invokevirtual 115, 3) := by decide +kernel
theorem dX12_heeds_50 : decode cX12_heeds 50 = .ok (.lreturn, 1) := by decide +kernel
theorem dX12_heeds_51 : decode cX12_heeds 51 = .ok (.aload_n 0, 1) := by decide +kernel
theorem dX12_heeds_52 : decode cX12_heeds 52 = .ok (.iload_n 1, 1) := by decide +kernel
theorem dX12_heeds_53 : decode cX12_heeds 53 = .ok (.iload_n 2, 1) := by decide +kernel
theorem dX12_heeds_54 : decode cX12_heeds 54 = .ok (.invokevirtual 118, 3) := by decide +kernel
theorem dX12_heeds_57 : decode cX12_heeds 57 = .ok (.lreturn, 1) := by decide +kernel
theorem dX12_heeds_58 : decode cX12_heeds 58 = .ok (.aload_n 0, 1) := by decide +kernel
theorem dX12_heeds_59 : decode cX12_heeds 59 = .ok (.iload_n 1, 1) := by decide +kernel
theorem dX12_heeds_60 : decode cX12_heeds 60 = .ok (.iload_n 2, 1) := by decide +kernel
theorem dX12_heeds_61 : decode cX12_heeds 61 = .ok (.invokevirtual 123, 3) := by decide +kernel
theorem dX12_heeds_64 : decode cX12_heeds 64 = .ok (.lreturn, 1) := by decide +kernel
theorem dX12_heeds_65 : decode cX12_heeds 65 = .ok (.aload_n 0, 1) := by decide +kernel
theorem dX12_heeds_66 : decode cX12_heeds 66 = .ok (.iload_n 1, 1) := by decide +kernel
theorem dX12_heeds_67 : decode cX12_heeds 67 = .ok (.iload_n 2, 1) := by decide +kernel
theorem dX12_heeds_68 : decode cX12_heeds 68 = .ok (.invokevirtual 126, 3) := by decide +kernel
theorem dX12_heeds_71 : decode cX12_heeds 71 = .ok (.lreturn, 1) := by decide +kernel
theorem dX12_heeds_72 : decode cX12_heeds 72 = .ok (.aload_n 0, 1) := by decide +kernel
theorem dX12_heeds_73 : decode cX12_heeds 73 = .ok (.iload_n 1, 1) := by decide +kernel
theorem dX12_heeds_74 : decode cX12_heeds 74 = .ok (.iload_n 2, 1) := by decide +kernel
theorem dX12_heeds_75 : decode cX12_heeds 75 = .ok (.invokevirtual 129, 3) := by decide +kernel
theorem dX12_heeds_78 : decode cX12_heeds 78 = .ok (.lreturn, 1) := by decide +kernel
theorem dX12_does_0 : decode cX12_does 0 = .ok (.iload_n 1, 1) := by decide +kernel
theorem dX12_does_1 : decode cX12_does 1 = .ok (.tableswitch 48 0 2 #[27, 34, 41], 27) := by decide +kernel
theorem dX12_does_28 : decode cX12_does 28 = .ok (.aload_n 0, 1) := by decide +kernel
theorem dX12_does_29 : decode cX12_does 29 = .ok (.iload_n 2, 1) := by decide +kernel
theorem dX12_does_30 : decode cX12_does 30 = .ok (.iload_n 3, 1) := by decide +kernel
theorem dX12_does_31 : decode cX12_does 31 = .ok (.invokevirtual 132, 3) := by decide +kernel
theorem dX12_does_34 : decode cX12_does 34 = .ok (.lreturn, 1) := by decide +kernel
theorem dX12_does_35 : decode cX12_does 35 = .ok (.aload_n 0, 1) := by decide +kernel
theorem dX12_does_36 : decode cX12_does 36 = .ok (.iload_n 2, 1) := by decide +kernel
theorem dX12_does_37 : decode cX12_does 37 = .ok (.iload_n 3, 1) := by decide +kernel
theorem dX12_does_38 : decode cX12_does 38 = .ok (.invokevirtual 135, 3) := by decide +kernel
theorem dX12_does_41 : decode cX12_does 41 = .ok (.lreturn, 1) := by decide +kernel
theorem dX12_does_42 : decode cX12_does 42 = .ok (.aload_n 0, 1) := by decide +kernel
theorem dX12_does_43 : decode cX12_does 43 = .ok (.iload_n 2, 1) := by decide +kernel
theorem dX12_does_44 : decode cX12_does 44 = .ok (.iload_n 3, 1) := by decide +kernel
theorem dX12_does_45 : decode cX12_does 45 = .ok (.invokevirtual 138, 3) := by decide +kernel
theorem dX12_does_48 : decode cX12_does 48 = .ok (.lreturn, 1) := by decide +kernel
theorem dX12_does_49 : decode cX12_does 49 = .ok (.aload_n 0, 1) := by decide +kernel
theorem dX12_does_50 : decode cX12_does 50 = .ok (.iload_n 2, 1) := by decide +kernel
theorem dX12_does_51 : decode cX12_does 51 = .ok (.iload_n 3, 1) := by decide +kernel
theorem dX12_does_52 : decode cX12_does 52 = .ok (.invokevirtual 141, 3) := by decide +kernel
theorem dX12_does_55 : decode cX12_does 55 = .ok (.lreturn, 1) := by decide +kernel
theorem dX12_work_0 : decode cX12_work 0 = .ok (.aload_n 0, 1) := by decide +kernel
theorem dX12_work_1 : decode cX12_work 1 = .ok (.iload_n 1, 1) := by decide +kernel
theorem dX12_work_2 : decode cX12_work 2 = .ok (.iload_n 2, 1) := by decide +kernel
theorem dX12_work_3 : decode cX12_work 3 = .ok (.iload_n 3, 1) := by decide +kernel
theorem dX12_work_4 : decode cX12_work 4 = .ok (.invokevirtual 144, 3) := by decide +kernel
theorem dX12_work_7 : decode cX12_work 7 = .ok (.lstore 5, 2) := by decide +kernel
theorem dX12_work_9 : decode cX12_work 9 = .ok (.iload_n 1, 1) := by decide +kernel
theorem dX12_work_10 : decode cX12_work 10 = .ok (.iconst 1, 1) := by decide +kernel
theorem dX12_work_11 : decode cX12_work 11 = .ok (.if_icmp .ne 19, 3) := by decide +kernel
theorem dX12_work_14 : decode cX12_work 14 = .ok (.iload 4, 2) := by decide +kernel
theorem dX12_work_16 : decode cX12_work 16 = .ok (.ifCond .eq 14, 3) := by decide +kernel
theorem dX12_work_19 : decode cX12_work 19 = .ok (.aload_n 0, 1) := by decide +kernel
theorem dX12_work_20 : decode cX12_work 20 = .ok (.getfield 19, 3) := by decide +kernel
theorem dX12_work_23 : decode cX12_work 23 = .ok (.iload_n 2, 1) := by decide +kernel
theorem dX12_work_24 : decode cX12_work 24 = .ok (.dup2, 1) := by decide +kernel
theorem dX12_work_25 : decode cX12_work 25 = .ok (.laload, 1) := by decide +kernel
theorem dX12_work_26 : decode cX12_work 26 = .ok (.lload 5, 2) := by decide +kernel
theorem dX12_work_28 : decode cX12_work 28 = .ok (.ladd, 1) := by decide +kernel
theorem dX12_work_29 : decode cX12_work 29 = .ok (.lastore, 1) := by decide +kernel
theorem dX12_work_30 : decode cX12_work 30 = .ok (.lload 5, 2) := by decide +kernel
theorem dX12_work_32 : decode cX12_work 32 = .ok (.lreturn, 1) := by decide +kernel
theorem dX12_may_0 : decode cX12_may 0 = .ok (.aload_n 0, 1) := by decide +kernel
theorem dX12_may_1 : decode cX12_may 1 = .ok (.iload_n 2, 1) := by decide +kernel
theorem dX12_may_2 : decode cX12_may 2 = .ok (.invokevirtual 148, 3) := by decide +kernel
theorem dX12_may_5 : decode cX12_may 5 = .ok (.ifCond .eq 15, 3) := by decide +kernel
theorem dX12_may_8 : decode cX12_may 8 = .ok (.iload_n 1, 1) := by decide +kernel
theorem dX12_may_9 : decode cX12_may 9 = .ok (.iload_n 3, 1) := by decide +kernel
theorem dX12_may_10 : decode cX12_may 10 = .ok (.invokestatic 152, 3) := by decide +kernel
theorem dX12_may_13 : decode cX12_may 13 = .ok (.ifCond .eq 7, 3) := by decide +kernel
theorem dX12_may_16 : decode cX12_may 16 = .ok (.iconst 1, 1) := by decide +kernel
theorem dX12_may_17 : decode cX12_may 17 = .ok (.goto 4, 3) := by decide +kernel
theorem dX12_may_20 : decode cX12_may 20 = .ok (.iconst 0, 1) := by decide +kernel
theorem dX12_may_21 : decode cX12_may 21 = .ok (.ireturn, 1) := by decide +kernel
theorem dX12_begin_0 : decode cX12_begin 0 = .ok (.aload_n 0, 1) := by decide +kernel
theorem dX12_begin_1 : decode cX12_begin 1 = .ok (.iload_n 1, 1) := by decide +kernel
theorem dX12_begin_2 : decode cX12_begin 2 = .ok (.iload_n 2, 1) := by decide +kernel
theorem dX12_begin_3 : decode cX12_begin 3 = .ok (.iload_n 3, 1) := by decide +kernel
theorem dX12_begin_4 : decode cX12_begin 4 = .ok (.invokevirtual 156, 3) := by decide +kernel
theorem dX12_begin_7 : decode cX12_begin 7 = .ok (.ifCond .ne 7, 3) := by decide +kernel
theorem dX12_begin_10 : decode cX12_begin 10 = .ok (.ldc2_w 160, 3) := by decide +kernel
theorem dX12_begin_13 : decode cX12_begin 13 = .ok (.lreturn, 1) := by decide +kernel
theorem dX12_begin_14 : decode cX12_begin 14 = .ok (.aload_n 0, 1) := by decide +kernel
theorem dX12_begin_15 : decode cX12_begin 15 = .ok (.iconst 0, 1) := by decide +kernel
theorem dX12_begin_16 : decode cX12_begin 16 = .ok (.putfield 46, 3) := by decide +kernel
theorem dX12_begin_19 : decode cX12_begin 19 = .ok (.aload_n 0, 1) := by decide +kernel
theorem dX12_begin_20 : decode cX12_begin 20 = .ok (.iload_n 1, 1) := by decide +kernel
theorem dX12_begin_21 : decode cX12_begin 21 = .ok (.iload_n 2, 1) := by decide +kernel
theorem dX12_begin_22 : decode cX12_begin 22 = .ok (.iload_n 3, 1) := by decide +kernel
theorem dX12_begin_23 : decode cX12_begin 23 = .ok (.iconst 1, 1) := by decide +kernel
theorem dX12_begin_24 : decode cX12_begin 24 = .ok (.invokevirtual 162, 3) := by decide +kernel
theorem dX12_begin_27 : decode cX12_begin 27 = .ok (.lreturn, 1) := by decide +kernel
theorem dX12_enlist_0 : decode cX12_enlist 0 = .ok (.iload_n 1, 1) := by decide +kernel
theorem dX12_enlist_1 : decode cX12_enlist 1 = .ok (.ifCond .lt 28, 3) := by decide +kernel
theorem dX12_enlist_4 : decode cX12_enlist 4 = .ok (.iload_n 1, 1) := by decide +kernel
theorem dX12_enlist_5 : decode cX12_enlist 5 = .ok (.bipush 7, 2) := by decide +kernel
theorem dX12_enlist_7 : decode cX12_enlist 7 = .ok (.if_icmp .gt 22, 3) := by decide +kernel
theorem dX12_enlist_10 : decode cX12_enlist 10 = .ok (.iload_n 2, 1) := by decide +kernel
theorem dX12_enlist_11 : decode cX12_enlist 11 = .ok (.ifCond .lt 18, 3) := by decide +kernel
theorem dX12_enlist_14 : decode cX12_enlist 14 = .ok (.iload_n 2, 1) := by decide +kernel
theorem dX12_enlist_15 : decode cX12_enlist 15 = .ok (.bipush 99, 2) := by decide +kernel
theorem dX12_enlist_17 : decode cX12_enlist 17 = .ok (.if_icmp .gt 12, 3) := by decide +kernel
theorem dX12_enlist_20 : decode cX12_enlist 20 = .ok (.aload_n 0, 1) := by decide +kernel
theorem dX12_enlist_21 : decode cX12_enlist 21 = .ok (.getfield 38, 3) := by decide +kernel
theorem dX12_enlist_24 : decode cX12_enlist 24 = .ok (.bipush 12, 2) := by decide +kernel
theorem dX12_enlist_26 : decode cX12_enlist 26 = .ok (.if_icmp .ne 6, 3) := by decide +kernel
theorem dX12_enlist_29 : decode cX12_enlist 29 = .ok (.ldc 166, 2) := by decide +kernel
theorem dX12_enlist_31 : decode cX12_enlist 31 = .ok (.ireturn, 1) := by decide +kernel
theorem dX12_enlist_32 : decode cX12_enlist 32 = .ok (.aload_n 0, 1) := by decide +kernel
theorem dX12_enlist_33 : decode cX12_enlist 33 = .ok (.getfield 38, 3) := by decide +kernel
theorem dX12_enlist_36 : decode cX12_enlist 36 = .ok (.istore_n 3, 1) := by decide +kernel
theorem dX12_enlist_37 : decode cX12_enlist 37 = .ok (.aload_n 0, 1) := by decide +kernel
theorem dX12_enlist_38 : decode cX12_enlist 38 = .ok (.getfield 7, 3) := by decide +kernel
theorem dX12_enlist_41 : decode cX12_enlist 41 = .ok (.iload_n 3, 1) := by decide +kernel
theorem dX12_enlist_42 : decode cX12_enlist 42 = .ok (.iload_n 1, 1) := by decide +kernel
theorem dX12_enlist_43 : decode cX12_enlist 43 = .ok (.iastore, 1) := by decide +kernel
theorem dX12_enlist_44 : decode cX12_enlist 44 = .ok (.aload_n 0, 1) := by decide +kernel
theorem dX12_enlist_45 : decode cX12_enlist 45 = .ok (.getfield 13, 3) := by decide +kernel
theorem dX12_enlist_48 : decode cX12_enlist 48 = .ok (.iload_n 3, 1) := by decide +kernel
theorem dX12_enlist_49 : decode cX12_enlist 49 = .ok (.iload_n 2, 1) := by decide +kernel
theorem dX12_enlist_50 : decode cX12_enlist 50 = .ok (.iastore, 1) := by decide +kernel
theorem dX12_enlist_51 : decode cX12_enlist 51 = .ok (.aload_n 0, 1) := by decide +kernel
theorem dX12_enlist_52 : decode cX12_enlist 52 = .ok (.getfield 16, 3) := by decide +kernel
theorem dX12_enlist_55 : decode cX12_enlist 55 = .ok (.iload_n 3, 1) := by decide +kernel
theorem dX12_enlist_56 : decode cX12_enlist 56 = .ok (.iconst 0, 1) := by decide +kernel
theorem dX12_enlist_57 : decode cX12_enlist 57 = .ok (.iastore, 1) := by decide +kernel
theorem dX12_enlist_58 : decode cX12_enlist 58 = .ok (.aload_n 0, 1) := by decide +kernel
theorem dX12_enlist_59 : decode cX12_enlist 59 = .ok (.getfield 19, 3) := by decide +kernel
theorem dX12_enlist_62 : decode cX12_enlist 62 = .ok (.iload_n 3, 1) := by decide +kernel
theorem dX12_enlist_63 : decode cX12_enlist 63 = .ok (.lconst 0, 1) := by decide +kernel
theorem dX12_enlist_64 : decode cX12_enlist 64 = .ok (.lastore, 1) := by decide +kernel
theorem dX12_enlist_65 : decode cX12_enlist 65 = .ok (.aload_n 0, 1) := by decide +kernel
theorem dX12_enlist_66 : decode cX12_enlist 66 = .ok (.dup, 1) := by decide +kernel
theorem dX12_enlist_67 : decode cX12_enlist 67 = .ok (.getfield 38, 3) := by decide +kernel
theorem dX12_enlist_70 : decode cX12_enlist 70 = .ok (.iconst 1, 1) := by decide +kernel
theorem dX12_enlist_71 : decode cX12_enlist 71 = .ok (.iadd, 1) := by decide +kernel
theorem dX12_enlist_72 : decode cX12_enlist 72 = .ok (.putfield 38, 3) := by decide +kernel
theorem dX12_enlist_75 : decode cX12_enlist 75 = .ok (.iload_n 3, 1) := by decide +kernel
theorem dX12_enlist_76 : decode cX12_enlist 76 = .ok (.ireturn, 1) := by decide +kernel
theorem dX12_promote_0 : decode cX12_promote 0 = .ok (.aload_n 0, 1) := by decide +kernel
theorem dX12_promote_1 : decode cX12_promote 1 = .ok (.iload_n 1, 1) := by decide +kernel
theorem dX12_promote_2 : decode cX12_promote 2 = .ok (.invokevirtual 148, 3) := by decide +kernel
theorem dX12_promote_5 : decode cX12_promote 5 = .ok (.ifCond .eq 24, 3) := by decide +kernel
theorem dX12_promote_8 : decode cX12_promote 8 = .ok (.aload_n 0, 1) := by decide +kernel
theorem dX12_promote_9 : decode cX12_promote 9 = .ok (.getfield 7, 3) := by decide +kernel
theorem dX12_promote_12 : decode cX12_promote 12 = .ok (.iload_n 1, 1) := by decide +kernel
theorem dX12_promote_13 : decode cX12_promote 13 = .ok (.iaload, 1) := by decide +kernel
theorem dX12_promote_14 : decode cX12_promote 14 = .ok (.iconst 5, 1) := by decide +kernel
theorem dX12_promote_15 : decode cX12_promote 15 = .ok (.if_icmp .eq 14, 3) := by decide +kernel
theorem dX12_promote_18 : decode cX12_promote 18 = .ok (.aload_n 0, 1) := by decide +kernel
theorem dX12_promote_19 : decode cX12_promote 19 = .ok (.getfield 7, 3) := by decide +kernel
theorem dX12_promote_22 : decode cX12_promote 22 = .ok (.iload_n 1, 1) := by decide +kernel
theorem dX12_promote_23 : decode cX12_promote 23 = .ok (.iaload, 1) := by decide +kernel
theorem dX12_promote_24 : decode cX12_promote 24 = .ok (.bipush 7, 2) := by decide +kernel
theorem dX12_promote_26 : decode cX12_promote 26 = .ok (.if_icmp .ne 6, 3) := by decide +kernel
theorem dX12_promote_29 : decode cX12_promote 29 = .ok (.ldc 166, 2) := by decide +kernel
theorem dX12_promote_31 : decode cX12_promote 31 = .ok (.ireturn, 1) := by decide +kernel
theorem dX12_promote_32 : decode cX12_promote 32 = .ok (.aload_n 0, 1) := by decide +kernel
theorem dX12_promote_33 : decode cX12_promote 33 = .ok (.getfield 7, 3) := by decide +kernel
theorem dX12_promote_36 : decode cX12_promote 36 = .ok (.iload_n 1, 1) := by decide +kernel
theorem dX12_promote_37 : decode cX12_promote 37 = .ok (.aload_n 0, 1) := by decide +kernel
theorem dX12_promote_38 : decode cX12_promote 38 = .ok (.getfield 7, 3) := by decide +kernel
theorem dX12_promote_41 : decode cX12_promote 41 = .ok (.iload_n 1, 1) := by decide +kernel
theorem dX12_promote_42 : decode cX12_promote 42 = .ok (.iaload, 1) := by decide +kernel
theorem dX12_promote_43 : decode cX12_promote 43 = .ok (.iconst 1, 1) := by decide +kernel
theorem dX12_promote_44 : decode cX12_promote 44 = .ok (.iadd, 1) := by decide +kernel
theorem dX12_promote_45 : decode cX12_promote 45 = .ok (.iastore, 1) := by decide +kernel
theorem dX12_promote_46 : decode cX12_promote 46 = .ok (.aload_n 0, 1) := by decide +kernel
theorem dX12_promote_47 : decode cX12_promote 47 = .ok (.getfield 7, 3) := by decide +kernel
theorem dX12_promote_50 : decode cX12_promote 50 = .ok (.iload_n 1, 1) := by decide +kernel
theorem dX12_promote_51 : decode cX12_promote 51 = .ok (.iaload, 1) := by decide +kernel
theorem dX12_promote_52 : decode cX12_promote 52 = .ok (.ireturn, 1) := by decide +kernel
theorem dX12_demote_0 : decode cX12_demote 0 = .ok (.aload_n 0, 1) := by decide +kernel
theorem dX12_demote_1 : decode cX12_demote 1 = .ok (.iload_n 1, 1) := by decide +kernel
theorem dX12_demote_2 : decode cX12_demote 2 = .ok (.invokevirtual 148, 3) := by decide +kernel
theorem dX12_demote_5 : decode cX12_demote 5 = .ok (.ifCond .eq 12, 3) := by decide +kernel
theorem dX12_demote_8 : decode cX12_demote 8 = .ok (.aload_n 0, 1) := by decide +kernel
theorem dX12_demote_9 : decode cX12_demote 9 = .ok (.getfield 7, 3) := by decide +kernel
theorem dX12_demote_12 : decode cX12_demote 12 = .ok (.iload_n 1, 1) := by decide +kernel
theorem dX12_demote_13 : decode cX12_demote 13 = .ok (.iaload, 1) := by decide +kernel
theorem dX12_demote_14 : decode cX12_demote 14 = .ok (.ifCond .ne 6, 3) := by decide +kernel
theorem dX12_demote_17 : decode cX12_demote 17 = .ok (.ldc 166, 2) := by decide +kernel
theorem dX12_demote_19 : decode cX12_demote 19 = .ok (.ireturn, 1) := by decide +kernel
theorem dX12_demote_20 : decode cX12_demote 20 = .ok (.aload_n 0, 1) := by decide +kernel
theorem dX12_demote_21 : decode cX12_demote 21 = .ok (.getfield 7, 3) := by decide +kernel
theorem dX12_demote_24 : decode cX12_demote 24 = .ok (.iload_n 1, 1) := by decide +kernel
theorem dX12_demote_25 : decode cX12_demote 25 = .ok (.aload_n 0, 1) := by decide +kernel
theorem dX12_demote_26 : decode cX12_demote 26 = .ok (.getfield 7, 3) := by decide +kernel
theorem dX12_demote_29 : decode cX12_demote 29 = .ok (.iload_n 1, 1) := by decide +kernel
theorem dX12_demote_30 : decode cX12_demote 30 = .ok (.iaload, 1) := by decide +kernel
theorem dX12_demote_31 : decode cX12_demote 31 = .ok (.invokestatic 167, 3) := by decide +kernel
theorem dX12_demote_34 : decode cX12_demote 34 = .ok (.iastore, 1) := by decide +kernel
theorem dX12_demote_35 : decode cX12_demote 35 = .ok (.aload_n 0, 1) := by decide +kernel
theorem dX12_demote_36 : decode cX12_demote 36 = .ok (.getfield 7, 3) := by decide +kernel
theorem dX12_demote_39 : decode cX12_demote 39 = .ok (.iload_n 1, 1) := by decide +kernel
theorem dX12_demote_40 : decode cX12_demote 40 = .ok (.iaload, 1) := by decide +kernel
theorem dX12_demote_41 : decode cX12_demote 41 = .ok (.ireturn, 1) := by decide +kernel
theorem dX12_toil_0 : decode cX12_toil 0 = .ok (.aload_n 0, 1) := by decide +kernel
theorem dX12_toil_1 : decode cX12_toil 1 = .ok (.iconst 0, 1) := by decide +kernel
theorem dX12_toil_2 : decode cX12_toil 2 = .ok (.iload_n 1, 1) := by decide +kernel
theorem dX12_toil_3 : decode cX12_toil 3 = .ok (.iload_n 2, 1) := by decide +kernel
theorem dX12_toil_4 : decode cX12_toil 4 = .ok (.invokevirtual 170, 3) := by decide +kernel
theorem dX12_toil_7 : decode cX12_toil 7 = .ok (.lreturn, 1) := by decide +kernel
theorem dX12_pay_0 : decode cX12_pay 0 = .ok (.aload_n 0, 1) := by decide +kernel
theorem dX12_pay_1 : decode cX12_pay 1 = .ok (.iconst 1, 1) := by decide +kernel
theorem dX12_pay_2 : decode cX12_pay 2 = .ok (.iload_n 1, 1) := by decide +kernel
theorem dX12_pay_3 : decode cX12_pay 3 = .ok (.iload_n 2, 1) := by decide +kernel
theorem dX12_pay_4 : decode cX12_pay 4 = .ok (.invokevirtual 170, 3) := by decide +kernel
theorem dX12_pay_7 : decode cX12_pay 7 = .ok (.lreturn, 1) := by decide +kernel
theorem dX12_climb_0 : decode cX12_climb 0 = .ok (.aload_n 0, 1) := by decide +kernel
theorem dX12_climb_1 : decode cX12_climb 1 = .ok (.iconst 2, 1) := by decide +kernel
theorem dX12_climb_2 : decode cX12_climb 2 = .ok (.iload_n 1, 1) := by decide +kernel
theorem dX12_climb_3 : decode cX12_climb 3 = .ok (.iload_n 2, 1) := by decide +kernel
theorem dX12_climb_4 : decode cX12_climb 4 = .ok (.invokevirtual 170, 3) := by decide +kernel
theorem dX12_climb_7 : decode cX12_climb 7 = .ok (.l2i, 1) := by decide +kernel
theorem dX12_climb_8 : decode cX12_climb 8 = .ok (.ireturn, 1) := by decide +kernel
theorem dX12_heed_0 : decode cX12_heed 0 = .ok (.aload_n 0, 1) := by decide +kernel
theorem dX12_heed_1 : decode cX12_heed 1 = .ok (.iconst 3, 1) := by decide +kernel
theorem dX12_heed_2 : decode cX12_heed 2 = .ok (.iload_n 1, 1) := by decide +kernel
theorem dX12_heed_3 : decode cX12_heed 3 = .ok (.iload_n 2, 1) := by decide +kernel
theorem dX12_heed_4 : decode cX12_heed 4 = .ok (.invokevirtual 170, 3) := by decide +kernel
theorem dX12_heed_7 : decode cX12_heed 7 = .ok (.l2i, 1) := by decide +kernel
theorem dX12_heed_8 : decode cX12_heed 8 = .ok (.ireturn, 1) := by decide +kernel
theorem dX12_isClimber_0 : decode cX12_isClimber 0 = .ok (.iload_n 0, 1) := by decide +kernel
theorem dX12_isClimber_1 : decode cX12_isClimber 1 = .ok (.iconst 2, 1) := by decide +kernel
theorem dX12_isClimber_2 : decode cX12_isClimber 2 = .ok (.if_icmp .lt 12, 3) := by decide +kernel
theorem dX12_isClimber_5 : decode cX12_isClimber 5 = .ok (.iload_n 0, 1) := by decide +kernel
theorem dX12_isClimber_6 : decode cX12_isClimber 6 = .ok (.iconst 5, 1) := by decide +kernel
theorem dX12_isClimber_7 : decode cX12_isClimber 7 = .ok (.if_icmp .gt 7, 3) := by decide +kernel
theorem dX12_isClimber_10 : decode cX12_isClimber 10 = .ok (.iconst 1, 1) := by decide +kernel
theorem dX12_isClimber_11 : decode cX12_isClimber 11 = .ok (.goto 4, 3) := by decide +kernel
theorem dX12_isClimber_14 : decode cX12_isClimber 14 = .ok (.iconst 0, 1) := by decide +kernel
theorem dX12_isClimber_15 : decode cX12_isClimber 15 = .ok (.ireturn, 1) := by decide +kernel
theorem dX12_isCarer_0 : decode cX12_isCarer 0 = .ok (.iload_n 0, 1) := by decide +kernel
theorem dX12_isCarer_1 : decode cX12_isCarer 1 = .ok (.bipush 6, 2) := by decide +kernel
theorem dX12_isCarer_3 : decode cX12_isCarer 3 = .ok (.if_icmp .eq 9, 3) := by decide +kernel
theorem dX12_isCarer_6 : decode cX12_isCarer 6 = .ok (.iload_n 0, 1) := by decide +kernel
theorem dX12_isCarer_7 : decode cX12_isCarer 7 = .ok (.bipush 7, 2) := by decide +kernel
theorem dX12_isCarer_9 : decode cX12_isCarer 9 = .ok (.if_icmp .ne 7, 3) := by decide +kernel
theorem dX12_isCarer_12 : decode cX12_isCarer 12 = .ok (.iconst 1, 1) := by decide +kernel
theorem dX12_isCarer_13 : decode cX12_isCarer 13 = .ok (.goto 4, 3) := by decide +kernel
theorem dX12_isCarer_16 : decode cX12_isCarer 16 = .ok (.iconst 0, 1) := by decide +kernel
theorem dX12_isCarer_17 : decode cX12_isCarer 17 = .ok (.ireturn, 1) := by decide +kernel
theorem dX12_race_0 : decode cX12_race 0 = .ok (.aload_n 0, 1) := by decide +kernel
theorem dX12_race_1 : decode cX12_race 1 = .ok (.iconst 2, 1) := by decide +kernel
theorem dX12_race_2 : decode cX12_race 2 = .ok (.iload_n 1, 1) := by decide +kernel
theorem dX12_race_3 : decode cX12_race 3 = .ok (.iload_n 2, 1) := by decide +kernel
theorem dX12_race_4 : decode cX12_race 4 = .ok (.invokevirtual 156, 3) := by decide +kernel
theorem dX12_race_7 : decode cX12_race 7 = .ok (.ifCond .eq 25, 3) := by decide +kernel
theorem dX12_race_10 : decode cX12_race 10 = .ok (.iload_n 3, 1) := by decide +kernel
theorem dX12_race_11 : decode cX12_race 11 = .ok (.ifCond .lt 21, 3) := by decide +kernel
theorem dX12_race_14 : decode cX12_race 14 = .ok (.iload_n 3, 1) := by decide +kernel
theorem dX12_race_15 : decode cX12_race 15 = .ok (.bipush 20, 2) := by decide +kernel
theorem dX12_race_17 : decode cX12_race 17 = .ok (.if_icmp .gt 15, 3) := by decide +kernel
theorem dX12_race_20 : decode cX12_race 20 = .ok (.aload_n 0, 1) := by decide +kernel
theorem dX12_race_21 : decode cX12_race 21 = .ok (.getfield 7, 3) := by decide +kernel
theorem dX12_race_24 : decode cX12_race 24 = .ok (.iload_n 1, 1) := by decide +kernel
theorem dX12_race_25 : decode cX12_race 25 = .ok (.iaload, 1) := by decide +kernel
theorem dX12_race_26 : decode cX12_race 26 = .ok (.invokestatic 173, 3) := by decide +kernel
theorem dX12_race_29 : decode cX12_race 29 = .ok (.ifCond .ne 6, 3) := by decide +kernel
theorem dX12_race_32 : decode cX12_race 32 = .ok (.ldc 166, 2) := by decide +kernel
theorem dX12_race_34 : decode cX12_race 34 = .ok (.ireturn, 1) := by decide +kernel
theorem dX12_race_35 : decode cX12_race 35 = .ok (.aload_n 0, 1) := by decide +kernel
theorem dX12_race_36 : decode cX12_race 36 = .ok (.iconst 0, 1) := by decide +kernel
theorem dX12_race_37 : decode cX12_race 37 = .ok (.putfield 46, 3) := by decide +kernel
theorem dX12_race_40 : decode cX12_race 40 = .ok (.aload_n 0, 1) := by decide +kernel
theorem dX12_race_41 : decode cX12_race 41 = .ok (.getfield 7, 3) := by decide +kernel
theorem dX12_race_44 : decode cX12_race 44 = .ok (.iload_n 1, 1) := by decide +kernel
theorem dX12_race_45 : decode cX12_race 45 = .ok (.iaload, 1) := by decide +kernel
theorem dX12_race_46 : decode cX12_race 46 = .ok (.iconst 5, 1) := by decide +kernel
theorem dX12_race_47 : decode cX12_race 47 = .ok (.if_icmp .ne 7, 3) := by decide +kernel
theorem dX12_race_50 : decode cX12_race 50 = .ok (.iconst 1, 1) := by decide +kernel
theorem dX12_race_51 : decode cX12_race 51 = .ok (.goto 4, 3) := by decide +kernel
theorem dX12_race_54 : decode cX12_race 54 = .ok (.iconst 0, 1) := by decide +kernel
theorem dX12_race_55 : decode cX12_race 55 = .ok (.istore 4, 2) := by decide +kernel
theorem dX12_race_57 : decode cX12_race 57 = .ok (.iload 4, 2) := by decide +kernel
theorem dX12_race_59 : decode cX12_race 59 = .ok (.ifCond .eq 12, 3) := by decide +kernel
theorem dX12_race_62 : decode cX12_race 62 = .ok (.iload_n 3, 1) := by decide +kernel
theorem dX12_race_63 : decode cX12_race 63 = .ok (.iconst 3, 1) := by decide +kernel
theorem dX12_race_64 : decode cX12_race 64 = .ok (.if_icmp .le 7, 3) := by decide +kernel
theorem dX12_race_67 : decode cX12_race 67 = .ok (.iconst 3, 1) := by decide +kernel
theorem dX12_race_68 : decode cX12_race 68 = .ok (.goto 4, 3) := by decide +kernel
theorem dX12_race_71 : decode cX12_race 71 = .ok (.iload_n 3, 1) := by decide +kernel
theorem dX12_race_72 : decode cX12_race 72 = .ok (.istore 5, 2) := by decide +kernel
theorem dX12_race_74 : decode cX12_race 74 = .ok (.lconst 0, 1) := by decide +kernel
theorem dX12_race_75 : decode cX12_race 75 = .ok (.lstore 6, 2) := by decide +kernel
theorem dX12_race_77 : decode cX12_race 77 = .ok (.iconst 1, 1) := by decide +kernel
theorem dX12_race_78 : decode cX12_race 78 = .ok (.istore 8, 2) := by decide +kernel
theorem dX12_race_80 : decode cX12_race 80 = .ok (.iconst 0, 1) := by decide +kernel
theorem dX12_race_81 : decode cX12_race 81 = .ok (.istore 9, 2) := by decide +kernel
theorem dX12_race_83 : decode cX12_race 83 = .ok (.iload 9, 2) := by decide +kernel
theorem dX12_race_85 : decode cX12_race 85 = .ok (.iload 5, 2) := by decide +kernel
theorem dX12_race_87 : decode cX12_race 87 = .ok (.if_icmp .ge 56, 3) := by decide +kernel
theorem dX12_race_90 : decode cX12_race 90 = .ok (.iload 8, 2) := by decide +kernel
theorem dX12_race_92 : decode cX12_race 92 = .ok (.ifCond .eq 51, 3) := by decide +kernel
theorem dX12_race_95 : decode cX12_race 95 = .ok (.aload_n 0, 1) := by decide +kernel
theorem dX12_race_96 : decode cX12_race 96 = .ok (.iconst 2, 1) := by decide +kernel
theorem dX12_race_97 : decode cX12_race 97 = .ok (.iload_n 1, 1) := by decide +kernel
theorem dX12_race_98 : decode cX12_race 98 = .ok (.iload_n 2, 1) := by decide +kernel
theorem dX12_race_99 : decode cX12_race 99 = .ok (.iconst 0, 1) := by decide +kernel
theorem dX12_race_100 : decode cX12_race 100 = .ok (.invokevirtual 162, 3) := by decide +kernel
theorem dX12_race_103 : decode cX12_race 103 = .ok (.lstore 10, 2) := by decide +kernel
theorem dX12_race_105 : decode cX12_race 105 = .ok (.lload 10, 2) := by decide +kernel
theorem dX12_race_107 : decode cX12_race 107 = .ok (.ldc2_w 97, 3) := by decide +kernel
theorem dX12_race_110 : decode cX12_race 110 = .ok (.lcmp, 1) := by decide +kernel
theorem dX12_race_111 : decode cX12_race 111 = .ok (.ifCond .eq 7, 3) := by decide +kernel
theorem dX12_race_114 : decode cX12_race 114 = .ok (.iconst 1, 1) := by decide +kernel
theorem dX12_race_115 : decode cX12_race 115 = .ok (.goto 4, 3) := by decide +kernel
theorem dX12_race_118 : decode cX12_race 118 = .ok (.iconst 0, 1) := by decide +kernel
theorem dX12_race_119 : decode cX12_race 119 = .ok (.istore 8, 2) := by decide +kernel
theorem dX12_race_121 : decode cX12_race 121 = .ok (.lload 6, 2) := by decide +kernel
theorem dX12_race_123 : decode cX12_race 123 = .ok (.iload 8, 2) := by decide +kernel
theorem dX12_race_125 : decode cX12_race 125 = .ok (.ifCond .eq 8, 3) := by decide +kernel
theorem dX12_race_128 : decode cX12_race 128 = .ok (.lload 10, 2) := by decide +kernel
theorem dX12_race_130 : decode cX12_race 130 = .ok (.goto 4, 3) := by decide +kernel
theorem dX12_race_133 : decode cX12_race 133 = .ok (.lconst 0, 1) := by decide +kernel
theorem dX12_race_134 : decode cX12_race 134 = .ok (.ladd, 1) := by decide +kernel
theorem dX12_race_135 : decode cX12_race 135 = .ok (.lstore 6, 2) := by decide +kernel
theorem dX12_race_137 : decode cX12_race 137 = .ok (.iinc 9 1, 3) := by decide +kernel
theorem dX12_race_140 : decode cX12_race 140 = .ok (.goto (-57), 3) := by decide +kernel
theorem dX12_race_143 : decode cX12_race 143 = .ok (.iload 4, 2) := by decide +kernel
theorem dX12_race_145 : decode cX12_race 145 = .ok (.ifCond .eq 12, 3) := by decide +kernel
theorem dX12_race_148 : decode cX12_race 148 = .ok (.ldc2_w 80, 3) := by decide +kernel
theorem dX12_race_151 : decode cX12_race 151 = .ok (.lload 6, 2) := by decide +kernel
theorem dX12_race_153 : decode cX12_race 153 = .ok (.lmul, 1) := by decide +kernel
theorem dX12_race_154 : decode cX12_race 154 = .ok (.goto 5, 3) := by decide +kernel
theorem dX12_race_157 : decode cX12_race 157 = .ok (.lload 6, 2) := by decide +kernel
theorem dX12_race_159 : decode cX12_race 159 = .ok (.l2i, 1) := by decide +kernel
theorem dX12_race_160 : decode cX12_race 160 = .ok (.ireturn, 1) := by decide +kernel
theorem dX12_due_0 : decode cX12_due 0 = .ok (.aload_n 0, 1) := by decide +kernel
theorem dX12_due_1 : decode cX12_due 1 = .ok (.iconst 1, 1) := by decide +kernel
theorem dX12_due_2 : decode cX12_due 2 = .ok (.iload_n 1, 1) := by decide +kernel
theorem dX12_due_3 : decode cX12_due 3 = .ok (.iload_n 2, 1) := by decide +kernel
theorem dX12_due_4 : decode cX12_due 4 = .ok (.invokevirtual 156, 3) := by decide +kernel
theorem dX12_due_7 : decode cX12_due 7 = .ok (.ifCond .eq 16, 3) := by decide +kernel
theorem dX12_due_10 : decode cX12_due 10 = .ok (.iload_n 3, 1) := by decide +kernel
theorem dX12_due_11 : decode cX12_due 11 = .ok (.ifCond .lt 12, 3) := by decide +kernel
theorem dX12_due_14 : decode cX12_due 14 = .ok (.aload_n 0, 1) := by decide +kernel
theorem dX12_due_15 : decode cX12_due 15 = .ok (.getfield 7, 3) := by decide +kernel
theorem dX12_due_18 : decode cX12_due 18 = .ok (.iload_n 1, 1) := by decide +kernel
theorem dX12_due_19 : decode cX12_due 19 = .ok (.iaload, 1) := by decide +kernel
theorem dX12_due_20 : decode cX12_due 20 = .ok (.ifCond .ne 7, 3) := by decide +kernel
theorem dX12_due_23 : decode cX12_due 23 = .ok (.ldc2_w 160, 3) := by decide +kernel
theorem dX12_due_26 : decode cX12_due 26 = .ok (.lreturn, 1) := by decide +kernel
theorem dX12_due_27 : decode cX12_due 27 = .ok (.aload_n 0, 1) := by decide +kernel
theorem dX12_due_28 : decode cX12_due 28 = .ok (.iconst 0, 1) := by decide +kernel
theorem dX12_due_29 : decode cX12_due 29 = .ok (.putfield 46, 3) := by decide +kernel
theorem dX12_due_32 : decode cX12_due 32 = .ok (.aload_n 0, 1) := by decide +kernel
theorem dX12_due_33 : decode cX12_due 33 = .ok (.iconst 1, 1) := by decide +kernel
theorem dX12_due_34 : decode cX12_due 34 = .ok (.iload_n 1, 1) := by decide +kernel
theorem dX12_due_35 : decode cX12_due 35 = .ok (.iload_n 2, 1) := by decide +kernel
theorem dX12_due_36 : decode cX12_due 36 = .ok (.iconst 0, 1) := by decide +kernel
theorem dX12_due_37 : decode cX12_due 37 = .ok (.invokevirtual 162, 3) := by decide +kernel
theorem dX12_due_40 : decode cX12_due 40 = .ok (.iload_n 3, 1) := by decide +kernel
theorem dX12_due_41 : decode cX12_due 41 = .ok (.i2l, 1) := by decide +kernel
theorem dX12_due_42 : decode cX12_due 42 = .ok (.lsub, 1) := by decide +kernel
theorem dX12_due_43 : decode cX12_due 43 = .ok (.lstore 4, 2) := by decide +kernel
theorem dX12_due_45 : decode cX12_due 45 = .ok (.lload 4, 2) := by decide +kernel
theorem dX12_due_47 : decode cX12_due 47 = .ok (.lconst 0, 1) := by decide +kernel
theorem dX12_due_48 : decode cX12_due 48 = .ok (.lcmp, 1) := by decide +kernel
theorem dX12_due_49 : decode cX12_due 49 = .ok (.ifCond .ge 7, 3) := by decide +kernel
theorem dX12_due_52 : decode cX12_due 52 = .ok (.lconst 0, 1) := by decide +kernel
theorem dX12_due_53 : decode cX12_due 53 = .ok (.goto 5, 3) := by decide +kernel
theorem dX12_due_56 : decode cX12_due 56 = .ok (.lload 4, 2) := by decide +kernel
theorem dX12_due_58 : decode cX12_due 58 = .ok (.lreturn, 1) := by decide +kernel
theorem dX12_feed_0 : decode cX12_feed 0 = .ok (.aload_n 0, 1) := by decide +kernel
theorem dX12_feed_1 : decode cX12_feed 1 = .ok (.iconst 0, 1) := by decide +kernel
theorem dX12_feed_2 : decode cX12_feed 2 = .ok (.iload_n 1, 1) := by decide +kernel
theorem dX12_feed_3 : decode cX12_feed 3 = .ok (.iload_n 2, 1) := by decide +kernel
theorem dX12_feed_4 : decode cX12_feed 4 = .ok (.invokevirtual 156, 3) := by decide +kernel
theorem dX12_feed_7 : decode cX12_feed 7 = .ok (.ifCond .eq 15, 3) := by decide +kernel
theorem dX12_feed_10 : decode cX12_feed 10 = .ok (.aload_n 0, 1) := by decide +kernel
theorem dX12_feed_11 : decode cX12_feed 11 = .ok (.getfield 7, 3) := by decide +kernel
theorem dX12_feed_14 : decode cX12_feed 14 = .ok (.iload_n 1, 1) := by decide +kernel
theorem dX12_feed_15 : decode cX12_feed 15 = .ok (.iaload, 1) := by decide +kernel
theorem dX12_feed_16 : decode cX12_feed 16 = .ok (.invokestatic 176, 3) := by decide +kernel
theorem dX12_feed_19 : decode cX12_feed 19 = .ok (.ifCond .ne 6, 3) := by decide +kernel
theorem dX12_feed_22 : decode cX12_feed 22 = .ok (.ldc 166, 2) := by decide +kernel
theorem dX12_feed_24 : decode cX12_feed 24 = .ok (.ireturn, 1) := by decide +kernel
theorem dX12_feed_25 : decode cX12_feed 25 = .ok (.aload_n 0, 1) := by decide +kernel
theorem dX12_feed_26 : decode cX12_feed 26 = .ok (.iconst 0, 1) := by decide +kernel
theorem dX12_feed_27 : decode cX12_feed 27 = .ok (.putfield 46, 3) := by decide +kernel
theorem dX12_feed_30 : decode cX12_feed 30 = .ok (.aload_n 0, 1) := by decide +kernel
theorem dX12_feed_31 : decode cX12_feed 31 = .ok (.iconst 0, 1) := by decide +kernel
theorem dX12_feed_32 : decode cX12_feed 32 = .ok (.iload_n 1, 1) := by decide +kernel
theorem dX12_feed_33 : decode cX12_feed 33 = .ok (.iload_n 2, 1) := by decide +kernel
theorem dX12_feed_34 : decode cX12_feed 34 = .ok (.iconst 0, 1) := by decide +kernel
theorem dX12_feed_35 : decode cX12_feed 35 = .ok (.invokevirtual 162, 3) := by decide +kernel
theorem dX12_feed_38 : decode cX12_feed 38 = .ok (.ldc2_w 179, 3) := by decide +kernel
theorem dX12_feed_41 : decode cX12_feed 41 = .ok (.ldiv, 1) := by decide +kernel
theorem dX12_feed_42 : decode cX12_feed 42 = .ok (.l2i, 1) := by decide +kernel
theorem dX12_feed_43 : decode cX12_feed 43 = .ok (.istore_n 3, 1) := by decide +kernel
theorem dX12_feed_44 : decode cX12_feed 44 = .ok (.iconst 0, 1) := by decide +kernel
theorem dX12_feed_45 : decode cX12_feed 45 = .ok (.istore 4, 2) := by decide +kernel
theorem dX12_feed_47 : decode cX12_feed 47 = .ok (.iload 4, 2) := by decide +kernel
theorem dX12_feed_49 : decode cX12_feed 49 = .ok (.aload_n 0, 1) := by decide +kernel
theorem dX12_feed_50 : decode cX12_feed 50 = .ok (.getfield 38, 3) := by decide +kernel
theorem dX12_feed_53 : decode cX12_feed 53 = .ok (.if_icmp .ge 23, 3) := by decide +kernel
theorem dX12_feed_56 : decode cX12_feed 56 = .ok (.iload 4, 2) := by decide +kernel
theorem dX12_feed_58 : decode cX12_feed 58 = .ok (.iload_n 1, 1) := by decide +kernel
theorem dX12_feed_59 : decode cX12_feed 59 = .ok (.if_icmp .eq 11, 3) := by decide +kernel
theorem dX12_feed_62 : decode cX12_feed 62 = .ok (.aload_n 0, 1) := by decide +kernel
theorem dX12_feed_63 : decode cX12_feed 63 = .ok (.iload 4, 2) := by decide +kernel
theorem dX12_feed_65 : decode cX12_feed 65 = .ok (.iload_n 3, 1) := by decide +kernel
theorem dX12_feed_66 : decode cX12_feed 66 = .ok (.ineg, 1) := by decide +kernel
theorem dX12_feed_67 : decode cX12_feed 67 = .ok (.invokevirtual 53, 3) := by decide +kernel
theorem dX12_feed_70 : decode cX12_feed 70 = .ok (.iinc 4 1, 3) := by decide +kernel
theorem dX12_feed_73 : decode cX12_feed 73 = .ok (.goto (-26), 3) := by decide +kernel
theorem dX12_feed_76 : decode cX12_feed 76 = .ok (.iload_n 3, 1) := by decide +kernel
theorem dX12_feed_77 : decode cX12_feed 77 = .ok (.ireturn, 1) := by decide +kernel
theorem dX12_watch_0 : decode cX12_watch 0 = .ok (.iload_n 1, 1) := by decide +kernel
theorem dX12_watch_1 : decode cX12_watch 1 = .ok (.ifCond .lt 16, 3) := by decide +kernel
theorem dX12_watch_4 : decode cX12_watch 4 = .ok (.iload_n 1, 1) := by decide +kernel
theorem dX12_watch_5 : decode cX12_watch 5 = .ok (.iconst 3, 1) := by decide +kernel
theorem dX12_watch_6 : decode cX12_watch 6 = .ok (.if_icmp .gt 11, 3) := by decide +kernel
theorem dX12_watch_9 : decode cX12_watch 9 = .ok (.iload_n 1, 1) := by decide +kernel
theorem dX12_watch_10 : decode cX12_watch 10 = .ok (.iload_n 2, 1) := by decide +kernel
theorem dX12_watch_11 : decode cX12_watch 11 = .ok (.invokestatic 152, 3) := by decide +kernel
theorem dX12_watch_14 : decode cX12_watch 14 = .ok (.ifCond .ne 7, 3) := by decide +kernel
theorem dX12_watch_17 : decode cX12_watch 17 = .ok (.ldc2_w 160, 3) := by decide +kernel
theorem dX12_watch_20 : decode cX12_watch 20 = .ok (.lreturn, 1) := by decide +kernel
theorem dX12_watch_21 : decode cX12_watch 21 = .ok (.aload_n 0, 1) := by decide +kernel
theorem dX12_watch_22 : decode cX12_watch 22 = .ok (.iconst 0, 1) := by decide +kernel
theorem dX12_watch_23 : decode cX12_watch 23 = .ok (.putfield 46, 3) := by decide +kernel
theorem dX12_watch_26 : decode cX12_watch 26 = .ok (.lconst 0, 1) := by decide +kernel
theorem dX12_watch_27 : decode cX12_watch 27 = .ok (.lstore_n 3, 1) := by decide +kernel
theorem dX12_watch_28 : decode cX12_watch 28 = .ok (.iconst 0, 1) := by decide +kernel
theorem dX12_watch_29 : decode cX12_watch 29 = .ok (.istore 5, 2) := by decide +kernel
theorem dX12_watch_31 : decode cX12_watch 31 = .ok (.iload 5, 2) := by decide +kernel
theorem dX12_watch_33 : decode cX12_watch 33 = .ok (.aload_n 0, 1) := by decide +kernel
theorem dX12_watch_34 : decode cX12_watch 34 = .ok (.getfield 38, 3) := by decide +kernel
theorem dX12_watch_37 : decode cX12_watch 37 = .ok (.if_icmp .ge 21, 3) := by decide +kernel
theorem dX12_watch_40 : decode cX12_watch 40 = .ok (.lload_n 3, 1) := by decide +kernel
theorem dX12_watch_41 : decode cX12_watch 41 = .ok (.aload_n 0, 1) := by decide +kernel
theorem dX12_watch_42 : decode cX12_watch 42 = .ok (.iload_n 1, 1) := by decide +kernel
theorem dX12_watch_43 : decode cX12_watch 43 = .ok (.iload 5, 2) := by decide +kernel
theorem dX12_watch_45 : decode cX12_watch 45 = .ok (.iload_n 2, 1) := by decide +kernel
theorem dX12_watch_46 : decode cX12_watch 46 = .ok (.iconst 0, 1) := by decide +kernel
theorem dX12_watch_47 : decode cX12_watch 47 = .ok (.invokevirtual 162, 3) := by decide +kernel
theorem dX12_watch_50 : decode cX12_watch 50 = .ok (.ladd, 1) := by decide +kernel
theorem dX12_watch_51 : decode cX12_watch 51 = .ok (.lstore_n 3, 1) := by decide +kernel
theorem dX12_watch_52 : decode cX12_watch 52 = .ok (.iinc 5 1, 3) := by decide +kernel
theorem dX12_watch_55 : decode cX12_watch 55 = .ok (.goto (-24), 3) := by decide +kernel
theorem dX12_watch_58 : decode cX12_watch 58 = .ok (.lload_n 3, 1) := by decide +kernel
theorem dX12_watch_59 : decode cX12_watch 59 = .ok (.lreturn, 1) := by decide +kernel
theorem dX12_line_0 : decode cX12_line 0 = .ok (.iload_n 1, 1) := by decide +kernel
theorem dX12_line_1 : decode cX12_line 1 = .ok (.ifCond .lt 9, 3) := by decide +kernel
theorem dX12_line_4 : decode cX12_line 4 = .ok (.iload_n 1, 1) := by decide +kernel
theorem dX12_line_5 : decode cX12_line 5 = .ok (.bipush 7, 2) := by decide +kernel
theorem dX12_line_7 : decode cX12_line 7 = .ok (.if_icmp .le 6, 3) := by decide +kernel
theorem dX12_line_10 : decode cX12_line 10 = .ok (.ldc 166, 2) := by decide +kernel
theorem dX12_line_12 : decode cX12_line 12 = .ok (.ireturn, 1) := by decide +kernel
theorem dX12_line_13 : decode cX12_line 13 = .ok (.iload_n 2, 1) := by decide +kernel
theorem dX12_line_14 : decode cX12_line 14 = .ok (.iconst (-1), 1) := by decide +kernel
theorem dX12_line_15 : decode cX12_line 15 = .ok (.if_icmp .ne 12, 3) := by decide +kernel
theorem dX12_line_18 : decode cX12_line 18 = .ok (.aload_n 0, 1) := by decide +kernel
theorem dX12_line_19 : decode cX12_line 19 = .ok (.getfield 23, 3) := by decide +kernel
theorem dX12_line_22 : decode cX12_line 22 = .ok (.iload_n 1, 1) := by decide +kernel
theorem dX12_line_23 : decode cX12_line 23 = .ok (.iconst (-1), 1) := by decide +kernel
theorem dX12_line_24 : decode cX12_line 24 = .ok (.iastore, 1) := by decide +kernel
theorem dX12_line_25 : decode cX12_line 25 = .ok (.iconst 1, 1) := by decide +kernel
theorem dX12_line_26 : decode cX12_line 26 = .ok (.ireturn, 1) := by decide +kernel
theorem dX12_line_27 : decode cX12_line 27 = .ok (.iload_n 2, 1) := by decide +kernel
theorem dX12_line_28 : decode cX12_line 28 = .ok (.ifCond .lt 35, 3) := by decide +kernel
theorem dX12_line_31 : decode cX12_line 31 = .ok (.iload_n 2, 1) := by decide +kernel
theorem dX12_line_32 : decode cX12_line 32 = .ok (.iconst 3, 1) := by decide +kernel
theorem dX12_line_33 : decode cX12_line 33 = .ok (.if_icmp .gt 30, 3) := by decide +kernel
theorem dX12_line_36 : decode cX12_line 36 = .ok (.iload_n 2, 1) := by decide +kernel
theorem dX12_line_37 : decode cX12_line 37 = .ok (.iload_n 3, 1) := by decide +kernel
theorem dX12_line_38 : decode cX12_line 38 = .ok (.invokestatic 152, 3) := by decide +kernel
theorem dX12_line_41 : decode cX12_line 41 = .ok (.ifCond .eq 22, 3) := by decide +kernel
theorem dX12_line_44 : decode cX12_line 44 = .ok (.iload 4, 2) := by decide +kernel
theorem dX12_line_46 : decode cX12_line 46 = .ok (.ifCond .lt 17, 3) := by decide +kernel
theorem dX12_line_49 : decode cX12_line 49 = .ok (.iload 5, 2) := by decide +kernel
theorem dX12_line_51 : decode cX12_line 51 = .ok (.bipush 7, 2) := by decide +kernel
theorem dX12_line_53 : decode cX12_line 53 = .ok (.if_icmp .gt 10, 3) := by decide +kernel
theorem dX12_line_56 : decode cX12_line 56 = .ok (.iload 4, 2) := by decide +kernel
theorem dX12_line_58 : decode cX12_line 58 = .ok (.iload 5, 2) := by decide +kernel
theorem dX12_line_60 : decode cX12_line 60 = .ok (.if_icmp .le 6, 3) := by decide +kernel
theorem dX12_line_63 : decode cX12_line 63 = .ok (.ldc 166, 2) := by decide +kernel
theorem dX12_line_65 : decode cX12_line 65 = .ok (.ireturn, 1) := by decide +kernel
theorem dX12_line_66 : decode cX12_line 66 = .ok (.aload_n 0, 1) := by decide +kernel
theorem dX12_line_67 : decode cX12_line 67 = .ok (.getfield 23, 3) := by decide +kernel
theorem dX12_line_70 : decode cX12_line 70 = .ok (.iload_n 1, 1) := by decide +kernel
theorem dX12_line_71 : decode cX12_line 71 = .ok (.iload_n 2, 1) := by decide +kernel
theorem dX12_line_72 : decode cX12_line 72 = .ok (.iastore, 1) := by decide +kernel
theorem dX12_line_73 : decode cX12_line 73 = .ok (.aload_n 0, 1) := by decide +kernel
theorem dX12_line_74 : decode cX12_line 74 = .ok (.getfield 26, 3) := by decide +kernel
theorem dX12_line_77 : decode cX12_line 77 = .ok (.iload_n 1, 1) := by decide +kernel
theorem dX12_line_78 : decode cX12_line 78 = .ok (.iload_n 3, 1) := by decide +kernel
theorem dX12_line_79 : decode cX12_line 79 = .ok (.iastore, 1) := by decide +kernel
theorem dX12_line_80 : decode cX12_line 80 = .ok (.aload_n 0, 1) := by decide +kernel
theorem dX12_line_81 : decode cX12_line 81 = .ok (.getfield 29, 3) := by decide +kernel
theorem dX12_line_84 : decode cX12_line 84 = .ok (.iload_n 1, 1) := by decide +kernel
theorem dX12_line_85 : decode cX12_line 85 = .ok (.iload 4, 2) := by decide +kernel
theorem dX12_line_87 : decode cX12_line 87 = .ok (.iastore, 1) := by decide +kernel
theorem dX12_line_88 : decode cX12_line 88 = .ok (.aload_n 0, 1) := by decide +kernel
theorem dX12_line_89 : decode cX12_line 89 = .ok (.getfield 32, 3) := by decide +kernel
theorem dX12_line_92 : decode cX12_line 92 = .ok (.iload_n 1, 1) := by decide +kernel
theorem dX12_line_93 : decode cX12_line 93 = .ok (.iload 5, 2) := by decide +kernel
theorem dX12_line_95 : decode cX12_line 95 = .ok (.iastore, 1) := by decide +kernel
theorem dX12_line_96 : decode cX12_line 96 = .ok (.iconst 1, 1) := by decide +kernel
theorem dX12_line_97 : decode cX12_line 97 = .ok (.ireturn, 1) := by decide +kernel
theorem dX12_sail_0 : decode cX12_sail 0 = .ok (.iload_n 1, 1) := by decide +kernel
theorem dX12_sail_1 : decode cX12_sail 1 = .ok (.ifCond .lt 9, 3) := by decide +kernel
theorem dX12_sail_4 : decode cX12_sail 4 = .ok (.iload_n 1, 1) := by decide +kernel
theorem dX12_sail_5 : decode cX12_sail 5 = .ok (.bipush 20, 2) := by decide +kernel
theorem dX12_sail_7 : decode cX12_sail 7 = .ok (.if_icmp .le 7, 3) := by decide +kernel
theorem dX12_sail_10 : decode cX12_sail 10 = .ok (.ldc2_w 160, 3) := by decide +kernel
theorem dX12_sail_13 : decode cX12_sail 13 = .ok (.lreturn, 1) := by decide +kernel
theorem dX12_sail_14 : decode cX12_sail 14 = .ok (.aload_n 0, 1) := by decide +kernel
theorem dX12_sail_15 : decode cX12_sail 15 = .ok (.iconst 0, 1) := by decide +kernel
theorem dX12_sail_16 : decode cX12_sail 16 = .ok (.putfield 46, 3) := by decide +kernel
theorem dX12_sail_19 : decode cX12_sail 19 = .ok (.lconst 0, 1) := by decide +kernel
theorem dX12_sail_20 : decode cX12_sail 20 = .ok (.lstore_n 2, 1) := by decide +kernel
theorem dX12_sail_21 : decode cX12_sail 21 = .ok (.iconst 0, 1) := by decide +kernel
theorem dX12_sail_22 : decode cX12_sail 22 = .ok (.istore 4, 2) := by decide +kernel
theorem dX12_sail_24 : decode cX12_sail 24 = .ok (.iload 4, 2) := by decide +kernel
theorem dX12_sail_26 : decode cX12_sail 26 = .ok (.iload_n 1, 1) := by decide +kernel
theorem dX12_sail_27 : decode cX12_sail 27 = .ok (.if_icmp .ge 111, 3) := by decide +kernel
theorem dX12_sail_30 : decode cX12_sail 30 = .ok (.iconst 0, 1) := by decide +kernel
theorem dX12_sail_31 : decode cX12_sail 31 = .ok (.istore 5, 2) := by decide +kernel
theorem dX12_sail_33 : decode cX12_sail 33 = .ok (.iload 5, 2) := by decide +kernel
theorem dX12_sail_35 : decode cX12_sail 35 = .ok (.bipush 8, 2) := by decide +kernel
theorem dX12_sail_37 : decode cX12_sail 37 = .ok (.if_icmp .ge 95, 3) := by decide +kernel
theorem dX12_sail_40 : decode cX12_sail 40 = .ok (.iconst 0, 1) := by decide +kernel
theorem dX12_sail_41 : decode cX12_sail 41 = .ok (.istore 6, 2) := by decide +kernel
theorem dX12_sail_43 : decode cX12_sail 43 = .ok (.iload 6, 2) := by decide +kernel
theorem dX12_sail_45 : decode cX12_sail 45 = .ok (.aload_n 0, 1) := by decide +kernel
theorem dX12_sail_46 : decode cX12_sail 46 = .ok (.getfield 38, 3) := by decide +kernel
theorem dX12_sail_49 : decode cX12_sail 49 = .ok (.if_icmp .ge 77, 3) := by decide +kernel
theorem dX12_sail_52 : decode cX12_sail 52 = .ok (.aload_n 0, 1) := by decide +kernel
theorem dX12_sail_53 : decode cX12_sail 53 = .ok (.getfield 23, 3) := by decide +kernel
theorem dX12_sail_56 : decode cX12_sail 56 = .ok (.iload 5, 2) := by decide +kernel
theorem dX12_sail_58 : decode cX12_sail 58 = .ok (.iaload, 1) := by decide +kernel
theorem dX12_sail_59 : decode cX12_sail 59 = .ok (.ifCond .lt 67, 3) := by decide +kernel
theorem dX12_sail_62 : decode cX12_sail 62 = .ok (.aload_n 0, 1) := by decide +kernel
theorem dX12_sail_63 : decode cX12_sail 63 = .ok (.getfield 7, 3) := by decide +kernel
theorem dX12_sail_66 : decode cX12_sail 66 = .ok (.iload 6, 2) := by decide +kernel
theorem dX12_sail_68 : decode cX12_sail 68 = .ok (.iaload, 1) := by decide +kernel
theorem dX12_sail_69 : decode cX12_sail 69 = .ok (.aload_n 0, 1) := by decide +kernel
theorem dX12_sail_70 : decode cX12_sail 70 = .ok (.getfield 29, 3) := by decide +kernel
theorem dX12_sail_73 : decode cX12_sail 73 = .ok (.iload 5, 2) := by decide +kernel
theorem dX12_sail_75 : decode cX12_sail 75 = .ok (.iaload, 1) := by decide +kernel
theorem dX12_sail_76 : decode cX12_sail 76 = .ok (.if_icmp .lt 44, 3) := by decide +kernel
theorem dX12_sail_79 : decode cX12_sail 79 = .ok (.aload_n 0, 1) := by decide +kernel
theorem dX12_sail_80 : decode cX12_sail 80 = .ok (.getfield 7, 3) := by decide +kernel
theorem dX12_sail_83 : decode cX12_sail 83 = .ok (.iload 6, 2) := by decide +kernel
theorem dX12_sail_85 : decode cX12_sail 85 = .ok (.iaload, 1) := by decide +kernel
theorem dX12_sail_86 : decode cX12_sail 86 = .ok (.aload_n 0, 1) := by decide +kernel
theorem dX12_sail_87 : decode cX12_sail 87 = .ok (.getfield 32, 3) := by decide +kernel
theorem dX12_sail_90 : decode cX12_sail 90 = .ok (.iload 5, 2) := by decide +kernel
theorem dX12_sail_92 : decode cX12_sail 92 = .ok (.iaload, 1) := by decide +kernel
theorem dX12_sail_93 : decode cX12_sail 93 = .ok (.if_icmp .gt 27, 3) := by decide +kernel
theorem dX12_sail_96 : decode cX12_sail 96 = .ok (.lload_n 2, 1) := by decide +kernel
theorem dX12_sail_97 : decode cX12_sail 97 = .ok (.aload_n 0, 1) := by decide +kernel
theorem dX12_sail_98 : decode cX12_sail 98 = .ok (.aload_n 0, 1) := by decide +kernel
theorem dX12_sail_99 : decode cX12_sail 99 = .ok (.getfield 23, 3) := by decide +kernel
theorem dX12_sail_102 : decode cX12_sail 102 = .ok (.iload 5, 2) := by decide +kernel
theorem dX12_sail_104 : decode cX12_sail 104 = .ok (.iaload, 1) := by decide +kernel
theorem dX12_sail_105 : decode cX12_sail 105 = .ok (.iload 6, 2) := by decide +kernel
theorem dX12_sail_107 : decode cX12_sail 107 = .ok (.aload_n 0, 1) := by decide +kernel
theorem dX12_sail_108 : decode cX12_sail 108 = .ok (.getfield 26, 3) := by decide +kernel
theorem dX12_sail_111 : decode cX12_sail 111 = .ok (.iload 5, 2) := by decide +kernel
theorem dX12_sail_113 : decode cX12_sail 113 = .ok (.iaload, 1) := by decide +kernel
theorem dX12_sail_114 : decode cX12_sail 114 = .ok (.iconst 1, 1) := by decide +kernel
theorem dX12_sail_115 : decode cX12_sail 115 = .ok (.invokevirtual 162, 3) := by decide +kernel
theorem dX12_sail_118 : decode cX12_sail 118 = .ok (.ladd, 1) := by decide +kernel
theorem dX12_sail_119 : decode cX12_sail 119 = .ok (.lstore_n 2, 1) := by decide +kernel
theorem dX12_sail_120 : decode cX12_sail 120 = .ok (.iinc 6 1, 3) := by decide +kernel
theorem dX12_sail_123 : decode cX12_sail 123 = .ok (.goto (-80), 3) := by decide +kernel
theorem dX12_sail_126 : decode cX12_sail 126 = .ok (.iinc 5 1, 3) := by decide +kernel
theorem dX12_sail_129 : decode cX12_sail 129 = .ok (.goto (-96), 3) := by decide +kernel
theorem dX12_sail_132 : decode cX12_sail 132 = .ok (.iinc 4 1, 3) := by decide +kernel
theorem dX12_sail_135 : decode cX12_sail 135 = .ok (.goto (-111), 3) := by decide +kernel
theorem dX12_sail_138 : decode cX12_sail 138 = .ok (.lload_n 2, 1) := by decide +kernel
theorem dX12_sail_139 : decode cX12_sail 139 = .ok (.lreturn, 1) := by decide +kernel
theorem dX12_rest_0 : decode cX12_rest 0 = .ok (.iload_n 1, 1) := by decide +kernel
theorem dX12_rest_1 : decode cX12_rest 1 = .ok (.ifCond .lt 10, 3) := by decide +kernel
theorem dX12_rest_4 : decode cX12_rest 4 = .ok (.iload_n 1, 1) := by decide +kernel
theorem dX12_rest_5 : decode cX12_rest 5 = .ok (.sipush 1000, 3) := by decide +kernel
theorem dX12_rest_8 : decode cX12_rest 8 = .ok (.if_icmp .le 6, 3) := by decide +kernel
theorem dX12_rest_11 : decode cX12_rest 11 = .ok (.ldc 166, 2) := by decide +kernel
theorem dX12_rest_13 : decode cX12_rest 13 = .ok (.ireturn, 1) := by decide +kernel
theorem dX12_rest_14 : decode cX12_rest 14 = .ok (.iconst 0, 1) := by decide +kernel
theorem dX12_rest_15 : decode cX12_rest 15 = .ok (.istore_n 2, 1) := by decide +kernel
theorem dX12_rest_16 : decode cX12_rest 16 = .ok (.iload_n 2, 1) := by decide +kernel
theorem dX12_rest_17 : decode cX12_rest 17 = .ok (.aload_n 0, 1) := by decide +kernel
theorem dX12_rest_18 : decode cX12_rest 18 = .ok (.getfield 38, 3) := by decide +kernel
theorem dX12_rest_21 : decode cX12_rest 21 = .ok (.if_icmp .ge 16, 3) := by decide +kernel
theorem dX12_rest_24 : decode cX12_rest 24 = .ok (.aload_n 0, 1) := by decide +kernel
theorem dX12_rest_25 : decode cX12_rest 25 = .ok (.iload_n 2, 1) := by decide +kernel
theorem dX12_rest_26 : decode cX12_rest 26 = .ok (.iload_n 1, 1) := by decide +kernel
theorem dX12_rest_27 : decode cX12_rest 27 = .ok (.ineg, 1) := by decide +kernel
theorem dX12_rest_28 : decode cX12_rest 28 = .ok (.invokevirtual 53, 3) := by decide +kernel
theorem dX12_rest_31 : decode cX12_rest 31 = .ok (.iinc 2 1, 3) := by decide +kernel
theorem dX12_rest_34 : decode cX12_rest 34 = .ok (.goto (-18), 3) := by decide +kernel
theorem dX12_rest_37 : decode cX12_rest 37 = .ok (.aload_n 0, 1) := by decide +kernel
theorem dX12_rest_38 : decode cX12_rest 38 = .ok (.getfield 38, 3) := by decide +kernel
theorem dX12_rest_41 : decode cX12_rest 41 = .ok (.ireturn, 1) := by decide +kernel
theorem dX12_told_0 : decode cX12_told 0 = .ok (.aload_n 0, 1) := by decide +kernel
theorem dX12_told_1 : decode cX12_told 1 = .ok (.iload_n 1, 1) := by decide +kernel
theorem dX12_told_2 : decode cX12_told 2 = .ok (.invokevirtual 148, 3) := by decide +kernel
theorem dX12_told_5 : decode cX12_told 5 = .ok (.ifCond .ne 7, 3) := by decide +kernel
theorem dX12_told_8 : decode cX12_told 8 = .ok (.ldc2_w 160, 3) := by decide +kernel
theorem dX12_told_11 : decode cX12_told 11 = .ok (.lreturn, 1) := by decide +kernel
theorem dX12_told_12 : decode cX12_told 12 = .ok (.iload_n 2, 1) := by decide +kernel
theorem dX12_told_13 : decode cX12_told 13 = .ok (.tableswitch 125 0 6 #[43, 51, 59, 67, 74, 92, 107], 43) := by decide +kernel
theorem dX12_told_56 : decode cX12_told 56 = .ok (.aload_n 0, 1) := by decide +kernel
theorem dX12_told_57 : decode cX12_told 57 = .ok (.getfield 7, 3) := by decide +kernel
theorem dX12_told_60 : decode cX12_told 60 = .ok (.iload_n 1, 1) := by decide +kernel
theorem dX12_told_61 : decode cX12_told 61 = .ok (.iaload, 1) := by decide +kernel
theorem dX12_told_62 : decode cX12_told 62 = .ok (.i2l, 1) := by decide +kernel
theorem dX12_told_63 : decode cX12_told 63 = .ok (.lreturn, 1) := by decide +kernel
theorem dX12_told_64 : decode cX12_told 64 = .ok (.aload_n 0, 1) := by decide +kernel
theorem dX12_told_65 : decode cX12_told 65 = .ok (.getfield 13, 3) := by decide +kernel
theorem dX12_told_68 : decode cX12_told 68 = .ok (.iload_n 1, 1) := by decide +kernel
theorem dX12_told_69 : decode cX12_told 69 = .ok (.iaload, 1) := by decide +kernel
theorem dX12_told_70 : decode cX12_told 70 = .ok (.i2l, 1) := by decide +kernel
theorem dX12_told_71 : decode cX12_told 71 = .ok (.lreturn, 1) := by decide +kernel
theorem dX12_told_72 : decode cX12_told 72 = .ok (.aload_n 0, 1) := by decide +kernel
theorem dX12_told_73 : decode cX12_told 73 = .ok (.getfield 16, 3) := by decide +kernel
theorem dX12_told_76 : decode cX12_told 76 = .ok (.iload_n 1, 1) := by decide +kernel
theorem dX12_told_77 : decode cX12_told 77 = .ok (.iaload, 1) := by decide +kernel
theorem dX12_told_78 : decode cX12_told 78 = .ok (.i2l, 1) := by decide +kernel
theorem dX12_told_79 : decode cX12_told 79 = .ok (.lreturn, 1) := by decide +kernel
theorem dX12_told_80 : decode cX12_told 80 = .ok (.aload_n 0, 1) := by decide +kernel
theorem dX12_told_81 : decode cX12_told 81 = .ok (.getfield 19, 3) := by decide +kernel
theorem dX12_told_84 : decode cX12_told 84 = .ok (.iload_n 1, 1) := by decide +kernel
theorem dX12_told_85 : decode cX12_told 85 = .ok (.laload, 1) := by decide +kernel
theorem dX12_told_86 : decode cX12_told 86 = .ok (.lreturn, 1) := by decide +kernel
theorem dX12_told_87 : decode cX12_told 87 = .ok (.aload_n 0, 1) := by decide +kernel
theorem dX12_told_88 : decode cX12_told 88 = .ok (.getfield 7, 3) := by decide +kernel
theorem dX12_told_91 : decode cX12_told 91 = .ok (.iload_n 1, 1) := by decide +kernel
theorem dX12_told_92 : decode cX12_told 92 = .ok (.iaload, 1) := by decide +kernel
theorem dX12_told_93 : decode cX12_told 93 = .ok (.invokestatic 173, 3) := by decide +kernel
theorem dX12_told_96 : decode cX12_told 96 = .ok (.ifCond .eq 7, 3) := by decide +kernel
theorem dX12_told_99 : decode cX12_told 99 = .ok (.lconst 1, 1) := by decide +kernel
theorem dX12_told_100 : decode cX12_told 100 = .ok (.goto 4, 3) := by decide +kernel
theorem dX12_told_103 : decode cX12_told 103 = .ok (.lconst 0, 1) := by decide +kernel
theorem dX12_told_104 : decode cX12_told 104 = .ok (.lreturn, 1) := by decide +kernel
theorem dX12_told_105 : decode cX12_told 105 = .ok (.aload_n 0, 1) := by decide +kernel
theorem dX12_told_106 : decode cX12_told 106 = .ok (.getfield 7, 3) := by decide +kernel
theorem dX12_told_109 : decode cX12_told 109 = .ok (.iload_n 1, 1) := by decide +kernel
theorem dX12_told_110 : decode cX12_told 110 = .ok (.iaload, 1) := by decide +kernel
theorem dX12_told_111 : decode cX12_told 111 = .ok (.ifCond .ne 7, 3) := by decide +kernel
theorem dX12_told_114 : decode cX12_told 114 = .ok (.lconst 0, 1) := by decide +kernel
theorem dX12_told_115 : decode cX12_told 115 = .ok (.goto 4, 3) := by decide +kernel
theorem dX12_told_118 : decode cX12_told 118 = .ok (.lconst 1, 1) := by decide +kernel
theorem dX12_told_119 : decode cX12_told 119 = .ok (.lreturn, 1) := by decide +kernel
theorem dX12_told_120 : decode cX12_told 120 = .ok (.aload_n 0, 1) := by decide +kernel
theorem dX12_told_121 : decode cX12_told 121 = .ok (.getfield 7, 3) := by decide +kernel
theorem dX12_told_124 : decode cX12_told 124 = .ok (.iload_n 1, 1) := by decide +kernel
theorem dX12_told_125 : decode cX12_told 125 = .ok (.iaload, 1) := by decide +kernel
theorem dX12_told_126 : decode cX12_told 126 = .ok (.invokestatic 176, 3) := by decide +kernel
theorem dX12_told_129 : decode cX12_told 129 = .ok (.ifCond .eq 7, 3) := by decide +kernel
theorem dX12_told_132 : decode cX12_told 132 = .ok (.lconst 1, 1) := by decide +kernel
theorem dX12_told_133 : decode cX12_told 133 = .ok (.goto 4, 3) := by decide +kernel
theorem dX12_told_136 : decode cX12_told 136 = .ok (.lconst 0, 1) := by decide +kernel
theorem dX12_told_137 : decode cX12_told 137 = .ok (.lreturn, 1) := by decide +kernel
theorem dX12_told_138 : decode cX12_told 138 = .ok (.ldc2_w 160, 3) := by decide +kernel
theorem dX12_told_141 : decode cX12_told 141 = .ok (.lreturn, 1) := by decide +kernel
theorem dX12_note_0 : decode cX12_note 0 = .ok (.iload_n 1, 1) := by decide +kernel
theorem dX12_note_1 : decode cX12_note 1 = .ok (.ifCond .lt 17, 3) := by decide +kernel
theorem dX12_note_4 : decode cX12_note 4 = .ok (.iload_n 1, 1) := by decide +kernel
theorem dX12_note_5 : decode cX12_note 5 = .ok (.aload_n 0, 1) := by decide +kernel
theorem dX12_note_6 : decode cX12_note 6 = .ok (.getfield 46, 3) := by decide +kernel
theorem dX12_note_9 : decode cX12_note 9 = .ok (.if_icmp .ge 9, 3) := by decide +kernel
theorem dX12_note_12 : decode cX12_note 12 = .ok (.iload_n 1, 1) := by decide +kernel
theorem dX12_note_13 : decode cX12_note 13 = .ok (.bipush 64, 2) := by decide +kernel
theorem dX12_note_15 : decode cX12_note 15 = .ok (.if_icmp .lt 8, 3) := by decide +kernel
theorem dX12_note_18 : decode cX12_note 18 = .ok (.ldc 166, 2) := by decide +kernel
theorem dX12_note_20 : decode cX12_note 20 = .ok (.goto 9, 3) := by decide +kernel
theorem dX12_note_23 : decode cX12_note 23 = .ok (.aload_n 0, 1) := by decide +kernel
theorem dX12_note_24 : decode cX12_note 24 = .ok (.getfield 35, 3) := by decide +kernel
theorem dX12_note_27 : decode cX12_note 27 = .ok (.iload_n 1, 1) := by decide +kernel
theorem dX12_note_28 : decode cX12_note 28 = .ok (.iaload, 1) := by decide +kernel
theorem dX12_note_29 : decode cX12_note 29 = .ok (.ireturn, 1) := by decide +kernel
theorem dX12_notes_0 : decode cX12_notes 0 = .ok (.aload_n 0, 1) := by decide +kernel
theorem dX12_notes_1 : decode cX12_notes 1 = .ok (.getfield 46, 3) := by decide +kernel
theorem dX12_notes_4 : decode cX12_notes 4 = .ok (.ireturn, 1) := by decide +kernel
end
section
theorem dL_law_0 : decode cL_law 0 = .ok (.new 7, 3) := by decide +kernel
theorem dL_law_3 : decode cL_law 3 = .ok (.dup, 1) := by decide +kernel
theorem dL_law_4 : decode cL_law 4 = .ok (.invokespecial 9, 3) := by decide +kernel
theorem dL_law_7 : decode cL_law 7 = .ok (.astore_n 1, 1) := by decide +kernel
theorem dL_law_8 : decode cL_law 8 = .ok (.new 10, 3) := by decide +kernel
theorem dL_law_11 : decode cL_law 11 = .ok (.dup, 1) := by decide +kernel
theorem dL_law_12 : decode cL_law 12 = .ok (.invokespecial 12, 3) := by decide +kernel
theorem dL_law_15 : decode cL_law 15 = .ok (.astore_n 2, 1) := by decide +kernel
theorem dL_law_16 : decode cL_law 16 = .ok (.iconst 0, 1) := by decide +kernel
theorem dL_law_17 : decode cL_law 17 = .ok (.istore_n 3, 1) := by decide +kernel
theorem dL_law_18 : decode cL_law 18 = .ok (.iload_n 3, 1) := by decide +kernel
theorem dL_law_19 : decode cL_law 19 = .ok (.aload_n 0, 1) := by decide +kernel
theorem dL_law_20 : decode cL_law 20 = .ok (.arraylength, 1) := by decide +kernel
theorem dL_law_21 : decode cL_law 21 = .ok (.bipush 6, 2) := by decide +kernel
theorem dL_law_23 : decode cL_law 23 = .ok (.isub, 1) := by decide +kernel
theorem dL_law_24 : decode cL_law 24 = .ok (.if_icmp .gt 645, 3) := by decide +kernel
theorem dL_law_27 : decode cL_law 27 = .ok (.aload_n 0, 1) := by decide +kernel
theorem dL_law_28 : decode cL_law 28 = .ok (.iload_n 3, 1) := by decide +kernel
theorem dL_law_29 : decode cL_law 29 = .ok (.iaload, 1) := by decide +kernel
theorem dL_law_30 : decode cL_law 30 = .ok (.bipush 31, 2) := by decide +kernel
theorem dL_law_32 : decode cL_law 32 = .ok (.iand, 1) := by decide +kernel
theorem dL_law_33 : decode cL_law 33 = .ok (.tableswitch 630 0 16 #[83, 116, 139, 162, 196, 230, 263, 296, 339, 383, 416, 450, 513, 537, 560, 594, 617], 83) := by decide +kernel
theorem dL_law_116 : decode cL_law 116 = .ok (.aload_n 1, 1) := by decide +kernel
theorem dL_law_117 : decode cL_law 117 = .ok (.aload_n 0, 1) := by decide +kernel
theorem dL_law_118 : decode cL_law 118 = .ok (.iload_n 3, 1) := by decide +kernel
theorem dL_law_119 : decode cL_law 119 = .ok (.iconst 1, 1) := by decide +kernel
theorem dL_law_120 : decode cL_law 120 = .ok (.iadd, 1) := by decide +kernel
theorem dL_law_121 : decode cL_law 121 = .ok (.iaload, 1) := by decide +kernel
theorem dL_law_122 : decode cL_law 122 = .ok (.aload_n 0, 1) := by decide +kernel
theorem dL_law_123 : decode cL_law 123 = .ok (.iload_n 3, 1) := by decide +kernel
theorem dL_law_124 : decode cL_law 124 = .ok (.iconst 2, 1) := by decide +kernel
theorem dL_law_125 : decode cL_law 125 = .ok (.iadd, 1) := by decide +kernel
theorem dL_law_126 : decode cL_law 126 = .ok (.iaload, 1) := by decide +kernel
theorem dL_law_127 : decode cL_law 127 = .ok (.invokevirtual 13, 3) := by decide +kernel
theorem dL_law_130 : decode cL_law 130 = .ok (.aload_n 2, 1) := by decide +kernel
theorem dL_law_131 : decode cL_law 131 = .ok (.aload_n 0, 1) := by decide +kernel
theorem dL_law_132 : decode cL_law 132 = .ok (.iload_n 3, 1) := by decide +kernel
theorem dL_law_133 : decode cL_law 133 = .ok (.iconst 1, 1) := by decide +kernel
theorem dL_law_134 : decode cL_law 134 = .ok (.iadd, 1) := by decide +kernel
theorem dL_law_135 : decode cL_law 135 = .ok (.iaload, 1) := by decide +kernel
theorem dL_law_136 : decode cL_law 136 = .ok (.aload_n 0, 1) := by decide +kernel
theorem dL_law_137 : decode cL_law 137 = .ok (.iload_n 3, 1) := by decide +kernel
theorem dL_law_138 : decode cL_law 138 = .ok (.iconst 2, 1) := by decide +kernel
theorem dL_law_139 : decode cL_law 139 = .ok (.iadd, 1) := by decide +kernel
theorem dL_law_140 : decode cL_law 140 = .ok (.iaload, 1) := by decide +kernel
theorem dL_law_141 : decode cL_law 141 = .ok (.invokevirtual 17, 3) := by decide +kernel
theorem dL_law_144 : decode cL_law 144 = .ok (.if_icmp .eq 519, 3) := by decide +kernel
theorem dL_law_147 : decode cL_law 147 = .ok (.iconst 0, 1) := by decide +kernel
theorem dL_law_148 : decode cL_law 148 = .ok (.ireturn, 1) := by decide +kernel
theorem dL_law_149 : decode cL_law 149 = .ok (.aload_n 1, 1) := by decide +kernel
theorem dL_law_150 : decode cL_law 150 = .ok (.aload_n 0, 1) := by decide +kernel
theorem dL_law_151 : decode cL_law 151 = .ok (.iload_n 3, 1) := by decide +kernel
theorem dL_law_152 : decode cL_law 152 = .ok (.iconst 1, 1) := by decide +kernel
theorem dL_law_153 : decode cL_law 153 = .ok (.iadd, 1) := by decide +kernel
theorem dL_law_154 : decode cL_law 154 = .ok (.iaload, 1) := by decide +kernel
theorem dL_law_155 : decode cL_law 155 = .ok (.invokevirtual 18, 3) := by decide +kernel
theorem dL_law_158 : decode cL_law 158 = .ok (.aload_n 2, 1) := by decide +kernel
theorem dL_law_159 : decode cL_law 159 = .ok (.aload_n 0, 1) := by decide +kernel
theorem dL_law_160 : decode cL_law 160 = .ok (.iload_n 3, 1) := by decide +kernel
theorem dL_law_161 : decode cL_law 161 = .ok (.iconst 1, 1) := by decide +kernel
theorem dL_law_162 : decode cL_law 162 = .ok (.iadd, 1) := by decide +kernel
theorem dL_law_163 : decode cL_law 163 = .ok (.iaload, 1) := by decide +kernel
theorem dL_law_164 : decode cL_law 164 = .ok (.invokevirtual 22, 3) := by decide +kernel
theorem dL_law_167 : decode cL_law 167 = .ok (.if_icmp .eq 496, 3) := by decide +kernel
theorem dL_law_170 : decode cL_law 170 = .ok (.iconst 0, 1) := by decide +kernel
theorem dL_law_171 : decode cL_law 171 = .ok (.ireturn, 1) := by decide +kernel
theorem dL_law_172 : decode cL_law 172 = .ok (.aload_n 1, 1) := by decide +kernel
theorem dL_law_173 : decode cL_law 173 = .ok (.aload_n 0, 1) := by decide +kernel
theorem dL_law_174 : decode cL_law 174 = .ok (.iload_n 3, 1) := by decide +kernel
theorem dL_law_175 : decode cL_law 175 = .ok (.iconst 1, 1) := by decide +kernel
theorem dL_law_176 : decode cL_law 176 = .ok (.iadd, 1) := by decide +kernel
theorem dL_law_177 : decode cL_law 177 = .ok (.iaload, 1) := by decide +kernel
theorem dL_law_178 : decode cL_law 178 = .ok (.invokevirtual 23, 3) := by decide +kernel
theorem dL_law_181 : decode cL_law 181 = .ok (.aload_n 2, 1) := by decide +kernel
theorem dL_law_182 : decode cL_law 182 = .ok (.aload_n 0, 1) := by decide +kernel
theorem dL_law_183 : decode cL_law 183 = .ok (.iload_n 3, 1) := by decide +kernel
theorem dL_law_184 : decode cL_law 184 = .ok (.iconst 1, 1) := by decide +kernel
theorem dL_law_185 : decode cL_law 185 = .ok (.iadd, 1) := by decide +kernel
theorem dL_law_186 : decode cL_law 186 = .ok (.iaload, 1) := by decide +kernel
theorem dL_law_187 : decode cL_law 187 = .ok (.invokevirtual 26, 3) := by decide +kernel
theorem dL_law_190 : decode cL_law 190 = .ok (.if_icmp .eq 473, 3) := by decide +kernel
theorem dL_law_193 : decode cL_law 193 = .ok (.iconst 0, 1) := by decide +kernel
theorem dL_law_194 : decode cL_law 194 = .ok (.ireturn, 1) := by decide +kernel
theorem dL_law_195 : decode cL_law 195 = .ok (.aload_n 1, 1) := by decide +kernel
theorem dL_law_196 : decode cL_law 196 = .ok (.aload_n 0, 1) := by decide +kernel
theorem dL_law_197 : decode cL_law 197 = .ok (.iload_n 3, 1) := by decide +kernel
theorem dL_law_198 : decode cL_law 198 = .ok (.iconst 1, 1) := by decide +kernel
theorem dL_law_199 : decode cL_law 199 = .ok (.iadd, 1) := by decide +kernel
theorem dL_law_200 : decode cL_law 200 = .ok (.iaload, 1) := by decide +kernel
theorem dL_law_201 : decode cL_law 201 = .ok (.aload_n 0, 1) := by decide +kernel
theorem dL_law_202 : decode cL_law 202 = .ok (.iload_n 3, 1) := by decide +kernel
theorem dL_law_203 : decode cL_law 203 = .ok (.iconst 2, 1) := by decide +kernel
theorem dL_law_204 : decode cL_law 204 = .ok (.iadd, 1) := by decide +kernel
theorem dL_law_205 : decode cL_law 205 = .ok (.iaload, 1) := by decide +kernel
theorem dL_law_206 : decode cL_law 206 = .ok (.invokevirtual 27, 3) := by decide +kernel
theorem dL_law_209 : decode cL_law 209 = .ok (.aload_n 2, 1) := by decide +kernel
theorem dL_law_210 : decode cL_law 210 = .ok (.aload_n 0, 1) := by decide +kernel
theorem dL_law_211 : decode cL_law 211 = .ok (.iload_n 3, 1) := by decide +kernel
theorem dL_law_212 : decode cL_law 212 = .ok (.iconst 1, 1) := by decide +kernel
theorem dL_law_213 : decode cL_law 213 = .ok (.iadd, 1) := by decide +kernel
theorem dL_law_214 : decode cL_law 214 = .ok (.iaload, 1) := by decide +kernel
theorem dL_law_215 : decode cL_law 215 = .ok (.aload_n 0, 1) := by decide +kernel
theorem dL_law_216 : decode cL_law 216 = .ok (.iload_n 3, 1) := by decide +kernel
theorem dL_law_217 : decode cL_law 217 = .ok (.iconst 2, 1) := by decide +kernel
theorem dL_law_218 : decode cL_law 218 = .ok (.iadd, 1) := by decide +kernel
theorem dL_law_219 : decode cL_law 219 = .ok (.iaload, 1) := by decide +kernel
theorem dL_law_220 : decode cL_law 220 = .ok (.invokevirtual 31, 3) := by decide +kernel
theorem dL_law_223 : decode cL_law 223 = .ok (.lcmp, 1) := by decide +kernel
theorem dL_law_224 : decode cL_law 224 = .ok (.ifCond .eq 439, 3) := by decide +kernel
theorem dL_law_227 : decode cL_law 227 = .ok (.iconst 0, 1) := by decide +kernel
theorem dL_law_228 : decode cL_law 228 = .ok (.ireturn, 1) := by decide +kernel
theorem dL_law_229 : decode cL_law 229 = .ok (.aload_n 1, 1) := by decide +kernel
theorem dL_law_230 : decode cL_law 230 = .ok (.aload_n 0, 1) := by decide +kernel
theorem dL_law_231 : decode cL_law 231 = .ok (.iload_n 3, 1) := by decide +kernel
theorem dL_law_232 : decode cL_law 232 = .ok (.iconst 1, 1) := by decide +kernel
theorem dL_law_233 : decode cL_law 233 = .ok (.iadd, 1) := by decide +kernel
theorem dL_law_234 : decode cL_law 234 = .ok (.iaload, 1) := by decide +kernel
theorem dL_law_235 : decode cL_law 235 = .ok (.aload_n 0, 1) := by decide +kernel
theorem dL_law_236 : decode cL_law 236 = .ok (.iload_n 3, 1) := by decide +kernel
theorem dL_law_237 : decode cL_law 237 = .ok (.iconst 2, 1) := by decide +kernel
theorem dL_law_238 : decode cL_law 238 = .ok (.iadd, 1) := by decide +kernel
theorem dL_law_239 : decode cL_law 239 = .ok (.iaload, 1) := by decide +kernel
theorem dL_law_240 : decode cL_law 240 = .ok (.invokevirtual 32, 3) := by decide +kernel
theorem dL_law_243 : decode cL_law 243 = .ok (.aload_n 2, 1) := by decide +kernel
theorem dL_law_244 : decode cL_law 244 = .ok (.aload_n 0, 1) := by decide +kernel
theorem dL_law_245 : decode cL_law 245 = .ok (.iload_n 3, 1) := by decide +kernel
theorem dL_law_246 : decode cL_law 246 = .ok (.iconst 1, 1) := by decide +kernel
theorem dL_law_247 : decode cL_law 247 = .ok (.iadd, 1) := by decide +kernel
theorem dL_law_248 : decode cL_law 248 = .ok (.iaload, 1) := by decide +kernel
theorem dL_law_249 : decode cL_law 249 = .ok (.aload_n 0, 1) := by decide +kernel
theorem dL_law_250 : decode cL_law 250 = .ok (.iload_n 3, 1) := by decide +kernel
theorem dL_law_251 : decode cL_law 251 = .ok (.iconst 2, 1) := by decide +kernel
theorem dL_law_252 : decode cL_law 252 = .ok (.iadd, 1) := by decide +kernel
theorem dL_law_253 : decode cL_law 253 = .ok (.iaload, 1) := by decide +kernel
theorem dL_law_254 : decode cL_law 254 = .ok (.invokevirtual 35, 3) := by decide +kernel
theorem dL_law_257 : decode cL_law 257 = .ok (.lcmp, 1) := by decide +kernel
theorem dL_law_258 : decode cL_law 258 = .ok (.ifCond .eq 405, 3) := by decide +kernel
theorem dL_law_261 : decode cL_law 261 = .ok (.iconst 0, 1) := by decide +kernel
theorem dL_law_262 : decode cL_law 262 = .ok (.ireturn, 1) := by decide +kernel
theorem dL_law_263 : decode cL_law 263 = .ok (.aload_n 1, 1) := by decide +kernel
theorem dL_law_264 : decode cL_law 264 = .ok (.aload_n 0, 1) := by decide +kernel
theorem dL_law_265 : decode cL_law 265 = .ok (.iload_n 3, 1) := by decide +kernel
theorem dL_law_266 : decode cL_law 266 = .ok (.iconst 1, 1) := by decide +kernel
theorem dL_law_267 : decode cL_law 267 = .ok (.iadd, 1) := by decide +kernel
theorem dL_law_268 : decode cL_law 268 = .ok (.iaload, 1) := by decide +kernel
theorem dL_law_269 : decode cL_law 269 = .ok (.aload_n 0, 1) := by decide +kernel
theorem dL_law_270 : decode cL_law 270 = .ok (.iload_n 3, 1) := by decide +kernel
theorem dL_law_271 : decode cL_law 271 = .ok (.iconst 2, 1) := by decide +kernel
theorem dL_law_272 : decode cL_law 272 = .ok (.iadd, 1) := by decide +kernel
theorem dL_law_273 : decode cL_law 273 = .ok (.iaload, 1) := by decide +kernel
theorem dL_law_274 : decode cL_law 274 = .ok (.invokevirtual 36, 3) := by decide +kernel
theorem dL_law_277 : decode cL_law 277 = .ok (.aload_n 2, 1) := by decide +kernel
theorem dL_law_278 : decode cL_law 278 = .ok (.aload_n 0, 1) := by decide +kernel
theorem dL_law_279 : decode cL_law 279 = .ok (.iload_n 3, 1) := by decide +kernel
theorem dL_law_280 : decode cL_law 280 = .ok (.iconst 1, 1) := by decide +kernel
theorem dL_law_281 : decode cL_law 281 = .ok (.iadd, 1) := by decide +kernel
theorem dL_law_282 : decode cL_law 282 = .ok (.iaload, 1) := by decide +kernel
theorem dL_law_283 : decode cL_law 283 = .ok (.aload_n 0, 1) := by decide +kernel
theorem dL_law_284 : decode cL_law 284 = .ok (.iload_n 3, 1) := by decide +kernel
theorem dL_law_285 : decode cL_law 285 = .ok (.iconst 2, 1) := by decide +kernel
theorem dL_law_286 : decode cL_law 286 = .ok (.iadd, 1) := by decide +kernel
theorem dL_law_287 : decode cL_law 287 = .ok (.iaload, 1) := by decide +kernel
theorem dL_law_288 : decode cL_law 288 = .ok (.invokevirtual 39, 3) := by decide +kernel
theorem dL_law_291 : decode cL_law 291 = .ok (.if_icmp .eq 372, 3) := by decide +kernel
theorem dL_law_294 : decode cL_law 294 = .ok (.iconst 0, 1) := by decide +kernel
theorem dL_law_295 : decode cL_law 295 = .ok (.ireturn, 1) := by decide +kernel
theorem dL_law_296 : decode cL_law 296 = .ok (.aload_n 1, 1) := by decide +kernel
theorem dL_law_297 : decode cL_law 297 = .ok (.aload_n 0, 1) := by decide +kernel
theorem dL_law_298 : decode cL_law 298 = .ok (.iload_n 3, 1) := by decide +kernel
theorem dL_law_299 : decode cL_law 299 = .ok (.iconst 1, 1) := by decide +kernel
theorem dL_law_300 : decode cL_law 300 = .ok (.iadd, 1) := by decide +kernel
theorem dL_law_301 : decode cL_law 301 = .ok (.iaload, 1) := by decide +kernel
theorem dL_law_302 : decode cL_law 302 = .ok (.aload_n 0, 1) := by decide +kernel
theorem dL_law_303 : decode cL_law 303 = .ok (.iload_n 3, 1) := by decide +kernel
theorem dL_law_304 : decode cL_law 304 = .ok (.iconst 2, 1) := by decide +kernel
theorem dL_law_305 : decode cL_law 305 = .ok (.iadd, 1) := by decide +kernel
theorem dL_law_306 : decode cL_law 306 = .ok (.iaload, 1) := by decide +kernel
theorem dL_law_307 : decode cL_law 307 = .ok (.invokevirtual 40, 3) := by decide +kernel
theorem dL_law_310 : decode cL_law 310 = .ok (.aload_n 2, 1) := by decide +kernel
theorem dL_law_311 : decode cL_law 311 = .ok (.aload_n 0, 1) := by decide +kernel
theorem dL_law_312 : decode cL_law 312 = .ok (.iload_n 3, 1) := by decide +kernel
theorem dL_law_313 : decode cL_law 313 = .ok (.iconst 1, 1) := by decide +kernel
theorem dL_law_314 : decode cL_law 314 = .ok (.iadd, 1) := by decide +kernel
theorem dL_law_315 : decode cL_law 315 = .ok (.iaload, 1) := by decide +kernel
theorem dL_law_316 : decode cL_law 316 = .ok (.aload_n 0, 1) := by decide +kernel
theorem dL_law_317 : decode cL_law 317 = .ok (.iload_n 3, 1) := by decide +kernel
theorem dL_law_318 : decode cL_law 318 = .ok (.iconst 2, 1) := by decide +kernel
theorem dL_law_319 : decode cL_law 319 = .ok (.iadd, 1) := by decide +kernel
theorem dL_law_320 : decode cL_law 320 = .ok (.iaload, 1) := by decide +kernel
theorem dL_law_321 : decode cL_law 321 = .ok (.invokevirtual 43, 3) := by decide +kernel
theorem dL_law_324 : decode cL_law 324 = .ok (.if_icmp .eq 339, 3) := by decide +kernel
theorem dL_law_327 : decode cL_law 327 = .ok (.iconst 0, 1) := by decide +kernel
theorem dL_law_328 : decode cL_law 328 = .ok (.ireturn, 1) := by decide +kernel
theorem dL_law_329 : decode cL_law 329 = .ok (.aload_n 1, 1) := by decide +kernel
theorem dL_law_330 : decode cL_law 330 = .ok (.aload_n 0, 1) := by decide +kernel
theorem dL_law_331 : decode cL_law 331 = .ok (.iload_n 3, 1) := by decide +kernel
theorem dL_law_332 : decode cL_law 332 = .ok (.iconst 1, 1) := by decide +kernel
theorem dL_law_333 : decode cL_law 333 = .ok (.iadd, 1) := by decide +kernel
theorem dL_law_334 : decode cL_law 334 = .ok (.iaload, 1) := by decide +kernel
theorem dL_law_335 : decode cL_law 335 = .ok (.aload_n 0, 1) := by decide +kernel
theorem dL_law_336 : decode cL_law 336 = .ok (.iload_n 3, 1) := by decide +kernel
theorem dL_law_337 : decode cL_law 337 = .ok (.iconst 2, 1) := by decide +kernel
theorem dL_law_338 : decode cL_law 338 = .ok (.iadd, 1) := by decide +kernel
theorem dL_law_339 : decode cL_law 339 = .ok (.iaload, 1) := by decide +kernel
theorem dL_law_340 : decode cL_law 340 = .ok (.aload_n 0, 1) := by decide +kernel
theorem dL_law_341 : decode cL_law 341 = .ok (.iload_n 3, 1) := by decide +kernel
theorem dL_law_342 : decode cL_law 342 = .ok (.iconst 3, 1) := by decide +kernel
theorem dL_law_343 : decode cL_law 343 = .ok (.iadd, 1) := by decide +kernel
theorem dL_law_344 : decode cL_law 344 = .ok (.iaload, 1) := by decide +kernel
theorem dL_law_345 : decode cL_law 345 = .ok (.invokevirtual 44, 3) := by decide +kernel
theorem dL_law_348 : decode cL_law 348 = .ok (.aload_n 2, 1) := by decide +kernel
theorem dL_law_349 : decode cL_law 349 = .ok (.aload_n 0, 1) := by decide +kernel
theorem dL_law_350 : decode cL_law 350 = .ok (.iload_n 3, 1) := by decide +kernel
theorem dL_law_351 : decode cL_law 351 = .ok (.iconst 1, 1) := by decide +kernel
theorem dL_law_352 : decode cL_law 352 = .ok (.iadd, 1) := by decide +kernel
theorem dL_law_353 : decode cL_law 353 = .ok (.iaload, 1) := by decide +kernel
theorem dL_law_354 : decode cL_law 354 = .ok (.aload_n 0, 1) := by decide +kernel
theorem dL_law_355 : decode cL_law 355 = .ok (.iload_n 3, 1) := by decide +kernel
theorem dL_law_356 : decode cL_law 356 = .ok (.iconst 2, 1) := by decide +kernel
theorem dL_law_357 : decode cL_law 357 = .ok (.iadd, 1) := by decide +kernel
theorem dL_law_358 : decode cL_law 358 = .ok (.iaload, 1) := by decide +kernel
theorem dL_law_359 : decode cL_law 359 = .ok (.aload_n 0, 1) := by decide +kernel
theorem dL_law_360 : decode cL_law 360 = .ok (.iload_n 3, 1) := by decide +kernel
theorem dL_law_361 : decode cL_law 361 = .ok (.iconst 3, 1) := by decide +kernel
theorem dL_law_362 : decode cL_law 362 = .ok (.iadd, 1) := by decide +kernel
theorem dL_law_363 : decode cL_law 363 = .ok (.iaload, 1) := by decide +kernel
theorem dL_law_364 : decode cL_law 364 = .ok (.invokevirtual 48, 3) := by decide +kernel
theorem dL_law_367 : decode cL_law 367 = .ok (.if_icmp .eq 296, 3) := by decide +kernel
theorem dL_law_370 : decode cL_law 370 = .ok (.iconst 0, 1) := by decide +kernel
theorem dL_law_371 : decode cL_law 371 = .ok (.ireturn, 1) := by decide +kernel
theorem dL_law_372 : decode cL_law 372 = .ok (.aload_n 1, 1) := by decide +kernel
theorem dL_law_373 : decode cL_law 373 = .ok (.aload_n 0, 1) := by decide +kernel
theorem dL_law_374 : decode cL_law 374 = .ok (.iload_n 3, 1) := by decide +kernel
theorem dL_law_375 : decode cL_law 375 = .ok (.iconst 1, 1) := by decide +kernel
theorem dL_law_376 : decode cL_law 376 = .ok (.iadd, 1) := by decide +kernel
theorem dL_law_377 : decode cL_law 377 = .ok (.iaload, 1) := by decide +kernel
theorem dL_law_378 : decode cL_law 378 = .ok (.aload_n 0, 1) := by decide +kernel
theorem dL_law_379 : decode cL_law 379 = .ok (.iload_n 3, 1) := by decide +kernel
theorem dL_law_380 : decode cL_law 380 = .ok (.iconst 2, 1) := by decide +kernel
theorem dL_law_381 : decode cL_law 381 = .ok (.iadd, 1) := by decide +kernel
theorem dL_law_382 : decode cL_law 382 = .ok (.iaload, 1) := by decide +kernel
theorem dL_law_383 : decode cL_law 383 = .ok (.aload_n 0, 1) := by decide +kernel
theorem dL_law_384 : decode cL_law 384 = .ok (.iload_n 3, 1) := by decide +kernel
theorem dL_law_385 : decode cL_law 385 = .ok (.iconst 3, 1) := by decide +kernel
theorem dL_law_386 : decode cL_law 386 = .ok (.iadd, 1) := by decide +kernel
theorem dL_law_387 : decode cL_law 387 = .ok (.iaload, 1) := by decide +kernel
theorem dL_law_388 : decode cL_law 388 = .ok (.invokevirtual 49, 3) := by decide +kernel
theorem dL_law_391 : decode cL_law 391 = .ok (.aload_n 2, 1) := by decide +kernel
theorem dL_law_392 : decode cL_law 392 = .ok (.aload_n 0, 1) := by decide +kernel
theorem dL_law_393 : decode cL_law 393 = .ok (.iload_n 3, 1) := by decide +kernel
theorem dL_law_394 : decode cL_law 394 = .ok (.iconst 1, 1) := by decide +kernel
theorem dL_law_395 : decode cL_law 395 = .ok (.iadd, 1) := by decide +kernel
theorem dL_law_396 : decode cL_law 396 = .ok (.iaload, 1) := by decide +kernel
theorem dL_law_397 : decode cL_law 397 = .ok (.aload_n 0, 1) := by decide +kernel
theorem dL_law_398 : decode cL_law 398 = .ok (.iload_n 3, 1) := by decide +kernel
theorem dL_law_399 : decode cL_law 399 = .ok (.iconst 2, 1) := by decide +kernel
theorem dL_law_400 : decode cL_law 400 = .ok (.iadd, 1) := by decide +kernel
theorem dL_law_401 : decode cL_law 401 = .ok (.iaload, 1) := by decide +kernel
theorem dL_law_402 : decode cL_law 402 = .ok (.aload_n 0, 1) := by decide +kernel
theorem dL_law_403 : decode cL_law 403 = .ok (.iload_n 3, 1) := by decide +kernel
theorem dL_law_404 : decode cL_law 404 = .ok (.iconst 3, 1) := by decide +kernel
theorem dL_law_405 : decode cL_law 405 = .ok (.iadd, 1) := by decide +kernel
theorem dL_law_406 : decode cL_law 406 = .ok (.iaload, 1) := by decide +kernel
theorem dL_law_407 : decode cL_law 407 = .ok (.invokevirtual 53, 3) := by decide +kernel
theorem dL_law_410 : decode cL_law 410 = .ok (.lcmp, 1) := by decide +kernel
theorem dL_law_411 : decode cL_law 411 = .ok (.ifCond .eq 252, 3) := by decide +kernel
theorem dL_law_414 : decode cL_law 414 = .ok (.iconst 0, 1) := by decide +kernel
theorem dL_law_415 : decode cL_law 415 = .ok (.ireturn, 1) := by decide +kernel
theorem dL_law_416 : decode cL_law 416 = .ok (.aload_n 1, 1) := by decide +kernel
theorem dL_law_417 : decode cL_law 417 = .ok (.aload_n 0, 1) := by decide +kernel
theorem dL_law_418 : decode cL_law 418 = .ok (.iload_n 3, 1) := by decide +kernel
theorem dL_law_419 : decode cL_law 419 = .ok (.iconst 1, 1) := by decide +kernel
theorem dL_law_420 : decode cL_law 420 = .ok (.iadd, 1) := by decide +kernel
theorem dL_law_421 : decode cL_law 421 = .ok (.iaload, 1) := by decide +kernel
theorem dL_law_422 : decode cL_law 422 = .ok (.aload_n 0, 1) := by decide +kernel
theorem dL_law_423 : decode cL_law 423 = .ok (.iload_n 3, 1) := by decide +kernel
theorem dL_law_424 : decode cL_law 424 = .ok (.iconst 2, 1) := by decide +kernel
theorem dL_law_425 : decode cL_law 425 = .ok (.iadd, 1) := by decide +kernel
theorem dL_law_426 : decode cL_law 426 = .ok (.iaload, 1) := by decide +kernel
theorem dL_law_427 : decode cL_law 427 = .ok (.invokevirtual 54, 3) := by decide +kernel
theorem dL_law_430 : decode cL_law 430 = .ok (.aload_n 2, 1) := by decide +kernel
theorem dL_law_431 : decode cL_law 431 = .ok (.aload_n 0, 1) := by decide +kernel
theorem dL_law_432 : decode cL_law 432 = .ok (.iload_n 3, 1) := by decide +kernel
theorem dL_law_433 : decode cL_law 433 = .ok (.iconst 1, 1) := by decide +kernel
theorem dL_law_434 : decode cL_law 434 = .ok (.iadd, 1) := by decide +kernel
theorem dL_law_435 : decode cL_law 435 = .ok (.iaload, 1) := by decide +kernel
theorem dL_law_436 : decode cL_law 436 = .ok (.aload_n 0, 1) := by decide +kernel
theorem dL_law_437 : decode cL_law 437 = .ok (.iload_n 3, 1) := by decide +kernel
theorem dL_law_438 : decode cL_law 438 = .ok (.iconst 2, 1) := by decide +kernel
theorem dL_law_439 : decode cL_law 439 = .ok (.iadd, 1) := by decide +kernel
theorem dL_law_440 : decode cL_law 440 = .ok (.iaload, 1) := by decide +kernel
theorem dL_law_441 : decode cL_law 441 = .ok (.invokevirtual 57, 3) := by decide +kernel
theorem dL_law_444 : decode cL_law 444 = .ok (.if_icmp .eq 219, 3) := by decide +kernel
theorem dL_law_447 : decode cL_law 447 = .ok (.iconst 0, 1) := by decide +kernel
theorem dL_law_448 : decode cL_law 448 = .ok (.ireturn, 1) := by decide +kernel
theorem dL_law_449 : decode cL_law 449 = .ok (.aload_n 1, 1) := by decide +kernel
theorem dL_law_450 : decode cL_law 450 = .ok (.aload_n 0, 1) := by decide +kernel
theorem dL_law_451 : decode cL_law 451 = .ok (.iload_n 3, 1) := by decide +kernel
theorem dL_law_452 : decode cL_law 452 = .ok (.iconst 1, 1) := by decide +kernel
theorem dL_law_453 : decode cL_law 453 = .ok (.iadd, 1) := by decide +kernel
theorem dL_law_454 : decode cL_law 454 = .ok (.iaload, 1) := by decide +kernel
theorem dL_law_455 : decode cL_law 455 = .ok (.aload_n 0, 1) := by decide +kernel
theorem dL_law_456 : decode cL_law 456 = .ok (.iload_n 3, 1) := by decide +kernel
theorem dL_law_457 : decode cL_law 457 = .ok (.iconst 2, 1) := by decide +kernel
theorem dL_law_458 : decode cL_law 458 = .ok (.iadd, 1) := by decide +kernel
theorem dL_law_459 : decode cL_law 459 = .ok (.iaload, 1) := by decide +kernel
theorem dL_law_460 : decode cL_law 460 = .ok (.invokevirtual 58, 3) := by decide +kernel
theorem dL_law_463 : decode cL_law 463 = .ok (.aload_n 2, 1) := by decide +kernel
theorem dL_law_464 : decode cL_law 464 = .ok (.aload_n 0, 1) := by decide +kernel
theorem dL_law_465 : decode cL_law 465 = .ok (.iload_n 3, 1) := by decide +kernel
theorem dL_law_466 : decode cL_law 466 = .ok (.iconst 1, 1) := by decide +kernel
theorem dL_law_467 : decode cL_law 467 = .ok (.iadd, 1) := by decide +kernel
theorem dL_law_468 : decode cL_law 468 = .ok (.iaload, 1) := by decide +kernel
theorem dL_law_469 : decode cL_law 469 = .ok (.aload_n 0, 1) := by decide +kernel
theorem dL_law_470 : decode cL_law 470 = .ok (.iload_n 3, 1) := by decide +kernel
theorem dL_law_471 : decode cL_law 471 = .ok (.iconst 2, 1) := by decide +kernel
theorem dL_law_472 : decode cL_law 472 = .ok (.iadd, 1) := by decide +kernel
theorem dL_law_473 : decode cL_law 473 = .ok (.iaload, 1) := by decide +kernel
theorem dL_law_474 : decode cL_law 474 = .ok (.invokevirtual 61, 3) := by decide +kernel
theorem dL_law_477 : decode cL_law 477 = .ok (.lcmp, 1) := by decide +kernel
theorem dL_law_478 : decode cL_law 478 = .ok (.ifCond .eq 185, 3) := by decide +kernel
theorem dL_law_481 : decode cL_law 481 = .ok (.iconst 0, 1) := by decide +kernel
theorem dL_law_482 : decode cL_law 482 = .ok (.ireturn, 1) := by decide +kernel
theorem dL_law_483 : decode cL_law 483 = .ok (.aload_n 1, 1) := by decide +kernel
theorem dL_law_484 : decode cL_law 484 = .ok (.aload_n 0, 1) := by decide +kernel
theorem dL_law_485 : decode cL_law 485 = .ok (.iload_n 3, 1) := by decide +kernel
theorem dL_law_486 : decode cL_law 486 = .ok (.iconst 1, 1) := by decide +kernel
theorem dL_law_487 : decode cL_law 487 = .ok (.iadd, 1) := by decide +kernel
theorem dL_law_488 : decode cL_law 488 = .ok (.iaload, 1) := by decide +kernel
theorem dL_law_489 : decode cL_law 489 = .ok (.aload_n 0, 1) := by decide +kernel
theorem dL_law_490 : decode cL_law 490 = .ok (.iload_n 3, 1) := by decide +kernel
theorem dL_law_491 : decode cL_law 491 = .ok (.iconst 2, 1) := by decide +kernel
theorem dL_law_492 : decode cL_law 492 = .ok (.iadd, 1) := by decide +kernel
theorem dL_law_493 : decode cL_law 493 = .ok (.iaload, 1) := by decide +kernel
theorem dL_law_494 : decode cL_law 494 = .ok (.aload_n 0, 1) := by decide +kernel
theorem dL_law_495 : decode cL_law 495 = .ok (.iload_n 3, 1) := by decide +kernel
theorem dL_law_496 : decode cL_law 496 = .ok (.iconst 3, 1) := by decide +kernel
theorem dL_law_497 : decode cL_law 497 = .ok (.iadd, 1) := by decide +kernel
theorem dL_law_498 : decode cL_law 498 = .ok (.iaload, 1) := by decide +kernel
theorem dL_law_499 : decode cL_law 499 = .ok (.aload_n 0, 1) := by decide +kernel
theorem dL_law_500 : decode cL_law 500 = .ok (.iload_n 3, 1) := by decide +kernel
theorem dL_law_501 : decode cL_law 501 = .ok (.iconst 4, 1) := by decide +kernel
theorem dL_law_502 : decode cL_law 502 = .ok (.iadd, 1) := by decide +kernel
theorem dL_law_503 : decode cL_law 503 = .ok (.iaload, 1) := by decide +kernel
theorem dL_law_504 : decode cL_law 504 = .ok (.aload_n 0, 1) := by decide +kernel
theorem dL_law_505 : decode cL_law 505 = .ok (.iload_n 3, 1) := by decide +kernel
theorem dL_law_506 : decode cL_law 506 = .ok (.iconst 5, 1) := by decide +kernel
theorem dL_law_507 : decode cL_law 507 = .ok (.iadd, 1) := by decide +kernel
theorem dL_law_508 : decode cL_law 508 = .ok (.iaload, 1) := by decide +kernel
theorem dL_law_509 : decode cL_law 509 = .ok (.invokevirtual 62, 3) := by decide +kernel
theorem dL_law_512 : decode cL_law 512 = .ok (.aload_n 2, 1) := by decide +kernel
theorem dL_law_513 : decode cL_law 513 = .ok (.aload_n 0, 1) := by decide +kernel
theorem dL_law_514 : decode cL_law 514 = .ok (.iload_n 3, 1) := by decide +kernel
theorem dL_law_515 : decode cL_law 515 = .ok (.iconst 1, 1) := by decide +kernel
theorem dL_law_516 : decode cL_law 516 = .ok (.iadd, 1) := by decide +kernel
theorem dL_law_517 : decode cL_law 517 = .ok (.iaload, 1) := by decide +kernel
theorem dL_law_518 : decode cL_law 518 = .ok (.aload_n 0, 1) := by decide +kernel
theorem dL_law_519 : decode cL_law 519 = .ok (.iload_n 3, 1) := by decide +kernel
theorem dL_law_520 : decode cL_law 520 = .ok (.iconst 2, 1) := by decide +kernel
theorem dL_law_521 : decode cL_law 521 = .ok (.iadd, 1) := by decide +kernel
theorem dL_law_522 : decode cL_law 522 = .ok (.iaload, 1) := by decide +kernel
theorem dL_law_523 : decode cL_law 523 = .ok (.aload_n 0, 1) := by decide +kernel
theorem dL_law_524 : decode cL_law 524 = .ok (.iload_n 3, 1) := by decide +kernel
theorem dL_law_525 : decode cL_law 525 = .ok (.iconst 3, 1) := by decide +kernel
theorem dL_law_526 : decode cL_law 526 = .ok (.iadd, 1) := by decide +kernel
theorem dL_law_527 : decode cL_law 527 = .ok (.iaload, 1) := by decide +kernel
theorem dL_law_528 : decode cL_law 528 = .ok (.aload_n 0, 1) := by decide +kernel
theorem dL_law_529 : decode cL_law 529 = .ok (.iload_n 3, 1) := by decide +kernel
theorem dL_law_530 : decode cL_law 530 = .ok (.iconst 4, 1) := by decide +kernel
theorem dL_law_531 : decode cL_law 531 = .ok (.iadd, 1) := by decide +kernel
theorem dL_law_532 : decode cL_law 532 = .ok (.iaload, 1) := by decide +kernel
theorem dL_law_533 : decode cL_law 533 = .ok (.aload_n 0, 1) := by decide +kernel
theorem dL_law_534 : decode cL_law 534 = .ok (.iload_n 3, 1) := by decide +kernel
theorem dL_law_535 : decode cL_law 535 = .ok (.iconst 5, 1) := by decide +kernel
theorem dL_law_536 : decode cL_law 536 = .ok (.iadd, 1) := by decide +kernel
theorem dL_law_537 : decode cL_law 537 = .ok (.iaload, 1) := by decide +kernel
theorem dL_law_538 : decode cL_law 538 = .ok (.invokevirtual 66, 3) := by decide +kernel
theorem dL_law_541 : decode cL_law 541 = .ok (.if_icmp .eq 122, 3) := by decide +kernel
theorem dL_law_544 : decode cL_law 544 = .ok (.iconst 0, 1) := by decide +kernel
theorem dL_law_545 : decode cL_law 545 = .ok (.ireturn, 1) := by decide +kernel
theorem dL_law_546 : decode cL_law 546 = .ok (.aload_n 1, 1) := by decide +kernel
theorem dL_law_547 : decode cL_law 547 = .ok (.aload_n 0, 1) := by decide +kernel
theorem dL_law_548 : decode cL_law 548 = .ok (.iload_n 3, 1) := by decide +kernel
theorem dL_law_549 : decode cL_law 549 = .ok (.iconst 1, 1) := by decide +kernel
theorem dL_law_550 : decode cL_law 550 = .ok (.iadd, 1) := by decide +kernel
theorem dL_law_551 : decode cL_law 551 = .ok (.iaload, 1) := by decide +kernel
theorem dL_law_552 : decode cL_law 552 = .ok (.invokevirtual 67, 3) := by decide +kernel
theorem dL_law_555 : decode cL_law 555 = .ok (.aload_n 2, 1) := by decide +kernel
theorem dL_law_556 : decode cL_law 556 = .ok (.aload_n 0, 1) := by decide +kernel
theorem dL_law_557 : decode cL_law 557 = .ok (.iload_n 3, 1) := by decide +kernel
theorem dL_law_558 : decode cL_law 558 = .ok (.iconst 1, 1) := by decide +kernel
theorem dL_law_559 : decode cL_law 559 = .ok (.iadd, 1) := by decide +kernel
theorem dL_law_560 : decode cL_law 560 = .ok (.iaload, 1) := by decide +kernel
theorem dL_law_561 : decode cL_law 561 = .ok (.invokevirtual 71, 3) := by decide +kernel
theorem dL_law_564 : decode cL_law 564 = .ok (.lcmp, 1) := by decide +kernel
theorem dL_law_565 : decode cL_law 565 = .ok (.ifCond .eq 98, 3) := by decide +kernel
theorem dL_law_568 : decode cL_law 568 = .ok (.iconst 0, 1) := by decide +kernel
theorem dL_law_569 : decode cL_law 569 = .ok (.ireturn, 1) := by decide +kernel
theorem dL_law_570 : decode cL_law 570 = .ok (.aload_n 1, 1) := by decide +kernel
theorem dL_law_571 : decode cL_law 571 = .ok (.aload_n 0, 1) := by decide +kernel
theorem dL_law_572 : decode cL_law 572 = .ok (.iload_n 3, 1) := by decide +kernel
theorem dL_law_573 : decode cL_law 573 = .ok (.iconst 1, 1) := by decide +kernel
theorem dL_law_574 : decode cL_law 574 = .ok (.iadd, 1) := by decide +kernel
theorem dL_law_575 : decode cL_law 575 = .ok (.iaload, 1) := by decide +kernel
theorem dL_law_576 : decode cL_law 576 = .ok (.invokevirtual 72, 3) := by decide +kernel
theorem dL_law_579 : decode cL_law 579 = .ok (.aload_n 2, 1) := by decide +kernel
theorem dL_law_580 : decode cL_law 580 = .ok (.aload_n 0, 1) := by decide +kernel
theorem dL_law_581 : decode cL_law 581 = .ok (.iload_n 3, 1) := by decide +kernel
theorem dL_law_582 : decode cL_law 582 = .ok (.iconst 1, 1) := by decide +kernel
theorem dL_law_583 : decode cL_law 583 = .ok (.iadd, 1) := by decide +kernel
theorem dL_law_584 : decode cL_law 584 = .ok (.iaload, 1) := by decide +kernel
theorem dL_law_585 : decode cL_law 585 = .ok (.invokevirtual 75, 3) := by decide +kernel
theorem dL_law_588 : decode cL_law 588 = .ok (.if_icmp .eq 75, 3) := by decide +kernel
theorem dL_law_591 : decode cL_law 591 = .ok (.iconst 0, 1) := by decide +kernel
theorem dL_law_592 : decode cL_law 592 = .ok (.ireturn, 1) := by decide +kernel
theorem dL_law_593 : decode cL_law 593 = .ok (.aload_n 1, 1) := by decide +kernel
theorem dL_law_594 : decode cL_law 594 = .ok (.aload_n 0, 1) := by decide +kernel
theorem dL_law_595 : decode cL_law 595 = .ok (.iload_n 3, 1) := by decide +kernel
theorem dL_law_596 : decode cL_law 596 = .ok (.iconst 1, 1) := by decide +kernel
theorem dL_law_597 : decode cL_law 597 = .ok (.iadd, 1) := by decide +kernel
theorem dL_law_598 : decode cL_law 598 = .ok (.iaload, 1) := by decide +kernel
theorem dL_law_599 : decode cL_law 599 = .ok (.aload_n 0, 1) := by decide +kernel
theorem dL_law_600 : decode cL_law 600 = .ok (.iload_n 3, 1) := by decide +kernel
theorem dL_law_601 : decode cL_law 601 = .ok (.iconst 2, 1) := by decide +kernel
theorem dL_law_602 : decode cL_law 602 = .ok (.iadd, 1) := by decide +kernel
theorem dL_law_603 : decode cL_law 603 = .ok (.iaload, 1) := by decide +kernel
theorem dL_law_604 : decode cL_law 604 = .ok (.invokevirtual 76, 3) := by decide +kernel
theorem dL_law_607 : decode cL_law 607 = .ok (.aload_n 2, 1) := by decide +kernel
theorem dL_law_608 : decode cL_law 608 = .ok (.aload_n 0, 1) := by decide +kernel
theorem dL_law_609 : decode cL_law 609 = .ok (.iload_n 3, 1) := by decide +kernel
theorem dL_law_610 : decode cL_law 610 = .ok (.iconst 1, 1) := by decide +kernel
theorem dL_law_611 : decode cL_law 611 = .ok (.iadd, 1) := by decide +kernel
theorem dL_law_612 : decode cL_law 612 = .ok (.iaload, 1) := by decide +kernel
theorem dL_law_613 : decode cL_law 613 = .ok (.aload_n 0, 1) := by decide +kernel
theorem dL_law_614 : decode cL_law 614 = .ok (.iload_n 3, 1) := by decide +kernel
theorem dL_law_615 : decode cL_law 615 = .ok (.iconst 2, 1) := by decide +kernel
theorem dL_law_616 : decode cL_law 616 = .ok (.iadd, 1) := by decide +kernel
theorem dL_law_617 : decode cL_law 617 = .ok (.iaload, 1) := by decide +kernel
theorem dL_law_618 : decode cL_law 618 = .ok (.invokevirtual 79, 3) := by decide +kernel
theorem dL_law_621 : decode cL_law 621 = .ok (.lcmp, 1) := by decide +kernel
theorem dL_law_622 : decode cL_law 622 = .ok (.ifCond .eq 41, 3) := by decide +kernel
theorem dL_law_625 : decode cL_law 625 = .ok (.iconst 0, 1) := by decide +kernel
theorem dL_law_626 : decode cL_law 626 = .ok (.ireturn, 1) := by decide +kernel
theorem dL_law_627 : decode cL_law 627 = .ok (.aload_n 1, 1) := by decide +kernel
theorem dL_law_628 : decode cL_law 628 = .ok (.aload_n 0, 1) := by decide +kernel
theorem dL_law_629 : decode cL_law 629 = .ok (.iload_n 3, 1) := by decide +kernel
theorem dL_law_630 : decode cL_law 630 = .ok (.iconst 1, 1) := by decide +kernel
theorem dL_law_631 : decode cL_law 631 = .ok (.iadd, 1) := by decide +kernel
theorem dL_law_632 : decode cL_law 632 = .ok (.iaload, 1) := by decide +kernel
theorem dL_law_633 : decode cL_law 633 = .ok (.invokevirtual 80, 3) := by decide +kernel
theorem dL_law_636 : decode cL_law 636 = .ok (.aload_n 2, 1) := by decide +kernel
theorem dL_law_637 : decode cL_law 637 = .ok (.aload_n 0, 1) := by decide +kernel
theorem dL_law_638 : decode cL_law 638 = .ok (.iload_n 3, 1) := by decide +kernel
theorem dL_law_639 : decode cL_law 639 = .ok (.iconst 1, 1) := by decide +kernel
theorem dL_law_640 : decode cL_law 640 = .ok (.iadd, 1) := by decide +kernel
theorem dL_law_641 : decode cL_law 641 = .ok (.iaload, 1) := by decide +kernel
theorem dL_law_642 : decode cL_law 642 = .ok (.invokevirtual 83, 3) := by decide +kernel
theorem dL_law_645 : decode cL_law 645 = .ok (.if_icmp .eq 18, 3) := by decide +kernel
theorem dL_law_648 : decode cL_law 648 = .ok (.iconst 0, 1) := by decide +kernel
theorem dL_law_649 : decode cL_law 649 = .ok (.ireturn, 1) := by decide +kernel
theorem dL_law_650 : decode cL_law 650 = .ok (.aload_n 1, 1) := by decide +kernel
theorem dL_law_651 : decode cL_law 651 = .ok (.invokevirtual 84, 3) := by decide +kernel
theorem dL_law_654 : decode cL_law 654 = .ok (.aload_n 2, 1) := by decide +kernel
theorem dL_law_655 : decode cL_law 655 = .ok (.invokevirtual 88, 3) := by decide +kernel
theorem dL_law_658 : decode cL_law 658 = .ok (.if_icmp .eq 5, 3) := by decide +kernel
theorem dL_law_661 : decode cL_law 661 = .ok (.iconst 0, 1) := by decide +kernel
theorem dL_law_662 : decode cL_law 662 = .ok (.ireturn, 1) := by decide +kernel
theorem dL_law_663 : decode cL_law 663 = .ok (.iinc 3 6, 3) := by decide +kernel
theorem dL_law_666 : decode cL_law 666 = .ok (.goto (-648), 3) := by decide +kernel
theorem dL_law_669 : decode cL_law 669 = .ok (.iconst 1, 1) := by decide +kernel
theorem dL_law_670 : decode cL_law 670 = .ok (.ireturn, 1) := by decide +kernel
end
section
def wk_isX (w : Cond) : Bool := match w with
  | .methodLinkNest .. => true
  | .declares _ => true
  | .castable .. => true
  | _ => false
def wk_T : List Cond := lw_tbl.filter goodWord
def wk_X : List Cond := lw_tbl.filter wk_isX
theorem mw_0 : (Cond.selects RX11 yX11_giveRank yX11_giveRank) ∈ wk_T := List.mem_filter.mpr ⟨List.mem_of_getElem? (i := 0) (by decide +kernel), rfl⟩
theorem mw_1 : (Cond.selects RX11 yX11_doDuty yX11_doDuty) ∈ wk_T := List.mem_filter.mpr ⟨List.mem_of_getElem? (i := 1) (by decide +kernel), rfl⟩
theorem mw_2 : (Cond.selects RX11 yX11_sailLine yX11_sailLine) ∈ wk_T := List.mem_filter.mpr ⟨List.mem_of_getElem? (i := 2) (by decide +kernel), rfl⟩
theorem mw_3 : (Cond.selects RX12 yX12_isMember yX12_isMember) ∈ wk_T := List.mem_filter.mpr ⟨List.mem_of_getElem? (i := 3) (by decide +kernel), rfl⟩
theorem mw_4 : (Cond.selects RX12 yX12_begin yX12_begin) ∈ wk_T := List.mem_filter.mpr ⟨List.mem_of_getElem? (i := 4) (by decide +kernel), rfl⟩
theorem mw_5 : (Cond.selects RX12 yX12_may yX12_may) ∈ wk_T := List.mem_filter.mpr ⟨List.mem_of_getElem? (i := 5) (by decide +kernel), rfl⟩
theorem mw_6 : (Cond.selects RX12 yX12_work yX12_work) ∈ wk_T := List.mem_filter.mpr ⟨List.mem_of_getElem? (i := 6) (by decide +kernel), rfl⟩
theorem mw_7 : (Cond.selects RX12 yX12_does yX12_does) ∈ wk_T := List.mem_filter.mpr ⟨List.mem_of_getElem? (i := 7) (by decide +kernel), rfl⟩
theorem mw_8 : (Cond.selects RX12 yX12_toils yX12_toils) ∈ wk_T := List.mem_filter.mpr ⟨List.mem_of_getElem? (i := 8) (by decide +kernel), rfl⟩
theorem mw_9 : (Cond.selects RX12 yX12_soulToils yX12_soulToils) ∈ wk_T := List.mem_filter.mpr ⟨List.mem_of_getElem? (i := 9) (by decide +kernel), rfl⟩
theorem mw_10 : (Cond.selects RX12 yX12_mark yX12_mark) ∈ wk_T := List.mem_filter.mpr ⟨List.mem_of_getElem? (i := 10) (by decide +kernel), rfl⟩
theorem mw_11 : (Cond.selects RX12 yX12_tire yX12_tire) ∈ wk_T := List.mem_filter.mpr ⟨List.mem_of_getElem? (i := 11) (by decide +kernel), rfl⟩
theorem mw_12 : (Cond.selects RX12 yX12_topmanToils yX12_topmanToils) ∈ wk_T := List.mem_filter.mpr ⟨List.mem_of_getElem? (i := 12) (by decide +kernel), rfl⟩
theorem mw_13 : (Cond.selects RX12 yX12_mateToils yX12_mateToils) ∈ wk_T := List.mem_filter.mpr ⟨List.mem_of_getElem? (i := 13) (by decide +kernel), rfl⟩
theorem mw_14 : (Cond.selects RX12 yX12_masterToils yX12_masterToils) ∈ wk_T := List.mem_filter.mpr ⟨List.mem_of_getElem? (i := 14) (by decide +kernel), rfl⟩
theorem mw_15 : (Cond.selects RX12 yX12_cookToils yX12_cookToils) ∈ wk_T := List.mem_filter.mpr ⟨List.mem_of_getElem? (i := 15) (by decide +kernel), rfl⟩
theorem mw_16 : (Cond.selects RX12 yX12_isPaid yX12_isPaid) ∈ wk_T := List.mem_filter.mpr ⟨List.mem_of_getElem? (i := 16) (by decide +kernel), rfl⟩
theorem mw_17 : (Cond.selects RX12 yX12_bosunIsPaid yX12_bosunIsPaid) ∈ wk_T := List.mem_filter.mpr ⟨List.mem_of_getElem? (i := 17) (by decide +kernel), rfl⟩
theorem mw_18 : (Cond.selects RX12 yX12_handIsPaid yX12_handIsPaid) ∈ wk_T := List.mem_filter.mpr ⟨List.mem_of_getElem? (i := 18) (by decide +kernel), rfl⟩
theorem mw_19 : (Cond.selects RX12 yX12_howMany yX12_howMany) ∈ wk_T := List.mem_filter.mpr ⟨List.mem_of_getElem? (i := 19) (by decide +kernel), rfl⟩
theorem mw_20 : (Cond.selects RX12 yX12_masterIsPaid yX12_masterIsPaid) ∈ wk_T := List.mem_filter.mpr ⟨List.mem_of_getElem? (i := 20) (by decide +kernel), rfl⟩
theorem mw_21 : (Cond.selects RX12 yX12_surgeonIsPaid yX12_surgeonIsPaid) ∈ wk_T := List.mem_filter.mpr ⟨List.mem_of_getElem? (i := 21) (by decide +kernel), rfl⟩
theorem mw_22 : (Cond.selects RX12 yX12_climbs yX12_climbs) ∈ wk_T := List.mem_filter.mpr ⟨List.mem_of_getElem? (i := 22) (by decide +kernel), rfl⟩
theorem mw_23 : (Cond.selects RX12 yX12_sailorClimbs yX12_sailorClimbs) ∈ wk_T := List.mem_filter.mpr ⟨List.mem_of_getElem? (i := 23) (by decide +kernel), rfl⟩
theorem mw_24 : (Cond.selects RX12 yX12_soulClimbs yX12_soulClimbs) ∈ wk_T := List.mem_filter.mpr ⟨List.mem_of_getElem? (i := 24) (by decide +kernel), rfl⟩
theorem mw_25 : (Cond.selects RX12 yX12_mateClimbs yX12_mateClimbs) ∈ wk_T := List.mem_filter.mpr ⟨List.mem_of_getElem? (i := 25) (by decide +kernel), rfl⟩
theorem mw_26 : (Cond.selects RX12 yX12_surgeonClimbs yX12_surgeonClimbs) ∈ wk_T := List.mem_filter.mpr ⟨List.mem_of_getElem? (i := 26) (by decide +kernel), rfl⟩
theorem mw_27 : (Cond.selects RX12 yX12_heeds yX12_heeds) ∈ wk_T := List.mem_filter.mpr ⟨List.mem_of_getElem? (i := 27) (by decide +kernel), rfl⟩
theorem mw_28 : (Cond.selects RX12 yX12_soulHeeds yX12_soulHeeds) ∈ wk_T := List.mem_filter.mpr ⟨List.mem_of_getElem? (i := 28) (by decide +kernel), rfl⟩
theorem mw_29 : (Cond.selects RX12 yX12_topmanHeeds yX12_topmanHeeds) ∈ wk_T := List.mem_filter.mpr ⟨List.mem_of_getElem? (i := 29) (by decide +kernel), rfl⟩
theorem mw_30 : (Cond.selects RX12 yX12_bosunHeeds yX12_bosunHeeds) ∈ wk_T := List.mem_filter.mpr ⟨List.mem_of_getElem? (i := 30) (by decide +kernel), rfl⟩
theorem mw_31 : (Cond.selects RX12 yX12_masterHeeds yX12_masterHeeds) ∈ wk_T := List.mem_filter.mpr ⟨List.mem_of_getElem? (i := 31) (by decide +kernel), rfl⟩
theorem mw_32 : (Cond.selects RX12 yX12_cookHeeds yX12_cookHeeds) ∈ wk_T := List.mem_filter.mpr ⟨List.mem_of_getElem? (i := 32) (by decide +kernel), rfl⟩
theorem mw_33 : (Cond.initialized RL) ∈ wk_T := List.mem_filter.mpr ⟨List.mem_of_getElem? (i := 33) (by decide +kernel), rfl⟩
theorem mw_34 : (Cond.initialized RX11) ∈ wk_T := List.mem_filter.mpr ⟨List.mem_of_getElem? (i := 34) (by decide +kernel), rfl⟩
theorem mw_35 : (Cond.initialized RX2) ∈ wk_T := List.mem_filter.mpr ⟨List.mem_of_getElem? (i := 35) (by decide +kernel), rfl⟩
theorem mw_36 : (Cond.initialized RX8) ∈ wk_T := List.mem_filter.mpr ⟨List.mem_of_getElem? (i := 36) (by decide +kernel), rfl⟩
theorem mw_37 : (Cond.initialized RX3) ∈ wk_T := List.mem_filter.mpr ⟨List.mem_of_getElem? (i := 37) (by decide +kernel), rfl⟩
theorem mw_38 : (Cond.initialized RX7) ∈ wk_T := List.mem_filter.mpr ⟨List.mem_of_getElem? (i := 38) (by decide +kernel), rfl⟩
theorem mw_39 : (Cond.initialized RX10) ∈ wk_T := List.mem_filter.mpr ⟨List.mem_of_getElem? (i := 39) (by decide +kernel), rfl⟩
theorem mw_40 : (Cond.initialized RX0) ∈ wk_T := List.mem_filter.mpr ⟨List.mem_of_getElem? (i := 40) (by decide +kernel), rfl⟩
theorem mw_41 : (Cond.initialized RX5) ∈ wk_T := List.mem_filter.mpr ⟨List.mem_of_getElem? (i := 41) (by decide +kernel), rfl⟩
theorem mw_42 : (Cond.initialized RX4) ∈ wk_T := List.mem_filter.mpr ⟨List.mem_of_getElem? (i := 42) (by decide +kernel), rfl⟩
theorem mw_43 : (Cond.initialized RX1) ∈ wk_T := List.mem_filter.mpr ⟨List.mem_of_getElem? (i := 43) (by decide +kernel), rfl⟩
theorem mw_44 : (Cond.initialized RX9) ∈ wk_T := List.mem_filter.mpr ⟨List.mem_of_getElem? (i := 44) (by decide +kernel), rfl⟩
theorem mw_45 : (Cond.initialized RX12) ∈ wk_T := List.mem_filter.mpr ⟨List.mem_of_getElem? (i := 45) (by decide +kernel), rfl⟩
theorem mw_46 : (Cond.initialized RX6) ∈ wk_T := List.mem_filter.mpr ⟨List.mem_of_getElem? (i := 46) (by decide +kernel), rfl⟩
theorem mw_47 : (Cond.classLink RL 7 RX11) ∈ wk_T := List.mem_filter.mpr ⟨List.mem_of_getElem? (i := 47) (by decide +kernel), rfl⟩
theorem mw_48 : (Cond.instantiable RX11 6) ∈ wk_T := List.mem_filter.mpr ⟨List.mem_of_getElem? (i := 48) (by decide +kernel), rfl⟩
theorem mw_49 : (Cond.methodLink RL 9 yX11_init) ∈ wk_T := List.mem_filter.mpr ⟨List.mem_of_getElem? (i := 49) (by decide +kernel), rfl⟩
theorem mw_50 : (Cond.instanceMethod yX11_init) ∈ wk_T := List.mem_filter.mpr ⟨List.mem_of_getElem? (i := 50) (by decide +kernel), rfl⟩
theorem mw_51 : (Cond.code yX11_init prog_1_method_1_code 2 (Option.none : Option FieldType)) ∈ wk_T := List.mem_filter.mpr ⟨List.mem_of_getElem? (i := 51) (by decide +kernel), rfl⟩
theorem mw_52 : (Cond.methodLink RX11 1 (⟨"java/lang/Object", "<init>", "()V"⟩ : MethodName)) ∈ wk_T := List.mem_filter.mpr ⟨List.mem_of_getElem? (i := 52) (by decide +kernel), rfl⟩
theorem mw_53 : (Cond.instanceMethod (⟨"java/lang/Object", "<init>", "()V"⟩ : MethodName)) ∈ wk_T := List.mem_filter.mpr ⟨List.mem_of_getElem? (i := 53) (by decide +kernel), rfl⟩
theorem mw_54 : (Cond.code (⟨"java/lang/Object", "<init>", "()V"⟩ : MethodName) object_method_1_code 1 (Option.none : Option FieldType)) ∈ wk_T := List.mem_filter.mpr ⟨List.mem_of_getElem? (i := 54) (by decide +kernel), rfl⟩
theorem mw_55 : (Cond.classLink RX11 7 RX2) ∈ wk_T := List.mem_filter.mpr ⟨List.mem_of_getElem? (i := 55) (by decide +kernel), rfl⟩
theorem mw_56 : (Cond.instantiable RX2 5) ∈ wk_T := List.mem_filter.mpr ⟨List.mem_of_getElem? (i := 56) (by decide +kernel), rfl⟩
theorem mx_57 : (Cond.methodLinkNest RX11 9 yX2_init RX11) ∈ wk_X := List.mem_filter.mpr ⟨List.mem_of_getElem? (i := 57) (by decide +kernel), rfl⟩
theorem mw_58 : (Cond.instanceMethod yX2_init) ∈ wk_T := List.mem_filter.mpr ⟨List.mem_of_getElem? (i := 58) (by decide +kernel), rfl⟩
theorem mw_59 : (Cond.code yX2_init prog_4_method_1_code 1 (Option.none : Option FieldType)) ∈ wk_T := List.mem_filter.mpr ⟨List.mem_of_getElem? (i := 59) (by decide +kernel), rfl⟩
theorem mw_60 : (Cond.methodLink RX2 3 (⟨"java/lang/Object", "<init>", "()V"⟩ : MethodName)) ∈ wk_T := List.mem_filter.mpr ⟨List.mem_of_getElem? (i := 60) (by decide +kernel), rfl⟩
theorem mw_61 : (Cond.fieldLink RX9 19 RX2 "first" "LWatchBill$Member;") ∈ wk_T := List.mem_filter.mpr ⟨List.mem_of_getElem? (i := 61) (by decide +kernel), rfl⟩
theorem mw_62 : (Cond.fieldLink RX0 21 RX2 "first" "LWatchBill$Member;") ∈ wk_T := List.mem_filter.mpr ⟨List.mem_of_getElem? (i := 62) (by decide +kernel), rfl⟩
theorem mw_63 : (Cond.fieldLink RX2 28 RX2 "first" "LWatchBill$Member;") ∈ wk_T := List.mem_filter.mpr ⟨List.mem_of_getElem? (i := 63) (by decide +kernel), rfl⟩
theorem mw_64 : (Cond.fieldLink RX11 135 RX2 "first" "LWatchBill$Member;") ∈ wk_T := List.mem_filter.mpr ⟨List.mem_of_getElem? (i := 64) (by decide +kernel), rfl⟩
theorem mw_65 : (Cond.fieldLink RX2 24 RX2 "last" "LWatchBill$Member;") ∈ wk_T := List.mem_filter.mpr ⟨List.mem_of_getElem? (i := 65) (by decide +kernel), rfl⟩
theorem mw_66 : (Cond.fieldLink RX2 17 RX2 "count" "I") ∈ wk_T := List.mem_filter.mpr ⟨List.mem_of_getElem? (i := 66) (by decide +kernel), rfl⟩
theorem mw_67 : (Cond.fieldLink RX11 63 RX2 "count" "I") ∈ wk_T := List.mem_filter.mpr ⟨List.mem_of_getElem? (i := 67) (by decide +kernel), rfl⟩
theorem mw_68 : (Cond.fieldLink RX2 9 RX2 "kept" "[I") ∈ wk_T := List.mem_filter.mpr ⟨List.mem_of_getElem? (i := 68) (by decide +kernel), rfl⟩
theorem mw_69 : (Cond.fieldLink RX11 166 RX2 "kept" "[I") ∈ wk_T := List.mem_filter.mpr ⟨List.mem_of_getElem? (i := 69) (by decide +kernel), rfl⟩
theorem mw_70 : (Cond.fieldLink RX2 37 RX2 "noted" "I") ∈ wk_T := List.mem_filter.mpr ⟨List.mem_of_getElem? (i := 70) (by decide +kernel), rfl⟩
theorem mw_71 : (Cond.fieldLink RX11 163 RX2 "noted" "I") ∈ wk_T := List.mem_filter.mpr ⟨List.mem_of_getElem? (i := 71) (by decide +kernel), rfl⟩
theorem mw_72 : (Cond.lays RX2 RX2 "first" "LWatchBill$Member;") ∈ wk_T := List.mem_filter.mpr ⟨List.mem_of_getElem? (i := 72) (by decide +kernel), rfl⟩
theorem mw_74 : (Cond.lays RX2 RX2 "last" "LWatchBill$Member;") ∈ wk_T := List.mem_filter.mpr ⟨List.mem_of_getElem? (i := 74) (by decide +kernel), rfl⟩
theorem mw_76 : (Cond.lays RX2 RX2 "count" "I") ∈ wk_T := List.mem_filter.mpr ⟨List.mem_of_getElem? (i := 76) (by decide +kernel), rfl⟩
theorem mw_78 : (Cond.laysFinal RX2 RX2 "kept" "[I") ∈ wk_T := List.mem_filter.mpr ⟨List.mem_of_getElem? (i := 78) (by decide +kernel), rfl⟩
theorem mw_80 : (Cond.lays RX2 RX2 "noted" "I") ∈ wk_T := List.mem_filter.mpr ⟨List.mem_of_getElem? (i := 80) (by decide +kernel), rfl⟩
theorem mw_82 : (Cond.superclass RX2 "java/lang/Object") ∈ wk_T := List.mem_filter.mpr ⟨List.mem_of_getElem? (i := 82) (by decide +kernel), rfl⟩
theorem mw_83 : (Cond.arrayClass FieldType.int) ∈ wk_T := List.mem_filter.mpr ⟨List.mem_of_getElem? (i := 83) (by decide +kernel), rfl⟩
theorem mw_84 : (Cond.classLink RX11 16 RX8) ∈ wk_T := List.mem_filter.mpr ⟨List.mem_of_getElem? (i := 84) (by decide +kernel), rfl⟩
theorem ma_85 : (Cond.arrayOver (FieldType.object RX8)) ∈ lw_tbl := List.mem_of_getElem? (i := 85) (by decide +kernel)
theorem mw_86 : (Cond.classLink RX11 18 RX3) ∈ wk_T := List.mem_filter.mpr ⟨List.mem_of_getElem? (i := 86) (by decide +kernel), rfl⟩
theorem mw_87 : (Cond.instantiable RX3 0) ∈ wk_T := List.mem_filter.mpr ⟨List.mem_of_getElem? (i := 87) (by decide +kernel), rfl⟩
theorem mx_88 : (Cond.methodLinkNest RX11 20 yX3_init RX11) ∈ wk_X := List.mem_filter.mpr ⟨List.mem_of_getElem? (i := 88) (by decide +kernel), rfl⟩
theorem mw_89 : (Cond.instanceMethod yX3_init) ∈ wk_T := List.mem_filter.mpr ⟨List.mem_of_getElem? (i := 89) (by decide +kernel), rfl⟩
theorem mw_90 : (Cond.code yX3_init prog_5_method_1_code 1 (Option.none : Option FieldType)) ∈ wk_T := List.mem_filter.mpr ⟨List.mem_of_getElem? (i := 90) (by decide +kernel), rfl⟩
theorem mx_91 : (Cond.methodLinkNest RX3 3 yX8_init RX11) ∈ wk_X := List.mem_filter.mpr ⟨List.mem_of_getElem? (i := 91) (by decide +kernel), rfl⟩
theorem mw_92 : (Cond.instanceMethod yX8_init) ∈ wk_T := List.mem_filter.mpr ⟨List.mem_of_getElem? (i := 92) (by decide +kernel), rfl⟩
theorem mw_93 : (Cond.code yX8_init prog_10_method_1_code 1 (Option.none : Option FieldType)) ∈ wk_T := List.mem_filter.mpr ⟨List.mem_of_getElem? (i := 93) (by decide +kernel), rfl⟩
theorem mw_94 : (Cond.methodLink RX8 3 (⟨"java/lang/Object", "<init>", "()V"⟩ : MethodName)) ∈ wk_T := List.mem_filter.mpr ⟨List.mem_of_getElem? (i := 94) (by decide +kernel), rfl⟩
theorem mw_95 : (Cond.superclass RX3 RX8) ∈ wk_T := List.mem_filter.mpr ⟨List.mem_of_getElem? (i := 95) (by decide +kernel), rfl⟩
theorem mw_96 : (Cond.classLink RX11 21 RX7) ∈ wk_T := List.mem_filter.mpr ⟨List.mem_of_getElem? (i := 96) (by decide +kernel), rfl⟩
theorem mw_97 : (Cond.instantiable RX7 0) ∈ wk_T := List.mem_filter.mpr ⟨List.mem_of_getElem? (i := 97) (by decide +kernel), rfl⟩
theorem mx_98 : (Cond.methodLinkNest RX11 23 yX7_init RX11) ∈ wk_X := List.mem_filter.mpr ⟨List.mem_of_getElem? (i := 98) (by decide +kernel), rfl⟩
theorem mw_99 : (Cond.instanceMethod yX7_init) ∈ wk_T := List.mem_filter.mpr ⟨List.mem_of_getElem? (i := 99) (by decide +kernel), rfl⟩
theorem mw_100 : (Cond.code yX7_init prog_9_method_1_code 1 (Option.none : Option FieldType)) ∈ wk_T := List.mem_filter.mpr ⟨List.mem_of_getElem? (i := 100) (by decide +kernel), rfl⟩
theorem mx_101 : (Cond.methodLinkNest RX7 3 yX3_init RX11) ∈ wk_X := List.mem_filter.mpr ⟨List.mem_of_getElem? (i := 101) (by decide +kernel), rfl⟩
theorem mw_102 : (Cond.superclass RX7 RX3) ∈ wk_T := List.mem_filter.mpr ⟨List.mem_of_getElem? (i := 102) (by decide +kernel), rfl⟩
theorem mw_103 : (Cond.classLink RX11 24 RX10) ∈ wk_T := List.mem_filter.mpr ⟨List.mem_of_getElem? (i := 103) (by decide +kernel), rfl⟩
theorem mw_104 : (Cond.instantiable RX10 0) ∈ wk_T := List.mem_filter.mpr ⟨List.mem_of_getElem? (i := 104) (by decide +kernel), rfl⟩
theorem mx_105 : (Cond.methodLinkNest RX11 26 yX10_init RX11) ∈ wk_X := List.mem_filter.mpr ⟨List.mem_of_getElem? (i := 105) (by decide +kernel), rfl⟩
theorem mw_106 : (Cond.instanceMethod yX10_init) ∈ wk_T := List.mem_filter.mpr ⟨List.mem_of_getElem? (i := 106) (by decide +kernel), rfl⟩
theorem mw_107 : (Cond.code yX10_init prog_12_method_1_code 1 (Option.none : Option FieldType)) ∈ wk_T := List.mem_filter.mpr ⟨List.mem_of_getElem? (i := 107) (by decide +kernel), rfl⟩
theorem mx_108 : (Cond.methodLinkNest RX10 3 yX7_init RX11) ∈ wk_X := List.mem_filter.mpr ⟨List.mem_of_getElem? (i := 108) (by decide +kernel), rfl⟩
theorem mw_109 : (Cond.superclass RX10 RX7) ∈ wk_T := List.mem_filter.mpr ⟨List.mem_of_getElem? (i := 109) (by decide +kernel), rfl⟩
theorem mw_110 : (Cond.classLink RX11 27 RX0) ∈ wk_T := List.mem_filter.mpr ⟨List.mem_of_getElem? (i := 110) (by decide +kernel), rfl⟩
theorem mw_111 : (Cond.instantiable RX0 0) ∈ wk_T := List.mem_filter.mpr ⟨List.mem_of_getElem? (i := 111) (by decide +kernel), rfl⟩
theorem mx_112 : (Cond.methodLinkNest RX11 29 yX0_init RX11) ∈ wk_X := List.mem_filter.mpr ⟨List.mem_of_getElem? (i := 112) (by decide +kernel), rfl⟩
theorem mw_113 : (Cond.instanceMethod yX0_init) ∈ wk_T := List.mem_filter.mpr ⟨List.mem_of_getElem? (i := 113) (by decide +kernel), rfl⟩
theorem mw_114 : (Cond.code yX0_init prog_2_method_1_code 1 (Option.none : Option FieldType)) ∈ wk_T := List.mem_filter.mpr ⟨List.mem_of_getElem? (i := 114) (by decide +kernel), rfl⟩
theorem mx_115 : (Cond.methodLinkNest RX0 3 yX10_init RX11) ∈ wk_X := List.mem_filter.mpr ⟨List.mem_of_getElem? (i := 115) (by decide +kernel), rfl⟩
theorem mw_116 : (Cond.superclass RX0 RX10) ∈ wk_T := List.mem_filter.mpr ⟨List.mem_of_getElem? (i := 116) (by decide +kernel), rfl⟩
theorem mw_117 : (Cond.classLink RX11 30 RX5) ∈ wk_T := List.mem_filter.mpr ⟨List.mem_of_getElem? (i := 117) (by decide +kernel), rfl⟩
theorem mw_118 : (Cond.instantiable RX5 0) ∈ wk_T := List.mem_filter.mpr ⟨List.mem_of_getElem? (i := 118) (by decide +kernel), rfl⟩
theorem mx_119 : (Cond.methodLinkNest RX11 32 yX5_init RX11) ∈ wk_X := List.mem_filter.mpr ⟨List.mem_of_getElem? (i := 119) (by decide +kernel), rfl⟩
theorem mw_120 : (Cond.instanceMethod yX5_init) ∈ wk_T := List.mem_filter.mpr ⟨List.mem_of_getElem? (i := 120) (by decide +kernel), rfl⟩
theorem mw_121 : (Cond.code yX5_init prog_7_method_1_code 1 (Option.none : Option FieldType)) ∈ wk_T := List.mem_filter.mpr ⟨List.mem_of_getElem? (i := 121) (by decide +kernel), rfl⟩
theorem mx_122 : (Cond.methodLinkNest RX5 3 yX0_init RX11) ∈ wk_X := List.mem_filter.mpr ⟨List.mem_of_getElem? (i := 122) (by decide +kernel), rfl⟩
theorem mw_123 : (Cond.superclass RX5 RX0) ∈ wk_T := List.mem_filter.mpr ⟨List.mem_of_getElem? (i := 123) (by decide +kernel), rfl⟩
theorem mw_124 : (Cond.classLink RX11 33 RX4) ∈ wk_T := List.mem_filter.mpr ⟨List.mem_of_getElem? (i := 124) (by decide +kernel), rfl⟩
theorem mw_125 : (Cond.instantiable RX4 0) ∈ wk_T := List.mem_filter.mpr ⟨List.mem_of_getElem? (i := 125) (by decide +kernel), rfl⟩
theorem mx_126 : (Cond.methodLinkNest RX11 35 yX4_init RX11) ∈ wk_X := List.mem_filter.mpr ⟨List.mem_of_getElem? (i := 126) (by decide +kernel), rfl⟩
theorem mw_127 : (Cond.instanceMethod yX4_init) ∈ wk_T := List.mem_filter.mpr ⟨List.mem_of_getElem? (i := 127) (by decide +kernel), rfl⟩
theorem mw_128 : (Cond.code yX4_init prog_6_method_1_code 1 (Option.none : Option FieldType)) ∈ wk_T := List.mem_filter.mpr ⟨List.mem_of_getElem? (i := 128) (by decide +kernel), rfl⟩
theorem mx_129 : (Cond.methodLinkNest RX4 3 yX5_init RX11) ∈ wk_X := List.mem_filter.mpr ⟨List.mem_of_getElem? (i := 129) (by decide +kernel), rfl⟩
theorem mw_130 : (Cond.superclass RX4 RX5) ∈ wk_T := List.mem_filter.mpr ⟨List.mem_of_getElem? (i := 130) (by decide +kernel), rfl⟩
theorem mw_131 : (Cond.classLink RX11 36 RX1) ∈ wk_T := List.mem_filter.mpr ⟨List.mem_of_getElem? (i := 131) (by decide +kernel), rfl⟩
theorem mw_132 : (Cond.instantiable RX1 0) ∈ wk_T := List.mem_filter.mpr ⟨List.mem_of_getElem? (i := 132) (by decide +kernel), rfl⟩
theorem mx_133 : (Cond.methodLinkNest RX11 38 yX1_init RX11) ∈ wk_X := List.mem_filter.mpr ⟨List.mem_of_getElem? (i := 133) (by decide +kernel), rfl⟩
theorem mw_134 : (Cond.instanceMethod yX1_init) ∈ wk_T := List.mem_filter.mpr ⟨List.mem_of_getElem? (i := 134) (by decide +kernel), rfl⟩
theorem mw_135 : (Cond.code yX1_init prog_3_method_1_code 1 (Option.none : Option FieldType)) ∈ wk_T := List.mem_filter.mpr ⟨List.mem_of_getElem? (i := 135) (by decide +kernel), rfl⟩
theorem mx_136 : (Cond.methodLinkNest RX1 3 yX3_init RX11) ∈ wk_X := List.mem_filter.mpr ⟨List.mem_of_getElem? (i := 136) (by decide +kernel), rfl⟩
theorem mw_137 : (Cond.superclass RX1 RX3) ∈ wk_T := List.mem_filter.mpr ⟨List.mem_of_getElem? (i := 137) (by decide +kernel), rfl⟩
theorem mw_138 : (Cond.classLink RX11 39 RX9) ∈ wk_T := List.mem_filter.mpr ⟨List.mem_of_getElem? (i := 138) (by decide +kernel), rfl⟩
theorem mw_139 : (Cond.instantiable RX9 0) ∈ wk_T := List.mem_filter.mpr ⟨List.mem_of_getElem? (i := 139) (by decide +kernel), rfl⟩
theorem mx_140 : (Cond.methodLinkNest RX11 41 yX9_init RX11) ∈ wk_X := List.mem_filter.mpr ⟨List.mem_of_getElem? (i := 140) (by decide +kernel), rfl⟩
theorem mw_141 : (Cond.instanceMethod yX9_init) ∈ wk_T := List.mem_filter.mpr ⟨List.mem_of_getElem? (i := 141) (by decide +kernel), rfl⟩
theorem mw_142 : (Cond.code yX9_init prog_11_method_1_code 1 (Option.none : Option FieldType)) ∈ wk_T := List.mem_filter.mpr ⟨List.mem_of_getElem? (i := 142) (by decide +kernel), rfl⟩
theorem mx_143 : (Cond.methodLinkNest RX9 3 yX1_init RX11) ∈ wk_X := List.mem_filter.mpr ⟨List.mem_of_getElem? (i := 143) (by decide +kernel), rfl⟩
theorem mw_144 : (Cond.superclass RX9 RX1) ∈ wk_T := List.mem_filter.mpr ⟨List.mem_of_getElem? (i := 144) (by decide +kernel), rfl⟩
theorem mw_145 : (Cond.fieldLink RX11 10 RX11 "crew" "LWatchBill$Crew;") ∈ wk_T := List.mem_filter.mpr ⟨List.mem_of_getElem? (i := 145) (by decide +kernel), rfl⟩
theorem mw_146 : (Cond.fieldLink RX11 42 RX11 "ranks" "[LWatchBill$Soul;") ∈ wk_T := List.mem_filter.mpr ⟨List.mem_of_getElem? (i := 146) (by decide +kernel), rfl⟩
theorem mw_147 : (Cond.fieldLink RX11 46 RX11 "lineDuty" "[I") ∈ wk_T := List.mem_filter.mpr ⟨List.mem_of_getElem? (i := 147) (by decide +kernel), rfl⟩
theorem mw_148 : (Cond.fieldLink RX11 50 RX11 "lineNumber" "[I") ∈ wk_T := List.mem_filter.mpr ⟨List.mem_of_getElem? (i := 148) (by decide +kernel), rfl⟩
theorem mw_149 : (Cond.fieldLink RX11 53 RX11 "lineLow" "[I") ∈ wk_T := List.mem_filter.mpr ⟨List.mem_of_getElem? (i := 149) (by decide +kernel), rfl⟩
theorem mw_150 : (Cond.fieldLink RX11 56 RX11 "lineHigh" "[I") ∈ wk_T := List.mem_filter.mpr ⟨List.mem_of_getElem? (i := 150) (by decide +kernel), rfl⟩
theorem mw_151 : (Cond.laysFinal RX11 RX11 "crew" "LWatchBill$Crew;") ∈ wk_T := List.mem_filter.mpr ⟨List.mem_of_getElem? (i := 151) (by decide +kernel), rfl⟩
theorem mw_153 : (Cond.laysFinal RX11 RX11 "ranks" "[LWatchBill$Soul;") ∈ wk_T := List.mem_filter.mpr ⟨List.mem_of_getElem? (i := 153) (by decide +kernel), rfl⟩
theorem mw_155 : (Cond.laysFinal RX11 RX11 "lineDuty" "[I") ∈ wk_T := List.mem_filter.mpr ⟨List.mem_of_getElem? (i := 155) (by decide +kernel), rfl⟩
theorem mw_157 : (Cond.laysFinal RX11 RX11 "lineNumber" "[I") ∈ wk_T := List.mem_filter.mpr ⟨List.mem_of_getElem? (i := 157) (by decide +kernel), rfl⟩
theorem mw_159 : (Cond.laysFinal RX11 RX11 "lineLow" "[I") ∈ wk_T := List.mem_filter.mpr ⟨List.mem_of_getElem? (i := 159) (by decide +kernel), rfl⟩
theorem mw_161 : (Cond.laysFinal RX11 RX11 "lineHigh" "[I") ∈ wk_T := List.mem_filter.mpr ⟨List.mem_of_getElem? (i := 161) (by decide +kernel), rfl⟩
theorem mw_163 : (Cond.superclass RX11 "java/lang/Object") ∈ wk_T := List.mem_filter.mpr ⟨List.mem_of_getElem? (i := 163) (by decide +kernel), rfl⟩
theorem mw_164 : (Cond.methodLink RL 13 yX11_enlist) ∈ wk_T := List.mem_filter.mpr ⟨List.mem_of_getElem? (i := 164) (by decide +kernel), rfl⟩
theorem mw_165 : (Cond.instanceMethod yX11_enlist) ∈ wk_T := List.mem_filter.mpr ⟨List.mem_of_getElem? (i := 165) (by decide +kernel), rfl⟩
theorem mw_166 : (Cond.selects RX11 yX11_enlist yX11_enlist) ∈ wk_T := List.mem_filter.mpr ⟨List.mem_of_getElem? (i := 166) (by decide +kernel), rfl⟩
theorem mw_167 : (Cond.code yX11_enlist prog_1_method_2_code 3 (Option.some FieldType.int)) ∈ wk_T := List.mem_filter.mpr ⟨List.mem_of_getElem? (i := 167) (by decide +kernel), rfl⟩
theorem mw_168 : (Cond.methodLink RX11 59 yX11_isRank) ∈ wk_T := List.mem_filter.mpr ⟨List.mem_of_getElem? (i := 168) (by decide +kernel), rfl⟩
theorem mw_169 : (Cond.static yX11_isRank) ∈ wk_T := List.mem_filter.mpr ⟨List.mem_of_getElem? (i := 169) (by decide +kernel), rfl⟩
theorem mw_170 : (Cond.code yX11_isRank prog_1_method_22_code 1 (Option.some FieldType.boolean)) ∈ wk_T := List.mem_filter.mpr ⟨List.mem_of_getElem? (i := 170) (by decide +kernel), rfl⟩
theorem mw_171 : (Cond.constant RX11 67 (-1000000)) ∈ wk_T := List.mem_filter.mpr ⟨List.mem_of_getElem? (i := 171) (by decide +kernel), rfl⟩
theorem mw_172 : (Cond.methodLink RX11 68 yX2_add) ∈ wk_T := List.mem_filter.mpr ⟨List.mem_of_getElem? (i := 172) (by decide +kernel), rfl⟩
theorem mw_173 : (Cond.instanceMethod yX2_add) ∈ wk_T := List.mem_filter.mpr ⟨List.mem_of_getElem? (i := 173) (by decide +kernel), rfl⟩
theorem mw_174 : (Cond.selects RX2 yX2_add yX2_add) ∈ wk_T := List.mem_filter.mpr ⟨List.mem_of_getElem? (i := 174) (by decide +kernel), rfl⟩
theorem mw_175 : (Cond.code yX2_add prog_4_method_2_code 5 (Option.some FieldType.int)) ∈ wk_T := List.mem_filter.mpr ⟨List.mem_of_getElem? (i := 175) (by decide +kernel), rfl⟩
theorem mw_176 : (Cond.classLink RX2 15 RX6) ∈ wk_T := List.mem_filter.mpr ⟨List.mem_of_getElem? (i := 176) (by decide +kernel), rfl⟩
theorem mw_177 : (Cond.instantiable RX6 7) ∈ wk_T := List.mem_filter.mpr ⟨List.mem_of_getElem? (i := 177) (by decide +kernel), rfl⟩
theorem mw_178 : (Cond.methodLink RX2 21 yX6_init) ∈ wk_T := List.mem_filter.mpr ⟨List.mem_of_getElem? (i := 178) (by decide +kernel), rfl⟩
theorem mw_179 : (Cond.instanceMethod yX6_init) ∈ wk_T := List.mem_filter.mpr ⟨List.mem_of_getElem? (i := 179) (by decide +kernel), rfl⟩
theorem mw_180 : (Cond.code yX6_init prog_8_method_1_code 5 (Option.none : Option FieldType)) ∈ wk_T := List.mem_filter.mpr ⟨List.mem_of_getElem? (i := 180) (by decide +kernel), rfl⟩
theorem mw_181 : (Cond.methodLink RX6 3 (⟨"java/lang/Object", "<init>", "()V"⟩ : MethodName)) ∈ wk_T := List.mem_filter.mpr ⟨List.mem_of_getElem? (i := 181) (by decide +kernel), rfl⟩
theorem mw_182 : (Cond.fieldLink RX6 9 RX6 "number" "I") ∈ wk_T := List.mem_filter.mpr ⟨List.mem_of_getElem? (i := 182) (by decide +kernel), rfl⟩
theorem mw_183 : (Cond.fieldLink RX2 34 RX6 "number" "I") ∈ wk_T := List.mem_filter.mpr ⟨List.mem_of_getElem? (i := 183) (by decide +kernel), rfl⟩
theorem mw_184 : (Cond.fieldLink RX8 28 RX6 "number" "I") ∈ wk_T := List.mem_filter.mpr ⟨List.mem_of_getElem? (i := 184) (by decide +kernel), rfl⟩
theorem mw_185 : (Cond.fieldLink RX6 15 RX6 "skill" "I") ∈ wk_T := List.mem_filter.mpr ⟨List.mem_of_getElem? (i := 185) (by decide +kernel), rfl⟩
theorem mw_186 : (Cond.fieldLink RX3 15 RX6 "skill" "I") ∈ wk_T := List.mem_filter.mpr ⟨List.mem_of_getElem? (i := 186) (by decide +kernel), rfl⟩
theorem mw_187 : (Cond.fieldLink RX8 15 RX6 "skill" "I") ∈ wk_T := List.mem_filter.mpr ⟨List.mem_of_getElem? (i := 187) (by decide +kernel), rfl⟩
theorem mw_188 : (Cond.fieldLink RX11 157 RX6 "skill" "I") ∈ wk_T := List.mem_filter.mpr ⟨List.mem_of_getElem? (i := 188) (by decide +kernel), rfl⟩
theorem mw_189 : (Cond.fieldLink RX6 18 RX6 "rank" "I") ∈ wk_T := List.mem_filter.mpr ⟨List.mem_of_getElem? (i := 189) (by decide +kernel), rfl⟩
theorem mw_190 : (Cond.fieldLink RX11 76 RX6 "rank" "I") ∈ wk_T := List.mem_filter.mpr ⟨List.mem_of_getElem? (i := 190) (by decide +kernel), rfl⟩
theorem mw_191 : (Cond.fieldLink RX6 21 RX6 "ways" "LWatchBill$Soul;") ∈ wk_T := List.mem_filter.mpr ⟨List.mem_of_getElem? (i := 191) (by decide +kernel), rfl⟩
theorem mw_192 : (Cond.fieldLink RX0 38 RX6 "ways" "LWatchBill$Soul;") ∈ wk_T := List.mem_filter.mpr ⟨List.mem_of_getElem? (i := 192) (by decide +kernel), rfl⟩
theorem mw_193 : (Cond.fieldLink RX11 94 RX6 "ways" "LWatchBill$Soul;") ∈ wk_T := List.mem_filter.mpr ⟨List.mem_of_getElem? (i := 193) (by decide +kernel), rfl⟩
theorem mw_194 : (Cond.fieldLink RX6 25 RX6 "weary" "I") ∈ wk_T := List.mem_filter.mpr ⟨List.mem_of_getElem? (i := 194) (by decide +kernel), rfl⟩
theorem mw_195 : (Cond.fieldLink RX10 15 RX6 "weary" "I") ∈ wk_T := List.mem_filter.mpr ⟨List.mem_of_getElem? (i := 195) (by decide +kernel), rfl⟩
theorem mw_196 : (Cond.fieldLink RX8 21 RX6 "weary" "I") ∈ wk_T := List.mem_filter.mpr ⟨List.mem_of_getElem? (i := 196) (by decide +kernel), rfl⟩
theorem mw_197 : (Cond.fieldLink RX9 23 RX6 "weary" "I") ∈ wk_T := List.mem_filter.mpr ⟨List.mem_of_getElem? (i := 197) (by decide +kernel), rfl⟩
theorem mw_198 : (Cond.fieldLink RX4 24 RX6 "weary" "I") ∈ wk_T := List.mem_filter.mpr ⟨List.mem_of_getElem? (i := 198) (by decide +kernel), rfl⟩
theorem mw_199 : (Cond.fieldLink RX11 160 RX6 "weary" "I") ∈ wk_T := List.mem_filter.mpr ⟨List.mem_of_getElem? (i := 199) (by decide +kernel), rfl⟩
theorem mw_200 : (Cond.fieldLink RX11 105 RX6 "purse" "J") ∈ wk_T := List.mem_filter.mpr ⟨List.mem_of_getElem? (i := 200) (by decide +kernel), rfl⟩
theorem mw_201 : (Cond.fieldLink RX2 31 RX6 "next" "LWatchBill$Member;") ∈ wk_T := List.mem_filter.mpr ⟨List.mem_of_getElem? (i := 201) (by decide +kernel), rfl⟩
theorem mw_202 : (Cond.fieldLink RX9 31 RX6 "next" "LWatchBill$Member;") ∈ wk_T := List.mem_filter.mpr ⟨List.mem_of_getElem? (i := 202) (by decide +kernel), rfl⟩
theorem mw_203 : (Cond.fieldLink RX0 31 RX6 "next" "LWatchBill$Member;") ∈ wk_T := List.mem_filter.mpr ⟨List.mem_of_getElem? (i := 203) (by decide +kernel), rfl⟩
theorem mw_204 : (Cond.fieldLink RX11 143 RX6 "next" "LWatchBill$Member;") ∈ wk_T := List.mem_filter.mpr ⟨List.mem_of_getElem? (i := 204) (by decide +kernel), rfl⟩
theorem mw_205 : (Cond.laysFinal RX6 RX6 "number" "I") ∈ wk_T := List.mem_filter.mpr ⟨List.mem_of_getElem? (i := 205) (by decide +kernel), rfl⟩
theorem mw_207 : (Cond.laysFinal RX6 RX6 "skill" "I") ∈ wk_T := List.mem_filter.mpr ⟨List.mem_of_getElem? (i := 207) (by decide +kernel), rfl⟩
theorem mw_209 : (Cond.lays RX6 RX6 "rank" "I") ∈ wk_T := List.mem_filter.mpr ⟨List.mem_of_getElem? (i := 209) (by decide +kernel), rfl⟩
theorem mw_211 : (Cond.lays RX6 RX6 "ways" "LWatchBill$Soul;") ∈ wk_T := List.mem_filter.mpr ⟨List.mem_of_getElem? (i := 211) (by decide +kernel), rfl⟩
theorem mw_213 : (Cond.lays RX6 RX6 "weary" "I") ∈ wk_T := List.mem_filter.mpr ⟨List.mem_of_getElem? (i := 213) (by decide +kernel), rfl⟩
theorem mw_215 : (Cond.lays RX6 RX6 "purse" "J") ∈ wk_T := List.mem_filter.mpr ⟨List.mem_of_getElem? (i := 215) (by decide +kernel), rfl⟩
theorem mw_217 : (Cond.lays RX6 RX6 "next" "LWatchBill$Member;") ∈ wk_T := List.mem_filter.mpr ⟨List.mem_of_getElem? (i := 217) (by decide +kernel), rfl⟩
theorem mw_219 : (Cond.superclass RX6 "java/lang/Object") ∈ wk_T := List.mem_filter.mpr ⟨List.mem_of_getElem? (i := 219) (by decide +kernel), rfl⟩
theorem mw_220 : (Cond.methodLink RL 18 yX11_promote) ∈ wk_T := List.mem_filter.mpr ⟨List.mem_of_getElem? (i := 220) (by decide +kernel), rfl⟩
theorem mw_221 : (Cond.instanceMethod yX11_promote) ∈ wk_T := List.mem_filter.mpr ⟨List.mem_of_getElem? (i := 221) (by decide +kernel), rfl⟩
theorem mw_222 : (Cond.selects RX11 yX11_promote yX11_promote) ∈ wk_T := List.mem_filter.mpr ⟨List.mem_of_getElem? (i := 222) (by decide +kernel), rfl⟩
theorem mw_223 : (Cond.code yX11_promote prog_1_method_3_code 3 (Option.some FieldType.int)) ∈ wk_T := List.mem_filter.mpr ⟨List.mem_of_getElem? (i := 223) (by decide +kernel), rfl⟩
theorem mw_224 : (Cond.methodLink RX11 72 yX2_member) ∈ wk_T := List.mem_filter.mpr ⟨List.mem_of_getElem? (i := 224) (by decide +kernel), rfl⟩
theorem mw_225 : (Cond.instanceMethod yX2_member) ∈ wk_T := List.mem_filter.mpr ⟨List.mem_of_getElem? (i := 225) (by decide +kernel), rfl⟩
theorem mw_226 : (Cond.selects RX2 yX2_member yX2_member) ∈ wk_T := List.mem_filter.mpr ⟨List.mem_of_getElem? (i := 226) (by decide +kernel), rfl⟩
theorem mw_227 : (Cond.code yX2_member prog_4_method_3_code 3 (Option.some (FieldType.object RX6))) ∈ wk_T := List.mem_filter.mpr ⟨List.mem_of_getElem? (i := 227) (by decide +kernel), rfl⟩
theorem mw_228 : (Cond.methodLink RX11 81 yX11_giveRank) ∈ wk_T := List.mem_filter.mpr ⟨List.mem_of_getElem? (i := 228) (by decide +kernel), rfl⟩
theorem mw_230 : (Cond.instanceMethod yX11_giveRank) ∈ wk_T := List.mem_filter.mpr ⟨List.mem_of_getElem? (i := 230) (by decide +kernel), rfl⟩
theorem mw_231 : (Cond.code yX11_giveRank prog_1_method_19_code 3 (Option.some FieldType.int)) ∈ wk_T := List.mem_filter.mpr ⟨List.mem_of_getElem? (i := 231) (by decide +kernel), rfl⟩
theorem mw_232 : (Cond.methodLink RL 23 yX11_demote) ∈ wk_T := List.mem_filter.mpr ⟨List.mem_of_getElem? (i := 232) (by decide +kernel), rfl⟩
theorem mw_233 : (Cond.instanceMethod yX11_demote) ∈ wk_T := List.mem_filter.mpr ⟨List.mem_of_getElem? (i := 233) (by decide +kernel), rfl⟩
theorem mw_234 : (Cond.selects RX11 yX11_demote yX11_demote) ∈ wk_T := List.mem_filter.mpr ⟨List.mem_of_getElem? (i := 234) (by decide +kernel), rfl⟩
theorem mw_235 : (Cond.code yX11_demote prog_1_method_4_code 3 (Option.some FieldType.int)) ∈ wk_T := List.mem_filter.mpr ⟨List.mem_of_getElem? (i := 235) (by decide +kernel), rfl⟩
theorem mw_236 : (Cond.methodLink RL 27 yX11_toil) ∈ wk_T := List.mem_filter.mpr ⟨List.mem_of_getElem? (i := 236) (by decide +kernel), rfl⟩
theorem mw_237 : (Cond.instanceMethod yX11_toil) ∈ wk_T := List.mem_filter.mpr ⟨List.mem_of_getElem? (i := 237) (by decide +kernel), rfl⟩
theorem mw_238 : (Cond.selects RX11 yX11_toil yX11_toil) ∈ wk_T := List.mem_filter.mpr ⟨List.mem_of_getElem? (i := 238) (by decide +kernel), rfl⟩
theorem mw_239 : (Cond.code yX11_toil prog_1_method_5_code 4 (Option.some FieldType.long)) ∈ wk_T := List.mem_filter.mpr ⟨List.mem_of_getElem? (i := 239) (by decide +kernel), rfl⟩
theorem mw_240 : (Cond.methodLink RX11 85 yX11_isBeyondBound) ∈ wk_T := List.mem_filter.mpr ⟨List.mem_of_getElem? (i := 240) (by decide +kernel), rfl⟩
theorem mw_241 : (Cond.static yX11_isBeyondBound) ∈ wk_T := List.mem_filter.mpr ⟨List.mem_of_getElem? (i := 241) (by decide +kernel), rfl⟩
theorem mw_242 : (Cond.code yX11_isBeyondBound prog_1_method_25_code 2 (Option.some FieldType.boolean)) ∈ wk_T := List.mem_filter.mpr ⟨List.mem_of_getElem? (i := 242) (by decide +kernel), rfl⟩
theorem mw_243 : (Cond.methodLink RX11 169 yX11_boundOf) ∈ wk_T := List.mem_filter.mpr ⟨List.mem_of_getElem? (i := 243) (by decide +kernel), rfl⟩
theorem mw_244 : (Cond.static yX11_boundOf) ∈ wk_T := List.mem_filter.mpr ⟨List.mem_of_getElem? (i := 244) (by decide +kernel), rfl⟩
theorem mw_245 : (Cond.code yX11_boundOf prog_1_method_26_code 1 (Option.some FieldType.int)) ∈ wk_T := List.mem_filter.mpr ⟨List.mem_of_getElem? (i := 245) (by decide +kernel), rfl⟩
theorem mw_246 : (Cond.constantLong RX11 89 (-1000000)) ∈ wk_T := List.mem_filter.mpr ⟨List.mem_of_getElem? (i := 246) (by decide +kernel), rfl⟩
theorem mw_247 : (Cond.methodLink RX11 91 yX2_forgetNotes) ∈ wk_T := List.mem_filter.mpr ⟨List.mem_of_getElem? (i := 247) (by decide +kernel), rfl⟩
theorem mw_248 : (Cond.instanceMethod yX2_forgetNotes) ∈ wk_T := List.mem_filter.mpr ⟨List.mem_of_getElem? (i := 248) (by decide +kernel), rfl⟩
theorem mw_249 : (Cond.selects RX2 yX2_forgetNotes yX2_forgetNotes) ∈ wk_T := List.mem_filter.mpr ⟨List.mem_of_getElem? (i := 249) (by decide +kernel), rfl⟩
theorem mw_250 : (Cond.code yX2_forgetNotes prog_4_method_4_code 1 (Option.none : Option FieldType)) ∈ wk_T := List.mem_filter.mpr ⟨List.mem_of_getElem? (i := 250) (by decide +kernel), rfl⟩
theorem mw_251 : (Cond.methodLink RX11 98 yX8_toilWay) ∈ wk_T := List.mem_filter.mpr ⟨List.mem_of_getElem? (i := 251) (by decide +kernel), rfl⟩
theorem mw_252 : (Cond.instanceMethod yX8_toilWay) ∈ wk_T := List.mem_filter.mpr ⟨List.mem_of_getElem? (i := 252) (by decide +kernel), rfl⟩
theorem mw_253 : (Cond.sameMethod RX8 RX8 "toilWay" "(LWatchBill$Crew;LWatchBill$Member;I)J") ∈ wk_T := List.mem_filter.mpr ⟨List.mem_of_getElem? (i := 253) (by decide +kernel), rfl⟩
theorem mw_254 : (Cond.selects RX0 yX8_toilWay yX10_toilWay) ∈ wk_T := List.mem_filter.mpr ⟨List.mem_of_getElem? (i := 254) (by decide +kernel), rfl⟩
theorem mw_255 : (Cond.instanceMethod yX10_toilWay) ∈ wk_T := List.mem_filter.mpr ⟨List.mem_of_getElem? (i := 255) (by decide +kernel), rfl⟩
theorem mw_256 : (Cond.code yX10_toilWay prog_12_method_2_code 4 (Option.some FieldType.long)) ∈ wk_T := List.mem_filter.mpr ⟨List.mem_of_getElem? (i := 256) (by decide +kernel), rfl⟩
theorem mw_257 : (Cond.methodLink RX10 9 yX2_noteWay) ∈ wk_T := List.mem_filter.mpr ⟨List.mem_of_getElem? (i := 257) (by decide +kernel), rfl⟩
theorem mw_258 : (Cond.instanceMethod yX2_noteWay) ∈ wk_T := List.mem_filter.mpr ⟨List.mem_of_getElem? (i := 258) (by decide +kernel), rfl⟩
theorem mw_259 : (Cond.selects RX2 yX2_noteWay yX2_noteWay) ∈ wk_T := List.mem_filter.mpr ⟨List.mem_of_getElem? (i := 259) (by decide +kernel), rfl⟩
theorem mw_260 : (Cond.code yX2_noteWay prog_4_method_5_code 3 (Option.none : Option FieldType)) ∈ wk_T := List.mem_filter.mpr ⟨List.mem_of_getElem? (i := 260) (by decide +kernel), rfl⟩
theorem mw_261 : (Cond.methodLink RX10 21 (⟨RX7, "toilWay", "(LWatchBill$Crew;LWatchBill$Member;I)J"⟩ : MethodName)) ∈ wk_T := List.mem_filter.mpr ⟨List.mem_of_getElem? (i := 261) (by decide +kernel), rfl⟩
theorem mw_262 : (Cond.sameMethod RX7 RX8 "toilWay" "(LWatchBill$Crew;LWatchBill$Member;I)J") ∈ wk_T := List.mem_filter.mpr ⟨List.mem_of_getElem? (i := 262) (by decide +kernel), rfl⟩
theorem mx_263 : (Cond.declares yX8_toilWay) ∈ wk_X := List.mem_filter.mpr ⟨List.mem_of_getElem? (i := 263) (by decide +kernel), rfl⟩
theorem mw_264 : (Cond.constantLong RX10 25 3) ∈ wk_T := List.mem_filter.mpr ⟨List.mem_of_getElem? (i := 264) (by decide +kernel), rfl⟩
theorem mw_265 : (Cond.selects RX1 yX8_toilWay yX1_toilWay) ∈ wk_T := List.mem_filter.mpr ⟨List.mem_of_getElem? (i := 265) (by decide +kernel), rfl⟩
theorem mw_266 : (Cond.instanceMethod yX1_toilWay) ∈ wk_T := List.mem_filter.mpr ⟨List.mem_of_getElem? (i := 266) (by decide +kernel), rfl⟩
theorem mw_267 : (Cond.code yX1_toilWay prog_3_method_2_code 6 (Option.some FieldType.long)) ∈ wk_T := List.mem_filter.mpr ⟨List.mem_of_getElem? (i := 267) (by decide +kernel), rfl⟩
theorem mw_268 : (Cond.methodLink RX1 9 yX2_noteWay) ∈ wk_T := List.mem_filter.mpr ⟨List.mem_of_getElem? (i := 268) (by decide +kernel), rfl⟩
theorem mw_269 : (Cond.methodLink RX1 15 (⟨RX3, "toilWay", "(LWatchBill$Crew;LWatchBill$Member;I)J"⟩ : MethodName)) ∈ wk_T := List.mem_filter.mpr ⟨List.mem_of_getElem? (i := 269) (by decide +kernel), rfl⟩
theorem mw_270 : (Cond.sameMethod RX3 RX8 "toilWay" "(LWatchBill$Crew;LWatchBill$Member;I)J") ∈ wk_T := List.mem_filter.mpr ⟨List.mem_of_getElem? (i := 270) (by decide +kernel), rfl⟩
theorem mw_271 : (Cond.methodLink RX1 19 yX6_tire) ∈ wk_T := List.mem_filter.mpr ⟨List.mem_of_getElem? (i := 271) (by decide +kernel), rfl⟩
theorem mw_272 : (Cond.instanceMethod yX6_tire) ∈ wk_T := List.mem_filter.mpr ⟨List.mem_of_getElem? (i := 272) (by decide +kernel), rfl⟩
theorem mw_273 : (Cond.selects RX6 yX6_tire yX6_tire) ∈ wk_T := List.mem_filter.mpr ⟨List.mem_of_getElem? (i := 273) (by decide +kernel), rfl⟩
theorem mw_274 : (Cond.code yX6_tire prog_8_method_2_code 3 (Option.none : Option FieldType)) ∈ wk_T := List.mem_filter.mpr ⟨List.mem_of_getElem? (i := 274) (by decide +kernel), rfl⟩
theorem mw_275 : (Cond.selects RX3 yX8_toilWay yX8_toilWay) ∈ wk_T := List.mem_filter.mpr ⟨List.mem_of_getElem? (i := 275) (by decide +kernel), rfl⟩
theorem mw_276 : (Cond.selects RX4 yX8_toilWay yX4_toilWay) ∈ wk_T := List.mem_filter.mpr ⟨List.mem_of_getElem? (i := 276) (by decide +kernel), rfl⟩
theorem mw_277 : (Cond.instanceMethod yX4_toilWay) ∈ wk_T := List.mem_filter.mpr ⟨List.mem_of_getElem? (i := 277) (by decide +kernel), rfl⟩
theorem mw_278 : (Cond.code yX4_toilWay prog_6_method_2_code 4 (Option.some FieldType.long)) ∈ wk_T := List.mem_filter.mpr ⟨List.mem_of_getElem? (i := 278) (by decide +kernel), rfl⟩
theorem mw_279 : (Cond.methodLink RX4 9 yX2_noteWay) ∈ wk_T := List.mem_filter.mpr ⟨List.mem_of_getElem? (i := 279) (by decide +kernel), rfl⟩
theorem mw_280 : (Cond.methodLink RX4 15 yX5_toilWay) ∈ wk_T := List.mem_filter.mpr ⟨List.mem_of_getElem? (i := 280) (by decide +kernel), rfl⟩
theorem mw_281 : (Cond.instanceMethod yX5_toilWay) ∈ wk_T := List.mem_filter.mpr ⟨List.mem_of_getElem? (i := 281) (by decide +kernel), rfl⟩
theorem mw_282 : (Cond.code yX5_toilWay prog_7_method_2_code 7 (Option.some FieldType.long)) ∈ wk_T := List.mem_filter.mpr ⟨List.mem_of_getElem? (i := 282) (by decide +kernel), rfl⟩
theorem mw_283 : (Cond.methodLink RX5 9 yX2_noteWay) ∈ wk_T := List.mem_filter.mpr ⟨List.mem_of_getElem? (i := 283) (by decide +kernel), rfl⟩
theorem mw_284 : (Cond.methodLink RX5 15 (⟨RX0, "toilWay", "(LWatchBill$Crew;LWatchBill$Member;I)J"⟩ : MethodName)) ∈ wk_T := List.mem_filter.mpr ⟨List.mem_of_getElem? (i := 284) (by decide +kernel), rfl⟩
theorem mw_285 : (Cond.sameMethod RX0 RX10 "toilWay" "(LWatchBill$Crew;LWatchBill$Member;I)J") ∈ wk_T := List.mem_filter.mpr ⟨List.mem_of_getElem? (i := 285) (by decide +kernel), rfl⟩
theorem mx_286 : (Cond.declares yX10_toilWay) ∈ wk_X := List.mem_filter.mpr ⟨List.mem_of_getElem? (i := 286) (by decide +kernel), rfl⟩
theorem mw_287 : (Cond.constantLong RX4 19 4) ∈ wk_T := List.mem_filter.mpr ⟨List.mem_of_getElem? (i := 287) (by decide +kernel), rfl⟩
theorem mw_288 : (Cond.selects RX5 yX8_toilWay yX5_toilWay) ∈ wk_T := List.mem_filter.mpr ⟨List.mem_of_getElem? (i := 288) (by decide +kernel), rfl⟩
theorem mw_289 : (Cond.selects RX7 yX8_toilWay yX8_toilWay) ∈ wk_T := List.mem_filter.mpr ⟨List.mem_of_getElem? (i := 289) (by decide +kernel), rfl⟩
theorem mw_290 : (Cond.selects RX9 yX8_toilWay yX1_toilWay) ∈ wk_T := List.mem_filter.mpr ⟨List.mem_of_getElem? (i := 290) (by decide +kernel), rfl⟩
theorem mw_291 : (Cond.selects RX10 yX8_toilWay yX10_toilWay) ∈ wk_T := List.mem_filter.mpr ⟨List.mem_of_getElem? (i := 291) (by decide +kernel), rfl⟩
theorem mw_292 : (Cond.code yX8_toilWay prog_10_method_2_code 6 (Option.some FieldType.long)) ∈ wk_T := List.mem_filter.mpr ⟨List.mem_of_getElem? (i := 292) (by decide +kernel), rfl⟩
theorem mw_293 : (Cond.methodLink RX8 9 yX2_noteWay) ∈ wk_T := List.mem_filter.mpr ⟨List.mem_of_getElem? (i := 293) (by decide +kernel), rfl⟩
theorem mw_294 : (Cond.methodLink RX8 24 yX6_tire) ∈ wk_T := List.mem_filter.mpr ⟨List.mem_of_getElem? (i := 294) (by decide +kernel), rfl⟩
theorem mw_295 : (Cond.methodLink RL 32 yX11_pay) ∈ wk_T := List.mem_filter.mpr ⟨List.mem_of_getElem? (i := 295) (by decide +kernel), rfl⟩
theorem mw_296 : (Cond.instanceMethod yX11_pay) ∈ wk_T := List.mem_filter.mpr ⟨List.mem_of_getElem? (i := 296) (by decide +kernel), rfl⟩
theorem mw_297 : (Cond.selects RX11 yX11_pay yX11_pay) ∈ wk_T := List.mem_filter.mpr ⟨List.mem_of_getElem? (i := 297) (by decide +kernel), rfl⟩
theorem mw_298 : (Cond.code yX11_pay prog_1_method_6_code 6 (Option.some FieldType.long)) ∈ wk_T := List.mem_filter.mpr ⟨List.mem_of_getElem? (i := 298) (by decide +kernel), rfl⟩
theorem mw_299 : (Cond.methodLink RX11 102 (⟨RX8, "payWay", "(LWatchBill$Crew;LWatchBill$Member;I)J"⟩ : MethodName)) ∈ wk_T := List.mem_filter.mpr ⟨List.mem_of_getElem? (i := 299) (by decide +kernel), rfl⟩
theorem mx_300 : (Cond.declares (⟨RX8, "payWay", "(LWatchBill$Crew;LWatchBill$Member;I)J"⟩ : MethodName)) ∈ wk_X := List.mem_filter.mpr ⟨List.mem_of_getElem? (i := 300) (by decide +kernel), rfl⟩
theorem mw_301 : (Cond.sameMethod RX8 RX8 "payWay" "(LWatchBill$Crew;LWatchBill$Member;I)J") ∈ wk_T := List.mem_filter.mpr ⟨List.mem_of_getElem? (i := 301) (by decide +kernel), rfl⟩
theorem mw_302 : (Cond.selects RX0 (⟨RX8, "payWay", "(LWatchBill$Crew;LWatchBill$Member;I)J"⟩ : MethodName) yX0_payWay) ∈ wk_T := List.mem_filter.mpr ⟨List.mem_of_getElem? (i := 302) (by decide +kernel), rfl⟩
theorem mw_303 : (Cond.instanceMethod yX0_payWay) ∈ wk_T := List.mem_filter.mpr ⟨List.mem_of_getElem? (i := 303) (by decide +kernel), rfl⟩
theorem mw_304 : (Cond.code yX0_payWay prog_2_method_2_code 7 (Option.some FieldType.long)) ∈ wk_T := List.mem_filter.mpr ⟨List.mem_of_getElem? (i := 304) (by decide +kernel), rfl⟩
theorem mw_305 : (Cond.methodLink RX0 9 yX2_noteWay) ∈ wk_T := List.mem_filter.mpr ⟨List.mem_of_getElem? (i := 305) (by decide +kernel), rfl⟩
theorem mw_306 : (Cond.methodLink RX0 15 (⟨RX10, "payWay", "(LWatchBill$Crew;LWatchBill$Member;I)J"⟩ : MethodName)) ∈ wk_T := List.mem_filter.mpr ⟨List.mem_of_getElem? (i := 306) (by decide +kernel), rfl⟩
theorem mw_307 : (Cond.sameMethod RX10 RX3 "payWay" "(LWatchBill$Crew;LWatchBill$Member;I)J") ∈ wk_T := List.mem_filter.mpr ⟨List.mem_of_getElem? (i := 307) (by decide +kernel), rfl⟩
theorem mx_308 : (Cond.declares yX3_payWay) ∈ wk_X := List.mem_filter.mpr ⟨List.mem_of_getElem? (i := 308) (by decide +kernel), rfl⟩
theorem mw_309 : (Cond.instanceMethod yX3_payWay) ∈ wk_T := List.mem_filter.mpr ⟨List.mem_of_getElem? (i := 309) (by decide +kernel), rfl⟩
theorem mw_310 : (Cond.code yX3_payWay prog_5_method_2_code 4 (Option.some FieldType.long)) ∈ wk_T := List.mem_filter.mpr ⟨List.mem_of_getElem? (i := 310) (by decide +kernel), rfl⟩
theorem mw_311 : (Cond.methodLink RX3 9 yX2_noteWay) ∈ wk_T := List.mem_filter.mpr ⟨List.mem_of_getElem? (i := 311) (by decide +kernel), rfl⟩
theorem mw_312 : (Cond.constantLong RX0 19 2) ∈ wk_T := List.mem_filter.mpr ⟨List.mem_of_getElem? (i := 312) (by decide +kernel), rfl⟩
theorem mw_313 : (Cond.methodLink RX0 25 yX6_isBelowBosun) ∈ wk_T := List.mem_filter.mpr ⟨List.mem_of_getElem? (i := 313) (by decide +kernel), rfl⟩
theorem mw_314 : (Cond.instanceMethod yX6_isBelowBosun) ∈ wk_T := List.mem_filter.mpr ⟨List.mem_of_getElem? (i := 314) (by decide +kernel), rfl⟩
theorem mw_315 : (Cond.selects RX6 yX6_isBelowBosun yX6_isBelowBosun) ∈ wk_T := List.mem_filter.mpr ⟨List.mem_of_getElem? (i := 315) (by decide +kernel), rfl⟩
theorem mw_316 : (Cond.code yX6_isBelowBosun prog_8_method_3_code 1 (Option.some FieldType.boolean)) ∈ wk_T := List.mem_filter.mpr ⟨List.mem_of_getElem? (i := 316) (by decide +kernel), rfl⟩
theorem mw_317 : (Cond.selects RX1 (⟨RX8, "payWay", "(LWatchBill$Crew;LWatchBill$Member;I)J"⟩ : MethodName) yX3_payWay) ∈ wk_T := List.mem_filter.mpr ⟨List.mem_of_getElem? (i := 317) (by decide +kernel), rfl⟩
theorem mw_318 : (Cond.selects RX3 (⟨RX8, "payWay", "(LWatchBill$Crew;LWatchBill$Member;I)J"⟩ : MethodName) yX3_payWay) ∈ wk_T := List.mem_filter.mpr ⟨List.mem_of_getElem? (i := 318) (by decide +kernel), rfl⟩
theorem mw_319 : (Cond.selects RX4 (⟨RX8, "payWay", "(LWatchBill$Crew;LWatchBill$Member;I)J"⟩ : MethodName) yX4_payWay) ∈ wk_T := List.mem_filter.mpr ⟨List.mem_of_getElem? (i := 319) (by decide +kernel), rfl⟩
theorem mw_320 : (Cond.instanceMethod yX4_payWay) ∈ wk_T := List.mem_filter.mpr ⟨List.mem_of_getElem? (i := 320) (by decide +kernel), rfl⟩
theorem mw_321 : (Cond.code yX4_payWay prog_6_method_3_code 6 (Option.some FieldType.long)) ∈ wk_T := List.mem_filter.mpr ⟨List.mem_of_getElem? (i := 321) (by decide +kernel), rfl⟩
theorem mw_322 : (Cond.methodLink RX4 21 (⟨RX5, "payWay", "(LWatchBill$Crew;LWatchBill$Member;I)J"⟩ : MethodName)) ∈ wk_T := List.mem_filter.mpr ⟨List.mem_of_getElem? (i := 322) (by decide +kernel), rfl⟩
theorem mw_323 : (Cond.sameMethod RX5 RX0 "payWay" "(LWatchBill$Crew;LWatchBill$Member;I)J") ∈ wk_T := List.mem_filter.mpr ⟨List.mem_of_getElem? (i := 323) (by decide +kernel), rfl⟩
theorem mx_324 : (Cond.declares yX0_payWay) ∈ wk_X := List.mem_filter.mpr ⟨List.mem_of_getElem? (i := 324) (by decide +kernel), rfl⟩
theorem mw_325 : (Cond.constantLong RX4 30 2) ∈ wk_T := List.mem_filter.mpr ⟨List.mem_of_getElem? (i := 325) (by decide +kernel), rfl⟩
theorem mw_326 : (Cond.selects RX5 (⟨RX8, "payWay", "(LWatchBill$Crew;LWatchBill$Member;I)J"⟩ : MethodName) yX0_payWay) ∈ wk_T := List.mem_filter.mpr ⟨List.mem_of_getElem? (i := 326) (by decide +kernel), rfl⟩
theorem mw_327 : (Cond.selects RX7 (⟨RX8, "payWay", "(LWatchBill$Crew;LWatchBill$Member;I)J"⟩ : MethodName) yX3_payWay) ∈ wk_T := List.mem_filter.mpr ⟨List.mem_of_getElem? (i := 327) (by decide +kernel), rfl⟩
theorem mw_328 : (Cond.selects RX9 (⟨RX8, "payWay", "(LWatchBill$Crew;LWatchBill$Member;I)J"⟩ : MethodName) yX9_payWay) ∈ wk_T := List.mem_filter.mpr ⟨List.mem_of_getElem? (i := 328) (by decide +kernel), rfl⟩
theorem mw_329 : (Cond.instanceMethod yX9_payWay) ∈ wk_T := List.mem_filter.mpr ⟨List.mem_of_getElem? (i := 329) (by decide +kernel), rfl⟩
theorem mw_330 : (Cond.code yX9_payWay prog_11_method_2_code 7 (Option.some FieldType.long)) ∈ wk_T := List.mem_filter.mpr ⟨List.mem_of_getElem? (i := 330) (by decide +kernel), rfl⟩
theorem mw_331 : (Cond.methodLink RX9 9 yX2_noteWay) ∈ wk_T := List.mem_filter.mpr ⟨List.mem_of_getElem? (i := 331) (by decide +kernel), rfl⟩
theorem mw_332 : (Cond.methodLink RX9 15 (⟨RX1, "payWay", "(LWatchBill$Crew;LWatchBill$Member;I)J"⟩ : MethodName)) ∈ wk_T := List.mem_filter.mpr ⟨List.mem_of_getElem? (i := 332) (by decide +kernel), rfl⟩
theorem mw_333 : (Cond.sameMethod RX1 RX3 "payWay" "(LWatchBill$Crew;LWatchBill$Member;I)J") ∈ wk_T := List.mem_filter.mpr ⟨List.mem_of_getElem? (i := 333) (by decide +kernel), rfl⟩
theorem mw_334 : (Cond.constantLong RX9 29 7) ∈ wk_T := List.mem_filter.mpr ⟨List.mem_of_getElem? (i := 334) (by decide +kernel), rfl⟩
theorem mw_335 : (Cond.selects RX10 (⟨RX8, "payWay", "(LWatchBill$Crew;LWatchBill$Member;I)J"⟩ : MethodName) yX3_payWay) ∈ wk_T := List.mem_filter.mpr ⟨List.mem_of_getElem? (i := 335) (by decide +kernel), rfl⟩
theorem mw_336 : (Cond.methodLink RL 36 yX11_climb) ∈ wk_T := List.mem_filter.mpr ⟨List.mem_of_getElem? (i := 336) (by decide +kernel), rfl⟩
theorem mw_337 : (Cond.instanceMethod yX11_climb) ∈ wk_T := List.mem_filter.mpr ⟨List.mem_of_getElem? (i := 337) (by decide +kernel), rfl⟩
theorem mw_338 : (Cond.selects RX11 yX11_climb yX11_climb) ∈ wk_T := List.mem_filter.mpr ⟨List.mem_of_getElem? (i := 338) (by decide +kernel), rfl⟩
theorem mw_339 : (Cond.code yX11_climb prog_1_method_7_code 4 (Option.some FieldType.int)) ∈ wk_T := List.mem_filter.mpr ⟨List.mem_of_getElem? (i := 339) (by decide +kernel), rfl⟩
theorem mw_340 : (Cond.methodLink RX11 109 yX8_climbWay) ∈ wk_T := List.mem_filter.mpr ⟨List.mem_of_getElem? (i := 340) (by decide +kernel), rfl⟩
theorem mw_341 : (Cond.instanceMethod yX8_climbWay) ∈ wk_T := List.mem_filter.mpr ⟨List.mem_of_getElem? (i := 341) (by decide +kernel), rfl⟩
theorem mw_342 : (Cond.sameMethod RX8 RX8 "climbWay" "(LWatchBill$Crew;LWatchBill$Member;I)I") ∈ wk_T := List.mem_filter.mpr ⟨List.mem_of_getElem? (i := 342) (by decide +kernel), rfl⟩
theorem mw_343 : (Cond.selects RX0 yX8_climbWay yX7_climbWay) ∈ wk_T := List.mem_filter.mpr ⟨List.mem_of_getElem? (i := 343) (by decide +kernel), rfl⟩
theorem mw_344 : (Cond.instanceMethod yX7_climbWay) ∈ wk_T := List.mem_filter.mpr ⟨List.mem_of_getElem? (i := 344) (by decide +kernel), rfl⟩
theorem mw_345 : (Cond.code yX7_climbWay prog_9_method_2_code 4 (Option.some FieldType.int)) ∈ wk_T := List.mem_filter.mpr ⟨List.mem_of_getElem? (i := 345) (by decide +kernel), rfl⟩
theorem mw_346 : (Cond.methodLink RX7 9 yX2_noteWay) ∈ wk_T := List.mem_filter.mpr ⟨List.mem_of_getElem? (i := 346) (by decide +kernel), rfl⟩
theorem mw_347 : (Cond.methodLink RX7 15 (⟨RX3, "climbWay", "(LWatchBill$Crew;LWatchBill$Member;I)I"⟩ : MethodName)) ∈ wk_T := List.mem_filter.mpr ⟨List.mem_of_getElem? (i := 347) (by decide +kernel), rfl⟩
theorem mw_348 : (Cond.sameMethod RX3 RX8 "climbWay" "(LWatchBill$Crew;LWatchBill$Member;I)I") ∈ wk_T := List.mem_filter.mpr ⟨List.mem_of_getElem? (i := 348) (by decide +kernel), rfl⟩
theorem mx_349 : (Cond.declares yX8_climbWay) ∈ wk_X := List.mem_filter.mpr ⟨List.mem_of_getElem? (i := 349) (by decide +kernel), rfl⟩
theorem mw_350 : (Cond.methodLink RX7 19 yX6_tire) ∈ wk_T := List.mem_filter.mpr ⟨List.mem_of_getElem? (i := 350) (by decide +kernel), rfl⟩
theorem mw_351 : (Cond.selects RX1 yX8_climbWay yX8_climbWay) ∈ wk_T := List.mem_filter.mpr ⟨List.mem_of_getElem? (i := 351) (by decide +kernel), rfl⟩
theorem mw_352 : (Cond.selects RX3 yX8_climbWay yX8_climbWay) ∈ wk_T := List.mem_filter.mpr ⟨List.mem_of_getElem? (i := 352) (by decide +kernel), rfl⟩
theorem mw_353 : (Cond.selects RX4 yX8_climbWay yX5_climbWay) ∈ wk_T := List.mem_filter.mpr ⟨List.mem_of_getElem? (i := 353) (by decide +kernel), rfl⟩
theorem mw_354 : (Cond.instanceMethod yX5_climbWay) ∈ wk_T := List.mem_filter.mpr ⟨List.mem_of_getElem? (i := 354) (by decide +kernel), rfl⟩
theorem mw_355 : (Cond.code yX5_climbWay prog_7_method_3_code 5 (Option.some FieldType.int)) ∈ wk_T := List.mem_filter.mpr ⟨List.mem_of_getElem? (i := 355) (by decide +kernel), rfl⟩
theorem mw_356 : (Cond.methodLink RX5 19 (⟨RX0, "climbWay", "(LWatchBill$Crew;LWatchBill$Member;I)I"⟩ : MethodName)) ∈ wk_T := List.mem_filter.mpr ⟨List.mem_of_getElem? (i := 356) (by decide +kernel), rfl⟩
theorem mw_357 : (Cond.sameMethod RX0 RX7 "climbWay" "(LWatchBill$Crew;LWatchBill$Member;I)I") ∈ wk_T := List.mem_filter.mpr ⟨List.mem_of_getElem? (i := 357) (by decide +kernel), rfl⟩
theorem mx_358 : (Cond.declares yX7_climbWay) ∈ wk_X := List.mem_filter.mpr ⟨List.mem_of_getElem? (i := 358) (by decide +kernel), rfl⟩
theorem mw_359 : (Cond.selects RX5 yX8_climbWay yX5_climbWay) ∈ wk_T := List.mem_filter.mpr ⟨List.mem_of_getElem? (i := 359) (by decide +kernel), rfl⟩
theorem mw_360 : (Cond.selects RX7 yX8_climbWay yX7_climbWay) ∈ wk_T := List.mem_filter.mpr ⟨List.mem_of_getElem? (i := 360) (by decide +kernel), rfl⟩
theorem mw_361 : (Cond.selects RX9 yX8_climbWay yX9_climbWay) ∈ wk_T := List.mem_filter.mpr ⟨List.mem_of_getElem? (i := 361) (by decide +kernel), rfl⟩
theorem mw_362 : (Cond.instanceMethod yX9_climbWay) ∈ wk_T := List.mem_filter.mpr ⟨List.mem_of_getElem? (i := 362) (by decide +kernel), rfl⟩
theorem mw_363 : (Cond.code yX9_climbWay prog_11_method_3_code 4 (Option.some FieldType.int)) ∈ wk_T := List.mem_filter.mpr ⟨List.mem_of_getElem? (i := 363) (by decide +kernel), rfl⟩
theorem mw_364 : (Cond.methodLink RX9 34 (⟨RX1, "climbWay", "(LWatchBill$Crew;LWatchBill$Member;I)I"⟩ : MethodName)) ∈ wk_T := List.mem_filter.mpr ⟨List.mem_of_getElem? (i := 364) (by decide +kernel), rfl⟩
theorem mw_365 : (Cond.sameMethod RX1 RX8 "climbWay" "(LWatchBill$Crew;LWatchBill$Member;I)I") ∈ wk_T := List.mem_filter.mpr ⟨List.mem_of_getElem? (i := 365) (by decide +kernel), rfl⟩
theorem mw_366 : (Cond.selects RX10 yX8_climbWay yX7_climbWay) ∈ wk_T := List.mem_filter.mpr ⟨List.mem_of_getElem? (i := 366) (by decide +kernel), rfl⟩
theorem mw_367 : (Cond.code yX8_climbWay prog_10_method_4_code 4 (Option.some FieldType.int)) ∈ wk_T := List.mem_filter.mpr ⟨List.mem_of_getElem? (i := 367) (by decide +kernel), rfl⟩
theorem mw_368 : (Cond.methodLink RL 40 yX11_heed) ∈ wk_T := List.mem_filter.mpr ⟨List.mem_of_getElem? (i := 368) (by decide +kernel), rfl⟩
theorem mw_369 : (Cond.instanceMethod yX11_heed) ∈ wk_T := List.mem_filter.mpr ⟨List.mem_of_getElem? (i := 369) (by decide +kernel), rfl⟩
theorem mw_370 : (Cond.selects RX11 yX11_heed yX11_heed) ∈ wk_T := List.mem_filter.mpr ⟨List.mem_of_getElem? (i := 370) (by decide +kernel), rfl⟩
theorem mw_371 : (Cond.code yX11_heed prog_1_method_8_code 4 (Option.some FieldType.int)) ∈ wk_T := List.mem_filter.mpr ⟨List.mem_of_getElem? (i := 371) (by decide +kernel), rfl⟩
theorem mw_372 : (Cond.methodLink RX11 113 yX8_heedWay) ∈ wk_T := List.mem_filter.mpr ⟨List.mem_of_getElem? (i := 372) (by decide +kernel), rfl⟩
theorem mw_373 : (Cond.instanceMethod yX8_heedWay) ∈ wk_T := List.mem_filter.mpr ⟨List.mem_of_getElem? (i := 373) (by decide +kernel), rfl⟩
theorem mw_374 : (Cond.sameMethod RX8 RX8 "heedWay" "(LWatchBill$Crew;LWatchBill$Member;I)I") ∈ wk_T := List.mem_filter.mpr ⟨List.mem_of_getElem? (i := 374) (by decide +kernel), rfl⟩
theorem mw_375 : (Cond.selects RX0 yX8_heedWay yX0_heedWay) ∈ wk_T := List.mem_filter.mpr ⟨List.mem_of_getElem? (i := 375) (by decide +kernel), rfl⟩
theorem mw_376 : (Cond.instanceMethod yX0_heedWay) ∈ wk_T := List.mem_filter.mpr ⟨List.mem_of_getElem? (i := 376) (by decide +kernel), rfl⟩
theorem mw_377 : (Cond.code yX0_heedWay prog_2_method_3_code 6 (Option.some FieldType.int)) ∈ wk_T := List.mem_filter.mpr ⟨List.mem_of_getElem? (i := 377) (by decide +kernel), rfl⟩
theorem mw_378 : (Cond.methodLink RX0 34 yX10_heedWay) ∈ wk_T := List.mem_filter.mpr ⟨List.mem_of_getElem? (i := 378) (by decide +kernel), rfl⟩
theorem mw_379 : (Cond.instanceMethod yX10_heedWay) ∈ wk_T := List.mem_filter.mpr ⟨List.mem_of_getElem? (i := 379) (by decide +kernel), rfl⟩
theorem mw_380 : (Cond.code yX10_heedWay prog_12_method_3_code 4 (Option.some FieldType.int)) ∈ wk_T := List.mem_filter.mpr ⟨List.mem_of_getElem? (i := 380) (by decide +kernel), rfl⟩
theorem mw_381 : (Cond.methodLink RX10 27 (⟨RX7, "heedWay", "(LWatchBill$Crew;LWatchBill$Member;I)I"⟩ : MethodName)) ∈ wk_T := List.mem_filter.mpr ⟨List.mem_of_getElem? (i := 381) (by decide +kernel), rfl⟩
theorem mw_382 : (Cond.sameMethod RX7 RX8 "heedWay" "(LWatchBill$Crew;LWatchBill$Member;I)I") ∈ wk_T := List.mem_filter.mpr ⟨List.mem_of_getElem? (i := 382) (by decide +kernel), rfl⟩
theorem mx_383 : (Cond.declares yX8_heedWay) ∈ wk_X := List.mem_filter.mpr ⟨List.mem_of_getElem? (i := 383) (by decide +kernel), rfl⟩
theorem mw_384 : (Cond.methodLink RX0 42 yX8_heedWay) ∈ wk_T := List.mem_filter.mpr ⟨List.mem_of_getElem? (i := 384) (by decide +kernel), rfl⟩
theorem mw_385 : (Cond.instanceMethod yX1_heedWay) ∈ wk_T := List.mem_filter.mpr ⟨List.mem_of_getElem? (i := 385) (by decide +kernel), rfl⟩
theorem mw_386 : (Cond.code yX1_heedWay prog_3_method_3_code 4 (Option.some FieldType.int)) ∈ wk_T := List.mem_filter.mpr ⟨List.mem_of_getElem? (i := 386) (by decide +kernel), rfl⟩
theorem mw_387 : (Cond.methodLink RX1 25 (⟨RX3, "heedWay", "(LWatchBill$Crew;LWatchBill$Member;I)I"⟩ : MethodName)) ∈ wk_T := List.mem_filter.mpr ⟨List.mem_of_getElem? (i := 387) (by decide +kernel), rfl⟩
theorem mw_388 : (Cond.sameMethod RX3 RX8 "heedWay" "(LWatchBill$Crew;LWatchBill$Member;I)I") ∈ wk_T := List.mem_filter.mpr ⟨List.mem_of_getElem? (i := 388) (by decide +kernel), rfl⟩
theorem mw_389 : (Cond.instanceMethod yX4_heedWay) ∈ wk_T := List.mem_filter.mpr ⟨List.mem_of_getElem? (i := 389) (by decide +kernel), rfl⟩
theorem mw_390 : (Cond.code yX4_heedWay prog_6_method_4_code 4 (Option.some FieldType.int)) ∈ wk_T := List.mem_filter.mpr ⟨List.mem_of_getElem? (i := 390) (by decide +kernel), rfl⟩
theorem mw_391 : (Cond.methodLink RX4 32 (⟨RX5, "heedWay", "(LWatchBill$Crew;LWatchBill$Member;I)I"⟩ : MethodName)) ∈ wk_T := List.mem_filter.mpr ⟨List.mem_of_getElem? (i := 391) (by decide +kernel), rfl⟩
theorem mw_392 : (Cond.sameMethod RX5 RX0 "heedWay" "(LWatchBill$Crew;LWatchBill$Member;I)I") ∈ wk_T := List.mem_filter.mpr ⟨List.mem_of_getElem? (i := 392) (by decide +kernel), rfl⟩
theorem mx_393 : (Cond.declares yX0_heedWay) ∈ wk_X := List.mem_filter.mpr ⟨List.mem_of_getElem? (i := 393) (by decide +kernel), rfl⟩
theorem mw_394 : (Cond.selects RX1 yX8_heedWay yX1_heedWay) ∈ wk_T := List.mem_filter.mpr ⟨List.mem_of_getElem? (i := 394) (by decide +kernel), rfl⟩
theorem mw_395 : (Cond.selects RX3 yX8_heedWay yX8_heedWay) ∈ wk_T := List.mem_filter.mpr ⟨List.mem_of_getElem? (i := 395) (by decide +kernel), rfl⟩
theorem mw_396 : (Cond.selects RX4 yX8_heedWay yX4_heedWay) ∈ wk_T := List.mem_filter.mpr ⟨List.mem_of_getElem? (i := 396) (by decide +kernel), rfl⟩
theorem mw_397 : (Cond.selects RX5 yX8_heedWay yX0_heedWay) ∈ wk_T := List.mem_filter.mpr ⟨List.mem_of_getElem? (i := 397) (by decide +kernel), rfl⟩
theorem mw_398 : (Cond.selects RX7 yX8_heedWay yX8_heedWay) ∈ wk_T := List.mem_filter.mpr ⟨List.mem_of_getElem? (i := 398) (by decide +kernel), rfl⟩
theorem mw_399 : (Cond.selects RX9 yX8_heedWay yX1_heedWay) ∈ wk_T := List.mem_filter.mpr ⟨List.mem_of_getElem? (i := 399) (by decide +kernel), rfl⟩
theorem mw_400 : (Cond.selects RX10 yX8_heedWay yX10_heedWay) ∈ wk_T := List.mem_filter.mpr ⟨List.mem_of_getElem? (i := 400) (by decide +kernel), rfl⟩
theorem mw_401 : (Cond.code yX8_heedWay prog_10_method_5_code 4 (Option.some FieldType.int)) ∈ wk_T := List.mem_filter.mpr ⟨List.mem_of_getElem? (i := 401) (by decide +kernel), rfl⟩
theorem mw_402 : (Cond.methodLink RL 44 yX11_race) ∈ wk_T := List.mem_filter.mpr ⟨List.mem_of_getElem? (i := 402) (by decide +kernel), rfl⟩
theorem mw_403 : (Cond.instanceMethod yX11_race) ∈ wk_T := List.mem_filter.mpr ⟨List.mem_of_getElem? (i := 403) (by decide +kernel), rfl⟩
theorem mw_404 : (Cond.selects RX11 yX11_race yX11_race) ∈ wk_T := List.mem_filter.mpr ⟨List.mem_of_getElem? (i := 404) (by decide +kernel), rfl⟩
theorem mw_405 : (Cond.code yX11_race prog_1_method_9_code 5 (Option.some FieldType.int)) ∈ wk_T := List.mem_filter.mpr ⟨List.mem_of_getElem? (i := 405) (by decide +kernel), rfl⟩
theorem mw_406 : (Cond.methodLink RX11 116 yX6_isClimber) ∈ wk_T := List.mem_filter.mpr ⟨List.mem_of_getElem? (i := 406) (by decide +kernel), rfl⟩
theorem mw_407 : (Cond.instanceMethod yX6_isClimber) ∈ wk_T := List.mem_filter.mpr ⟨List.mem_of_getElem? (i := 407) (by decide +kernel), rfl⟩
theorem mw_408 : (Cond.selects RX6 yX6_isClimber yX6_isClimber) ∈ wk_T := List.mem_filter.mpr ⟨List.mem_of_getElem? (i := 408) (by decide +kernel), rfl⟩
theorem mw_409 : (Cond.code yX6_isClimber prog_8_method_4_code 1 (Option.some FieldType.boolean)) ∈ wk_T := List.mem_filter.mpr ⟨List.mem_of_getElem? (i := 409) (by decide +kernel), rfl⟩
theorem mw_410 : (Cond.methodLink RX11 120 yX11_isTimes) ∈ wk_T := List.mem_filter.mpr ⟨List.mem_of_getElem? (i := 410) (by decide +kernel), rfl⟩
theorem mw_411 : (Cond.static yX11_isTimes) ∈ wk_T := List.mem_filter.mpr ⟨List.mem_of_getElem? (i := 411) (by decide +kernel), rfl⟩
theorem mw_412 : (Cond.code yX11_isTimes prog_1_method_24_code 1 (Option.some FieldType.boolean)) ∈ wk_T := List.mem_filter.mpr ⟨List.mem_of_getElem? (i := 412) (by decide +kernel), rfl⟩
theorem mw_413 : (Cond.methodLink RX11 123 yX8_raceWay) ∈ wk_T := List.mem_filter.mpr ⟨List.mem_of_getElem? (i := 413) (by decide +kernel), rfl⟩
theorem mw_414 : (Cond.instanceMethod yX8_raceWay) ∈ wk_T := List.mem_filter.mpr ⟨List.mem_of_getElem? (i := 414) (by decide +kernel), rfl⟩
theorem mw_415 : (Cond.sameMethod RX8 RX8 "raceWay" "(LWatchBill$Crew;LWatchBill$Member;II)I") ∈ wk_T := List.mem_filter.mpr ⟨List.mem_of_getElem? (i := 415) (by decide +kernel), rfl⟩
theorem mw_416 : (Cond.selects RX0 yX8_raceWay yX8_raceWay) ∈ wk_T := List.mem_filter.mpr ⟨List.mem_of_getElem? (i := 416) (by decide +kernel), rfl⟩
theorem mw_417 : (Cond.selects RX1 yX8_raceWay yX8_raceWay) ∈ wk_T := List.mem_filter.mpr ⟨List.mem_of_getElem? (i := 417) (by decide +kernel), rfl⟩
theorem mw_418 : (Cond.selects RX3 yX8_raceWay yX8_raceWay) ∈ wk_T := List.mem_filter.mpr ⟨List.mem_of_getElem? (i := 418) (by decide +kernel), rfl⟩
theorem mw_419 : (Cond.selects RX4 yX8_raceWay yX4_raceWay) ∈ wk_T := List.mem_filter.mpr ⟨List.mem_of_getElem? (i := 419) (by decide +kernel), rfl⟩
theorem mw_420 : (Cond.instanceMethod yX4_raceWay) ∈ wk_T := List.mem_filter.mpr ⟨List.mem_of_getElem? (i := 420) (by decide +kernel), rfl⟩
theorem mw_421 : (Cond.code yX4_raceWay prog_6_method_5_code 5 (Option.some FieldType.int)) ∈ wk_T := List.mem_filter.mpr ⟨List.mem_of_getElem? (i := 421) (by decide +kernel), rfl⟩
theorem mw_422 : (Cond.methodLink RX4 36 (⟨RX5, "raceWay", "(LWatchBill$Crew;LWatchBill$Member;II)I"⟩ : MethodName)) ∈ wk_T := List.mem_filter.mpr ⟨List.mem_of_getElem? (i := 422) (by decide +kernel), rfl⟩
theorem mw_423 : (Cond.sameMethod RX5 RX8 "raceWay" "(LWatchBill$Crew;LWatchBill$Member;II)I") ∈ wk_T := List.mem_filter.mpr ⟨List.mem_of_getElem? (i := 423) (by decide +kernel), rfl⟩
theorem mx_424 : (Cond.declares yX8_raceWay) ∈ wk_X := List.mem_filter.mpr ⟨List.mem_of_getElem? (i := 424) (by decide +kernel), rfl⟩
theorem mw_425 : (Cond.selects RX5 yX8_raceWay yX8_raceWay) ∈ wk_T := List.mem_filter.mpr ⟨List.mem_of_getElem? (i := 425) (by decide +kernel), rfl⟩
theorem mw_426 : (Cond.selects RX7 yX8_raceWay yX8_raceWay) ∈ wk_T := List.mem_filter.mpr ⟨List.mem_of_getElem? (i := 426) (by decide +kernel), rfl⟩
theorem mw_427 : (Cond.selects RX9 yX8_raceWay yX8_raceWay) ∈ wk_T := List.mem_filter.mpr ⟨List.mem_of_getElem? (i := 427) (by decide +kernel), rfl⟩
theorem mw_428 : (Cond.selects RX10 yX8_raceWay yX8_raceWay) ∈ wk_T := List.mem_filter.mpr ⟨List.mem_of_getElem? (i := 428) (by decide +kernel), rfl⟩
theorem mw_429 : (Cond.code yX8_raceWay prog_10_method_6_code 8 (Option.some FieldType.int)) ∈ wk_T := List.mem_filter.mpr ⟨List.mem_of_getElem? (i := 429) (by decide +kernel), rfl⟩
theorem mw_430 : (Cond.methodLink RX8 31 yX8_climbWay) ∈ wk_T := List.mem_filter.mpr ⟨List.mem_of_getElem? (i := 430) (by decide +kernel), rfl⟩
theorem mw_431 : (Cond.methodLink RL 49 yX11_due) ∈ wk_T := List.mem_filter.mpr ⟨List.mem_of_getElem? (i := 431) (by decide +kernel), rfl⟩
theorem mw_432 : (Cond.instanceMethod yX11_due) ∈ wk_T := List.mem_filter.mpr ⟨List.mem_of_getElem? (i := 432) (by decide +kernel), rfl⟩
theorem mw_433 : (Cond.selects RX11 yX11_due yX11_due) ∈ wk_T := List.mem_filter.mpr ⟨List.mem_of_getElem? (i := 433) (by decide +kernel), rfl⟩
theorem mw_434 : (Cond.code yX11_due prog_1_method_10_code 7 (Option.some FieldType.long)) ∈ wk_T := List.mem_filter.mpr ⟨List.mem_of_getElem? (i := 434) (by decide +kernel), rfl⟩
theorem mw_435 : (Cond.methodLink RX11 127 yX6_isPayee) ∈ wk_T := List.mem_filter.mpr ⟨List.mem_of_getElem? (i := 435) (by decide +kernel), rfl⟩
theorem mw_436 : (Cond.instanceMethod yX6_isPayee) ∈ wk_T := List.mem_filter.mpr ⟨List.mem_of_getElem? (i := 436) (by decide +kernel), rfl⟩
theorem mw_437 : (Cond.selects RX6 yX6_isPayee yX6_isPayee) ∈ wk_T := List.mem_filter.mpr ⟨List.mem_of_getElem? (i := 437) (by decide +kernel), rfl⟩
theorem mw_438 : (Cond.code yX6_isPayee prog_8_method_5_code 1 (Option.some FieldType.boolean)) ∈ wk_T := List.mem_filter.mpr ⟨List.mem_of_getElem? (i := 438) (by decide +kernel), rfl⟩
theorem mw_439 : (Cond.methodLink RL 54 yX11_feed) ∈ wk_T := List.mem_filter.mpr ⟨List.mem_of_getElem? (i := 439) (by decide +kernel), rfl⟩
theorem mw_440 : (Cond.instanceMethod yX11_feed) ∈ wk_T := List.mem_filter.mpr ⟨List.mem_of_getElem? (i := 440) (by decide +kernel), rfl⟩
theorem mw_441 : (Cond.selects RX11 yX11_feed yX11_feed) ∈ wk_T := List.mem_filter.mpr ⟨List.mem_of_getElem? (i := 441) (by decide +kernel), rfl⟩
theorem mw_442 : (Cond.code yX11_feed prog_1_method_11_code 6 (Option.some FieldType.int)) ∈ wk_T := List.mem_filter.mpr ⟨List.mem_of_getElem? (i := 442) (by decide +kernel), rfl⟩
theorem mw_443 : (Cond.methodLink RX11 130 yX6_isCarer) ∈ wk_T := List.mem_filter.mpr ⟨List.mem_of_getElem? (i := 443) (by decide +kernel), rfl⟩
theorem mw_444 : (Cond.instanceMethod yX6_isCarer) ∈ wk_T := List.mem_filter.mpr ⟨List.mem_of_getElem? (i := 444) (by decide +kernel), rfl⟩
theorem mw_445 : (Cond.selects RX6 yX6_isCarer yX6_isCarer) ∈ wk_T := List.mem_filter.mpr ⟨List.mem_of_getElem? (i := 445) (by decide +kernel), rfl⟩
theorem mw_446 : (Cond.code yX6_isCarer prog_8_method_6_code 1 (Option.some FieldType.boolean)) ∈ wk_T := List.mem_filter.mpr ⟨List.mem_of_getElem? (i := 446) (by decide +kernel), rfl⟩
theorem mw_447 : (Cond.constantLong RX11 133 100) ∈ wk_T := List.mem_filter.mpr ⟨List.mem_of_getElem? (i := 447) (by decide +kernel), rfl⟩
theorem mw_448 : (Cond.methodLink RX11 139 yX6_tire) ∈ wk_T := List.mem_filter.mpr ⟨List.mem_of_getElem? (i := 448) (by decide +kernel), rfl⟩
theorem mw_449 : (Cond.methodLink RL 58 yX11_watch) ∈ wk_T := List.mem_filter.mpr ⟨List.mem_of_getElem? (i := 449) (by decide +kernel), rfl⟩
theorem mw_450 : (Cond.instanceMethod yX11_watch) ∈ wk_T := List.mem_filter.mpr ⟨List.mem_of_getElem? (i := 450) (by decide +kernel), rfl⟩
theorem mw_451 : (Cond.selects RX11 yX11_watch yX11_watch) ∈ wk_T := List.mem_filter.mpr ⟨List.mem_of_getElem? (i := 451) (by decide +kernel), rfl⟩
theorem mw_452 : (Cond.code yX11_watch prog_1_method_12_code 6 (Option.some FieldType.long)) ∈ wk_T := List.mem_filter.mpr ⟨List.mem_of_getElem? (i := 452) (by decide +kernel), rfl⟩
theorem mw_453 : (Cond.methodLink RX11 146 yX11_isDuty) ∈ wk_T := List.mem_filter.mpr ⟨List.mem_of_getElem? (i := 453) (by decide +kernel), rfl⟩
theorem mw_454 : (Cond.static yX11_isDuty) ∈ wk_T := List.mem_filter.mpr ⟨List.mem_of_getElem? (i := 454) (by decide +kernel), rfl⟩
theorem mw_455 : (Cond.code yX11_isDuty prog_1_method_23_code 1 (Option.some FieldType.boolean)) ∈ wk_T := List.mem_filter.mpr ⟨List.mem_of_getElem? (i := 455) (by decide +kernel), rfl⟩
theorem mw_456 : (Cond.methodLink RX11 149 yX11_doDuty) ∈ wk_T := List.mem_filter.mpr ⟨List.mem_of_getElem? (i := 456) (by decide +kernel), rfl⟩
theorem mw_458 : (Cond.instanceMethod yX11_doDuty) ∈ wk_T := List.mem_filter.mpr ⟨List.mem_of_getElem? (i := 458) (by decide +kernel), rfl⟩
theorem mw_459 : (Cond.code yX11_doDuty prog_1_method_21_code 4 (Option.some FieldType.long)) ∈ wk_T := List.mem_filter.mpr ⟨List.mem_of_getElem? (i := 459) (by decide +kernel), rfl⟩
theorem mw_460 : (Cond.methodLink RL 62 yX11_line) ∈ wk_T := List.mem_filter.mpr ⟨List.mem_of_getElem? (i := 460) (by decide +kernel), rfl⟩
theorem mw_461 : (Cond.instanceMethod yX11_line) ∈ wk_T := List.mem_filter.mpr ⟨List.mem_of_getElem? (i := 461) (by decide +kernel), rfl⟩
theorem mw_462 : (Cond.selects RX11 yX11_line yX11_line) ∈ wk_T := List.mem_filter.mpr ⟨List.mem_of_getElem? (i := 462) (by decide +kernel), rfl⟩
theorem mw_463 : (Cond.code yX11_line prog_1_method_13_code 6 (Option.some FieldType.int)) ∈ wk_T := List.mem_filter.mpr ⟨List.mem_of_getElem? (i := 463) (by decide +kernel), rfl⟩
theorem mw_464 : (Cond.methodLink RL 67 yX11_sail) ∈ wk_T := List.mem_filter.mpr ⟨List.mem_of_getElem? (i := 464) (by decide +kernel), rfl⟩
theorem mw_465 : (Cond.instanceMethod yX11_sail) ∈ wk_T := List.mem_filter.mpr ⟨List.mem_of_getElem? (i := 465) (by decide +kernel), rfl⟩
theorem mw_466 : (Cond.selects RX11 yX11_sail yX11_sail) ∈ wk_T := List.mem_filter.mpr ⟨List.mem_of_getElem? (i := 466) (by decide +kernel), rfl⟩
theorem mw_467 : (Cond.code yX11_sail prog_1_method_14_code 6 (Option.some FieldType.long)) ∈ wk_T := List.mem_filter.mpr ⟨List.mem_of_getElem? (i := 467) (by decide +kernel), rfl⟩
theorem mw_468 : (Cond.methodLink RX11 153 yX11_sailLine) ∈ wk_T := List.mem_filter.mpr ⟨List.mem_of_getElem? (i := 468) (by decide +kernel), rfl⟩
theorem mw_470 : (Cond.instanceMethod yX11_sailLine) ∈ wk_T := List.mem_filter.mpr ⟨List.mem_of_getElem? (i := 470) (by decide +kernel), rfl⟩
theorem mw_471 : (Cond.code yX11_sailLine prog_1_method_20_code 10 (Option.some FieldType.long)) ∈ wk_T := List.mem_filter.mpr ⟨List.mem_of_getElem? (i := 471) (by decide +kernel), rfl⟩
theorem mw_472 : (Cond.methodLink RL 72 yX11_rest) ∈ wk_T := List.mem_filter.mpr ⟨List.mem_of_getElem? (i := 472) (by decide +kernel), rfl⟩
theorem mw_473 : (Cond.instanceMethod yX11_rest) ∈ wk_T := List.mem_filter.mpr ⟨List.mem_of_getElem? (i := 473) (by decide +kernel), rfl⟩
theorem mw_474 : (Cond.selects RX11 yX11_rest yX11_rest) ∈ wk_T := List.mem_filter.mpr ⟨List.mem_of_getElem? (i := 474) (by decide +kernel), rfl⟩
theorem mw_475 : (Cond.code yX11_rest prog_1_method_15_code 3 (Option.some FieldType.int)) ∈ wk_T := List.mem_filter.mpr ⟨List.mem_of_getElem? (i := 475) (by decide +kernel), rfl⟩
theorem mw_476 : (Cond.methodLink RL 76 yX11_told) ∈ wk_T := List.mem_filter.mpr ⟨List.mem_of_getElem? (i := 476) (by decide +kernel), rfl⟩
theorem mw_477 : (Cond.instanceMethod yX11_told) ∈ wk_T := List.mem_filter.mpr ⟨List.mem_of_getElem? (i := 477) (by decide +kernel), rfl⟩
theorem mw_478 : (Cond.selects RX11 yX11_told yX11_told) ∈ wk_T := List.mem_filter.mpr ⟨List.mem_of_getElem? (i := 478) (by decide +kernel), rfl⟩
theorem mw_479 : (Cond.code yX11_told prog_1_method_16_code 4 (Option.some FieldType.long)) ∈ wk_T := List.mem_filter.mpr ⟨List.mem_of_getElem? (i := 479) (by decide +kernel), rfl⟩
theorem mw_480 : (Cond.methodLink RL 80 yX11_note) ∈ wk_T := List.mem_filter.mpr ⟨List.mem_of_getElem? (i := 480) (by decide +kernel), rfl⟩
theorem mw_481 : (Cond.instanceMethod yX11_note) ∈ wk_T := List.mem_filter.mpr ⟨List.mem_of_getElem? (i := 481) (by decide +kernel), rfl⟩
theorem mw_482 : (Cond.selects RX11 yX11_note yX11_note) ∈ wk_T := List.mem_filter.mpr ⟨List.mem_of_getElem? (i := 482) (by decide +kernel), rfl⟩
theorem mw_483 : (Cond.code yX11_note prog_1_method_17_code 2 (Option.some FieldType.int)) ∈ wk_T := List.mem_filter.mpr ⟨List.mem_of_getElem? (i := 483) (by decide +kernel), rfl⟩
theorem mw_484 : (Cond.methodLink RL 84 yX11_notes) ∈ wk_T := List.mem_filter.mpr ⟨List.mem_of_getElem? (i := 484) (by decide +kernel), rfl⟩
theorem mw_485 : (Cond.instanceMethod yX11_notes) ∈ wk_T := List.mem_filter.mpr ⟨List.mem_of_getElem? (i := 485) (by decide +kernel), rfl⟩
theorem mw_486 : (Cond.selects RX11 yX11_notes yX11_notes) ∈ wk_T := List.mem_filter.mpr ⟨List.mem_of_getElem? (i := 486) (by decide +kernel), rfl⟩
theorem mw_487 : (Cond.code yX11_notes prog_1_method_18_code 1 (Option.some FieldType.int)) ∈ wk_T := List.mem_filter.mpr ⟨List.mem_of_getElem? (i := 487) (by decide +kernel), rfl⟩
theorem mw_488 : (Cond.classLink RL 10 RX12) ∈ wk_T := List.mem_filter.mpr ⟨List.mem_of_getElem? (i := 488) (by decide +kernel), rfl⟩
theorem mw_489 : (Cond.instantiable RX12 11) ∈ wk_T := List.mem_filter.mpr ⟨List.mem_of_getElem? (i := 489) (by decide +kernel), rfl⟩
theorem mw_490 : (Cond.methodLink RL 12 yX12_init) ∈ wk_T := List.mem_filter.mpr ⟨List.mem_of_getElem? (i := 490) (by decide +kernel), rfl⟩
theorem mw_491 : (Cond.instanceMethod yX12_init) ∈ wk_T := List.mem_filter.mpr ⟨List.mem_of_getElem? (i := 491) (by decide +kernel), rfl⟩
theorem mw_492 : (Cond.code yX12_init prog_14_method_1_code 2 (Option.none : Option FieldType)) ∈ wk_T := List.mem_filter.mpr ⟨List.mem_of_getElem? (i := 492) (by decide +kernel), rfl⟩
theorem mw_493 : (Cond.methodLink RX12 1 (⟨"java/lang/Object", "<init>", "()V"⟩ : MethodName)) ∈ wk_T := List.mem_filter.mpr ⟨List.mem_of_getElem? (i := 493) (by decide +kernel), rfl⟩
theorem mw_494 : (Cond.fieldLink RX12 38 RX12 "members" "I") ∈ wk_T := List.mem_filter.mpr ⟨List.mem_of_getElem? (i := 494) (by decide +kernel), rfl⟩
theorem mw_495 : (Cond.fieldLink RX12 7 RX12 "rank" "[I") ∈ wk_T := List.mem_filter.mpr ⟨List.mem_of_getElem? (i := 495) (by decide +kernel), rfl⟩
theorem mw_496 : (Cond.fieldLink RX12 13 RX12 "skill" "[I") ∈ wk_T := List.mem_filter.mpr ⟨List.mem_of_getElem? (i := 496) (by decide +kernel), rfl⟩
theorem mw_497 : (Cond.fieldLink RX12 16 RX12 "weary" "[I") ∈ wk_T := List.mem_filter.mpr ⟨List.mem_of_getElem? (i := 497) (by decide +kernel), rfl⟩
theorem mw_498 : (Cond.fieldLink RX12 19 RX12 "purse" "[J") ∈ wk_T := List.mem_filter.mpr ⟨List.mem_of_getElem? (i := 498) (by decide +kernel), rfl⟩
theorem mw_499 : (Cond.fieldLink RX12 23 RX12 "lineDuty" "[I") ∈ wk_T := List.mem_filter.mpr ⟨List.mem_of_getElem? (i := 499) (by decide +kernel), rfl⟩
theorem mw_500 : (Cond.fieldLink RX12 26 RX12 "lineNumber" "[I") ∈ wk_T := List.mem_filter.mpr ⟨List.mem_of_getElem? (i := 500) (by decide +kernel), rfl⟩
theorem mw_501 : (Cond.fieldLink RX12 29 RX12 "lineLow" "[I") ∈ wk_T := List.mem_filter.mpr ⟨List.mem_of_getElem? (i := 501) (by decide +kernel), rfl⟩
theorem mw_502 : (Cond.fieldLink RX12 32 RX12 "lineHigh" "[I") ∈ wk_T := List.mem_filter.mpr ⟨List.mem_of_getElem? (i := 502) (by decide +kernel), rfl⟩
theorem mw_503 : (Cond.fieldLink RX12 35 RX12 "kept" "[I") ∈ wk_T := List.mem_filter.mpr ⟨List.mem_of_getElem? (i := 503) (by decide +kernel), rfl⟩
theorem mw_504 : (Cond.fieldLink RX12 46 RX12 "noted" "I") ∈ wk_T := List.mem_filter.mpr ⟨List.mem_of_getElem? (i := 504) (by decide +kernel), rfl⟩
theorem mw_505 : (Cond.lays RX12 RX12 "members" "I") ∈ wk_T := List.mem_filter.mpr ⟨List.mem_of_getElem? (i := 505) (by decide +kernel), rfl⟩
theorem mw_507 : (Cond.laysFinal RX12 RX12 "rank" "[I") ∈ wk_T := List.mem_filter.mpr ⟨List.mem_of_getElem? (i := 507) (by decide +kernel), rfl⟩
theorem mw_509 : (Cond.laysFinal RX12 RX12 "skill" "[I") ∈ wk_T := List.mem_filter.mpr ⟨List.mem_of_getElem? (i := 509) (by decide +kernel), rfl⟩
theorem mw_511 : (Cond.laysFinal RX12 RX12 "weary" "[I") ∈ wk_T := List.mem_filter.mpr ⟨List.mem_of_getElem? (i := 511) (by decide +kernel), rfl⟩
theorem mw_513 : (Cond.laysFinal RX12 RX12 "purse" "[J") ∈ wk_T := List.mem_filter.mpr ⟨List.mem_of_getElem? (i := 513) (by decide +kernel), rfl⟩
theorem mw_515 : (Cond.laysFinal RX12 RX12 "lineDuty" "[I") ∈ wk_T := List.mem_filter.mpr ⟨List.mem_of_getElem? (i := 515) (by decide +kernel), rfl⟩
theorem mw_517 : (Cond.laysFinal RX12 RX12 "lineNumber" "[I") ∈ wk_T := List.mem_filter.mpr ⟨List.mem_of_getElem? (i := 517) (by decide +kernel), rfl⟩
theorem mw_519 : (Cond.laysFinal RX12 RX12 "lineLow" "[I") ∈ wk_T := List.mem_filter.mpr ⟨List.mem_of_getElem? (i := 519) (by decide +kernel), rfl⟩
theorem mw_521 : (Cond.laysFinal RX12 RX12 "lineHigh" "[I") ∈ wk_T := List.mem_filter.mpr ⟨List.mem_of_getElem? (i := 521) (by decide +kernel), rfl⟩
theorem mw_523 : (Cond.laysFinal RX12 RX12 "kept" "[I") ∈ wk_T := List.mem_filter.mpr ⟨List.mem_of_getElem? (i := 523) (by decide +kernel), rfl⟩
theorem mw_525 : (Cond.lays RX12 RX12 "noted" "I") ∈ wk_T := List.mem_filter.mpr ⟨List.mem_of_getElem? (i := 525) (by decide +kernel), rfl⟩
theorem mw_527 : (Cond.superclass RX12 "java/lang/Object") ∈ wk_T := List.mem_filter.mpr ⟨List.mem_of_getElem? (i := 527) (by decide +kernel), rfl⟩
theorem mw_528 : (Cond.arrayClass FieldType.long) ∈ wk_T := List.mem_filter.mpr ⟨List.mem_of_getElem? (i := 528) (by decide +kernel), rfl⟩
theorem mw_529 : (Cond.methodLink RL 17 yX12_enlist) ∈ wk_T := List.mem_filter.mpr ⟨List.mem_of_getElem? (i := 529) (by decide +kernel), rfl⟩
theorem mw_530 : (Cond.instanceMethod yX12_enlist) ∈ wk_T := List.mem_filter.mpr ⟨List.mem_of_getElem? (i := 530) (by decide +kernel), rfl⟩
theorem mw_531 : (Cond.selects RX12 yX12_enlist yX12_enlist) ∈ wk_T := List.mem_filter.mpr ⟨List.mem_of_getElem? (i := 531) (by decide +kernel), rfl⟩
theorem mw_532 : (Cond.code yX12_enlist prog_14_method_35_code 4 (Option.some FieldType.int)) ∈ wk_T := List.mem_filter.mpr ⟨List.mem_of_getElem? (i := 532) (by decide +kernel), rfl⟩
theorem mw_533 : (Cond.constant RX12 166 (-1000000)) ∈ wk_T := List.mem_filter.mpr ⟨List.mem_of_getElem? (i := 533) (by decide +kernel), rfl⟩
theorem mw_534 : (Cond.methodLink RL 22 yX12_promote) ∈ wk_T := List.mem_filter.mpr ⟨List.mem_of_getElem? (i := 534) (by decide +kernel), rfl⟩
theorem mw_535 : (Cond.instanceMethod yX12_promote) ∈ wk_T := List.mem_filter.mpr ⟨List.mem_of_getElem? (i := 535) (by decide +kernel), rfl⟩
theorem mw_536 : (Cond.selects RX12 yX12_promote yX12_promote) ∈ wk_T := List.mem_filter.mpr ⟨List.mem_of_getElem? (i := 536) (by decide +kernel), rfl⟩
theorem mw_537 : (Cond.code yX12_promote prog_14_method_36_code 2 (Option.some FieldType.int)) ∈ wk_T := List.mem_filter.mpr ⟨List.mem_of_getElem? (i := 537) (by decide +kernel), rfl⟩
theorem mw_538 : (Cond.methodLink RX12 148 yX12_isMember) ∈ wk_T := List.mem_filter.mpr ⟨List.mem_of_getElem? (i := 538) (by decide +kernel), rfl⟩
theorem mw_540 : (Cond.instanceMethod yX12_isMember) ∈ wk_T := List.mem_filter.mpr ⟨List.mem_of_getElem? (i := 540) (by decide +kernel), rfl⟩
theorem mw_541 : (Cond.code yX12_isMember prog_14_method_4_code 2 (Option.some FieldType.boolean)) ∈ wk_T := List.mem_filter.mpr ⟨List.mem_of_getElem? (i := 541) (by decide +kernel), rfl⟩
theorem mw_542 : (Cond.methodLink RL 26 yX12_demote) ∈ wk_T := List.mem_filter.mpr ⟨List.mem_of_getElem? (i := 542) (by decide +kernel), rfl⟩
theorem mw_543 : (Cond.instanceMethod yX12_demote) ∈ wk_T := List.mem_filter.mpr ⟨List.mem_of_getElem? (i := 543) (by decide +kernel), rfl⟩
theorem mw_544 : (Cond.selects RX12 yX12_demote yX12_demote) ∈ wk_T := List.mem_filter.mpr ⟨List.mem_of_getElem? (i := 544) (by decide +kernel), rfl⟩
theorem mw_545 : (Cond.code yX12_demote prog_14_method_37_code 2 (Option.some FieldType.int)) ∈ wk_T := List.mem_filter.mpr ⟨List.mem_of_getElem? (i := 545) (by decide +kernel), rfl⟩
theorem mw_546 : (Cond.methodLink RX12 167 yX12_elderOf) ∈ wk_T := List.mem_filter.mpr ⟨List.mem_of_getElem? (i := 546) (by decide +kernel), rfl⟩
theorem mw_547 : (Cond.static yX12_elderOf) ∈ wk_T := List.mem_filter.mpr ⟨List.mem_of_getElem? (i := 547) (by decide +kernel), rfl⟩
theorem mw_548 : (Cond.code yX12_elderOf prog_14_method_2_code 1 (Option.some FieldType.int)) ∈ wk_T := List.mem_filter.mpr ⟨List.mem_of_getElem? (i := 548) (by decide +kernel), rfl⟩
theorem mw_549 : (Cond.methodLink RL 31 yX12_toil) ∈ wk_T := List.mem_filter.mpr ⟨List.mem_of_getElem? (i := 549) (by decide +kernel), rfl⟩
theorem mw_550 : (Cond.instanceMethod yX12_toil) ∈ wk_T := List.mem_filter.mpr ⟨List.mem_of_getElem? (i := 550) (by decide +kernel), rfl⟩
theorem mw_551 : (Cond.selects RX12 yX12_toil yX12_toil) ∈ wk_T := List.mem_filter.mpr ⟨List.mem_of_getElem? (i := 551) (by decide +kernel), rfl⟩
theorem mw_552 : (Cond.code yX12_toil prog_14_method_38_code 3 (Option.some FieldType.long)) ∈ wk_T := List.mem_filter.mpr ⟨List.mem_of_getElem? (i := 552) (by decide +kernel), rfl⟩
theorem mw_553 : (Cond.methodLink RX12 170 yX12_begin) ∈ wk_T := List.mem_filter.mpr ⟨List.mem_of_getElem? (i := 553) (by decide +kernel), rfl⟩
theorem mw_555 : (Cond.instanceMethod yX12_begin) ∈ wk_T := List.mem_filter.mpr ⟨List.mem_of_getElem? (i := 555) (by decide +kernel), rfl⟩
theorem mw_556 : (Cond.code yX12_begin prog_14_method_34_code 4 (Option.some FieldType.long)) ∈ wk_T := List.mem_filter.mpr ⟨List.mem_of_getElem? (i := 556) (by decide +kernel), rfl⟩
theorem mw_557 : (Cond.methodLink RX12 156 yX12_may) ∈ wk_T := List.mem_filter.mpr ⟨List.mem_of_getElem? (i := 557) (by decide +kernel), rfl⟩
theorem mw_559 : (Cond.instanceMethod yX12_may) ∈ wk_T := List.mem_filter.mpr ⟨List.mem_of_getElem? (i := 559) (by decide +kernel), rfl⟩
theorem mw_560 : (Cond.code yX12_may prog_14_method_33_code 4 (Option.some FieldType.boolean)) ∈ wk_T := List.mem_filter.mpr ⟨List.mem_of_getElem? (i := 560) (by decide +kernel), rfl⟩
theorem mw_561 : (Cond.methodLink RX12 152 yX12_isWithin) ∈ wk_T := List.mem_filter.mpr ⟨List.mem_of_getElem? (i := 561) (by decide +kernel), rfl⟩
theorem mw_562 : (Cond.static yX12_isWithin) ∈ wk_T := List.mem_filter.mpr ⟨List.mem_of_getElem? (i := 562) (by decide +kernel), rfl⟩
theorem mw_563 : (Cond.code yX12_isWithin prog_14_method_5_code 2 (Option.some FieldType.boolean)) ∈ wk_T := List.mem_filter.mpr ⟨List.mem_of_getElem? (i := 563) (by decide +kernel), rfl⟩
theorem mw_564 : (Cond.methodLink RX12 42 yX12_boundOf) ∈ wk_T := List.mem_filter.mpr ⟨List.mem_of_getElem? (i := 564) (by decide +kernel), rfl⟩
theorem mw_565 : (Cond.static yX12_boundOf) ∈ wk_T := List.mem_filter.mpr ⟨List.mem_of_getElem? (i := 565) (by decide +kernel), rfl⟩
theorem mw_566 : (Cond.code yX12_boundOf prog_14_method_3_code 1 (Option.some FieldType.int)) ∈ wk_T := List.mem_filter.mpr ⟨List.mem_of_getElem? (i := 566) (by decide +kernel), rfl⟩
theorem mw_567 : (Cond.constantLong RX12 160 (-1000000)) ∈ wk_T := List.mem_filter.mpr ⟨List.mem_of_getElem? (i := 567) (by decide +kernel), rfl⟩
theorem mw_568 : (Cond.methodLink RX12 162 yX12_work) ∈ wk_T := List.mem_filter.mpr ⟨List.mem_of_getElem? (i := 568) (by decide +kernel), rfl⟩
theorem mw_570 : (Cond.instanceMethod yX12_work) ∈ wk_T := List.mem_filter.mpr ⟨List.mem_of_getElem? (i := 570) (by decide +kernel), rfl⟩
theorem mw_571 : (Cond.code yX12_work prog_14_method_32_code 7 (Option.some FieldType.long)) ∈ wk_T := List.mem_filter.mpr ⟨List.mem_of_getElem? (i := 571) (by decide +kernel), rfl⟩
theorem mw_572 : (Cond.methodLink RX12 144 yX12_does) ∈ wk_T := List.mem_filter.mpr ⟨List.mem_of_getElem? (i := 572) (by decide +kernel), rfl⟩
theorem mw_574 : (Cond.instanceMethod yX12_does) ∈ wk_T := List.mem_filter.mpr ⟨List.mem_of_getElem? (i := 574) (by decide +kernel), rfl⟩
theorem mw_575 : (Cond.code yX12_does prog_14_method_31_code 4 (Option.some FieldType.long)) ∈ wk_T := List.mem_filter.mpr ⟨List.mem_of_getElem? (i := 575) (by decide +kernel), rfl⟩
theorem mw_576 : (Cond.methodLink RX12 132 yX12_toils) ∈ wk_T := List.mem_filter.mpr ⟨List.mem_of_getElem? (i := 576) (by decide +kernel), rfl⟩
theorem mw_578 : (Cond.instanceMethod yX12_toils) ∈ wk_T := List.mem_filter.mpr ⟨List.mem_of_getElem? (i := 578) (by decide +kernel), rfl⟩
theorem mw_579 : (Cond.code yX12_toils prog_14_method_14_code 3 (Option.some FieldType.long)) ∈ wk_T := List.mem_filter.mpr ⟨List.mem_of_getElem? (i := 579) (by decide +kernel), rfl⟩
theorem mw_580 : (Cond.methodLink RX12 57 yX12_soulToils) ∈ wk_T := List.mem_filter.mpr ⟨List.mem_of_getElem? (i := 580) (by decide +kernel), rfl⟩
theorem mw_582 : (Cond.instanceMethod yX12_soulToils) ∈ wk_T := List.mem_filter.mpr ⟨List.mem_of_getElem? (i := 582) (by decide +kernel), rfl⟩
theorem mw_583 : (Cond.code yX12_soulToils prog_14_method_9_code 5 (Option.some FieldType.long)) ∈ wk_T := List.mem_filter.mpr ⟨List.mem_of_getElem? (i := 583) (by decide +kernel), rfl⟩
theorem mw_584 : (Cond.methodLink RX12 49 yX12_mark) ∈ wk_T := List.mem_filter.mpr ⟨List.mem_of_getElem? (i := 584) (by decide +kernel), rfl⟩
theorem mw_586 : (Cond.instanceMethod yX12_mark) ∈ wk_T := List.mem_filter.mpr ⟨List.mem_of_getElem? (i := 586) (by decide +kernel), rfl⟩
theorem mw_587 : (Cond.code yX12_mark prog_14_method_6_code 2 (Option.none : Option FieldType)) ∈ wk_T := List.mem_filter.mpr ⟨List.mem_of_getElem? (i := 587) (by decide +kernel), rfl⟩
theorem mw_588 : (Cond.methodLink RX12 53 yX12_tire) ∈ wk_T := List.mem_filter.mpr ⟨List.mem_of_getElem? (i := 588) (by decide +kernel), rfl⟩
theorem mw_590 : (Cond.instanceMethod yX12_tire) ∈ wk_T := List.mem_filter.mpr ⟨List.mem_of_getElem? (i := 590) (by decide +kernel), rfl⟩
theorem mw_591 : (Cond.code yX12_tire prog_14_method_7_code 4 (Option.none : Option FieldType)) ∈ wk_T := List.mem_filter.mpr ⟨List.mem_of_getElem? (i := 591) (by decide +kernel), rfl⟩
theorem mw_592 : (Cond.methodLink RX12 63 yX12_topmanToils) ∈ wk_T := List.mem_filter.mpr ⟨List.mem_of_getElem? (i := 592) (by decide +kernel), rfl⟩
theorem mw_594 : (Cond.instanceMethod yX12_topmanToils) ∈ wk_T := List.mem_filter.mpr ⟨List.mem_of_getElem? (i := 594) (by decide +kernel), rfl⟩
theorem mw_595 : (Cond.code yX12_topmanToils prog_14_method_10_code 3 (Option.some FieldType.long)) ∈ wk_T := List.mem_filter.mpr ⟨List.mem_of_getElem? (i := 595) (by decide +kernel), rfl⟩
theorem mw_596 : (Cond.constantLong RX12 61 3) ∈ wk_T := List.mem_filter.mpr ⟨List.mem_of_getElem? (i := 596) (by decide +kernel), rfl⟩
theorem mw_597 : (Cond.methodLink RX12 66 yX12_mateToils) ∈ wk_T := List.mem_filter.mpr ⟨List.mem_of_getElem? (i := 597) (by decide +kernel), rfl⟩
theorem mw_599 : (Cond.instanceMethod yX12_mateToils) ∈ wk_T := List.mem_filter.mpr ⟨List.mem_of_getElem? (i := 599) (by decide +kernel), rfl⟩
theorem mw_600 : (Cond.code yX12_mateToils prog_14_method_11_code 5 (Option.some FieldType.long)) ∈ wk_T := List.mem_filter.mpr ⟨List.mem_of_getElem? (i := 600) (by decide +kernel), rfl⟩
theorem mw_601 : (Cond.methodLink RX12 71 yX12_masterToils) ∈ wk_T := List.mem_filter.mpr ⟨List.mem_of_getElem? (i := 601) (by decide +kernel), rfl⟩
theorem mw_603 : (Cond.instanceMethod yX12_masterToils) ∈ wk_T := List.mem_filter.mpr ⟨List.mem_of_getElem? (i := 603) (by decide +kernel), rfl⟩
theorem mw_604 : (Cond.code yX12_masterToils prog_14_method_12_code 3 (Option.some FieldType.long)) ∈ wk_T := List.mem_filter.mpr ⟨List.mem_of_getElem? (i := 604) (by decide +kernel), rfl⟩
theorem mw_605 : (Cond.constantLong RX12 69 4) ∈ wk_T := List.mem_filter.mpr ⟨List.mem_of_getElem? (i := 605) (by decide +kernel), rfl⟩
theorem mw_606 : (Cond.methodLink RX12 74 yX12_cookToils) ∈ wk_T := List.mem_filter.mpr ⟨List.mem_of_getElem? (i := 606) (by decide +kernel), rfl⟩
theorem mw_608 : (Cond.instanceMethod yX12_cookToils) ∈ wk_T := List.mem_filter.mpr ⟨List.mem_of_getElem? (i := 608) (by decide +kernel), rfl⟩
theorem mw_609 : (Cond.code yX12_cookToils prog_14_method_13_code 5 (Option.some FieldType.long)) ∈ wk_T := List.mem_filter.mpr ⟨List.mem_of_getElem? (i := 609) (by decide +kernel), rfl⟩
theorem mw_610 : (Cond.methodLink RX12 135 yX12_isPaid) ∈ wk_T := List.mem_filter.mpr ⟨List.mem_of_getElem? (i := 610) (by decide +kernel), rfl⟩
theorem mw_612 : (Cond.instanceMethod yX12_isPaid) ∈ wk_T := List.mem_filter.mpr ⟨List.mem_of_getElem? (i := 612) (by decide +kernel), rfl⟩
theorem mw_613 : (Cond.code yX12_isPaid prog_14_method_19_code 3 (Option.some FieldType.long)) ∈ wk_T := List.mem_filter.mpr ⟨List.mem_of_getElem? (i := 613) (by decide +kernel), rfl⟩
theorem mw_614 : (Cond.methodLink RX12 86 yX12_bosunIsPaid) ∈ wk_T := List.mem_filter.mpr ⟨List.mem_of_getElem? (i := 614) (by decide +kernel), rfl⟩
theorem mw_616 : (Cond.instanceMethod yX12_bosunIsPaid) ∈ wk_T := List.mem_filter.mpr ⟨List.mem_of_getElem? (i := 616) (by decide +kernel), rfl⟩
theorem mw_617 : (Cond.code yX12_bosunIsPaid prog_14_method_16_code 5 (Option.some FieldType.long)) ∈ wk_T := List.mem_filter.mpr ⟨List.mem_of_getElem? (i := 617) (by decide +kernel), rfl⟩
theorem mw_618 : (Cond.methodLink RX12 77 yX12_handIsPaid) ∈ wk_T := List.mem_filter.mpr ⟨List.mem_of_getElem? (i := 618) (by decide +kernel), rfl⟩
theorem mw_620 : (Cond.instanceMethod yX12_handIsPaid) ∈ wk_T := List.mem_filter.mpr ⟨List.mem_of_getElem? (i := 620) (by decide +kernel), rfl⟩
theorem mw_621 : (Cond.code yX12_handIsPaid prog_14_method_15_code 3 (Option.some FieldType.long)) ∈ wk_T := List.mem_filter.mpr ⟨List.mem_of_getElem? (i := 621) (by decide +kernel), rfl⟩
theorem mw_622 : (Cond.constantLong RX12 80 2) ∈ wk_T := List.mem_filter.mpr ⟨List.mem_of_getElem? (i := 622) (by decide +kernel), rfl⟩
theorem mw_623 : (Cond.methodLink RX12 82 yX12_howMany) ∈ wk_T := List.mem_filter.mpr ⟨List.mem_of_getElem? (i := 623) (by decide +kernel), rfl⟩
theorem mw_625 : (Cond.instanceMethod yX12_howMany) ∈ wk_T := List.mem_filter.mpr ⟨List.mem_of_getElem? (i := 625) (by decide +kernel), rfl⟩
theorem mw_626 : (Cond.code yX12_howMany prog_14_method_8_code 5 (Option.some FieldType.int)) ∈ wk_T := List.mem_filter.mpr ⟨List.mem_of_getElem? (i := 626) (by decide +kernel), rfl⟩
theorem mw_627 : (Cond.methodLink RX12 91 yX12_masterIsPaid) ∈ wk_T := List.mem_filter.mpr ⟨List.mem_of_getElem? (i := 627) (by decide +kernel), rfl⟩
theorem mw_629 : (Cond.instanceMethod yX12_masterIsPaid) ∈ wk_T := List.mem_filter.mpr ⟨List.mem_of_getElem? (i := 629) (by decide +kernel), rfl⟩
theorem mw_630 : (Cond.code yX12_masterIsPaid prog_14_method_17_code 5 (Option.some FieldType.long)) ∈ wk_T := List.mem_filter.mpr ⟨List.mem_of_getElem? (i := 630) (by decide +kernel), rfl⟩
theorem mw_631 : (Cond.methodLink RX12 94 yX12_surgeonIsPaid) ∈ wk_T := List.mem_filter.mpr ⟨List.mem_of_getElem? (i := 631) (by decide +kernel), rfl⟩
theorem mw_633 : (Cond.instanceMethod yX12_surgeonIsPaid) ∈ wk_T := List.mem_filter.mpr ⟨List.mem_of_getElem? (i := 633) (by decide +kernel), rfl⟩
theorem mw_634 : (Cond.code yX12_surgeonIsPaid prog_14_method_18_code 6 (Option.some FieldType.long)) ∈ wk_T := List.mem_filter.mpr ⟨List.mem_of_getElem? (i := 634) (by decide +kernel), rfl⟩
theorem mw_635 : (Cond.constantLong RX12 89 7) ∈ wk_T := List.mem_filter.mpr ⟨List.mem_of_getElem? (i := 635) (by decide +kernel), rfl⟩
theorem mw_636 : (Cond.methodLink RX12 138 yX12_climbs) ∈ wk_T := List.mem_filter.mpr ⟨List.mem_of_getElem? (i := 636) (by decide +kernel), rfl⟩
theorem mw_638 : (Cond.instanceMethod yX12_climbs) ∈ wk_T := List.mem_filter.mpr ⟨List.mem_of_getElem? (i := 638) (by decide +kernel), rfl⟩
theorem mw_639 : (Cond.code yX12_climbs prog_14_method_24_code 3 (Option.some FieldType.long)) ∈ wk_T := List.mem_filter.mpr ⟨List.mem_of_getElem? (i := 639) (by decide +kernel), rfl⟩
theorem mw_640 : (Cond.methodLink RX12 102 yX12_sailorClimbs) ∈ wk_T := List.mem_filter.mpr ⟨List.mem_of_getElem? (i := 640) (by decide +kernel), rfl⟩
theorem mw_642 : (Cond.instanceMethod yX12_sailorClimbs) ∈ wk_T := List.mem_filter.mpr ⟨List.mem_of_getElem? (i := 642) (by decide +kernel), rfl⟩
theorem mw_643 : (Cond.code yX12_sailorClimbs prog_14_method_21_code 3 (Option.some FieldType.long)) ∈ wk_T := List.mem_filter.mpr ⟨List.mem_of_getElem? (i := 643) (by decide +kernel), rfl⟩
theorem mw_644 : (Cond.methodLink RX12 99 yX12_soulClimbs) ∈ wk_T := List.mem_filter.mpr ⟨List.mem_of_getElem? (i := 644) (by decide +kernel), rfl⟩
theorem mw_646 : (Cond.instanceMethod yX12_soulClimbs) ∈ wk_T := List.mem_filter.mpr ⟨List.mem_of_getElem? (i := 646) (by decide +kernel), rfl⟩
theorem mw_647 : (Cond.code yX12_soulClimbs prog_14_method_20_code 3 (Option.some FieldType.long)) ∈ wk_T := List.mem_filter.mpr ⟨List.mem_of_getElem? (i := 647) (by decide +kernel), rfl⟩
theorem mw_648 : (Cond.constantLong RX12 97 (-1)) ∈ wk_T := List.mem_filter.mpr ⟨List.mem_of_getElem? (i := 648) (by decide +kernel), rfl⟩
theorem mw_649 : (Cond.methodLink RX12 105 yX12_mateClimbs) ∈ wk_T := List.mem_filter.mpr ⟨List.mem_of_getElem? (i := 649) (by decide +kernel), rfl⟩
theorem mw_651 : (Cond.instanceMethod yX12_mateClimbs) ∈ wk_T := List.mem_filter.mpr ⟨List.mem_of_getElem? (i := 651) (by decide +kernel), rfl⟩
theorem mw_652 : (Cond.code yX12_mateClimbs prog_14_method_22_code 5 (Option.some FieldType.long)) ∈ wk_T := List.mem_filter.mpr ⟨List.mem_of_getElem? (i := 652) (by decide +kernel), rfl⟩
theorem mw_653 : (Cond.methodLink RX12 108 yX12_surgeonClimbs) ∈ wk_T := List.mem_filter.mpr ⟨List.mem_of_getElem? (i := 653) (by decide +kernel), rfl⟩
theorem mw_655 : (Cond.instanceMethod yX12_surgeonClimbs) ∈ wk_T := List.mem_filter.mpr ⟨List.mem_of_getElem? (i := 655) (by decide +kernel), rfl⟩
theorem mw_656 : (Cond.code yX12_surgeonClimbs prog_14_method_23_code 3 (Option.some FieldType.long)) ∈ wk_T := List.mem_filter.mpr ⟨List.mem_of_getElem? (i := 656) (by decide +kernel), rfl⟩
theorem mw_657 : (Cond.methodLink RX12 141 yX12_heeds) ∈ wk_T := List.mem_filter.mpr ⟨List.mem_of_getElem? (i := 657) (by decide +kernel), rfl⟩
theorem mw_659 : (Cond.instanceMethod yX12_heeds) ∈ wk_T := List.mem_filter.mpr ⟨List.mem_of_getElem? (i := 659) (by decide +kernel), rfl⟩
theorem mw_660 : (Cond.code yX12_heeds prog_14_method_30_code 3 (Option.some FieldType.long)) ∈ wk_T := List.mem_filter.mpr ⟨List.mem_of_getElem? (i := 660) (by decide +kernel), rfl⟩
theorem mw_661 : (Cond.methodLink RX12 115 yX12_soulHeeds) ∈ wk_T := List.mem_filter.mpr ⟨List.mem_of_getElem? (i := 661) (by decide +kernel), rfl⟩
theorem mw_663 : (Cond.instanceMethod yX12_soulHeeds) ∈ wk_T := List.mem_filter.mpr ⟨List.mem_of_getElem? (i := 663) (by decide +kernel), rfl⟩
theorem mw_664 : (Cond.code yX12_soulHeeds prog_14_method_25_code 3 (Option.some FieldType.long)) ∈ wk_T := List.mem_filter.mpr ⟨List.mem_of_getElem? (i := 664) (by decide +kernel), rfl⟩
theorem mw_665 : (Cond.constantLong RX12 111 31) ∈ wk_T := List.mem_filter.mpr ⟨List.mem_of_getElem? (i := 665) (by decide +kernel), rfl⟩
theorem mw_666 : (Cond.constantLong RX12 113 1000) ∈ wk_T := List.mem_filter.mpr ⟨List.mem_of_getElem? (i := 666) (by decide +kernel), rfl⟩
theorem mw_667 : (Cond.methodLink RX12 118 yX12_topmanHeeds) ∈ wk_T := List.mem_filter.mpr ⟨List.mem_of_getElem? (i := 667) (by decide +kernel), rfl⟩
theorem mw_669 : (Cond.instanceMethod yX12_topmanHeeds) ∈ wk_T := List.mem_filter.mpr ⟨List.mem_of_getElem? (i := 669) (by decide +kernel), rfl⟩
theorem mw_670 : (Cond.code yX12_topmanHeeds prog_14_method_26_code 3 (Option.some FieldType.long)) ∈ wk_T := List.mem_filter.mpr ⟨List.mem_of_getElem? (i := 670) (by decide +kernel), rfl⟩
theorem mw_671 : (Cond.methodLink RX12 123 yX12_bosunHeeds) ∈ wk_T := List.mem_filter.mpr ⟨List.mem_of_getElem? (i := 671) (by decide +kernel), rfl⟩
theorem mw_673 : (Cond.instanceMethod yX12_bosunHeeds) ∈ wk_T := List.mem_filter.mpr ⟨List.mem_of_getElem? (i := 673) (by decide +kernel), rfl⟩
theorem mw_674 : (Cond.code yX12_bosunHeeds prog_14_method_27_code 6 (Option.some FieldType.long)) ∈ wk_T := List.mem_filter.mpr ⟨List.mem_of_getElem? (i := 674) (by decide +kernel), rfl⟩
theorem mw_675 : (Cond.methodLink RX12 126 yX12_masterHeeds) ∈ wk_T := List.mem_filter.mpr ⟨List.mem_of_getElem? (i := 675) (by decide +kernel), rfl⟩
theorem mw_677 : (Cond.instanceMethod yX12_masterHeeds) ∈ wk_T := List.mem_filter.mpr ⟨List.mem_of_getElem? (i := 677) (by decide +kernel), rfl⟩
theorem mw_678 : (Cond.code yX12_masterHeeds prog_14_method_28_code 3 (Option.some FieldType.long)) ∈ wk_T := List.mem_filter.mpr ⟨List.mem_of_getElem? (i := 678) (by decide +kernel), rfl⟩
theorem mw_679 : (Cond.constantLong RX12 121 (-5)) ∈ wk_T := List.mem_filter.mpr ⟨List.mem_of_getElem? (i := 679) (by decide +kernel), rfl⟩
theorem mw_680 : (Cond.methodLink RX12 129 yX12_cookHeeds) ∈ wk_T := List.mem_filter.mpr ⟨List.mem_of_getElem? (i := 680) (by decide +kernel), rfl⟩
theorem mw_682 : (Cond.instanceMethod yX12_cookHeeds) ∈ wk_T := List.mem_filter.mpr ⟨List.mem_of_getElem? (i := 682) (by decide +kernel), rfl⟩
theorem mw_683 : (Cond.code yX12_cookHeeds prog_14_method_29_code 3 (Option.some FieldType.long)) ∈ wk_T := List.mem_filter.mpr ⟨List.mem_of_getElem? (i := 683) (by decide +kernel), rfl⟩
theorem mw_684 : (Cond.methodLink RL 35 yX12_pay) ∈ wk_T := List.mem_filter.mpr ⟨List.mem_of_getElem? (i := 684) (by decide +kernel), rfl⟩
theorem mw_685 : (Cond.instanceMethod yX12_pay) ∈ wk_T := List.mem_filter.mpr ⟨List.mem_of_getElem? (i := 685) (by decide +kernel), rfl⟩
theorem mw_686 : (Cond.selects RX12 yX12_pay yX12_pay) ∈ wk_T := List.mem_filter.mpr ⟨List.mem_of_getElem? (i := 686) (by decide +kernel), rfl⟩
theorem mw_687 : (Cond.code yX12_pay prog_14_method_39_code 3 (Option.some FieldType.long)) ∈ wk_T := List.mem_filter.mpr ⟨List.mem_of_getElem? (i := 687) (by decide +kernel), rfl⟩
theorem mw_688 : (Cond.methodLink RL 39 yX12_climb) ∈ wk_T := List.mem_filter.mpr ⟨List.mem_of_getElem? (i := 688) (by decide +kernel), rfl⟩
theorem mw_689 : (Cond.instanceMethod yX12_climb) ∈ wk_T := List.mem_filter.mpr ⟨List.mem_of_getElem? (i := 689) (by decide +kernel), rfl⟩
theorem mw_690 : (Cond.selects RX12 yX12_climb yX12_climb) ∈ wk_T := List.mem_filter.mpr ⟨List.mem_of_getElem? (i := 690) (by decide +kernel), rfl⟩
theorem mw_691 : (Cond.code yX12_climb prog_14_method_40_code 3 (Option.some FieldType.int)) ∈ wk_T := List.mem_filter.mpr ⟨List.mem_of_getElem? (i := 691) (by decide +kernel), rfl⟩
theorem mw_692 : (Cond.methodLink RL 43 yX12_heed) ∈ wk_T := List.mem_filter.mpr ⟨List.mem_of_getElem? (i := 692) (by decide +kernel), rfl⟩
theorem mw_693 : (Cond.instanceMethod yX12_heed) ∈ wk_T := List.mem_filter.mpr ⟨List.mem_of_getElem? (i := 693) (by decide +kernel), rfl⟩
theorem mw_694 : (Cond.selects RX12 yX12_heed yX12_heed) ∈ wk_T := List.mem_filter.mpr ⟨List.mem_of_getElem? (i := 694) (by decide +kernel), rfl⟩
theorem mw_695 : (Cond.code yX12_heed prog_14_method_41_code 3 (Option.some FieldType.int)) ∈ wk_T := List.mem_filter.mpr ⟨List.mem_of_getElem? (i := 695) (by decide +kernel), rfl⟩
theorem mw_696 : (Cond.methodLink RL 48 yX12_race) ∈ wk_T := List.mem_filter.mpr ⟨List.mem_of_getElem? (i := 696) (by decide +kernel), rfl⟩
theorem mw_697 : (Cond.instanceMethod yX12_race) ∈ wk_T := List.mem_filter.mpr ⟨List.mem_of_getElem? (i := 697) (by decide +kernel), rfl⟩
theorem mw_698 : (Cond.selects RX12 yX12_race yX12_race) ∈ wk_T := List.mem_filter.mpr ⟨List.mem_of_getElem? (i := 698) (by decide +kernel), rfl⟩
theorem mw_699 : (Cond.code yX12_race prog_14_method_44_code 12 (Option.some FieldType.int)) ∈ wk_T := List.mem_filter.mpr ⟨List.mem_of_getElem? (i := 699) (by decide +kernel), rfl⟩
theorem mw_700 : (Cond.methodLink RX12 173 yX12_isClimber) ∈ wk_T := List.mem_filter.mpr ⟨List.mem_of_getElem? (i := 700) (by decide +kernel), rfl⟩
theorem mw_701 : (Cond.static yX12_isClimber) ∈ wk_T := List.mem_filter.mpr ⟨List.mem_of_getElem? (i := 701) (by decide +kernel), rfl⟩
theorem mw_702 : (Cond.code yX12_isClimber prog_14_method_42_code 1 (Option.some FieldType.boolean)) ∈ wk_T := List.mem_filter.mpr ⟨List.mem_of_getElem? (i := 702) (by decide +kernel), rfl⟩
theorem mw_703 : (Cond.methodLink RL 53 yX12_due) ∈ wk_T := List.mem_filter.mpr ⟨List.mem_of_getElem? (i := 703) (by decide +kernel), rfl⟩
theorem mw_704 : (Cond.instanceMethod yX12_due) ∈ wk_T := List.mem_filter.mpr ⟨List.mem_of_getElem? (i := 704) (by decide +kernel), rfl⟩
theorem mw_705 : (Cond.selects RX12 yX12_due yX12_due) ∈ wk_T := List.mem_filter.mpr ⟨List.mem_of_getElem? (i := 705) (by decide +kernel), rfl⟩
theorem mw_706 : (Cond.code yX12_due prog_14_method_45_code 6 (Option.some FieldType.long)) ∈ wk_T := List.mem_filter.mpr ⟨List.mem_of_getElem? (i := 706) (by decide +kernel), rfl⟩
theorem mw_707 : (Cond.methodLink RL 57 yX12_feed) ∈ wk_T := List.mem_filter.mpr ⟨List.mem_of_getElem? (i := 707) (by decide +kernel), rfl⟩
theorem mw_708 : (Cond.instanceMethod yX12_feed) ∈ wk_T := List.mem_filter.mpr ⟨List.mem_of_getElem? (i := 708) (by decide +kernel), rfl⟩
theorem mw_709 : (Cond.selects RX12 yX12_feed yX12_feed) ∈ wk_T := List.mem_filter.mpr ⟨List.mem_of_getElem? (i := 709) (by decide +kernel), rfl⟩
theorem mw_710 : (Cond.code yX12_feed prog_14_method_46_code 5 (Option.some FieldType.int)) ∈ wk_T := List.mem_filter.mpr ⟨List.mem_of_getElem? (i := 710) (by decide +kernel), rfl⟩
theorem mw_711 : (Cond.methodLink RX12 176 yX12_isCarer) ∈ wk_T := List.mem_filter.mpr ⟨List.mem_of_getElem? (i := 711) (by decide +kernel), rfl⟩
theorem mw_712 : (Cond.static yX12_isCarer) ∈ wk_T := List.mem_filter.mpr ⟨List.mem_of_getElem? (i := 712) (by decide +kernel), rfl⟩
theorem mw_713 : (Cond.code yX12_isCarer prog_14_method_43_code 1 (Option.some FieldType.boolean)) ∈ wk_T := List.mem_filter.mpr ⟨List.mem_of_getElem? (i := 713) (by decide +kernel), rfl⟩
theorem mw_714 : (Cond.constantLong RX12 179 100) ∈ wk_T := List.mem_filter.mpr ⟨List.mem_of_getElem? (i := 714) (by decide +kernel), rfl⟩
theorem mw_715 : (Cond.methodLink RL 61 yX12_watch) ∈ wk_T := List.mem_filter.mpr ⟨List.mem_of_getElem? (i := 715) (by decide +kernel), rfl⟩
theorem mw_716 : (Cond.instanceMethod yX12_watch) ∈ wk_T := List.mem_filter.mpr ⟨List.mem_of_getElem? (i := 716) (by decide +kernel), rfl⟩
theorem mw_717 : (Cond.selects RX12 yX12_watch yX12_watch) ∈ wk_T := List.mem_filter.mpr ⟨List.mem_of_getElem? (i := 717) (by decide +kernel), rfl⟩
theorem mw_718 : (Cond.code yX12_watch prog_14_method_47_code 6 (Option.some FieldType.long)) ∈ wk_T := List.mem_filter.mpr ⟨List.mem_of_getElem? (i := 718) (by decide +kernel), rfl⟩
theorem mw_719 : (Cond.methodLink RL 66 yX12_line) ∈ wk_T := List.mem_filter.mpr ⟨List.mem_of_getElem? (i := 719) (by decide +kernel), rfl⟩
theorem mw_720 : (Cond.instanceMethod yX12_line) ∈ wk_T := List.mem_filter.mpr ⟨List.mem_of_getElem? (i := 720) (by decide +kernel), rfl⟩
theorem mw_721 : (Cond.selects RX12 yX12_line yX12_line) ∈ wk_T := List.mem_filter.mpr ⟨List.mem_of_getElem? (i := 721) (by decide +kernel), rfl⟩
theorem mw_722 : (Cond.code yX12_line prog_14_method_48_code 6 (Option.some FieldType.int)) ∈ wk_T := List.mem_filter.mpr ⟨List.mem_of_getElem? (i := 722) (by decide +kernel), rfl⟩
theorem mw_723 : (Cond.methodLink RL 71 yX12_sail) ∈ wk_T := List.mem_filter.mpr ⟨List.mem_of_getElem? (i := 723) (by decide +kernel), rfl⟩
theorem mw_724 : (Cond.instanceMethod yX12_sail) ∈ wk_T := List.mem_filter.mpr ⟨List.mem_of_getElem? (i := 724) (by decide +kernel), rfl⟩
theorem mw_725 : (Cond.selects RX12 yX12_sail yX12_sail) ∈ wk_T := List.mem_filter.mpr ⟨List.mem_of_getElem? (i := 725) (by decide +kernel), rfl⟩
theorem mw_726 : (Cond.code yX12_sail prog_14_method_49_code 7 (Option.some FieldType.long)) ∈ wk_T := List.mem_filter.mpr ⟨List.mem_of_getElem? (i := 726) (by decide +kernel), rfl⟩
theorem mw_727 : (Cond.methodLink RL 75 yX12_rest) ∈ wk_T := List.mem_filter.mpr ⟨List.mem_of_getElem? (i := 727) (by decide +kernel), rfl⟩
theorem mw_728 : (Cond.instanceMethod yX12_rest) ∈ wk_T := List.mem_filter.mpr ⟨List.mem_of_getElem? (i := 728) (by decide +kernel), rfl⟩
theorem mw_729 : (Cond.selects RX12 yX12_rest yX12_rest) ∈ wk_T := List.mem_filter.mpr ⟨List.mem_of_getElem? (i := 729) (by decide +kernel), rfl⟩
theorem mw_730 : (Cond.code yX12_rest prog_14_method_50_code 3 (Option.some FieldType.int)) ∈ wk_T := List.mem_filter.mpr ⟨List.mem_of_getElem? (i := 730) (by decide +kernel), rfl⟩
theorem mw_731 : (Cond.methodLink RL 79 yX12_told) ∈ wk_T := List.mem_filter.mpr ⟨List.mem_of_getElem? (i := 731) (by decide +kernel), rfl⟩
theorem mw_732 : (Cond.instanceMethod yX12_told) ∈ wk_T := List.mem_filter.mpr ⟨List.mem_of_getElem? (i := 732) (by decide +kernel), rfl⟩
theorem mw_733 : (Cond.selects RX12 yX12_told yX12_told) ∈ wk_T := List.mem_filter.mpr ⟨List.mem_of_getElem? (i := 733) (by decide +kernel), rfl⟩
theorem mw_734 : (Cond.code yX12_told prog_14_method_51_code 3 (Option.some FieldType.long)) ∈ wk_T := List.mem_filter.mpr ⟨List.mem_of_getElem? (i := 734) (by decide +kernel), rfl⟩
theorem mw_735 : (Cond.methodLink RL 83 yX12_note) ∈ wk_T := List.mem_filter.mpr ⟨List.mem_of_getElem? (i := 735) (by decide +kernel), rfl⟩
theorem mw_736 : (Cond.instanceMethod yX12_note) ∈ wk_T := List.mem_filter.mpr ⟨List.mem_of_getElem? (i := 736) (by decide +kernel), rfl⟩
theorem mw_737 : (Cond.selects RX12 yX12_note yX12_note) ∈ wk_T := List.mem_filter.mpr ⟨List.mem_of_getElem? (i := 737) (by decide +kernel), rfl⟩
theorem mw_738 : (Cond.code yX12_note prog_14_method_52_code 2 (Option.some FieldType.int)) ∈ wk_T := List.mem_filter.mpr ⟨List.mem_of_getElem? (i := 738) (by decide +kernel), rfl⟩
theorem mw_739 : (Cond.methodLink RL 88 yX12_notes) ∈ wk_T := List.mem_filter.mpr ⟨List.mem_of_getElem? (i := 739) (by decide +kernel), rfl⟩
theorem mw_740 : (Cond.instanceMethod yX12_notes) ∈ wk_T := List.mem_filter.mpr ⟨List.mem_of_getElem? (i := 740) (by decide +kernel), rfl⟩
theorem mw_741 : (Cond.selects RX12 yX12_notes yX12_notes) ∈ wk_T := List.mem_filter.mpr ⟨List.mem_of_getElem? (i := 741) (by decide +kernel), rfl⟩
theorem mw_742 : (Cond.code yX12_notes prog_14_method_53_code 1 (Option.some FieldType.int)) ∈ wk_T := List.mem_filter.mpr ⟨List.mem_of_getElem? (i := 742) (by decide +kernel), rfl⟩
theorem mw_743 : (Cond.sameMethod RX5 RX5 "toilWay" "(LWatchBill$Crew;LWatchBill$Member;I)J") ∈ wk_T := List.mem_filter.mpr ⟨List.mem_of_getElem? (i := 743) (by decide +kernel), rfl⟩
theorem mw_744 : (Cond.sameMethod RX10 RX10 "heedWay" "(LWatchBill$Crew;LWatchBill$Member;I)I") ∈ wk_T := List.mem_filter.mpr ⟨List.mem_of_getElem? (i := 744) (by decide +kernel), rfl⟩
theorem mx_745 : (Cond.castable RX0 RX8) ∈ wk_X := List.mem_filter.mpr ⟨List.mem_of_getElem? (i := 745) (by decide +kernel), rfl⟩
theorem mx_746 : (Cond.castable RX1 RX8) ∈ wk_X := List.mem_filter.mpr ⟨List.mem_of_getElem? (i := 746) (by decide +kernel), rfl⟩
theorem mx_747 : (Cond.castable RX3 RX8) ∈ wk_X := List.mem_filter.mpr ⟨List.mem_of_getElem? (i := 747) (by decide +kernel), rfl⟩
theorem mx_748 : (Cond.castable RX4 RX8) ∈ wk_X := List.mem_filter.mpr ⟨List.mem_of_getElem? (i := 748) (by decide +kernel), rfl⟩
theorem mx_749 : (Cond.castable RX5 RX8) ∈ wk_X := List.mem_filter.mpr ⟨List.mem_of_getElem? (i := 749) (by decide +kernel), rfl⟩
theorem mx_750 : (Cond.castable RX7 RX8) ∈ wk_X := List.mem_filter.mpr ⟨List.mem_of_getElem? (i := 750) (by decide +kernel), rfl⟩
theorem mx_751 : (Cond.castable RX9 RX8) ∈ wk_X := List.mem_filter.mpr ⟨List.mem_of_getElem? (i := 751) (by decide +kernel), rfl⟩
theorem mx_752 : (Cond.castable RX10 RX8) ∈ wk_X := List.mem_filter.mpr ⟨List.mem_of_getElem? (i := 752) (by decide +kernel), rfl⟩
theorem lay_X2 : ∀ w ∈ u_ws RX2 TX2 5, w ∈ wk_T := by decide +kernel
theorem lay_X6 : ∀ w ∈ u_ws RX6 TX6 7, w ∈ wk_T := by decide +kernel
theorem lay_X11 : ∀ w ∈ u_ws RX11 TX11 6, w ∈ wk_T := by decide +kernel
theorem lay_X12 : ∀ w ∈ u_ws RX12 TX12 11, w ∈ wk_T := by decide +kernel
end
section
theorem hdX11_init : yX11_init.cls = RX11 ∧ yX11_init.cls ≠ "java/lang/invoke/MethodHandle" ∧ yX11_init.cls ≠ "java/lang/invoke/VarHandle" ∧ (parseMethodDescriptor yX11_init.desc).map (fun d => d.parameters.length) = some 0 := by decide +kernel
theorem hdX2_init : yX2_init.cls = RX2 ∧ yX2_init.cls ≠ "java/lang/invoke/MethodHandle" ∧ yX2_init.cls ≠ "java/lang/invoke/VarHandle" ∧ (parseMethodDescriptor yX2_init.desc).map (fun d => d.parameters.length) = some 0 := by decide +kernel
theorem hdX3_init : yX3_init.cls = RX3 ∧ yX3_init.cls ≠ "java/lang/invoke/MethodHandle" ∧ yX3_init.cls ≠ "java/lang/invoke/VarHandle" ∧ (parseMethodDescriptor yX3_init.desc).map (fun d => d.parameters.length) = some 0 := by decide +kernel
theorem hdX8_init : yX8_init.cls = RX8 ∧ yX8_init.cls ≠ "java/lang/invoke/MethodHandle" ∧ yX8_init.cls ≠ "java/lang/invoke/VarHandle" ∧ (parseMethodDescriptor yX8_init.desc).map (fun d => d.parameters.length) = some 0 := by decide +kernel
theorem hdX7_init : yX7_init.cls = RX7 ∧ yX7_init.cls ≠ "java/lang/invoke/MethodHandle" ∧ yX7_init.cls ≠ "java/lang/invoke/VarHandle" ∧ (parseMethodDescriptor yX7_init.desc).map (fun d => d.parameters.length) = some 0 := by decide +kernel
theorem hdX10_init : yX10_init.cls = RX10 ∧ yX10_init.cls ≠ "java/lang/invoke/MethodHandle" ∧ yX10_init.cls ≠ "java/lang/invoke/VarHandle" ∧ (parseMethodDescriptor yX10_init.desc).map (fun d => d.parameters.length) = some 0 := by decide +kernel
theorem hdX0_init : yX0_init.cls = RX0 ∧ yX0_init.cls ≠ "java/lang/invoke/MethodHandle" ∧ yX0_init.cls ≠ "java/lang/invoke/VarHandle" ∧ (parseMethodDescriptor yX0_init.desc).map (fun d => d.parameters.length) = some 0 := by decide +kernel
theorem hdX5_init : yX5_init.cls = RX5 ∧ yX5_init.cls ≠ "java/lang/invoke/MethodHandle" ∧ yX5_init.cls ≠ "java/lang/invoke/VarHandle" ∧ (parseMethodDescriptor yX5_init.desc).map (fun d => d.parameters.length) = some 0 := by decide +kernel
theorem hdX4_init : yX4_init.cls = RX4 ∧ yX4_init.cls ≠ "java/lang/invoke/MethodHandle" ∧ yX4_init.cls ≠ "java/lang/invoke/VarHandle" ∧ (parseMethodDescriptor yX4_init.desc).map (fun d => d.parameters.length) = some 0 := by decide +kernel
theorem hdX1_init : yX1_init.cls = RX1 ∧ yX1_init.cls ≠ "java/lang/invoke/MethodHandle" ∧ yX1_init.cls ≠ "java/lang/invoke/VarHandle" ∧ (parseMethodDescriptor yX1_init.desc).map (fun d => d.parameters.length) = some 0 := by decide +kernel
theorem hdX9_init : yX9_init.cls = RX9 ∧ yX9_init.cls ≠ "java/lang/invoke/MethodHandle" ∧ yX9_init.cls ≠ "java/lang/invoke/VarHandle" ∧ (parseMethodDescriptor yX9_init.desc).map (fun d => d.parameters.length) = some 0 := by decide +kernel
theorem hdX11_enlist : yX11_enlist.cls = RX11 ∧ yX11_enlist.cls ≠ "java/lang/invoke/MethodHandle" ∧ yX11_enlist.cls ≠ "java/lang/invoke/VarHandle" ∧ (parseMethodDescriptor yX11_enlist.desc).map (fun d => d.parameters.length) = some 2 := by decide +kernel
theorem hdX11_isRank : yX11_isRank.cls = RX11 ∧ yX11_isRank.cls ≠ "java/lang/invoke/MethodHandle" ∧ yX11_isRank.cls ≠ "java/lang/invoke/VarHandle" ∧ (parseMethodDescriptor yX11_isRank.desc).map (fun d => d.parameters.length) = some 1 := by decide +kernel
theorem hdX2_add : yX2_add.cls = RX2 ∧ yX2_add.cls ≠ "java/lang/invoke/MethodHandle" ∧ yX2_add.cls ≠ "java/lang/invoke/VarHandle" ∧ (parseMethodDescriptor yX2_add.desc).map (fun d => d.parameters.length) = some 3 := by decide +kernel
theorem hdX6_init : yX6_init.cls = RX6 ∧ yX6_init.cls ≠ "java/lang/invoke/MethodHandle" ∧ yX6_init.cls ≠ "java/lang/invoke/VarHandle" ∧ (parseMethodDescriptor yX6_init.desc).map (fun d => d.parameters.length) = some 4 := by decide +kernel
theorem hdX11_promote : yX11_promote.cls = RX11 ∧ yX11_promote.cls ≠ "java/lang/invoke/MethodHandle" ∧ yX11_promote.cls ≠ "java/lang/invoke/VarHandle" ∧ (parseMethodDescriptor yX11_promote.desc).map (fun d => d.parameters.length) = some 1 := by decide +kernel
theorem hdX2_member : yX2_member.cls = RX2 ∧ yX2_member.cls ≠ "java/lang/invoke/MethodHandle" ∧ yX2_member.cls ≠ "java/lang/invoke/VarHandle" ∧ (parseMethodDescriptor yX2_member.desc).map (fun d => d.parameters.length) = some 1 := by decide +kernel
theorem hdX11_giveRank : yX11_giveRank.cls = RX11 ∧ yX11_giveRank.cls ≠ "java/lang/invoke/MethodHandle" ∧ yX11_giveRank.cls ≠ "java/lang/invoke/VarHandle" ∧ (parseMethodDescriptor yX11_giveRank.desc).map (fun d => d.parameters.length) = some 2 := by decide +kernel
theorem hdX11_demote : yX11_demote.cls = RX11 ∧ yX11_demote.cls ≠ "java/lang/invoke/MethodHandle" ∧ yX11_demote.cls ≠ "java/lang/invoke/VarHandle" ∧ (parseMethodDescriptor yX11_demote.desc).map (fun d => d.parameters.length) = some 1 := by decide +kernel
theorem hdX11_toil : yX11_toil.cls = RX11 ∧ yX11_toil.cls ≠ "java/lang/invoke/MethodHandle" ∧ yX11_toil.cls ≠ "java/lang/invoke/VarHandle" ∧ (parseMethodDescriptor yX11_toil.desc).map (fun d => d.parameters.length) = some 2 := by decide +kernel
theorem hdX11_isBeyondBound : yX11_isBeyondBound.cls = RX11 ∧ yX11_isBeyondBound.cls ≠ "java/lang/invoke/MethodHandle" ∧ yX11_isBeyondBound.cls ≠ "java/lang/invoke/VarHandle" ∧ (parseMethodDescriptor yX11_isBeyondBound.desc).map (fun d => d.parameters.length) = some 2 := by decide +kernel
theorem hdX11_boundOf : yX11_boundOf.cls = RX11 ∧ yX11_boundOf.cls ≠ "java/lang/invoke/MethodHandle" ∧ yX11_boundOf.cls ≠ "java/lang/invoke/VarHandle" ∧ (parseMethodDescriptor yX11_boundOf.desc).map (fun d => d.parameters.length) = some 1 := by decide +kernel
theorem hdX2_forgetNotes : yX2_forgetNotes.cls = RX2 ∧ yX2_forgetNotes.cls ≠ "java/lang/invoke/MethodHandle" ∧ yX2_forgetNotes.cls ≠ "java/lang/invoke/VarHandle" ∧ (parseMethodDescriptor yX2_forgetNotes.desc).map (fun d => d.parameters.length) = some 0 := by decide +kernel
theorem hdX10_toilWay : yX10_toilWay.cls = RX10 ∧ yX10_toilWay.cls ≠ "java/lang/invoke/MethodHandle" ∧ yX10_toilWay.cls ≠ "java/lang/invoke/VarHandle" ∧ (parseMethodDescriptor yX10_toilWay.desc).map (fun d => d.parameters.length) = some 3 := by decide +kernel
theorem hdX2_noteWay : yX2_noteWay.cls = RX2 ∧ yX2_noteWay.cls ≠ "java/lang/invoke/MethodHandle" ∧ yX2_noteWay.cls ≠ "java/lang/invoke/VarHandle" ∧ (parseMethodDescriptor yX2_noteWay.desc).map (fun d => d.parameters.length) = some 2 := by decide +kernel
theorem hdX1_toilWay : yX1_toilWay.cls = RX1 ∧ yX1_toilWay.cls ≠ "java/lang/invoke/MethodHandle" ∧ yX1_toilWay.cls ≠ "java/lang/invoke/VarHandle" ∧ (parseMethodDescriptor yX1_toilWay.desc).map (fun d => d.parameters.length) = some 3 := by decide +kernel
theorem hdX6_tire : yX6_tire.cls = RX6 ∧ yX6_tire.cls ≠ "java/lang/invoke/MethodHandle" ∧ yX6_tire.cls ≠ "java/lang/invoke/VarHandle" ∧ (parseMethodDescriptor yX6_tire.desc).map (fun d => d.parameters.length) = some 1 := by decide +kernel
theorem hdX4_toilWay : yX4_toilWay.cls = RX4 ∧ yX4_toilWay.cls ≠ "java/lang/invoke/MethodHandle" ∧ yX4_toilWay.cls ≠ "java/lang/invoke/VarHandle" ∧ (parseMethodDescriptor yX4_toilWay.desc).map (fun d => d.parameters.length) = some 3 := by decide +kernel
theorem hdX5_toilWay : yX5_toilWay.cls = RX5 ∧ yX5_toilWay.cls ≠ "java/lang/invoke/MethodHandle" ∧ yX5_toilWay.cls ≠ "java/lang/invoke/VarHandle" ∧ (parseMethodDescriptor yX5_toilWay.desc).map (fun d => d.parameters.length) = some 3 := by decide +kernel
theorem hdX8_toilWay : yX8_toilWay.cls = RX8 ∧ yX8_toilWay.cls ≠ "java/lang/invoke/MethodHandle" ∧ yX8_toilWay.cls ≠ "java/lang/invoke/VarHandle" ∧ (parseMethodDescriptor yX8_toilWay.desc).map (fun d => d.parameters.length) = some 3 := by decide +kernel
theorem hdX11_pay : yX11_pay.cls = RX11 ∧ yX11_pay.cls ≠ "java/lang/invoke/MethodHandle" ∧ yX11_pay.cls ≠ "java/lang/invoke/VarHandle" ∧ (parseMethodDescriptor yX11_pay.desc).map (fun d => d.parameters.length) = some 2 := by decide +kernel
theorem hdX0_payWay : yX0_payWay.cls = RX0 ∧ yX0_payWay.cls ≠ "java/lang/invoke/MethodHandle" ∧ yX0_payWay.cls ≠ "java/lang/invoke/VarHandle" ∧ (parseMethodDescriptor yX0_payWay.desc).map (fun d => d.parameters.length) = some 3 := by decide +kernel
theorem hdX3_payWay : yX3_payWay.cls = RX3 ∧ yX3_payWay.cls ≠ "java/lang/invoke/MethodHandle" ∧ yX3_payWay.cls ≠ "java/lang/invoke/VarHandle" ∧ (parseMethodDescriptor yX3_payWay.desc).map (fun d => d.parameters.length) = some 3 := by decide +kernel
theorem hdX6_isBelowBosun : yX6_isBelowBosun.cls = RX6 ∧ yX6_isBelowBosun.cls ≠ "java/lang/invoke/MethodHandle" ∧ yX6_isBelowBosun.cls ≠ "java/lang/invoke/VarHandle" ∧ (parseMethodDescriptor yX6_isBelowBosun.desc).map (fun d => d.parameters.length) = some 0 := by decide +kernel
theorem hdX4_payWay : yX4_payWay.cls = RX4 ∧ yX4_payWay.cls ≠ "java/lang/invoke/MethodHandle" ∧ yX4_payWay.cls ≠ "java/lang/invoke/VarHandle" ∧ (parseMethodDescriptor yX4_payWay.desc).map (fun d => d.parameters.length) = some 3 := by decide +kernel
theorem hdX9_payWay : yX9_payWay.cls = RX9 ∧ yX9_payWay.cls ≠ "java/lang/invoke/MethodHandle" ∧ yX9_payWay.cls ≠ "java/lang/invoke/VarHandle" ∧ (parseMethodDescriptor yX9_payWay.desc).map (fun d => d.parameters.length) = some 3 := by decide +kernel
theorem hdX11_climb : yX11_climb.cls = RX11 ∧ yX11_climb.cls ≠ "java/lang/invoke/MethodHandle" ∧ yX11_climb.cls ≠ "java/lang/invoke/VarHandle" ∧ (parseMethodDescriptor yX11_climb.desc).map (fun d => d.parameters.length) = some 2 := by decide +kernel
theorem hdX7_climbWay : yX7_climbWay.cls = RX7 ∧ yX7_climbWay.cls ≠ "java/lang/invoke/MethodHandle" ∧ yX7_climbWay.cls ≠ "java/lang/invoke/VarHandle" ∧ (parseMethodDescriptor yX7_climbWay.desc).map (fun d => d.parameters.length) = some 3 := by decide +kernel
theorem hdX5_climbWay : yX5_climbWay.cls = RX5 ∧ yX5_climbWay.cls ≠ "java/lang/invoke/MethodHandle" ∧ yX5_climbWay.cls ≠ "java/lang/invoke/VarHandle" ∧ (parseMethodDescriptor yX5_climbWay.desc).map (fun d => d.parameters.length) = some 3 := by decide +kernel
theorem hdX9_climbWay : yX9_climbWay.cls = RX9 ∧ yX9_climbWay.cls ≠ "java/lang/invoke/MethodHandle" ∧ yX9_climbWay.cls ≠ "java/lang/invoke/VarHandle" ∧ (parseMethodDescriptor yX9_climbWay.desc).map (fun d => d.parameters.length) = some 3 := by decide +kernel
theorem hdX8_climbWay : yX8_climbWay.cls = RX8 ∧ yX8_climbWay.cls ≠ "java/lang/invoke/MethodHandle" ∧ yX8_climbWay.cls ≠ "java/lang/invoke/VarHandle" ∧ (parseMethodDescriptor yX8_climbWay.desc).map (fun d => d.parameters.length) = some 3 := by decide +kernel
theorem hdX11_heed : yX11_heed.cls = RX11 ∧ yX11_heed.cls ≠ "java/lang/invoke/MethodHandle" ∧ yX11_heed.cls ≠ "java/lang/invoke/VarHandle" ∧ (parseMethodDescriptor yX11_heed.desc).map (fun d => d.parameters.length) = some 2 := by decide +kernel
theorem hdX0_heedWay : yX0_heedWay.cls = RX0 ∧ yX0_heedWay.cls ≠ "java/lang/invoke/MethodHandle" ∧ yX0_heedWay.cls ≠ "java/lang/invoke/VarHandle" ∧ (parseMethodDescriptor yX0_heedWay.desc).map (fun d => d.parameters.length) = some 3 := by decide +kernel
theorem hdX10_heedWay : yX10_heedWay.cls = RX10 ∧ yX10_heedWay.cls ≠ "java/lang/invoke/MethodHandle" ∧ yX10_heedWay.cls ≠ "java/lang/invoke/VarHandle" ∧ (parseMethodDescriptor yX10_heedWay.desc).map (fun d => d.parameters.length) = some 3 := by decide +kernel
theorem hdX1_heedWay : yX1_heedWay.cls = RX1 ∧ yX1_heedWay.cls ≠ "java/lang/invoke/MethodHandle" ∧ yX1_heedWay.cls ≠ "java/lang/invoke/VarHandle" ∧ (parseMethodDescriptor yX1_heedWay.desc).map (fun d => d.parameters.length) = some 3 := by decide +kernel
theorem hdX4_heedWay : yX4_heedWay.cls = RX4 ∧ yX4_heedWay.cls ≠ "java/lang/invoke/MethodHandle" ∧ yX4_heedWay.cls ≠ "java/lang/invoke/VarHandle" ∧ (parseMethodDescriptor yX4_heedWay.desc).map (fun d => d.parameters.length) = some 3 := by decide +kernel
theorem hdX8_heedWay : yX8_heedWay.cls = RX8 ∧ yX8_heedWay.cls ≠ "java/lang/invoke/MethodHandle" ∧ yX8_heedWay.cls ≠ "java/lang/invoke/VarHandle" ∧ (parseMethodDescriptor yX8_heedWay.desc).map (fun d => d.parameters.length) = some 3 := by decide +kernel
theorem hdX11_race : yX11_race.cls = RX11 ∧ yX11_race.cls ≠ "java/lang/invoke/MethodHandle" ∧ yX11_race.cls ≠ "java/lang/invoke/VarHandle" ∧ (parseMethodDescriptor yX11_race.desc).map (fun d => d.parameters.length) = some 3 := by decide +kernel
theorem hdX6_isClimber : yX6_isClimber.cls = RX6 ∧ yX6_isClimber.cls ≠ "java/lang/invoke/MethodHandle" ∧ yX6_isClimber.cls ≠ "java/lang/invoke/VarHandle" ∧ (parseMethodDescriptor yX6_isClimber.desc).map (fun d => d.parameters.length) = some 0 := by decide +kernel
theorem hdX11_isTimes : yX11_isTimes.cls = RX11 ∧ yX11_isTimes.cls ≠ "java/lang/invoke/MethodHandle" ∧ yX11_isTimes.cls ≠ "java/lang/invoke/VarHandle" ∧ (parseMethodDescriptor yX11_isTimes.desc).map (fun d => d.parameters.length) = some 1 := by decide +kernel
theorem hdX4_raceWay : yX4_raceWay.cls = RX4 ∧ yX4_raceWay.cls ≠ "java/lang/invoke/MethodHandle" ∧ yX4_raceWay.cls ≠ "java/lang/invoke/VarHandle" ∧ (parseMethodDescriptor yX4_raceWay.desc).map (fun d => d.parameters.length) = some 4 := by decide +kernel
theorem hdX8_raceWay : yX8_raceWay.cls = RX8 ∧ yX8_raceWay.cls ≠ "java/lang/invoke/MethodHandle" ∧ yX8_raceWay.cls ≠ "java/lang/invoke/VarHandle" ∧ (parseMethodDescriptor yX8_raceWay.desc).map (fun d => d.parameters.length) = some 4 := by decide +kernel
theorem hdX11_due : yX11_due.cls = RX11 ∧ yX11_due.cls ≠ "java/lang/invoke/MethodHandle" ∧ yX11_due.cls ≠ "java/lang/invoke/VarHandle" ∧ (parseMethodDescriptor yX11_due.desc).map (fun d => d.parameters.length) = some 3 := by decide +kernel
theorem hdX6_isPayee : yX6_isPayee.cls = RX6 ∧ yX6_isPayee.cls ≠ "java/lang/invoke/MethodHandle" ∧ yX6_isPayee.cls ≠ "java/lang/invoke/VarHandle" ∧ (parseMethodDescriptor yX6_isPayee.desc).map (fun d => d.parameters.length) = some 0 := by decide +kernel
theorem hdX11_feed : yX11_feed.cls = RX11 ∧ yX11_feed.cls ≠ "java/lang/invoke/MethodHandle" ∧ yX11_feed.cls ≠ "java/lang/invoke/VarHandle" ∧ (parseMethodDescriptor yX11_feed.desc).map (fun d => d.parameters.length) = some 2 := by decide +kernel
theorem hdX6_isCarer : yX6_isCarer.cls = RX6 ∧ yX6_isCarer.cls ≠ "java/lang/invoke/MethodHandle" ∧ yX6_isCarer.cls ≠ "java/lang/invoke/VarHandle" ∧ (parseMethodDescriptor yX6_isCarer.desc).map (fun d => d.parameters.length) = some 0 := by decide +kernel
theorem hdX11_watch : yX11_watch.cls = RX11 ∧ yX11_watch.cls ≠ "java/lang/invoke/MethodHandle" ∧ yX11_watch.cls ≠ "java/lang/invoke/VarHandle" ∧ (parseMethodDescriptor yX11_watch.desc).map (fun d => d.parameters.length) = some 2 := by decide +kernel
theorem hdX11_isDuty : yX11_isDuty.cls = RX11 ∧ yX11_isDuty.cls ≠ "java/lang/invoke/MethodHandle" ∧ yX11_isDuty.cls ≠ "java/lang/invoke/VarHandle" ∧ (parseMethodDescriptor yX11_isDuty.desc).map (fun d => d.parameters.length) = some 1 := by decide +kernel
theorem hdX11_doDuty : yX11_doDuty.cls = RX11 ∧ yX11_doDuty.cls ≠ "java/lang/invoke/MethodHandle" ∧ yX11_doDuty.cls ≠ "java/lang/invoke/VarHandle" ∧ (parseMethodDescriptor yX11_doDuty.desc).map (fun d => d.parameters.length) = some 3 := by decide +kernel
theorem hdX11_line : yX11_line.cls = RX11 ∧ yX11_line.cls ≠ "java/lang/invoke/MethodHandle" ∧ yX11_line.cls ≠ "java/lang/invoke/VarHandle" ∧ (parseMethodDescriptor yX11_line.desc).map (fun d => d.parameters.length) = some 5 := by decide +kernel
theorem hdX11_sail : yX11_sail.cls = RX11 ∧ yX11_sail.cls ≠ "java/lang/invoke/MethodHandle" ∧ yX11_sail.cls ≠ "java/lang/invoke/VarHandle" ∧ (parseMethodDescriptor yX11_sail.desc).map (fun d => d.parameters.length) = some 1 := by decide +kernel
theorem hdX11_sailLine : yX11_sailLine.cls = RX11 ∧ yX11_sailLine.cls ≠ "java/lang/invoke/MethodHandle" ∧ yX11_sailLine.cls ≠ "java/lang/invoke/VarHandle" ∧ (parseMethodDescriptor yX11_sailLine.desc).map (fun d => d.parameters.length) = some 4 := by decide +kernel
theorem hdX11_rest : yX11_rest.cls = RX11 ∧ yX11_rest.cls ≠ "java/lang/invoke/MethodHandle" ∧ yX11_rest.cls ≠ "java/lang/invoke/VarHandle" ∧ (parseMethodDescriptor yX11_rest.desc).map (fun d => d.parameters.length) = some 1 := by decide +kernel
theorem hdX11_told : yX11_told.cls = RX11 ∧ yX11_told.cls ≠ "java/lang/invoke/MethodHandle" ∧ yX11_told.cls ≠ "java/lang/invoke/VarHandle" ∧ (parseMethodDescriptor yX11_told.desc).map (fun d => d.parameters.length) = some 2 := by decide +kernel
theorem hdX11_note : yX11_note.cls = RX11 ∧ yX11_note.cls ≠ "java/lang/invoke/MethodHandle" ∧ yX11_note.cls ≠ "java/lang/invoke/VarHandle" ∧ (parseMethodDescriptor yX11_note.desc).map (fun d => d.parameters.length) = some 1 := by decide +kernel
theorem hdX11_notes : yX11_notes.cls = RX11 ∧ yX11_notes.cls ≠ "java/lang/invoke/MethodHandle" ∧ yX11_notes.cls ≠ "java/lang/invoke/VarHandle" ∧ (parseMethodDescriptor yX11_notes.desc).map (fun d => d.parameters.length) = some 0 := by decide +kernel
theorem hdX12_init : yX12_init.cls = RX12 ∧ yX12_init.cls ≠ "java/lang/invoke/MethodHandle" ∧ yX12_init.cls ≠ "java/lang/invoke/VarHandle" ∧ (parseMethodDescriptor yX12_init.desc).map (fun d => d.parameters.length) = some 0 := by decide +kernel
theorem hdX12_enlist : yX12_enlist.cls = RX12 ∧ yX12_enlist.cls ≠ "java/lang/invoke/MethodHandle" ∧ yX12_enlist.cls ≠ "java/lang/invoke/VarHandle" ∧ (parseMethodDescriptor yX12_enlist.desc).map (fun d => d.parameters.length) = some 2 := by decide +kernel
theorem hdX12_promote : yX12_promote.cls = RX12 ∧ yX12_promote.cls ≠ "java/lang/invoke/MethodHandle" ∧ yX12_promote.cls ≠ "java/lang/invoke/VarHandle" ∧ (parseMethodDescriptor yX12_promote.desc).map (fun d => d.parameters.length) = some 1 := by decide +kernel
theorem hdX12_isMember : yX12_isMember.cls = RX12 ∧ yX12_isMember.cls ≠ "java/lang/invoke/MethodHandle" ∧ yX12_isMember.cls ≠ "java/lang/invoke/VarHandle" ∧ (parseMethodDescriptor yX12_isMember.desc).map (fun d => d.parameters.length) = some 1 := by decide +kernel
theorem hdX12_demote : yX12_demote.cls = RX12 ∧ yX12_demote.cls ≠ "java/lang/invoke/MethodHandle" ∧ yX12_demote.cls ≠ "java/lang/invoke/VarHandle" ∧ (parseMethodDescriptor yX12_demote.desc).map (fun d => d.parameters.length) = some 1 := by decide +kernel
theorem hdX12_elderOf : yX12_elderOf.cls = RX12 ∧ yX12_elderOf.cls ≠ "java/lang/invoke/MethodHandle" ∧ yX12_elderOf.cls ≠ "java/lang/invoke/VarHandle" ∧ (parseMethodDescriptor yX12_elderOf.desc).map (fun d => d.parameters.length) = some 1 := by decide +kernel
theorem hdX12_toil : yX12_toil.cls = RX12 ∧ yX12_toil.cls ≠ "java/lang/invoke/MethodHandle" ∧ yX12_toil.cls ≠ "java/lang/invoke/VarHandle" ∧ (parseMethodDescriptor yX12_toil.desc).map (fun d => d.parameters.length) = some 2 := by decide +kernel
theorem hdX12_begin : yX12_begin.cls = RX12 ∧ yX12_begin.cls ≠ "java/lang/invoke/MethodHandle" ∧ yX12_begin.cls ≠ "java/lang/invoke/VarHandle" ∧ (parseMethodDescriptor yX12_begin.desc).map (fun d => d.parameters.length) = some 3 := by decide +kernel
theorem hdX12_may : yX12_may.cls = RX12 ∧ yX12_may.cls ≠ "java/lang/invoke/MethodHandle" ∧ yX12_may.cls ≠ "java/lang/invoke/VarHandle" ∧ (parseMethodDescriptor yX12_may.desc).map (fun d => d.parameters.length) = some 3 := by decide +kernel
theorem hdX12_isWithin : yX12_isWithin.cls = RX12 ∧ yX12_isWithin.cls ≠ "java/lang/invoke/MethodHandle" ∧ yX12_isWithin.cls ≠ "java/lang/invoke/VarHandle" ∧ (parseMethodDescriptor yX12_isWithin.desc).map (fun d => d.parameters.length) = some 2 := by decide +kernel
theorem hdX12_boundOf : yX12_boundOf.cls = RX12 ∧ yX12_boundOf.cls ≠ "java/lang/invoke/MethodHandle" ∧ yX12_boundOf.cls ≠ "java/lang/invoke/VarHandle" ∧ (parseMethodDescriptor yX12_boundOf.desc).map (fun d => d.parameters.length) = some 1 := by decide +kernel
theorem hdX12_work : yX12_work.cls = RX12 ∧ yX12_work.cls ≠ "java/lang/invoke/MethodHandle" ∧ yX12_work.cls ≠ "java/lang/invoke/VarHandle" ∧ (parseMethodDescriptor yX12_work.desc).map (fun d => d.parameters.length) = some 4 := by decide +kernel
theorem hdX12_does : yX12_does.cls = RX12 ∧ yX12_does.cls ≠ "java/lang/invoke/MethodHandle" ∧ yX12_does.cls ≠ "java/lang/invoke/VarHandle" ∧ (parseMethodDescriptor yX12_does.desc).map (fun d => d.parameters.length) = some 3 := by decide +kernel
theorem hdX12_toils : yX12_toils.cls = RX12 ∧ yX12_toils.cls ≠ "java/lang/invoke/MethodHandle" ∧ yX12_toils.cls ≠ "java/lang/invoke/VarHandle" ∧ (parseMethodDescriptor yX12_toils.desc).map (fun d => d.parameters.length) = some 2 := by decide +kernel
theorem hdX12_soulToils : yX12_soulToils.cls = RX12 ∧ yX12_soulToils.cls ≠ "java/lang/invoke/MethodHandle" ∧ yX12_soulToils.cls ≠ "java/lang/invoke/VarHandle" ∧ (parseMethodDescriptor yX12_soulToils.desc).map (fun d => d.parameters.length) = some 2 := by decide +kernel
theorem hdX12_mark : yX12_mark.cls = RX12 ∧ yX12_mark.cls ≠ "java/lang/invoke/MethodHandle" ∧ yX12_mark.cls ≠ "java/lang/invoke/VarHandle" ∧ (parseMethodDescriptor yX12_mark.desc).map (fun d => d.parameters.length) = some 1 := by decide +kernel
theorem hdX12_tire : yX12_tire.cls = RX12 ∧ yX12_tire.cls ≠ "java/lang/invoke/MethodHandle" ∧ yX12_tire.cls ≠ "java/lang/invoke/VarHandle" ∧ (parseMethodDescriptor yX12_tire.desc).map (fun d => d.parameters.length) = some 2 := by decide +kernel
theorem hdX12_topmanToils : yX12_topmanToils.cls = RX12 ∧ yX12_topmanToils.cls ≠ "java/lang/invoke/MethodHandle" ∧ yX12_topmanToils.cls ≠ "java/lang/invoke/VarHandle" ∧ (parseMethodDescriptor yX12_topmanToils.desc).map (fun d => d.parameters.length) = some 2 := by decide +kernel
theorem hdX12_mateToils : yX12_mateToils.cls = RX12 ∧ yX12_mateToils.cls ≠ "java/lang/invoke/MethodHandle" ∧ yX12_mateToils.cls ≠ "java/lang/invoke/VarHandle" ∧ (parseMethodDescriptor yX12_mateToils.desc).map (fun d => d.parameters.length) = some 2 := by decide +kernel
theorem hdX12_masterToils : yX12_masterToils.cls = RX12 ∧ yX12_masterToils.cls ≠ "java/lang/invoke/MethodHandle" ∧ yX12_masterToils.cls ≠ "java/lang/invoke/VarHandle" ∧ (parseMethodDescriptor yX12_masterToils.desc).map (fun d => d.parameters.length) = some 2 := by decide +kernel
theorem hdX12_cookToils : yX12_cookToils.cls = RX12 ∧ yX12_cookToils.cls ≠ "java/lang/invoke/MethodHandle" ∧ yX12_cookToils.cls ≠ "java/lang/invoke/VarHandle" ∧ (parseMethodDescriptor yX12_cookToils.desc).map (fun d => d.parameters.length) = some 2 := by decide +kernel
theorem hdX12_isPaid : yX12_isPaid.cls = RX12 ∧ yX12_isPaid.cls ≠ "java/lang/invoke/MethodHandle" ∧ yX12_isPaid.cls ≠ "java/lang/invoke/VarHandle" ∧ (parseMethodDescriptor yX12_isPaid.desc).map (fun d => d.parameters.length) = some 2 := by decide +kernel
theorem hdX12_bosunIsPaid : yX12_bosunIsPaid.cls = RX12 ∧ yX12_bosunIsPaid.cls ≠ "java/lang/invoke/MethodHandle" ∧ yX12_bosunIsPaid.cls ≠ "java/lang/invoke/VarHandle" ∧ (parseMethodDescriptor yX12_bosunIsPaid.desc).map (fun d => d.parameters.length) = some 2 := by decide +kernel
theorem hdX12_handIsPaid : yX12_handIsPaid.cls = RX12 ∧ yX12_handIsPaid.cls ≠ "java/lang/invoke/MethodHandle" ∧ yX12_handIsPaid.cls ≠ "java/lang/invoke/VarHandle" ∧ (parseMethodDescriptor yX12_handIsPaid.desc).map (fun d => d.parameters.length) = some 2 := by decide +kernel
theorem hdX12_howMany : yX12_howMany.cls = RX12 ∧ yX12_howMany.cls ≠ "java/lang/invoke/MethodHandle" ∧ yX12_howMany.cls ≠ "java/lang/invoke/VarHandle" ∧ (parseMethodDescriptor yX12_howMany.desc).map (fun d => d.parameters.length) = some 2 := by decide +kernel
theorem hdX12_masterIsPaid : yX12_masterIsPaid.cls = RX12 ∧ yX12_masterIsPaid.cls ≠ "java/lang/invoke/MethodHandle" ∧ yX12_masterIsPaid.cls ≠ "java/lang/invoke/VarHandle" ∧ (parseMethodDescriptor yX12_masterIsPaid.desc).map (fun d => d.parameters.length) = some 2 := by decide +kernel
theorem hdX12_surgeonIsPaid : yX12_surgeonIsPaid.cls = RX12 ∧ yX12_surgeonIsPaid.cls ≠ "java/lang/invoke/MethodHandle" ∧ yX12_surgeonIsPaid.cls ≠ "java/lang/invoke/VarHandle" ∧ (parseMethodDescriptor yX12_surgeonIsPaid.desc).map (fun d => d.parameters.length) = some 2 := by decide +kernel
theorem hdX12_climbs : yX12_climbs.cls = RX12 ∧ yX12_climbs.cls ≠ "java/lang/invoke/MethodHandle" ∧ yX12_climbs.cls ≠ "java/lang/invoke/VarHandle" ∧ (parseMethodDescriptor yX12_climbs.desc).map (fun d => d.parameters.length) = some 2 := by decide +kernel
theorem hdX12_sailorClimbs : yX12_sailorClimbs.cls = RX12 ∧ yX12_sailorClimbs.cls ≠ "java/lang/invoke/MethodHandle" ∧ yX12_sailorClimbs.cls ≠ "java/lang/invoke/VarHandle" ∧ (parseMethodDescriptor yX12_sailorClimbs.desc).map (fun d => d.parameters.length) = some 2 := by decide +kernel
theorem hdX12_soulClimbs : yX12_soulClimbs.cls = RX12 ∧ yX12_soulClimbs.cls ≠ "java/lang/invoke/MethodHandle" ∧ yX12_soulClimbs.cls ≠ "java/lang/invoke/VarHandle" ∧ (parseMethodDescriptor yX12_soulClimbs.desc).map (fun d => d.parameters.length) = some 2 := by decide +kernel
theorem hdX12_mateClimbs : yX12_mateClimbs.cls = RX12 ∧ yX12_mateClimbs.cls ≠ "java/lang/invoke/MethodHandle" ∧ yX12_mateClimbs.cls ≠ "java/lang/invoke/VarHandle" ∧ (parseMethodDescriptor yX12_mateClimbs.desc).map (fun d => d.parameters.length) = some 2 := by decide +kernel
theorem hdX12_surgeonClimbs : yX12_surgeonClimbs.cls = RX12 ∧ yX12_surgeonClimbs.cls ≠ "java/lang/invoke/MethodHandle" ∧ yX12_surgeonClimbs.cls ≠ "java/lang/invoke/VarHandle" ∧ (parseMethodDescriptor yX12_surgeonClimbs.desc).map (fun d => d.parameters.length) = some 2 := by decide +kernel
theorem hdX12_heeds : yX12_heeds.cls = RX12 ∧ yX12_heeds.cls ≠ "java/lang/invoke/MethodHandle" ∧ yX12_heeds.cls ≠ "java/lang/invoke/VarHandle" ∧ (parseMethodDescriptor yX12_heeds.desc).map (fun d => d.parameters.length) = some 2 := by decide +kernel
theorem hdX12_soulHeeds : yX12_soulHeeds.cls = RX12 ∧ yX12_soulHeeds.cls ≠ "java/lang/invoke/MethodHandle" ∧ yX12_soulHeeds.cls ≠ "java/lang/invoke/VarHandle" ∧ (parseMethodDescriptor yX12_soulHeeds.desc).map (fun d => d.parameters.length) = some 2 := by decide +kernel
theorem hdX12_topmanHeeds : yX12_topmanHeeds.cls = RX12 ∧ yX12_topmanHeeds.cls ≠ "java/lang/invoke/MethodHandle" ∧ yX12_topmanHeeds.cls ≠ "java/lang/invoke/VarHandle" ∧ (parseMethodDescriptor yX12_topmanHeeds.desc).map (fun d => d.parameters.length) = some 2 := by decide +kernel
theorem hdX12_bosunHeeds : yX12_bosunHeeds.cls = RX12 ∧ yX12_bosunHeeds.cls ≠ "java/lang/invoke/MethodHandle" ∧ yX12_bosunHeeds.cls ≠ "java/lang/invoke/VarHandle" ∧ (parseMethodDescriptor yX12_bosunHeeds.desc).map (fun d => d.parameters.length) = some 2 := by decide +kernel
theorem hdX12_masterHeeds : yX12_masterHeeds.cls = RX12 ∧ yX12_masterHeeds.cls ≠ "java/lang/invoke/MethodHandle" ∧ yX12_masterHeeds.cls ≠ "java/lang/invoke/VarHandle" ∧ (parseMethodDescriptor yX12_masterHeeds.desc).map (fun d => d.parameters.length) = some 2 := by decide +kernel
theorem hdX12_cookHeeds : yX12_cookHeeds.cls = RX12 ∧ yX12_cookHeeds.cls ≠ "java/lang/invoke/MethodHandle" ∧ yX12_cookHeeds.cls ≠ "java/lang/invoke/VarHandle" ∧ (parseMethodDescriptor yX12_cookHeeds.desc).map (fun d => d.parameters.length) = some 2 := by decide +kernel
theorem hdX12_pay : yX12_pay.cls = RX12 ∧ yX12_pay.cls ≠ "java/lang/invoke/MethodHandle" ∧ yX12_pay.cls ≠ "java/lang/invoke/VarHandle" ∧ (parseMethodDescriptor yX12_pay.desc).map (fun d => d.parameters.length) = some 2 := by decide +kernel
theorem hdX12_climb : yX12_climb.cls = RX12 ∧ yX12_climb.cls ≠ "java/lang/invoke/MethodHandle" ∧ yX12_climb.cls ≠ "java/lang/invoke/VarHandle" ∧ (parseMethodDescriptor yX12_climb.desc).map (fun d => d.parameters.length) = some 2 := by decide +kernel
theorem hdX12_heed : yX12_heed.cls = RX12 ∧ yX12_heed.cls ≠ "java/lang/invoke/MethodHandle" ∧ yX12_heed.cls ≠ "java/lang/invoke/VarHandle" ∧ (parseMethodDescriptor yX12_heed.desc).map (fun d => d.parameters.length) = some 2 := by decide +kernel
theorem hdX12_race : yX12_race.cls = RX12 ∧ yX12_race.cls ≠ "java/lang/invoke/MethodHandle" ∧ yX12_race.cls ≠ "java/lang/invoke/VarHandle" ∧ (parseMethodDescriptor yX12_race.desc).map (fun d => d.parameters.length) = some 3 := by decide +kernel
theorem hdX12_isClimber : yX12_isClimber.cls = RX12 ∧ yX12_isClimber.cls ≠ "java/lang/invoke/MethodHandle" ∧ yX12_isClimber.cls ≠ "java/lang/invoke/VarHandle" ∧ (parseMethodDescriptor yX12_isClimber.desc).map (fun d => d.parameters.length) = some 1 := by decide +kernel
theorem hdX12_due : yX12_due.cls = RX12 ∧ yX12_due.cls ≠ "java/lang/invoke/MethodHandle" ∧ yX12_due.cls ≠ "java/lang/invoke/VarHandle" ∧ (parseMethodDescriptor yX12_due.desc).map (fun d => d.parameters.length) = some 3 := by decide +kernel
theorem hdX12_feed : yX12_feed.cls = RX12 ∧ yX12_feed.cls ≠ "java/lang/invoke/MethodHandle" ∧ yX12_feed.cls ≠ "java/lang/invoke/VarHandle" ∧ (parseMethodDescriptor yX12_feed.desc).map (fun d => d.parameters.length) = some 2 := by decide +kernel
theorem hdX12_isCarer : yX12_isCarer.cls = RX12 ∧ yX12_isCarer.cls ≠ "java/lang/invoke/MethodHandle" ∧ yX12_isCarer.cls ≠ "java/lang/invoke/VarHandle" ∧ (parseMethodDescriptor yX12_isCarer.desc).map (fun d => d.parameters.length) = some 1 := by decide +kernel
theorem hdX12_watch : yX12_watch.cls = RX12 ∧ yX12_watch.cls ≠ "java/lang/invoke/MethodHandle" ∧ yX12_watch.cls ≠ "java/lang/invoke/VarHandle" ∧ (parseMethodDescriptor yX12_watch.desc).map (fun d => d.parameters.length) = some 2 := by decide +kernel
theorem hdX12_line : yX12_line.cls = RX12 ∧ yX12_line.cls ≠ "java/lang/invoke/MethodHandle" ∧ yX12_line.cls ≠ "java/lang/invoke/VarHandle" ∧ (parseMethodDescriptor yX12_line.desc).map (fun d => d.parameters.length) = some 5 := by decide +kernel
theorem hdX12_sail : yX12_sail.cls = RX12 ∧ yX12_sail.cls ≠ "java/lang/invoke/MethodHandle" ∧ yX12_sail.cls ≠ "java/lang/invoke/VarHandle" ∧ (parseMethodDescriptor yX12_sail.desc).map (fun d => d.parameters.length) = some 1 := by decide +kernel
theorem hdX12_rest : yX12_rest.cls = RX12 ∧ yX12_rest.cls ≠ "java/lang/invoke/MethodHandle" ∧ yX12_rest.cls ≠ "java/lang/invoke/VarHandle" ∧ (parseMethodDescriptor yX12_rest.desc).map (fun d => d.parameters.length) = some 1 := by decide +kernel
theorem hdX12_told : yX12_told.cls = RX12 ∧ yX12_told.cls ≠ "java/lang/invoke/MethodHandle" ∧ yX12_told.cls ≠ "java/lang/invoke/VarHandle" ∧ (parseMethodDescriptor yX12_told.desc).map (fun d => d.parameters.length) = some 2 := by decide +kernel
theorem hdX12_note : yX12_note.cls = RX12 ∧ yX12_note.cls ≠ "java/lang/invoke/MethodHandle" ∧ yX12_note.cls ≠ "java/lang/invoke/VarHandle" ∧ (parseMethodDescriptor yX12_note.desc).map (fun d => d.parameters.length) = some 1 := by decide +kernel
theorem hdX12_notes : yX12_notes.cls = RX12 ∧ yX12_notes.cls ≠ "java/lang/invoke/MethodHandle" ∧ yX12_notes.cls ≠ "java/lang/invoke/VarHandle" ∧ (parseMethodDescriptor yX12_notes.desc).map (fun d => d.parameters.length) = some 0 := by decide +kernel
end
section
/-! WHAT A STATE IS, AND WHAT EACH METHOD DOES TO IT: one value for the class and for the reference.
(n, rank, skill, weary, purse, lineDuty, lineNumber, lineLow, lineHigh, kept, noted) -/
abbrev wk_St : Type := Nat × (Nat → Nat) × (Nat → Int32) × (Nat → Int32) × (Nat → Int64) × (Nat → Int32) × (Nat → Int32) × (Nat → Int32) × (Nat → Int32) × (Nat → Int32) × Nat
def wk_n (σ : wk_St) : Nat := σ.1
def wk_rk (σ : wk_St) : Nat → Nat := σ.2.1
def wk_sk (σ : wk_St) : Nat → Int32 := σ.2.2.1
def wk_we (σ : wk_St) : Nat → Int32 := σ.2.2.2.1
def wk_pu (σ : wk_St) : Nat → Int64 := σ.2.2.2.2.1
def wk_ld (σ : wk_St) : Nat → Int32 := σ.2.2.2.2.2.1
def wk_ln (σ : wk_St) : Nat → Int32 := σ.2.2.2.2.2.2.1
def wk_ll (σ : wk_St) : Nat → Int32 := σ.2.2.2.2.2.2.2.1
def wk_lh (σ : wk_St) : Nat → Int32 := σ.2.2.2.2.2.2.2.2.1
def wk_kp (σ : wk_St) : Nat → Int32 := σ.2.2.2.2.2.2.2.2.2.1
def wk_nt (σ : wk_St) : Nat := σ.2.2.2.2.2.2.2.2.2.2
def wk_sRk (σ : wk_St) (f : Nat → Nat) : wk_St := (wk_n σ, f, wk_sk σ, wk_we σ, wk_pu σ, wk_ld σ, wk_ln σ, wk_ll σ, wk_lh σ, wk_kp σ, wk_nt σ)
def wk_sWe (σ : wk_St) (f : Nat → Int32) : wk_St := (wk_n σ, wk_rk σ, wk_sk σ, f, wk_pu σ, wk_ld σ, wk_ln σ, wk_ll σ, wk_lh σ, wk_kp σ, wk_nt σ)
def wk_sPu (σ : wk_St) (f : Nat → Int64) : wk_St := (wk_n σ, wk_rk σ, wk_sk σ, wk_we σ, f, wk_ld σ, wk_ln σ, wk_ll σ, wk_lh σ, wk_kp σ, wk_nt σ)
def wk_sLd (σ : wk_St) (f : Nat → Int32) : wk_St := (wk_n σ, wk_rk σ, wk_sk σ, wk_we σ, wk_pu σ, f, wk_ln σ, wk_ll σ, wk_lh σ, wk_kp σ, wk_nt σ)
def wk_sLn (σ : wk_St) (f : Nat → Int32) : wk_St := (wk_n σ, wk_rk σ, wk_sk σ, wk_we σ, wk_pu σ, wk_ld σ, f, wk_ll σ, wk_lh σ, wk_kp σ, wk_nt σ)
def wk_sLl (σ : wk_St) (f : Nat → Int32) : wk_St := (wk_n σ, wk_rk σ, wk_sk σ, wk_we σ, wk_pu σ, wk_ld σ, wk_ln σ, f, wk_lh σ, wk_kp σ, wk_nt σ)
def wk_sLh (σ : wk_St) (f : Nat → Int32) : wk_St := (wk_n σ, wk_rk σ, wk_sk σ, wk_we σ, wk_pu σ, wk_ld σ, wk_ln σ, wk_ll σ, f, wk_kp σ, wk_nt σ)
def wk_sKp (σ : wk_St) (f : Nat → Int32) : wk_St := (wk_n σ, wk_rk σ, wk_sk σ, wk_we σ, wk_pu σ, wk_ld σ, wk_ln σ, wk_ll σ, wk_lh σ, f, wk_nt σ)
def wk_sNt (σ : wk_St) (c : Nat) : wk_St := (wk_n σ, wk_rk σ, wk_sk σ, wk_we σ, wk_pu σ, wk_ld σ, wk_ln σ, wk_ll σ, wk_lh σ, wk_kp σ, c)
def wk_new : wk_St := (0, fun _ => 0, fun _ => 0, fun _ => 0, fun _ => 0, fun j => if j < 8 then -1 else 0, fun _ => 0, fun _ => 0, fun _ => 0, fun _ => 0, 0)
-- notes, weariness
def wk_note (σ : wk_St) (v : Int32) : wk_St := wk_sNt (wk_sKp σ (if wk_nt σ < 64 then upd (wk_kp σ) (wk_nt σ) v else wk_kp σ)) (wk_nt σ + 1)
def wk_clamp (w : Int32) : Int32 := if 0 ≤ w then (if w ≤ 1000 then w else 1000) else 0
def wk_tire (σ : wk_St) (k : Nat) (x : Int32) : wk_St := wk_sWe σ (upd (wk_we σ) k (wk_clamp (wk_we σ k + x)))
def wk_pos (v : Int64) : Int64 := if 0 ≤ v then v else 0
-- TOIL
def wk_soulToil1 (σ : wk_St) (k : Nat) (n : Int32) : Int64 × wk_St := (wk_pos (n.toInt64 * (10 + wk_sk σ k).toInt64 - (wk_we σ k).toInt64), wk_tire σ k n)
def wk_soulToil (σ : wk_St) (k : Nat) (n : Int32) : Int64 × wk_St := wk_soulToil1 (wk_note σ 80) k n
def wk_topToil1 (σ : wk_St) (k : Nat) (n : Int32) : Int64 × wk_St := if wk_we σ k ≤ 500 then ((wk_soulToil σ k n).1 + 3 * n.toInt64, (wk_soulToil σ k n).2) else (0, σ)
def wk_topToil (σ : wk_St) (k : Nat) (n : Int32) : Int64 × wk_St := wk_topToil1 (wk_note σ 20) k n
def wk_mateToil1 (σ : wk_St) (k : Nat) (n : Int32) : Int64 × wk_St := ((wk_topToil σ k (n / 2)).1 + (wk_topToil (wk_topToil σ k (n / 2)).2 k (n - n / 2)).1, (wk_topToil (wk_topToil σ k (n / 2)).2 k (n - n / 2)).2)
def wk_mateToil (σ : wk_St) (k : Nat) (n : Int32) : Int64 × wk_St := wk_mateToil1 (wk_note σ 40) k n
def wk_masterToil1 (σ : wk_St) (k : Nat) (n : Int32) : Int64 × wk_St := if 40 < n then (4 * (wk_mateToil σ k (n / 4)).1, (wk_mateToil σ k (n / 4)).2) else wk_mateToil σ k n
def wk_masterToil (σ : wk_St) (k : Nat) (n : Int32) : Int64 × wk_St := wk_masterToil1 (wk_note σ 50) k n
def wk_cookToil1 (σ : wk_St) (k : Nat) (n : Int32) : Int64 × wk_St := ((wk_soulToil σ k n).1, wk_tire (wk_soulToil σ k n).2 k (-(n / 2)))
def wk_cookToil (σ : wk_St) (k : Nat) (n : Int32) : Int64 × wk_St := wk_cookToil1 (wk_note σ 60) k n
def wk_toilR (r : Nat) (σ : wk_St) (k : Nat) (n : Int32) : Int64 × wk_St := match r with
  | 0 => wk_soulToil σ k n
  | 1 => wk_soulToil σ k n
  | 2 => wk_topToil σ k n
  | 3 => wk_topToil σ k n
  | 4 => wk_mateToil σ k n
  | 5 => wk_masterToil σ k n
  | _ => wk_cookToil σ k n
-- PAY
def wk_handPay1 (σ : wk_St) (k : Nat) (n : Int32) : Int64 × wk_St := (n.toInt64 * (5 + wk_sk σ k / 10).toInt64, σ)
def wk_handPay (σ : wk_St) (k : Nat) (n : Int32) : Int64 × wk_St := wk_handPay1 (wk_note σ 1) k n
def wk_addN (σ : wk_St) (n v : Int64) : Nat → Int64
  | 0 => v
  | i + 1 => if wk_rk σ i ≤ 2 then wk_addN σ n v i + n else wk_addN σ n v i
def wk_bosunPay1 (σ : wk_St) (k : Nat) (n : Int32) : Int64 × wk_St := (wk_addN (wk_handPay σ k n).2 n.toInt64 ((wk_handPay σ k n).1 + 2 * n.toInt64) (wk_n (wk_handPay σ k n).2), (wk_handPay σ k n).2)
def wk_bosunPay (σ : wk_St) (k : Nat) (n : Int32) : Int64 × wk_St := wk_bosunPay1 (wk_note σ 31) k n
def wk_masterPay1 (σ : wk_St) (k : Nat) (n : Int32) : Int64 × wk_St := (if 300 ≤ wk_we (wk_bosunPay σ k n).2 k then (wk_bosunPay σ k n).1 else 2 * (wk_bosunPay σ k n).1, (wk_bosunPay σ k n).2)
def wk_masterPay (σ : wk_St) (k : Nat) (n : Int32) : Int64 × wk_St := wk_masterPay1 (wk_note σ 51) k n
def wk_add7 (σ : wk_St) (v : Int64) : Nat → Int64
  | 0 => v
  | i + 1 => if wk_we σ i ≤ 500 then wk_add7 σ v i else wk_add7 σ v i + 7
def wk_surgPay1 (σ : wk_St) (k : Nat) (n : Int32) : Int64 × wk_St := (wk_add7 (wk_handPay σ k n).2 (wk_handPay σ k n).1 (wk_n (wk_handPay σ k n).2), (wk_handPay σ k n).2)
def wk_surgPay (σ : wk_St) (k : Nat) (n : Int32) : Int64 × wk_St := wk_surgPay1 (wk_note σ 71) k n
def wk_payR (r : Nat) (σ : wk_St) (k : Nat) (n : Int32) : Int64 × wk_St := match r with
  | 0 => wk_handPay σ k n
  | 1 => wk_handPay σ k n
  | 2 => wk_handPay σ k n
  | 3 => wk_bosunPay σ k n
  | 4 => wk_bosunPay σ k n
  | 5 => wk_masterPay σ k n
  | 6 => wk_handPay σ k n
  | _ => wk_surgPay σ k n
-- CLIMB
def wk_soulClimb1 (σ : wk_St) (k : Nat) (n : Int32) : Int32 × wk_St := if n ≤ 10 + wk_sk σ k then (2 * n, wk_tire σ k n) else (-1, σ)
def wk_soulClimb (σ : wk_St) (k : Nat) (n : Int32) : Int32 × wk_St := wk_soulClimb1 (wk_note σ 82) k n
def wk_sailorClimb1 (σ : wk_St) (k : Nat) (n : Int32) : Int32 × wk_St := if n ≤ 30 then (3 * n, wk_tire σ k (n / 2)) else wk_soulClimb σ k n
def wk_sailorClimb (σ : wk_St) (k : Nat) (n : Int32) : Int32 × wk_St := wk_sailorClimb1 (wk_note σ 12) k n
def wk_mateClimb1 (σ : wk_St) (k : Nat) (n : Int32) : Int32 × wk_St := (if (wk_sailorClimb σ k n).1 = -1 then -1 else (wk_sailorClimb σ k n).1 + 1, (wk_sailorClimb σ k n).2)
def wk_mateClimb (σ : wk_St) (k : Nat) (n : Int32) : Int32 × wk_St := wk_mateClimb1 (wk_note σ 42) k n
def wk_surgClimb (σ : wk_St) (k : Nat) (n : Int32) : Int32 × wk_St := wk_soulClimb (wk_note σ 72) k (n / 2)
def wk_climbR (r : Nat) (σ : wk_St) (k : Nat) (n : Int32) : Int32 × wk_St := match r with
  | 0 => wk_soulClimb σ k n
  | 1 => wk_sailorClimb σ k n
  | 2 => wk_sailorClimb σ k n
  | 3 => wk_sailorClimb σ k n
  | 4 => wk_mateClimb σ k n
  | 5 => wk_mateClimb σ k n
  | 6 => wk_soulClimb σ k n
  | _ => wk_surgClimb σ k n
-- HEED
def wk_soulHeed1 (σ : wk_St) (k : Nat) (n : Int32) : Int32 × wk_St := ((31 * n + nI k) - (31 * n + nI k) / 1000 * 1000, σ)
def wk_soulHeed (σ : wk_St) (k : Nat) (n : Int32) : Int32 × wk_St := wk_soulHeed1 (wk_note σ 83) k n
def wk_topHeed1 (σ : wk_St) (k : Nat) (n : Int32) : Int32 × wk_St := if n - n / 2 * 2 = 0 then ((wk_soulHeed σ k n).1 + 1000, (wk_soulHeed σ k n).2) else (n, σ)
def wk_topHeed (σ : wk_St) (k : Nat) (n : Int32) : Int32 × wk_St := wk_topHeed1 (wk_note σ 23) k n
def wk_loHeed (r : Nat) (σ : wk_St) (k : Nat) (n : Int32) : Int32 × wk_St := match r with
  | 0 => wk_soulHeed σ k n
  | 1 => wk_soulHeed σ k n
  | _ => wk_topHeed σ k n
def wk_heedL (n : Int32) (p : Int32 × wk_St) : Nat → Int32 × wk_St
  | 0 => p
  | i + 1 => if wk_rk (wk_heedL n p i).2 i ≤ 2 then ((wk_heedL n p i).1 + (wk_loHeed (wk_rk (wk_heedL n p i).2 i) (wk_heedL n p i).2 i n).1, (wk_loHeed (wk_rk (wk_heedL n p i).2 i) (wk_heedL n p i).2 i n).2) else wk_heedL n p i
def wk_bosunHeed1 (σ : wk_St) (k : Nat) (n : Int32) : Int32 × wk_St := wk_heedL n (wk_topHeed σ k n) (wk_n σ)
def wk_bosunHeed (σ : wk_St) (k : Nat) (n : Int32) : Int32 × wk_St := wk_bosunHeed1 (wk_note σ 33) k n
def wk_masterHeed1 (σ : wk_St) (k : Nat) (n : Int32) : Int32 × wk_St := if wk_we σ k < 700 then wk_bosunHeed σ k (n + 1) else (-5, σ)
def wk_masterHeed (σ : wk_St) (k : Nat) (n : Int32) : Int32 × wk_St := wk_masterHeed1 (wk_note σ 53) k n
def wk_cookHeed (σ : wk_St) (k : Nat) (n : Int32) : Int32 × wk_St := (-(wk_soulHeed (wk_note σ 63) k n).1, (wk_soulHeed (wk_note σ 63) k n).2)
def wk_heedR (r : Nat) (σ : wk_St) (k : Nat) (n : Int32) : Int32 × wk_St := match r with
  | 0 => wk_soulHeed σ k n
  | 1 => wk_soulHeed σ k n
  | 2 => wk_topHeed σ k n
  | 3 => wk_bosunHeed σ k n
  | 4 => wk_bosunHeed σ k n
  | 5 => wk_masterHeed σ k n
  | _ => wk_cookHeed σ k n
-- RACE
def wk_raceL (r : Nat) (k : Nat) (n : Int32) : Nat → Int32 → wk_St → Int32 × wk_St
  | 0, v, σ => (v, σ)
  | t + 1, v, σ => if (wk_climbR r σ k n).1 = -1 then (v, (wk_climbR r σ k n).2) else wk_raceL r k n t (v + (wk_climbR r σ k n).1) (wk_climbR r σ k n).2
def wk_raceR (r : Nat) (σ : wk_St) (k : Nat) (n m : Int32) : Int32 × wk_St := if r = 5 then (2 * (wk_raceL r k n (if 3 ≤ m then (3 : Int32) else m).toNatClampNeg 0 σ).1, (wk_raceL r k n (if 3 ≤ m then (3 : Int32) else m).toNatClampNeg 0 σ).2) else wk_raceL r k n m.toNatClampNeg 0 σ
-- a duty by its number
def wk_do (d : Int32) (σ : wk_St) (k : Nat) (n : Int32) : Int64 × wk_St :=
  if d = 0 then wk_toilR (wk_rk σ k) σ k n
  else if d = 1 then wk_payR (wk_rk σ k) σ k n
  else if d = 2 then ((wk_climbR (wk_rk σ k) σ k n).1.toInt64, (wk_climbR (wk_rk σ k) σ k n).2)
  else ((wk_heedR (wk_rk σ k) σ k n).1.toInt64, (wk_heedR (wk_rk σ k) σ k n).2)
def wk_gain (d : Int32) (k : Nat) (p : Int64 × wk_St) : wk_St := if d = 1 then wk_sPu p.2 (vp_updL (wk_pu p.2) k (wk_pu p.2 k + p.1)) else p.2
-- what is refused
def wk_bound (d : Int32) : Int32 := if d = 0 then 100 else if d = 1 then 1000 else if d = 2 then 200 else 9999
def wk_in (d n : Int32) : Prop := 0 ≤ n ∧ n ≤ wk_bound d
def wk_ok (σ : wk_St) (k : Int32) : Prop := 0 ≤ k ∧ k < nI (wk_n σ)
theorem wk_in_dec (d n : Int32) : wk_in d n ∨ ¬ wk_in d n := Classical.em _
-- the calls: what is answered, and the state behind it
noncomputable def wk_if {α : Type} (c : Prop) (a b : α) : α := @ite α c (Classical.propDecidable c) a b
theorem wk_ifT {α : Type} {c : Prop} {a b : α} (h : c) : wk_if c a b = a := by unfold wk_if; exact if_pos h
theorem wk_ifF {α : Type} {c : Prop} {a b : α} (h : ¬ c) : wk_if c a b = b := by unfold wk_if; exact if_neg h
def wk_add (σ : wk_St) (r s : Int32) : wk_St := (wk_n σ + 1, va_up (wk_rk σ) (wk_n σ) r.toNatClampNeg, upd (wk_sk σ) (wk_n σ) s, upd (wk_we σ) (wk_n σ) 0, vp_updL (wk_pu σ) (wk_n σ) 0, wk_ld σ, wk_ln σ, wk_ll σ, wk_lh σ, wk_kp σ, wk_nt σ)
noncomputable def wk_enlist (σ : wk_St) (r s : Int32) : Int32 × wk_St := wk_if ((0 ≤ r ∧ r ≤ 7) ∧ (0 ≤ s ∧ s ≤ 99) ∧ wk_n σ < 12) (nI (wk_n σ), wk_add σ r s) (-1000000, σ)
noncomputable def wk_promote (σ : wk_St) (k : Int32) : Int32 × wk_St := wk_if (wk_ok σ k ∧ wk_rk σ k.toNatClampNeg ≠ 5 ∧ wk_rk σ k.toNatClampNeg ≠ 7) (nI (wk_rk σ k.toNatClampNeg + 1), wk_sRk σ (va_up (wk_rk σ) k.toNatClampNeg (wk_rk σ k.toNatClampNeg + 1))) (-1000000, σ)
def wk_down (r : Nat) : Nat := if r = 6 then 0 else r - 1
noncomputable def wk_demote (σ : wk_St) (k : Int32) : Int32 × wk_St := wk_if (wk_ok σ k ∧ wk_rk σ k.toNatClampNeg ≠ 0) (nI (wk_down (wk_rk σ k.toNatClampNeg)), wk_sRk σ (va_up (wk_rk σ) k.toNatClampNeg (wk_down (wk_rk σ k.toNatClampNeg)))) (-1000000, σ)
def wk_fg (σ : wk_St) : wk_St := wk_sNt σ 0
noncomputable def wk_toil (σ : wk_St) (k n : Int32) : Int64 × wk_St := wk_if (wk_ok σ k ∧ wk_in 0 n) (wk_toilR (wk_rk σ k.toNatClampNeg) (wk_fg σ) k.toNatClampNeg n) (-1000000, σ)
noncomputable def wk_pay (σ : wk_St) (k n : Int32) : Int64 × wk_St := wk_if (wk_ok σ k ∧ wk_in 1 n) ((wk_payR (wk_rk σ k.toNatClampNeg) (wk_fg σ) k.toNatClampNeg n).1, wk_gain 1 k.toNatClampNeg (wk_payR (wk_rk σ k.toNatClampNeg) (wk_fg σ) k.toNatClampNeg n)) (-1000000, σ)
noncomputable def wk_climb (σ : wk_St) (k n : Int32) : Int32 × wk_St := wk_if (wk_ok σ k ∧ wk_in 2 n) (wk_climbR (wk_rk σ k.toNatClampNeg) (wk_fg σ) k.toNatClampNeg n) (-1000000, σ)
noncomputable def wk_heed (σ : wk_St) (k n : Int32) : Int32 × wk_St := wk_if (wk_ok σ k ∧ wk_in 3 n) (wk_heedR (wk_rk σ k.toNatClampNeg) (wk_fg σ) k.toNatClampNeg n) (-1000000, σ)
noncomputable def wk_race (σ : wk_St) (k n m : Int32) : Int32 × wk_St := wk_if (wk_ok σ k ∧ (2 ≤ wk_rk σ k.toNatClampNeg ∧ wk_rk σ k.toNatClampNeg ≤ 5) ∧ wk_in 2 n ∧ (0 ≤ m ∧ m ≤ 20)) (wk_raceR (wk_rk σ k.toNatClampNeg) (wk_fg σ) k.toNatClampNeg n m) (-1000000, σ)
noncomputable def wk_due (σ : wk_St) (k n x : Int32) : Int64 × wk_St := wk_if (wk_ok σ k ∧ 1 ≤ wk_rk σ k.toNatClampNeg ∧ wk_in 1 n ∧ 0 ≤ x) (wk_pos ((wk_payR (wk_rk σ k.toNatClampNeg) (wk_fg σ) k.toNatClampNeg n).1 - x.toInt64), (wk_payR (wk_rk σ k.toNatClampNeg) (wk_fg σ) k.toNatClampNeg n).2) (-1000000, σ)
def wk_feedL (k : Nat) (x : Int32) (σ : wk_St) : Nat → wk_St
  | 0 => σ
  | i + 1 => if i = k then wk_feedL k x σ i else wk_tire (wk_feedL k x σ i) i x
noncomputable def wk_feed (σ : wk_St) (k n : Int32) : Int32 × wk_St := wk_if (wk_ok σ k ∧ 6 ≤ wk_rk σ k.toNatClampNeg ∧ wk_in 0 n) (((wk_toilR (wk_rk σ k.toNatClampNeg) (wk_fg σ) k.toNatClampNeg n).1 / 100).toInt32, wk_feedL k.toNatClampNeg (-((wk_toilR (wk_rk σ k.toNatClampNeg) (wk_fg σ) k.toNatClampNeg n).1 / 100).toInt32) (wk_toilR (wk_rk σ k.toNatClampNeg) (wk_fg σ) k.toNatClampNeg n).2 (wk_n σ)) (-1000000, σ)
def wk_watchL (d n : Int32) (σ : wk_St) : Nat → Int64 × wk_St
  | 0 => (0, σ)
  | i + 1 => ((wk_watchL d n σ i).1 + (wk_do d (wk_watchL d n σ i).2 i n).1, (wk_do d (wk_watchL d n σ i).2 i n).2)
noncomputable def wk_watch (σ : wk_St) (d n : Int32) : Int64 × wk_St := wk_if ((0 ≤ d ∧ d ≤ 3) ∧ wk_in d n) (wk_watchL d n (wk_fg σ) (wk_n σ)) (-1000000, σ)
def wk_setLine (σ : wk_St) (i : Nat) (d n lo hi : Int32) : wk_St := wk_sLh (wk_sLl (wk_sLn (wk_sLd σ (upd (wk_ld σ) i d)) (upd (wk_ln σ) i n)) (upd (wk_ll σ) i lo)) (upd (wk_lh σ) i hi)
noncomputable def wk_line (σ : wk_St) (i d n lo hi : Int32) : Int32 × wk_St := wk_if (0 ≤ i ∧ i < 8) (wk_if (d = -1) (1, wk_sLd σ (upd (wk_ld σ) i.toNatClampNeg (-1))) (wk_if ((0 ≤ d ∧ d ≤ 3) ∧ wk_in d n ∧ (0 ≤ lo ∧ lo ≤ 7) ∧ (0 ≤ hi ∧ hi ≤ 7) ∧ lo ≤ hi) (1, wk_setLine σ i.toNatClampNeg d n lo hi) (-1000000, σ))) (-1000000, σ)
def wk_lineL (d n lo hi : Int32) (p : Int64 × wk_St) : Nat → Int64 × wk_St
  | 0 => p
  | i + 1 => if lo ≤ nI (wk_rk (wk_lineL d n lo hi p i).2 i) ∧ nI (wk_rk (wk_lineL d n lo hi p i).2 i) ≤ hi then ((wk_lineL d n lo hi p i).1 + (wk_do d (wk_lineL d n lo hi p i).2 i n).1, wk_gain d i (wk_do d (wk_lineL d n lo hi p i).2 i n)) else wk_lineL d n lo hi p i
def wk_sailI (p : Int64 × wk_St) : Nat → Int64 × wk_St
  | 0 => p
  | i + 1 => if wk_ld (wk_sailI p i).2 i = -1 then wk_sailI p i else wk_lineL (wk_ld (wk_sailI p i).2 i) (wk_ln (wk_sailI p i).2 i) (wk_ll (wk_sailI p i).2 i) (wk_lh (wk_sailI p i).2 i) (wk_sailI p i) (wk_n p.2)
def wk_sailT (p : Int64 × wk_St) : Nat → Int64 × wk_St
  | 0 => p
  | i + 1 => wk_sailI (wk_sailT p i) 8
noncomputable def wk_sail (σ : wk_St) (t : Int32) : Int64 × wk_St := wk_if (0 ≤ t ∧ t ≤ 20) (wk_sailT (0, wk_fg σ) t.toNatClampNeg) (-1000000, σ)
def wk_restL (x : Int32) (σ : wk_St) : Nat → wk_St
  | 0 => σ
  | i + 1 => wk_tire (wk_restL x σ i) i x
noncomputable def wk_rest (σ : wk_St) (n : Int32) : Int32 × wk_St := wk_if (0 ≤ n ∧ n ≤ 1000) (nI (wk_n σ), wk_restL (-n) σ (wk_n σ)) (-1000000, σ)
noncomputable def wk_told (σ : wk_St) (k w : Int32) : Int64 × wk_St := wk_if (wk_ok σ k) (if w = 0 then (nI (wk_rk σ k.toNatClampNeg)).toInt64 else if w = 1 then (wk_sk σ k.toNatClampNeg).toInt64 else if w = 2 then (wk_we σ k.toNatClampNeg).toInt64 else if w = 3 then wk_pu σ k.toNatClampNeg else if w = 4 then (if 2 ≤ wk_rk σ k.toNatClampNeg ∧ wk_rk σ k.toNatClampNeg ≤ 5 then 1 else 0) else if w = 5 then (if 1 ≤ wk_rk σ k.toNatClampNeg then 1 else 0) else if w = 6 then (if 6 ≤ wk_rk σ k.toNatClampNeg then 1 else 0) else -1000000, σ) (-1000000, σ)
noncomputable def wk_noteAt (σ : wk_St) (i : Int32) : Int32 × wk_St := wk_if (0 ≤ i ∧ i < nI (wk_nt σ) ∧ i < 64) (wk_kp σ i.toNatClampNeg, σ) (-1000000, σ)
end
section
/-! THE LAYER: one world a side, one form of contract; words of every method are its own code and the tables' words -/
theorem wk_Tg (w : Cond) (h : w ∈ wk_T) : goodWord w = true := (List.mem_filter.mp h).2
def wk_M (y : MethodName) (c : ByteArray) (n : Nat) (r : Option FieldType) : List Cond := .code y c n r :: wk_T
theorem wk_good {big : List Cond} {y : MethodName} {c : ByteArray} {n : Nat} {r : Option FieldType} (hb : ∀ w ∈ wk_T, w ∈ big) (h : Cond.code y c n r ∈ wk_T) : GoodIn big (wk_M y c n r) := by
  intro w hw
  have hT : w ∈ wk_T := by
    rcases List.mem_cons.mp hw with e | e
    · rw [e]; exact h
    · exact e
  exact ⟨hb w hT, good_of_word (wk_Tg w hT)⟩
theorem wk_goodT {big ws : List Cond} (hb : ∀ w ∈ wk_T, w ∈ big) (h : ∀ w ∈ ws, w ∈ wk_T) : GoodIn big ws := fun w hw => ⟨hb w (h w hw), good_of_word (wk_Tg w (h w hw))⟩
theorem wk_in_M {y : MethodName} {c : ByteArray} {n : Nat} {r : Option FieldType} : ∀ w ∈ wk_T, w ∈ wk_M y c n r := fun _ h => List.mem_cons_of_mem _ h
/-- words of a state that a call doesn't hand on by itself -/
def wk_N (U : State) : Prop := (∀ w ∈ wk_X, va_Nw w U) ∧ va_AO RX8 U
theorem wk_N.warm {s U : State} (hW : s.WarmedH U.vm) (h : wk_N s) : wk_N U := by
  refine ⟨fun w hw => ?_, va_AO.moved hW.alike h.2⟩
  have h1 := h.1 w hw
  have h2 : wk_isX w = true := (List.mem_filter.mp hw).2
  cases w <;> first | (exact absurd h2 (by decide)) | exact va_Nw.warmM hW h1 | exact va_Nw.warmD hW h1 | exact va_Nw.warmC hW h1 | (simp [wk_isX] at h2)
theorem wk_N.same {u U : State} (e : u.vm = U.vm) (h : wk_N u) : wk_N U := by
  refine ⟨fun w hw => ?_, va_AO.moved (by rw [e]; exact Vm.Alike.refl _) h.2⟩
  have h1 := h.1 w hw
  have h2 : wk_isX w = true := (List.mem_filter.mp hw).2
  refine va_Nw.same ?_ e h1
  cases w <;> first | rfl | (simp [wk_isX] at h2)
/-- the world between two instructions -/
def wk_I (D : va_G) (A : Nat → Prop) (H0 H : Heap) (locs : List Loc) (w : va_W) : Prop := va_P D vwCl w H ∧ va_D A w ∧ va_S A H0 H locs
def wk_Pc (D : va_G) (tys : List (ClassId × FieldType)) (av : List Value) (w : va_W) (sz : Nat) : Array Value → State → Prop := va_Pc av (fun U => U.heap.size = sz ∧ va_P D vwCl w U.heap ∧ va_K D vwCl tys U ∧ va_D (fun _ => True) w ∧ wk_N U)
def wk_B {S : Type} (D : va_G) (tys : List (ClassId × FieldType)) (A : Nat → Prop) (wf : S → va_W) (u : S) (t : State) : Prop := va_P D vwCl (wf u) t.heap ∧ va_K D vwCl tys t ∧ va_D A (wf u)
def wk_Ci {S : Type} (l : Launch) (D : va_G) (tys : List (ClassId × FieldType)) (y : MethodName) (ws : List Cond) (rm : Room) (av : List Value) (w : va_W) (wf : S → va_W) (post : Int32 → S → Prop) : Prop := ∀ sz, Met l y ws rm (wk_Pc D tys av w sz) (va_Qi post (wk_B D tys (va_A w sz) wf) (va_A w sz)) rm.cells rm.slots (va_A w sz)
def wk_Cl {S : Type} (l : Launch) (D : va_G) (tys : List (ClassId × FieldType)) (y : MethodName) (ws : List Cond) (rm : Room) (av : List Value) (w : va_W) (wf : S → va_W) (post : Int64 → S → Prop) : Prop := ∀ sz, Met l y ws rm (wk_Pc D tys av w sz) (va_Ql post (wk_B D tys (va_A w sz) wf) (va_A w sz)) rm.cells rm.slots (va_A w sz)
def wk_Cv {S : Type} (l : Launch) (D : va_G) (tys : List (ClassId × FieldType)) (y : MethodName) (ws : List Cond) (rm : Room) (av : List Value) (w : va_W) (wf : S → va_W) (post : S → Prop) : Prop := ∀ sz, Met l y ws rm (wk_Pc D tys av w sz) (va_Qv post (wk_B D tys (va_A w sz) wf) (va_A w sz)) rm.cells rm.slots (va_A w sz)
def wk_Cq {S : Type} (l : Launch) (D : va_G) (tys : List (ClassId × FieldType)) (y : MethodName) (ws : List Cond) (rm : Room) (av : List Value) (w : va_W) (wf : S → va_W) (post : Option Nat → S → Prop) : Prop := ∀ sz, Met l y ws rm (wk_Pc D tys av w sz) (va_Qq post (wk_B D tys (va_A w sz) wf) (va_A w sz)) rm.cells rm.slots (va_A w sz)
theorem wk_blind {D : va_G} {tys : List (ClassId × FieldType)} {av : List Value} {w : va_W} {sz : Nat} : FrameBlind (wk_Pc D tys av w sz) := fun a U g mk q => by
  obtain ⟨q0, q1, qP, qK, qD, qN⟩ := q
  exact ⟨q0, q1, qP, va_K.moved (u := U) (U := U.calling g mk a) (Vm.Alike.refl U.vm) qK, qD, wk_N.same (u := U) (U := U.calling g mk a) rfl qN⟩
section LAYER
variable {p : Program} {l : Launch} {e : Env} {R : Room} {s : State} {m : MethodId} {args : Array Value} {below : List Frame} {meth : Method} {c : Code} {H : Heap} {locs : List Loc} {cells slots : Nat} {Q : State → Prop}
variable {D : va_G} {tys : List (ClassId × FieldType)} {A : Nat → Prop} {w w' wr : va_W}
theorem wk_preS {As : List Value} {H0 : Heap} (hN : wk_N s) (hK : va_K D vwCl tys s) (hI : wk_I D A H0 H locs w) : PreS s H (wk_Pc D tys As w H.size) As :=
  ⟨wk_blind, fun U hU hW => ⟨rfl, by rw [hU], by rw [hU]; exact hI.1, va_K.moved hW.alike hK, hI.2.1.weaken (fun _ _ _ _ => trivial), wk_N.warm hW hN⟩⟩
theorem wk_preV {As : List Value} {H0 : Heap} {b q0 ci : Nat} {fs : List Value} {q : vw_C} (hN : wk_N s) (hK : va_K D vwCl tys s) (hI : wk_I D A H0 H locs w) (hc : vwCl[ci]? = some q) (he : w[q0]? = some (b, .inr (ci, fs))) : PreV s H q.1 b (wk_Pc D tys (.ref b :: As) w H.size) As :=
  ⟨wk_blind, va_recv hK hI.1 hc he, fun U hU hW => ⟨rfl, by rw [hU], by rw [hU]; exact hI.1, va_K.moved hW.alike hK, hI.2.1.weaken (fun _ _ _ _ => trivial), wk_N.warm hW hN⟩⟩
theorem wk_free {H0 : Heap} (hI : wk_I D A H0 H locs w) (hA : ∀ q, H0.size ≤ q → A q) : ∀ q, va_A w H.size q → A q := by
  intro q h
  rcases h with ⟨k, e, h⟩ | h
  · exact hI.2.1.2 k (q, e) h
  · exact hA q (Nat.le_trans hI.2.2.1 h)
variable {pc : Nat} {ls : Array Slot} {rest st0 : List Value} {a : Array Value} {H0 : Heap} {mc ms : Nat}
theorem wk_kI {S : Type} {wf : S → va_W} {post : Int32 → S → Prop} (hI : wk_I D A H0 H locs w) (hA : ∀ q, H0.size ≤ q → A q) (hr : va_Run p l e R s m args below meth c H locs cells slots mc ms (F0 m pc ls st0) rest (va_Qi post (wk_B D tys (va_A w H.size) wf) (va_A w H.size) a) (va_A w H.size))
    (kk : ∀ (r : Int32) (u : S) (H1 : Heap) (locs1 : List Loc), post r u → wk_I D A H0 H1 locs1 (wf u) → W p l e R s m args below meth c H1 locs1 (cells + mc) (slots + ms) Q (F0 m (pc + 3) ls (.int r :: rest))) : W p l e R s m args below meth c H locs cells slots Q (F0 m pc ls st0) :=
  va_calli hr hI.2.2 (fun q _ h => wk_free hI hA q h) (wk_free hI hA) (fun r u t H1 locs1 ht _ hw hB _ _ hS => kk r u H1 locs1 hw ⟨by rw [← ht]; exact hB.1, hB.2.2.weaken (fun _ q _ h => wk_free hI hA q.1 h), hS⟩)
theorem wk_kL {S : Type} {wf : S → va_W} {post : Int64 → S → Prop} (hI : wk_I D A H0 H locs w) (hA : ∀ q, H0.size ≤ q → A q) (hr : va_Run p l e R s m args below meth c H locs cells slots mc ms (F0 m pc ls st0) rest (va_Ql post (wk_B D tys (va_A w H.size) wf) (va_A w H.size) a) (va_A w H.size))
    (kk : ∀ (r : Int64) (u : S) (H1 : Heap) (locs1 : List Loc), post r u → wk_I D A H0 H1 locs1 (wf u) → W p l e R s m args below meth c H1 locs1 (cells + mc) (slots + ms) Q (F0 m (pc + 3) ls (.long r :: rest))) : W p l e R s m args below meth c H locs cells slots Q (F0 m pc ls st0) :=
  va_calll hr hI.2.2 (fun q _ h => wk_free hI hA q h) (wk_free hI hA) (fun r u t H1 locs1 ht _ hw hB _ _ hS => kk r u H1 locs1 hw ⟨by rw [← ht]; exact hB.1, hB.2.2.weaken (fun _ q _ h => wk_free hI hA q.1 h), hS⟩)
theorem wk_kV {S : Type} {wf : S → va_W} {post : S → Prop} (hI : wk_I D A H0 H locs w) (hA : ∀ q, H0.size ≤ q → A q) (hr : va_Run p l e R s m args below meth c H locs cells slots mc ms (F0 m pc ls st0) rest (va_Qv post (wk_B D tys (va_A w H.size) wf) (va_A w H.size) a) (va_A w H.size))
    (kk : ∀ (u : S) (H1 : Heap) (locs1 : List Loc), post u → wk_I D A H0 H1 locs1 (wf u) → W p l e R s m args below meth c H1 locs1 (cells + mc) (slots + ms) Q (F0 m (pc + 3) ls rest)) : W p l e R s m args below meth c H locs cells slots Q (F0 m pc ls st0) :=
  va_callv hr hI.2.2 (fun q _ h => wk_free hI hA q h) (wk_free hI hA) (fun u t H1 locs1 ht _ hw hB _ _ hS => kk u H1 locs1 hw ⟨by rw [← ht]; exact hB.1, hB.2.2.weaken (fun _ q _ h => wk_free hI hA q.1 h), hS⟩)
theorem wk_kQ {S : Type} {wf : S → va_W} {post : Option Nat → S → Prop} (hI : wk_I D A H0 H locs w) (hA : ∀ q, H0.size ≤ q → A q) (hr : va_Run p l e R s m args below meth c H locs cells slots mc ms (F0 m pc ls st0) rest (va_Qq post (wk_B D tys (va_A w H.size) wf) (va_A w H.size) a) (va_A w H.size))
    (kk : ∀ (r : Option Nat) (u : S) (H1 : Heap) (locs1 : List Loc), post r u → wk_I D A H0 H1 locs1 (wf u) → W p l e R s m args below meth c H1 locs1 (cells + mc) (slots + ms) Q (F0 m (pc + 3) ls (va_rf r :: rest))) : W p l e R s m args below meth c H locs cells slots Q (F0 m pc ls st0) :=
  va_callq hr hI.2.2 (fun q _ h => wk_free hI hA q h) (wk_free hI hA) (fun r u t H1 locs1 ht _ hw hB _ _ hS => kk r u H1 locs1 hw ⟨by rw [← ht]; exact hB.1, hB.2.2.weaken (fun _ q _ h => wk_free hI hA q.1 h), hS⟩)
-- returns
variable {cc : ByteArray}
theorem wk_ri {S : Type} {wf : S → va_W} {post : Int32 → S → Prop} {v : Int32} (u : S) (hx : p.tables.exec = Jvm.exec) (hb : c.code = cc) (hr : meth.sig.returnType = some .int) (hlk : meth.locks = false) (hK : va_K D vwCl tys s) (hI : wk_I D A s.heap H locs w) (hw : w = wf u) (hp : post v u) (hdg : decode cc pc = .ok (.ireturn, 1)) : W p l e R s m args below meth c H locs cells slots (MQ below (va_Qi post (wk_B D tys A wf) A) args s cells slots A) (F0 m pc ls [.int v]) := by
  subst hw
  exact W.iret hx hb hr (fun t ht hW => ⟨⟨v, u, rfl, hp, by rw [ht]; exact hI.1, va_K.moved hW.alike hK, hI.2.1⟩, hI.2.2.F ht⟩) hI.2.2.2.2 hdg hlk
theorem wk_rz {S : Type} {wf : S → va_W} {post : Int32 → S → Prop} {v : Int32} (u : S) (hx : p.tables.exec = Jvm.exec) (hb : c.code = cc) (hr : meth.sig.returnType = some .boolean) (hlk : meth.locks = false) (hn : narrow .boolean (.int v) = .int v) (hK : va_K D vwCl tys s) (hI : wk_I D A s.heap H locs w) (hw : w = wf u) (hp : post v u) (hdg : decode cc pc = .ok (.ireturn, 1)) : W p l e R s m args below meth c H locs cells slots (MQ below (va_Qi post (wk_B D tys A wf) A) args s cells slots A) (F0 m pc ls [.int v]) := by
  subst hw
  exact W.zret hx hb hr hn (fun t ht hW => ⟨⟨v, u, rfl, hp, by rw [ht]; exact hI.1, va_K.moved hW.alike hK, hI.2.1⟩, hI.2.2.F ht⟩) hI.2.2.2.2 hdg hlk
theorem wk_rl {S : Type} {wf : S → va_W} {post : Int64 → S → Prop} {v : Int64} (u : S) (hx : p.tables.exec = Jvm.exec) (hb : c.code = cc) (hr : meth.sig.returnType = some .long) (hlk : meth.locks = false) (hK : va_K D vwCl tys s) (hI : wk_I D A s.heap H locs w) (hw : w = wf u) (hp : post v u) (hdg : decode cc pc = .ok (.lreturn, 1)) : W p l e R s m args below meth c H locs cells slots (MQ below (va_Ql post (wk_B D tys A wf) A) args s cells slots A) (F0 m pc ls [.long v]) := by
  subst hw
  exact W.lret hx hb hr (fun t ht hW => ⟨⟨v, u, rfl, hp, by rw [ht]; exact hI.1, va_K.moved hW.alike hK, hI.2.1⟩, hI.2.2.F ht⟩) hI.2.2.2.2 hdg hlk
theorem wk_rv {S : Type} {wf : S → va_W} {post : S → Prop} (u : S) (hx : p.tables.exec = Jvm.exec) (hb : c.code = cc) (hr : meth.sig.returnType = none) (hlk : meth.locks = false) (hK : va_K D vwCl tys s) (hI : wk_I D A s.heap H locs w) (hw : w = wf u) (hp : post u) (hdg : decode cc pc = .ok (.return_, 1)) : W p l e R s m args below meth c H locs cells slots (MQ below (va_Qv post (wk_B D tys A wf) A) args s cells slots A) (F0 m pc ls []) := by
  subst hw
  exact W.vret hx hb hr (fun t ht hW => ⟨⟨u, rfl, hp, by rw [ht]; exact hI.1, va_K.moved hW.alike hK, hI.2.1⟩, hI.2.2.F ht⟩) hI.2.2.2.2 hdg hlk
theorem wk_rq {S : Type} {wf : S → va_W} {post : Option Nat → S → Prop} {r : Option Nat} {n : String} (u : S) (hx : p.tables.exec = Jvm.exec) (hb : c.code = cc) (hr : meth.sig.returnType = some (.object n)) (hlk : meth.locks = false) (hK : va_K D vwCl tys s) (hI : wk_I D A s.heap H locs w) (hw : w = wf u) (hp : post r u) (hdg : decode cc pc = .ok (.areturn, 1)) : W p l e R s m args below meth c H locs cells slots (MQ below (va_Qq post (wk_B D tys A wf) A) args s cells slots A) (F0 m pc ls [va_rf r]) := by
  subst hw
  exact W.aret hx hb hr (Or.inl ⟨n, rfl⟩) (va_rf_or r) (fun t ht hW => ⟨⟨r, u, rfl, hp, by rw [ht]; exact hI.1, va_K.moved hW.alike hK, hI.2.1⟩, hI.2.2.F ht⟩) hI.2.2.2.2 hdg hlk
-- fields and arrays
theorem wk_get (hx : p.tables.exec = Jvm.exec) (hb : c.code = cc) {own ref C : String} {T : u_T} {N ci index b : Nat} {Ts : List Cond} (hts : ∀ w ∈ Ts, w.before args s = true) (hin : ∀ w ∈ u_ws C T N, w ∈ Ts) (hown : s.vm.findClass own = some m.cls) (hK : va_K D vwCl tys s) (hI : wk_I D A H0 H locs w) (q0 : Nat) {fs : List Value} (he : w[q0]? = some (b, .inr (ci, fs))) (hc : vwCl[ci]? = some (C, T, N)) (k : Nat) (hk : k < N) (hlink : (Cond.fieldLink own index ref (T k).2.1 (T k).2.2.1).before args s = true) (hsame : (T k).1 = ref) {v : Value} (hv : fs[k]? = some v) (hdg : decode cc pc = .ok (.getfield index, 3))
    (kk : W p l e R s m args below meth c H locs cells slots Q (F0 m (pc + 3) ls (v :: rest))) : W p l e R s m args below meth c H locs cells slots Q (F0 m pc ls (.ref b :: rest)) :=
  va_get hx hb hts hin hown hK hI.1 q0 he hc k hk hlink (fun _ h9 => by rw [← hsame]; exact h9) hv hdg kk
theorem wk_put (hx : p.tables.exec = Jvm.exec) (hb : c.code = cc) {own ref C : String} {T : u_T} {N ci index b : Nat} {Ts : List Cond} (hts : ∀ w ∈ Ts, w.before args s = true) (hin : ∀ w ∈ u_ws C T N, w ∈ Ts) (ty0 : Nat → FieldType) (hty : ∀ k, k < N → parseFieldDescriptor (T k).2.2.1 = some (ty0 k)) (hnm : ∀ a, a < N → ∀ b, b < N → a ≠ b → (T a).2.1 ≠ (T b).2.1) (hown : s.vm.findClass own = some m.cls) (hK : va_K D vwCl tys s) (hI : wk_I D A H0 H locs w) (q0 : Nat) {fs : List Value} (he : w[q0]? = some (b, .inr (ci, fs))) (hc : vwCl[ci]? = some (C, T, N)) (k : Nat) (hk : k < N) (hlink : (Cond.fieldLink own index ref (T k).2.1 (T k).2.2.1).before args s = true) (hsame : (T k).1 = ref) (hfin : (T k).2.2.2 = false) {ty : FieldType} {v : Value} (hd : parseFieldDescriptor (T k).2.2.1 = some ty) (hn : narrow ty v = v) (hfit : fits ty v = true) (hl : k < fs.length) (hw' : w.set q0 (b, .inr (ci, fs.set k v)) = w')
    (hdg : decode cc pc = .ok (.putfield index, 3)) (kk : ∀ (H1 : Heap) (locs1 : List Loc), wk_I D A H0 H1 locs1 w' → W p l e R s m args below meth c H1 locs1 cells slots Q (F0 m (pc + 3) ls rest)) : W p l e R s m args below meth c H locs cells slots Q (F0 m pc ls (v :: .ref b :: rest)) := by
  subst hw'
  exact va_put hx hb hts hin ty0 hty hnm hown hK hI.1 hI.2.1 hI.2.2 q0 he hc k hk hlink (fun _ h9 => by rw [← hsame]; exact h9) hfin hd hn hfit hl hdg (fun H1 locs1 h1 h2 h3 => kk H1 locs1 ⟨h1, h2, h3⟩)
theorem wk_putF (hx : p.tables.exec = Jvm.exec) (hb : c.code = cc) {own ref C : String} {T : u_T} {N ci index b : Nat} {Ts : List Cond} (hts : ∀ w ∈ Ts, w.before args s = true) (hin : ∀ w ∈ u_ws C T N, w ∈ Ts) (ty0 : Nat → FieldType) (hty : ∀ k, k < N → parseFieldDescriptor (T k).2.2.1 = some (ty0 k)) (hnm : ∀ a, a < N → ∀ b, b < N → a ≠ b → (T a).2.1 ≠ (T b).2.1) (hown : s.vm.findClass own = some m.cls) (hK : va_K D vwCl tys s) (hI : wk_I D A H0 H locs w) (q0 : Nat) {fs : List Value} (he : w[q0]? = some (b, .inr (ci, fs))) (hc : vwCl[ci]? = some (C, T, N)) (k : Nat) (hk : k < N) (hlink : (Cond.fieldLink own index ref (T k).2.1 (T k).2.2.1).before args s = true) (hsame : (T k).1 = ref) (hfin : (T k).2.2.2 = true) (hin2 : meth.name = "<init>") (hdecl : (T k).1 = own) {ty : FieldType} {v : Value} (hd : parseFieldDescriptor (T k).2.2.1 = some ty) (hn : narrow ty v = v) (hfit : fits ty v = true) (hl : k < fs.length) (hw' : w.set q0 (b, .inr (ci, fs.set k v)) = w')
    (hdg : decode cc pc = .ok (.putfield index, 3)) (kk : ∀ (H1 : Heap) (locs1 : List Loc), wk_I D A H0 H1 locs1 w' → W p l e R s m args below meth c H1 locs1 cells slots Q (F0 m (pc + 3) ls rest)) : W p l e R s m args below meth c H locs cells slots Q (F0 m pc ls (v :: .ref b :: rest)) := by
  subst hw'
  exact va_putF hx hb hts hin ty0 hty hnm hown hK hI.1 hI.2.1 hI.2.2 q0 he hc k hk hlink (fun _ h9 => by rw [← hsame]; exact h9) hfin hin2 hdecl hd hn hfit hl hdg (fun H1 locs1 h1 h2 h3 => kk H1 locs1 ⟨h1, h2, h3⟩)
theorem wk_iald (hx : p.tables.exec = Jvm.exec) (hb : c.code = cc) (hK : va_K D vwCl tys s) (hI : wk_I D A H0 H locs w) (q0 t0 : Nat) {cA : ClassId} {n b : Nat} {f : Nat → Int32} (ha : w[q0]? = some (b, .inl (cA, n, .inl f))) (ht : tys[t0]? = some (cA, .int)) {i : Int32} {j : Nat} {v : Int32} (hi : i = nI j) (hj : j < n) (hn : n < 2 ^ 31) (hv : f j = v) (hdg : decode cc pc = .ok (.iaload, 1))
    (kk : W p l e R s m args below meth c H locs cells slots Q (F0 m (pc + 1) ls (.int v :: rest))) : W p l e R s m args below meth c H locs cells slots Q (F0 m pc ls (.int i :: .ref b :: rest)) := by
  subst hi; subst hv
  refine va_iald hx hb hK hI.1 q0 t0 ha ht (vp_in_nI hj hn) hdg ?_
  rw [nI_clamp (Nat.lt_trans hj hn)]
  exact kk
theorem wk_lald (hx : p.tables.exec = Jvm.exec) (hb : c.code = cc) (hK : va_K D vwCl tys s) (hI : wk_I D A H0 H locs w) (q0 t0 : Nat) {cA : ClassId} {n b : Nat} {f : Nat → Int64} (ha : w[q0]? = some (b, .inl (cA, n, .inr (.inl f)))) (ht : tys[t0]? = some (cA, .long)) {i : Int32} {j : Nat} {v : Int64} (hi : i = nI j) (hj : j < n) (hn : n < 2 ^ 31) (hv : f j = v) (hdg : decode cc pc = .ok (.laload, 1))
    (kk : W p l e R s m args below meth c H locs cells slots Q (F0 m (pc + 1) ls (.long v :: rest))) : W p l e R s m args below meth c H locs cells slots Q (F0 m pc ls (.int i :: .ref b :: rest)) := by
  subst hi; subst hv
  refine va_lald hx hb hK hI.1 q0 t0 ha ht (vp_in_nI hj hn) hdg ?_
  rw [nI_clamp (Nat.lt_trans hj hn)]
  exact kk
theorem wk_aald (hx : p.tables.exec = Jvm.exec) (hb : c.code = cc) (hK : va_K D vwCl tys s) (hI : wk_I D A H0 H locs w) (q0 t0 : Nat) {cA : ClassId} {C : String} {n b : Nat} {f : Nat → Option Nat} (ha : w[q0]? = some (b, .inl (cA, n, .inr (.inr (.inr (.inr f)))))) (ht : tys[t0]? = some (cA, .object C)) {i : Int32} {j : Nat} {v : Nat} (hi : i = nI j) (hj : j < n) (hn : n < 2 ^ 31) (hv : f j = some v) (hdg : decode cc pc = .ok (.aaload, 1))
    (kk : W p l e R s m args below meth c H locs cells slots Q (F0 m (pc + 1) ls (.ref v :: rest))) : W p l e R s m args below meth c H locs cells slots Q (F0 m pc ls (.int i :: .ref b :: rest)) := by
  subst hi
  refine va_aldq hx hb hK hI.1 q0 t0 ha ht (vp_in_nI hj hn) hdg ?_
  rw [nI_clamp (Nat.lt_trans hj hn), hv]
  exact kk
theorem wk_iast (hx : p.tables.exec = Jvm.exec) (hb : c.code = cc) (hK : va_K D vwCl tys s) (hI : wk_I D A H0 H locs w) (q0 t0 : Nat) {cA : ClassId} {n b : Nat} {f : Nat → Int32} (ha : w[q0]? = some (b, .inl (cA, n, .inl f))) (ht : tys[t0]? = some (cA, .int)) {i x : Int32} {j : Nat} (hi : i = nI j) (hj : j < n) (hn : n < 2 ^ 31) (hw' : w.set q0 (b, .inl (cA, n, .inl (upd f j x))) = w') (hdg : decode cc pc = .ok (.iastore, 1))
    (kk : ∀ (H1 : Heap) (locs1 : List Loc), wk_I D A H0 H1 locs1 w' → W p l e R s m args below meth c H1 locs1 cells slots Q (F0 m (pc + 1) ls rest)) : W p l e R s m args below meth c H locs cells slots Q (F0 m pc ls (.int x :: .int i :: .ref b :: rest)) := by
  subst hi; subst hw'
  refine va_iast hx hb hK hI.1 hI.2.1 hI.2.2 q0 t0 ha ht (vp_in_nI hj hn) hdg (fun H1 locs1 h1 h2 h3 => kk H1 locs1 ?_)
  rw [nI_clamp (Nat.lt_trans hj hn)] at h1 h2
  exact ⟨h1, h2, h3⟩
theorem wk_last (hx : p.tables.exec = Jvm.exec) (hb : c.code = cc) (hK : va_K D vwCl tys s) (hI : wk_I D A H0 H locs w) (q0 t0 : Nat) {cA : ClassId} {n b : Nat} {f : Nat → Int64} (ha : w[q0]? = some (b, .inl (cA, n, .inr (.inl f)))) (ht : tys[t0]? = some (cA, .long)) {i : Int32} {x : Int64} {j : Nat} (hi : i = nI j) (hj : j < n) (hn : n < 2 ^ 31) (hw' : w.set q0 (b, .inl (cA, n, .inr (.inl (vp_updL f j x)))) = w') (hdg : decode cc pc = .ok (.lastore, 1))
    (kk : ∀ (H1 : Heap) (locs1 : List Loc), wk_I D A H0 H1 locs1 w' → W p l e R s m args below meth c H1 locs1 cells slots Q (F0 m (pc + 1) ls rest)) : W p l e R s m args below meth c H locs cells slots Q (F0 m pc ls (.long x :: .int i :: .ref b :: rest)) := by
  subst hi; subst hw'
  refine va_last hx hb hK hI.1 hI.2.1 hI.2.2 q0 t0 ha ht (vp_in_nI hj hn) hdg (fun H1 locs1 h1 h2 h3 => kk H1 locs1 ?_)
  rw [nI_clamp (Nat.lt_trans hj hn)] at h1 h2
  exact ⟨h1, h2, h3⟩
-- what a call asks
theorem wk_cwV {Ts : List Cond} {own C : String} {index nL : Nat} {y : MethodName} {bytes : ByteArray} {ret : Option FieldType} {rm : Room} (n : Nat) (ht : ∀ w ∈ Ts, w.before args s = true) (hb : ∀ w ∈ wk_T, w ∈ Ts) (h1 : Cond.methodLink own index y ∈ wk_T) (h2 : Cond.instanceMethod y ∈ wk_T) (h3 : Cond.selects C y y ∈ wk_T) (h4 : Cond.initialized C ∈ wk_T) (h5 : Cond.code y bytes nL ret ∈ wk_T)
    (hd : y.cls = C ∧ y.cls ≠ "java/lang/invoke/MethodHandle" ∧ y.cls ≠ "java/lang/invoke/VarHandle" ∧ (parseMethodDescriptor y.desc).map (fun d => d.parameters.length) = some n) (hR : rm.frames + 1 ≤ R.frames ∧ 8 + (nL + 11) + rm.locals ≤ R.locals) : CallW R s args own C index y bytes nL ret (wk_M y bytes nL ret) rm rm.cells rm.slots n := by
  refine cwV n ht (goodIn_app ?_ (wk_good hb h5)) rfl rfl rfl hd hR
  refine wk_goodT hb ?_
  intro w hw
  simp only [List.mem_cons, List.not_mem_nil, or_false] at hw
  rcases hw with rfl | rfl | rfl | rfl <;> assumption
theorem wk_cwS {Ts : List Cond} {own : String} {index nL : Nat} {y : MethodName} {bytes : ByteArray} {ret : Option FieldType} {rm : Room} (n : Nat) (ht : ∀ w ∈ Ts, w.before args s = true) (hb : ∀ w ∈ wk_T, w ∈ Ts) (h1 : Cond.methodLink own index y ∈ wk_T) (h2 : Cond.static y ∈ wk_T) (h4 : Cond.initialized y.cls ∈ wk_T) (h5 : Cond.code y bytes nL ret ∈ wk_T)
    (hd : y.cls ≠ "java/lang/invoke/MethodHandle" ∧ y.cls ≠ "java/lang/invoke/VarHandle" ∧ (parseMethodDescriptor y.desc).map (fun d => d.parameters.length) = some n) (hR : rm.frames + 1 ≤ R.frames ∧ 8 + (nL + 11) + rm.locals ≤ R.locals) : CallB R s args own index y bytes nL ret (wk_M y bytes nL ret) rm rm.cells rm.slots n ∧ (Cond.static y).before args s = true :=
  ⟨callB_of n ht (wk_good hb h5) rfl rfl rfl (ht _ (hb _ h4)) (ht _ (hb _ h1)) hd hR, ht _ (hb _ h2)⟩
theorem wk_cwU {Ts : List Cond} {own C owner : String} {index nL : Nat} {x y : MethodName} {bytes : ByteArray} {ret : Option FieldType} {rm : Room} (n : Nat) (ht : ∀ w ∈ Ts, w.before args s = true) (hb : ∀ w ∈ wk_T, w ∈ Ts) (h1 : Cond.methodLink own index x ∈ wk_T) (h2 : Cond.sameMethod x.cls owner x.name x.desc ∈ wk_T) (h3 : Cond.selects C x y ∈ wk_T) (h4 : Cond.instanceMethod y ∈ wk_T) (h6 : Cond.initialized y.cls ∈ wk_T) (h5 : Cond.code y bytes nL ret ∈ wk_T) (hdecl : va_Decl s ⟨owner, x.name, x.desc⟩)
    (hd : owner ≠ "java/lang/invoke/MethodHandle" ∧ owner ≠ "java/lang/invoke/VarHandle" ∧ (parseMethodDescriptor x.desc).map (fun d => d.parameters.length) = some n) (hR : rm.frames + 1 ≤ R.frames ∧ 8 + (nL + 11) + rm.locals ≤ R.locals) : va_CU R s args own C owner index x y bytes nL ret (wk_M y bytes nL ret) rm rm.cells rm.slots n := by
  refine ⟨⟨rfl, rfl, hR.1, hR.2, pay_in ht (wk_good hb h5), List.mem_cons_self⟩, ht _ (hb _ h5), ht _ (hb _ h6), ⟨hd.1, hd.2.1⟩, fun sig h => ?_, ht _ (hb _ h1), ht _ (hb _ h2), hdecl, ht _ (hb _ h3), ht _ (hb _ h4)⟩
  have h2 := hd.2.2
  rw [h] at h2
  exact (Option.some.inj h2).symm
theorem wk_cwN {Ts : List Cond} {own host : String} {index nL : Nat} {y : MethodName} {bytes : ByteArray} {rm : Room} (n : Nat) (ht : ∀ w ∈ Ts, w.before args s = true) (hb : ∀ w ∈ wk_T, w ∈ Ts) (h1 : va_Nw (.methodLinkNest own index y host) s) (h2 : Cond.instanceMethod y ∈ wk_T) (h4 : Cond.initialized y.cls ∈ wk_T) (h5 : Cond.code y bytes nL none ∈ wk_T) (hy1 : y.name = "<init>")
    (hd : y.cls ≠ "java/lang/invoke/MethodHandle" ∧ y.cls ≠ "java/lang/invoke/VarHandle" ∧ (parseMethodDescriptor y.desc).map (fun d => d.parameters.length) = some n) (hR : rm.frames + 1 ≤ R.frames ∧ 8 + (nL + 11) + rm.locals ≤ R.locals) : va_CN R s args own index y host bytes nL none (wk_M y bytes nL none) rm rm.cells rm.slots n ∧ y.name = "<init>" ∧ (Cond.instanceMethod y).before args s = true := by
  refine ⟨⟨⟨rfl, rfl, hR.1, hR.2, pay_in ht (wk_good hb h5), List.mem_cons_self⟩, ht _ (hb _ h5), ht _ (hb _ h4), ⟨hd.1, hd.2.1⟩, fun sig h => ?_, va_Nw.use rfl h1⟩, hy1, ht _ (hb _ h2)⟩
  have h2 := hd.2.2
  rw [h] at h2
  exact (Option.some.inj h2).symm
end LAYER
end
section
/-! THE TWO PICTURES: the class's cells (wx_W) and the reference's (wm_W), of one state -/
abbrev wk_tys (cI cJ cS : ClassId) : List (ClassId × FieldType) := [(cI, .int), (cJ, .long), (cS, .object RX8)]
def wx_mp (ad : Nat → Nat) (n i : Nat) : Option Nat := if i < n then some (ad (16 + i)) else none
def wx_lp (ad : Nat → Nat) (n : Nat) : Option Nat := if n = 0 then none else some (ad (16 + (n - 1)))
def wx_rks (ad : Nat → Nat) : Nat → Option Nat := fun r => if r < 8 then some (ad (8 + r)) else none
def wx_mem (ad : Nat → Nat) (σ : wk_St) (i : Nat) : Nat × va_E := (ad (16 + i), .inr (6, [.int (nI i), .int (wk_sk σ i), .int (nI (wk_rk σ i)), .ref (ad (8 + wk_rk σ i)), .int (wk_we σ i), .long (wk_pu σ i), va_rf (wx_mp ad (wk_n σ) (i + 1))]))
def wx_F (cI cS : ClassId) (ad : Nat → Nat) (σ : wk_St) : va_W :=
  [(ad 0, .inr (10, [.ref (ad 1), .ref (ad 2), .ref (ad 3), .ref (ad 4), .ref (ad 5), .ref (ad 6)])),
   (ad 1, .inr (2, [va_rf (wx_mp ad (wk_n σ) 0), va_rf (wx_lp ad (wk_n σ)), .int (nI (wk_n σ)), .ref (ad 7), .int (nI (wk_nt σ))])),
   (ad 2, .inl (cS, 8, .inr (.inr (.inr (.inr (wx_rks ad)))))),
   (ad 3, .inl (cI, 8, .inl (wk_ld σ))), (ad 4, .inl (cI, 8, .inl (wk_ln σ))), (ad 5, .inl (cI, 8, .inl (wk_ll σ))), (ad 6, .inl (cI, 8, .inl (wk_lh σ))), (ad 7, .inl (cI, 64, .inl (wk_kp σ))),
   (ad 8, .inr (3, [])), (ad 9, .inr (7, [])), (ad 10, .inr (9, [])), (ad 11, .inr (0, [])), (ad 12, .inr (5, [])), (ad 13, .inr (4, [])), (ad 14, .inr (1, [])), (ad 15, .inr (8, []))]
def wx_W (cI cS : ClassId) (ad : Nat → Nat) (σ : wk_St) : va_W := wx_F cI cS ad σ ++ (List.range (wk_n σ)).map (wx_mem ad σ)
def wx_ci (r : Nat) : Nat := match r with
  | 0 => 3
  | 1 => 7
  | 2 => 9
  | 3 => 0
  | 4 => 5
  | 5 => 4
  | 6 => 1
  | _ => 8
section PIC
variable {cI cJ cS : ClassId} {ad : Nat → Nat} {σ : wk_St}
theorem wx_e0 : (wx_W cI cS ad σ)[0]? = some (ad 0, .inr (10, [.ref (ad 1), .ref (ad 2), .ref (ad 3), .ref (ad 4), .ref (ad 5), .ref (ad 6)])) := rfl
theorem wx_e1 : (wx_W cI cS ad σ)[1]? = some (ad 1, .inr (2, [va_rf (wx_mp ad (wk_n σ) 0), va_rf (wx_lp ad (wk_n σ)), .int (nI (wk_n σ)), .ref (ad 7), .int (nI (wk_nt σ))])) := rfl
theorem wx_e2 : (wx_W cI cS ad σ)[2]? = some (ad 2, .inl (cS, 8, .inr (.inr (.inr (.inr (wx_rks ad)))))) := rfl
theorem wx_e3 : (wx_W cI cS ad σ)[3]? = some (ad 3, .inl (cI, 8, .inl (wk_ld σ))) := rfl
theorem wx_e4 : (wx_W cI cS ad σ)[4]? = some (ad 4, .inl (cI, 8, .inl (wk_ln σ))) := rfl
theorem wx_e5 : (wx_W cI cS ad σ)[5]? = some (ad 5, .inl (cI, 8, .inl (wk_ll σ))) := rfl
theorem wx_e6 : (wx_W cI cS ad σ)[6]? = some (ad 6, .inl (cI, 8, .inl (wk_lh σ))) := rfl
theorem wx_e7 : (wx_W cI cS ad σ)[7]? = some (ad 7, .inl (cI, 64, .inl (wk_kp σ))) := rfl
theorem wx_er {r : Nat} (h : r < 8) : (wx_W cI cS ad σ)[8 + r]? = some (ad (8 + r), .inr (wx_ci r, [])) := by
  rcases (show r = 0 ∨ r = 1 ∨ r = 2 ∨ r = 3 ∨ r = 4 ∨ r = 5 ∨ r = 6 ∨ r = 7 by omega) with rfl | rfl | rfl | rfl | rfl | rfl | rfl | rfl <;> rfl
theorem wx_F_len : (wx_F cI cS ad σ).length = 16 := rfl
theorem wx_em {k : Nat} (h : k < wk_n σ) : (wx_W cI cS ad σ)[16 + k]? = some (ad (16 + k), .inr (6, [.int (nI k), .int (wk_sk σ k), .int (nI (wk_rk σ k)), .ref (ad (8 + wk_rk σ k)), .int (wk_we σ k), .long (wk_pu σ k), va_rf (wx_mp ad (wk_n σ) (k + 1))])) := by
  show (wx_F cI cS ad σ ++ (List.range (wk_n σ)).map (wx_mem ad σ))[16 + k]? = _
  rw [List.getElem?_append_right (by rw [wx_F_len]; omega), wx_F_len, Nat.add_sub_cancel_left, List.getElem?_map, List.getElem?_range h]
  rfl
theorem wx_setG {F : va_W} {f g : Nat → Nat × va_E} {n k : Nat} (hF : F.length = 16) (hk : k < n) (h : ∀ i, i < n → i ≠ k → f i = g i) : (F ++ (List.range n).map f).set (16 + k) (g k) = F ++ (List.range n).map g := by
  rw [List.set_append_right _ _ (by omega), hF, Nat.add_sub_cancel_left]
  congr 1
  apply List.ext_getElem?
  intro i
  rw [List.getElem?_set]
  by_cases hi : k = i
  · subst hi
    simp [hk]
  · rw [if_neg hi, List.getElem?_map, List.getElem?_map]
    by_cases hn : i < n
    · rw [List.getElem?_range hn]
      exact congrArg some (h i hn (Ne.symm hi))
    · rw [List.getElem?_eq_none (by simp; omega)]
      rfl
theorem wx_sNt (c : Nat) : (wx_W cI cS ad σ).set 1 (ad 1, .inr (2, [va_rf (wx_mp ad (wk_n σ) 0), va_rf (wx_lp ad (wk_n σ)), .int (nI (wk_n σ)), .ref (ad 7), .int (nI c)])) = wx_W cI cS ad (wk_sNt σ c) := rfl
theorem wx_sKp (f : Nat → Int32) : (wx_W cI cS ad σ).set 7 (ad 7, .inl (cI, 64, .inl f)) = wx_W cI cS ad (wk_sKp σ f) := rfl
theorem wx_sLd (f : Nat → Int32) : (wx_W cI cS ad σ).set 3 (ad 3, .inl (cI, 8, .inl f)) = wx_W cI cS ad (wk_sLd σ f) := rfl
theorem wx_sLn (f : Nat → Int32) : (wx_W cI cS ad σ).set 4 (ad 4, .inl (cI, 8, .inl f)) = wx_W cI cS ad (wk_sLn σ f) := rfl
theorem wx_sLl (f : Nat → Int32) : (wx_W cI cS ad σ).set 5 (ad 5, .inl (cI, 8, .inl f)) = wx_W cI cS ad (wk_sLl σ f) := rfl
theorem wx_sLh (f : Nat → Int32) : (wx_W cI cS ad σ).set 6 (ad 6, .inl (cI, 8, .inl f)) = wx_W cI cS ad (wk_sLh σ f) := rfl
theorem wx_sWe {k : Nat} (hk : k < wk_n σ) (x : Int32) : (wx_W cI cS ad σ).set (16 + k) (ad (16 + k), .inr (6, [.int (nI k), .int (wk_sk σ k), .int (nI (wk_rk σ k)), .ref (ad (8 + wk_rk σ k)), .int x, .long (wk_pu σ k), va_rf (wx_mp ad (wk_n σ) (k + 1))])) = wx_W cI cS ad (wk_sWe σ (upd (wk_we σ) k x)) := by
  refine Eq.trans ?_ (wx_setG (F := wx_F cI cS ad σ) (f := wx_mem ad σ) (g := wx_mem ad (wk_sWe σ (upd (wk_we σ) k x))) wx_F_len hk (fun i _ hi => ?_))
  · show _ = (wx_W cI cS ad σ).set (16 + k) _
    congr 1
    show _ = wx_mem ad (wk_sWe σ (upd (wk_we σ) k x)) k
    simp only [wx_mem, wk_sWe, wk_we, wk_sk, wk_rk, wk_pu, wk_n, upd, if_pos]
  · simp only [wx_mem, wk_sWe, wk_we, wk_sk, wk_rk, wk_pu, wk_n, upd, if_neg hi]
theorem wx_sPu {k : Nat} (hk : k < wk_n σ) (x : Int64) : (wx_W cI cS ad σ).set (16 + k) (ad (16 + k), .inr (6, [.int (nI k), .int (wk_sk σ k), .int (nI (wk_rk σ k)), .ref (ad (8 + wk_rk σ k)), .int (wk_we σ k), .long x, va_rf (wx_mp ad (wk_n σ) (k + 1))])) = wx_W cI cS ad (wk_sPu σ (vp_updL (wk_pu σ) k x)) := by
  refine Eq.trans ?_ (wx_setG (F := wx_F cI cS ad σ) (f := wx_mem ad σ) (g := wx_mem ad (wk_sPu σ (vp_updL (wk_pu σ) k x))) wx_F_len hk (fun i _ hi => ?_))
  · show _ = (wx_W cI cS ad σ).set (16 + k) _
    congr 1
    show _ = wx_mem ad (wk_sPu σ (vp_updL (wk_pu σ) k x)) k
    simp only [wx_mem, wk_sPu, wk_we, wk_sk, wk_rk, wk_pu, wk_n, vp_updL, if_pos]
  · simp only [wx_mem, wk_sPu, wk_we, wk_sk, wk_rk, wk_pu, wk_n, vp_updL, if_neg hi]
end PIC
def wm_W (cI cJ : ClassId) (am : Nat → Nat) (σ : wk_St) : va_W :=
  [(am 0, .inr (11, [.int (nI (wk_n σ)), .ref (am 1), .ref (am 2), .ref (am 3), .ref (am 4), .ref (am 5), .ref (am 6), .ref (am 7), .ref (am 8), .ref (am 9), .int (nI (wk_nt σ))])),
   (am 1, .inl (cI, 12, .inl (fun j => nI (wk_rk σ j)))), (am 2, .inl (cI, 12, .inl (wk_sk σ))), (am 3, .inl (cI, 12, .inl (wk_we σ))), (am 4, .inl (cJ, 12, .inr (.inl (wk_pu σ)))),
   (am 5, .inl (cI, 8, .inl (wk_ld σ))), (am 6, .inl (cI, 8, .inl (wk_ln σ))), (am 7, .inl (cI, 8, .inl (wk_ll σ))), (am 8, .inl (cI, 8, .inl (wk_lh σ))), (am 9, .inl (cI, 64, .inl (wk_kp σ)))]
end
section
/-! PURE ROWS: answers and states; what a duty leaves as it was -/
theorem wk_post {α β : Type} {P : α × β} {a : α} {b : β} (h : (a, b) = P) : a = P.1 ∧ b = P.2 := by subst h; exact ⟨rfl, rfl⟩
noncomputable def wk_b (c : Prop) : Int32 := wk_if c 1 0
theorem wk_bT {c : Prop} (h : c) : (1 : Int32) = wk_b c := (wk_ifT h).symm
theorem wk_bF {c : Prop} (h : ¬ c) : (0 : Int32) = wk_b c := (wk_ifF h).symm
theorem wk_b0 {c : Prop} (h : wk_b c = 0) : ¬ c := fun hc => by rw [← wk_bT hc] at h; exact absurd h (by decide)
theorem wk_b1 {c : Prop} (h : ¬ wk_b c = 0) : c := Classical.byContradiction fun hc => h (wk_bF hc).symm
/-- the skeleton stays, and at most c notes come -/
def wk_G (σ τ : wk_St) (c : Nat) : Prop := (wk_n τ = wk_n σ ∧ wk_rk τ = wk_rk σ ∧ wk_sk τ = wk_sk σ ∧ wk_ld τ = wk_ld σ ∧ wk_ln τ = wk_ln σ ∧ wk_ll τ = wk_ll σ ∧ wk_lh τ = wk_lh σ) ∧ wk_nt τ ≤ wk_nt σ + c
theorem wk_G.rf (σ : wk_St) (c : Nat) : wk_G σ σ c := ⟨⟨rfl, rfl, rfl, rfl, rfl, rfl, rfl⟩, Nat.le_add_right _ _⟩
theorem wk_G.trans {σ τ υ : wk_St} {a b : Nat} (h : wk_G σ τ a) (k : wk_G τ υ b) : wk_G σ υ (a + b) := by
  obtain ⟨⟨h1, h2, h3, h4, h5, h6, h7⟩, h8⟩ := h
  obtain ⟨⟨k1, k2, k3, k4, k5, k6, k7⟩, k8⟩ := k
  exact ⟨⟨k1.trans h1, k2.trans h2, k3.trans h3, k4.trans h4, k5.trans h5, k6.trans h6, k7.trans h7⟩, by omega⟩
theorem wk_G.up {σ τ : wk_St} {a b : Nat} (h : wk_G σ τ a) (hb : a ≤ b) : wk_G σ τ b := ⟨h.1, Nat.le_trans h.2 (Nat.add_le_add_left hb _)⟩
theorem wk_G.n {σ τ : wk_St} {a : Nat} (h : wk_G σ τ a) : wk_n τ = wk_n σ := h.1.1
theorem wk_G.rk {σ τ : wk_St} {a : Nat} (h : wk_G σ τ a) : wk_rk τ = wk_rk σ := h.1.2.1
theorem wk_G.nt {σ τ : wk_St} {a : Nat} (h : wk_G σ τ a) : wk_nt τ ≤ wk_nt σ + a := h.2
theorem wk_G.lt {σ τ : wk_St} {a k : Nat} (h : wk_G σ τ a) (hk : k < wk_n σ) : k < wk_n τ := by rw [h.n]; exact hk
/-- at most twelve members, each of a rank -/
def wk_V (σ : wk_St) : Prop := wk_n σ ≤ 12 ∧ ∀ i, i < wk_n σ → wk_rk σ i < 8
theorem wk_G.V {σ τ : wk_St} {a : Nat} (h : wk_G σ τ a) (hV : wk_V σ) : wk_V τ := by
  refine ⟨by rw [h.n]; exact hV.1, fun i hi => ?_⟩
  rw [h.rk]
  exact hV.2 i (by rw [← h.n]; exact hi)
theorem wk_V.rk {σ : wk_St} (hV : wk_V σ) {k : Nat} (hk : k < wk_n σ) : wk_rk σ k < 8 := hV.2 k hk
theorem wk_g_note (σ : wk_St) (v : Int32) : wk_G σ (wk_note σ v) 1 := ⟨⟨rfl, rfl, rfl, rfl, rfl, rfl, rfl⟩, Nat.le_refl _⟩
theorem wk_g_tire (σ : wk_St) (k : Nat) (x : Int32) : wk_G σ (wk_tire σ k x) 0 := ⟨⟨rfl, rfl, rfl, rfl, rfl, rfl, rfl⟩, Nat.le_refl _⟩
theorem wk_g_soulToil (σ : wk_St) (k : Nat) (n : Int32) : wk_G σ (wk_soulToil σ k n).2 1 := (wk_g_note σ 80).trans (wk_g_tire _ k n)
theorem wk_g_topToil (σ : wk_St) (k : Nat) (n : Int32) : wk_G σ (wk_topToil σ k n).2 2 := by
  refine (wk_g_note σ 20).trans (b := 1) ?_
  unfold wk_topToil wk_topToil1
  split
  · exact wk_g_soulToil _ _ _
  · exact wk_G.rf _ _
theorem wk_g_mateToil (σ : wk_St) (k : Nat) (n : Int32) : wk_G σ (wk_mateToil σ k n).2 5 :=
  (wk_g_note σ 40).trans (b := 4) ((wk_g_topToil _ _ _).trans (wk_g_topToil _ _ _))
theorem wk_g_masterToil (σ : wk_St) (k : Nat) (n : Int32) : wk_G σ (wk_masterToil σ k n).2 6 := by
  refine (wk_g_note σ 50).trans (b := 5) ?_
  unfold wk_masterToil wk_masterToil1
  split
  · exact wk_g_mateToil _ _ _
  · exact wk_g_mateToil _ _ _
theorem wk_g_cookToil (σ : wk_St) (k : Nat) (n : Int32) : wk_G σ (wk_cookToil σ k n).2 2 :=
  (wk_g_note σ 60).trans (b := 1) ((wk_g_soulToil _ _ _).trans (wk_g_tire _ _ _))
theorem wk_g_toilR (r : Nat) (σ : wk_St) (k : Nat) (n : Int32) : wk_G σ (wk_toilR r σ k n).2 6 := by
  unfold wk_toilR
  split
  · exact (wk_g_soulToil _ _ _).up (by decide)
  · exact (wk_g_soulToil _ _ _).up (by decide)
  · exact (wk_g_topToil _ _ _).up (by decide)
  · exact (wk_g_topToil _ _ _).up (by decide)
  · exact (wk_g_mateToil _ _ _).up (by decide)
  · exact (wk_g_masterToil _ _ _).up (by decide)
  · exact (wk_g_cookToil _ _ _).up (by decide)
theorem wk_g_handPay (σ : wk_St) (k : Nat) (n : Int32) : wk_G σ (wk_handPay σ k n).2 1 := wk_g_note σ 1
theorem wk_g_bosunPay (σ : wk_St) (k : Nat) (n : Int32) : wk_G σ (wk_bosunPay σ k n).2 2 := (wk_g_note σ 31).trans (b := 1) (wk_g_handPay _ k n)
theorem wk_g_masterPay (σ : wk_St) (k : Nat) (n : Int32) : wk_G σ (wk_masterPay σ k n).2 3 := (wk_g_note σ 51).trans (b := 2) (wk_g_bosunPay _ k n)
theorem wk_g_surgPay (σ : wk_St) (k : Nat) (n : Int32) : wk_G σ (wk_surgPay σ k n).2 2 := (wk_g_note σ 71).trans (b := 1) (wk_g_handPay _ k n)
theorem wk_g_payR (r : Nat) (σ : wk_St) (k : Nat) (n : Int32) : wk_G σ (wk_payR r σ k n).2 3 := by
  unfold wk_payR
  split
  · exact (wk_g_handPay _ _ _).up (by decide)
  · exact (wk_g_handPay _ _ _).up (by decide)
  · exact (wk_g_handPay _ _ _).up (by decide)
  · exact (wk_g_bosunPay _ _ _).up (by decide)
  · exact (wk_g_bosunPay _ _ _).up (by decide)
  · exact (wk_g_masterPay _ _ _).up (by decide)
  · exact (wk_g_handPay _ _ _).up (by decide)
  · exact (wk_g_surgPay _ _ _).up (by decide)
theorem wk_g_soulClimb (σ : wk_St) (k : Nat) (n : Int32) : wk_G σ (wk_soulClimb σ k n).2 1 := by
  refine (wk_g_note σ 82).trans (b := 0) ?_
  unfold wk_soulClimb wk_soulClimb1
  split
  · exact wk_g_tire _ _ _
  · exact wk_G.rf _ _
theorem wk_g_sailorClimb (σ : wk_St) (k : Nat) (n : Int32) : wk_G σ (wk_sailorClimb σ k n).2 2 := by
  refine (wk_g_note σ 12).trans (b := 1) ?_
  unfold wk_sailorClimb wk_sailorClimb1
  split
  · exact (wk_g_tire _ _ _).up (by decide)
  · exact wk_g_soulClimb _ _ _
theorem wk_g_mateClimb (σ : wk_St) (k : Nat) (n : Int32) : wk_G σ (wk_mateClimb σ k n).2 3 := (wk_g_note σ 42).trans (b := 2) (wk_g_sailorClimb _ k n)
theorem wk_g_surgClimb (σ : wk_St) (k : Nat) (n : Int32) : wk_G σ (wk_surgClimb σ k n).2 2 := (wk_g_note σ 72).trans (b := 1) (wk_g_soulClimb _ k (n / 2))
theorem wk_g_climbR (r : Nat) (σ : wk_St) (k : Nat) (n : Int32) : wk_G σ (wk_climbR r σ k n).2 3 := by
  unfold wk_climbR
  split
  · exact (wk_g_soulClimb _ _ _).up (by decide)
  · exact (wk_g_sailorClimb _ _ _).up (by decide)
  · exact (wk_g_sailorClimb _ _ _).up (by decide)
  · exact (wk_g_sailorClimb _ _ _).up (by decide)
  · exact (wk_g_mateClimb _ _ _).up (by decide)
  · exact (wk_g_mateClimb _ _ _).up (by decide)
  · exact (wk_g_soulClimb _ _ _).up (by decide)
  · exact (wk_g_surgClimb _ _ _).up (by decide)
theorem wk_g_soulHeed (σ : wk_St) (k : Nat) (n : Int32) : wk_G σ (wk_soulHeed σ k n).2 1 := wk_g_note σ 83
theorem wk_g_topHeed (σ : wk_St) (k : Nat) (n : Int32) : wk_G σ (wk_topHeed σ k n).2 2 := by
  refine (wk_g_note σ 23).trans (b := 1) ?_
  unfold wk_topHeed wk_topHeed1
  split
  · dsimp only; exact wk_g_soulHeed (wk_note σ 23) k n
  · exact wk_G.rf _ _
theorem wk_g_loHeed (r : Nat) (σ : wk_St) (k : Nat) (n : Int32) : wk_G σ (wk_loHeed r σ k n).2 2 := by
  unfold wk_loHeed
  split
  · exact (wk_g_soulHeed _ _ _).up (by decide)
  · exact (wk_g_soulHeed _ _ _).up (by decide)
  · exact wk_g_topHeed _ _ _
theorem wk_g_heedL (n : Int32) (q : Int32 × wk_St) : ∀ i, wk_G q.2 (wk_heedL n q i).2 (2 * i)
  | 0 => wk_G.rf _ _
  | i + 1 => by
    have ih := wk_g_heedL n q i
    unfold wk_heedL
    split
    · exact (ih.trans (wk_g_loHeed _ _ _ _)).up (by omega)
    · exact ih.up (by omega)
theorem wk_g_bosunHeed (σ : wk_St) (k : Nat) (n : Int32) (hn : wk_n σ ≤ 12) : wk_G σ (wk_bosunHeed σ k n).2 27 :=
  ((wk_g_note σ 33).trans ((wk_g_topHeed _ k n).trans (wk_g_heedL n (wk_topHeed (wk_note σ 33) k n) (wk_n σ)))).up (by omega)
theorem wk_g_masterHeed (σ : wk_St) (k : Nat) (n : Int32) (hn : wk_n σ ≤ 12) : wk_G σ (wk_masterHeed σ k n).2 28 := by
  refine (wk_g_note σ 53).trans (b := 27) ?_
  unfold wk_masterHeed wk_masterHeed1
  split
  · exact wk_g_bosunHeed _ _ _ hn
  · exact wk_G.rf _ _
theorem wk_g_cookHeed (σ : wk_St) (k : Nat) (n : Int32) : wk_G σ (wk_cookHeed σ k n).2 2 := (wk_g_note σ 63).trans (b := 1) (wk_g_soulHeed _ k n)
theorem wk_g_heedR (r : Nat) (σ : wk_St) (k : Nat) (n : Int32) (hn : wk_n σ ≤ 12) : wk_G σ (wk_heedR r σ k n).2 28 := by
  unfold wk_heedR
  split
  · exact (wk_g_soulHeed _ _ _).up (by decide)
  · exact (wk_g_soulHeed _ _ _).up (by decide)
  · exact (wk_g_topHeed _ _ _).up (by decide)
  · exact (wk_g_bosunHeed _ _ _ hn).up (by decide)
  · exact (wk_g_bosunHeed _ _ _ hn).up (by decide)
  · exact wk_g_masterHeed _ _ _ hn
  · exact (wk_g_cookHeed _ _ _).up (by decide)
theorem wk_g_do (d : Int32) (σ : wk_St) (k : Nat) (n : Int32) (hn : wk_n σ ≤ 12) : wk_G σ (wk_do d σ k n).2 28 := by
  unfold wk_do
  split
  · exact (wk_g_toilR _ _ _ _).up (by decide)
  · split
    · exact (wk_g_payR _ _ _ _).up (by decide)
    · split
      · exact (wk_g_climbR _ _ _ _).up (by decide)
      · exact wk_g_heedR _ _ _ _ hn
theorem wk_g_gain (d : Int32) (k : Nat) (q : Int64 × wk_St) : wk_G q.2 (wk_gain d k q) 0 := by
  unfold wk_gain
  split
  · exact ⟨⟨rfl, rfl, rfl, rfl, rfl, rfl, rfl⟩, Nat.le_refl _⟩
  · exact wk_G.rf _ _
-- loops over the members, the lines, the times
section LOOPS
variable {p : Program} {l : Launch} {e : Env} {R : Room} {s : State} {m : MethodId} {args : Array Value} {below : List Frame} {meth : Method} {c : Code} {cells slots : Nat} {Q : State → Prop} {pc : Nat}
theorem wk_loop (Inv : Nat → Heap → List Loc → Array Slot → Prop) (N : Nat) (hexit : ∀ H locs ls, Inv N H locs ls → W p l e R s m args below meth c H locs cells slots Q (F0 m pc ls []))
    (hstep : ∀ i H locs ls, i < N → Inv i H locs ls → (∀ H' locs' ls', Inv (i + 1) H' locs' ls' → W p l e R s m args below meth c H' locs' cells slots Q (F0 m pc ls' [])) → W p l e R s m args below meth c H locs cells slots Q (F0 m pc ls [])) :
    ∀ (t i : Nat) H locs ls, i + t = N → Inv i H locs ls → W p l e R s m args below meth c H locs cells slots Q (F0 m pc ls []) := by
  intro t
  induction t with
  | zero => intro i H locs ls hi h; exact hexit H locs ls (by rw [← hi]; exact h)
  | succ t ih => intro i H locs ls hi h; exact hstep i H locs ls (by omega) h (fun H' locs' ls' h' => ih (i + 1) H' locs' ls' (by omega) h')
end LOOPS
theorem wk_lit0 : (0 : Int32).toInt = 0 := by decide
theorem wk_lit1 : (1 : Int32).toInt = 1 := by decide
theorem wk_lit2 : (2 : Int32).toInt = 2 := by decide
theorem wk_lit3 : (3 : Int32).toInt = 3 := by decide
theorem wk_lit5 : (5 : Int32).toInt = 5 := by decide
theorem wk_lit6 : (6 : Int32).toInt = 6 := by decide
theorem wk_lit7 : (7 : Int32).toInt = 7 := by decide
theorem wk_lit8 : (8 : Int32).toInt = 8 := by decide
theorem wk_lit64 : (64 : Int32).toInt = 64 := by decide
section AQ
variable {p : Program} {l : Launch} {e : Env} {R : Room} {s : State} {m : MethodId} {args : Array Value} {below : List Frame} {meth : Method} {c : Code} {H : Heap} {locs : List Loc} {cells slots : Nat} {Q : State → Prop} {pc : Nat} {ls : Array Slot} {rest : List Value} {cc : ByteArray}
theorem wk_astore (hx : p.tables.exec = Jvm.exec) (hb : c.code = cc) {i nL : Nat} {r : Option Nat} {lv lv' : List (Nat × Value)} (hdg : decode cc pc = .ok (.astore i, 2)) (h : lv_has ls nL lv) (hn : i < nL) (hl : (i, va_rf r) :: lv.filter (fun q => !(q.1 == i) && !(q.1 + 1 == i && q.2.category == 2)) = lv')
    (k : ∀ ls', lv_has ls' nL lv' → W p l e R s m args below meth c H locs cells slots Q (F0 m (pc + 2) ls' rest)) : W p l e R s m args below meth c H locs cells slots Q (F0 m pc ls (va_rf r :: rest)) := by
  cases r with
  | none => exact lv_astoreN hx hb hdg h hn hl k
  | some a => exact lv_astore hx hb hdg h hn hl k
theorem wk_astore_n (hx : p.tables.exec = Jvm.exec) (hb : c.code = cc) {k4 : Fin 4} {i nL : Nat} {r : Option Nat} {lv lv' : List (Nat × Value)} (hdg : decode cc pc = .ok (.astore_n k4, 1)) (hi : (k4 : Nat) = i) (h : lv_has ls nL lv) (hn : i < nL) (hl : (i, va_rf r) :: lv.filter (fun q => !(q.1 == i) && !(q.1 + 1 == i && q.2.category == 2)) = lv')
    (k : ∀ ls', lv_has ls' nL lv' → W p l e R s m args below meth c H locs cells slots Q (F0 m (pc + 1) ls' rest)) : W p l e R s m args below meth c H locs cells slots Q (F0 m pc ls (va_rf r :: rest)) := by
  cases r with
  | none => exact lv_astore_nN hx hb hdg hi h hn hl k
  | some a => exact lv_astore_n hx hb hdg hi h hn hl k
end AQ
theorem wx_mpT {ad : Nat → Nat} {n i : Nat} (h : i < n) : wx_mp ad n i = some (ad (16 + i)) := if_pos h
theorem wx_mpF {ad : Nat → Nat} {n i : Nat} (h : ¬ i < n) : wx_mp ad n i = none := if_neg h
end
section
/-! SUPER CALLS of a method that the superclass has from further above; the receiver is a rank -/
section SUPER
variable {p : Program} {l : Launch} {e : Env} {R : Room} {s : State} {m : MethodId} {args : Array Value} {below : List Frame} {meth : Method} {c : Code} {H : Heap} {locs : List Loc} {cells slots : Nat}
def wk_CP (R : Room) (s : State) (args : Array Value) (own : String) (index : Nat) (x y : MethodName) (bytes : ByteArray) (maxL : Nat) (ret : Option FieldType) (ws : List Cond) (rm : Room) (mc ms n : Nat) : Prop :=
  (rm.cells = mc ∧ rm.slots = ms ∧ rm.frames + 1 ≤ R.frames ∧ 8 + (maxL + 11) + rm.locals ≤ R.locals ∧ (∀ w ∈ ws, ∀ (a' : Array Value) (U : State), s.WarmedH U.vm → w.before a' U = true) ∧ Cond.code y bytes maxL ret ∈ ws) ∧
  (Cond.methodLink own index x).before args s = true ∧ (Cond.sameMethod x.cls y.cls x.name x.desc).before args s = true ∧ (Cond.superclass own x.cls).before args s = true ∧ (Cond.instanceMethod y).before args s = true ∧ (Cond.initialized y.cls).before args s = true ∧ (Cond.code y bytes maxL ret).before args s = true ∧ (x.name ≠ "<init>" ∧ y = ⟨y.cls, x.name, x.desc⟩ ∧ (parseMethodDescriptor y.desc).map (fun d => d.parameters.length) = some n) ∧ (∀ a b : ClassId, s.vm.findClass x.cls = some a → s.vm.findClass y.cls = some b → s.vm.isSubclass a b = true)
theorem wk_cwP {Ts : List Cond} {own : String} {index nL : Nat} {x y : MethodName} {bytes : ByteArray} {ret : Option FieldType} {rm : Room} (n : Nat) (ht : ∀ w ∈ Ts, w.before args s = true) (hb : ∀ w ∈ wk_T, w ∈ Ts) (h1 : Cond.methodLink own index x ∈ wk_T) (h2 : Cond.sameMethod x.cls y.cls x.name x.desc ∈ wk_T) (h3 : Cond.superclass own x.cls ∈ wk_T) (h4 : Cond.instanceMethod y ∈ wk_T) (h6 : Cond.initialized y.cls ∈ wk_T) (h5 : Cond.code y bytes nL ret ∈ wk_T)
    (hsub : (∀ w ∈ wk_T, w.before args s = true) → wk_N s → ∀ a b : ClassId, s.vm.findClass x.cls = some a → s.vm.findClass y.cls = some b → s.vm.isSubclass a b = true) (hN : wk_N s) (hd : x.name ≠ "<init>" ∧ y = ⟨y.cls, x.name, x.desc⟩ ∧ (parseMethodDescriptor y.desc).map (fun d => d.parameters.length) = some n) (hR : rm.frames + 1 ≤ R.frames ∧ 8 + (nL + 11) + rm.locals ≤ R.locals) : wk_CP R s args own index x y bytes nL ret (wk_M y bytes nL ret) rm rm.cells rm.slots n :=
  ⟨⟨rfl, rfl, hR.1, hR.2, pay_in ht (wk_good hb h5), List.mem_cons_self⟩, ht _ (hb _ h1), ht _ (hb _ h2), ht _ (hb _ h3), ht _ (hb _ h4), ht _ (hb _ h6), ht _ (hb _ h5), hd, hsub (fun w h => ht w (hb w h)) hN⟩
def wk_PreR (s : State) (H : Heap) (b : Addr) (Pc : Array Value → State → Prop) (As : List Value) : Prop :=
  FrameBlind Pc ∧ (∃ (cellB : Cell) (kB : Class), H[b]? = some cellB ∧ cellB.vm.isStatics = false ∧ s.vm.classes[cellB.cls]? = some kB) ∧ ∀ U : State, U.heap = H → s.WarmedH U.vm → Pc (Value.ref b :: As).toArray U
theorem wk_preR {D : va_G} {tys : List (ClassId × FieldType)} {A : Nat → Prop} {As : List Value} {H0 : Heap} {cI cS : ClassId} {ad : Nat → Nat} {σ : wk_St} {r : Nat} (hN : wk_N s) (hK : va_K D vwCl tys s) (hI : wk_I D A H0 H locs (wx_W cI cS ad σ)) (hr : r < 8) : wk_PreR s H (ad (8 + r)) (wk_Pc D tys (.ref (ad (8 + r)) :: As) (wx_W cI cS ad σ) H.size) As := by
  obtain ⟨q, hq⟩ : ∃ q, vwCl[wx_ci r]? = some q := by
    rcases (show r = 0 ∨ r = 1 ∨ r = 2 ∨ r = 3 ∨ r = 4 ∨ r = 5 ∨ r = 6 ∨ r = 7 by omega) with rfl | rfl | rfl | rfl | rfl | rfl | rfl | rfl <;> exact ⟨_, rfl⟩
  obtain ⟨cell, h1, h2, h3⟩ := va_recv hK hI.1 hq (wx_er hr)
  obtain ⟨-, hfc, kC, hkC, -⟩ := hK.1 _ _ hq
  have hcc := Option.some.inj (hfc.symm.trans h3)
  exact ⟨wk_blind, ⟨cell, kC, h1, h2, by rw [← hcc]; exact hkC⟩, (wk_preS hN hK hI).2⟩
theorem wk_callP {T : State} (X : Stand p l e R s m args below meth c T locs cells slots) (hexec : p.tables.exec = Jvm.exec) {own : String} {index : Nat} {x y : MethodName} {bytes : ByteArray} {maxL : Nat} {ret : Option FieldType}
    (hown : s.vm.findClass own = some m.cls) (hlink : (Cond.methodLink own index x).before args s = true) (hsame : (Cond.sameMethod x.cls y.cls x.name x.desc).before args s = true) (hsup : (Cond.superclass own x.cls).before args s = true)
    (hinst : (Cond.instanceMethod y).before args s = true) (hcode : (Cond.code y bytes maxL ret).before args s = true) (hno : x.name ≠ "<init>") (hyx : y = ⟨y.cls, x.name, x.desc⟩) (hsb : ∀ a b : ClassId, s.vm.findClass x.cls = some a → s.vm.findClass y.cls = some b → s.vm.isSubclass a b = true)
    {W : Nat} {Pre : Pt → Array Value → Prop} {Post : Pt → Array Value → Option Value → Pt → Prop} (hK : Back l R p e below s args y 3 W Pre Post)
    {b : Addr} {cellB : Cell} {kB : Class} (hcell : T.heap[b]? = some cellB) (hobj : cellB.vm.isStatics = false) (hkB : s.vm.classes[cellB.cls]? = some kB)
    {g : JFrame} (hg : g.method = m) (hsize : g.locals.size = c.maxLocals) {argsL rest : List Value} (hlen : ∀ sig, parseMethodDescriptor y.desc = some sig → argsL.length = sig.parameters.length)
    (hstack : g.stack = argsL.reverse ++ .ref b :: rest) (hW : 2 * g.monitorRoom + (rest.map fun v => v.category).sum ≤ W) (hdg : decode c.code g.pc = .ok (.invokespecial index, 3))
    (hpre : ∀ vm₁, s.WarmedH vm₁ → Pre ⟨T.setVm vm₁, locs, cells, slots⟩ (Value.ref b :: argsL).toArray) :
    ∃ (v : Option Value) (vm₁ : Vm) (B : Pt), s.WarmedH vm₁ ∧ Stand p l e R s m args below meth c B.U B.locs B.cells B.slots ∧ Post ⟨T.setVm vm₁, locs, cells, slots⟩ (Value.ref b :: argsL).toArray v B ∧
      ∀ target, Steps p.tables e below (B.U.setTop { g with pc := g.pc + 3, stack := v.toList ++ rest }) target → Steps p.tables e below (T.setTop g) target := by
  obtain ⟨mk, methM, hnamed, hmethM, hstM, habM⟩ := Cond.instanceMethod_spec hinst
  obtain ⟨methM', cM, hmethM', -, -, -, -, -, -, hsigM⟩ := Cond.code_spec hnamed hcode
  cases hmethM.symm.trans hmethM'
  obtain ⟨ps, dk, kp, hps, hdk, hkp, hsuper, -, -, hnid⟩ := Cond.superclass_spec hown hsup
  have hn : s.methodNamed? ⟨y.cls, x.name, x.desc⟩ = some mk := by rw [← hyx]; exact hnamed
  have hsub : s.vm.isSubclass ps mk.cls = true := hsb _ _ hps (findClass_of_methodNamed hnamed)
  obtain ⟨vm₁, X₁, hstep₁⟩ := X.invokespecialUp hexec hown hlink hsame hn hmethM hstM habM hno hdk hnid hps hsuper hsub (a := b) (cell := cellB) hcell
    (fun z h => by rw [h] at hobj; cases hobj) hkB (g := g) hg (argsL := argsL) (rest := rest) (hlen _ hsigM) hstack hdg
  obtain ⟨v, B, X', hpost, hsteps⟩ := hK m meth c ⟨T.setVm vm₁, locs, cells, slots⟩ { g with stack := rest } (.invokespecial index) mk (Value.ref b :: argsL).toArray X₁ hg hsize hdg hW (X₁.named hnamed) (hpre vm₁ X₁.warmed)
  exact ⟨v, vm₁, B, X₁.warmed, X', hpost, fun target h => hstep₁ _ (by rw [doInvoke_state]; exact hsteps.trans h)⟩
theorem wk_runP {x y : MethodName} {bytes cc : ByteArray} {maxL nL mc ms n index : Nat} {ret : Option FieldType} {ws : List Cond} {rm : Room} {Pc : Array Value → State → Prop} {Qc : Array Value → State → Outcome → State → Prop} {free : Addr → Prop} {Ts : List Cond} {own : String} {b : Addr} {As rest : List Value} {g : JFrame}
    (S : CallFix p m c cc nL s args Ts own) (hM : Met l y ws rm Pc Qc mc ms free) (cw : wk_CP R s args own index x y bytes maxL ret ws rm mc ms n) (hp : wk_PreR s H b Pc As)
    (hg : g.method = m) (hn : As.length = n) (hsize : g.locals.size = nL) (hstack : g.stack = As.reverse ++ .ref b :: rest) (hW : 2 * g.monitorRoom + (rest.map fun v => v.category).sum ≤ 8) (hdg : decode cc g.pc = .ok (.invokespecial index, 3)) (hf : cells + mc ≤ R.cells ∧ slots + ms ≤ R.slots) :
    va_Run p l e R s m args below meth c H locs cells slots mc ms g rest (Qc (Value.ref b :: As).toArray) (free) := by
  obtain ⟨⟨hrc, hrs, hfr, hlo, hws, hcw⟩, hl1, hl2, hl3, hl4, hini, hcode, ⟨hno, hyx, hnp⟩, hsb⟩ := cw
  have hK : Back l R p e below s args y 3 8 (PreOf R mc ms Pc) (PostOf Qc mc ms free) := back_of (bytes := bytes) (maxL := maxL) (ret := ret) hM hp.1 hrc hrs hfr hlo hws hcw (fun a' U hW => word_at hW (Or.inl (by first | rfl | simp [Cond.onTables, Cond.keeps, Cond.steady])) hini)
  obtain ⟨hx, hb, hml, ho, -⟩ := S
  obtain ⟨-, ⟨cellB, kB, hcB, hoB, hkB⟩, hPc⟩ := hp
  intro T hT X
  obtain ⟨v, vm₁, ⟨U', l2, c2, s2⟩, hW₁, X', ⟨g', mk, t, L, e1, e2, hq, h1, hL, h2, h3⟩, st⟩ := wk_callP X hx (bytes := bytes) (maxL := maxL) (ret := ret) ho hl1 hl2 hl3 hl4 hcode hno hyx hsb hK (by rw [hT]; exact hcB) hoB hkB hg (hsize.trans hml.symm) (argsL := As) (rest := rest) (fun sig h => by
      rw [h] at hnp
      exact hn.trans (Option.some.inj hnp).symm) hstack hW (by rw [hb]; exact hdg)
    (fun vm₁ hW₁ => ⟨hf.1, hf.2, hPc (T.setVm vm₁) hT hW₁⟩)
  dsimp only [Pt.U, Pt.locs, Pt.cells, Pt.slots] at X' e1 e2 h1 h2 h3 st
  subst h1; subst h2; subst h3
  exact ⟨v, (T.setVm vm₁).calling g' mk (Value.ref b :: As).toArray, t, U', L, hT, X', hL, e1, e2, hq, st⟩
/-- the superclass chain -/
theorem wk_sub0 {C : String} {args : Array Value} {s : State} (_ : ∀ w ∈ wk_T, w.before args s = true) (_ : wk_N s) (a b : ClassId) (ha : s.vm.findClass C = some a) (hb : s.vm.findClass C = some b) : s.vm.isSubclass a b = true := by
  cases ha.symm.trans hb
  simp [Vm.isSubclass, Vm.isSubclassAux]
theorem wk_sub1 {B C : String} (h1 : Cond.superclass B C ∈ wk_T) {args : Array Value} {s : State} (ht : ∀ w ∈ wk_T, w.before args s = true) (_ : wk_N s) (a b : ClassId) (ha : s.vm.findClass B = some a) (hb : s.vm.findClass C = some b) : s.vm.isSubclass a b = true := by
  obtain ⟨q, k, kq, hq, hk, hkq, hs, -⟩ := Cond.superclass_spec ha (ht _ h1)
  cases hq.symm.trans hb
  have hz : a < s.vm.classes.size := (Array.getElem?_eq_some_iff.mp hk).1
  have hp : 0 < s.vm.classes.size := Nat.lt_of_le_of_lt (Nat.zero_le _) hz
  obtain ⟨z, hz⟩ : ∃ z, s.vm.classes.size = z + 1 := ⟨s.vm.classes.size - 1, by omega⟩
  simp [Vm.isSubclass, Vm.isSubclassAux, hz, hk, hs]
theorem wk_sub2 {B C E : String} (h1 : Cond.superclass B C ∈ wk_T) (h2 : Cond.superclass C E ∈ wk_T) {args : Array Value} {s : State} (ht : ∀ w ∈ wk_T, w.before args s = true) (_ : wk_N s) (a b : ClassId) (ha : s.vm.findClass B = some a) (hb : s.vm.findClass E = some b) : s.vm.isSubclass a b = true := by
  obtain ⟨q, k, kq, hq, hk, hkq, hs, -⟩ := Cond.superclass_spec ha (ht _ h1)
  obtain ⟨q2, k2, kq2, hq2, hk2, hkq2, hs2, -⟩ := Cond.superclass_spec hq (ht _ h2)
  cases hq2.symm.trans hb
  have hz1 : a < s.vm.classes.size := (Array.getElem?_eq_some_iff.mp hk).1
  have hz2 : b < s.vm.classes.size := (Array.getElem?_eq_some_iff.mp hkq2).1
  by_cases hab : a = b
  · subst hab
    simp [Vm.isSubclass, Vm.isSubclassAux]
  · have key : ∀ (x y n : Nat), x < n → y < n → x ≠ y → 2 ≤ n := by omega
    have hp := key a b _ hz1 hz2 hab
    obtain ⟨z, hz⟩ : ∃ z, s.vm.classes.size = z + 2 := ⟨s.vm.classes.size - 2, by omega⟩
    simp [Vm.isSubclass, Vm.isSubclassAux, hz, hk, hs, hk2, hs2]
theorem wk_subS {B C : String} (h1 : Cond.superclass B C ∈ wk_T) (hc : Cond.castable B RX8 ∈ wk_X) {args : Array Value} {s : State} (ht : ∀ w ∈ wk_T, w.before args s = true) (hN : wk_N s) (a b : ClassId) (ha : s.vm.findClass B = some a) (hb : s.vm.findClass RX8 = some b) : s.vm.isSubclass a b = true := by
  obtain ⟨q, k, kq, hq, hk, hkq, hs, hko, -, hni⟩ := Cond.superclass_spec ha (ht _ h1)
  obtain ⟨c3, k3, r3, hc3, hk3, hni3, -, -⟩ := Cond.sameMethod_found (ht _ mw_270)
  obtain ⟨c8, k8, r8, hc8, hk8, hni8, -, -⟩ := Cond.sameMethod_found (ht _ mw_253)
  obtain ⟨q2, k2, kq2, hq2, hk2, hkq2, hs2, -, hko2, -⟩ := Cond.superclass_spec hc3 (ht _ mw_95)
  cases hq2.symm.trans hb
  cases hc8.symm.trans hb
  cases hk8.symm.trans hkq2
  have hasg : s.vm.assignable a b = true := vb_asgC (hN.1 _ hc) _ _ hb ha
  exact isSubclass_of_assignable hk hkq2 hko hko2 hni8 hasg
theorem wk_sub_X7_X8 {args : Array Value} {s : State} (ht : ∀ w ∈ wk_T, w.before args s = true) (hN : wk_N s) (a b : ClassId) (ha : s.vm.findClass RX7 = some a) (hb : s.vm.findClass RX8 = some b) : s.vm.isSubclass a b = true := wk_subS mw_102 mx_750 ht hN a b ha hb
theorem wk_sub_X0_X10 {args : Array Value} {s : State} (ht : ∀ w ∈ wk_T, w.before args s = true) (hN : wk_N s) (a b : ClassId) (ha : s.vm.findClass RX0 = some a) (hb : s.vm.findClass RX10 = some b) : s.vm.isSubclass a b = true := wk_sub1 mw_116 ht hN a b ha hb
theorem wk_sub_X3_X8 {args : Array Value} {s : State} (ht : ∀ w ∈ wk_T, w.before args s = true) (hN : wk_N s) (a b : ClassId) (ha : s.vm.findClass RX3 = some a) (hb : s.vm.findClass RX8 = some b) : s.vm.isSubclass a b = true := wk_subS mw_95 mx_747 ht hN a b ha hb
theorem wk_sub_X5_X5 {args : Array Value} {s : State} (ht : ∀ w ∈ wk_T, w.before args s = true) (hN : wk_N s) (a b : ClassId) (ha : s.vm.findClass RX5 = some a) (hb : s.vm.findClass RX5 = some b) : s.vm.isSubclass a b = true := wk_sub0 ht hN a b ha hb
theorem wk_sub_X10_X3 {args : Array Value} {s : State} (ht : ∀ w ∈ wk_T, w.before args s = true) (hN : wk_N s) (a b : ClassId) (ha : s.vm.findClass RX10 = some a) (hb : s.vm.findClass RX3 = some b) : s.vm.isSubclass a b = true := wk_sub2 mw_109 mw_102 ht hN a b ha hb
theorem wk_sub_X5_X0 {args : Array Value} {s : State} (ht : ∀ w ∈ wk_T, w.before args s = true) (hN : wk_N s) (a b : ClassId) (ha : s.vm.findClass RX5 = some a) (hb : s.vm.findClass RX0 = some b) : s.vm.isSubclass a b = true := wk_sub1 mw_123 ht hN a b ha hb
theorem wk_sub_X1_X3 {args : Array Value} {s : State} (ht : ∀ w ∈ wk_T, w.before args s = true) (hN : wk_N s) (a b : ClassId) (ha : s.vm.findClass RX1 = some a) (hb : s.vm.findClass RX3 = some b) : s.vm.isSubclass a b = true := wk_sub1 mw_137 ht hN a b ha hb
theorem wk_sub_X0_X7 {args : Array Value} {s : State} (ht : ∀ w ∈ wk_T, w.before args s = true) (hN : wk_N s) (a b : ClassId) (ha : s.vm.findClass RX0 = some a) (hb : s.vm.findClass RX7 = some b) : s.vm.isSubclass a b = true := wk_sub2 mw_116 mw_109 ht hN a b ha hb
theorem wk_sub_X1_X8 {args : Array Value} {s : State} (ht : ∀ w ∈ wk_T, w.before args s = true) (hN : wk_N s) (a b : ClassId) (ha : s.vm.findClass RX1 = some a) (hb : s.vm.findClass RX8 = some b) : s.vm.isSubclass a b = true := wk_subS mw_137 mx_746 ht hN a b ha hb
theorem wk_sub_X10_X10 {args : Array Value} {s : State} (ht : ∀ w ∈ wk_T, w.before args s = true) (hN : wk_N s) (a b : ClassId) (ha : s.vm.findClass RX10 = some a) (hb : s.vm.findClass RX10 = some b) : s.vm.isSubclass a b = true := wk_sub0 ht hN a b ha hb
theorem wk_sub_X5_X8 {args : Array Value} {s : State} (ht : ∀ w ∈ wk_T, w.before args s = true) (hN : wk_N s) (a b : ClassId) (ha : s.vm.findClass RX5 = some a) (hb : s.vm.findClass RX8 = some b) : s.vm.isSubclass a b = true := wk_subS mw_123 mx_749 ht hN a b ha hb
end SUPER
end
section
/-! PURE ROWS for the calls of the face -/
theorem wk_nlt {a b : Int32} (h : ¬ a < b) : b ≤ a := by rw [Int32.lt_iff_toInt_lt] at h; rw [Int32.le_iff_toInt_le]; omega
theorem wk_nle {a b : Int32} (h : ¬ a ≤ b) : b < a := by rw [Int32.le_iff_toInt_le] at h; rw [Int32.lt_iff_toInt_lt]; omega
theorem wk_lnl {a b : Int32} (h : a < b) (k : b ≤ a) : False := by rw [Int32.lt_iff_toInt_lt] at h; rw [Int32.le_iff_toInt_le] at k; omega
theorem wk_lit4 : (4 : Int32).toInt = 4 := by decide
theorem wk_lit12 : (12 : Int32).toInt = 12 := by decide
theorem wk_lit20 : (20 : Int32).toInt = 20 := by decide
theorem wk_lit99 : (99 : Int32).toInt = 99 := by decide
theorem wk_lit1000 : (1000 : Int32).toInt = 1000 := by decide
theorem wk_clJ {σ : wk_St} {j : Nat} (hV : wk_V σ) (hj : j < wk_n σ) : (nI j).toNatClampNeg = j := nI_clamp (by have := hV.1; omega)
theorem wk_okJ {σ : wk_St} {j : Nat} (hV : wk_V σ) (hj : j < wk_n σ) : wk_ok σ (nI j) := by
  have := hV.1
  exact ⟨nI_pos' (by omega), nI_lt hj (by omega)⟩
theorem wk_okC {σ : wk_St} (hV : wk_V σ) (k : Int32) : (∃ j, j < wk_n σ ∧ k = nI j) ∨ ¬ wk_ok σ k := by
  have h12 := hV.1
  rcases Classical.em (wk_ok σ k) with h | h
  · left
    obtain ⟨h1, h2⟩ := h
    obtain ⟨j, hj, rfl⟩ := nI_of (x := k) (fun q => wk_lnl q h1)
    exact ⟨j, (nI_ltI hj (by omega)).mp h2, rfl⟩
  · exact Or.inr h
noncomputable def wx_find (ad : Nat → Nat) (σ : wk_St) (k : Int32) : Option Nat := wk_if (wk_ok σ k) (some (ad (16 + k.toNatClampNeg))) none
theorem wx_findJ {ad : Nat → Nat} {σ : wk_St} {j : Nat} (hV : wk_V σ) (hj : j < wk_n σ) : wx_find ad σ (nI j) = some (ad (16 + j)) := by
  unfold wx_find
  rw [wk_ifT (wk_okJ hV hj), wk_clJ hV hj]
theorem wx_findN {ad : Nat → Nat} {σ : wk_St} {k : Int32} (h : ¬ wk_ok σ k) : wx_find ad σ k = none := wk_ifF h
theorem wk_lineL_add (d n lo hi : Int32) (v : Int64) (σ : wk_St) : ∀ i, wk_lineL d n lo hi (v, σ) i = (v + (wk_lineL d n lo hi (0, σ) i).1, (wk_lineL d n lo hi (0, σ) i).2)
  | 0 => by simp [wk_lineL]
  | i + 1 => by
    have ih := wk_lineL_add d n lo hi v σ i
    simp only [wk_lineL]
    rw [ih]
    dsimp only
    split
    · simp only [Int64.add_assoc]
    · rfl
theorem wk_g_lineL (d n lo hi : Int32) (q : Int64 × wk_St) (hn : wk_n q.2 ≤ 12) : ∀ i, wk_G q.2 (wk_lineL d n lo hi q i).2 (28 * i)
  | 0 => wk_G.rf _ _
  | i + 1 => by
    have ih := wk_g_lineL d n lo hi q hn i
    unfold wk_lineL
    split
    · exact ((ih.trans (wk_g_do d _ i n (by rw [ih.n]; exact hn))).trans (wk_g_gain d i _)).up (by omega)
    · exact ih.up (by omega)
theorem wk_g_watchL (d n : Int32) (σ : wk_St) (hn : wk_n σ ≤ 12) : ∀ i, wk_G σ (wk_watchL d n σ i).2 (28 * i)
  | 0 => wk_G.rf _ _
  | i + 1 => by
    have ih := wk_g_watchL d n σ hn i
    exact (ih.trans (wk_g_do d _ i n (by rw [ih.n]; exact hn))).up (by omega)
theorem wk_g_sailI (q : Int64 × wk_St) (hn : wk_n q.2 ≤ 12) : ∀ i, wk_G q.2 (wk_sailI q i).2 (336 * i)
  | 0 => wk_G.rf _ _
  | i + 1 => by
    have ih := wk_g_sailI q hn i
    unfold wk_sailI
    split
    · exact ih.up (by omega)
    · exact (ih.trans (wk_g_lineL _ _ _ _ (wk_sailI q i) (by rw [ih.n]; exact hn) (wk_n q.2))).up (by omega)
theorem wk_g_sailT (q : Int64 × wk_St) (hn : wk_n q.2 ≤ 12) : ∀ i, wk_G q.2 (wk_sailT q i).2 (2688 * i)
  | 0 => wk_G.rf _ _
  | i + 1 => by
    have ih := wk_g_sailT q hn i
    exact (ih.trans (wk_g_sailI (wk_sailT q i) (by rw [ih.n]; exact hn) 8)).up (by omega)
theorem wk_g_restL (x : Int32) (σ : wk_St) : ∀ i, wk_G σ (wk_restL x σ i) 0
  | 0 => wk_G.rf _ _
  | i + 1 => (wk_g_restL x σ i).trans (wk_g_tire _ i x)
theorem wk_g_feedL (k : Nat) (x : Int32) (σ : wk_St) : ∀ i, wk_G σ (wk_feedL k x σ i) 0
  | 0 => wk_G.rf _ _
  | i + 1 => by
    have ih := wk_g_feedL k x σ i
    unfold wk_feedL
    split
    · exact ih
    · exact ih.trans (wk_g_tire _ i x)
theorem wk_g_raceL (r k : Nat) (n : Int32) : ∀ (t : Nat) (v : Int32) (σ : wk_St), wk_G σ (wk_raceL r k n t v σ).2 (3 * t)
  | 0, v, σ => wk_G.rf _ _
  | t + 1, v, σ => by
    unfold wk_raceL
    split
    · exact (wk_g_climbR r σ k n).up (by omega)
    · exact ((wk_g_climbR r σ k n).trans (wk_g_raceL r k n t _ _)).up (by omega)
theorem wx_apart {D : va_G} {A : Nat → Prop} {H0 H : Heap} {locs : List Loc} {cI cS : ClassId} {ad : Nat → Nat} {σ : wk_St} {i j : Nat} (hI : wk_I D A H0 H locs (wx_W cI cS ad σ)) (hi : i < wk_n σ) (hj : j < wk_n σ) (h : ad (16 + i) = ad (16 + j)) : i = j := by
  have := hI.2.1.1 (16 + i) (16 + j) _ _ (wx_em hi) (wx_em hj) h
  omega
end
section
set_option maxHeartbeats 4000000 in
set_option maxRecDepth 100000 in
/-- Member.tire(n) -/
theorem c_X6_tire (l : Launch) (D : va_G) (cI cJ cS : ClassId) (ad : Nat → Nat) (σ : wk_St) (k : Nat) (n : Int32) (hk : k < wk_n σ) : wk_Cv l D (wk_tys cI cJ cS) yX6_tire (wk_M yX6_tire cX6_tire 3 none) ({ frames := 0, cells := 0, slots := 0, locals := 0 }) [.ref (ad (16 + k)), .int n] (wx_W cI cS ad σ) (wx_W cI cS ad) (fun u => u = wk_tire σ k n) := by
  intro sz
  refine Met.ofW (cc := cX6_tire) (maxL := 3) (ret := none) (by decide) rfl ?_
  intro p e s m args below meth c s₁ B hml hv
  obtain ⟨rfl, hsz, hP, hK, hD0, hN⟩ := hv
  have hx := B.exec
  have hb := B.bytes
  have hr := B.returns
  have hts := atoms_spec (ws := wk_M yX6_tire cX6_tire 3 none) B.pre
  have hown : s.vm.findClass RX6 = some m.cls := findClass_of_methodNamed B.named
  have hlk := B.notSynchronized
  subst hsz
  have hI : wk_I D (va_A (wx_W cI cS ad σ) s.heap.size) s.heap s.heap [] (wx_W cI cS ad σ) := ⟨hP, hD0.self, va_S.rf⟩
  have hA : ∀ q : Nat, s.heap.size ≤ q → (va_A (wx_W cI cS ad σ) s.heap.size) q := fun q h => Or.inr h
  clear hP hD0
  generalize va_A (wx_W cI cS ad σ) s.heap.size = A at hI hA ⊢
  have hl := lv_entry ([.ref (ad (16 + k)), .int n]) (n := 3) (Nat.le_of_ble_eq_true rfl)
  rw [lg_entry_eq]
  generalize (lg_sl ([.ref (ad (16 + k)), .int n]) ++ List.replicate (3 - (lg_sl ([.ref (ad (16 + k)), .int n])).length) Slot.unset).toArray = ls at hl ⊢
  have hl : lv_has ls 3 [(0, .ref (ad (16 + k))), (1, .int n)] := hl
  refine lv_aload_n hx hb dX6_tire_0 rfl (lv_at hl 0 rfl) ?_
  refine wk_get (v := .int (wk_we σ k)) hx hb hts (fun w h => wk_in_M w (lay_X6 w h)) hown hK hI (16 + k) (wx_em hk) rfl 4 (by decide) (hts _ (wk_in_M _ mw_194)) rfl rfl dX6_tire_1 ?_
  refine lv_iload_n hx hb dX6_tire_4 rfl (lv_at hl 1 rfl) ?_
  refine lv_iadd hx hb dX6_tire_5 ?_
  refine lv_istore_n (lv' := [(2, .int ((wk_we σ k) + n)), (0, .ref (ad (16 + k))), (1, .int n)]) hx hb dX6_tire_6 rfl hl (by decide) rfl (fun ls hl => ?_)
  refine lv_iload_n hx hb dX6_tire_7 rfl (lv_at hl 0 rfl) ?_
  refine lv_if_ge (tgt := 13) hx hb dX6_tire_8 (by decide) (fun c_1 => ?_) (fun c_1 => ?_)
  · refine lv_aload_n hx hb dX6_tire_13 rfl (lv_at hl 1 rfl) ?_
    refine lv_iload_n hx hb dX6_tire_14 rfl (lv_at hl 0 rfl) ?_
    refine lv_sipush (v := 1000) hx hb dX6_tire_15 (by decide) ?_
    refine lv_icmp_le (tgt := 27) hx hb dX6_tire_18 (by decide) (fun c_2 => ?_) (fun c_2 => ?_)
    · refine lv_iload_n hx hb dX6_tire_27 rfl (lv_at hl 0 rfl) ?_
      refine wk_put (v := .int ((wk_we σ k) + n)) (ty := .int) hx hb hts (fun w h => wk_in_M w (lay_X6 w h)) tyX6 tyX6_ok nmX6 hown hK hI (16 + k) (wx_em hk) rfl 4 (by decide) (hts _ (wk_in_M _ mw_194)) rfl rfl (by decide +kernel) rfl rfl (Nat.le_of_ble_eq_true rfl) (wx_sWe hk _) dX6_tire_28 (fun H locs hI => ?_)
      exact wk_rv (wk_sWe σ (upd (wk_we σ) k ((wk_we σ k) + n))) hx hb hr hlk hK hI rfl (by simp only [wk_tire, wk_clamp, if_pos c_1, if_pos c_2]) dX6_tire_31
    · refine lv_sipush (v := 1000) hx hb dX6_tire_21 (by decide) ?_
      refine lv_goto (tgt := 28) hx hb dX6_tire_24 (by decide) ?_
      refine wk_put (v := .int 1000) (ty := .int) hx hb hts (fun w h => wk_in_M w (lay_X6 w h)) tyX6 tyX6_ok nmX6 hown hK hI (16 + k) (wx_em hk) rfl 4 (by decide) (hts _ (wk_in_M _ mw_194)) rfl rfl (by decide +kernel) rfl rfl (Nat.le_of_ble_eq_true rfl) (wx_sWe hk _) dX6_tire_28 (fun H locs hI => ?_)
      exact wk_rv (wk_sWe σ (upd (wk_we σ) k 1000)) hx hb hr hlk hK hI rfl (by simp only [wk_tire, wk_clamp, if_pos c_1, if_neg c_2]) dX6_tire_31
  · refine lv_iconst (v := 0) hx hb dX6_tire_11 (by decide) ?_
    refine lv_istore_n (lv' := [(2, .int 0), (0, .ref (ad (16 + k))), (1, .int n)]) hx hb dX6_tire_12 rfl hl (by decide) rfl (fun ls hl => ?_)
    refine lv_aload_n hx hb dX6_tire_13 rfl (lv_at hl 1 rfl) ?_
    refine lv_iload_n hx hb dX6_tire_14 rfl (lv_at hl 0 rfl) ?_
    refine lv_sipush (v := 1000) hx hb dX6_tire_15 (by decide) ?_
    refine lv_icmp_le (tgt := 27) hx hb dX6_tire_18 (by decide) (fun c_3 => ?_) (fun c_3 => ?_)
    · refine lv_iload_n hx hb dX6_tire_27 rfl (lv_at hl 0 rfl) ?_
      refine wk_put (v := .int 0) (ty := .int) hx hb hts (fun w h => wk_in_M w (lay_X6 w h)) tyX6 tyX6_ok nmX6 hown hK hI (16 + k) (wx_em hk) rfl 4 (by decide) (hts _ (wk_in_M _ mw_194)) rfl rfl (by decide +kernel) rfl rfl (Nat.le_of_ble_eq_true rfl) (wx_sWe hk _) dX6_tire_28 (fun H locs hI => ?_)
      exact wk_rv (wk_sWe σ (upd (wk_we σ) k 0)) hx hb hr hlk hK hI rfl (by simp only [wk_tire, wk_clamp, if_neg c_1]) dX6_tire_31
    · refine lv_sipush (v := 1000) hx hb dX6_tire_21 (by decide) ?_
      refine lv_goto (tgt := 28) hx hb dX6_tire_24 (by decide) ?_
      refine wk_put (v := .int 1000) (ty := .int) hx hb hts (fun w h => wk_in_M w (lay_X6 w h)) tyX6 tyX6_ok nmX6 hown hK hI (16 + k) (wx_em hk) rfl 4 (by decide) (hts _ (wk_in_M _ mw_194)) rfl rfl (by decide +kernel) rfl rfl (Nat.le_of_ble_eq_true rfl) (wx_sWe hk _) dX6_tire_28 (fun H locs hI => ?_)
      exact wk_rv (wk_sWe σ (upd (wk_we σ) k 1000)) hx hb hr hlk hK hI rfl (absurd (by decide) c_3) dX6_tire_31
set_option maxHeartbeats 4000000 in
set_option maxRecDepth 100000 in
theorem c_X6_isBelowBosun (l : Launch) (D : va_G) (cI cJ cS : ClassId) (ad : Nat → Nat) (σ : wk_St) (k : Nat) (hV : wk_V σ) (hk : k < wk_n σ) : wk_Ci l D (wk_tys cI cJ cS) yX6_isBelowBosun (wk_M yX6_isBelowBosun cX6_isBelowBosun 1 (some .boolean)) ({ frames := 0, cells := 0, slots := 0, locals := 0 }) [.ref (ad (16 + k))] (wx_W cI cS ad σ) (wx_W cI cS ad) (fun r u => r = wk_b (wk_rk σ k ≤ 2) ∧ u = σ) := by
  intro sz
  refine Met.ofW (cc := cX6_isBelowBosun) (maxL := 1) (ret := (some .boolean)) (by decide) rfl ?_
  intro p e s m args below meth c s₁ B hml hv
  obtain ⟨rfl, hsz, hP, hK, hD0, hN⟩ := hv
  have hx := B.exec
  have hb := B.bytes
  have hr := B.returns
  have hts := atoms_spec (ws := wk_M yX6_isBelowBosun cX6_isBelowBosun 1 (some .boolean)) B.pre
  have hown : s.vm.findClass RX6 = some m.cls := findClass_of_methodNamed B.named
  have hlk := B.notSynchronized
  subst hsz
  have hI : wk_I D (va_A (wx_W cI cS ad σ) s.heap.size) s.heap s.heap [] (wx_W cI cS ad σ) := ⟨hP, hD0.self, va_S.rf⟩
  have hA : ∀ q : Nat, s.heap.size ≤ q → (va_A (wx_W cI cS ad σ) s.heap.size) q := fun q h => Or.inr h
  clear hP hD0
  generalize va_A (wx_W cI cS ad σ) s.heap.size = A at hI hA ⊢
  have hl := lv_entry ([.ref (ad (16 + k))]) (n := 1) (Nat.le_of_ble_eq_true rfl)
  rw [lg_entry_eq]
  generalize (lg_sl ([.ref (ad (16 + k))]) ++ List.replicate (1 - (lg_sl ([.ref (ad (16 + k))])).length) Slot.unset).toArray = ls at hl ⊢
  have hl : lv_has ls 1 [(0, .ref (ad (16 + k)))] := hl
  refine lv_aload_n hx hb dX6_isBelowBosun_0 rfl (lv_at hl 0 rfl) ?_
  refine wk_get (v := .int (nI (wk_rk σ k))) hx hb hts (fun w h => wk_in_M w (lay_X6 w h)) hown hK hI (16 + k) (wx_em hk) rfl 2 (by decide) (hts _ (wk_in_M _ mw_189)) rfl rfl dX6_isBelowBosun_1 ?_
  refine lv_iconst (v := 2) hx hb dX6_isBelowBosun_4 (by decide) ?_
  refine lv_icmp_gt (tgt := 12) hx hb dX6_isBelowBosun_5 (by decide) (fun c_1 => ?_) (fun c_1 => ?_)
  · refine lv_iconst (v := 0) hx hb dX6_isBelowBosun_12 (by decide) ?_
    exact wk_rz σ hx hb hr hlk (by decide) hK hI rfl ⟨wk_bF (by have hr8 := hV.rk hk; simp only [Int32.lt_iff_toInt_lt, Int32.le_iff_toInt_le, ← Int32.toInt_inj, nI_toInt (show wk_rk σ k < 2 ^ 31 by omega), wk_lit0, wk_lit1, wk_lit2, wk_lit3, wk_lit5, wk_lit6, wk_lit7, wk_lit8, wk_lit64] at c_1; omega), rfl⟩ dX6_isBelowBosun_13
  · refine lv_iconst (v := 1) hx hb dX6_isBelowBosun_8 (by decide) ?_
    refine lv_goto (tgt := 13) hx hb dX6_isBelowBosun_9 (by decide) ?_
    exact wk_rz σ hx hb hr hlk (by decide) hK hI rfl ⟨wk_bT (by have hr8 := hV.rk hk; simp only [Int32.lt_iff_toInt_lt, Int32.le_iff_toInt_le, ← Int32.toInt_inj, nI_toInt (show wk_rk σ k < 2 ^ 31 by omega), wk_lit0, wk_lit1, wk_lit2, wk_lit3, wk_lit5, wk_lit6, wk_lit7, wk_lit8, wk_lit64] at c_1; omega), rfl⟩ dX6_isBelowBosun_13
set_option maxHeartbeats 4000000 in
set_option maxRecDepth 100000 in
theorem c_X6_isClimber (l : Launch) (D : va_G) (cI cJ cS : ClassId) (ad : Nat → Nat) (σ : wk_St) (k : Nat) (hV : wk_V σ) (hk : k < wk_n σ) : wk_Ci l D (wk_tys cI cJ cS) yX6_isClimber (wk_M yX6_isClimber cX6_isClimber 1 (some .boolean)) ({ frames := 0, cells := 0, slots := 0, locals := 0 }) [.ref (ad (16 + k))] (wx_W cI cS ad σ) (wx_W cI cS ad) (fun r u => r = wk_b (2 ≤ wk_rk σ k ∧ wk_rk σ k ≤ 5) ∧ u = σ) := by
  intro sz
  refine Met.ofW (cc := cX6_isClimber) (maxL := 1) (ret := (some .boolean)) (by decide) rfl ?_
  intro p e s m args below meth c s₁ B hml hv
  obtain ⟨rfl, hsz, hP, hK, hD0, hN⟩ := hv
  have hx := B.exec
  have hb := B.bytes
  have hr := B.returns
  have hts := atoms_spec (ws := wk_M yX6_isClimber cX6_isClimber 1 (some .boolean)) B.pre
  have hown : s.vm.findClass RX6 = some m.cls := findClass_of_methodNamed B.named
  have hlk := B.notSynchronized
  subst hsz
  have hI : wk_I D (va_A (wx_W cI cS ad σ) s.heap.size) s.heap s.heap [] (wx_W cI cS ad σ) := ⟨hP, hD0.self, va_S.rf⟩
  have hA : ∀ q : Nat, s.heap.size ≤ q → (va_A (wx_W cI cS ad σ) s.heap.size) q := fun q h => Or.inr h
  clear hP hD0
  generalize va_A (wx_W cI cS ad σ) s.heap.size = A at hI hA ⊢
  have hl := lv_entry ([.ref (ad (16 + k))]) (n := 1) (Nat.le_of_ble_eq_true rfl)
  rw [lg_entry_eq]
  generalize (lg_sl ([.ref (ad (16 + k))]) ++ List.replicate (1 - (lg_sl ([.ref (ad (16 + k))])).length) Slot.unset).toArray = ls at hl ⊢
  have hl : lv_has ls 1 [(0, .ref (ad (16 + k)))] := hl
  refine lv_aload_n hx hb dX6_isClimber_0 rfl (lv_at hl 0 rfl) ?_
  refine wk_get (v := .int (nI (wk_rk σ k))) hx hb hts (fun w h => wk_in_M w (lay_X6 w h)) hown hK hI (16 + k) (wx_em hk) rfl 2 (by decide) (hts _ (wk_in_M _ mw_189)) rfl rfl dX6_isClimber_1 ?_
  refine lv_iconst (v := 2) hx hb dX6_isClimber_4 (by decide) ?_
  refine lv_icmp_lt (tgt := 20) hx hb dX6_isClimber_5 (by decide) (fun c_1 => ?_) (fun c_1 => ?_)
  · refine lv_iconst (v := 0) hx hb dX6_isClimber_20 (by decide) ?_
    exact wk_rz σ hx hb hr hlk (by decide) hK hI rfl ⟨wk_bF (by have hr8 := hV.rk hk; simp only [Int32.lt_iff_toInt_lt, Int32.le_iff_toInt_le, ← Int32.toInt_inj, nI_toInt (show wk_rk σ k < 2 ^ 31 by omega), wk_lit0, wk_lit1, wk_lit2, wk_lit3, wk_lit5, wk_lit6, wk_lit7, wk_lit8, wk_lit64] at c_1; omega), rfl⟩ dX6_isClimber_21
  · refine lv_aload_n hx hb dX6_isClimber_8 rfl (lv_at hl 0 rfl) ?_
    refine wk_get (v := .int (nI (wk_rk σ k))) hx hb hts (fun w h => wk_in_M w (lay_X6 w h)) hown hK hI (16 + k) (wx_em hk) rfl 2 (by decide) (hts _ (wk_in_M _ mw_189)) rfl rfl dX6_isClimber_9 ?_
    refine lv_iconst (v := 5) hx hb dX6_isClimber_12 (by decide) ?_
    refine lv_icmp_gt (tgt := 20) hx hb dX6_isClimber_13 (by decide) (fun c_2 => ?_) (fun c_2 => ?_)
    · refine lv_iconst (v := 0) hx hb dX6_isClimber_20 (by decide) ?_
      exact wk_rz σ hx hb hr hlk (by decide) hK hI rfl ⟨wk_bF (by have hr8 := hV.rk hk; simp only [Int32.lt_iff_toInt_lt, Int32.le_iff_toInt_le, ← Int32.toInt_inj, nI_toInt (show wk_rk σ k < 2 ^ 31 by omega), wk_lit0, wk_lit1, wk_lit2, wk_lit3, wk_lit5, wk_lit6, wk_lit7, wk_lit8, wk_lit64] at c_1 c_2; omega), rfl⟩ dX6_isClimber_21
    · refine lv_iconst (v := 1) hx hb dX6_isClimber_16 (by decide) ?_
      refine lv_goto (tgt := 21) hx hb dX6_isClimber_17 (by decide) ?_
      exact wk_rz σ hx hb hr hlk (by decide) hK hI rfl ⟨wk_bT (by have hr8 := hV.rk hk; simp only [Int32.lt_iff_toInt_lt, Int32.le_iff_toInt_le, ← Int32.toInt_inj, nI_toInt (show wk_rk σ k < 2 ^ 31 by omega), wk_lit0, wk_lit1, wk_lit2, wk_lit3, wk_lit5, wk_lit6, wk_lit7, wk_lit8, wk_lit64] at c_1 c_2; omega), rfl⟩ dX6_isClimber_21
set_option maxHeartbeats 4000000 in
set_option maxRecDepth 100000 in
theorem c_X6_isPayee (l : Launch) (D : va_G) (cI cJ cS : ClassId) (ad : Nat → Nat) (σ : wk_St) (k : Nat) (hV : wk_V σ) (hk : k < wk_n σ) : wk_Ci l D (wk_tys cI cJ cS) yX6_isPayee (wk_M yX6_isPayee cX6_isPayee 1 (some .boolean)) ({ frames := 0, cells := 0, slots := 0, locals := 0 }) [.ref (ad (16 + k))] (wx_W cI cS ad σ) (wx_W cI cS ad) (fun r u => r = wk_b (1 ≤ wk_rk σ k) ∧ u = σ) := by
  intro sz
  refine Met.ofW (cc := cX6_isPayee) (maxL := 1) (ret := (some .boolean)) (by decide) rfl ?_
  intro p e s m args below meth c s₁ B hml hv
  obtain ⟨rfl, hsz, hP, hK, hD0, hN⟩ := hv
  have hx := B.exec
  have hb := B.bytes
  have hr := B.returns
  have hts := atoms_spec (ws := wk_M yX6_isPayee cX6_isPayee 1 (some .boolean)) B.pre
  have hown : s.vm.findClass RX6 = some m.cls := findClass_of_methodNamed B.named
  have hlk := B.notSynchronized
  subst hsz
  have hI : wk_I D (va_A (wx_W cI cS ad σ) s.heap.size) s.heap s.heap [] (wx_W cI cS ad σ) := ⟨hP, hD0.self, va_S.rf⟩
  have hA : ∀ q : Nat, s.heap.size ≤ q → (va_A (wx_W cI cS ad σ) s.heap.size) q := fun q h => Or.inr h
  clear hP hD0
  generalize va_A (wx_W cI cS ad σ) s.heap.size = A at hI hA ⊢
  have hl := lv_entry ([.ref (ad (16 + k))]) (n := 1) (Nat.le_of_ble_eq_true rfl)
  rw [lg_entry_eq]
  generalize (lg_sl ([.ref (ad (16 + k))]) ++ List.replicate (1 - (lg_sl ([.ref (ad (16 + k))])).length) Slot.unset).toArray = ls at hl ⊢
  have hl : lv_has ls 1 [(0, .ref (ad (16 + k)))] := hl
  refine lv_aload_n hx hb dX6_isPayee_0 rfl (lv_at hl 0 rfl) ?_
  refine wk_get (v := .int (nI (wk_rk σ k))) hx hb hts (fun w h => wk_in_M w (lay_X6 w h)) hown hK hI (16 + k) (wx_em hk) rfl 2 (by decide) (hts _ (wk_in_M _ mw_189)) rfl rfl dX6_isPayee_1 ?_
  refine lv_iconst (v := 1) hx hb dX6_isPayee_4 (by decide) ?_
  refine lv_icmp_lt (tgt := 12) hx hb dX6_isPayee_5 (by decide) (fun c_1 => ?_) (fun c_1 => ?_)
  · refine lv_iconst (v := 0) hx hb dX6_isPayee_12 (by decide) ?_
    exact wk_rz σ hx hb hr hlk (by decide) hK hI rfl ⟨wk_bF (by have hr8 := hV.rk hk; simp only [Int32.lt_iff_toInt_lt, Int32.le_iff_toInt_le, ← Int32.toInt_inj, nI_toInt (show wk_rk σ k < 2 ^ 31 by omega), wk_lit0, wk_lit1, wk_lit2, wk_lit3, wk_lit5, wk_lit6, wk_lit7, wk_lit8, wk_lit64] at c_1; omega), rfl⟩ dX6_isPayee_13
  · refine lv_iconst (v := 1) hx hb dX6_isPayee_8 (by decide) ?_
    refine lv_goto (tgt := 13) hx hb dX6_isPayee_9 (by decide) ?_
    exact wk_rz σ hx hb hr hlk (by decide) hK hI rfl ⟨wk_bT (by have hr8 := hV.rk hk; simp only [Int32.lt_iff_toInt_lt, Int32.le_iff_toInt_le, ← Int32.toInt_inj, nI_toInt (show wk_rk σ k < 2 ^ 31 by omega), wk_lit0, wk_lit1, wk_lit2, wk_lit3, wk_lit5, wk_lit6, wk_lit7, wk_lit8, wk_lit64] at c_1; omega), rfl⟩ dX6_isPayee_13
set_option maxHeartbeats 4000000 in
set_option maxRecDepth 100000 in
theorem c_X6_isCarer (l : Launch) (D : va_G) (cI cJ cS : ClassId) (ad : Nat → Nat) (σ : wk_St) (k : Nat) (hV : wk_V σ) (hk : k < wk_n σ) : wk_Ci l D (wk_tys cI cJ cS) yX6_isCarer (wk_M yX6_isCarer cX6_isCarer 1 (some .boolean)) ({ frames := 0, cells := 0, slots := 0, locals := 0 }) [.ref (ad (16 + k))] (wx_W cI cS ad σ) (wx_W cI cS ad) (fun r u => r = wk_b (6 ≤ wk_rk σ k) ∧ u = σ) := by
  intro sz
  refine Met.ofW (cc := cX6_isCarer) (maxL := 1) (ret := (some .boolean)) (by decide) rfl ?_
  intro p e s m args below meth c s₁ B hml hv
  obtain ⟨rfl, hsz, hP, hK, hD0, hN⟩ := hv
  have hx := B.exec
  have hb := B.bytes
  have hr := B.returns
  have hts := atoms_spec (ws := wk_M yX6_isCarer cX6_isCarer 1 (some .boolean)) B.pre
  have hown : s.vm.findClass RX6 = some m.cls := findClass_of_methodNamed B.named
  have hlk := B.notSynchronized
  subst hsz
  have hI : wk_I D (va_A (wx_W cI cS ad σ) s.heap.size) s.heap s.heap [] (wx_W cI cS ad σ) := ⟨hP, hD0.self, va_S.rf⟩
  have hA : ∀ q : Nat, s.heap.size ≤ q → (va_A (wx_W cI cS ad σ) s.heap.size) q := fun q h => Or.inr h
  clear hP hD0
  generalize va_A (wx_W cI cS ad σ) s.heap.size = A at hI hA ⊢
  have hl := lv_entry ([.ref (ad (16 + k))]) (n := 1) (Nat.le_of_ble_eq_true rfl)
  rw [lg_entry_eq]
  generalize (lg_sl ([.ref (ad (16 + k))]) ++ List.replicate (1 - (lg_sl ([.ref (ad (16 + k))])).length) Slot.unset).toArray = ls at hl ⊢
  have hl : lv_has ls 1 [(0, .ref (ad (16 + k)))] := hl
  refine lv_aload_n hx hb dX6_isCarer_0 rfl (lv_at hl 0 rfl) ?_
  refine wk_get (v := .int (nI (wk_rk σ k))) hx hb hts (fun w h => wk_in_M w (lay_X6 w h)) hown hK hI (16 + k) (wx_em hk) rfl 2 (by decide) (hts _ (wk_in_M _ mw_189)) rfl rfl dX6_isCarer_1 ?_
  refine lv_bipush (v := 6) hx hb dX6_isCarer_4 (by decide) ?_
  refine lv_icmp_eq (tgt := 18) hx hb dX6_isCarer_6 (by decide) (fun c_1 => ?_) (fun c_1 => ?_)
  · refine lv_iconst (v := 1) hx hb dX6_isCarer_18 (by decide) ?_
    refine lv_goto (tgt := 23) hx hb dX6_isCarer_19 (by decide) ?_
    exact wk_rz σ hx hb hr hlk (by decide) hK hI rfl ⟨wk_bT (by have hr8 := hV.rk hk; simp only [Int32.lt_iff_toInt_lt, Int32.le_iff_toInt_le, ← Int32.toInt_inj, nI_toInt (show wk_rk σ k < 2 ^ 31 by omega), wk_lit0, wk_lit1, wk_lit2, wk_lit3, wk_lit5, wk_lit6, wk_lit7, wk_lit8, wk_lit64] at c_1; omega), rfl⟩ dX6_isCarer_23
  · refine lv_aload_n hx hb dX6_isCarer_9 rfl (lv_at hl 0 rfl) ?_
    refine wk_get (v := .int (nI (wk_rk σ k))) hx hb hts (fun w h => wk_in_M w (lay_X6 w h)) hown hK hI (16 + k) (wx_em hk) rfl 2 (by decide) (hts _ (wk_in_M _ mw_189)) rfl rfl dX6_isCarer_10 ?_
    refine lv_bipush (v := 7) hx hb dX6_isCarer_13 (by decide) ?_
    refine lv_icmp_ne (tgt := 22) hx hb dX6_isCarer_15 (by decide) (fun c_2 => ?_) (fun c_2 => ?_)
    · refine lv_iconst (v := 0) hx hb dX6_isCarer_22 (by decide) ?_
      exact wk_rz σ hx hb hr hlk (by decide) hK hI rfl ⟨wk_bF (by have hr8 := hV.rk hk; simp only [Int32.lt_iff_toInt_lt, Int32.le_iff_toInt_le, ← Int32.toInt_inj, nI_toInt (show wk_rk σ k < 2 ^ 31 by omega), wk_lit0, wk_lit1, wk_lit2, wk_lit3, wk_lit5, wk_lit6, wk_lit7, wk_lit8, wk_lit64] at c_1 c_2; omega), rfl⟩ dX6_isCarer_23
    · refine lv_iconst (v := 1) hx hb dX6_isCarer_18 (by decide) ?_
      refine lv_goto (tgt := 23) hx hb dX6_isCarer_19 (by decide) ?_
      exact wk_rz σ hx hb hr hlk (by decide) hK hI rfl ⟨wk_bT (by have hr8 := hV.rk hk; simp only [Int32.lt_iff_toInt_lt, Int32.le_iff_toInt_le, ← Int32.toInt_inj, nI_toInt (show wk_rk σ k < 2 ^ 31 by omega), wk_lit0, wk_lit1, wk_lit2, wk_lit3, wk_lit5, wk_lit6, wk_lit7, wk_lit8, wk_lit64] at c_1 c_2; omega), rfl⟩ dX6_isCarer_23
set_option maxHeartbeats 4000000 in
set_option maxRecDepth 100000 in
theorem c_X2_forgetNotes (l : Launch) (D : va_G) (cI cJ cS : ClassId) (ad : Nat → Nat) (σ : wk_St)   : wk_Cv l D (wk_tys cI cJ cS) yX2_forgetNotes (wk_M yX2_forgetNotes cX2_forgetNotes 1 none) ({ frames := 0, cells := 0, slots := 0, locals := 0 }) [.ref (ad 1)] (wx_W cI cS ad σ) (wx_W cI cS ad) (fun u => u = wk_fg σ) := by
  intro sz
  refine Met.ofW (cc := cX2_forgetNotes) (maxL := 1) (ret := none) (by decide) rfl ?_
  intro p e s m args below meth c s₁ B hml hv
  obtain ⟨rfl, hsz, hP, hK, hD0, hN⟩ := hv
  have hx := B.exec
  have hb := B.bytes
  have hr := B.returns
  have hts := atoms_spec (ws := wk_M yX2_forgetNotes cX2_forgetNotes 1 none) B.pre
  have hown : s.vm.findClass RX2 = some m.cls := findClass_of_methodNamed B.named
  have hlk := B.notSynchronized
  subst hsz
  have hI : wk_I D (va_A (wx_W cI cS ad σ) s.heap.size) s.heap s.heap [] (wx_W cI cS ad σ) := ⟨hP, hD0.self, va_S.rf⟩
  have hA : ∀ q : Nat, s.heap.size ≤ q → (va_A (wx_W cI cS ad σ) s.heap.size) q := fun q h => Or.inr h
  clear hP hD0
  generalize va_A (wx_W cI cS ad σ) s.heap.size = A at hI hA ⊢
  have hl := lv_entry ([.ref (ad 1)]) (n := 1) (Nat.le_of_ble_eq_true rfl)
  rw [lg_entry_eq]
  generalize (lg_sl ([.ref (ad 1)]) ++ List.replicate (1 - (lg_sl ([.ref (ad 1)])).length) Slot.unset).toArray = ls at hl ⊢
  have hl : lv_has ls 1 [(0, .ref (ad 1))] := hl
  refine lv_aload_n hx hb dX2_forgetNotes_0 rfl (lv_at hl 0 rfl) ?_
  refine lv_iconst (v := 0) hx hb dX2_forgetNotes_1 (by decide) ?_
  refine wk_put (v := .int (nI 0)) (ty := .int) hx hb hts (fun w h => wk_in_M w (lay_X2 w h)) tyX2 tyX2_ok nmX2 hown hK hI (1) wx_e1 rfl 4 (by decide) (hts _ (wk_in_M _ mw_70)) rfl rfl (by decide +kernel) rfl rfl (Nat.le_of_ble_eq_true rfl) (wx_sNt _) dX2_forgetNotes_2 (fun H locs hI => ?_)
  exact wk_rv (wk_sNt σ 0) hx hb hr hlk hK hI rfl (by first | rfl | (simp only [wk_fg]; done) | (simp only [wk_fg]; rfl)) dX2_forgetNotes_5
set_option maxHeartbeats 4000000 in
set_option maxRecDepth 100000 in
theorem c_X2_noteWay (l : Launch) (D : va_G) (cI cJ cS : ClassId) (ad : Nat → Nat) (σ : wk_St) (a b v : Int32) (hv : 10 * a + b = v) (hc : wk_nt σ + 1 < 2147483648) : wk_Cv l D (wk_tys cI cJ cS) yX2_noteWay (wk_M yX2_noteWay cX2_noteWay 3 none) ({ frames := 0, cells := 0, slots := 0, locals := 0 }) [.ref (ad 1), .int a, .int b] (wx_W cI cS ad σ) (wx_W cI cS ad) (fun u => u = wk_note σ v) := by
  intro sz
  refine Met.ofW (cc := cX2_noteWay) (maxL := 3) (ret := none) (by decide) rfl ?_
  intro p e s m args below meth c s₁ B hml hv
  obtain ⟨rfl, hsz, hP, hK, hD0, hN⟩ := hv
  have hx := B.exec
  have hb := B.bytes
  have hr := B.returns
  have hts := atoms_spec (ws := wk_M yX2_noteWay cX2_noteWay 3 none) B.pre
  have hown : s.vm.findClass RX2 = some m.cls := findClass_of_methodNamed B.named
  have hlk := B.notSynchronized
  subst hsz
  have hI : wk_I D (va_A (wx_W cI cS ad σ) s.heap.size) s.heap s.heap [] (wx_W cI cS ad σ) := ⟨hP, hD0.self, va_S.rf⟩
  have hA : ∀ q : Nat, s.heap.size ≤ q → (va_A (wx_W cI cS ad σ) s.heap.size) q := fun q h => Or.inr h
  clear hP hD0
  generalize va_A (wx_W cI cS ad σ) s.heap.size = A at hI hA ⊢
  have hl := lv_entry ([.ref (ad 1), .int a, .int b]) (n := 3) (Nat.le_of_ble_eq_true rfl)
  rw [lg_entry_eq]
  generalize (lg_sl ([.ref (ad 1), .int a, .int b]) ++ List.replicate (3 - (lg_sl ([.ref (ad 1), .int a, .int b])).length) Slot.unset).toArray = ls at hl ⊢
  have hl : lv_has ls 3 [(0, .ref (ad 1)), (1, .int a), (2, .int b)] := hl
  subst hv
  refine lv_aload_n hx hb dX2_noteWay_0 rfl (lv_at hl 0 rfl) ?_
  refine wk_get (v := .int (nI (wk_nt σ))) hx hb hts (fun w h => wk_in_M w (lay_X2 w h)) hown hK hI (1) wx_e1 rfl 4 (by decide) (hts _ (wk_in_M _ mw_70)) rfl rfl dX2_noteWay_1 ?_
  refine lv_bipush (v := 64) hx hb dX2_noteWay_4 (by decide) ?_
  refine lv_icmp_ge (tgt := 24) hx hb dX2_noteWay_6 (by decide) (fun c_1 => ?_) (fun c_1 => ?_)
  · have h64 : ¬ wk_nt σ < 64 := by simp only [Int32.lt_iff_toInt_lt, Int32.le_iff_toInt_le, nI_toInt (show wk_nt σ < 2 ^ 31 by omega), wk_lit0, wk_lit1, wk_lit2, wk_lit3, wk_lit5, wk_lit6, wk_lit7, wk_lit8, wk_lit64] at c_1; omega
    refine lv_aload_n hx hb dX2_noteWay_24 rfl (lv_at hl 0 rfl) ?_
    refine lv_dup hx hb dX2_noteWay_25 rfl ?_
    refine wk_get (v := .int (nI (wk_nt σ))) hx hb hts (fun w h => wk_in_M w (lay_X2 w h)) hown hK hI (1) wx_e1 rfl 4 (by decide) (hts _ (wk_in_M _ mw_70)) rfl rfl dX2_noteWay_26 ?_
    refine lv_iconst (v := 1) hx hb dX2_noteWay_29 (by decide) ?_
    refine lv_iadd hx hb dX2_noteWay_30 ?_
    rw [nI_1]
    refine wk_put (v := .int (nI (wk_nt σ + 1))) (ty := .int) hx hb hts (fun w h => wk_in_M w (lay_X2 w h)) tyX2 tyX2_ok nmX2 hown hK hI (1) wx_e1 rfl 4 (by decide) (hts _ (wk_in_M _ mw_70)) rfl rfl (by decide +kernel) rfl rfl (Nat.le_of_ble_eq_true rfl) (wx_sNt _) dX2_noteWay_31 (fun H locs hI => ?_)
    exact wk_rv (wk_sNt σ (wk_nt σ + 1)) hx hb hr hlk hK hI rfl (by unfold wk_note; rw [if_neg h64]; rfl) dX2_noteWay_34
  · have h64 : wk_nt σ < 64 := by simp only [Int32.lt_iff_toInt_lt, Int32.le_iff_toInt_le, nI_toInt (show wk_nt σ < 2 ^ 31 by omega), wk_lit0, wk_lit1, wk_lit2, wk_lit3, wk_lit5, wk_lit6, wk_lit7, wk_lit8, wk_lit64] at c_1; omega
    refine lv_aload_n hx hb dX2_noteWay_9 rfl (lv_at hl 0 rfl) ?_
    refine wk_get (v := .ref (ad 7)) hx hb hts (fun w h => wk_in_M w (lay_X2 w h)) hown hK hI (1) wx_e1 rfl 3 (by decide) (hts _ (wk_in_M _ mw_68)) rfl rfl dX2_noteWay_10 ?_
    refine lv_aload_n hx hb dX2_noteWay_13 rfl (lv_at hl 0 rfl) ?_
    refine wk_get (v := .int (nI (wk_nt σ))) hx hb hts (fun w h => wk_in_M w (lay_X2 w h)) hown hK hI (1) wx_e1 rfl 4 (by decide) (hts _ (wk_in_M _ mw_70)) rfl rfl dX2_noteWay_14 ?_
    refine lv_bipush (v := 10) hx hb dX2_noteWay_17 (by decide) ?_
    refine lv_iload_n hx hb dX2_noteWay_19 rfl (lv_at hl 1 rfl) ?_
    refine lv_imul hx hb dX2_noteWay_20 ?_
    refine lv_iload_n hx hb dX2_noteWay_21 rfl (lv_at hl 2 rfl) ?_
    refine lv_iadd hx hb dX2_noteWay_22 ?_
    refine wk_iast (j := (wk_nt σ)) hx hb hK hI 7 0 wx_e7 rfl rfl h64 (by decide) (wx_sKp _) dX2_noteWay_23 (fun H locs hI => ?_)
    refine lv_aload_n hx hb dX2_noteWay_24 rfl (lv_at hl 0 rfl) ?_
    refine lv_dup hx hb dX2_noteWay_25 rfl ?_
    refine wk_get (v := .int (nI (wk_nt (wk_sKp σ (upd (wk_kp σ) (wk_nt σ) ((10 * a) + b)))))) hx hb hts (fun w h => wk_in_M w (lay_X2 w h)) hown hK hI (1) wx_e1 rfl 4 (by decide) (hts _ (wk_in_M _ mw_70)) rfl rfl dX2_noteWay_26 ?_
    refine lv_iconst (v := 1) hx hb dX2_noteWay_29 (by decide) ?_
    refine lv_iadd hx hb dX2_noteWay_30 ?_
    rw [nI_1]
    refine wk_put (v := .int (nI (wk_nt (wk_sKp σ (upd (wk_kp σ) (wk_nt σ) ((10 * a) + b))) + 1))) (ty := .int) hx hb hts (fun w h => wk_in_M w (lay_X2 w h)) tyX2 tyX2_ok nmX2 hown hK hI (1) wx_e1 rfl 4 (by decide) (hts _ (wk_in_M _ mw_70)) rfl rfl (by decide +kernel) rfl rfl (Nat.le_of_ble_eq_true rfl) (wx_sNt _) dX2_noteWay_31 (fun H locs hI => ?_)
    exact wk_rv (wk_sNt (wk_sKp σ (upd (wk_kp σ) (wk_nt σ) ((10 * a) + b))) (wk_nt (wk_sKp σ (upd (wk_kp σ) (wk_nt σ) ((10 * a) + b))) + 1)) hx hb hr hlk hK hI rfl (by unfold wk_note; rw [if_pos h64]; rfl) dX2_noteWay_34
end
section
set_option maxHeartbeats 4000000 in
set_option maxRecDepth 100000 in
theorem c_X8_toilWay (l : Launch) (D : va_G) (cI cJ cS : ClassId) (ad : Nat → Nat) (σ : wk_St) (r k : Nat) (n : Int32) (hV : wk_V σ) (hr9 : r < 8) (hk : k < wk_n σ) (hc : wk_nt σ + 1 < 2147483648) : wk_Cl l D (wk_tys cI cJ cS) yX8_toilWay (wk_M yX8_toilWay cX8_toilWay 6 (some .long)) ({ frames := 1, cells := 0, slots := 0, locals := 22 }) [.ref (ad (8 + r)), .ref (ad 1), .ref (ad (16 + k)), .int n] (wx_W cI cS ad σ) (wx_W cI cS ad) (fun r0 u0 => r0 = (wk_soulToil σ k n).1 ∧ u0 = (wk_soulToil σ k n).2) := by
  intro sz
  refine Met.ofW (cc := cX8_toilWay) (maxL := 6) (ret := (some .long)) (by decide) rfl ?_
  intro p e s m args below meth c s₁ B hml hv
  obtain ⟨rfl, hsz, hP, hK, hD0, hN⟩ := hv
  have hx := B.exec
  have hb := B.bytes
  have hr := B.returns
  have hts := atoms_spec (ws := wk_M yX8_toilWay cX8_toilWay 6 (some .long)) B.pre
  have hown : s.vm.findClass RX8 = some m.cls := findClass_of_methodNamed B.named
  have hlk := B.notSynchronized
  subst hsz
  have hI : wk_I D (va_A (wx_W cI cS ad σ) s.heap.size) s.heap s.heap [] (wx_W cI cS ad σ) := ⟨hP, hD0.self, va_S.rf⟩
  have hA : ∀ q : Nat, s.heap.size ≤ q → (va_A (wx_W cI cS ad σ) s.heap.size) q := fun q h => Or.inr h
  clear hP hD0
  generalize va_A (wx_W cI cS ad σ) s.heap.size = A at hI hA ⊢
  have hl := lv_entry ([.ref (ad (8 + r)), .ref (ad 1), .ref (ad (16 + k)), .int n]) (n := 6) (Nat.le_of_ble_eq_true rfl)
  rw [lg_entry_eq]
  generalize (lg_sl ([.ref (ad (8 + r)), .ref (ad 1), .ref (ad (16 + k)), .int n]) ++ List.replicate (6 - (lg_sl ([.ref (ad (8 + r)), .ref (ad 1), .ref (ad (16 + k)), .int n])).length) Slot.unset).toArray = ls at hl ⊢
  have hl : lv_has ls 6 [(0, .ref (ad (8 + r))), (1, .ref (ad 1)), (2, .ref (ad (16 + k))), (3, .int n)] := hl
  refine lv_aload_n hx hb dX8_toilWay_0 rfl (lv_at hl 1 rfl) ?_
  refine lv_bipush (v := 8) hx hb dX8_toilWay_1 (by decide) ?_
  refine lv_iconst (v := 0) hx hb dX8_toilWay_3 (by decide) ?_
  refine wk_kV hI hA (va_runV (As := [.int 8, .int 0]) (rest := []) ⟨hx, hb, hml, hown, hts⟩ (c_X2_noteWay l D cI cJ cS ad σ 8 0 80 (by decide) (by omega) _) (wk_cwV 2 hts wk_in_M mw_293 mw_258 mw_259 mw_35 mw_260 hdX2_noteWay ⟨(Nat.le_of_ble_eq_true rfl), (Nat.le_of_ble_eq_true rfl)⟩) (wk_preV hN hK hI (ci := 2) rfl wx_e1) rfl rfl hl.1 rfl (lv_room (Nat.le_of_ble_eq_true rfl)) dX8_toilWay_4 ⟨(Nat.le_of_ble_eq_true rfl), (Nat.le_of_ble_eq_true rfl)⟩) (fun u H locs hw hI => ?_)
  obtain rfl := hw
  have hG_1 : wk_G σ (wk_note σ 80) 1 := wk_g_note σ 80
  refine lv_iload_n hx hb dX8_toilWay_7 rfl (lv_at hl 3 rfl) ?_
  refine lv_i2l hx hb dX8_toilWay_8 rfl ?_
  refine lv_bipush (v := 10) hx hb dX8_toilWay_9 (by decide) ?_
  refine lv_aload_n hx hb dX8_toilWay_11 rfl (lv_at hl 2 rfl) ?_
  refine wk_get (v := .int (wk_sk (wk_note σ 80) k)) hx hb hts (fun w h => wk_in_M w (lay_X6 w h)) hown hK hI (16 + k) (wx_em (hG_1.lt hk)) rfl 1 (by decide) (hts _ (wk_in_M _ mw_187)) rfl rfl dX8_toilWay_12 ?_
  refine lv_iadd hx hb dX8_toilWay_15 ?_
  refine lv_i2l hx hb dX8_toilWay_16 rfl ?_
  refine lv_lmul hx hb dX8_toilWay_17 ?_
  refine lv_aload_n hx hb dX8_toilWay_18 rfl (lv_at hl 2 rfl) ?_
  refine wk_get (v := .int (wk_we (wk_note σ 80) k)) hx hb hts (fun w h => wk_in_M w (lay_X6 w h)) hown hK hI (16 + k) (wx_em (hG_1.lt hk)) rfl 4 (by decide) (hts _ (wk_in_M _ mw_196)) rfl rfl dX8_toilWay_19 ?_
  refine lv_i2l hx hb dX8_toilWay_22 rfl ?_
  refine lv_lsub hx hb dX8_toilWay_23 ?_
  refine lv_lstore (lv' := [(4, .long (((n.toInt64) * ((10 + (wk_sk (wk_note σ 80) k)).toInt64)) - ((wk_we (wk_note σ 80) k).toInt64))), (0, .ref (ad (8 + r))), (1, .ref (ad 1)), (2, .ref (ad (16 + k))), (3, .int n)]) hx hb dX8_toilWay_24 hl (by decide) rfl (fun ls hl => ?_)
  refine lv_aload_n hx hb dX8_toilWay_26 rfl (lv_at hl 3 rfl) ?_
  refine lv_iload_n hx hb dX8_toilWay_27 rfl (lv_at hl 4 rfl) ?_
  refine wk_kV hI hA (va_runV (As := [.int n]) (rest := []) ⟨hx, hb, hml, hown, hts⟩ (c_X6_tire l D cI cJ cS ad (wk_note σ 80) k n (hG_1.lt hk) _) (wk_cwV 1 hts wk_in_M mw_294 mw_272 mw_273 mw_46 mw_274 hdX6_tire ⟨(Nat.le_of_ble_eq_true rfl), (Nat.le_of_ble_eq_true rfl)⟩) (wk_preV hN hK hI (ci := 6) rfl (wx_em (hG_1.lt hk))) rfl rfl hl.1 rfl (lv_room (Nat.le_of_ble_eq_true rfl)) dX8_toilWay_28 ⟨(Nat.le_of_ble_eq_true rfl), (Nat.le_of_ble_eq_true rfl)⟩) (fun u H locs hw hI => ?_)
  obtain rfl := hw
  have hG_2 : wk_G σ (wk_tire (wk_note σ 80) k n) 1 := hG_1.trans (wk_g_tire (wk_note σ 80) k n)
  refine lv_lload hx hb dX8_toilWay_31 (lv_at hl 0 rfl) ?_
  refine lv_lconst (v := 0) hx hb dX8_toilWay_33 (by decide) ?_
  refine W.lcmp hx hb dX8_toilWay_34 ?_
  refine lv_if_ge (tgt := 42) hx hb dX8_toilWay_35 (by decide) (fun c_3 => ?_) (fun c_3 => ?_)
  · have c_3 := (lg_cmp_ge _ _).mp c_3
    refine lv_lload hx hb dX8_toilWay_42 (lv_at hl 0 rfl) ?_
    exact wk_rl (wk_tire (wk_note σ 80) k n) hx hb hr hlk hK hI rfl (wk_post (by first | rfl | (simp only [wk_soulToil, wk_soulToil1, wk_pos, if_pos c_3]; done) | (simp only [wk_soulToil, wk_soulToil1, wk_pos, if_pos c_3]; rfl))) dX8_toilWay_44
  · have c_3 := fun hq => c_3 ((lg_cmp_ge _ _).mpr hq)
    refine lv_lconst (v := 0) hx hb dX8_toilWay_38 (by decide) ?_
    refine lv_goto (tgt := 44) hx hb dX8_toilWay_39 (by decide) ?_
    exact wk_rl (wk_tire (wk_note σ 80) k n) hx hb hr hlk hK hI rfl (wk_post (by first | rfl | (simp only [wk_soulToil, wk_soulToil1, wk_pos, if_neg c_3]; done) | (simp only [wk_soulToil, wk_soulToil1, wk_pos, if_neg c_3]; rfl))) dX8_toilWay_44
set_option maxHeartbeats 4000000 in
set_option maxRecDepth 100000 in
theorem c_X10_toilWay (l : Launch) (D : va_G) (cI cJ cS : ClassId) (ad : Nat → Nat) (σ : wk_St) (r k : Nat) (n : Int32) (hV : wk_V σ) (hr9 : r < 8) (hk : k < wk_n σ) (hc : wk_nt σ + 2 < 2147483648) : wk_Cl l D (wk_tys cI cJ cS) yX10_toilWay (wk_M yX10_toilWay cX10_toilWay 4 (some .long)) ({ frames := 2, cells := 0, slots := 0, locals := 47 }) [.ref (ad (8 + r)), .ref (ad 1), .ref (ad (16 + k)), .int n] (wx_W cI cS ad σ) (wx_W cI cS ad) (fun r0 u0 => r0 = (wk_topToil σ k n).1 ∧ u0 = (wk_topToil σ k n).2) := by
  intro sz
  refine Met.ofW (cc := cX10_toilWay) (maxL := 4) (ret := (some .long)) (by decide) rfl ?_
  intro p e s m args below meth c s₁ B hml hv
  obtain ⟨rfl, hsz, hP, hK, hD0, hN⟩ := hv
  have hx := B.exec
  have hb := B.bytes
  have hr := B.returns
  have hts := atoms_spec (ws := wk_M yX10_toilWay cX10_toilWay 4 (some .long)) B.pre
  have hown : s.vm.findClass RX10 = some m.cls := findClass_of_methodNamed B.named
  have hlk := B.notSynchronized
  subst hsz
  have hI : wk_I D (va_A (wx_W cI cS ad σ) s.heap.size) s.heap s.heap [] (wx_W cI cS ad σ) := ⟨hP, hD0.self, va_S.rf⟩
  have hA : ∀ q : Nat, s.heap.size ≤ q → (va_A (wx_W cI cS ad σ) s.heap.size) q := fun q h => Or.inr h
  clear hP hD0
  generalize va_A (wx_W cI cS ad σ) s.heap.size = A at hI hA ⊢
  have hl := lv_entry ([.ref (ad (8 + r)), .ref (ad 1), .ref (ad (16 + k)), .int n]) (n := 4) (Nat.le_of_ble_eq_true rfl)
  rw [lg_entry_eq]
  generalize (lg_sl ([.ref (ad (8 + r)), .ref (ad 1), .ref (ad (16 + k)), .int n]) ++ List.replicate (4 - (lg_sl ([.ref (ad (8 + r)), .ref (ad 1), .ref (ad (16 + k)), .int n])).length) Slot.unset).toArray = ls at hl ⊢
  have hl : lv_has ls 4 [(0, .ref (ad (8 + r))), (1, .ref (ad 1)), (2, .ref (ad (16 + k))), (3, .int n)] := hl
  refine lv_aload_n hx hb dX10_toilWay_0 rfl (lv_at hl 1 rfl) ?_
  refine lv_iconst (v := 2) hx hb dX10_toilWay_1 (by decide) ?_
  refine lv_iconst (v := 0) hx hb dX10_toilWay_2 (by decide) ?_
  refine wk_kV hI hA (va_runV (As := [.int 2, .int 0]) (rest := []) ⟨hx, hb, hml, hown, hts⟩ (c_X2_noteWay l D cI cJ cS ad σ 2 0 20 (by decide) (by omega) _) (wk_cwV 2 hts wk_in_M mw_257 mw_258 mw_259 mw_35 mw_260 hdX2_noteWay ⟨(Nat.le_of_ble_eq_true rfl), (Nat.le_of_ble_eq_true rfl)⟩) (wk_preV hN hK hI (ci := 2) rfl wx_e1) rfl rfl hl.1 rfl (lv_room (Nat.le_of_ble_eq_true rfl)) dX10_toilWay_3 ⟨(Nat.le_of_ble_eq_true rfl), (Nat.le_of_ble_eq_true rfl)⟩) (fun u H locs hw hI => ?_)
  obtain rfl := hw
  have hG_1 : wk_G σ (wk_note σ 20) 1 := wk_g_note σ 20
  refine lv_aload_n hx hb dX10_toilWay_6 rfl (lv_at hl 2 rfl) ?_
  refine wk_get (v := .int (wk_we (wk_note σ 20) k)) hx hb hts (fun w h => wk_in_M w (lay_X6 w h)) hown hK hI (16 + k) (wx_em (hG_1.lt hk)) rfl 4 (by decide) (hts _ (wk_in_M _ mw_195)) rfl rfl dX10_toilWay_7 ?_
  refine lv_sipush (v := 500) hx hb dX10_toilWay_10 (by decide) ?_
  refine lv_icmp_le (tgt := 18) hx hb dX10_toilWay_13 (by decide) (fun c_2 => ?_) (fun c_2 => ?_)
  · refine lv_aload_n hx hb dX10_toilWay_18 rfl (lv_at hl 0 rfl) ?_
    refine lv_aload_n hx hb dX10_toilWay_19 rfl (lv_at hl 1 rfl) ?_
    refine lv_aload_n hx hb dX10_toilWay_20 rfl (lv_at hl 2 rfl) ?_
    refine lv_iload_n hx hb dX10_toilWay_21 rfl (lv_at hl 3 rfl) ?_
    refine wk_kL hI hA (wk_runP (x := (⟨RX7, "toilWay", "(LWatchBill$Crew;LWatchBill$Member;I)J"⟩ : MethodName)) (As := [.ref (ad 1), .ref (ad (16 + k)), .int n]) (rest := []) ⟨hx, hb, hml, hown, hts⟩ (c_X8_toilWay l D cI cJ cS ad (wk_note σ 20) r k n (hG_1.V hV) hr9 (hG_1.lt hk) (by have hq := hG_1.nt; omega) _) (wk_cwP 3 hts wk_in_M mw_261 mw_262 mw_109 mw_252 mw_36 mw_292 wk_sub_X7_X8 hN (by decide +kernel) ⟨(Nat.le_of_ble_eq_true rfl), (Nat.le_of_ble_eq_true rfl)⟩) (wk_preR hN hK hI hr9) rfl rfl hl.1 rfl (lv_room (Nat.le_of_ble_eq_true rfl)) dX10_toilWay_22 ⟨(Nat.le_of_ble_eq_true rfl), (Nat.le_of_ble_eq_true rfl)⟩) (fun r u H locs hw hI => ?_)
    obtain ⟨rfl, rfl⟩ := hw
    have hG_3 : wk_G σ ((wk_soulToil (wk_note σ 20) k n).2) 2 := hG_1.trans (wk_g_soulToil (wk_note σ 20) k n)
    refine lv_ldc2 hx hb hown (hts _ (wk_in_M _ mw_264)) dX10_toilWay_25 ?_
    refine lv_iload_n hx hb dX10_toilWay_28 rfl (lv_at hl 3 rfl) ?_
    refine lv_i2l hx hb dX10_toilWay_29 rfl ?_
    refine lv_lmul hx hb dX10_toilWay_30 ?_
    refine lv_ladd hx hb dX10_toilWay_31 ?_
    exact wk_rl ((wk_soulToil (wk_note σ 20) k n).2) hx hb hr hlk hK hI rfl (wk_post (by first | rfl | (simp only [wk_topToil, wk_topToil1, if_pos c_2]; done) | (simp only [wk_topToil, wk_topToil1, if_pos c_2]; rfl))) dX10_toilWay_32
  · refine lv_lconst (v := 0) hx hb dX10_toilWay_16 (by decide) ?_
    exact wk_rl (wk_note σ 20) hx hb hr hlk hK hI rfl (wk_post (by first | rfl | (simp only [wk_topToil, wk_topToil1, if_neg c_2]; done) | (simp only [wk_topToil, wk_topToil1, if_neg c_2]; rfl))) dX10_toilWay_17
set_option maxHeartbeats 4000000 in
set_option maxRecDepth 100000 in
theorem c_X5_toilWay (l : Launch) (D : va_G) (cI cJ cS : ClassId) (ad : Nat → Nat) (σ : wk_St) (r k : Nat) (n : Int32) (hV : wk_V σ) (hr9 : r < 8) (hk : k < wk_n σ) (hc : wk_nt σ + 5 < 2147483648) : wk_Cl l D (wk_tys cI cJ cS) yX5_toilWay (wk_M yX5_toilWay cX5_toilWay 7 (some .long)) ({ frames := 3, cells := 0, slots := 0, locals := 70 }) [.ref (ad (8 + r)), .ref (ad 1), .ref (ad (16 + k)), .int n] (wx_W cI cS ad σ) (wx_W cI cS ad) (fun r0 u0 => r0 = (wk_mateToil σ k n).1 ∧ u0 = (wk_mateToil σ k n).2) := by
  intro sz
  refine Met.ofW (cc := cX5_toilWay) (maxL := 7) (ret := (some .long)) (by decide) rfl ?_
  intro p e s m args below meth c s₁ B hml hv
  obtain ⟨rfl, hsz, hP, hK, hD0, hN⟩ := hv
  have hx := B.exec
  have hb := B.bytes
  have hr := B.returns
  have hts := atoms_spec (ws := wk_M yX5_toilWay cX5_toilWay 7 (some .long)) B.pre
  have hown : s.vm.findClass RX5 = some m.cls := findClass_of_methodNamed B.named
  have hlk := B.notSynchronized
  subst hsz
  have hI : wk_I D (va_A (wx_W cI cS ad σ) s.heap.size) s.heap s.heap [] (wx_W cI cS ad σ) := ⟨hP, hD0.self, va_S.rf⟩
  have hA : ∀ q : Nat, s.heap.size ≤ q → (va_A (wx_W cI cS ad σ) s.heap.size) q := fun q h => Or.inr h
  clear hP hD0
  generalize va_A (wx_W cI cS ad σ) s.heap.size = A at hI hA ⊢
  have hl := lv_entry ([.ref (ad (8 + r)), .ref (ad 1), .ref (ad (16 + k)), .int n]) (n := 7) (Nat.le_of_ble_eq_true rfl)
  rw [lg_entry_eq]
  generalize (lg_sl ([.ref (ad (8 + r)), .ref (ad 1), .ref (ad (16 + k)), .int n]) ++ List.replicate (7 - (lg_sl ([.ref (ad (8 + r)), .ref (ad 1), .ref (ad (16 + k)), .int n])).length) Slot.unset).toArray = ls at hl ⊢
  have hl : lv_has ls 7 [(0, .ref (ad (8 + r))), (1, .ref (ad 1)), (2, .ref (ad (16 + k))), (3, .int n)] := hl
  refine lv_aload_n hx hb dX5_toilWay_0 rfl (lv_at hl 1 rfl) ?_
  refine lv_iconst (v := 4) hx hb dX5_toilWay_1 (by decide) ?_
  refine lv_iconst (v := 0) hx hb dX5_toilWay_2 (by decide) ?_
  refine wk_kV hI hA (va_runV (As := [.int 4, .int 0]) (rest := []) ⟨hx, hb, hml, hown, hts⟩ (c_X2_noteWay l D cI cJ cS ad σ 4 0 40 (by decide) (by omega) _) (wk_cwV 2 hts wk_in_M mw_283 mw_258 mw_259 mw_35 mw_260 hdX2_noteWay ⟨(Nat.le_of_ble_eq_true rfl), (Nat.le_of_ble_eq_true rfl)⟩) (wk_preV hN hK hI (ci := 2) rfl wx_e1) rfl rfl hl.1 rfl (lv_room (Nat.le_of_ble_eq_true rfl)) dX5_toilWay_3 ⟨(Nat.le_of_ble_eq_true rfl), (Nat.le_of_ble_eq_true rfl)⟩) (fun u H locs hw hI => ?_)
  obtain rfl := hw
  have hG_1 : wk_G σ (wk_note σ 40) 1 := wk_g_note σ 40
  refine lv_iload_n hx hb dX5_toilWay_6 rfl (lv_at hl 3 rfl) ?_
  refine lv_iconst (v := 2) hx hb dX5_toilWay_7 (by decide) ?_
  refine lv_idiv hx hb dX5_toilWay_8 (by decide) ?_
  refine lv_istore (lv' := [(4, .int (n / 2)), (0, .ref (ad (8 + r))), (1, .ref (ad 1)), (2, .ref (ad (16 + k))), (3, .int n)]) hx hb dX5_toilWay_9 hl (by decide) rfl (fun ls hl => ?_)
  refine lv_aload_n hx hb dX5_toilWay_11 rfl (lv_at hl 1 rfl) ?_
  refine lv_aload_n hx hb dX5_toilWay_12 rfl (lv_at hl 2 rfl) ?_
  refine lv_aload_n hx hb dX5_toilWay_13 rfl (lv_at hl 3 rfl) ?_
  refine lv_iload hx hb dX5_toilWay_14 (lv_at hl 0 rfl) ?_
  refine wk_kL hI hA (wk_runP (x := (⟨RX0, "toilWay", "(LWatchBill$Crew;LWatchBill$Member;I)J"⟩ : MethodName)) (As := [.ref (ad 1), .ref (ad (16 + k)), .int (n / 2)]) (rest := []) ⟨hx, hb, hml, hown, hts⟩ (c_X10_toilWay l D cI cJ cS ad (wk_note σ 40) r k (n / 2) (hG_1.V hV) hr9 (hG_1.lt hk) (by have hq := hG_1.nt; omega) _) (wk_cwP 3 hts wk_in_M mw_284 mw_285 mw_123 mw_255 mw_39 mw_256 wk_sub_X0_X10 hN (by decide +kernel) ⟨(Nat.le_of_ble_eq_true rfl), (Nat.le_of_ble_eq_true rfl)⟩) (wk_preR hN hK hI hr9) rfl rfl hl.1 rfl (lv_room (Nat.le_of_ble_eq_true rfl)) dX5_toilWay_16 ⟨(Nat.le_of_ble_eq_true rfl), (Nat.le_of_ble_eq_true rfl)⟩) (fun r u H locs hw hI => ?_)
  obtain ⟨rfl, rfl⟩ := hw
  have hG_2 : wk_G σ ((wk_topToil (wk_note σ 40) k (n / 2)).2) 3 := hG_1.trans (wk_g_topToil (wk_note σ 40) k (n / 2))
  refine lv_lstore (lv' := [(5, .long ((wk_topToil (wk_note σ 40) k (n / 2)).1)), (4, .int (n / 2)), (0, .ref (ad (8 + r))), (1, .ref (ad 1)), (2, .ref (ad (16 + k))), (3, .int n)]) hx hb dX5_toilWay_19 hl (by decide) rfl (fun ls hl => ?_)
  refine lv_lload hx hb dX5_toilWay_21 (lv_at hl 0 rfl) ?_
  refine lv_aload_n hx hb dX5_toilWay_23 rfl (lv_at hl 2 rfl) ?_
  refine lv_aload_n hx hb dX5_toilWay_24 rfl (lv_at hl 3 rfl) ?_
  refine lv_aload_n hx hb dX5_toilWay_25 rfl (lv_at hl 4 rfl) ?_
  refine lv_iload_n hx hb dX5_toilWay_26 rfl (lv_at hl 5 rfl) ?_
  refine lv_iload hx hb dX5_toilWay_27 (lv_at hl 1 rfl) ?_
  refine lv_isub hx hb dX5_toilWay_29 ?_
  refine wk_kL hI hA (wk_runP (x := (⟨RX0, "toilWay", "(LWatchBill$Crew;LWatchBill$Member;I)J"⟩ : MethodName)) (As := [.ref (ad 1), .ref (ad (16 + k)), .int (n - (n / 2))]) (rest := [.long ((wk_topToil (wk_note σ 40) k (n / 2)).1)]) ⟨hx, hb, hml, hown, hts⟩ (c_X10_toilWay l D cI cJ cS ad ((wk_topToil (wk_note σ 40) k (n / 2)).2) r k (n - (n / 2)) (hG_2.V hV) hr9 (hG_2.lt hk) (by have hq := hG_2.nt; omega) _) (wk_cwP 3 hts wk_in_M mw_284 mw_285 mw_123 mw_255 mw_39 mw_256 wk_sub_X0_X10 hN (by decide +kernel) ⟨(Nat.le_of_ble_eq_true rfl), (Nat.le_of_ble_eq_true rfl)⟩) (wk_preR hN hK hI hr9) rfl rfl hl.1 rfl (lv_room (Nat.le_of_ble_eq_true rfl)) dX5_toilWay_30 ⟨(Nat.le_of_ble_eq_true rfl), (Nat.le_of_ble_eq_true rfl)⟩) (fun r u H locs hw hI => ?_)
  obtain ⟨rfl, rfl⟩ := hw
  have hG_3 : wk_G σ ((wk_topToil ((wk_topToil (wk_note σ 40) k (n / 2)).2) k (n - (n / 2))).2) 5 := hG_2.trans (wk_g_topToil ((wk_topToil (wk_note σ 40) k (n / 2)).2) k (n - (n / 2)))
  refine lv_ladd hx hb dX5_toilWay_33 ?_
  exact wk_rl ((wk_topToil ((wk_topToil (wk_note σ 40) k (n / 2)).2) k (n - (n / 2))).2) hx hb hr hlk hK hI rfl (wk_post (by first | rfl | (simp only [wk_mateToil, wk_mateToil1]; done) | (simp only [wk_mateToil, wk_mateToil1]; rfl))) dX5_toilWay_34
set_option maxHeartbeats 4000000 in
set_option maxRecDepth 100000 in
theorem c_X4_toilWay (l : Launch) (D : va_G) (cI cJ cS : ClassId) (ad : Nat → Nat) (σ : wk_St) (r k : Nat) (n : Int32) (hV : wk_V σ) (hr9 : r < 8) (hk : k < wk_n σ) (hc : wk_nt σ + 6 < 2147483648) : wk_Cl l D (wk_tys cI cJ cS) yX4_toilWay (wk_M yX4_toilWay cX4_toilWay 4 (some .long)) ({ frames := 4, cells := 0, slots := 0, locals := 96 }) [.ref (ad (8 + r)), .ref (ad 1), .ref (ad (16 + k)), .int n] (wx_W cI cS ad σ) (wx_W cI cS ad) (fun r0 u0 => r0 = (wk_masterToil σ k n).1 ∧ u0 = (wk_masterToil σ k n).2) := by
  intro sz
  refine Met.ofW (cc := cX4_toilWay) (maxL := 4) (ret := (some .long)) (by decide) rfl ?_
  intro p e s m args below meth c s₁ B hml hv
  obtain ⟨rfl, hsz, hP, hK, hD0, hN⟩ := hv
  have hx := B.exec
  have hb := B.bytes
  have hr := B.returns
  have hts := atoms_spec (ws := wk_M yX4_toilWay cX4_toilWay 4 (some .long)) B.pre
  have hown : s.vm.findClass RX4 = some m.cls := findClass_of_methodNamed B.named
  have hlk := B.notSynchronized
  subst hsz
  have hI : wk_I D (va_A (wx_W cI cS ad σ) s.heap.size) s.heap s.heap [] (wx_W cI cS ad σ) := ⟨hP, hD0.self, va_S.rf⟩
  have hA : ∀ q : Nat, s.heap.size ≤ q → (va_A (wx_W cI cS ad σ) s.heap.size) q := fun q h => Or.inr h
  clear hP hD0
  generalize va_A (wx_W cI cS ad σ) s.heap.size = A at hI hA ⊢
  have hl := lv_entry ([.ref (ad (8 + r)), .ref (ad 1), .ref (ad (16 + k)), .int n]) (n := 4) (Nat.le_of_ble_eq_true rfl)
  rw [lg_entry_eq]
  generalize (lg_sl ([.ref (ad (8 + r)), .ref (ad 1), .ref (ad (16 + k)), .int n]) ++ List.replicate (4 - (lg_sl ([.ref (ad (8 + r)), .ref (ad 1), .ref (ad (16 + k)), .int n])).length) Slot.unset).toArray = ls at hl ⊢
  have hl : lv_has ls 4 [(0, .ref (ad (8 + r))), (1, .ref (ad 1)), (2, .ref (ad (16 + k))), (3, .int n)] := hl
  refine lv_aload_n hx hb dX4_toilWay_0 rfl (lv_at hl 1 rfl) ?_
  refine lv_iconst (v := 5) hx hb dX4_toilWay_1 (by decide) ?_
  refine lv_iconst (v := 0) hx hb dX4_toilWay_2 (by decide) ?_
  refine wk_kV hI hA (va_runV (As := [.int 5, .int 0]) (rest := []) ⟨hx, hb, hml, hown, hts⟩ (c_X2_noteWay l D cI cJ cS ad σ 5 0 50 (by decide) (by omega) _) (wk_cwV 2 hts wk_in_M mw_279 mw_258 mw_259 mw_35 mw_260 hdX2_noteWay ⟨(Nat.le_of_ble_eq_true rfl), (Nat.le_of_ble_eq_true rfl)⟩) (wk_preV hN hK hI (ci := 2) rfl wx_e1) rfl rfl hl.1 rfl (lv_room (Nat.le_of_ble_eq_true rfl)) dX4_toilWay_3 ⟨(Nat.le_of_ble_eq_true rfl), (Nat.le_of_ble_eq_true rfl)⟩) (fun u H locs hw hI => ?_)
  obtain rfl := hw
  have hG_1 : wk_G σ (wk_note σ 50) 1 := wk_g_note σ 50
  refine lv_iload_n hx hb dX4_toilWay_6 rfl (lv_at hl 3 rfl) ?_
  refine lv_bipush (v := 40) hx hb dX4_toilWay_7 (by decide) ?_
  refine lv_icmp_gt (tgt := 20) hx hb dX4_toilWay_9 (by decide) (fun c_2 => ?_) (fun c_2 => ?_)
  · refine lv_ldc2 hx hb hown (hts _ (wk_in_M _ mw_287)) dX4_toilWay_20 ?_
    refine lv_aload_n hx hb dX4_toilWay_23 rfl (lv_at hl 0 rfl) ?_
    refine lv_aload_n hx hb dX4_toilWay_24 rfl (lv_at hl 1 rfl) ?_
    refine lv_aload_n hx hb dX4_toilWay_25 rfl (lv_at hl 2 rfl) ?_
    refine lv_iload_n hx hb dX4_toilWay_26 rfl (lv_at hl 3 rfl) ?_
    refine lv_iconst (v := 4) hx hb dX4_toilWay_27 (by decide) ?_
    refine lv_idiv hx hb dX4_toilWay_28 (by decide) ?_
    refine wk_kL hI hA (wk_runP (x := yX5_toilWay) (As := [.ref (ad 1), .ref (ad (16 + k)), .int (n / 4)]) (rest := [.long 4]) ⟨hx, hb, hml, hown, hts⟩ (c_X5_toilWay l D cI cJ cS ad (wk_note σ 50) r k (n / 4) (hG_1.V hV) hr9 (hG_1.lt hk) (by have hq := hG_1.nt; omega) _) (wk_cwP 3 hts wk_in_M mw_280 mw_743 mw_130 mw_281 mw_41 mw_282 wk_sub_X5_X5 hN (by decide +kernel) ⟨(Nat.le_of_ble_eq_true rfl), (Nat.le_of_ble_eq_true rfl)⟩) (wk_preR hN hK hI hr9) rfl rfl hl.1 rfl (lv_room (Nat.le_of_ble_eq_true rfl)) dX4_toilWay_29 ⟨(Nat.le_of_ble_eq_true rfl), (Nat.le_of_ble_eq_true rfl)⟩) (fun r u H locs hw hI => ?_)
    obtain ⟨rfl, rfl⟩ := hw
    have hG_3 : wk_G σ ((wk_mateToil (wk_note σ 50) k (n / 4)).2) 6 := hG_1.trans (wk_g_mateToil (wk_note σ 50) k (n / 4))
    refine lv_lmul hx hb dX4_toilWay_32 ?_
    exact wk_rl ((wk_mateToil (wk_note σ 50) k (n / 4)).2) hx hb hr hlk hK hI rfl (wk_post (by first | rfl | (simp only [wk_masterToil, wk_masterToil1, if_pos c_2]; done) | (simp only [wk_masterToil, wk_masterToil1, if_pos c_2]; rfl))) dX4_toilWay_33
  · refine lv_aload_n hx hb dX4_toilWay_12 rfl (lv_at hl 0 rfl) ?_
    refine lv_aload_n hx hb dX4_toilWay_13 rfl (lv_at hl 1 rfl) ?_
    refine lv_aload_n hx hb dX4_toilWay_14 rfl (lv_at hl 2 rfl) ?_
    refine lv_iload_n hx hb dX4_toilWay_15 rfl (lv_at hl 3 rfl) ?_
    refine wk_kL hI hA (wk_runP (x := yX5_toilWay) (As := [.ref (ad 1), .ref (ad (16 + k)), .int n]) (rest := []) ⟨hx, hb, hml, hown, hts⟩ (c_X5_toilWay l D cI cJ cS ad (wk_note σ 50) r k n (hG_1.V hV) hr9 (hG_1.lt hk) (by have hq := hG_1.nt; omega) _) (wk_cwP 3 hts wk_in_M mw_280 mw_743 mw_130 mw_281 mw_41 mw_282 wk_sub_X5_X5 hN (by decide +kernel) ⟨(Nat.le_of_ble_eq_true rfl), (Nat.le_of_ble_eq_true rfl)⟩) (wk_preR hN hK hI hr9) rfl rfl hl.1 rfl (lv_room (Nat.le_of_ble_eq_true rfl)) dX4_toilWay_16 ⟨(Nat.le_of_ble_eq_true rfl), (Nat.le_of_ble_eq_true rfl)⟩) (fun r u H locs hw hI => ?_)
    obtain ⟨rfl, rfl⟩ := hw
    have hG_4 : wk_G σ ((wk_mateToil (wk_note σ 50) k n).2) 6 := hG_1.trans (wk_g_mateToil (wk_note σ 50) k n)
    exact wk_rl ((wk_mateToil (wk_note σ 50) k n).2) hx hb hr hlk hK hI rfl (wk_post (by first | rfl | (simp only [wk_masterToil, wk_masterToil1, if_neg c_2]; done) | (simp only [wk_masterToil, wk_masterToil1, if_neg c_2]; rfl))) dX4_toilWay_19
set_option maxHeartbeats 4000000 in
set_option maxRecDepth 100000 in
theorem c_X1_toilWay (l : Launch) (D : va_G) (cI cJ cS : ClassId) (ad : Nat → Nat) (σ : wk_St) (r k : Nat) (n : Int32) (hV : wk_V σ) (hr9 : r < 8) (hk : k < wk_n σ) (hc : wk_nt σ + 2 < 2147483648) : wk_Cl l D (wk_tys cI cJ cS) yX1_toilWay (wk_M yX1_toilWay cX1_toilWay 6 (some .long)) ({ frames := 2, cells := 0, slots := 0, locals := 47 }) [.ref (ad (8 + r)), .ref (ad 1), .ref (ad (16 + k)), .int n] (wx_W cI cS ad σ) (wx_W cI cS ad) (fun r0 u0 => r0 = (wk_cookToil σ k n).1 ∧ u0 = (wk_cookToil σ k n).2) := by
  intro sz
  refine Met.ofW (cc := cX1_toilWay) (maxL := 6) (ret := (some .long)) (by decide) rfl ?_
  intro p e s m args below meth c s₁ B hml hv
  obtain ⟨rfl, hsz, hP, hK, hD0, hN⟩ := hv
  have hx := B.exec
  have hb := B.bytes
  have hr := B.returns
  have hts := atoms_spec (ws := wk_M yX1_toilWay cX1_toilWay 6 (some .long)) B.pre
  have hown : s.vm.findClass RX1 = some m.cls := findClass_of_methodNamed B.named
  have hlk := B.notSynchronized
  subst hsz
  have hI : wk_I D (va_A (wx_W cI cS ad σ) s.heap.size) s.heap s.heap [] (wx_W cI cS ad σ) := ⟨hP, hD0.self, va_S.rf⟩
  have hA : ∀ q : Nat, s.heap.size ≤ q → (va_A (wx_W cI cS ad σ) s.heap.size) q := fun q h => Or.inr h
  clear hP hD0
  generalize va_A (wx_W cI cS ad σ) s.heap.size = A at hI hA ⊢
  have hl := lv_entry ([.ref (ad (8 + r)), .ref (ad 1), .ref (ad (16 + k)), .int n]) (n := 6) (Nat.le_of_ble_eq_true rfl)
  rw [lg_entry_eq]
  generalize (lg_sl ([.ref (ad (8 + r)), .ref (ad 1), .ref (ad (16 + k)), .int n]) ++ List.replicate (6 - (lg_sl ([.ref (ad (8 + r)), .ref (ad 1), .ref (ad (16 + k)), .int n])).length) Slot.unset).toArray = ls at hl ⊢
  have hl : lv_has ls 6 [(0, .ref (ad (8 + r))), (1, .ref (ad 1)), (2, .ref (ad (16 + k))), (3, .int n)] := hl
  refine lv_aload_n hx hb dX1_toilWay_0 rfl (lv_at hl 1 rfl) ?_
  refine lv_bipush (v := 6) hx hb dX1_toilWay_1 (by decide) ?_
  refine lv_iconst (v := 0) hx hb dX1_toilWay_3 (by decide) ?_
  refine wk_kV hI hA (va_runV (As := [.int 6, .int 0]) (rest := []) ⟨hx, hb, hml, hown, hts⟩ (c_X2_noteWay l D cI cJ cS ad σ 6 0 60 (by decide) (by omega) _) (wk_cwV 2 hts wk_in_M mw_268 mw_258 mw_259 mw_35 mw_260 hdX2_noteWay ⟨(Nat.le_of_ble_eq_true rfl), (Nat.le_of_ble_eq_true rfl)⟩) (wk_preV hN hK hI (ci := 2) rfl wx_e1) rfl rfl hl.1 rfl (lv_room (Nat.le_of_ble_eq_true rfl)) dX1_toilWay_4 ⟨(Nat.le_of_ble_eq_true rfl), (Nat.le_of_ble_eq_true rfl)⟩) (fun u H locs hw hI => ?_)
  obtain rfl := hw
  have hG_1 : wk_G σ (wk_note σ 60) 1 := wk_g_note σ 60
  refine lv_aload_n hx hb dX1_toilWay_7 rfl (lv_at hl 0 rfl) ?_
  refine lv_aload_n hx hb dX1_toilWay_8 rfl (lv_at hl 1 rfl) ?_
  refine lv_aload_n hx hb dX1_toilWay_9 rfl (lv_at hl 2 rfl) ?_
  refine lv_iload_n hx hb dX1_toilWay_10 rfl (lv_at hl 3 rfl) ?_
  refine wk_kL hI hA (wk_runP (x := (⟨RX3, "toilWay", "(LWatchBill$Crew;LWatchBill$Member;I)J"⟩ : MethodName)) (As := [.ref (ad 1), .ref (ad (16 + k)), .int n]) (rest := []) ⟨hx, hb, hml, hown, hts⟩ (c_X8_toilWay l D cI cJ cS ad (wk_note σ 60) r k n (hG_1.V hV) hr9 (hG_1.lt hk) (by have hq := hG_1.nt; omega) _) (wk_cwP 3 hts wk_in_M mw_269 mw_270 mw_137 mw_252 mw_36 mw_292 wk_sub_X3_X8 hN (by decide +kernel) ⟨(Nat.le_of_ble_eq_true rfl), (Nat.le_of_ble_eq_true rfl)⟩) (wk_preR hN hK hI hr9) rfl rfl hl.1 rfl (lv_room (Nat.le_of_ble_eq_true rfl)) dX1_toilWay_11 ⟨(Nat.le_of_ble_eq_true rfl), (Nat.le_of_ble_eq_true rfl)⟩) (fun r u H locs hw hI => ?_)
  obtain ⟨rfl, rfl⟩ := hw
  have hG_2 : wk_G σ ((wk_soulToil (wk_note σ 60) k n).2) 2 := hG_1.trans (wk_g_soulToil (wk_note σ 60) k n)
  refine lv_lstore (lv' := [(4, .long ((wk_soulToil (wk_note σ 60) k n).1)), (0, .ref (ad (8 + r))), (1, .ref (ad 1)), (2, .ref (ad (16 + k))), (3, .int n)]) hx hb dX1_toilWay_14 hl (by decide) rfl (fun ls hl => ?_)
  refine lv_aload_n hx hb dX1_toilWay_16 rfl (lv_at hl 3 rfl) ?_
  refine lv_iload_n hx hb dX1_toilWay_17 rfl (lv_at hl 4 rfl) ?_
  refine lv_iconst (v := 2) hx hb dX1_toilWay_18 (by decide) ?_
  refine lv_idiv hx hb dX1_toilWay_19 (by decide) ?_
  refine lv_ineg hx hb dX1_toilWay_20 ?_
  refine wk_kV hI hA (va_runV (As := [.int (-(n / 2))]) (rest := []) ⟨hx, hb, hml, hown, hts⟩ (c_X6_tire l D cI cJ cS ad ((wk_soulToil (wk_note σ 60) k n).2) k (-(n / 2)) (hG_2.lt hk) _) (wk_cwV 1 hts wk_in_M mw_271 mw_272 mw_273 mw_46 mw_274 hdX6_tire ⟨(Nat.le_of_ble_eq_true rfl), (Nat.le_of_ble_eq_true rfl)⟩) (wk_preV hN hK hI (ci := 6) rfl (wx_em (hG_2.lt hk))) rfl rfl hl.1 rfl (lv_room (Nat.le_of_ble_eq_true rfl)) dX1_toilWay_21 ⟨(Nat.le_of_ble_eq_true rfl), (Nat.le_of_ble_eq_true rfl)⟩) (fun u H locs hw hI => ?_)
  obtain rfl := hw
  have hG_3 : wk_G σ (wk_tire ((wk_soulToil (wk_note σ 60) k n).2) k (-(n / 2))) 2 := hG_2.trans (wk_g_tire ((wk_soulToil (wk_note σ 60) k n).2) k (-(n / 2)))
  refine lv_lload hx hb dX1_toilWay_24 (lv_at hl 0 rfl) ?_
  exact wk_rl (wk_tire ((wk_soulToil (wk_note σ 60) k n).2) k (-(n / 2))) hx hb hr hlk hK hI rfl (wk_post (by first | rfl | (simp only [wk_cookToil, wk_cookToil1]; done) | (simp only [wk_cookToil, wk_cookToil1]; rfl))) dX1_toilWay_26
set_option maxHeartbeats 4000000 in
set_option maxRecDepth 100000 in
theorem c_X3_payWay (l : Launch) (D : va_G) (cI cJ cS : ClassId) (ad : Nat → Nat) (σ : wk_St) (r k : Nat) (n : Int32) (hV : wk_V σ) (hr9 : r < 8) (hk : k < wk_n σ) (hc : wk_nt σ + 1 < 2147483648) : wk_Cl l D (wk_tys cI cJ cS) yX3_payWay (wk_M yX3_payWay cX3_payWay 4 (some .long)) ({ frames := 1, cells := 0, slots := 0, locals := 22 }) [.ref (ad (8 + r)), .ref (ad 1), .ref (ad (16 + k)), .int n] (wx_W cI cS ad σ) (wx_W cI cS ad) (fun r0 u0 => r0 = (wk_handPay σ k n).1 ∧ u0 = (wk_handPay σ k n).2) := by
  intro sz
  refine Met.ofW (cc := cX3_payWay) (maxL := 4) (ret := (some .long)) (by decide) rfl ?_
  intro p e s m args below meth c s₁ B hml hv
  obtain ⟨rfl, hsz, hP, hK, hD0, hN⟩ := hv
  have hx := B.exec
  have hb := B.bytes
  have hr := B.returns
  have hts := atoms_spec (ws := wk_M yX3_payWay cX3_payWay 4 (some .long)) B.pre
  have hown : s.vm.findClass RX3 = some m.cls := findClass_of_methodNamed B.named
  have hlk := B.notSynchronized
  subst hsz
  have hI : wk_I D (va_A (wx_W cI cS ad σ) s.heap.size) s.heap s.heap [] (wx_W cI cS ad σ) := ⟨hP, hD0.self, va_S.rf⟩
  have hA : ∀ q : Nat, s.heap.size ≤ q → (va_A (wx_W cI cS ad σ) s.heap.size) q := fun q h => Or.inr h
  clear hP hD0
  generalize va_A (wx_W cI cS ad σ) s.heap.size = A at hI hA ⊢
  have hl := lv_entry ([.ref (ad (8 + r)), .ref (ad 1), .ref (ad (16 + k)), .int n]) (n := 4) (Nat.le_of_ble_eq_true rfl)
  rw [lg_entry_eq]
  generalize (lg_sl ([.ref (ad (8 + r)), .ref (ad 1), .ref (ad (16 + k)), .int n]) ++ List.replicate (4 - (lg_sl ([.ref (ad (8 + r)), .ref (ad 1), .ref (ad (16 + k)), .int n])).length) Slot.unset).toArray = ls at hl ⊢
  have hl : lv_has ls 4 [(0, .ref (ad (8 + r))), (1, .ref (ad 1)), (2, .ref (ad (16 + k))), (3, .int n)] := hl
  refine lv_aload_n hx hb dX3_payWay_0 rfl (lv_at hl 1 rfl) ?_
  refine lv_iconst (v := 0) hx hb dX3_payWay_1 (by decide) ?_
  refine lv_iconst (v := 1) hx hb dX3_payWay_2 (by decide) ?_
  refine wk_kV hI hA (va_runV (As := [.int 0, .int 1]) (rest := []) ⟨hx, hb, hml, hown, hts⟩ (c_X2_noteWay l D cI cJ cS ad σ 0 1 1 (by decide) (by omega) _) (wk_cwV 2 hts wk_in_M mw_311 mw_258 mw_259 mw_35 mw_260 hdX2_noteWay ⟨(Nat.le_of_ble_eq_true rfl), (Nat.le_of_ble_eq_true rfl)⟩) (wk_preV hN hK hI (ci := 2) rfl wx_e1) rfl rfl hl.1 rfl (lv_room (Nat.le_of_ble_eq_true rfl)) dX3_payWay_3 ⟨(Nat.le_of_ble_eq_true rfl), (Nat.le_of_ble_eq_true rfl)⟩) (fun u H locs hw hI => ?_)
  obtain rfl := hw
  have hG_1 : wk_G σ (wk_note σ 1) 1 := wk_g_note σ 1
  refine lv_iload_n hx hb dX3_payWay_6 rfl (lv_at hl 3 rfl) ?_
  refine lv_i2l hx hb dX3_payWay_7 rfl ?_
  refine lv_iconst (v := 5) hx hb dX3_payWay_8 (by decide) ?_
  refine lv_aload_n hx hb dX3_payWay_9 rfl (lv_at hl 2 rfl) ?_
  refine wk_get (v := .int (wk_sk (wk_note σ 1) k)) hx hb hts (fun w h => wk_in_M w (lay_X6 w h)) hown hK hI (16 + k) (wx_em (hG_1.lt hk)) rfl 1 (by decide) (hts _ (wk_in_M _ mw_186)) rfl rfl dX3_payWay_10 ?_
  refine lv_bipush (v := 10) hx hb dX3_payWay_13 (by decide) ?_
  refine lv_idiv hx hb dX3_payWay_15 (by decide) ?_
  refine lv_iadd hx hb dX3_payWay_16 ?_
  refine lv_i2l hx hb dX3_payWay_17 rfl ?_
  refine lv_lmul hx hb dX3_payWay_18 ?_
  exact wk_rl (wk_note σ 1) hx hb hr hlk hK hI rfl (wk_post (by first | rfl | (simp only [wk_handPay, wk_handPay1]; done) | (simp only [wk_handPay, wk_handPay1]; rfl))) dX3_payWay_19
set_option maxHeartbeats 4000000 in
set_option maxRecDepth 100000 in
theorem c_X8_climbWay (l : Launch) (D : va_G) (cI cJ cS : ClassId) (ad : Nat → Nat) (σ : wk_St) (r k : Nat) (n : Int32) (hV : wk_V σ) (hr9 : r < 8) (hk : k < wk_n σ) (hc : wk_nt σ + 1 < 2147483648) : wk_Ci l D (wk_tys cI cJ cS) yX8_climbWay (wk_M yX8_climbWay cX8_climbWay 4 (some .int)) ({ frames := 1, cells := 0, slots := 0, locals := 22 }) [.ref (ad (8 + r)), .ref (ad 1), .ref (ad (16 + k)), .int n] (wx_W cI cS ad σ) (wx_W cI cS ad) (fun r0 u0 => r0 = (wk_soulClimb σ k n).1 ∧ u0 = (wk_soulClimb σ k n).2) := by
  intro sz
  refine Met.ofW (cc := cX8_climbWay) (maxL := 4) (ret := (some .int)) (by decide) rfl ?_
  intro p e s m args below meth c s₁ B hml hv
  obtain ⟨rfl, hsz, hP, hK, hD0, hN⟩ := hv
  have hx := B.exec
  have hb := B.bytes
  have hr := B.returns
  have hts := atoms_spec (ws := wk_M yX8_climbWay cX8_climbWay 4 (some .int)) B.pre
  have hown : s.vm.findClass RX8 = some m.cls := findClass_of_methodNamed B.named
  have hlk := B.notSynchronized
  subst hsz
  have hI : wk_I D (va_A (wx_W cI cS ad σ) s.heap.size) s.heap s.heap [] (wx_W cI cS ad σ) := ⟨hP, hD0.self, va_S.rf⟩
  have hA : ∀ q : Nat, s.heap.size ≤ q → (va_A (wx_W cI cS ad σ) s.heap.size) q := fun q h => Or.inr h
  clear hP hD0
  generalize va_A (wx_W cI cS ad σ) s.heap.size = A at hI hA ⊢
  have hl := lv_entry ([.ref (ad (8 + r)), .ref (ad 1), .ref (ad (16 + k)), .int n]) (n := 4) (Nat.le_of_ble_eq_true rfl)
  rw [lg_entry_eq]
  generalize (lg_sl ([.ref (ad (8 + r)), .ref (ad 1), .ref (ad (16 + k)), .int n]) ++ List.replicate (4 - (lg_sl ([.ref (ad (8 + r)), .ref (ad 1), .ref (ad (16 + k)), .int n])).length) Slot.unset).toArray = ls at hl ⊢
  have hl : lv_has ls 4 [(0, .ref (ad (8 + r))), (1, .ref (ad 1)), (2, .ref (ad (16 + k))), (3, .int n)] := hl
  refine lv_aload_n hx hb dX8_climbWay_0 rfl (lv_at hl 1 rfl) ?_
  refine lv_bipush (v := 8) hx hb dX8_climbWay_1 (by decide) ?_
  refine lv_iconst (v := 2) hx hb dX8_climbWay_3 (by decide) ?_
  refine wk_kV hI hA (va_runV (As := [.int 8, .int 2]) (rest := []) ⟨hx, hb, hml, hown, hts⟩ (c_X2_noteWay l D cI cJ cS ad σ 8 2 82 (by decide) (by omega) _) (wk_cwV 2 hts wk_in_M mw_293 mw_258 mw_259 mw_35 mw_260 hdX2_noteWay ⟨(Nat.le_of_ble_eq_true rfl), (Nat.le_of_ble_eq_true rfl)⟩) (wk_preV hN hK hI (ci := 2) rfl wx_e1) rfl rfl hl.1 rfl (lv_room (Nat.le_of_ble_eq_true rfl)) dX8_climbWay_4 ⟨(Nat.le_of_ble_eq_true rfl), (Nat.le_of_ble_eq_true rfl)⟩) (fun u H locs hw hI => ?_)
  obtain rfl := hw
  have hG_1 : wk_G σ (wk_note σ 82) 1 := wk_g_note σ 82
  refine lv_iload_n hx hb dX8_climbWay_7 rfl (lv_at hl 3 rfl) ?_
  refine lv_bipush (v := 10) hx hb dX8_climbWay_8 (by decide) ?_
  refine lv_aload_n hx hb dX8_climbWay_10 rfl (lv_at hl 2 rfl) ?_
  refine wk_get (v := .int (wk_sk (wk_note σ 82) k)) hx hb hts (fun w h => wk_in_M w (lay_X6 w h)) hown hK hI (16 + k) (wx_em (hG_1.lt hk)) rfl 1 (by decide) (hts _ (wk_in_M _ mw_187)) rfl rfl dX8_climbWay_11 ?_
  refine lv_iadd hx hb dX8_climbWay_14 ?_
  refine lv_icmp_le (tgt := 20) hx hb dX8_climbWay_15 (by decide) (fun c_2 => ?_) (fun c_2 => ?_)
  · refine lv_aload_n hx hb dX8_climbWay_20 rfl (lv_at hl 2 rfl) ?_
    refine lv_iload_n hx hb dX8_climbWay_21 rfl (lv_at hl 3 rfl) ?_
    refine wk_kV hI hA (va_runV (As := [.int n]) (rest := []) ⟨hx, hb, hml, hown, hts⟩ (c_X6_tire l D cI cJ cS ad (wk_note σ 82) k n (hG_1.lt hk) _) (wk_cwV 1 hts wk_in_M mw_294 mw_272 mw_273 mw_46 mw_274 hdX6_tire ⟨(Nat.le_of_ble_eq_true rfl), (Nat.le_of_ble_eq_true rfl)⟩) (wk_preV hN hK hI (ci := 6) rfl (wx_em (hG_1.lt hk))) rfl rfl hl.1 rfl (lv_room (Nat.le_of_ble_eq_true rfl)) dX8_climbWay_22 ⟨(Nat.le_of_ble_eq_true rfl), (Nat.le_of_ble_eq_true rfl)⟩) (fun u H locs hw hI => ?_)
    obtain rfl := hw
    have hG_3 : wk_G σ (wk_tire (wk_note σ 82) k n) 1 := hG_1.trans (wk_g_tire (wk_note σ 82) k n)
    refine lv_iconst (v := 2) hx hb dX8_climbWay_25 (by decide) ?_
    refine lv_iload_n hx hb dX8_climbWay_26 rfl (lv_at hl 3 rfl) ?_
    refine lv_imul hx hb dX8_climbWay_27 ?_
    exact wk_ri (wk_tire (wk_note σ 82) k n) hx hb hr hlk hK hI rfl (wk_post (by first | rfl | (simp only [wk_soulClimb, wk_soulClimb1, if_pos c_2]; done) | (simp only [wk_soulClimb, wk_soulClimb1, if_pos c_2]; rfl))) dX8_climbWay_28
  · refine lv_iconst (v := (-1)) hx hb dX8_climbWay_18 (by decide) ?_
    exact wk_ri (wk_note σ 82) hx hb hr hlk hK hI rfl (wk_post (by first | rfl | (simp only [wk_soulClimb, wk_soulClimb1, if_neg c_2]; done) | (simp only [wk_soulClimb, wk_soulClimb1, if_neg c_2]; rfl))) dX8_climbWay_19
set_option maxHeartbeats 4000000 in
set_option maxRecDepth 100000 in
theorem c_X7_climbWay (l : Launch) (D : va_G) (cI cJ cS : ClassId) (ad : Nat → Nat) (σ : wk_St) (r k : Nat) (n : Int32) (hV : wk_V σ) (hr9 : r < 8) (hk : k < wk_n σ) (hc : wk_nt σ + 2 < 2147483648) : wk_Ci l D (wk_tys cI cJ cS) yX7_climbWay (wk_M yX7_climbWay cX7_climbWay 4 (some .int)) ({ frames := 2, cells := 0, slots := 0, locals := 45 }) [.ref (ad (8 + r)), .ref (ad 1), .ref (ad (16 + k)), .int n] (wx_W cI cS ad σ) (wx_W cI cS ad) (fun r0 u0 => r0 = (wk_sailorClimb σ k n).1 ∧ u0 = (wk_sailorClimb σ k n).2) := by
  intro sz
  refine Met.ofW (cc := cX7_climbWay) (maxL := 4) (ret := (some .int)) (by decide) rfl ?_
  intro p e s m args below meth c s₁ B hml hv
  obtain ⟨rfl, hsz, hP, hK, hD0, hN⟩ := hv
  have hx := B.exec
  have hb := B.bytes
  have hr := B.returns
  have hts := atoms_spec (ws := wk_M yX7_climbWay cX7_climbWay 4 (some .int)) B.pre
  have hown : s.vm.findClass RX7 = some m.cls := findClass_of_methodNamed B.named
  have hlk := B.notSynchronized
  subst hsz
  have hI : wk_I D (va_A (wx_W cI cS ad σ) s.heap.size) s.heap s.heap [] (wx_W cI cS ad σ) := ⟨hP, hD0.self, va_S.rf⟩
  have hA : ∀ q : Nat, s.heap.size ≤ q → (va_A (wx_W cI cS ad σ) s.heap.size) q := fun q h => Or.inr h
  clear hP hD0
  generalize va_A (wx_W cI cS ad σ) s.heap.size = A at hI hA ⊢
  have hl := lv_entry ([.ref (ad (8 + r)), .ref (ad 1), .ref (ad (16 + k)), .int n]) (n := 4) (Nat.le_of_ble_eq_true rfl)
  rw [lg_entry_eq]
  generalize (lg_sl ([.ref (ad (8 + r)), .ref (ad 1), .ref (ad (16 + k)), .int n]) ++ List.replicate (4 - (lg_sl ([.ref (ad (8 + r)), .ref (ad 1), .ref (ad (16 + k)), .int n])).length) Slot.unset).toArray = ls at hl ⊢
  have hl : lv_has ls 4 [(0, .ref (ad (8 + r))), (1, .ref (ad 1)), (2, .ref (ad (16 + k))), (3, .int n)] := hl
  refine lv_aload_n hx hb dX7_climbWay_0 rfl (lv_at hl 1 rfl) ?_
  refine lv_iconst (v := 1) hx hb dX7_climbWay_1 (by decide) ?_
  refine lv_iconst (v := 2) hx hb dX7_climbWay_2 (by decide) ?_
  refine wk_kV hI hA (va_runV (As := [.int 1, .int 2]) (rest := []) ⟨hx, hb, hml, hown, hts⟩ (c_X2_noteWay l D cI cJ cS ad σ 1 2 12 (by decide) (by omega) _) (wk_cwV 2 hts wk_in_M mw_346 mw_258 mw_259 mw_35 mw_260 hdX2_noteWay ⟨(Nat.le_of_ble_eq_true rfl), (Nat.le_of_ble_eq_true rfl)⟩) (wk_preV hN hK hI (ci := 2) rfl wx_e1) rfl rfl hl.1 rfl (lv_room (Nat.le_of_ble_eq_true rfl)) dX7_climbWay_3 ⟨(Nat.le_of_ble_eq_true rfl), (Nat.le_of_ble_eq_true rfl)⟩) (fun u H locs hw hI => ?_)
  obtain rfl := hw
  have hG_1 : wk_G σ (wk_note σ 12) 1 := wk_g_note σ 12
  refine lv_iload_n hx hb dX7_climbWay_6 rfl (lv_at hl 3 rfl) ?_
  refine lv_bipush (v := 30) hx hb dX7_climbWay_7 (by decide) ?_
  refine lv_icmp_le (tgt := 20) hx hb dX7_climbWay_9 (by decide) (fun c_2 => ?_) (fun c_2 => ?_)
  · refine lv_aload_n hx hb dX7_climbWay_20 rfl (lv_at hl 2 rfl) ?_
    refine lv_iload_n hx hb dX7_climbWay_21 rfl (lv_at hl 3 rfl) ?_
    refine lv_iconst (v := 2) hx hb dX7_climbWay_22 (by decide) ?_
    refine lv_idiv hx hb dX7_climbWay_23 (by decide) ?_
    refine wk_kV hI hA (va_runV (As := [.int (n / 2)]) (rest := []) ⟨hx, hb, hml, hown, hts⟩ (c_X6_tire l D cI cJ cS ad (wk_note σ 12) k (n / 2) (hG_1.lt hk) _) (wk_cwV 1 hts wk_in_M mw_350 mw_272 mw_273 mw_46 mw_274 hdX6_tire ⟨(Nat.le_of_ble_eq_true rfl), (Nat.le_of_ble_eq_true rfl)⟩) (wk_preV hN hK hI (ci := 6) rfl (wx_em (hG_1.lt hk))) rfl rfl hl.1 rfl (lv_room (Nat.le_of_ble_eq_true rfl)) dX7_climbWay_24 ⟨(Nat.le_of_ble_eq_true rfl), (Nat.le_of_ble_eq_true rfl)⟩) (fun u H locs hw hI => ?_)
    obtain rfl := hw
    have hG_3 : wk_G σ (wk_tire (wk_note σ 12) k (n / 2)) 1 := hG_1.trans (wk_g_tire (wk_note σ 12) k (n / 2))
    refine lv_iconst (v := 3) hx hb dX7_climbWay_27 (by decide) ?_
    refine lv_iload_n hx hb dX7_climbWay_28 rfl (lv_at hl 3 rfl) ?_
    refine lv_imul hx hb dX7_climbWay_29 ?_
    exact wk_ri (wk_tire (wk_note σ 12) k (n / 2)) hx hb hr hlk hK hI rfl (wk_post (by first | rfl | (simp only [wk_sailorClimb, wk_sailorClimb1, if_pos c_2]; done) | (simp only [wk_sailorClimb, wk_sailorClimb1, if_pos c_2]; rfl))) dX7_climbWay_30
  · refine lv_aload_n hx hb dX7_climbWay_12 rfl (lv_at hl 0 rfl) ?_
    refine lv_aload_n hx hb dX7_climbWay_13 rfl (lv_at hl 1 rfl) ?_
    refine lv_aload_n hx hb dX7_climbWay_14 rfl (lv_at hl 2 rfl) ?_
    refine lv_iload_n hx hb dX7_climbWay_15 rfl (lv_at hl 3 rfl) ?_
    refine wk_kI hI hA (wk_runP (x := (⟨RX3, "climbWay", "(LWatchBill$Crew;LWatchBill$Member;I)I"⟩ : MethodName)) (As := [.ref (ad 1), .ref (ad (16 + k)), .int n]) (rest := []) ⟨hx, hb, hml, hown, hts⟩ (c_X8_climbWay l D cI cJ cS ad (wk_note σ 12) r k n (hG_1.V hV) hr9 (hG_1.lt hk) (by have hq := hG_1.nt; omega) _) (wk_cwP 3 hts wk_in_M mw_347 mw_348 mw_102 mw_341 mw_36 mw_367 wk_sub_X3_X8 hN (by decide +kernel) ⟨(Nat.le_of_ble_eq_true rfl), (Nat.le_of_ble_eq_true rfl)⟩) (wk_preR hN hK hI hr9) rfl rfl hl.1 rfl (lv_room (Nat.le_of_ble_eq_true rfl)) dX7_climbWay_16 ⟨(Nat.le_of_ble_eq_true rfl), (Nat.le_of_ble_eq_true rfl)⟩) (fun r u H locs hw hI => ?_)
    obtain ⟨rfl, rfl⟩ := hw
    have hG_4 : wk_G σ ((wk_soulClimb (wk_note σ 12) k n).2) 2 := hG_1.trans (wk_g_soulClimb (wk_note σ 12) k n)
    exact wk_ri ((wk_soulClimb (wk_note σ 12) k n).2) hx hb hr hlk hK hI rfl (wk_post (by first | rfl | (simp only [wk_sailorClimb, wk_sailorClimb1, if_neg c_2]; done) | (simp only [wk_sailorClimb, wk_sailorClimb1, if_neg c_2]; rfl))) dX7_climbWay_19
set_option maxHeartbeats 4000000 in
set_option maxRecDepth 100000 in
theorem c_X5_climbWay (l : Launch) (D : va_G) (cI cJ cS : ClassId) (ad : Nat → Nat) (σ : wk_St) (r k : Nat) (n : Int32) (hV : wk_V σ) (hr9 : r < 8) (hk : k < wk_n σ) (hc : wk_nt σ + 3 < 2147483648) : wk_Ci l D (wk_tys cI cJ cS) yX5_climbWay (wk_M yX5_climbWay cX5_climbWay 5 (some .int)) ({ frames := 3, cells := 0, slots := 0, locals := 68 }) [.ref (ad (8 + r)), .ref (ad 1), .ref (ad (16 + k)), .int n] (wx_W cI cS ad σ) (wx_W cI cS ad) (fun r0 u0 => r0 = (wk_mateClimb σ k n).1 ∧ u0 = (wk_mateClimb σ k n).2) := by
  intro sz
  refine Met.ofW (cc := cX5_climbWay) (maxL := 5) (ret := (some .int)) (by decide) rfl ?_
  intro p e s m args below meth c s₁ B hml hv
  obtain ⟨rfl, hsz, hP, hK, hD0, hN⟩ := hv
  have hx := B.exec
  have hb := B.bytes
  have hr := B.returns
  have hts := atoms_spec (ws := wk_M yX5_climbWay cX5_climbWay 5 (some .int)) B.pre
  have hown : s.vm.findClass RX5 = some m.cls := findClass_of_methodNamed B.named
  have hlk := B.notSynchronized
  subst hsz
  have hI : wk_I D (va_A (wx_W cI cS ad σ) s.heap.size) s.heap s.heap [] (wx_W cI cS ad σ) := ⟨hP, hD0.self, va_S.rf⟩
  have hA : ∀ q : Nat, s.heap.size ≤ q → (va_A (wx_W cI cS ad σ) s.heap.size) q := fun q h => Or.inr h
  clear hP hD0
  generalize va_A (wx_W cI cS ad σ) s.heap.size = A at hI hA ⊢
  have hl := lv_entry ([.ref (ad (8 + r)), .ref (ad 1), .ref (ad (16 + k)), .int n]) (n := 5) (Nat.le_of_ble_eq_true rfl)
  rw [lg_entry_eq]
  generalize (lg_sl ([.ref (ad (8 + r)), .ref (ad 1), .ref (ad (16 + k)), .int n]) ++ List.replicate (5 - (lg_sl ([.ref (ad (8 + r)), .ref (ad 1), .ref (ad (16 + k)), .int n])).length) Slot.unset).toArray = ls at hl ⊢
  have hl : lv_has ls 5 [(0, .ref (ad (8 + r))), (1, .ref (ad 1)), (2, .ref (ad (16 + k))), (3, .int n)] := hl
  refine lv_aload_n hx hb dX5_climbWay_0 rfl (lv_at hl 1 rfl) ?_
  refine lv_iconst (v := 4) hx hb dX5_climbWay_1 (by decide) ?_
  refine lv_iconst (v := 2) hx hb dX5_climbWay_2 (by decide) ?_
  refine wk_kV hI hA (va_runV (As := [.int 4, .int 2]) (rest := []) ⟨hx, hb, hml, hown, hts⟩ (c_X2_noteWay l D cI cJ cS ad σ 4 2 42 (by decide) (by omega) _) (wk_cwV 2 hts wk_in_M mw_283 mw_258 mw_259 mw_35 mw_260 hdX2_noteWay ⟨(Nat.le_of_ble_eq_true rfl), (Nat.le_of_ble_eq_true rfl)⟩) (wk_preV hN hK hI (ci := 2) rfl wx_e1) rfl rfl hl.1 rfl (lv_room (Nat.le_of_ble_eq_true rfl)) dX5_climbWay_3 ⟨(Nat.le_of_ble_eq_true rfl), (Nat.le_of_ble_eq_true rfl)⟩) (fun u H locs hw hI => ?_)
  obtain rfl := hw
  have hG_1 : wk_G σ (wk_note σ 42) 1 := wk_g_note σ 42
  refine lv_aload_n hx hb dX5_climbWay_6 rfl (lv_at hl 0 rfl) ?_
  refine lv_aload_n hx hb dX5_climbWay_7 rfl (lv_at hl 1 rfl) ?_
  refine lv_aload_n hx hb dX5_climbWay_8 rfl (lv_at hl 2 rfl) ?_
  refine lv_iload_n hx hb dX5_climbWay_9 rfl (lv_at hl 3 rfl) ?_
  refine wk_kI hI hA (wk_runP (x := (⟨RX0, "climbWay", "(LWatchBill$Crew;LWatchBill$Member;I)I"⟩ : MethodName)) (As := [.ref (ad 1), .ref (ad (16 + k)), .int n]) (rest := []) ⟨hx, hb, hml, hown, hts⟩ (c_X7_climbWay l D cI cJ cS ad (wk_note σ 42) r k n (hG_1.V hV) hr9 (hG_1.lt hk) (by have hq := hG_1.nt; omega) _) (wk_cwP 3 hts wk_in_M mw_356 mw_357 mw_123 mw_344 mw_38 mw_345 wk_sub_X0_X7 hN (by decide +kernel) ⟨(Nat.le_of_ble_eq_true rfl), (Nat.le_of_ble_eq_true rfl)⟩) (wk_preR hN hK hI hr9) rfl rfl hl.1 rfl (lv_room (Nat.le_of_ble_eq_true rfl)) dX5_climbWay_10 ⟨(Nat.le_of_ble_eq_true rfl), (Nat.le_of_ble_eq_true rfl)⟩) (fun r u H locs hw hI => ?_)
  obtain ⟨rfl, rfl⟩ := hw
  have hG_2 : wk_G σ ((wk_sailorClimb (wk_note σ 42) k n).2) 3 := hG_1.trans (wk_g_sailorClimb (wk_note σ 42) k n)
  refine lv_istore (lv' := [(4, .int ((wk_sailorClimb (wk_note σ 42) k n).1)), (0, .ref (ad (8 + r))), (1, .ref (ad 1)), (2, .ref (ad (16 + k))), (3, .int n)]) hx hb dX5_climbWay_13 hl (by decide) rfl (fun ls hl => ?_)
  refine lv_iload hx hb dX5_climbWay_15 (lv_at hl 0 rfl) ?_
  refine lv_iconst (v := (-1)) hx hb dX5_climbWay_17 (by decide) ?_
  refine lv_icmp_ne (tgt := 25) hx hb dX5_climbWay_18 (by decide) (fun c_3 => ?_) (fun c_3 => ?_)
  · refine lv_iload hx hb dX5_climbWay_25 (lv_at hl 0 rfl) ?_
    refine lv_iconst (v := 1) hx hb dX5_climbWay_27 (by decide) ?_
    refine lv_iadd hx hb dX5_climbWay_28 ?_
    exact wk_ri ((wk_sailorClimb (wk_note σ 42) k n).2) hx hb hr hlk hK hI rfl (wk_post (by first | rfl | (simp only [wk_mateClimb, wk_mateClimb1, if_neg c_3]; done) | (simp only [wk_mateClimb, wk_mateClimb1, if_neg c_3]; rfl))) dX5_climbWay_29
  · refine lv_iconst (v := (-1)) hx hb dX5_climbWay_21 (by decide) ?_
    refine lv_goto (tgt := 29) hx hb dX5_climbWay_22 (by decide) ?_
    exact wk_ri ((wk_sailorClimb (wk_note σ 42) k n).2) hx hb hr hlk hK hI rfl (wk_post (by first | rfl | (simp only [wk_mateClimb, wk_mateClimb1, if_pos c_3]; done) | (simp only [wk_mateClimb, wk_mateClimb1, if_pos c_3]; rfl))) dX5_climbWay_29
set_option maxHeartbeats 4000000 in
set_option maxRecDepth 100000 in
theorem c_X9_climbWay (l : Launch) (D : va_G) (cI cJ cS : ClassId) (ad : Nat → Nat) (σ : wk_St) (r k : Nat) (n : Int32) (hV : wk_V σ) (hr9 : r < 8) (hk : k < wk_n σ) (hc : wk_nt σ + 2 < 2147483648) : wk_Ci l D (wk_tys cI cJ cS) yX9_climbWay (wk_M yX9_climbWay cX9_climbWay 4 (some .int)) ({ frames := 2, cells := 0, slots := 0, locals := 45 }) [.ref (ad (8 + r)), .ref (ad 1), .ref (ad (16 + k)), .int n] (wx_W cI cS ad σ) (wx_W cI cS ad) (fun r0 u0 => r0 = (wk_surgClimb σ k n).1 ∧ u0 = (wk_surgClimb σ k n).2) := by
  intro sz
  refine Met.ofW (cc := cX9_climbWay) (maxL := 4) (ret := (some .int)) (by decide) rfl ?_
  intro p e s m args below meth c s₁ B hml hv
  obtain ⟨rfl, hsz, hP, hK, hD0, hN⟩ := hv
  have hx := B.exec
  have hb := B.bytes
  have hr := B.returns
  have hts := atoms_spec (ws := wk_M yX9_climbWay cX9_climbWay 4 (some .int)) B.pre
  have hown : s.vm.findClass RX9 = some m.cls := findClass_of_methodNamed B.named
  have hlk := B.notSynchronized
  subst hsz
  have hI : wk_I D (va_A (wx_W cI cS ad σ) s.heap.size) s.heap s.heap [] (wx_W cI cS ad σ) := ⟨hP, hD0.self, va_S.rf⟩
  have hA : ∀ q : Nat, s.heap.size ≤ q → (va_A (wx_W cI cS ad σ) s.heap.size) q := fun q h => Or.inr h
  clear hP hD0
  generalize va_A (wx_W cI cS ad σ) s.heap.size = A at hI hA ⊢
  have hl := lv_entry ([.ref (ad (8 + r)), .ref (ad 1), .ref (ad (16 + k)), .int n]) (n := 4) (Nat.le_of_ble_eq_true rfl)
  rw [lg_entry_eq]
  generalize (lg_sl ([.ref (ad (8 + r)), .ref (ad 1), .ref (ad (16 + k)), .int n]) ++ List.replicate (4 - (lg_sl ([.ref (ad (8 + r)), .ref (ad 1), .ref (ad (16 + k)), .int n])).length) Slot.unset).toArray = ls at hl ⊢
  have hl : lv_has ls 4 [(0, .ref (ad (8 + r))), (1, .ref (ad 1)), (2, .ref (ad (16 + k))), (3, .int n)] := hl
  refine lv_aload_n hx hb dX9_climbWay_0 rfl (lv_at hl 1 rfl) ?_
  refine lv_bipush (v := 7) hx hb dX9_climbWay_1 (by decide) ?_
  refine lv_iconst (v := 2) hx hb dX9_climbWay_3 (by decide) ?_
  refine wk_kV hI hA (va_runV (As := [.int 7, .int 2]) (rest := []) ⟨hx, hb, hml, hown, hts⟩ (c_X2_noteWay l D cI cJ cS ad σ 7 2 72 (by decide) (by omega) _) (wk_cwV 2 hts wk_in_M mw_331 mw_258 mw_259 mw_35 mw_260 hdX2_noteWay ⟨(Nat.le_of_ble_eq_true rfl), (Nat.le_of_ble_eq_true rfl)⟩) (wk_preV hN hK hI (ci := 2) rfl wx_e1) rfl rfl hl.1 rfl (lv_room (Nat.le_of_ble_eq_true rfl)) dX9_climbWay_4 ⟨(Nat.le_of_ble_eq_true rfl), (Nat.le_of_ble_eq_true rfl)⟩) (fun u H locs hw hI => ?_)
  obtain rfl := hw
  have hG_1 : wk_G σ (wk_note σ 72) 1 := wk_g_note σ 72
  refine lv_aload_n hx hb dX9_climbWay_7 rfl (lv_at hl 0 rfl) ?_
  refine lv_aload_n hx hb dX9_climbWay_8 rfl (lv_at hl 1 rfl) ?_
  refine lv_aload_n hx hb dX9_climbWay_9 rfl (lv_at hl 2 rfl) ?_
  refine lv_iload_n hx hb dX9_climbWay_10 rfl (lv_at hl 3 rfl) ?_
  refine lv_iconst (v := 2) hx hb dX9_climbWay_11 (by decide) ?_
  refine lv_idiv hx hb dX9_climbWay_12 (by decide) ?_
  refine wk_kI hI hA (wk_runP (x := (⟨RX1, "climbWay", "(LWatchBill$Crew;LWatchBill$Member;I)I"⟩ : MethodName)) (As := [.ref (ad 1), .ref (ad (16 + k)), .int (n / 2)]) (rest := []) ⟨hx, hb, hml, hown, hts⟩ (c_X8_climbWay l D cI cJ cS ad (wk_note σ 72) r k (n / 2) (hG_1.V hV) hr9 (hG_1.lt hk) (by have hq := hG_1.nt; omega) _) (wk_cwP 3 hts wk_in_M mw_364 mw_365 mw_144 mw_341 mw_36 mw_367 wk_sub_X1_X8 hN (by decide +kernel) ⟨(Nat.le_of_ble_eq_true rfl), (Nat.le_of_ble_eq_true rfl)⟩) (wk_preR hN hK hI hr9) rfl rfl hl.1 rfl (lv_room (Nat.le_of_ble_eq_true rfl)) dX9_climbWay_13 ⟨(Nat.le_of_ble_eq_true rfl), (Nat.le_of_ble_eq_true rfl)⟩) (fun r u H locs hw hI => ?_)
  obtain ⟨rfl, rfl⟩ := hw
  have hG_2 : wk_G σ ((wk_soulClimb (wk_note σ 72) k (n / 2)).2) 2 := hG_1.trans (wk_g_soulClimb (wk_note σ 72) k (n / 2))
  exact wk_ri ((wk_soulClimb (wk_note σ 72) k (n / 2)).2) hx hb hr hlk hK hI rfl (wk_post (by first | rfl | (simp only [wk_surgClimb]; done) | (simp only [wk_surgClimb]; rfl))) dX9_climbWay_16
set_option maxHeartbeats 4000000 in
set_option maxRecDepth 100000 in
theorem c_X8_heedWay (l : Launch) (D : va_G) (cI cJ cS : ClassId) (ad : Nat → Nat) (σ : wk_St) (r k : Nat) (n : Int32) (hV : wk_V σ) (hr9 : r < 8) (hk : k < wk_n σ) (hc : wk_nt σ + 1 < 2147483648) : wk_Ci l D (wk_tys cI cJ cS) yX8_heedWay (wk_M yX8_heedWay cX8_heedWay 4 (some .int)) ({ frames := 1, cells := 0, slots := 0, locals := 22 }) [.ref (ad (8 + r)), .ref (ad 1), .ref (ad (16 + k)), .int n] (wx_W cI cS ad σ) (wx_W cI cS ad) (fun r0 u0 => r0 = (wk_soulHeed σ k n).1 ∧ u0 = (wk_soulHeed σ k n).2) := by
  intro sz
  refine Met.ofW (cc := cX8_heedWay) (maxL := 4) (ret := (some .int)) (by decide) rfl ?_
  intro p e s m args below meth c s₁ B hml hv
  obtain ⟨rfl, hsz, hP, hK, hD0, hN⟩ := hv
  have hx := B.exec
  have hb := B.bytes
  have hr := B.returns
  have hts := atoms_spec (ws := wk_M yX8_heedWay cX8_heedWay 4 (some .int)) B.pre
  have hown : s.vm.findClass RX8 = some m.cls := findClass_of_methodNamed B.named
  have hlk := B.notSynchronized
  subst hsz
  have hI : wk_I D (va_A (wx_W cI cS ad σ) s.heap.size) s.heap s.heap [] (wx_W cI cS ad σ) := ⟨hP, hD0.self, va_S.rf⟩
  have hA : ∀ q : Nat, s.heap.size ≤ q → (va_A (wx_W cI cS ad σ) s.heap.size) q := fun q h => Or.inr h
  clear hP hD0
  generalize va_A (wx_W cI cS ad σ) s.heap.size = A at hI hA ⊢
  have hl := lv_entry ([.ref (ad (8 + r)), .ref (ad 1), .ref (ad (16 + k)), .int n]) (n := 4) (Nat.le_of_ble_eq_true rfl)
  rw [lg_entry_eq]
  generalize (lg_sl ([.ref (ad (8 + r)), .ref (ad 1), .ref (ad (16 + k)), .int n]) ++ List.replicate (4 - (lg_sl ([.ref (ad (8 + r)), .ref (ad 1), .ref (ad (16 + k)), .int n])).length) Slot.unset).toArray = ls at hl ⊢
  have hl : lv_has ls 4 [(0, .ref (ad (8 + r))), (1, .ref (ad 1)), (2, .ref (ad (16 + k))), (3, .int n)] := hl
  refine lv_aload_n hx hb dX8_heedWay_0 rfl (lv_at hl 1 rfl) ?_
  refine lv_bipush (v := 8) hx hb dX8_heedWay_1 (by decide) ?_
  refine lv_iconst (v := 3) hx hb dX8_heedWay_3 (by decide) ?_
  refine wk_kV hI hA (va_runV (As := [.int 8, .int 3]) (rest := []) ⟨hx, hb, hml, hown, hts⟩ (c_X2_noteWay l D cI cJ cS ad σ 8 3 83 (by decide) (by omega) _) (wk_cwV 2 hts wk_in_M mw_293 mw_258 mw_259 mw_35 mw_260 hdX2_noteWay ⟨(Nat.le_of_ble_eq_true rfl), (Nat.le_of_ble_eq_true rfl)⟩) (wk_preV hN hK hI (ci := 2) rfl wx_e1) rfl rfl hl.1 rfl (lv_room (Nat.le_of_ble_eq_true rfl)) dX8_heedWay_4 ⟨(Nat.le_of_ble_eq_true rfl), (Nat.le_of_ble_eq_true rfl)⟩) (fun u H locs hw hI => ?_)
  obtain rfl := hw
  have hG_1 : wk_G σ (wk_note σ 83) 1 := wk_g_note σ 83
  refine lv_bipush (v := 31) hx hb dX8_heedWay_7 (by decide) ?_
  refine lv_iload_n hx hb dX8_heedWay_9 rfl (lv_at hl 3 rfl) ?_
  refine lv_imul hx hb dX8_heedWay_10 ?_
  refine lv_aload_n hx hb dX8_heedWay_11 rfl (lv_at hl 2 rfl) ?_
  refine wk_get (v := .int (nI k)) hx hb hts (fun w h => wk_in_M w (lay_X6 w h)) hown hK hI (16 + k) (wx_em (hG_1.lt hk)) rfl 0 (by decide) (hts _ (wk_in_M _ mw_184)) rfl rfl dX8_heedWay_12 ?_
  refine lv_iadd hx hb dX8_heedWay_15 ?_
  refine lv_sipush (v := 1000) hx hb dX8_heedWay_16 (by decide) ?_
  refine lv_irem hx hb dX8_heedWay_19 (by decide) ?_
  exact wk_ri (wk_note σ 83) hx hb hr hlk hK hI rfl (wk_post (by first | rfl | (simp only [wk_soulHeed, wk_soulHeed1]; done) | (simp only [wk_soulHeed, wk_soulHeed1]; rfl))) dX8_heedWay_20
set_option maxHeartbeats 4000000 in
set_option maxRecDepth 100000 in
theorem c_X10_heedWay (l : Launch) (D : va_G) (cI cJ cS : ClassId) (ad : Nat → Nat) (σ : wk_St) (r k : Nat) (n : Int32) (hV : wk_V σ) (hr9 : r < 8) (hk : k < wk_n σ) (hc : wk_nt σ + 2 < 2147483648) : wk_Ci l D (wk_tys cI cJ cS) yX10_heedWay (wk_M yX10_heedWay cX10_heedWay 4 (some .int)) ({ frames := 2, cells := 0, slots := 0, locals := 45 }) [.ref (ad (8 + r)), .ref (ad 1), .ref (ad (16 + k)), .int n] (wx_W cI cS ad σ) (wx_W cI cS ad) (fun r0 u0 => r0 = (wk_topHeed σ k n).1 ∧ u0 = (wk_topHeed σ k n).2) := by
  intro sz
  refine Met.ofW (cc := cX10_heedWay) (maxL := 4) (ret := (some .int)) (by decide) rfl ?_
  intro p e s m args below meth c s₁ B hml hv
  obtain ⟨rfl, hsz, hP, hK, hD0, hN⟩ := hv
  have hx := B.exec
  have hb := B.bytes
  have hr := B.returns
  have hts := atoms_spec (ws := wk_M yX10_heedWay cX10_heedWay 4 (some .int)) B.pre
  have hown : s.vm.findClass RX10 = some m.cls := findClass_of_methodNamed B.named
  have hlk := B.notSynchronized
  subst hsz
  have hI : wk_I D (va_A (wx_W cI cS ad σ) s.heap.size) s.heap s.heap [] (wx_W cI cS ad σ) := ⟨hP, hD0.self, va_S.rf⟩
  have hA : ∀ q : Nat, s.heap.size ≤ q → (va_A (wx_W cI cS ad σ) s.heap.size) q := fun q h => Or.inr h
  clear hP hD0
  generalize va_A (wx_W cI cS ad σ) s.heap.size = A at hI hA ⊢
  have hl := lv_entry ([.ref (ad (8 + r)), .ref (ad 1), .ref (ad (16 + k)), .int n]) (n := 4) (Nat.le_of_ble_eq_true rfl)
  rw [lg_entry_eq]
  generalize (lg_sl ([.ref (ad (8 + r)), .ref (ad 1), .ref (ad (16 + k)), .int n]) ++ List.replicate (4 - (lg_sl ([.ref (ad (8 + r)), .ref (ad 1), .ref (ad (16 + k)), .int n])).length) Slot.unset).toArray = ls at hl ⊢
  have hl : lv_has ls 4 [(0, .ref (ad (8 + r))), (1, .ref (ad 1)), (2, .ref (ad (16 + k))), (3, .int n)] := hl
  refine lv_aload_n hx hb dX10_heedWay_0 rfl (lv_at hl 1 rfl) ?_
  refine lv_iconst (v := 2) hx hb dX10_heedWay_1 (by decide) ?_
  refine lv_iconst (v := 3) hx hb dX10_heedWay_2 (by decide) ?_
  refine wk_kV hI hA (va_runV (As := [.int 2, .int 3]) (rest := []) ⟨hx, hb, hml, hown, hts⟩ (c_X2_noteWay l D cI cJ cS ad σ 2 3 23 (by decide) (by omega) _) (wk_cwV 2 hts wk_in_M mw_257 mw_258 mw_259 mw_35 mw_260 hdX2_noteWay ⟨(Nat.le_of_ble_eq_true rfl), (Nat.le_of_ble_eq_true rfl)⟩) (wk_preV hN hK hI (ci := 2) rfl wx_e1) rfl rfl hl.1 rfl (lv_room (Nat.le_of_ble_eq_true rfl)) dX10_heedWay_3 ⟨(Nat.le_of_ble_eq_true rfl), (Nat.le_of_ble_eq_true rfl)⟩) (fun u H locs hw hI => ?_)
  obtain rfl := hw
  have hG_1 : wk_G σ (wk_note σ 23) 1 := wk_g_note σ 23
  refine lv_iload_n hx hb dX10_heedWay_6 rfl (lv_at hl 3 rfl) ?_
  refine lv_iconst (v := 2) hx hb dX10_heedWay_7 (by decide) ?_
  refine lv_irem hx hb dX10_heedWay_8 (by decide) ?_
  refine lv_if_eq (tgt := 14) hx hb dX10_heedWay_9 (by decide) (fun c_2 => ?_) (fun c_2 => ?_)
  · refine lv_aload_n hx hb dX10_heedWay_14 rfl (lv_at hl 0 rfl) ?_
    refine lv_aload_n hx hb dX10_heedWay_15 rfl (lv_at hl 1 rfl) ?_
    refine lv_aload_n hx hb dX10_heedWay_16 rfl (lv_at hl 2 rfl) ?_
    refine lv_iload_n hx hb dX10_heedWay_17 rfl (lv_at hl 3 rfl) ?_
    refine wk_kI hI hA (wk_runP (x := (⟨RX7, "heedWay", "(LWatchBill$Crew;LWatchBill$Member;I)I"⟩ : MethodName)) (As := [.ref (ad 1), .ref (ad (16 + k)), .int n]) (rest := []) ⟨hx, hb, hml, hown, hts⟩ (c_X8_heedWay l D cI cJ cS ad (wk_note σ 23) r k n (hG_1.V hV) hr9 (hG_1.lt hk) (by have hq := hG_1.nt; omega) _) (wk_cwP 3 hts wk_in_M mw_381 mw_382 mw_109 mw_373 mw_36 mw_401 wk_sub_X7_X8 hN (by decide +kernel) ⟨(Nat.le_of_ble_eq_true rfl), (Nat.le_of_ble_eq_true rfl)⟩) (wk_preR hN hK hI hr9) rfl rfl hl.1 rfl (lv_room (Nat.le_of_ble_eq_true rfl)) dX10_heedWay_18 ⟨(Nat.le_of_ble_eq_true rfl), (Nat.le_of_ble_eq_true rfl)⟩) (fun r u H locs hw hI => ?_)
    obtain ⟨rfl, rfl⟩ := hw
    have hG_3 : wk_G σ ((wk_soulHeed (wk_note σ 23) k n).2) 2 := hG_1.trans (wk_g_soulHeed (wk_note σ 23) k n)
    refine lv_sipush (v := 1000) hx hb dX10_heedWay_21 (by decide) ?_
    refine lv_iadd hx hb dX10_heedWay_24 ?_
    exact wk_ri ((wk_soulHeed (wk_note σ 23) k n).2) hx hb hr hlk hK hI rfl (wk_post (by first | rfl | (simp only [wk_topHeed, wk_topHeed1, if_pos c_2]; done) | (simp only [wk_topHeed, wk_topHeed1, if_pos c_2]; rfl))) dX10_heedWay_25
  · refine lv_iload_n hx hb dX10_heedWay_12 rfl (lv_at hl 3 rfl) ?_
    exact wk_ri (wk_note σ 23) hx hb hr hlk hK hI rfl (wk_post (by first | rfl | (simp only [wk_topHeed, wk_topHeed1, if_neg c_2]; done) | (simp only [wk_topHeed, wk_topHeed1, if_neg c_2]; rfl))) dX10_heedWay_13
set_option maxHeartbeats 4000000 in
set_option maxRecDepth 100000 in
theorem c_X1_heedWay (l : Launch) (D : va_G) (cI cJ cS : ClassId) (ad : Nat → Nat) (σ : wk_St) (r k : Nat) (n : Int32) (hV : wk_V σ) (hr9 : r < 8) (hk : k < wk_n σ) (hc : wk_nt σ + 2 < 2147483648) : wk_Ci l D (wk_tys cI cJ cS) yX1_heedWay (wk_M yX1_heedWay cX1_heedWay 4 (some .int)) ({ frames := 2, cells := 0, slots := 0, locals := 45 }) [.ref (ad (8 + r)), .ref (ad 1), .ref (ad (16 + k)), .int n] (wx_W cI cS ad σ) (wx_W cI cS ad) (fun r0 u0 => r0 = (wk_cookHeed σ k n).1 ∧ u0 = (wk_cookHeed σ k n).2) := by
  intro sz
  refine Met.ofW (cc := cX1_heedWay) (maxL := 4) (ret := (some .int)) (by decide) rfl ?_
  intro p e s m args below meth c s₁ B hml hv
  obtain ⟨rfl, hsz, hP, hK, hD0, hN⟩ := hv
  have hx := B.exec
  have hb := B.bytes
  have hr := B.returns
  have hts := atoms_spec (ws := wk_M yX1_heedWay cX1_heedWay 4 (some .int)) B.pre
  have hown : s.vm.findClass RX1 = some m.cls := findClass_of_methodNamed B.named
  have hlk := B.notSynchronized
  subst hsz
  have hI : wk_I D (va_A (wx_W cI cS ad σ) s.heap.size) s.heap s.heap [] (wx_W cI cS ad σ) := ⟨hP, hD0.self, va_S.rf⟩
  have hA : ∀ q : Nat, s.heap.size ≤ q → (va_A (wx_W cI cS ad σ) s.heap.size) q := fun q h => Or.inr h
  clear hP hD0
  generalize va_A (wx_W cI cS ad σ) s.heap.size = A at hI hA ⊢
  have hl := lv_entry ([.ref (ad (8 + r)), .ref (ad 1), .ref (ad (16 + k)), .int n]) (n := 4) (Nat.le_of_ble_eq_true rfl)
  rw [lg_entry_eq]
  generalize (lg_sl ([.ref (ad (8 + r)), .ref (ad 1), .ref (ad (16 + k)), .int n]) ++ List.replicate (4 - (lg_sl ([.ref (ad (8 + r)), .ref (ad 1), .ref (ad (16 + k)), .int n])).length) Slot.unset).toArray = ls at hl ⊢
  have hl : lv_has ls 4 [(0, .ref (ad (8 + r))), (1, .ref (ad 1)), (2, .ref (ad (16 + k))), (3, .int n)] := hl
  refine lv_aload_n hx hb dX1_heedWay_0 rfl (lv_at hl 1 rfl) ?_
  refine lv_bipush (v := 6) hx hb dX1_heedWay_1 (by decide) ?_
  refine lv_iconst (v := 3) hx hb dX1_heedWay_3 (by decide) ?_
  refine wk_kV hI hA (va_runV (As := [.int 6, .int 3]) (rest := []) ⟨hx, hb, hml, hown, hts⟩ (c_X2_noteWay l D cI cJ cS ad σ 6 3 63 (by decide) (by omega) _) (wk_cwV 2 hts wk_in_M mw_268 mw_258 mw_259 mw_35 mw_260 hdX2_noteWay ⟨(Nat.le_of_ble_eq_true rfl), (Nat.le_of_ble_eq_true rfl)⟩) (wk_preV hN hK hI (ci := 2) rfl wx_e1) rfl rfl hl.1 rfl (lv_room (Nat.le_of_ble_eq_true rfl)) dX1_heedWay_4 ⟨(Nat.le_of_ble_eq_true rfl), (Nat.le_of_ble_eq_true rfl)⟩) (fun u H locs hw hI => ?_)
  obtain rfl := hw
  have hG_1 : wk_G σ (wk_note σ 63) 1 := wk_g_note σ 63
  refine lv_aload_n hx hb dX1_heedWay_7 rfl (lv_at hl 0 rfl) ?_
  refine lv_aload_n hx hb dX1_heedWay_8 rfl (lv_at hl 1 rfl) ?_
  refine lv_aload_n hx hb dX1_heedWay_9 rfl (lv_at hl 2 rfl) ?_
  refine lv_iload_n hx hb dX1_heedWay_10 rfl (lv_at hl 3 rfl) ?_
  refine wk_kI hI hA (wk_runP (x := (⟨RX3, "heedWay", "(LWatchBill$Crew;LWatchBill$Member;I)I"⟩ : MethodName)) (As := [.ref (ad 1), .ref (ad (16 + k)), .int n]) (rest := []) ⟨hx, hb, hml, hown, hts⟩ (c_X8_heedWay l D cI cJ cS ad (wk_note σ 63) r k n (hG_1.V hV) hr9 (hG_1.lt hk) (by have hq := hG_1.nt; omega) _) (wk_cwP 3 hts wk_in_M mw_387 mw_388 mw_137 mw_373 mw_36 mw_401 wk_sub_X3_X8 hN (by decide +kernel) ⟨(Nat.le_of_ble_eq_true rfl), (Nat.le_of_ble_eq_true rfl)⟩) (wk_preR hN hK hI hr9) rfl rfl hl.1 rfl (lv_room (Nat.le_of_ble_eq_true rfl)) dX1_heedWay_11 ⟨(Nat.le_of_ble_eq_true rfl), (Nat.le_of_ble_eq_true rfl)⟩) (fun r u H locs hw hI => ?_)
  obtain ⟨rfl, rfl⟩ := hw
  have hG_2 : wk_G σ ((wk_soulHeed (wk_note σ 63) k n).2) 2 := hG_1.trans (wk_g_soulHeed (wk_note σ 63) k n)
  refine lv_ineg hx hb dX1_heedWay_14 ?_
  exact wk_ri ((wk_soulHeed (wk_note σ 63) k n).2) hx hb hr hlk hK hI rfl (wk_post (by first | rfl | (simp only [wk_cookHeed]; done) | (simp only [wk_cookHeed]; rfl))) dX1_heedWay_15
end
section
set_option maxHeartbeats 4000000 in
set_option maxRecDepth 100000 in
theorem c_X0_payWay (l : Launch) (D : va_G) (cI cJ cS : ClassId) (ad : Nat → Nat) (σ : wk_St) (r k : Nat) (n : Int32) (hV : wk_V σ) (hr9 : r < 8) (hk : k < wk_n σ) (hc : wk_nt σ + 2 < 2147483648) : wk_Cl l D (wk_tys cI cJ cS) yX0_payWay (wk_M yX0_payWay cX0_payWay 7 (some .long)) ({ frames := 2, cells := 0, slots := 0, locals := 45 }) [.ref (ad (8 + r)), .ref (ad 1), .ref (ad (16 + k)), .int n] (wx_W cI cS ad σ) (wx_W cI cS ad) (fun r0 u0 => r0 = (wk_bosunPay σ k n).1 ∧ u0 = (wk_bosunPay σ k n).2) := by
  intro sz
  refine Met.ofW (cc := cX0_payWay) (maxL := 7) (ret := (some .long)) (by decide) rfl ?_
  intro p e s m args below meth c s₁ B hml hv
  obtain ⟨rfl, hsz, hP, hK, hD0, hN⟩ := hv
  have hx := B.exec
  have hb := B.bytes
  have hr := B.returns
  have hts := atoms_spec (ws := wk_M yX0_payWay cX0_payWay 7 (some .long)) B.pre
  have hown : s.vm.findClass RX0 = some m.cls := findClass_of_methodNamed B.named
  have hlk := B.notSynchronized
  subst hsz
  have hI : wk_I D (va_A (wx_W cI cS ad σ) s.heap.size) s.heap s.heap [] (wx_W cI cS ad σ) := ⟨hP, hD0.self, va_S.rf⟩
  have hA : ∀ q : Nat, s.heap.size ≤ q → (va_A (wx_W cI cS ad σ) s.heap.size) q := fun q h => Or.inr h
  clear hP hD0
  generalize va_A (wx_W cI cS ad σ) s.heap.size = A at hI hA ⊢
  have hl := lv_entry ([.ref (ad (8 + r)), .ref (ad 1), .ref (ad (16 + k)), .int n]) (n := 7) (Nat.le_of_ble_eq_true rfl)
  rw [lg_entry_eq]
  generalize (lg_sl ([.ref (ad (8 + r)), .ref (ad 1), .ref (ad (16 + k)), .int n]) ++ List.replicate (7 - (lg_sl ([.ref (ad (8 + r)), .ref (ad 1), .ref (ad (16 + k)), .int n])).length) Slot.unset).toArray = ls at hl ⊢
  have hl : lv_has ls 7 [(0, .ref (ad (8 + r))), (1, .ref (ad 1)), (2, .ref (ad (16 + k))), (3, .int n)] := hl
  refine lv_aload_n hx hb dX0_payWay_0 rfl (lv_at hl 1 rfl) ?_
  refine lv_iconst (v := 3) hx hb dX0_payWay_1 (by decide) ?_
  refine lv_iconst (v := 1) hx hb dX0_payWay_2 (by decide) ?_
  refine wk_kV hI hA (va_runV (As := [.int 3, .int 1]) (rest := []) ⟨hx, hb, hml, hown, hts⟩ (c_X2_noteWay l D cI cJ cS ad σ 3 1 31 (by decide) (by omega) _) (wk_cwV 2 hts wk_in_M mw_305 mw_258 mw_259 mw_35 mw_260 hdX2_noteWay ⟨(Nat.le_of_ble_eq_true rfl), (Nat.le_of_ble_eq_true rfl)⟩) (wk_preV hN hK hI (ci := 2) rfl wx_e1) rfl rfl hl.1 rfl (lv_room (Nat.le_of_ble_eq_true rfl)) dX0_payWay_3 ⟨(Nat.le_of_ble_eq_true rfl), (Nat.le_of_ble_eq_true rfl)⟩) (fun u H locs hw hI => ?_)
  obtain rfl := hw
  have hG_1 : wk_G σ (wk_note σ 31) 1 := wk_g_note σ 31
  refine lv_aload_n hx hb dX0_payWay_6 rfl (lv_at hl 0 rfl) ?_
  refine lv_aload_n hx hb dX0_payWay_7 rfl (lv_at hl 1 rfl) ?_
  refine lv_aload_n hx hb dX0_payWay_8 rfl (lv_at hl 2 rfl) ?_
  refine lv_iload_n hx hb dX0_payWay_9 rfl (lv_at hl 3 rfl) ?_
  refine wk_kL hI hA (wk_runP (x := (⟨RX10, "payWay", "(LWatchBill$Crew;LWatchBill$Member;I)J"⟩ : MethodName)) (As := [.ref (ad 1), .ref (ad (16 + k)), .int n]) (rest := []) ⟨hx, hb, hml, hown, hts⟩ (c_X3_payWay l D cI cJ cS ad (wk_note σ 31) r k n (hG_1.V hV) hr9 (hG_1.lt hk) (by have hq := hG_1.nt; omega) _) (wk_cwP 3 hts wk_in_M mw_306 mw_307 mw_116 mw_309 mw_37 mw_310 wk_sub_X10_X3 hN (by decide +kernel) ⟨(Nat.le_of_ble_eq_true rfl), (Nat.le_of_ble_eq_true rfl)⟩) (wk_preR hN hK hI hr9) rfl rfl hl.1 rfl (lv_room (Nat.le_of_ble_eq_true rfl)) dX0_payWay_10 ⟨(Nat.le_of_ble_eq_true rfl), (Nat.le_of_ble_eq_true rfl)⟩) (fun r u H locs hw hI => ?_)
  obtain ⟨rfl, rfl⟩ := hw
  have hG_2 : wk_G σ ((wk_handPay (wk_note σ 31) k n).2) 2 := hG_1.trans (wk_g_handPay (wk_note σ 31) k n)
  refine lv_ldc2 hx hb hown (hts _ (wk_in_M _ mw_312)) dX0_payWay_13 ?_
  refine lv_iload_n hx hb dX0_payWay_16 rfl (lv_at hl 3 rfl) ?_
  refine lv_i2l hx hb dX0_payWay_17 rfl ?_
  refine lv_lmul hx hb dX0_payWay_18 ?_
  refine lv_ladd hx hb dX0_payWay_19 ?_
  refine lv_lstore (lv' := [(4, .long (((wk_handPay (wk_note σ 31) k n).1) + (2 * (n.toInt64)))), (0, .ref (ad (8 + r))), (1, .ref (ad 1)), (2, .ref (ad (16 + k))), (3, .int n)]) hx hb dX0_payWay_20 hl (by decide) rfl (fun ls hl => ?_)
  refine lv_aload_n hx hb dX0_payWay_22 rfl (lv_at hl 2 rfl) ?_
  refine wk_get (v := va_rf (wx_mp ad (wk_n ((wk_handPay (wk_note σ 31) k n).2)) 0)) hx hb hts (fun w h => wk_in_M w (lay_X2 w h)) hown hK hI (1) wx_e1 rfl 0 (by decide) (hts _ (wk_in_M _ mw_62)) rfl rfl dX0_payWay_23 ?_
  refine wk_astore (lv' := [(6, va_rf (wx_mp ad (wk_n ((wk_handPay (wk_note σ 31) k n).2)) 0)), (4, .long (((wk_handPay (wk_note σ 31) k n).1) + (2 * (n.toInt64)))), (0, .ref (ad (8 + r))), (1, .ref (ad 1)), (2, .ref (ad (16 + k))), (3, .int n)]) hx hb dX0_payWay_26 hl (by decide) rfl (fun ls hl => ?_)
  refine wk_loop (fun i H locs ls => wk_I D A s.heap H locs (wx_W cI cS ad ((wk_handPay (wk_note σ 31) k n).2)) ∧ lv_has ls 7 [(0, .ref (ad (8 + r))), (1, .ref (ad 1)), (2, .ref (ad (16 + k))), (3, .int n), (4, .long (wk_addN ((wk_handPay (wk_note σ 31) k n).2) n.toInt64 (((wk_handPay (wk_note σ 31) k n).1) + (2 * (n.toInt64))) i)), (6, va_rf (wx_mp ad (wk_n ((wk_handPay (wk_note σ 31) k n).2)) i))]) (wk_n ((wk_handPay (wk_note σ 31) k n).2)) ?_ ?_ (wk_n ((wk_handPay (wk_note σ 31) k n).2)) 0 _ _ _ (Nat.zero_add _) ⟨hI, lv_sub hl [2, 3, 4, 5, 1, 0] rfl⟩
  · intro H locs ls hinv
    obtain ⟨hI, hl⟩ := hinv
    rw [wx_mpF (Nat.lt_irrefl _)] at hl
    have hl : lv_has ls 7 [(0, .ref (ad (8 + r))), (1, .ref (ad 1)), (2, .ref (ad (16 + k))), (3, .int n), (4, .long (wk_addN ((wk_handPay (wk_note σ 31) k n).2) n.toInt64 (((wk_handPay (wk_note σ 31) k n).1) + (2 * (n.toInt64))) (wk_n ((wk_handPay (wk_note σ 31) k n).2)))), (6, .null)] := hl
    refine lv_aloadN hx hb dX0_payWay_28 (lv_at hl 5 rfl) ?_
    refine lv_ifnullN (tgt := 58) hx hb dX0_payWay_30 (by decide) ?_
    refine lv_lload hx hb dX0_payWay_58 (lv_at hl 4 rfl) ?_
    exact wk_rl ((wk_handPay (wk_note σ 31) k n).2) hx hb hr hlk hK hI rfl (wk_post (by first | rfl | (simp only [wk_bosunPay, wk_bosunPay1]; done) | (simp only [wk_bosunPay, wk_bosunPay1]; rfl))) dX0_payWay_60
  · intro i H locs ls hi hinv ih
    obtain ⟨hI, hl⟩ := hinv
    have hiσ : i < wk_n σ := by have hq := hG_2.n; omega
    rw [wx_mpT hi] at hl
    have hl : lv_has ls 7 [(0, .ref (ad (8 + r))), (1, .ref (ad 1)), (2, .ref (ad (16 + k))), (3, .int n), (4, .long (wk_addN ((wk_handPay (wk_note σ 31) k n).2) n.toInt64 (((wk_handPay (wk_note σ 31) k n).1) + (2 * (n.toInt64))) i)), (6, .ref (ad (16 + i)))] := hl
    refine lv_aload hx hb dX0_payWay_28 (lv_at hl 5 rfl) ?_
    refine lv_ifnull hx hb dX0_payWay_30 ?_
    refine lv_aload hx hb dX0_payWay_33 (lv_at hl 5 rfl) ?_
    refine wk_kI hI hA (va_runV (As := []) (rest := []) ⟨hx, hb, hml, hown, hts⟩ (c_X6_isBelowBosun l D cI cJ cS ad ((wk_handPay (wk_note σ 31) k n).2) i (hG_2.V hV) (hG_2.lt hiσ) _) (wk_cwV 0 hts wk_in_M mw_313 mw_314 mw_315 mw_46 mw_316 hdX6_isBelowBosun ⟨(Nat.le_of_ble_eq_true rfl), (Nat.le_of_ble_eq_true rfl)⟩) (wk_preV hN hK hI (ci := 6) rfl (wx_em (hG_2.lt hiσ))) rfl rfl hl.1 rfl (lv_room (Nat.le_of_ble_eq_true rfl)) dX0_payWay_35 ⟨(Nat.le_of_ble_eq_true rfl), (Nat.le_of_ble_eq_true rfl)⟩) (fun r u H locs hw hI => ?_)
    obtain ⟨rfl, rfl⟩ := hw
    refine lv_if_eq (tgt := 48) hx hb dX0_payWay_38 (by decide) (fun c_3 => ?_) (fun c_3 => ?_)
    · have c_3 := wk_b0 c_3
      refine lv_aload hx hb dX0_payWay_48 (lv_at hl 5 rfl) ?_
      refine wk_get (v := va_rf (wx_mp ad (wk_n ((wk_handPay (wk_note σ 31) k n).2)) (i + 1))) hx hb hts (fun w h => wk_in_M w (lay_X6 w h)) hown hK hI (16 + i) (wx_em (hG_2.lt hiσ)) rfl 6 (by decide) (hts _ (wk_in_M _ mw_203)) rfl rfl dX0_payWay_50 ?_
      refine wk_astore (lv' := [(6, va_rf (wx_mp ad (wk_n ((wk_handPay (wk_note σ 31) k n).2)) (i + 1))), (0, .ref (ad (8 + r))), (1, .ref (ad 1)), (2, .ref (ad (16 + k))), (3, .int n), (4, .long (wk_addN ((wk_handPay (wk_note σ 31) k n).2) n.toInt64 (((wk_handPay (wk_note σ 31) k n).1) + (2 * (n.toInt64))) i))]) hx hb dX0_payWay_53 hl (by decide) rfl (fun ls hl => ?_)
      refine lv_goto (tgt := 28) hx hb dX0_payWay_55 (by decide) ?_
      have e1 : wk_addN ((wk_handPay (wk_note σ 31) k n).2) n.toInt64 (((wk_handPay (wk_note σ 31) k n).1) + (2 * (n.toInt64))) (i + 1) = wk_addN ((wk_handPay (wk_note σ 31) k n).2) n.toInt64 (((wk_handPay (wk_note σ 31) k n).1) + (2 * (n.toInt64))) i := by simp only [wk_addN, if_neg c_3]
      rw [← e1] at hl
      exact ih _ _ _ ⟨hI, lv_sub hl [1, 2, 3, 4, 5, 0] rfl⟩
    · have c_3 := wk_b1 c_3
      refine lv_lload hx hb dX0_payWay_41 (lv_at hl 4 rfl) ?_
      refine lv_iload_n hx hb dX0_payWay_43 rfl (lv_at hl 3 rfl) ?_
      refine lv_i2l hx hb dX0_payWay_44 rfl ?_
      refine lv_ladd hx hb dX0_payWay_45 ?_
      refine lv_lstore (lv' := [(4, .long ((wk_addN ((wk_handPay (wk_note σ 31) k n).2) n.toInt64 (((wk_handPay (wk_note σ 31) k n).1) + (2 * (n.toInt64))) i) + (n.toInt64))), (0, .ref (ad (8 + r))), (1, .ref (ad 1)), (2, .ref (ad (16 + k))), (3, .int n), (6, .ref (ad (16 + i)))]) hx hb dX0_payWay_46 hl (by decide) rfl (fun ls hl => ?_)
      refine lv_aload hx hb dX0_payWay_48 (lv_at hl 5 rfl) ?_
      refine wk_get (v := va_rf (wx_mp ad (wk_n ((wk_handPay (wk_note σ 31) k n).2)) (i + 1))) hx hb hts (fun w h => wk_in_M w (lay_X6 w h)) hown hK hI (16 + i) (wx_em (hG_2.lt hiσ)) rfl 6 (by decide) (hts _ (wk_in_M _ mw_203)) rfl rfl dX0_payWay_50 ?_
      refine wk_astore (lv' := [(6, va_rf (wx_mp ad (wk_n ((wk_handPay (wk_note σ 31) k n).2)) (i + 1))), (4, .long ((wk_addN ((wk_handPay (wk_note σ 31) k n).2) n.toInt64 (((wk_handPay (wk_note σ 31) k n).1) + (2 * (n.toInt64))) i) + (n.toInt64))), (0, .ref (ad (8 + r))), (1, .ref (ad 1)), (2, .ref (ad (16 + k))), (3, .int n)]) hx hb dX0_payWay_53 hl (by decide) rfl (fun ls hl => ?_)
      refine lv_goto (tgt := 28) hx hb dX0_payWay_55 (by decide) ?_
      have e1 : wk_addN ((wk_handPay (wk_note σ 31) k n).2) n.toInt64 (((wk_handPay (wk_note σ 31) k n).1) + (2 * (n.toInt64))) (i + 1) = (wk_addN ((wk_handPay (wk_note σ 31) k n).2) n.toInt64 (((wk_handPay (wk_note σ 31) k n).1) + (2 * (n.toInt64))) i) + (n.toInt64) := by simp only [wk_addN, if_pos c_3]
      rw [← e1] at hl
      exact ih _ _ _ ⟨hI, lv_sub hl [2, 3, 4, 5, 1, 0] rfl⟩
set_option maxHeartbeats 4000000 in
set_option maxRecDepth 100000 in
theorem c_X4_payWay (l : Launch) (D : va_G) (cI cJ cS : ClassId) (ad : Nat → Nat) (σ : wk_St) (r k : Nat) (n : Int32) (hV : wk_V σ) (hr9 : r < 8) (hk : k < wk_n σ) (hc : wk_nt σ + 3 < 2147483648) : wk_Cl l D (wk_tys cI cJ cS) yX4_payWay (wk_M yX4_payWay cX4_payWay 6 (some .long)) ({ frames := 3, cells := 0, slots := 0, locals := 71 }) [.ref (ad (8 + r)), .ref (ad 1), .ref (ad (16 + k)), .int n] (wx_W cI cS ad σ) (wx_W cI cS ad) (fun r0 u0 => r0 = (wk_masterPay σ k n).1 ∧ u0 = (wk_masterPay σ k n).2) := by
  intro sz
  refine Met.ofW (cc := cX4_payWay) (maxL := 6) (ret := (some .long)) (by decide) rfl ?_
  intro p e s m args below meth c s₁ B hml hv
  obtain ⟨rfl, hsz, hP, hK, hD0, hN⟩ := hv
  have hx := B.exec
  have hb := B.bytes
  have hr := B.returns
  have hts := atoms_spec (ws := wk_M yX4_payWay cX4_payWay 6 (some .long)) B.pre
  have hown : s.vm.findClass RX4 = some m.cls := findClass_of_methodNamed B.named
  have hlk := B.notSynchronized
  subst hsz
  have hI : wk_I D (va_A (wx_W cI cS ad σ) s.heap.size) s.heap s.heap [] (wx_W cI cS ad σ) := ⟨hP, hD0.self, va_S.rf⟩
  have hA : ∀ q : Nat, s.heap.size ≤ q → (va_A (wx_W cI cS ad σ) s.heap.size) q := fun q h => Or.inr h
  clear hP hD0
  generalize va_A (wx_W cI cS ad σ) s.heap.size = A at hI hA ⊢
  have hl := lv_entry ([.ref (ad (8 + r)), .ref (ad 1), .ref (ad (16 + k)), .int n]) (n := 6) (Nat.le_of_ble_eq_true rfl)
  rw [lg_entry_eq]
  generalize (lg_sl ([.ref (ad (8 + r)), .ref (ad 1), .ref (ad (16 + k)), .int n]) ++ List.replicate (6 - (lg_sl ([.ref (ad (8 + r)), .ref (ad 1), .ref (ad (16 + k)), .int n])).length) Slot.unset).toArray = ls at hl ⊢
  have hl : lv_has ls 6 [(0, .ref (ad (8 + r))), (1, .ref (ad 1)), (2, .ref (ad (16 + k))), (3, .int n)] := hl
  refine lv_aload_n hx hb dX4_payWay_0 rfl (lv_at hl 1 rfl) ?_
  refine lv_iconst (v := 5) hx hb dX4_payWay_1 (by decide) ?_
  refine lv_iconst (v := 1) hx hb dX4_payWay_2 (by decide) ?_
  refine wk_kV hI hA (va_runV (As := [.int 5, .int 1]) (rest := []) ⟨hx, hb, hml, hown, hts⟩ (c_X2_noteWay l D cI cJ cS ad σ 5 1 51 (by decide) (by omega) _) (wk_cwV 2 hts wk_in_M mw_279 mw_258 mw_259 mw_35 mw_260 hdX2_noteWay ⟨(Nat.le_of_ble_eq_true rfl), (Nat.le_of_ble_eq_true rfl)⟩) (wk_preV hN hK hI (ci := 2) rfl wx_e1) rfl rfl hl.1 rfl (lv_room (Nat.le_of_ble_eq_true rfl)) dX4_payWay_3 ⟨(Nat.le_of_ble_eq_true rfl), (Nat.le_of_ble_eq_true rfl)⟩) (fun u H locs hw hI => ?_)
  obtain rfl := hw
  have hG_1 : wk_G σ (wk_note σ 51) 1 := wk_g_note σ 51
  refine lv_aload_n hx hb dX4_payWay_6 rfl (lv_at hl 0 rfl) ?_
  refine lv_aload_n hx hb dX4_payWay_7 rfl (lv_at hl 1 rfl) ?_
  refine lv_aload_n hx hb dX4_payWay_8 rfl (lv_at hl 2 rfl) ?_
  refine lv_iload_n hx hb dX4_payWay_9 rfl (lv_at hl 3 rfl) ?_
  refine wk_kL hI hA (wk_runP (x := (⟨RX5, "payWay", "(LWatchBill$Crew;LWatchBill$Member;I)J"⟩ : MethodName)) (As := [.ref (ad 1), .ref (ad (16 + k)), .int n]) (rest := []) ⟨hx, hb, hml, hown, hts⟩ (c_X0_payWay l D cI cJ cS ad (wk_note σ 51) r k n (hG_1.V hV) hr9 (hG_1.lt hk) (by have hq := hG_1.nt; omega) _) (wk_cwP 3 hts wk_in_M mw_322 mw_323 mw_130 mw_303 mw_40 mw_304 wk_sub_X5_X0 hN (by decide +kernel) ⟨(Nat.le_of_ble_eq_true rfl), (Nat.le_of_ble_eq_true rfl)⟩) (wk_preR hN hK hI hr9) rfl rfl hl.1 rfl (lv_room (Nat.le_of_ble_eq_true rfl)) dX4_payWay_10 ⟨(Nat.le_of_ble_eq_true rfl), (Nat.le_of_ble_eq_true rfl)⟩) (fun r u H locs hw hI => ?_)
  obtain ⟨rfl, rfl⟩ := hw
  have hG_2 : wk_G σ ((wk_bosunPay (wk_note σ 51) k n).2) 3 := hG_1.trans (wk_g_bosunPay (wk_note σ 51) k n)
  refine lv_lstore (lv' := [(4, .long ((wk_bosunPay (wk_note σ 51) k n).1)), (0, .ref (ad (8 + r))), (1, .ref (ad 1)), (2, .ref (ad (16 + k))), (3, .int n)]) hx hb dX4_payWay_13 hl (by decide) rfl (fun ls hl => ?_)
  refine lv_aload_n hx hb dX4_payWay_15 rfl (lv_at hl 3 rfl) ?_
  refine wk_get (v := .int (wk_we ((wk_bosunPay (wk_note σ 51) k n).2) k)) hx hb hts (fun w h => wk_in_M w (lay_X6 w h)) hown hK hI (16 + k) (wx_em (hG_2.lt hk)) rfl 4 (by decide) (hts _ (wk_in_M _ mw_198)) rfl rfl dX4_payWay_16 ?_
  refine lv_sipush (v := 300) hx hb dX4_payWay_19 (by decide) ?_
  refine lv_icmp_ge (tgt := 34) hx hb dX4_payWay_22 (by decide) (fun c_3 => ?_) (fun c_3 => ?_)
  · refine lv_lload hx hb dX4_payWay_34 (lv_at hl 0 rfl) ?_
    exact wk_rl ((wk_bosunPay (wk_note σ 51) k n).2) hx hb hr hlk hK hI rfl (wk_post (by first | rfl | (simp only [wk_masterPay, wk_masterPay1, if_pos c_3]; done) | (simp only [wk_masterPay, wk_masterPay1, if_pos c_3]; rfl))) dX4_payWay_36
  · refine lv_ldc2 hx hb hown (hts _ (wk_in_M _ mw_325)) dX4_payWay_25 ?_
    refine lv_lload hx hb dX4_payWay_28 (lv_at hl 0 rfl) ?_
    refine lv_lmul hx hb dX4_payWay_30 ?_
    refine lv_goto (tgt := 36) hx hb dX4_payWay_31 (by decide) ?_
    exact wk_rl ((wk_bosunPay (wk_note σ 51) k n).2) hx hb hr hlk hK hI rfl (wk_post (by first | rfl | (simp only [wk_masterPay, wk_masterPay1, if_neg c_3]; done) | (simp only [wk_masterPay, wk_masterPay1, if_neg c_3]; rfl))) dX4_payWay_36
set_option maxHeartbeats 4000000 in
set_option maxRecDepth 100000 in
theorem c_X9_payWay (l : Launch) (D : va_G) (cI cJ cS : ClassId) (ad : Nat → Nat) (σ : wk_St) (r k : Nat) (n : Int32) (hV : wk_V σ) (hr9 : r < 8) (hk : k < wk_n σ) (hc : wk_nt σ + 2 < 2147483648) : wk_Cl l D (wk_tys cI cJ cS) yX9_payWay (wk_M yX9_payWay cX9_payWay 7 (some .long)) ({ frames := 2, cells := 0, slots := 0, locals := 45 }) [.ref (ad (8 + r)), .ref (ad 1), .ref (ad (16 + k)), .int n] (wx_W cI cS ad σ) (wx_W cI cS ad) (fun r0 u0 => r0 = (wk_surgPay σ k n).1 ∧ u0 = (wk_surgPay σ k n).2) := by
  intro sz
  refine Met.ofW (cc := cX9_payWay) (maxL := 7) (ret := (some .long)) (by decide) rfl ?_
  intro p e s m args below meth c s₁ B hml hv
  obtain ⟨rfl, hsz, hP, hK, hD0, hN⟩ := hv
  have hx := B.exec
  have hb := B.bytes
  have hr := B.returns
  have hts := atoms_spec (ws := wk_M yX9_payWay cX9_payWay 7 (some .long)) B.pre
  have hown : s.vm.findClass RX9 = some m.cls := findClass_of_methodNamed B.named
  have hlk := B.notSynchronized
  subst hsz
  have hI : wk_I D (va_A (wx_W cI cS ad σ) s.heap.size) s.heap s.heap [] (wx_W cI cS ad σ) := ⟨hP, hD0.self, va_S.rf⟩
  have hA : ∀ q : Nat, s.heap.size ≤ q → (va_A (wx_W cI cS ad σ) s.heap.size) q := fun q h => Or.inr h
  clear hP hD0
  generalize va_A (wx_W cI cS ad σ) s.heap.size = A at hI hA ⊢
  have hl := lv_entry ([.ref (ad (8 + r)), .ref (ad 1), .ref (ad (16 + k)), .int n]) (n := 7) (Nat.le_of_ble_eq_true rfl)
  rw [lg_entry_eq]
  generalize (lg_sl ([.ref (ad (8 + r)), .ref (ad 1), .ref (ad (16 + k)), .int n]) ++ List.replicate (7 - (lg_sl ([.ref (ad (8 + r)), .ref (ad 1), .ref (ad (16 + k)), .int n])).length) Slot.unset).toArray = ls at hl ⊢
  have hl : lv_has ls 7 [(0, .ref (ad (8 + r))), (1, .ref (ad 1)), (2, .ref (ad (16 + k))), (3, .int n)] := hl
  refine lv_aload_n hx hb dX9_payWay_0 rfl (lv_at hl 1 rfl) ?_
  refine lv_bipush (v := 7) hx hb dX9_payWay_1 (by decide) ?_
  refine lv_iconst (v := 1) hx hb dX9_payWay_3 (by decide) ?_
  refine wk_kV hI hA (va_runV (As := [.int 7, .int 1]) (rest := []) ⟨hx, hb, hml, hown, hts⟩ (c_X2_noteWay l D cI cJ cS ad σ 7 1 71 (by decide) (by omega) _) (wk_cwV 2 hts wk_in_M mw_331 mw_258 mw_259 mw_35 mw_260 hdX2_noteWay ⟨(Nat.le_of_ble_eq_true rfl), (Nat.le_of_ble_eq_true rfl)⟩) (wk_preV hN hK hI (ci := 2) rfl wx_e1) rfl rfl hl.1 rfl (lv_room (Nat.le_of_ble_eq_true rfl)) dX9_payWay_4 ⟨(Nat.le_of_ble_eq_true rfl), (Nat.le_of_ble_eq_true rfl)⟩) (fun u H locs hw hI => ?_)
  obtain rfl := hw
  have hG_1 : wk_G σ (wk_note σ 71) 1 := wk_g_note σ 71
  refine lv_aload_n hx hb dX9_payWay_7 rfl (lv_at hl 0 rfl) ?_
  refine lv_aload_n hx hb dX9_payWay_8 rfl (lv_at hl 1 rfl) ?_
  refine lv_aload_n hx hb dX9_payWay_9 rfl (lv_at hl 2 rfl) ?_
  refine lv_iload_n hx hb dX9_payWay_10 rfl (lv_at hl 3 rfl) ?_
  refine wk_kL hI hA (wk_runP (x := (⟨RX1, "payWay", "(LWatchBill$Crew;LWatchBill$Member;I)J"⟩ : MethodName)) (As := [.ref (ad 1), .ref (ad (16 + k)), .int n]) (rest := []) ⟨hx, hb, hml, hown, hts⟩ (c_X3_payWay l D cI cJ cS ad (wk_note σ 71) r k n (hG_1.V hV) hr9 (hG_1.lt hk) (by have hq := hG_1.nt; omega) _) (wk_cwP 3 hts wk_in_M mw_332 mw_333 mw_144 mw_309 mw_37 mw_310 wk_sub_X1_X3 hN (by decide +kernel) ⟨(Nat.le_of_ble_eq_true rfl), (Nat.le_of_ble_eq_true rfl)⟩) (wk_preR hN hK hI hr9) rfl rfl hl.1 rfl (lv_room (Nat.le_of_ble_eq_true rfl)) dX9_payWay_11 ⟨(Nat.le_of_ble_eq_true rfl), (Nat.le_of_ble_eq_true rfl)⟩) (fun r u H locs hw hI => ?_)
  obtain ⟨rfl, rfl⟩ := hw
  have hG_2 : wk_G σ ((wk_handPay (wk_note σ 71) k n).2) 2 := hG_1.trans (wk_g_handPay (wk_note σ 71) k n)
  refine lv_lstore (lv' := [(4, .long ((wk_handPay (wk_note σ 71) k n).1)), (0, .ref (ad (8 + r))), (1, .ref (ad 1)), (2, .ref (ad (16 + k))), (3, .int n)]) hx hb dX9_payWay_14 hl (by decide) rfl (fun ls hl => ?_)
  refine lv_aload_n hx hb dX9_payWay_16 rfl (lv_at hl 2 rfl) ?_
  refine wk_get (v := va_rf (wx_mp ad (wk_n ((wk_handPay (wk_note σ 71) k n).2)) 0)) hx hb hts (fun w h => wk_in_M w (lay_X2 w h)) hown hK hI (1) wx_e1 rfl 0 (by decide) (hts _ (wk_in_M _ mw_61)) rfl rfl dX9_payWay_17 ?_
  refine wk_astore (lv' := [(6, va_rf (wx_mp ad (wk_n ((wk_handPay (wk_note σ 71) k n).2)) 0)), (4, .long ((wk_handPay (wk_note σ 71) k n).1)), (0, .ref (ad (8 + r))), (1, .ref (ad 1)), (2, .ref (ad (16 + k))), (3, .int n)]) hx hb dX9_payWay_20 hl (by decide) rfl (fun ls hl => ?_)
  refine wk_loop (fun i H locs ls => wk_I D A s.heap H locs (wx_W cI cS ad ((wk_handPay (wk_note σ 71) k n).2)) ∧ lv_has ls 7 [(0, .ref (ad (8 + r))), (1, .ref (ad 1)), (2, .ref (ad (16 + k))), (3, .int n), (4, .long (wk_add7 ((wk_handPay (wk_note σ 71) k n).2) ((wk_handPay (wk_note σ 71) k n).1) i)), (6, va_rf (wx_mp ad (wk_n ((wk_handPay (wk_note σ 71) k n).2)) i))]) (wk_n ((wk_handPay (wk_note σ 71) k n).2)) ?_ ?_ (wk_n ((wk_handPay (wk_note σ 71) k n).2)) 0 _ _ _ (Nat.zero_add _) ⟨hI, lv_sub hl [2, 3, 4, 5, 1, 0] rfl⟩
  · intro H locs ls hinv
    obtain ⟨hI, hl⟩ := hinv
    rw [wx_mpF (Nat.lt_irrefl _)] at hl
    have hl : lv_has ls 7 [(0, .ref (ad (8 + r))), (1, .ref (ad 1)), (2, .ref (ad (16 + k))), (3, .int n), (4, .long (wk_add7 ((wk_handPay (wk_note σ 71) k n).2) ((wk_handPay (wk_note σ 71) k n).1) (wk_n ((wk_handPay (wk_note σ 71) k n).2)))), (6, .null)] := hl
    refine lv_aloadN hx hb dX9_payWay_22 (lv_at hl 5 rfl) ?_
    refine lv_ifnullN (tgt := 56) hx hb dX9_payWay_24 (by decide) ?_
    refine lv_lload hx hb dX9_payWay_56 (lv_at hl 4 rfl) ?_
    exact wk_rl ((wk_handPay (wk_note σ 71) k n).2) hx hb hr hlk hK hI rfl (wk_post (by first | rfl | (simp only [wk_surgPay, wk_surgPay1]; done) | (simp only [wk_surgPay, wk_surgPay1]; rfl))) dX9_payWay_58
  · intro i H locs ls hi hinv ih
    obtain ⟨hI, hl⟩ := hinv
    have hiσ : i < wk_n σ := by have hq := hG_2.n; omega
    rw [wx_mpT hi] at hl
    have hl : lv_has ls 7 [(0, .ref (ad (8 + r))), (1, .ref (ad 1)), (2, .ref (ad (16 + k))), (3, .int n), (4, .long (wk_add7 ((wk_handPay (wk_note σ 71) k n).2) ((wk_handPay (wk_note σ 71) k n).1) i)), (6, .ref (ad (16 + i)))] := hl
    refine lv_aload hx hb dX9_payWay_22 (lv_at hl 5 rfl) ?_
    refine lv_ifnull hx hb dX9_payWay_24 ?_
    refine lv_aload hx hb dX9_payWay_27 (lv_at hl 5 rfl) ?_
    refine wk_get (v := .int (wk_we ((wk_handPay (wk_note σ 71) k n).2) i)) hx hb hts (fun w h => wk_in_M w (lay_X6 w h)) hown hK hI (16 + i) (wx_em (hG_2.lt hiσ)) rfl 4 (by decide) (hts _ (wk_in_M _ mw_197)) rfl rfl dX9_payWay_29 ?_
    refine lv_sipush (v := 500) hx hb dX9_payWay_32 (by decide) ?_
    refine lv_icmp_le (tgt := 46) hx hb dX9_payWay_35 (by decide) (fun c_3 => ?_) (fun c_3 => ?_)
    · refine lv_aload hx hb dX9_payWay_46 (lv_at hl 5 rfl) ?_
      refine wk_get (v := va_rf (wx_mp ad (wk_n ((wk_handPay (wk_note σ 71) k n).2)) (i + 1))) hx hb hts (fun w h => wk_in_M w (lay_X6 w h)) hown hK hI (16 + i) (wx_em (hG_2.lt hiσ)) rfl 6 (by decide) (hts _ (wk_in_M _ mw_202)) rfl rfl dX9_payWay_48 ?_
      refine wk_astore (lv' := [(6, va_rf (wx_mp ad (wk_n ((wk_handPay (wk_note σ 71) k n).2)) (i + 1))), (0, .ref (ad (8 + r))), (1, .ref (ad 1)), (2, .ref (ad (16 + k))), (3, .int n), (4, .long (wk_add7 ((wk_handPay (wk_note σ 71) k n).2) ((wk_handPay (wk_note σ 71) k n).1) i))]) hx hb dX9_payWay_51 hl (by decide) rfl (fun ls hl => ?_)
      refine lv_goto (tgt := 22) hx hb dX9_payWay_53 (by decide) ?_
      have e1 : wk_add7 ((wk_handPay (wk_note σ 71) k n).2) ((wk_handPay (wk_note σ 71) k n).1) (i + 1) = wk_add7 ((wk_handPay (wk_note σ 71) k n).2) ((wk_handPay (wk_note σ 71) k n).1) i := by simp only [wk_add7, if_pos c_3]
      rw [← e1] at hl
      exact ih _ _ _ ⟨hI, lv_sub hl [1, 2, 3, 4, 5, 0] rfl⟩
    · refine lv_lload hx hb dX9_payWay_38 (lv_at hl 4 rfl) ?_
      refine lv_ldc2 hx hb hown (hts _ (wk_in_M _ mw_334)) dX9_payWay_40 ?_
      refine lv_ladd hx hb dX9_payWay_43 ?_
      refine lv_lstore (lv' := [(4, .long ((wk_add7 ((wk_handPay (wk_note σ 71) k n).2) ((wk_handPay (wk_note σ 71) k n).1) i) + 7)), (0, .ref (ad (8 + r))), (1, .ref (ad 1)), (2, .ref (ad (16 + k))), (3, .int n), (6, .ref (ad (16 + i)))]) hx hb dX9_payWay_44 hl (by decide) rfl (fun ls hl => ?_)
      refine lv_aload hx hb dX9_payWay_46 (lv_at hl 5 rfl) ?_
      refine wk_get (v := va_rf (wx_mp ad (wk_n ((wk_handPay (wk_note σ 71) k n).2)) (i + 1))) hx hb hts (fun w h => wk_in_M w (lay_X6 w h)) hown hK hI (16 + i) (wx_em (hG_2.lt hiσ)) rfl 6 (by decide) (hts _ (wk_in_M _ mw_202)) rfl rfl dX9_payWay_48 ?_
      refine wk_astore (lv' := [(6, va_rf (wx_mp ad (wk_n ((wk_handPay (wk_note σ 71) k n).2)) (i + 1))), (4, .long ((wk_add7 ((wk_handPay (wk_note σ 71) k n).2) ((wk_handPay (wk_note σ 71) k n).1) i) + 7)), (0, .ref (ad (8 + r))), (1, .ref (ad 1)), (2, .ref (ad (16 + k))), (3, .int n)]) hx hb dX9_payWay_51 hl (by decide) rfl (fun ls hl => ?_)
      refine lv_goto (tgt := 22) hx hb dX9_payWay_53 (by decide) ?_
      have e1 : wk_add7 ((wk_handPay (wk_note σ 71) k n).2) ((wk_handPay (wk_note σ 71) k n).1) (i + 1) = (wk_add7 ((wk_handPay (wk_note σ 71) k n).2) ((wk_handPay (wk_note σ 71) k n).1) i) + 7 := by simp only [wk_add7, if_neg c_3]
      rw [← e1] at hl
      exact ih _ _ _ ⟨hI, lv_sub hl [2, 3, 4, 5, 1, 0] rfl⟩
set_option maxHeartbeats 4000000 in
set_option maxRecDepth 100000 in
theorem wd_X0_heedWay {p : Program} {l : Launch} {e : Env} {R : Room} {s : State} {m : MethodId} {args : Array Value} {below : List Frame} {meth : Method} {c : Code} {H : Heap} {locs : List Loc} {cells slots : Nat} {Ts : List Cond} {cc : ByteArray} {nL pc : Nat} {ls : Array Slot} {rest : List Value} {A : Nat → Prop} {H0 : Heap} {D : va_G} {cI cJ cS : ClassId} {ad : Nat → Nat} {σ : wk_St} (r k : Nat) (n : Int32) (S : CallFix p m c cc nL s args Ts RX0) (hb : ∀ w ∈ wk_T, w ∈ Ts) (hN : wk_N s) (hK : va_K D vwCl (wk_tys cI cJ cS) s) (hI : wk_I D A H0 H locs (wx_W cI cS ad σ)) (hV : wk_V σ) (hr9 : r < 8) (hlo : r ≤ 2) (hk : k < wk_n σ) (hc : wk_nt σ + 2 < 2147483648) (hR : 3 ≤ R.frames ∧ 68 ≤ R.locals) (hsize : ls.size = nL) (hW : 2 * (F0 m pc ls (.int n :: .ref (ad (16 + k)) :: .ref (ad 1) :: .ref (ad (8 + r)) :: rest)).monitorRoom + (rest.map fun v => v.category).sum ≤ 8) (hdg : decode cc pc = .ok (.invokevirtual 42, 3)) (hf : cells + 0 ≤ R.cells ∧ slots + 0 ≤ R.slots) : va_Run p l e R s m args below meth c H locs cells slots 0 0 (F0 m pc ls (.int n :: .ref (ad (16 + k)) :: .ref (ad 1) :: .ref (ad (8 + r)) :: rest)) rest (va_Qi (fun v u => v = (wk_loHeed r σ k n).1 ∧ u = (wk_loHeed r σ k n).2) (wk_B D (wk_tys cI cJ cS) (va_A (wx_W cI cS ad σ) H.size) (wx_W cI cS ad)) (va_A (wx_W cI cS ad σ) H.size) (Value.ref (ad (8 + r)) :: [.ref (ad 1), .ref (ad (16 + k)), .int n]).toArray) (va_A (wx_W cI cS ad σ) H.size) := by
  rcases (show r = 0 ∨ r = 1 ∨ r = 2 by omega) with rfl | rfl | rfl
  · exact va_runU (owner := RX8) (x := yX8_heedWay) (As := [.ref (ad 1), .ref (ad (16 + k)), .int n]) (rest := rest) S (c_X8_heedWay l D cI cJ cS ad σ 0 k n hV hr9 hk (by omega) _) (wk_cwU 3 S.2.2.2.2 hb mw_384 mw_374 mw_395 mw_373 mw_36 mw_401 (va_Decl.of (x := yX8_heedWay) (S.2.2.2.2 _ (hb _ mw_373)) (S.2.2.2.2 _ (hb _ mw_401))) (by decide +kernel) ⟨Nat.le_trans (Nat.le_of_ble_eq_true rfl) hR.1, Nat.le_trans (Nat.le_of_ble_eq_true rfl) hR.2⟩) (wk_preV hN hK hI (ci := 3) rfl (wx_er hr9)) rfl rfl hsize rfl hW hdg hf
  · exact va_runU (owner := RX8) (x := yX8_heedWay) (As := [.ref (ad 1), .ref (ad (16 + k)), .int n]) (rest := rest) S (c_X8_heedWay l D cI cJ cS ad σ 1 k n hV hr9 hk (by omega) _) (wk_cwU 3 S.2.2.2.2 hb mw_384 mw_374 mw_398 mw_373 mw_36 mw_401 (va_Decl.of (x := yX8_heedWay) (S.2.2.2.2 _ (hb _ mw_373)) (S.2.2.2.2 _ (hb _ mw_401))) (by decide +kernel) ⟨Nat.le_trans (Nat.le_of_ble_eq_true rfl) hR.1, Nat.le_trans (Nat.le_of_ble_eq_true rfl) hR.2⟩) (wk_preV hN hK hI (ci := 7) rfl (wx_er hr9)) rfl rfl hsize rfl hW hdg hf
  · exact va_runU (owner := RX8) (x := yX8_heedWay) (As := [.ref (ad 1), .ref (ad (16 + k)), .int n]) (rest := rest) S (c_X10_heedWay l D cI cJ cS ad σ 2 k n hV hr9 hk (by omega) _) (wk_cwU 3 S.2.2.2.2 hb mw_384 mw_374 mw_400 mw_379 mw_39 mw_380 (va_Decl.of (x := yX8_heedWay) (S.2.2.2.2 _ (hb _ mw_373)) (S.2.2.2.2 _ (hb _ mw_401))) (by decide +kernel) ⟨Nat.le_trans (Nat.le_of_ble_eq_true rfl) hR.1, Nat.le_trans (Nat.le_of_ble_eq_true rfl) hR.2⟩) (wk_preV hN hK hI (ci := 9) rfl (wx_er hr9)) rfl rfl hsize rfl hW hdg hf
set_option maxHeartbeats 4000000 in
set_option maxRecDepth 100000 in
theorem c_X0_heedWay (l : Launch) (D : va_G) (cI cJ cS : ClassId) (ad : Nat → Nat) (σ : wk_St) (r k : Nat) (n : Int32) (hV : wk_V σ) (hr9 : r < 8) (hk : k < wk_n σ) (hc : wk_nt σ + 27 < 2147483648) : wk_Ci l D (wk_tys cI cJ cS) yX0_heedWay (wk_M yX0_heedWay cX0_heedWay 6 (some .int)) ({ frames := 3, cells := 0, slots := 0, locals := 68 }) [.ref (ad (8 + r)), .ref (ad 1), .ref (ad (16 + k)), .int n] (wx_W cI cS ad σ) (wx_W cI cS ad) (fun r0 u0 => r0 = (wk_bosunHeed σ k n).1 ∧ u0 = (wk_bosunHeed σ k n).2) := by
  intro sz
  refine Met.ofW (cc := cX0_heedWay) (maxL := 6) (ret := (some .int)) (by decide) rfl ?_
  intro p e s m args below meth c s₁ B hml hv
  obtain ⟨rfl, hsz, hP, hK, hD0, hN⟩ := hv
  have hx := B.exec
  have hb := B.bytes
  have hr := B.returns
  have hts := atoms_spec (ws := wk_M yX0_heedWay cX0_heedWay 6 (some .int)) B.pre
  have hown : s.vm.findClass RX0 = some m.cls := findClass_of_methodNamed B.named
  have hlk := B.notSynchronized
  subst hsz
  have hI : wk_I D (va_A (wx_W cI cS ad σ) s.heap.size) s.heap s.heap [] (wx_W cI cS ad σ) := ⟨hP, hD0.self, va_S.rf⟩
  have hA : ∀ q : Nat, s.heap.size ≤ q → (va_A (wx_W cI cS ad σ) s.heap.size) q := fun q h => Or.inr h
  clear hP hD0
  generalize va_A (wx_W cI cS ad σ) s.heap.size = A at hI hA ⊢
  have hl := lv_entry ([.ref (ad (8 + r)), .ref (ad 1), .ref (ad (16 + k)), .int n]) (n := 6) (Nat.le_of_ble_eq_true rfl)
  rw [lg_entry_eq]
  generalize (lg_sl ([.ref (ad (8 + r)), .ref (ad 1), .ref (ad (16 + k)), .int n]) ++ List.replicate (6 - (lg_sl ([.ref (ad (8 + r)), .ref (ad 1), .ref (ad (16 + k)), .int n])).length) Slot.unset).toArray = ls at hl ⊢
  have hl : lv_has ls 6 [(0, .ref (ad (8 + r))), (1, .ref (ad 1)), (2, .ref (ad (16 + k))), (3, .int n)] := hl
  refine lv_aload_n hx hb dX0_heedWay_0 rfl (lv_at hl 1 rfl) ?_
  refine lv_iconst (v := 3) hx hb dX0_heedWay_1 (by decide) ?_
  refine lv_iconst (v := 3) hx hb dX0_heedWay_2 (by decide) ?_
  refine wk_kV hI hA (va_runV (As := [.int 3, .int 3]) (rest := []) ⟨hx, hb, hml, hown, hts⟩ (c_X2_noteWay l D cI cJ cS ad σ 3 3 33 (by decide) (by have hq12 := hV.1; omega) _) (wk_cwV 2 hts wk_in_M mw_305 mw_258 mw_259 mw_35 mw_260 hdX2_noteWay ⟨(Nat.le_of_ble_eq_true rfl), (Nat.le_of_ble_eq_true rfl)⟩) (wk_preV hN hK hI (ci := 2) rfl wx_e1) rfl rfl hl.1 rfl (lv_room (Nat.le_of_ble_eq_true rfl)) dX0_heedWay_3 ⟨(Nat.le_of_ble_eq_true rfl), (Nat.le_of_ble_eq_true rfl)⟩) (fun u H locs hw hI => ?_)
  obtain rfl := hw
  have hG_1 : wk_G σ (wk_note σ 33) 1 := wk_g_note σ 33
  refine lv_aload_n hx hb dX0_heedWay_6 rfl (lv_at hl 0 rfl) ?_
  refine lv_aload_n hx hb dX0_heedWay_7 rfl (lv_at hl 1 rfl) ?_
  refine lv_aload_n hx hb dX0_heedWay_8 rfl (lv_at hl 2 rfl) ?_
  refine lv_iload_n hx hb dX0_heedWay_9 rfl (lv_at hl 3 rfl) ?_
  refine wk_kI hI hA (wk_runP (x := yX10_heedWay) (As := [.ref (ad 1), .ref (ad (16 + k)), .int n]) (rest := []) ⟨hx, hb, hml, hown, hts⟩ (c_X10_heedWay l D cI cJ cS ad (wk_note σ 33) r k n (hG_1.V hV) hr9 (hG_1.lt hk) (by have hq := hG_1.nt; have hq12 := hV.1; omega) _) (wk_cwP 3 hts wk_in_M mw_378 mw_744 mw_116 mw_379 mw_39 mw_380 wk_sub_X10_X10 hN (by decide +kernel) ⟨(Nat.le_of_ble_eq_true rfl), (Nat.le_of_ble_eq_true rfl)⟩) (wk_preR hN hK hI hr9) rfl rfl hl.1 rfl (lv_room (Nat.le_of_ble_eq_true rfl)) dX0_heedWay_10 ⟨(Nat.le_of_ble_eq_true rfl), (Nat.le_of_ble_eq_true rfl)⟩) (fun r u H locs hw hI => ?_)
  obtain ⟨rfl, rfl⟩ := hw
  have hG_2 : wk_G σ ((wk_topHeed (wk_note σ 33) k n).2) 3 := hG_1.trans (wk_g_topHeed (wk_note σ 33) k n)
  refine lv_istore (lv' := [(4, .int ((wk_topHeed (wk_note σ 33) k n).1)), (0, .ref (ad (8 + r))), (1, .ref (ad 1)), (2, .ref (ad (16 + k))), (3, .int n)]) hx hb dX0_heedWay_13 hl (by decide) rfl (fun ls hl => ?_)
  refine lv_aload_n hx hb dX0_heedWay_15 rfl (lv_at hl 2 rfl) ?_
  refine wk_get (v := va_rf (wx_mp ad (wk_n ((wk_topHeed (wk_note σ 33) k n).2)) 0)) hx hb hts (fun w h => wk_in_M w (lay_X2 w h)) hown hK hI (1) wx_e1 rfl 0 (by decide) (hts _ (wk_in_M _ mw_62)) rfl rfl dX0_heedWay_16 ?_
  refine wk_astore (lv' := [(5, va_rf (wx_mp ad (wk_n ((wk_topHeed (wk_note σ 33) k n).2)) 0)), (4, .int ((wk_topHeed (wk_note σ 33) k n).1)), (0, .ref (ad (8 + r))), (1, .ref (ad 1)), (2, .ref (ad (16 + k))), (3, .int n)]) hx hb dX0_heedWay_19 hl (by decide) rfl (fun ls hl => ?_)
  refine wk_loop (fun i H locs ls => wk_I D A s.heap H locs (wx_W cI cS ad ((wk_heedL n (wk_topHeed (wk_note σ 33) k n) i).2)) ∧ lv_has ls 6 [(0, .ref (ad (8 + r))), (1, .ref (ad 1)), (2, .ref (ad (16 + k))), (3, .int n), (4, .int ((wk_heedL n (wk_topHeed (wk_note σ 33) k n) i).1)), (5, va_rf (wx_mp ad (wk_n ((wk_topHeed (wk_note σ 33) k n).2)) i))]) (wk_n ((wk_topHeed (wk_note σ 33) k n).2)) ?_ ?_ (wk_n ((wk_topHeed (wk_note σ 33) k n).2)) 0 _ _ _ (Nat.zero_add _) ⟨hI, lv_sub hl [2, 3, 4, 5, 1, 0] rfl⟩
  · intro H locs ls hinv
    obtain ⟨hI, hl⟩ := hinv
    rw [wx_mpF (Nat.lt_irrefl _)] at hl
    have hl : lv_has ls 6 [(0, .ref (ad (8 + r))), (1, .ref (ad 1)), (2, .ref (ad (16 + k))), (3, .int n), (4, .int ((wk_heedL n (wk_topHeed (wk_note σ 33) k n) (wk_n ((wk_topHeed (wk_note σ 33) k n).2))).1)), (5, .null)] := hl
    have hG_3 : wk_G σ ((wk_heedL n (wk_topHeed (wk_note σ 33) k n) (wk_n ((wk_topHeed (wk_note σ 33) k n).2))).2) (3 + (2 * (wk_n ((wk_topHeed (wk_note σ 33) k n).2)))) := hG_2.trans (wk_g_heedL n (wk_topHeed (wk_note σ 33) k n) (wk_n ((wk_topHeed (wk_note σ 33) k n).2)))
    refine lv_aloadN hx hb dX0_heedWay_21 (lv_at hl 5 rfl) ?_
    refine lv_ifnullN (tgt := 61) hx hb dX0_heedWay_23 (by decide) ?_
    refine lv_iload hx hb dX0_heedWay_61 (lv_at hl 4 rfl) ?_
    exact wk_ri ((wk_heedL n (wk_topHeed (wk_note σ 33) k n) (wk_n ((wk_topHeed (wk_note σ 33) k n).2))).2) hx hb hr hlk hK hI rfl (wk_post (by rw [hG_2.n]; rfl)) dX0_heedWay_63
  · intro i H locs ls hi hinv ih
    obtain ⟨hI, hl⟩ := hinv
    have hiσ : i < wk_n σ := by have hq := hG_2.n; omega
    rw [wx_mpT hi] at hl
    have hl : lv_has ls 6 [(0, .ref (ad (8 + r))), (1, .ref (ad 1)), (2, .ref (ad (16 + k))), (3, .int n), (4, .int ((wk_heedL n (wk_topHeed (wk_note σ 33) k n) i).1)), (5, .ref (ad (16 + i)))] := hl
    have hG_4 : wk_G σ ((wk_heedL n (wk_topHeed (wk_note σ 33) k n) i).2) (3 + (2 * i)) := hG_2.trans (wk_g_heedL n (wk_topHeed (wk_note σ 33) k n) i)
    refine lv_aload hx hb dX0_heedWay_21 (lv_at hl 5 rfl) ?_
    refine lv_ifnull hx hb dX0_heedWay_23 ?_
    refine lv_aload hx hb dX0_heedWay_26 (lv_at hl 5 rfl) ?_
    refine wk_kI hI hA (va_runV (As := []) (rest := []) ⟨hx, hb, hml, hown, hts⟩ (c_X6_isBelowBosun l D cI cJ cS ad ((wk_heedL n (wk_topHeed (wk_note σ 33) k n) i).2) i (hG_4.V hV) (hG_4.lt hiσ) _) (wk_cwV 0 hts wk_in_M mw_313 mw_314 mw_315 mw_46 mw_316 hdX6_isBelowBosun ⟨(Nat.le_of_ble_eq_true rfl), (Nat.le_of_ble_eq_true rfl)⟩) (wk_preV hN hK hI (ci := 6) rfl (wx_em (hG_4.lt hiσ))) rfl rfl hl.1 rfl (lv_room (Nat.le_of_ble_eq_true rfl)) dX0_heedWay_28 ⟨(Nat.le_of_ble_eq_true rfl), (Nat.le_of_ble_eq_true rfl)⟩) (fun r u H locs hw hI => ?_)
    obtain ⟨rfl, rfl⟩ := hw
    refine lv_if_eq (tgt := 51) hx hb dX0_heedWay_31 (by decide) (fun c_5 => ?_) (fun c_5 => ?_)
    · have c_5 := wk_b0 c_5
      refine lv_aload hx hb dX0_heedWay_51 (lv_at hl 5 rfl) ?_
      refine wk_get (v := va_rf (wx_mp ad (wk_n ((wk_heedL n (wk_topHeed (wk_note σ 33) k n) i).2)) (i + 1))) hx hb hts (fun w h => wk_in_M w (lay_X6 w h)) hown hK hI (16 + i) (wx_em (hG_4.lt hiσ)) rfl 6 (by decide) (hts _ (wk_in_M _ mw_203)) rfl rfl dX0_heedWay_53 ?_
      rw [show wk_n ((wk_heedL n (wk_topHeed (wk_note σ 33) k n) i).2) = wk_n ((wk_topHeed (wk_note σ 33) k n).2) from hG_4.n.trans hG_2.n.symm]
      refine wk_astore (lv' := [(5, va_rf (wx_mp ad (wk_n ((wk_topHeed (wk_note σ 33) k n).2)) (i + 1))), (0, .ref (ad (8 + r))), (1, .ref (ad 1)), (2, .ref (ad (16 + k))), (3, .int n), (4, .int ((wk_heedL n (wk_topHeed (wk_note σ 33) k n) i).1))]) hx hb dX0_heedWay_56 hl (by decide) rfl (fun ls hl => ?_)
      refine lv_goto (tgt := 21) hx hb dX0_heedWay_58 (by decide) ?_
      have e1 : wk_heedL n (wk_topHeed (wk_note σ 33) k n) (i + 1) = ((wk_heedL n (wk_topHeed (wk_note σ 33) k n) i).1, (wk_heedL n (wk_topHeed (wk_note σ 33) k n) i).2) := by rw [wk_heedL]; rw [if_neg c_5]
      exact ih _ _ _ (by rw [e1]; exact ⟨hI, lv_sub hl [1, 2, 3, 4, 5, 0] rfl⟩)
    · have c_5 := wk_b1 c_5
      refine lv_iload hx hb dX0_heedWay_34 (lv_at hl 4 rfl) ?_
      refine lv_aload hx hb dX0_heedWay_36 (lv_at hl 5 rfl) ?_
      refine wk_get (v := .ref (ad (8 + wk_rk ((wk_heedL n (wk_topHeed (wk_note σ 33) k n) i).2) i))) hx hb hts (fun w h => wk_in_M w (lay_X6 w h)) hown hK hI (16 + i) (wx_em (hG_4.lt hiσ)) rfl 3 (by decide) (hts _ (wk_in_M _ mw_192)) rfl rfl dX0_heedWay_38 ?_
      refine lv_aload_n hx hb dX0_heedWay_41 rfl (lv_at hl 1 rfl) ?_
      refine lv_aload hx hb dX0_heedWay_42 (lv_at hl 5 rfl) ?_
      refine lv_iload_n hx hb dX0_heedWay_44 rfl (lv_at hl 3 rfl) ?_
      refine wk_kI hI hA (wd_X0_heedWay (wk_rk ((wk_heedL n (wk_topHeed (wk_note σ 33) k n) i).2) i) i n (rest := [.int ((wk_heedL n (wk_topHeed (wk_note σ 33) k n) i).1)]) ⟨hx, hb, hml, hown, hts⟩ wk_in_M hN hK hI (hG_4.V hV) ((hG_4.V hV).rk (hG_4.lt hiσ)) c_5 (hG_4.lt hiσ) (by have hq := hG_4.nt; have hq12 := hV.1; omega) ⟨(Nat.le_of_ble_eq_true rfl), (Nat.le_of_ble_eq_true rfl)⟩ hl.1 (lv_room (Nat.le_of_ble_eq_true rfl)) dX0_heedWay_45 ⟨(Nat.le_of_ble_eq_true rfl), (Nat.le_of_ble_eq_true rfl)⟩) (fun r u H locs hw hI => ?_)
      obtain ⟨rfl, rfl⟩ := hw
      have hG_6 : wk_G σ ((wk_loHeed (wk_rk ((wk_heedL n (wk_topHeed (wk_note σ 33) k n) i).2) i) ((wk_heedL n (wk_topHeed (wk_note σ 33) k n) i).2) i n).2) ((3 + (2 * i)) + 2) := hG_4.trans (wk_g_loHeed (wk_rk ((wk_heedL n (wk_topHeed (wk_note σ 33) k n) i).2) i) ((wk_heedL n (wk_topHeed (wk_note σ 33) k n) i).2) i n)
      refine lv_iadd hx hb dX0_heedWay_48 ?_
      refine lv_istore (lv' := [(4, .int (((wk_heedL n (wk_topHeed (wk_note σ 33) k n) i).1) + ((wk_loHeed (wk_rk ((wk_heedL n (wk_topHeed (wk_note σ 33) k n) i).2) i) ((wk_heedL n (wk_topHeed (wk_note σ 33) k n) i).2) i n).1))), (0, .ref (ad (8 + r))), (1, .ref (ad 1)), (2, .ref (ad (16 + k))), (3, .int n), (5, .ref (ad (16 + i)))]) hx hb dX0_heedWay_49 hl (by decide) rfl (fun ls hl => ?_)
      refine lv_aload hx hb dX0_heedWay_51 (lv_at hl 5 rfl) ?_
      refine wk_get (v := va_rf (wx_mp ad (wk_n ((wk_loHeed (wk_rk ((wk_heedL n (wk_topHeed (wk_note σ 33) k n) i).2) i) ((wk_heedL n (wk_topHeed (wk_note σ 33) k n) i).2) i n).2)) (i + 1))) hx hb hts (fun w h => wk_in_M w (lay_X6 w h)) hown hK hI (16 + i) (wx_em (hG_6.lt hiσ)) rfl 6 (by decide) (hts _ (wk_in_M _ mw_203)) rfl rfl dX0_heedWay_53 ?_
      rw [show wk_n ((wk_loHeed (wk_rk ((wk_heedL n (wk_topHeed (wk_note σ 33) k n) i).2) i) ((wk_heedL n (wk_topHeed (wk_note σ 33) k n) i).2) i n).2) = wk_n ((wk_topHeed (wk_note σ 33) k n).2) from hG_6.n.trans hG_2.n.symm]
      refine wk_astore (lv' := [(5, va_rf (wx_mp ad (wk_n ((wk_topHeed (wk_note σ 33) k n).2)) (i + 1))), (4, .int (((wk_heedL n (wk_topHeed (wk_note σ 33) k n) i).1) + ((wk_loHeed (wk_rk ((wk_heedL n (wk_topHeed (wk_note σ 33) k n) i).2) i) ((wk_heedL n (wk_topHeed (wk_note σ 33) k n) i).2) i n).1))), (0, .ref (ad (8 + r))), (1, .ref (ad 1)), (2, .ref (ad (16 + k))), (3, .int n)]) hx hb dX0_heedWay_56 hl (by decide) rfl (fun ls hl => ?_)
      refine lv_goto (tgt := 21) hx hb dX0_heedWay_58 (by decide) ?_
      have e1 : wk_heedL n (wk_topHeed (wk_note σ 33) k n) (i + 1) = (((wk_heedL n (wk_topHeed (wk_note σ 33) k n) i).1) + ((wk_loHeed (wk_rk ((wk_heedL n (wk_topHeed (wk_note σ 33) k n) i).2) i) ((wk_heedL n (wk_topHeed (wk_note σ 33) k n) i).2) i n).1), (wk_loHeed (wk_rk ((wk_heedL n (wk_topHeed (wk_note σ 33) k n) i).2) i) ((wk_heedL n (wk_topHeed (wk_note σ 33) k n) i).2) i n).2) := by rw [wk_heedL]; rw [if_pos c_5]
      exact ih _ _ _ (by rw [e1]; exact ⟨hI, lv_sub hl [2, 3, 4, 5, 1, 0] rfl⟩)
set_option maxHeartbeats 4000000 in
set_option maxRecDepth 100000 in
theorem c_X4_heedWay (l : Launch) (D : va_G) (cI cJ cS : ClassId) (ad : Nat → Nat) (σ : wk_St) (r k : Nat) (n : Int32) (hV : wk_V σ) (hr9 : r < 8) (hk : k < wk_n σ) (hc : wk_nt σ + 28 < 2147483648) : wk_Ci l D (wk_tys cI cJ cS) yX4_heedWay (wk_M yX4_heedWay cX4_heedWay 4 (some .int)) ({ frames := 4, cells := 0, slots := 0, locals := 93 }) [.ref (ad (8 + r)), .ref (ad 1), .ref (ad (16 + k)), .int n] (wx_W cI cS ad σ) (wx_W cI cS ad) (fun r0 u0 => r0 = (wk_masterHeed σ k n).1 ∧ u0 = (wk_masterHeed σ k n).2) := by
  intro sz
  refine Met.ofW (cc := cX4_heedWay) (maxL := 4) (ret := (some .int)) (by decide) rfl ?_
  intro p e s m args below meth c s₁ B hml hv
  obtain ⟨rfl, hsz, hP, hK, hD0, hN⟩ := hv
  have hx := B.exec
  have hb := B.bytes
  have hr := B.returns
  have hts := atoms_spec (ws := wk_M yX4_heedWay cX4_heedWay 4 (some .int)) B.pre
  have hown : s.vm.findClass RX4 = some m.cls := findClass_of_methodNamed B.named
  have hlk := B.notSynchronized
  subst hsz
  have hI : wk_I D (va_A (wx_W cI cS ad σ) s.heap.size) s.heap s.heap [] (wx_W cI cS ad σ) := ⟨hP, hD0.self, va_S.rf⟩
  have hA : ∀ q : Nat, s.heap.size ≤ q → (va_A (wx_W cI cS ad σ) s.heap.size) q := fun q h => Or.inr h
  clear hP hD0
  generalize va_A (wx_W cI cS ad σ) s.heap.size = A at hI hA ⊢
  have hl := lv_entry ([.ref (ad (8 + r)), .ref (ad 1), .ref (ad (16 + k)), .int n]) (n := 4) (Nat.le_of_ble_eq_true rfl)
  rw [lg_entry_eq]
  generalize (lg_sl ([.ref (ad (8 + r)), .ref (ad 1), .ref (ad (16 + k)), .int n]) ++ List.replicate (4 - (lg_sl ([.ref (ad (8 + r)), .ref (ad 1), .ref (ad (16 + k)), .int n])).length) Slot.unset).toArray = ls at hl ⊢
  have hl : lv_has ls 4 [(0, .ref (ad (8 + r))), (1, .ref (ad 1)), (2, .ref (ad (16 + k))), (3, .int n)] := hl
  refine lv_aload_n hx hb dX4_heedWay_0 rfl (lv_at hl 1 rfl) ?_
  refine lv_iconst (v := 5) hx hb dX4_heedWay_1 (by decide) ?_
  refine lv_iconst (v := 3) hx hb dX4_heedWay_2 (by decide) ?_
  refine wk_kV hI hA (va_runV (As := [.int 5, .int 3]) (rest := []) ⟨hx, hb, hml, hown, hts⟩ (c_X2_noteWay l D cI cJ cS ad σ 5 3 53 (by decide) (by have hq12 := hV.1; omega) _) (wk_cwV 2 hts wk_in_M mw_279 mw_258 mw_259 mw_35 mw_260 hdX2_noteWay ⟨(Nat.le_of_ble_eq_true rfl), (Nat.le_of_ble_eq_true rfl)⟩) (wk_preV hN hK hI (ci := 2) rfl wx_e1) rfl rfl hl.1 rfl (lv_room (Nat.le_of_ble_eq_true rfl)) dX4_heedWay_3 ⟨(Nat.le_of_ble_eq_true rfl), (Nat.le_of_ble_eq_true rfl)⟩) (fun u H locs hw hI => ?_)
  obtain rfl := hw
  have hG_1 : wk_G σ (wk_note σ 53) 1 := wk_g_note σ 53
  refine lv_aload_n hx hb dX4_heedWay_6 rfl (lv_at hl 2 rfl) ?_
  refine wk_get (v := .int (wk_we (wk_note σ 53) k)) hx hb hts (fun w h => wk_in_M w (lay_X6 w h)) hown hK hI (16 + k) (wx_em (hG_1.lt hk)) rfl 4 (by decide) (hts _ (wk_in_M _ mw_198)) rfl rfl dX4_heedWay_7 ?_
  refine lv_sipush (v := 700) hx hb dX4_heedWay_10 (by decide) ?_
  refine lv_icmp_lt (tgt := 19) hx hb dX4_heedWay_13 (by decide) (fun c_2 => ?_) (fun c_2 => ?_)
  · refine lv_aload_n hx hb dX4_heedWay_19 rfl (lv_at hl 0 rfl) ?_
    refine lv_aload_n hx hb dX4_heedWay_20 rfl (lv_at hl 1 rfl) ?_
    refine lv_aload_n hx hb dX4_heedWay_21 rfl (lv_at hl 2 rfl) ?_
    refine lv_iload_n hx hb dX4_heedWay_22 rfl (lv_at hl 3 rfl) ?_
    refine lv_iconst (v := 1) hx hb dX4_heedWay_23 (by decide) ?_
    refine lv_iadd hx hb dX4_heedWay_24 ?_
    refine wk_kI hI hA (wk_runP (x := (⟨RX5, "heedWay", "(LWatchBill$Crew;LWatchBill$Member;I)I"⟩ : MethodName)) (As := [.ref (ad 1), .ref (ad (16 + k)), .int (n + 1)]) (rest := []) ⟨hx, hb, hml, hown, hts⟩ (c_X0_heedWay l D cI cJ cS ad (wk_note σ 53) r k (n + 1) (hG_1.V hV) hr9 (hG_1.lt hk) (by have hq := hG_1.nt; have hq12 := hV.1; omega) _) (wk_cwP 3 hts wk_in_M mw_391 mw_392 mw_130 mw_376 mw_40 mw_377 wk_sub_X5_X0 hN (by decide +kernel) ⟨(Nat.le_of_ble_eq_true rfl), (Nat.le_of_ble_eq_true rfl)⟩) (wk_preR hN hK hI hr9) rfl rfl hl.1 rfl (lv_room (Nat.le_of_ble_eq_true rfl)) dX4_heedWay_25 ⟨(Nat.le_of_ble_eq_true rfl), (Nat.le_of_ble_eq_true rfl)⟩) (fun r u H locs hw hI => ?_)
    obtain ⟨rfl, rfl⟩ := hw
    have hG_3 : wk_G σ ((wk_bosunHeed (wk_note σ 53) k (n + 1)).2) 28 := hG_1.trans (wk_g_bosunHeed (wk_note σ 53) k (n + 1) (hG_1.V hV).1)
    exact wk_ri ((wk_bosunHeed (wk_note σ 53) k (n + 1)).2) hx hb hr hlk hK hI rfl (wk_post (by first | rfl | (simp only [wk_masterHeed, wk_masterHeed1, if_pos c_2]; done) | (simp only [wk_masterHeed, wk_masterHeed1, if_pos c_2]; rfl))) dX4_heedWay_28
  · refine lv_bipush (v := (-5)) hx hb dX4_heedWay_16 (by decide) ?_
    exact wk_ri (wk_note σ 53) hx hb hr hlk hK hI rfl (wk_post (by first | rfl | (simp only [wk_masterHeed, wk_masterHeed1, if_neg c_2]; done) | (simp only [wk_masterHeed, wk_masterHeed1, if_neg c_2]; rfl))) dX4_heedWay_18
end
section
set_option maxHeartbeats 4000000 in
set_option maxRecDepth 100000 in
theorem c_X2_member (l : Launch) (D : va_G) (cI cJ cS : ClassId) (ad : Nat → Nat) (σ : wk_St) (k9 : Int32) (hV : wk_V σ) : wk_Cq l D (wk_tys cI cJ cS) yX2_member (wk_M yX2_member cX2_member 3 (some (.object RX6))) ({ frames := 0, cells := 0, slots := 0, locals := 0 }) [.ref (ad 1), .int k9] (wx_W cI cS ad σ) (wx_W cI cS ad) (fun r u => r = wx_find ad σ k9 ∧ u = σ) := by
  intro sz
  refine Met.ofW (cc := cX2_member) (maxL := 3) (ret := (some (.object RX6))) (by decide) rfl ?_
  intro p e s m args below meth c s₁ B hml hv
  obtain ⟨rfl, hsz, hP, hK, hD0, hN⟩ := hv
  have hx := B.exec
  have hb := B.bytes
  have hr := B.returns
  have hts := atoms_spec (ws := wk_M yX2_member cX2_member 3 (some (.object RX6))) B.pre
  have hown : s.vm.findClass RX2 = some m.cls := findClass_of_methodNamed B.named
  have hlk := B.notSynchronized
  subst hsz
  have hI : wk_I D (va_A (wx_W cI cS ad σ) s.heap.size) s.heap s.heap [] (wx_W cI cS ad σ) := ⟨hP, hD0.self, va_S.rf⟩
  have hA : ∀ q : Nat, s.heap.size ≤ q → (va_A (wx_W cI cS ad σ) s.heap.size) q := fun q h => Or.inr h
  clear hP hD0
  generalize va_A (wx_W cI cS ad σ) s.heap.size = A at hI hA ⊢
  have hl := lv_entry ([.ref (ad 1), .int k9]) (n := 3) (Nat.le_of_ble_eq_true rfl)
  rw [lg_entry_eq]
  generalize (lg_sl ([.ref (ad 1), .int k9]) ++ List.replicate (3 - (lg_sl ([.ref (ad 1), .int k9])).length) Slot.unset).toArray = ls at hl ⊢
  have hl : lv_has ls 3 [(0, .ref (ad 1)), (1, .int k9)] := hl
  refine lv_aload_n hx hb dX2_member_0 rfl (lv_at hl 0 rfl) ?_
  refine wk_get (v := va_rf (wx_mp ad (wk_n σ) 0)) hx hb hts (fun w h => wk_in_M w (lay_X2 w h)) hown hK hI (1) wx_e1 rfl 0 (by decide) (hts _ (wk_in_M _ mw_63)) rfl rfl dX2_member_1 ?_
  refine wk_astore_n (lv' := [(2, va_rf (wx_mp ad (wk_n σ) 0)), (0, .ref (ad 1)), (1, .int k9)]) hx hb dX2_member_4 rfl hl (by decide) rfl (fun ls hl => ?_)
  refine wk_loop (fun i H locs ls => wk_I D A s.heap H locs (wx_W cI cS ad σ) ∧ lv_has ls 3 [(0, .ref (ad 1)), (1, .int k9), (2, va_rf (wx_mp ad (wk_n σ) i))] ∧ (∀ j, j < i → ¬ nI j = k9)) (wk_n σ) ?_ ?_ (wk_n σ) 0 _ _ _ (Nat.zero_add _) ⟨hI, lv_sub hl [1, 2, 0] rfl, fun j hj => absurd hj (Nat.not_lt_zero _)⟩
  · intro H locs ls hinv
    obtain ⟨hI, hl, hE⟩ := hinv
    rw [wx_mpF (Nat.lt_irrefl _)] at hl
    have hl : lv_has ls 3 [(0, .ref (ad 1)), (1, .int k9), (2, .null)] := hl
    refine lv_aload_nN hx hb dX2_member_5 rfl (lv_at hl 2 rfl) ?_
    refine lv_ifnullN (tgt := 27) hx hb dX2_member_6 (by decide) ?_
    refine lv_null hx hb dX2_member_27 ?_
    have hnone : ¬ wk_ok σ k9 := (wk_okC hV k9).elim (fun hq => absurd hq.choose_spec.2.symm (hE _ hq.choose_spec.1)) id
    exact wk_rq σ (r := none) hx hb hr hlk hK hI rfl ⟨(wx_findN hnone).symm, rfl⟩ dX2_member_28
  · intro i H locs ls hi hinv ih
    obtain ⟨hI, hl, hE⟩ := hinv
    have hiσ : i < wk_n σ := hi
    rw [wx_mpT hi] at hl
    have hl : lv_has ls 3 [(0, .ref (ad 1)), (1, .int k9), (2, .ref (ad (16 + i)))] := hl
    refine lv_aload_n hx hb dX2_member_5 rfl (lv_at hl 2 rfl) ?_
    refine lv_ifnull hx hb dX2_member_6 ?_
    refine lv_aload_n hx hb dX2_member_9 rfl (lv_at hl 2 rfl) ?_
    refine wk_get (v := .int (nI i)) hx hb hts (fun w h => wk_in_M w (lay_X6 w h)) hown hK hI (16 + i) (wx_em hiσ) rfl 0 (by decide) (hts _ (wk_in_M _ mw_183)) rfl rfl dX2_member_10 ?_
    refine lv_iload_n hx hb dX2_member_13 rfl (lv_at hl 1 rfl) ?_
    refine lv_icmp_ne (tgt := 19) hx hb dX2_member_14 (by decide) (fun c_1 => ?_) (fun c_1 => ?_)
    · refine lv_aload_n hx hb dX2_member_19 rfl (lv_at hl 2 rfl) ?_
      refine wk_get (v := va_rf (wx_mp ad (wk_n σ) (i + 1))) hx hb hts (fun w h => wk_in_M w (lay_X6 w h)) hown hK hI (16 + i) (wx_em hiσ) rfl 6 (by decide) (hts _ (wk_in_M _ mw_201)) rfl rfl dX2_member_20 ?_
      refine wk_astore_n (lv' := [(2, va_rf (wx_mp ad (wk_n σ) (i + 1))), (0, .ref (ad 1)), (1, .int k9)]) hx hb dX2_member_23 rfl hl (by decide) rfl (fun ls hl => ?_)
      refine lv_goto (tgt := 5) hx hb dX2_member_24 (by decide) ?_
      exact ih _ _ _ ⟨hI, lv_sub hl [1, 2, 0] rfl, fun j hj => (Nat.lt_succ_iff_lt_or_eq.mp hj).elim (hE j) (fun hq => by rw [hq]; exact c_1)⟩
    · refine lv_aload_n hx hb dX2_member_17 rfl (lv_at hl 2 rfl) ?_
      exact wk_rq σ (r := (some (ad (16 + i)))) hx hb hr hlk hK hI rfl ⟨by rw [← c_1, wx_findJ hV hiσ], rfl⟩ dX2_member_18
set_option maxHeartbeats 4000000 in
set_option maxRecDepth 100000 in
theorem c_X11_isRank (l : Launch) (D : va_G) (cI cJ cS : ClassId) (ad : Nat → Nat) (σ : wk_St) (a9 : Int32)  : wk_Ci l D (wk_tys cI cJ cS) yX11_isRank (wk_M yX11_isRank cX11_isRank 1 (some .boolean)) ({ frames := 0, cells := 0, slots := 0, locals := 0 }) [.int a9] (wx_W cI cS ad σ) (wx_W cI cS ad) (fun r u => r = wk_b (0 ≤ a9 ∧ a9 ≤ 7) ∧ u = σ) := by
  intro sz
  refine Met.ofW (cc := cX11_isRank) (maxL := 1) (ret := (some .boolean)) (by decide) rfl ?_
  intro p e s m args below meth c s₁ B hml hv
  obtain ⟨rfl, hsz, hP, hK, hD0, hN⟩ := hv
  have hx := B.exec
  have hb := B.bytes
  have hr := B.returns
  have hts := atoms_spec (ws := wk_M yX11_isRank cX11_isRank 1 (some .boolean)) B.pre
  have hown : s.vm.findClass RX11 = some m.cls := findClass_of_methodNamed B.named
  have hlk := B.notSynchronized
  subst hsz
  have hI : wk_I D (va_A (wx_W cI cS ad σ) s.heap.size) s.heap s.heap [] (wx_W cI cS ad σ) := ⟨hP, hD0.self, va_S.rf⟩
  have hA : ∀ q : Nat, s.heap.size ≤ q → (va_A (wx_W cI cS ad σ) s.heap.size) q := fun q h => Or.inr h
  clear hP hD0
  generalize va_A (wx_W cI cS ad σ) s.heap.size = A at hI hA ⊢
  have hl := lv_entry ([.int a9]) (n := 1) (Nat.le_of_ble_eq_true rfl)
  rw [lg_entry_eq]
  generalize (lg_sl ([.int a9]) ++ List.replicate (1 - (lg_sl ([.int a9])).length) Slot.unset).toArray = ls at hl ⊢
  have hl : lv_has ls 1 [(0, .int a9)] := hl
  refine lv_iload_n hx hb dX11_isRank_0 rfl (lv_at hl 0 rfl) ?_
  refine lv_if_lt (tgt := 14) hx hb dX11_isRank_1 (by decide) (fun c_1 => ?_) (fun c_1 => ?_)
  · refine lv_iconst (v := 0) hx hb dX11_isRank_14 (by decide) ?_
    exact wk_rz σ hx hb hr hlk (by decide) hK hI rfl ⟨wk_bF (fun hq => by obtain ⟨h1, h2⟩ := hq; simp only [Int32.lt_iff_toInt_lt, Int32.le_iff_toInt_le, wk_lit0, wk_lit1, wk_lit2, wk_lit3, wk_lit5, wk_lit6, wk_lit7, wk_lit8, wk_lit64, wk_lit4, wk_lit12, wk_lit20, wk_lit99, wk_lit1000] at c_1 h1 h2; omega), rfl⟩ dX11_isRank_15
  · refine lv_iload_n hx hb dX11_isRank_4 rfl (lv_at hl 0 rfl) ?_
    refine lv_bipush (v := 7) hx hb dX11_isRank_5 (by decide) ?_
    refine lv_icmp_gt (tgt := 14) hx hb dX11_isRank_7 (by decide) (fun c_2 => ?_) (fun c_2 => ?_)
    · refine lv_iconst (v := 0) hx hb dX11_isRank_14 (by decide) ?_
      exact wk_rz σ hx hb hr hlk (by decide) hK hI rfl ⟨wk_bF (fun hq => by obtain ⟨h1, h2⟩ := hq; simp only [Int32.lt_iff_toInt_lt, Int32.le_iff_toInt_le, wk_lit0, wk_lit1, wk_lit2, wk_lit3, wk_lit5, wk_lit6, wk_lit7, wk_lit8, wk_lit64, wk_lit4, wk_lit12, wk_lit20, wk_lit99, wk_lit1000] at c_1 c_2 h1 h2; omega), rfl⟩ dX11_isRank_15
    · refine lv_iconst (v := 1) hx hb dX11_isRank_10 (by decide) ?_
      refine lv_goto (tgt := 15) hx hb dX11_isRank_11 (by decide) ?_
      exact wk_rz σ hx hb hr hlk (by decide) hK hI rfl ⟨wk_bT (by refine ⟨?_, ?_⟩ <;> (simp only [Int32.lt_iff_toInt_lt, Int32.le_iff_toInt_le, wk_lit0, wk_lit1, wk_lit2, wk_lit3, wk_lit5, wk_lit6, wk_lit7, wk_lit8, wk_lit64, wk_lit4, wk_lit12, wk_lit20, wk_lit99, wk_lit1000] at c_1 c_2 ⊢; omega)), rfl⟩ dX11_isRank_15
set_option maxHeartbeats 4000000 in
set_option maxRecDepth 100000 in
theorem c_X11_isDuty (l : Launch) (D : va_G) (cI cJ cS : ClassId) (ad : Nat → Nat) (σ : wk_St) (a9 : Int32)  : wk_Ci l D (wk_tys cI cJ cS) yX11_isDuty (wk_M yX11_isDuty cX11_isDuty 1 (some .boolean)) ({ frames := 0, cells := 0, slots := 0, locals := 0 }) [.int a9] (wx_W cI cS ad σ) (wx_W cI cS ad) (fun r u => r = wk_b (0 ≤ a9 ∧ a9 ≤ 3) ∧ u = σ) := by
  intro sz
  refine Met.ofW (cc := cX11_isDuty) (maxL := 1) (ret := (some .boolean)) (by decide) rfl ?_
  intro p e s m args below meth c s₁ B hml hv
  obtain ⟨rfl, hsz, hP, hK, hD0, hN⟩ := hv
  have hx := B.exec
  have hb := B.bytes
  have hr := B.returns
  have hts := atoms_spec (ws := wk_M yX11_isDuty cX11_isDuty 1 (some .boolean)) B.pre
  have hown : s.vm.findClass RX11 = some m.cls := findClass_of_methodNamed B.named
  have hlk := B.notSynchronized
  subst hsz
  have hI : wk_I D (va_A (wx_W cI cS ad σ) s.heap.size) s.heap s.heap [] (wx_W cI cS ad σ) := ⟨hP, hD0.self, va_S.rf⟩
  have hA : ∀ q : Nat, s.heap.size ≤ q → (va_A (wx_W cI cS ad σ) s.heap.size) q := fun q h => Or.inr h
  clear hP hD0
  generalize va_A (wx_W cI cS ad σ) s.heap.size = A at hI hA ⊢
  have hl := lv_entry ([.int a9]) (n := 1) (Nat.le_of_ble_eq_true rfl)
  rw [lg_entry_eq]
  generalize (lg_sl ([.int a9]) ++ List.replicate (1 - (lg_sl ([.int a9])).length) Slot.unset).toArray = ls at hl ⊢
  have hl : lv_has ls 1 [(0, .int a9)] := hl
  refine lv_iload_n hx hb dX11_isDuty_0 rfl (lv_at hl 0 rfl) ?_
  refine lv_if_lt (tgt := 13) hx hb dX11_isDuty_1 (by decide) (fun c_1 => ?_) (fun c_1 => ?_)
  · refine lv_iconst (v := 0) hx hb dX11_isDuty_13 (by decide) ?_
    exact wk_rz σ hx hb hr hlk (by decide) hK hI rfl ⟨wk_bF (fun hq => by obtain ⟨h1, h2⟩ := hq; simp only [Int32.lt_iff_toInt_lt, Int32.le_iff_toInt_le, wk_lit0, wk_lit1, wk_lit2, wk_lit3, wk_lit5, wk_lit6, wk_lit7, wk_lit8, wk_lit64, wk_lit4, wk_lit12, wk_lit20, wk_lit99, wk_lit1000] at c_1 h1 h2; omega), rfl⟩ dX11_isDuty_14
  · refine lv_iload_n hx hb dX11_isDuty_4 rfl (lv_at hl 0 rfl) ?_
    refine lv_iconst (v := 3) hx hb dX11_isDuty_5 (by decide) ?_
    refine lv_icmp_gt (tgt := 13) hx hb dX11_isDuty_6 (by decide) (fun c_2 => ?_) (fun c_2 => ?_)
    · refine lv_iconst (v := 0) hx hb dX11_isDuty_13 (by decide) ?_
      exact wk_rz σ hx hb hr hlk (by decide) hK hI rfl ⟨wk_bF (fun hq => by obtain ⟨h1, h2⟩ := hq; simp only [Int32.lt_iff_toInt_lt, Int32.le_iff_toInt_le, wk_lit0, wk_lit1, wk_lit2, wk_lit3, wk_lit5, wk_lit6, wk_lit7, wk_lit8, wk_lit64, wk_lit4, wk_lit12, wk_lit20, wk_lit99, wk_lit1000] at c_1 c_2 h1 h2; omega), rfl⟩ dX11_isDuty_14
    · refine lv_iconst (v := 1) hx hb dX11_isDuty_9 (by decide) ?_
      refine lv_goto (tgt := 14) hx hb dX11_isDuty_10 (by decide) ?_
      exact wk_rz σ hx hb hr hlk (by decide) hK hI rfl ⟨wk_bT (by refine ⟨?_, ?_⟩ <;> (simp only [Int32.lt_iff_toInt_lt, Int32.le_iff_toInt_le, wk_lit0, wk_lit1, wk_lit2, wk_lit3, wk_lit5, wk_lit6, wk_lit7, wk_lit8, wk_lit64, wk_lit4, wk_lit12, wk_lit20, wk_lit99, wk_lit1000] at c_1 c_2 ⊢; omega)), rfl⟩ dX11_isDuty_14
set_option maxHeartbeats 4000000 in
set_option maxRecDepth 100000 in
theorem c_X11_isTimes (l : Launch) (D : va_G) (cI cJ cS : ClassId) (ad : Nat → Nat) (σ : wk_St) (a9 : Int32)  : wk_Ci l D (wk_tys cI cJ cS) yX11_isTimes (wk_M yX11_isTimes cX11_isTimes 1 (some .boolean)) ({ frames := 0, cells := 0, slots := 0, locals := 0 }) [.int a9] (wx_W cI cS ad σ) (wx_W cI cS ad) (fun r u => r = wk_b (0 ≤ a9 ∧ a9 ≤ 20) ∧ u = σ) := by
  intro sz
  refine Met.ofW (cc := cX11_isTimes) (maxL := 1) (ret := (some .boolean)) (by decide) rfl ?_
  intro p e s m args below meth c s₁ B hml hv
  obtain ⟨rfl, hsz, hP, hK, hD0, hN⟩ := hv
  have hx := B.exec
  have hb := B.bytes
  have hr := B.returns
  have hts := atoms_spec (ws := wk_M yX11_isTimes cX11_isTimes 1 (some .boolean)) B.pre
  have hown : s.vm.findClass RX11 = some m.cls := findClass_of_methodNamed B.named
  have hlk := B.notSynchronized
  subst hsz
  have hI : wk_I D (va_A (wx_W cI cS ad σ) s.heap.size) s.heap s.heap [] (wx_W cI cS ad σ) := ⟨hP, hD0.self, va_S.rf⟩
  have hA : ∀ q : Nat, s.heap.size ≤ q → (va_A (wx_W cI cS ad σ) s.heap.size) q := fun q h => Or.inr h
  clear hP hD0
  generalize va_A (wx_W cI cS ad σ) s.heap.size = A at hI hA ⊢
  have hl := lv_entry ([.int a9]) (n := 1) (Nat.le_of_ble_eq_true rfl)
  rw [lg_entry_eq]
  generalize (lg_sl ([.int a9]) ++ List.replicate (1 - (lg_sl ([.int a9])).length) Slot.unset).toArray = ls at hl ⊢
  have hl : lv_has ls 1 [(0, .int a9)] := hl
  refine lv_iload_n hx hb dX11_isTimes_0 rfl (lv_at hl 0 rfl) ?_
  refine lv_if_lt (tgt := 14) hx hb dX11_isTimes_1 (by decide) (fun c_1 => ?_) (fun c_1 => ?_)
  · refine lv_iconst (v := 0) hx hb dX11_isTimes_14 (by decide) ?_
    exact wk_rz σ hx hb hr hlk (by decide) hK hI rfl ⟨wk_bF (fun hq => by obtain ⟨h1, h2⟩ := hq; simp only [Int32.lt_iff_toInt_lt, Int32.le_iff_toInt_le, wk_lit0, wk_lit1, wk_lit2, wk_lit3, wk_lit5, wk_lit6, wk_lit7, wk_lit8, wk_lit64, wk_lit4, wk_lit12, wk_lit20, wk_lit99, wk_lit1000] at c_1 h1 h2; omega), rfl⟩ dX11_isTimes_15
  · refine lv_iload_n hx hb dX11_isTimes_4 rfl (lv_at hl 0 rfl) ?_
    refine lv_bipush (v := 20) hx hb dX11_isTimes_5 (by decide) ?_
    refine lv_icmp_gt (tgt := 14) hx hb dX11_isTimes_7 (by decide) (fun c_2 => ?_) (fun c_2 => ?_)
    · refine lv_iconst (v := 0) hx hb dX11_isTimes_14 (by decide) ?_
      exact wk_rz σ hx hb hr hlk (by decide) hK hI rfl ⟨wk_bF (fun hq => by obtain ⟨h1, h2⟩ := hq; simp only [Int32.lt_iff_toInt_lt, Int32.le_iff_toInt_le, wk_lit0, wk_lit1, wk_lit2, wk_lit3, wk_lit5, wk_lit6, wk_lit7, wk_lit8, wk_lit64, wk_lit4, wk_lit12, wk_lit20, wk_lit99, wk_lit1000] at c_1 c_2 h1 h2; omega), rfl⟩ dX11_isTimes_15
    · refine lv_iconst (v := 1) hx hb dX11_isTimes_10 (by decide) ?_
      refine lv_goto (tgt := 15) hx hb dX11_isTimes_11 (by decide) ?_
      exact wk_rz σ hx hb hr hlk (by decide) hK hI rfl ⟨wk_bT (by refine ⟨?_, ?_⟩ <;> (simp only [Int32.lt_iff_toInt_lt, Int32.le_iff_toInt_le, wk_lit0, wk_lit1, wk_lit2, wk_lit3, wk_lit5, wk_lit6, wk_lit7, wk_lit8, wk_lit64, wk_lit4, wk_lit12, wk_lit20, wk_lit99, wk_lit1000] at c_1 c_2 ⊢; omega)), rfl⟩ dX11_isTimes_15
set_option maxHeartbeats 4000000 in
set_option maxRecDepth 100000 in
theorem c_X11_boundOf (l : Launch) (D : va_G) (cI cJ cS : ClassId) (ad : Nat → Nat) (σ : wk_St) (d9 : Int32)  : wk_Ci l D (wk_tys cI cJ cS) yX11_boundOf (wk_M yX11_boundOf cX11_boundOf 1 (some .int)) ({ frames := 0, cells := 0, slots := 0, locals := 0 }) [.int d9] (wx_W cI cS ad σ) (wx_W cI cS ad) (fun r u => r = wk_bound d9 ∧ u = σ) := by
  intro sz
  refine Met.ofW (cc := cX11_boundOf) (maxL := 1) (ret := (some .int)) (by decide) rfl ?_
  intro p e s m args below meth c s₁ B hml hv
  obtain ⟨rfl, hsz, hP, hK, hD0, hN⟩ := hv
  have hx := B.exec
  have hb := B.bytes
  have hr := B.returns
  have hts := atoms_spec (ws := wk_M yX11_boundOf cX11_boundOf 1 (some .int)) B.pre
  have hown : s.vm.findClass RX11 = some m.cls := findClass_of_methodNamed B.named
  have hlk := B.notSynchronized
  subst hsz
  have hI : wk_I D (va_A (wx_W cI cS ad σ) s.heap.size) s.heap s.heap [] (wx_W cI cS ad σ) := ⟨hP, hD0.self, va_S.rf⟩
  have hA : ∀ q : Nat, s.heap.size ≤ q → (va_A (wx_W cI cS ad σ) s.heap.size) q := fun q h => Or.inr h
  clear hP hD0
  generalize va_A (wx_W cI cS ad σ) s.heap.size = A at hI hA ⊢
  have hl := lv_entry ([.int d9]) (n := 1) (Nat.le_of_ble_eq_true rfl)
  rw [lg_entry_eq]
  generalize (lg_sl ([.int d9]) ++ List.replicate (1 - (lg_sl ([.int d9])).length) Slot.unset).toArray = ls at hl ⊢
  have hl : lv_has ls 1 [(0, .int d9)] := hl
  refine lv_iload_n hx hb dX11_boundOf_0 rfl (lv_at hl 0 rfl) ?_
  by_cases hs_1 : d9 = 0
  · refine lv_tableIn (tgt := 28) (off := 27) hx hb dX11_boundOf_1 (by rw [hs_1]; decide) (by rw [hs_1]; decide) (by rw [hs_1]; rfl) (by decide) ?_
    refine lv_bipush (v := 100) hx hb dX11_boundOf_28 (by decide) ?_
    exact wk_ri σ hx hb hr hlk hK hI rfl ⟨by simp only [wk_bound, if_pos hs_1], rfl⟩ dX11_boundOf_30
  by_cases hs_2 : d9 = 1
  · refine lv_tableIn (tgt := 31) (off := 30) hx hb dX11_boundOf_1 (by rw [hs_2]; decide) (by rw [hs_2]; decide) (by rw [hs_2]; rfl) (by decide) ?_
    refine lv_sipush (v := 1000) hx hb dX11_boundOf_31 (by decide) ?_
    exact wk_ri σ hx hb hr hlk hK hI rfl ⟨by simp only [wk_bound, if_neg hs_1, if_pos hs_2], rfl⟩ dX11_boundOf_34
  by_cases hs_3 : d9 = 2
  · refine lv_tableIn (tgt := 35) (off := 34) hx hb dX11_boundOf_1 (by rw [hs_3]; decide) (by rw [hs_3]; decide) (by rw [hs_3]; rfl) (by decide) ?_
    refine lv_sipush (v := 200) hx hb dX11_boundOf_35 (by decide) ?_
    exact wk_ri σ hx hb hr hlk hK hI rfl ⟨by simp only [wk_bound, if_neg hs_1, if_neg hs_2, if_pos hs_3], rfl⟩ dX11_boundOf_38
  refine lv_tableOut (tgt := 39) hx hb dX11_boundOf_1 (by have q0 := lv_neT hs_1 wk_lit0; have q1 := lv_neT hs_2 wk_lit1; have q2 := lv_neT hs_3 wk_lit2; omega) (by decide) ?_
  refine lv_sipush (v := 9999) hx hb dX11_boundOf_39 (by decide) ?_
  exact wk_ri σ hx hb hr hlk hK hI rfl ⟨by simp only [wk_bound, if_neg hs_1, if_neg hs_2, if_neg hs_3], rfl⟩ dX11_boundOf_42
set_option maxHeartbeats 4000000 in
set_option maxRecDepth 100000 in
theorem c_X11_isBeyondBound (l : Launch) (D : va_G) (cI cJ cS : ClassId) (ad : Nat → Nat) (σ : wk_St) (d9 n : Int32)  : wk_Ci l D (wk_tys cI cJ cS) yX11_isBeyondBound (wk_M yX11_isBeyondBound cX11_isBeyondBound 2 (some .boolean)) ({ frames := 1, cells := 0, slots := 0, locals := 20 }) [.int d9, .int n] (wx_W cI cS ad σ) (wx_W cI cS ad) (fun r u => r = wk_b (¬ wk_in d9 n) ∧ u = σ) := by
  intro sz
  refine Met.ofW (cc := cX11_isBeyondBound) (maxL := 2) (ret := (some .boolean)) (by decide) rfl ?_
  intro p e s m args below meth c s₁ B hml hv
  obtain ⟨rfl, hsz, hP, hK, hD0, hN⟩ := hv
  have hx := B.exec
  have hb := B.bytes
  have hr := B.returns
  have hts := atoms_spec (ws := wk_M yX11_isBeyondBound cX11_isBeyondBound 2 (some .boolean)) B.pre
  have hown : s.vm.findClass RX11 = some m.cls := findClass_of_methodNamed B.named
  have hlk := B.notSynchronized
  subst hsz
  have hI : wk_I D (va_A (wx_W cI cS ad σ) s.heap.size) s.heap s.heap [] (wx_W cI cS ad σ) := ⟨hP, hD0.self, va_S.rf⟩
  have hA : ∀ q : Nat, s.heap.size ≤ q → (va_A (wx_W cI cS ad σ) s.heap.size) q := fun q h => Or.inr h
  clear hP hD0
  generalize va_A (wx_W cI cS ad σ) s.heap.size = A at hI hA ⊢
  have hl := lv_entry ([.int d9, .int n]) (n := 2) (Nat.le_of_ble_eq_true rfl)
  rw [lg_entry_eq]
  generalize (lg_sl ([.int d9, .int n]) ++ List.replicate (2 - (lg_sl ([.int d9, .int n])).length) Slot.unset).toArray = ls at hl ⊢
  have hl : lv_has ls 2 [(0, .int d9), (1, .int n)] := hl
  refine lv_iload_n hx hb dX11_isBeyondBound_0 rfl (lv_at hl 1 rfl) ?_
  refine lv_if_lt (tgt := 12) hx hb dX11_isBeyondBound_1 (by decide) (fun c_1 => ?_) (fun c_1 => ?_)
  · refine lv_iconst (v := 1) hx hb dX11_isBeyondBound_12 (by decide) ?_
    refine lv_goto (tgt := 17) hx hb dX11_isBeyondBound_13 (by decide) ?_
    exact wk_rz σ hx hb hr hlk (by decide) hK hI rfl ⟨wk_bT (fun hq => wk_lnl c_1 hq.1), rfl⟩ dX11_isBeyondBound_17
  · refine lv_iload_n hx hb dX11_isBeyondBound_4 rfl (lv_at hl 1 rfl) ?_
    refine lv_iload_n hx hb dX11_isBeyondBound_5 rfl (lv_at hl 0 rfl) ?_
    refine wk_kI hI hA (va_runS (As := [.int d9]) (rest := [.int n]) ⟨hx, hb, hml, hown, hts⟩ (c_X11_boundOf l D cI cJ cS ad σ d9 _) (wk_cwS 1 hts wk_in_M mw_243 mw_244 mw_34 mw_245 (hdX11_boundOf).2 ⟨(Nat.le_of_ble_eq_true rfl), (Nat.le_of_ble_eq_true rfl)⟩) (wk_preS hN hK hI) rfl rfl hl.1 rfl (lv_room (Nat.le_of_ble_eq_true rfl)) dX11_isBeyondBound_6 ⟨(Nat.le_of_ble_eq_true rfl), (Nat.le_of_ble_eq_true rfl)⟩) (fun r u H locs hw hI => ?_)
    obtain ⟨rfl, hw⟩ := hw
    rw [hw] at hI
    refine lv_icmp_le (tgt := 16) hx hb dX11_isBeyondBound_9 (by decide) (fun c_2 => ?_) (fun c_2 => ?_)
    · refine lv_iconst (v := 0) hx hb dX11_isBeyondBound_16 (by decide) ?_
      exact wk_rz σ hx hb hr hlk (by decide) hK hI rfl ⟨wk_bF (fun hq => hq ⟨wk_nlt c_1, c_2⟩), rfl⟩ dX11_isBeyondBound_17
    · refine lv_iconst (v := 1) hx hb dX11_isBeyondBound_12 (by decide) ?_
      refine lv_goto (tgt := 17) hx hb dX11_isBeyondBound_13 (by decide) ?_
      exact wk_rz σ hx hb hr hlk (by decide) hK hI rfl ⟨wk_bT (fun hq => c_2 hq.2), rfl⟩ dX11_isBeyondBound_17
set_option maxHeartbeats 4000000 in
set_option maxRecDepth 100000 in
theorem wd_X11_toilWay {p : Program} {l : Launch} {e : Env} {R : Room} {s : State} {m : MethodId} {args : Array Value} {below : List Frame} {meth : Method} {c : Code} {H : Heap} {locs : List Loc} {cells slots : Nat} {Ts : List Cond} {cc : ByteArray} {nL pc : Nat} {ls : Array Slot} {rest : List Value} {A : Nat → Prop} {H0 : Heap} {D : va_G} {cI cJ cS : ClassId} {ad : Nat → Nat} {σ : wk_St} (r k : Nat) (n : Int32) (S : CallFix p m c cc nL s args Ts RX11) (hb : ∀ w ∈ wk_T, w ∈ Ts) (hN : wk_N s) (hK : va_K D vwCl (wk_tys cI cJ cS) s) (hI : wk_I D A H0 H locs (wx_W cI cS ad σ)) (hV : wk_V σ) (hr9 : r < 8) (hk : k < wk_n σ) (hc : wk_nt σ + 6 < 2147483648) (hR : 5 ≤ R.frames ∧ 119 ≤ R.locals) (hsize : ls.size = nL) (hW : 2 * (F0 m pc ls (.int n :: .ref (ad (16 + k)) :: .ref (ad 1) :: .ref (ad (8 + r)) :: rest)).monitorRoom + (rest.map fun v => v.category).sum ≤ 8) (hdg : decode cc pc = .ok (.invokevirtual 98, 3)) (hf : cells + 0 ≤ R.cells ∧ slots + 0 ≤ R.slots) : va_Run p l e R s m args below meth c H locs cells slots 0 0 (F0 m pc ls (.int n :: .ref (ad (16 + k)) :: .ref (ad 1) :: .ref (ad (8 + r)) :: rest)) rest (va_Ql (fun v u => v = (wk_toilR r σ k n).1 ∧ u = (wk_toilR r σ k n).2) (wk_B D (wk_tys cI cJ cS) (va_A (wx_W cI cS ad σ) H.size) (wx_W cI cS ad)) (va_A (wx_W cI cS ad σ) H.size) (Value.ref (ad (8 + r)) :: [.ref (ad 1), .ref (ad (16 + k)), .int n]).toArray) (va_A (wx_W cI cS ad σ) H.size) := by
  rcases (show r = 0 ∨ r = 1 ∨ r = 2 ∨ r = 3 ∨ r = 4 ∨ r = 5 ∨ r = 6 ∨ r = 7 by omega) with rfl | rfl | rfl | rfl | rfl | rfl | rfl | rfl
  · exact va_runU (owner := RX8) (x := yX8_toilWay) (As := [.ref (ad 1), .ref (ad (16 + k)), .int n]) (rest := rest) S (c_X8_toilWay l D cI cJ cS ad σ 0 k n hV hr9 hk (by omega) _) (wk_cwU 3 S.2.2.2.2 hb mw_251 mw_253 mw_275 mw_252 mw_36 mw_292 (va_Decl.of (x := yX8_toilWay) (S.2.2.2.2 _ (hb _ mw_252)) (S.2.2.2.2 _ (hb _ mw_292))) (by decide +kernel) ⟨Nat.le_trans (Nat.le_of_ble_eq_true rfl) hR.1, Nat.le_trans (Nat.le_of_ble_eq_true rfl) hR.2⟩) (wk_preV hN hK hI (ci := 3) rfl (wx_er hr9)) rfl rfl hsize rfl hW hdg hf
  · exact va_runU (owner := RX8) (x := yX8_toilWay) (As := [.ref (ad 1), .ref (ad (16 + k)), .int n]) (rest := rest) S (c_X8_toilWay l D cI cJ cS ad σ 1 k n hV hr9 hk (by omega) _) (wk_cwU 3 S.2.2.2.2 hb mw_251 mw_253 mw_289 mw_252 mw_36 mw_292 (va_Decl.of (x := yX8_toilWay) (S.2.2.2.2 _ (hb _ mw_252)) (S.2.2.2.2 _ (hb _ mw_292))) (by decide +kernel) ⟨Nat.le_trans (Nat.le_of_ble_eq_true rfl) hR.1, Nat.le_trans (Nat.le_of_ble_eq_true rfl) hR.2⟩) (wk_preV hN hK hI (ci := 7) rfl (wx_er hr9)) rfl rfl hsize rfl hW hdg hf
  · exact va_runU (owner := RX8) (x := yX8_toilWay) (As := [.ref (ad 1), .ref (ad (16 + k)), .int n]) (rest := rest) S (c_X10_toilWay l D cI cJ cS ad σ 2 k n hV hr9 hk (by omega) _) (wk_cwU 3 S.2.2.2.2 hb mw_251 mw_253 mw_291 mw_255 mw_39 mw_256 (va_Decl.of (x := yX8_toilWay) (S.2.2.2.2 _ (hb _ mw_252)) (S.2.2.2.2 _ (hb _ mw_292))) (by decide +kernel) ⟨Nat.le_trans (Nat.le_of_ble_eq_true rfl) hR.1, Nat.le_trans (Nat.le_of_ble_eq_true rfl) hR.2⟩) (wk_preV hN hK hI (ci := 9) rfl (wx_er hr9)) rfl rfl hsize rfl hW hdg hf
  · exact va_runU (owner := RX8) (x := yX8_toilWay) (As := [.ref (ad 1), .ref (ad (16 + k)), .int n]) (rest := rest) S (c_X10_toilWay l D cI cJ cS ad σ 3 k n hV hr9 hk (by omega) _) (wk_cwU 3 S.2.2.2.2 hb mw_251 mw_253 mw_254 mw_255 mw_39 mw_256 (va_Decl.of (x := yX8_toilWay) (S.2.2.2.2 _ (hb _ mw_252)) (S.2.2.2.2 _ (hb _ mw_292))) (by decide +kernel) ⟨Nat.le_trans (Nat.le_of_ble_eq_true rfl) hR.1, Nat.le_trans (Nat.le_of_ble_eq_true rfl) hR.2⟩) (wk_preV hN hK hI (ci := 0) rfl (wx_er hr9)) rfl rfl hsize rfl hW hdg hf
  · exact va_runU (owner := RX8) (x := yX8_toilWay) (As := [.ref (ad 1), .ref (ad (16 + k)), .int n]) (rest := rest) S (c_X5_toilWay l D cI cJ cS ad σ 4 k n hV hr9 hk (by omega) _) (wk_cwU 3 S.2.2.2.2 hb mw_251 mw_253 mw_288 mw_281 mw_41 mw_282 (va_Decl.of (x := yX8_toilWay) (S.2.2.2.2 _ (hb _ mw_252)) (S.2.2.2.2 _ (hb _ mw_292))) (by decide +kernel) ⟨Nat.le_trans (Nat.le_of_ble_eq_true rfl) hR.1, Nat.le_trans (Nat.le_of_ble_eq_true rfl) hR.2⟩) (wk_preV hN hK hI (ci := 5) rfl (wx_er hr9)) rfl rfl hsize rfl hW hdg hf
  · exact va_runU (owner := RX8) (x := yX8_toilWay) (As := [.ref (ad 1), .ref (ad (16 + k)), .int n]) (rest := rest) S (c_X4_toilWay l D cI cJ cS ad σ 5 k n hV hr9 hk (by omega) _) (wk_cwU 3 S.2.2.2.2 hb mw_251 mw_253 mw_276 mw_277 mw_42 mw_278 (va_Decl.of (x := yX8_toilWay) (S.2.2.2.2 _ (hb _ mw_252)) (S.2.2.2.2 _ (hb _ mw_292))) (by decide +kernel) ⟨Nat.le_trans (Nat.le_of_ble_eq_true rfl) hR.1, Nat.le_trans (Nat.le_of_ble_eq_true rfl) hR.2⟩) (wk_preV hN hK hI (ci := 4) rfl (wx_er hr9)) rfl rfl hsize rfl hW hdg hf
  · exact va_runU (owner := RX8) (x := yX8_toilWay) (As := [.ref (ad 1), .ref (ad (16 + k)), .int n]) (rest := rest) S (c_X1_toilWay l D cI cJ cS ad σ 6 k n hV hr9 hk (by omega) _) (wk_cwU 3 S.2.2.2.2 hb mw_251 mw_253 mw_265 mw_266 mw_43 mw_267 (va_Decl.of (x := yX8_toilWay) (S.2.2.2.2 _ (hb _ mw_252)) (S.2.2.2.2 _ (hb _ mw_292))) (by decide +kernel) ⟨Nat.le_trans (Nat.le_of_ble_eq_true rfl) hR.1, Nat.le_trans (Nat.le_of_ble_eq_true rfl) hR.2⟩) (wk_preV hN hK hI (ci := 1) rfl (wx_er hr9)) rfl rfl hsize rfl hW hdg hf
  · exact va_runU (owner := RX8) (x := yX8_toilWay) (As := [.ref (ad 1), .ref (ad (16 + k)), .int n]) (rest := rest) S (c_X1_toilWay l D cI cJ cS ad σ 7 k n hV hr9 hk (by omega) _) (wk_cwU 3 S.2.2.2.2 hb mw_251 mw_253 mw_290 mw_266 mw_43 mw_267 (va_Decl.of (x := yX8_toilWay) (S.2.2.2.2 _ (hb _ mw_252)) (S.2.2.2.2 _ (hb _ mw_292))) (by decide +kernel) ⟨Nat.le_trans (Nat.le_of_ble_eq_true rfl) hR.1, Nat.le_trans (Nat.le_of_ble_eq_true rfl) hR.2⟩) (wk_preV hN hK hI (ci := 8) rfl (wx_er hr9)) rfl rfl hsize rfl hW hdg hf
set_option maxHeartbeats 4000000 in
set_option maxRecDepth 100000 in
theorem wd_X11_payWay {p : Program} {l : Launch} {e : Env} {R : Room} {s : State} {m : MethodId} {args : Array Value} {below : List Frame} {meth : Method} {c : Code} {H : Heap} {locs : List Loc} {cells slots : Nat} {Ts : List Cond} {cc : ByteArray} {nL pc : Nat} {ls : Array Slot} {rest : List Value} {A : Nat → Prop} {H0 : Heap} {D : va_G} {cI cJ cS : ClassId} {ad : Nat → Nat} {σ : wk_St} (r k : Nat) (n : Int32) (S : CallFix p m c cc nL s args Ts RX11) (hb : ∀ w ∈ wk_T, w ∈ Ts) (hN : wk_N s) (hK : va_K D vwCl (wk_tys cI cJ cS) s) (hI : wk_I D A H0 H locs (wx_W cI cS ad σ)) (hV : wk_V σ) (hr9 : r < 8) (hk : k < wk_n σ) (hc : wk_nt σ + 3 < 2147483648) (hR : 4 ≤ R.frames ∧ 96 ≤ R.locals) (hsize : ls.size = nL) (hW : 2 * (F0 m pc ls (.int n :: .ref (ad (16 + k)) :: .ref (ad 1) :: .ref (ad (8 + r)) :: rest)).monitorRoom + (rest.map fun v => v.category).sum ≤ 8) (hdg : decode cc pc = .ok (.invokevirtual 102, 3)) (hf : cells + 0 ≤ R.cells ∧ slots + 0 ≤ R.slots) : va_Run p l e R s m args below meth c H locs cells slots 0 0 (F0 m pc ls (.int n :: .ref (ad (16 + k)) :: .ref (ad 1) :: .ref (ad (8 + r)) :: rest)) rest (va_Ql (fun v u => v = (wk_payR r σ k n).1 ∧ u = (wk_payR r σ k n).2) (wk_B D (wk_tys cI cJ cS) (va_A (wx_W cI cS ad σ) H.size) (wx_W cI cS ad)) (va_A (wx_W cI cS ad σ) H.size) (Value.ref (ad (8 + r)) :: [.ref (ad 1), .ref (ad (16 + k)), .int n]).toArray) (va_A (wx_W cI cS ad σ) H.size) := by
  rcases (show r = 0 ∨ r = 1 ∨ r = 2 ∨ r = 3 ∨ r = 4 ∨ r = 5 ∨ r = 6 ∨ r = 7 by omega) with rfl | rfl | rfl | rfl | rfl | rfl | rfl | rfl
  · exact va_runU (owner := RX8) (x := (⟨RX8, "payWay", "(LWatchBill$Crew;LWatchBill$Member;I)J"⟩ : MethodName)) (As := [.ref (ad 1), .ref (ad (16 + k)), .int n]) (rest := rest) S (c_X3_payWay l D cI cJ cS ad σ 0 k n hV hr9 hk (by omega) _) (wk_cwU 3 S.2.2.2.2 hb mw_299 mw_301 mw_318 mw_309 mw_37 mw_310 (va_Decl.abs (hN.1 _ mx_300)) (by decide +kernel) ⟨Nat.le_trans (Nat.le_of_ble_eq_true rfl) hR.1, Nat.le_trans (Nat.le_of_ble_eq_true rfl) hR.2⟩) (wk_preV hN hK hI (ci := 3) rfl (wx_er hr9)) rfl rfl hsize rfl hW hdg hf
  · exact va_runU (owner := RX8) (x := (⟨RX8, "payWay", "(LWatchBill$Crew;LWatchBill$Member;I)J"⟩ : MethodName)) (As := [.ref (ad 1), .ref (ad (16 + k)), .int n]) (rest := rest) S (c_X3_payWay l D cI cJ cS ad σ 1 k n hV hr9 hk (by omega) _) (wk_cwU 3 S.2.2.2.2 hb mw_299 mw_301 mw_327 mw_309 mw_37 mw_310 (va_Decl.abs (hN.1 _ mx_300)) (by decide +kernel) ⟨Nat.le_trans (Nat.le_of_ble_eq_true rfl) hR.1, Nat.le_trans (Nat.le_of_ble_eq_true rfl) hR.2⟩) (wk_preV hN hK hI (ci := 7) rfl (wx_er hr9)) rfl rfl hsize rfl hW hdg hf
  · exact va_runU (owner := RX8) (x := (⟨RX8, "payWay", "(LWatchBill$Crew;LWatchBill$Member;I)J"⟩ : MethodName)) (As := [.ref (ad 1), .ref (ad (16 + k)), .int n]) (rest := rest) S (c_X3_payWay l D cI cJ cS ad σ 2 k n hV hr9 hk (by omega) _) (wk_cwU 3 S.2.2.2.2 hb mw_299 mw_301 mw_335 mw_309 mw_37 mw_310 (va_Decl.abs (hN.1 _ mx_300)) (by decide +kernel) ⟨Nat.le_trans (Nat.le_of_ble_eq_true rfl) hR.1, Nat.le_trans (Nat.le_of_ble_eq_true rfl) hR.2⟩) (wk_preV hN hK hI (ci := 9) rfl (wx_er hr9)) rfl rfl hsize rfl hW hdg hf
  · exact va_runU (owner := RX8) (x := (⟨RX8, "payWay", "(LWatchBill$Crew;LWatchBill$Member;I)J"⟩ : MethodName)) (As := [.ref (ad 1), .ref (ad (16 + k)), .int n]) (rest := rest) S (c_X0_payWay l D cI cJ cS ad σ 3 k n hV hr9 hk (by omega) _) (wk_cwU 3 S.2.2.2.2 hb mw_299 mw_301 mw_302 mw_303 mw_40 mw_304 (va_Decl.abs (hN.1 _ mx_300)) (by decide +kernel) ⟨Nat.le_trans (Nat.le_of_ble_eq_true rfl) hR.1, Nat.le_trans (Nat.le_of_ble_eq_true rfl) hR.2⟩) (wk_preV hN hK hI (ci := 0) rfl (wx_er hr9)) rfl rfl hsize rfl hW hdg hf
  · exact va_runU (owner := RX8) (x := (⟨RX8, "payWay", "(LWatchBill$Crew;LWatchBill$Member;I)J"⟩ : MethodName)) (As := [.ref (ad 1), .ref (ad (16 + k)), .int n]) (rest := rest) S (c_X0_payWay l D cI cJ cS ad σ 4 k n hV hr9 hk (by omega) _) (wk_cwU 3 S.2.2.2.2 hb mw_299 mw_301 mw_326 mw_303 mw_40 mw_304 (va_Decl.abs (hN.1 _ mx_300)) (by decide +kernel) ⟨Nat.le_trans (Nat.le_of_ble_eq_true rfl) hR.1, Nat.le_trans (Nat.le_of_ble_eq_true rfl) hR.2⟩) (wk_preV hN hK hI (ci := 5) rfl (wx_er hr9)) rfl rfl hsize rfl hW hdg hf
  · exact va_runU (owner := RX8) (x := (⟨RX8, "payWay", "(LWatchBill$Crew;LWatchBill$Member;I)J"⟩ : MethodName)) (As := [.ref (ad 1), .ref (ad (16 + k)), .int n]) (rest := rest) S (c_X4_payWay l D cI cJ cS ad σ 5 k n hV hr9 hk (by omega) _) (wk_cwU 3 S.2.2.2.2 hb mw_299 mw_301 mw_319 mw_320 mw_42 mw_321 (va_Decl.abs (hN.1 _ mx_300)) (by decide +kernel) ⟨Nat.le_trans (Nat.le_of_ble_eq_true rfl) hR.1, Nat.le_trans (Nat.le_of_ble_eq_true rfl) hR.2⟩) (wk_preV hN hK hI (ci := 4) rfl (wx_er hr9)) rfl rfl hsize rfl hW hdg hf
  · exact va_runU (owner := RX8) (x := (⟨RX8, "payWay", "(LWatchBill$Crew;LWatchBill$Member;I)J"⟩ : MethodName)) (As := [.ref (ad 1), .ref (ad (16 + k)), .int n]) (rest := rest) S (c_X3_payWay l D cI cJ cS ad σ 6 k n hV hr9 hk (by omega) _) (wk_cwU 3 S.2.2.2.2 hb mw_299 mw_301 mw_317 mw_309 mw_37 mw_310 (va_Decl.abs (hN.1 _ mx_300)) (by decide +kernel) ⟨Nat.le_trans (Nat.le_of_ble_eq_true rfl) hR.1, Nat.le_trans (Nat.le_of_ble_eq_true rfl) hR.2⟩) (wk_preV hN hK hI (ci := 1) rfl (wx_er hr9)) rfl rfl hsize rfl hW hdg hf
  · exact va_runU (owner := RX8) (x := (⟨RX8, "payWay", "(LWatchBill$Crew;LWatchBill$Member;I)J"⟩ : MethodName)) (As := [.ref (ad 1), .ref (ad (16 + k)), .int n]) (rest := rest) S (c_X9_payWay l D cI cJ cS ad σ 7 k n hV hr9 hk (by omega) _) (wk_cwU 3 S.2.2.2.2 hb mw_299 mw_301 mw_328 mw_329 mw_44 mw_330 (va_Decl.abs (hN.1 _ mx_300)) (by decide +kernel) ⟨Nat.le_trans (Nat.le_of_ble_eq_true rfl) hR.1, Nat.le_trans (Nat.le_of_ble_eq_true rfl) hR.2⟩) (wk_preV hN hK hI (ci := 8) rfl (wx_er hr9)) rfl rfl hsize rfl hW hdg hf
set_option maxHeartbeats 4000000 in
set_option maxRecDepth 100000 in
theorem wd_X11_climbWay {p : Program} {l : Launch} {e : Env} {R : Room} {s : State} {m : MethodId} {args : Array Value} {below : List Frame} {meth : Method} {c : Code} {H : Heap} {locs : List Loc} {cells slots : Nat} {Ts : List Cond} {cc : ByteArray} {nL pc : Nat} {ls : Array Slot} {rest : List Value} {A : Nat → Prop} {H0 : Heap} {D : va_G} {cI cJ cS : ClassId} {ad : Nat → Nat} {σ : wk_St} (r k : Nat) (n : Int32) (S : CallFix p m c cc nL s args Ts RX11) (hb : ∀ w ∈ wk_T, w ∈ Ts) (hN : wk_N s) (hK : va_K D vwCl (wk_tys cI cJ cS) s) (hI : wk_I D A H0 H locs (wx_W cI cS ad σ)) (hV : wk_V σ) (hr9 : r < 8) (hk : k < wk_n σ) (hc : wk_nt σ + 3 < 2147483648) (hR : 4 ≤ R.frames ∧ 92 ≤ R.locals) (hsize : ls.size = nL) (hW : 2 * (F0 m pc ls (.int n :: .ref (ad (16 + k)) :: .ref (ad 1) :: .ref (ad (8 + r)) :: rest)).monitorRoom + (rest.map fun v => v.category).sum ≤ 8) (hdg : decode cc pc = .ok (.invokevirtual 109, 3)) (hf : cells + 0 ≤ R.cells ∧ slots + 0 ≤ R.slots) : va_Run p l e R s m args below meth c H locs cells slots 0 0 (F0 m pc ls (.int n :: .ref (ad (16 + k)) :: .ref (ad 1) :: .ref (ad (8 + r)) :: rest)) rest (va_Qi (fun v u => v = (wk_climbR r σ k n).1 ∧ u = (wk_climbR r σ k n).2) (wk_B D (wk_tys cI cJ cS) (va_A (wx_W cI cS ad σ) H.size) (wx_W cI cS ad)) (va_A (wx_W cI cS ad σ) H.size) (Value.ref (ad (8 + r)) :: [.ref (ad 1), .ref (ad (16 + k)), .int n]).toArray) (va_A (wx_W cI cS ad σ) H.size) := by
  rcases (show r = 0 ∨ r = 1 ∨ r = 2 ∨ r = 3 ∨ r = 4 ∨ r = 5 ∨ r = 6 ∨ r = 7 by omega) with rfl | rfl | rfl | rfl | rfl | rfl | rfl | rfl
  · exact va_runU (owner := RX8) (x := yX8_climbWay) (As := [.ref (ad 1), .ref (ad (16 + k)), .int n]) (rest := rest) S (c_X8_climbWay l D cI cJ cS ad σ 0 k n hV hr9 hk (by omega) _) (wk_cwU 3 S.2.2.2.2 hb mw_340 mw_342 mw_352 mw_341 mw_36 mw_367 (va_Decl.of (x := yX8_climbWay) (S.2.2.2.2 _ (hb _ mw_341)) (S.2.2.2.2 _ (hb _ mw_367))) (by decide +kernel) ⟨Nat.le_trans (Nat.le_of_ble_eq_true rfl) hR.1, Nat.le_trans (Nat.le_of_ble_eq_true rfl) hR.2⟩) (wk_preV hN hK hI (ci := 3) rfl (wx_er hr9)) rfl rfl hsize rfl hW hdg hf
  · exact va_runU (owner := RX8) (x := yX8_climbWay) (As := [.ref (ad 1), .ref (ad (16 + k)), .int n]) (rest := rest) S (c_X7_climbWay l D cI cJ cS ad σ 1 k n hV hr9 hk (by omega) _) (wk_cwU 3 S.2.2.2.2 hb mw_340 mw_342 mw_360 mw_344 mw_38 mw_345 (va_Decl.of (x := yX8_climbWay) (S.2.2.2.2 _ (hb _ mw_341)) (S.2.2.2.2 _ (hb _ mw_367))) (by decide +kernel) ⟨Nat.le_trans (Nat.le_of_ble_eq_true rfl) hR.1, Nat.le_trans (Nat.le_of_ble_eq_true rfl) hR.2⟩) (wk_preV hN hK hI (ci := 7) rfl (wx_er hr9)) rfl rfl hsize rfl hW hdg hf
  · exact va_runU (owner := RX8) (x := yX8_climbWay) (As := [.ref (ad 1), .ref (ad (16 + k)), .int n]) (rest := rest) S (c_X7_climbWay l D cI cJ cS ad σ 2 k n hV hr9 hk (by omega) _) (wk_cwU 3 S.2.2.2.2 hb mw_340 mw_342 mw_366 mw_344 mw_38 mw_345 (va_Decl.of (x := yX8_climbWay) (S.2.2.2.2 _ (hb _ mw_341)) (S.2.2.2.2 _ (hb _ mw_367))) (by decide +kernel) ⟨Nat.le_trans (Nat.le_of_ble_eq_true rfl) hR.1, Nat.le_trans (Nat.le_of_ble_eq_true rfl) hR.2⟩) (wk_preV hN hK hI (ci := 9) rfl (wx_er hr9)) rfl rfl hsize rfl hW hdg hf
  · exact va_runU (owner := RX8) (x := yX8_climbWay) (As := [.ref (ad 1), .ref (ad (16 + k)), .int n]) (rest := rest) S (c_X7_climbWay l D cI cJ cS ad σ 3 k n hV hr9 hk (by omega) _) (wk_cwU 3 S.2.2.2.2 hb mw_340 mw_342 mw_343 mw_344 mw_38 mw_345 (va_Decl.of (x := yX8_climbWay) (S.2.2.2.2 _ (hb _ mw_341)) (S.2.2.2.2 _ (hb _ mw_367))) (by decide +kernel) ⟨Nat.le_trans (Nat.le_of_ble_eq_true rfl) hR.1, Nat.le_trans (Nat.le_of_ble_eq_true rfl) hR.2⟩) (wk_preV hN hK hI (ci := 0) rfl (wx_er hr9)) rfl rfl hsize rfl hW hdg hf
  · exact va_runU (owner := RX8) (x := yX8_climbWay) (As := [.ref (ad 1), .ref (ad (16 + k)), .int n]) (rest := rest) S (c_X5_climbWay l D cI cJ cS ad σ 4 k n hV hr9 hk (by omega) _) (wk_cwU 3 S.2.2.2.2 hb mw_340 mw_342 mw_359 mw_354 mw_41 mw_355 (va_Decl.of (x := yX8_climbWay) (S.2.2.2.2 _ (hb _ mw_341)) (S.2.2.2.2 _ (hb _ mw_367))) (by decide +kernel) ⟨Nat.le_trans (Nat.le_of_ble_eq_true rfl) hR.1, Nat.le_trans (Nat.le_of_ble_eq_true rfl) hR.2⟩) (wk_preV hN hK hI (ci := 5) rfl (wx_er hr9)) rfl rfl hsize rfl hW hdg hf
  · exact va_runU (owner := RX8) (x := yX8_climbWay) (As := [.ref (ad 1), .ref (ad (16 + k)), .int n]) (rest := rest) S (c_X5_climbWay l D cI cJ cS ad σ 5 k n hV hr9 hk (by omega) _) (wk_cwU 3 S.2.2.2.2 hb mw_340 mw_342 mw_353 mw_354 mw_41 mw_355 (va_Decl.of (x := yX8_climbWay) (S.2.2.2.2 _ (hb _ mw_341)) (S.2.2.2.2 _ (hb _ mw_367))) (by decide +kernel) ⟨Nat.le_trans (Nat.le_of_ble_eq_true rfl) hR.1, Nat.le_trans (Nat.le_of_ble_eq_true rfl) hR.2⟩) (wk_preV hN hK hI (ci := 4) rfl (wx_er hr9)) rfl rfl hsize rfl hW hdg hf
  · exact va_runU (owner := RX8) (x := yX8_climbWay) (As := [.ref (ad 1), .ref (ad (16 + k)), .int n]) (rest := rest) S (c_X8_climbWay l D cI cJ cS ad σ 6 k n hV hr9 hk (by omega) _) (wk_cwU 3 S.2.2.2.2 hb mw_340 mw_342 mw_351 mw_341 mw_36 mw_367 (va_Decl.of (x := yX8_climbWay) (S.2.2.2.2 _ (hb _ mw_341)) (S.2.2.2.2 _ (hb _ mw_367))) (by decide +kernel) ⟨Nat.le_trans (Nat.le_of_ble_eq_true rfl) hR.1, Nat.le_trans (Nat.le_of_ble_eq_true rfl) hR.2⟩) (wk_preV hN hK hI (ci := 1) rfl (wx_er hr9)) rfl rfl hsize rfl hW hdg hf
  · exact va_runU (owner := RX8) (x := yX8_climbWay) (As := [.ref (ad 1), .ref (ad (16 + k)), .int n]) (rest := rest) S (c_X9_climbWay l D cI cJ cS ad σ 7 k n hV hr9 hk (by omega) _) (wk_cwU 3 S.2.2.2.2 hb mw_340 mw_342 mw_361 mw_362 mw_44 mw_363 (va_Decl.of (x := yX8_climbWay) (S.2.2.2.2 _ (hb _ mw_341)) (S.2.2.2.2 _ (hb _ mw_367))) (by decide +kernel) ⟨Nat.le_trans (Nat.le_of_ble_eq_true rfl) hR.1, Nat.le_trans (Nat.le_of_ble_eq_true rfl) hR.2⟩) (wk_preV hN hK hI (ci := 8) rfl (wx_er hr9)) rfl rfl hsize rfl hW hdg hf
set_option maxHeartbeats 4000000 in
set_option maxRecDepth 100000 in
theorem wd_X11_heedWay {p : Program} {l : Launch} {e : Env} {R : Room} {s : State} {m : MethodId} {args : Array Value} {below : List Frame} {meth : Method} {c : Code} {H : Heap} {locs : List Loc} {cells slots : Nat} {Ts : List Cond} {cc : ByteArray} {nL pc : Nat} {ls : Array Slot} {rest : List Value} {A : Nat → Prop} {H0 : Heap} {D : va_G} {cI cJ cS : ClassId} {ad : Nat → Nat} {σ : wk_St} (r k : Nat) (n : Int32) (S : CallFix p m c cc nL s args Ts RX11) (hb : ∀ w ∈ wk_T, w ∈ Ts) (hN : wk_N s) (hK : va_K D vwCl (wk_tys cI cJ cS) s) (hI : wk_I D A H0 H locs (wx_W cI cS ad σ)) (hV : wk_V σ) (hr9 : r < 8) (hk : k < wk_n σ) (hc : wk_nt σ + 28 < 2147483648) (hR : 5 ≤ R.frames ∧ 116 ≤ R.locals) (hsize : ls.size = nL) (hW : 2 * (F0 m pc ls (.int n :: .ref (ad (16 + k)) :: .ref (ad 1) :: .ref (ad (8 + r)) :: rest)).monitorRoom + (rest.map fun v => v.category).sum ≤ 8) (hdg : decode cc pc = .ok (.invokevirtual 113, 3)) (hf : cells + 0 ≤ R.cells ∧ slots + 0 ≤ R.slots) : va_Run p l e R s m args below meth c H locs cells slots 0 0 (F0 m pc ls (.int n :: .ref (ad (16 + k)) :: .ref (ad 1) :: .ref (ad (8 + r)) :: rest)) rest (va_Qi (fun v u => v = (wk_heedR r σ k n).1 ∧ u = (wk_heedR r σ k n).2) (wk_B D (wk_tys cI cJ cS) (va_A (wx_W cI cS ad σ) H.size) (wx_W cI cS ad)) (va_A (wx_W cI cS ad σ) H.size) (Value.ref (ad (8 + r)) :: [.ref (ad 1), .ref (ad (16 + k)), .int n]).toArray) (va_A (wx_W cI cS ad σ) H.size) := by
  rcases (show r = 0 ∨ r = 1 ∨ r = 2 ∨ r = 3 ∨ r = 4 ∨ r = 5 ∨ r = 6 ∨ r = 7 by omega) with rfl | rfl | rfl | rfl | rfl | rfl | rfl | rfl
  · exact va_runU (owner := RX8) (x := yX8_heedWay) (As := [.ref (ad 1), .ref (ad (16 + k)), .int n]) (rest := rest) S (c_X8_heedWay l D cI cJ cS ad σ 0 k n hV hr9 hk (by omega) _) (wk_cwU 3 S.2.2.2.2 hb mw_372 mw_374 mw_395 mw_373 mw_36 mw_401 (va_Decl.of (x := yX8_heedWay) (S.2.2.2.2 _ (hb _ mw_373)) (S.2.2.2.2 _ (hb _ mw_401))) (by decide +kernel) ⟨Nat.le_trans (Nat.le_of_ble_eq_true rfl) hR.1, Nat.le_trans (Nat.le_of_ble_eq_true rfl) hR.2⟩) (wk_preV hN hK hI (ci := 3) rfl (wx_er hr9)) rfl rfl hsize rfl hW hdg hf
  · exact va_runU (owner := RX8) (x := yX8_heedWay) (As := [.ref (ad 1), .ref (ad (16 + k)), .int n]) (rest := rest) S (c_X8_heedWay l D cI cJ cS ad σ 1 k n hV hr9 hk (by omega) _) (wk_cwU 3 S.2.2.2.2 hb mw_372 mw_374 mw_398 mw_373 mw_36 mw_401 (va_Decl.of (x := yX8_heedWay) (S.2.2.2.2 _ (hb _ mw_373)) (S.2.2.2.2 _ (hb _ mw_401))) (by decide +kernel) ⟨Nat.le_trans (Nat.le_of_ble_eq_true rfl) hR.1, Nat.le_trans (Nat.le_of_ble_eq_true rfl) hR.2⟩) (wk_preV hN hK hI (ci := 7) rfl (wx_er hr9)) rfl rfl hsize rfl hW hdg hf
  · exact va_runU (owner := RX8) (x := yX8_heedWay) (As := [.ref (ad 1), .ref (ad (16 + k)), .int n]) (rest := rest) S (c_X10_heedWay l D cI cJ cS ad σ 2 k n hV hr9 hk (by omega) _) (wk_cwU 3 S.2.2.2.2 hb mw_372 mw_374 mw_400 mw_379 mw_39 mw_380 (va_Decl.of (x := yX8_heedWay) (S.2.2.2.2 _ (hb _ mw_373)) (S.2.2.2.2 _ (hb _ mw_401))) (by decide +kernel) ⟨Nat.le_trans (Nat.le_of_ble_eq_true rfl) hR.1, Nat.le_trans (Nat.le_of_ble_eq_true rfl) hR.2⟩) (wk_preV hN hK hI (ci := 9) rfl (wx_er hr9)) rfl rfl hsize rfl hW hdg hf
  · exact va_runU (owner := RX8) (x := yX8_heedWay) (As := [.ref (ad 1), .ref (ad (16 + k)), .int n]) (rest := rest) S (c_X0_heedWay l D cI cJ cS ad σ 3 k n hV hr9 hk (by omega) _) (wk_cwU 3 S.2.2.2.2 hb mw_372 mw_374 mw_375 mw_376 mw_40 mw_377 (va_Decl.of (x := yX8_heedWay) (S.2.2.2.2 _ (hb _ mw_373)) (S.2.2.2.2 _ (hb _ mw_401))) (by decide +kernel) ⟨Nat.le_trans (Nat.le_of_ble_eq_true rfl) hR.1, Nat.le_trans (Nat.le_of_ble_eq_true rfl) hR.2⟩) (wk_preV hN hK hI (ci := 0) rfl (wx_er hr9)) rfl rfl hsize rfl hW hdg hf
  · exact va_runU (owner := RX8) (x := yX8_heedWay) (As := [.ref (ad 1), .ref (ad (16 + k)), .int n]) (rest := rest) S (c_X0_heedWay l D cI cJ cS ad σ 4 k n hV hr9 hk (by omega) _) (wk_cwU 3 S.2.2.2.2 hb mw_372 mw_374 mw_397 mw_376 mw_40 mw_377 (va_Decl.of (x := yX8_heedWay) (S.2.2.2.2 _ (hb _ mw_373)) (S.2.2.2.2 _ (hb _ mw_401))) (by decide +kernel) ⟨Nat.le_trans (Nat.le_of_ble_eq_true rfl) hR.1, Nat.le_trans (Nat.le_of_ble_eq_true rfl) hR.2⟩) (wk_preV hN hK hI (ci := 5) rfl (wx_er hr9)) rfl rfl hsize rfl hW hdg hf
  · exact va_runU (owner := RX8) (x := yX8_heedWay) (As := [.ref (ad 1), .ref (ad (16 + k)), .int n]) (rest := rest) S (c_X4_heedWay l D cI cJ cS ad σ 5 k n hV hr9 hk (by omega) _) (wk_cwU 3 S.2.2.2.2 hb mw_372 mw_374 mw_396 mw_389 mw_42 mw_390 (va_Decl.of (x := yX8_heedWay) (S.2.2.2.2 _ (hb _ mw_373)) (S.2.2.2.2 _ (hb _ mw_401))) (by decide +kernel) ⟨Nat.le_trans (Nat.le_of_ble_eq_true rfl) hR.1, Nat.le_trans (Nat.le_of_ble_eq_true rfl) hR.2⟩) (wk_preV hN hK hI (ci := 4) rfl (wx_er hr9)) rfl rfl hsize rfl hW hdg hf
  · exact va_runU (owner := RX8) (x := yX8_heedWay) (As := [.ref (ad 1), .ref (ad (16 + k)), .int n]) (rest := rest) S (c_X1_heedWay l D cI cJ cS ad σ 6 k n hV hr9 hk (by omega) _) (wk_cwU 3 S.2.2.2.2 hb mw_372 mw_374 mw_394 mw_385 mw_43 mw_386 (va_Decl.of (x := yX8_heedWay) (S.2.2.2.2 _ (hb _ mw_373)) (S.2.2.2.2 _ (hb _ mw_401))) (by decide +kernel) ⟨Nat.le_trans (Nat.le_of_ble_eq_true rfl) hR.1, Nat.le_trans (Nat.le_of_ble_eq_true rfl) hR.2⟩) (wk_preV hN hK hI (ci := 1) rfl (wx_er hr9)) rfl rfl hsize rfl hW hdg hf
  · exact va_runU (owner := RX8) (x := yX8_heedWay) (As := [.ref (ad 1), .ref (ad (16 + k)), .int n]) (rest := rest) S (c_X1_heedWay l D cI cJ cS ad σ 7 k n hV hr9 hk (by omega) _) (wk_cwU 3 S.2.2.2.2 hb mw_372 mw_374 mw_399 mw_385 mw_43 mw_386 (va_Decl.of (x := yX8_heedWay) (S.2.2.2.2 _ (hb _ mw_373)) (S.2.2.2.2 _ (hb _ mw_401))) (by decide +kernel) ⟨Nat.le_trans (Nat.le_of_ble_eq_true rfl) hR.1, Nat.le_trans (Nat.le_of_ble_eq_true rfl) hR.2⟩) (wk_preV hN hK hI (ci := 8) rfl (wx_er hr9)) rfl rfl hsize rfl hW hdg hf
set_option maxHeartbeats 4000000 in
set_option maxRecDepth 100000 in
theorem wd_X8_climbWay {p : Program} {l : Launch} {e : Env} {R : Room} {s : State} {m : MethodId} {args : Array Value} {below : List Frame} {meth : Method} {c : Code} {H : Heap} {locs : List Loc} {cells slots : Nat} {Ts : List Cond} {cc : ByteArray} {nL pc : Nat} {ls : Array Slot} {rest : List Value} {A : Nat → Prop} {H0 : Heap} {D : va_G} {cI cJ cS : ClassId} {ad : Nat → Nat} {σ : wk_St} (r k : Nat) (n : Int32) (S : CallFix p m c cc nL s args Ts RX8) (hb : ∀ w ∈ wk_T, w ∈ Ts) (hN : wk_N s) (hK : va_K D vwCl (wk_tys cI cJ cS) s) (hI : wk_I D A H0 H locs (wx_W cI cS ad σ)) (hV : wk_V σ) (hr9 : r < 8) (hk : k < wk_n σ) (hc : wk_nt σ + 3 < 2147483648) (hR : 4 ≤ R.frames ∧ 92 ≤ R.locals) (hsize : ls.size = nL) (hW : 2 * (F0 m pc ls (.int n :: .ref (ad (16 + k)) :: .ref (ad 1) :: .ref (ad (8 + r)) :: rest)).monitorRoom + (rest.map fun v => v.category).sum ≤ 8) (hdg : decode cc pc = .ok (.invokevirtual 31, 3)) (hf : cells + 0 ≤ R.cells ∧ slots + 0 ≤ R.slots) : va_Run p l e R s m args below meth c H locs cells slots 0 0 (F0 m pc ls (.int n :: .ref (ad (16 + k)) :: .ref (ad 1) :: .ref (ad (8 + r)) :: rest)) rest (va_Qi (fun v u => v = (wk_climbR r σ k n).1 ∧ u = (wk_climbR r σ k n).2) (wk_B D (wk_tys cI cJ cS) (va_A (wx_W cI cS ad σ) H.size) (wx_W cI cS ad)) (va_A (wx_W cI cS ad σ) H.size) (Value.ref (ad (8 + r)) :: [.ref (ad 1), .ref (ad (16 + k)), .int n]).toArray) (va_A (wx_W cI cS ad σ) H.size) := by
  rcases (show r = 0 ∨ r = 1 ∨ r = 2 ∨ r = 3 ∨ r = 4 ∨ r = 5 ∨ r = 6 ∨ r = 7 by omega) with rfl | rfl | rfl | rfl | rfl | rfl | rfl | rfl
  · exact va_runU (owner := RX8) (x := yX8_climbWay) (As := [.ref (ad 1), .ref (ad (16 + k)), .int n]) (rest := rest) S (c_X8_climbWay l D cI cJ cS ad σ 0 k n hV hr9 hk (by omega) _) (wk_cwU 3 S.2.2.2.2 hb mw_430 mw_342 mw_352 mw_341 mw_36 mw_367 (va_Decl.of (x := yX8_climbWay) (S.2.2.2.2 _ (hb _ mw_341)) (S.2.2.2.2 _ (hb _ mw_367))) (by decide +kernel) ⟨Nat.le_trans (Nat.le_of_ble_eq_true rfl) hR.1, Nat.le_trans (Nat.le_of_ble_eq_true rfl) hR.2⟩) (wk_preV hN hK hI (ci := 3) rfl (wx_er hr9)) rfl rfl hsize rfl hW hdg hf
  · exact va_runU (owner := RX8) (x := yX8_climbWay) (As := [.ref (ad 1), .ref (ad (16 + k)), .int n]) (rest := rest) S (c_X7_climbWay l D cI cJ cS ad σ 1 k n hV hr9 hk (by omega) _) (wk_cwU 3 S.2.2.2.2 hb mw_430 mw_342 mw_360 mw_344 mw_38 mw_345 (va_Decl.of (x := yX8_climbWay) (S.2.2.2.2 _ (hb _ mw_341)) (S.2.2.2.2 _ (hb _ mw_367))) (by decide +kernel) ⟨Nat.le_trans (Nat.le_of_ble_eq_true rfl) hR.1, Nat.le_trans (Nat.le_of_ble_eq_true rfl) hR.2⟩) (wk_preV hN hK hI (ci := 7) rfl (wx_er hr9)) rfl rfl hsize rfl hW hdg hf
  · exact va_runU (owner := RX8) (x := yX8_climbWay) (As := [.ref (ad 1), .ref (ad (16 + k)), .int n]) (rest := rest) S (c_X7_climbWay l D cI cJ cS ad σ 2 k n hV hr9 hk (by omega) _) (wk_cwU 3 S.2.2.2.2 hb mw_430 mw_342 mw_366 mw_344 mw_38 mw_345 (va_Decl.of (x := yX8_climbWay) (S.2.2.2.2 _ (hb _ mw_341)) (S.2.2.2.2 _ (hb _ mw_367))) (by decide +kernel) ⟨Nat.le_trans (Nat.le_of_ble_eq_true rfl) hR.1, Nat.le_trans (Nat.le_of_ble_eq_true rfl) hR.2⟩) (wk_preV hN hK hI (ci := 9) rfl (wx_er hr9)) rfl rfl hsize rfl hW hdg hf
  · exact va_runU (owner := RX8) (x := yX8_climbWay) (As := [.ref (ad 1), .ref (ad (16 + k)), .int n]) (rest := rest) S (c_X7_climbWay l D cI cJ cS ad σ 3 k n hV hr9 hk (by omega) _) (wk_cwU 3 S.2.2.2.2 hb mw_430 mw_342 mw_343 mw_344 mw_38 mw_345 (va_Decl.of (x := yX8_climbWay) (S.2.2.2.2 _ (hb _ mw_341)) (S.2.2.2.2 _ (hb _ mw_367))) (by decide +kernel) ⟨Nat.le_trans (Nat.le_of_ble_eq_true rfl) hR.1, Nat.le_trans (Nat.le_of_ble_eq_true rfl) hR.2⟩) (wk_preV hN hK hI (ci := 0) rfl (wx_er hr9)) rfl rfl hsize rfl hW hdg hf
  · exact va_runU (owner := RX8) (x := yX8_climbWay) (As := [.ref (ad 1), .ref (ad (16 + k)), .int n]) (rest := rest) S (c_X5_climbWay l D cI cJ cS ad σ 4 k n hV hr9 hk (by omega) _) (wk_cwU 3 S.2.2.2.2 hb mw_430 mw_342 mw_359 mw_354 mw_41 mw_355 (va_Decl.of (x := yX8_climbWay) (S.2.2.2.2 _ (hb _ mw_341)) (S.2.2.2.2 _ (hb _ mw_367))) (by decide +kernel) ⟨Nat.le_trans (Nat.le_of_ble_eq_true rfl) hR.1, Nat.le_trans (Nat.le_of_ble_eq_true rfl) hR.2⟩) (wk_preV hN hK hI (ci := 5) rfl (wx_er hr9)) rfl rfl hsize rfl hW hdg hf
  · exact va_runU (owner := RX8) (x := yX8_climbWay) (As := [.ref (ad 1), .ref (ad (16 + k)), .int n]) (rest := rest) S (c_X5_climbWay l D cI cJ cS ad σ 5 k n hV hr9 hk (by omega) _) (wk_cwU 3 S.2.2.2.2 hb mw_430 mw_342 mw_353 mw_354 mw_41 mw_355 (va_Decl.of (x := yX8_climbWay) (S.2.2.2.2 _ (hb _ mw_341)) (S.2.2.2.2 _ (hb _ mw_367))) (by decide +kernel) ⟨Nat.le_trans (Nat.le_of_ble_eq_true rfl) hR.1, Nat.le_trans (Nat.le_of_ble_eq_true rfl) hR.2⟩) (wk_preV hN hK hI (ci := 4) rfl (wx_er hr9)) rfl rfl hsize rfl hW hdg hf
  · exact va_runU (owner := RX8) (x := yX8_climbWay) (As := [.ref (ad 1), .ref (ad (16 + k)), .int n]) (rest := rest) S (c_X8_climbWay l D cI cJ cS ad σ 6 k n hV hr9 hk (by omega) _) (wk_cwU 3 S.2.2.2.2 hb mw_430 mw_342 mw_351 mw_341 mw_36 mw_367 (va_Decl.of (x := yX8_climbWay) (S.2.2.2.2 _ (hb _ mw_341)) (S.2.2.2.2 _ (hb _ mw_367))) (by decide +kernel) ⟨Nat.le_trans (Nat.le_of_ble_eq_true rfl) hR.1, Nat.le_trans (Nat.le_of_ble_eq_true rfl) hR.2⟩) (wk_preV hN hK hI (ci := 1) rfl (wx_er hr9)) rfl rfl hsize rfl hW hdg hf
  · exact va_runU (owner := RX8) (x := yX8_climbWay) (As := [.ref (ad 1), .ref (ad (16 + k)), .int n]) (rest := rest) S (c_X9_climbWay l D cI cJ cS ad σ 7 k n hV hr9 hk (by omega) _) (wk_cwU 3 S.2.2.2.2 hb mw_430 mw_342 mw_361 mw_362 mw_44 mw_363 (va_Decl.of (x := yX8_climbWay) (S.2.2.2.2 _ (hb _ mw_341)) (S.2.2.2.2 _ (hb _ mw_367))) (by decide +kernel) ⟨Nat.le_trans (Nat.le_of_ble_eq_true rfl) hR.1, Nat.le_trans (Nat.le_of_ble_eq_true rfl) hR.2⟩) (wk_preV hN hK hI (ci := 8) rfl (wx_er hr9)) rfl rfl hsize rfl hW hdg hf
set_option maxHeartbeats 4000000 in
set_option maxRecDepth 100000 in
theorem c_X11_doDuty (l : Launch) (D : va_G) (cI cJ cS : ClassId) (ad : Nat → Nat) (σ : wk_St) (k : Nat) (d9 n : Int32) (hV : wk_V σ) (hk : k < wk_n σ) (hc : wk_nt σ + 28 < 2147483648) : wk_Cl l D (wk_tys cI cJ cS) yX11_doDuty (wk_M yX11_doDuty cX11_doDuty 4 (some .long)) ({ frames := 5, cells := 0, slots := 0, locals := 119 }) [.ref (ad 0), .ref (ad (16 + k)), .int d9, .int n] (wx_W cI cS ad σ) (wx_W cI cS ad) (fun r0 u0 => r0 = (wk_do d9 σ k n).1 ∧ u0 = (wk_do d9 σ k n).2) := by
  intro sz
  refine Met.ofW (cc := cX11_doDuty) (maxL := 4) (ret := (some .long)) (by decide) rfl ?_
  intro p e s m args below meth c s₁ B hml hv
  obtain ⟨rfl, hsz, hP, hK, hD0, hN⟩ := hv
  have hx := B.exec
  have hb := B.bytes
  have hr := B.returns
  have hts := atoms_spec (ws := wk_M yX11_doDuty cX11_doDuty 4 (some .long)) B.pre
  have hown : s.vm.findClass RX11 = some m.cls := findClass_of_methodNamed B.named
  have hlk := B.notSynchronized
  subst hsz
  have hI : wk_I D (va_A (wx_W cI cS ad σ) s.heap.size) s.heap s.heap [] (wx_W cI cS ad σ) := ⟨hP, hD0.self, va_S.rf⟩
  have hA : ∀ q : Nat, s.heap.size ≤ q → (va_A (wx_W cI cS ad σ) s.heap.size) q := fun q h => Or.inr h
  clear hP hD0
  generalize va_A (wx_W cI cS ad σ) s.heap.size = A at hI hA ⊢
  have hl := lv_entry ([.ref (ad 0), .ref (ad (16 + k)), .int d9, .int n]) (n := 4) (Nat.le_of_ble_eq_true rfl)
  rw [lg_entry_eq]
  generalize (lg_sl ([.ref (ad 0), .ref (ad (16 + k)), .int d9, .int n]) ++ List.replicate (4 - (lg_sl ([.ref (ad 0), .ref (ad (16 + k)), .int d9, .int n])).length) Slot.unset).toArray = ls at hl ⊢
  have hl : lv_has ls 4 [(0, .ref (ad 0)), (1, .ref (ad (16 + k))), (2, .int d9), (3, .int n)] := hl
  refine lv_iload_n hx hb dX11_doDuty_0 rfl (lv_at hl 2 rfl) ?_
  by_cases hs_1 : d9 = 0
  · refine lv_tableIn (tgt := 28) (off := 27) hx hb dX11_doDuty_1 (by rw [hs_1]; decide) (by rw [hs_1]; decide) (by rw [hs_1]; rfl) (by decide) ?_
    refine lv_aload_n hx hb dX11_doDuty_28 rfl (lv_at hl 1 rfl) ?_
    refine wk_get (v := .ref (ad (8 + wk_rk σ k))) hx hb hts (fun w h => wk_in_M w (lay_X6 w h)) hown hK hI (16 + k) (wx_em hk) rfl 3 (by decide) (hts _ (wk_in_M _ mw_193)) rfl rfl dX11_doDuty_29 ?_
    refine lv_aload_n hx hb dX11_doDuty_32 rfl (lv_at hl 0 rfl) ?_
    refine wk_get (v := .ref (ad 1)) hx hb hts (fun w h => wk_in_M w (lay_X11 w h)) hown hK hI (0) wx_e0 rfl 0 (by decide) (hts _ (wk_in_M _ mw_145)) rfl rfl dX11_doDuty_33 ?_
    refine lv_aload_n hx hb dX11_doDuty_36 rfl (lv_at hl 1 rfl) ?_
    refine lv_iload_n hx hb dX11_doDuty_37 rfl (lv_at hl 3 rfl) ?_
    refine wk_kL hI hA (wd_X11_toilWay (wk_rk σ k) k n (rest := []) ⟨hx, hb, hml, hown, hts⟩ wk_in_M hN hK hI hV (hV.rk hk) hk (by omega) ⟨(Nat.le_of_ble_eq_true rfl), (Nat.le_of_ble_eq_true rfl)⟩ hl.1 (lv_room (Nat.le_of_ble_eq_true rfl)) dX11_doDuty_38 ⟨(Nat.le_of_ble_eq_true rfl), (Nat.le_of_ble_eq_true rfl)⟩) (fun r u H locs hw hI => ?_)
    obtain ⟨rfl, rfl⟩ := hw
    have hG_2 : wk_G σ ((wk_toilR (wk_rk σ k) σ k n).2) 6 := wk_g_toilR (wk_rk σ k) σ k n
    exact wk_rl ((wk_toilR (wk_rk σ k) σ k n).2) hx hb hr hlk hK hI rfl (wk_post (by first | rfl | (simp only [wk_do, if_pos hs_1]; done) | (simp only [wk_do, if_pos hs_1]; rfl))) dX11_doDuty_41
  by_cases hs_3 : d9 = 1
  · refine lv_tableIn (tgt := 42) (off := 41) hx hb dX11_doDuty_1 (by rw [hs_3]; decide) (by rw [hs_3]; decide) (by rw [hs_3]; rfl) (by decide) ?_
    refine lv_aload_n hx hb dX11_doDuty_42 rfl (lv_at hl 1 rfl) ?_
    refine wk_get (v := .ref (ad (8 + wk_rk σ k))) hx hb hts (fun w h => wk_in_M w (lay_X6 w h)) hown hK hI (16 + k) (wx_em hk) rfl 3 (by decide) (hts _ (wk_in_M _ mw_193)) rfl rfl dX11_doDuty_43 ?_
    refine lv_aload_n hx hb dX11_doDuty_46 rfl (lv_at hl 0 rfl) ?_
    refine wk_get (v := .ref (ad 1)) hx hb hts (fun w h => wk_in_M w (lay_X11 w h)) hown hK hI (0) wx_e0 rfl 0 (by decide) (hts _ (wk_in_M _ mw_145)) rfl rfl dX11_doDuty_47 ?_
    refine lv_aload_n hx hb dX11_doDuty_50 rfl (lv_at hl 1 rfl) ?_
    refine lv_iload_n hx hb dX11_doDuty_51 rfl (lv_at hl 3 rfl) ?_
    refine wk_kL hI hA (wd_X11_payWay (wk_rk σ k) k n (rest := []) ⟨hx, hb, hml, hown, hts⟩ wk_in_M hN hK hI hV (hV.rk hk) hk (by omega) ⟨(Nat.le_of_ble_eq_true rfl), (Nat.le_of_ble_eq_true rfl)⟩ hl.1 (lv_room (Nat.le_of_ble_eq_true rfl)) dX11_doDuty_52 ⟨(Nat.le_of_ble_eq_true rfl), (Nat.le_of_ble_eq_true rfl)⟩) (fun r u H locs hw hI => ?_)
    obtain ⟨rfl, rfl⟩ := hw
    have hG_4 : wk_G σ ((wk_payR (wk_rk σ k) σ k n).2) 3 := wk_g_payR (wk_rk σ k) σ k n
    exact wk_rl ((wk_payR (wk_rk σ k) σ k n).2) hx hb hr hlk hK hI rfl (wk_post (by first | rfl | (simp only [wk_do, if_neg hs_1, if_pos hs_3]; done) | (simp only [wk_do, if_neg hs_1, if_pos hs_3]; rfl))) dX11_doDuty_55
  by_cases hs_5 : d9 = 2
  · refine lv_tableIn (tgt := 56) (off := 55) hx hb dX11_doDuty_1 (by rw [hs_5]; decide) (by rw [hs_5]; decide) (by rw [hs_5]; rfl) (by decide) ?_
    refine lv_aload_n hx hb dX11_doDuty_56 rfl (lv_at hl 1 rfl) ?_
    refine wk_get (v := .ref (ad (8 + wk_rk σ k))) hx hb hts (fun w h => wk_in_M w (lay_X6 w h)) hown hK hI (16 + k) (wx_em hk) rfl 3 (by decide) (hts _ (wk_in_M _ mw_193)) rfl rfl dX11_doDuty_57 ?_
    refine lv_aload_n hx hb dX11_doDuty_60 rfl (lv_at hl 0 rfl) ?_
    refine wk_get (v := .ref (ad 1)) hx hb hts (fun w h => wk_in_M w (lay_X11 w h)) hown hK hI (0) wx_e0 rfl 0 (by decide) (hts _ (wk_in_M _ mw_145)) rfl rfl dX11_doDuty_61 ?_
    refine lv_aload_n hx hb dX11_doDuty_64 rfl (lv_at hl 1 rfl) ?_
    refine lv_iload_n hx hb dX11_doDuty_65 rfl (lv_at hl 3 rfl) ?_
    refine wk_kI hI hA (wd_X11_climbWay (wk_rk σ k) k n (rest := []) ⟨hx, hb, hml, hown, hts⟩ wk_in_M hN hK hI hV (hV.rk hk) hk (by omega) ⟨(Nat.le_of_ble_eq_true rfl), (Nat.le_of_ble_eq_true rfl)⟩ hl.1 (lv_room (Nat.le_of_ble_eq_true rfl)) dX11_doDuty_66 ⟨(Nat.le_of_ble_eq_true rfl), (Nat.le_of_ble_eq_true rfl)⟩) (fun r u H locs hw hI => ?_)
    obtain ⟨rfl, rfl⟩ := hw
    have hG_6 : wk_G σ ((wk_climbR (wk_rk σ k) σ k n).2) 3 := wk_g_climbR (wk_rk σ k) σ k n
    refine lv_i2l hx hb dX11_doDuty_69 rfl ?_
    exact wk_rl ((wk_climbR (wk_rk σ k) σ k n).2) hx hb hr hlk hK hI rfl (wk_post (by first | rfl | (simp only [wk_do, if_neg hs_1, if_neg hs_3, if_pos hs_5]; done) | (simp only [wk_do, if_neg hs_1, if_neg hs_3, if_pos hs_5]; rfl))) dX11_doDuty_70
  refine lv_tableOut (tgt := 71) hx hb dX11_doDuty_1 (by have q0 := lv_neT hs_1 wk_lit0; have q1 := lv_neT hs_3 wk_lit1; have q2 := lv_neT hs_5 wk_lit2; omega) (by decide) ?_
  refine lv_aload_n hx hb dX11_doDuty_71 rfl (lv_at hl 1 rfl) ?_
  refine wk_get (v := .ref (ad (8 + wk_rk σ k))) hx hb hts (fun w h => wk_in_M w (lay_X6 w h)) hown hK hI (16 + k) (wx_em hk) rfl 3 (by decide) (hts _ (wk_in_M _ mw_193)) rfl rfl dX11_doDuty_72 ?_
  refine lv_aload_n hx hb dX11_doDuty_75 rfl (lv_at hl 0 rfl) ?_
  refine wk_get (v := .ref (ad 1)) hx hb hts (fun w h => wk_in_M w (lay_X11 w h)) hown hK hI (0) wx_e0 rfl 0 (by decide) (hts _ (wk_in_M _ mw_145)) rfl rfl dX11_doDuty_76 ?_
  refine lv_aload_n hx hb dX11_doDuty_79 rfl (lv_at hl 1 rfl) ?_
  refine lv_iload_n hx hb dX11_doDuty_80 rfl (lv_at hl 3 rfl) ?_
  refine wk_kI hI hA (wd_X11_heedWay (wk_rk σ k) k n (rest := []) ⟨hx, hb, hml, hown, hts⟩ wk_in_M hN hK hI hV (hV.rk hk) hk (by omega) ⟨(Nat.le_of_ble_eq_true rfl), (Nat.le_of_ble_eq_true rfl)⟩ hl.1 (lv_room (Nat.le_of_ble_eq_true rfl)) dX11_doDuty_81 ⟨(Nat.le_of_ble_eq_true rfl), (Nat.le_of_ble_eq_true rfl)⟩) (fun r u H locs hw hI => ?_)
  obtain ⟨rfl, rfl⟩ := hw
  have hG_7 : wk_G σ ((wk_heedR (wk_rk σ k) σ k n).2) 28 := wk_g_heedR (wk_rk σ k) σ k n hV.1
  refine lv_i2l hx hb dX11_doDuty_84 rfl ?_
  exact wk_rl ((wk_heedR (wk_rk σ k) σ k n).2) hx hb hr hlk hK hI rfl (wk_post (by first | rfl | (simp only [wk_do, if_neg hs_1, if_neg hs_3, if_neg hs_5]; done) | (simp only [wk_do, if_neg hs_1, if_neg hs_3, if_neg hs_5]; rfl))) dX11_doDuty_85
end
section
set_option maxHeartbeats 4000000 in
set_option maxRecDepth 100000 in
theorem c_X8_raceWay (l : Launch) (D : va_G) (cI cJ cS : ClassId) (ad : Nat → Nat) (σ : wk_St) (r k : Nat) (n m9 : Int32) (hV : wk_V σ) (hr9 : r < 8) (hk : k < wk_n σ) (hc : wk_nt σ + 60 < 2147483648) (hm9 : 0 ≤ m9 ∧ m9 ≤ 20) : wk_Ci l D (wk_tys cI cJ cS) yX8_raceWay (wk_M yX8_raceWay cX8_raceWay 8 (some .int)) ({ frames := 4, cells := 0, slots := 0, locals := 92 }) [.ref (ad (8 + r)), .ref (ad 1), .ref (ad (16 + k)), .int n, .int m9] (wx_W cI cS ad σ) (wx_W cI cS ad) (fun r0 u0 => r0 = (wk_raceL r k n m9.toNatClampNeg 0 σ).1 ∧ u0 = (wk_raceL r k n m9.toNatClampNeg 0 σ).2) := by
  intro sz
  refine Met.ofW (cc := cX8_raceWay) (maxL := 8) (ret := (some .int)) (by decide) rfl ?_
  intro p e s m args below meth c s₁ B hml hv
  obtain ⟨rfl, hsz, hP, hK, hD0, hN⟩ := hv
  have hx := B.exec
  have hb := B.bytes
  have hr := B.returns
  have hts := atoms_spec (ws := wk_M yX8_raceWay cX8_raceWay 8 (some .int)) B.pre
  have hown : s.vm.findClass RX8 = some m.cls := findClass_of_methodNamed B.named
  have hlk := B.notSynchronized
  subst hsz
  have hI : wk_I D (va_A (wx_W cI cS ad σ) s.heap.size) s.heap s.heap [] (wx_W cI cS ad σ) := ⟨hP, hD0.self, va_S.rf⟩
  have hA : ∀ q : Nat, s.heap.size ≤ q → (va_A (wx_W cI cS ad σ) s.heap.size) q := fun q h => Or.inr h
  clear hP hD0
  generalize va_A (wx_W cI cS ad σ) s.heap.size = A at hI hA ⊢
  have hl := lv_entry ([.ref (ad (8 + r)), .ref (ad 1), .ref (ad (16 + k)), .int n, .int m9]) (n := 8) (Nat.le_of_ble_eq_true rfl)
  rw [lg_entry_eq]
  generalize (lg_sl ([.ref (ad (8 + r)), .ref (ad 1), .ref (ad (16 + k)), .int n, .int m9]) ++ List.replicate (8 - (lg_sl ([.ref (ad (8 + r)), .ref (ad 1), .ref (ad (16 + k)), .int n, .int m9])).length) Slot.unset).toArray = ls at hl ⊢
  have hl : lv_has ls 8 [(0, .ref (ad (8 + r))), (1, .ref (ad 1)), (2, .ref (ad (16 + k))), (3, .int n), (4, .int m9)] := hl
  obtain ⟨M, hM, rfl⟩ := nI_of2 (x := m9) (M := 20) (n := 20) (by decide) (fun q => wk_lnl q hm9.1) hm9.2
  refine lv_iconst (v := 0) hx hb dX8_raceWay_0 (by decide) ?_
  refine lv_istore (lv' := [(5, .int 0), (0, .ref (ad (8 + r))), (1, .ref (ad 1)), (2, .ref (ad (16 + k))), (3, .int n), (4, .int (nI M))]) hx hb dX8_raceWay_1 hl (by decide) rfl (fun ls hl => ?_)
  refine lv_iconst (v := 0) hx hb dX8_raceWay_3 (by decide) ?_
  refine lv_istore (lv' := [(6, .int 0), (5, .int 0), (0, .ref (ad (8 + r))), (1, .ref (ad 1)), (2, .ref (ad (16 + k))), (3, .int n), (4, .int (nI M))]) hx hb dX8_raceWay_4 hl (by decide) rfl (fun ls hl => ?_)
  refine wk_loop (fun i H locs ls => ∃ (v : Int32) (τ : wk_St), wk_raceL r k n (M - i) v τ = wk_raceL r k n M 0 σ ∧ wk_G σ τ (3 * i) ∧ wk_I D A s.heap H locs (wx_W cI cS ad τ) ∧ lv_has ls 8 [(0, .ref (ad (8 + r))), (1, .ref (ad 1)), (2, .ref (ad (16 + k))), (3, .int n), (4, .int (nI M)), (5, .int v), (6, .int (nI i))]) M ?_ ?_ M 0 _ _ _ (Nat.zero_add _) ⟨0, σ, rfl, wk_G.rf _ _, hI, lv_sub hl [2, 3, 4, 5, 6, 1, 0] rfl⟩
  · intro H locs ls hinv
    obtain ⟨v, τ, hE, hGτ, hI, hl⟩ := hinv
    rw [Nat.sub_self] at hE
    refine lv_iload hx hb dX8_raceWay_6 (lv_at hl 6 rfl) ?_
    refine lv_iload hx hb dX8_raceWay_8 (lv_at hl 4 rfl) ?_
    refine lv_icmp_ge (tgt := 44) hx hb dX8_raceWay_10 (by decide) (fun c_1 => ?_) (fun c_1 => ?_)
    · refine lv_iload hx hb dX8_raceWay_44 (lv_at hl 5 rfl) ?_
      exact wk_ri τ hx hb hr hlk hK hI rfl (wk_post (by rw [nI_clamp (by omega), ← hE]; rfl)) dX8_raceWay_46
    · exact absurd (by simp only [Int32.lt_iff_toInt_lt, Int32.le_iff_toInt_le]; omega) c_1
  · intro i H locs ls hi hinv ih
    obtain ⟨v, τ, hE, hGτ, hI, hl⟩ := hinv
    have hMi : M - i = M - (i + 1) + 1 := by omega
    rw [hMi, wk_raceL] at hE
    refine lv_iload hx hb dX8_raceWay_6 (lv_at hl 6 rfl) ?_
    refine lv_iload hx hb dX8_raceWay_8 (lv_at hl 4 rfl) ?_
    refine lv_icmp_ge (tgt := 44) hx hb dX8_raceWay_10 (by decide) (fun c_2 => ?_) (fun c_2 => ?_)
    · exact absurd c_2 (nI_ge hi (by omega))
    · refine lv_aload_n hx hb dX8_raceWay_13 rfl (lv_at hl 0 rfl) ?_
      refine lv_aload_n hx hb dX8_raceWay_14 rfl (lv_at hl 1 rfl) ?_
      refine lv_aload_n hx hb dX8_raceWay_15 rfl (lv_at hl 2 rfl) ?_
      refine lv_iload_n hx hb dX8_raceWay_16 rfl (lv_at hl 3 rfl) ?_
      refine wk_kI hI hA (wd_X8_climbWay r k n (rest := []) ⟨hx, hb, hml, hown, hts⟩ wk_in_M hN hK hI (hGτ.V hV) hr9 (hGτ.lt hk) (by have hq := hGτ.nt; have hq12 := hV.1; omega) ⟨(Nat.le_of_ble_eq_true rfl), (Nat.le_of_ble_eq_true rfl)⟩ hl.1 (lv_room (Nat.le_of_ble_eq_true rfl)) dX8_raceWay_17 ⟨(Nat.le_of_ble_eq_true rfl), (Nat.le_of_ble_eq_true rfl)⟩) (fun r u H locs hw hI => ?_)
      obtain ⟨rfl, rfl⟩ := hw
      have hG_3 : wk_G σ ((wk_climbR r τ k n).2) ((3 * i) + 3) := hGτ.trans (wk_g_climbR r τ k n)
      refine lv_istore (lv' := [(7, .int ((wk_climbR r τ k n).1)), (0, .ref (ad (8 + r))), (1, .ref (ad 1)), (2, .ref (ad (16 + k))), (3, .int n), (4, .int (nI M)), (5, .int v), (6, .int (nI i))]) hx hb dX8_raceWay_20 hl (by decide) rfl (fun ls hl => ?_)
      refine lv_iload hx hb dX8_raceWay_22 (lv_at hl 0 rfl) ?_
      refine lv_iconst (v := (-1)) hx hb dX8_raceWay_24 (by decide) ?_
      refine lv_icmp_ne (tgt := 31) hx hb dX8_raceWay_25 (by decide) (fun c_4 => ?_) (fun c_4 => ?_)
      · refine lv_iload hx hb dX8_raceWay_31 (lv_at hl 6 rfl) ?_
        refine lv_iload hx hb dX8_raceWay_33 (lv_at hl 0 rfl) ?_
        refine lv_iadd hx hb dX8_raceWay_35 ?_
        refine lv_istore (lv' := [(5, .int (v + ((wk_climbR r τ k n).1))), (7, .int ((wk_climbR r τ k n).1)), (0, .ref (ad (8 + r))), (1, .ref (ad 1)), (2, .ref (ad (16 + k))), (3, .int n), (4, .int (nI M)), (6, .int (nI i))]) hx hb dX8_raceWay_36 hl (by decide) rfl (fun ls hl => ?_)
        refine lv_iinc (v := nI (i + 1)) (lv' := [(6, .int (nI (i + 1))), (5, .int (v + ((wk_climbR r τ k n).1))), (7, .int ((wk_climbR r τ k n).1)), (0, .ref (ad (8 + r))), (1, .ref (ad 1)), (2, .ref (ad (16 + k))), (3, .int n), (4, .int (nI M))]) hx hb dX8_raceWay_38 hl (k := 7) rfl (nI_1 _) (by decide) rfl (fun ls hl => ?_)
        refine lv_goto (tgt := 6) hx hb dX8_raceWay_41 (by decide) ?_
        rw [if_neg c_4] at hE
        exact ih _ _ _ ⟨_, _, hE, hG_3.up (by omega), hI, lv_sub hl [3, 4, 5, 6, 7, 1, 0] rfl⟩
      · refine lv_iload hx hb dX8_raceWay_28 (lv_at hl 6 rfl) ?_
        exact wk_ri ((wk_climbR r τ k n).2) hx hb hr hlk hK hI rfl (wk_post (by rw [nI_clamp (by omega), ← hE, if_pos c_4])) dX8_raceWay_30
set_option maxHeartbeats 4000000 in
set_option maxRecDepth 100000 in
theorem c_X4_raceWay (l : Launch) (D : va_G) (cI cJ cS : ClassId) (ad : Nat → Nat) (σ : wk_St) (r k : Nat) (n m9 : Int32) (hV : wk_V σ) (hr9 : r < 8) (hk : k < wk_n σ) (hc : wk_nt σ + 60 < 2147483648) (hm9 : 0 ≤ m9 ∧ m9 ≤ 20) : wk_Ci l D (wk_tys cI cJ cS) yX4_raceWay (wk_M yX4_raceWay cX4_raceWay 5 (some .int)) ({ frames := 5, cells := 0, slots := 0, locals := 119 }) [.ref (ad (8 + r)), .ref (ad 1), .ref (ad (16 + k)), .int n, .int m9] (wx_W cI cS ad σ) (wx_W cI cS ad) (fun r0 u0 => r0 = ((2 * (wk_raceL r k n (if 3 ≤ m9 then (3 : Int32) else m9).toNatClampNeg 0 σ).1, (wk_raceL r k n (if 3 ≤ m9 then (3 : Int32) else m9).toNatClampNeg 0 σ).2)).1 ∧ u0 = ((2 * (wk_raceL r k n (if 3 ≤ m9 then (3 : Int32) else m9).toNatClampNeg 0 σ).1, (wk_raceL r k n (if 3 ≤ m9 then (3 : Int32) else m9).toNatClampNeg 0 σ).2)).2) := by
  intro sz
  refine Met.ofW (cc := cX4_raceWay) (maxL := 5) (ret := (some .int)) (by decide) rfl ?_
  intro p e s m args below meth c s₁ B hml hv
  obtain ⟨rfl, hsz, hP, hK, hD0, hN⟩ := hv
  have hx := B.exec
  have hb := B.bytes
  have hr := B.returns
  have hts := atoms_spec (ws := wk_M yX4_raceWay cX4_raceWay 5 (some .int)) B.pre
  have hown : s.vm.findClass RX4 = some m.cls := findClass_of_methodNamed B.named
  have hlk := B.notSynchronized
  subst hsz
  have hI : wk_I D (va_A (wx_W cI cS ad σ) s.heap.size) s.heap s.heap [] (wx_W cI cS ad σ) := ⟨hP, hD0.self, va_S.rf⟩
  have hA : ∀ q : Nat, s.heap.size ≤ q → (va_A (wx_W cI cS ad σ) s.heap.size) q := fun q h => Or.inr h
  clear hP hD0
  generalize va_A (wx_W cI cS ad σ) s.heap.size = A at hI hA ⊢
  have hl := lv_entry ([.ref (ad (8 + r)), .ref (ad 1), .ref (ad (16 + k)), .int n, .int m9]) (n := 5) (Nat.le_of_ble_eq_true rfl)
  rw [lg_entry_eq]
  generalize (lg_sl ([.ref (ad (8 + r)), .ref (ad 1), .ref (ad (16 + k)), .int n, .int m9]) ++ List.replicate (5 - (lg_sl ([.ref (ad (8 + r)), .ref (ad 1), .ref (ad (16 + k)), .int n, .int m9])).length) Slot.unset).toArray = ls at hl ⊢
  have hl : lv_has ls 5 [(0, .ref (ad (8 + r))), (1, .ref (ad 1)), (2, .ref (ad (16 + k))), (3, .int n), (4, .int m9)] := hl
  refine lv_iconst (v := 2) hx hb dX4_raceWay_0 (by decide) ?_
  refine lv_aload_n hx hb dX4_raceWay_1 rfl (lv_at hl 0 rfl) ?_
  refine lv_aload_n hx hb dX4_raceWay_2 rfl (lv_at hl 1 rfl) ?_
  refine lv_aload_n hx hb dX4_raceWay_3 rfl (lv_at hl 2 rfl) ?_
  refine lv_iload_n hx hb dX4_raceWay_4 rfl (lv_at hl 3 rfl) ?_
  refine lv_iload hx hb dX4_raceWay_5 (lv_at hl 4 rfl) ?_
  refine lv_iconst (v := 3) hx hb dX4_raceWay_7 (by decide) ?_
  refine lv_icmp_ge (tgt := 16) hx hb dX4_raceWay_8 (by decide) (fun c_1 => ?_) (fun c_1 => ?_)
  · refine lv_iconst (v := 3) hx hb dX4_raceWay_16 (by decide) ?_
    refine wk_kI hI hA (wk_runP (x := (⟨RX5, "raceWay", "(LWatchBill$Crew;LWatchBill$Member;II)I"⟩ : MethodName)) (As := [.ref (ad 1), .ref (ad (16 + k)), .int n, .int 3]) (rest := [.int 2]) ⟨hx, hb, hml, hown, hts⟩ (c_X8_raceWay l D cI cJ cS ad σ r k n 3 hV hr9 hk hc (by decide) _) (wk_cwP 4 hts wk_in_M mw_422 mw_423 mw_130 mw_414 mw_36 mw_429 wk_sub_X5_X8 hN (by decide +kernel) ⟨(Nat.le_of_ble_eq_true rfl), (Nat.le_of_ble_eq_true rfl)⟩) (wk_preR hN hK hI hr9) rfl rfl hl.1 rfl (lv_room (Nat.le_of_ble_eq_true rfl)) dX4_raceWay_17 ⟨(Nat.le_of_ble_eq_true rfl), (Nat.le_of_ble_eq_true rfl)⟩) (fun r u H locs hw hI => ?_)
    obtain ⟨rfl, rfl⟩ := hw
    refine lv_imul hx hb dX4_raceWay_20 ?_
    exact wk_ri ((wk_raceL r k n (3 : Int32).toNatClampNeg 0 σ).2) hx hb hr hlk hK hI rfl (wk_post (by rw [if_pos c_1])) dX4_raceWay_21
  · refine lv_iload hx hb dX4_raceWay_11 (lv_at hl 4 rfl) ?_
    refine lv_goto (tgt := 17) hx hb dX4_raceWay_13 (by decide) ?_
    refine wk_kI hI hA (wk_runP (x := (⟨RX5, "raceWay", "(LWatchBill$Crew;LWatchBill$Member;II)I"⟩ : MethodName)) (As := [.ref (ad 1), .ref (ad (16 + k)), .int n, .int m9]) (rest := [.int 2]) ⟨hx, hb, hml, hown, hts⟩ (c_X8_raceWay l D cI cJ cS ad σ r k n m9 hV hr9 hk hc hm9 _) (wk_cwP 4 hts wk_in_M mw_422 mw_423 mw_130 mw_414 mw_36 mw_429 wk_sub_X5_X8 hN (by decide +kernel) ⟨(Nat.le_of_ble_eq_true rfl), (Nat.le_of_ble_eq_true rfl)⟩) (wk_preR hN hK hI hr9) rfl rfl hl.1 rfl (lv_room (Nat.le_of_ble_eq_true rfl)) dX4_raceWay_17 ⟨(Nat.le_of_ble_eq_true rfl), (Nat.le_of_ble_eq_true rfl)⟩) (fun r u H locs hw hI => ?_)
    obtain ⟨rfl, rfl⟩ := hw
    refine lv_imul hx hb dX4_raceWay_20 ?_
    exact wk_ri ((wk_raceL r k n m9.toNatClampNeg 0 σ).2) hx hb hr hlk hK hI rfl (wk_post (by rw [if_neg c_1])) dX4_raceWay_21
set_option maxHeartbeats 4000000 in
set_option maxRecDepth 100000 in
theorem wd_X11_raceWay {p : Program} {l : Launch} {e : Env} {R : Room} {s : State} {m : MethodId} {args : Array Value} {below : List Frame} {meth : Method} {c : Code} {H : Heap} {locs : List Loc} {cells slots : Nat} {Ts : List Cond} {cc : ByteArray} {nL pc : Nat} {ls : Array Slot} {rest : List Value} {A : Nat → Prop} {H0 : Heap} {D : va_G} {cI cJ cS : ClassId} {ad : Nat → Nat} {σ : wk_St} (r k : Nat) (n m9 : Int32) (S : CallFix p m c cc nL s args Ts RX11) (hb : ∀ w ∈ wk_T, w ∈ Ts) (hN : wk_N s) (hK : va_K D vwCl (wk_tys cI cJ cS) s) (hI : wk_I D A H0 H locs (wx_W cI cS ad σ)) (hV : wk_V σ) (hr9 : r < 8) (hk : k < wk_n σ) (hc : wk_nt σ + 60 < 2147483648) (hm9 : 0 ≤ m9 ∧ m9 ≤ 20) (hR : 6 ≤ R.frames ∧ 143 ≤ R.locals) (hsize : ls.size = nL) (hW : 2 * (F0 m pc ls (.int m9 :: .int n :: .ref (ad (16 + k)) :: .ref (ad 1) :: .ref (ad (8 + r)) :: rest)).monitorRoom + (rest.map fun v => v.category).sum ≤ 8) (hdg : decode cc pc = .ok (.invokevirtual 123, 3)) (hf : cells + 0 ≤ R.cells ∧ slots + 0 ≤ R.slots) : va_Run p l e R s m args below meth c H locs cells slots 0 0 (F0 m pc ls (.int m9 :: .int n :: .ref (ad (16 + k)) :: .ref (ad 1) :: .ref (ad (8 + r)) :: rest)) rest (va_Qi (fun v u => v = (wk_raceR r σ k n m9).1 ∧ u = (wk_raceR r σ k n m9).2) (wk_B D (wk_tys cI cJ cS) (va_A (wx_W cI cS ad σ) H.size) (wx_W cI cS ad)) (va_A (wx_W cI cS ad σ) H.size) (Value.ref (ad (8 + r)) :: [.ref (ad 1), .ref (ad (16 + k)), .int n, .int m9]).toArray) (va_A (wx_W cI cS ad σ) H.size) := by
  rcases (show r = 0 ∨ r = 1 ∨ r = 2 ∨ r = 3 ∨ r = 4 ∨ r = 5 ∨ r = 6 ∨ r = 7 by omega) with rfl | rfl | rfl | rfl | rfl | rfl | rfl | rfl
  · exact va_runU (owner := RX8) (x := yX8_raceWay) (As := [.ref (ad 1), .ref (ad (16 + k)), .int n, .int m9]) (rest := rest) S (c_X8_raceWay l D cI cJ cS ad σ 0 k n m9 hV hr9 hk (by omega) hm9 _) (wk_cwU 4 S.2.2.2.2 hb mw_413 mw_415 mw_418 mw_414 mw_36 mw_429 (va_Decl.of (x := yX8_raceWay) (S.2.2.2.2 _ (hb _ mw_414)) (S.2.2.2.2 _ (hb _ mw_429))) (by decide +kernel) ⟨Nat.le_trans (Nat.le_of_ble_eq_true rfl) hR.1, Nat.le_trans (Nat.le_of_ble_eq_true rfl) hR.2⟩) (wk_preV hN hK hI (ci := 3) rfl (wx_er hr9)) rfl rfl hsize rfl hW hdg hf
  · exact va_runU (owner := RX8) (x := yX8_raceWay) (As := [.ref (ad 1), .ref (ad (16 + k)), .int n, .int m9]) (rest := rest) S (c_X8_raceWay l D cI cJ cS ad σ 1 k n m9 hV hr9 hk (by omega) hm9 _) (wk_cwU 4 S.2.2.2.2 hb mw_413 mw_415 mw_426 mw_414 mw_36 mw_429 (va_Decl.of (x := yX8_raceWay) (S.2.2.2.2 _ (hb _ mw_414)) (S.2.2.2.2 _ (hb _ mw_429))) (by decide +kernel) ⟨Nat.le_trans (Nat.le_of_ble_eq_true rfl) hR.1, Nat.le_trans (Nat.le_of_ble_eq_true rfl) hR.2⟩) (wk_preV hN hK hI (ci := 7) rfl (wx_er hr9)) rfl rfl hsize rfl hW hdg hf
  · exact va_runU (owner := RX8) (x := yX8_raceWay) (As := [.ref (ad 1), .ref (ad (16 + k)), .int n, .int m9]) (rest := rest) S (c_X8_raceWay l D cI cJ cS ad σ 2 k n m9 hV hr9 hk (by omega) hm9 _) (wk_cwU 4 S.2.2.2.2 hb mw_413 mw_415 mw_428 mw_414 mw_36 mw_429 (va_Decl.of (x := yX8_raceWay) (S.2.2.2.2 _ (hb _ mw_414)) (S.2.2.2.2 _ (hb _ mw_429))) (by decide +kernel) ⟨Nat.le_trans (Nat.le_of_ble_eq_true rfl) hR.1, Nat.le_trans (Nat.le_of_ble_eq_true rfl) hR.2⟩) (wk_preV hN hK hI (ci := 9) rfl (wx_er hr9)) rfl rfl hsize rfl hW hdg hf
  · exact va_runU (owner := RX8) (x := yX8_raceWay) (As := [.ref (ad 1), .ref (ad (16 + k)), .int n, .int m9]) (rest := rest) S (c_X8_raceWay l D cI cJ cS ad σ 3 k n m9 hV hr9 hk (by omega) hm9 _) (wk_cwU 4 S.2.2.2.2 hb mw_413 mw_415 mw_416 mw_414 mw_36 mw_429 (va_Decl.of (x := yX8_raceWay) (S.2.2.2.2 _ (hb _ mw_414)) (S.2.2.2.2 _ (hb _ mw_429))) (by decide +kernel) ⟨Nat.le_trans (Nat.le_of_ble_eq_true rfl) hR.1, Nat.le_trans (Nat.le_of_ble_eq_true rfl) hR.2⟩) (wk_preV hN hK hI (ci := 0) rfl (wx_er hr9)) rfl rfl hsize rfl hW hdg hf
  · exact va_runU (owner := RX8) (x := yX8_raceWay) (As := [.ref (ad 1), .ref (ad (16 + k)), .int n, .int m9]) (rest := rest) S (c_X8_raceWay l D cI cJ cS ad σ 4 k n m9 hV hr9 hk (by omega) hm9 _) (wk_cwU 4 S.2.2.2.2 hb mw_413 mw_415 mw_425 mw_414 mw_36 mw_429 (va_Decl.of (x := yX8_raceWay) (S.2.2.2.2 _ (hb _ mw_414)) (S.2.2.2.2 _ (hb _ mw_429))) (by decide +kernel) ⟨Nat.le_trans (Nat.le_of_ble_eq_true rfl) hR.1, Nat.le_trans (Nat.le_of_ble_eq_true rfl) hR.2⟩) (wk_preV hN hK hI (ci := 5) rfl (wx_er hr9)) rfl rfl hsize rfl hW hdg hf
  · exact va_runU (owner := RX8) (x := yX8_raceWay) (As := [.ref (ad 1), .ref (ad (16 + k)), .int n, .int m9]) (rest := rest) S (c_X4_raceWay l D cI cJ cS ad σ 5 k n m9 hV hr9 hk (by omega) hm9 _) (wk_cwU 4 S.2.2.2.2 hb mw_413 mw_415 mw_419 mw_420 mw_42 mw_421 (va_Decl.of (x := yX8_raceWay) (S.2.2.2.2 _ (hb _ mw_414)) (S.2.2.2.2 _ (hb _ mw_429))) (by decide +kernel) ⟨Nat.le_trans (Nat.le_of_ble_eq_true rfl) hR.1, Nat.le_trans (Nat.le_of_ble_eq_true rfl) hR.2⟩) (wk_preV hN hK hI (ci := 4) rfl (wx_er hr9)) rfl rfl hsize rfl hW hdg hf
  · exact va_runU (owner := RX8) (x := yX8_raceWay) (As := [.ref (ad 1), .ref (ad (16 + k)), .int n, .int m9]) (rest := rest) S (c_X8_raceWay l D cI cJ cS ad σ 6 k n m9 hV hr9 hk (by omega) hm9 _) (wk_cwU 4 S.2.2.2.2 hb mw_413 mw_415 mw_417 mw_414 mw_36 mw_429 (va_Decl.of (x := yX8_raceWay) (S.2.2.2.2 _ (hb _ mw_414)) (S.2.2.2.2 _ (hb _ mw_429))) (by decide +kernel) ⟨Nat.le_trans (Nat.le_of_ble_eq_true rfl) hR.1, Nat.le_trans (Nat.le_of_ble_eq_true rfl) hR.2⟩) (wk_preV hN hK hI (ci := 1) rfl (wx_er hr9)) rfl rfl hsize rfl hW hdg hf
  · exact va_runU (owner := RX8) (x := yX8_raceWay) (As := [.ref (ad 1), .ref (ad (16 + k)), .int n, .int m9]) (rest := rest) S (c_X8_raceWay l D cI cJ cS ad σ 7 k n m9 hV hr9 hk (by omega) hm9 _) (wk_cwU 4 S.2.2.2.2 hb mw_413 mw_415 mw_427 mw_414 mw_36 mw_429 (va_Decl.of (x := yX8_raceWay) (S.2.2.2.2 _ (hb _ mw_414)) (S.2.2.2.2 _ (hb _ mw_429))) (by decide +kernel) ⟨Nat.le_trans (Nat.le_of_ble_eq_true rfl) hR.1, Nat.le_trans (Nat.le_of_ble_eq_true rfl) hR.2⟩) (wk_preV hN hK hI (ci := 8) rfl (wx_er hr9)) rfl rfl hsize rfl hW hdg hf
end
section
set_option maxHeartbeats 4000000 in
set_option maxRecDepth 100000 in
theorem c_X11_toil (l : Launch) (D : va_G) (cI cJ cS : ClassId) (ad : Nat → Nat) (σ : wk_St) (k9 : Int32) (n : Int32) (hV : wk_V σ) : wk_Cl l D (wk_tys cI cJ cS) yX11_toil (wk_M yX11_toil cX11_toil 4 (some .long)) ({ frames := 5, cells := 0, slots := 0, locals := 119 }) [.ref (ad 0), .int k9, .int n] (wx_W cI cS ad σ) (wx_W cI cS ad) (fun r0 u0 => r0 = (wk_toil σ k9 n).1 ∧ u0 = (wk_toil σ k9 n).2) := by
  intro sz
  refine Met.ofW (cc := cX11_toil) (maxL := 4) (ret := (some .long)) (by decide) rfl ?_
  intro p e s m args below meth c s₁ B hml hv
  obtain ⟨rfl, hsz, hP, hK, hD0, hN⟩ := hv
  have hx := B.exec
  have hb := B.bytes
  have hr := B.returns
  have hts := atoms_spec (ws := wk_M yX11_toil cX11_toil 4 (some .long)) B.pre
  have hown : s.vm.findClass RX11 = some m.cls := findClass_of_methodNamed B.named
  have hlk := B.notSynchronized
  subst hsz
  have hI : wk_I D (va_A (wx_W cI cS ad σ) s.heap.size) s.heap s.heap [] (wx_W cI cS ad σ) := ⟨hP, hD0.self, va_S.rf⟩
  have hA : ∀ q : Nat, s.heap.size ≤ q → (va_A (wx_W cI cS ad σ) s.heap.size) q := fun q h => Or.inr h
  clear hP hD0
  generalize va_A (wx_W cI cS ad σ) s.heap.size = A at hI hA ⊢
  have hl := lv_entry ([.ref (ad 0), .int k9, .int n]) (n := 4) (Nat.le_of_ble_eq_true rfl)
  rw [lg_entry_eq]
  generalize (lg_sl ([.ref (ad 0), .int k9, .int n]) ++ List.replicate (4 - (lg_sl ([.ref (ad 0), .int k9, .int n])).length) Slot.unset).toArray = ls at hl ⊢
  have hl : lv_has ls 4 [(0, .ref (ad 0)), (1, .int k9), (2, .int n)] := hl
  rcases wk_okC hV k9 with ⟨j, hj, rfl⟩ | hno
  · have hK := hK
    refine lv_aload_n hx hb dX11_toil_0 rfl (lv_at hl 0 rfl) ?_
    refine wk_get (v := .ref (ad 1)) hx hb hts (fun w h => wk_in_M w (lay_X11 w h)) hown hK hI (0) wx_e0 rfl 0 (by decide) (hts _ (wk_in_M _ mw_145)) rfl rfl dX11_toil_1 ?_
    refine lv_iload_n hx hb dX11_toil_4 rfl (lv_at hl 1 rfl) ?_
    refine wk_kQ hI hA (va_runV (As := [.int (nI j)]) (rest := []) ⟨hx, hb, hml, hown, hts⟩ (c_X2_member l D cI cJ cS ad σ (nI j) hV _) (wk_cwV 1 hts wk_in_M mw_224 mw_225 mw_226 mw_35 mw_227 hdX2_member ⟨(Nat.le_of_ble_eq_true rfl), (Nat.le_of_ble_eq_true rfl)⟩) (wk_preV hN hK hI (ci := 2) rfl wx_e1) rfl rfl hl.1 rfl (lv_room (Nat.le_of_ble_eq_true rfl)) dX11_toil_5 ⟨(Nat.le_of_ble_eq_true rfl), (Nat.le_of_ble_eq_true rfl)⟩) (fun r u H locs hw hI => ?_)
    obtain ⟨rfl, hw⟩ := hw
    rw [hw] at hI
    rw [wx_findJ hV hj]
    refine W.eq (g2 := F0 m 8 ls [.ref (ad (16 + j))]) rfl ?_
    refine lv_astore_n (lv' := [(3, .ref (ad (16 + j))), (0, .ref (ad 0)), (1, .int (nI j)), (2, .int n)]) hx hb dX11_toil_8 rfl hl (by decide) rfl (fun ls hl => ?_)
    refine lv_aload_n hx hb dX11_toil_9 rfl (lv_at hl 0 rfl) ?_
    refine lv_ifnull hx hb dX11_toil_10 ?_
    refine lv_iconst (v := 0) hx hb dX11_toil_13 (by decide) ?_
    refine lv_iload_n hx hb dX11_toil_14 rfl (lv_at hl 3 rfl) ?_
    refine wk_kI hI hA (va_runS (As := [.int 0, .int n]) (rest := []) ⟨hx, hb, hml, hown, hts⟩ (c_X11_isBeyondBound l D cI cJ cS ad σ 0 n _) (wk_cwS 2 hts wk_in_M mw_240 mw_241 mw_34 mw_242 (hdX11_isBeyondBound).2 ⟨(Nat.le_of_ble_eq_true rfl), (Nat.le_of_ble_eq_true rfl)⟩) (wk_preS hN hK hI) rfl rfl hl.1 rfl (lv_room (Nat.le_of_ble_eq_true rfl)) dX11_toil_15 ⟨(Nat.le_of_ble_eq_true rfl), (Nat.le_of_ble_eq_true rfl)⟩) (fun r u H locs hw hI => ?_)
    obtain ⟨rfl, hw⟩ := hw
    rw [hw] at hI
    refine lv_if_eq (tgt := 25) hx hb dX11_toil_18 (by decide) (fun c_1 => ?_) (fun c_1 => ?_)
    · have c_1 := wk_b0 c_1
      refine lv_aload_n hx hb dX11_toil_25 rfl (lv_at hl 1 rfl) ?_
      refine wk_get (v := .ref (ad 1)) hx hb hts (fun w h => wk_in_M w (lay_X11 w h)) hown hK hI (0) wx_e0 rfl 0 (by decide) (hts _ (wk_in_M _ mw_145)) rfl rfl dX11_toil_26 ?_
      refine wk_kV hI hA (va_runV (As := []) (rest := []) ⟨hx, hb, hml, hown, hts⟩ (c_X2_forgetNotes l D cI cJ cS ad σ _) (wk_cwV 0 hts wk_in_M mw_247 mw_248 mw_249 mw_35 mw_250 hdX2_forgetNotes ⟨(Nat.le_of_ble_eq_true rfl), (Nat.le_of_ble_eq_true rfl)⟩) (wk_preV hN hK hI (ci := 2) rfl wx_e1) rfl rfl hl.1 rfl (lv_room (Nat.le_of_ble_eq_true rfl)) dX11_toil_29 ⟨(Nat.le_of_ble_eq_true rfl), (Nat.le_of_ble_eq_true rfl)⟩) (fun u H locs hw hI => ?_)
      obtain rfl := hw
      refine lv_aload_n hx hb dX11_toil_32 rfl (lv_at hl 0 rfl) ?_
      refine wk_get (v := .ref (ad (8 + wk_rk (wk_fg σ) j))) hx hb hts (fun w h => wk_in_M w (lay_X6 w h)) hown hK hI (16 + j) (wx_em hj) rfl 3 (by decide) (hts _ (wk_in_M _ mw_193)) rfl rfl dX11_toil_33 ?_
      refine lv_aload_n hx hb dX11_toil_36 rfl (lv_at hl 1 rfl) ?_
      refine wk_get (v := .ref (ad 1)) hx hb hts (fun w h => wk_in_M w (lay_X11 w h)) hown hK hI (0) wx_e0 rfl 0 (by decide) (hts _ (wk_in_M _ mw_145)) rfl rfl dX11_toil_37 ?_
      refine lv_aload_n hx hb dX11_toil_40 rfl (lv_at hl 0 rfl) ?_
      refine lv_iload_n hx hb dX11_toil_41 rfl (lv_at hl 3 rfl) ?_
      refine wk_kL hI hA (wd_X11_toilWay (wk_rk (wk_fg σ) j) j n (rest := []) ⟨hx, hb, hml, hown, hts⟩ wk_in_M hN hK hI hV (hV.rk hj) hj (by have hq0 : wk_nt (wk_fg σ) = 0 := rfl; have hq12 : wk_n (wk_fg σ) ≤ 12 := hV.1; omega) ⟨(Nat.le_of_ble_eq_true rfl), (Nat.le_of_ble_eq_true rfl)⟩ hl.1 (lv_room (Nat.le_of_ble_eq_true rfl)) dX11_toil_42 ⟨(Nat.le_of_ble_eq_true rfl), (Nat.le_of_ble_eq_true rfl)⟩) (fun r u H locs hw hI => ?_)
      obtain ⟨rfl, rfl⟩ := hw
      have hG_2 : wk_G (wk_fg σ) ((wk_toilR (wk_rk (wk_fg σ) j) (wk_fg σ) j n).2) 6 := wk_g_toilR (wk_rk (wk_fg σ) j) (wk_fg σ) j n
      exact wk_rl ((wk_toilR (wk_rk (wk_fg σ) j) (wk_fg σ) j n).2) hx hb hr hlk hK hI rfl (wk_post (by unfold wk_toil ; rw [wk_clJ hV hj, wk_ifT ⟨wk_okJ hV hj, Classical.not_not.mp c_1⟩]; first | done | rfl)) dX11_toil_45
    · have c_1 := wk_b1 c_1
      refine lv_ldc2 hx hb hown (hts _ (wk_in_M _ mw_246)) dX11_toil_21 ?_
      exact wk_rl σ hx hb hr hlk hK hI rfl (wk_post (by unfold wk_toil; rw [wk_clJ hV hj, wk_ifF (fun hq => c_1 hq.2)])) dX11_toil_24
  · have hK := hK
    refine lv_aload_n hx hb dX11_toil_0 rfl (lv_at hl 0 rfl) ?_
    refine wk_get (v := .ref (ad 1)) hx hb hts (fun w h => wk_in_M w (lay_X11 w h)) hown hK hI (0) wx_e0 rfl 0 (by decide) (hts _ (wk_in_M _ mw_145)) rfl rfl dX11_toil_1 ?_
    refine lv_iload_n hx hb dX11_toil_4 rfl (lv_at hl 1 rfl) ?_
    refine wk_kQ hI hA (va_runV (As := [.int k9]) (rest := []) ⟨hx, hb, hml, hown, hts⟩ (c_X2_member l D cI cJ cS ad σ k9 hV _) (wk_cwV 1 hts wk_in_M mw_224 mw_225 mw_226 mw_35 mw_227 hdX2_member ⟨(Nat.le_of_ble_eq_true rfl), (Nat.le_of_ble_eq_true rfl)⟩) (wk_preV hN hK hI (ci := 2) rfl wx_e1) rfl rfl hl.1 rfl (lv_room (Nat.le_of_ble_eq_true rfl)) dX11_toil_5 ⟨(Nat.le_of_ble_eq_true rfl), (Nat.le_of_ble_eq_true rfl)⟩) (fun r u H locs hw hI => ?_)
    obtain ⟨rfl, hw⟩ := hw
    rw [hw] at hI
    rw [wx_findN hno]
    refine W.eq (g2 := F0 m 8 ls [.null]) rfl ?_
    refine lv_astore_nN (lv' := [(3, .null), (0, .ref (ad 0)), (1, .int k9), (2, .int n)]) hx hb dX11_toil_8 rfl hl (by decide) rfl (fun ls hl => ?_)
    refine lv_aload_nN hx hb dX11_toil_9 rfl (lv_at hl 0 rfl) ?_
    refine lv_ifnullN (tgt := 21) hx hb dX11_toil_10 (by decide) ?_
    refine lv_ldc2 hx hb hown (hts _ (wk_in_M _ mw_246)) dX11_toil_21 ?_
    exact wk_rl σ hx hb hr hlk hK hI rfl (wk_post (by unfold wk_toil; rw [wk_ifF (fun hq => hno hq.1)])) dX11_toil_24
set_option maxHeartbeats 4000000 in
set_option maxRecDepth 100000 in
theorem c_X11_climb (l : Launch) (D : va_G) (cI cJ cS : ClassId) (ad : Nat → Nat) (σ : wk_St) (k9 : Int32) (n : Int32) (hV : wk_V σ) : wk_Ci l D (wk_tys cI cJ cS) yX11_climb (wk_M yX11_climb cX11_climb 4 (some .int)) ({ frames := 4, cells := 0, slots := 0, locals := 92 }) [.ref (ad 0), .int k9, .int n] (wx_W cI cS ad σ) (wx_W cI cS ad) (fun r0 u0 => r0 = (wk_climb σ k9 n).1 ∧ u0 = (wk_climb σ k9 n).2) := by
  intro sz
  refine Met.ofW (cc := cX11_climb) (maxL := 4) (ret := (some .int)) (by decide) rfl ?_
  intro p e s m args below meth c s₁ B hml hv
  obtain ⟨rfl, hsz, hP, hK, hD0, hN⟩ := hv
  have hx := B.exec
  have hb := B.bytes
  have hr := B.returns
  have hts := atoms_spec (ws := wk_M yX11_climb cX11_climb 4 (some .int)) B.pre
  have hown : s.vm.findClass RX11 = some m.cls := findClass_of_methodNamed B.named
  have hlk := B.notSynchronized
  subst hsz
  have hI : wk_I D (va_A (wx_W cI cS ad σ) s.heap.size) s.heap s.heap [] (wx_W cI cS ad σ) := ⟨hP, hD0.self, va_S.rf⟩
  have hA : ∀ q : Nat, s.heap.size ≤ q → (va_A (wx_W cI cS ad σ) s.heap.size) q := fun q h => Or.inr h
  clear hP hD0
  generalize va_A (wx_W cI cS ad σ) s.heap.size = A at hI hA ⊢
  have hl := lv_entry ([.ref (ad 0), .int k9, .int n]) (n := 4) (Nat.le_of_ble_eq_true rfl)
  rw [lg_entry_eq]
  generalize (lg_sl ([.ref (ad 0), .int k9, .int n]) ++ List.replicate (4 - (lg_sl ([.ref (ad 0), .int k9, .int n])).length) Slot.unset).toArray = ls at hl ⊢
  have hl : lv_has ls 4 [(0, .ref (ad 0)), (1, .int k9), (2, .int n)] := hl
  rcases wk_okC hV k9 with ⟨j, hj, rfl⟩ | hno
  · have hK := hK
    refine lv_aload_n hx hb dX11_climb_0 rfl (lv_at hl 0 rfl) ?_
    refine wk_get (v := .ref (ad 1)) hx hb hts (fun w h => wk_in_M w (lay_X11 w h)) hown hK hI (0) wx_e0 rfl 0 (by decide) (hts _ (wk_in_M _ mw_145)) rfl rfl dX11_climb_1 ?_
    refine lv_iload_n hx hb dX11_climb_4 rfl (lv_at hl 1 rfl) ?_
    refine wk_kQ hI hA (va_runV (As := [.int (nI j)]) (rest := []) ⟨hx, hb, hml, hown, hts⟩ (c_X2_member l D cI cJ cS ad σ (nI j) hV _) (wk_cwV 1 hts wk_in_M mw_224 mw_225 mw_226 mw_35 mw_227 hdX2_member ⟨(Nat.le_of_ble_eq_true rfl), (Nat.le_of_ble_eq_true rfl)⟩) (wk_preV hN hK hI (ci := 2) rfl wx_e1) rfl rfl hl.1 rfl (lv_room (Nat.le_of_ble_eq_true rfl)) dX11_climb_5 ⟨(Nat.le_of_ble_eq_true rfl), (Nat.le_of_ble_eq_true rfl)⟩) (fun r u H locs hw hI => ?_)
    obtain ⟨rfl, hw⟩ := hw
    rw [hw] at hI
    rw [wx_findJ hV hj]
    refine W.eq (g2 := F0 m 8 ls [.ref (ad (16 + j))]) rfl ?_
    refine lv_astore_n (lv' := [(3, .ref (ad (16 + j))), (0, .ref (ad 0)), (1, .int (nI j)), (2, .int n)]) hx hb dX11_climb_8 rfl hl (by decide) rfl (fun ls hl => ?_)
    refine lv_aload_n hx hb dX11_climb_9 rfl (lv_at hl 0 rfl) ?_
    refine lv_ifnull hx hb dX11_climb_10 ?_
    refine lv_iconst (v := 2) hx hb dX11_climb_13 (by decide) ?_
    refine lv_iload_n hx hb dX11_climb_14 rfl (lv_at hl 3 rfl) ?_
    refine wk_kI hI hA (va_runS (As := [.int 2, .int n]) (rest := []) ⟨hx, hb, hml, hown, hts⟩ (c_X11_isBeyondBound l D cI cJ cS ad σ 2 n _) (wk_cwS 2 hts wk_in_M mw_240 mw_241 mw_34 mw_242 (hdX11_isBeyondBound).2 ⟨(Nat.le_of_ble_eq_true rfl), (Nat.le_of_ble_eq_true rfl)⟩) (wk_preS hN hK hI) rfl rfl hl.1 rfl (lv_room (Nat.le_of_ble_eq_true rfl)) dX11_climb_15 ⟨(Nat.le_of_ble_eq_true rfl), (Nat.le_of_ble_eq_true rfl)⟩) (fun r u H locs hw hI => ?_)
    obtain ⟨rfl, hw⟩ := hw
    rw [hw] at hI
    refine lv_if_eq (tgt := 24) hx hb dX11_climb_18 (by decide) (fun c_1 => ?_) (fun c_1 => ?_)
    · have c_1 := wk_b0 c_1
      refine lv_aload_n hx hb dX11_climb_24 rfl (lv_at hl 1 rfl) ?_
      refine wk_get (v := .ref (ad 1)) hx hb hts (fun w h => wk_in_M w (lay_X11 w h)) hown hK hI (0) wx_e0 rfl 0 (by decide) (hts _ (wk_in_M _ mw_145)) rfl rfl dX11_climb_25 ?_
      refine wk_kV hI hA (va_runV (As := []) (rest := []) ⟨hx, hb, hml, hown, hts⟩ (c_X2_forgetNotes l D cI cJ cS ad σ _) (wk_cwV 0 hts wk_in_M mw_247 mw_248 mw_249 mw_35 mw_250 hdX2_forgetNotes ⟨(Nat.le_of_ble_eq_true rfl), (Nat.le_of_ble_eq_true rfl)⟩) (wk_preV hN hK hI (ci := 2) rfl wx_e1) rfl rfl hl.1 rfl (lv_room (Nat.le_of_ble_eq_true rfl)) dX11_climb_28 ⟨(Nat.le_of_ble_eq_true rfl), (Nat.le_of_ble_eq_true rfl)⟩) (fun u H locs hw hI => ?_)
      obtain rfl := hw
      refine lv_aload_n hx hb dX11_climb_31 rfl (lv_at hl 0 rfl) ?_
      refine wk_get (v := .ref (ad (8 + wk_rk (wk_fg σ) j))) hx hb hts (fun w h => wk_in_M w (lay_X6 w h)) hown hK hI (16 + j) (wx_em hj) rfl 3 (by decide) (hts _ (wk_in_M _ mw_193)) rfl rfl dX11_climb_32 ?_
      refine lv_aload_n hx hb dX11_climb_35 rfl (lv_at hl 1 rfl) ?_
      refine wk_get (v := .ref (ad 1)) hx hb hts (fun w h => wk_in_M w (lay_X11 w h)) hown hK hI (0) wx_e0 rfl 0 (by decide) (hts _ (wk_in_M _ mw_145)) rfl rfl dX11_climb_36 ?_
      refine lv_aload_n hx hb dX11_climb_39 rfl (lv_at hl 0 rfl) ?_
      refine lv_iload_n hx hb dX11_climb_40 rfl (lv_at hl 3 rfl) ?_
      refine wk_kI hI hA (wd_X11_climbWay (wk_rk (wk_fg σ) j) j n (rest := []) ⟨hx, hb, hml, hown, hts⟩ wk_in_M hN hK hI hV (hV.rk hj) hj (by have hq0 : wk_nt (wk_fg σ) = 0 := rfl; have hq12 : wk_n (wk_fg σ) ≤ 12 := hV.1; omega) ⟨(Nat.le_of_ble_eq_true rfl), (Nat.le_of_ble_eq_true rfl)⟩ hl.1 (lv_room (Nat.le_of_ble_eq_true rfl)) dX11_climb_41 ⟨(Nat.le_of_ble_eq_true rfl), (Nat.le_of_ble_eq_true rfl)⟩) (fun r u H locs hw hI => ?_)
      obtain ⟨rfl, rfl⟩ := hw
      have hG_2 : wk_G (wk_fg σ) ((wk_climbR (wk_rk (wk_fg σ) j) (wk_fg σ) j n).2) 3 := wk_g_climbR (wk_rk (wk_fg σ) j) (wk_fg σ) j n
      exact wk_ri ((wk_climbR (wk_rk (wk_fg σ) j) (wk_fg σ) j n).2) hx hb hr hlk hK hI rfl (wk_post (by unfold wk_climb ; rw [wk_clJ hV hj, wk_ifT ⟨wk_okJ hV hj, Classical.not_not.mp c_1⟩]; first | done | rfl)) dX11_climb_44
    · have c_1 := wk_b1 c_1
      refine lv_ldc hx hb hown (hts _ (wk_in_M _ mw_171)) dX11_climb_21 ?_
      exact wk_ri σ hx hb hr hlk hK hI rfl (wk_post (by unfold wk_climb; rw [wk_clJ hV hj, wk_ifF (fun hq => c_1 hq.2)])) dX11_climb_23
  · have hK := hK
    refine lv_aload_n hx hb dX11_climb_0 rfl (lv_at hl 0 rfl) ?_
    refine wk_get (v := .ref (ad 1)) hx hb hts (fun w h => wk_in_M w (lay_X11 w h)) hown hK hI (0) wx_e0 rfl 0 (by decide) (hts _ (wk_in_M _ mw_145)) rfl rfl dX11_climb_1 ?_
    refine lv_iload_n hx hb dX11_climb_4 rfl (lv_at hl 1 rfl) ?_
    refine wk_kQ hI hA (va_runV (As := [.int k9]) (rest := []) ⟨hx, hb, hml, hown, hts⟩ (c_X2_member l D cI cJ cS ad σ k9 hV _) (wk_cwV 1 hts wk_in_M mw_224 mw_225 mw_226 mw_35 mw_227 hdX2_member ⟨(Nat.le_of_ble_eq_true rfl), (Nat.le_of_ble_eq_true rfl)⟩) (wk_preV hN hK hI (ci := 2) rfl wx_e1) rfl rfl hl.1 rfl (lv_room (Nat.le_of_ble_eq_true rfl)) dX11_climb_5 ⟨(Nat.le_of_ble_eq_true rfl), (Nat.le_of_ble_eq_true rfl)⟩) (fun r u H locs hw hI => ?_)
    obtain ⟨rfl, hw⟩ := hw
    rw [hw] at hI
    rw [wx_findN hno]
    refine W.eq (g2 := F0 m 8 ls [.null]) rfl ?_
    refine lv_astore_nN (lv' := [(3, .null), (0, .ref (ad 0)), (1, .int k9), (2, .int n)]) hx hb dX11_climb_8 rfl hl (by decide) rfl (fun ls hl => ?_)
    refine lv_aload_nN hx hb dX11_climb_9 rfl (lv_at hl 0 rfl) ?_
    refine lv_ifnullN (tgt := 21) hx hb dX11_climb_10 (by decide) ?_
    refine lv_ldc hx hb hown (hts _ (wk_in_M _ mw_171)) dX11_climb_21 ?_
    exact wk_ri σ hx hb hr hlk hK hI rfl (wk_post (by unfold wk_climb; rw [wk_ifF (fun hq => hno hq.1)])) dX11_climb_23
set_option maxHeartbeats 4000000 in
set_option maxRecDepth 100000 in
theorem c_X11_heed (l : Launch) (D : va_G) (cI cJ cS : ClassId) (ad : Nat → Nat) (σ : wk_St) (k9 : Int32) (n : Int32) (hV : wk_V σ) : wk_Ci l D (wk_tys cI cJ cS) yX11_heed (wk_M yX11_heed cX11_heed 4 (some .int)) ({ frames := 5, cells := 0, slots := 0, locals := 116 }) [.ref (ad 0), .int k9, .int n] (wx_W cI cS ad σ) (wx_W cI cS ad) (fun r0 u0 => r0 = (wk_heed σ k9 n).1 ∧ u0 = (wk_heed σ k9 n).2) := by
  intro sz
  refine Met.ofW (cc := cX11_heed) (maxL := 4) (ret := (some .int)) (by decide) rfl ?_
  intro p e s m args below meth c s₁ B hml hv
  obtain ⟨rfl, hsz, hP, hK, hD0, hN⟩ := hv
  have hx := B.exec
  have hb := B.bytes
  have hr := B.returns
  have hts := atoms_spec (ws := wk_M yX11_heed cX11_heed 4 (some .int)) B.pre
  have hown : s.vm.findClass RX11 = some m.cls := findClass_of_methodNamed B.named
  have hlk := B.notSynchronized
  subst hsz
  have hI : wk_I D (va_A (wx_W cI cS ad σ) s.heap.size) s.heap s.heap [] (wx_W cI cS ad σ) := ⟨hP, hD0.self, va_S.rf⟩
  have hA : ∀ q : Nat, s.heap.size ≤ q → (va_A (wx_W cI cS ad σ) s.heap.size) q := fun q h => Or.inr h
  clear hP hD0
  generalize va_A (wx_W cI cS ad σ) s.heap.size = A at hI hA ⊢
  have hl := lv_entry ([.ref (ad 0), .int k9, .int n]) (n := 4) (Nat.le_of_ble_eq_true rfl)
  rw [lg_entry_eq]
  generalize (lg_sl ([.ref (ad 0), .int k9, .int n]) ++ List.replicate (4 - (lg_sl ([.ref (ad 0), .int k9, .int n])).length) Slot.unset).toArray = ls at hl ⊢
  have hl : lv_has ls 4 [(0, .ref (ad 0)), (1, .int k9), (2, .int n)] := hl
  rcases wk_okC hV k9 with ⟨j, hj, rfl⟩ | hno
  · have hK := hK
    refine lv_aload_n hx hb dX11_heed_0 rfl (lv_at hl 0 rfl) ?_
    refine wk_get (v := .ref (ad 1)) hx hb hts (fun w h => wk_in_M w (lay_X11 w h)) hown hK hI (0) wx_e0 rfl 0 (by decide) (hts _ (wk_in_M _ mw_145)) rfl rfl dX11_heed_1 ?_
    refine lv_iload_n hx hb dX11_heed_4 rfl (lv_at hl 1 rfl) ?_
    refine wk_kQ hI hA (va_runV (As := [.int (nI j)]) (rest := []) ⟨hx, hb, hml, hown, hts⟩ (c_X2_member l D cI cJ cS ad σ (nI j) hV _) (wk_cwV 1 hts wk_in_M mw_224 mw_225 mw_226 mw_35 mw_227 hdX2_member ⟨(Nat.le_of_ble_eq_true rfl), (Nat.le_of_ble_eq_true rfl)⟩) (wk_preV hN hK hI (ci := 2) rfl wx_e1) rfl rfl hl.1 rfl (lv_room (Nat.le_of_ble_eq_true rfl)) dX11_heed_5 ⟨(Nat.le_of_ble_eq_true rfl), (Nat.le_of_ble_eq_true rfl)⟩) (fun r u H locs hw hI => ?_)
    obtain ⟨rfl, hw⟩ := hw
    rw [hw] at hI
    rw [wx_findJ hV hj]
    refine W.eq (g2 := F0 m 8 ls [.ref (ad (16 + j))]) rfl ?_
    refine lv_astore_n (lv' := [(3, .ref (ad (16 + j))), (0, .ref (ad 0)), (1, .int (nI j)), (2, .int n)]) hx hb dX11_heed_8 rfl hl (by decide) rfl (fun ls hl => ?_)
    refine lv_aload_n hx hb dX11_heed_9 rfl (lv_at hl 0 rfl) ?_
    refine lv_ifnull hx hb dX11_heed_10 ?_
    refine lv_iconst (v := 3) hx hb dX11_heed_13 (by decide) ?_
    refine lv_iload_n hx hb dX11_heed_14 rfl (lv_at hl 3 rfl) ?_
    refine wk_kI hI hA (va_runS (As := [.int 3, .int n]) (rest := []) ⟨hx, hb, hml, hown, hts⟩ (c_X11_isBeyondBound l D cI cJ cS ad σ 3 n _) (wk_cwS 2 hts wk_in_M mw_240 mw_241 mw_34 mw_242 (hdX11_isBeyondBound).2 ⟨(Nat.le_of_ble_eq_true rfl), (Nat.le_of_ble_eq_true rfl)⟩) (wk_preS hN hK hI) rfl rfl hl.1 rfl (lv_room (Nat.le_of_ble_eq_true rfl)) dX11_heed_15 ⟨(Nat.le_of_ble_eq_true rfl), (Nat.le_of_ble_eq_true rfl)⟩) (fun r u H locs hw hI => ?_)
    obtain ⟨rfl, hw⟩ := hw
    rw [hw] at hI
    refine lv_if_eq (tgt := 24) hx hb dX11_heed_18 (by decide) (fun c_1 => ?_) (fun c_1 => ?_)
    · have c_1 := wk_b0 c_1
      refine lv_aload_n hx hb dX11_heed_24 rfl (lv_at hl 1 rfl) ?_
      refine wk_get (v := .ref (ad 1)) hx hb hts (fun w h => wk_in_M w (lay_X11 w h)) hown hK hI (0) wx_e0 rfl 0 (by decide) (hts _ (wk_in_M _ mw_145)) rfl rfl dX11_heed_25 ?_
      refine wk_kV hI hA (va_runV (As := []) (rest := []) ⟨hx, hb, hml, hown, hts⟩ (c_X2_forgetNotes l D cI cJ cS ad σ _) (wk_cwV 0 hts wk_in_M mw_247 mw_248 mw_249 mw_35 mw_250 hdX2_forgetNotes ⟨(Nat.le_of_ble_eq_true rfl), (Nat.le_of_ble_eq_true rfl)⟩) (wk_preV hN hK hI (ci := 2) rfl wx_e1) rfl rfl hl.1 rfl (lv_room (Nat.le_of_ble_eq_true rfl)) dX11_heed_28 ⟨(Nat.le_of_ble_eq_true rfl), (Nat.le_of_ble_eq_true rfl)⟩) (fun u H locs hw hI => ?_)
      obtain rfl := hw
      refine lv_aload_n hx hb dX11_heed_31 rfl (lv_at hl 0 rfl) ?_
      refine wk_get (v := .ref (ad (8 + wk_rk (wk_fg σ) j))) hx hb hts (fun w h => wk_in_M w (lay_X6 w h)) hown hK hI (16 + j) (wx_em hj) rfl 3 (by decide) (hts _ (wk_in_M _ mw_193)) rfl rfl dX11_heed_32 ?_
      refine lv_aload_n hx hb dX11_heed_35 rfl (lv_at hl 1 rfl) ?_
      refine wk_get (v := .ref (ad 1)) hx hb hts (fun w h => wk_in_M w (lay_X11 w h)) hown hK hI (0) wx_e0 rfl 0 (by decide) (hts _ (wk_in_M _ mw_145)) rfl rfl dX11_heed_36 ?_
      refine lv_aload_n hx hb dX11_heed_39 rfl (lv_at hl 0 rfl) ?_
      refine lv_iload_n hx hb dX11_heed_40 rfl (lv_at hl 3 rfl) ?_
      refine wk_kI hI hA (wd_X11_heedWay (wk_rk (wk_fg σ) j) j n (rest := []) ⟨hx, hb, hml, hown, hts⟩ wk_in_M hN hK hI hV (hV.rk hj) hj (by have hq0 : wk_nt (wk_fg σ) = 0 := rfl; have hq12 : wk_n (wk_fg σ) ≤ 12 := hV.1; omega) ⟨(Nat.le_of_ble_eq_true rfl), (Nat.le_of_ble_eq_true rfl)⟩ hl.1 (lv_room (Nat.le_of_ble_eq_true rfl)) dX11_heed_41 ⟨(Nat.le_of_ble_eq_true rfl), (Nat.le_of_ble_eq_true rfl)⟩) (fun r u H locs hw hI => ?_)
      obtain ⟨rfl, rfl⟩ := hw
      have hG_2 : wk_G (wk_fg σ) ((wk_heedR (wk_rk (wk_fg σ) j) (wk_fg σ) j n).2) 28 := wk_g_heedR (wk_rk (wk_fg σ) j) (wk_fg σ) j n hV.1
      exact wk_ri ((wk_heedR (wk_rk (wk_fg σ) j) (wk_fg σ) j n).2) hx hb hr hlk hK hI rfl (wk_post (by unfold wk_heed ; rw [wk_clJ hV hj, wk_ifT ⟨wk_okJ hV hj, Classical.not_not.mp c_1⟩]; first | done | rfl)) dX11_heed_44
    · have c_1 := wk_b1 c_1
      refine lv_ldc hx hb hown (hts _ (wk_in_M _ mw_171)) dX11_heed_21 ?_
      exact wk_ri σ hx hb hr hlk hK hI rfl (wk_post (by unfold wk_heed; rw [wk_clJ hV hj, wk_ifF (fun hq => c_1 hq.2)])) dX11_heed_23
  · have hK := hK
    refine lv_aload_n hx hb dX11_heed_0 rfl (lv_at hl 0 rfl) ?_
    refine wk_get (v := .ref (ad 1)) hx hb hts (fun w h => wk_in_M w (lay_X11 w h)) hown hK hI (0) wx_e0 rfl 0 (by decide) (hts _ (wk_in_M _ mw_145)) rfl rfl dX11_heed_1 ?_
    refine lv_iload_n hx hb dX11_heed_4 rfl (lv_at hl 1 rfl) ?_
    refine wk_kQ hI hA (va_runV (As := [.int k9]) (rest := []) ⟨hx, hb, hml, hown, hts⟩ (c_X2_member l D cI cJ cS ad σ k9 hV _) (wk_cwV 1 hts wk_in_M mw_224 mw_225 mw_226 mw_35 mw_227 hdX2_member ⟨(Nat.le_of_ble_eq_true rfl), (Nat.le_of_ble_eq_true rfl)⟩) (wk_preV hN hK hI (ci := 2) rfl wx_e1) rfl rfl hl.1 rfl (lv_room (Nat.le_of_ble_eq_true rfl)) dX11_heed_5 ⟨(Nat.le_of_ble_eq_true rfl), (Nat.le_of_ble_eq_true rfl)⟩) (fun r u H locs hw hI => ?_)
    obtain ⟨rfl, hw⟩ := hw
    rw [hw] at hI
    rw [wx_findN hno]
    refine W.eq (g2 := F0 m 8 ls [.null]) rfl ?_
    refine lv_astore_nN (lv' := [(3, .null), (0, .ref (ad 0)), (1, .int k9), (2, .int n)]) hx hb dX11_heed_8 rfl hl (by decide) rfl (fun ls hl => ?_)
    refine lv_aload_nN hx hb dX11_heed_9 rfl (lv_at hl 0 rfl) ?_
    refine lv_ifnullN (tgt := 21) hx hb dX11_heed_10 (by decide) ?_
    refine lv_ldc hx hb hown (hts _ (wk_in_M _ mw_171)) dX11_heed_21 ?_
    exact wk_ri σ hx hb hr hlk hK hI rfl (wk_post (by unfold wk_heed; rw [wk_ifF (fun hq => hno hq.1)])) dX11_heed_23
set_option maxHeartbeats 4000000 in
set_option maxRecDepth 100000 in
theorem c_X11_pay (l : Launch) (D : va_G) (cI cJ cS : ClassId) (ad : Nat → Nat) (σ : wk_St) (k9 : Int32) (n : Int32) (hV : wk_V σ) : wk_Cl l D (wk_tys cI cJ cS) yX11_pay (wk_M yX11_pay cX11_pay 6 (some .long)) ({ frames := 4, cells := 0, slots := 0, locals := 96 }) [.ref (ad 0), .int k9, .int n] (wx_W cI cS ad σ) (wx_W cI cS ad) (fun r0 u0 => r0 = (wk_pay σ k9 n).1 ∧ u0 = (wk_pay σ k9 n).2) := by
  intro sz
  refine Met.ofW (cc := cX11_pay) (maxL := 6) (ret := (some .long)) (by decide) rfl ?_
  intro p e s m args below meth c s₁ B hml hv
  obtain ⟨rfl, hsz, hP, hK, hD0, hN⟩ := hv
  have hx := B.exec
  have hb := B.bytes
  have hr := B.returns
  have hts := atoms_spec (ws := wk_M yX11_pay cX11_pay 6 (some .long)) B.pre
  have hown : s.vm.findClass RX11 = some m.cls := findClass_of_methodNamed B.named
  have hlk := B.notSynchronized
  subst hsz
  have hI : wk_I D (va_A (wx_W cI cS ad σ) s.heap.size) s.heap s.heap [] (wx_W cI cS ad σ) := ⟨hP, hD0.self, va_S.rf⟩
  have hA : ∀ q : Nat, s.heap.size ≤ q → (va_A (wx_W cI cS ad σ) s.heap.size) q := fun q h => Or.inr h
  clear hP hD0
  generalize va_A (wx_W cI cS ad σ) s.heap.size = A at hI hA ⊢
  have hl := lv_entry ([.ref (ad 0), .int k9, .int n]) (n := 6) (Nat.le_of_ble_eq_true rfl)
  rw [lg_entry_eq]
  generalize (lg_sl ([.ref (ad 0), .int k9, .int n]) ++ List.replicate (6 - (lg_sl ([.ref (ad 0), .int k9, .int n])).length) Slot.unset).toArray = ls at hl ⊢
  have hl : lv_has ls 6 [(0, .ref (ad 0)), (1, .int k9), (2, .int n)] := hl
  rcases wk_okC hV k9 with ⟨j, hj, rfl⟩ | hno
  · have hK := hK
    refine lv_aload_n hx hb dX11_pay_0 rfl (lv_at hl 0 rfl) ?_
    refine wk_get (v := .ref (ad 1)) hx hb hts (fun w h => wk_in_M w (lay_X11 w h)) hown hK hI (0) wx_e0 rfl 0 (by decide) (hts _ (wk_in_M _ mw_145)) rfl rfl dX11_pay_1 ?_
    refine lv_iload_n hx hb dX11_pay_4 rfl (lv_at hl 1 rfl) ?_
    refine wk_kQ hI hA (va_runV (As := [.int (nI j)]) (rest := []) ⟨hx, hb, hml, hown, hts⟩ (c_X2_member l D cI cJ cS ad σ (nI j) hV _) (wk_cwV 1 hts wk_in_M mw_224 mw_225 mw_226 mw_35 mw_227 hdX2_member ⟨(Nat.le_of_ble_eq_true rfl), (Nat.le_of_ble_eq_true rfl)⟩) (wk_preV hN hK hI (ci := 2) rfl wx_e1) rfl rfl hl.1 rfl (lv_room (Nat.le_of_ble_eq_true rfl)) dX11_pay_5 ⟨(Nat.le_of_ble_eq_true rfl), (Nat.le_of_ble_eq_true rfl)⟩) (fun r u H locs hw hI => ?_)
    obtain ⟨rfl, hw⟩ := hw
    rw [hw] at hI
    rw [wx_findJ hV hj]
    refine W.eq (g2 := F0 m 8 ls [.ref (ad (16 + j))]) rfl ?_
    refine lv_astore_n (lv' := [(3, .ref (ad (16 + j))), (0, .ref (ad 0)), (1, .int (nI j)), (2, .int n)]) hx hb dX11_pay_8 rfl hl (by decide) rfl (fun ls hl => ?_)
    refine lv_aload_n hx hb dX11_pay_9 rfl (lv_at hl 0 rfl) ?_
    refine lv_ifnull hx hb dX11_pay_10 ?_
    refine lv_iconst (v := 1) hx hb dX11_pay_13 (by decide) ?_
    refine lv_iload_n hx hb dX11_pay_14 rfl (lv_at hl 3 rfl) ?_
    refine wk_kI hI hA (va_runS (As := [.int 1, .int n]) (rest := []) ⟨hx, hb, hml, hown, hts⟩ (c_X11_isBeyondBound l D cI cJ cS ad σ 1 n _) (wk_cwS 2 hts wk_in_M mw_240 mw_241 mw_34 mw_242 (hdX11_isBeyondBound).2 ⟨(Nat.le_of_ble_eq_true rfl), (Nat.le_of_ble_eq_true rfl)⟩) (wk_preS hN hK hI) rfl rfl hl.1 rfl (lv_room (Nat.le_of_ble_eq_true rfl)) dX11_pay_15 ⟨(Nat.le_of_ble_eq_true rfl), (Nat.le_of_ble_eq_true rfl)⟩) (fun r u H locs hw hI => ?_)
    obtain ⟨rfl, hw⟩ := hw
    rw [hw] at hI
    refine lv_if_eq (tgt := 25) hx hb dX11_pay_18 (by decide) (fun c_1 => ?_) (fun c_1 => ?_)
    · have c_1 := wk_b0 c_1
      refine lv_aload_n hx hb dX11_pay_25 rfl (lv_at hl 1 rfl) ?_
      refine wk_get (v := .ref (ad 1)) hx hb hts (fun w h => wk_in_M w (lay_X11 w h)) hown hK hI (0) wx_e0 rfl 0 (by decide) (hts _ (wk_in_M _ mw_145)) rfl rfl dX11_pay_26 ?_
      refine wk_kV hI hA (va_runV (As := []) (rest := []) ⟨hx, hb, hml, hown, hts⟩ (c_X2_forgetNotes l D cI cJ cS ad σ _) (wk_cwV 0 hts wk_in_M mw_247 mw_248 mw_249 mw_35 mw_250 hdX2_forgetNotes ⟨(Nat.le_of_ble_eq_true rfl), (Nat.le_of_ble_eq_true rfl)⟩) (wk_preV hN hK hI (ci := 2) rfl wx_e1) rfl rfl hl.1 rfl (lv_room (Nat.le_of_ble_eq_true rfl)) dX11_pay_29 ⟨(Nat.le_of_ble_eq_true rfl), (Nat.le_of_ble_eq_true rfl)⟩) (fun u H locs hw hI => ?_)
      obtain rfl := hw
      refine lv_aload_n hx hb dX11_pay_32 rfl (lv_at hl 0 rfl) ?_
      refine wk_get (v := .ref (ad (8 + wk_rk (wk_fg σ) j))) hx hb hts (fun w h => wk_in_M w (lay_X6 w h)) hown hK hI (16 + j) (wx_em hj) rfl 3 (by decide) (hts _ (wk_in_M _ mw_193)) rfl rfl dX11_pay_33 ?_
      refine lv_aload_n hx hb dX11_pay_36 rfl (lv_at hl 1 rfl) ?_
      refine wk_get (v := .ref (ad 1)) hx hb hts (fun w h => wk_in_M w (lay_X11 w h)) hown hK hI (0) wx_e0 rfl 0 (by decide) (hts _ (wk_in_M _ mw_145)) rfl rfl dX11_pay_37 ?_
      refine lv_aload_n hx hb dX11_pay_40 rfl (lv_at hl 0 rfl) ?_
      refine lv_iload_n hx hb dX11_pay_41 rfl (lv_at hl 3 rfl) ?_
      refine wk_kL hI hA (wd_X11_payWay (wk_rk (wk_fg σ) j) j n (rest := []) ⟨hx, hb, hml, hown, hts⟩ wk_in_M hN hK hI hV (hV.rk hj) hj (by have hq0 : wk_nt (wk_fg σ) = 0 := rfl; have hq12 : wk_n (wk_fg σ) ≤ 12 := hV.1; omega) ⟨(Nat.le_of_ble_eq_true rfl), (Nat.le_of_ble_eq_true rfl)⟩ hl.1 (lv_room (Nat.le_of_ble_eq_true rfl)) dX11_pay_42 ⟨(Nat.le_of_ble_eq_true rfl), (Nat.le_of_ble_eq_true rfl)⟩) (fun r u H locs hw hI => ?_)
      obtain ⟨rfl, rfl⟩ := hw
      have hG_2 : wk_G (wk_fg σ) ((wk_payR (wk_rk (wk_fg σ) j) (wk_fg σ) j n).2) 3 := wk_g_payR (wk_rk (wk_fg σ) j) (wk_fg σ) j n
      refine lv_lstore (lv' := [(4, .long ((wk_payR (wk_rk (wk_fg σ) j) (wk_fg σ) j n).1)), (3, .ref (ad (16 + j))), (0, .ref (ad 0)), (1, .int (nI j)), (2, .int n)]) hx hb dX11_pay_45 hl (by decide) rfl (fun ls hl => ?_)
      refine lv_aload_n hx hb dX11_pay_47 rfl (lv_at hl 1 rfl) ?_
      refine lv_dup hx hb dX11_pay_48 rfl ?_
      refine wk_get (v := .long (wk_pu ((wk_payR (wk_rk (wk_fg σ) j) (wk_fg σ) j n).2) j)) hx hb hts (fun w h => wk_in_M w (lay_X6 w h)) hown hK hI (16 + j) (wx_em (hG_2.lt hj)) rfl 5 (by decide) (hts _ (wk_in_M _ mw_200)) rfl rfl dX11_pay_49 ?_
      refine lv_lload hx hb dX11_pay_52 (lv_at hl 0 rfl) ?_
      refine lv_ladd hx hb dX11_pay_54 ?_
      refine wk_put (v := .long ((wk_pu ((wk_payR (wk_rk (wk_fg σ) j) (wk_fg σ) j n).2) j) + ((wk_payR (wk_rk (wk_fg σ) j) (wk_fg σ) j n).1))) (ty := .long) hx hb hts (fun w h => wk_in_M w (lay_X6 w h)) tyX6 tyX6_ok nmX6 hown hK hI (16 + j) (wx_em (hG_2.lt hj)) rfl 5 (by decide) (hts _ (wk_in_M _ mw_200)) rfl rfl (by decide +kernel) rfl rfl (Nat.le_of_ble_eq_true rfl) (wx_sPu (hG_2.lt hj) _) dX11_pay_55 (fun H locs hI => ?_)
      refine lv_lload hx hb dX11_pay_58 (lv_at hl 0 rfl) ?_
      exact wk_rl (wk_sPu ((wk_payR (wk_rk (wk_fg σ) j) (wk_fg σ) j n).2) (vp_updL (wk_pu ((wk_payR (wk_rk (wk_fg σ) j) (wk_fg σ) j n).2)) j ((wk_pu ((wk_payR (wk_rk (wk_fg σ) j) (wk_fg σ) j n).2) j) + ((wk_payR (wk_rk (wk_fg σ) j) (wk_fg σ) j n).1)))) hx hb hr hlk hK hI rfl (wk_post (by unfold wk_pay wk_gain; rw [wk_clJ hV hj, wk_ifT ⟨wk_okJ hV hj, Classical.not_not.mp c_1⟩, if_pos rfl]; first | done | rfl)) dX11_pay_60
    · have c_1 := wk_b1 c_1
      refine lv_ldc2 hx hb hown (hts _ (wk_in_M _ mw_246)) dX11_pay_21 ?_
      exact wk_rl σ hx hb hr hlk hK hI rfl (wk_post (by unfold wk_pay; rw [wk_clJ hV hj, wk_ifF (fun hq => c_1 hq.2)])) dX11_pay_24
  · have hK := hK
    refine lv_aload_n hx hb dX11_pay_0 rfl (lv_at hl 0 rfl) ?_
    refine wk_get (v := .ref (ad 1)) hx hb hts (fun w h => wk_in_M w (lay_X11 w h)) hown hK hI (0) wx_e0 rfl 0 (by decide) (hts _ (wk_in_M _ mw_145)) rfl rfl dX11_pay_1 ?_
    refine lv_iload_n hx hb dX11_pay_4 rfl (lv_at hl 1 rfl) ?_
    refine wk_kQ hI hA (va_runV (As := [.int k9]) (rest := []) ⟨hx, hb, hml, hown, hts⟩ (c_X2_member l D cI cJ cS ad σ k9 hV _) (wk_cwV 1 hts wk_in_M mw_224 mw_225 mw_226 mw_35 mw_227 hdX2_member ⟨(Nat.le_of_ble_eq_true rfl), (Nat.le_of_ble_eq_true rfl)⟩) (wk_preV hN hK hI (ci := 2) rfl wx_e1) rfl rfl hl.1 rfl (lv_room (Nat.le_of_ble_eq_true rfl)) dX11_pay_5 ⟨(Nat.le_of_ble_eq_true rfl), (Nat.le_of_ble_eq_true rfl)⟩) (fun r u H locs hw hI => ?_)
    obtain ⟨rfl, hw⟩ := hw
    rw [hw] at hI
    rw [wx_findN hno]
    refine W.eq (g2 := F0 m 8 ls [.null]) rfl ?_
    refine lv_astore_nN (lv' := [(3, .null), (0, .ref (ad 0)), (1, .int k9), (2, .int n)]) hx hb dX11_pay_8 rfl hl (by decide) rfl (fun ls hl => ?_)
    refine lv_aload_nN hx hb dX11_pay_9 rfl (lv_at hl 0 rfl) ?_
    refine lv_ifnullN (tgt := 21) hx hb dX11_pay_10 (by decide) ?_
    refine lv_ldc2 hx hb hown (hts _ (wk_in_M _ mw_246)) dX11_pay_21 ?_
    exact wk_rl σ hx hb hr hlk hK hI rfl (wk_post (by unfold wk_pay; rw [wk_ifF (fun hq => hno hq.1)])) dX11_pay_24
set_option maxHeartbeats 4000000 in
set_option maxRecDepth 100000 in
theorem c_X11_race (l : Launch) (D : va_G) (cI cJ cS : ClassId) (ad : Nat → Nat) (σ : wk_St) (k9 : Int32) (n m9 : Int32) (hV : wk_V σ) : wk_Ci l D (wk_tys cI cJ cS) yX11_race (wk_M yX11_race cX11_race 5 (some .int)) ({ frames := 6, cells := 0, slots := 0, locals := 143 }) [.ref (ad 0), .int k9, .int n, .int m9] (wx_W cI cS ad σ) (wx_W cI cS ad) (fun r0 u0 => r0 = (wk_race σ k9 n m9).1 ∧ u0 = (wk_race σ k9 n m9).2) := by
  intro sz
  refine Met.ofW (cc := cX11_race) (maxL := 5) (ret := (some .int)) (by decide) rfl ?_
  intro p e s m args below meth c s₁ B hml hv
  obtain ⟨rfl, hsz, hP, hK, hD0, hN⟩ := hv
  have hx := B.exec
  have hb := B.bytes
  have hr := B.returns
  have hts := atoms_spec (ws := wk_M yX11_race cX11_race 5 (some .int)) B.pre
  have hown : s.vm.findClass RX11 = some m.cls := findClass_of_methodNamed B.named
  have hlk := B.notSynchronized
  subst hsz
  have hI : wk_I D (va_A (wx_W cI cS ad σ) s.heap.size) s.heap s.heap [] (wx_W cI cS ad σ) := ⟨hP, hD0.self, va_S.rf⟩
  have hA : ∀ q : Nat, s.heap.size ≤ q → (va_A (wx_W cI cS ad σ) s.heap.size) q := fun q h => Or.inr h
  clear hP hD0
  generalize va_A (wx_W cI cS ad σ) s.heap.size = A at hI hA ⊢
  have hl := lv_entry ([.ref (ad 0), .int k9, .int n, .int m9]) (n := 5) (Nat.le_of_ble_eq_true rfl)
  rw [lg_entry_eq]
  generalize (lg_sl ([.ref (ad 0), .int k9, .int n, .int m9]) ++ List.replicate (5 - (lg_sl ([.ref (ad 0), .int k9, .int n, .int m9])).length) Slot.unset).toArray = ls at hl ⊢
  have hl : lv_has ls 5 [(0, .ref (ad 0)), (1, .int k9), (2, .int n), (3, .int m9)] := hl
  rcases wk_okC hV k9 with ⟨j, hj, rfl⟩ | hno
  · have hK := hK
    refine lv_aload_n hx hb dX11_race_0 rfl (lv_at hl 0 rfl) ?_
    refine wk_get (v := .ref (ad 1)) hx hb hts (fun w h => wk_in_M w (lay_X11 w h)) hown hK hI (0) wx_e0 rfl 0 (by decide) (hts _ (wk_in_M _ mw_145)) rfl rfl dX11_race_1 ?_
    refine lv_iload_n hx hb dX11_race_4 rfl (lv_at hl 1 rfl) ?_
    refine wk_kQ hI hA (va_runV (As := [.int (nI j)]) (rest := []) ⟨hx, hb, hml, hown, hts⟩ (c_X2_member l D cI cJ cS ad σ (nI j) hV _) (wk_cwV 1 hts wk_in_M mw_224 mw_225 mw_226 mw_35 mw_227 hdX2_member ⟨(Nat.le_of_ble_eq_true rfl), (Nat.le_of_ble_eq_true rfl)⟩) (wk_preV hN hK hI (ci := 2) rfl wx_e1) rfl rfl hl.1 rfl (lv_room (Nat.le_of_ble_eq_true rfl)) dX11_race_5 ⟨(Nat.le_of_ble_eq_true rfl), (Nat.le_of_ble_eq_true rfl)⟩) (fun r u H locs hw hI => ?_)
    obtain ⟨rfl, hw⟩ := hw
    rw [hw] at hI
    rw [wx_findJ hV hj]
    refine W.eq (g2 := F0 m 8 ls [.ref (ad (16 + j))]) rfl ?_
    refine lv_astore (lv' := [(4, .ref (ad (16 + j))), (0, .ref (ad 0)), (1, .int (nI j)), (2, .int n), (3, .int m9)]) hx hb dX11_race_8 hl (by decide) rfl (fun ls hl => ?_)
    refine lv_aload hx hb dX11_race_10 (lv_at hl 0 rfl) ?_
    refine lv_ifnull hx hb dX11_race_12 ?_
    refine lv_aload hx hb dX11_race_15 (lv_at hl 0 rfl) ?_
    refine wk_kI hI hA (va_runV (As := []) (rest := []) ⟨hx, hb, hml, hown, hts⟩ (c_X6_isClimber l D cI cJ cS ad σ j hV hj _) (wk_cwV 0 hts wk_in_M mw_406 mw_407 mw_408 mw_46 mw_409 hdX6_isClimber ⟨(Nat.le_of_ble_eq_true rfl), (Nat.le_of_ble_eq_true rfl)⟩) (wk_preV hN hK hI (ci := 6) rfl (wx_em hj)) rfl rfl hl.1 rfl (lv_room (Nat.le_of_ble_eq_true rfl)) dX11_race_17 ⟨(Nat.le_of_ble_eq_true rfl), (Nat.le_of_ble_eq_true rfl)⟩) (fun r u H locs hw hI => ?_)
    obtain ⟨rfl, hw⟩ := hw
    rw [hw] at hI
    refine lv_if_eq (tgt := 38) hx hb dX11_race_20 (by decide) (fun c_1 => ?_) (fun c_1 => ?_)
    · have c_1 := wk_b0 c_1
      refine lv_ldc hx hb hown (hts _ (wk_in_M _ mw_171)) dX11_race_38 ?_
      exact wk_ri σ hx hb hr hlk hK hI rfl (wk_post (by unfold wk_race; rw [wk_clJ hV hj, wk_ifF (fun hq => c_1 hq.2.1)])) dX11_race_40
    · have c_1 := wk_b1 c_1
      refine lv_iconst (v := 2) hx hb dX11_race_23 (by decide) ?_
      refine lv_iload_n hx hb dX11_race_24 rfl (lv_at hl 3 rfl) ?_
      refine wk_kI hI hA (va_runS (As := [.int 2, .int n]) (rest := []) ⟨hx, hb, hml, hown, hts⟩ (c_X11_isBeyondBound l D cI cJ cS ad σ 2 n _) (wk_cwS 2 hts wk_in_M mw_240 mw_241 mw_34 mw_242 (hdX11_isBeyondBound).2 ⟨(Nat.le_of_ble_eq_true rfl), (Nat.le_of_ble_eq_true rfl)⟩) (wk_preS hN hK hI) rfl rfl hl.1 rfl (lv_room (Nat.le_of_ble_eq_true rfl)) dX11_race_25 ⟨(Nat.le_of_ble_eq_true rfl), (Nat.le_of_ble_eq_true rfl)⟩) (fun r u H locs hw hI => ?_)
      obtain ⟨rfl, hw⟩ := hw
      rw [hw] at hI
      refine lv_if_ne (tgt := 38) hx hb dX11_race_28 (by decide) (fun c_2 => ?_) (fun c_2 => ?_)
      · have c_2 := wk_b1 c_2
        refine lv_ldc hx hb hown (hts _ (wk_in_M _ mw_171)) dX11_race_38 ?_
        exact wk_ri σ hx hb hr hlk hK hI rfl (wk_post (by unfold wk_race; rw [wk_clJ hV hj, wk_ifF (fun hq => c_2 hq.2.2.1)])) dX11_race_40
      · have c_2 := wk_b0 c_2
        refine lv_iload_n hx hb dX11_race_31 rfl (lv_at hl 4 rfl) ?_
        refine wk_kI hI hA (va_runS (As := [.int m9]) (rest := []) ⟨hx, hb, hml, hown, hts⟩ (c_X11_isTimes l D cI cJ cS ad σ m9 _) (wk_cwS 1 hts wk_in_M mw_410 mw_411 mw_34 mw_412 (hdX11_isTimes).2 ⟨(Nat.le_of_ble_eq_true rfl), (Nat.le_of_ble_eq_true rfl)⟩) (wk_preS hN hK hI) rfl rfl hl.1 rfl (lv_room (Nat.le_of_ble_eq_true rfl)) dX11_race_32 ⟨(Nat.le_of_ble_eq_true rfl), (Nat.le_of_ble_eq_true rfl)⟩) (fun r u H locs hw hI => ?_)
        obtain ⟨rfl, hw⟩ := hw
        rw [hw] at hI
        refine lv_if_ne (tgt := 41) hx hb dX11_race_35 (by decide) (fun c_3 => ?_) (fun c_3 => ?_)
        · have c_3 := wk_b1 c_3
          refine lv_aload_n hx hb dX11_race_41 rfl (lv_at hl 1 rfl) ?_
          refine wk_get (v := .ref (ad 1)) hx hb hts (fun w h => wk_in_M w (lay_X11 w h)) hown hK hI (0) wx_e0 rfl 0 (by decide) (hts _ (wk_in_M _ mw_145)) rfl rfl dX11_race_42 ?_
          refine wk_kV hI hA (va_runV (As := []) (rest := []) ⟨hx, hb, hml, hown, hts⟩ (c_X2_forgetNotes l D cI cJ cS ad σ _) (wk_cwV 0 hts wk_in_M mw_247 mw_248 mw_249 mw_35 mw_250 hdX2_forgetNotes ⟨(Nat.le_of_ble_eq_true rfl), (Nat.le_of_ble_eq_true rfl)⟩) (wk_preV hN hK hI (ci := 2) rfl wx_e1) rfl rfl hl.1 rfl (lv_room (Nat.le_of_ble_eq_true rfl)) dX11_race_45 ⟨(Nat.le_of_ble_eq_true rfl), (Nat.le_of_ble_eq_true rfl)⟩) (fun u H locs hw hI => ?_)
          obtain rfl := hw
          refine lv_aload hx hb dX11_race_48 (lv_at hl 0 rfl) ?_
          refine wk_get (v := .ref (ad (8 + wk_rk (wk_fg σ) j))) hx hb hts (fun w h => wk_in_M w (lay_X6 w h)) hown hK hI (16 + j) (wx_em hj) rfl 3 (by decide) (hts _ (wk_in_M _ mw_193)) rfl rfl dX11_race_50 ?_
          refine lv_aload_n hx hb dX11_race_53 rfl (lv_at hl 1 rfl) ?_
          refine wk_get (v := .ref (ad 1)) hx hb hts (fun w h => wk_in_M w (lay_X11 w h)) hown hK hI (0) wx_e0 rfl 0 (by decide) (hts _ (wk_in_M _ mw_145)) rfl rfl dX11_race_54 ?_
          refine lv_aload hx hb dX11_race_57 (lv_at hl 0 rfl) ?_
          refine lv_iload_n hx hb dX11_race_59 rfl (lv_at hl 3 rfl) ?_
          refine lv_iload_n hx hb dX11_race_60 rfl (lv_at hl 4 rfl) ?_
          refine wk_kI hI hA (wd_X11_raceWay (wk_rk (wk_fg σ) j) j n m9 (rest := []) ⟨hx, hb, hml, hown, hts⟩ wk_in_M hN hK hI hV (hV.rk hj) hj (by have hq0 : wk_nt (wk_fg σ) = 0 := rfl; have hq12 : wk_n (wk_fg σ) ≤ 12 := hV.1; omega) c_3 ⟨(Nat.le_of_ble_eq_true rfl), (Nat.le_of_ble_eq_true rfl)⟩ hl.1 (lv_room (Nat.le_of_ble_eq_true rfl)) dX11_race_61 ⟨(Nat.le_of_ble_eq_true rfl), (Nat.le_of_ble_eq_true rfl)⟩) (fun r u H locs hw hI => ?_)
          obtain ⟨rfl, rfl⟩ := hw
          exact wk_ri ((wk_raceR (wk_rk (wk_fg σ) j) (wk_fg σ) j n m9).2) hx hb hr hlk hK hI rfl (wk_post (by unfold wk_race ; rw [wk_clJ hV hj, wk_ifT ⟨wk_okJ hV hj, c_1, Classical.not_not.mp c_2, c_3⟩]; first | done | rfl)) dX11_race_64
        · have c_3 := wk_b0 c_3
          refine lv_ldc hx hb hown (hts _ (wk_in_M _ mw_171)) dX11_race_38 ?_
          exact wk_ri σ hx hb hr hlk hK hI rfl (wk_post (by unfold wk_race; rw [wk_clJ hV hj, wk_ifF (fun hq => c_3 hq.2.2.2)])) dX11_race_40
  · have hK := hK
    refine lv_aload_n hx hb dX11_race_0 rfl (lv_at hl 0 rfl) ?_
    refine wk_get (v := .ref (ad 1)) hx hb hts (fun w h => wk_in_M w (lay_X11 w h)) hown hK hI (0) wx_e0 rfl 0 (by decide) (hts _ (wk_in_M _ mw_145)) rfl rfl dX11_race_1 ?_
    refine lv_iload_n hx hb dX11_race_4 rfl (lv_at hl 1 rfl) ?_
    refine wk_kQ hI hA (va_runV (As := [.int k9]) (rest := []) ⟨hx, hb, hml, hown, hts⟩ (c_X2_member l D cI cJ cS ad σ k9 hV _) (wk_cwV 1 hts wk_in_M mw_224 mw_225 mw_226 mw_35 mw_227 hdX2_member ⟨(Nat.le_of_ble_eq_true rfl), (Nat.le_of_ble_eq_true rfl)⟩) (wk_preV hN hK hI (ci := 2) rfl wx_e1) rfl rfl hl.1 rfl (lv_room (Nat.le_of_ble_eq_true rfl)) dX11_race_5 ⟨(Nat.le_of_ble_eq_true rfl), (Nat.le_of_ble_eq_true rfl)⟩) (fun r u H locs hw hI => ?_)
    obtain ⟨rfl, hw⟩ := hw
    rw [hw] at hI
    rw [wx_findN hno]
    refine W.eq (g2 := F0 m 8 ls [.null]) rfl ?_
    refine lv_astoreN (lv' := [(4, .null), (0, .ref (ad 0)), (1, .int k9), (2, .int n), (3, .int m9)]) hx hb dX11_race_8 hl (by decide) rfl (fun ls hl => ?_)
    refine lv_aloadN hx hb dX11_race_10 (lv_at hl 0 rfl) ?_
    refine lv_ifnullN (tgt := 38) hx hb dX11_race_12 (by decide) ?_
    refine lv_ldc hx hb hown (hts _ (wk_in_M _ mw_171)) dX11_race_38 ?_
    exact wk_ri σ hx hb hr hlk hK hI rfl (wk_post (by unfold wk_race; rw [wk_ifF (fun hq => hno hq.1)])) dX11_race_40
set_option maxHeartbeats 4000000 in
set_option maxRecDepth 100000 in
theorem c_X11_due (l : Launch) (D : va_G) (cI cJ cS : ClassId) (ad : Nat → Nat) (σ : wk_St) (k9 : Int32) (n x9 : Int32) (hV : wk_V σ) : wk_Cl l D (wk_tys cI cJ cS) yX11_due (wk_M yX11_due cX11_due 7 (some .long)) ({ frames := 4, cells := 0, slots := 0, locals := 96 }) [.ref (ad 0), .int k9, .int n, .int x9] (wx_W cI cS ad σ) (wx_W cI cS ad) (fun r0 u0 => r0 = (wk_due σ k9 n x9).1 ∧ u0 = (wk_due σ k9 n x9).2) := by
  intro sz
  refine Met.ofW (cc := cX11_due) (maxL := 7) (ret := (some .long)) (by decide) rfl ?_
  intro p e s m args below meth c s₁ B hml hv
  obtain ⟨rfl, hsz, hP, hK, hD0, hN⟩ := hv
  have hx := B.exec
  have hb := B.bytes
  have hr := B.returns
  have hts := atoms_spec (ws := wk_M yX11_due cX11_due 7 (some .long)) B.pre
  have hown : s.vm.findClass RX11 = some m.cls := findClass_of_methodNamed B.named
  have hlk := B.notSynchronized
  subst hsz
  have hI : wk_I D (va_A (wx_W cI cS ad σ) s.heap.size) s.heap s.heap [] (wx_W cI cS ad σ) := ⟨hP, hD0.self, va_S.rf⟩
  have hA : ∀ q : Nat, s.heap.size ≤ q → (va_A (wx_W cI cS ad σ) s.heap.size) q := fun q h => Or.inr h
  clear hP hD0
  generalize va_A (wx_W cI cS ad σ) s.heap.size = A at hI hA ⊢
  have hl := lv_entry ([.ref (ad 0), .int k9, .int n, .int x9]) (n := 7) (Nat.le_of_ble_eq_true rfl)
  rw [lg_entry_eq]
  generalize (lg_sl ([.ref (ad 0), .int k9, .int n, .int x9]) ++ List.replicate (7 - (lg_sl ([.ref (ad 0), .int k9, .int n, .int x9])).length) Slot.unset).toArray = ls at hl ⊢
  have hl : lv_has ls 7 [(0, .ref (ad 0)), (1, .int k9), (2, .int n), (3, .int x9)] := hl
  rcases wk_okC hV k9 with ⟨j, hj, rfl⟩ | hno
  · have hK := hK
    refine lv_aload_n hx hb dX11_due_0 rfl (lv_at hl 0 rfl) ?_
    refine wk_get (v := .ref (ad 1)) hx hb hts (fun w h => wk_in_M w (lay_X11 w h)) hown hK hI (0) wx_e0 rfl 0 (by decide) (hts _ (wk_in_M _ mw_145)) rfl rfl dX11_due_1 ?_
    refine lv_iload_n hx hb dX11_due_4 rfl (lv_at hl 1 rfl) ?_
    refine wk_kQ hI hA (va_runV (As := [.int (nI j)]) (rest := []) ⟨hx, hb, hml, hown, hts⟩ (c_X2_member l D cI cJ cS ad σ (nI j) hV _) (wk_cwV 1 hts wk_in_M mw_224 mw_225 mw_226 mw_35 mw_227 hdX2_member ⟨(Nat.le_of_ble_eq_true rfl), (Nat.le_of_ble_eq_true rfl)⟩) (wk_preV hN hK hI (ci := 2) rfl wx_e1) rfl rfl hl.1 rfl (lv_room (Nat.le_of_ble_eq_true rfl)) dX11_due_5 ⟨(Nat.le_of_ble_eq_true rfl), (Nat.le_of_ble_eq_true rfl)⟩) (fun r u H locs hw hI => ?_)
    obtain ⟨rfl, hw⟩ := hw
    rw [hw] at hI
    rw [wx_findJ hV hj]
    refine W.eq (g2 := F0 m 8 ls [.ref (ad (16 + j))]) rfl ?_
    refine lv_astore (lv' := [(4, .ref (ad (16 + j))), (0, .ref (ad 0)), (1, .int (nI j)), (2, .int n), (3, .int x9)]) hx hb dX11_due_8 hl (by decide) rfl (fun ls hl => ?_)
    refine lv_aload hx hb dX11_due_10 (lv_at hl 0 rfl) ?_
    refine lv_ifnull hx hb dX11_due_12 ?_
    refine lv_aload hx hb dX11_due_15 (lv_at hl 0 rfl) ?_
    refine wk_kI hI hA (va_runV (As := []) (rest := []) ⟨hx, hb, hml, hown, hts⟩ (c_X6_isPayee l D cI cJ cS ad σ j hV hj _) (wk_cwV 0 hts wk_in_M mw_435 mw_436 mw_437 mw_46 mw_438 hdX6_isPayee ⟨(Nat.le_of_ble_eq_true rfl), (Nat.le_of_ble_eq_true rfl)⟩) (wk_preV hN hK hI (ci := 6) rfl (wx_em hj)) rfl rfl hl.1 rfl (lv_room (Nat.le_of_ble_eq_true rfl)) dX11_due_17 ⟨(Nat.le_of_ble_eq_true rfl), (Nat.le_of_ble_eq_true rfl)⟩) (fun r u H locs hw hI => ?_)
    obtain ⟨rfl, hw⟩ := hw
    rw [hw] at hI
    refine lv_if_eq (tgt := 35) hx hb dX11_due_20 (by decide) (fun c_1 => ?_) (fun c_1 => ?_)
    · have c_1 := wk_b0 c_1
      refine lv_ldc2 hx hb hown (hts _ (wk_in_M _ mw_246)) dX11_due_35 ?_
      exact wk_rl σ hx hb hr hlk hK hI rfl (wk_post (by unfold wk_due; rw [wk_clJ hV hj, wk_ifF (fun hq => c_1 hq.2.1)])) dX11_due_38
    · have c_1 := wk_b1 c_1
      refine lv_iconst (v := 1) hx hb dX11_due_23 (by decide) ?_
      refine lv_iload_n hx hb dX11_due_24 rfl (lv_at hl 3 rfl) ?_
      refine wk_kI hI hA (va_runS (As := [.int 1, .int n]) (rest := []) ⟨hx, hb, hml, hown, hts⟩ (c_X11_isBeyondBound l D cI cJ cS ad σ 1 n _) (wk_cwS 2 hts wk_in_M mw_240 mw_241 mw_34 mw_242 (hdX11_isBeyondBound).2 ⟨(Nat.le_of_ble_eq_true rfl), (Nat.le_of_ble_eq_true rfl)⟩) (wk_preS hN hK hI) rfl rfl hl.1 rfl (lv_room (Nat.le_of_ble_eq_true rfl)) dX11_due_25 ⟨(Nat.le_of_ble_eq_true rfl), (Nat.le_of_ble_eq_true rfl)⟩) (fun r u H locs hw hI => ?_)
      obtain ⟨rfl, hw⟩ := hw
      rw [hw] at hI
      refine lv_if_ne (tgt := 35) hx hb dX11_due_28 (by decide) (fun c_2 => ?_) (fun c_2 => ?_)
      · have c_2 := wk_b1 c_2
        refine lv_ldc2 hx hb hown (hts _ (wk_in_M _ mw_246)) dX11_due_35 ?_
        exact wk_rl σ hx hb hr hlk hK hI rfl (wk_post (by unfold wk_due; rw [wk_clJ hV hj, wk_ifF (fun hq => c_2 hq.2.2.1)])) dX11_due_38
      · have c_2 := wk_b0 c_2
        refine lv_iload_n hx hb dX11_due_31 rfl (lv_at hl 4 rfl) ?_
        refine lv_if_ge (tgt := 39) hx hb dX11_due_32 (by decide) (fun c_3 => ?_) (fun c_3 => ?_)
        · refine lv_aload_n hx hb dX11_due_39 rfl (lv_at hl 1 rfl) ?_
          refine wk_get (v := .ref (ad 1)) hx hb hts (fun w h => wk_in_M w (lay_X11 w h)) hown hK hI (0) wx_e0 rfl 0 (by decide) (hts _ (wk_in_M _ mw_145)) rfl rfl dX11_due_40 ?_
          refine wk_kV hI hA (va_runV (As := []) (rest := []) ⟨hx, hb, hml, hown, hts⟩ (c_X2_forgetNotes l D cI cJ cS ad σ _) (wk_cwV 0 hts wk_in_M mw_247 mw_248 mw_249 mw_35 mw_250 hdX2_forgetNotes ⟨(Nat.le_of_ble_eq_true rfl), (Nat.le_of_ble_eq_true rfl)⟩) (wk_preV hN hK hI (ci := 2) rfl wx_e1) rfl rfl hl.1 rfl (lv_room (Nat.le_of_ble_eq_true rfl)) dX11_due_43 ⟨(Nat.le_of_ble_eq_true rfl), (Nat.le_of_ble_eq_true rfl)⟩) (fun u H locs hw hI => ?_)
          obtain rfl := hw
          refine lv_aload hx hb dX11_due_46 (lv_at hl 0 rfl) ?_
          refine wk_get (v := .ref (ad (8 + wk_rk (wk_fg σ) j))) hx hb hts (fun w h => wk_in_M w (lay_X6 w h)) hown hK hI (16 + j) (wx_em hj) rfl 3 (by decide) (hts _ (wk_in_M _ mw_193)) rfl rfl dX11_due_48 ?_
          refine lv_aload_n hx hb dX11_due_51 rfl (lv_at hl 1 rfl) ?_
          refine wk_get (v := .ref (ad 1)) hx hb hts (fun w h => wk_in_M w (lay_X11 w h)) hown hK hI (0) wx_e0 rfl 0 (by decide) (hts _ (wk_in_M _ mw_145)) rfl rfl dX11_due_52 ?_
          refine lv_aload hx hb dX11_due_55 (lv_at hl 0 rfl) ?_
          refine lv_iload_n hx hb dX11_due_57 rfl (lv_at hl 3 rfl) ?_
          refine wk_kL hI hA (wd_X11_payWay (wk_rk (wk_fg σ) j) j n (rest := []) ⟨hx, hb, hml, hown, hts⟩ wk_in_M hN hK hI hV (hV.rk hj) hj (by have hq0 : wk_nt (wk_fg σ) = 0 := rfl; have hq12 : wk_n (wk_fg σ) ≤ 12 := hV.1; omega) ⟨(Nat.le_of_ble_eq_true rfl), (Nat.le_of_ble_eq_true rfl)⟩ hl.1 (lv_room (Nat.le_of_ble_eq_true rfl)) dX11_due_58 ⟨(Nat.le_of_ble_eq_true rfl), (Nat.le_of_ble_eq_true rfl)⟩) (fun r u H locs hw hI => ?_)
          obtain ⟨rfl, rfl⟩ := hw
          have hG_4 : wk_G (wk_fg σ) ((wk_payR (wk_rk (wk_fg σ) j) (wk_fg σ) j n).2) 3 := wk_g_payR (wk_rk (wk_fg σ) j) (wk_fg σ) j n
          refine lv_iload_n hx hb dX11_due_61 rfl (lv_at hl 4 rfl) ?_
          refine lv_i2l hx hb dX11_due_62 rfl ?_
          refine lv_lsub hx hb dX11_due_63 ?_
          refine lv_lstore (lv' := [(5, .long (((wk_payR (wk_rk (wk_fg σ) j) (wk_fg σ) j n).1) - (x9.toInt64))), (4, .ref (ad (16 + j))), (0, .ref (ad 0)), (1, .int (nI j)), (2, .int n), (3, .int x9)]) hx hb dX11_due_64 hl (by decide) rfl (fun ls hl => ?_)
          refine lv_lload hx hb dX11_due_66 (lv_at hl 0 rfl) ?_
          refine lv_lconst (v := 0) hx hb dX11_due_68 (by decide) ?_
          refine W.lcmp hx hb dX11_due_69 ?_
          refine lv_if_ge (tgt := 77) hx hb dX11_due_70 (by decide) (fun c_5 => ?_) (fun c_5 => ?_)
          · have c_5 := (lg_cmp_ge _ _).mp c_5
            refine lv_lload hx hb dX11_due_77 (lv_at hl 0 rfl) ?_
            exact wk_rl ((wk_payR (wk_rk (wk_fg σ) j) (wk_fg σ) j n).2) hx hb hr hlk hK hI rfl (wk_post (by unfold wk_due wk_pos; rw [wk_clJ hV hj, wk_ifT ⟨wk_okJ hV hj, c_1, Classical.not_not.mp c_2, c_3⟩, show wk_rk σ = wk_rk (wk_fg σ) from rfl, if_pos c_5]; first | done | rfl)) dX11_due_79
          · have c_5 := fun hq => c_5 ((lg_cmp_ge _ _).mpr hq)
            refine lv_lconst (v := 0) hx hb dX11_due_73 (by decide) ?_
            refine lv_goto (tgt := 79) hx hb dX11_due_74 (by decide) ?_
            exact wk_rl ((wk_payR (wk_rk (wk_fg σ) j) (wk_fg σ) j n).2) hx hb hr hlk hK hI rfl (wk_post (by unfold wk_due wk_pos; rw [wk_clJ hV hj, wk_ifT ⟨wk_okJ hV hj, c_1, Classical.not_not.mp c_2, c_3⟩, show wk_rk σ = wk_rk (wk_fg σ) from rfl, if_neg c_5]; first | done | rfl)) dX11_due_79
        · refine lv_ldc2 hx hb hown (hts _ (wk_in_M _ mw_246)) dX11_due_35 ?_
          exact wk_rl σ hx hb hr hlk hK hI rfl (wk_post (by unfold wk_due; rw [wk_clJ hV hj, wk_ifF (fun hq => c_3 hq.2.2.2)])) dX11_due_38
  · have hK := hK
    refine lv_aload_n hx hb dX11_due_0 rfl (lv_at hl 0 rfl) ?_
    refine wk_get (v := .ref (ad 1)) hx hb hts (fun w h => wk_in_M w (lay_X11 w h)) hown hK hI (0) wx_e0 rfl 0 (by decide) (hts _ (wk_in_M _ mw_145)) rfl rfl dX11_due_1 ?_
    refine lv_iload_n hx hb dX11_due_4 rfl (lv_at hl 1 rfl) ?_
    refine wk_kQ hI hA (va_runV (As := [.int k9]) (rest := []) ⟨hx, hb, hml, hown, hts⟩ (c_X2_member l D cI cJ cS ad σ k9 hV _) (wk_cwV 1 hts wk_in_M mw_224 mw_225 mw_226 mw_35 mw_227 hdX2_member ⟨(Nat.le_of_ble_eq_true rfl), (Nat.le_of_ble_eq_true rfl)⟩) (wk_preV hN hK hI (ci := 2) rfl wx_e1) rfl rfl hl.1 rfl (lv_room (Nat.le_of_ble_eq_true rfl)) dX11_due_5 ⟨(Nat.le_of_ble_eq_true rfl), (Nat.le_of_ble_eq_true rfl)⟩) (fun r u H locs hw hI => ?_)
    obtain ⟨rfl, hw⟩ := hw
    rw [hw] at hI
    rw [wx_findN hno]
    refine W.eq (g2 := F0 m 8 ls [.null]) rfl ?_
    refine lv_astoreN (lv' := [(4, .null), (0, .ref (ad 0)), (1, .int k9), (2, .int n), (3, .int x9)]) hx hb dX11_due_8 hl (by decide) rfl (fun ls hl => ?_)
    refine lv_aloadN hx hb dX11_due_10 (lv_at hl 0 rfl) ?_
    refine lv_ifnullN (tgt := 35) hx hb dX11_due_12 (by decide) ?_
    refine lv_ldc2 hx hb hown (hts _ (wk_in_M _ mw_246)) dX11_due_35 ?_
    exact wk_rl σ hx hb hr hlk hK hI rfl (wk_post (by unfold wk_due; rw [wk_ifF (fun hq => hno hq.1)])) dX11_due_38
set_option maxHeartbeats 4000000 in
set_option maxRecDepth 100000 in
theorem c_X11_told (l : Launch) (D : va_G) (cI cJ cS : ClassId) (ad : Nat → Nat) (σ : wk_St) (k9 w9 : Int32) (hV : wk_V σ) : wk_Cl l D (wk_tys cI cJ cS) yX11_told (wk_M yX11_told cX11_told 4 (some .long)) ({ frames := 1, cells := 0, slots := 0, locals := 22 }) [.ref (ad 0), .int k9, .int w9] (wx_W cI cS ad σ) (wx_W cI cS ad) (fun r0 u0 => r0 = (wk_told σ k9 w9).1 ∧ u0 = (wk_told σ k9 w9).2) := by
  intro sz
  refine Met.ofW (cc := cX11_told) (maxL := 4) (ret := (some .long)) (by decide) rfl ?_
  intro p e s m args below meth c s₁ B hml hv
  obtain ⟨rfl, hsz, hP, hK, hD0, hN⟩ := hv
  have hx := B.exec
  have hb := B.bytes
  have hr := B.returns
  have hts := atoms_spec (ws := wk_M yX11_told cX11_told 4 (some .long)) B.pre
  have hown : s.vm.findClass RX11 = some m.cls := findClass_of_methodNamed B.named
  have hlk := B.notSynchronized
  subst hsz
  have hI : wk_I D (va_A (wx_W cI cS ad σ) s.heap.size) s.heap s.heap [] (wx_W cI cS ad σ) := ⟨hP, hD0.self, va_S.rf⟩
  have hA : ∀ q : Nat, s.heap.size ≤ q → (va_A (wx_W cI cS ad σ) s.heap.size) q := fun q h => Or.inr h
  clear hP hD0
  generalize va_A (wx_W cI cS ad σ) s.heap.size = A at hI hA ⊢
  have hl := lv_entry ([.ref (ad 0), .int k9, .int w9]) (n := 4) (Nat.le_of_ble_eq_true rfl)
  rw [lg_entry_eq]
  generalize (lg_sl ([.ref (ad 0), .int k9, .int w9]) ++ List.replicate (4 - (lg_sl ([.ref (ad 0), .int k9, .int w9])).length) Slot.unset).toArray = ls at hl ⊢
  have hl : lv_has ls 4 [(0, .ref (ad 0)), (1, .int k9), (2, .int w9)] := hl
  rcases wk_okC hV k9 with ⟨j, hj, rfl⟩ | hno
  · have hK := hK
    refine lv_aload_n hx hb dX11_told_0 rfl (lv_at hl 0 rfl) ?_
    refine wk_get (v := .ref (ad 1)) hx hb hts (fun w h => wk_in_M w (lay_X11 w h)) hown hK hI (0) wx_e0 rfl 0 (by decide) (hts _ (wk_in_M _ mw_145)) rfl rfl dX11_told_1 ?_
    refine lv_iload_n hx hb dX11_told_4 rfl (lv_at hl 1 rfl) ?_
    refine wk_kQ hI hA (va_runV (As := [.int (nI j)]) (rest := []) ⟨hx, hb, hml, hown, hts⟩ (c_X2_member l D cI cJ cS ad σ (nI j) hV _) (wk_cwV 1 hts wk_in_M mw_224 mw_225 mw_226 mw_35 mw_227 hdX2_member ⟨(Nat.le_of_ble_eq_true rfl), (Nat.le_of_ble_eq_true rfl)⟩) (wk_preV hN hK hI (ci := 2) rfl wx_e1) rfl rfl hl.1 rfl (lv_room (Nat.le_of_ble_eq_true rfl)) dX11_told_5 ⟨(Nat.le_of_ble_eq_true rfl), (Nat.le_of_ble_eq_true rfl)⟩) (fun r u H locs hw hI => ?_)
    obtain ⟨rfl, hw⟩ := hw
    rw [hw] at hI
    rw [wx_findJ hV hj]
    refine W.eq (g2 := F0 m 8 ls [.ref (ad (16 + j))]) rfl ?_
    refine lv_astore_n (lv' := [(3, .ref (ad (16 + j))), (0, .ref (ad 0)), (1, .int (nI j)), (2, .int w9)]) hx hb dX11_told_8 rfl hl (by decide) rfl (fun ls hl => ?_)
    refine lv_aload_n hx hb dX11_told_9 rfl (lv_at hl 0 rfl) ?_
    refine lv_ifnonnull (tgt := 17) hx hb dX11_told_10 (by decide) ?_
    refine lv_iload_n hx hb dX11_told_17 rfl (lv_at hl 3 rfl) ?_
    by_cases hs_1 : w9 = 0
    · refine lv_tableIn (tgt := 60) (off := 42) hx hb dX11_told_18 (by rw [hs_1]; decide) (by rw [hs_1]; decide) (by rw [hs_1]; rfl) (by decide) ?_
      refine lv_aload_n hx hb dX11_told_60 rfl (lv_at hl 0 rfl) ?_
      refine wk_get (v := .int (nI (wk_rk σ j))) hx hb hts (fun w h => wk_in_M w (lay_X6 w h)) hown hK hI (16 + j) (wx_em hj) rfl 2 (by decide) (hts _ (wk_in_M _ mw_190)) rfl rfl dX11_told_61 ?_
      refine lv_i2l hx hb dX11_told_64 rfl ?_
      exact wk_rl σ hx hb hr hlk hK hI rfl (wk_post (by unfold wk_told; rw [wk_clJ hV hj, wk_ifT (wk_okJ hV hj)]; first | (simp only [if_pos hs_1]; done) | (simp only [if_pos hs_1]; rfl))) dX11_told_65
    by_cases hs_2 : w9 = 1
    · refine lv_tableIn (tgt := 66) (off := 48) hx hb dX11_told_18 (by rw [hs_2]; decide) (by rw [hs_2]; decide) (by rw [hs_2]; rfl) (by decide) ?_
      refine lv_aload_n hx hb dX11_told_66 rfl (lv_at hl 0 rfl) ?_
      refine wk_get (v := .int (wk_sk σ j)) hx hb hts (fun w h => wk_in_M w (lay_X6 w h)) hown hK hI (16 + j) (wx_em hj) rfl 1 (by decide) (hts _ (wk_in_M _ mw_188)) rfl rfl dX11_told_67 ?_
      refine lv_i2l hx hb dX11_told_70 rfl ?_
      exact wk_rl σ hx hb hr hlk hK hI rfl (wk_post (by unfold wk_told; rw [wk_clJ hV hj, wk_ifT (wk_okJ hV hj)]; first | (simp only [if_neg hs_1, if_pos hs_2]; done) | (simp only [if_neg hs_1, if_pos hs_2]; rfl))) dX11_told_71
    by_cases hs_3 : w9 = 2
    · refine lv_tableIn (tgt := 72) (off := 54) hx hb dX11_told_18 (by rw [hs_3]; decide) (by rw [hs_3]; decide) (by rw [hs_3]; rfl) (by decide) ?_
      refine lv_aload_n hx hb dX11_told_72 rfl (lv_at hl 0 rfl) ?_
      refine wk_get (v := .int (wk_we σ j)) hx hb hts (fun w h => wk_in_M w (lay_X6 w h)) hown hK hI (16 + j) (wx_em hj) rfl 4 (by decide) (hts _ (wk_in_M _ mw_199)) rfl rfl dX11_told_73 ?_
      refine lv_i2l hx hb dX11_told_76 rfl ?_
      exact wk_rl σ hx hb hr hlk hK hI rfl (wk_post (by unfold wk_told; rw [wk_clJ hV hj, wk_ifT (wk_okJ hV hj)]; first | (simp only [if_neg hs_1, if_neg hs_2, if_pos hs_3]; done) | (simp only [if_neg hs_1, if_neg hs_2, if_pos hs_3]; rfl))) dX11_told_77
    by_cases hs_4 : w9 = 3
    · refine lv_tableIn (tgt := 78) (off := 60) hx hb dX11_told_18 (by rw [hs_4]; decide) (by rw [hs_4]; decide) (by rw [hs_4]; rfl) (by decide) ?_
      refine lv_aload_n hx hb dX11_told_78 rfl (lv_at hl 0 rfl) ?_
      refine wk_get (v := .long (wk_pu σ j)) hx hb hts (fun w h => wk_in_M w (lay_X6 w h)) hown hK hI (16 + j) (wx_em hj) rfl 5 (by decide) (hts _ (wk_in_M _ mw_200)) rfl rfl dX11_told_79 ?_
      exact wk_rl σ hx hb hr hlk hK hI rfl (wk_post (by unfold wk_told; rw [wk_clJ hV hj, wk_ifT (wk_okJ hV hj)]; first | (simp only [if_neg hs_1, if_neg hs_2, if_neg hs_3, if_pos hs_4]; done) | (simp only [if_neg hs_1, if_neg hs_2, if_neg hs_3, if_pos hs_4]; rfl))) dX11_told_82
    by_cases hs_5 : w9 = 4
    · refine lv_tableIn (tgt := 83) (off := 65) hx hb dX11_told_18 (by rw [hs_5]; decide) (by rw [hs_5]; decide) (by rw [hs_5]; rfl) (by decide) ?_
      refine lv_aload_n hx hb dX11_told_83 rfl (lv_at hl 0 rfl) ?_
      refine wk_kI hI hA (va_runV (As := []) (rest := []) ⟨hx, hb, hml, hown, hts⟩ (c_X6_isClimber l D cI cJ cS ad σ j hV hj _) (wk_cwV 0 hts wk_in_M mw_406 mw_407 mw_408 mw_46 mw_409 hdX6_isClimber ⟨(Nat.le_of_ble_eq_true rfl), (Nat.le_of_ble_eq_true rfl)⟩) (wk_preV hN hK hI (ci := 6) rfl (wx_em hj)) rfl rfl hl.1 rfl (lv_room (Nat.le_of_ble_eq_true rfl)) dX11_told_84 ⟨(Nat.le_of_ble_eq_true rfl), (Nat.le_of_ble_eq_true rfl)⟩) (fun r u H locs hw hI => ?_)
      obtain ⟨rfl, hw⟩ := hw
      rw [hw] at hI
      refine lv_if_eq (tgt := 94) hx hb dX11_told_87 (by decide) (fun c_6 => ?_) (fun c_6 => ?_)
      · have c_6 := wk_b0 c_6
        refine lv_lconst (v := 0) hx hb dX11_told_94 (by decide) ?_
        exact wk_rl σ hx hb hr hlk hK hI rfl (wk_post (by unfold wk_told; rw [wk_clJ hV hj, wk_ifT (wk_okJ hV hj)]; first | (simp only [if_neg hs_1, if_neg hs_2, if_neg hs_3, if_neg hs_4, if_pos hs_5, if_neg c_6]; done) | (simp only [if_neg hs_1, if_neg hs_2, if_neg hs_3, if_neg hs_4, if_pos hs_5, if_neg c_6]; rfl))) dX11_told_95
      · have c_6 := wk_b1 c_6
        refine lv_lconst (v := 1) hx hb dX11_told_90 (by decide) ?_
        refine lv_goto (tgt := 95) hx hb dX11_told_91 (by decide) ?_
        exact wk_rl σ hx hb hr hlk hK hI rfl (wk_post (by unfold wk_told; rw [wk_clJ hV hj, wk_ifT (wk_okJ hV hj)]; first | (simp only [if_neg hs_1, if_neg hs_2, if_neg hs_3, if_neg hs_4, if_pos hs_5, if_pos c_6]; done) | (simp only [if_neg hs_1, if_neg hs_2, if_neg hs_3, if_neg hs_4, if_pos hs_5, if_pos c_6]; rfl))) dX11_told_95
    by_cases hs_7 : w9 = 5
    · refine lv_tableIn (tgt := 96) (off := 78) hx hb dX11_told_18 (by rw [hs_7]; decide) (by rw [hs_7]; decide) (by rw [hs_7]; rfl) (by decide) ?_
      refine lv_aload_n hx hb dX11_told_96 rfl (lv_at hl 0 rfl) ?_
      refine wk_kI hI hA (va_runV (As := []) (rest := []) ⟨hx, hb, hml, hown, hts⟩ (c_X6_isPayee l D cI cJ cS ad σ j hV hj _) (wk_cwV 0 hts wk_in_M mw_435 mw_436 mw_437 mw_46 mw_438 hdX6_isPayee ⟨(Nat.le_of_ble_eq_true rfl), (Nat.le_of_ble_eq_true rfl)⟩) (wk_preV hN hK hI (ci := 6) rfl (wx_em hj)) rfl rfl hl.1 rfl (lv_room (Nat.le_of_ble_eq_true rfl)) dX11_told_97 ⟨(Nat.le_of_ble_eq_true rfl), (Nat.le_of_ble_eq_true rfl)⟩) (fun r u H locs hw hI => ?_)
      obtain ⟨rfl, hw⟩ := hw
      rw [hw] at hI
      refine lv_if_eq (tgt := 107) hx hb dX11_told_100 (by decide) (fun c_8 => ?_) (fun c_8 => ?_)
      · have c_8 := wk_b0 c_8
        refine lv_lconst (v := 0) hx hb dX11_told_107 (by decide) ?_
        exact wk_rl σ hx hb hr hlk hK hI rfl (wk_post (by unfold wk_told; rw [wk_clJ hV hj, wk_ifT (wk_okJ hV hj)]; first | (simp only [if_neg hs_1, if_neg hs_2, if_neg hs_3, if_neg hs_4, if_neg hs_5, if_pos hs_7, if_neg c_8]; done) | (simp only [if_neg hs_1, if_neg hs_2, if_neg hs_3, if_neg hs_4, if_neg hs_5, if_pos hs_7, if_neg c_8]; rfl))) dX11_told_108
      · have c_8 := wk_b1 c_8
        refine lv_lconst (v := 1) hx hb dX11_told_103 (by decide) ?_
        refine lv_goto (tgt := 108) hx hb dX11_told_104 (by decide) ?_
        exact wk_rl σ hx hb hr hlk hK hI rfl (wk_post (by unfold wk_told; rw [wk_clJ hV hj, wk_ifT (wk_okJ hV hj)]; first | (simp only [if_neg hs_1, if_neg hs_2, if_neg hs_3, if_neg hs_4, if_neg hs_5, if_pos hs_7, if_pos c_8]; done) | (simp only [if_neg hs_1, if_neg hs_2, if_neg hs_3, if_neg hs_4, if_neg hs_5, if_pos hs_7, if_pos c_8]; rfl))) dX11_told_108
    by_cases hs_9 : w9 = 6
    · refine lv_tableIn (tgt := 109) (off := 91) hx hb dX11_told_18 (by rw [hs_9]; decide) (by rw [hs_9]; decide) (by rw [hs_9]; rfl) (by decide) ?_
      refine lv_aload_n hx hb dX11_told_109 rfl (lv_at hl 0 rfl) ?_
      refine wk_kI hI hA (va_runV (As := []) (rest := []) ⟨hx, hb, hml, hown, hts⟩ (c_X6_isCarer l D cI cJ cS ad σ j hV hj _) (wk_cwV 0 hts wk_in_M mw_443 mw_444 mw_445 mw_46 mw_446 hdX6_isCarer ⟨(Nat.le_of_ble_eq_true rfl), (Nat.le_of_ble_eq_true rfl)⟩) (wk_preV hN hK hI (ci := 6) rfl (wx_em hj)) rfl rfl hl.1 rfl (lv_room (Nat.le_of_ble_eq_true rfl)) dX11_told_110 ⟨(Nat.le_of_ble_eq_true rfl), (Nat.le_of_ble_eq_true rfl)⟩) (fun r u H locs hw hI => ?_)
      obtain ⟨rfl, hw⟩ := hw
      rw [hw] at hI
      refine lv_if_eq (tgt := 120) hx hb dX11_told_113 (by decide) (fun c_10 => ?_) (fun c_10 => ?_)
      · have c_10 := wk_b0 c_10
        refine lv_lconst (v := 0) hx hb dX11_told_120 (by decide) ?_
        exact wk_rl σ hx hb hr hlk hK hI rfl (wk_post (by unfold wk_told; rw [wk_clJ hV hj, wk_ifT (wk_okJ hV hj)]; first | (simp only [if_neg hs_1, if_neg hs_2, if_neg hs_3, if_neg hs_4, if_neg hs_5, if_neg hs_7, if_pos hs_9, if_neg c_10]; done) | (simp only [if_neg hs_1, if_neg hs_2, if_neg hs_3, if_neg hs_4, if_neg hs_5, if_neg hs_7, if_pos hs_9, if_neg c_10]; rfl))) dX11_told_121
      · have c_10 := wk_b1 c_10
        refine lv_lconst (v := 1) hx hb dX11_told_116 (by decide) ?_
        refine lv_goto (tgt := 121) hx hb dX11_told_117 (by decide) ?_
        exact wk_rl σ hx hb hr hlk hK hI rfl (wk_post (by unfold wk_told; rw [wk_clJ hV hj, wk_ifT (wk_okJ hV hj)]; first | (simp only [if_neg hs_1, if_neg hs_2, if_neg hs_3, if_neg hs_4, if_neg hs_5, if_neg hs_7, if_pos hs_9, if_pos c_10]; done) | (simp only [if_neg hs_1, if_neg hs_2, if_neg hs_3, if_neg hs_4, if_neg hs_5, if_neg hs_7, if_pos hs_9, if_pos c_10]; rfl))) dX11_told_121
    refine lv_tableOut (tgt := 122) hx hb dX11_told_18 (by have q0 := lv_neT hs_1 wk_lit0; have q1 := lv_neT hs_2 wk_lit1; have q2 := lv_neT hs_3 wk_lit2; have q3 := lv_neT hs_4 wk_lit3; have q4 := lv_neT hs_5 wk_lit4; have q5 := lv_neT hs_7 wk_lit5; have q6 := lv_neT hs_9 wk_lit6; omega) (by decide) ?_
    refine lv_ldc2 hx hb hown (hts _ (wk_in_M _ mw_246)) dX11_told_122 ?_
    exact wk_rl σ hx hb hr hlk hK hI rfl (wk_post (by unfold wk_told; rw [wk_clJ hV hj, wk_ifT (wk_okJ hV hj)]; first | (simp only [if_neg hs_1, if_neg hs_2, if_neg hs_3, if_neg hs_4, if_neg hs_5, if_neg hs_7, if_neg hs_9]; done) | (simp only [if_neg hs_1, if_neg hs_2, if_neg hs_3, if_neg hs_4, if_neg hs_5, if_neg hs_7, if_neg hs_9]; rfl))) dX11_told_125
  · have hK := hK
    refine lv_aload_n hx hb dX11_told_0 rfl (lv_at hl 0 rfl) ?_
    refine wk_get (v := .ref (ad 1)) hx hb hts (fun w h => wk_in_M w (lay_X11 w h)) hown hK hI (0) wx_e0 rfl 0 (by decide) (hts _ (wk_in_M _ mw_145)) rfl rfl dX11_told_1 ?_
    refine lv_iload_n hx hb dX11_told_4 rfl (lv_at hl 1 rfl) ?_
    refine wk_kQ hI hA (va_runV (As := [.int k9]) (rest := []) ⟨hx, hb, hml, hown, hts⟩ (c_X2_member l D cI cJ cS ad σ k9 hV _) (wk_cwV 1 hts wk_in_M mw_224 mw_225 mw_226 mw_35 mw_227 hdX2_member ⟨(Nat.le_of_ble_eq_true rfl), (Nat.le_of_ble_eq_true rfl)⟩) (wk_preV hN hK hI (ci := 2) rfl wx_e1) rfl rfl hl.1 rfl (lv_room (Nat.le_of_ble_eq_true rfl)) dX11_told_5 ⟨(Nat.le_of_ble_eq_true rfl), (Nat.le_of_ble_eq_true rfl)⟩) (fun r u H locs hw hI => ?_)
    obtain ⟨rfl, hw⟩ := hw
    rw [hw] at hI
    rw [wx_findN hno]
    refine W.eq (g2 := F0 m 8 ls [.null]) rfl ?_
    refine lv_astore_nN (lv' := [(3, .null), (0, .ref (ad 0)), (1, .int k9), (2, .int w9)]) hx hb dX11_told_8 rfl hl (by decide) rfl (fun ls hl => ?_)
    refine lv_aload_nN hx hb dX11_told_9 rfl (lv_at hl 0 rfl) ?_
    refine lv_ifnonnullN hx hb dX11_told_10 ?_
    refine lv_ldc2 hx hb hown (hts _ (wk_in_M _ mw_246)) dX11_told_13 ?_
    exact wk_rl σ hx hb hr hlk hK hI rfl (wk_post (by unfold wk_told; rw [wk_ifF hno])) dX11_told_16
set_option maxHeartbeats 4000000 in
set_option maxRecDepth 100000 in
theorem c_X11_notes (l : Launch) (D : va_G) (cI cJ cS : ClassId) (ad : Nat → Nat) (σ : wk_St)   : wk_Ci l D (wk_tys cI cJ cS) yX11_notes (wk_M yX11_notes cX11_notes 1 (some .int)) ({ frames := 0, cells := 0, slots := 0, locals := 0 }) [.ref (ad 0)] (wx_W cI cS ad σ) (wx_W cI cS ad) (fun r0 u0 => r0 = ((nI (wk_nt σ), σ)).1 ∧ u0 = ((nI (wk_nt σ), σ)).2) := by
  intro sz
  refine Met.ofW (cc := cX11_notes) (maxL := 1) (ret := (some .int)) (by decide) rfl ?_
  intro p e s m args below meth c s₁ B hml hv
  obtain ⟨rfl, hsz, hP, hK, hD0, hN⟩ := hv
  have hx := B.exec
  have hb := B.bytes
  have hr := B.returns
  have hts := atoms_spec (ws := wk_M yX11_notes cX11_notes 1 (some .int)) B.pre
  have hown : s.vm.findClass RX11 = some m.cls := findClass_of_methodNamed B.named
  have hlk := B.notSynchronized
  subst hsz
  have hI : wk_I D (va_A (wx_W cI cS ad σ) s.heap.size) s.heap s.heap [] (wx_W cI cS ad σ) := ⟨hP, hD0.self, va_S.rf⟩
  have hA : ∀ q : Nat, s.heap.size ≤ q → (va_A (wx_W cI cS ad σ) s.heap.size) q := fun q h => Or.inr h
  clear hP hD0
  generalize va_A (wx_W cI cS ad σ) s.heap.size = A at hI hA ⊢
  have hl := lv_entry ([.ref (ad 0)]) (n := 1) (Nat.le_of_ble_eq_true rfl)
  rw [lg_entry_eq]
  generalize (lg_sl ([.ref (ad 0)]) ++ List.replicate (1 - (lg_sl ([.ref (ad 0)])).length) Slot.unset).toArray = ls at hl ⊢
  have hl : lv_has ls 1 [(0, .ref (ad 0))] := hl
  refine lv_aload_n hx hb dX11_notes_0 rfl (lv_at hl 0 rfl) ?_
  refine wk_get (v := .ref (ad 1)) hx hb hts (fun w h => wk_in_M w (lay_X11 w h)) hown hK hI (0) wx_e0 rfl 0 (by decide) (hts _ (wk_in_M _ mw_145)) rfl rfl dX11_notes_1 ?_
  refine wk_get (v := .int (nI (wk_nt σ))) hx hb hts (fun w h => wk_in_M w (lay_X2 w h)) hown hK hI (1) wx_e1 rfl 4 (by decide) (hts _ (wk_in_M _ mw_71)) rfl rfl dX11_notes_4 ?_
  exact wk_ri σ hx hb hr hlk hK hI rfl (wk_post (by first | rfl | (simp only []; done) | (simp only []; rfl))) dX11_notes_7
set_option maxHeartbeats 4000000 in
set_option maxRecDepth 100000 in
theorem c_X11_note (l : Launch) (D : va_G) (cI cJ cS : ClassId) (ad : Nat → Nat) (σ : wk_St) (i9 : Int32)  : wk_Ci l D (wk_tys cI cJ cS) yX11_note (wk_M yX11_note cX11_note 2 (some .int)) ({ frames := 0, cells := 0, slots := 0, locals := 0 }) [.ref (ad 0), .int i9] (wx_W cI cS ad σ) (wx_W cI cS ad) (fun r0 u0 => r0 = (wk_noteAt σ i9).1 ∧ u0 = (wk_noteAt σ i9).2) := by
  intro sz
  refine Met.ofW (cc := cX11_note) (maxL := 2) (ret := (some .int)) (by decide) rfl ?_
  intro p e s m args below meth c s₁ B hml hv
  obtain ⟨rfl, hsz, hP, hK, hD0, hN⟩ := hv
  have hx := B.exec
  have hb := B.bytes
  have hr := B.returns
  have hts := atoms_spec (ws := wk_M yX11_note cX11_note 2 (some .int)) B.pre
  have hown : s.vm.findClass RX11 = some m.cls := findClass_of_methodNamed B.named
  have hlk := B.notSynchronized
  subst hsz
  have hI : wk_I D (va_A (wx_W cI cS ad σ) s.heap.size) s.heap s.heap [] (wx_W cI cS ad σ) := ⟨hP, hD0.self, va_S.rf⟩
  have hA : ∀ q : Nat, s.heap.size ≤ q → (va_A (wx_W cI cS ad σ) s.heap.size) q := fun q h => Or.inr h
  clear hP hD0
  generalize va_A (wx_W cI cS ad σ) s.heap.size = A at hI hA ⊢
  have hl := lv_entry ([.ref (ad 0), .int i9]) (n := 2) (Nat.le_of_ble_eq_true rfl)
  rw [lg_entry_eq]
  generalize (lg_sl ([.ref (ad 0), .int i9]) ++ List.replicate (2 - (lg_sl ([.ref (ad 0), .int i9])).length) Slot.unset).toArray = ls at hl ⊢
  have hl : lv_has ls 2 [(0, .ref (ad 0)), (1, .int i9)] := hl
  refine lv_iload_n hx hb dX11_note_0 rfl (lv_at hl 1 rfl) ?_
  refine lv_if_lt (tgt := 21) hx hb dX11_note_1 (by decide) (fun c_1 => ?_) (fun c_1 => ?_)
  · refine lv_ldc hx hb hown (hts _ (wk_in_M _ mw_171)) dX11_note_21 ?_
    exact wk_ri σ hx hb hr hlk hK hI rfl (wk_post (by unfold wk_noteAt; rw [wk_ifF (fun hq => wk_lnl c_1 hq.1)])) dX11_note_23
  · refine lv_iload_n hx hb dX11_note_4 rfl (lv_at hl 1 rfl) ?_
    refine lv_aload_n hx hb dX11_note_5 rfl (lv_at hl 0 rfl) ?_
    refine wk_get (v := .ref (ad 1)) hx hb hts (fun w h => wk_in_M w (lay_X11 w h)) hown hK hI (0) wx_e0 rfl 0 (by decide) (hts _ (wk_in_M _ mw_145)) rfl rfl dX11_note_6 ?_
    refine wk_get (v := .int (nI (wk_nt σ))) hx hb hts (fun w h => wk_in_M w (lay_X2 w h)) hown hK hI (1) wx_e1 rfl 4 (by decide) (hts _ (wk_in_M _ mw_71)) rfl rfl dX11_note_9 ?_
    refine lv_icmp_ge (tgt := 21) hx hb dX11_note_12 (by decide) (fun c_2 => ?_) (fun c_2 => ?_)
    · refine lv_ldc hx hb hown (hts _ (wk_in_M _ mw_171)) dX11_note_21 ?_
      exact wk_ri σ hx hb hr hlk hK hI rfl (wk_post (by unfold wk_noteAt; rw [wk_ifF (fun hq => wk_lnl hq.2.1 c_2)])) dX11_note_23
    · refine lv_iload_n hx hb dX11_note_15 rfl (lv_at hl 1 rfl) ?_
      refine lv_bipush (v := 64) hx hb dX11_note_16 (by decide) ?_
      refine lv_icmp_lt (tgt := 24) hx hb dX11_note_18 (by decide) (fun c_3 => ?_) (fun c_3 => ?_)
      · obtain ⟨j, hj31, rfl⟩ := nI_of c_1
        have hj64 : j < 64 := by have hq := c_3; simp only [Int32.lt_iff_toInt_lt, Int32.le_iff_toInt_le, nI_toInt hj31, wk_lit0, wk_lit1, wk_lit2, wk_lit3, wk_lit5, wk_lit6, wk_lit7, wk_lit8, wk_lit64, wk_lit4, wk_lit12, wk_lit20, wk_lit99, wk_lit1000] at hq; omega
        refine lv_aload_n hx hb dX11_note_24 rfl (lv_at hl 0 rfl) ?_
        refine wk_get (v := .ref (ad 1)) hx hb hts (fun w h => wk_in_M w (lay_X11 w h)) hown hK hI (0) wx_e0 rfl 0 (by decide) (hts _ (wk_in_M _ mw_145)) rfl rfl dX11_note_25 ?_
        refine wk_get (v := .ref (ad 7)) hx hb hts (fun w h => wk_in_M w (lay_X2 w h)) hown hK hI (1) wx_e1 rfl 3 (by decide) (hts _ (wk_in_M _ mw_69)) rfl rfl dX11_note_28 ?_
        refine lv_iload_n hx hb dX11_note_31 rfl (lv_at hl 1 rfl) ?_
        refine wk_iald (v := (wk_kp σ j)) (j := j) hx hb hK hI 7 0 wx_e7 rfl rfl (by omega) (by decide) rfl dX11_note_32 ?_
        exact wk_ri σ hx hb hr hlk hK hI rfl (wk_post (by unfold wk_noteAt; rw [wk_ifT ⟨wk_nlt c_1, wk_nle c_2, c_3⟩, nI_clamp hj31])) dX11_note_33
      · refine lv_ldc hx hb hown (hts _ (wk_in_M _ mw_171)) dX11_note_21 ?_
        exact wk_ri σ hx hb hr hlk hK hI rfl (wk_post (by unfold wk_noteAt; rw [wk_ifF (fun hq => c_3 hq.2.2)])) dX11_note_23
set_option maxHeartbeats 4000000 in
set_option maxRecDepth 100000 in
theorem c_X11_rest (l : Launch) (D : va_G) (cI cJ cS : ClassId) (ad : Nat → Nat) (σ : wk_St) (n : Int32) (hV : wk_V σ) : wk_Ci l D (wk_tys cI cJ cS) yX11_rest (wk_M yX11_rest cX11_rest 3 (some .int)) ({ frames := 1, cells := 0, slots := 0, locals := 22 }) [.ref (ad 0), .int n] (wx_W cI cS ad σ) (wx_W cI cS ad) (fun r0 u0 => r0 = (wk_rest σ n).1 ∧ u0 = (wk_rest σ n).2) := by
  intro sz
  refine Met.ofW (cc := cX11_rest) (maxL := 3) (ret := (some .int)) (by decide) rfl ?_
  intro p e s m args below meth c s₁ B hml hv
  obtain ⟨rfl, hsz, hP, hK, hD0, hN⟩ := hv
  have hx := B.exec
  have hb := B.bytes
  have hr := B.returns
  have hts := atoms_spec (ws := wk_M yX11_rest cX11_rest 3 (some .int)) B.pre
  have hown : s.vm.findClass RX11 = some m.cls := findClass_of_methodNamed B.named
  have hlk := B.notSynchronized
  subst hsz
  have hI : wk_I D (va_A (wx_W cI cS ad σ) s.heap.size) s.heap s.heap [] (wx_W cI cS ad σ) := ⟨hP, hD0.self, va_S.rf⟩
  have hA : ∀ q : Nat, s.heap.size ≤ q → (va_A (wx_W cI cS ad σ) s.heap.size) q := fun q h => Or.inr h
  clear hP hD0
  generalize va_A (wx_W cI cS ad σ) s.heap.size = A at hI hA ⊢
  have hl := lv_entry ([.ref (ad 0), .int n]) (n := 3) (Nat.le_of_ble_eq_true rfl)
  rw [lg_entry_eq]
  generalize (lg_sl ([.ref (ad 0), .int n]) ++ List.replicate (3 - (lg_sl ([.ref (ad 0), .int n])).length) Slot.unset).toArray = ls at hl ⊢
  have hl : lv_has ls 3 [(0, .ref (ad 0)), (1, .int n)] := hl
  refine lv_iload_n hx hb dX11_rest_0 rfl (lv_at hl 1 rfl) ?_
  refine lv_if_lt (tgt := 11) hx hb dX11_rest_1 (by decide) (fun c_1 => ?_) (fun c_1 => ?_)
  · refine lv_ldc hx hb hown (hts _ (wk_in_M _ mw_171)) dX11_rest_11 ?_
    exact wk_ri σ hx hb hr hlk hK hI rfl (wk_post (by unfold wk_rest; rw [wk_ifF (fun hq => wk_lnl c_1 hq.1)])) dX11_rest_13
  · refine lv_iload_n hx hb dX11_rest_4 rfl (lv_at hl 1 rfl) ?_
    refine lv_sipush (v := 1000) hx hb dX11_rest_5 (by decide) ?_
    refine lv_icmp_le (tgt := 14) hx hb dX11_rest_8 (by decide) (fun c_2 => ?_) (fun c_2 => ?_)
    · refine lv_aload_n hx hb dX11_rest_14 rfl (lv_at hl 0 rfl) ?_
      refine wk_get (v := .ref (ad 1)) hx hb hts (fun w h => wk_in_M w (lay_X11 w h)) hown hK hI (0) wx_e0 rfl 0 (by decide) (hts _ (wk_in_M _ mw_145)) rfl rfl dX11_rest_15 ?_
      refine wk_get (v := va_rf (wx_mp ad (wk_n σ) 0)) hx hb hts (fun w h => wk_in_M w (lay_X2 w h)) hown hK hI (1) wx_e1 rfl 0 (by decide) (hts _ (wk_in_M _ mw_64)) rfl rfl dX11_rest_18 ?_
      refine wk_astore_n (lv' := [(2, va_rf (wx_mp ad (wk_n σ) 0)), (0, .ref (ad 0)), (1, .int n)]) hx hb dX11_rest_21 rfl hl (by decide) rfl (fun ls hl => ?_)
      refine wk_loop (fun i H locs ls => wk_I D A s.heap H locs (wx_W cI cS ad (wk_restL (-n) σ i)) ∧ lv_has ls 3 [(0, .ref (ad 0)), (1, .int n), (2, va_rf (wx_mp ad (wk_n σ) i))]) (wk_n σ) ?_ ?_ (wk_n σ) 0 _ _ _ (Nat.zero_add _) ⟨hI, lv_sub hl [1, 2, 0] rfl⟩
      · intro H locs ls hinv
        obtain ⟨hI, hl⟩ := hinv
        rw [wx_mpF (Nat.lt_irrefl _)] at hl
        have hl : lv_has ls 3 [(0, .ref (ad 0)), (1, .int n), (2, .null)] := hl
        have hG_3 : wk_G σ (wk_restL (-n) σ (wk_n σ)) 0 := wk_g_restL (-n) σ (wk_n σ)
        refine lv_aload_nN hx hb dX11_rest_22 rfl (lv_at hl 2 rfl) ?_
        refine lv_ifnullN (tgt := 40) hx hb dX11_rest_23 (by decide) ?_
        refine lv_aload_n hx hb dX11_rest_40 rfl (lv_at hl 0 rfl) ?_
        refine wk_get (v := .ref (ad 1)) hx hb hts (fun w h => wk_in_M w (lay_X11 w h)) hown hK hI (0) wx_e0 rfl 0 (by decide) (hts _ (wk_in_M _ mw_145)) rfl rfl dX11_rest_41 ?_
        refine wk_get (v := .int (nI (wk_n (wk_restL (-n) σ (wk_n σ))))) hx hb hts (fun w h => wk_in_M w (lay_X2 w h)) hown hK hI (1) wx_e1 rfl 2 (by decide) (hts _ (wk_in_M _ mw_67)) rfl rfl dX11_rest_44 ?_
        exact wk_ri (wk_restL (-n) σ (wk_n σ)) hx hb hr hlk hK hI rfl (wk_post (by unfold wk_rest; rw [wk_ifT ⟨wk_nlt c_1, c_2⟩, (wk_g_restL (-n) σ (wk_n σ)).n])) dX11_rest_47
      · intro i H locs ls hi hinv ih
        obtain ⟨hI, hl⟩ := hinv
        have hiσ : i < wk_n σ := hi
        rw [wx_mpT hi] at hl
        have hl : lv_has ls 3 [(0, .ref (ad 0)), (1, .int n), (2, .ref (ad (16 + i)))] := hl
        have hG_4 : wk_G σ (wk_restL (-n) σ i) 0 := wk_g_restL (-n) σ i
        refine lv_aload_n hx hb dX11_rest_22 rfl (lv_at hl 2 rfl) ?_
        refine lv_ifnull hx hb dX11_rest_23 ?_
        refine lv_aload_n hx hb dX11_rest_26 rfl (lv_at hl 2 rfl) ?_
        refine lv_iload_n hx hb dX11_rest_27 rfl (lv_at hl 1 rfl) ?_
        refine lv_ineg hx hb dX11_rest_28 ?_
        refine wk_kV hI hA (va_runV (As := [.int (-n)]) (rest := []) ⟨hx, hb, hml, hown, hts⟩ (c_X6_tire l D cI cJ cS ad (wk_restL (-n) σ i) i (-n) (hG_4.lt hiσ) _) (wk_cwV 1 hts wk_in_M mw_448 mw_272 mw_273 mw_46 mw_274 hdX6_tire ⟨(Nat.le_of_ble_eq_true rfl), (Nat.le_of_ble_eq_true rfl)⟩) (wk_preV hN hK hI (ci := 6) rfl (wx_em (hG_4.lt hiσ))) rfl rfl hl.1 rfl (lv_room (Nat.le_of_ble_eq_true rfl)) dX11_rest_29 ⟨(Nat.le_of_ble_eq_true rfl), (Nat.le_of_ble_eq_true rfl)⟩) (fun u H locs hw hI => ?_)
        obtain rfl := hw
        have hG_5 : wk_G σ (wk_tire (wk_restL (-n) σ i) i (-n)) (0 + 0) := hG_4.trans (wk_g_tire (wk_restL (-n) σ i) i (-n))
        refine lv_aload_n hx hb dX11_rest_32 rfl (lv_at hl 2 rfl) ?_
        refine wk_get (v := va_rf (wx_mp ad (wk_n (wk_tire (wk_restL (-n) σ i) i (-n))) (i + 1))) hx hb hts (fun w h => wk_in_M w (lay_X6 w h)) hown hK hI (16 + i) (wx_em (hG_5.lt hiσ)) rfl 6 (by decide) (hts _ (wk_in_M _ mw_204)) rfl rfl dX11_rest_33 ?_
        rw [show wk_n (wk_tire (wk_restL (-n) σ i) i (-n)) = wk_n σ from hG_5.n.trans rfl]
        refine wk_astore_n (lv' := [(2, va_rf (wx_mp ad (wk_n σ) (i + 1))), (0, .ref (ad 0)), (1, .int n)]) hx hb dX11_rest_36 rfl hl (by decide) rfl (fun ls hl => ?_)
        refine lv_goto (tgt := 22) hx hb dX11_rest_37 (by decide) ?_
        exact ih _ _ _ ⟨hI, lv_sub hl [1, 2, 0] rfl⟩
    · refine lv_ldc hx hb hown (hts _ (wk_in_M _ mw_171)) dX11_rest_11 ?_
      exact wk_ri σ hx hb hr hlk hK hI rfl (wk_post (by unfold wk_rest; rw [wk_ifF (fun hq => c_2 hq.2)])) dX11_rest_13
set_option maxHeartbeats 4000000 in
set_option maxRecDepth 100000 in
theorem c_X11_watch (l : Launch) (D : va_G) (cI cJ cS : ClassId) (ad : Nat → Nat) (σ : wk_St) (d9 n : Int32) (hV : wk_V σ) : wk_Cl l D (wk_tys cI cJ cS) yX11_watch (wk_M yX11_watch cX11_watch 6 (some .long)) ({ frames := 6, cells := 0, slots := 0, locals := 142 }) [.ref (ad 0), .int d9, .int n] (wx_W cI cS ad σ) (wx_W cI cS ad) (fun r0 u0 => r0 = (wk_watch σ d9 n).1 ∧ u0 = (wk_watch σ d9 n).2) := by
  intro sz
  refine Met.ofW (cc := cX11_watch) (maxL := 6) (ret := (some .long)) (by decide) rfl ?_
  intro p e s m args below meth c s₁ B hml hv
  obtain ⟨rfl, hsz, hP, hK, hD0, hN⟩ := hv
  have hx := B.exec
  have hb := B.bytes
  have hr := B.returns
  have hts := atoms_spec (ws := wk_M yX11_watch cX11_watch 6 (some .long)) B.pre
  have hown : s.vm.findClass RX11 = some m.cls := findClass_of_methodNamed B.named
  have hlk := B.notSynchronized
  subst hsz
  have hI : wk_I D (va_A (wx_W cI cS ad σ) s.heap.size) s.heap s.heap [] (wx_W cI cS ad σ) := ⟨hP, hD0.self, va_S.rf⟩
  have hA : ∀ q : Nat, s.heap.size ≤ q → (va_A (wx_W cI cS ad σ) s.heap.size) q := fun q h => Or.inr h
  clear hP hD0
  generalize va_A (wx_W cI cS ad σ) s.heap.size = A at hI hA ⊢
  have hl := lv_entry ([.ref (ad 0), .int d9, .int n]) (n := 6) (Nat.le_of_ble_eq_true rfl)
  rw [lg_entry_eq]
  generalize (lg_sl ([.ref (ad 0), .int d9, .int n]) ++ List.replicate (6 - (lg_sl ([.ref (ad 0), .int d9, .int n])).length) Slot.unset).toArray = ls at hl ⊢
  have hl : lv_has ls 6 [(0, .ref (ad 0)), (1, .int d9), (2, .int n)] := hl
  refine lv_iload_n hx hb dX11_watch_0 rfl (lv_at hl 1 rfl) ?_
  refine wk_kI hI hA (va_runS (As := [.int d9]) (rest := []) ⟨hx, hb, hml, hown, hts⟩ (c_X11_isDuty l D cI cJ cS ad σ d9 _) (wk_cwS 1 hts wk_in_M mw_453 mw_454 mw_34 mw_455 (hdX11_isDuty).2 ⟨(Nat.le_of_ble_eq_true rfl), (Nat.le_of_ble_eq_true rfl)⟩) (wk_preS hN hK hI) rfl rfl hl.1 rfl (lv_room (Nat.le_of_ble_eq_true rfl)) dX11_watch_1 ⟨(Nat.le_of_ble_eq_true rfl), (Nat.le_of_ble_eq_true rfl)⟩) (fun r u H locs hw hI => ?_)
  obtain ⟨rfl, hw⟩ := hw
  rw [hw] at hI
  refine lv_if_eq (tgt := 15) hx hb dX11_watch_4 (by decide) (fun c_1 => ?_) (fun c_1 => ?_)
  · have c_1 := wk_b0 c_1
    refine lv_ldc2 hx hb hown (hts _ (wk_in_M _ mw_246)) dX11_watch_15 ?_
    exact wk_rl σ hx hb hr hlk hK hI rfl (wk_post (by unfold wk_watch; rw [wk_ifF (fun hq => c_1 hq.1)])) dX11_watch_18
  · have c_1 := wk_b1 c_1
    refine lv_iload_n hx hb dX11_watch_7 rfl (lv_at hl 1 rfl) ?_
    refine lv_iload_n hx hb dX11_watch_8 rfl (lv_at hl 2 rfl) ?_
    refine wk_kI hI hA (va_runS (As := [.int d9, .int n]) (rest := []) ⟨hx, hb, hml, hown, hts⟩ (c_X11_isBeyondBound l D cI cJ cS ad σ d9 n _) (wk_cwS 2 hts wk_in_M mw_240 mw_241 mw_34 mw_242 (hdX11_isBeyondBound).2 ⟨(Nat.le_of_ble_eq_true rfl), (Nat.le_of_ble_eq_true rfl)⟩) (wk_preS hN hK hI) rfl rfl hl.1 rfl (lv_room (Nat.le_of_ble_eq_true rfl)) dX11_watch_9 ⟨(Nat.le_of_ble_eq_true rfl), (Nat.le_of_ble_eq_true rfl)⟩) (fun r u H locs hw hI => ?_)
    obtain ⟨rfl, hw⟩ := hw
    rw [hw] at hI
    refine lv_if_eq (tgt := 19) hx hb dX11_watch_12 (by decide) (fun c_2 => ?_) (fun c_2 => ?_)
    · have c_2 := wk_b0 c_2
      refine lv_aload_n hx hb dX11_watch_19 rfl (lv_at hl 0 rfl) ?_
      refine wk_get (v := .ref (ad 1)) hx hb hts (fun w h => wk_in_M w (lay_X11 w h)) hown hK hI (0) wx_e0 rfl 0 (by decide) (hts _ (wk_in_M _ mw_145)) rfl rfl dX11_watch_20 ?_
      refine wk_kV hI hA (va_runV (As := []) (rest := []) ⟨hx, hb, hml, hown, hts⟩ (c_X2_forgetNotes l D cI cJ cS ad σ _) (wk_cwV 0 hts wk_in_M mw_247 mw_248 mw_249 mw_35 mw_250 hdX2_forgetNotes ⟨(Nat.le_of_ble_eq_true rfl), (Nat.le_of_ble_eq_true rfl)⟩) (wk_preV hN hK hI (ci := 2) rfl wx_e1) rfl rfl hl.1 rfl (lv_room (Nat.le_of_ble_eq_true rfl)) dX11_watch_23 ⟨(Nat.le_of_ble_eq_true rfl), (Nat.le_of_ble_eq_true rfl)⟩) (fun u H locs hw hI => ?_)
      obtain rfl := hw
      refine lv_lconst (v := 0) hx hb dX11_watch_26 (by decide) ?_
      refine lv_lstore_n (lv' := [(3, .long 0), (0, .ref (ad 0)), (1, .int d9), (2, .int n)]) hx hb dX11_watch_27 rfl hl (by decide) rfl (fun ls hl => ?_)
      refine lv_aload_n hx hb dX11_watch_28 rfl (lv_at hl 1 rfl) ?_
      refine wk_get (v := .ref (ad 1)) hx hb hts (fun w h => wk_in_M w (lay_X11 w h)) hown hK hI (0) wx_e0 rfl 0 (by decide) (hts _ (wk_in_M _ mw_145)) rfl rfl dX11_watch_29 ?_
      refine wk_get (v := va_rf (wx_mp ad (wk_n (wk_fg σ)) 0)) hx hb hts (fun w h => wk_in_M w (lay_X2 w h)) hown hK hI (1) wx_e1 rfl 0 (by decide) (hts _ (wk_in_M _ mw_64)) rfl rfl dX11_watch_32 ?_
      refine wk_astore (lv' := [(5, va_rf (wx_mp ad (wk_n (wk_fg σ)) 0)), (3, .long 0), (0, .ref (ad 0)), (1, .int d9), (2, .int n)]) hx hb dX11_watch_35 hl (by decide) rfl (fun ls hl => ?_)
      refine wk_loop (fun i H locs ls => wk_I D A s.heap H locs (wx_W cI cS ad ((wk_watchL d9 n (wk_fg σ) i).2)) ∧ lv_has ls 6 [(0, .ref (ad 0)), (1, .int d9), (2, .int n), (3, .long ((wk_watchL d9 n (wk_fg σ) i).1)), (5, va_rf (wx_mp ad (wk_n (wk_fg σ)) i))]) (wk_n (wk_fg σ)) ?_ ?_ (wk_n (wk_fg σ)) 0 _ _ _ (Nat.zero_add _) ⟨hI, lv_sub hl [2, 3, 4, 1, 0] rfl⟩
      · intro H locs ls hinv
        obtain ⟨hI, hl⟩ := hinv
        rw [wx_mpF (Nat.lt_irrefl _)] at hl
        have hl : lv_has ls 6 [(0, .ref (ad 0)), (1, .int d9), (2, .int n), (3, .long ((wk_watchL d9 n (wk_fg σ) (wk_n (wk_fg σ))).1)), (5, .null)] := hl
        have hG_3 : wk_G (wk_fg σ) ((wk_watchL d9 n (wk_fg σ) (wk_n (wk_fg σ))).2) (28 * (wk_n (wk_fg σ))) := wk_g_watchL d9 n (wk_fg σ) hV.1 (wk_n (wk_fg σ))
        refine lv_aloadN hx hb dX11_watch_37 (lv_at hl 4 rfl) ?_
        refine lv_ifnullN (tgt := 63) hx hb dX11_watch_39 (by decide) ?_
        refine lv_lload_n hx hb dX11_watch_63 rfl (lv_at hl 3 rfl) ?_
        exact wk_rl ((wk_watchL d9 n (wk_fg σ) (wk_n (wk_fg σ))).2) hx hb hr hlk hK hI rfl (wk_post (by unfold wk_watch; rw [wk_ifT ⟨c_1, Classical.not_not.mp c_2⟩]; first | done | rfl)) dX11_watch_64
      · intro i H locs ls hi hinv ih
        obtain ⟨hI, hl⟩ := hinv
        have hiσ : i < wk_n (wk_fg σ) := hi
        rw [wx_mpT hi] at hl
        have hl : lv_has ls 6 [(0, .ref (ad 0)), (1, .int d9), (2, .int n), (3, .long ((wk_watchL d9 n (wk_fg σ) i).1)), (5, .ref (ad (16 + i)))] := hl
        have hG_4 : wk_G (wk_fg σ) ((wk_watchL d9 n (wk_fg σ) i).2) (28 * i) := wk_g_watchL d9 n (wk_fg σ) hV.1 i
        refine lv_aload hx hb dX11_watch_37 (lv_at hl 4 rfl) ?_
        refine lv_ifnull hx hb dX11_watch_39 ?_
        refine lv_lload_n hx hb dX11_watch_42 rfl (lv_at hl 3 rfl) ?_
        refine lv_aload_n hx hb dX11_watch_43 rfl (lv_at hl 0 rfl) ?_
        refine lv_aload hx hb dX11_watch_44 (lv_at hl 4 rfl) ?_
        refine lv_iload_n hx hb dX11_watch_46 rfl (lv_at hl 1 rfl) ?_
        refine lv_iload_n hx hb dX11_watch_47 rfl (lv_at hl 2 rfl) ?_
        refine wk_kL hI hA (va_runV (As := [.ref (ad (16 + i)), .int d9, .int n]) (rest := [.long ((wk_watchL d9 n (wk_fg σ) i).1)]) ⟨hx, hb, hml, hown, hts⟩ (c_X11_doDuty l D cI cJ cS ad ((wk_watchL d9 n (wk_fg σ) i).2) i d9 n (hG_4.V hV) (hG_4.lt hiσ) (by have hq := hG_4.nt; have hq0 : wk_nt (wk_fg σ) = 0 := rfl; have hq12 : wk_n (wk_fg σ) ≤ 12 := hV.1; omega) _) (wk_cwV 3 hts wk_in_M mw_456 mw_458 mw_1 mw_34 mw_459 hdX11_doDuty ⟨(Nat.le_of_ble_eq_true rfl), (Nat.le_of_ble_eq_true rfl)⟩) (wk_preV hN hK hI (ci := 10) rfl wx_e0) rfl rfl hl.1 rfl (lv_room (Nat.le_of_ble_eq_true rfl)) dX11_watch_48 ⟨(Nat.le_of_ble_eq_true rfl), (Nat.le_of_ble_eq_true rfl)⟩) (fun r u H locs hw hI => ?_)
        obtain ⟨rfl, rfl⟩ := hw
        have hG_5 : wk_G (wk_fg σ) ((wk_do d9 ((wk_watchL d9 n (wk_fg σ) i).2) i n).2) ((28 * i) + 28) := hG_4.trans (wk_g_do d9 ((wk_watchL d9 n (wk_fg σ) i).2) i n (hG_4.V hV).1)
        refine lv_ladd hx hb dX11_watch_51 ?_
        refine lv_lstore_n (lv' := [(3, .long (((wk_watchL d9 n (wk_fg σ) i).1) + ((wk_do d9 ((wk_watchL d9 n (wk_fg σ) i).2) i n).1))), (0, .ref (ad 0)), (1, .int d9), (2, .int n), (5, .ref (ad (16 + i)))]) hx hb dX11_watch_52 rfl hl (by decide) rfl (fun ls hl => ?_)
        refine lv_aload hx hb dX11_watch_53 (lv_at hl 4 rfl) ?_
        refine wk_get (v := va_rf (wx_mp ad (wk_n ((wk_do d9 ((wk_watchL d9 n (wk_fg σ) i).2) i n).2)) (i + 1))) hx hb hts (fun w h => wk_in_M w (lay_X6 w h)) hown hK hI (16 + i) (wx_em (hG_5.lt hiσ)) rfl 6 (by decide) (hts _ (wk_in_M _ mw_204)) rfl rfl dX11_watch_55 ?_
        rw [show wk_n ((wk_do d9 ((wk_watchL d9 n (wk_fg σ) i).2) i n).2) = wk_n (wk_fg σ) from hG_5.n.trans rfl]
        refine wk_astore (lv' := [(5, va_rf (wx_mp ad (wk_n (wk_fg σ)) (i + 1))), (3, .long (((wk_watchL d9 n (wk_fg σ) i).1) + ((wk_do d9 ((wk_watchL d9 n (wk_fg σ) i).2) i n).1))), (0, .ref (ad 0)), (1, .int d9), (2, .int n)]) hx hb dX11_watch_58 hl (by decide) rfl (fun ls hl => ?_)
        refine lv_goto (tgt := 37) hx hb dX11_watch_60 (by decide) ?_
        exact ih _ _ _ ⟨hI, lv_sub hl [2, 3, 4, 1, 0] rfl⟩
    · have c_2 := wk_b1 c_2
      refine lv_ldc2 hx hb hown (hts _ (wk_in_M _ mw_246)) dX11_watch_15 ?_
      exact wk_rl σ hx hb hr hlk hK hI rfl (wk_post (by unfold wk_watch; rw [wk_ifF (fun hq => c_2 hq.2)])) dX11_watch_18
set_option maxHeartbeats 4000000 in
set_option maxRecDepth 100000 in
theorem c_X11_feed (l : Launch) (D : va_G) (cI cJ cS : ClassId) (ad : Nat → Nat) (σ : wk_St) (k9 : Int32) (n : Int32) (hV : wk_V σ) : wk_Ci l D (wk_tys cI cJ cS) yX11_feed (wk_M yX11_feed cX11_feed 6 (some .int)) ({ frames := 5, cells := 0, slots := 0, locals := 119 }) [.ref (ad 0), .int k9, .int n] (wx_W cI cS ad σ) (wx_W cI cS ad) (fun r0 u0 => r0 = (wk_feed σ k9 n).1 ∧ u0 = (wk_feed σ k9 n).2) := by
  intro sz
  refine Met.ofW (cc := cX11_feed) (maxL := 6) (ret := (some .int)) (by decide) rfl ?_
  intro p e s m args below meth c s₁ B hml hv
  obtain ⟨rfl, hsz, hP, hK, hD0, hN⟩ := hv
  have hx := B.exec
  have hb := B.bytes
  have hr := B.returns
  have hts := atoms_spec (ws := wk_M yX11_feed cX11_feed 6 (some .int)) B.pre
  have hown : s.vm.findClass RX11 = some m.cls := findClass_of_methodNamed B.named
  have hlk := B.notSynchronized
  subst hsz
  have hI : wk_I D (va_A (wx_W cI cS ad σ) s.heap.size) s.heap s.heap [] (wx_W cI cS ad σ) := ⟨hP, hD0.self, va_S.rf⟩
  have hA : ∀ q : Nat, s.heap.size ≤ q → (va_A (wx_W cI cS ad σ) s.heap.size) q := fun q h => Or.inr h
  clear hP hD0
  generalize va_A (wx_W cI cS ad σ) s.heap.size = A at hI hA ⊢
  have hl := lv_entry ([.ref (ad 0), .int k9, .int n]) (n := 6) (Nat.le_of_ble_eq_true rfl)
  rw [lg_entry_eq]
  generalize (lg_sl ([.ref (ad 0), .int k9, .int n]) ++ List.replicate (6 - (lg_sl ([.ref (ad 0), .int k9, .int n])).length) Slot.unset).toArray = ls at hl ⊢
  have hl : lv_has ls 6 [(0, .ref (ad 0)), (1, .int k9), (2, .int n)] := hl
  rcases wk_okC hV k9 with ⟨j, hj, rfl⟩ | hno
  · have hK := hK
    refine lv_aload_n hx hb dX11_feed_0 rfl (lv_at hl 0 rfl) ?_
    refine wk_get (v := .ref (ad 1)) hx hb hts (fun w h => wk_in_M w (lay_X11 w h)) hown hK hI (0) wx_e0 rfl 0 (by decide) (hts _ (wk_in_M _ mw_145)) rfl rfl dX11_feed_1 ?_
    refine lv_iload_n hx hb dX11_feed_4 rfl (lv_at hl 1 rfl) ?_
    refine wk_kQ hI hA (va_runV (As := [.int (nI j)]) (rest := []) ⟨hx, hb, hml, hown, hts⟩ (c_X2_member l D cI cJ cS ad σ (nI j) hV _) (wk_cwV 1 hts wk_in_M mw_224 mw_225 mw_226 mw_35 mw_227 hdX2_member ⟨(Nat.le_of_ble_eq_true rfl), (Nat.le_of_ble_eq_true rfl)⟩) (wk_preV hN hK hI (ci := 2) rfl wx_e1) rfl rfl hl.1 rfl (lv_room (Nat.le_of_ble_eq_true rfl)) dX11_feed_5 ⟨(Nat.le_of_ble_eq_true rfl), (Nat.le_of_ble_eq_true rfl)⟩) (fun r u H locs hw hI => ?_)
    obtain ⟨rfl, hw⟩ := hw
    rw [hw] at hI
    rw [wx_findJ hV hj]
    refine W.eq (g2 := F0 m 8 ls [.ref (ad (16 + j))]) rfl ?_
    refine lv_astore_n (lv' := [(3, .ref (ad (16 + j))), (0, .ref (ad 0)), (1, .int (nI j)), (2, .int n)]) hx hb dX11_feed_8 rfl hl (by decide) rfl (fun ls hl => ?_)
    refine lv_aload_n hx hb dX11_feed_9 rfl (lv_at hl 0 rfl) ?_
    refine lv_ifnull hx hb dX11_feed_10 ?_
    refine lv_aload_n hx hb dX11_feed_13 rfl (lv_at hl 0 rfl) ?_
    refine wk_kI hI hA (va_runV (As := []) (rest := []) ⟨hx, hb, hml, hown, hts⟩ (c_X6_isCarer l D cI cJ cS ad σ j hV hj _) (wk_cwV 0 hts wk_in_M mw_443 mw_444 mw_445 mw_46 mw_446 hdX6_isCarer ⟨(Nat.le_of_ble_eq_true rfl), (Nat.le_of_ble_eq_true rfl)⟩) (wk_preV hN hK hI (ci := 6) rfl (wx_em hj)) rfl rfl hl.1 rfl (lv_room (Nat.le_of_ble_eq_true rfl)) dX11_feed_14 ⟨(Nat.le_of_ble_eq_true rfl), (Nat.le_of_ble_eq_true rfl)⟩) (fun r u H locs hw hI => ?_)
    obtain ⟨rfl, hw⟩ := hw
    rw [hw] at hI
    refine lv_if_eq (tgt := 28) hx hb dX11_feed_17 (by decide) (fun c_1 => ?_) (fun c_1 => ?_)
    · have c_1 := wk_b0 c_1
      refine lv_ldc hx hb hown (hts _ (wk_in_M _ mw_171)) dX11_feed_28 ?_
      exact wk_ri σ hx hb hr hlk hK hI rfl (wk_post (by unfold wk_feed; rw [wk_clJ hV hj, wk_ifF (fun hq => c_1 hq.2.1)])) dX11_feed_30
    · have c_1 := wk_b1 c_1
      refine lv_iconst (v := 0) hx hb dX11_feed_20 (by decide) ?_
      refine lv_iload_n hx hb dX11_feed_21 rfl (lv_at hl 3 rfl) ?_
      refine wk_kI hI hA (va_runS (As := [.int 0, .int n]) (rest := []) ⟨hx, hb, hml, hown, hts⟩ (c_X11_isBeyondBound l D cI cJ cS ad σ 0 n _) (wk_cwS 2 hts wk_in_M mw_240 mw_241 mw_34 mw_242 (hdX11_isBeyondBound).2 ⟨(Nat.le_of_ble_eq_true rfl), (Nat.le_of_ble_eq_true rfl)⟩) (wk_preS hN hK hI) rfl rfl hl.1 rfl (lv_room (Nat.le_of_ble_eq_true rfl)) dX11_feed_22 ⟨(Nat.le_of_ble_eq_true rfl), (Nat.le_of_ble_eq_true rfl)⟩) (fun r u H locs hw hI => ?_)
      obtain ⟨rfl, hw⟩ := hw
      rw [hw] at hI
      refine lv_if_eq (tgt := 31) hx hb dX11_feed_25 (by decide) (fun c_2 => ?_) (fun c_2 => ?_)
      · have c_2 := wk_b0 c_2
        refine lv_aload_n hx hb dX11_feed_31 rfl (lv_at hl 1 rfl) ?_
        refine wk_get (v := .ref (ad 1)) hx hb hts (fun w h => wk_in_M w (lay_X11 w h)) hown hK hI (0) wx_e0 rfl 0 (by decide) (hts _ (wk_in_M _ mw_145)) rfl rfl dX11_feed_32 ?_
        refine wk_kV hI hA (va_runV (As := []) (rest := []) ⟨hx, hb, hml, hown, hts⟩ (c_X2_forgetNotes l D cI cJ cS ad σ _) (wk_cwV 0 hts wk_in_M mw_247 mw_248 mw_249 mw_35 mw_250 hdX2_forgetNotes ⟨(Nat.le_of_ble_eq_true rfl), (Nat.le_of_ble_eq_true rfl)⟩) (wk_preV hN hK hI (ci := 2) rfl wx_e1) rfl rfl hl.1 rfl (lv_room (Nat.le_of_ble_eq_true rfl)) dX11_feed_35 ⟨(Nat.le_of_ble_eq_true rfl), (Nat.le_of_ble_eq_true rfl)⟩) (fun u H locs hw hI => ?_)
        obtain rfl := hw
        refine lv_aload_n hx hb dX11_feed_38 rfl (lv_at hl 0 rfl) ?_
        refine wk_get (v := .ref (ad (8 + wk_rk (wk_fg σ) j))) hx hb hts (fun w h => wk_in_M w (lay_X6 w h)) hown hK hI (16 + j) (wx_em hj) rfl 3 (by decide) (hts _ (wk_in_M _ mw_193)) rfl rfl dX11_feed_39 ?_
        refine lv_aload_n hx hb dX11_feed_42 rfl (lv_at hl 1 rfl) ?_
        refine wk_get (v := .ref (ad 1)) hx hb hts (fun w h => wk_in_M w (lay_X11 w h)) hown hK hI (0) wx_e0 rfl 0 (by decide) (hts _ (wk_in_M _ mw_145)) rfl rfl dX11_feed_43 ?_
        refine lv_aload_n hx hb dX11_feed_46 rfl (lv_at hl 0 rfl) ?_
        refine lv_iload_n hx hb dX11_feed_47 rfl (lv_at hl 3 rfl) ?_
        refine wk_kL hI hA (wd_X11_toilWay (wk_rk (wk_fg σ) j) j n (rest := []) ⟨hx, hb, hml, hown, hts⟩ wk_in_M hN hK hI hV (hV.rk hj) hj (by have hq0 : wk_nt (wk_fg σ) = 0 := rfl; have hq12 : wk_n (wk_fg σ) ≤ 12 := hV.1; omega) ⟨(Nat.le_of_ble_eq_true rfl), (Nat.le_of_ble_eq_true rfl)⟩ hl.1 (lv_room (Nat.le_of_ble_eq_true rfl)) dX11_feed_48 ⟨(Nat.le_of_ble_eq_true rfl), (Nat.le_of_ble_eq_true rfl)⟩) (fun r u H locs hw hI => ?_)
        obtain ⟨rfl, rfl⟩ := hw
        have hG_3 : wk_G (wk_fg σ) ((wk_toilR (wk_rk (wk_fg σ) j) (wk_fg σ) j n).2) 6 := wk_g_toilR (wk_rk (wk_fg σ) j) (wk_fg σ) j n
        refine lv_ldc2 hx hb hown (hts _ (wk_in_M _ mw_447)) dX11_feed_51 ?_
        refine lv_ldiv hx hb dX11_feed_54 (by decide) ?_
        refine lv_l2i hx hb dX11_feed_55 rfl ?_
        refine lv_istore (lv' := [(4, .int ((((wk_toilR (wk_rk (wk_fg σ) j) (wk_fg σ) j n).1) / 100).toInt32)), (3, .ref (ad (16 + j))), (0, .ref (ad 0)), (1, .int (nI j)), (2, .int n)]) hx hb dX11_feed_56 hl (by decide) rfl (fun ls hl => ?_)
        refine lv_aload_n hx hb dX11_feed_58 rfl (lv_at hl 2 rfl) ?_
        refine wk_get (v := .ref (ad 1)) hx hb hts (fun w h => wk_in_M w (lay_X11 w h)) hown hK hI (0) wx_e0 rfl 0 (by decide) (hts _ (wk_in_M _ mw_145)) rfl rfl dX11_feed_59 ?_
        refine wk_get (v := va_rf (wx_mp ad (wk_n ((wk_toilR (wk_rk (wk_fg σ) j) (wk_fg σ) j n).2)) 0)) hx hb hts (fun w h => wk_in_M w (lay_X2 w h)) hown hK hI (1) wx_e1 rfl 0 (by decide) (hts _ (wk_in_M _ mw_64)) rfl rfl dX11_feed_62 ?_
        refine wk_astore (lv' := [(5, va_rf (wx_mp ad (wk_n ((wk_toilR (wk_rk (wk_fg σ) j) (wk_fg σ) j n).2)) 0)), (4, .int ((((wk_toilR (wk_rk (wk_fg σ) j) (wk_fg σ) j n).1) / 100).toInt32)), (3, .ref (ad (16 + j))), (0, .ref (ad 0)), (1, .int (nI j)), (2, .int n)]) hx hb dX11_feed_65 hl (by decide) rfl (fun ls hl => ?_)
        refine wk_loop (fun i H locs ls => wk_I D A s.heap H locs (wx_W cI cS ad (wk_feedL j (-((((wk_toilR (wk_rk (wk_fg σ) j) (wk_fg σ) j n).1) / 100).toInt32)) ((wk_toilR (wk_rk (wk_fg σ) j) (wk_fg σ) j n).2) i)) ∧ lv_has ls 6 [(0, .ref (ad 0)), (1, .int (nI j)), (2, .int n), (3, .ref (ad (16 + j))), (4, .int ((((wk_toilR (wk_rk (wk_fg σ) j) (wk_fg σ) j n).1) / 100).toInt32)), (5, va_rf (wx_mp ad (wk_n ((wk_toilR (wk_rk (wk_fg σ) j) (wk_fg σ) j n).2)) i))]) (wk_n ((wk_toilR (wk_rk (wk_fg σ) j) (wk_fg σ) j n).2)) ?_ ?_ (wk_n ((wk_toilR (wk_rk (wk_fg σ) j) (wk_fg σ) j n).2)) 0 _ _ _ (Nat.zero_add _) ⟨hI, lv_sub hl [3, 4, 5, 2, 1, 0] rfl⟩
        · intro H locs ls hinv
          obtain ⟨hI, hl⟩ := hinv
          rw [wx_mpF (Nat.lt_irrefl _)] at hl
          have hl : lv_has ls 6 [(0, .ref (ad 0)), (1, .int (nI j)), (2, .int n), (3, .ref (ad (16 + j))), (4, .int ((((wk_toilR (wk_rk (wk_fg σ) j) (wk_fg σ) j n).1) / 100).toInt32)), (5, .null)] := hl
          have hG_4 : wk_G (wk_fg σ) (wk_feedL j (-((((wk_toilR (wk_rk (wk_fg σ) j) (wk_fg σ) j n).1) / 100).toInt32)) ((wk_toilR (wk_rk (wk_fg σ) j) (wk_fg σ) j n).2) (wk_n ((wk_toilR (wk_rk (wk_fg σ) j) (wk_fg σ) j n).2))) (6 + 0) := hG_3.trans (wk_g_feedL j (-((((wk_toilR (wk_rk (wk_fg σ) j) (wk_fg σ) j n).1) / 100).toInt32)) ((wk_toilR (wk_rk (wk_fg σ) j) (wk_fg σ) j n).2) (wk_n ((wk_toilR (wk_rk (wk_fg σ) j) (wk_fg σ) j n).2)))
          refine lv_aloadN hx hb dX11_feed_67 (lv_at hl 5 rfl) ?_
          refine lv_ifnullN (tgt := 96) hx hb dX11_feed_69 (by decide) ?_
          refine lv_iload hx hb dX11_feed_96 (lv_at hl 4 rfl) ?_
          exact wk_ri (wk_feedL j (-((((wk_toilR (wk_rk (wk_fg σ) j) (wk_fg σ) j n).1) / 100).toInt32)) ((wk_toilR (wk_rk (wk_fg σ) j) (wk_fg σ) j n).2) (wk_n ((wk_toilR (wk_rk (wk_fg σ) j) (wk_fg σ) j n).2))) hx hb hr hlk hK hI rfl (wk_post (by unfold wk_feed ; rw [wk_clJ hV hj, wk_ifT ⟨wk_okJ hV hj, c_1, Classical.not_not.mp c_2⟩, hG_3.n]; first | done | rfl)) dX11_feed_98
        · intro i H locs ls hi hinv ih
          obtain ⟨hI, hl⟩ := hinv
          have hiσ : i < wk_n (wk_fg σ) := by have hq := hG_3.n; omega
          rw [wx_mpT hi] at hl
          have hl : lv_has ls 6 [(0, .ref (ad 0)), (1, .int (nI j)), (2, .int n), (3, .ref (ad (16 + j))), (4, .int ((((wk_toilR (wk_rk (wk_fg σ) j) (wk_fg σ) j n).1) / 100).toInt32)), (5, .ref (ad (16 + i)))] := hl
          have hG_5 : wk_G (wk_fg σ) (wk_feedL j (-((((wk_toilR (wk_rk (wk_fg σ) j) (wk_fg σ) j n).1) / 100).toInt32)) ((wk_toilR (wk_rk (wk_fg σ) j) (wk_fg σ) j n).2) i) (6 + 0) := hG_3.trans (wk_g_feedL j (-((((wk_toilR (wk_rk (wk_fg σ) j) (wk_fg σ) j n).1) / 100).toInt32)) ((wk_toilR (wk_rk (wk_fg σ) j) (wk_fg σ) j n).2) i)
          refine lv_aload hx hb dX11_feed_67 (lv_at hl 5 rfl) ?_
          refine lv_ifnull hx hb dX11_feed_69 ?_
          refine lv_aload hx hb dX11_feed_72 (lv_at hl 5 rfl) ?_
          refine lv_aload_n hx hb dX11_feed_74 rfl (lv_at hl 3 rfl) ?_
          refine lv_acmp_eq (rx := some (ad (16 + i))) (ry := some (ad (16 + j))) (tgt := 86) hx hb dX11_feed_75 (by decide) (fun c_6 => ?_) (fun c_6 => ?_)
          · have c_6 : i = j := wx_apart hI (hG_5.lt hiσ) (hG_5.lt hj) (Option.some.inj c_6)
            refine lv_aload hx hb dX11_feed_86 (lv_at hl 5 rfl) ?_
            refine wk_get (v := va_rf (wx_mp ad (wk_n (wk_feedL j (-((((wk_toilR (wk_rk (wk_fg σ) j) (wk_fg σ) j n).1) / 100).toInt32)) ((wk_toilR (wk_rk (wk_fg σ) j) (wk_fg σ) j n).2) i)) (i + 1))) hx hb hts (fun w h => wk_in_M w (lay_X6 w h)) hown hK hI (16 + i) (wx_em (hG_5.lt hiσ)) rfl 6 (by decide) (hts _ (wk_in_M _ mw_204)) rfl rfl dX11_feed_88 ?_
            rw [show wk_n (wk_feedL j (-((((wk_toilR (wk_rk (wk_fg σ) j) (wk_fg σ) j n).1) / 100).toInt32)) ((wk_toilR (wk_rk (wk_fg σ) j) (wk_fg σ) j n).2) i) = wk_n ((wk_toilR (wk_rk (wk_fg σ) j) (wk_fg σ) j n).2) from hG_5.n.trans hG_3.n.symm]
            refine wk_astore (lv' := [(5, va_rf (wx_mp ad (wk_n ((wk_toilR (wk_rk (wk_fg σ) j) (wk_fg σ) j n).2)) (i + 1))), (0, .ref (ad 0)), (1, .int (nI j)), (2, .int n), (3, .ref (ad (16 + j))), (4, .int ((((wk_toilR (wk_rk (wk_fg σ) j) (wk_fg σ) j n).1) / 100).toInt32))]) hx hb dX11_feed_91 hl (by decide) rfl (fun ls hl => ?_)
            refine lv_goto (tgt := 67) hx hb dX11_feed_93 (by decide) ?_
            have e1 : wk_feedL j (-((((wk_toilR (wk_rk (wk_fg σ) j) (wk_fg σ) j n).1) / 100).toInt32)) ((wk_toilR (wk_rk (wk_fg σ) j) (wk_fg σ) j n).2) (i + 1) = wk_feedL j (-((((wk_toilR (wk_rk (wk_fg σ) j) (wk_fg σ) j n).1) / 100).toInt32)) ((wk_toilR (wk_rk (wk_fg σ) j) (wk_fg σ) j n).2) i := by rw [wk_feedL]; rw [if_pos c_6]
            exact ih _ _ _ ⟨by rw [e1]; exact hI, lv_sub hl [1, 2, 3, 4, 5, 0] rfl⟩
          · have c_6 : ¬ i = j := fun hq => c_6 (by rw [hq])
            refine lv_aload hx hb dX11_feed_78 (lv_at hl 5 rfl) ?_
            refine lv_iload hx hb dX11_feed_80 (lv_at hl 4 rfl) ?_
            refine lv_ineg hx hb dX11_feed_82 ?_
            refine wk_kV hI hA (va_runV (As := [.int (-((((wk_toilR (wk_rk (wk_fg σ) j) (wk_fg σ) j n).1) / 100).toInt32))]) (rest := []) ⟨hx, hb, hml, hown, hts⟩ (c_X6_tire l D cI cJ cS ad (wk_feedL j (-((((wk_toilR (wk_rk (wk_fg σ) j) (wk_fg σ) j n).1) / 100).toInt32)) ((wk_toilR (wk_rk (wk_fg σ) j) (wk_fg σ) j n).2) i) i (-((((wk_toilR (wk_rk (wk_fg σ) j) (wk_fg σ) j n).1) / 100).toInt32)) (hG_5.lt hiσ) _) (wk_cwV 1 hts wk_in_M mw_448 mw_272 mw_273 mw_46 mw_274 hdX6_tire ⟨(Nat.le_of_ble_eq_true rfl), (Nat.le_of_ble_eq_true rfl)⟩) (wk_preV hN hK hI (ci := 6) rfl (wx_em (hG_5.lt hiσ))) rfl rfl hl.1 rfl (lv_room (Nat.le_of_ble_eq_true rfl)) dX11_feed_83 ⟨(Nat.le_of_ble_eq_true rfl), (Nat.le_of_ble_eq_true rfl)⟩) (fun u H locs hw hI => ?_)
            obtain rfl := hw
            have hG_7 : wk_G (wk_fg σ) (wk_tire (wk_feedL j (-((((wk_toilR (wk_rk (wk_fg σ) j) (wk_fg σ) j n).1) / 100).toInt32)) ((wk_toilR (wk_rk (wk_fg σ) j) (wk_fg σ) j n).2) i) i (-((((wk_toilR (wk_rk (wk_fg σ) j) (wk_fg σ) j n).1) / 100).toInt32))) ((6 + 0) + 0) := hG_5.trans (wk_g_tire (wk_feedL j (-((((wk_toilR (wk_rk (wk_fg σ) j) (wk_fg σ) j n).1) / 100).toInt32)) ((wk_toilR (wk_rk (wk_fg σ) j) (wk_fg σ) j n).2) i) i (-((((wk_toilR (wk_rk (wk_fg σ) j) (wk_fg σ) j n).1) / 100).toInt32)))
            refine lv_aload hx hb dX11_feed_86 (lv_at hl 5 rfl) ?_
            refine wk_get (v := va_rf (wx_mp ad (wk_n (wk_tire (wk_feedL j (-((((wk_toilR (wk_rk (wk_fg σ) j) (wk_fg σ) j n).1) / 100).toInt32)) ((wk_toilR (wk_rk (wk_fg σ) j) (wk_fg σ) j n).2) i) i (-((((wk_toilR (wk_rk (wk_fg σ) j) (wk_fg σ) j n).1) / 100).toInt32)))) (i + 1))) hx hb hts (fun w h => wk_in_M w (lay_X6 w h)) hown hK hI (16 + i) (wx_em (hG_7.lt hiσ)) rfl 6 (by decide) (hts _ (wk_in_M _ mw_204)) rfl rfl dX11_feed_88 ?_
            rw [show wk_n (wk_tire (wk_feedL j (-((((wk_toilR (wk_rk (wk_fg σ) j) (wk_fg σ) j n).1) / 100).toInt32)) ((wk_toilR (wk_rk (wk_fg σ) j) (wk_fg σ) j n).2) i) i (-((((wk_toilR (wk_rk (wk_fg σ) j) (wk_fg σ) j n).1) / 100).toInt32))) = wk_n ((wk_toilR (wk_rk (wk_fg σ) j) (wk_fg σ) j n).2) from hG_7.n.trans hG_3.n.symm]
            refine wk_astore (lv' := [(5, va_rf (wx_mp ad (wk_n ((wk_toilR (wk_rk (wk_fg σ) j) (wk_fg σ) j n).2)) (i + 1))), (0, .ref (ad 0)), (1, .int (nI j)), (2, .int n), (3, .ref (ad (16 + j))), (4, .int ((((wk_toilR (wk_rk (wk_fg σ) j) (wk_fg σ) j n).1) / 100).toInt32))]) hx hb dX11_feed_91 hl (by decide) rfl (fun ls hl => ?_)
            refine lv_goto (tgt := 67) hx hb dX11_feed_93 (by decide) ?_
            have e1 : wk_feedL j (-((((wk_toilR (wk_rk (wk_fg σ) j) (wk_fg σ) j n).1) / 100).toInt32)) ((wk_toilR (wk_rk (wk_fg σ) j) (wk_fg σ) j n).2) (i + 1) = wk_tire (wk_feedL j (-((((wk_toilR (wk_rk (wk_fg σ) j) (wk_fg σ) j n).1) / 100).toInt32)) ((wk_toilR (wk_rk (wk_fg σ) j) (wk_fg σ) j n).2) i) i (-((((wk_toilR (wk_rk (wk_fg σ) j) (wk_fg σ) j n).1) / 100).toInt32)) := by rw [wk_feedL]; rw [if_neg c_6]
            exact ih _ _ _ ⟨by rw [e1]; exact hI, lv_sub hl [1, 2, 3, 4, 5, 0] rfl⟩
      · have c_2 := wk_b1 c_2
        refine lv_ldc hx hb hown (hts _ (wk_in_M _ mw_171)) dX11_feed_28 ?_
        exact wk_ri σ hx hb hr hlk hK hI rfl (wk_post (by unfold wk_feed; rw [wk_clJ hV hj, wk_ifF (fun hq => c_2 hq.2.2)])) dX11_feed_30
  · have hK := hK
    refine lv_aload_n hx hb dX11_feed_0 rfl (lv_at hl 0 rfl) ?_
    refine wk_get (v := .ref (ad 1)) hx hb hts (fun w h => wk_in_M w (lay_X11 w h)) hown hK hI (0) wx_e0 rfl 0 (by decide) (hts _ (wk_in_M _ mw_145)) rfl rfl dX11_feed_1 ?_
    refine lv_iload_n hx hb dX11_feed_4 rfl (lv_at hl 1 rfl) ?_
    refine wk_kQ hI hA (va_runV (As := [.int k9]) (rest := []) ⟨hx, hb, hml, hown, hts⟩ (c_X2_member l D cI cJ cS ad σ k9 hV _) (wk_cwV 1 hts wk_in_M mw_224 mw_225 mw_226 mw_35 mw_227 hdX2_member ⟨(Nat.le_of_ble_eq_true rfl), (Nat.le_of_ble_eq_true rfl)⟩) (wk_preV hN hK hI (ci := 2) rfl wx_e1) rfl rfl hl.1 rfl (lv_room (Nat.le_of_ble_eq_true rfl)) dX11_feed_5 ⟨(Nat.le_of_ble_eq_true rfl), (Nat.le_of_ble_eq_true rfl)⟩) (fun r u H locs hw hI => ?_)
    obtain ⟨rfl, hw⟩ := hw
    rw [hw] at hI
    rw [wx_findN hno]
    refine W.eq (g2 := F0 m 8 ls [.null]) rfl ?_
    refine lv_astore_nN (lv' := [(3, .null), (0, .ref (ad 0)), (1, .int k9), (2, .int n)]) hx hb dX11_feed_8 rfl hl (by decide) rfl (fun ls hl => ?_)
    refine lv_aload_nN hx hb dX11_feed_9 rfl (lv_at hl 0 rfl) ?_
    refine lv_ifnullN (tgt := 28) hx hb dX11_feed_10 (by decide) ?_
    refine lv_ldc hx hb hown (hts _ (wk_in_M _ mw_171)) dX11_feed_28 ?_
    exact wk_ri σ hx hb hr hlk hK hI rfl (wk_post (by unfold wk_feed; rw [wk_ifF (fun hq => hno hq.1)])) dX11_feed_30
set_option maxHeartbeats 4000000 in
set_option maxRecDepth 100000 in
theorem c_X11_line (l : Launch) (D : va_G) (cI cJ cS : ClassId) (ad : Nat → Nat) (σ : wk_St) (i9 d9 n lo hi : Int32)  : wk_Ci l D (wk_tys cI cJ cS) yX11_line (wk_M yX11_line cX11_line 6 (some .int)) ({ frames := 2, cells := 0, slots := 0, locals := 41 }) [.ref (ad 0), .int i9, .int d9, .int n, .int lo, .int hi] (wx_W cI cS ad σ) (wx_W cI cS ad) (fun r0 u0 => r0 = (wk_line σ i9 d9 n lo hi).1 ∧ u0 = (wk_line σ i9 d9 n lo hi).2) := by
  intro sz
  refine Met.ofW (cc := cX11_line) (maxL := 6) (ret := (some .int)) (by decide) rfl ?_
  intro p e s m args below meth c s₁ B hml hv
  obtain ⟨rfl, hsz, hP, hK, hD0, hN⟩ := hv
  have hx := B.exec
  have hb := B.bytes
  have hr := B.returns
  have hts := atoms_spec (ws := wk_M yX11_line cX11_line 6 (some .int)) B.pre
  have hown : s.vm.findClass RX11 = some m.cls := findClass_of_methodNamed B.named
  have hlk := B.notSynchronized
  subst hsz
  have hI : wk_I D (va_A (wx_W cI cS ad σ) s.heap.size) s.heap s.heap [] (wx_W cI cS ad σ) := ⟨hP, hD0.self, va_S.rf⟩
  have hA : ∀ q : Nat, s.heap.size ≤ q → (va_A (wx_W cI cS ad σ) s.heap.size) q := fun q h => Or.inr h
  clear hP hD0
  generalize va_A (wx_W cI cS ad σ) s.heap.size = A at hI hA ⊢
  have hl := lv_entry ([.ref (ad 0), .int i9, .int d9, .int n, .int lo, .int hi]) (n := 6) (Nat.le_of_ble_eq_true rfl)
  rw [lg_entry_eq]
  generalize (lg_sl ([.ref (ad 0), .int i9, .int d9, .int n, .int lo, .int hi]) ++ List.replicate (6 - (lg_sl ([.ref (ad 0), .int i9, .int d9, .int n, .int lo, .int hi])).length) Slot.unset).toArray = ls at hl ⊢
  have hl : lv_has ls 6 [(0, .ref (ad 0)), (1, .int i9), (2, .int d9), (3, .int n), (4, .int lo), (5, .int hi)] := hl
  refine lv_iload_n hx hb dX11_line_0 rfl (lv_at hl 1 rfl) ?_
  refine lv_if_lt (tgt := 10) hx hb dX11_line_1 (by decide) (fun c_1 => ?_) (fun c_1 => ?_)
  · refine lv_ldc hx hb hown (hts _ (wk_in_M _ mw_171)) dX11_line_10 ?_
    exact wk_ri σ hx hb hr hlk hK hI rfl (wk_post (by unfold wk_line; rw [wk_ifF (fun hq => wk_lnl c_1 hq.1)])) dX11_line_12
  · refine lv_iload_n hx hb dX11_line_4 rfl (lv_at hl 1 rfl) ?_
    refine lv_bipush (v := 8) hx hb dX11_line_5 (by decide) ?_
    refine lv_icmp_lt (tgt := 13) hx hb dX11_line_7 (by decide) (fun c_2 => ?_) (fun c_2 => ?_)
    · obtain ⟨j, hj31, rfl⟩ := nI_of c_1
      have hj8 : j < 8 := by have hq := c_2; simp only [Int32.lt_iff_toInt_lt, Int32.le_iff_toInt_le, nI_toInt hj31, wk_lit0, wk_lit1, wk_lit2, wk_lit3, wk_lit5, wk_lit6, wk_lit7, wk_lit8, wk_lit64, wk_lit4, wk_lit12, wk_lit20, wk_lit99, wk_lit1000] at hq; omega
      refine lv_iload_n hx hb dX11_line_13 rfl (lv_at hl 2 rfl) ?_
      refine lv_iconst (v := (-1)) hx hb dX11_line_14 (by decide) ?_
      refine lv_icmp_ne (tgt := 27) hx hb dX11_line_15 (by decide) (fun c_3 => ?_) (fun c_3 => ?_)
      · refine lv_iload_n hx hb dX11_line_27 rfl (lv_at hl 2 rfl) ?_
        refine wk_kI hI hA (va_runS (As := [.int d9]) (rest := []) ⟨hx, hb, hml, hown, hts⟩ (c_X11_isDuty l D cI cJ cS ad σ d9 _) (wk_cwS 1 hts wk_in_M mw_453 mw_454 mw_34 mw_455 (hdX11_isDuty).2 ⟨(Nat.le_of_ble_eq_true rfl), (Nat.le_of_ble_eq_true rfl)⟩) (wk_preS hN hK hI) rfl rfl hl.1 rfl (lv_room (Nat.le_of_ble_eq_true rfl)) dX11_line_28 ⟨(Nat.le_of_ble_eq_true rfl), (Nat.le_of_ble_eq_true rfl)⟩) (fun r u H locs hw hI => ?_)
        obtain ⟨rfl, hw⟩ := hw
        rw [hw] at hI
        refine lv_if_eq (tgt := 65) hx hb dX11_line_31 (by decide) (fun c_4 => ?_) (fun c_4 => ?_)
        · have c_4 := wk_b0 c_4
          refine lv_ldc hx hb hown (hts _ (wk_in_M _ mw_171)) dX11_line_65 ?_
          exact wk_ri σ hx hb hr hlk hK hI rfl (wk_post (by unfold wk_line; rw [wk_ifT ⟨wk_nlt c_1, c_2⟩, wk_ifF c_3, wk_ifF (fun hq => c_4 hq.1)])) dX11_line_67
        · have c_4 := wk_b1 c_4
          refine lv_iload_n hx hb dX11_line_34 rfl (lv_at hl 2 rfl) ?_
          refine lv_iload_n hx hb dX11_line_35 rfl (lv_at hl 3 rfl) ?_
          refine wk_kI hI hA (va_runS (As := [.int d9, .int n]) (rest := []) ⟨hx, hb, hml, hown, hts⟩ (c_X11_isBeyondBound l D cI cJ cS ad σ d9 n _) (wk_cwS 2 hts wk_in_M mw_240 mw_241 mw_34 mw_242 (hdX11_isBeyondBound).2 ⟨(Nat.le_of_ble_eq_true rfl), (Nat.le_of_ble_eq_true rfl)⟩) (wk_preS hN hK hI) rfl rfl hl.1 rfl (lv_room (Nat.le_of_ble_eq_true rfl)) dX11_line_36 ⟨(Nat.le_of_ble_eq_true rfl), (Nat.le_of_ble_eq_true rfl)⟩) (fun r u H locs hw hI => ?_)
          obtain ⟨rfl, hw⟩ := hw
          rw [hw] at hI
          refine lv_if_ne (tgt := 65) hx hb dX11_line_39 (by decide) (fun c_5 => ?_) (fun c_5 => ?_)
          · have c_5 := wk_b1 c_5
            refine lv_ldc hx hb hown (hts _ (wk_in_M _ mw_171)) dX11_line_65 ?_
            exact wk_ri σ hx hb hr hlk hK hI rfl (wk_post (by unfold wk_line; rw [wk_ifT ⟨wk_nlt c_1, c_2⟩, wk_ifF c_3, wk_ifF (fun hq => c_5 hq.2.1)])) dX11_line_67
          · have c_5 := wk_b0 c_5
            refine lv_iload hx hb dX11_line_42 (lv_at hl 4 rfl) ?_
            refine wk_kI hI hA (va_runS (As := [.int lo]) (rest := []) ⟨hx, hb, hml, hown, hts⟩ (c_X11_isRank l D cI cJ cS ad σ lo _) (wk_cwS 1 hts wk_in_M mw_168 mw_169 mw_34 mw_170 (hdX11_isRank).2 ⟨(Nat.le_of_ble_eq_true rfl), (Nat.le_of_ble_eq_true rfl)⟩) (wk_preS hN hK hI) rfl rfl hl.1 rfl (lv_room (Nat.le_of_ble_eq_true rfl)) dX11_line_44 ⟨(Nat.le_of_ble_eq_true rfl), (Nat.le_of_ble_eq_true rfl)⟩) (fun r u H locs hw hI => ?_)
            obtain ⟨rfl, hw⟩ := hw
            rw [hw] at hI
            refine lv_if_eq (tgt := 65) hx hb dX11_line_47 (by decide) (fun c_6 => ?_) (fun c_6 => ?_)
            · have c_6 := wk_b0 c_6
              refine lv_ldc hx hb hown (hts _ (wk_in_M _ mw_171)) dX11_line_65 ?_
              exact wk_ri σ hx hb hr hlk hK hI rfl (wk_post (by unfold wk_line; rw [wk_ifT ⟨wk_nlt c_1, c_2⟩, wk_ifF c_3, wk_ifF (fun hq => c_6 hq.2.2.1)])) dX11_line_67
            · have c_6 := wk_b1 c_6
              refine lv_iload hx hb dX11_line_50 (lv_at hl 5 rfl) ?_
              refine wk_kI hI hA (va_runS (As := [.int hi]) (rest := []) ⟨hx, hb, hml, hown, hts⟩ (c_X11_isRank l D cI cJ cS ad σ hi _) (wk_cwS 1 hts wk_in_M mw_168 mw_169 mw_34 mw_170 (hdX11_isRank).2 ⟨(Nat.le_of_ble_eq_true rfl), (Nat.le_of_ble_eq_true rfl)⟩) (wk_preS hN hK hI) rfl rfl hl.1 rfl (lv_room (Nat.le_of_ble_eq_true rfl)) dX11_line_52 ⟨(Nat.le_of_ble_eq_true rfl), (Nat.le_of_ble_eq_true rfl)⟩) (fun r u H locs hw hI => ?_)
              obtain ⟨rfl, hw⟩ := hw
              rw [hw] at hI
              refine lv_if_eq (tgt := 65) hx hb dX11_line_55 (by decide) (fun c_7 => ?_) (fun c_7 => ?_)
              · have c_7 := wk_b0 c_7
                refine lv_ldc hx hb hown (hts _ (wk_in_M _ mw_171)) dX11_line_65 ?_
                exact wk_ri σ hx hb hr hlk hK hI rfl (wk_post (by unfold wk_line; rw [wk_ifT ⟨wk_nlt c_1, c_2⟩, wk_ifF c_3, wk_ifF (fun hq => c_7 hq.2.2.2.1)])) dX11_line_67
              · have c_7 := wk_b1 c_7
                refine lv_iload hx hb dX11_line_58 (lv_at hl 4 rfl) ?_
                refine lv_iload hx hb dX11_line_60 (lv_at hl 5 rfl) ?_
                refine lv_icmp_le (tgt := 68) hx hb dX11_line_62 (by decide) (fun c_8 => ?_) (fun c_8 => ?_)
                · refine lv_aload_n hx hb dX11_line_68 rfl (lv_at hl 0 rfl) ?_
                  refine wk_get (v := .ref (ad 3)) hx hb hts (fun w h => wk_in_M w (lay_X11 w h)) hown hK hI (0) wx_e0 rfl 2 (by decide) (hts _ (wk_in_M _ mw_147)) rfl rfl dX11_line_69 ?_
                  refine lv_iload_n hx hb dX11_line_72 rfl (lv_at hl 1 rfl) ?_
                  refine lv_iload_n hx hb dX11_line_73 rfl (lv_at hl 2 rfl) ?_
                  refine wk_iast (j := j) hx hb hK hI 3 0 wx_e3 rfl rfl (by omega) (by decide) (wx_sLd _) dX11_line_74 (fun H locs hI => ?_)
                  refine lv_aload_n hx hb dX11_line_75 rfl (lv_at hl 0 rfl) ?_
                  refine wk_get (v := .ref (ad 4)) hx hb hts (fun w h => wk_in_M w (lay_X11 w h)) hown hK hI (0) wx_e0 rfl 3 (by decide) (hts _ (wk_in_M _ mw_148)) rfl rfl dX11_line_76 ?_
                  refine lv_iload_n hx hb dX11_line_79 rfl (lv_at hl 1 rfl) ?_
                  refine lv_iload_n hx hb dX11_line_80 rfl (lv_at hl 3 rfl) ?_
                  refine wk_iast (j := j) hx hb hK hI 4 0 wx_e4 rfl rfl (by omega) (by decide) (wx_sLn _) dX11_line_81 (fun H locs hI => ?_)
                  refine lv_aload_n hx hb dX11_line_82 rfl (lv_at hl 0 rfl) ?_
                  refine wk_get (v := .ref (ad 5)) hx hb hts (fun w h => wk_in_M w (lay_X11 w h)) hown hK hI (0) wx_e0 rfl 4 (by decide) (hts _ (wk_in_M _ mw_149)) rfl rfl dX11_line_83 ?_
                  refine lv_iload_n hx hb dX11_line_86 rfl (lv_at hl 1 rfl) ?_
                  refine lv_iload hx hb dX11_line_87 (lv_at hl 4 rfl) ?_
                  refine wk_iast (j := j) hx hb hK hI 5 0 wx_e5 rfl rfl (by omega) (by decide) (wx_sLl _) dX11_line_89 (fun H locs hI => ?_)
                  refine lv_aload_n hx hb dX11_line_90 rfl (lv_at hl 0 rfl) ?_
                  refine wk_get (v := .ref (ad 6)) hx hb hts (fun w h => wk_in_M w (lay_X11 w h)) hown hK hI (0) wx_e0 rfl 5 (by decide) (hts _ (wk_in_M _ mw_150)) rfl rfl dX11_line_91 ?_
                  refine lv_iload_n hx hb dX11_line_94 rfl (lv_at hl 1 rfl) ?_
                  refine lv_iload hx hb dX11_line_95 (lv_at hl 5 rfl) ?_
                  refine wk_iast (j := j) hx hb hK hI 6 0 wx_e6 rfl rfl (by omega) (by decide) (wx_sLh _) dX11_line_97 (fun H locs hI => ?_)
                  refine lv_iconst (v := 1) hx hb dX11_line_98 (by decide) ?_
                  exact wk_ri (wk_sLh (wk_sLl (wk_sLn (wk_sLd σ (upd (wk_ld σ) j d9)) (upd (wk_ln (wk_sLd σ (upd (wk_ld σ) j d9))) j n)) (upd (wk_ll (wk_sLn (wk_sLd σ (upd (wk_ld σ) j d9)) (upd (wk_ln (wk_sLd σ (upd (wk_ld σ) j d9))) j n))) j lo)) (upd (wk_lh (wk_sLl (wk_sLn (wk_sLd σ (upd (wk_ld σ) j d9)) (upd (wk_ln (wk_sLd σ (upd (wk_ld σ) j d9))) j n)) (upd (wk_ll (wk_sLn (wk_sLd σ (upd (wk_ld σ) j d9)) (upd (wk_ln (wk_sLd σ (upd (wk_ld σ) j d9))) j n))) j lo))) j hi)) hx hb hr hlk hK hI rfl (wk_post (by unfold wk_line; rw [wk_ifT ⟨wk_nlt c_1, c_2⟩, wk_ifF c_3, wk_ifT ⟨c_4, Classical.not_not.mp c_5, c_6, c_7, c_8⟩, nI_clamp hj31]; first | done | rfl)) dX11_line_99
                · refine lv_ldc hx hb hown (hts _ (wk_in_M _ mw_171)) dX11_line_65 ?_
                  exact wk_ri σ hx hb hr hlk hK hI rfl (wk_post (by unfold wk_line; rw [wk_ifT ⟨wk_nlt c_1, c_2⟩, wk_ifF c_3, wk_ifF (fun hq => c_8 hq.2.2.2.2)])) dX11_line_67
      · refine lv_aload_n hx hb dX11_line_18 rfl (lv_at hl 0 rfl) ?_
        refine wk_get (v := .ref (ad 3)) hx hb hts (fun w h => wk_in_M w (lay_X11 w h)) hown hK hI (0) wx_e0 rfl 2 (by decide) (hts _ (wk_in_M _ mw_147)) rfl rfl dX11_line_19 ?_
        refine lv_iload_n hx hb dX11_line_22 rfl (lv_at hl 1 rfl) ?_
        refine lv_iconst (v := (-1)) hx hb dX11_line_23 (by decide) ?_
        refine wk_iast (j := j) hx hb hK hI 3 0 wx_e3 rfl rfl (by omega) (by decide) (wx_sLd _) dX11_line_24 (fun H locs hI => ?_)
        refine lv_iconst (v := 1) hx hb dX11_line_25 (by decide) ?_
        exact wk_ri (wk_sLd σ (upd (wk_ld σ) j (-1))) hx hb hr hlk hK hI rfl (wk_post (by unfold wk_line; rw [wk_ifT ⟨wk_nlt c_1, c_2⟩, wk_ifT c_3, nI_clamp hj31])) dX11_line_26
    · refine lv_ldc hx hb hown (hts _ (wk_in_M _ mw_171)) dX11_line_10 ?_
      exact wk_ri σ hx hb hr hlk hK hI rfl (wk_post (by unfold wk_line; rw [wk_ifF (fun hq => c_2 hq.2)])) dX11_line_12
end
section
theorem wk_set_self {w : va_W} {i : Nat} {e0 e : Nat × va_E} (h : w[i]? = some e0) : (w.set i e)[i]? = some e := by
  have hl := (List.getElem?_eq_some_iff.mp h).1
  simp [List.getElem?_set, hl]
theorem wx_sRk {cI cS : ClassId} {ad : Nat → Nat} {σ : wk_St} {k : Nat} (hk : k < wk_n σ) (q : Nat) : ((wx_W cI cS ad σ).set (16 + k) (ad (16 + k), .inr (6, [.int (nI k), .int (wk_sk σ k), .int (nI q), .ref (ad (8 + wk_rk σ k)), .int (wk_we σ k), .long (wk_pu σ k), va_rf (wx_mp ad (wk_n σ) (k + 1))]))).set (16 + k) (ad (16 + k), .inr (6, [.int (nI k), .int (wk_sk σ k), .int (nI q), .ref (ad (8 + q)), .int (wk_we σ k), .long (wk_pu σ k), va_rf (wx_mp ad (wk_n σ) (k + 1))])) = wx_W cI cS ad (wk_sRk σ (va_up (wk_rk σ) k q)) := by
  rw [List.set_set]
  refine Eq.trans ?_ (wx_setG (F := wx_F cI cS ad σ) (f := wx_mem ad σ) (g := wx_mem ad (wk_sRk σ (va_up (wk_rk σ) k q))) wx_F_len hk (fun i _ hi => ?_))
  · show _ = (wx_W cI cS ad σ).set (16 + k) _
    congr 1
    show _ = wx_mem ad (wk_sRk σ (va_up (wk_rk σ) k q)) k
    simp only [wx_mem, wk_sRk, wk_we, wk_sk, wk_rk, wk_pu, wk_n, va_up, if_pos]
  · simp only [wx_mem, wk_sRk, wk_we, wk_sk, wk_rk, wk_pu, wk_n, va_up, if_neg hi]
end
section
set_option maxHeartbeats 4000000 in
set_option maxRecDepth 100000 in
theorem c_X11_sailLine (l : Launch) (D : va_G) (cI cJ cS : ClassId) (ad : Nat → Nat) (σ : wk_St) (d9 n lo9 hi9 : Int32) (hV : wk_V σ) (hc : wk_nt σ + 336 < 2147483648) : wk_Cl l D (wk_tys cI cJ cS) yX11_sailLine (wk_M yX11_sailLine cX11_sailLine 10 (some .long)) ({ frames := 6, cells := 0, slots := 0, locals := 142 }) [.ref (ad 0), .int d9, .int n, .int lo9, .int hi9] (wx_W cI cS ad σ) (wx_W cI cS ad) (fun r0 u0 => r0 = (wk_lineL d9 n lo9 hi9 (0, σ) (wk_n σ)).1 ∧ u0 = (wk_lineL d9 n lo9 hi9 (0, σ) (wk_n σ)).2) := by
  intro sz
  refine Met.ofW (cc := cX11_sailLine) (maxL := 10) (ret := (some .long)) (by decide) rfl ?_
  intro p e s m args below meth c s₁ B hml hv
  obtain ⟨rfl, hsz, hP, hK, hD0, hN⟩ := hv
  have hx := B.exec
  have hb := B.bytes
  have hr := B.returns
  have hts := atoms_spec (ws := wk_M yX11_sailLine cX11_sailLine 10 (some .long)) B.pre
  have hown : s.vm.findClass RX11 = some m.cls := findClass_of_methodNamed B.named
  have hlk := B.notSynchronized
  subst hsz
  have hI : wk_I D (va_A (wx_W cI cS ad σ) s.heap.size) s.heap s.heap [] (wx_W cI cS ad σ) := ⟨hP, hD0.self, va_S.rf⟩
  have hA : ∀ q : Nat, s.heap.size ≤ q → (va_A (wx_W cI cS ad σ) s.heap.size) q := fun q h => Or.inr h
  clear hP hD0
  generalize va_A (wx_W cI cS ad σ) s.heap.size = A at hI hA ⊢
  have hl := lv_entry ([.ref (ad 0), .int d9, .int n, .int lo9, .int hi9]) (n := 10) (Nat.le_of_ble_eq_true rfl)
  rw [lg_entry_eq]
  generalize (lg_sl ([.ref (ad 0), .int d9, .int n, .int lo9, .int hi9]) ++ List.replicate (10 - (lg_sl ([.ref (ad 0), .int d9, .int n, .int lo9, .int hi9])).length) Slot.unset).toArray = ls at hl ⊢
  have hl : lv_has ls 10 [(0, .ref (ad 0)), (1, .int d9), (2, .int n), (3, .int lo9), (4, .int hi9)] := hl
  refine lv_lconst (v := 0) hx hb dX11_sailLine_0 (by decide) ?_
  refine lv_lstore (lv' := [(5, .long 0), (0, .ref (ad 0)), (1, .int d9), (2, .int n), (3, .int lo9), (4, .int hi9)]) hx hb dX11_sailLine_1 hl (by decide) rfl (fun ls hl => ?_)
  refine lv_aload_n hx hb dX11_sailLine_3 rfl (lv_at hl 1 rfl) ?_
  refine wk_get (v := .ref (ad 1)) hx hb hts (fun w h => wk_in_M w (lay_X11 w h)) hown hK hI (0) wx_e0 rfl 0 (by decide) (hts _ (wk_in_M _ mw_145)) rfl rfl dX11_sailLine_4 ?_
  refine wk_get (v := va_rf (wx_mp ad (wk_n σ) 0)) hx hb hts (fun w h => wk_in_M w (lay_X2 w h)) hown hK hI (1) wx_e1 rfl 0 (by decide) (hts _ (wk_in_M _ mw_64)) rfl rfl dX11_sailLine_7 ?_
  refine wk_astore (lv' := [(7, va_rf (wx_mp ad (wk_n σ) 0)), (5, .long 0), (0, .ref (ad 0)), (1, .int d9), (2, .int n), (3, .int lo9), (4, .int hi9)]) hx hb dX11_sailLine_10 hl (by decide) rfl (fun ls hl => ?_)
  refine wk_loop (fun i H locs ls => wk_I D A s.heap H locs (wx_W cI cS ad ((wk_lineL d9 n lo9 hi9 (0, σ) i).2)) ∧ lv_has ls 10 [(0, .ref (ad 0)), (1, .int d9), (2, .int n), (3, .int lo9), (4, .int hi9), (5, .long ((wk_lineL d9 n lo9 hi9 (0, σ) i).1)), (7, va_rf (wx_mp ad (wk_n σ) i))]) (wk_n σ) ?_ ?_ (wk_n σ) 0 _ _ _ (Nat.zero_add _) ⟨hI, lv_sub hl [2, 3, 4, 5, 6, 1, 0] rfl⟩
  · intro H locs ls hinv
    obtain ⟨hI, hl⟩ := hinv
    rw [wx_mpF (Nat.lt_irrefl _)] at hl
    have hl : lv_has ls 10 [(0, .ref (ad 0)), (1, .int d9), (2, .int n), (3, .int lo9), (4, .int hi9), (5, .long ((wk_lineL d9 n lo9 hi9 (0, σ) (wk_n σ)).1)), (7, .null)] := hl
    have hG_1 : wk_G σ ((wk_lineL d9 n lo9 hi9 (0, σ) (wk_n σ)).2) (28 * (wk_n σ)) := wk_g_lineL d9 n lo9 hi9 (0, σ) hV.1 (wk_n σ)
    refine lv_aloadN hx hb dX11_sailLine_12 (lv_at hl 6 rfl) ?_
    refine lv_ifnullN (tgt := 80) hx hb dX11_sailLine_14 (by decide) ?_
    refine lv_lload hx hb dX11_sailLine_80 (lv_at hl 5 rfl) ?_
    exact wk_rl ((wk_lineL d9 n lo9 hi9 (0, σ) (wk_n σ)).2) hx hb hr hlk hK hI rfl (wk_post (by first | rfl | (simp only []; done) | (simp only []; rfl))) dX11_sailLine_82
  · intro i H locs ls hi hinv ih
    obtain ⟨hI, hl⟩ := hinv
    have hiσ : i < wk_n σ := hi
    rw [wx_mpT hi] at hl
    have hl : lv_has ls 10 [(0, .ref (ad 0)), (1, .int d9), (2, .int n), (3, .int lo9), (4, .int hi9), (5, .long ((wk_lineL d9 n lo9 hi9 (0, σ) i).1)), (7, .ref (ad (16 + i)))] := hl
    have hG_2 : wk_G σ ((wk_lineL d9 n lo9 hi9 (0, σ) i).2) (28 * i) := wk_g_lineL d9 n lo9 hi9 (0, σ) hV.1 i
    refine lv_aload hx hb dX11_sailLine_12 (lv_at hl 6 rfl) ?_
    refine lv_ifnull hx hb dX11_sailLine_14 ?_
    refine lv_aload hx hb dX11_sailLine_17 (lv_at hl 6 rfl) ?_
    refine wk_get (v := .int (nI (wk_rk ((wk_lineL d9 n lo9 hi9 (0, σ) i).2) i))) hx hb hts (fun w h => wk_in_M w (lay_X6 w h)) hown hK hI (16 + i) (wx_em (hG_2.lt hiσ)) rfl 2 (by decide) (hts _ (wk_in_M _ mw_190)) rfl rfl dX11_sailLine_19 ?_
    refine lv_iload_n hx hb dX11_sailLine_22 rfl (lv_at hl 3 rfl) ?_
    refine lv_icmp_lt (tgt := 70) hx hb dX11_sailLine_23 (by decide) (fun c_3 => ?_) (fun c_3 => ?_)
    · refine lv_aload hx hb dX11_sailLine_70 (lv_at hl 6 rfl) ?_
      refine wk_get (v := va_rf (wx_mp ad (wk_n ((wk_lineL d9 n lo9 hi9 (0, σ) i).2)) (i + 1))) hx hb hts (fun w h => wk_in_M w (lay_X6 w h)) hown hK hI (16 + i) (wx_em (hG_2.lt hiσ)) rfl 6 (by decide) (hts _ (wk_in_M _ mw_204)) rfl rfl dX11_sailLine_72 ?_
      rw [show wk_n ((wk_lineL d9 n lo9 hi9 (0, σ) i).2) = wk_n σ from hG_2.n.trans rfl]
      refine wk_astore (lv' := [(7, va_rf (wx_mp ad (wk_n σ) (i + 1))), (0, .ref (ad 0)), (1, .int d9), (2, .int n), (3, .int lo9), (4, .int hi9), (5, .long ((wk_lineL d9 n lo9 hi9 (0, σ) i).1))]) hx hb dX11_sailLine_75 hl (by decide) rfl (fun ls hl => ?_)
      refine lv_goto (tgt := 12) hx hb dX11_sailLine_77 (by decide) ?_
      have e1 : wk_lineL d9 n lo9 hi9 (0, σ) (i + 1) = ((wk_lineL d9 n lo9 hi9 (0, σ) i).1, (wk_lineL d9 n lo9 hi9 (0, σ) i).2) := by rw [wk_lineL]; rw [if_neg (fun hq => wk_lnl c_3 hq.1)]
      exact ih _ _ _ (by rw [e1]; exact ⟨hI, lv_sub hl [1, 2, 3, 4, 5, 6, 0] rfl⟩)
    · refine lv_aload hx hb dX11_sailLine_26 (lv_at hl 6 rfl) ?_
      refine wk_get (v := .int (nI (wk_rk ((wk_lineL d9 n lo9 hi9 (0, σ) i).2) i))) hx hb hts (fun w h => wk_in_M w (lay_X6 w h)) hown hK hI (16 + i) (wx_em (hG_2.lt hiσ)) rfl 2 (by decide) (hts _ (wk_in_M _ mw_190)) rfl rfl dX11_sailLine_28 ?_
      refine lv_iload hx hb dX11_sailLine_31 (lv_at hl 4 rfl) ?_
      refine lv_icmp_gt (tgt := 70) hx hb dX11_sailLine_33 (by decide) (fun c_4 => ?_) (fun c_4 => ?_)
      · refine lv_aload hx hb dX11_sailLine_70 (lv_at hl 6 rfl) ?_
        refine wk_get (v := va_rf (wx_mp ad (wk_n ((wk_lineL d9 n lo9 hi9 (0, σ) i).2)) (i + 1))) hx hb hts (fun w h => wk_in_M w (lay_X6 w h)) hown hK hI (16 + i) (wx_em (hG_2.lt hiσ)) rfl 6 (by decide) (hts _ (wk_in_M _ mw_204)) rfl rfl dX11_sailLine_72 ?_
        rw [show wk_n ((wk_lineL d9 n lo9 hi9 (0, σ) i).2) = wk_n σ from hG_2.n.trans rfl]
        refine wk_astore (lv' := [(7, va_rf (wx_mp ad (wk_n σ) (i + 1))), (0, .ref (ad 0)), (1, .int d9), (2, .int n), (3, .int lo9), (4, .int hi9), (5, .long ((wk_lineL d9 n lo9 hi9 (0, σ) i).1))]) hx hb dX11_sailLine_75 hl (by decide) rfl (fun ls hl => ?_)
        refine lv_goto (tgt := 12) hx hb dX11_sailLine_77 (by decide) ?_
        have e1 : wk_lineL d9 n lo9 hi9 (0, σ) (i + 1) = ((wk_lineL d9 n lo9 hi9 (0, σ) i).1, (wk_lineL d9 n lo9 hi9 (0, σ) i).2) := by rw [wk_lineL]; rw [if_neg (fun hq => wk_lnl c_4 hq.2)]
        exact ih _ _ _ (by rw [e1]; exact ⟨hI, lv_sub hl [1, 2, 3, 4, 5, 6, 0] rfl⟩)
      · refine lv_aload_n hx hb dX11_sailLine_36 rfl (lv_at hl 0 rfl) ?_
        refine lv_aload hx hb dX11_sailLine_37 (lv_at hl 6 rfl) ?_
        refine lv_iload_n hx hb dX11_sailLine_39 rfl (lv_at hl 1 rfl) ?_
        refine lv_iload_n hx hb dX11_sailLine_40 rfl (lv_at hl 2 rfl) ?_
        refine wk_kL hI hA (va_runV (As := [.ref (ad (16 + i)), .int d9, .int n]) (rest := []) ⟨hx, hb, hml, hown, hts⟩ (c_X11_doDuty l D cI cJ cS ad ((wk_lineL d9 n lo9 hi9 (0, σ) i).2) i d9 n (hG_2.V hV) (hG_2.lt hiσ) (by have hq := hG_2.nt; have hq12 := hV.1; omega) _) (wk_cwV 3 hts wk_in_M mw_456 mw_458 mw_1 mw_34 mw_459 hdX11_doDuty ⟨(Nat.le_of_ble_eq_true rfl), (Nat.le_of_ble_eq_true rfl)⟩) (wk_preV hN hK hI (ci := 10) rfl wx_e0) rfl rfl hl.1 rfl (lv_room (Nat.le_of_ble_eq_true rfl)) dX11_sailLine_41 ⟨(Nat.le_of_ble_eq_true rfl), (Nat.le_of_ble_eq_true rfl)⟩) (fun r u H locs hw hI => ?_)
        obtain ⟨rfl, rfl⟩ := hw
        have hG_5 : wk_G σ ((wk_do d9 ((wk_lineL d9 n lo9 hi9 (0, σ) i).2) i n).2) ((28 * i) + 28) := hG_2.trans (wk_g_do d9 ((wk_lineL d9 n lo9 hi9 (0, σ) i).2) i n (hG_2.V hV).1)
        refine lv_lstore (lv' := [(8, .long ((wk_do d9 ((wk_lineL d9 n lo9 hi9 (0, σ) i).2) i n).1)), (0, .ref (ad 0)), (1, .int d9), (2, .int n), (3, .int lo9), (4, .int hi9), (5, .long ((wk_lineL d9 n lo9 hi9 (0, σ) i).1)), (7, .ref (ad (16 + i)))]) hx hb dX11_sailLine_44 hl (by decide) rfl (fun ls hl => ?_)
        refine lv_iload_n hx hb dX11_sailLine_46 rfl (lv_at hl 2 rfl) ?_
        refine lv_iconst (v := 1) hx hb dX11_sailLine_47 (by decide) ?_
        refine lv_icmp_ne (tgt := 63) hx hb dX11_sailLine_48 (by decide) (fun c_6 => ?_) (fun c_6 => ?_)
        · refine lv_lload hx hb dX11_sailLine_63 (lv_at hl 6 rfl) ?_
          refine lv_lload hx hb dX11_sailLine_65 (lv_at hl 0 rfl) ?_
          refine lv_ladd hx hb dX11_sailLine_67 ?_
          refine lv_lstore (lv' := [(5, .long (((wk_lineL d9 n lo9 hi9 (0, σ) i).1) + ((wk_do d9 ((wk_lineL d9 n lo9 hi9 (0, σ) i).2) i n).1))), (8, .long ((wk_do d9 ((wk_lineL d9 n lo9 hi9 (0, σ) i).2) i n).1)), (0, .ref (ad 0)), (1, .int d9), (2, .int n), (3, .int lo9), (4, .int hi9), (7, .ref (ad (16 + i)))]) hx hb dX11_sailLine_68 hl (by decide) rfl (fun ls hl => ?_)
          refine lv_aload hx hb dX11_sailLine_70 (lv_at hl 7 rfl) ?_
          refine wk_get (v := va_rf (wx_mp ad (wk_n ((wk_do d9 ((wk_lineL d9 n lo9 hi9 (0, σ) i).2) i n).2)) (i + 1))) hx hb hts (fun w h => wk_in_M w (lay_X6 w h)) hown hK hI (16 + i) (wx_em (hG_5.lt hiσ)) rfl 6 (by decide) (hts _ (wk_in_M _ mw_204)) rfl rfl dX11_sailLine_72 ?_
          rw [show wk_n ((wk_do d9 ((wk_lineL d9 n lo9 hi9 (0, σ) i).2) i n).2) = wk_n σ from hG_5.n.trans rfl]
          refine wk_astore (lv' := [(7, va_rf (wx_mp ad (wk_n σ) (i + 1))), (5, .long (((wk_lineL d9 n lo9 hi9 (0, σ) i).1) + ((wk_do d9 ((wk_lineL d9 n lo9 hi9 (0, σ) i).2) i n).1))), (8, .long ((wk_do d9 ((wk_lineL d9 n lo9 hi9 (0, σ) i).2) i n).1)), (0, .ref (ad 0)), (1, .int d9), (2, .int n), (3, .int lo9), (4, .int hi9)]) hx hb dX11_sailLine_75 hl (by decide) rfl (fun ls hl => ?_)
          refine lv_goto (tgt := 12) hx hb dX11_sailLine_77 (by decide) ?_
          have e1 : wk_lineL d9 n lo9 hi9 (0, σ) (i + 1) = (((wk_lineL d9 n lo9 hi9 (0, σ) i).1) + ((wk_do d9 ((wk_lineL d9 n lo9 hi9 (0, σ) i).2) i n).1), (wk_do d9 ((wk_lineL d9 n lo9 hi9 (0, σ) i).2) i n).2) := by rw [wk_lineL]; rw [if_pos ⟨wk_nlt c_3, wk_nlt c_4⟩]; unfold wk_gain; rw [if_neg c_6]
          exact ih _ _ _ (by rw [e1]; exact ⟨hI, lv_sub hl [3, 4, 5, 6, 7, 1, 0] rfl⟩)
        · refine lv_aload hx hb dX11_sailLine_51 (lv_at hl 7 rfl) ?_
          refine lv_dup hx hb dX11_sailLine_53 rfl ?_
          refine wk_get (v := .long (wk_pu ((wk_do d9 ((wk_lineL d9 n lo9 hi9 (0, σ) i).2) i n).2) i)) hx hb hts (fun w h => wk_in_M w (lay_X6 w h)) hown hK hI (16 + i) (wx_em (hG_5.lt hiσ)) rfl 5 (by decide) (hts _ (wk_in_M _ mw_200)) rfl rfl dX11_sailLine_54 ?_
          refine lv_lload hx hb dX11_sailLine_57 (lv_at hl 0 rfl) ?_
          refine lv_ladd hx hb dX11_sailLine_59 ?_
          refine wk_put (v := .long ((wk_pu ((wk_do d9 ((wk_lineL d9 n lo9 hi9 (0, σ) i).2) i n).2) i) + ((wk_do d9 ((wk_lineL d9 n lo9 hi9 (0, σ) i).2) i n).1))) (ty := .long) hx hb hts (fun w h => wk_in_M w (lay_X6 w h)) tyX6 tyX6_ok nmX6 hown hK hI (16 + i) (wx_em (hG_5.lt hiσ)) rfl 5 (by decide) (hts _ (wk_in_M _ mw_200)) rfl rfl (by decide +kernel) rfl rfl (Nat.le_of_ble_eq_true rfl) (wx_sPu (hG_5.lt hiσ) _) dX11_sailLine_60 (fun H locs hI => ?_)
          refine lv_lload hx hb dX11_sailLine_63 (lv_at hl 6 rfl) ?_
          refine lv_lload hx hb dX11_sailLine_65 (lv_at hl 0 rfl) ?_
          refine lv_ladd hx hb dX11_sailLine_67 ?_
          refine lv_lstore (lv' := [(5, .long (((wk_lineL d9 n lo9 hi9 (0, σ) i).1) + ((wk_do d9 ((wk_lineL d9 n lo9 hi9 (0, σ) i).2) i n).1))), (8, .long ((wk_do d9 ((wk_lineL d9 n lo9 hi9 (0, σ) i).2) i n).1)), (0, .ref (ad 0)), (1, .int d9), (2, .int n), (3, .int lo9), (4, .int hi9), (7, .ref (ad (16 + i)))]) hx hb dX11_sailLine_68 hl (by decide) rfl (fun ls hl => ?_)
          refine lv_aload hx hb dX11_sailLine_70 (lv_at hl 7 rfl) ?_
          refine wk_get (v := va_rf (wx_mp ad (wk_n (wk_sPu ((wk_do d9 ((wk_lineL d9 n lo9 hi9 (0, σ) i).2) i n).2) (vp_updL (wk_pu ((wk_do d9 ((wk_lineL d9 n lo9 hi9 (0, σ) i).2) i n).2)) i ((wk_pu ((wk_do d9 ((wk_lineL d9 n lo9 hi9 (0, σ) i).2) i n).2) i) + ((wk_do d9 ((wk_lineL d9 n lo9 hi9 (0, σ) i).2) i n).1))))) (i + 1))) hx hb hts (fun w h => wk_in_M w (lay_X6 w h)) hown hK hI (16 + i) (wx_em (hG_5.lt hiσ)) rfl 6 (by decide) (hts _ (wk_in_M _ mw_204)) rfl rfl dX11_sailLine_72 ?_
          rw [show wk_n (wk_sPu ((wk_do d9 ((wk_lineL d9 n lo9 hi9 (0, σ) i).2) i n).2) (vp_updL (wk_pu ((wk_do d9 ((wk_lineL d9 n lo9 hi9 (0, σ) i).2) i n).2)) i ((wk_pu ((wk_do d9 ((wk_lineL d9 n lo9 hi9 (0, σ) i).2) i n).2) i) + ((wk_do d9 ((wk_lineL d9 n lo9 hi9 (0, σ) i).2) i n).1)))) = wk_n σ from hG_5.n.trans rfl]
          refine wk_astore (lv' := [(7, va_rf (wx_mp ad (wk_n σ) (i + 1))), (5, .long (((wk_lineL d9 n lo9 hi9 (0, σ) i).1) + ((wk_do d9 ((wk_lineL d9 n lo9 hi9 (0, σ) i).2) i n).1))), (8, .long ((wk_do d9 ((wk_lineL d9 n lo9 hi9 (0, σ) i).2) i n).1)), (0, .ref (ad 0)), (1, .int d9), (2, .int n), (3, .int lo9), (4, .int hi9)]) hx hb dX11_sailLine_75 hl (by decide) rfl (fun ls hl => ?_)
          refine lv_goto (tgt := 12) hx hb dX11_sailLine_77 (by decide) ?_
          have e1 : wk_lineL d9 n lo9 hi9 (0, σ) (i + 1) = (((wk_lineL d9 n lo9 hi9 (0, σ) i).1) + ((wk_do d9 ((wk_lineL d9 n lo9 hi9 (0, σ) i).2) i n).1), wk_sPu ((wk_do d9 ((wk_lineL d9 n lo9 hi9 (0, σ) i).2) i n).2) (vp_updL (wk_pu ((wk_do d9 ((wk_lineL d9 n lo9 hi9 (0, σ) i).2) i n).2)) i ((wk_pu ((wk_do d9 ((wk_lineL d9 n lo9 hi9 (0, σ) i).2) i n).2) i) + ((wk_do d9 ((wk_lineL d9 n lo9 hi9 (0, σ) i).2) i n).1)))) := by rw [wk_lineL]; rw [if_pos ⟨wk_nlt c_3, wk_nlt c_4⟩]; unfold wk_gain; rw [if_pos c_6]
          exact ih _ _ _ (by rw [e1]; exact ⟨hI, lv_sub hl [3, 4, 5, 6, 7, 1, 0] rfl⟩)
set_option maxHeartbeats 4000000 in
set_option maxRecDepth 100000 in
theorem c_X11_sail (l : Launch) (D : va_G) (cI cJ cS : ClassId) (ad : Nat → Nat) (σ : wk_St) (t9 : Int32) (hV : wk_V σ) : wk_Cl l D (wk_tys cI cJ cS) yX11_sail (wk_M yX11_sail cX11_sail 6 (some .long)) ({ frames := 7, cells := 0, slots := 0, locals := 171 }) [.ref (ad 0), .int t9] (wx_W cI cS ad σ) (wx_W cI cS ad) (fun r0 u0 => r0 = (wk_sail σ t9).1 ∧ u0 = (wk_sail σ t9).2) := by
  intro sz
  refine Met.ofW (cc := cX11_sail) (maxL := 6) (ret := (some .long)) (by decide) rfl ?_
  intro p e s m args below meth c s₁ B hml hv
  obtain ⟨rfl, hsz, hP, hK, hD0, hN⟩ := hv
  have hx := B.exec
  have hb := B.bytes
  have hr := B.returns
  have hts := atoms_spec (ws := wk_M yX11_sail cX11_sail 6 (some .long)) B.pre
  have hown : s.vm.findClass RX11 = some m.cls := findClass_of_methodNamed B.named
  have hlk := B.notSynchronized
  subst hsz
  have hI : wk_I D (va_A (wx_W cI cS ad σ) s.heap.size) s.heap s.heap [] (wx_W cI cS ad σ) := ⟨hP, hD0.self, va_S.rf⟩
  have hA : ∀ q : Nat, s.heap.size ≤ q → (va_A (wx_W cI cS ad σ) s.heap.size) q := fun q h => Or.inr h
  clear hP hD0
  generalize va_A (wx_W cI cS ad σ) s.heap.size = A at hI hA ⊢
  have hl := lv_entry ([.ref (ad 0), .int t9]) (n := 6) (Nat.le_of_ble_eq_true rfl)
  rw [lg_entry_eq]
  generalize (lg_sl ([.ref (ad 0), .int t9]) ++ List.replicate (6 - (lg_sl ([.ref (ad 0), .int t9])).length) Slot.unset).toArray = ls at hl ⊢
  have hl : lv_has ls 6 [(0, .ref (ad 0)), (1, .int t9)] := hl
  refine lv_iload_n hx hb dX11_sail_0 rfl (lv_at hl 1 rfl) ?_
  refine wk_kI hI hA (va_runS (As := [.int t9]) (rest := []) ⟨hx, hb, hml, hown, hts⟩ (c_X11_isTimes l D cI cJ cS ad σ t9 _) (wk_cwS 1 hts wk_in_M mw_410 mw_411 mw_34 mw_412 (hdX11_isTimes).2 ⟨(Nat.le_of_ble_eq_true rfl), (Nat.le_of_ble_eq_true rfl)⟩) (wk_preS hN hK hI) rfl rfl hl.1 rfl (lv_room (Nat.le_of_ble_eq_true rfl)) dX11_sail_1 ⟨(Nat.le_of_ble_eq_true rfl), (Nat.le_of_ble_eq_true rfl)⟩) (fun r u H locs hw hI => ?_)
  obtain ⟨rfl, hw⟩ := hw
  rw [hw] at hI
  refine lv_if_ne (tgt := 11) hx hb dX11_sail_4 (by decide) (fun c_1 => ?_) (fun c_1 => ?_)
  · have c_1 := wk_b1 c_1
    obtain ⟨T, hT, rfl⟩ := nI_of2 (x := t9) (M := 20) (n := 20) (by decide) (fun q => wk_lnl q c_1.1) c_1.2
    refine lv_aload_n hx hb dX11_sail_11 rfl (lv_at hl 0 rfl) ?_
    refine wk_get (v := .ref (ad 1)) hx hb hts (fun w h => wk_in_M w (lay_X11 w h)) hown hK hI (0) wx_e0 rfl 0 (by decide) (hts _ (wk_in_M _ mw_145)) rfl rfl dX11_sail_12 ?_
    refine wk_kV hI hA (va_runV (As := []) (rest := []) ⟨hx, hb, hml, hown, hts⟩ (c_X2_forgetNotes l D cI cJ cS ad σ _) (wk_cwV 0 hts wk_in_M mw_247 mw_248 mw_249 mw_35 mw_250 hdX2_forgetNotes ⟨(Nat.le_of_ble_eq_true rfl), (Nat.le_of_ble_eq_true rfl)⟩) (wk_preV hN hK hI (ci := 2) rfl wx_e1) rfl rfl hl.1 rfl (lv_room (Nat.le_of_ble_eq_true rfl)) dX11_sail_15 ⟨(Nat.le_of_ble_eq_true rfl), (Nat.le_of_ble_eq_true rfl)⟩) (fun u H locs hw hI => ?_)
    obtain rfl := hw
    refine lv_lconst (v := 0) hx hb dX11_sail_18 (by decide) ?_
    refine lv_lstore_n (lv' := [(2, .long 0), (0, .ref (ad 0)), (1, .int (nI T))]) hx hb dX11_sail_19 rfl hl (by decide) rfl (fun ls hl => ?_)
    refine lv_iconst (v := 0) hx hb dX11_sail_20 (by decide) ?_
    refine lv_istore (lv' := [(4, .int 0), (2, .long 0), (0, .ref (ad 0)), (1, .int (nI T))]) hx hb dX11_sail_21 hl (by decide) rfl (fun ls hl => ?_)
    refine wk_loop (fun i H locs ls => wk_I D A s.heap H locs (wx_W cI cS ad ((wk_sailT (0, wk_fg σ) i).2)) ∧ lv_has ls 6 [(0, .ref (ad 0)), (1, .int (nI T)), (2, .long ((wk_sailT (0, wk_fg σ) i).1)), (4, .int (nI i))]) (T) ?_ ?_ (T) 0 _ _ _ (Nat.zero_add _) ⟨hI, lv_sub hl [2, 3, 1, 0] rfl⟩
    · intro H locs ls hinv
      obtain ⟨hI, hl⟩ := hinv
      have hG_3 : wk_G (wk_fg σ) ((wk_sailT (0, wk_fg σ) T).2) (2688 * T) := wk_g_sailT (0, wk_fg σ) hV.1 T
      refine lv_iload hx hb dX11_sail_23 (lv_at hl 3 rfl) ?_
      refine lv_iload_n hx hb dX11_sail_25 rfl (lv_at hl 1 rfl) ?_
      refine lv_icmp_ge (tgt := 97) hx hb dX11_sail_26 (by decide) (fun c_4 => ?_) (fun c_4 => ?_)
      · refine lv_lload_n hx hb dX11_sail_97 rfl (lv_at hl 2 rfl) ?_
        exact wk_rl ((wk_sailT (0, wk_fg σ) T).2) hx hb hr hlk hK hI rfl (wk_post (by unfold wk_sail; rw [wk_ifT c_1, nI_clamp (by omega)]; first | done | rfl)) dX11_sail_98
      · exact absurd (by simp only [Int32.lt_iff_toInt_lt, Int32.le_iff_toInt_le, nI_toInt (show T < 2 ^ 31 by omega), nI_toInt (show T < 2 ^ 31 by omega)]; omega) c_4
    · intro i_2 H locs ls hi_i_2 hinv ih_i_2
      obtain ⟨hI, hl⟩ := hinv
      have hG_5 : wk_G (wk_fg σ) ((wk_sailT (0, wk_fg σ) i_2).2) (2688 * i_2) := wk_g_sailT (0, wk_fg σ) hV.1 i_2
      refine lv_iload hx hb dX11_sail_23 (lv_at hl 3 rfl) ?_
      refine lv_iload_n hx hb dX11_sail_25 rfl (lv_at hl 1 rfl) ?_
      refine lv_icmp_ge (tgt := 97) hx hb dX11_sail_26 (by decide) (fun c_6 => ?_) (fun c_6 => ?_)
      · exact absurd c_6 (by simp only [Int32.lt_iff_toInt_lt, Int32.le_iff_toInt_le, nI_toInt (show T < 2 ^ 31 by omega), nI_toInt (show i_2 < 2 ^ 31 by omega)]; omega)
      · refine lv_iconst (v := 0) hx hb dX11_sail_29 (by decide) ?_
        refine lv_istore (lv' := [(5, .int 0), (0, .ref (ad 0)), (1, .int (nI T)), (2, .long ((wk_sailT (0, wk_fg σ) i_2).1)), (4, .int (nI i_2))]) hx hb dX11_sail_30 hl (by decide) rfl (fun ls hl => ?_)
        refine wk_loop (fun i H locs ls => wk_I D A s.heap H locs (wx_W cI cS ad ((wk_sailI (wk_sailT (0, wk_fg σ) i_2) i).2)) ∧ lv_has ls 6 [(0, .ref (ad 0)), (1, .int (nI T)), (4, .int (nI i_2)), (2, .long ((wk_sailI (wk_sailT (0, wk_fg σ) i_2) i).1)), (5, .int (nI i))]) (8) ?_ ?_ (8) 0 _ _ _ (Nat.zero_add _) ⟨hI, lv_sub hl [1, 2, 4, 3, 0] rfl⟩
        · intro H locs ls hinv
          obtain ⟨hI, hl⟩ := hinv
          have hG_8 : wk_G (wk_fg σ) ((wk_sailI (wk_sailT (0, wk_fg σ) i_2) 8).2) ((2688 * i_2) + (336 * 8)) := hG_5.trans (wk_g_sailI (wk_sailT (0, wk_fg σ) i_2) (by rw [hG_5.n]; exact hV.1) 8)
          refine lv_iload hx hb dX11_sail_32 (lv_at hl 4 rfl) ?_
          refine lv_bipush (v := 8) hx hb dX11_sail_34 (by decide) ?_
          refine lv_icmp_ge (tgt := 91) hx hb dX11_sail_36 (by decide) (fun c_9 => ?_) (fun c_9 => ?_)
          · refine lv_iinc (v := nI (i_2 + 1)) (lv' := [(4, .int (nI (i_2 + 1))), (0, .ref (ad 0)), (1, .int (nI T)), (2, .long ((wk_sailI (wk_sailT (0, wk_fg σ) i_2) 8).1)), (5, .int (nI 8))]) hx hb dX11_sail_91 hl (k := 2) rfl (nI_1 _) (by decide) rfl (fun ls hl => ?_)
            refine lv_goto (tgt := 23) hx hb dX11_sail_94 (by decide) ?_
            exact ih_i_2 _ _ _ ⟨hI, lv_sub hl [1, 2, 3, 0] rfl⟩
          · exact absurd (by simp only [Int32.lt_iff_toInt_lt, Int32.le_iff_toInt_le, nI_toInt (show 8 < 2 ^ 31 by omega), wk_lit8]; omega) c_9
        · intro i_7 H locs ls hi_i_7 hinv ih_i_7
          obtain ⟨hI, hl⟩ := hinv
          have hG_10 : wk_G (wk_fg σ) ((wk_sailI (wk_sailT (0, wk_fg σ) i_2) i_7).2) ((2688 * i_2) + (336 * i_7)) := hG_5.trans (wk_g_sailI (wk_sailT (0, wk_fg σ) i_2) (by rw [hG_5.n]; exact hV.1) i_7)
          refine lv_iload hx hb dX11_sail_32 (lv_at hl 4 rfl) ?_
          refine lv_bipush (v := 8) hx hb dX11_sail_34 (by decide) ?_
          refine lv_icmp_ge (tgt := 91) hx hb dX11_sail_36 (by decide) (fun c_11 => ?_) (fun c_11 => ?_)
          · exact absurd c_11 (by simp only [Int32.lt_iff_toInt_lt, Int32.le_iff_toInt_le, nI_toInt (show i_7 < 2 ^ 31 by omega), wk_lit8]; omega)
          · refine lv_aload_n hx hb dX11_sail_39 rfl (lv_at hl 0 rfl) ?_
            refine wk_get (v := .ref (ad 3)) hx hb hts (fun w h => wk_in_M w (lay_X11 w h)) hown hK hI (0) wx_e0 rfl 2 (by decide) (hts _ (wk_in_M _ mw_147)) rfl rfl dX11_sail_40 ?_
            refine lv_iload hx hb dX11_sail_43 (lv_at hl 4 rfl) ?_
            refine wk_iald (v := (wk_ld ((wk_sailI (wk_sailT (0, wk_fg σ) i_2) i_7).2) i_7)) (j := i_7) hx hb hK hI 3 0 wx_e3 rfl rfl (by omega) (by decide) rfl dX11_sail_45 ?_
            refine lv_iconst (v := (-1)) hx hb dX11_sail_46 (by decide) ?_
            refine lv_icmp_eq (tgt := 85) hx hb dX11_sail_47 (by decide) (fun c_12 => ?_) (fun c_12 => ?_)
            · refine lv_iinc (v := nI (i_7 + 1)) (lv' := [(5, .int (nI (i_7 + 1))), (0, .ref (ad 0)), (1, .int (nI T)), (4, .int (nI i_2)), (2, .long ((wk_sailI (wk_sailT (0, wk_fg σ) i_2) i_7).1))]) hx hb dX11_sail_85 hl (k := 4) rfl (nI_1 _) (by decide) rfl (fun ls hl => ?_)
              refine lv_goto (tgt := 32) hx hb dX11_sail_88 (by decide) ?_
              have e1 : wk_sailI (wk_sailT (0, wk_fg σ) i_2) (i_7 + 1) = ((wk_sailI (wk_sailT (0, wk_fg σ) i_2) i_7).1, (wk_sailI (wk_sailT (0, wk_fg σ) i_2) i_7).2) := by rw [wk_sailI]; rw [if_pos c_12]
              exact ih_i_7 _ _ _ (by rw [e1]; exact ⟨hI, lv_sub hl [1, 2, 3, 4, 0] rfl⟩)
            · refine lv_lload_n hx hb dX11_sail_50 rfl (lv_at hl 3 rfl) ?_
              refine lv_aload_n hx hb dX11_sail_51 rfl (lv_at hl 0 rfl) ?_
              refine lv_aload_n hx hb dX11_sail_52 rfl (lv_at hl 0 rfl) ?_
              refine wk_get (v := .ref (ad 3)) hx hb hts (fun w h => wk_in_M w (lay_X11 w h)) hown hK hI (0) wx_e0 rfl 2 (by decide) (hts _ (wk_in_M _ mw_147)) rfl rfl dX11_sail_53 ?_
              refine lv_iload hx hb dX11_sail_56 (lv_at hl 4 rfl) ?_
              refine wk_iald (v := (wk_ld ((wk_sailI (wk_sailT (0, wk_fg σ) i_2) i_7).2) i_7)) (j := i_7) hx hb hK hI 3 0 wx_e3 rfl rfl (by omega) (by decide) rfl dX11_sail_58 ?_
              refine lv_aload_n hx hb dX11_sail_59 rfl (lv_at hl 0 rfl) ?_
              refine wk_get (v := .ref (ad 4)) hx hb hts (fun w h => wk_in_M w (lay_X11 w h)) hown hK hI (0) wx_e0 rfl 3 (by decide) (hts _ (wk_in_M _ mw_148)) rfl rfl dX11_sail_60 ?_
              refine lv_iload hx hb dX11_sail_63 (lv_at hl 4 rfl) ?_
              refine wk_iald (v := (wk_ln ((wk_sailI (wk_sailT (0, wk_fg σ) i_2) i_7).2) i_7)) (j := i_7) hx hb hK hI 4 0 wx_e4 rfl rfl (by omega) (by decide) rfl dX11_sail_65 ?_
              refine lv_aload_n hx hb dX11_sail_66 rfl (lv_at hl 0 rfl) ?_
              refine wk_get (v := .ref (ad 5)) hx hb hts (fun w h => wk_in_M w (lay_X11 w h)) hown hK hI (0) wx_e0 rfl 4 (by decide) (hts _ (wk_in_M _ mw_149)) rfl rfl dX11_sail_67 ?_
              refine lv_iload hx hb dX11_sail_70 (lv_at hl 4 rfl) ?_
              refine wk_iald (v := (wk_ll ((wk_sailI (wk_sailT (0, wk_fg σ) i_2) i_7).2) i_7)) (j := i_7) hx hb hK hI 5 0 wx_e5 rfl rfl (by omega) (by decide) rfl dX11_sail_72 ?_
              refine lv_aload_n hx hb dX11_sail_73 rfl (lv_at hl 0 rfl) ?_
              refine wk_get (v := .ref (ad 6)) hx hb hts (fun w h => wk_in_M w (lay_X11 w h)) hown hK hI (0) wx_e0 rfl 5 (by decide) (hts _ (wk_in_M _ mw_150)) rfl rfl dX11_sail_74 ?_
              refine lv_iload hx hb dX11_sail_77 (lv_at hl 4 rfl) ?_
              refine wk_iald (v := (wk_lh ((wk_sailI (wk_sailT (0, wk_fg σ) i_2) i_7).2) i_7)) (j := i_7) hx hb hK hI 6 0 wx_e6 rfl rfl (by omega) (by decide) rfl dX11_sail_79 ?_
              refine wk_kL hI hA (va_runV (As := [.int (wk_ld ((wk_sailI (wk_sailT (0, wk_fg σ) i_2) i_7).2) i_7), .int (wk_ln ((wk_sailI (wk_sailT (0, wk_fg σ) i_2) i_7).2) i_7), .int (wk_ll ((wk_sailI (wk_sailT (0, wk_fg σ) i_2) i_7).2) i_7), .int (wk_lh ((wk_sailI (wk_sailT (0, wk_fg σ) i_2) i_7).2) i_7)]) (rest := [.long ((wk_sailI (wk_sailT (0, wk_fg σ) i_2) i_7).1)]) ⟨hx, hb, hml, hown, hts⟩ (c_X11_sailLine l D cI cJ cS ad ((wk_sailI (wk_sailT (0, wk_fg σ) i_2) i_7).2) (wk_ld ((wk_sailI (wk_sailT (0, wk_fg σ) i_2) i_7).2) i_7) (wk_ln ((wk_sailI (wk_sailT (0, wk_fg σ) i_2) i_7).2) i_7) (wk_ll ((wk_sailI (wk_sailT (0, wk_fg σ) i_2) i_7).2) i_7) (wk_lh ((wk_sailI (wk_sailT (0, wk_fg σ) i_2) i_7).2) i_7) (hG_10.V hV) (by have hq := hG_10.nt; have hq0 : wk_nt (wk_fg σ) = 0 := rfl; have hq12 : wk_n (wk_fg σ) ≤ 12 := hV.1; omega) _) (wk_cwV 4 hts wk_in_M mw_468 mw_470 mw_2 mw_34 mw_471 hdX11_sailLine ⟨(Nat.le_of_ble_eq_true rfl), (Nat.le_of_ble_eq_true rfl)⟩) (wk_preV hN hK hI (ci := 10) rfl wx_e0) rfl rfl hl.1 rfl (lv_room (Nat.le_of_ble_eq_true rfl)) dX11_sail_80 ⟨(Nat.le_of_ble_eq_true rfl), (Nat.le_of_ble_eq_true rfl)⟩) (fun r u H locs hw hI => ?_)
              obtain ⟨rfl, rfl⟩ := hw
              have hG_13 : wk_G (wk_fg σ) ((wk_lineL (wk_ld ((wk_sailI (wk_sailT (0, wk_fg σ) i_2) i_7).2) i_7) (wk_ln ((wk_sailI (wk_sailT (0, wk_fg σ) i_2) i_7).2) i_7) (wk_ll ((wk_sailI (wk_sailT (0, wk_fg σ) i_2) i_7).2) i_7) (wk_lh ((wk_sailI (wk_sailT (0, wk_fg σ) i_2) i_7).2) i_7) (0, (wk_sailI (wk_sailT (0, wk_fg σ) i_2) i_7).2) (wk_n ((wk_sailI (wk_sailT (0, wk_fg σ) i_2) i_7).2))).2) (((2688 * i_2) + (336 * i_7)) + (28 * wk_n ((wk_sailI (wk_sailT (0, wk_fg σ) i_2) i_7).2))) := hG_10.trans (wk_g_lineL (wk_ld ((wk_sailI (wk_sailT (0, wk_fg σ) i_2) i_7).2) i_7) (wk_ln ((wk_sailI (wk_sailT (0, wk_fg σ) i_2) i_7).2) i_7) (wk_ll ((wk_sailI (wk_sailT (0, wk_fg σ) i_2) i_7).2) i_7) (wk_lh ((wk_sailI (wk_sailT (0, wk_fg σ) i_2) i_7).2) i_7) (0, (wk_sailI (wk_sailT (0, wk_fg σ) i_2) i_7).2) (hG_10.V hV).1 (wk_n ((wk_sailI (wk_sailT (0, wk_fg σ) i_2) i_7).2)))
              refine lv_ladd hx hb dX11_sail_83 ?_
              refine lv_lstore_n (lv' := [(2, .long (((wk_sailI (wk_sailT (0, wk_fg σ) i_2) i_7).1) + ((wk_lineL (wk_ld ((wk_sailI (wk_sailT (0, wk_fg σ) i_2) i_7).2) i_7) (wk_ln ((wk_sailI (wk_sailT (0, wk_fg σ) i_2) i_7).2) i_7) (wk_ll ((wk_sailI (wk_sailT (0, wk_fg σ) i_2) i_7).2) i_7) (wk_lh ((wk_sailI (wk_sailT (0, wk_fg σ) i_2) i_7).2) i_7) (0, (wk_sailI (wk_sailT (0, wk_fg σ) i_2) i_7).2) (wk_n ((wk_sailI (wk_sailT (0, wk_fg σ) i_2) i_7).2))).1))), (0, .ref (ad 0)), (1, .int (nI T)), (4, .int (nI i_2)), (5, .int (nI i_7))]) hx hb dX11_sail_84 rfl hl (by decide) rfl (fun ls hl => ?_)
              refine lv_iinc (v := nI (i_7 + 1)) (lv' := [(5, .int (nI (i_7 + 1))), (2, .long (((wk_sailI (wk_sailT (0, wk_fg σ) i_2) i_7).1) + ((wk_lineL (wk_ld ((wk_sailI (wk_sailT (0, wk_fg σ) i_2) i_7).2) i_7) (wk_ln ((wk_sailI (wk_sailT (0, wk_fg σ) i_2) i_7).2) i_7) (wk_ll ((wk_sailI (wk_sailT (0, wk_fg σ) i_2) i_7).2) i_7) (wk_lh ((wk_sailI (wk_sailT (0, wk_fg σ) i_2) i_7).2) i_7) (0, (wk_sailI (wk_sailT (0, wk_fg σ) i_2) i_7).2) (wk_n ((wk_sailI (wk_sailT (0, wk_fg σ) i_2) i_7).2))).1))), (0, .ref (ad 0)), (1, .int (nI T)), (4, .int (nI i_2))]) hx hb dX11_sail_85 hl (k := 4) rfl (nI_1 _) (by decide) rfl (fun ls hl => ?_)
              refine lv_goto (tgt := 32) hx hb dX11_sail_88 (by decide) ?_
              have e1 : wk_sailI (wk_sailT (0, wk_fg σ) i_2) (i_7 + 1) = (((wk_sailI (wk_sailT (0, wk_fg σ) i_2) i_7).1) + ((wk_lineL (wk_ld ((wk_sailI (wk_sailT (0, wk_fg σ) i_2) i_7).2) i_7) (wk_ln ((wk_sailI (wk_sailT (0, wk_fg σ) i_2) i_7).2) i_7) (wk_ll ((wk_sailI (wk_sailT (0, wk_fg σ) i_2) i_7).2) i_7) (wk_lh ((wk_sailI (wk_sailT (0, wk_fg σ) i_2) i_7).2) i_7) (0, (wk_sailI (wk_sailT (0, wk_fg σ) i_2) i_7).2) (wk_n ((wk_sailI (wk_sailT (0, wk_fg σ) i_2) i_7).2))).1), (wk_lineL (wk_ld ((wk_sailI (wk_sailT (0, wk_fg σ) i_2) i_7).2) i_7) (wk_ln ((wk_sailI (wk_sailT (0, wk_fg σ) i_2) i_7).2) i_7) (wk_ll ((wk_sailI (wk_sailT (0, wk_fg σ) i_2) i_7).2) i_7) (wk_lh ((wk_sailI (wk_sailT (0, wk_fg σ) i_2) i_7).2) i_7) (0, (wk_sailI (wk_sailT (0, wk_fg σ) i_2) i_7).2) (wk_n ((wk_sailI (wk_sailT (0, wk_fg σ) i_2) i_7).2))).2) := by
                rw [wk_sailI]; rw [if_neg c_12, show wk_n (wk_sailT (0, wk_fg σ) i_2).2 = wk_n (wk_sailI (wk_sailT (0, wk_fg σ) i_2) i_7).2 from (wk_g_sailI (wk_sailT (0, wk_fg σ) i_2) (by rw [hG_5.n]; exact hV.1) i_7).n.symm]
                exact wk_lineL_add _ _ _ _ _ _ _
              exact ih_i_7 _ _ _ (by rw [e1]; exact ⟨hI, lv_sub hl [2, 3, 4, 1, 0] rfl⟩)
  · have c_1 := wk_b0 c_1
    refine lv_ldc2 hx hb hown (hts _ (wk_in_M _ mw_246)) dX11_sail_7 ?_
    exact wk_rl σ hx hb hr hlk hK hI rfl (wk_post (by unfold wk_sail; rw [wk_ifF c_1])) dX11_sail_10
set_option maxHeartbeats 4000000 in
set_option maxRecDepth 100000 in
theorem c_X11_giveRank (l : Launch) (D : va_G) (cI cJ cS : ClassId) (ad : Nat → Nat) (σ : wk_St) (k q : Nat) (hk : k < wk_n σ) (hq : q < 8) : wk_Ci l D (wk_tys cI cJ cS) yX11_giveRank (wk_M yX11_giveRank cX11_giveRank 3 (some .int)) ({ frames := 1, cells := 0, slots := 0, locals := 20 }) [.ref (ad 0), .ref (ad (16 + k)), .int (nI q)] (wx_W cI cS ad σ) (wx_W cI cS ad) (fun r0 u0 => r0 = ((nI q, wk_sRk σ (va_up (wk_rk σ) k q))).1 ∧ u0 = ((nI q, wk_sRk σ (va_up (wk_rk σ) k q))).2) := by
  intro sz
  refine Met.ofW (cc := cX11_giveRank) (maxL := 3) (ret := (some .int)) (by decide) rfl ?_
  intro p e s m args below meth c s₁ B hml hv
  obtain ⟨rfl, hsz, hP, hK, hD0, hN⟩ := hv
  have hx := B.exec
  have hb := B.bytes
  have hr := B.returns
  have hts := atoms_spec (ws := wk_M yX11_giveRank cX11_giveRank 3 (some .int)) B.pre
  have hown : s.vm.findClass RX11 = some m.cls := findClass_of_methodNamed B.named
  have hlk := B.notSynchronized
  subst hsz
  have hI : wk_I D (va_A (wx_W cI cS ad σ) s.heap.size) s.heap s.heap [] (wx_W cI cS ad σ) := ⟨hP, hD0.self, va_S.rf⟩
  have hA : ∀ q : Nat, s.heap.size ≤ q → (va_A (wx_W cI cS ad σ) s.heap.size) q := fun q h => Or.inr h
  clear hP hD0
  generalize va_A (wx_W cI cS ad σ) s.heap.size = A at hI hA ⊢
  have hl := lv_entry ([.ref (ad 0), .ref (ad (16 + k)), .int (nI q)]) (n := 3) (Nat.le_of_ble_eq_true rfl)
  rw [lg_entry_eq]
  generalize (lg_sl ([.ref (ad 0), .ref (ad (16 + k)), .int (nI q)]) ++ List.replicate (3 - (lg_sl ([.ref (ad 0), .ref (ad (16 + k)), .int (nI q)])).length) Slot.unset).toArray = ls at hl ⊢
  have hl : lv_has ls 3 [(0, .ref (ad 0)), (1, .ref (ad (16 + k))), (2, .int (nI q))] := hl
  refine lv_iload_n hx hb dX11_giveRank_0 rfl (lv_at hl 2 rfl) ?_
  refine wk_kI hI hA (va_runS (As := [.int (nI q)]) (rest := []) ⟨hx, hb, hml, hown, hts⟩ (c_X11_isRank l D cI cJ cS ad σ (nI q) _) (wk_cwS 1 hts wk_in_M mw_168 mw_169 mw_34 mw_170 (hdX11_isRank).2 ⟨(Nat.le_of_ble_eq_true rfl), (Nat.le_of_ble_eq_true rfl)⟩) (wk_preS hN hK hI) rfl rfl hl.1 rfl (lv_room (Nat.le_of_ble_eq_true rfl)) dX11_giveRank_1 ⟨(Nat.le_of_ble_eq_true rfl), (Nat.le_of_ble_eq_true rfl)⟩) (fun r u H locs hw hI => ?_)
  obtain ⟨rfl, hw⟩ := hw
  rw [hw] at hI
  refine lv_if_ne (tgt := 10) hx hb dX11_giveRank_4 (by decide) (fun c_1 => ?_) (fun c_1 => ?_)
  · have c_1 := wk_b1 c_1
    refine lv_aload_n hx hb dX11_giveRank_10 rfl (lv_at hl 1 rfl) ?_
    refine lv_iload_n hx hb dX11_giveRank_11 rfl (lv_at hl 2 rfl) ?_
    refine wk_put (v := .int (nI q)) (ty := .int) hx hb hts (fun w h => wk_in_M w (lay_X6 w h)) tyX6 tyX6_ok nmX6 hown hK hI (16 + k) (wx_em hk) rfl 2 (by decide) (hts _ (wk_in_M _ mw_190)) rfl rfl (by decide +kernel) rfl rfl (Nat.le_of_ble_eq_true rfl) rfl dX11_giveRank_12 (fun H locs hI => ?_)
    refine lv_aload_n hx hb dX11_giveRank_15 rfl (lv_at hl 1 rfl) ?_
    refine lv_aload_n hx hb dX11_giveRank_16 rfl (lv_at hl 0 rfl) ?_
    refine wk_get (v := .ref (ad 2)) hx hb hts (fun w h => wk_in_M w (lay_X11 w h)) hown hK hI 0 ((List.getElem?_set_ne (by omega)).trans wx_e0) rfl 1 (by decide) (hts _ (wk_in_M _ mw_146)) rfl rfl dX11_giveRank_17 ?_
    refine lv_iload_n hx hb dX11_giveRank_20 rfl (lv_at hl 2 rfl) ?_
    refine wk_aald (v := ad (8 + q)) (j := q) hx hb hK hI 2 2 ((List.getElem?_set_ne (by omega)).trans wx_e2) rfl rfl hq (by decide) (if_pos hq) dX11_giveRank_21 ?_
    refine wk_put (v := .ref (ad (8 + q))) (ty := .object "WatchBill$Soul") hx hb hts (fun w h => wk_in_M w (lay_X6 w h)) tyX6 tyX6_ok nmX6 hown hK hI (16 + k) (wk_set_self (wx_em hk)) rfl 3 (by decide) (hts _ (wk_in_M _ mw_193)) rfl rfl (by decide +kernel) rfl rfl (Nat.le_of_ble_eq_true rfl) (wx_sRk hk q) dX11_giveRank_22 (fun H locs hI => ?_)
    refine lv_iload_n hx hb dX11_giveRank_25 rfl (lv_at hl 2 rfl) ?_
    exact wk_ri (wk_sRk σ (va_up (wk_rk σ) k q)) hx hb hr hlk hK hI rfl ⟨rfl, rfl⟩ dX11_giveRank_26
  · have c_1 := wk_b0 c_1
    exact absurd ⟨nI_pos' (by omega), nI_le (b := 7) (by omega) (by decide)⟩ c_1
set_option maxHeartbeats 4000000 in
set_option maxRecDepth 100000 in
theorem c_X11_promote (l : Launch) (D : va_G) (cI cJ cS : ClassId) (ad : Nat → Nat) (σ : wk_St) (k9 : Int32) (hV : wk_V σ) : wk_Ci l D (wk_tys cI cJ cS) yX11_promote (wk_M yX11_promote cX11_promote 3 (some .int)) ({ frames := 2, cells := 0, slots := 0, locals := 42 }) [.ref (ad 0), .int k9] (wx_W cI cS ad σ) (wx_W cI cS ad) (fun r0 u0 => r0 = (wk_promote σ k9).1 ∧ u0 = (wk_promote σ k9).2) := by
  intro sz
  refine Met.ofW (cc := cX11_promote) (maxL := 3) (ret := (some .int)) (by decide) rfl ?_
  intro p e s m args below meth c s₁ B hml hv
  obtain ⟨rfl, hsz, hP, hK, hD0, hN⟩ := hv
  have hx := B.exec
  have hb := B.bytes
  have hr := B.returns
  have hts := atoms_spec (ws := wk_M yX11_promote cX11_promote 3 (some .int)) B.pre
  have hown : s.vm.findClass RX11 = some m.cls := findClass_of_methodNamed B.named
  have hlk := B.notSynchronized
  subst hsz
  have hI : wk_I D (va_A (wx_W cI cS ad σ) s.heap.size) s.heap s.heap [] (wx_W cI cS ad σ) := ⟨hP, hD0.self, va_S.rf⟩
  have hA : ∀ q : Nat, s.heap.size ≤ q → (va_A (wx_W cI cS ad σ) s.heap.size) q := fun q h => Or.inr h
  clear hP hD0
  generalize va_A (wx_W cI cS ad σ) s.heap.size = A at hI hA ⊢
  have hl := lv_entry ([.ref (ad 0), .int k9]) (n := 3) (Nat.le_of_ble_eq_true rfl)
  rw [lg_entry_eq]
  generalize (lg_sl ([.ref (ad 0), .int k9]) ++ List.replicate (3 - (lg_sl ([.ref (ad 0), .int k9])).length) Slot.unset).toArray = ls at hl ⊢
  have hl : lv_has ls 3 [(0, .ref (ad 0)), (1, .int k9)] := hl
  rcases wk_okC hV k9 with ⟨j, hj, rfl⟩ | hno
  · have hK := hK
    have hr8 := hV.rk hj
    refine lv_aload_n hx hb dX11_promote_0 rfl (lv_at hl 0 rfl) ?_
    refine wk_get (v := .ref (ad 1)) hx hb hts (fun w h => wk_in_M w (lay_X11 w h)) hown hK hI (0) wx_e0 rfl 0 (by decide) (hts _ (wk_in_M _ mw_145)) rfl rfl dX11_promote_1 ?_
    refine lv_iload_n hx hb dX11_promote_4 rfl (lv_at hl 1 rfl) ?_
    refine wk_kQ hI hA (va_runV (As := [.int (nI j)]) (rest := []) ⟨hx, hb, hml, hown, hts⟩ (c_X2_member l D cI cJ cS ad σ (nI j) hV _) (wk_cwV 1 hts wk_in_M mw_224 mw_225 mw_226 mw_35 mw_227 hdX2_member ⟨(Nat.le_of_ble_eq_true rfl), (Nat.le_of_ble_eq_true rfl)⟩) (wk_preV hN hK hI (ci := 2) rfl wx_e1) rfl rfl hl.1 rfl (lv_room (Nat.le_of_ble_eq_true rfl)) dX11_promote_5 ⟨(Nat.le_of_ble_eq_true rfl), (Nat.le_of_ble_eq_true rfl)⟩) (fun r u H locs hw hI => ?_)
    obtain ⟨rfl, hw⟩ := hw
    rw [hw] at hI
    rw [wx_findJ hV hj]
    refine W.eq (g2 := F0 m 8 ls [.ref (ad (16 + j))]) rfl ?_
    refine lv_astore_n (lv' := [(2, .ref (ad (16 + j))), (0, .ref (ad 0)), (1, .int (nI j))]) hx hb dX11_promote_8 rfl hl (by decide) rfl (fun ls hl => ?_)
    refine lv_aload_n hx hb dX11_promote_9 rfl (lv_at hl 0 rfl) ?_
    refine lv_ifnull hx hb dX11_promote_10 ?_
    refine lv_aload_n hx hb dX11_promote_13 rfl (lv_at hl 0 rfl) ?_
    refine wk_get (v := .int (nI (wk_rk σ j))) hx hb hts (fun w h => wk_in_M w (lay_X6 w h)) hown hK hI (16 + j) (wx_em hj) rfl 2 (by decide) (hts _ (wk_in_M _ mw_190)) rfl rfl dX11_promote_14 ?_
    refine lv_iconst (v := 5) hx hb dX11_promote_17 (by decide) ?_
    refine lv_icmp_eq (tgt := 30) hx hb dX11_promote_18 (by decide) (fun c_1 => ?_) (fun c_1 => ?_)
    · refine lv_ldc hx hb hown (hts _ (wk_in_M _ mw_171)) dX11_promote_30 ?_
      exact wk_ri σ hx hb hr hlk hK hI rfl (wk_post (by unfold wk_promote; rw [wk_clJ hV hj, wk_ifF (fun hq => hq.2.1 ((nI_eq (b := 5) (by omega) (by decide)).mp c_1))])) dX11_promote_32
    · refine lv_aload_n hx hb dX11_promote_21 rfl (lv_at hl 0 rfl) ?_
      refine wk_get (v := .int (nI (wk_rk σ j))) hx hb hts (fun w h => wk_in_M w (lay_X6 w h)) hown hK hI (16 + j) (wx_em hj) rfl 2 (by decide) (hts _ (wk_in_M _ mw_190)) rfl rfl dX11_promote_22 ?_
      refine lv_bipush (v := 7) hx hb dX11_promote_25 (by decide) ?_
      refine lv_icmp_ne (tgt := 33) hx hb dX11_promote_27 (by decide) (fun c_2 => ?_) (fun c_2 => ?_)
      · have h5 : wk_rk σ j ≠ 5 := fun hq => c_1 (by rw [hq]; rfl)
        have h7 : wk_rk σ j ≠ 7 := fun hq => c_2 (by rw [hq]; rfl)
        refine lv_aload_n hx hb dX11_promote_33 rfl (lv_at hl 1 rfl) ?_
        refine lv_aload_n hx hb dX11_promote_34 rfl (lv_at hl 0 rfl) ?_
        refine lv_aload_n hx hb dX11_promote_35 rfl (lv_at hl 0 rfl) ?_
        refine wk_get (v := .int (nI (wk_rk σ j))) hx hb hts (fun w h => wk_in_M w (lay_X6 w h)) hown hK hI (16 + j) (wx_em hj) rfl 2 (by decide) (hts _ (wk_in_M _ mw_190)) rfl rfl dX11_promote_36 ?_
        refine lv_iconst (v := 1) hx hb dX11_promote_39 (by decide) ?_
        refine lv_iadd hx hb dX11_promote_40 ?_
        rw [nI_1]
        refine wk_kI hI hA (va_runV (As := [.ref (ad (16 + j)), .int (nI (wk_rk σ j + 1))]) (rest := []) ⟨hx, hb, hml, hown, hts⟩ (c_X11_giveRank l D cI cJ cS ad σ j (wk_rk σ j + 1) hj (by omega) _) (wk_cwV 2 hts wk_in_M mw_228 mw_230 mw_0 mw_34 mw_231 hdX11_giveRank ⟨(Nat.le_of_ble_eq_true rfl), (Nat.le_of_ble_eq_true rfl)⟩) (wk_preV hN hK hI (ci := 10) rfl wx_e0) rfl rfl hl.1 rfl (lv_room (Nat.le_of_ble_eq_true rfl)) dX11_promote_41 ⟨(Nat.le_of_ble_eq_true rfl), (Nat.le_of_ble_eq_true rfl)⟩) (fun r u H locs hw hI => ?_)
        obtain ⟨rfl, rfl⟩ := hw
        exact wk_ri (wk_sRk σ (va_up (wk_rk σ) j (wk_rk σ j + 1))) hx hb hr hlk hK hI rfl (wk_post (by unfold wk_promote; rw [wk_clJ hV hj, wk_ifT ⟨wk_okJ hV hj, h5, h7⟩])) dX11_promote_44
      · refine lv_ldc hx hb hown (hts _ (wk_in_M _ mw_171)) dX11_promote_30 ?_
        exact wk_ri σ hx hb hr hlk hK hI rfl (wk_post (by unfold wk_promote; rw [wk_clJ hV hj, wk_ifF (fun hq => hq.2.2 ((nI_eq (b := 7) (by omega) (by decide)).mp c_2))])) dX11_promote_32
  · have hK := hK
    refine lv_aload_n hx hb dX11_promote_0 rfl (lv_at hl 0 rfl) ?_
    refine wk_get (v := .ref (ad 1)) hx hb hts (fun w h => wk_in_M w (lay_X11 w h)) hown hK hI (0) wx_e0 rfl 0 (by decide) (hts _ (wk_in_M _ mw_145)) rfl rfl dX11_promote_1 ?_
    refine lv_iload_n hx hb dX11_promote_4 rfl (lv_at hl 1 rfl) ?_
    refine wk_kQ hI hA (va_runV (As := [.int k9]) (rest := []) ⟨hx, hb, hml, hown, hts⟩ (c_X2_member l D cI cJ cS ad σ k9 hV _) (wk_cwV 1 hts wk_in_M mw_224 mw_225 mw_226 mw_35 mw_227 hdX2_member ⟨(Nat.le_of_ble_eq_true rfl), (Nat.le_of_ble_eq_true rfl)⟩) (wk_preV hN hK hI (ci := 2) rfl wx_e1) rfl rfl hl.1 rfl (lv_room (Nat.le_of_ble_eq_true rfl)) dX11_promote_5 ⟨(Nat.le_of_ble_eq_true rfl), (Nat.le_of_ble_eq_true rfl)⟩) (fun r u H locs hw hI => ?_)
    obtain ⟨rfl, hw⟩ := hw
    rw [hw] at hI
    rw [wx_findN hno]
    refine W.eq (g2 := F0 m 8 ls [.null]) rfl ?_
    refine lv_astore_nN (lv' := [(2, .null), (0, .ref (ad 0)), (1, .int k9)]) hx hb dX11_promote_8 rfl hl (by decide) rfl (fun ls hl => ?_)
    refine lv_aload_nN hx hb dX11_promote_9 rfl (lv_at hl 0 rfl) ?_
    refine lv_ifnullN (tgt := 30) hx hb dX11_promote_10 (by decide) ?_
    refine lv_ldc hx hb hown (hts _ (wk_in_M _ mw_171)) dX11_promote_30 ?_
    exact wk_ri σ hx hb hr hlk hK hI rfl (wk_post (by unfold wk_promote; rw [wk_ifF (fun hq => hno hq.1)])) dX11_promote_32
set_option maxHeartbeats 4000000 in
set_option maxRecDepth 100000 in
theorem c_X11_demote (l : Launch) (D : va_G) (cI cJ cS : ClassId) (ad : Nat → Nat) (σ : wk_St) (k9 : Int32) (hV : wk_V σ) : wk_Ci l D (wk_tys cI cJ cS) yX11_demote (wk_M yX11_demote cX11_demote 3 (some .int)) ({ frames := 2, cells := 0, slots := 0, locals := 42 }) [.ref (ad 0), .int k9] (wx_W cI cS ad σ) (wx_W cI cS ad) (fun r0 u0 => r0 = (wk_demote σ k9).1 ∧ u0 = (wk_demote σ k9).2) := by
  intro sz
  refine Met.ofW (cc := cX11_demote) (maxL := 3) (ret := (some .int)) (by decide) rfl ?_
  intro p e s m args below meth c s₁ B hml hv
  obtain ⟨rfl, hsz, hP, hK, hD0, hN⟩ := hv
  have hx := B.exec
  have hb := B.bytes
  have hr := B.returns
  have hts := atoms_spec (ws := wk_M yX11_demote cX11_demote 3 (some .int)) B.pre
  have hown : s.vm.findClass RX11 = some m.cls := findClass_of_methodNamed B.named
  have hlk := B.notSynchronized
  subst hsz
  have hI : wk_I D (va_A (wx_W cI cS ad σ) s.heap.size) s.heap s.heap [] (wx_W cI cS ad σ) := ⟨hP, hD0.self, va_S.rf⟩
  have hA : ∀ q : Nat, s.heap.size ≤ q → (va_A (wx_W cI cS ad σ) s.heap.size) q := fun q h => Or.inr h
  clear hP hD0
  generalize va_A (wx_W cI cS ad σ) s.heap.size = A at hI hA ⊢
  have hl := lv_entry ([.ref (ad 0), .int k9]) (n := 3) (Nat.le_of_ble_eq_true rfl)
  rw [lg_entry_eq]
  generalize (lg_sl ([.ref (ad 0), .int k9]) ++ List.replicate (3 - (lg_sl ([.ref (ad 0), .int k9])).length) Slot.unset).toArray = ls at hl ⊢
  have hl : lv_has ls 3 [(0, .ref (ad 0)), (1, .int k9)] := hl
  rcases wk_okC hV k9 with ⟨j, hj, rfl⟩ | hno
  · have hK := hK
    have hr8 := hV.rk hj
    refine lv_aload_n hx hb dX11_demote_0 rfl (lv_at hl 0 rfl) ?_
    refine wk_get (v := .ref (ad 1)) hx hb hts (fun w h => wk_in_M w (lay_X11 w h)) hown hK hI (0) wx_e0 rfl 0 (by decide) (hts _ (wk_in_M _ mw_145)) rfl rfl dX11_demote_1 ?_
    refine lv_iload_n hx hb dX11_demote_4 rfl (lv_at hl 1 rfl) ?_
    refine wk_kQ hI hA (va_runV (As := [.int (nI j)]) (rest := []) ⟨hx, hb, hml, hown, hts⟩ (c_X2_member l D cI cJ cS ad σ (nI j) hV _) (wk_cwV 1 hts wk_in_M mw_224 mw_225 mw_226 mw_35 mw_227 hdX2_member ⟨(Nat.le_of_ble_eq_true rfl), (Nat.le_of_ble_eq_true rfl)⟩) (wk_preV hN hK hI (ci := 2) rfl wx_e1) rfl rfl hl.1 rfl (lv_room (Nat.le_of_ble_eq_true rfl)) dX11_demote_5 ⟨(Nat.le_of_ble_eq_true rfl), (Nat.le_of_ble_eq_true rfl)⟩) (fun r u H locs hw hI => ?_)
    obtain ⟨rfl, hw⟩ := hw
    rw [hw] at hI
    rw [wx_findJ hV hj]
    refine W.eq (g2 := F0 m 8 ls [.ref (ad (16 + j))]) rfl ?_
    refine lv_astore_n (lv' := [(2, .ref (ad (16 + j))), (0, .ref (ad 0)), (1, .int (nI j))]) hx hb dX11_demote_8 rfl hl (by decide) rfl (fun ls hl => ?_)
    refine lv_aload_n hx hb dX11_demote_9 rfl (lv_at hl 0 rfl) ?_
    refine lv_ifnull hx hb dX11_demote_10 ?_
    refine lv_aload_n hx hb dX11_demote_13 rfl (lv_at hl 0 rfl) ?_
    refine wk_get (v := .int (nI (wk_rk σ j))) hx hb hts (fun w h => wk_in_M w (lay_X6 w h)) hown hK hI (16 + j) (wx_em hj) rfl 2 (by decide) (hts _ (wk_in_M _ mw_190)) rfl rfl dX11_demote_14 ?_
    refine lv_if_ne (tgt := 23) hx hb dX11_demote_17 (by decide) (fun c_1 => ?_) (fun c_1 => ?_)
    · have h0 : wk_rk σ j ≠ 0 := fun hq => c_1 (by rw [hq]; rfl)
      refine lv_aload_n hx hb dX11_demote_23 rfl (lv_at hl 1 rfl) ?_
      refine lv_aload_n hx hb dX11_demote_24 rfl (lv_at hl 0 rfl) ?_
      refine lv_aload_n hx hb dX11_demote_25 rfl (lv_at hl 0 rfl) ?_
      refine wk_get (v := .int (nI (wk_rk σ j))) hx hb hts (fun w h => wk_in_M w (lay_X6 w h)) hown hK hI (16 + j) (wx_em hj) rfl 2 (by decide) (hts _ (wk_in_M _ mw_190)) rfl rfl dX11_demote_26 ?_
      refine lv_bipush (v := 6) hx hb dX11_demote_29 (by decide) ?_
      refine lv_icmp_ne (tgt := 38) hx hb dX11_demote_31 (by decide) (fun c_2 => ?_) (fun c_2 => ?_)
      · refine lv_aload_n hx hb dX11_demote_38 rfl (lv_at hl 0 rfl) ?_
        refine wk_get (v := .int (nI (wk_rk σ j))) hx hb hts (fun w h => wk_in_M w (lay_X6 w h)) hown hK hI (16 + j) (wx_em hj) rfl 2 (by decide) (hts _ (wk_in_M _ mw_190)) rfl rfl dX11_demote_39 ?_
        refine lv_iconst (v := 1) hx hb dX11_demote_42 (by decide) ?_
        refine lv_isub hx hb dX11_demote_43 ?_
        rw [show nI (wk_rk σ j) - 1 = nI (wk_rk σ j - 1) from pk_sub (b := 1) (by omega)]
        refine wk_kI hI hA (va_runV (As := [.ref (ad (16 + j)), .int (nI (wk_rk σ j - 1))]) (rest := []) ⟨hx, hb, hml, hown, hts⟩ (c_X11_giveRank l D cI cJ cS ad σ j (wk_rk σ j - 1) hj (by omega) _) (wk_cwV 2 hts wk_in_M mw_228 mw_230 mw_0 mw_34 mw_231 hdX11_giveRank ⟨(Nat.le_of_ble_eq_true rfl), (Nat.le_of_ble_eq_true rfl)⟩) (wk_preV hN hK hI (ci := 10) rfl wx_e0) rfl rfl hl.1 rfl (lv_room (Nat.le_of_ble_eq_true rfl)) dX11_demote_44 ⟨(Nat.le_of_ble_eq_true rfl), (Nat.le_of_ble_eq_true rfl)⟩) (fun r u H locs hw hI => ?_)
        obtain ⟨rfl, rfl⟩ := hw
        have h6 : wk_rk σ j ≠ 6 := fun hq => c_2 (by rw [hq]; rfl)
        exact wk_ri (wk_sRk σ (va_up (wk_rk σ) j (wk_rk σ j - 1))) hx hb hr hlk hK hI rfl (wk_post (by unfold wk_demote wk_down; rw [wk_clJ hV hj, wk_ifT ⟨wk_okJ hV hj, h0⟩, if_neg h6])) dX11_demote_47
      · refine lv_iconst (v := 0) hx hb dX11_demote_34 (by decide) ?_
        refine lv_goto (tgt := 44) hx hb dX11_demote_35 (by decide) ?_
        refine wk_kI hI hA (va_runV (As := [.ref (ad (16 + j)), .int (nI 0)]) (rest := []) ⟨hx, hb, hml, hown, hts⟩ (c_X11_giveRank l D cI cJ cS ad σ j 0 hj (by omega) _) (wk_cwV 2 hts wk_in_M mw_228 mw_230 mw_0 mw_34 mw_231 hdX11_giveRank ⟨(Nat.le_of_ble_eq_true rfl), (Nat.le_of_ble_eq_true rfl)⟩) (wk_preV hN hK hI (ci := 10) rfl wx_e0) rfl rfl hl.1 rfl (lv_room (Nat.le_of_ble_eq_true rfl)) dX11_demote_44 ⟨(Nat.le_of_ble_eq_true rfl), (Nat.le_of_ble_eq_true rfl)⟩) (fun r u H locs hw hI => ?_)
        obtain ⟨rfl, rfl⟩ := hw
        have h6 : wk_rk σ j = 6 := (nI_eq (b := 6) (by omega) (by decide)).mp c_2
        exact wk_ri (wk_sRk σ (va_up (wk_rk σ) j 0)) hx hb hr hlk hK hI rfl (wk_post (by unfold wk_demote wk_down; rw [wk_clJ hV hj, wk_ifT ⟨wk_okJ hV hj, h0⟩, if_pos h6])) dX11_demote_47
    · refine lv_ldc hx hb hown (hts _ (wk_in_M _ mw_171)) dX11_demote_20 ?_
      exact wk_ri σ hx hb hr hlk hK hI rfl (wk_post (by unfold wk_demote; rw [wk_clJ hV hj, wk_ifF (fun hq => hq.2 ((nI_eq (b := 0) (by omega) (by decide)).mp c_1))])) dX11_demote_22
  · have hK := hK
    refine lv_aload_n hx hb dX11_demote_0 rfl (lv_at hl 0 rfl) ?_
    refine wk_get (v := .ref (ad 1)) hx hb hts (fun w h => wk_in_M w (lay_X11 w h)) hown hK hI (0) wx_e0 rfl 0 (by decide) (hts _ (wk_in_M _ mw_145)) rfl rfl dX11_demote_1 ?_
    refine lv_iload_n hx hb dX11_demote_4 rfl (lv_at hl 1 rfl) ?_
    refine wk_kQ hI hA (va_runV (As := [.int k9]) (rest := []) ⟨hx, hb, hml, hown, hts⟩ (c_X2_member l D cI cJ cS ad σ k9 hV _) (wk_cwV 1 hts wk_in_M mw_224 mw_225 mw_226 mw_35 mw_227 hdX2_member ⟨(Nat.le_of_ble_eq_true rfl), (Nat.le_of_ble_eq_true rfl)⟩) (wk_preV hN hK hI (ci := 2) rfl wx_e1) rfl rfl hl.1 rfl (lv_room (Nat.le_of_ble_eq_true rfl)) dX11_demote_5 ⟨(Nat.le_of_ble_eq_true rfl), (Nat.le_of_ble_eq_true rfl)⟩) (fun r u H locs hw hI => ?_)
    obtain ⟨rfl, hw⟩ := hw
    rw [hw] at hI
    rw [wx_findN hno]
    refine W.eq (g2 := F0 m 8 ls [.null]) rfl ?_
    refine lv_astore_nN (lv' := [(2, .null), (0, .ref (ad 0)), (1, .int k9)]) hx hb dX11_demote_8 rfl hl (by decide) rfl (fun ls hl => ?_)
    refine lv_aload_nN hx hb dX11_demote_9 rfl (lv_at hl 0 rfl) ?_
    refine lv_ifnullN (tgt := 20) hx hb dX11_demote_10 (by decide) ?_
    refine lv_ldc hx hb hown (hts _ (wk_in_M _ mw_171)) dX11_demote_20 ?_
    exact wk_ri σ hx hb hr hlk hK hI rfl (wk_post (by unfold wk_demote; rw [wk_ifF (fun hq => hno hq.1)])) dX11_demote_22
end
