section
-- ===== PART A: goes FIRST, ahead of the names: the tables' words, and 'selects' of the private methods out of them =====
/-- a private method of a class that the tables say can be made, by its rows of tables_1 -/
def lw_okq (q : MethodName × Nat) : Prop := (q.1.cls ≠ "java/lang/invoke/MethodHandle" ∧ q.1.cls ≠ "java/lang/invoke/VarHandle") ∧ Cond.instantiable q.1.cls q.2 ∈ tables_1 ∧ Cond.privateMethod q.1 ∈ tables_1 ∧ Cond.instanceMethod q.1 ∈ tables_1
theorem lw_p0 : lw_okq (⟨"RefitYard$Rules", "foesOf", "(LRefitYard$Work;)J"⟩, 5) := ⟨⟨by decide +kernel, by decide +kernel⟩, List.mem_of_getElem? (i := 108) (by decide +kernel), List.mem_of_getElem? (i := 198) (by decide +kernel), List.mem_of_getElem? (i := 199) (by decide +kernel)⟩
theorem lw_p1 : lw_okq (⟨"RefitYard", "canBe", "(LRefitYard$Work;)Z"⟩, 5) := ⟨⟨by decide +kernel, by decide +kernel⟩, List.mem_of_getElem? (i := 12) (by decide +kernel), List.mem_of_getElem? (i := 337) (by decide +kernel), List.mem_of_getElem? (i := 338) (by decide +kernel)⟩
theorem lw_p2 : lw_okq (⟨"RefitYard$Net", "rank", "()V"⟩, 6) := ⟨⟨by decide +kernel, by decide +kernel⟩, List.mem_of_getElem? (i := 47) (by decide +kernel), List.mem_of_getElem? (i := 349) (by decide +kernel), List.mem_of_getElem? (i := 350) (by decide +kernel)⟩
theorem lw_p3 : lw_okq (⟨"RefitYard$Net", "pushEarly", "(LRefitYard$Work;)V"⟩, 6) := ⟨⟨by decide +kernel, by decide +kernel⟩, List.mem_of_getElem? (i := 47) (by decide +kernel), List.mem_of_getElem? (i := 359) (by decide +kernel), List.mem_of_getElem? (i := 360) (by decide +kernel)⟩
theorem lw_p4 : lw_okq (⟨"RefitYard$Net", "pushTail", "(LRefitYard$Work;)V"⟩, 6) := ⟨⟨by decide +kernel, by decide +kernel⟩, List.mem_of_getElem? (i := 47) (by decide +kernel), List.mem_of_getElem? (i := 370) (by decide +kernel), List.mem_of_getElem? (i := 371) (by decide +kernel)⟩
theorem lw_p5 : lw_okq (⟨"RefitYard", "mayLean", "(LRefitYard$Work;LRefitYard$Work;)Z"⟩, 5) := ⟨⟨by decide +kernel, by decide +kernel⟩, List.mem_of_getElem? (i := 12) (by decide +kernel), List.mem_of_getElem? (i := 386) (by decide +kernel), List.mem_of_getElem? (i := 387) (by decide +kernel)⟩
theorem lw_p6 : lw_okq (⟨"RefitYard$Rules", "isFree", "(LRefitYard$Work;I)Z"⟩, 5) := ⟨⟨by decide +kernel, by decide +kernel⟩, List.mem_of_getElem? (i := 108) (by decide +kernel), List.mem_of_getElem? (i := 461) (by decide +kernel), List.mem_of_getElem? (i := 462) (by decide +kernel)⟩
theorem lw_p7 : lw_okq (⟨"RefitYard$Rules", "lacksHands", "(LRefitYard$Work;I)Z"⟩, 5) := ⟨⟨by decide +kernel, by decide +kernel⟩, List.mem_of_getElem? (i := 108) (by decide +kernel), List.mem_of_getElem? (i := 465) (by decide +kernel), List.mem_of_getElem? (i := 466) (by decide +kernel)⟩
theorem lw_p8 : lw_okq (⟨"RefitYard$Rules", "lacksGood", "(LRefitYard$Work;I)Z"⟩, 5) := ⟨⟨by decide +kernel, by decide +kernel⟩, List.mem_of_getElem? (i := 108) (by decide +kernel), List.mem_of_getElem? (i := 469) (by decide +kernel), List.mem_of_getElem? (i := 470) (by decide +kernel)⟩
theorem lw_p9 : lw_okq (⟨"RefitYard$Rules", "lacksRoom", "(LRefitYard$Work;I)Z"⟩, 5) := ⟨⟨by decide +kernel, by decide +kernel⟩, List.mem_of_getElem? (i := 108) (by decide +kernel), List.mem_of_getElem? (i := 474) (by decide +kernel), List.mem_of_getElem? (i := 475) (by decide +kernel)⟩
theorem lw_p10 : lw_okq (⟨"RefitYard$Rules", "meetsFoe", "(LRefitYard$Work;I)Z"⟩, 5) := ⟨⟨by decide +kernel, by decide +kernel⟩, List.mem_of_getElem? (i := 108) (by decide +kernel), List.mem_of_getElem? (i := 478) (by decide +kernel), List.mem_of_getElem? (i := 479) (by decide +kernel)⟩
theorem lw_p11 : lw_okq (⟨"RefitYard$Rules", "isBroken", "(LRefitYard$Work;II)Z"⟩, 5) := ⟨⟨by decide +kernel, by decide +kernel⟩, List.mem_of_getElem? (i := 108) (by decide +kernel), List.mem_of_getElem? (i := 497) (by decide +kernel), List.mem_of_getElem? (i := 498) (by decide +kernel)⟩
theorem lw_p12 : lw_okq (⟨"RefitYard", "partOfBreak", "(LRefitYard$Work;II)I"⟩, 5) := ⟨⟨by decide +kernel, by decide +kernel⟩, List.mem_of_getElem? (i := 12) (by decide +kernel), List.mem_of_getElem? (i := 501) (by decide +kernel), List.mem_of_getElem? (i := 502) (by decide +kernel)⟩
theorem lw_p13 : lw_okq (⟨"RefitYard", "stateOf", "(LRefitYard$Work;)I"⟩, 5) := ⟨⟨by decide +kernel, by decide +kernel⟩, List.mem_of_getElem? (i := 12) (by decide +kernel), List.mem_of_getElem? (i := 510) (by decide +kernel), List.mem_of_getElem? (i := 511) (by decide +kernel)⟩
theorem lw_p14 : lw_okq (⟨"RefitYard$Orders", "layNext", "(II)V"⟩, 5) := ⟨⟨by decide +kernel, by decide +kernel⟩, List.mem_of_getElem? (i := 132) (by decide +kernel), List.mem_of_getElem? (i := 555) (by decide +kernel), List.mem_of_getElem? (i := 556) (by decide +kernel)⟩
theorem lw_p15 : lw_okq (⟨"RefitYard$Orders", "keep", "(I)V"⟩, 5) := ⟨⟨by decide +kernel, by decide +kernel⟩, List.mem_of_getElem? (i := 132) (by decide +kernel), List.mem_of_getElem? (i := 559) (by decide +kernel), List.mem_of_getElem? (i := 560) (by decide +kernel)⟩
def lw_privs_1 : List (MethodName × Nat) := [(⟨"RefitYard$Rules", "foesOf", "(LRefitYard$Work;)J"⟩, 5), (⟨"RefitYard", "canBe", "(LRefitYard$Work;)Z"⟩, 5), (⟨"RefitYard$Net", "rank", "()V"⟩, 6), (⟨"RefitYard$Net", "pushEarly", "(LRefitYard$Work;)V"⟩, 6), (⟨"RefitYard$Net", "pushTail", "(LRefitYard$Work;)V"⟩, 6), (⟨"RefitYard", "mayLean", "(LRefitYard$Work;LRefitYard$Work;)Z"⟩, 5), (⟨"RefitYard$Rules", "isFree", "(LRefitYard$Work;I)Z"⟩, 5), (⟨"RefitYard$Rules", "lacksHands", "(LRefitYard$Work;I)Z"⟩, 5), (⟨"RefitYard$Rules", "lacksGood", "(LRefitYard$Work;I)Z"⟩, 5), (⟨"RefitYard$Rules", "lacksRoom", "(LRefitYard$Work;I)Z"⟩, 5), (⟨"RefitYard$Rules", "meetsFoe", "(LRefitYard$Work;I)Z"⟩, 5), (⟨"RefitYard$Rules", "isBroken", "(LRefitYard$Work;II)Z"⟩, 5), (⟨"RefitYard", "partOfBreak", "(LRefitYard$Work;II)I"⟩, 5), (⟨"RefitYard", "stateOf", "(LRefitYard$Work;)I"⟩, 5), (⟨"RefitYard$Orders", "layNext", "(II)V"⟩, 5), (⟨"RefitYard$Orders", "keep", "(I)V"⟩, 5)]
theorem lw_r1 : ∀ q ∈ lw_privs_1, lw_okq q := List.forall_mem_cons.mpr ⟨lw_p0, List.forall_mem_cons.mpr ⟨lw_p1, List.forall_mem_cons.mpr ⟨lw_p2, List.forall_mem_cons.mpr ⟨lw_p3, List.forall_mem_cons.mpr ⟨lw_p4, List.forall_mem_cons.mpr ⟨lw_p5, List.forall_mem_cons.mpr ⟨lw_p6, List.forall_mem_cons.mpr ⟨lw_p7, List.forall_mem_cons.mpr ⟨lw_p8, List.forall_mem_cons.mpr ⟨lw_p9, List.forall_mem_cons.mpr ⟨lw_p10, List.forall_mem_cons.mpr ⟨lw_p11, List.forall_mem_cons.mpr ⟨lw_p12, List.forall_mem_cons.mpr ⟨lw_p13, List.forall_mem_cons.mpr ⟨lw_p14, List.forall_mem_cons.mpr ⟨lw_p15, fun _ h => absurd h List.not_mem_nil⟩⟩⟩⟩⟩⟩⟩⟩⟩⟩⟩⟩⟩⟩⟩⟩
theorem lw_p16 : lw_okq (⟨"RefitYard$Orders", "layAndGoOn", "(LRefitYard$Work;II)V"⟩, 5) := ⟨⟨by decide +kernel, by decide +kernel⟩, List.mem_of_getElem? (i := 132) (by decide +kernel), List.mem_of_getElem? (i := 565) (by decide +kernel), List.mem_of_getElem? (i := 566) (by decide +kernel)⟩
theorem lw_p17 : lw_okq (⟨"RefitYard$Net", "lengthOf", "(J)I"⟩, 6) := ⟨⟨by decide +kernel, by decide +kernel⟩, List.mem_of_getElem? (i := 47) (by decide +kernel), List.mem_of_getElem? (i := 598) (by decide +kernel), List.mem_of_getElem? (i := 599) (by decide +kernel)⟩
theorem lw_p18 : lw_okq (⟨"RefitYard$Net", "needersOf", "(J)J"⟩, 6) := ⟨⟨by decide +kernel, by decide +kernel⟩, List.mem_of_getElem? (i := 47) (by decide +kernel), List.mem_of_getElem? (i := 624) (by decide +kernel), List.mem_of_getElem? (i := 625) (by decide +kernel)⟩
theorem lw_p19 : lw_okq (⟨"RefitYardModel", "canNeed", "(II)Z"⟩, 25) := ⟨⟨by decide +kernel, by decide +kernel⟩, List.mem_of_getElem? (i := 644) (by decide +kernel), List.mem_of_getElem? (i := 759) (by decide +kernel), List.mem_of_getElem? (i := 760) (by decide +kernel)⟩
theorem lw_p20 : lw_okq (⟨"RefitYardModel", "isWork", "(I)Z"⟩, 25) := ⟨⟨by decide +kernel, by decide +kernel⟩, List.mem_of_getElem? (i := 644) (by decide +kernel), List.mem_of_getElem? (i := 763) (by decide +kernel), List.mem_of_getElem? (i := 764) (by decide +kernel)⟩
theorem lw_p21 : lw_okq (⟨"RefitYardModel", "isBegun", "(I)Z"⟩, 25) := ⟨⟨by decide +kernel, by decide +kernel⟩, List.mem_of_getElem? (i := 644) (by decide +kernel), List.mem_of_getElem? (i := 767) (by decide +kernel), List.mem_of_getElem? (i := 768) (by decide +kernel)⟩
theorem lw_p22 : lw_okq (⟨"RefitYardModel", "isPut", "(I)Z"⟩, 25) := ⟨⟨by decide +kernel, by decide +kernel⟩, List.mem_of_getElem? (i := 644) (by decide +kernel), List.mem_of_getElem? (i := 771) (by decide +kernel), List.mem_of_getElem? (i := 772) (by decide +kernel)⟩
theorem lw_p23 : lw_okq (⟨"RefitYardModel", "hangs", "(II)Z"⟩, 25) := ⟨⟨by decide +kernel, by decide +kernel⟩, List.mem_of_getElem? (i := 644) (by decide +kernel), List.mem_of_getElem? (i := 775) (by decide +kernel), List.mem_of_getElem? (i := 776) (by decide +kernel)⟩
theorem lw_p24 : lw_okq (⟨"RefitYardModel", "breaks", "(II)I"⟩, 25) := ⟨⟨by decide +kernel, by decide +kernel⟩, List.mem_of_getElem? (i := 644) (by decide +kernel), List.mem_of_getElem? (i := 795) (by decide +kernel), List.mem_of_getElem? (i := 796) (by decide +kernel)⟩
theorem lw_p25 : lw_okq (⟨"RefitYardModel", "endOf", "(I)I"⟩, 25) := ⟨⟨by decide +kernel, by decide +kernel⟩, List.mem_of_getElem? (i := 644) (by decide +kernel), List.mem_of_getElem? (i := 799) (by decide +kernel), List.mem_of_getElem? (i := 800) (by decide +kernel)⟩
theorem lw_p26 : lw_okq (⟨"RefitYardModel", "isBroken", "(III)Z"⟩, 25) := ⟨⟨by decide +kernel, by decide +kernel⟩, List.mem_of_getElem? (i := 644) (by decide +kernel), List.mem_of_getElem? (i := 803) (by decide +kernel), List.mem_of_getElem? (i := 804) (by decide +kernel)⟩
theorem lw_p27 : lw_okq (⟨"RefitYardModel", "isIn", "(II)Z"⟩, 25) := ⟨⟨by decide +kernel, by decide +kernel⟩, List.mem_of_getElem? (i := 644) (by decide +kernel), List.mem_of_getElem? (i := 807) (by decide +kernel), List.mem_of_getElem? (i := 808) (by decide +kernel)⟩
theorem lw_p28 : lw_okq (⟨"RefitYardModel", "isBarred", "(II)Z"⟩, 25) := ⟨⟨by decide +kernel, by decide +kernel⟩, List.mem_of_getElem? (i := 644) (by decide +kernel), List.mem_of_getElem? (i := 811) (by decide +kernel), List.mem_of_getElem? (i := 812) (by decide +kernel)⟩
theorem lw_p29 : lw_okq (⟨"RefitYardModel", "isBad", "(I)Z"⟩, 25) := ⟨⟨by decide +kernel, by decide +kernel⟩, List.mem_of_getElem? (i := 644) (by decide +kernel), List.mem_of_getElem? (i := 819) (by decide +kernel), List.mem_of_getElem? (i := 820) (by decide +kernel)⟩
theorem lw_p30 : lw_okq (⟨"RefitYardModel", "way", "()I"⟩, 25) := ⟨⟨by decide +kernel, by decide +kernel⟩, List.mem_of_getElem? (i := 644) (by decide +kernel), List.mem_of_getElem? (i := 832) (by decide +kernel), List.mem_of_getElem? (i := 833) (by decide +kernel)⟩
theorem lw_p31 : lw_okq (⟨"RefitYardModel", "slack", "(II)I"⟩, 25) := ⟨⟨by decide +kernel, by decide +kernel⟩, List.mem_of_getElem? (i := 644) (by decide +kernel), List.mem_of_getElem? (i := 840) (by decide +kernel), List.mem_of_getElem? (i := 841) (by decide +kernel)⟩
def lw_privs_2 : List (MethodName × Nat) := [(⟨"RefitYard$Orders", "layAndGoOn", "(LRefitYard$Work;II)V"⟩, 5), (⟨"RefitYard$Net", "lengthOf", "(J)I"⟩, 6), (⟨"RefitYard$Net", "needersOf", "(J)J"⟩, 6), (⟨"RefitYardModel", "canNeed", "(II)Z"⟩, 25), (⟨"RefitYardModel", "isWork", "(I)Z"⟩, 25), (⟨"RefitYardModel", "isBegun", "(I)Z"⟩, 25), (⟨"RefitYardModel", "isPut", "(I)Z"⟩, 25), (⟨"RefitYardModel", "hangs", "(II)Z"⟩, 25), (⟨"RefitYardModel", "breaks", "(II)I"⟩, 25), (⟨"RefitYardModel", "endOf", "(I)I"⟩, 25), (⟨"RefitYardModel", "isBroken", "(III)Z"⟩, 25), (⟨"RefitYardModel", "isIn", "(II)Z"⟩, 25), (⟨"RefitYardModel", "isBarred", "(II)Z"⟩, 25), (⟨"RefitYardModel", "isBad", "(I)Z"⟩, 25), (⟨"RefitYardModel", "way", "()I"⟩, 25), (⟨"RefitYardModel", "slack", "(II)I"⟩, 25)]
theorem lw_r2 : ∀ q ∈ lw_privs_2, lw_okq q := List.forall_mem_cons.mpr ⟨lw_p16, List.forall_mem_cons.mpr ⟨lw_p17, List.forall_mem_cons.mpr ⟨lw_p18, List.forall_mem_cons.mpr ⟨lw_p19, List.forall_mem_cons.mpr ⟨lw_p20, List.forall_mem_cons.mpr ⟨lw_p21, List.forall_mem_cons.mpr ⟨lw_p22, List.forall_mem_cons.mpr ⟨lw_p23, List.forall_mem_cons.mpr ⟨lw_p24, List.forall_mem_cons.mpr ⟨lw_p25, List.forall_mem_cons.mpr ⟨lw_p26, List.forall_mem_cons.mpr ⟨lw_p27, List.forall_mem_cons.mpr ⟨lw_p28, List.forall_mem_cons.mpr ⟨lw_p29, List.forall_mem_cons.mpr ⟨lw_p30, List.forall_mem_cons.mpr ⟨lw_p31, fun _ h => absurd h List.not_mem_nil⟩⟩⟩⟩⟩⟩⟩⟩⟩⟩⟩⟩⟩⟩⟩⟩
theorem lw_p32 : lw_okq (⟨"RefitYardModel", "isReady", "(I)Z"⟩, 25) := ⟨⟨by decide +kernel, by decide +kernel⟩, List.mem_of_getElem? (i := 644) (by decide +kernel), List.mem_of_getElem? (i := 844) (by decide +kernel), List.mem_of_getElem? (i := 845) (by decide +kernel)⟩
theorem lw_p33 : lw_okq (⟨"RefitYardModel", "isDone", "(I)Z"⟩, 25) := ⟨⟨by decide +kernel, by decide +kernel⟩, List.mem_of_getElem? (i := 644) (by decide +kernel), List.mem_of_getElem? (i := 866) (by decide +kernel), List.mem_of_getElem? (i := 867) (by decide +kernel)⟩
theorem lw_p34 : lw_okq (⟨"RefitYardModel", "stateOf", "(I)I"⟩, 25) := ⟨⟨by decide +kernel, by decide +kernel⟩, List.mem_of_getElem? (i := 644) (by decide +kernel), List.mem_of_getElem? (i := 878) (by decide +kernel), List.mem_of_getElem? (i := 879) (by decide +kernel)⟩
def lw_privs_3 : List (MethodName × Nat) := [(⟨"RefitYardModel", "isReady", "(I)Z"⟩, 25), (⟨"RefitYardModel", "isDone", "(I)Z"⟩, 25), (⟨"RefitYardModel", "stateOf", "(I)I"⟩, 25)]
theorem lw_r3 : ∀ q ∈ lw_privs_3, lw_okq q := List.forall_mem_cons.mpr ⟨lw_p32, List.forall_mem_cons.mpr ⟨lw_p33, List.forall_mem_cons.mpr ⟨lw_p34, fun _ h => absurd h List.not_mem_nil⟩⟩⟩
def lw_privs : List (MethodName × Nat) := lw_privs_1 ++ (lw_privs_2 ++ (lw_privs_3))
def lw_tbl : List Cond := k2_sels lw_privs ++ tables_1
theorem lw_privs_ok : ∀ q ∈ lw_privs, lw_okq q := by
  show ∀ q ∈ lw_privs_1 ++ (lw_privs_2 ++ (lw_privs_3)), lw_okq q
  exact List.forall_mem_append.mpr ⟨lw_r1, List.forall_mem_append.mpr ⟨lw_r2, lw_r3⟩⟩
end
section
def RX0 : String := "RefitYard$Board"
def TX0 : u_T := fun k => match k with
  | 0 => ("RefitYard$Board", "within", "[J", true)
  | 1 => ("RefitYard$Board", "hands", "[[I", true)
  | _ => ("RefitYard$Board", "now", "I", false)
def tyX0 : Nat → FieldType := fun k => match k with
  | 0 => .array .long
  | 1 => .array (.array .int)
  | _ => .int
abbrev wsX00 : List Cond := u_ws RX0 TX0 3
theorem nmX0 : ∀ a, a < 3 → ∀ b, b < 3 → a ≠ b → (TX0 a).2.1 ≠ (TX0 b).2.1 := by decide +kernel
theorem tyX0_ok : ∀ k, k < 3 → parseFieldDescriptor (TX0 k).2.2.1 = some (tyX0 k) := by decide +kernel
abbrev cX0_init : ByteArray := prog_2_method_1_code
def yX0_init : MethodName := ⟨RX0, "<init>", "()V"⟩
abbrev cX0_lay : ByteArray := prog_2_method_2_code
def yX0_lay : MethodName := ⟨RX0, "lay", "(LRefitYard$Work;I)V"⟩
abbrev cX0_lift : ByteArray := prog_2_method_3_code
def yX0_lift : MethodName := ⟨RX0, "lift", "(LRefitYard$Work;)V"⟩
abbrev cX0_lengthen : ByteArray := prog_2_method_4_code
def yX0_lengthen : MethodName := ⟨RX0, "lengthen", "(LRefitYard$Work;I)V"⟩
def RX1 : String := "RefitYard$Ground"
def TX1 : u_T := fun k => match k with
  | 0 => ("RefitYard$Ground", "bears", "[I", true)
  | 1 => ("RefitYard$Ground", "neighbours", "[I", true)
  | 2 => ("RefitYard$Ground", "barred", "[I", true)
  | 3 => ("RefitYard$Ground", "spaces", "I", false)
  | _ => ("RefitYard$Ground", "bars", "I", false)
def tyX1 : Nat → FieldType := fun k => match k with
  | 0 => .array .int
  | 1 => .array .int
  | 2 => .array .int
  | 3 => .int
  | _ => .int
abbrev wsX10 : List Cond := u_ws RX1 TX1 5
theorem nmX1 : ∀ a, a < 5 → ∀ b, b < 5 → a ≠ b → (TX1 a).2.1 ≠ (TX1 b).2.1 := by decide +kernel
theorem tyX1_ok : ∀ k, k < 5 → parseFieldDescriptor (TX1 k).2.2.1 = some (tyX1 k) := by decide +kernel
abbrev cX1_init : ByteArray := prog_3_method_1_code
def yX1_init : MethodName := ⟨RX1, "<init>", "()V"⟩
abbrev cX1_addSpace : ByteArray := prog_3_method_2_code
def yX1_addSpace : MethodName := ⟨RX1, "addSpace", "(I)I"⟩
abbrev cX1_hasSpace : ByteArray := prog_3_method_3_code
def yX1_hasSpace : MethodName := ⟨RX1, "hasSpace", "(I)Z"⟩
abbrev cX1_areNear : ByteArray := prog_3_method_4_code
def yX1_areNear : MethodName := ⟨RX1, "areNear", "(II)Z"⟩
abbrev cX1_join : ByteArray := prog_3_method_5_code
def yX1_join : MethodName := ⟨RX1, "join", "(II)V"⟩
abbrev cX1_isBarred : ByteArray := prog_3_method_6_code
def yX1_isBarred : MethodName := ⟨RX1, "isBarred", "(III)Z"⟩
abbrev cX1_forbid : ByteArray := prog_3_method_7_code
def yX1_forbid : MethodName := ⟨RX1, "forbid", "(III)V"⟩
abbrev cX1_keepsApart : ByteArray := prog_3_method_8_code
def yX1_keepsApart : MethodName := ⟨RX1, "keepsApart", "(LRefitYard$Work;LRefitYard$Work;)Z"⟩
def RX2 : String := "RefitYard$Net"
def TX2 : u_T := fun k => match k with
  | 0 => ("RefitYard$Net", "works", "[LRefitYard$Work;", true)
  | 1 => ("RefitYard$Net", "ranked", "[I", true)
  | 2 => ("RefitYard$Net", "takers", "[J", true)
  | 3 => ("RefitYard$Net", "dwellers", "[J", true)
  | 4 => ("RefitYard$Net", "size", "I", false)
  | _ => ("RefitYard$Net", "way", "I", false)
def tyX2 : Nat → FieldType := fun k => match k with
  | 0 => .array (.object "RefitYard$Work")
  | 1 => .array .int
  | 2 => .array .long
  | 3 => .array .long
  | 4 => .int
  | _ => .int
abbrev wsX20 : List Cond := u_ws RX2 TX2 6
theorem nmX2 : ∀ a, a < 6 → ∀ b, b < 6 → a ≠ b → (TX2 a).2.1 ≠ (TX2 b).2.1 := by decide +kernel
theorem tyX2_ok : ∀ k, k < 6 → parseFieldDescriptor (TX2 k).2.2.1 = some (tyX2 k) := by decide +kernel
abbrev cX2_init : ByteArray := prog_4_method_1_code
def yX2_init : MethodName := ⟨RX2, "<init>", "()V"⟩
abbrev cX2_find : ByteArray := prog_4_method_2_code
def yX2_find : MethodName := ⟨RX2, "find", "(I)LRefitYard$Work;"⟩
abbrev cX2_addWork : ByteArray := prog_4_method_3_code
def yX2_addWork : MethodName := ⟨RX2, "addWork", "(LRefitYard$Work;)V"⟩
abbrev cX2_link : ByteArray := prog_4_method_4_code
def yX2_link : MethodName := ⟨RX2, "link", "(LRefitYard$Work;LRefitYard$Work;)V"⟩
abbrev cX2_weigh : ByteArray := prog_4_method_5_code
def yX2_weigh : MethodName := ⟨RX2, "weigh", "()V"⟩
abbrev cX2_rank : ByteArray := prog_4_method_6_code
def yX2_rank : MethodName := ⟨RX2, "rank", "()V"⟩
abbrev cX2_pushEarly : ByteArray := prog_4_method_7_code
def yX2_pushEarly : MethodName := ⟨RX2, "pushEarly", "(LRefitYard$Work;)V"⟩
abbrev cX2_pushTail : ByteArray := prog_4_method_8_code
def yX2_pushTail : MethodName := ⟨RX2, "pushTail", "(LRefitYard$Work;)V"⟩
abbrev cX2_slackOf : ByteArray := prog_4_method_9_code
def yX2_slackOf : MethodName := ⟨RX2, "slackOf", "(LRefitYard$Work;)I"⟩
abbrev cX2_allThatArePut : ByteArray := prog_4_method_10_code
def yX2_allThatArePut : MethodName := ⟨RX2, "allThatArePut", "()J"⟩
abbrev cX2_allDone : ByteArray := prog_4_method_11_code
def yX2_allDone : MethodName := ⟨RX2, "allDone", "(I)J"⟩
abbrev cX2_mostPressing : ByteArray := prog_4_method_12_code
def yX2_mostPressing : MethodName := ⟨RX2, "mostPressing", "(J)LRefitYard$Work;"⟩
abbrev cX2_readyFrom : ByteArray := prog_4_method_13_code
def yX2_readyFrom : MethodName := ⟨RX2, "readyFrom", "(LRefitYard$Work;)I"⟩
abbrev cX2_dueBy : ByteArray := prog_4_method_14_code
def yX2_dueBy : MethodName := ⟨RX2, "dueBy", "(LRefitYard$Work;)I"⟩
abbrev cX2_openedWith : ByteArray := prog_4_method_15_code
def yX2_openedWith : MethodName := ⟨RX2, "openedWith", "(LRefitYard$Work;I)J"⟩
abbrev cX2_needersOf : ByteArray := prog_4_method_16_code
def yX2_needersOf : MethodName := ⟨RX2, "needersOf", "(J)J"⟩
abbrev cX2_askedOfTrade : ByteArray := prog_4_method_17_code
def yX2_askedOfTrade : MethodName := ⟨RX2, "askedOfTrade", "(I)I"⟩
abbrev cX2_askedOfGood : ByteArray := prog_4_method_18_code
def yX2_askedOfGood : MethodName := ⟨RX2, "askedOfGood", "(I)I"⟩
abbrev cX2_askedOfSpace : ByteArray := prog_4_method_19_code
def yX2_askedOfSpace : MethodName := ⟨RX2, "askedOfSpace", "(I)I"⟩
abbrev cX2_lengthOf : ByteArray := prog_4_method_20_code
def yX2_lengthOf : MethodName := ⟨RX2, "lengthOf", "(J)I"⟩
def RX3 : String := "RefitYard$Orders"
def TX3 : u_T := fun k => match k with
  | 0 => ("RefitYard$Orders", "places", "[I", true)
  | 1 => ("RefitYard$Orders", "net", "LRefitYard$Net;", true)
  | 2 => ("RefitYard$Orders", "board", "LRefitYard$Board;", true)
  | 3 => ("RefitYard$Orders", "rules", "LRefitYard$Rules;", true)
  | _ => ("RefitYard$Orders", "soonest", "I", false)
def tyX3 : Nat → FieldType := fun k => match k with
  | 0 => .array .int
  | 1 => .object "RefitYard$Net"
  | 2 => .object "RefitYard$Board"
  | 3 => .object "RefitYard$Rules"
  | _ => .int
abbrev wsX30 : List Cond := u_ws RX3 TX3 5
theorem nmX3 : ∀ a, a < 5 → ∀ b, b < 5 → a ≠ b → (TX3 a).2.1 ≠ (TX3 b).2.1 := by decide +kernel
theorem tyX3_ok : ∀ k, k < 5 → parseFieldDescriptor (TX3 k).2.2.1 = some (tyX3 k) := by decide +kernel
abbrev cX3_init : ByteArray := prog_5_method_1_code
def yX3_init : MethodName := ⟨RX3, "<init>", "(LRefitYard$Net;LRefitYard$Board;LRefitYard$Rules;)V"⟩
abbrev cX3_layBest : ByteArray := prog_5_method_2_code
def yX3_layBest : MethodName := ⟨RX3, "layBest", "()I"⟩
abbrev cX3_layNext : ByteArray := prog_5_method_3_code
def yX3_layNext : MethodName := ⟨RX3, "layNext", "(II)V"⟩
abbrev cX3_layAndGoOn : ByteArray := prog_5_method_4_code
def yX3_layAndGoOn : MethodName := ⟨RX3, "layAndGoOn", "(LRefitYard$Work;II)V"⟩
abbrev cX3_keep : ByteArray := prog_5_method_5_code
def yX3_keep : MethodName := ⟨RX3, "keep", "(I)V"⟩
def RX4 : String := "RefitYard$Rules"
def TX4 : u_T := fun k => match k with
  | 0 => ("RefitYard$Rules", "gangs", "[I", true)
  | 1 => ("RefitYard$Rules", "goods", "[I", true)
  | 2 => ("RefitYard$Rules", "ground", "LRefitYard$Ground;", true)
  | 3 => ("RefitYard$Rules", "net", "LRefitYard$Net;", true)
  | _ => ("RefitYard$Rules", "board", "LRefitYard$Board;", true)
def tyX4 : Nat → FieldType := fun k => match k with
  | 0 => .array .int
  | 1 => .array .int
  | 2 => .object "RefitYard$Ground"
  | 3 => .object "RefitYard$Net"
  | _ => .object "RefitYard$Board"
abbrev wsX40 : List Cond := u_ws RX4 TX4 5
theorem nmX4 : ∀ a, a < 5 → ∀ b, b < 5 → a ≠ b → (TX4 a).2.1 ≠ (TX4 b).2.1 := by decide +kernel
theorem tyX4_ok : ∀ k, k < 5 → parseFieldDescriptor (TX4 k).2.2.1 = some (tyX4 k) := by decide +kernel
abbrev cX4_init : ByteArray := prog_6_method_1_code
def yX4_init : MethodName := ⟨RX4, "<init>", "(LRefitYard$Ground;LRefitYard$Net;LRefitYard$Board;)V"⟩
abbrev cX4_markFoes : ByteArray := prog_6_method_2_code
def yX4_markFoes : MethodName := ⟨RX4, "markFoes", "()V"⟩
abbrev cX4_foesOf : ByteArray := prog_6_method_3_code
def yX4_foesOf : MethodName := ⟨RX4, "foesOf", "(LRefitYard$Work;)J"⟩
abbrev cX4_isBroken : ByteArray := prog_6_method_4_code
def yX4_isBroken : MethodName := ⟨RX4, "isBroken", "(LRefitYard$Work;II)Z"⟩
abbrev cX4_lacksHands : ByteArray := prog_6_method_5_code
def yX4_lacksHands : MethodName := ⟨RX4, "lacksHands", "(LRefitYard$Work;I)Z"⟩
abbrev cX4_lacksGood : ByteArray := prog_6_method_6_code
def yX4_lacksGood : MethodName := ⟨RX4, "lacksGood", "(LRefitYard$Work;I)Z"⟩
abbrev cX4_lacksRoom : ByteArray := prog_6_method_7_code
def yX4_lacksRoom : MethodName := ⟨RX4, "lacksRoom", "(LRefitYard$Work;I)Z"⟩
abbrev cX4_meetsFoe : ByteArray := prog_6_method_8_code
def yX4_meetsFoe : MethodName := ⟨RX4, "meetsFoe", "(LRefitYard$Work;I)Z"⟩
abbrev cX4_isFree : ByteArray := prog_6_method_9_code
def yX4_isFree : MethodName := ⟨RX4, "isFree", "(LRefitYard$Work;I)Z"⟩
abbrev cX4_leastBroken : ByteArray := prog_6_method_10_code
def yX4_leastBroken : MethodName := ⟨RX4, "leastBroken", "(LRefitYard$Work;)I"⟩
abbrev cX4_leastShift : ByteArray := prog_6_method_11_code
def yX4_leastShift : MethodName := ⟨RX4, "leastShift", "(LRefitYard$Work;I)I"⟩
abbrev cX4_firstPlace : ByteArray := prog_6_method_12_code
def yX4_firstPlace : MethodName := ⟨RX4, "firstPlace", "(LRefitYard$Work;I)I"⟩
def RX5 : String := "RefitYard$Work"
def TX5 : u_T := fun k => match k with
  | 0 => ("RefitYard$Work", "number", "I", true)
  | 1 => ("RefitYard$Work", "bit", "J", true)
  | 2 => ("RefitYard$Work", "trade", "I", true)
  | 3 => ("RefitYard$Work", "hands", "I", true)
  | 4 => ("RefitYard$Work", "space", "I", true)
  | 5 => ("RefitYard$Work", "kind", "I", true)
  | 6 => ("RefitYard$Work", "good", "I", true)
  | 7 => ("RefitYard$Work", "length", "I", false)
  | 8 => ("RefitYard$Work", "shift", "I", false)
  | 9 => ("RefitYard$Work", "reopened", "I", false)
  | 10 => ("RefitYard$Work", "early", "I", false)
  | 11 => ("RefitYard$Work", "tail", "I", false)
  | 12 => ("RefitYard$Work", "needs", "J", false)
  | 13 => ("RefitYard$Work", "under", "J", false)
  | 14 => ("RefitYard$Work", "toldOf", "J", false)
  | _ => ("RefitYard$Work", "foes", "J", false)
def tyX5 : Nat → FieldType := fun k => match k with
  | 0 => .int
  | 1 => .long
  | 2 => .int
  | 3 => .int
  | 4 => .int
  | 5 => .int
  | 6 => .int
  | 7 => .int
  | 8 => .int
  | 9 => .int
  | 10 => .int
  | 11 => .int
  | 12 => .long
  | 13 => .long
  | 14 => .long
  | _ => .long
abbrev wsX50 : List Cond := u_ws RX5 TX5 16
theorem nmX5 : ∀ a, a < 16 → ∀ b, b < 16 → a ≠ b → (TX5 a).2.1 ≠ (TX5 b).2.1 := by decide +kernel
theorem tyX5_ok : ∀ k, k < 16 → parseFieldDescriptor (TX5 k).2.2.1 = some (tyX5 k) := by decide +kernel
abbrev cX5_init : ByteArray := prog_7_method_1_code
def yX5_init : MethodName := ⟨RX5, "<init>", "(III)V"⟩
abbrev cX5_isOpen : ByteArray := prog_7_method_2_code
def yX5_isOpen : MethodName := ⟨RX5, "isOpen", "()Z"⟩
abbrev cX5_behind : ByteArray := prog_7_method_3_code
def yX5_behind : MethodName := ⟨RX5, "behind", "()I"⟩
abbrev cX5_hasBegun : ByteArray := prog_7_method_4_code
def yX5_hasBegun : MethodName := ⟨RX5, "hasBegun", "(I)Z"⟩
abbrev cX5_isDone : ByteArray := prog_7_method_5_code
def yX5_isDone : MethodName := ⟨RX5, "isDone", "(I)Z"⟩
abbrev cX5_leansOn : ByteArray := prog_7_method_6_code
def yX5_leansOn : MethodName := ⟨RX5, "leansOn", "(LRefitYard$Work;)Z"⟩
abbrev cX5_hangsOn : ByteArray := prog_7_method_7_code
def yX5_hangsOn : MethodName := ⟨RX5, "hangsOn", "(LRefitYard$Work;)Z"⟩
abbrev cX5_isReady : ByteArray := prog_7_method_8_code
def yX5_isReady : MethodName := ⟨RX5, "isReady", "(J)Z"⟩
abbrev cX5_wholeWay : ByteArray := prog_7_method_9_code
def yX5_wholeWay : MethodName := ⟨RX5, "wholeWay", "()I"⟩
def RX6 : String := "RefitYard"
def TX6 : u_T := fun k => match k with
  | 0 => ("RefitYard", "ground", "LRefitYard$Ground;", true)
  | 1 => ("RefitYard", "net", "LRefitYard$Net;", true)
  | 2 => ("RefitYard", "board", "LRefitYard$Board;", true)
  | 3 => ("RefitYard", "rules", "LRefitYard$Rules;", true)
  | _ => ("RefitYard", "orders", "LRefitYard$Orders;", true)
def tyX6 : Nat → FieldType := fun k => match k with
  | 0 => .object "RefitYard$Ground"
  | 1 => .object "RefitYard$Net"
  | 2 => .object "RefitYard$Board"
  | 3 => .object "RefitYard$Rules"
  | _ => .object "RefitYard$Orders"
abbrev wsX60 : List Cond := u_ws RX6 TX6 5
theorem nmX6 : ∀ a, a < 5 → ∀ b, b < 5 → a ≠ b → (TX6 a).2.1 ≠ (TX6 b).2.1 := by decide +kernel
theorem tyX6_ok : ∀ k, k < 5 → parseFieldDescriptor (TX6 k).2.2.1 = some (tyX6 k) := by decide +kernel
abbrev cX6_init : ByteArray := prog_1_method_1_code
def yX6_init : MethodName := ⟨RX6, "<init>", "()V"⟩
abbrev cX6_space : ByteArray := prog_1_method_2_code
def yX6_space : MethodName := ⟨RX6, "space", "(I)I"⟩
abbrev cX6_near : ByteArray := prog_1_method_3_code
def yX6_near : MethodName := ⟨RX6, "near", "(II)Z"⟩
abbrev cX6_gang : ByteArray := prog_1_method_4_code
def yX6_gang : MethodName := ⟨RX6, "gang", "(II)Z"⟩
abbrev cX6_good : ByteArray := prog_1_method_5_code
def yX6_good : MethodName := ⟨RX6, "good", "(II)Z"⟩
abbrev cX6_bar : ByteArray := prog_1_method_6_code
def yX6_bar : MethodName := ⟨RX6, "bar", "(III)Z"⟩
abbrev cX6_work : ByteArray := prog_1_method_7_code
def yX6_work : MethodName := ⟨RX6, "work", "(II)I"⟩
abbrev cX6_need : ByteArray := prog_1_method_8_code
def yX6_need : MethodName := ⟨RX6, "need", "(II)Z"⟩
abbrev cX6_tells : ByteArray := prog_1_method_9_code
def yX6_tells : MethodName := ⟨RX6, "tells", "(II)Z"⟩
abbrev cX6_put : ByteArray := prog_1_method_10_code
def yX6_put : MethodName := ⟨RX6, "put", "(II)Z"⟩
abbrev cX6_take : ByteArray := prog_1_method_11_code
def yX6_take : MethodName := ⟨RX6, "take", "(I)Z"⟩
abbrev cX6_may : ByteArray := prog_1_method_12_code
def yX6_may : MethodName := ⟨RX6, "may", "(II)Z"⟩
abbrev cX6_first : ByteArray := prog_1_method_13_code
def yX6_first : MethodName := ⟨RX6, "first", "(II)I"⟩
abbrev cX6_why : ByteArray := prog_1_method_14_code
def yX6_why : MethodName := ⟨RX6, "why", "(I)I"⟩
abbrev cX6_told : ByteArray := prog_1_method_15_code
def yX6_told : MethodName := ⟨RX6, "told", "(II)I"⟩
abbrev cX6_load : ByteArray := prog_1_method_16_code
def yX6_load : MethodName := ⟨RX6, "load", "(II)I"⟩
abbrev cX6_plan : ByteArray := prog_1_method_17_code
def yX6_plan : MethodName := ⟨RX6, "plan", "()I"⟩
abbrev cX6_best : ByteArray := prog_1_method_18_code
def yX6_best : MethodName := ⟨RX6, "best", "()I"⟩
abbrev cX6_end : ByteArray := prog_1_method_19_code
def yX6_end : MethodName := ⟨RX6, "end", "()I"⟩
abbrev cX6_bound : ByteArray := prog_1_method_20_code
def yX6_bound : MethodName := ⟨RX6, "bound", "()I"⟩
abbrev cX6_go : ByteArray := prog_1_method_21_code
def yX6_go : MethodName := ⟨RX6, "go", "(I)I"⟩
abbrev cX6_fail : ByteArray := prog_1_method_22_code
def yX6_fail : MethodName := ⟨RX6, "fail", "(I)I"⟩
abbrev cX6_more : ByteArray := prog_1_method_23_code
def yX6_more : MethodName := ⟨RX6, "more", "(II)I"⟩
abbrev cX6_count : ByteArray := prog_1_method_24_code
def yX6_count : MethodName := ⟨RX6, "count", "(I)I"⟩
abbrev cX6_isTrade : ByteArray := prog_1_method_25_code
def yX6_isTrade : MethodName := ⟨RX6, "isTrade", "(I)Z"⟩
abbrev cX6_isGood : ByteArray := prog_1_method_26_code
def yX6_isGood : MethodName := ⟨RX6, "isGood", "(I)Z"⟩
abbrev cX6_isKind : ByteArray := prog_1_method_27_code
def yX6_isKind : MethodName := ⟨RX6, "isKind", "(I)Z"⟩
abbrev cX6_canBe : ByteArray := prog_1_method_28_code
def yX6_canBe : MethodName := ⟨RX6, "canBe", "(LRefitYard$Work;)Z"⟩
abbrev cX6_mayLean : ByteArray := prog_1_method_29_code
def yX6_mayLean : MethodName := ⟨RX6, "mayLean", "(LRefitYard$Work;LRefitYard$Work;)Z"⟩
abbrev cX6_partOfBreak : ByteArray := prog_1_method_30_code
def yX6_partOfBreak : MethodName := ⟨RX6, "partOfBreak", "(LRefitYard$Work;II)I"⟩
abbrev cX6_stateOf : ByteArray := prog_1_method_31_code
def yX6_stateOf : MethodName := ⟨RX6, "stateOf", "(LRefitYard$Work;)I"⟩
abbrev cX6_shiftsFor : ByteArray := prog_1_method_32_code
def yX6_shiftsFor : MethodName := ⟨RX6, "shiftsFor", "(II)I"⟩
abbrev cX6_greater : ByteArray := prog_1_method_33_code
def yX6_greater : MethodName := ⟨RX6, "greater", "(II)I"⟩
def RX7 : String := "RefitYardModel"
def TX7 : u_T := fun k => match k with
  | 0 => ("RefitYardModel", "now", "I", false)
  | 1 => ("RefitYardModel", "spaces", "I", false)
  | 2 => ("RefitYardModel", "bears", "[I", true)
  | 3 => ("RefitYardModel", "isNear", "[Z", true)
  | 4 => ("RefitYardModel", "hands", "[I", true)
  | 5 => ("RefitYardModel", "goods", "[I", true)
  | 6 => ("RefitYardModel", "bars", "I", false)
  | 7 => ("RefitYardModel", "barred", "[I", true)
  | 8 => ("RefitYardModel", "works", "I", false)
  | 9 => ("RefitYardModel", "length", "[I", true)
  | 10 => ("RefitYardModel", "trade", "[I", true)
  | 11 => ("RefitYardModel", "asks", "[I", true)
  | 12 => ("RefitYardModel", "space", "[I", true)
  | 13 => ("RefitYardModel", "kind", "[I", true)
  | 14 => ("RefitYardModel", "good", "[I", true)
  | 15 => ("RefitYardModel", "shift", "[I", true)
  | 16 => ("RefitYardModel", "again", "[I", true)
  | 17 => ("RefitYardModel", "needs", "[Z", true)
  | 18 => ("RefitYardModel", "tells", "[Z", true)
  | 19 => ("RefitYardModel", "isTried", "[Z", true)
  | 20 => ("RefitYardModel", "early", "[I", true)
  | 21 => ("RefitYardModel", "tail", "[I", true)
  | 22 => ("RefitYardModel", "order", "[I", true)
  | 23 => ("RefitYardModel", "choice", "[I", true)
  | _ => ("RefitYardModel", "bestShift", "[I", true)
def tyX7 : Nat → FieldType := fun k => match k with
  | 0 => .int
  | 1 => .int
  | 2 => .array .int
  | 3 => .array .boolean
  | 4 => .array .int
  | 5 => .array .int
  | 6 => .int
  | 7 => .array .int
  | 8 => .int
  | 9 => .array .int
  | 10 => .array .int
  | 11 => .array .int
  | 12 => .array .int
  | 13 => .array .int
  | 14 => .array .int
  | 15 => .array .int
  | 16 => .array .int
  | 17 => .array .boolean
  | 18 => .array .boolean
  | 19 => .array .boolean
  | 20 => .array .int
  | 21 => .array .int
  | 22 => .array .int
  | 23 => .array .int
  | _ => .array .int
abbrev wsX70 : List Cond := u_ws RX7 TX7 25
theorem nmX7 : ∀ a, a < 25 → ∀ b, b < 25 → a ≠ b → (TX7 a).2.1 ≠ (TX7 b).2.1 := by decide +kernel
theorem tyX7_ok : ∀ k, k < 25 → parseFieldDescriptor (TX7 k).2.2.1 = some (tyX7 k) := by decide +kernel
abbrev cX7_init : ByteArray := prog_9_method_1_code
def yX7_init : MethodName := ⟨RX7, "<init>", "()V"⟩
abbrev cX7_in : ByteArray := prog_9_method_2_code
def yX7_in : MethodName := ⟨RX7, "in", "(III)Z"⟩
abbrev cX7_isWork : ByteArray := prog_9_method_3_code
def yX7_isWork : MethodName := ⟨RX7, "isWork", "(I)Z"⟩
abbrev cX7_space : ByteArray := prog_9_method_4_code
def yX7_space : MethodName := ⟨RX7, "space", "(I)I"⟩
abbrev cX7_near : ByteArray := prog_9_method_5_code
def yX7_near : MethodName := ⟨RX7, "near", "(II)Z"⟩
abbrev cX7_gang : ByteArray := prog_9_method_6_code
def yX7_gang : MethodName := ⟨RX7, "gang", "(II)Z"⟩
abbrev cX7_good : ByteArray := prog_9_method_7_code
def yX7_good : MethodName := ⟨RX7, "good", "(II)Z"⟩
abbrev cX7_bar : ByteArray := prog_9_method_8_code
def yX7_bar : MethodName := ⟨RX7, "bar", "(III)Z"⟩
abbrev cX7_work : ByteArray := prog_9_method_9_code
def yX7_work : MethodName := ⟨RX7, "work", "(II)I"⟩
abbrev cX7_isPut : ByteArray := prog_9_method_10_code
def yX7_isPut : MethodName := ⟨RX7, "isPut", "(I)Z"⟩
abbrev cX7_isBegun : ByteArray := prog_9_method_11_code
def yX7_isBegun : MethodName := ⟨RX7, "isBegun", "(I)Z"⟩
abbrev cX7_endOf : ByteArray := prog_9_method_12_code
def yX7_endOf : MethodName := ⟨RX7, "endOf", "(I)I"⟩
abbrev cX7_isDone : ByteArray := prog_9_method_13_code
def yX7_isDone : MethodName := ⟨RX7, "isDone", "(I)Z"⟩
abbrev cX7_hangs : ByteArray := prog_9_method_14_code
def yX7_hangs : MethodName := ⟨RX7, "hangs", "(II)Z"⟩
abbrev cX7_canNeed : ByteArray := prog_9_method_15_code
def yX7_canNeed : MethodName := ⟨RX7, "canNeed", "(II)Z"⟩
abbrev cX7_need : ByteArray := prog_9_method_16_code
def yX7_need : MethodName := ⟨RX7, "need", "(II)Z"⟩
abbrev cX7_tells : ByteArray := prog_9_method_17_code
def yX7_tells : MethodName := ⟨RX7, "tells", "(II)Z"⟩
abbrev cX7_put : ByteArray := prog_9_method_18_code
def yX7_put : MethodName := ⟨RX7, "put", "(II)Z"⟩
abbrev cX7_take : ByteArray := prog_9_method_19_code
def yX7_take : MethodName := ⟨RX7, "take", "(I)Z"⟩
abbrev cX7_isIn : ByteArray := prog_9_method_20_code
def yX7_isIn : MethodName := ⟨RX7, "isIn", "(II)Z"⟩
abbrev cX7_isBarred : ByteArray := prog_9_method_21_code
def yX7_isBarred : MethodName := ⟨RX7, "isBarred", "(II)Z"⟩
abbrev cX7_breaks : ByteArray := prog_9_method_22_code
def yX7_breaks : MethodName := ⟨RX7, "breaks", "(II)I"⟩
abbrev cX7_isBroken : ByteArray := prog_9_method_23_code
def yX7_isBroken : MethodName := ⟨RX7, "isBroken", "(III)Z"⟩
abbrev cX7_isBad : ByteArray := prog_9_method_24_code
def yX7_isBad : MethodName := ⟨RX7, "isBad", "(I)Z"⟩
abbrev cX7_why : ByteArray := prog_9_method_25_code
def yX7_why : MethodName := ⟨RX7, "why", "(I)I"⟩
abbrev cX7_may : ByteArray := prog_9_method_26_code
def yX7_may : MethodName := ⟨RX7, "may", "(II)Z"⟩
abbrev cX7_first : ByteArray := prog_9_method_27_code
def yX7_first : MethodName := ⟨RX7, "first", "(II)I"⟩
abbrev cX7_way : ByteArray := prog_9_method_28_code
def yX7_way : MethodName := ⟨RX7, "way", "()I"⟩
abbrev cX7_slack : ByteArray := prog_9_method_29_code
def yX7_slack : MethodName := ⟨RX7, "slack", "(II)I"⟩
abbrev cX7_bound : ByteArray := prog_9_method_30_code
def yX7_bound : MethodName := ⟨RX7, "bound", "()I"⟩
abbrev cX7_isReady : ByteArray := prog_9_method_31_code
def yX7_isReady : MethodName := ⟨RX7, "isReady", "(I)Z"⟩
abbrev cX7_plan : ByteArray := prog_9_method_32_code
def yX7_plan : MethodName := ⟨RX7, "plan", "()I"⟩
abbrev cX7_end : ByteArray := prog_9_method_33_code
def yX7_end : MethodName := ⟨RX7, "end", "()I"⟩
abbrev cX7_best : ByteArray := prog_9_method_34_code
def yX7_best : MethodName := ⟨RX7, "best", "()I"⟩
abbrev cX7_go : ByteArray := prog_9_method_35_code
def yX7_go : MethodName := ⟨RX7, "go", "(I)I"⟩
abbrev cX7_fail : ByteArray := prog_9_method_36_code
def yX7_fail : MethodName := ⟨RX7, "fail", "(I)I"⟩
abbrev cX7_more : ByteArray := prog_9_method_37_code
def yX7_more : MethodName := ⟨RX7, "more", "(II)I"⟩
abbrev cX7_stateOf : ByteArray := prog_9_method_38_code
def yX7_stateOf : MethodName := ⟨RX7, "stateOf", "(I)I"⟩
abbrev cX7_told : ByteArray := prog_9_method_39_code
def yX7_told : MethodName := ⟨RX7, "told", "(II)I"⟩
abbrev cX7_load : ByteArray := prog_9_method_40_code
def yX7_load : MethodName := ⟨RX7, "load", "(II)I"⟩
abbrev cX7_count : ByteArray := prog_9_method_41_code
def yX7_count : MethodName := ⟨RX7, "count", "(I)I"⟩
def RJ13 : String := "java/lang/Long"
def TJ13 : u_T := fun k => match k with
  | _ => ("", "", "", false)
def tyJ13 : Nat → FieldType := fun k => match k with
  | _ => .int
abbrev wsJ130 : List Cond := u_ws RJ13 TJ13 0
theorem nmJ13 : ∀ a, a < 0 → ∀ b, b < 0 → a ≠ b → (TJ13 a).2.1 ≠ (TJ13 b).2.1 := by decide +kernel
theorem tyJ13_ok : ∀ k, k < 0 → parseFieldDescriptor (TJ13 k).2.2.1 = some (tyJ13 k) := by decide +kernel
abbrev cJ13_bitCount_95d88 : ByteArray := prog_10_method_50_code
def yJ13_bitCount_95d88 : MethodName := ⟨RJ13, "bitCount", "(J)I"⟩
def RJ9 : String := "java/lang/Math"
def TJ9 : u_T := fun k => match k with
  | _ => ("", "", "", false)
def tyJ9 : Nat → FieldType := fun k => match k with
  | _ => .int
abbrev wsJ90 : List Cond := u_ws RJ9 TJ9 0
theorem nmJ9 : ∀ a, a < 0 → ∀ b, b < 0 → a ≠ b → (TJ9 a).2.1 ≠ (TJ9 b).2.1 := by decide +kernel
theorem tyJ9_ok : ∀ k, k < 0 → parseFieldDescriptor (TJ9 k).2.2.1 = some (tyJ9 k) := by decide +kernel
abbrev cJ9_max_7cf53 : ByteArray := prog_11_method_65_code
def yJ9_max_7cf53 : MethodName := ⟨RJ9, "max", "(II)I"⟩
abbrev cJ9_min_7cf53 : ByteArray := prog_11_method_69_code
def yJ9_min_7cf53 : MethodName := ⟨RJ9, "min", "(II)I"⟩
def RL : String := "RefitYardLaw"
abbrev cL_law : ByteArray := code
def yL_law : MethodName := ⟨RL, "law", "([I)Z"⟩
abbrev vwCl : List vw_C := [(RX0, TX0, 3), (RX1, TX1, 5), (RX2, TX2, 6), (RX3, TX3, 5), (RX4, TX4, 5), (RX5, TX5, 16), (RX6, TX6, 5), (RX7, TX7, 25)]
end
section
/-! ===== an abstract memory: kinds and sizes of cells, ints as numbers, longs, references; the judgement zZ over it ===== -/
abbrev zV : Type := Int ⊕ (Int64 ⊕ Option Nat)
abbrev zM : Type := Nat × (Nat → Nat × Nat) × (Nat → Int → Int) × (Nat → Int → Int64) × (Nat → Int → Option Nat)
abbrev zE : Type := Launch × Nat × va_G × (Nat → ClassId)
abbrev zX : Type := Program × Env × State × MethodId × Array Value × List Frame × Method × Code
abbrev zF : Type := MethodName × ByteArray × Nat × Option FieldType
abbrev vI (x : Int) : zV := Sum.inl x
abbrev vL (x : Int64) : zV := Sum.inr (Sum.inl x)
abbrev vR (r : Option Nat) : zV := Sum.inr (Sum.inr r)
def zsz (M : zM) : Nat := M.1
def zK (M : zM) (a : Nat) : Nat × Nat := M.2.1 a
def zI (M : zM) (a : Nat) (j : Int) : Int := M.2.2.1 a j
def zL (M : zM) (a : Nat) (j : Int) : Int64 := M.2.2.2.1 a j
def zR (M : zM) (a : Nat) (j : Int) : Option Nat := M.2.2.2.2 a j
def zsI (M : zM) (a : Nat) (j x : Int) : zM := (M.1, M.2.1, fun b i => if b = a ∧ i = j then x else M.2.2.1 b i, M.2.2.2.1, M.2.2.2.2)
def zsL (M : zM) (a : Nat) (j : Int) (x : Int64) : zM := (M.1, M.2.1, M.2.2.1, fun b i => if b = a ∧ i = j then x else M.2.2.2.1 b i, M.2.2.2.2)
def zsR (M : zM) (a : Nat) (j : Int) (x : Option Nat) : zM := (M.1, M.2.1, M.2.2.1, M.2.2.2.1, fun b i => if b = a ∧ i = j then x else M.2.2.2.2 b i)
def znew (M : zM) (t n : Nat) : zM := (M.1 + 1, fun b => if b = M.1 then (t, n) else M.2.1 b, fun b i => if b = M.1 then 0 else M.2.2.1 b i, fun b i => if b = M.1 then 0 else M.2.2.2.1 b i, fun b i => if b = M.1 then none else M.2.2.2.2 b i)
theorem zI_sI (M : zM) (a : Nat) (j x : Int) (b : Nat) (i : Int) : zI (zsI M a j x) b i = if b = a ∧ i = j then x else zI M b i := rfl
theorem zI_sL (M : zM) (a : Nat) (j : Int) (x : Int64) (b : Nat) (i : Int) : zI (zsL M a j x) b i = zI M b i := rfl
theorem zI_sR (M : zM) (a : Nat) (j : Int) (x : Option Nat) (b : Nat) (i : Int) : zI (zsR M a j x) b i = zI M b i := rfl
theorem zI_new (M : zM) (t n b : Nat) (i : Int) : zI (znew M t n) b i = if b = zsz M then 0 else zI M b i := rfl
theorem zL_sI (M : zM) (a : Nat) (j x : Int) (b : Nat) (i : Int) : zL (zsI M a j x) b i = zL M b i := rfl
theorem zL_sL (M : zM) (a : Nat) (j : Int) (x : Int64) (b : Nat) (i : Int) : zL (zsL M a j x) b i = if b = a ∧ i = j then x else zL M b i := rfl
theorem zL_sR (M : zM) (a : Nat) (j : Int) (x : Option Nat) (b : Nat) (i : Int) : zL (zsR M a j x) b i = zL M b i := rfl
theorem zL_new (M : zM) (t n b : Nat) (i : Int) : zL (znew M t n) b i = if b = zsz M then 0 else zL M b i := rfl
theorem zR_sI (M : zM) (a : Nat) (j x : Int) (b : Nat) (i : Int) : zR (zsI M a j x) b i = zR M b i := rfl
theorem zR_sL (M : zM) (a : Nat) (j : Int) (x : Int64) (b : Nat) (i : Int) : zR (zsL M a j x) b i = zR M b i := rfl
theorem zR_sR (M : zM) (a : Nat) (j : Int) (x : Option Nat) (b : Nat) (i : Int) : zR (zsR M a j x) b i = if b = a ∧ i = j then x else zR M b i := rfl
theorem zR_new (M : zM) (t n b : Nat) (i : Int) : zR (znew M t n) b i = if b = zsz M then none else zR M b i := rfl
theorem zK_sI (M : zM) (a : Nat) (j x : Int) (b : Nat) : zK (zsI M a j x) b = zK M b := rfl
theorem zK_sL (M : zM) (a : Nat) (j : Int) (x : Int64) (b : Nat) : zK (zsL M a j x) b = zK M b := rfl
theorem zK_sR (M : zM) (a : Nat) (j : Int) (x : Option Nat) (b : Nat) : zK (zsR M a j x) b = zK M b := rfl
theorem zK_new (M : zM) (t n b : Nat) : zK (znew M t n) b = if b = zsz M then (t, n) else zK M b := rfl
theorem zsz_sI (M : zM) (a : Nat) (j x : Int) : zsz (zsI M a j x) = zsz M := rfl
theorem zsz_sL (M : zM) (a : Nat) (j : Int) (x : Int64) : zsz (zsL M a j x) = zsz M := rfl
theorem zsz_sR (M : zM) (a : Nat) (j : Int) (x : Option Nat) : zsz (zsR M a j x) = zsz M := rfl
theorem zsz_new (M : zM) (t n : Nat) : zsz (znew M t n) = zsz M + 1 := rfl
def zin (x : Int) : Prop := -2147483648 ≤ x ∧ x ≤ 2147483647
def zv (v : zV) : Value := match v with
  | .inl x => .int (Int32.ofInt x)
  | .inr (.inl y) => .long y
  | .inr (.inr r) => va_rf r
def zok (v : zV) : Prop := match v with
  | .inl x => zin x
  | .inr _ => True
def zokS (S : List zV) : Prop := ∀ v ∈ S, zok v
def zokL (Lc : List (Nat × zV)) : Prop := ∀ q ∈ Lc, zok q.2
def zokM (E : zE) (M : zM) : Prop := (∀ a j, zin (zI M a j)) ∧ (∀ a, (zK M a).2 < 2147483648) ∧ (∀ a, (zK M a).1 ≠ 0 → E.2.1 ≤ a ∧ a < zsz M)
def zlv (Lc : List (Nat × zV)) : List (Nat × Value) := Lc.map (fun q => (q.1, zv q.2))
def zc2 (v : zV) : Bool := match v with
  | .inr (.inl _) => true
  | _ => false
def zput (i : Nat) (v : zV) (Lc : List (Nat × zV)) : List (Nat × zV) := (i, v) :: Lc.filter (fun q => !(q.1 == i) && !(q.1 + 1 == i && zc2 q.2))
def zputL (i : Nat) (v : zV) (Lc : List (Nat × zV)) : List (Nat × zV) := (i, v) :: Lc.filter (fun q => !(q.1 == i) && (!(q.1 == i + 1) && !(q.1 + 1 == i && zc2 q.2)))
theorem zv_cat (v : zV) : ((zv v).category == 2) = zc2 v := by
  rcases v with x | y | r
  · rfl
  · rfl
  · cases r <;> rfl
theorem zlv_put (i : Nat) (v : zV) (Lc : List (Nat × zV)) : (i, zv v) :: (zlv Lc).filter (fun q => !(q.1 == i) && !(q.1 + 1 == i && q.2.category == 2)) = zlv (zput i v Lc) := by
  unfold zput zlv
  rw [List.map_cons, List.filter_map]
  congr 2
  apply List.filter_congr
  intro q _
  simp only [Function.comp, zv_cat]
theorem zlv_putL (i : Nat) (v : zV) (Lc : List (Nat × zV)) : (i, zv v) :: (zlv Lc).filter (fun q => !(q.1 == i) && (!(q.1 == i + 1) && !(q.1 + 1 == i && q.2.category == 2))) = zlv (zputL i v Lc) := by
  unfold zputL zlv
  rw [List.map_cons, List.filter_map]
  congr 2
  apply List.filter_congr
  intro q _
  simp only [Function.comp, zv_cat]
theorem zlv_get {Lc : List (Nat × zV)} {k i : Nat} {v : zV} (h : Lc[k]? = some (i, v)) : (zlv Lc)[k]? = some (i, zv v) := by
  unfold zlv
  rw [List.getElem?_map, h]
  rfl
theorem zokL_put {i : Nat} {v : zV} {Lc : List (Nat × zV)} (h : zokL Lc) (hv : zok v) : zokL (zput i v Lc) := by
  intro q hq
  rcases List.mem_cons.mp hq with e | e
  · rw [e]; exact hv
  · exact h q (List.mem_filter.mp e).1
theorem zokL_putL {i : Nat} {v : zV} {Lc : List (Nat × zV)} (h : zokL Lc) (hv : zok v) : zokL (zputL i v Lc) := by
  intro q hq
  rcases List.mem_cons.mp hq with e | e
  · rw [e]; exact hv
  · exact h q (List.mem_filter.mp e).1
theorem zokL_get {Lc : List (Nat × zV)} {k i : Nat} {v : zV} (h : zokL Lc) (hk : Lc[k]? = some (i, v)) : zok v := h (i, v) (List.mem_of_getElem? hk)
theorem zokS_cons {v : zV} {S : List zV} (hv : zok v) (h : zokS S) : zokS (v :: S) := fun q hq => (List.mem_cons.mp hq).elim (fun e => e ▸ hv) (h q)
theorem zokS_hd {v : zV} {S : List zV} (h : zokS (v :: S)) : zok v := h v List.mem_cons_self
theorem zokS_tl {v : zV} {S : List zV} (h : zokS (v :: S)) : zokS S := fun q hq => h q (List.mem_cons_of_mem _ hq)
theorem zokS_nil : zokS [] := fun _ h => absurd h List.not_mem_nil
/-! numbers -/
theorem zi_toInt {x : Int} (h : zin x) : (Int32.ofInt x).toInt = x := Int32.toInt_ofInt_of_le (by have := h.1; omega) (by have := h.2; omega)
theorem zi_inj {x y : Int} (hx : zin x) (hy : zin y) : Int32.ofInt x = Int32.ofInt y ↔ x = y := by
  rw [← Int32.toInt_inj, zi_toInt hx, zi_toInt hy]
theorem zi_lt {x y : Int} (hx : zin x) (hy : zin y) : Int32.ofInt x < Int32.ofInt y ↔ x < y := by
  rw [Int32.lt_iff_toInt_lt, zi_toInt hx, zi_toInt hy]
theorem zi_le {x y : Int} (hx : zin x) (hy : zin y) : Int32.ofInt x ≤ Int32.ofInt y ↔ x ≤ y := by
  rw [Int32.le_iff_toInt_le, zi_toInt hx, zi_toInt hy]
theorem zi_0 : Int32.ofInt 0 = 0 := by decide
theorem zin_0 : zin 0 := by unfold zin; omega
theorem zi_nat {x : Int} (h0 : 0 ≤ x) (h : zin x) : (Int32.ofInt x).toNatClampNeg = x.toNat := Int32.toNatClampNeg_ofInt_of_le (by have := h.1; omega) (by have := h.2; omega)
theorem zi_in {x : Int} {n : Nat} (hx : zin x) (h0 : 0 ≤ x) (h1 : x < n) : vp_in (Int32.ofInt x) n := by
  rw [vp_in_iff, zi_toInt hx]
  exact ⟨h0, h1⟩
/-! cells -/
def zfty (t j : Nat) : FieldType := match t with
  | 0 => tyX0 j
  | 1 => tyX1 j
  | 2 => tyX2 j
  | 3 => tyX3 j
  | 4 => tyX4 j
  | 5 => tyX5 j
  | 6 => tyX6 j
  | _ => tyX7 j
def zfv (M : zM) (a : Nat) (ty : FieldType) (j : Int) : Value := match ty with
  | .int => .int (Int32.ofInt (zI M a j))
  | .long => .long (zL M a j)
  | _ => va_rf (zR M a j)
def zarr (M : zM) (a t : Nat) : (Nat → Int32) ⊕ (Nat → Int64) ⊕ (Nat → UInt32) ⊕ (Nat → UInt64) ⊕ (Nat → Option Nat) := match t with
  | 9 => .inl (fun i => Int32.ofInt (zI M a i))
  | 10 => .inl (fun i => Int32.ofInt (zI M a i))
  | 11 => .inr (.inl (fun i => zL M a i))
  | _ => .inr (.inr (.inr (.inr (fun i => zR M a i))))
def zobj (M : zM) (a t n : Nat) : List Value := (List.range n).map (fun j => zfv M a (zfty t j) j)
def zcell (cA : Nat → ClassId) (M : zM) (a : Nat) : va_E :=
  if (zK M a).1 < 9 then .inr ((zK M a).1 - 1, zobj M a ((zK M a).1 - 1) (zK M a).2) else .inl (cA (zK M a).1, (zK M a).2, zarr M a (zK M a).1)
def zws (N : Nat) (cA : Nat → ClassId) (M : zM) : va_W := (List.range (zsz M - N)).map (fun k => (N + k, zcell cA M (N + k)))
def ztys (cA : Nat → ClassId) : List (ClassId × FieldType) := [(cA 9, .int), (cA 10, .boolean), (cA 11, .long), (cA 12, .object RX5), (cA 13, .array .int)]
def zRel (E : zE) (M : zM) (H : Heap) : Prop := H.size = zsz M ∧ E.2.1 ≤ zsz M ∧ va_P E.2.2.1 vwCl (zws E.2.1 E.2.2.2 M) H
theorem zws_get {N : Nat} {cA : Nat → ClassId} {M : zM} {a : Nat} (h1 : N ≤ a) (h2 : a < zsz M) : (zws N cA M)[a - N]? = some (a, zcell cA M a) := by
  unfold zws
  rw [List.getElem?_map, List.getElem?_range (by omega)]
  simp only [Option.map_some, Option.some.injEq, Prod.mk.injEq]
  rw [show N + (a - N) = a by omega]
  exact ⟨rfl, rfl⟩
theorem zws_at {N : Nat} {cA : Nat → ClassId} {M : zM} {k : Nat} {q : Nat × va_E} (h : (zws N cA M)[k]? = some q) : k < zsz M - N ∧ q = (N + k, zcell cA M (N + k)) := by
  unfold zws at h
  rw [List.getElem?_map] at h
  by_cases hk : k < zsz M - N
  · rw [List.getElem?_range hk] at h
    exact ⟨hk, (Option.some.inj h).symm⟩
  · rw [List.getElem?_eq_none (by rw [List.length_range]; omega)] at h
    cases h
theorem zws_D {N : Nat} {cA : Nat → ClassId} {M : zM} : va_D (fun q => N ≤ q) (zws N cA M) := by
  refine ⟨fun i j p q hi hj hpq => ?_, fun k q hk => ?_⟩
  · obtain ⟨h1, e1⟩ := zws_at hi
    obtain ⟨h2, e2⟩ := zws_at hj
    rw [e1, e2] at hpq
    have hpq : N + i = N + j := hpq
    omega
  · obtain ⟨h1, e1⟩ := zws_at hk
    rw [e1]
    exact Nat.le_add_right _ _
theorem zws_set {N : Nat} {cA : Nat → ClassId} {M M' : zM} {a : Nat} (h1 : N ≤ a) (h2 : a < zsz M) (hs : zsz M' = zsz M) (ho : ∀ b, b ≠ a → zcell cA M' b = zcell cA M b) : (zws N cA M).set (a - N) (a, zcell cA M' a) = zws N cA M' := by
  apply List.ext_getElem?
  intro k
  by_cases hk : k = a - N
  · subst hk
    rw [List.getElem?_set_self (by unfold zws; rw [List.length_map, List.length_range]; omega), zws_get h1 (by rw [hs]; exact h2)]
  · rw [List.getElem?_set_ne (fun e => hk e.symm)]
    unfold zws
    rw [hs, List.getElem?_map, List.getElem?_map]
    by_cases hl : k < zsz M - N
    · rw [List.getElem?_range hl]
      simp only [Option.map_some]
      rw [ho (N + k) (by omega)]
    · rw [List.getElem?_eq_none (by rw [List.length_range]; omega)]
      rfl
theorem zws_push {N : Nat} {cA : Nat → ClassId} {M M' : zM} (h1 : N ≤ zsz M) (hs : zsz M' = zsz M + 1) (ho : ∀ b, b < zsz M → zcell cA M' b = zcell cA M b) : zws N cA M ++ [(zsz M, zcell cA M' (zsz M))] = zws N cA M' := by
  unfold zws
  rw [hs, show zsz M + 1 - N = (zsz M - N) + 1 by omega, List.range_succ, List.map_append]
  congr 1
  · apply List.map_congr_left
    intro k hk
    have hk := List.mem_range.mp hk
    rw [ho (N + k) (by omega)]
  · simp only [List.map_cons, List.map_nil]
    rw [show N + (zsz M - N) = zsz M by omega]
end
section
/-! ===== the judgement and its rows ===== -/
def zT : List Cond := lw_tbl.filter goodWord
theorem zT_good {c : Cond} (h : c ∈ zT) : GoodIn zT (c :: zT) := by
  have key : ∀ w ∈ zT, w ∈ zT ∧ ((w.onTables && w.keeps) = true ∨ ∃ ty, w = .arrayClass ty) := fun w hw => ⟨hw, good_of_word (List.mem_filter.mp hw).2⟩
  intro w hw
  rcases List.mem_cons.mp hw with e | e
  · rw [e]; exact key c h
  · exact key w e
theorem zT_of {c : Cond} (i : Nat) (h : lw_tbl[i]? = some c) (g : goodWord c = true) : c ∈ zT := List.mem_filter.mpr ⟨List.mem_of_getElem? h, g⟩
def zAOA (U : State) : Prop := ∃ (comp c : ClassId) (k : Class), U.vm.findClass "[I" = some comp ∧ (U.vm.classes.findIdx? fun (x : Class) => match x.kind with | .array component _ => component == comp | _ => false) = some c ∧ U.vm.classes[c]? = some k ∧ k.kind = .array comp (.array .int) ∧ U.vm.findClass "[[I" = some c
def zKn (E : zE) (U : State) : Prop := va_K E.2.2.1 vwCl (ztys E.2.2.2) U ∧ va_AO RX5 U ∧ zAOA U
abbrev xp (X : zX) : Program := X.1
abbrev xe (X : zX) : Env := X.2.1
abbrev xs (X : zX) : State := X.2.2.1
abbrev xm (X : zX) : MethodId := X.2.2.2.1
abbrev xa (X : zX) : Array Value := X.2.2.2.2.1
abbrev xb (X : zX) : List Frame := X.2.2.2.2.2.1
abbrev xh (X : zX) : Method := X.2.2.2.2.2.2.1
abbrev xc (X : zX) : Code := X.2.2.2.2.2.2.2
def zSt (cc : ByteArray) (own nm : String) (nL : Nat) (E : zE) (X : zX) : Prop :=
  (xp X).tables.exec = Jvm.exec ∧ (xc X).code = cc ∧ (xc X).maxLocals = nL ∧ (xs X).vm.findClass own = some (xm X).cls ∧ (∀ w ∈ zT, w.before (xa X) (xs X) = true) ∧ zKn E (xs X) ∧ (xh X).locks = false ∧ E.2.1 ≤ (xs X).heap.size ∧ (xh X).name = nm
def zZ (cc : ByteArray) (own nm : String) (nL : Nat) (E : zE) (R : Room) (X : zX) (Q : State → Prop) (pc : Nat) (Lc : List (Nat × zV)) (S : List zV) (M : zM) (ce sl : Nat) : Prop :=
  zSt cc own nm nL E X → zokM E M → zokS S → zokL Lc → ∀ (H : Heap) (locs : List Loc) (ls : Array Slot), zRel E M H → va_S (fun q => E.2.1 ≤ q) (xs X).heap H locs → lv_has ls nL (zlv Lc) →
    W (xp X) E.1 (xe X) R (xs X) (xm X) (xa X) (xb X) (xh X) (xc X) H locs ce sl Q (F0 (xm X) pc ls (S.map zv))
section ZR
variable {cc : ByteArray} {own nm : String} {nL : Nat} {E : zE} {R : Room} {X : zX} {Q : State → Prop} {pc : Nat} {Lc : List (Nat × zV)} {S : List zV} {M : zM} {ce sl : Nat}
/-! locals and constants -/
theorem z_iload_n {k : Fin 4} (pl : Nat) {x : Int} (hd : decode cc pc = .ok (.iload_n k, 1)) (hl : Lc[pl]? = some ((k : Nat), vI x)) (h : zZ cc own nm nL E R X Q (pc + 1) Lc (vI x :: S) M ce sl) : zZ cc own nm nL E R X Q pc Lc S M ce sl := by
  intro hSt hM hS hL H locs ls hR hV hls
  refine lv_iload_n hSt.1 hSt.2.1 hd rfl (lv_at hls pl (zlv_get hl)) ?_
  exact h hSt hM (zokS_cons (zokL_get hL hl) hS) hL H locs ls hR hV hls
theorem z_iload {i : Nat} (pl : Nat) {x : Int} (hd : decode cc pc = .ok (.iload i, 2)) (hl : Lc[pl]? = some (i, vI x)) (h : zZ cc own nm nL E R X Q (pc + 2) Lc (vI x :: S) M ce sl) : zZ cc own nm nL E R X Q pc Lc S M ce sl := by
  intro hSt hM hS hL H locs ls hR hV hls
  refine lv_iload hSt.1 hSt.2.1 hd (lv_at hls pl (zlv_get hl)) ?_
  exact h hSt hM (zokS_cons (zokL_get hL hl) hS) hL H locs ls hR hV hls
theorem z_lload_n {k : Fin 4} (pl : Nat) {x : Int64} (hd : decode cc pc = .ok (.lload_n k, 1)) (hl : Lc[pl]? = some ((k : Nat), vL x)) (h : zZ cc own nm nL E R X Q (pc + 1) Lc (vL x :: S) M ce sl) : zZ cc own nm nL E R X Q pc Lc S M ce sl := by
  intro hSt hM hS hL H locs ls hR hV hls
  refine lv_lload_n hSt.1 hSt.2.1 hd rfl (lv_at hls pl (zlv_get hl)) ?_
  exact h hSt hM (zokS_cons trivial hS) hL H locs ls hR hV hls
theorem z_lload {i : Nat} (pl : Nat) {x : Int64} (hd : decode cc pc = .ok (.lload i, 2)) (hl : Lc[pl]? = some (i, vL x)) (h : zZ cc own nm nL E R X Q (pc + 2) Lc (vL x :: S) M ce sl) : zZ cc own nm nL E R X Q pc Lc S M ce sl := by
  intro hSt hM hS hL H locs ls hR hV hls
  refine lv_lload hSt.1 hSt.2.1 hd (lv_at hls pl (zlv_get hl)) ?_
  exact h hSt hM (zokS_cons trivial hS) hL H locs ls hR hV hls
theorem z_aload_n {k : Fin 4} (pl : Nat) {x : Option Nat} (hd : decode cc pc = .ok (.aload_n k, 1)) (hl : Lc[pl]? = some ((k : Nat), vR x)) (h : zZ cc own nm nL E R X Q (pc + 1) Lc (vR x :: S) M ce sl) : zZ cc own nm nL E R X Q pc Lc S M ce sl := by
  intro hSt hM hS hL H locs ls hR hV hls
  have hk := h hSt hM (zokS_cons trivial hS) hL H locs ls hR hV hls
  have hg : ls[(k : Nat)]? = some (.val (va_rf x)) := lv_at hls pl (zlv_get hl)
  have hx := hSt.1
  have hb := hSt.2.1
  cases x with
  | some a => exact lv_aload_n hx hb hd rfl hg hk
  | none =>
    intro T hT Y
    obtain ⟨t, a, b⟩ := hk T hT Y
    refine ⟨t, ?_, b⟩
    jvm_step Y.here [Y.here.top, hx, hb, hd, hg, va_rf]
    exact ⟨rfl, a⟩
theorem z_aload {i : Nat} (pl : Nat) {x : Option Nat} (hd : decode cc pc = .ok (.aload i, 2)) (hl : Lc[pl]? = some (i, vR x)) (h : zZ cc own nm nL E R X Q (pc + 2) Lc (vR x :: S) M ce sl) : zZ cc own nm nL E R X Q pc Lc S M ce sl := by
  intro hSt hM hS hL H locs ls hR hV hls
  have hk := h hSt hM (zokS_cons trivial hS) hL H locs ls hR hV hls
  have hg : ls[i]? = some (.val (va_rf x)) := lv_at hls pl (zlv_get hl)
  have hx := hSt.1
  have hb := hSt.2.1
  cases x with
  | some a => exact lv_aload hx hb hd hg hk
  | none =>
    intro T hT Y
    obtain ⟨t, a, b⟩ := hk T hT Y
    refine ⟨t, ?_, b⟩
    jvm_step Y.here [Y.here.top, hx, hb, hd, hg, va_rf]
    exact ⟨rfl, a⟩
theorem z_istore_n {k : Fin 4} {x : Int} {Lc' : List (Nat × zV)} (hd : decode cc pc = .ok (.istore_n k, 1)) (hn : (k : Nat) < nL) (hl : zput (k : Nat) (vI x) Lc = Lc') (h : zZ cc own nm nL E R X Q (pc + 1) Lc' S M ce sl) : zZ cc own nm nL E R X Q pc Lc (vI x :: S) M ce sl := by
  subst hl
  intro hSt hM hS hL H locs ls hR hV hls
  refine lv_istore_n hSt.1 hSt.2.1 hd rfl hls hn (zlv_put _ (vI x) Lc) (fun ls' hls' => ?_)
  exact h hSt hM (zokS_tl hS) (zokL_put hL (zokS_hd hS)) H locs ls' hR hV hls'
theorem z_istore {i : Nat} {x : Int} {Lc' : List (Nat × zV)} (hd : decode cc pc = .ok (.istore i, 2)) (hn : i < nL) (hl : zput i (vI x) Lc = Lc') (h : zZ cc own nm nL E R X Q (pc + 2) Lc' S M ce sl) : zZ cc own nm nL E R X Q pc Lc (vI x :: S) M ce sl := by
  subst hl
  intro hSt hM hS hL H locs ls hR hV hls
  refine lv_istore hSt.1 hSt.2.1 hd hls hn (zlv_put _ (vI x) Lc) (fun ls' hls' => ?_)
  exact h hSt hM (zokS_tl hS) (zokL_put hL (zokS_hd hS)) H locs ls' hR hV hls'
theorem z_lstore_n {k : Fin 4} {x : Int64} {Lc' : List (Nat × zV)} (hd : decode cc pc = .ok (.lstore_n k, 1)) (hn : (k : Nat) + 1 < nL) (hl : zputL (k : Nat) (vL x) Lc = Lc') (h : zZ cc own nm nL E R X Q (pc + 1) Lc' S M ce sl) : zZ cc own nm nL E R X Q pc Lc (vL x :: S) M ce sl := by
  subst hl
  intro hSt hM hS hL H locs ls hR hV hls
  refine lv_lstore_n hSt.1 hSt.2.1 hd rfl hls hn (zlv_putL _ (vL x) Lc) (fun ls' hls' => ?_)
  exact h hSt hM (zokS_tl hS) (zokL_putL hL trivial) H locs ls' hR hV hls'
theorem z_lstore {i : Nat} {x : Int64} {Lc' : List (Nat × zV)} (hd : decode cc pc = .ok (.lstore i, 2)) (hn : i + 1 < nL) (hl : zputL i (vL x) Lc = Lc') (h : zZ cc own nm nL E R X Q (pc + 2) Lc' S M ce sl) : zZ cc own nm nL E R X Q pc Lc (vL x :: S) M ce sl := by
  subst hl
  intro hSt hM hS hL H locs ls hR hV hls
  refine lv_lstore hSt.1 hSt.2.1 hd hls hn (zlv_putL _ (vL x) Lc) (fun ls' hls' => ?_)
  exact h hSt hM (zokS_tl hS) (zokL_putL hL trivial) H locs ls' hR hV hls'
theorem z_astore_n {k : Fin 4} {x : Option Nat} {Lc' : List (Nat × zV)} (hd : decode cc pc = .ok (.astore_n k, 1)) (hn : (k : Nat) < nL) (hl : zput (k : Nat) (vR x) Lc = Lc') (h : zZ cc own nm nL E R X Q (pc + 1) Lc' S M ce sl) : zZ cc own nm nL E R X Q pc Lc (vR x :: S) M ce sl := by
  subst hl
  intro hSt hM hS hL H locs ls hR hV hls
  have hx := hSt.1
  have hb := hSt.2.1
  cases x with
  | some a =>
    refine lv_astore_n hx hb hd rfl hls hn (zlv_put _ (vR (some a)) Lc) (fun ls' hls' => ?_)
    exact h hSt hM (zokS_tl hS) (zokL_put hL trivial) H locs ls' hR hV hls'
  | none =>
    obtain ⟨ls', e', h'⟩ := lv_store1 (v := .null) hls hn rfl
    have hk := h hSt hM (zokS_tl hS) (zokL_put hL trivial) H locs ls' hR hV (by rw [← zlv_put]; exact h')
    intro T hT Y
    obtain ⟨t, a, b⟩ := hk T hT Y
    refine ⟨t, ?_, b⟩
    jvm_step Y.here [Y.here.top, hx, hb, hd, e', zv, va_rf]
    exact ⟨rfl, a⟩
theorem z_astore {i : Nat} {x : Option Nat} {Lc' : List (Nat × zV)} (hd : decode cc pc = .ok (.astore i, 2)) (hn : i < nL) (hl : zput i (vR x) Lc = Lc') (h : zZ cc own nm nL E R X Q (pc + 2) Lc' S M ce sl) : zZ cc own nm nL E R X Q pc Lc (vR x :: S) M ce sl := by
  subst hl
  intro hSt hM hS hL H locs ls hR hV hls
  have hx := hSt.1
  have hb := hSt.2.1
  cases x with
  | some a =>
    refine lv_astore hx hb hd hls hn (zlv_put _ (vR (some a)) Lc) (fun ls' hls' => ?_)
    exact h hSt hM (zokS_tl hS) (zokL_put hL trivial) H locs ls' hR hV hls'
  | none =>
    obtain ⟨ls', e', h'⟩ := lv_store1 (v := .null) hls hn rfl
    have hk := h hSt hM (zokS_tl hS) (zokL_put hL trivial) H locs ls' hR hV (by rw [← zlv_put]; exact h')
    intro T hT Y
    obtain ⟨t, a, b⟩ := hk T hT Y
    refine ⟨t, ?_, b⟩
    jvm_step Y.here [Y.here.top, hx, hb, hd, e', zv, va_rf]
    exact ⟨rfl, a⟩
theorem z_iconst {n : Int} (hd : decode cc pc = .ok (.iconst n, 1)) (hn : -2147483648 ≤ n ∧ n ≤ 2147483647) (h : zZ cc own nm nL E R X Q (pc + 1) Lc (vI n :: S) M ce sl) : zZ cc own nm nL E R X Q pc Lc S M ce sl := by
  intro hSt hM hS hL H locs ls hR hV hls
  refine lv_iconst hSt.1 hSt.2.1 hd rfl ?_
  exact h hSt hM (zokS_cons hn hS) hL H locs ls hR hV hls
theorem z_bipush {n : Int} (hd : decode cc pc = .ok (.bipush n, 2)) (hn : -128 ≤ n ∧ n ≤ 127) (h : zZ cc own nm nL E R X Q (pc + 2) Lc (vI n :: S) M ce sl) : zZ cc own nm nL E R X Q pc Lc S M ce sl := by
  intro hSt hM hS hL H locs ls hR hV hls
  refine lv_bipush (v := Int32.ofInt n) hSt.1 hSt.2.1 hd ?_ ?_
  · rw [← Int32.toInt_inj, Int8.toInt_toInt32, Int8.toInt_ofInt_of_le (by omega) (by omega), zi_toInt (by unfold zin; omega)]
  · exact h hSt hM (zokS_cons (by show zin n; unfold zin; omega) hS) hL H locs ls hR hV hls
theorem z_sipush {n : Int} (hd : decode cc pc = .ok (.sipush n, 3)) (hn : -32768 ≤ n ∧ n ≤ 32767) (h : zZ cc own nm nL E R X Q (pc + 3) Lc (vI n :: S) M ce sl) : zZ cc own nm nL E R X Q pc Lc S M ce sl := by
  intro hSt hM hS hL H locs ls hR hV hls
  refine lv_sipush (v := Int32.ofInt n) hSt.1 hSt.2.1 hd ?_ ?_
  · rw [← Int32.toInt_inj, Int16.toInt_toInt32, Int16.toInt_ofInt_of_le (by omega) (by omega), zi_toInt (by unfold zin; omega)]
  · exact h hSt hM (zokS_cons (by show zin n; unfold zin; omega) hS) hL H locs ls hR hV hls
theorem z_ldc {idx : Nat} {v : Int32} {n : Int} (hd : decode cc pc = .ok (.ldc idx, 2)) (hc : Cond.constant own idx v ∈ zT) (hv : Int32.ofInt n = v) (hn : -2147483648 ≤ n ∧ n ≤ 2147483647) (h : zZ cc own nm nL E R X Q (pc + 2) Lc (vI n :: S) M ce sl) : zZ cc own nm nL E R X Q pc Lc S M ce sl := by
  subst hv
  intro hSt hM hS hL H locs ls hR hV hls
  refine lv_ldc hSt.1 hSt.2.1 hSt.2.2.2.1 (hSt.2.2.2.2.1 _ hc) hd ?_
  exact h hSt hM (zokS_cons hn hS) hL H locs ls hR hV hls
theorem z_ldc2 {idx : Nat} {v : Int64} (hd : decode cc pc = .ok (.ldc2_w idx, 3)) (hc : Cond.constantLong own idx v ∈ zT) (h : zZ cc own nm nL E R X Q (pc + 3) Lc (vL v :: S) M ce sl) : zZ cc own nm nL E R X Q pc Lc S M ce sl := by
  intro hSt hM hS hL H locs ls hR hV hls
  refine lv_ldc2 hSt.1 hSt.2.1 hSt.2.2.2.1 (hSt.2.2.2.2.1 _ hc) hd ?_
  exact h hSt hM (zokS_cons trivial hS) hL H locs ls hR hV hls
theorem z_lconst {n : Fin 2} {v : Int64} (hd : decode cc pc = .ok (.lconst n, 1)) (hv : Int64.ofNat (n : Nat) = v) (h : zZ cc own nm nL E R X Q (pc + 1) Lc (vL v :: S) M ce sl) : zZ cc own nm nL E R X Q pc Lc S M ce sl := by
  intro hSt hM hS hL H locs ls hR hV hls
  refine lv_lconst hSt.1 hSt.2.1 hd hv ?_
  exact h hSt hM (zokS_cons trivial hS) hL H locs ls hR hV hls
theorem z_null (hd : decode cc pc = .ok (.aconst_null, 1)) (h : zZ cc own nm nL E R X Q (pc + 1) Lc (vR none :: S) M ce sl) : zZ cc own nm nL E R X Q pc Lc S M ce sl := by
  intro hSt hM hS hL H locs ls hR hV hls
  refine lv_null hSt.1 hSt.2.1 hd ?_
  exact h hSt hM (zokS_cons trivial hS) hL H locs ls hR hV hls
theorem z_dup {v : zV} (hd : decode cc pc = .ok (.dup, 1)) (hc : zc2 v = false) (h : zZ cc own nm nL E R X Q (pc + 1) Lc (v :: v :: S) M ce sl) : zZ cc own nm nL E R X Q pc Lc (v :: S) M ce sl := by
  intro hSt hM hS hL H locs ls hR hV hls
  refine lv_dup hSt.1 hSt.2.1 hd ?_ ?_
  · rcases lv_cat (zv v) with e | e
    · exact e
    · exact absurd hc (by rw [← zv_cat, e]; decide)
  · exact h hSt hM (zokS_cons (zokS_hd hS) hS) hL H locs ls hR hV hls
/-! arithmetic -/
theorem z_iadd {x y : Int} (hd : decode cc pc = .ok (.iadd, 1)) (hz : zin (x + y)) (h : zZ cc own nm nL E R X Q (pc + 1) Lc (vI (x + y) :: S) M ce sl) : zZ cc own nm nL E R X Q pc Lc (vI y :: vI x :: S) M ce sl := by
  intro hSt hM hS hL H locs ls hR hV hls
  refine lv_iadd hSt.1 hSt.2.1 hd ?_
  rw [← Int32.ofInt_add]
  exact h hSt hM (zokS_cons hz (zokS_tl (zokS_tl hS))) hL H locs ls hR hV hls
theorem z_isub {x y : Int} (hd : decode cc pc = .ok (.isub, 1)) (hz : zin (x - y)) (h : zZ cc own nm nL E R X Q (pc + 1) Lc (vI (x - y) :: S) M ce sl) : zZ cc own nm nL E R X Q pc Lc (vI y :: vI x :: S) M ce sl := by
  intro hSt hM hS hL H locs ls hR hV hls
  refine lv_isub hSt.1 hSt.2.1 hd ?_
  rw [← Int32.ofInt_sub]
  exact h hSt hM (zokS_cons hz (zokS_tl (zokS_tl hS))) hL H locs ls hR hV hls
theorem z_imul {x y : Int} (hd : decode cc pc = .ok (.imul, 1)) (hz : zin (x * y)) (h : zZ cc own nm nL E R X Q (pc + 1) Lc (vI (x * y) :: S) M ce sl) : zZ cc own nm nL E R X Q pc Lc (vI y :: vI x :: S) M ce sl := by
  intro hSt hM hS hL H locs ls hR hV hls
  refine lv_imul hSt.1 hSt.2.1 hd ?_
  rw [← Int32.ofInt_mul]
  exact h hSt hM (zokS_cons hz (zokS_tl (zokS_tl hS))) hL H locs ls hR hV hls
theorem z_div_eq {x y : Int} (hx : zin x) (hy : zin y) (h0 : 0 < y) : Int32.ofInt x / Int32.ofInt y = Int32.ofInt (x.tdiv y) ∧ zin (x.tdiv y) := by
  have hr : zin (x.tdiv y) := by
    have h1 := Int.natAbs_tdiv_le_natAbs x y
    unfold zin at *
    by_cases hx0 : 0 ≤ x
    · have := Int.tdiv_nonneg hx0 (Int.le_of_lt h0)
      omega
    · have h2 : 0 ≤ (-x).tdiv y := Int.tdiv_nonneg (by omega) (by omega)
      rw [Int.neg_tdiv] at h2
      omega
  refine ⟨?_, hr⟩
  rw [← Int32.toInt_inj, Int32.toInt_div_of_ne_right _ _ (by
    rw [show (-1 : Int32) = Int32.ofInt (-1) from rfl, Ne, zi_inj hy (by unfold zin; omega)]
    omega), zi_toInt hx, zi_toInt hy, zi_toInt hr]
theorem z_idiv {x y : Int} (hd : decode cc pc = .ok (.idiv, 1)) (h0 : 0 < y) (h : zZ cc own nm nL E R X Q (pc + 1) Lc (vI (x.tdiv y) :: S) M ce sl) : zZ cc own nm nL E R X Q pc Lc (vI y :: vI x :: S) M ce sl := by
  intro hSt hM hS hL H locs ls hR hV hls
  have hx : zin x := zokS_hd (zokS_tl hS)
  have hy : zin y := zokS_hd hS
  obtain ⟨e, hr⟩ := z_div_eq hx hy h0
  refine lv_idiv hSt.1 hSt.2.1 hd ?_ ?_
  · rw [← zi_0, zi_inj hy zin_0]; omega
  · rw [e]
    exact h hSt hM (zokS_cons hr (zokS_tl (zokS_tl hS))) hL H locs ls hR hV hls
theorem z_irem {x y : Int} (hd : decode cc pc = .ok (.irem, 1)) (h0 : 0 < y) (h : zZ cc own nm nL E R X Q (pc + 1) Lc (vI (x.tmod y) :: S) M ce sl) : zZ cc own nm nL E R X Q pc Lc (vI y :: vI x :: S) M ce sl := by
  intro hSt hM hS hL H locs ls hR hV hls
  have hx : zin x := zokS_hd (zokS_tl hS)
  have hy : zin y := zokS_hd hS
  obtain ⟨e, hr⟩ := z_div_eq hx hy h0
  have hm : x - x.tdiv y * y = x.tmod y := by rw [Int.tmod_def, Int.mul_comm]
  have hz : zin (x.tmod y) := by
    have h1 := Int.tmod_lt_of_pos x h0
    have h2 : -y < x.tmod y := by
      have := Int.lt_tmod_of_pos x h0
      omega
    unfold zin at *
    omega
  refine lv_irem hSt.1 hSt.2.1 hd ?_ ?_
  · rw [← zi_0, zi_inj hy zin_0]; omega
  · rw [e, ← Int32.ofInt_mul, ← Int32.ofInt_sub, hm]
    exact h hSt hM (zokS_cons hz (zokS_tl (zokS_tl hS))) hL H locs ls hR hV hls
theorem z_iinc {i : Nat} {n : Int} (pl : Nat) {x : Int} {Lc' : List (Nat × zV)} (hd : decode cc pc = .ok (.iinc i n, 3)) (hk : Lc[pl]? = some (i, vI x)) (hn : i < nL) (hz : zin (x + n)) (hl : zput i (vI (x + n)) Lc = Lc') (h : zZ cc own nm nL E R X Q (pc + 3) Lc' S M ce sl) : zZ cc own nm nL E R X Q pc Lc S M ce sl := by
  subst hl
  intro hSt hM hS hL H locs ls hR hV hls
  refine lv_iinc (v := Int32.ofInt (x + n)) hSt.1 hSt.2.1 hd hls (zlv_get hk) (by rw [Int32.ofInt_add]) hn (zlv_put _ (vI (x + n)) Lc) (fun ls' hls' => ?_)
  exact h hSt hM hS (zokL_put hL hz) H locs ls' hR hV hls'
theorem z_land {x y : Int64} (hd : decode cc pc = .ok (.land, 1)) (h : zZ cc own nm nL E R X Q (pc + 1) Lc (vL (x &&& y) :: S) M ce sl) : zZ cc own nm nL E R X Q pc Lc (vL y :: vL x :: S) M ce sl := by
  intro hSt hM hS hL H locs ls hR hV hls
  refine lv_land hSt.1 hSt.2.1 hd ?_
  exact h hSt hM (zokS_cons trivial (zokS_tl (zokS_tl hS))) hL H locs ls hR hV hls
theorem z_lor {x y : Int64} (hd : decode cc pc = .ok (.lor, 1)) (h : zZ cc own nm nL E R X Q (pc + 1) Lc (vL (x ||| y) :: S) M ce sl) : zZ cc own nm nL E R X Q pc Lc (vL y :: vL x :: S) M ce sl := by
  intro hSt hM hS hL H locs ls hR hV hls
  refine lv_lor hSt.1 hSt.2.1 hd ?_
  exact h hSt hM (zokS_cons trivial (zokS_tl (zokS_tl hS))) hL H locs ls hR hV hls
theorem z_lxor {x y : Int64} (hd : decode cc pc = .ok (.lxor, 1)) (h : zZ cc own nm nL E R X Q (pc + 1) Lc (vL (x ^^^ y) :: S) M ce sl) : zZ cc own nm nL E R X Q pc Lc (vL y :: vL x :: S) M ce sl := by
  intro hSt hM hS hL H locs ls hR hV hls
  refine lv_lxor hSt.1 hSt.2.1 hd ?_
  exact h hSt hM (zokS_cons trivial (zokS_tl (zokS_tl hS))) hL H locs ls hR hV hls
/-! branches -/
theorem z_goto {off : Int} {tgt : Nat} (hd : decode cc pc = .ok (.goto off, 3)) (ht : (pc : Int) + off = (tgt : Int)) (h : zZ cc own nm nL E R X Q tgt Lc S M ce sl) : zZ cc own nm nL E R X Q pc Lc S M ce sl := by
  intro hSt hM hS hL H locs ls hR hV hls
  exact lv_goto hSt.1 hSt.2.1 hd ht (h hSt hM hS hL H locs ls hR hV hls)
theorem z_icmp_eq {x y off : Int} {tgt : Nat} (hd : decode cc pc = .ok (.if_icmp .eq off, 3)) (ht : (pc : Int) + off = (tgt : Int)) (h1 : x = y → zZ cc own nm nL E R X Q tgt Lc S M ce sl) (h2 : x ≠ y → zZ cc own nm nL E R X Q (pc + 3) Lc S M ce sl) : zZ cc own nm nL E R X Q pc Lc (vI y :: vI x :: S) M ce sl := by
  intro hSt hM hS hL H locs ls hR hV hls
  have hx : zin x := zokS_hd (zokS_tl hS)
  have hy : zin y := zokS_hd hS
  exact lv_icmp_eq hSt.1 hSt.2.1 hd ht (fun c => h1 ((zi_inj hx hy).mp c) hSt hM (zokS_tl (zokS_tl hS)) hL H locs ls hR hV hls) (fun c => h2 (fun e => c ((zi_inj hx hy).mpr e)) hSt hM (zokS_tl (zokS_tl hS)) hL H locs ls hR hV hls)
theorem z_icmp_ne {x y off : Int} {tgt : Nat} (hd : decode cc pc = .ok (.if_icmp .ne off, 3)) (ht : (pc : Int) + off = (tgt : Int)) (h1 : x ≠ y → zZ cc own nm nL E R X Q tgt Lc S M ce sl) (h2 : x = y → zZ cc own nm nL E R X Q (pc + 3) Lc S M ce sl) : zZ cc own nm nL E R X Q pc Lc (vI y :: vI x :: S) M ce sl := by
  intro hSt hM hS hL H locs ls hR hV hls
  have hx : zin x := zokS_hd (zokS_tl hS)
  have hy : zin y := zokS_hd hS
  refine lv_icmp_ne hSt.1 hSt.2.1 hd ht (fun c => h1 (fun e => c ((zi_inj hx hy).mpr e)) hSt hM (zokS_tl (zokS_tl hS)) hL H locs ls hR hV hls) (fun c => h2 ?_ hSt hM (zokS_tl (zokS_tl hS)) hL H locs ls hR hV hls)
  exact (zi_inj hx hy).mp c
theorem z_icmp_lt {x y off : Int} {tgt : Nat} (hd : decode cc pc = .ok (.if_icmp .lt off, 3)) (ht : (pc : Int) + off = (tgt : Int)) (h1 : x < y → zZ cc own nm nL E R X Q tgt Lc S M ce sl) (h2 : y ≤ x → zZ cc own nm nL E R X Q (pc + 3) Lc S M ce sl) : zZ cc own nm nL E R X Q pc Lc (vI y :: vI x :: S) M ce sl := by
  intro hSt hM hS hL H locs ls hR hV hls
  have hx : zin x := zokS_hd (zokS_tl hS)
  have hy : zin y := zokS_hd hS
  exact lv_icmp_lt hSt.1 hSt.2.1 hd ht (fun c => h1 ((zi_lt hx hy).mp c) hSt hM (zokS_tl (zokS_tl hS)) hL H locs ls hR hV hls) (fun c => h2 (Int.not_lt.mp fun e => c ((zi_lt hx hy).mpr e)) hSt hM (zokS_tl (zokS_tl hS)) hL H locs ls hR hV hls)
theorem z_icmp_ge {x y off : Int} {tgt : Nat} (hd : decode cc pc = .ok (.if_icmp .ge off, 3)) (ht : (pc : Int) + off = (tgt : Int)) (h1 : y ≤ x → zZ cc own nm nL E R X Q tgt Lc S M ce sl) (h2 : x < y → zZ cc own nm nL E R X Q (pc + 3) Lc S M ce sl) : zZ cc own nm nL E R X Q pc Lc (vI y :: vI x :: S) M ce sl := by
  intro hSt hM hS hL H locs ls hR hV hls
  have hx : zin x := zokS_hd (zokS_tl hS)
  have hy : zin y := zokS_hd hS
  exact lv_icmp_ge hSt.1 hSt.2.1 hd ht (fun c => h1 ((zi_le hy hx).mp c) hSt hM (zokS_tl (zokS_tl hS)) hL H locs ls hR hV hls) (fun c => h2 (Int.not_le.mp fun e => c ((zi_le hy hx).mpr e)) hSt hM (zokS_tl (zokS_tl hS)) hL H locs ls hR hV hls)
theorem z_icmp_gt {x y off : Int} {tgt : Nat} (hd : decode cc pc = .ok (.if_icmp .gt off, 3)) (ht : (pc : Int) + off = (tgt : Int)) (h1 : y < x → zZ cc own nm nL E R X Q tgt Lc S M ce sl) (h2 : x ≤ y → zZ cc own nm nL E R X Q (pc + 3) Lc S M ce sl) : zZ cc own nm nL E R X Q pc Lc (vI y :: vI x :: S) M ce sl := by
  intro hSt hM hS hL H locs ls hR hV hls
  have hx : zin x := zokS_hd (zokS_tl hS)
  have hy : zin y := zokS_hd hS
  exact lv_icmp_gt hSt.1 hSt.2.1 hd ht (fun c => h1 ((zi_lt hy hx).mp c) hSt hM (zokS_tl (zokS_tl hS)) hL H locs ls hR hV hls) (fun c => h2 (Int.not_lt.mp fun e => c ((zi_lt hy hx).mpr e)) hSt hM (zokS_tl (zokS_tl hS)) hL H locs ls hR hV hls)
theorem z_icmp_le {x y off : Int} {tgt : Nat} (hd : decode cc pc = .ok (.if_icmp .le off, 3)) (ht : (pc : Int) + off = (tgt : Int)) (h1 : x ≤ y → zZ cc own nm nL E R X Q tgt Lc S M ce sl) (h2 : y < x → zZ cc own nm nL E R X Q (pc + 3) Lc S M ce sl) : zZ cc own nm nL E R X Q pc Lc (vI y :: vI x :: S) M ce sl := by
  intro hSt hM hS hL H locs ls hR hV hls
  have hx : zin x := zokS_hd (zokS_tl hS)
  have hy : zin y := zokS_hd hS
  exact lv_icmp_le hSt.1 hSt.2.1 hd ht (fun c => h1 ((zi_le hx hy).mp c) hSt hM (zokS_tl (zokS_tl hS)) hL H locs ls hR hV hls) (fun c => h2 (Int.not_le.mp fun e => c ((zi_le hx hy).mpr e)) hSt hM (zokS_tl (zokS_tl hS)) hL H locs ls hR hV hls)
theorem z_if_eq {x off : Int} {tgt : Nat} (hd : decode cc pc = .ok (.ifCond .eq off, 3)) (ht : (pc : Int) + off = (tgt : Int)) (h1 : x = 0 → zZ cc own nm nL E R X Q tgt Lc S M ce sl) (h2 : x ≠ 0 → zZ cc own nm nL E R X Q (pc + 3) Lc S M ce sl) : zZ cc own nm nL E R X Q pc Lc (vI x :: S) M ce sl := by
  intro hSt hM hS hL H locs ls hR hV hls
  have hx : zin x := zokS_hd hS
  exact lv_if_eq hSt.1 hSt.2.1 hd ht (fun c => h1 ((zi_inj hx zin_0).mp (by rw [zi_0]; exact c)) hSt hM (zokS_tl hS) hL H locs ls hR hV hls) (fun c => h2 (fun e => c (by rw [← zi_0]; exact (zi_inj hx zin_0).mpr e)) hSt hM (zokS_tl hS) hL H locs ls hR hV hls)
theorem z_if_ne {x off : Int} {tgt : Nat} (hd : decode cc pc = .ok (.ifCond .ne off, 3)) (ht : (pc : Int) + off = (tgt : Int)) (h1 : x ≠ 0 → zZ cc own nm nL E R X Q tgt Lc S M ce sl) (h2 : x = 0 → zZ cc own nm nL E R X Q (pc + 3) Lc S M ce sl) : zZ cc own nm nL E R X Q pc Lc (vI x :: S) M ce sl := by
  intro hSt hM hS hL H locs ls hR hV hls
  have hx : zin x := zokS_hd hS
  exact lv_if_ne hSt.1 hSt.2.1 hd ht (fun c => h1 (fun e => c (by rw [← zi_0]; exact (zi_inj hx zin_0).mpr e)) hSt hM (zokS_tl hS) hL H locs ls hR hV hls) (fun c => h2 ((zi_inj hx zin_0).mp (by rw [zi_0]; exact c)) hSt hM (zokS_tl hS) hL H locs ls hR hV hls)
theorem z_if_lt {x off : Int} {tgt : Nat} (hd : decode cc pc = .ok (.ifCond .lt off, 3)) (ht : (pc : Int) + off = (tgt : Int)) (h1 : x < 0 → zZ cc own nm nL E R X Q tgt Lc S M ce sl) (h2 : 0 ≤ x → zZ cc own nm nL E R X Q (pc + 3) Lc S M ce sl) : zZ cc own nm nL E R X Q pc Lc (vI x :: S) M ce sl := by
  intro hSt hM hS hL H locs ls hR hV hls
  have hx : zin x := zokS_hd hS
  exact lv_if_lt hSt.1 hSt.2.1 hd ht (fun c => h1 ((zi_lt hx zin_0).mp (by rw [zi_0]; exact c)) hSt hM (zokS_tl hS) hL H locs ls hR hV hls) (fun c => h2 (Int.not_lt.mp fun e => c (by rw [← zi_0]; exact (zi_lt hx zin_0).mpr e)) hSt hM (zokS_tl hS) hL H locs ls hR hV hls)
theorem z_if_le {x off : Int} {tgt : Nat} (hd : decode cc pc = .ok (.ifCond .le off, 3)) (ht : (pc : Int) + off = (tgt : Int)) (h1 : x ≤ 0 → zZ cc own nm nL E R X Q tgt Lc S M ce sl) (h2 : 0 < x → zZ cc own nm nL E R X Q (pc + 3) Lc S M ce sl) : zZ cc own nm nL E R X Q pc Lc (vI x :: S) M ce sl := by
  intro hSt hM hS hL H locs ls hR hV hls
  have hx : zin x := zokS_hd hS
  exact lv_if_le hSt.1 hSt.2.1 hd ht (fun c => h1 ((zi_le hx zin_0).mp (by rw [zi_0]; exact c)) hSt hM (zokS_tl hS) hL H locs ls hR hV hls) (fun c => h2 (Int.not_le.mp fun e => c (by rw [← zi_0]; exact (zi_le hx zin_0).mpr e)) hSt hM (zokS_tl hS) hL H locs ls hR hV hls)
theorem z_ifnull {r : Option Nat} {off : Int} {tgt : Nat} (hd : decode cc pc = .ok (.ifnull off, 3)) (ht : (pc : Int) + off = (tgt : Int)) (h1 : r = none → zZ cc own nm nL E R X Q tgt Lc S M ce sl) (h2 : r ≠ none → zZ cc own nm nL E R X Q (pc + 3) Lc S M ce sl) : zZ cc own nm nL E R X Q pc Lc (vR r :: S) M ce sl := by
  intro hSt hM hS hL H locs ls hR hV hls
  cases r with
  | none => exact lv_ifnullN hSt.1 hSt.2.1 hd ht (h1 rfl hSt hM (zokS_tl hS) hL H locs ls hR hV hls)
  | some a => exact lv_ifnull hSt.1 hSt.2.1 hd (h2 (fun e => by cases e) hSt hM (zokS_tl hS) hL H locs ls hR hV hls)
theorem z_ifnonnull {r : Option Nat} {off : Int} {tgt : Nat} (hd : decode cc pc = .ok (.ifnonnull off, 3)) (ht : (pc : Int) + off = (tgt : Int)) (h1 : r ≠ none → zZ cc own nm nL E R X Q tgt Lc S M ce sl) (h2 : r = none → zZ cc own nm nL E R X Q (pc + 3) Lc S M ce sl) : zZ cc own nm nL E R X Q pc Lc (vR r :: S) M ce sl := by
  intro hSt hM hS hL H locs ls hR hV hls
  cases r with
  | none => exact lv_ifnonnullN hSt.1 hSt.2.1 hd (h2 rfl hSt hM (zokS_tl hS) hL H locs ls hR hV hls)
  | some a => exact lv_ifnonnull hSt.1 hSt.2.1 hd ht (h1 (fun e => by cases e) hSt hM (zokS_tl hS) hL H locs ls hR hV hls)
theorem z_acmp_eq {rx ry : Option Nat} {off : Int} {tgt : Nat} (hd : decode cc pc = .ok (.if_acmp .eq off, 3)) (ht : (pc : Int) + off = (tgt : Int)) (h1 : rx = ry → zZ cc own nm nL E R X Q tgt Lc S M ce sl) (h2 : rx ≠ ry → zZ cc own nm nL E R X Q (pc + 3) Lc S M ce sl) : zZ cc own nm nL E R X Q pc Lc (vR ry :: vR rx :: S) M ce sl := by
  intro hSt hM hS hL H locs ls hR hV hls
  exact lv_acmp_eq hSt.1 hSt.2.1 hd ht (fun c => h1 c hSt hM (zokS_tl (zokS_tl hS)) hL H locs ls hR hV hls) (fun c => h2 c hSt hM (zokS_tl (zokS_tl hS)) hL H locs ls hR hV hls)
theorem z_acmp_ne {rx ry : Option Nat} {off : Int} {tgt : Nat} (hd : decode cc pc = .ok (.if_acmp .ne off, 3)) (ht : (pc : Int) + off = (tgt : Int)) (h1 : rx ≠ ry → zZ cc own nm nL E R X Q tgt Lc S M ce sl) (h2 : rx = ry → zZ cc own nm nL E R X Q (pc + 3) Lc S M ce sl) : zZ cc own nm nL E R X Q pc Lc (vR ry :: vR rx :: S) M ce sl := by
  intro hSt hM hS hL H locs ls hR hV hls
  exact lv_acmp_ne hSt.1 hSt.2.1 hd ht (fun c => h1 c hSt hM (zokS_tl (zokS_tl hS)) hL H locs ls hR hV hls) (fun c => h2 c hSt hM (zokS_tl (zokS_tl hS)) hL H locs ls hR hV hls)
theorem z_tableIn {dflt lo hi : Int} {offs : Array Int} {len : Nat} {x off : Int} {tgt : Nat} (hd : decode cc pc = .ok (.tableswitch dflt lo hi offs, len)) (k : Int) (hx : x = k) (h1 : ¬ k < lo) (h2 : ¬ hi < k) (ho : offs[(k - lo).toNat]? = some off) (ht : (pc : Int) + off = (tgt : Int)) (h : zZ cc own nm nL E R X Q tgt Lc S M ce sl) : zZ cc own nm nL E R X Q pc Lc (vI x :: S) M ce sl := by
  subst hx
  intro hSt hM hS hL H locs ls hR hV hls
  have hx : zin x := zokS_hd hS
  exact lv_tableIn hSt.1 hSt.2.1 hd (by rw [zi_toInt hx]; exact h1) (by rw [zi_toInt hx]; exact h2) (by rw [zi_toInt hx]; exact ho) ht (h hSt hM (zokS_tl hS) hL H locs ls hR hV hls)
theorem z_tableOut {dflt lo hi : Int} {offs : Array Int} {len : Nat} {x : Int} {tgt : Nat} (hd : decode cc pc = .ok (.tableswitch dflt lo hi offs, len)) (h0 : x < lo ∨ hi < x) (ht : (pc : Int) + dflt = (tgt : Int)) (h : zZ cc own nm nL E R X Q tgt Lc S M ce sl) : zZ cc own nm nL E R X Q pc Lc (vI x :: S) M ce sl := by
  intro hSt hM hS hL H locs ls hR hV hls
  have hx : zin x := zokS_hd hS
  exact lv_tableOut hSt.1 hSt.2.1 hd (by rw [zi_toInt hx]; exact h0) ht (h hSt hM (zokS_tl hS) hL H locs ls hR hV hls)
theorem z_lcmp {x y : Int64} (hd : decode cc pc = .ok (.lcmp, 1)) (h : zZ cc own nm nL E R X Q (pc + 1) Lc (vI (if y < x then 1 else if x = y then 0 else -1) :: S) M ce sl) : zZ cc own nm nL E R X Q pc Lc (vL y :: vL x :: S) M ce sl := by
  intro hSt hM hS hL H locs ls hR hV hls
  refine W.lcmp hSt.1 hSt.2.1 hd ?_
  have hz : zin (if y < x then 1 else if x = y then 0 else -1) := by
    unfold zin
    split
    · omega
    · split <;> omega
  have e : lg_cmp x y = Int32.ofInt (if y < x then 1 else if x = y then 0 else -1) := by
    unfold lg_cmp
    by_cases h1 : y < x
    · rw [if_pos h1, if_pos h1]; rfl
    · rw [if_neg h1, if_neg h1]
      by_cases h2 : x = y
      · rw [if_pos h2, if_pos h2]; rfl
      · rw [if_neg h2, if_neg h2]; rfl
  rw [e]
  exact h hSt hM (zokS_cons hz (zokS_tl (zokS_tl hS))) hL H locs ls hR hV hls
end ZR
end
section
/-! ===== rows on memory ===== -/
def zFl (own : String) (idx tg : Nat) (j : Int) (n : Nat) (ty : FieldType) (fin : Bool) : Prop :=
  ∃ (C : String) (T : u_T) (k : Nat), vwCl[tg - 1]? = some (C, T, n) ∧ (1 ≤ tg ∧ tg < 9) ∧ j = (k : Int) ∧ k < n ∧ (∀ w ∈ u_ws C T n, w ∈ zT) ∧ Cond.fieldLink own idx (T k).1 (T k).2.1 (T k).2.2.1 ∈ zT ∧ zfty (tg - 1) k = ty ∧ (∀ i, i < n → parseFieldDescriptor (T i).2.2.1 = some (zfty (tg - 1) i)) ∧ (∀ a, a < n → ∀ b, b < n → a ≠ b → (T a).2.1 ≠ (T b).2.1) ∧ (T k).2.2.2 = fin ∧ (T k).1 = C
theorem zcell_obj {cA : Nat → ClassId} {M : zM} {a tg n : Nat} (hK : zK M a = (tg, n)) (h : tg < 9) : zcell cA M a = .inr (tg - 1, zobj M a (tg - 1) n) := by
  unfold zcell
  rw [hK]
  exact if_pos h
theorem zcell_arr {cA : Nat → ClassId} {M : zM} {a tg n : Nat} (hK : zK M a = (tg, n)) (h : 9 ≤ tg) : zcell cA M a = .inl (cA tg, n, zarr M a tg) := by
  unfold zcell
  rw [hK]
  exact if_neg (by show ¬ tg < 9; omega)
theorem zobj_get {M : zM} {a t n k : Nat} (hk : k < n) : (zobj M a t n)[k]? = some (zfv M a (zfty t k) k) := by
  unfold zobj
  rw [List.getElem?_map, List.getElem?_range hk]
  rfl
theorem zobj_len {M : zM} {a t n : Nat} : (zobj M a t n).length = n := by
  unfold zobj
  rw [List.length_map, List.length_range]
theorem zobj_set {M M' : zM} {a t n k : Nat} {v : Value} (hk : k < n) (h1 : zfv M' a (zfty t k) k = v) (h2 : ∀ (j : Nat) (ty : FieldType), j ≠ k → zfv M' a ty j = zfv M a ty j) : (zobj M a t n).set k v = zobj M' a t n := by
  apply List.ext_getElem?
  intro i
  by_cases hi : i = k
  · subst hi
    rw [List.getElem?_set_self (by rw [zobj_len]; exact hk), zobj_get hk, h1]
  · rw [List.getElem?_set_ne (fun e => hi e.symm)]
    by_cases hl : i < n
    · rw [zobj_get hl, zobj_get hl, h2 i _ hi]
    · rw [List.getElem?_eq_none (by rw [zobj_len]; omega), List.getElem?_eq_none (by rw [zobj_len]; omega)]
theorem zcell_sI {cA : Nat → ClassId} {M : zM} {a b : Nat} {j x : Int} (hb : b ≠ a) : zcell cA (zsI M a j x) b = zcell cA M b := by
  simp only [zcell, zobj, zarr, zfv, zK_sI, zI_sI, zL_sI, zR_sI, hb, false_and, if_false]
theorem zcell_sL {cA : Nat → ClassId} {M : zM} {a b : Nat} {j : Int} {x : Int64} (hb : b ≠ a) : zcell cA (zsL M a j x) b = zcell cA M b := by
  simp only [zcell, zobj, zarr, zfv, zK_sL, zI_sL, zL_sL, zR_sL, hb, false_and, if_false]
theorem zcell_sR {cA : Nat → ClassId} {M : zM} {a b : Nat} {j : Int} {x : Option Nat} (hb : b ≠ a) : zcell cA (zsR M a j x) b = zcell cA M b := by
  simp only [zcell, zobj, zarr, zfv, zK_sR, zI_sR, zL_sR, zR_sR, hb, false_and, if_false]
theorem zcell_new {cA : Nat → ClassId} {M : zM} {b t n : Nat} (hb : b < zsz M) : zcell cA (znew M t n) b = zcell cA M b := by
  have hb : b ≠ zsz M := Nat.ne_of_lt hb
  simp only [zcell, zobj, zarr, zfv, zK_new, zI_new, zL_new, zR_new, hb, if_false]
theorem zokM_at {E : zE} {M : zM} (hM : zokM E M) {a tg n : Nat} (hK : zK M a = (tg, n)) (h : 1 ≤ tg) : E.2.1 ≤ a ∧ a < zsz M := hM.2.2 a (by rw [hK]; show tg ≠ 0; omega)
theorem zokM_n {E : zE} {M : zM} (hM : zokM E M) {a tg n : Nat} (hK : zK M a = (tg, n)) : n < 2147483648 := by have := hM.2.1 a; rw [hK] at this; exact this
theorem zokM_sI {E : zE} {M : zM} (hM : zokM E M) {a : Nat} {j x : Int} (hx : zin x) : zokM E (zsI M a j x) := by
  refine ⟨fun b i => ?_, hM.2.1, hM.2.2⟩
  rw [zI_sI]
  split
  · exact hx
  · exact hM.1 b i
theorem zokM_sL {E : zE} {M : zM} (hM : zokM E M) {a : Nat} {j : Int} {x : Int64} : zokM E (zsL M a j x) := ⟨hM.1, hM.2.1, hM.2.2⟩
theorem zokM_sR {E : zE} {M : zM} (hM : zokM E M) {a : Nat} {j : Int} {x : Option Nat} : zokM E (zsR M a j x) := ⟨hM.1, hM.2.1, hM.2.2⟩
theorem zokM_new {E : zE} {M : zM} (hM : zokM E M) {t n : Nat} (hn : n < 2147483648) (hN : E.2.1 ≤ zsz M) : zokM E (znew M t n) := by
  refine ⟨fun b i => ?_, fun b => ?_, fun b hb => ?_⟩
  · rw [zI_new]
    split
    · exact zin_0
    · exact hM.1 b i
  · rw [zK_new]
    split
    · exact hn
    · exact hM.2.1 b
  · rw [zsz_new]
    rw [zK_new] at hb
    by_cases e : b = zsz M
    · omega
    · rw [if_neg e] at hb
      have := hM.2.2 b hb
      omega
section ZM
variable {cc : ByteArray} {own nm : String} {nL : Nat} {E : zE} {R : Room} {X : zX} {Q : State → Prop} {pc : Nat} {Lc : List (Nat × zV)} {S : List zV} {M : zM} {ce sl : Nat}
theorem z_get {idx tg n a : Nat} {j : Int} {ty : FieldType} {fin : Bool} (hf : zFl own idx tg j n ty fin) (hd : decode cc pc = .ok (.getfield idx, 3)) (hK : zK M a = (tg, n)) {v : zV} (hv : zv v = zfv M a ty j) (hok : zokM E M → zok v) (h : zZ cc own nm nL E R X Q (pc + 3) Lc (v :: S) M ce sl) : zZ cc own nm nL E R X Q pc Lc (vR (some a) :: S) M ce sl := by
  intro hSt hM hS hL H locs ls hR hV hls
  obtain ⟨C, T, k, hc, ht, hj, hk, hin, hlink, hty, -⟩ := hf
  obtain ⟨a1, a2⟩ := zokM_at hM hK ht.1
  have he := zws_get (cA := E.2.2.2) a1 a2
  rw [zcell_obj hK ht.2] at he
  refine va_get (v := zv v) hSt.1 hSt.2.1 hSt.2.2.2.2.1 hin hSt.2.2.2.1 hSt.2.2.2.2.2.1.1 hR.2.2 _ he hc k hk (hSt.2.2.2.2.1 _ hlink) (fun _ h9 => h9) (by rw [zobj_get hk, hty, hv, hj]) hd ?_
  exact h hSt hM (zokS_cons (hok hM) (zokS_tl hS)) hL H locs ls hR hV hls
theorem z_getI {idx tg n a : Nat} {j : Int} {fin : Bool} (hf : zFl own idx tg j n .int fin) (hd : decode cc pc = .ok (.getfield idx, 3)) (hK : zK M a = (tg, n)) (h : zZ cc own nm nL E R X Q (pc + 3) Lc (vI (zI M a j) :: S) M ce sl) : zZ cc own nm nL E R X Q pc Lc (vR (some a) :: S) M ce sl := z_get (v := vI (zI M a j)) hf hd hK rfl (fun hM => hM.1 a j) h
theorem z_getL {idx tg n a : Nat} {j : Int} {fin : Bool} (hf : zFl own idx tg j n .long fin) (hd : decode cc pc = .ok (.getfield idx, 3)) (hK : zK M a = (tg, n)) (h : zZ cc own nm nL E R X Q (pc + 3) Lc (vL (zL M a j) :: S) M ce sl) : zZ cc own nm nL E R X Q pc Lc (vR (some a) :: S) M ce sl := z_get (v := vL (zL M a j)) hf hd hK rfl (fun _ => trivial) h
def zisR (ty : FieldType) : Bool := match ty with
  | .object _ => true
  | .array _ => true
  | _ => false
theorem zfv_R {M : zM} {a : Nat} {ty : FieldType} {j : Int} (h : zisR ty = true) : zfv M a ty j = va_rf (zR M a j) := by
  cases ty <;> first | rfl | cases h
theorem z_getR {idx tg n a : Nat} {j : Int} {ty : FieldType} {fin : Bool} (hf : zFl own idx tg j n ty fin) (hty : zisR ty = true) (hd : decode cc pc = .ok (.getfield idx, 3)) (hK : zK M a = (tg, n)) (h : zZ cc own nm nL E R X Q (pc + 3) Lc (vR (zR M a j) :: S) M ce sl) : zZ cc own nm nL E R X Q pc Lc (vR (some a) :: S) M ce sl := z_get (v := vR (zR M a j)) hf hd hK (by rw [zfv_R hty]; rfl) (fun _ => trivial) h
/-- a field is stored: the general row -/
theorem z_put {idx tg n a : Nat} {j : Int} {ty : FieldType} {fin : Bool} (hf : zFl own idx tg j n ty fin) (hfin : fin = false ∨ (nm = "<init>" ∧ (vwCl[tg - 1]?).map (fun q => q.1) = some own)) (hd : decode cc pc = .ok (.putfield idx, 3)) (hK : zK M a = (tg, n)) {v : zV} {M' : zM} (hn : narrow ty (zv v) = zv v) (hfit : fits ty (zv v) = true) (hv : zfv M' a ty j = zv v) (hK' : ∀ b, zK M' b = zK M b) (hs : zsz M' = zsz M) (ho : ∀ b, b ≠ a → zcell E.2.2.2 M' b = zcell E.2.2.2 M b) (h2 : ∀ (i : Nat) (t2 : FieldType), (i : Int) ≠ j → zfv M' a t2 i = zfv M a t2 i) (hok : zokM E M → zok v → zokM E M') (h : zZ cc own nm nL E R X Q (pc + 3) Lc S M' ce sl) : zZ cc own nm nL E R X Q pc Lc (v :: vR (some a) :: S) M ce sl := by
  intro hSt hM hS hL H locs ls hR hV hls
  obtain ⟨C, T, k, hc, ht, hj, hk, hin, hlink, hty, htys, hnms, hff, hfo⟩ := hf
  obtain ⟨a1, a2⟩ := zokM_at hM hK ht.1
  have he := zws_get (cA := E.2.2.2) a1 a2
  rw [zcell_obj hK ht.2] at he
  have hM' := hok hM (zokS_hd hS)
  have hset : (zobj M a (tg - 1) n).set k (zv v) = zobj M' a (tg - 1) n := zobj_set hk (by rw [hty, ← hj]; exact hv) (fun i t2 hi => h2 i t2 (by rw [hj]; omega))
  have hcell : zcell E.2.2.2 M' a = .inr (tg - 1, zobj M' a (tg - 1) n) := zcell_obj (by rw [hK', hK]) ht.2
  have kk : ∀ (H1 : Heap) (locs1 : List Loc), va_P E.2.2.1 vwCl ((zws E.2.1 E.2.2.2 M).set (a - E.2.1) (a, .inr (tg - 1, (zobj M a (tg - 1) n).set k (zv v)))) H1 → va_D (fun q => E.2.1 ≤ q) ((zws E.2.1 E.2.2.2 M).set (a - E.2.1) (a, .inr (tg - 1, (zobj M a (tg - 1) n).set k (zv v)))) → va_S (fun q => E.2.1 ≤ q) (xs X).heap H1 locs1 → H1.size = H.size → W (xp X) E.1 (xe X) R (xs X) (xm X) (xa X) (xb X) (xh X) (xc X) H1 locs1 ce sl Q (F0 (xm X) (pc + 3) ls (S.map zv)) := by
    intro H1 locs1 hP1 hD1 hS1 hz
    rw [hset, ← hcell, zws_set a1 a2 hs ho] at hP1
    exact h hSt hM' (zokS_tl (zokS_tl hS)) hL H1 locs1 ls ⟨by rw [hz, hs]; exact hR.1, by rw [hs]; exact hR.2.1, hP1⟩ hS1 hls
  have hap := va_apart (own := own) hSt.2.2.2.2.1 hin (zfty (tg - 1)) htys hnms hSt.2.2.2.2.2.1.1 hc
  obtain ⟨r, h1, cell, q1, q2, q3, q4⟩ := hR.2.2 _ _ he
  have hr : r = (C, T, n) := Option.some.inj (h1.symm.trans hc)
  subst hr
  obtain ⟨hSl, hfc, kC, hkC, hkind⟩ := hSt.2.2.2.2.2.1.1.1 (tg - 1) _ hc
  obtain ⟨cf, kf, fi, f, hi, hsl⟩ := hSl k hk
  have hlay := hSt.2.2.2.2.1 _ (hin _ (u_in_lay hk))
  unfold u_lay at hlay
  have hst := (u_facts hfc hkC (u_lays hSt.2.2.2.2.1 hin hk) hi).1
  have hdt : parseFieldDescriptor (T k).2.2.1 = some ty := by rw [htys k hk, hty]
  have fin2 : ∀ H' : Heap, H'[a]? = some (cell.setSlot (E.2.2.1.2 (tg - 1) k) (zv v)) → H'.size = H.size → (∀ q, q ≠ a → H'[q]? = H[q]?) → ∀ fs : Nat, W (xp X) E.1 (xe X) R (xs X) (xm X) (xa X) (xb X) (xh X) (xc X) H' (locs ++ [⟨a, fs⟩]) ce sl Q (F0 (xm X) (pc + 3) ls (S.map zv)) := by
    intro H' e1 e2 e3 fs
    exact kk H' _ (hR.2.2.set zws_D he ⟨_, hc, t_OB.to (V := updV (vp_V (zobj M a (tg - 1) n)) k (zv v)) ⟨_, e1, q2, q3, t_set q4 hap hk (zv v)⟩ (fun i _ => vp_updV_set (by rw [zobj_len]; exact hk) (zv v) i)⟩ e3) (zws_D.set he) (hV.put e2 e3 a1) e2
  cases fin with
  | false =>
    rw [if_neg (by rw [hff]; decide)] at hlay
    have h6 := u_store hfc hkC hkind hlay hi hdt hn hfit
    refine W.putK hSt.1 hSt.2.1 (f := f) ⟨hSt.2.2.2.1, hSt.2.2.2.2.1 _ hlink, ⟨_, _, _, hi⟩, hst⟩ (by rw [q2]; exact h6) q1 q3 (by rw [hsl]; exact k2_hasslot (q4 k hk)) rfl rfl hd fun H' e1 e2 e3 => ?_
    rw [hsl] at e1 ⊢
    exact fin2 H' e1 e2 e3 _
  | true =>
    rw [if_pos hff] at hlay
    have hin2 : (xh X).name = "<init>" := by
      rcases hfin with e | e
      · cases e
      · rw [hSt.2.2.2.2.2.2.2.2]; exact e.1
    have hfo2 : (T k).1 = own := by
      rcases hfin with e | e
      · cases e
      · have e2 := e.2
        rw [hc] at e2
        rw [hfo]
        exact Option.some.inj e2
    have hcf : (xm X).cls = cf := by
      obtain ⟨_, _, c', _, _, _, -, -, hf', -, -, -, hown2, -⟩ := Cond.laysFinal_spec hlay
      have e1 : c' = cf := by have := hi.symm.trans hf'; simp at this; exact this.1.symm
      rw [hfo2] at hown2
      rw [← e1]; exact Option.some.inj (hSt.2.2.2.1.symm.trans hown2)
    have h6 := u_fits hfc hkC hkind (Or.inr hlay) hi hdt hn hfit
    refine W.putFinK hSt.1 hSt.2.1 hSt.2.2.2.1 (hSt.2.2.2.2.1 _ hlink) hi hst hcf hin2 (by rw [q2]; exact h6) q1 q3 (by rw [hsl]; exact k2_hasslot (q4 k hk)) rfl rfl hd fun H' e1 e2 e3 => ?_
    rw [hsl] at e1 ⊢
    exact fin2 H' e1 e2 e3 _
theorem z_putI {idx tg n a : Nat} {j x : Int} {fin : Bool} (hf : zFl own idx tg j n .int fin) (hfin : fin = false ∨ (nm = "<init>" ∧ (vwCl[tg - 1]?).map (fun q => q.1) = some own)) (hd : decode cc pc = .ok (.putfield idx, 3)) (hK : zK M a = (tg, n)) (h : zZ cc own nm nL E R X Q (pc + 3) Lc S (zsI M a j x) ce sl) : zZ cc own nm nL E R X Q pc Lc (vI x :: vR (some a) :: S) M ce sl :=
  z_put (v := vI x) (M' := zsI M a j x) hf hfin hd hK rfl rfl (by simp only [zfv, zI_sI, and_self, if_true]; rfl) (fun _ => rfl) rfl (fun _ hb => zcell_sI hb) (fun i t2 hi => by simp only [zfv, zI_sI, zL_sI, zR_sI, hi, and_false, if_false]) (fun hM hx => zokM_sI hM hx) h
theorem z_putL {idx tg n a : Nat} {j : Int} {x : Int64} {fin : Bool} (hf : zFl own idx tg j n .long fin) (hfin : fin = false ∨ (nm = "<init>" ∧ (vwCl[tg - 1]?).map (fun q => q.1) = some own)) (hd : decode cc pc = .ok (.putfield idx, 3)) (hK : zK M a = (tg, n)) (h : zZ cc own nm nL E R X Q (pc + 3) Lc S (zsL M a j x) ce sl) : zZ cc own nm nL E R X Q pc Lc (vL x :: vR (some a) :: S) M ce sl :=
  z_put (v := vL x) (M' := zsL M a j x) hf hfin hd hK rfl rfl (by simp only [zfv, zL_sL, and_self, if_true]; rfl) (fun _ => rfl) rfl (fun _ hb => zcell_sL hb) (fun i t2 hi => by simp only [zfv, zI_sL, zL_sL, zR_sL, hi, and_false, if_false]) (fun hM _ => zokM_sL hM) h
theorem z_putR {idx tg n a : Nat} {j : Int} {x : Option Nat} {ty : FieldType} {fin : Bool} (hf : zFl own idx tg j n ty fin) (hty : zisR ty = true) (hfin : fin = false ∨ (nm = "<init>" ∧ (vwCl[tg - 1]?).map (fun q => q.1) = some own)) (hd : decode cc pc = .ok (.putfield idx, 3)) (hK : zK M a = (tg, n)) (h : zZ cc own nm nL E R X Q (pc + 3) Lc S (zsR M a j x) ce sl) : zZ cc own nm nL E R X Q pc Lc (vR x :: vR (some a) :: S) M ce sl :=
  z_put (v := vR x) (M' := zsR M a j x) hf hfin hd hK (by cases ty <;> first | (cases x <;> rfl) | cases hty) (by cases ty <;> first | (cases x <;> rfl) | cases hty) (by rw [zfv_R hty, zR_sR, if_pos ⟨rfl, rfl⟩]; rfl) (fun _ => rfl) rfl (fun _ hb => zcell_sR hb) (fun i t2 hi => by simp only [zfv, zI_sR, zL_sR, zR_sR, hi, and_false, if_false]) (fun hM _ => zokM_sR hM) h
end ZM
end
section
/-! ===== arrays, new ===== -/
theorem z_idx {i : Int} {q : Nat} (h0 : 0 ≤ i) : ((q : Int) = i) ↔ q = i.toNat := by omega
theorem zarr_up {M : zM} {a : Nat} {i x : Int} (h0 : 0 ≤ i) : (fun q : Nat => Int32.ofInt (zI (zsI M a i x) a q)) = upd (fun q : Nat => Int32.ofInt (zI M a q)) i.toNat (Int32.ofInt x) := by
  funext q
  simp only [zI_sI, true_and, z_idx h0, upd]
  split <;> rfl
theorem zarr_upL {M : zM} {a : Nat} {i : Int} {x : Int64} (h0 : 0 ≤ i) : (fun q : Nat => zL (zsL M a i x) a q) = vp_updL (fun q : Nat => zL M a q) i.toNat x := by
  funext q
  simp only [zL_sL, true_and, z_idx h0, vp_updL]
theorem zarr_upR {M : zM} {a : Nat} {i : Int} {x : Option Nat} (h0 : 0 ≤ i) : (fun q : Nat => zR (zsR M a i x) a q) = va_up (fun q : Nat => zR M a q) i.toNat x := by
  funext q
  simp only [zR_sR, true_and, z_idx h0, va_up]
section ZA
variable {cc : ByteArray} {own nm : String} {nL : Nat} {E : zE} {R : Room} {X : zX} {Q : State → Prop} {pc : Nat} {Lc : List (Nat × zV)} {S : List zV} {M : zM} {ce sl : Nat}
theorem z_iald {a n : Nat} {i : Int} (hd : decode cc pc = .ok (.iaload, 1)) (hK : zK M a = (9, n)) (h0 : 0 ≤ i) (h1 : i < n) (h : zZ cc own nm nL E R X Q (pc + 1) Lc (vI (zI M a i) :: S) M ce sl) : zZ cc own nm nL E R X Q pc Lc (vI i :: vR (some a) :: S) M ce sl := by
  intro hSt hM hS hL H locs ls hR hV hls
  obtain ⟨a1, a2⟩ := zokM_at hM hK (by decide)
  have he := zws_get (cA := E.2.2.2) a1 a2
  rw [zcell_arr hK (by decide)] at he
  have hi : zin i := zokS_hd hS
  refine va_iald hSt.1 hSt.2.1 hSt.2.2.2.2.2.1.1 hR.2.2 _ 0 he rfl (zi_in hi h0 h1) hd ?_
  rw [zi_nat h0 hi]
  have e : ((i.toNat : Nat) : Int) = i := Int.toNat_of_nonneg h0
  have := h hSt hM (zokS_cons (hM.1 a i) (zokS_tl (zokS_tl hS))) hL H locs ls hR hV hls
  simp only [e]
  exact this
theorem z_bald {a n : Nat} {i : Int} (hd : decode cc pc = .ok (.baload, 1)) (hK : zK M a = (10, n)) (h0 : 0 ≤ i) (h1 : i < n) (h : zZ cc own nm nL E R X Q (pc + 1) Lc (vI (zI M a i) :: S) M ce sl) : zZ cc own nm nL E R X Q pc Lc (vI i :: vR (some a) :: S) M ce sl := by
  intro hSt hM hS hL H locs ls hR hV hls
  obtain ⟨a1, a2⟩ := zokM_at hM hK (by decide)
  have he := zws_get (cA := E.2.2.2) a1 a2
  rw [zcell_arr hK (by decide)] at he
  have hi : zin i := zokS_hd hS
  refine va_zald hSt.1 hSt.2.1 hSt.2.2.2.2.2.1.1 hR.2.2 _ 1 he rfl (zi_in hi h0 h1) hd ?_
  rw [zi_nat h0 hi]
  have e : ((i.toNat : Nat) : Int) = i := Int.toNat_of_nonneg h0
  have := h hSt hM (zokS_cons (hM.1 a i) (zokS_tl (zokS_tl hS))) hL H locs ls hR hV hls
  simp only [e]
  exact this
theorem z_lald {a n : Nat} {i : Int} (hd : decode cc pc = .ok (.laload, 1)) (hK : zK M a = (11, n)) (h0 : 0 ≤ i) (h1 : i < n) (h : zZ cc own nm nL E R X Q (pc + 1) Lc (vL (zL M a i) :: S) M ce sl) : zZ cc own nm nL E R X Q pc Lc (vI i :: vR (some a) :: S) M ce sl := by
  intro hSt hM hS hL H locs ls hR hV hls
  obtain ⟨a1, a2⟩ := zokM_at hM hK (by decide)
  have he := zws_get (cA := E.2.2.2) a1 a2
  rw [zcell_arr hK (by decide)] at he
  have hi : zin i := zokS_hd hS
  refine va_lald hSt.1 hSt.2.1 hSt.2.2.2.2.2.1.1 hR.2.2 _ 2 he rfl (zi_in hi h0 h1) hd ?_
  rw [zi_nat h0 hi]
  have e : ((i.toNat : Nat) : Int) = i := Int.toNat_of_nonneg h0
  have := h hSt hM (zokS_cons trivial (zokS_tl (zokS_tl hS))) hL H locs ls hR hV hls
  simp only [e]
  exact this
/-- an array of references: Work[] (12) or int[][] (13) -/
theorem z_aald {a n tg : Nat} {i : Int} (hd : decode cc pc = .ok (.aaload, 1)) (hK : zK M a = (tg, n)) (htg : tg = 12 ∨ tg = 13) (h0 : 0 ≤ i) (h1 : i < n) (h : zZ cc own nm nL E R X Q (pc + 1) Lc (vR (zR M a i) :: S) M ce sl) : zZ cc own nm nL E R X Q pc Lc (vI i :: vR (some a) :: S) M ce sl := by
  intro hSt hM hS hL H locs ls hR hV hls
  obtain ⟨a1, a2⟩ := zokM_at hM hK (by omega)
  have he := zws_get (cA := E.2.2.2) a1 a2
  rw [zcell_arr hK (by omega)] at he
  have hi : zin i := zokS_hd hS
  have hlt : (Int32.ofInt i).toNatClampNeg < n := by rw [zi_nat h0 hi]; omega
  have e : ((i.toNat : Nat) : Int) = i := Int.toNat_of_nonneg h0
  have hh := h hSt hM (zokS_cons trivial (zokS_tl (zokS_tl hS))) hL H locs ls hR hV hls
  have hin := zi_in hi h0 h1
  rcases htg with rfl | rfl
  · refine W.aald (v := va_rf (zR M a i)) (ty := .object RX5) hSt.1 hSt.2.1 (hR.2.2 _ _ he) ((hSt.2.2.2.2.2.1.1.2 3 _ rfl).1 n (fun j => va_rf (zR M a j))) rfl (fun q => by cases q) (by show ¬ (_ ∨ (arrV _ _ _).slots.size ≤ _); rw [arrV_size]; exact hin) (by show (arrV _ _ _).slots[_]? = _; rw [arrV_read _ _ hlt, zi_nat h0 hi]; show some (va_rf (zR M a ((i.toNat : Nat) : Int))) = _; rw [e]) rfl rfl hd hh
  · refine W.aald (v := va_rf (zR M a i)) (ty := .array .int) hSt.1 hSt.2.1 (hR.2.2 _ _ he) ((hSt.2.2.2.2.2.1.1.2 4 _ rfl).1 n (fun j => va_rf (zR M a j))) rfl (fun q => by cases q) (by show ¬ (_ ∨ (arrV _ _ _).slots.size ≤ _); rw [arrV_size]; exact hin) (by show (arrV _ _ _).slots[_]? = _; rw [arrV_read _ _ hlt, zi_nat h0 hi]; show some (va_rf (zR M a ((i.toNat : Nat) : Int))) = _; rw [e]) rfl rfl hd hh
theorem z_iast {a n : Nat} {i x : Int} (hd : decode cc pc = .ok (.iastore, 1)) (hK : zK M a = (9, n)) (h0 : 0 ≤ i) (h1 : i < n) (h : zZ cc own nm nL E R X Q (pc + 1) Lc S (zsI M a i x) ce sl) : zZ cc own nm nL E R X Q pc Lc (vI x :: vI i :: vR (some a) :: S) M ce sl := by
  intro hSt hM hS hL H locs ls hR hV hls
  obtain ⟨a1, a2⟩ := zokM_at hM hK (by decide)
  have he := zws_get (cA := E.2.2.2) a1 a2
  rw [zcell_arr hK (by decide)] at he
  have hx : zin x := zokS_hd hS
  have hi : zin i := zokS_hd (zokS_tl hS)
  have hc : zcell E.2.2.2 (zsI M a i x) a = .inl (E.2.2.2 9, n, .inl (upd (fun q : Nat => Int32.ofInt (zI M a q)) i.toNat (Int32.ofInt x))) := by
    rw [zcell_arr (M := zsI M a i x) (tg := 9) (n := n) hK (by decide)]
    show Sum.inl (_, _, Sum.inl _) = _
    rw [zarr_up h0]
  have hk := fun H1 locs1 (hP1 : va_P E.2.2.1 vwCl (zws E.2.1 E.2.2.2 (zsI M a i x)) H1) hS1 (hz : H1.size = H.size) => h hSt (zokM_sI hM hx) (zokS_tl (zokS_tl (zokS_tl hS))) hL H1 locs1 ls ⟨hz.trans hR.1, hR.2.1, hP1⟩ hS1 hls
  refine W.iast hSt.1 hSt.2.1 (hR.2.2 _ _ he) ((hSt.2.2.2.2.2.1.1.2 0 _ rfl).1 n (fun j => .int (Int32.ofInt (zI M a j)))) (fun q => by cases q) (by show ¬ (_ ∨ (arrV _ _ _).slots.size ≤ _); rw [arrV_size]; exact zi_in hi h0 h1) rfl rfl hd fun H1 e z oq => ?_
  refine hk H1 _ ?_ (hV.put z oq a1) z
  rw [← zws_set (M := M) (M' := zsI M a i x) a1 a2 rfl (fun b hb => zcell_sI hb)]
  refine hR.2.2.set zws_D he ?_ oq
  rw [hc]
  show H1[a]? = some (vp_cell _ _)
  rw [e]
  show some ((vp_cell _ (n, .inl (fun q : Nat => Int32.ofInt (zI M a q)))).setSlot _ _) = some (vp_cell _ (n, .inl _))
  rw [vp_cell_i, vp_cell_i, arrV_store, zi_nat h0 hi]
  congr 2
  funext q
  by_cases hq : q = i.toNat
  · subst hq; simp [updV, upd]
  · simp [updV, upd, hq]
theorem z_bast {a n : Nat} {i x : Int} (hd : decode cc pc = .ok (.bastore, 1)) (hK : zK M a = (10, n)) (h0 : 0 ≤ i) (h1 : i < n) (hb01 : x = 0 ∨ x = 1) (h : zZ cc own nm nL E R X Q (pc + 1) Lc S (zsI M a i x) ce sl) : zZ cc own nm nL E R X Q pc Lc (vI x :: vI i :: vR (some a) :: S) M ce sl := by
  intro hSt hM hS hL H locs ls hR hV hls
  obtain ⟨a1, a2⟩ := zokM_at hM hK (by decide)
  have he := zws_get (cA := E.2.2.2) a1 a2
  rw [zcell_arr hK (by decide)] at he
  have hx : zin x := zokS_hd hS
  have hi : zin i := zokS_hd (zokS_tl hS)
  have hc : zcell E.2.2.2 (zsI M a i x) a = .inl (E.2.2.2 10, n, .inl (upd (fun q : Nat => Int32.ofInt (zI M a q)) i.toNat (Int32.ofInt x))) := by
    rw [zcell_arr (M := zsI M a i x) (tg := 10) (n := n) hK (by decide)]
    show Sum.inl (_, _, Sum.inl _) = _
    rw [zarr_up h0]
  have hnar : narrow .boolean (.int (Int32.ofInt x)) = .int (Int32.ofInt x) := by rcases hb01 with rfl | rfl <;> rfl
  have hk := fun H1 locs1 (hP1 : va_P E.2.2.1 vwCl (zws E.2.1 E.2.2.2 (zsI M a i x)) H1) hS1 (hz : H1.size = H.size) => h hSt (zokM_sI hM hx) (zokS_tl (zokS_tl (zokS_tl hS))) hL H1 locs1 ls ⟨hz.trans hR.1, hR.2.1, hP1⟩ hS1 hls
  refine W.zast hSt.1 hSt.2.1 (hR.2.2 _ _ he) ((hSt.2.2.2.2.2.1.1.2 1 _ rfl).1 n (fun j => .int (Int32.ofInt (zI M a j)))) (fun q => by cases q) (by show ¬ (_ ∨ (arrV _ _ _).slots.size ≤ _); rw [arrV_size]; exact zi_in hi h0 h1) rfl rfl hd fun H1 e z oq => ?_
  refine hk H1 _ ?_ (hV.put z oq a1) z
  rw [← zws_set (M := M) (M' := zsI M a i x) a1 a2 rfl (fun b hb => zcell_sI hb)]
  refine hR.2.2.set zws_D he ?_ oq
  rw [hc]
  show H1[a]? = some (vp_cell _ _)
  rw [e, hnar]
  show some ((vp_cell _ (n, .inl (fun q : Nat => Int32.ofInt (zI M a q)))).setSlot _ _) = some (vp_cell _ (n, .inl _))
  rw [vp_cell_i, vp_cell_i, arrV_store, zi_nat h0 hi]
  congr 2
  funext q
  by_cases hq : q = i.toNat
  · subst hq; simp [updV, upd]
  · simp [updV, upd, hq]
theorem z_last {a n : Nat} {i : Int} {x : Int64} (hd : decode cc pc = .ok (.lastore, 1)) (hK : zK M a = (11, n)) (h0 : 0 ≤ i) (h1 : i < n) (h : zZ cc own nm nL E R X Q (pc + 1) Lc S (zsL M a i x) ce sl) : zZ cc own nm nL E R X Q pc Lc (vL x :: vI i :: vR (some a) :: S) M ce sl := by
  intro hSt hM hS hL H locs ls hR hV hls
  obtain ⟨a1, a2⟩ := zokM_at hM hK (by decide)
  have he := zws_get (cA := E.2.2.2) a1 a2
  rw [zcell_arr hK (by decide)] at he
  have hi : zin i := zokS_hd (zokS_tl hS)
  have hc : zcell E.2.2.2 (zsL M a i x) a = .inl (E.2.2.2 11, n, .inr (.inl (vp_updL (fun q : Nat => zL M a q) i.toNat x))) := by
    rw [zcell_arr (M := zsL M a i x) (tg := 11) (n := n) hK (by decide)]
    show Sum.inl (_, _, Sum.inr (Sum.inl _)) = _
    rw [zarr_upL h0]
  have hk := fun H1 locs1 (hP1 : va_P E.2.2.1 vwCl (zws E.2.1 E.2.2.2 (zsL M a i x)) H1) hS1 (hz : H1.size = H.size) => h hSt (zokM_sL hM) (zokS_tl (zokS_tl (zokS_tl hS))) hL H1 locs1 ls ⟨hz.trans hR.1, hR.2.1, hP1⟩ hS1 hls
  refine W.last hSt.1 hSt.2.1 (hR.2.2 _ _ he) ((hSt.2.2.2.2.2.1.1.2 2 _ rfl).1 n (fun j => .long (zL M a j))) (fun q => by cases q) (by show ¬ (_ ∨ (arrV _ _ _).slots.size ≤ _); rw [arrV_size]; exact zi_in hi h0 h1) rfl rfl hd fun H1 e z oq => ?_
  refine hk H1 _ ?_ (hV.put z oq a1) z
  rw [← zws_set (M := M) (M' := zsL M a i x) a1 a2 rfl (fun b hb => zcell_sL hb)]
  refine hR.2.2.set zws_D he ?_ oq
  rw [hc]
  show H1[a]? = some (vp_cell _ _)
  rw [e]
  show some ((vp_cell _ (n, .inr (.inl (fun q : Nat => zL M a q)))).setSlot _ _) = some (vp_cell _ (n, .inr (.inl _)))
  rw [vp_cell_l, vp_cell_l, arrV_store, zi_nat h0 hi]
  congr 2
  funext q
  by_cases hq : q = i.toNat
  · subst hq; simp [updV, vp_updL]
  · simp [updV, vp_updL, hq]
/-- a Work goes into a Work[] -/
theorem z_aast {a b n nw : Nat} {i : Int} (hd : decode cc pc = .ok (.aastore, 1)) (hK : zK M a = (12, n)) (hKb : zK M b = (6, nw)) (h0 : 0 ≤ i) (h1 : i < n) (h : zZ cc own nm nL E R X Q (pc + 1) Lc S (zsR M a i (some b)) ce sl) : zZ cc own nm nL E R X Q pc Lc (vR (some b) :: vI i :: vR (some a) :: S) M ce sl := by
  intro hSt hM hS hL H locs ls hR hV hls
  obtain ⟨a1, a2⟩ := zokM_at hM hK (by decide)
  obtain ⟨b1, b2⟩ := zokM_at hM hKb (by decide)
  have he := zws_get (cA := E.2.2.2) a1 a2
  rw [zcell_arr hK (by decide)] at he
  have heb := zws_get (cA := E.2.2.2) b1 b2
  rw [zcell_obj hKb (by decide)] at heb
  have hi : zin i := zokS_hd (zokS_tl hS)
  have hc : zcell E.2.2.2 (zsR M a i (some b)) a = .inl (E.2.2.2 12, n, .inr (.inr (.inr (.inr (va_up (fun q : Nat => zR M a q) i.toNat (some b)))))) := by
    rw [zcell_arr (M := zsR M a i (some b)) (tg := 12) (n := n) hK (by decide)]
    show Sum.inl (_, _, Sum.inr (Sum.inr (Sum.inr (Sum.inr _)))) = _
    rw [zarr_upR h0]
  have hk := fun H1 locs1 (hP1 : va_P E.2.2.1 vwCl (zws E.2.1 E.2.2.2 (zsR M a i (some b))) H1) hS1 (hz : H1.size = H.size) => h hSt (zokM_sR hM) (zokS_tl (zokS_tl (zokS_tl hS))) hL H1 locs1 ls ⟨hz.trans hR.1, hR.2.1, hP1⟩ hS1 hls
  have hin := zi_in hi h0 h1
  have hlt : (Int32.ofInt i).toNatClampNeg < n := by rw [zi_nat h0 hi]; omega
  have h00 : ¬ Int32.ofInt i < 0 := fun q => hin (Or.inl q)
  obtain ⟨r', hr', cellV, g1, g2, g3, -⟩ := hR.2.2 _ _ heb
  have hcls := (hSt.2.2.2.2.2.1.1.1 5 (RX5, TX5, 16) rfl).2
  obtain ⟨kA, comp, k1, k2, k3, -⟩ := (hSt.2.2.2.2.2.1.1.2 3 _ rfl).2
  have hcomp : comp = E.2.2.1.1 5 := Option.some.inj (k3.symm.trans hcls.1)
  subst hcomp
  obtain ⟨kC, hkC, -⟩ := id hcls.2
  refine W.aast hSt.1 hSt.2.1 (hR.2.2 _ _ he) (fun q h => by cases h) (fun h => by cases h) k1 k2 rfl hkC ⟨h00, by show _ < (arrV _ _ _).slots.size; rw [arrV_size]; exact hlt⟩ g1 (fun q h => by rw [g3] at h; cases h) (by rw [g2]; exact hkC) (by rw [g2]; exact va_assign hcls) rfl rfl hd fun H1 e z oq => ?_
  refine hk H1 _ ?_ (hV.put z oq a1) z
  rw [← zws_set (M := M) (M' := zsR M a i (some b)) a1 a2 rfl (fun c hb => zcell_sR hb)]
  refine hR.2.2.set zws_D he ?_ oq
  rw [hc]
  show H1[a]? = some (vp_cell _ _)
  rw [e]
  show some ((vp_cell _ (n, .inr (.inr (.inr (.inr (fun q : Nat => zR M a q)))))).setSlot _ _) = some (vp_cell _ (n, .inr (.inr (.inr (.inr _)))))
  rw [vp_cell_q, vp_cell_q, arrV_store, zi_nat h0 hi]
  congr 2
  funext q
  by_cases hq : q = i.toNat
  · subst hq; simp [updV, va_up, va_rf]
  · simp [updV, va_up, hq]
/-- what a new cell leaves -/
theorem zRel_push {t n : Nat} {H H1 : Heap} {locs : List Loc} (hR : zRel E M H) (hV : va_S (fun q => E.2.1 ≤ q) (xs X).heap H locs) (e1 : va_at E.2.2.1 vwCl (zsz M, zcell E.2.2.2 (znew M t n) (zsz M)) H1) (z1 : H1.size = zsz M + 1) (o1 : ∀ q, q < zsz M → H1[q]? = H[q]?) : zRel E (znew M t n) H1 ∧ va_S (fun q => E.2.1 ≤ q) (xs X).heap H1 locs := by
  obtain ⟨r1, r2, r3⟩ := hR
  refine ⟨⟨z1, by rw [zsz_new]; omega, ?_⟩, by rw [z1, ← r1]; have := hV.1; omega, fun q h1 h2 => ?_, hV.2.2⟩
  · rw [← zws_push r2 (zsz_new M t n) (fun b hb => zcell_new hb)]
    refine va_P.app (r3.kept fun k q hk => o1 q.1 (by rw [← r1]; exact (r3 k q hk).lt)) (fun k q hk => ?_)
    have hz : k < 1 := (List.getElem?_eq_some_iff.mp hk).1
    rw [show k = 0 by omega] at hk
    cases hk
    exact e1
  · rw [o1 q (by rw [← r1]; exact Nat.lt_of_lt_of_le h1 hV.1)]
    exact hV.2.1 q h1 h2
def zNw (own : String) (idx tg n : Nat) : Prop := ∃ (C : String) (T : u_T), vwCl[tg - 1]? = some (C, T, n) ∧ (1 ≤ tg ∧ tg < 9) ∧ n < 2147483648 ∧ (∀ w ∈ u_ws C T n, w ∈ zT) ∧ (∀ i, i < n → parseFieldDescriptor (T i).2.2.1 = some (zfty (tg - 1) i)) ∧ Cond.classLink own idx C ∈ zT ∧ Cond.instantiable C n ∈ zT ∧ Cond.initialized C ∈ zT ∧ (∀ i, i < n → zfty (tg - 1) i = .int ∨ zfty (tg - 1) i = .long ∨ zisR (zfty (tg - 1) i) = true)
theorem z_new {idx tg n : Nat} (hn : zNw own idx tg n) (hd : decode cc pc = .ok (.new idx, 3)) (hc : ce + 1 ≤ R.cells) (hs : sl + n ≤ R.slots) (h : zZ cc own nm nL E R X Q (pc + 3) Lc (vR (some (zsz M)) :: S) (znew M tg n) (ce + 1) (sl + n)) : zZ cc own nm nL E R X Q pc Lc S M ce sl := by
  intro hSt hM hS hL H locs ls hR hV hls
  obtain ⟨C, T, hcl, ht, hb, hin, hty, w1, w2, w3, hdf⟩ := hn
  have hKn := hSt.2.2.2.2.2.1.1.1 (tg - 1) _ hcl
  refine W.newcK hSt.1 hSt.2.1 hSt.2.2.2.1 (hSt.2.2.2.2.1 _ w1) (hSt.2.2.2.2.1 _ w2) (hSt.2.2.2.2.1 _ w3) rfl hd hc hs hKn.2.1 hR.1 fun H1 kC hkC e1 z1 o1 => ?_
  obtain ⟨p1, p2⟩ := zRel_push (t := tg) (n := n) hR hV (by
    rw [zcell_obj (tg := tg) (n := n) (by rw [zK_new, if_pos rfl]) ht.2]
    refine ⟨_, hcl, (u_born (zfty (tg - 1)) hSt.2.2.2.2.1 hin hKn hkC e1 hty).to fun i hi => ?_⟩
    have hg := zobj_get (M := znew M tg n) (a := zsz M) (t := tg - 1) hi
    simp only [vp_V, List.getD_eq_getElem?_getD, hg, Option.getD_some]
    rcases hdf i hi with q | q | q
    · rw [q]; simp only [zfv, zI_new, if_true]; rfl
    · rw [q]; simp only [zfv, zL_new, if_true]; rfl
    · rw [zfv_R q, zR_new, if_pos rfl]
      cases hq : zfty (tg - 1) i <;> rw [hq] at q <;> first | rfl | cases q) z1 o1
  exact h hSt (zokM_new hM hb hR.2.1) (zokS_cons trivial hS) hL H1 locs ls p1 p2 hls
theorem z_newa {at_ : ArrayType} {tg n : Nat} {k : Int} (hat : (at_ = .int ∧ tg = 9) ∨ (at_ = .boolean ∧ tg = 10) ∨ (at_ = .long ∧ tg = 11)) (hw : Cond.arrayClass (newarray.typeOf at_) ∈ zT) (hd : decode cc pc = .ok (.newarray at_, 2)) (hk : k = (n : Int)) (hn : n ≤ 10000) (hc : ce + 1 ≤ R.cells) (hs : sl + n ≤ R.slots) (h : zZ cc own nm nL E R X Q (pc + 2) Lc (vR (some (zsz M)) :: S) (znew M tg n) (ce + 1) (sl + n)) : zZ cc own nm nL E R X Q pc Lc (vI k :: S) M ce sl := by
  subst hk
  intro hSt hM hS hL H locs ls hR hV hls
  have hz : zin (n : Int) := zokS_hd hS
  have hh := h hSt (zokM_new hM (by omega) hR.2.1) (zokS_cons trivial (zokS_tl hS)) hL
  refine va_newaK (N := n) hSt.1 hSt.2.1 (hSt.2.2.2.2.1 _ hw) rfl hd rfl (by rw [← zi_0, zi_lt hz zin_0]; omega) (by rw [zi_nat (by omega) hz]; omega) (by rcases hat with ⟨rfl, -⟩ | ⟨rfl, -⟩ | ⟨rfl, -⟩ <;> simp [newarray.typeOf, componentBytes] <;> omega) hc hs hR.1 fun H1 cA e1 z1 o1 hAr hNm => ?_
  have key : ∀ (hcA : cA = E.2.2.2 tg), zRel E (znew M tg n) H1 ∧ va_S (fun q => E.2.1 ≤ q) (xs X).heap H1 locs := fun hcA => zRel_push (t := tg) (n := n) hR hV (by
    rw [zcell_arr (tg := tg) (n := n) (by rw [zK_new, if_pos rfl]) (by omega), ← hcA]
    show H1[zsz M]? = some (vp_cell _ _)
    rw [e1]
    rcases hat with ⟨rfl, rfl⟩ | ⟨rfl, rfl⟩ | ⟨rfl, rfl⟩
    · show _ = some (vp_cell _ (n, .inl (fun q : Nat => Int32.ofInt (zI (znew M 9 n) (zsz M) q)))); rw [vp_cell_i]; simp only [zI_new, if_true]; rfl
    · show _ = some (vp_cell _ (n, .inl (fun q : Nat => Int32.ofInt (zI (znew M 10 n) (zsz M) q)))); rw [vp_cell_i]; simp only [zI_new, if_true]; rfl
    · show _ = some (vp_cell _ (n, .inr (.inl (fun q : Nat => zL (znew M 11 n) (zsz M) q)))); rw [vp_cell_l]; simp only [zL_new, if_true]; rfl) z1 o1
  have hcA : cA = E.2.2.2 tg := by
    rcases hat with ⟨rfl, rfl⟩ | ⟨rfl, rfl⟩ | ⟨rfl, rfl⟩
    · exact Option.some.inj (hNm.symm.trans (hSt.2.2.2.2.2.1.1.2 0 _ rfl).2)
    · exact Option.some.inj (hNm.symm.trans (hSt.2.2.2.2.2.1.1.2 1 _ rfl).2)
    · exact Option.some.inj (hNm.symm.trans (hSt.2.2.2.2.2.1.1.2 2 _ rfl).2)
  obtain ⟨p1, p2⟩ := key hcA
  exact hh H1 locs ls p1 p2 hls
theorem z_anew {idx n : Nat} {k : Int} (hw : Cond.classLink own idx RX5 ∈ zT) (hd : decode cc pc = .ok (.anewarray idx, 3)) (hk : k = (n : Int)) (hn : n ≤ 10000) (hc : ce + 1 ≤ R.cells) (hs : sl + n ≤ R.slots) (h : zZ cc own nm nL E R X Q (pc + 3) Lc (vR (some (zsz M)) :: S) (znew M 12 n) (ce + 1) (sl + n)) : zZ cc own nm nL E R X Q pc Lc (vI k :: S) M ce sl := by
  subst hk
  intro hSt hM hS hL H locs ls hR hV hls
  have hz : zin (n : Int) := zokS_hd hS
  have hnat : (Int32.ofInt (n : Int)).toNatClampNeg = n := by rw [zi_nat (by omega) hz]; omega
  have hh := h hSt (zokM_new hM (by omega) hR.2.1) (zokS_cons trivial (zokS_tl hS)) hL
  refine W.anew hSt.1 hSt.2.1 hSt.2.2.2.1 (hSt.2.2.2.2.1 _ hw) (va_AO.use hSt.2.2.2.2.2.1.2.1) rfl hd rfl (by rw [← zi_0, zi_lt hz zin_0]; omega) (by rw [hnat]; omega) hc (by rw [hnat]; exact hs) fun cA kA comp f1 f2 f3 f4 => ?_
  rw [hnat]
  obtain ⟨kA2, comp2, -, -, -, g4⟩ := (hSt.2.2.2.2.2.1.1.2 3 _ rfl).2
  have hcA : cA = E.2.2.2 12 := Option.some.inj (f1.symm.trans g4)
  obtain ⟨p1, p2⟩ := zRel_push (t := 12) (n := n) (H1 := H.push { cls := cA, slots := Array.replicate n .null, vm := .none }) hR hV (by
    rw [zcell_arr (tg := 12) (n := n) (by rw [zK_new, if_pos rfl]) (by decide), ← hcA]
    show _ = some (vp_cell _ (n, .inr (.inr (.inr (.inr (fun q : Nat => zR (znew M 12 n) (zsz M) q))))))
    rw [vp_cell_q]
    simp only [zR_new, if_true]
    show (H.push _)[zsz M]? = _
    rw [← hR.1, Array.getElem?_push_size, arrV_new]
    rfl) (by rw [Array.size_push, hR.1]) (fun q hq => by rw [Array.getElem?_push, if_neg (by rw [hR.1]; omega)])
  have := hh _ locs ls p1 p2 hls
  rw [← hR.1] at this
  exact this
end ZA
end
section
/-! ===== contracts: start, return, call ===== -/
theorem zAOA_moved {u U : State} (hvm : u.vm.Alike U.vm) (h : zAOA u) : zAOA U := by
  obtain ⟨comp, c, k, h1, h2, h3, h4, h5⟩ := h
  obtain ⟨k', hk', he⟩ := hvm.2.2 _ _ h3
  have hi : (U.vm.classes.findIdx? fun (x : Class) => match x.kind with | .array component _ => component == comp | _ => false) = some c := by
    have a := va_idx_bare U.vm comp
    have b := va_idx_bare u.vm comp
    first | rw [hvm.bare_eq] at a | rw [← hvm.bare_eq] at a
    exact a.symm.trans (b.trans h2)
  exact ⟨comp, c, k', by rw [hvm.findClass]; exact h1, hi, hk', by rw [he]; exact h4, by rw [hvm.findClass]; exact h5⟩
theorem zKn_moved {E : zE} {u U : State} (hvm : u.vm.Alike U.vm) (h : zKn E u) : zKn E U := ⟨va_K.moved hvm h.1, va_AO.moved hvm h.2.1, zAOA_moved hvm h.2.2⟩
def zrm (d mc ms : Nat) : Room := { frames := d, cells := mc, slots := ms, locals := 40 * d }
def zQc (E : zE) (P : Option zV → zM → Prop) : Array Value → State → Outcome → State → Prop := fun _ st oc t => (∃ (v : Option zV) (M' : zM), oc = .returned (v.map zv) ∧ P v M' ∧ zokM E M' ∧ (∀ w, v = some w → zok w) ∧ zRel E M' t.heap ∧ zKn E t) ∧ va_F (fun q => E.2.1 ≤ q) st t
def zPc (E : zE) (as : List zV) (M : zM) : Array Value → State → Prop := va_Pc (as.map zv) (fun U => zRel E M U.heap ∧ zKn E U)
def zCC (E : zE) (f : zF) (d mc ms : Nat) (as : List zV) (M : zM) (P : Option zV → zM → Prop) : Prop :=
  zokM E M → zokS as → Met E.1 f.1 (Cond.code f.1 f.2.1 f.2.2.1 f.2.2.2 :: zT) (zrm d mc ms) (zPc E as M) (zQc E P) mc ms (fun q => E.2.1 ≤ q)
def zQ (E : zE) (P : Option zV → zM → Prop) (X : zX) (mc ms : Nat) : State → Prop := MQ (xb X) (zQc E P) (xa X) (xs X) mc ms (fun q => E.2.1 ≤ q)
def zargs : Nat → List zV → List (Nat × zV)
  | _, [] => []
  | i, v :: vs => (i, v) :: zargs (if zc2 v then i + 2 else i + 1) vs
theorem zargs_eq (as : List zV) : ∀ i : Nat, lv_args i (as.map zv) = zlv (zargs i as) := by
  induction as with
  | nil => intro i; rfl
  | cons v vs ih =>
    intro i
    show (i, zv v) :: lv_args (if (zv v).category = 2 then i + 2 else i + 1) (vs.map zv) = (i, zv v) :: zlv (zargs (if zc2 v then i + 2 else i + 1) vs)
    rw [← zv_cat, ih]
    congr 2
    by_cases h : (zv v).category = 2
    · rw [if_pos h, if_pos (by rw [h]; rfl)]
    · rw [if_neg h, if_neg (by simpa using h)]
theorem zargs_ok {as : List zV} (h : zokS as) : ∀ i : Nat, zokL (zargs i as) := by
  induction as with
  | nil => intro i q hq; cases hq
  | cons v vs ih =>
    intro i q hq
    rcases List.mem_cons.mp hq with e | e
    · rw [e]; exact zokS_hd h
    · exact ih (zokS_tl h) _ q e
def zcat (v : zV) : Nat := match v with
  | .inr (.inl _) => 2
  | _ => 1
theorem zcat_eq (v : zV) : (zv v).category = zcat v := by
  rcases v with x | y | r
  · rfl
  · rfl
  · cases r <;> rfl
theorem zcat_sum (S : List zV) : ((S.map zv).map fun v => v.category).sum = (S.map zcat).sum := by
  rw [List.map_map]
  congr 1
  apply List.map_congr_left
  intro v _
  exact zcat_eq v
theorem zsl_len (as : List zV) : (lg_sl (as.map zv)).length = (as.map zcat).sum := by
  induction as with
  | nil => rfl
  | cons v vs ih =>
    rcases v with x | y | r
    · show (lg_sl (.int _ :: vs.map zv)).length = _
      simp only [lg_sl, List.map_cons, List.sum_cons, zcat, ← ih]
      simp [Value.category]
      try omega
    · show (lg_sl (.long _ :: vs.map zv)).length = _
      simp only [lg_sl, List.map_cons, List.sum_cons, zcat, ← ih]
      simp [Value.category]
      try omega
    · cases r with
      | none =>
        show (lg_sl (.null :: vs.map zv)).length = _
        simp only [lg_sl, List.map_cons, List.sum_cons, zcat, ← ih]
        simp [Value.category]
        try omega
      | some a =>
        show (lg_sl (.ref a :: vs.map zv)).length = _
        simp only [lg_sl, List.map_cons, List.sum_cons, zcat, ← ih]
        simp [Value.category]
        try omega
theorem z_start {E : zE} {f : zF} {d mc ms : Nat} {as : List zV} {M : zM} {P : Option zV → zM → Prop} (hy : plainName f.1.cls = true) (hlen : (as.map zcat).sum ≤ f.2.2.1) {Lc : List (Nat × zV)} (hLc : zargs 0 as = Lc)
    (h : ∀ X : zX, (xh X).sig.returnType = f.2.2.2 → zZ f.2.1 f.1.cls f.1.name f.2.2.1 E (zrm d mc ms) X (zQ E P X mc ms) 0 Lc [] M 0 0) : zCC E f d mc ms as M P := by
  subst hLc
  intro hM hS
  refine Met.ofW (cc := f.2.1) (maxL := f.2.2.1) (ret := f.2.2.2) hy rfl ?_
  intro p e s m args below meth c s₁ B hml hv
  obtain ⟨rfl, hR, hKn⟩ := hv
  have hts := atoms_spec (ws := Cond.code f.1 f.2.1 f.2.2.1 f.2.2.2 :: zT) B.pre
  have hown : s.vm.findClass f.1.cls = some m.cls := findClass_of_methodNamed B.named
  have hnm : meth.name = f.1.name := (name_of_methodNamed B.named B.method).1
  have hl := lv_entry (as.map zv) (n := f.2.2.1) (by rw [zsl_len]; exact hlen)
  rw [lg_entry_eq]
  generalize (lg_sl (as.map zv) ++ List.replicate (f.2.2.1 - (lg_sl (as.map zv)).length) Slot.unset).toArray = ls at hl ⊢
  rw [zargs_eq] at hl
  exact h (p, e, s, m, (as.map zv).toArray, below, meth, c) B.returns ⟨B.exec, B.bytes, hml, hown, fun w hw => hts w (List.mem_cons_of_mem _ hw), hKn, B.notSynchronized, by rw [hR.1]; exact hR.2.1, hnm⟩ hM zokS_nil (zargs_ok hS 0) s.heap [] ls hR va_S.rf hl
section ZC
variable {cc : ByteArray} {own nm : String} {nL : Nat} {E : zE} {R : Room} {X : zX} {Q : State → Prop} {pc : Nat} {Lc : List (Nat × zV)} {S : List zV} {M : zM} {ce sl : Nat}
theorem z_iret {P : Option zV → zM → Prop} {mc ms : Nat} {x : Int} (hr : (xh X).sig.returnType = some .int) (hd : decode cc pc = .ok (.ireturn, 1)) (hc : ce ≤ mc) (hs : sl ≤ ms) (h : P (some (vI x)) M) : zZ cc own nm nL E R X (zQ E P X mc ms) pc Lc [vI x] M ce sl := by
  intro hSt hM hS hL H locs ls hR hV hls
  refine W.widen (k := mc) (n := ms) hc hs ?_
  exact W.iret hSt.1 hSt.2.1 hr (fun t ht hW => ⟨⟨some (vI x), M, rfl, h, hM, fun w e => by cases e; exact zokS_hd hS, by rw [ht]; exact hR, zKn_moved hW.alike hSt.2.2.2.2.2.1⟩, hV.F ht⟩) hV.2.2 hd hSt.2.2.2.2.2.2.1
theorem z_zret {P : Option zV → zM → Prop} {mc ms : Nat} {x : Int} (hr : (xh X).sig.returnType = some .boolean) (hd : decode cc pc = .ok (.ireturn, 1)) (hc : ce ≤ mc) (hs : sl ≤ ms) (hb01 : x = 0 ∨ x = 1) (h : P (some (vI x)) M) : zZ cc own nm nL E R X (zQ E P X mc ms) pc Lc [vI x] M ce sl := by
  intro hSt hM hS hL H locs ls hR hV hls
  refine W.widen (k := mc) (n := ms) hc hs ?_
  exact W.zret hSt.1 hSt.2.1 hr (by rcases hb01 with rfl | rfl <;> rfl) (fun t ht hW => ⟨⟨some (vI x), M, rfl, h, hM, fun w e => by cases e; exact zokS_hd hS, by rw [ht]; exact hR, zKn_moved hW.alike hSt.2.2.2.2.2.1⟩, hV.F ht⟩) hV.2.2 hd hSt.2.2.2.2.2.2.1
theorem z_lret {P : Option zV → zM → Prop} {mc ms : Nat} {x : Int64} (hr : (xh X).sig.returnType = some .long) (hd : decode cc pc = .ok (.lreturn, 1)) (hc : ce ≤ mc) (hs : sl ≤ ms) (h : P (some (vL x)) M) : zZ cc own nm nL E R X (zQ E P X mc ms) pc Lc [vL x] M ce sl := by
  intro hSt hM hS hL H locs ls hR hV hls
  refine W.widen (k := mc) (n := ms) hc hs ?_
  exact W.lret hSt.1 hSt.2.1 hr (fun t ht hW => ⟨⟨some (vL x), M, rfl, h, hM, fun w e => by cases e; trivial, by rw [ht]; exact hR, zKn_moved hW.alike hSt.2.2.2.2.2.1⟩, hV.F ht⟩) hV.2.2 hd (hlocks := hSt.2.2.2.2.2.2.1)
theorem z_aret {P : Option zV → zM → Prop} {mc ms : Nat} {x : Option Nat} {C : String} (hr : (xh X).sig.returnType = some (.object C)) (hd : decode cc pc = .ok (.areturn, 1)) (hc : ce ≤ mc) (hs : sl ≤ ms) (h : P (some (vR x)) M) : zZ cc own nm nL E R X (zQ E P X mc ms) pc Lc [vR x] M ce sl := by
  intro hSt hM hS hL H locs ls hR hV hls
  refine W.widen (k := mc) (n := ms) hc hs ?_
  exact W.aret hSt.1 hSt.2.1 hr (Or.inl ⟨C, rfl⟩) (by cases x with | none => exact Or.inl rfl | some a => exact Or.inr ⟨a, rfl⟩) (fun t ht hW => ⟨⟨some (vR x), M, rfl, h, hM, fun w e => by cases e; trivial, by rw [ht]; exact hR, zKn_moved hW.alike hSt.2.2.2.2.2.1⟩, hV.F ht⟩) hV.2.2 hd hSt.2.2.2.2.2.2.1
theorem z_vret {P : Option zV → zM → Prop} {mc ms : Nat} (hr : (xh X).sig.returnType = none) (hd : decode cc pc = .ok (.return_, 1)) (hc : ce ≤ mc) (hs : sl ≤ ms) (h : P none M) : zZ cc own nm nL E R X (zQ E P X mc ms) pc Lc [] M ce sl := by
  intro hSt hM hS hL H locs ls hR hV hls
  refine W.widen (k := mc) (n := ms) hc hs ?_
  exact W.vret hSt.1 hSt.2.1 hr (fun t ht hW => ⟨⟨none, M, rfl, h, hM, (fun w e => by cases e), by rw [ht]; exact hR, zKn_moved hW.alike hSt.2.2.2.2.2.1⟩, hV.F ht⟩) hV.2.2 hd hSt.2.2.2.2.2.2.1
/-! calls -/
theorem zPc_blind {as : List zV} : FrameBlind (zPc E as M) := fun a U g mk q => ⟨q.1, q.2.1, zKn_moved (u := U) (U := U.calling g mk a) (Vm.Alike.refl U.vm) q.2.2⟩
def zMm (f : zF) (n : Nat) : Prop := Cond.initialized f.1.cls ∈ zT ∧ Cond.code f.1 f.2.1 f.2.2.1 f.2.2.2 ∈ zT ∧ (f.1.cls ≠ "java/lang/invoke/MethodHandle" ∧ f.1.cls ≠ "java/lang/invoke/VarHandle" ∧ (parseMethodDescriptor f.1.desc).map (fun d => d.parameters.length) = some n) ∧ f.2.2.1 ≤ 20
theorem z_run {f : zF} {d mc ms : Nat} {as : List zV} {P : Option zV → zM → Prop} {H : Heap} {locs : List Loc} {ls : Array Slot} {St : List zV}
    (hrun : va_Run (xp X) E.1 (xe X) R (xs X) (xm X) (xa X) (xb X) (xh X) (xc X) H locs ce sl mc ms (F0 (xm X) pc ls (St.map zv)) (S.map zv) (zQc E P (as.map zv).toArray) (fun q => E.2.1 ≤ q))
    (hSt : zSt cc own nm nL E X) (hS : zokS S) (hL : zokL Lc) (hV : va_S (fun q => E.2.1 ≤ q) (xs X).heap H locs) (hls : lv_has ls nL (zlv Lc))
    (h : ∀ v M', P v M' → zZ cc own nm nL E R X Q (pc + 3) Lc (v.toList ++ S) M' (ce + mc) (sl + ms)) :
    W (xp X) E.1 (xe X) R (xs X) (xm X) (xa X) (xb X) (xh X) (xc X) H locs ce sl Q (F0 (xm X) pc ls (St.map zv)) := by
  intro T hT Y
  obtain ⟨v0, st₀, t, T', L, h0, Y', hLl, e1, e2, ⟨⟨v, M', hv, hp, hM', hok, hR', hKn'⟩, hz, hk⟩, st⟩ := hrun T hT Y
  have hv0 : v0 = v.map zv := by injection hv
  rw [h0] at hz hk
  have hS2 : zokS (v.toList ++ S) := by
    intro w hw
    rcases List.mem_append.mp hw with q | q
    · exact hok w (by simpa using q)
    · exact hS w q
  obtain ⟨t2, a1, b1⟩ := h v M' hp hSt hM' hS2 hL T'.heap (locs ++ L) ls (by rw [e1]; exact hR') ⟨Nat.le_trans hV.1 (by rw [e1]; exact hz), fun q h1 h2 => by rw [e1, hk q (Nat.lt_of_lt_of_le h1 hV.1) h2]; exact hV.2.1 q h1 h2, fun q hq => by
      rcases List.mem_append.mp hq with z | z
      · exact hV.2.2 q z
      · exact hLl q z⟩ hls T' rfl Y'
  refine ⟨t2, st t2 ?_, b1⟩
  have e : (v.toList ++ S).map zv = v0.toList ++ S.map zv := by
    rw [hv0, List.map_append]
    cases v <;> rfl
  rw [← e]
  exact a1
theorem z_callV {f : zF} {d mc ms idx n b tg nf : Nat} {T : u_T} {as St : List zV} {P : Option zV → zM → Prop} (hC : zCC E f d mc ms (vR (some b) :: as) M P) (hm : zMm f n) (hw : Cond.methodLink own idx f.1 ∈ zT ∧ Cond.instanceMethod f.1 ∈ zT ∧ Cond.selects f.1.cls f.1 f.1 ∈ zT) (hd : decode cc pc = .ok (.invokevirtual idx, 3)) (hcl : vwCl[tg - 1]? = some (f.1.cls, T, nf) ∧ 1 ≤ tg ∧ tg < 9) (hK : zK M b = (tg, nf)) (hn : as.length = n) (hst : as.reverse ++ vR (some b) :: S = St) (hcat : (S.map zcat).sum ≤ 8) (hR1 : d + 1 ≤ R.frames) (hR2 : 8 + (f.2.2.1 + 11) + 40 * d ≤ R.locals) (hc : ce + mc ≤ R.cells) (hs : sl + ms ≤ R.slots)
    (h : ∀ v M', P v M' → zZ cc own nm nL E R X Q (pc + 3) Lc (v.toList ++ S) M' (ce + mc) (sl + ms)) : zZ cc own nm nL E R X Q pc Lc St M ce sl := by
  subst hst
  intro hSt hM hS hL H locs ls hR hV hls
  obtain ⟨a1, a2⟩ := zokM_at hM hK hcl.2.1
  have he := zws_get (cA := E.2.2.2) a1 a2
  rw [zcell_obj hK hcl.2.2] at he
  have hS1 : zokS (vR (some b) :: as) := fun w hw => by
    rcases List.mem_cons.mp hw with e | e
    · rw [e]; trivial
    · exact hS w (List.mem_append_left _ (List.mem_reverse.mpr e))
  have hS2 : zokS S := fun w hw => hS w (List.mem_append_right _ (List.mem_cons_of_mem _ hw))
  have hts := hSt.2.2.2.2.1
  refine z_run (f := f) (d := d) (as := vR (some b) :: as) (va_runV (As := as.map zv) (C := f.1.cls) (b := b) (n := n) (ret := f.2.2.2) (bytes := f.2.1) (maxL := f.2.2.1) (Ts := zT) ⟨hSt.1, hSt.2.1, hSt.2.2.1, hSt.2.2.2.1, hts⟩ (hC hM hS1) ⟨callB_of n hts (zT_good hm.2.1) rfl rfl rfl (hts _ hm.1) (hts _ hw.1) hm.2.2.1 ⟨hR1, hR2⟩, hts _ hw.2.1, hts _ hw.2.2⟩ ⟨zPc_blind, va_recv hSt.2.2.2.2.2.1.1 hR.2.2 hcl.1 he, fun U hU hW => ⟨rfl, by rw [hU]; exact hR, zKn_moved hW.alike hSt.2.2.2.2.2.1⟩⟩ rfl (by rw [List.length_map]; exact hn) hls.1 (by show List.map zv _ = _; rw [List.map_append, List.map_reverse]; rfl) (lv_room (by rw [zcat_sum]; exact hcat)) hd ⟨hc, hs⟩) hSt hS2 hL hV hls h
theorem z_callS {f : zF} {d mc ms idx n : Nat} {as St : List zV} {P : Option zV → zM → Prop} (hC : zCC E f d mc ms as M P) (hm : zMm f n) (hw : Cond.methodLink own idx f.1 ∈ zT ∧ Cond.static f.1 ∈ zT) (hd : decode cc pc = .ok (.invokestatic idx, 3)) (hn : as.length = n) (hst : as.reverse ++ S = St) (hcat : (S.map zcat).sum ≤ 8) (hR1 : d + 1 ≤ R.frames) (hR2 : 8 + (f.2.2.1 + 11) + 40 * d ≤ R.locals) (hc : ce + mc ≤ R.cells) (hs : sl + ms ≤ R.slots)
    (h : ∀ v M', P v M' → zZ cc own nm nL E R X Q (pc + 3) Lc (v.toList ++ S) M' (ce + mc) (sl + ms)) : zZ cc own nm nL E R X Q pc Lc St M ce sl := by
  subst hst
  intro hSt hM hS hL H locs ls hR hV hls
  have hS1 : zokS as := fun w hw => hS w (List.mem_append_left _ (List.mem_reverse.mpr hw))
  have hS2 : zokS S := fun w hw => hS w (List.mem_append_right _ hw)
  have hts := hSt.2.2.2.2.1
  refine z_run (f := f) (d := d) (as := as) (va_runS (As := as.map zv) (n := n) (ret := f.2.2.2) (bytes := f.2.1) (maxL := f.2.2.1) (Ts := zT) ⟨hSt.1, hSt.2.1, hSt.2.2.1, hSt.2.2.2.1, hts⟩ (hC hM hS1) ⟨callB_of n hts (zT_good hm.2.1) rfl rfl rfl (hts _ hm.1) (hts _ hw.1) hm.2.2.1 ⟨hR1, hR2⟩, hts _ hw.2⟩ ⟨zPc_blind, fun U hU hW => ⟨rfl, by rw [hU]; exact hR, zKn_moved hW.alike hSt.2.2.2.2.2.1⟩⟩ rfl (by rw [List.length_map]; exact hn) hls.1 (by show List.map zv _ = _; rw [List.map_append, List.map_reverse]) (lv_room (by rw [zcat_sum]; exact hcat)) hd ⟨hc, hs⟩) hSt hS2 hL hV hls h
/-- a constructor -/
theorem z_callI {f : zF} {d mc ms idx n b : Nat} {as St : List zV} {P : Option zV → zM → Prop} (hC : zCC E f d mc ms (vR (some b) :: as) M P) (hm : zMm f n) (hnone : f.2.2.2 = none) (hini : f.1.name = "<init>") (hw : Cond.methodLink own idx f.1 ∈ zT ∧ Cond.instanceMethod f.1 ∈ zT) (hd : decode cc pc = .ok (.invokespecial idx, 3)) (hn : as.length = n) (hst : as.reverse ++ vR (some b) :: S = St) (hcat : (S.map zcat).sum ≤ 8) (hR1 : d + 1 ≤ R.frames) (hR2 : 8 + (f.2.2.1 + 11) + 40 * d ≤ R.locals) (hc : ce + mc ≤ R.cells) (hs : sl + ms ≤ R.slots)
    (h : ∀ v M', P v M' → zZ cc own nm nL E R X Q (pc + 3) Lc (v.toList ++ S) M' (ce + mc) (sl + ms)) : zZ cc own nm nL E R X Q pc Lc St M ce sl := by
  subst hst
  obtain ⟨y, cb, nl, ret⟩ := f
  cases hnone
  intro hSt hM hS hL H locs ls hR hV hls
  have hS1 : zokS (vR (some b) :: as) := fun w hw => by
    rcases List.mem_cons.mp hw with e | e
    · rw [e]; trivial
    · exact hS w (List.mem_append_left _ (List.mem_reverse.mpr e))
  have hS2 : zokS S := fun w hw => hS w (List.mem_append_right _ (List.mem_cons_of_mem _ hw))
  have hts := hSt.2.2.2.2.1
  refine z_run (f := (y, cb, nl, none)) (d := d) (as := vR (some b) :: as) (va_runI (As := as.map zv) (b := b) (n := n) (bytes := cb) (maxL := nl) (Ts := zT) ⟨hSt.1, hSt.2.1, hSt.2.2.1, hSt.2.2.2.1, hts⟩ (hC hM hS1) ⟨callB_of n hts (zT_good hm.2.1) rfl rfl rfl (hts _ hm.1) (hts _ hw.1) hm.2.2.1 ⟨hR1, hR2⟩, hini, hts _ hw.2⟩ ⟨zPc_blind, fun U hU hW => ⟨rfl, by rw [hU]; exact hR, zKn_moved hW.alike hSt.2.2.2.2.2.1⟩⟩ rfl (by rw [List.length_map]; exact hn) hls.1 (by show List.map zv _ = _; rw [List.map_append, List.map_reverse]; rfl) (lv_room (by rw [zcat_sum]; exact hcat)) hd ⟨hc, hs⟩) hSt hS2 hL hV hls h
/-- a nest mate's private constructor -/
theorem z_callIN {f : zF} {d mc ms idx n b : Nat} {host : String} {as St : List zV} {P : Option zV → zM → Prop} (hC : zCC E f d mc ms (vR (some b) :: as) M P) (hm : zMm f n) (hnone : f.2.2.2 = none) (hini : f.1.name = "<init>") (hw : Cond.methodLinkNest own idx f.1 host ∈ zT ∧ Cond.instanceMethod f.1 ∈ zT) (hd : decode cc pc = .ok (.invokespecial idx, 3)) (hn : as.length = n) (hst : as.reverse ++ vR (some b) :: S = St) (hcat : (S.map zcat).sum ≤ 8) (hR1 : d + 1 ≤ R.frames) (hR2 : 8 + (f.2.2.1 + 11) + 40 * d ≤ R.locals) (hc : ce + mc ≤ R.cells) (hs : sl + ms ≤ R.slots)
    (h : ∀ v M', P v M' → zZ cc own nm nL E R X Q (pc + 3) Lc (v.toList ++ S) M' (ce + mc) (sl + ms)) : zZ cc own nm nL E R X Q pc Lc St M ce sl := by
  subst hst
  obtain ⟨y, cb, nl, ret⟩ := f
  cases hnone
  intro hSt hM hS hL H locs ls hR hV hls
  have hS1 : zokS (vR (some b) :: as) := fun w hw => by
    rcases List.mem_cons.mp hw with e | e
    · rw [e]; trivial
    · exact hS w (List.mem_append_left _ (List.mem_reverse.mpr e))
  have hS2 : zokS S := fun w hw => hS w (List.mem_append_right _ (List.mem_cons_of_mem _ hw))
  have hts := hSt.2.2.2.2.1
  refine z_run (f := (y, cb, nl, none)) (d := d) (as := vR (some b) :: as) (va_runIN (As := as.map zv) (b := b) (n := n) (bytes := cb) (maxL := nl) (Ts := zT) (host := host) ⟨hSt.1, hSt.2.1, hSt.2.2.1, hSt.2.2.2.1, hts⟩ (hC hM hS1) ⟨va_cnB n hts (zT_good hm.2.1) rfl rfl rfl (va_Nw.of rfl (hts _ hw.1)) (hts _ hm.1) hm.2.2.1 ⟨hR1, hR2⟩, hini, hts _ hw.2⟩ ⟨zPc_blind, fun U hU hW => ⟨rfl, by rw [hU]; exact hR, zKn_moved hW.alike hSt.2.2.2.2.2.1⟩⟩ rfl (by rw [List.length_map]; exact hn) hls.1 (by show List.map zv _ = _; rw [List.map_append, List.map_reverse]; rfl) (lv_room (by rw [zcat_sum]; exact hcat)) hd ⟨hc, hs⟩) hSt hS2 hL hV hls h
theorem z_objInit {idx b : Nat} (hw : Cond.methodLink own idx Lib.objectInit ∈ zT ∧ Cond.instanceMethod Lib.objectInit ∈ zT ∧ Cond.code Lib.objectInit ⟨#[0xb1]⟩ 1 none ∈ zT) (hd : decode cc pc = .ok (.invokespecial idx, 3)) (hcat : (S.map zcat).sum ≤ 8) (hR1 : 1 ≤ R.frames) (hR2 : 20 ≤ R.locals) (h : zZ cc own nm nL E R X Q (pc + 3) Lc S M ce sl) : zZ cc own nm nL E R X Q pc Lc (vR (some b) :: S) M ce sl := by
  intro hSt hM hS hL H locs ls hR hV hls
  have hts := hSt.2.2.2.2.1
  have hlr := lv_room (m := xm X) (pc := pc) (ls := ls) (rest := (vR (some b) :: S).map zv) (st := S.map zv) (by rw [zcat_sum]; exact hcat)
  refine W.objInit hSt.1 hSt.2.1 hSt.2.2.2.1 (hts _ hw.1) (hts _ hw.2.1) (hts _ hw.2.2) rfl (by rw [hSt.2.2.1]; exact hls.1) (rest := S.map zv) rfl hd hR1 (by omega) ?_
  exact h hSt hM (zokS_tl hS) hL H locs ls hR hV hls
theorem z_max {idx : Nat} {x y : Int} (hw : Cond.methodLink own idx Lib.Math.max.name ∈ zT ∧ Cond.static Lib.Math.max.name ∈ zT ∧ Cond.initialized "java/lang/Math" ∈ zT ∧ Cond.code Lib.Math.max.name Lib.Math.max.code 2 (some .int) ∈ zT) (hd : decode cc pc = .ok (.invokestatic idx, 3)) (hcat : (S.map zcat).sum ≤ 8) (hR1 : 1 ≤ R.frames) (hR2 : 21 ≤ R.locals) (hc : ce ≤ R.cells) (hs : sl ≤ R.slots) (h : zZ cc own nm nL E R X Q (pc + 3) Lc (vI (max x y) :: S) M ce sl) : zZ cc own nm nL E R X Q pc Lc (vI y :: vI x :: S) M ce sl := by
  intro hSt hM hS hL H locs ls hR hV hls
  have hx : zin x := zokS_hd (zokS_tl hS)
  have hy : zin y := zokS_hd hS
  have hts := hSt.2.2.2.2.1
  refine va_mmax hSt.1 hSt.2.1 (by rw [hSt.2.2.1]; exact hls.1.symm) hSt.2.2.2.1 (hts _ hw.1) (hts _ hw.2.1) (hts _ hw.2.2.1) (hts _ hw.2.2.2) hR1 (by rw [zcat_sum]; omega) hc hs hd ?_
  have e : (if Int32.ofInt x < Int32.ofInt y then Int32.ofInt y else Int32.ofInt x) = Int32.ofInt (max x y) := by
    by_cases q : x < y
    · rw [if_pos ((zi_lt hx hy).mpr q), Int.max_def, if_pos (by omega)]
    · rw [if_neg (fun z => q ((zi_lt hx hy).mp z)), Int.max_def]
      by_cases q2 : x ≤ y
      · rw [if_pos q2, show x = y by omega]
      · rw [if_neg q2]
  rw [e]
  exact h hSt hM (zokS_cons (by show zin _; unfold zin at *; omega) (zokS_tl (zokS_tl hS))) hL H locs ls hR hV hls
theorem z_min {idx : Nat} {x y : Int} (hw : Cond.methodLink own idx Lib.Math.min.name ∈ zT ∧ Cond.static Lib.Math.min.name ∈ zT ∧ Cond.initialized "java/lang/Math" ∈ zT ∧ Cond.code Lib.Math.min.name Lib.Math.min.code 2 (some .int) ∈ zT) (hd : decode cc pc = .ok (.invokestatic idx, 3)) (hcat : (S.map zcat).sum ≤ 8) (hR1 : 1 ≤ R.frames) (hR2 : 21 ≤ R.locals) (hc : ce ≤ R.cells) (hs : sl ≤ R.slots) (h : zZ cc own nm nL E R X Q (pc + 3) Lc (vI (min x y) :: S) M ce sl) : zZ cc own nm nL E R X Q pc Lc (vI y :: vI x :: S) M ce sl := by
  intro hSt hM hS hL H locs ls hR hV hls
  have hx : zin x := zokS_hd (zokS_tl hS)
  have hy : zin y := zokS_hd hS
  have hts := hSt.2.2.2.2.1
  refine va_mmin hSt.1 hSt.2.1 (by rw [hSt.2.2.1]; exact hls.1.symm) hSt.2.2.2.1 (hts _ hw.1) (hts _ hw.2.1) (hts _ hw.2.2.1) (hts _ hw.2.2.2) hR1 (by rw [zcat_sum]; omega) hc hs hd ?_
  have e : (if Int32.ofInt y < Int32.ofInt x then Int32.ofInt y else Int32.ofInt x) = Int32.ofInt (min x y) := by
    by_cases q : y < x
    · rw [if_pos ((zi_lt hy hx).mpr q), Int.min_def, if_neg (by omega)]
    · rw [if_neg (fun z => q ((zi_lt hy hx).mp z)), Int.min_def, if_pos (by omega)]
  rw [e]
  exact h hSt hM (zokS_cons (by show zin _; unfold zin at *; omega) (zokS_tl (zokS_tl hS))) hL H locs ls hR hV hls
end ZC
end
section
/-! ===== bits, fewer locals, more ===== -/
theorem zi_of_nat (n : Nat) : Int32.ofInt (n : Int) = nI n := Int32.ofInt_eq_ofNat
theorem zi_and (a b : Nat) : nI a &&& nI b = nI (a &&& b) := by
  apply Int32.toBitVec_inj.1
  show BitVec.ofNat 32 a &&& BitVec.ofNat 32 b = BitVec.ofNat 32 (a &&& b)
  apply BitVec.eq_of_getLsbD_eq
  intro i hi
  simp [hi]
theorem zi_or (a b : Nat) : nI a ||| nI b = nI (a ||| b) := by
  apply Int32.toBitVec_inj.1
  show BitVec.ofNat 32 a ||| BitVec.ofNat 32 b = BitVec.ofNat 32 (a ||| b)
  apply BitVec.eq_of_getLsbD_eq
  intro i hi
  simp [hi]
def zand (x y : Int) : Int := ((x.toNat &&& y.toNat : Nat) : Int)
def zor (x y : Int) : Int := ((x.toNat ||| y.toNat : Nat) : Int)
def zshr (x y : Int) : Int := ((x.toNat >>> y.toNat : Nat) : Int)
def zpw (y : Int) : Int := ((2 ^ y.toNat : Nat) : Int)
def zbit (y : Int) : Int64 := (1 : Int64) <<< ((Int32.ofInt y).toInt64 &&& 63)
theorem zand_le {x y : Int} (h : 0 ≤ x) : zand x y ≤ x := by
  unfold zand
  have := Nat.and_le_left (n := x.toNat) (m := y.toNat)
  omega
section ZB
variable {cc : ByteArray} {own nm : String} {nL : Nat} {E : zE} {R : Room} {X : zX} {Q : State → Prop} {pc : Nat} {Lc : List (Nat × zV)} {S : List zV} {M : zM} {ce sl : Nat}
theorem z_sub {Lc' : List (Nat × zV)} (ks : List Nat) (hl : ks.filterMap (fun k => Lc'[k]?) = Lc) (h : zZ cc own nm nL E R X Q pc Lc S M ce sl) : zZ cc own nm nL E R X Q pc Lc' S M ce sl := by
  subst hl
  intro hSt hM hS hL H locs ls hR hV hls
  have hm : ∀ q ∈ ks.filterMap (fun k => Lc'[k]?), q ∈ Lc' := fun q hq => by
    obtain ⟨k, -, hk⟩ := List.mem_filterMap.mp hq
    exact List.mem_of_getElem? hk
  refine h hSt hM hS (fun q hq => hL q (hm q hq)) H locs ls hR hV ⟨hls.1, hls.2.1, fun q hq => ?_⟩
  unfold zlv at hq
  obtain ⟨q', h1, rfl⟩ := List.mem_map.mp hq
  exact hls.2.2 _ (List.mem_map.mpr ⟨q', hm q' h1, rfl⟩)
theorem z_iand {x y : Int} (hd : decode cc pc = .ok (.iand, 1)) (hx0 : 0 ≤ x) (hy0 : 0 ≤ y) (h : zZ cc own nm nL E R X Q (pc + 1) Lc (vI (zand x y) :: S) M ce sl) : zZ cc own nm nL E R X Q pc Lc (vI y :: vI x :: S) M ce sl := by
  intro hSt hM hS hL H locs ls hR hV hls
  have hx : zin x := zokS_hd (zokS_tl hS)
  refine lv_iand hSt.1 hSt.2.1 hd ?_
  have e : Int32.ofInt x &&& Int32.ofInt y = Int32.ofInt (zand x y) := by
    unfold zand
    rw [zi_of_nat, ← zi_and, ← zi_of_nat, ← zi_of_nat, Int.toNat_of_nonneg hx0, Int.toNat_of_nonneg hy0]
  rw [e]
  refine h hSt hM (zokS_cons ?_ (zokS_tl (zokS_tl hS))) hL H locs ls hR hV hls
  show zin _
  have := zand_le (y := y) hx0
  have h0 : 0 ≤ zand x y := by unfold zand; omega
  unfold zin at *
  omega
theorem z_ior {x y : Int} (hd : decode cc pc = .ok (.ior, 1)) (hx0 : 0 ≤ x) (hy0 : 0 ≤ y) (h : zZ cc own nm nL E R X Q (pc + 1) Lc (vI (zor x y) :: S) M ce sl) : zZ cc own nm nL E R X Q pc Lc (vI y :: vI x :: S) M ce sl := by
  intro hSt hM hS hL H locs ls hR hV hls
  have hx : zin x := zokS_hd (zokS_tl hS)
  have hy : zin y := zokS_hd hS
  refine lv_ior hSt.1 hSt.2.1 hd ?_
  have e : Int32.ofInt x ||| Int32.ofInt y = Int32.ofInt (zor x y) := by
    unfold zor
    rw [zi_of_nat, ← zi_or, ← zi_of_nat, ← zi_of_nat, Int.toNat_of_nonneg hx0, Int.toNat_of_nonneg hy0]
  rw [e]
  refine h hSt hM (zokS_cons ?_ (zokS_tl (zokS_tl hS))) hL H locs ls hR hV hls
  show zin _
  have : x.toNat ||| y.toNat < 2 ^ 31 := Nat.or_lt_two_pow (by unfold zin at hx; omega) (by unfold zin at hy; omega)
  unfold zin zor
  omega
theorem z_ishl {y : Int} (hd : decode cc pc = .ok (.ishl, 1)) (hy0 : 0 ≤ y) (hy1 : y < 31) (h : zZ cc own nm nL E R X Q (pc + 1) Lc (vI (zpw y) :: S) M ce sl) : zZ cc own nm nL E R X Q pc Lc (vI y :: vI 1 :: S) M ce sl := by
  intro hSt hM hS hL H locs ls hR hV hls
  refine lv_ishl hSt.1 hSt.2.1 hd ?_
  obtain ⟨n, rfl⟩ : ∃ n : Nat, y = (n : Int) := ⟨y.toNat, by omega⟩
  have hn : n < 31 := by omega
  have key : ∀ k : Nat, k < 31 → Int32.ofInt 1 <<< (Int32.ofInt (k : Int) &&& 31) = Int32.ofInt (zpw (k : Int)) ∧ zin (zpw (k : Int)) := by
    unfold zin zpw
    decide +kernel
  rw [(key n hn).1]
  exact h hSt hM (zokS_cons (key n hn).2 (zokS_tl (zokS_tl hS))) hL H locs ls hR hV hls
/-- of small numbers alone -/
theorem z_ishr {x y : Int} (hd : decode cc pc = .ok (.ishr, 1)) (hx0 : 0 ≤ x) (hx1 : x < 8) (hy0 : 0 ≤ y) (hy1 : y < 3) (h : zZ cc own nm nL E R X Q (pc + 1) Lc (vI (zshr x y) :: S) M ce sl) : zZ cc own nm nL E R X Q pc Lc (vI y :: vI x :: S) M ce sl := by
  intro hSt hM hS hL H locs ls hR hV hls
  refine lv_ishr hSt.1 hSt.2.1 hd ?_
  obtain ⟨n, rfl⟩ : ∃ n : Nat, y = (n : Int) := ⟨y.toNat, by omega⟩
  obtain ⟨k, rfl⟩ : ∃ n : Nat, x = (n : Int) := ⟨x.toNat, by omega⟩
  have key : ∀ k : Nat, k < 8 → ∀ n : Nat, n < 3 → Int32.ofInt (k : Int) >>> (Int32.ofInt (n : Int) &&& 31) = Int32.ofInt (zshr (k : Int) (n : Int)) ∧ zin (zshr (k : Int) (n : Int)) := by
    unfold zin zshr
    decide +kernel
  rw [(key k (by omega) n (by omega)).1]
  exact h hSt hM (zokS_cons (key k (by omega) n (by omega)).2 (zokS_tl (zokS_tl hS))) hL H locs ls hR hV hls
theorem z_lshl {y : Int} (hd : decode cc pc = .ok (.lshl, 1)) (h : zZ cc own nm nL E R X Q (pc + 1) Lc (vL (zbit y) :: S) M ce sl) : zZ cc own nm nL E R X Q pc Lc (vI y :: vL 1 :: S) M ce sl := by
  intro hSt hM hS hL H locs ls hR hV hls
  refine lv_lshl hSt.1 hSt.2.1 hd rfl ?_
  exact h hSt hM (zokS_cons trivial (zokS_tl (zokS_tl hS))) hL H locs ls hR hV hls
theorem z_ladd {x y : Int64} (hd : decode cc pc = .ok (.ladd, 1)) (h : zZ cc own nm nL E R X Q (pc + 1) Lc (vL (x + y) :: S) M ce sl) : zZ cc own nm nL E R X Q pc Lc (vL y :: vL x :: S) M ce sl := by
  intro hSt hM hS hL H locs ls hR hV hls
  refine lv_ladd hSt.1 hSt.2.1 hd ?_
  exact h hSt hM (zokS_cons trivial (zokS_tl (zokS_tl hS))) hL H locs ls hR hV hls
theorem z_lsub {x y : Int64} (hd : decode cc pc = .ok (.lsub, 1)) (h : zZ cc own nm nL E R X Q (pc + 1) Lc (vL (x - y) :: S) M ce sl) : zZ cc own nm nL E R X Q pc Lc (vL y :: vL x :: S) M ce sl := by
  intro hSt hM hS hL H locs ls hR hV hls
  refine lv_lsub hSt.1 hSt.2.1 hd ?_
  exact h hSt hM (zokS_cons trivial (zokS_tl (zokS_tl hS))) hL H locs ls hR hV hls
theorem z_lushr {x : Int64} {y : Int} (hd : decode cc pc = .ok (.lushr, 1)) (h : zZ cc own nm nL E R X Q (pc + 1) Lc (vL (x.toUInt64 >>> ((Int32.ofInt y).toInt64.toUInt64 &&& Int64.toUInt64 63)).toInt64 :: S) M ce sl) : zZ cc own nm nL E R X Q pc Lc (vI y :: vL x :: S) M ce sl := by
  intro hSt hM hS hL H locs ls hR hV hls
  refine lv_lushr hSt.1 hSt.2.1 hd rfl ?_
  exact h hSt hM (zokS_cons trivial (zokS_tl (zokS_tl hS))) hL H locs ls hR hV hls
theorem z_l2i {x : Int64} (hd : decode cc pc = .ok (.l2i, 1)) (h : zZ cc own nm nL E R X Q (pc + 1) Lc (vI x.toInt32.toInt :: S) M ce sl) : zZ cc own nm nL E R X Q pc Lc (vL x :: S) M ce sl := by
  intro hSt hM hS hL H locs ls hR hV hls
  refine lv_l2i (v := Int32.ofInt x.toInt32.toInt) hSt.1 hSt.2.1 hd (by rw [Int32.ofInt_toInt]) ?_
  refine h hSt hM (zokS_cons ?_ (zokS_tl hS)) hL H locs ls hR hV hls
  show zin _
  have h1 := x.toInt32.toInt_lt
  have h2 := x.toInt32.le_toInt
  unfold zin
  omega
theorem z_iandb {x y : Int} (hd : decode cc pc = .ok (.iand, 1)) (hb : (x = 0 ∨ x = 1) ∧ (y = 0 ∨ y = 1)) (h : zZ cc own nm nL E R X Q (pc + 1) Lc (vI (x * y) :: S) M ce sl) : zZ cc own nm nL E R X Q pc Lc (vI y :: vI x :: S) M ce sl := by
  refine z_iand hd (by omega) (by omega) ?_
  have e : zand x y = x * y := by
    rcases hb with ⟨rfl | rfl, rfl | rfl⟩ <;> rfl
  rw [e]
  exact h
theorem z_dup2 {v w : zV} (hd : decode cc pc = .ok (.dup2, 1)) (hv : zc2 v = false) (hw : zc2 w = false) (h : zZ cc own nm nL E R X Q (pc + 1) Lc (v :: w :: v :: w :: S) M ce sl) : zZ cc own nm nL E R X Q pc Lc (v :: w :: S) M ce sl := by
  have cat : ∀ u : zV, zc2 u = false → (zv u).category = 1 := fun u hu => by
    rcases lv_cat (zv u) with e | e
    · exact e
    · exact absurd hu (by rw [← zv_cat, e]; decide)
  intro hSt hM hS hL H locs ls hR hV hls
  refine lv_dup2_11 hSt.1 hSt.2.1 hd (cat v hv) (cat w hw) ?_
  exact h hSt hM (zokS_cons (zokS_hd hS) (zokS_cons (zokS_hd (zokS_tl hS)) hS)) hL H locs ls hR hV hls
theorem zr1 {d mc ms : Nat} : d + 1 ≤ (zrm (d + 1) mc ms).frames := Nat.le_refl _
theorem zr2 {d mc ms n : Nat} (h : n ≤ 20) : 8 + (n + 11) + 40 * d ≤ (zrm (d + 1) mc ms).locals := by
  show 8 + (n + 11) + 40 * d ≤ 40 * (d + 1)
  omega
theorem zr3 {d mc ms : Nat} : 1 ≤ (zrm (d + 1) mc ms).frames := by show 1 ≤ d + 1; omega
theorem zr4 {d mc ms : Nat} : 21 ≤ (zrm (d + 1) mc ms).locals := by show 21 ≤ 40 * (d + 1); omega
theorem zr5 {d mc ms : Nat} : 20 ≤ (zrm (d + 1) mc ms).locals := by show 20 ≤ 40 * (d + 1); omega
end ZB
/-! typed contracts -/
def zPi (P : Int → zM → Prop) : Option zV → zM → Prop := fun v M => ∃ r, v = some (vI r) ∧ P r M
def zPl (P : Int64 → zM → Prop) : Option zV → zM → Prop := fun v M => ∃ r, v = some (vL r) ∧ P r M
def zPr (P : Option Nat → zM → Prop) : Option zV → zM → Prop := fun v M => ∃ r, v = some (vR r) ∧ P r M
def zPv (P : zM → Prop) : Option zV → zM → Prop := fun v M => v = none ∧ P M
def zCi (E : zE) (f : zF) (d mc ms : Nat) (as : List zV) (M : zM) (P : Int → zM → Prop) : Prop := zCC E f d mc ms as M (zPi P)
def zCl (E : zE) (f : zF) (d mc ms : Nat) (as : List zV) (M : zM) (P : Int64 → zM → Prop) : Prop := zCC E f d mc ms as M (zPl P)
def zCr (E : zE) (f : zF) (d mc ms : Nat) (as : List zV) (M : zM) (P : Option Nat → zM → Prop) : Prop := zCC E f d mc ms as M (zPr P)
def zCv (E : zE) (f : zF) (d mc ms : Nat) (as : List zV) (M : zM) (P : zM → Prop) : Prop := zCC E f d mc ms as M (zPv P)
end
