section
-- ===== PART A: goes FIRST, ahead of the names: the tables' words, and 'selects' of the private methods out of them =====
/-- a private method of a class that the tables say can be made, by its rows of tables_1 -/
def lw_okq (q : MethodName × Nat) : Prop := (q.1.cls ≠ "java/lang/invoke/MethodHandle" ∧ q.1.cls ≠ "java/lang/invoke/VarHandle") ∧ Cond.instantiable q.1.cls q.2 ∈ tables_1 ∧ Cond.privateMethod q.1 ∈ tables_1 ∧ Cond.instanceMethod q.1 ∈ tables_1
theorem lw_p0 : lw_okq (⟨"RefitYard$Rules", "foesOf", "(LRefitYard$Work;)J"⟩, 5) := ⟨⟨by decide +kernel, by decide +kernel⟩, List.mem_of_getElem? (i := 108) (by decide +kernel), List.mem_of_getElem? (i := 198) (by decide +kernel), List.mem_of_getElem? (i := 199) (by decide +kernel)⟩
theorem lw_p1 : lw_okq (⟨"RefitYard", "canBe", "(LRefitYard$Work;)Z"⟩, 5) := ⟨⟨by decide +kernel, by decide +kernel⟩, List.mem_of_getElem? (i := 12) (by decide +kernel), List.mem_of_getElem? (i := 337) (by decide +kernel), List.mem_of_getElem? (i := 338) (by decide +kernel)⟩
theorem lw_p2 : lw_okq (⟨"RefitYard$Net", "rank", "()V"⟩, 6) := ⟨⟨by decide +kernel, by decide +kernel⟩, List.mem_of_getElem? (i := 47) (by decide +kernel), List.mem_of_getElem? (i := 349) (by decide +kernel), List.mem_of_getElem? (i := 350) (by decide +kernel)⟩
theorem lw_p3 : lw_okq (⟨"RefitYard$Net", "pushEarly", "(LRefitYard$Work;)V"⟩, 6) := ⟨⟨by decide +kernel, by decide +kernel⟩, List.mem_of_getElem? (i := 47) (by decide +kernel), List.mem_of_getElem? (i := 359) (by decide +kernel), List.mem_of_getElem? (i := 360) (by decide +kernel)⟩
theorem lw_p4 : lw_okq (⟨"RefitYard$Net", "pushTail", "(LRefitYard$Work;)V"⟩, 6) := ⟨⟨by decide +kernel, by decide +kernel⟩, List.mem_of_getElem? (i := 47) (by decide +kernel), List.mem_of_getElem? (i := 370) (by decide +kernel), List.mem_of_getElem? (i := 371) (by decide +kernel)⟩
theorem lw_p5 : lw_okq (⟨"RefitYard", "mayLean", "(LRefitYard$Work;LRefitYard$Work;)Z"⟩, 5) := ⟨⟨by decide +kernel, by decide +kernel⟩, List.mem_of_getElem? (i := 12) (by decide +kernel), List.mem_of_getElem? (i := 386) (by decide +kernel), List.mem_of_getElem? (i := 387) (by decide +kernel)⟩
theorem lw_p6 : lw_okq (⟨"RefitYard$Rules", "isFree", "(LRefitYard$Work;I)Z"⟩, 5) := ⟨⟨by decide +kernel, by decide +kernel⟩, List.mem_of_getElem? (i := 108) (by decide +kernel), List.mem_of_getElem? (i := 461) (by decide +kernel), List.mem_of_getElem? (i := 462) (by decide +kernel)⟩
theorem lw_p7 : lw_okq (⟨"RefitYard$Rules", "lacksHands", "(LRefitYard$Work;I)Z"⟩, 5) := ⟨⟨by decide +kernel, by decide +kernel⟩, List.mem_of_getElem? (i := 108) (by decide +kernel), List.mem_of_getElem? (i := 465) (by decide +kernel), List.mem_of_getElem? (i := 466) (by decide +kernel)⟩
theorem lw_p8 : lw_okq (⟨"RefitYard$Rules", "lacksGood", "(LRefitYard$Work;I)Z"⟩, 5) := ⟨⟨by decide +kernel, by decide +kernel⟩, List.mem_of_getElem? (i := 108) (by decide +kernel), List.mem_of_getElem? (i := 469) (by decide +kernel), List.mem_of_getElem? (i := 470) (by decide +kernel)⟩
theorem lw_p9 : lw_okq (⟨"RefitYard$Rules", "lacksRoom", "(LRefitYard$Work;I)Z"⟩, 5) := ⟨⟨by decide +kernel, by decide +kernel⟩, List.mem_of_getElem? (i := 108) (by decide +kernel), List.mem_of_getElem? (i := 474) (by decide +kernel), List.mem_of_getElem? (i := 475) (by decide +kernel)⟩
theorem lw_p10 : lw_okq (⟨"RefitYard$Rules", "meetsFoe", "(LRefitYard$Work;I)Z"⟩, 5) := ⟨⟨by decide +kernel, by decide +kernel⟩, List.mem_of_getElem? (i := 108) (by decide +kernel), List.mem_of_getElem? (i := 478) (by decide +kernel), List.mem_of_getElem? (i := 479) (by decide +kernel)⟩
theorem lw_p11 : lw_okq (⟨"RefitYard$Rules", "isBroken", "(LRefitYard$Work;II)Z"⟩, 5) := ⟨⟨by decide +kernel, by decide +kernel⟩, List.mem_of_getElem? (i := 108) (by decide +kernel), List.mem_of_getElem? (i := 497) (by decide +kernel), List.mem_of_getElem? (i := 498) (by decide +kernel)⟩
theorem lw_p12 : lw_okq (⟨"RefitYard", "partOfBreak", "(LRefitYard$Work;II)I"⟩, 5) := ⟨⟨by decide +kernel, by decide +kernel⟩, List.mem_of_getElem? (i := 12) (by decide +kernel), List.mem_of_getElem? (i := 501) (by decide +kernel), List.mem_of_getElem? (i := 502) (by decide +kernel)⟩
theorem lw_p13 : lw_okq (⟨"RefitYard", "stateOf", "(LRefitYard$Work;)I"⟩, 5) := ⟨⟨by decide +kernel, by decide +kernel⟩, List.mem_of_getElem? (i := 12) (by decide +kernel), List.mem_of_getElem? (i := 510) (by decide +kernel), List.mem_of_getElem? (i := 511) (by decide +kernel)⟩
theorem lw_p14 : lw_okq (⟨"RefitYard$Orders", "layNext", "(II)V"⟩, 5) := ⟨⟨by decide +kernel, by decide +kernel⟩, List.mem_of_getElem? (i := 132) (by decide +kernel), List.mem_of_getElem? (i := 555) (by decide +kernel), List.mem_of_getElem? (i := 556) (by decide +kernel)⟩
theorem lw_p15 : lw_okq (⟨"RefitYard$Orders", "keep", "(I)V"⟩, 5) := ⟨⟨by decide +kernel, by decide +kernel⟩, List.mem_of_getElem? (i := 132) (by decide +kernel), List.mem_of_getElem? (i := 559) (by decide +kernel), List.mem_of_getElem? (i := 560) (by decide +kernel)⟩
def lw_privs_1 : List (MethodName × Nat) := [(⟨"RefitYard$Rules", "foesOf", "(LRefitYard$Work;)J"⟩, 5), (⟨"RefitYard", "canBe", "(LRefitYard$Work;)Z"⟩, 5), (⟨"RefitYard$Net", "rank", "()V"⟩, 6), (⟨"RefitYard$Net", "pushEarly", "(LRefitYard$Work;)V"⟩, 6), (⟨"RefitYard$Net", "pushTail", "(LRefitYard$Work;)V"⟩, 6), (⟨"RefitYard", "mayLean", "(LRefitYard$Work;LRefitYard$Work;)Z"⟩, 5), (⟨"RefitYard$Rules", "isFree", "(LRefitYard$Work;I)Z"⟩, 5), (⟨"RefitYard$Rules", "lacksHands", "(LRefitYard$Work;I)Z"⟩, 5), (⟨"RefitYard$Rules", "lacksGood", "(LRefitYard$Work;I)Z"⟩, 5), (⟨"RefitYard$Rules", "lacksRoom", "(LRefitYard$Work;I)Z"⟩, 5), (⟨"RefitYard$Rules", "meetsFoe", "(LRefitYard$Work;I)Z"⟩, 5), (⟨"RefitYard$Rules", "isBroken", "(LRefitYard$Work;II)Z"⟩, 5), (⟨"RefitYard", "partOfBreak", "(LRefitYard$Work;II)I"⟩, 5), (⟨"RefitYard", "stateOf", "(LRefitYard$Work;)I"⟩, 5), (⟨"RefitYard$Orders", "layNext", "(II)V"⟩, 5), (⟨"RefitYard$Orders", "keep", "(I)V"⟩, 5)]
theorem lw_r1 : ∀ q ∈ lw_privs_1, lw_okq q := List.forall_mem_cons.mpr ⟨lw_p0, List.forall_mem_cons.mpr ⟨lw_p1, List.forall_mem_cons.mpr ⟨lw_p2, List.forall_mem_cons.mpr ⟨lw_p3, List.forall_mem_cons.mpr ⟨lw_p4, List.forall_mem_cons.mpr ⟨lw_p5, List.forall_mem_cons.mpr ⟨lw_p6, List.forall_mem_cons.mpr ⟨lw_p7, List.forall_mem_cons.mpr ⟨lw_p8, List.forall_mem_cons.mpr ⟨lw_p9, List.forall_mem_cons.mpr ⟨lw_p10, List.forall_mem_cons.mpr ⟨lw_p11, List.forall_mem_cons.mpr ⟨lw_p12, List.forall_mem_cons.mpr ⟨lw_p13, List.forall_mem_cons.mpr ⟨lw_p14, List.forall_mem_cons.mpr ⟨lw_p15, fun _ h => absurd h List.not_mem_nil⟩⟩⟩⟩⟩⟩⟩⟩⟩⟩⟩⟩⟩⟩⟩⟩
theorem lw_p16 : lw_okq (⟨"RefitYard$Orders", "layAndGoOn", "(LRefitYard$Work;II)V"⟩, 5) := ⟨⟨by decide +kernel, by decide +kernel⟩, List.mem_of_getElem? (i := 132) (by decide +kernel), List.mem_of_getElem? (i := 565) (by decide +kernel), List.mem_of_getElem? (i := 566) (by decide +kernel)⟩
theorem lw_p17 : lw_okq (⟨"RefitYard$Net", "lengthOf", "(J)I"⟩, 6) := ⟨⟨by decide +kernel, by decide +kernel⟩, List.mem_of_getElem? (i := 47) (by decide +kernel), List.mem_of_getElem? (i := 598) (by decide +kernel), List.mem_of_getElem? (i := 599) (by decide +kernel)⟩
theorem lw_p18 : lw_okq (⟨"RefitYard$Net", "needersOf", "(J)J"⟩, 6) := ⟨⟨by decide +kernel, by decide +kernel⟩, List.mem_of_getElem? (i := 47) (by decide +kernel), List.mem_of_getElem? (i := 624) (by decide +kernel), List.mem_of_getElem? (i := 625) (by decide +kernel)⟩
theorem lw_p19 : lw_okq (⟨"RefitYardModel", "canNeed", "(II)Z"⟩, 25) := ⟨⟨by decide +kernel, by decide +kernel⟩, List.mem_of_getElem? (i := 644) (by decide +kernel), List.mem_of_getElem? (i := 759) (by decide +kernel), List.mem_of_getElem? (i := 760) (by decide +kernel)⟩
theorem lw_p20 : lw_okq (⟨"RefitYardModel", "isWork", "(I)Z"⟩, 25) := ⟨⟨by decide +kernel, by decide +kernel⟩, List.mem_of_getElem? (i := 644) (by decide +kernel), List.mem_of_getElem? (i := 763) (by decide +kernel), List.mem_of_getElem? (i := 764) (by decide +kernel)⟩
theorem lw_p21 : lw_okq (⟨"RefitYardModel", "isBegun", "(I)Z"⟩, 25) := ⟨⟨by decide +kernel, by decide +kernel⟩, List.mem_of_getElem? (i := 644) (by decide +kernel), List.mem_of_getElem? (i := 767) (by decide +kernel), List.mem_of_getElem? (i := 768) (by decide +kernel)⟩
theorem lw_p22 : lw_okq (⟨"RefitYardModel", "isPut", "(I)Z"⟩, 25) := ⟨⟨by decide +kernel, by decide +kernel⟩, List.mem_of_getElem? (i := 644) (by decide +kernel), List.mem_of_getElem? (i := 771) (by decide +kernel), List.mem_of_getElem? (i := 772) (by decide +kernel)⟩
theorem lw_p23 : lw_okq (⟨"RefitYardModel", "hangs", "(II)Z"⟩, 25) := ⟨⟨by decide +kernel, by decide +kernel⟩, List.mem_of_getElem? (i := 644) (by decide +kernel), List.mem_of_getElem? (i := 775) (by decide +kernel), List.mem_of_getElem? (i := 776) (by decide +kernel)⟩
theorem lw_p24 : lw_okq (⟨"RefitYardModel", "breaks", "(II)I"⟩, 25) := ⟨⟨by decide +kernel, by decide +kernel⟩, List.mem_of_getElem? (i := 644) (by decide +kernel), List.mem_of_getElem? (i := 795) (by decide +kernel), List.mem_of_getElem? (i := 796) (by decide +kernel)⟩
theorem lw_p25 : lw_okq (⟨"RefitYardModel", "endOf", "(I)I"⟩, 25) := ⟨⟨by decide +kernel, by decide +kernel⟩, List.mem_of_getElem? (i := 644) (by decide +kernel), List.mem_of_getElem? (i := 799) (by decide +kernel), List.mem_of_getElem? (i := 800) (by decide +kernel)⟩
theorem lw_p26 : lw_okq (⟨"RefitYardModel", "isBroken", "(III)Z"⟩, 25) := ⟨⟨by decide +kernel, by decide +kernel⟩, List.mem_of_getElem? (i := 644) (by decide +kernel), List.mem_of_getElem? (i := 803) (by decide +kernel), List.mem_of_getElem? (i := 804) (by decide +kernel)⟩
theorem lw_p27 : lw_okq (⟨"RefitYardModel", "isIn", "(II)Z"⟩, 25) := ⟨⟨by decide +kernel, by decide +kernel⟩, List.mem_of_getElem? (i := 644) (by decide +kernel), List.mem_of_getElem? (i := 807) (by decide +kernel), List.mem_of_getElem? (i := 808) (by decide +kernel)⟩
theorem lw_p28 : lw_okq (⟨"RefitYardModel", "isBarred", "(II)Z"⟩, 25) := ⟨⟨by decide +kernel, by decide +kernel⟩, List.mem_of_getElem? (i := 644) (by decide +kernel), List.mem_of_getElem? (i := 811) (by decide +kernel), List.mem_of_getElem? (i := 812) (by decide +kernel)⟩
theorem lw_p29 : lw_okq (⟨"RefitYardModel", "isBad", "(I)Z"⟩, 25) := ⟨⟨by decide +kernel, by decide +kernel⟩, List.mem_of_getElem? (i := 644) (by decide +kernel), List.mem_of_getElem? (i := 819) (by decide +kernel), List.mem_of_getElem? (i := 820) (by decide +kernel)⟩
theorem lw_p30 : lw_okq (⟨"RefitYardModel", "way", "()I"⟩, 25) := ⟨⟨by decide +kernel, by decide +kernel⟩, List.mem_of_getElem? (i := 644) (by decide +kernel), List.mem_of_getElem? (i := 832) (by decide +kernel), List.mem_of_getElem? (i := 833) (by decide +kernel)⟩
theorem lw_p31 : lw_okq (⟨"RefitYardModel", "slack", "(II)I"⟩, 25) := ⟨⟨by decide +kernel, by decide +kernel⟩, List.mem_of_getElem? (i := 644) (by decide +kernel), List.mem_of_getElem? (i := 840) (by decide +kernel), List.mem_of_getElem? (i := 841) (by decide +kernel)⟩
def lw_privs_2 : List (MethodName × Nat) := [(⟨"RefitYard$Orders", "layAndGoOn", "(LRefitYard$Work;II)V"⟩, 5), (⟨"RefitYard$Net", "lengthOf", "(J)I"⟩, 6), (⟨"RefitYard$Net", "needersOf", "(J)J"⟩, 6), (⟨"RefitYardModel", "canNeed", "(II)Z"⟩, 25), (⟨"RefitYardModel", "isWork", "(I)Z"⟩, 25), (⟨"RefitYardModel", "isBegun", "(I)Z"⟩, 25), (⟨"RefitYardModel", "isPut", "(I)Z"⟩, 25), (⟨"RefitYardModel", "hangs", "(II)Z"⟩, 25), (⟨"RefitYardModel", "breaks", "(II)I"⟩, 25), (⟨"RefitYardModel", "endOf", "(I)I"⟩, 25), (⟨"RefitYardModel", "isBroken", "(III)Z"⟩, 25), (⟨"RefitYardModel", "isIn", "(II)Z"⟩, 25), (⟨"RefitYardModel", "isBarred", "(II)Z"⟩, 25), (⟨"RefitYardModel", "isBad", "(I)Z"⟩, 25), (⟨"RefitYardModel", "way", "()I"⟩, 25), (⟨"RefitYardModel", "slack", "(II)I"⟩, 25)]
theorem lw_r2 : ∀ q ∈ lw_privs_2, lw_okq q := List.forall_mem_cons.mpr ⟨lw_p16, List.forall_mem_cons.mpr ⟨lw_p17, List.forall_mem_cons.mpr ⟨lw_p18, List.forall_mem_cons.mpr ⟨lw_p19, List.forall_mem_cons.mpr ⟨lw_p20, List.forall_mem_cons.mpr ⟨lw_p21, List.forall_mem_cons.mpr ⟨lw_p22, List.forall_mem_cons.mpr ⟨lw_p23, List.forall_mem_cons.mpr ⟨lw_p24, List.forall_mem_cons.mpr ⟨lw_p25, List.forall_mem_cons.mpr ⟨lw_p26, List.forall_mem_cons.mpr ⟨lw_p27, List.forall_mem_cons.mpr ⟨lw_p28, List.forall_mem_cons.mpr ⟨lw_p29, List.forall_mem_cons.mpr ⟨lw_p30, List.forall_mem_cons.mpr ⟨lw_p31, fun _ h => absurd h List.not_mem_nil⟩⟩⟩⟩⟩⟩⟩⟩⟩⟩⟩⟩⟩⟩⟩⟩
theorem lw_p32 : lw_okq (⟨"RefitYardModel", "isReady", "(I)Z"⟩, 25) := ⟨⟨by decide +kernel, by decide +kernel⟩, List.mem_of_getElem? (i := 644) (by decide +kernel), List.mem_of_getElem? (i := 844) (by decide +kernel), List.mem_of_getElem? (i := 845) (by decide +kernel)⟩
theorem lw_p33 : lw_okq (⟨"RefitYardModel", "isDone", "(I)Z"⟩, 25) := ⟨⟨by decide +kernel, by decide +kernel⟩, List.mem_of_getElem? (i := 644) (by decide +kernel), List.mem_of_getElem? (i := 866) (by decide +kernel), List.mem_of_getElem? (i := 867) (by decide +kernel)⟩
theorem lw_p34 : lw_okq (⟨"RefitYardModel", "stateOf", "(I)I"⟩, 25) := ⟨⟨by decide +kernel, by decide +kernel⟩, List.mem_of_getElem? (i := 644) (by decide +kernel), List.mem_of_getElem? (i := 878) (by decide +kernel), List.mem_of_getElem? (i := 879) (by decide +kernel)⟩
def lw_privs_3 : List (MethodName × Nat) := [(⟨"RefitYardModel", "isReady", "(I)Z"⟩, 25), (⟨"RefitYardModel", "isDone", "(I)Z"⟩, 25), (⟨"RefitYardModel", "stateOf", "(I)I"⟩, 25)]
theorem lw_r3 : ∀ q ∈ lw_privs_3, lw_okq q := List.forall_mem_cons.mpr ⟨lw_p32, List.forall_mem_cons.mpr ⟨lw_p33, List.forall_mem_cons.mpr ⟨lw_p34, fun _ h => absurd h List.not_mem_nil⟩⟩⟩
def lw_privs : List (MethodName × Nat) := lw_privs_1 ++ (lw_privs_2 ++ (lw_privs_3))
def lw_tbl : List Cond := k2_sels lw_privs ++ tables_1
theorem lw_privs_ok : ∀ q ∈ lw_privs, lw_okq q := by
  show ∀ q ∈ lw_privs_1 ++ (lw_privs_2 ++ (lw_privs_3)), lw_okq q
  exact List.forall_mem_append.mpr ⟨lw_r1, List.forall_mem_append.mpr ⟨lw_r2, lw_r3⟩⟩
end
section
def RX0 : String := "RefitYard$Board"
def TX0 : u_T := fun k => match k with
  | 0 => ("RefitYard$Board", "within", "[J", true)
  | 1 => ("RefitYard$Board", "hands", "[[I", true)
  | _ => ("RefitYard$Board", "now", "I", false)
def tyX0 : Nat → FieldType := fun k => match k with
  | 0 => .array .long
  | 1 => .array (.array .int)
  | _ => .int
abbrev wsX00 : List Cond := u_ws RX0 TX0 3
theorem nmX0 : ∀ a, a < 3 → ∀ b, b < 3 → a ≠ b → (TX0 a).2.1 ≠ (TX0 b).2.1 := by decide +kernel
theorem tyX0_ok : ∀ k, k < 3 → parseFieldDescriptor (TX0 k).2.2.1 = some (tyX0 k) := by decide +kernel
abbrev cX0_init : ByteArray := prog_2_method_1_code
def yX0_init : MethodName := ⟨RX0, "<init>", "()V"⟩
abbrev cX0_lay : ByteArray := prog_2_method_2_code
def yX0_lay : MethodName := ⟨RX0, "lay", "(LRefitYard$Work;I)V"⟩
abbrev cX0_lift : ByteArray := prog_2_method_3_code
def yX0_lift : MethodName := ⟨RX0, "lift", "(LRefitYard$Work;)V"⟩
abbrev cX0_lengthen : ByteArray := prog_2_method_4_code
def yX0_lengthen : MethodName := ⟨RX0, "lengthen", "(LRefitYard$Work;I)V"⟩
def RX1 : String := "RefitYard$Ground"
def TX1 : u_T := fun k => match k with
  | 0 => ("RefitYard$Ground", "bears", "[I", true)
  | 1 => ("RefitYard$Ground", "neighbours", "[I", true)
  | 2 => ("RefitYard$Ground", "barred", "[I", true)
  | 3 => ("RefitYard$Ground", "spaces", "I", false)
  | _ => ("RefitYard$Ground", "bars", "I", false)
def tyX1 : Nat → FieldType := fun k => match k with
  | 0 => .array .int
  | 1 => .array .int
  | 2 => .array .int
  | 3 => .int
  | _ => .int
abbrev wsX10 : List Cond := u_ws RX1 TX1 5
theorem nmX1 : ∀ a, a < 5 → ∀ b, b < 5 → a ≠ b → (TX1 a).2.1 ≠ (TX1 b).2.1 := by decide +kernel
theorem tyX1_ok : ∀ k, k < 5 → parseFieldDescriptor (TX1 k).2.2.1 = some (tyX1 k) := by decide +kernel
abbrev cX1_init : ByteArray := prog_3_method_1_code
def yX1_init : MethodName := ⟨RX1, "<init>", "()V"⟩
abbrev cX1_addSpace : ByteArray := prog_3_method_2_code
def yX1_addSpace : MethodName := ⟨RX1, "addSpace", "(I)I"⟩
abbrev cX1_hasSpace : ByteArray := prog_3_method_3_code
def yX1_hasSpace : MethodName := ⟨RX1, "hasSpace", "(I)Z"⟩
abbrev cX1_areNear : ByteArray := prog_3_method_4_code
def yX1_areNear : MethodName := ⟨RX1, "areNear", "(II)Z"⟩
abbrev cX1_join : ByteArray := prog_3_method_5_code
def yX1_join : MethodName := ⟨RX1, "join", "(II)V"⟩
abbrev cX1_isBarred : ByteArray := prog_3_method_6_code
def yX1_isBarred : MethodName := ⟨RX1, "isBarred", "(III)Z"⟩
abbrev cX1_forbid : ByteArray := prog_3_method_7_code
def yX1_forbid : MethodName := ⟨RX1, "forbid", "(III)V"⟩
abbrev cX1_keepsApart : ByteArray := prog_3_method_8_code
def yX1_keepsApart : MethodName := ⟨RX1, "keepsApart", "(LRefitYard$Work;LRefitYard$Work;)Z"⟩
def RX2 : String := "RefitYard$Net"
def TX2 : u_T := fun k => match k with
  | 0 => ("RefitYard$Net", "works", "[LRefitYard$Work;", true)
  | 1 => ("RefitYard$Net", "ranked", "[I", true)
  | 2 => ("RefitYard$Net", "takers", "[J", true)
  | 3 => ("RefitYard$Net", "dwellers", "[J", true)
  | 4 => ("RefitYard$Net", "size", "I", false)
  | _ => ("RefitYard$Net", "way", "I", false)
def tyX2 : Nat → FieldType := fun k => match k with
  | 0 => .array (.object "RefitYard$Work")
  | 1 => .array .int
  | 2 => .array .long
  | 3 => .array .long
  | 4 => .int
  | _ => .int
abbrev wsX20 : List Cond := u_ws RX2 TX2 6
theorem nmX2 : ∀ a, a < 6 → ∀ b, b < 6 → a ≠ b → (TX2 a).2.1 ≠ (TX2 b).2.1 := by decide +kernel
theorem tyX2_ok : ∀ k, k < 6 → parseFieldDescriptor (TX2 k).2.2.1 = some (tyX2 k) := by decide +kernel
abbrev cX2_init : ByteArray := prog_4_method_1_code
def yX2_init : MethodName := ⟨RX2, "<init>", "()V"⟩
abbrev cX2_find : ByteArray := prog_4_method_2_code
def yX2_find : MethodName := ⟨RX2, "find", "(I)LRefitYard$Work;"⟩
abbrev cX2_addWork : ByteArray := prog_4_method_3_code
def yX2_addWork : MethodName := ⟨RX2, "addWork", "(LRefitYard$Work;)V"⟩
abbrev cX2_link : ByteArray := prog_4_method_4_code
def yX2_link : MethodName := ⟨RX2, "link", "(LRefitYard$Work;LRefitYard$Work;)V"⟩
abbrev cX2_weigh : ByteArray := prog_4_method_5_code
def yX2_weigh : MethodName := ⟨RX2, "weigh", "()V"⟩
abbrev cX2_rank : ByteArray := prog_4_method_6_code
def yX2_rank : MethodName := ⟨RX2, "rank", "()V"⟩
abbrev cX2_pushEarly : ByteArray := prog_4_method_7_code
def yX2_pushEarly : MethodName := ⟨RX2, "pushEarly", "(LRefitYard$Work;)V"⟩
abbrev cX2_pushTail : ByteArray := prog_4_method_8_code
def yX2_pushTail : MethodName := ⟨RX2, "pushTail", "(LRefitYard$Work;)V"⟩
abbrev cX2_slackOf : ByteArray := prog_4_method_9_code
def yX2_slackOf : MethodName := ⟨RX2, "slackOf", "(LRefitYard$Work;)I"⟩
abbrev cX2_allThatArePut : ByteArray := prog_4_method_10_code
def yX2_allThatArePut : MethodName := ⟨RX2, "allThatArePut", "()J"⟩
abbrev cX2_allDone : ByteArray := prog_4_method_11_code
def yX2_allDone : MethodName := ⟨RX2, "allDone", "(I)J"⟩
abbrev cX2_mostPressing : ByteArray := prog_4_method_12_code
def yX2_mostPressing : MethodName := ⟨RX2, "mostPressing", "(J)LRefitYard$Work;"⟩
abbrev cX2_readyFrom : ByteArray := prog_4_method_13_code
def yX2_readyFrom : MethodName := ⟨RX2, "readyFrom", "(LRefitYard$Work;)I"⟩
abbrev cX2_dueBy : ByteArray := prog_4_method_14_code
def yX2_dueBy : MethodName := ⟨RX2, "dueBy", "(LRefitYard$Work;)I"⟩
abbrev cX2_openedWith : ByteArray := prog_4_method_15_code
def yX2_openedWith : MethodName := ⟨RX2, "openedWith", "(LRefitYard$Work;I)J"⟩
abbrev cX2_needersOf : ByteArray := prog_4_method_16_code
def yX2_needersOf : MethodName := ⟨RX2, "needersOf", "(J)J"⟩
abbrev cX2_askedOfTrade : ByteArray := prog_4_method_17_code
def yX2_askedOfTrade : MethodName := ⟨RX2, "askedOfTrade", "(I)I"⟩
abbrev cX2_askedOfGood : ByteArray := prog_4_method_18_code
def yX2_askedOfGood : MethodName := ⟨RX2, "askedOfGood", "(I)I"⟩
abbrev cX2_askedOfSpace : ByteArray := prog_4_method_19_code
def yX2_askedOfSpace : MethodName := ⟨RX2, "askedOfSpace", "(I)I"⟩
abbrev cX2_lengthOf : ByteArray := prog_4_method_20_code
def yX2_lengthOf : MethodName := ⟨RX2, "lengthOf", "(J)I"⟩
def RX3 : String := "RefitYard$Orders"
def TX3 : u_T := fun k => match k with
  | 0 => ("RefitYard$Orders", "places", "[I", true)
  | 1 => ("RefitYard$Orders", "net", "LRefitYard$Net;", true)
  | 2 => ("RefitYard$Orders", "board", "LRefitYard$Board;", true)
  | 3 => ("RefitYard$Orders", "rules", "LRefitYard$Rules;", true)
  | _ => ("RefitYard$Orders", "soonest", "I", false)
def tyX3 : Nat → FieldType := fun k => match k with
  | 0 => .array .int
  | 1 => .object "RefitYard$Net"
  | 2 => .object "RefitYard$Board"
  | 3 => .object "RefitYard$Rules"
  | _ => .int
abbrev wsX30 : List Cond := u_ws RX3 TX3 5
theorem nmX3 : ∀ a, a < 5 → ∀ b, b < 5 → a ≠ b → (TX3 a).2.1 ≠ (TX3 b).2.1 := by decide +kernel
theorem tyX3_ok : ∀ k, k < 5 → parseFieldDescriptor (TX3 k).2.2.1 = some (tyX3 k) := by decide +kernel
abbrev cX3_init : ByteArray := prog_5_method_1_code
def yX3_init : MethodName := ⟨RX3, "<init>", "(LRefitYard$Net;LRefitYard$Board;LRefitYard$Rules;)V"⟩
abbrev cX3_layBest : ByteArray := prog_5_method_2_code
def yX3_layBest : MethodName := ⟨RX3, "layBest", "()I"⟩
abbrev cX3_layNext : ByteArray := prog_5_method_3_code
def yX3_layNext : MethodName := ⟨RX3, "layNext", "(II)V"⟩
abbrev cX3_layAndGoOn : ByteArray := prog_5_method_4_code
def yX3_layAndGoOn : MethodName := ⟨RX3, "layAndGoOn", "(LRefitYard$Work;II)V"⟩
abbrev cX3_keep : ByteArray := prog_5_method_5_code
def yX3_keep : MethodName := ⟨RX3, "keep", "(I)V"⟩
def RX4 : String := "RefitYard$Rules"
def TX4 : u_T := fun k => match k with
  | 0 => ("RefitYard$Rules", "gangs", "[I", true)
  | 1 => ("RefitYard$Rules", "goods", "[I", true)
  | 2 => ("RefitYard$Rules", "ground", "LRefitYard$Ground;", true)
  | 3 => ("RefitYard$Rules", "net", "LRefitYard$Net;", true)
  | _ => ("RefitYard$Rules", "board", "LRefitYard$Board;", true)
def tyX4 : Nat → FieldType := fun k => match k with
  | 0 => .array .int
  | 1 => .array .int
  | 2 => .object "RefitYard$Ground"
  | 3 => .object "RefitYard$Net"
  | _ => .object "RefitYard$Board"
abbrev wsX40 : List Cond := u_ws RX4 TX4 5
theorem nmX4 : ∀ a, a < 5 → ∀ b, b < 5 → a ≠ b → (TX4 a).2.1 ≠ (TX4 b).2.1 := by decide +kernel
theorem tyX4_ok : ∀ k, k < 5 → parseFieldDescriptor (TX4 k).2.2.1 = some (tyX4 k) := by decide +kernel
abbrev cX4_init : ByteArray := prog_6_method_1_code
def yX4_init : MethodName := ⟨RX4, "<init>", "(LRefitYard$Ground;LRefitYard$Net;LRefitYard$Board;)V"⟩
abbrev cX4_markFoes : ByteArray := prog_6_method_2_code
def yX4_markFoes : MethodName := ⟨RX4, "markFoes", "()V"⟩
abbrev cX4_foesOf : ByteArray := prog_6_method_3_code
def yX4_foesOf : MethodName := ⟨RX4, "foesOf", "(LRefitYard$Work;)J"⟩
abbrev cX4_isBroken : ByteArray := prog_6_method_4_code
def yX4_isBroken : MethodName := ⟨RX4, "isBroken", "(LRefitYard$Work;II)Z"⟩
abbrev cX4_lacksHands : ByteArray := prog_6_method_5_code
def yX4_lacksHands : MethodName := ⟨RX4, "lacksHands", "(LRefitYard$Work;I)Z"⟩
abbrev cX4_lacksGood : ByteArray := prog_6_method_6_code
def yX4_lacksGood : MethodName := ⟨RX4, "lacksGood", "(LRefitYard$Work;I)Z"⟩
abbrev cX4_lacksRoom : ByteArray := prog_6_method_7_code
def yX4_lacksRoom : MethodName := ⟨RX4, "lacksRoom", "(LRefitYard$Work;I)Z"⟩
abbrev cX4_meetsFoe : ByteArray := prog_6_method_8_code
def yX4_meetsFoe : MethodName := ⟨RX4, "meetsFoe", "(LRefitYard$Work;I)Z"⟩
abbrev cX4_isFree : ByteArray := prog_6_method_9_code
def yX4_isFree : MethodName := ⟨RX4, "isFree", "(LRefitYard$Work;I)Z"⟩
abbrev cX4_leastBroken : ByteArray := prog_6_method_10_code
def yX4_leastBroken : MethodName := ⟨RX4, "leastBroken", "(LRefitYard$Work;)I"⟩
abbrev cX4_leastShift : ByteArray := prog_6_method_11_code
def yX4_leastShift : MethodName := ⟨RX4, "leastShift", "(LRefitYard$Work;I)I"⟩
abbrev cX4_firstPlace : ByteArray := prog_6_method_12_code
def yX4_firstPlace : MethodName := ⟨RX4, "firstPlace", "(LRefitYard$Work;I)I"⟩
def RX5 : String := "RefitYard$Work"
def TX5 : u_T := fun k => match k with
  | 0 => ("RefitYard$Work", "number", "I", true)
  | 1 => ("RefitYard$Work", "bit", "J", true)
  | 2 => ("RefitYard$Work", "trade", "I", true)
  | 3 => ("RefitYard$Work", "hands", "I", true)
  | 4 => ("RefitYard$Work", "space", "I", true)
  | 5 => ("RefitYard$Work", "kind", "I", true)
  | 6 => ("RefitYard$Work", "good", "I", true)
  | 7 => ("RefitYard$Work", "length", "I", false)
  | 8 => ("RefitYard$Work", "shift", "I", false)
  | 9 => ("RefitYard$Work", "reopened", "I", false)
  | 10 => ("RefitYard$Work", "early", "I", false)
  | 11 => ("RefitYard$Work", "tail", "I", false)
  | 12 => ("RefitYard$Work", "needs", "J", false)
  | 13 => ("RefitYard$Work", "under", "J", false)
  | 14 => ("RefitYard$Work", "toldOf", "J", false)
  | _ => ("RefitYard$Work", "foes", "J", false)
def tyX5 : Nat → FieldType := fun k => match k with
  | 0 => .int
  | 1 => .long
  | 2 => .int
  | 3 => .int
  | 4 => .int
  | 5 => .int
  | 6 => .int
  | 7 => .int
  | 8 => .int
  | 9 => .int
  | 10 => .int
  | 11 => .int
  | 12 => .long
  | 13 => .long
  | 14 => .long
  | _ => .long
abbrev wsX50 : List Cond := u_ws RX5 TX5 16
theorem nmX5 : ∀ a, a < 16 → ∀ b, b < 16 → a ≠ b → (TX5 a).2.1 ≠ (TX5 b).2.1 := by decide +kernel
theorem tyX5_ok : ∀ k, k < 16 → parseFieldDescriptor (TX5 k).2.2.1 = some (tyX5 k) := by decide +kernel
abbrev cX5_init : ByteArray := prog_7_method_1_code
def yX5_init : MethodName := ⟨RX5, "<init>", "(III)V"⟩
abbrev cX5_isOpen : ByteArray := prog_7_method_2_code
def yX5_isOpen : MethodName := ⟨RX5, "isOpen", "()Z"⟩
abbrev cX5_behind : ByteArray := prog_7_method_3_code
def yX5_behind : MethodName := ⟨RX5, "behind", "()I"⟩
abbrev cX5_hasBegun : ByteArray := prog_7_method_4_code
def yX5_hasBegun : MethodName := ⟨RX5, "hasBegun", "(I)Z"⟩
abbrev cX5_isDone : ByteArray := prog_7_method_5_code
def yX5_isDone : MethodName := ⟨RX5, "isDone", "(I)Z"⟩
abbrev cX5_leansOn : ByteArray := prog_7_method_6_code
def yX5_leansOn : MethodName := ⟨RX5, "leansOn", "(LRefitYard$Work;)Z"⟩
abbrev cX5_hangsOn : ByteArray := prog_7_method_7_code
def yX5_hangsOn : MethodName := ⟨RX5, "hangsOn", "(LRefitYard$Work;)Z"⟩
abbrev cX5_isReady : ByteArray := prog_7_method_8_code
def yX5_isReady : MethodName := ⟨RX5, "isReady", "(J)Z"⟩
abbrev cX5_wholeWay : ByteArray := prog_7_method_9_code
def yX5_wholeWay : MethodName := ⟨RX5, "wholeWay", "()I"⟩
def RX6 : String := "RefitYard"
def TX6 : u_T := fun k => match k with
  | 0 => ("RefitYard", "ground", "LRefitYard$Ground;", true)
  | 1 => ("RefitYard", "net", "LRefitYard$Net;", true)
  | 2 => ("RefitYard", "board", "LRefitYard$Board;", true)
  | 3 => ("RefitYard", "rules", "LRefitYard$Rules;", true)
  | _ => ("RefitYard", "orders", "LRefitYard$Orders;", true)
def tyX6 : Nat → FieldType := fun k => match k with
  | 0 => .object "RefitYard$Ground"
  | 1 => .object "RefitYard$Net"
  | 2 => .object "RefitYard$Board"
  | 3 => .object "RefitYard$Rules"
  | _ => .object "RefitYard$Orders"
abbrev wsX60 : List Cond := u_ws RX6 TX6 5
theorem nmX6 : ∀ a, a < 5 → ∀ b, b < 5 → a ≠ b → (TX6 a).2.1 ≠ (TX6 b).2.1 := by decide +kernel
theorem tyX6_ok : ∀ k, k < 5 → parseFieldDescriptor (TX6 k).2.2.1 = some (tyX6 k) := by decide +kernel
abbrev cX6_init : ByteArray := prog_1_method_1_code
def yX6_init : MethodName := ⟨RX6, "<init>", "()V"⟩
abbrev cX6_space : ByteArray := prog_1_method_2_code
def yX6_space : MethodName := ⟨RX6, "space", "(I)I"⟩
abbrev cX6_near : ByteArray := prog_1_method_3_code
def yX6_near : MethodName := ⟨RX6, "near", "(II)Z"⟩
abbrev cX6_gang : ByteArray := prog_1_method_4_code
def yX6_gang : MethodName := ⟨RX6, "gang", "(II)Z"⟩
abbrev cX6_good : ByteArray := prog_1_method_5_code
def yX6_good : MethodName := ⟨RX6, "good", "(II)Z"⟩
abbrev cX6_bar : ByteArray := prog_1_method_6_code
def yX6_bar : MethodName := ⟨RX6, "bar", "(III)Z"⟩
abbrev cX6_work : ByteArray := prog_1_method_7_code
def yX6_work : MethodName := ⟨RX6, "work", "(II)I"⟩
abbrev cX6_need : ByteArray := prog_1_method_8_code
def yX6_need : MethodName := ⟨RX6, "need", "(II)Z"⟩
abbrev cX6_tells : ByteArray := prog_1_method_9_code
def yX6_tells : MethodName := ⟨RX6, "tells", "(II)Z"⟩
abbrev cX6_put : ByteArray := prog_1_method_10_code
def yX6_put : MethodName := ⟨RX6, "put", "(II)Z"⟩
abbrev cX6_take : ByteArray := prog_1_method_11_code
def yX6_take : MethodName := ⟨RX6, "take", "(I)Z"⟩
abbrev cX6_may : ByteArray := prog_1_method_12_code
def yX6_may : MethodName := ⟨RX6, "may", "(II)Z"⟩
abbrev cX6_first : ByteArray := prog_1_method_13_code
def yX6_first : MethodName := ⟨RX6, "first", "(II)I"⟩
abbrev cX6_why : ByteArray := prog_1_method_14_code
def yX6_why : MethodName := ⟨RX6, "why", "(I)I"⟩
abbrev cX6_told : ByteArray := prog_1_method_15_code
def yX6_told : MethodName := ⟨RX6, "told", "(II)I"⟩
abbrev cX6_load : ByteArray := prog_1_method_16_code
def yX6_load : MethodName := ⟨RX6, "load", "(II)I"⟩
abbrev cX6_plan : ByteArray := prog_1_method_17_code
def yX6_plan : MethodName := ⟨RX6, "plan", "()I"⟩
abbrev cX6_best : ByteArray := prog_1_method_18_code
def yX6_best : MethodName := ⟨RX6, "best", "()I"⟩
abbrev cX6_end : ByteArray := prog_1_method_19_code
def yX6_end : MethodName := ⟨RX6, "end", "()I"⟩
abbrev cX6_bound : ByteArray := prog_1_method_20_code
def yX6_bound : MethodName := ⟨RX6, "bound", "()I"⟩
abbrev cX6_go : ByteArray := prog_1_method_21_code
def yX6_go : MethodName := ⟨RX6, "go", "(I)I"⟩
abbrev cX6_fail : ByteArray := prog_1_method_22_code
def yX6_fail : MethodName := ⟨RX6, "fail", "(I)I"⟩
abbrev cX6_more : ByteArray := prog_1_method_23_code
def yX6_more : MethodName := ⟨RX6, "more", "(II)I"⟩
abbrev cX6_count : ByteArray := prog_1_method_24_code
def yX6_count : MethodName := ⟨RX6, "count", "(I)I"⟩
abbrev cX6_isTrade : ByteArray := prog_1_method_25_code
def yX6_isTrade : MethodName := ⟨RX6, "isTrade", "(I)Z"⟩
abbrev cX6_isGood : ByteArray := prog_1_method_26_code
def yX6_isGood : MethodName := ⟨RX6, "isGood", "(I)Z"⟩
abbrev cX6_isKind : ByteArray := prog_1_method_27_code
def yX6_isKind : MethodName := ⟨RX6, "isKind", "(I)Z"⟩
abbrev cX6_canBe : ByteArray := prog_1_method_28_code
def yX6_canBe : MethodName := ⟨RX6, "canBe", "(LRefitYard$Work;)Z"⟩
abbrev cX6_mayLean : ByteArray := prog_1_method_29_code
def yX6_mayLean : MethodName := ⟨RX6, "mayLean", "(LRefitYard$Work;LRefitYard$Work;)Z"⟩
abbrev cX6_partOfBreak : ByteArray := prog_1_method_30_code
def yX6_partOfBreak : MethodName := ⟨RX6, "partOfBreak", "(LRefitYard$Work;II)I"⟩
abbrev cX6_stateOf : ByteArray := prog_1_method_31_code
def yX6_stateOf : MethodName := ⟨RX6, "stateOf", "(LRefitYard$Work;)I"⟩
abbrev cX6_shiftsFor : ByteArray := prog_1_method_32_code
def yX6_shiftsFor : MethodName := ⟨RX6, "shiftsFor", "(II)I"⟩
abbrev cX6_greater : ByteArray := prog_1_method_33_code
def yX6_greater : MethodName := ⟨RX6, "greater", "(II)I"⟩
def RX7 : String := "RefitYardModel"
def TX7 : u_T := fun k => match k with
  | 0 => ("RefitYardModel", "now", "I", false)
  | 1 => ("RefitYardModel", "spaces", "I", false)
  | 2 => ("RefitYardModel", "bears", "[I", true)
  | 3 => ("RefitYardModel", "isNear", "[Z", true)
  | 4 => ("RefitYardModel", "hands", "[I", true)
  | 5 => ("RefitYardModel", "goods", "[I", true)
  | 6 => ("RefitYardModel", "bars", "I", false)
  | 7 => ("RefitYardModel", "barred", "[I", true)
  | 8 => ("RefitYardModel", "works", "I", false)
  | 9 => ("RefitYardModel", "length", "[I", true)
  | 10 => ("RefitYardModel", "trade", "[I", true)
  | 11 => ("RefitYardModel", "asks", "[I", true)
  | 12 => ("RefitYardModel", "space", "[I", true)
  | 13 => ("RefitYardModel", "kind", "[I", true)
  | 14 => ("RefitYardModel", "good", "[I", true)
  | 15 => ("RefitYardModel", "shift", "[I", true)
  | 16 => ("RefitYardModel", "again", "[I", true)
  | 17 => ("RefitYardModel", "needs", "[Z", true)
  | 18 => ("RefitYardModel", "tells", "[Z", true)
  | 19 => ("RefitYardModel", "isTried", "[Z", true)
  | 20 => ("RefitYardModel", "early", "[I", true)
  | 21 => ("RefitYardModel", "tail", "[I", true)
  | 22 => ("RefitYardModel", "order", "[I", true)
  | 23 => ("RefitYardModel", "choice", "[I", true)
  | _ => ("RefitYardModel", "bestShift", "[I", true)
def tyX7 : Nat → FieldType := fun k => match k with
  | 0 => .int
  | 1 => .int
  | 2 => .array .int
  | 3 => .array .boolean
  | 4 => .array .int
  | 5 => .array .int
  | 6 => .int
  | 7 => .array .int
  | 8 => .int
  | 9 => .array .int
  | 10 => .array .int
  | 11 => .array .int
  | 12 => .array .int
  | 13 => .array .int
  | 14 => .array .int
  | 15 => .array .int
  | 16 => .array .int
  | 17 => .array .boolean
  | 18 => .array .boolean
  | 19 => .array .boolean
  | 20 => .array .int
  | 21 => .array .int
  | 22 => .array .int
  | 23 => .array .int
  | _ => .array .int
abbrev wsX70 : List Cond := u_ws RX7 TX7 25
theorem nmX7 : ∀ a, a < 25 → ∀ b, b < 25 → a ≠ b → (TX7 a).2.1 ≠ (TX7 b).2.1 := by decide +kernel
theorem tyX7_ok : ∀ k, k < 25 → parseFieldDescriptor (TX7 k).2.2.1 = some (tyX7 k) := by decide +kernel
abbrev cX7_init : ByteArray := prog_9_method_1_code
def yX7_init : MethodName := ⟨RX7, "<init>", "()V"⟩
abbrev cX7_in : ByteArray := prog_9_method_2_code
def yX7_in : MethodName := ⟨RX7, "in", "(III)Z"⟩
abbrev cX7_isWork : ByteArray := prog_9_method_3_code
def yX7_isWork : MethodName := ⟨RX7, "isWork", "(I)Z"⟩
abbrev cX7_space : ByteArray := prog_9_method_4_code
def yX7_space : MethodName := ⟨RX7, "space", "(I)I"⟩
abbrev cX7_near : ByteArray := prog_9_method_5_code
def yX7_near : MethodName := ⟨RX7, "near", "(II)Z"⟩
abbrev cX7_gang : ByteArray := prog_9_method_6_code
def yX7_gang : MethodName := ⟨RX7, "gang", "(II)Z"⟩
abbrev cX7_good : ByteArray := prog_9_method_7_code
def yX7_good : MethodName := ⟨RX7, "good", "(II)Z"⟩
abbrev cX7_bar : ByteArray := prog_9_method_8_code
def yX7_bar : MethodName := ⟨RX7, "bar", "(III)Z"⟩
abbrev cX7_work : ByteArray := prog_9_method_9_code
def yX7_work : MethodName := ⟨RX7, "work", "(II)I"⟩
abbrev cX7_isPut : ByteArray := prog_9_method_10_code
def yX7_isPut : MethodName := ⟨RX7, "isPut", "(I)Z"⟩
abbrev cX7_isBegun : ByteArray := prog_9_method_11_code
def yX7_isBegun : MethodName := ⟨RX7, "isBegun", "(I)Z"⟩
abbrev cX7_endOf : ByteArray := prog_9_method_12_code
def yX7_endOf : MethodName := ⟨RX7, "endOf", "(I)I"⟩
abbrev cX7_isDone : ByteArray := prog_9_method_13_code
def yX7_isDone : MethodName := ⟨RX7, "isDone", "(I)Z"⟩
abbrev cX7_hangs : ByteArray := prog_9_method_14_code
def yX7_hangs : MethodName := ⟨RX7, "hangs", "(II)Z"⟩
abbrev cX7_canNeed : ByteArray := prog_9_method_15_code
def yX7_canNeed : MethodName := ⟨RX7, "canNeed", "(II)Z"⟩
abbrev cX7_need : ByteArray := prog_9_method_16_code
def yX7_need : MethodName := ⟨RX7, "need", "(II)Z"⟩
abbrev cX7_tells : ByteArray := prog_9_method_17_code
def yX7_tells : MethodName := ⟨RX7, "tells", "(II)Z"⟩
abbrev cX7_put : ByteArray := prog_9_method_18_code
def yX7_put : MethodName := ⟨RX7, "put", "(II)Z"⟩
abbrev cX7_take : ByteArray := prog_9_method_19_code
def yX7_take : MethodName := ⟨RX7, "take", "(I)Z"⟩
abbrev cX7_isIn : ByteArray := prog_9_method_20_code
def yX7_isIn : MethodName := ⟨RX7, "isIn", "(II)Z"⟩
abbrev cX7_isBarred : ByteArray := prog_9_method_21_code
def yX7_isBarred : MethodName := ⟨RX7, "isBarred", "(II)Z"⟩
abbrev cX7_breaks : ByteArray := prog_9_method_22_code
def yX7_breaks : MethodName := ⟨RX7, "breaks", "(II)I"⟩
abbrev cX7_isBroken : ByteArray := prog_9_method_23_code
def yX7_isBroken : MethodName := ⟨RX7, "isBroken", "(III)Z"⟩
abbrev cX7_isBad : ByteArray := prog_9_method_24_code
def yX7_isBad : MethodName := ⟨RX7, "isBad", "(I)Z"⟩
abbrev cX7_why : ByteArray := prog_9_method_25_code
def yX7_why : MethodName := ⟨RX7, "why", "(I)I"⟩
abbrev cX7_may : ByteArray := prog_9_method_26_code
def yX7_may : MethodName := ⟨RX7, "may", "(II)Z"⟩
abbrev cX7_first : ByteArray := prog_9_method_27_code
def yX7_first : MethodName := ⟨RX7, "first", "(II)I"⟩
abbrev cX7_way : ByteArray := prog_9_method_28_code
def yX7_way : MethodName := ⟨RX7, "way", "()I"⟩
abbrev cX7_slack : ByteArray := prog_9_method_29_code
def yX7_slack : MethodName := ⟨RX7, "slack", "(II)I"⟩
abbrev cX7_bound : ByteArray := prog_9_method_30_code
def yX7_bound : MethodName := ⟨RX7, "bound", "()I"⟩
abbrev cX7_isReady : ByteArray := prog_9_method_31_code
def yX7_isReady : MethodName := ⟨RX7, "isReady", "(I)Z"⟩
abbrev cX7_plan : ByteArray := prog_9_method_32_code
def yX7_plan : MethodName := ⟨RX7, "plan", "()I"⟩
abbrev cX7_end : ByteArray := prog_9_method_33_code
def yX7_end : MethodName := ⟨RX7, "end", "()I"⟩
abbrev cX7_best : ByteArray := prog_9_method_34_code
def yX7_best : MethodName := ⟨RX7, "best", "()I"⟩
abbrev cX7_go : ByteArray := prog_9_method_35_code
def yX7_go : MethodName := ⟨RX7, "go", "(I)I"⟩
abbrev cX7_fail : ByteArray := prog_9_method_36_code
def yX7_fail : MethodName := ⟨RX7, "fail", "(I)I"⟩
abbrev cX7_more : ByteArray := prog_9_method_37_code
def yX7_more : MethodName := ⟨RX7, "more", "(II)I"⟩
abbrev cX7_stateOf : ByteArray := prog_9_method_38_code
def yX7_stateOf : MethodName := ⟨RX7, "stateOf", "(I)I"⟩
abbrev cX7_told : ByteArray := prog_9_method_39_code
def yX7_told : MethodName := ⟨RX7, "told", "(II)I"⟩
abbrev cX7_load : ByteArray := prog_9_method_40_code
def yX7_load : MethodName := ⟨RX7, "load", "(II)I"⟩
abbrev cX7_count : ByteArray := prog_9_method_41_code
def yX7_count : MethodName := ⟨RX7, "count", "(I)I"⟩
def RJ13 : String := "java/lang/Long"
def TJ13 : u_T := fun k => match k with
  | _ => ("", "", "", false)
def tyJ13 : Nat → FieldType := fun k => match k with
  | _ => .int
abbrev wsJ130 : List Cond := u_ws RJ13 TJ13 0
theorem nmJ13 : ∀ a, a < 0 → ∀ b, b < 0 → a ≠ b → (TJ13 a).2.1 ≠ (TJ13 b).2.1 := by decide +kernel
theorem tyJ13_ok : ∀ k, k < 0 → parseFieldDescriptor (TJ13 k).2.2.1 = some (tyJ13 k) := by decide +kernel
abbrev cJ13_bitCount_95d88 : ByteArray := prog_10_method_50_code
def yJ13_bitCount_95d88 : MethodName := ⟨RJ13, "bitCount", "(J)I"⟩
def RJ9 : String := "java/lang/Math"
def TJ9 : u_T := fun k => match k with
  | _ => ("", "", "", false)
def tyJ9 : Nat → FieldType := fun k => match k with
  | _ => .int
abbrev wsJ90 : List Cond := u_ws RJ9 TJ9 0
theorem nmJ9 : ∀ a, a < 0 → ∀ b, b < 0 → a ≠ b → (TJ9 a).2.1 ≠ (TJ9 b).2.1 := by decide +kernel
theorem tyJ9_ok : ∀ k, k < 0 → parseFieldDescriptor (TJ9 k).2.2.1 = some (tyJ9 k) := by decide +kernel
abbrev cJ9_max_7cf53 : ByteArray := prog_11_method_65_code
def yJ9_max_7cf53 : MethodName := ⟨RJ9, "max", "(II)I"⟩
abbrev cJ9_min_7cf53 : ByteArray := prog_11_method_69_code
def yJ9_min_7cf53 : MethodName := ⟨RJ9, "min", "(II)I"⟩
def RL : String := "RefitYardLaw"
abbrev cL_law : ByteArray := code
def yL_law : MethodName := ⟨RL, "law", "([I)Z"⟩
abbrev vwCl : List vw_C := [(RX0, TX0, 3), (RX1, TX1, 5), (RX2, TX2, 6), (RX3, TX3, 5), (RX4, TX4, 5), (RX5, TX5, 16), (RX6, TX6, 5), (RX7, TX7, 25)]
end
section
theorem dX0_init_0 : decode cX0_init 0 = .ok (.aload_n 0, 1) := by decide +kernel
theorem dX0_init_1 : decode cX0_init 1 = .ok (.invokespecial 3, 3) := by decide +kernel
theorem dX0_init_4 : decode cX0_init 4 = .ok (.aload_n 0, 1) := by decide +kernel
theorem dX0_init_5 : decode cX0_init 5 = .ok (.sipush 400, 3) := by decide +kernel
theorem dX0_init_8 : decode cX0_init 8 = .ok (.newarray .long, 2) := by decide +kernel
theorem dX0_init_10 : decode cX0_init 10 = .ok (.putfield 9, 3) := by decide +kernel
theorem dX0_init_13 : decode cX0_init 13 = .ok (.aload_n 0, 1) := by decide +kernel
theorem dX0_init_14 : decode cX0_init 14 = .ok (.iconst 4, 1) := by decide +kernel
theorem dX0_init_15 : decode cX0_init 15 = .ok (.sipush 400, 3) := by decide +kernel
theorem dX0_init_18 : decode cX0_init 18 = .ok (.multianewarray 15 2, 4) := by decide +kernel
theorem dX0_init_22 : decode cX0_init 22 = .ok (.putfield 17, 3) := by decide +kernel
theorem dX0_init_25 : decode cX0_init 25 = .ok (.return_, 1) := by decide +kernel
theorem dX0_lay_0 : decode cX0_lay 0 = .ok (.aload_n 1, 1) := by decide +kernel
theorem dX0_lay_1 : decode cX0_lay 1 = .ok (.iload_n 2, 1) := by decide +kernel
theorem dX0_lay_2 : decode cX0_lay 2 = .ok (.putfield 20, 3) := by decide +kernel
theorem dX0_lay_5 : decode cX0_lay 5 = .ok (.aload_n 0, 1) := by decide +kernel
theorem dX0_lay_6 : decode cX0_lay 6 = .ok (.getfield 17, 3) := by decide +kernel
theorem dX0_lay_9 : decode cX0_lay 9 = .ok (.aload_n 1, 1) := by decide +kernel
theorem dX0_lay_10 : decode cX0_lay 10 = .ok (.getfield 26, 3) := by decide +kernel
theorem dX0_lay_13 : decode cX0_lay 13 = .ok (.aaload, 1) := by decide +kernel
theorem dX0_lay_14 : decode cX0_lay 14 = .ok (.astore_n 3, 1) := by decide +kernel
theorem dX0_lay_15 : decode cX0_lay 15 = .ok (.iload_n 2, 1) := by decide +kernel
theorem dX0_lay_16 : decode cX0_lay 16 = .ok (.istore 4, 2) := by decide +kernel
theorem dX0_lay_18 : decode cX0_lay 18 = .ok (.iload 4, 2) := by decide +kernel
theorem dX0_lay_20 : decode cX0_lay 20 = .ok (.aload_n 1, 1) := by decide +kernel
theorem dX0_lay_21 : decode cX0_lay 21 = .ok (.invokevirtual 29, 3) := by decide +kernel
theorem dX0_lay_24 : decode cX0_lay 24 = .ok (.if_icmp .ge 34, 3) := by decide +kernel
theorem dX0_lay_27 : decode cX0_lay 27 = .ok (.aload_n 0, 1) := by decide +kernel
theorem dX0_lay_28 : decode cX0_lay 28 = .ok (.getfield 9, 3) := by decide +kernel
theorem dX0_lay_31 : decode cX0_lay 31 = .ok (.iload 4, 2) := by decide +kernel
theorem dX0_lay_33 : decode cX0_lay 33 = .ok (.dup2, 1) := by decide +kernel
theorem dX0_lay_34 : decode cX0_lay 34 = .ok (.laload, 1) := by decide +kernel
theorem dX0_lay_35 : decode cX0_lay 35 = .ok (.aload_n 1, 1) := by decide +kernel
theorem dX0_lay_36 : decode cX0_lay 36 = .ok (.getfield 33, 3) := by decide +kernel
theorem dX0_lay_39 : decode cX0_lay 39 = .ok (.lor, 1) := by decide +kernel
theorem dX0_lay_40 : decode cX0_lay 40 = .ok (.lastore, 1) := by decide +kernel
theorem dX0_lay_41 : decode cX0_lay 41 = .ok (.aload_n 3, 1) := by decide +kernel
theorem dX0_lay_42 : decode cX0_lay 42 = .ok (.iload 4, 2) := by decide +kernel
theorem dX0_lay_44 : decode cX0_lay 44 = .ok (.dup2, 1) := by decide +kernel
theorem dX0_lay_45 : decode cX0_lay 45 = .ok (.iaload, 1) := by decide +kernel
theorem dX0_lay_46 : decode cX0_lay 46 = .ok (.aload_n 1, 1) := by decide +kernel
theorem dX0_lay_47 : decode cX0_lay 47 = .ok (.getfield 37, 3) := by decide +kernel
theorem dX0_lay_50 : decode cX0_lay 50 = .ok (.iadd, 1) := by decide +kernel
theorem dX0_lay_51 : decode cX0_lay 51 = .ok (.iastore, 1) := by decide +kernel
theorem dX0_lay_52 : decode cX0_lay 52 = .ok (.iinc 4 1, 3) := by decide +kernel
theorem dX0_lay_55 : decode cX0_lay 55 = .ok (.goto (-37), 3) := by decide +kernel
theorem dX0_lay_58 : decode cX0_lay 58 = .ok (.return_, 1) := by decide +kernel
theorem dX0_lift_0 : decode cX0_lift 0 = .ok (.aload_n 1, 1) := by decide +kernel
theorem dX0_lift_1 : decode cX0_lift 1 = .ok (.invokevirtual 39, 3) := by decide +kernel
theorem dX0_lift_4 : decode cX0_lift 4 = .ok (.ifCond .eq 4, 3) := by decide +kernel
theorem dX0_lift_7 : decode cX0_lift 7 = .ok (.return_, 1) := by decide +kernel
theorem dX0_lift_8 : decode cX0_lift 8 = .ok (.aload_n 0, 1) := by decide +kernel
theorem dX0_lift_9 : decode cX0_lift 9 = .ok (.getfield 17, 3) := by decide +kernel
theorem dX0_lift_12 : decode cX0_lift 12 = .ok (.aload_n 1, 1) := by decide +kernel
theorem dX0_lift_13 : decode cX0_lift 13 = .ok (.getfield 26, 3) := by decide +kernel
theorem dX0_lift_16 : decode cX0_lift 16 = .ok (.aaload, 1) := by decide +kernel
theorem dX0_lift_17 : decode cX0_lift 17 = .ok (.astore_n 2, 1) := by decide +kernel
theorem dX0_lift_18 : decode cX0_lift 18 = .ok (.aload_n 1, 1) := by decide +kernel
theorem dX0_lift_19 : decode cX0_lift 19 = .ok (.getfield 20, 3) := by decide +kernel
theorem dX0_lift_22 : decode cX0_lift 22 = .ok (.istore_n 3, 1) := by decide +kernel
theorem dX0_lift_23 : decode cX0_lift 23 = .ok (.iload_n 3, 1) := by decide +kernel
theorem dX0_lift_24 : decode cX0_lift 24 = .ok (.aload_n 1, 1) := by decide +kernel
theorem dX0_lift_25 : decode cX0_lift 25 = .ok (.invokevirtual 29, 3) := by decide +kernel
theorem dX0_lift_28 : decode cX0_lift 28 = .ok (.if_icmp .ge 36, 3) := by decide +kernel
theorem dX0_lift_31 : decode cX0_lift 31 = .ok (.aload_n 0, 1) := by decide +kernel
theorem dX0_lift_32 : decode cX0_lift 32 = .ok (.getfield 9, 3) := by decide +kernel
theorem dX0_lift_35 : decode cX0_lift 35 = .ok (.iload_n 3, 1) := by decide +kernel
theorem dX0_lift_36 : decode cX0_lift 36 = .ok (.dup2, 1) := by decide +kernel
theorem dX0_lift_37 : decode cX0_lift 37 = .ok (.laload, 1) := by decide +kernel
theorem dX0_lift_38 : decode cX0_lift 38 = .ok (.aload_n 1, 1) := by decide +kernel
theorem dX0_lift_39 : decode cX0_lift 39 = .ok (.getfield 33, 3) := by decide +kernel
theorem dX0_lift_42 : decode cX0_lift 42 = .ok (.ldc2_w 43, 3) := by decide +kernel
theorem dX0_lift_45 : decode cX0_lift 45 = .ok (.lxor, 1) := by decide +kernel
theorem dX0_lift_46 : decode cX0_lift 46 = .ok (.land, 1) := by decide +kernel
theorem dX0_lift_47 : decode cX0_lift 47 = .ok (.lastore, 1) := by decide +kernel
theorem dX0_lift_48 : decode cX0_lift 48 = .ok (.aload_n 2, 1) := by decide +kernel
theorem dX0_lift_49 : decode cX0_lift 49 = .ok (.iload_n 3, 1) := by decide +kernel
theorem dX0_lift_50 : decode cX0_lift 50 = .ok (.dup2, 1) := by decide +kernel
theorem dX0_lift_51 : decode cX0_lift 51 = .ok (.iaload, 1) := by decide +kernel
theorem dX0_lift_52 : decode cX0_lift 52 = .ok (.aload_n 1, 1) := by decide +kernel
theorem dX0_lift_53 : decode cX0_lift 53 = .ok (.getfield 37, 3) := by decide +kernel
theorem dX0_lift_56 : decode cX0_lift 56 = .ok (.isub, 1) := by decide +kernel
theorem dX0_lift_57 : decode cX0_lift 57 = .ok (.iastore, 1) := by decide +kernel
theorem dX0_lift_58 : decode cX0_lift 58 = .ok (.iinc 3 1, 3) := by decide +kernel
theorem dX0_lift_61 : decode cX0_lift 61 = .ok (.goto (-38), 3) := by decide +kernel
theorem dX0_lift_64 : decode cX0_lift 64 = .ok (.aload_n 1, 1) := by decide +kernel
theorem dX0_lift_65 : decode cX0_lift 65 = .ok (.iconst (-1), 1) := by decide +kernel
theorem dX0_lift_66 : decode cX0_lift 66 = .ok (.putfield 20, 3) := by decide +kernel
theorem dX0_lift_69 : decode cX0_lift 69 = .ok (.return_, 1) := by decide +kernel
theorem dX0_lengthen_0 : decode cX0_lengthen 0 = .ok (.aload_n 1, 1) := by decide +kernel
theorem dX0_lengthen_1 : decode cX0_lengthen 1 = .ok (.getfield 20, 3) := by decide +kernel
theorem dX0_lengthen_4 : decode cX0_lengthen 4 = .ok (.istore_n 3, 1) := by decide +kernel
theorem dX0_lengthen_5 : decode cX0_lengthen 5 = .ok (.aload_n 0, 1) := by decide +kernel
theorem dX0_lengthen_6 : decode cX0_lengthen 6 = .ok (.aload_n 1, 1) := by decide +kernel
theorem dX0_lengthen_7 : decode cX0_lengthen 7 = .ok (.invokevirtual 45, 3) := by decide +kernel
theorem dX0_lengthen_10 : decode cX0_lengthen 10 = .ok (.aload_n 1, 1) := by decide +kernel
theorem dX0_lengthen_11 : decode cX0_lengthen 11 = .ok (.dup, 1) := by decide +kernel
theorem dX0_lengthen_12 : decode cX0_lengthen 12 = .ok (.getfield 49, 3) := by decide +kernel
theorem dX0_lengthen_15 : decode cX0_lengthen 15 = .ok (.iload_n 2, 1) := by decide +kernel
theorem dX0_lengthen_16 : decode cX0_lengthen 16 = .ok (.iadd, 1) := by decide +kernel
theorem dX0_lengthen_17 : decode cX0_lengthen 17 = .ok (.putfield 49, 3) := by decide +kernel
theorem dX0_lengthen_20 : decode cX0_lengthen 20 = .ok (.iload_n 3, 1) := by decide +kernel
theorem dX0_lengthen_21 : decode cX0_lengthen 21 = .ok (.iconst (-1), 1) := by decide +kernel
theorem dX0_lengthen_22 : decode cX0_lengthen 22 = .ok (.if_icmp .eq 9, 3) := by decide +kernel
theorem dX0_lengthen_25 : decode cX0_lengthen 25 = .ok (.aload_n 0, 1) := by decide +kernel
theorem dX0_lengthen_26 : decode cX0_lengthen 26 = .ok (.aload_n 1, 1) := by decide +kernel
theorem dX0_lengthen_27 : decode cX0_lengthen 27 = .ok (.iload_n 3, 1) := by decide +kernel
theorem dX0_lengthen_28 : decode cX0_lengthen 28 = .ok (.invokevirtual 52, 3) := by decide +kernel
theorem dX0_lengthen_31 : decode cX0_lengthen 31 = .ok (.return_, 1) := by decide +kernel
theorem dX1_init_0 : decode cX1_init 0 = .ok (.aload_n 0, 1) := by decide +kernel
theorem dX1_init_1 : decode cX1_init 1 = .ok (.invokespecial 3, 3) := by decide +kernel
theorem dX1_init_4 : decode cX1_init 4 = .ok (.aload_n 0, 1) := by decide +kernel
theorem dX1_init_5 : decode cX1_init 5 = .ok (.bipush 20, 2) := by decide +kernel
theorem dX1_init_7 : decode cX1_init 7 = .ok (.newarray .int, 2) := by decide +kernel
theorem dX1_init_9 : decode cX1_init 9 = .ok (.putfield 9, 3) := by decide +kernel
theorem dX1_init_12 : decode cX1_init 12 = .ok (.aload_n 0, 1) := by decide +kernel
theorem dX1_init_13 : decode cX1_init 13 = .ok (.bipush 20, 2) := by decide +kernel
theorem dX1_init_15 : decode cX1_init 15 = .ok (.newarray .int, 2) := by decide +kernel
theorem dX1_init_17 : decode cX1_init 17 = .ok (.putfield 15, 3) := by decide +kernel
theorem dX1_init_20 : decode cX1_init 20 = .ok (.aload_n 0, 1) := by decide +kernel
theorem dX1_init_21 : decode cX1_init 21 = .ok (.bipush 15, 2) := by decide +kernel
theorem dX1_init_23 : decode cX1_init 23 = .ok (.newarray .int, 2) := by decide +kernel
theorem dX1_init_25 : decode cX1_init 25 = .ok (.putfield 18, 3) := by decide +kernel
theorem dX1_init_28 : decode cX1_init 28 = .ok (.return_, 1) := by decide +kernel
theorem dX1_addSpace_0 : decode cX1_addSpace 0 = .ok (.aload_n 0, 1) := by decide +kernel
theorem dX1_addSpace_1 : decode cX1_addSpace 1 = .ok (.getfield 9, 3) := by decide +kernel
theorem dX1_addSpace_4 : decode cX1_addSpace 4 = .ok (.aload_n 0, 1) := by decide +kernel
theorem dX1_addSpace_5 : decode cX1_addSpace 5 = .ok (.getfield 21, 3) := by decide +kernel
theorem dX1_addSpace_8 : decode cX1_addSpace 8 = .ok (.iload_n 1, 1) := by decide +kernel
theorem dX1_addSpace_9 : decode cX1_addSpace 9 = .ok (.iastore, 1) := by decide +kernel
theorem dX1_addSpace_10 : decode cX1_addSpace 10 = .ok (.aload_n 0, 1) := by decide +kernel
theorem dX1_addSpace_11 : decode cX1_addSpace 11 = .ok (.dup, 1) := by decide +kernel
theorem dX1_addSpace_12 : decode cX1_addSpace 12 = .ok (.getfield 21, 3) := by decide +kernel
theorem dX1_addSpace_15 : decode cX1_addSpace 15 = .ok (.iconst 1, 1) := by decide +kernel
theorem dX1_addSpace_16 : decode cX1_addSpace 16 = .ok (.iadd, 1) := by decide +kernel
theorem dX1_addSpace_17 : decode cX1_addSpace 17 = .ok (.putfield 21, 3) := by decide +kernel
theorem dX1_addSpace_20 : decode cX1_addSpace 20 = .ok (.aload_n 0, 1) := by decide +kernel
theorem dX1_addSpace_21 : decode cX1_addSpace 21 = .ok (.getfield 21, 3) := by decide +kernel
theorem dX1_addSpace_24 : decode cX1_addSpace 24 = .ok (.iconst 1, 1) := by decide +kernel
theorem dX1_addSpace_25 : decode cX1_addSpace 25 = .ok (.isub, 1) := by decide +kernel
theorem dX1_addSpace_26 : decode cX1_addSpace 26 = .ok (.ireturn, 1) := by decide +kernel
theorem dX1_hasSpace_0 : decode cX1_hasSpace 0 = .ok (.iload_n 1, 1) := by decide +kernel
theorem dX1_hasSpace_1 : decode cX1_hasSpace 1 = .ok (.ifCond .lt 15, 3) := by decide +kernel
theorem dX1_hasSpace_4 : decode cX1_hasSpace 4 = .ok (.iload_n 1, 1) := by decide +kernel
theorem dX1_hasSpace_5 : decode cX1_hasSpace 5 = .ok (.aload_n 0, 1) := by decide +kernel
theorem dX1_hasSpace_6 : decode cX1_hasSpace 6 = .ok (.getfield 21, 3) := by decide +kernel
theorem dX1_hasSpace_9 : decode cX1_hasSpace 9 = .ok (.if_icmp .ge 7, 3) := by decide +kernel
theorem dX1_hasSpace_12 : decode cX1_hasSpace 12 = .ok (.iconst 1, 1) := by decide +kernel
theorem dX1_hasSpace_13 : decode cX1_hasSpace 13 = .ok (.goto 4, 3) := by decide +kernel
theorem dX1_hasSpace_16 : decode cX1_hasSpace 16 = .ok (.iconst 0, 1) := by decide +kernel
theorem dX1_hasSpace_17 : decode cX1_hasSpace 17 = .ok (.ireturn, 1) := by decide +kernel
theorem dX1_areNear_0 : decode cX1_areNear 0 = .ok (.aload_n 0, 1) := by decide +kernel
theorem dX1_areNear_1 : decode cX1_areNear 1 = .ok (.getfield 15, 3) := by decide +kernel
theorem dX1_areNear_4 : decode cX1_areNear 4 = .ok (.iload_n 1, 1) := by decide +kernel
theorem dX1_areNear_5 : decode cX1_areNear 5 = .ok (.iaload, 1) := by decide +kernel
theorem dX1_areNear_6 : decode cX1_areNear 6 = .ok (.iconst 1, 1) := by decide +kernel
theorem dX1_areNear_7 : decode cX1_areNear 7 = .ok (.iload_n 2, 1) := by decide +kernel
theorem dX1_areNear_8 : decode cX1_areNear 8 = .ok (.ishl, 1) := by decide +kernel
theorem dX1_areNear_9 : decode cX1_areNear 9 = .ok (.iand, 1) := by decide +kernel
theorem dX1_areNear_10 : decode cX1_areNear 10 = .ok (.ifCond .eq 7, 3) := by decide +kernel
theorem dX1_areNear_13 : decode cX1_areNear 13 = .ok (.iconst 1, 1) := by decide +kernel
theorem dX1_areNear_14 : decode cX1_areNear 14 = .ok (.goto 4, 3) := by decide +kernel
theorem dX1_areNear_17 : decode cX1_areNear 17 = .ok (.iconst 0, 1) := by decide +kernel
theorem dX1_areNear_18 : decode cX1_areNear 18 = .ok (.ireturn, 1) := by decide +kernel
theorem dX1_join_0 : decode cX1_join 0 = .ok (.aload_n 0, 1) := by decide +kernel
theorem dX1_join_1 : decode cX1_join 1 = .ok (.getfield 15, 3) := by decide +kernel
theorem dX1_join_4 : decode cX1_join 4 = .ok (.iload_n 1, 1) := by decide +kernel
theorem dX1_join_5 : decode cX1_join 5 = .ok (.dup2, 1) := by decide +kernel
theorem dX1_join_6 : decode cX1_join 6 = .ok (.iaload, 1) := by decide +kernel
theorem dX1_join_7 : decode cX1_join 7 = .ok (.iconst 1, 1) := by decide +kernel
theorem dX1_join_8 : decode cX1_join 8 = .ok (.iload_n 2, 1) := by decide +kernel
theorem dX1_join_9 : decode cX1_join 9 = .ok (.ishl, 1) := by decide +kernel
theorem dX1_join_10 : decode cX1_join 10 = .ok (.ior, 1) := by decide +kernel
theorem dX1_join_11 : decode cX1_join 11 = .ok (.iastore, 1) := by decide +kernel
theorem dX1_join_12 : decode cX1_join 12 = .ok (.aload_n 0, 1) := by decide +kernel
theorem dX1_join_13 : decode cX1_join 13 = .ok (.getfield 15, 3) := by decide +kernel
theorem dX1_join_16 : decode cX1_join 16 = .ok (.iload_n 2, 1) := by decide +kernel
theorem dX1_join_17 : decode cX1_join 17 = .ok (.dup2, 1) := by decide +kernel
theorem dX1_join_18 : decode cX1_join 18 = .ok (.iaload, 1) := by decide +kernel
theorem dX1_join_19 : decode cX1_join 19 = .ok (.iconst 1, 1) := by decide +kernel
theorem dX1_join_20 : decode cX1_join 20 = .ok (.iload_n 1, 1) := by decide +kernel
theorem dX1_join_21 : decode cX1_join 21 = .ok (.ishl, 1) := by decide +kernel
theorem dX1_join_22 : decode cX1_join 22 = .ok (.ior, 1) := by decide +kernel
theorem dX1_join_23 : decode cX1_join 23 = .ok (.iastore, 1) := by decide +kernel
theorem dX1_join_24 : decode cX1_join 24 = .ok (.return_, 1) := by decide +kernel
theorem dX1_isBarred_0 : decode cX1_isBarred 0 = .ok (.aload_n 0, 1) := by decide +kernel
theorem dX1_isBarred_1 : decode cX1_isBarred 1 = .ok (.getfield 18, 3) := by decide +kernel
theorem dX1_isBarred_4 : decode cX1_isBarred 4 = .ok (.iload_n 3, 1) := by decide +kernel
theorem dX1_isBarred_5 : decode cX1_isBarred 5 = .ok (.iconst 5, 1) := by decide +kernel
theorem dX1_isBarred_6 : decode cX1_isBarred 6 = .ok (.imul, 1) := by decide +kernel
theorem dX1_isBarred_7 : decode cX1_isBarred 7 = .ok (.iload_n 1, 1) := by decide +kernel
theorem dX1_isBarred_8 : decode cX1_isBarred 8 = .ok (.iadd, 1) := by decide +kernel
theorem dX1_isBarred_9 : decode cX1_isBarred 9 = .ok (.iaload, 1) := by decide +kernel
theorem dX1_isBarred_10 : decode cX1_isBarred 10 = .ok (.iconst 1, 1) := by decide +kernel
theorem dX1_isBarred_11 : decode cX1_isBarred 11 = .ok (.iload_n 2, 1) := by decide +kernel
theorem dX1_isBarred_12 : decode cX1_isBarred 12 = .ok (.ishl, 1) := by decide +kernel
theorem dX1_isBarred_13 : decode cX1_isBarred 13 = .ok (.iand, 1) := by decide +kernel
theorem dX1_isBarred_14 : decode cX1_isBarred 14 = .ok (.ifCond .eq 7, 3) := by decide +kernel
theorem dX1_isBarred_17 : decode cX1_isBarred 17 = .ok (.iconst 1, 1) := by decide +kernel
theorem dX1_isBarred_18 : decode cX1_isBarred 18 = .ok (.goto 4, 3) := by decide +kernel
theorem dX1_isBarred_21 : decode cX1_isBarred 21 = .ok (.iconst 0, 1) := by decide +kernel
theorem dX1_isBarred_22 : decode cX1_isBarred 22 = .ok (.ireturn, 1) := by decide +kernel
theorem dX1_forbid_0 : decode cX1_forbid 0 = .ok (.aload_n 0, 1) := by decide +kernel
theorem dX1_forbid_1 : decode cX1_forbid 1 = .ok (.getfield 18, 3) := by decide +kernel
theorem dX1_forbid_4 : decode cX1_forbid 4 = .ok (.iload_n 3, 1) := by decide +kernel
theorem dX1_forbid_5 : decode cX1_forbid 5 = .ok (.iconst 5, 1) := by decide +kernel
theorem dX1_forbid_6 : decode cX1_forbid 6 = .ok (.imul, 1) := by decide +kernel
theorem dX1_forbid_7 : decode cX1_forbid 7 = .ok (.iload_n 1, 1) := by decide +kernel
theorem dX1_forbid_8 : decode cX1_forbid 8 = .ok (.iadd, 1) := by decide +kernel
theorem dX1_forbid_9 : decode cX1_forbid 9 = .ok (.dup2, 1) := by decide +kernel
theorem dX1_forbid_10 : decode cX1_forbid 10 = .ok (.iaload, 1) := by decide +kernel
theorem dX1_forbid_11 : decode cX1_forbid 11 = .ok (.iconst 1, 1) := by decide +kernel
theorem dX1_forbid_12 : decode cX1_forbid 12 = .ok (.iload_n 2, 1) := by decide +kernel
theorem dX1_forbid_13 : decode cX1_forbid 13 = .ok (.ishl, 1) := by decide +kernel
theorem dX1_forbid_14 : decode cX1_forbid 14 = .ok (.ior, 1) := by decide +kernel
theorem dX1_forbid_15 : decode cX1_forbid 15 = .ok (.iastore, 1) := by decide +kernel
theorem dX1_forbid_16 : decode cX1_forbid 16 = .ok (.aload_n 0, 1) := by decide +kernel
theorem dX1_forbid_17 : decode cX1_forbid 17 = .ok (.getfield 18, 3) := by decide +kernel
theorem dX1_forbid_20 : decode cX1_forbid 20 = .ok (.iload_n 3, 1) := by decide +kernel
theorem dX1_forbid_21 : decode cX1_forbid 21 = .ok (.iconst 5, 1) := by decide +kernel
theorem dX1_forbid_22 : decode cX1_forbid 22 = .ok (.imul, 1) := by decide +kernel
theorem dX1_forbid_23 : decode cX1_forbid 23 = .ok (.iload_n 2, 1) := by decide +kernel
theorem dX1_forbid_24 : decode cX1_forbid 24 = .ok (.iadd, 1) := by decide +kernel
theorem dX1_forbid_25 : decode cX1_forbid 25 = .ok (.dup2, 1) := by decide +kernel
theorem dX1_forbid_26 : decode cX1_forbid 26 = .ok (.iaload, 1) := by decide +kernel
theorem dX1_forbid_27 : decode cX1_forbid 27 = .ok (.iconst 1, 1) := by decide +kernel
theorem dX1_forbid_28 : decode cX1_forbid 28 = .ok (.iload_n 1, 1) := by decide +kernel
theorem dX1_forbid_29 : decode cX1_forbid 29 = .ok (.ishl, 1) := by decide +kernel
theorem dX1_forbid_30 : decode cX1_forbid 30 = .ok (.ior, 1) := by decide +kernel
theorem dX1_forbid_31 : decode cX1_forbid 31 = .ok (.iastore, 1) := by decide +kernel
theorem dX1_forbid_32 : decode cX1_forbid 32 = .ok (.aload_n 0, 1) := by decide +kernel
theorem dX1_forbid_33 : decode cX1_forbid 33 = .ok (.dup, 1) := by decide +kernel
theorem dX1_forbid_34 : decode cX1_forbid 34 = .ok (.getfield 25, 3) := by decide +kernel
theorem dX1_forbid_37 : decode cX1_forbid 37 = .ok (.iconst 1, 1) := by decide +kernel
theorem dX1_forbid_38 : decode cX1_forbid 38 = .ok (.iadd, 1) := by decide +kernel
theorem dX1_forbid_39 : decode cX1_forbid 39 = .ok (.putfield 25, 3) := by decide +kernel
theorem dX1_forbid_42 : decode cX1_forbid 42 = .ok (.return_, 1) := by decide +kernel
theorem dX1_keepsApart_0 : decode cX1_keepsApart 0 = .ok (.aload_n 0, 1) := by decide +kernel
theorem dX1_keepsApart_1 : decode cX1_keepsApart 1 = .ok (.aload_n 1, 1) := by decide +kernel
theorem dX1_keepsApart_2 : decode cX1_keepsApart 2 = .ok (.getfield 28, 3) := by decide +kernel
theorem dX1_keepsApart_5 : decode cX1_keepsApart 5 = .ok (.aload_n 2, 1) := by decide +kernel
theorem dX1_keepsApart_6 : decode cX1_keepsApart 6 = .ok (.getfield 28, 3) := by decide +kernel
theorem dX1_keepsApart_9 : decode cX1_keepsApart 9 = .ok (.iconst 2, 1) := by decide +kernel
theorem dX1_keepsApart_10 : decode cX1_keepsApart 10 = .ok (.invokevirtual 33, 3) := by decide +kernel
theorem dX1_keepsApart_13 : decode cX1_keepsApart 13 = .ok (.ifCond .eq 5, 3) := by decide +kernel
theorem dX1_keepsApart_16 : decode cX1_keepsApart 16 = .ok (.iconst 1, 1) := by decide +kernel
theorem dX1_keepsApart_17 : decode cX1_keepsApart 17 = .ok (.ireturn, 1) := by decide +kernel
theorem dX1_keepsApart_18 : decode cX1_keepsApart 18 = .ok (.aload_n 1, 1) := by decide +kernel
theorem dX1_keepsApart_19 : decode cX1_keepsApart 19 = .ok (.getfield 37, 3) := by decide +kernel
theorem dX1_keepsApart_22 : decode cX1_keepsApart 22 = .ok (.aload_n 2, 1) := by decide +kernel
theorem dX1_keepsApart_23 : decode cX1_keepsApart 23 = .ok (.getfield 37, 3) := by decide +kernel
theorem dX1_keepsApart_26 : decode cX1_keepsApart 26 = .ok (.if_icmp .ne 41, 3) := by decide +kernel
theorem dX1_keepsApart_29 : decode cX1_keepsApart 29 = .ok (.aload_n 0, 1) := by decide +kernel
theorem dX1_keepsApart_30 : decode cX1_keepsApart 30 = .ok (.aload_n 1, 1) := by decide +kernel
theorem dX1_keepsApart_31 : decode cX1_keepsApart 31 = .ok (.getfield 28, 3) := by decide +kernel
theorem dX1_keepsApart_34 : decode cX1_keepsApart 34 = .ok (.aload_n 2, 1) := by decide +kernel
theorem dX1_keepsApart_35 : decode cX1_keepsApart 35 = .ok (.getfield 28, 3) := by decide +kernel
theorem dX1_keepsApart_38 : decode cX1_keepsApart 38 = .ok (.iconst 0, 1) := by decide +kernel
theorem dX1_keepsApart_39 : decode cX1_keepsApart 39 = .ok (.invokevirtual 33, 3) := by decide +kernel
theorem dX1_keepsApart_42 : decode cX1_keepsApart 42 = .ok (.ifCond .ne 19, 3) := by decide +kernel
theorem dX1_keepsApart_45 : decode cX1_keepsApart 45 = .ok (.aload_n 0, 1) := by decide +kernel
theorem dX1_keepsApart_46 : decode cX1_keepsApart 46 = .ok (.aload_n 1, 1) := by decide +kernel
theorem dX1_keepsApart_47 : decode cX1_keepsApart 47 = .ok (.getfield 28, 3) := by decide +kernel
theorem dX1_keepsApart_50 : decode cX1_keepsApart 50 = .ok (.aload_n 2, 1) := by decide +kernel
theorem dX1_keepsApart_51 : decode cX1_keepsApart 51 = .ok (.getfield 28, 3) := by decide +kernel
theorem dX1_keepsApart_54 : decode cX1_keepsApart 54 = .ok (.iconst 1, 1) := by decide +kernel
theorem dX1_keepsApart_55 : decode cX1_keepsApart 55 = .ok (.invokevirtual 33, 3) := by decide +kernel
theorem dX1_keepsApart_58 : decode cX1_keepsApart 58 = .ok (.ifCond .eq 7, 3) := by decide +kernel
theorem dX1_keepsApart_61 : decode cX1_keepsApart 61 = .ok (.iconst 1, 1) := by decide +kernel
theorem dX1_keepsApart_62 : decode cX1_keepsApart 62 = .ok (.goto 4, 3) := by decide +kernel
theorem dX1_keepsApart_65 : decode cX1_keepsApart 65 = .ok (.iconst 0, 1) := by decide +kernel
theorem dX1_keepsApart_66 : decode cX1_keepsApart 66 = .ok (.ireturn, 1) := by decide +kernel
theorem dX1_keepsApart_67 : decode cX1_keepsApart 67 = .ok (.aload_n 0, 1) := by decide +kernel
theorem dX1_keepsApart_68 : decode cX1_keepsApart 68 = .ok (.aload_n 1, 1) := by decide +kernel
theorem dX1_keepsApart_69 : decode cX1_keepsApart 69 = .ok (.getfield 37, 3) := by decide +kernel
theorem dX1_keepsApart_72 : decode cX1_keepsApart 72 = .ok (.aload_n 2, 1) := by decide +kernel
theorem dX1_keepsApart_73 : decode cX1_keepsApart 73 = .ok (.getfield 37, 3) := by decide +kernel
theorem dX1_keepsApart_76 : decode cX1_keepsApart 76 = .ok (.invokevirtual 40, 3) := by decide +kernel
theorem dX1_keepsApart_79 : decode cX1_keepsApart 79 = .ok (.ifCond .eq 23, 3) := by decide +kernel
theorem dX1_keepsApart_82 : decode cX1_keepsApart 82 = .ok (.aload_n 0, 1) := by decide +kernel
theorem dX1_keepsApart_83 : decode cX1_keepsApart 83 = .ok (.aload_n 1, 1) := by decide +kernel
theorem dX1_keepsApart_84 : decode cX1_keepsApart 84 = .ok (.getfield 28, 3) := by decide +kernel
theorem dX1_keepsApart_87 : decode cX1_keepsApart 87 = .ok (.aload_n 2, 1) := by decide +kernel
theorem dX1_keepsApart_88 : decode cX1_keepsApart 88 = .ok (.getfield 28, 3) := by decide +kernel
theorem dX1_keepsApart_91 : decode cX1_keepsApart 91 = .ok (.iconst 1, 1) := by decide +kernel
theorem dX1_keepsApart_92 : decode cX1_keepsApart 92 = .ok (.invokevirtual 33, 3) := by decide +kernel
theorem dX1_keepsApart_95 : decode cX1_keepsApart 95 = .ok (.ifCond .eq 7, 3) := by decide +kernel
theorem dX1_keepsApart_98 : decode cX1_keepsApart 98 = .ok (.iconst 1, 1) := by decide +kernel
theorem dX1_keepsApart_99 : decode cX1_keepsApart 99 = .ok (.goto 4, 3) := by decide +kernel
theorem dX1_keepsApart_102 : decode cX1_keepsApart 102 = .ok (.iconst 0, 1) := by decide +kernel
theorem dX1_keepsApart_103 : decode cX1_keepsApart 103 = .ok (.ireturn, 1) := by decide +kernel
theorem dX2_init_0 : decode cX2_init 0 = .ok (.aload_n 0, 1) := by decide +kernel
theorem dX2_init_1 : decode cX2_init 1 = .ok (.invokespecial 3, 3) := by decide +kernel
theorem dX2_init_4 : decode cX2_init 4 = .ok (.aload_n 0, 1) := by decide +kernel
theorem dX2_init_5 : decode cX2_init 5 = .ok (.bipush 40, 2) := by decide +kernel
theorem dX2_init_7 : decode cX2_init 7 = .ok (.anewarray 9, 3) := by decide +kernel
theorem dX2_init_10 : decode cX2_init 10 = .ok (.putfield 11, 3) := by decide +kernel
theorem dX2_init_13 : decode cX2_init 13 = .ok (.aload_n 0, 1) := by decide +kernel
theorem dX2_init_14 : decode cX2_init 14 = .ok (.bipush 40, 2) := by decide +kernel
theorem dX2_init_16 : decode cX2_init 16 = .ok (.newarray .int, 2) := by decide +kernel
theorem dX2_init_18 : decode cX2_init 18 = .ok (.putfield 17, 3) := by decide +kernel
theorem dX2_init_21 : decode cX2_init 21 = .ok (.aload_n 0, 1) := by decide +kernel
theorem dX2_init_22 : decode cX2_init 22 = .ok (.iconst 4, 1) := by decide +kernel
theorem dX2_init_23 : decode cX2_init 23 = .ok (.newarray .long, 2) := by decide +kernel
theorem dX2_init_25 : decode cX2_init 25 = .ok (.putfield 21, 3) := by decide +kernel
theorem dX2_init_28 : decode cX2_init 28 = .ok (.aload_n 0, 1) := by decide +kernel
theorem dX2_init_29 : decode cX2_init 29 = .ok (.bipush 20, 2) := by decide +kernel
theorem dX2_init_31 : decode cX2_init 31 = .ok (.newarray .long, 2) := by decide +kernel
theorem dX2_init_33 : decode cX2_init 33 = .ok (.putfield 25, 3) := by decide +kernel
theorem dX2_init_36 : decode cX2_init 36 = .ok (.return_, 1) := by decide +kernel
theorem dX2_find_0 : decode cX2_find 0 = .ok (.iload_n 1, 1) := by decide +kernel
theorem dX2_find_1 : decode cX2_find 1 = .ok (.ifCond .lt 20, 3) := by decide +kernel
theorem dX2_find_4 : decode cX2_find 4 = .ok (.iload_n 1, 1) := by decide +kernel
theorem dX2_find_5 : decode cX2_find 5 = .ok (.aload_n 0, 1) := by decide +kernel
theorem dX2_find_6 : decode cX2_find 6 = .ok (.getfield 28, 3) := by decide +kernel
theorem dX2_find_9 : decode cX2_find 9 = .ok (.if_icmp .ge 12, 3) := by decide +kernel
theorem dX2_find_12 : decode cX2_find 12 = .ok (.aload_n 0, 1) := by decide +kernel
theorem dX2_find_13 : decode cX2_find 13 = .ok (.getfield 11, 3) := by decide +kernel
theorem dX2_find_16 : decode cX2_find 16 = .ok (.iload_n 1, 1) := by decide +kernel
theorem dX2_find_17 : decode cX2_find 17 = .ok (.aaload, 1) := by decide +kernel
theorem dX2_find_18 : decode cX2_find 18 = .ok (.goto 4, 3) := by decide +kernel
theorem dX2_find_21 : decode cX2_find 21 = .ok (.aconst_null, 1) := by decide +kernel
theorem dX2_find_22 : decode cX2_find 22 = .ok (.areturn, 1) := by decide +kernel
theorem dX2_addWork_0 : decode cX2_addWork 0 = .ok (.aload_n 0, 1) := by decide +kernel
theorem dX2_addWork_1 : decode cX2_addWork 1 = .ok (.getfield 11, 3) := by decide +kernel
theorem dX2_addWork_4 : decode cX2_addWork 4 = .ok (.aload_n 0, 1) := by decide +kernel
theorem dX2_addWork_5 : decode cX2_addWork 5 = .ok (.getfield 28, 3) := by decide +kernel
theorem dX2_addWork_8 : decode cX2_addWork 8 = .ok (.aload_n 1, 1) := by decide +kernel
theorem dX2_addWork_9 : decode cX2_addWork 9 = .ok (.aastore, 1) := by decide +kernel
theorem dX2_addWork_10 : decode cX2_addWork 10 = .ok (.aload_n 0, 1) := by decide +kernel
theorem dX2_addWork_11 : decode cX2_addWork 11 = .ok (.dup, 1) := by decide +kernel
theorem dX2_addWork_12 : decode cX2_addWork 12 = .ok (.getfield 28, 3) := by decide +kernel
theorem dX2_addWork_15 : decode cX2_addWork 15 = .ok (.iconst 1, 1) := by decide +kernel
theorem dX2_addWork_16 : decode cX2_addWork 16 = .ok (.iadd, 1) := by decide +kernel
theorem dX2_addWork_17 : decode cX2_addWork 17 = .ok (.putfield 28, 3) := by decide +kernel
theorem dX2_addWork_20 : decode cX2_addWork 20 = .ok (.aload_n 0, 1) := by decide +kernel
theorem dX2_addWork_21 : decode cX2_addWork 21 = .ok (.getfield 25, 3) := by decide +kernel
theorem dX2_addWork_24 : decode cX2_addWork 24 = .ok (.aload_n 1, 1) := by decide +kernel
theorem dX2_addWork_25 : decode cX2_addWork 25 = .ok (.getfield 32, 3) := by decide +kernel
theorem dX2_addWork_28 : decode cX2_addWork 28 = .ok (.dup2, 1) := by decide +kernel
theorem dX2_addWork_29 : decode cX2_addWork 29 = .ok (.laload, 1) := by decide +kernel
theorem dX2_addWork_30 : decode cX2_addWork 30 = .ok (.aload_n 1, 1) := by decide +kernel
theorem dX2_addWork_31 : decode cX2_addWork 31 = .ok (.getfield 35, 3) := by decide +kernel
theorem dX2_addWork_34 : decode cX2_addWork 34 = .ok (.lor, 1) := by decide +kernel
theorem dX2_addWork_35 : decode cX2_addWork 35 = .ok (.lastore, 1) := by decide +kernel
theorem dX2_addWork_36 : decode cX2_addWork 36 = .ok (.aload_n 1, 1) := by decide +kernel
theorem dX2_addWork_37 : decode cX2_addWork 37 = .ok (.getfield 39, 3) := by decide +kernel
theorem dX2_addWork_40 : decode cX2_addWork 40 = .ok (.iconst (-1), 1) := by decide +kernel
theorem dX2_addWork_41 : decode cX2_addWork 41 = .ok (.if_icmp .eq 19, 3) := by decide +kernel
theorem dX2_addWork_44 : decode cX2_addWork 44 = .ok (.aload_n 0, 1) := by decide +kernel
theorem dX2_addWork_45 : decode cX2_addWork 45 = .ok (.getfield 21, 3) := by decide +kernel
theorem dX2_addWork_48 : decode cX2_addWork 48 = .ok (.aload_n 1, 1) := by decide +kernel
theorem dX2_addWork_49 : decode cX2_addWork 49 = .ok (.getfield 39, 3) := by decide +kernel
theorem dX2_addWork_52 : decode cX2_addWork 52 = .ok (.dup2, 1) := by decide +kernel
theorem dX2_addWork_53 : decode cX2_addWork 53 = .ok (.laload, 1) := by decide +kernel
theorem dX2_addWork_54 : decode cX2_addWork 54 = .ok (.aload_n 1, 1) := by decide +kernel
theorem dX2_addWork_55 : decode cX2_addWork 55 = .ok (.getfield 35, 3) := by decide +kernel
theorem dX2_addWork_58 : decode cX2_addWork 58 = .ok (.lor, 1) := by decide +kernel
theorem dX2_addWork_59 : decode cX2_addWork 59 = .ok (.lastore, 1) := by decide +kernel
theorem dX2_addWork_60 : decode cX2_addWork 60 = .ok (.aload_n 0, 1) := by decide +kernel
theorem dX2_addWork_61 : decode cX2_addWork 61 = .ok (.invokevirtual 42, 3) := by decide +kernel
theorem dX2_addWork_64 : decode cX2_addWork 64 = .ok (.return_, 1) := by decide +kernel
theorem dX2_link_0 : decode cX2_link 0 = .ok (.aload_n 1, 1) := by decide +kernel
theorem dX2_link_1 : decode cX2_link 1 = .ok (.dup, 1) := by decide +kernel
theorem dX2_link_2 : decode cX2_link 2 = .ok (.getfield 45, 3) := by decide +kernel
theorem dX2_link_5 : decode cX2_link 5 = .ok (.aload_n 2, 1) := by decide +kernel
theorem dX2_link_6 : decode cX2_link 6 = .ok (.getfield 35, 3) := by decide +kernel
theorem dX2_link_9 : decode cX2_link 9 = .ok (.lor, 1) := by decide +kernel
theorem dX2_link_10 : decode cX2_link 10 = .ok (.putfield 45, 3) := by decide +kernel
theorem dX2_link_13 : decode cX2_link 13 = .ok (.aload_n 2, 1) := by decide +kernel
theorem dX2_link_14 : decode cX2_link 14 = .ok (.getfield 48, 3) := by decide +kernel
theorem dX2_link_17 : decode cX2_link 17 = .ok (.aload_n 2, 1) := by decide +kernel
theorem dX2_link_18 : decode cX2_link 18 = .ok (.getfield 35, 3) := by decide +kernel
theorem dX2_link_21 : decode cX2_link 21 = .ok (.lor, 1) := by decide +kernel
theorem dX2_link_22 : decode cX2_link 22 = .ok (.lstore_n 3, 1) := by decide +kernel
theorem dX2_link_23 : decode cX2_link 23 = .ok (.iconst 0, 1) := by decide +kernel
theorem dX2_link_24 : decode cX2_link 24 = .ok (.istore 5, 2) := by decide +kernel
theorem dX2_link_26 : decode cX2_link 26 = .ok (.iload 5, 2) := by decide +kernel
theorem dX2_link_28 : decode cX2_link 28 = .ok (.aload_n 0, 1) := by decide +kernel
theorem dX2_link_29 : decode cX2_link 29 = .ok (.getfield 28, 3) := by decide +kernel
theorem dX2_link_32 : decode cX2_link 32 = .ok (.if_icmp .ge 44, 3) := by decide +kernel
theorem dX2_link_35 : decode cX2_link 35 = .ok (.aload_n 0, 1) := by decide +kernel
theorem dX2_link_36 : decode cX2_link 36 = .ok (.getfield 11, 3) := by decide +kernel
theorem dX2_link_39 : decode cX2_link 39 = .ok (.iload 5, 2) := by decide +kernel
theorem dX2_link_41 : decode cX2_link 41 = .ok (.aaload, 1) := by decide +kernel
theorem dX2_link_42 : decode cX2_link 42 = .ok (.astore 6, 2) := by decide +kernel
theorem dX2_link_44 : decode cX2_link 44 = .ok (.aload 6, 2) := by decide +kernel
theorem dX2_link_46 : decode cX2_link 46 = .ok (.aload_n 1, 1) := by decide +kernel
theorem dX2_link_47 : decode cX2_link 47 = .ok (.if_acmp .eq 12, 3) := by decide +kernel
theorem dX2_link_50 : decode cX2_link 50 = .ok (.aload 6, 2) := by decide +kernel
theorem dX2_link_52 : decode cX2_link 52 = .ok (.aload_n 1, 1) := by decide +kernel
theorem dX2_link_53 : decode cX2_link 53 = .ok (.invokevirtual 51, 3) := by decide +kernel
theorem dX2_link_56 : decode cX2_link 56 = .ok (.ifCond .eq 14, 3) := by decide +kernel
theorem dX2_link_59 : decode cX2_link 59 = .ok (.aload 6, 2) := by decide +kernel
theorem dX2_link_61 : decode cX2_link 61 = .ok (.dup, 1) := by decide +kernel
theorem dX2_link_62 : decode cX2_link 62 = .ok (.getfield 48, 3) := by decide +kernel
theorem dX2_link_65 : decode cX2_link 65 = .ok (.lload_n 3, 1) := by decide +kernel
theorem dX2_link_66 : decode cX2_link 66 = .ok (.lor, 1) := by decide +kernel
theorem dX2_link_67 : decode cX2_link 67 = .ok (.putfield 48, 3) := by decide +kernel
theorem dX2_link_70 : decode cX2_link 70 = .ok (.iinc 5 1, 3) := by decide +kernel
theorem dX2_link_73 : decode cX2_link 73 = .ok (.goto (-47), 3) := by decide +kernel
theorem dX2_link_76 : decode cX2_link 76 = .ok (.aload_n 0, 1) := by decide +kernel
theorem dX2_link_77 : decode cX2_link 77 = .ok (.invokevirtual 42, 3) := by decide +kernel
theorem dX2_link_80 : decode cX2_link 80 = .ok (.return_, 1) := by decide +kernel
theorem dX2_weigh_0 : decode cX2_weigh 0 = .ok (.aload_n 0, 1) := by decide +kernel
theorem dX2_weigh_1 : decode cX2_weigh 1 = .ok (.invokevirtual 55, 3) := by decide +kernel
theorem dX2_weigh_4 : decode cX2_weigh 4 = .ok (.iconst 0, 1) := by decide +kernel
theorem dX2_weigh_5 : decode cX2_weigh 5 = .ok (.istore_n 1, 1) := by decide +kernel
theorem dX2_weigh_6 : decode cX2_weigh 6 = .ok (.iload_n 1, 1) := by decide +kernel
theorem dX2_weigh_7 : decode cX2_weigh 7 = .ok (.aload_n 0, 1) := by decide +kernel
theorem dX2_weigh_8 : decode cX2_weigh 8 = .ok (.getfield 28, 3) := by decide +kernel
theorem dX2_weigh_11 : decode cX2_weigh 11 = .ok (.if_icmp .ge 29, 3) := by decide +kernel
theorem dX2_weigh_14 : decode cX2_weigh 14 = .ok (.aload_n 0, 1) := by decide +kernel
theorem dX2_weigh_15 : decode cX2_weigh 15 = .ok (.getfield 11, 3) := by decide +kernel
theorem dX2_weigh_18 : decode cX2_weigh 18 = .ok (.iload_n 1, 1) := by decide +kernel
theorem dX2_weigh_19 : decode cX2_weigh 19 = .ok (.aaload, 1) := by decide +kernel
theorem dX2_weigh_20 : decode cX2_weigh 20 = .ok (.iconst 0, 1) := by decide +kernel
theorem dX2_weigh_21 : decode cX2_weigh 21 = .ok (.putfield 58, 3) := by decide +kernel
theorem dX2_weigh_24 : decode cX2_weigh 24 = .ok (.aload_n 0, 1) := by decide +kernel
theorem dX2_weigh_25 : decode cX2_weigh 25 = .ok (.getfield 11, 3) := by decide +kernel
theorem dX2_weigh_28 : decode cX2_weigh 28 = .ok (.iload_n 1, 1) := by decide +kernel
theorem dX2_weigh_29 : decode cX2_weigh 29 = .ok (.aaload, 1) := by decide +kernel
theorem dX2_weigh_30 : decode cX2_weigh 30 = .ok (.iconst 0, 1) := by decide +kernel
theorem dX2_weigh_31 : decode cX2_weigh 31 = .ok (.putfield 61, 3) := by decide +kernel
theorem dX2_weigh_34 : decode cX2_weigh 34 = .ok (.iinc 1 1, 3) := by decide +kernel
theorem dX2_weigh_37 : decode cX2_weigh 37 = .ok (.goto (-31), 3) := by decide +kernel
theorem dX2_weigh_40 : decode cX2_weigh 40 = .ok (.iconst 0, 1) := by decide +kernel
theorem dX2_weigh_41 : decode cX2_weigh 41 = .ok (.istore_n 1, 1) := by decide +kernel
theorem dX2_weigh_42 : decode cX2_weigh 42 = .ok (.iload_n 1, 1) := by decide +kernel
theorem dX2_weigh_43 : decode cX2_weigh 43 = .ok (.aload_n 0, 1) := by decide +kernel
theorem dX2_weigh_44 : decode cX2_weigh 44 = .ok (.getfield 28, 3) := by decide +kernel
theorem dX2_weigh_47 : decode cX2_weigh 47 = .ok (.if_icmp .ge 24, 3) := by decide +kernel
theorem dX2_weigh_50 : decode cX2_weigh 50 = .ok (.aload_n 0, 1) := by decide +kernel
theorem dX2_weigh_51 : decode cX2_weigh 51 = .ok (.aload_n 0, 1) := by decide +kernel
theorem dX2_weigh_52 : decode cX2_weigh 52 = .ok (.getfield 11, 3) := by decide +kernel
theorem dX2_weigh_55 : decode cX2_weigh 55 = .ok (.aload_n 0, 1) := by decide +kernel
theorem dX2_weigh_56 : decode cX2_weigh 56 = .ok (.getfield 17, 3) := by decide +kernel
theorem dX2_weigh_59 : decode cX2_weigh 59 = .ok (.iload_n 1, 1) := by decide +kernel
theorem dX2_weigh_60 : decode cX2_weigh 60 = .ok (.iaload, 1) := by decide +kernel
theorem dX2_weigh_61 : decode cX2_weigh 61 = .ok (.aaload, 1) := by decide +kernel
theorem dX2_weigh_62 : decode cX2_weigh 62 = .ok (.invokevirtual 64, 3) := by decide +kernel
theorem dX2_weigh_65 : decode cX2_weigh 65 = .ok (.iinc 1 1, 3) := by decide +kernel
theorem dX2_weigh_68 : decode cX2_weigh 68 = .ok (.goto (-26), 3) := by decide +kernel
theorem dX2_weigh_71 : decode cX2_weigh 71 = .ok (.aload_n 0, 1) := by decide +kernel
theorem dX2_weigh_72 : decode cX2_weigh 72 = .ok (.getfield 28, 3) := by decide +kernel
theorem dX2_weigh_75 : decode cX2_weigh 75 = .ok (.iconst 1, 1) := by decide +kernel
theorem dX2_weigh_76 : decode cX2_weigh 76 = .ok (.isub, 1) := by decide +kernel
theorem dX2_weigh_77 : decode cX2_weigh 77 = .ok (.istore_n 1, 1) := by decide +kernel
theorem dX2_weigh_78 : decode cX2_weigh 78 = .ok (.iload_n 1, 1) := by decide +kernel
theorem dX2_weigh_79 : decode cX2_weigh 79 = .ok (.ifCond .lt 24, 3) := by decide +kernel
theorem dX2_weigh_82 : decode cX2_weigh 82 = .ok (.aload_n 0, 1) := by decide +kernel
theorem dX2_weigh_83 : decode cX2_weigh 83 = .ok (.aload_n 0, 1) := by decide +kernel
theorem dX2_weigh_84 : decode cX2_weigh 84 = .ok (.getfield 11, 3) := by decide +kernel
theorem dX2_weigh_87 : decode cX2_weigh 87 = .ok (.aload_n 0, 1) := by decide +kernel
theorem dX2_weigh_88 : decode cX2_weigh 88 = .ok (.getfield 17, 3) := by decide +kernel
theorem dX2_weigh_91 : decode cX2_weigh 91 = .ok (.iload_n 1, 1) := by decide +kernel
theorem dX2_weigh_92 : decode cX2_weigh 92 = .ok (.iaload, 1) := by decide +kernel
theorem dX2_weigh_93 : decode cX2_weigh 93 = .ok (.aaload, 1) := by decide +kernel
theorem dX2_weigh_94 : decode cX2_weigh 94 = .ok (.invokevirtual 68, 3) := by decide +kernel
theorem dX2_weigh_97 : decode cX2_weigh 97 = .ok (.iinc 1 (-1), 3) := by decide +kernel
theorem dX2_weigh_100 : decode cX2_weigh 100 = .ok (.goto (-22), 3) := by decide +kernel
theorem dX2_weigh_103 : decode cX2_weigh 103 = .ok (.aload_n 0, 1) := by decide +kernel
theorem dX2_weigh_104 : decode cX2_weigh 104 = .ok (.iconst 0, 1) := by decide +kernel
theorem dX2_weigh_105 : decode cX2_weigh 105 = .ok (.putfield 71, 3) := by decide +kernel
theorem dX2_weigh_108 : decode cX2_weigh 108 = .ok (.iconst 0, 1) := by decide +kernel
theorem dX2_weigh_109 : decode cX2_weigh 109 = .ok (.istore_n 1, 1) := by decide +kernel
theorem dX2_weigh_110 : decode cX2_weigh 110 = .ok (.iload_n 1, 1) := by decide +kernel
theorem dX2_weigh_111 : decode cX2_weigh 111 = .ok (.aload_n 0, 1) := by decide +kernel
theorem dX2_weigh_112 : decode cX2_weigh 112 = .ok (.getfield 28, 3) := by decide +kernel
theorem dX2_weigh_115 : decode cX2_weigh 115 = .ok (.if_icmp .ge 29, 3) := by decide +kernel
theorem dX2_weigh_118 : decode cX2_weigh 118 = .ok (.aload_n 0, 1) := by decide +kernel
theorem dX2_weigh_119 : decode cX2_weigh 119 = .ok (.aload_n 0, 1) := by decide +kernel
theorem dX2_weigh_120 : decode cX2_weigh 120 = .ok (.getfield 71, 3) := by decide +kernel
theorem dX2_weigh_123 : decode cX2_weigh 123 = .ok (.aload_n 0, 1) := by decide +kernel
theorem dX2_weigh_124 : decode cX2_weigh 124 = .ok (.getfield 11, 3) := by decide +kernel
theorem dX2_weigh_127 : decode cX2_weigh 127 = .ok (.iload_n 1, 1) := by decide +kernel
theorem dX2_weigh_128 : decode cX2_weigh 128 = .ok (.aaload, 1) := by decide +kernel
theorem dX2_weigh_129 : decode cX2_weigh 129 = .ok (.invokevirtual 74, 3) := by decide +kernel
theorem dX2_weigh_132 : decode cX2_weigh 132 = .ok (.invokestatic 78, 3) := by decide +kernel
theorem dX2_weigh_135 : decode cX2_weigh 135 = .ok (.putfield 71, 3) := by decide +kernel
theorem dX2_weigh_138 : decode cX2_weigh 138 = .ok (.iinc 1 1, 3) := by decide +kernel
theorem dX2_weigh_141 : decode cX2_weigh 141 = .ok (.goto (-31), 3) := by decide +kernel
theorem dX2_weigh_144 : decode cX2_weigh 144 = .ok (.return_, 1) := by decide +kernel
theorem dX2_rank_0 : decode cX2_rank 0 = .ok (.iconst 0, 1) := by decide +kernel
theorem dX2_rank_1 : decode cX2_rank 1 = .ok (.istore_n 1, 1) := by decide +kernel
theorem dX2_rank_2 : decode cX2_rank 2 = .ok (.iconst 0, 1) := by decide +kernel
theorem dX2_rank_3 : decode cX2_rank 3 = .ok (.istore_n 2, 1) := by decide +kernel
theorem dX2_rank_4 : decode cX2_rank 4 = .ok (.iload_n 2, 1) := by decide +kernel
theorem dX2_rank_5 : decode cX2_rank 5 = .ok (.aload_n 0, 1) := by decide +kernel
theorem dX2_rank_6 : decode cX2_rank 6 = .ok (.getfield 28, 3) := by decide +kernel
theorem dX2_rank_9 : decode cX2_rank 9 = .ok (.if_icmp .ge 51, 3) := by decide +kernel
theorem dX2_rank_12 : decode cX2_rank 12 = .ok (.iconst 0, 1) := by decide +kernel
theorem dX2_rank_13 : decode cX2_rank 13 = .ok (.istore_n 3, 1) := by decide +kernel
theorem dX2_rank_14 : decode cX2_rank 14 = .ok (.iload_n 3, 1) := by decide +kernel
theorem dX2_rank_15 : decode cX2_rank 15 = .ok (.aload_n 0, 1) := by decide +kernel
theorem dX2_rank_16 : decode cX2_rank 16 = .ok (.getfield 28, 3) := by decide +kernel
theorem dX2_rank_19 : decode cX2_rank 19 = .ok (.if_icmp .ge 35, 3) := by decide +kernel
theorem dX2_rank_22 : decode cX2_rank 22 = .ok (.aload_n 0, 1) := by decide +kernel
theorem dX2_rank_23 : decode cX2_rank 23 = .ok (.getfield 11, 3) := by decide +kernel
theorem dX2_rank_26 : decode cX2_rank 26 = .ok (.iload_n 3, 1) := by decide +kernel
theorem dX2_rank_27 : decode cX2_rank 27 = .ok (.aaload, 1) := by decide +kernel
theorem dX2_rank_28 : decode cX2_rank 28 = .ok (.getfield 48, 3) := by decide +kernel
theorem dX2_rank_31 : decode cX2_rank 31 = .ok (.invokestatic 84, 3) := by decide +kernel
theorem dX2_rank_34 : decode cX2_rank 34 = .ok (.iload_n 2, 1) := by decide +kernel
theorem dX2_rank_35 : decode cX2_rank 35 = .ok (.if_icmp .ne 13, 3) := by decide +kernel
theorem dX2_rank_38 : decode cX2_rank 38 = .ok (.aload_n 0, 1) := by decide +kernel
theorem dX2_rank_39 : decode cX2_rank 39 = .ok (.getfield 17, 3) := by decide +kernel
theorem dX2_rank_42 : decode cX2_rank 42 = .ok (.iload_n 1, 1) := by decide +kernel
theorem dX2_rank_43 : decode cX2_rank 43 = .ok (.iload_n 3, 1) := by decide +kernel
theorem dX2_rank_44 : decode cX2_rank 44 = .ok (.iastore, 1) := by decide +kernel
theorem dX2_rank_45 : decode cX2_rank 45 = .ok (.iinc 1 1, 3) := by decide +kernel
theorem dX2_rank_48 : decode cX2_rank 48 = .ok (.iinc 3 1, 3) := by decide +kernel
theorem dX2_rank_51 : decode cX2_rank 51 = .ok (.goto (-37), 3) := by decide +kernel
theorem dX2_rank_54 : decode cX2_rank 54 = .ok (.iinc 2 1, 3) := by decide +kernel
theorem dX2_rank_57 : decode cX2_rank 57 = .ok (.goto (-53), 3) := by decide +kernel
theorem dX2_rank_60 : decode cX2_rank 60 = .ok (.return_, 1) := by decide +kernel
theorem dX2_pushEarly_0 : decode cX2_pushEarly 0 = .ok (.iconst 0, 1) := by decide +kernel
theorem dX2_pushEarly_1 : decode cX2_pushEarly 1 = .ok (.istore_n 2, 1) := by decide +kernel
theorem dX2_pushEarly_2 : decode cX2_pushEarly 2 = .ok (.iload_n 2, 1) := by decide +kernel
theorem dX2_pushEarly_3 : decode cX2_pushEarly 3 = .ok (.aload_n 0, 1) := by decide +kernel
theorem dX2_pushEarly_4 : decode cX2_pushEarly 4 = .ok (.getfield 28, 3) := by decide +kernel
theorem dX2_pushEarly_7 : decode cX2_pushEarly 7 = .ok (.if_icmp .ge 44, 3) := by decide +kernel
theorem dX2_pushEarly_10 : decode cX2_pushEarly 10 = .ok (.aload_n 0, 1) := by decide +kernel
theorem dX2_pushEarly_11 : decode cX2_pushEarly 11 = .ok (.getfield 11, 3) := by decide +kernel
theorem dX2_pushEarly_14 : decode cX2_pushEarly 14 = .ok (.iload_n 2, 1) := by decide +kernel
theorem dX2_pushEarly_15 : decode cX2_pushEarly 15 = .ok (.aaload, 1) := by decide +kernel
theorem dX2_pushEarly_16 : decode cX2_pushEarly 16 = .ok (.astore_n 3, 1) := by decide +kernel
theorem dX2_pushEarly_17 : decode cX2_pushEarly 17 = .ok (.aload_n 3, 1) := by decide +kernel
theorem dX2_pushEarly_18 : decode cX2_pushEarly 18 = .ok (.aload_n 1, 1) := by decide +kernel
theorem dX2_pushEarly_19 : decode cX2_pushEarly 19 = .ok (.invokevirtual 90, 3) := by decide +kernel
theorem dX2_pushEarly_22 : decode cX2_pushEarly 22 = .ok (.ifCond .eq 23, 3) := by decide +kernel
theorem dX2_pushEarly_25 : decode cX2_pushEarly 25 = .ok (.aload_n 3, 1) := by decide +kernel
theorem dX2_pushEarly_26 : decode cX2_pushEarly 26 = .ok (.aload_n 3, 1) := by decide +kernel
theorem dX2_pushEarly_27 : decode cX2_pushEarly 27 = .ok (.getfield 58, 3) := by decide +kernel
theorem dX2_pushEarly_30 : decode cX2_pushEarly 30 = .ok (.aload_n 1, 1) := by decide +kernel
theorem dX2_pushEarly_31 : decode cX2_pushEarly 31 = .ok (.getfield 58, 3) := by decide +kernel
theorem dX2_pushEarly_34 : decode cX2_pushEarly 34 = .ok (.aload_n 1, 1) := by decide +kernel
theorem dX2_pushEarly_35 : decode cX2_pushEarly 35 = .ok (.getfield 93, 3) := by decide +kernel
theorem dX2_pushEarly_38 : decode cX2_pushEarly 38 = .ok (.iadd, 1) := by decide +kernel
theorem dX2_pushEarly_39 : decode cX2_pushEarly 39 = .ok (.invokestatic 78, 3) := by decide +kernel
theorem dX2_pushEarly_42 : decode cX2_pushEarly 42 = .ok (.putfield 58, 3) := by decide +kernel
theorem dX2_pushEarly_45 : decode cX2_pushEarly 45 = .ok (.iinc 2 1, 3) := by decide +kernel
theorem dX2_pushEarly_48 : decode cX2_pushEarly 48 = .ok (.goto (-46), 3) := by decide +kernel
theorem dX2_pushEarly_51 : decode cX2_pushEarly 51 = .ok (.return_, 1) := by decide +kernel
theorem dX2_pushTail_0 : decode cX2_pushTail 0 = .ok (.iconst 0, 1) := by decide +kernel
theorem dX2_pushTail_1 : decode cX2_pushTail 1 = .ok (.istore_n 2, 1) := by decide +kernel
theorem dX2_pushTail_2 : decode cX2_pushTail 2 = .ok (.iload_n 2, 1) := by decide +kernel
theorem dX2_pushTail_3 : decode cX2_pushTail 3 = .ok (.aload_n 0, 1) := by decide +kernel
theorem dX2_pushTail_4 : decode cX2_pushTail 4 = .ok (.getfield 28, 3) := by decide +kernel
theorem dX2_pushTail_7 : decode cX2_pushTail 7 = .ok (.if_icmp .ge 44, 3) := by decide +kernel
theorem dX2_pushTail_10 : decode cX2_pushTail 10 = .ok (.aload_n 0, 1) := by decide +kernel
theorem dX2_pushTail_11 : decode cX2_pushTail 11 = .ok (.getfield 11, 3) := by decide +kernel
theorem dX2_pushTail_14 : decode cX2_pushTail 14 = .ok (.iload_n 2, 1) := by decide +kernel
theorem dX2_pushTail_15 : decode cX2_pushTail 15 = .ok (.aaload, 1) := by decide +kernel
theorem dX2_pushTail_16 : decode cX2_pushTail 16 = .ok (.astore_n 3, 1) := by decide +kernel
theorem dX2_pushTail_17 : decode cX2_pushTail 17 = .ok (.aload_n 1, 1) := by decide +kernel
theorem dX2_pushTail_18 : decode cX2_pushTail 18 = .ok (.aload_n 3, 1) := by decide +kernel
theorem dX2_pushTail_19 : decode cX2_pushTail 19 = .ok (.invokevirtual 90, 3) := by decide +kernel
theorem dX2_pushTail_22 : decode cX2_pushTail 22 = .ok (.ifCond .eq 23, 3) := by decide +kernel
theorem dX2_pushTail_25 : decode cX2_pushTail 25 = .ok (.aload_n 3, 1) := by decide +kernel
theorem dX2_pushTail_26 : decode cX2_pushTail 26 = .ok (.aload_n 3, 1) := by decide +kernel
theorem dX2_pushTail_27 : decode cX2_pushTail 27 = .ok (.getfield 61, 3) := by decide +kernel
theorem dX2_pushTail_30 : decode cX2_pushTail 30 = .ok (.aload_n 1, 1) := by decide +kernel
theorem dX2_pushTail_31 : decode cX2_pushTail 31 = .ok (.getfield 93, 3) := by decide +kernel
theorem dX2_pushTail_34 : decode cX2_pushTail 34 = .ok (.aload_n 1, 1) := by decide +kernel
theorem dX2_pushTail_35 : decode cX2_pushTail 35 = .ok (.getfield 61, 3) := by decide +kernel
theorem dX2_pushTail_38 : decode cX2_pushTail 38 = .ok (.iadd, 1) := by decide +kernel
theorem dX2_pushTail_39 : decode cX2_pushTail 39 = .ok (.invokestatic 78, 3) := by decide +kernel
theorem dX2_pushTail_42 : decode cX2_pushTail 42 = .ok (.putfield 61, 3) := by decide +kernel
theorem dX2_pushTail_45 : decode cX2_pushTail 45 = .ok (.iinc 2 1, 3) := by decide +kernel
theorem dX2_pushTail_48 : decode cX2_pushTail 48 = .ok (.goto (-46), 3) := by decide +kernel
theorem dX2_pushTail_51 : decode cX2_pushTail 51 = .ok (.return_, 1) := by decide +kernel
theorem dX2_slackOf_0 : decode cX2_slackOf 0 = .ok (.aload_n 0, 1) := by decide +kernel
theorem dX2_slackOf_1 : decode cX2_slackOf 1 = .ok (.getfield 71, 3) := by decide +kernel
theorem dX2_slackOf_4 : decode cX2_slackOf 4 = .ok (.aload_n 1, 1) := by decide +kernel
theorem dX2_slackOf_5 : decode cX2_slackOf 5 = .ok (.invokevirtual 74, 3) := by decide +kernel
theorem dX2_slackOf_8 : decode cX2_slackOf 8 = .ok (.isub, 1) := by decide +kernel
theorem dX2_slackOf_9 : decode cX2_slackOf 9 = .ok (.ireturn, 1) := by decide +kernel
theorem dX2_allThatArePut_0 : decode cX2_allThatArePut 0 = .ok (.lconst 0, 1) := by decide +kernel
theorem dX2_allThatArePut_1 : decode cX2_allThatArePut 1 = .ok (.lstore_n 1, 1) := by decide +kernel
theorem dX2_allThatArePut_2 : decode cX2_allThatArePut 2 = .ok (.iconst 0, 1) := by decide +kernel
theorem dX2_allThatArePut_3 : decode cX2_allThatArePut 3 = .ok (.istore_n 3, 1) := by decide +kernel
theorem dX2_allThatArePut_4 : decode cX2_allThatArePut 4 = .ok (.iload_n 3, 1) := by decide +kernel
theorem dX2_allThatArePut_5 : decode cX2_allThatArePut 5 = .ok (.aload_n 0, 1) := by decide +kernel
theorem dX2_allThatArePut_6 : decode cX2_allThatArePut 6 = .ok (.getfield 28, 3) := by decide +kernel
theorem dX2_allThatArePut_9 : decode cX2_allThatArePut 9 = .ok (.if_icmp .ge 33, 3) := by decide +kernel
theorem dX2_allThatArePut_12 : decode cX2_allThatArePut 12 = .ok (.aload_n 0, 1) := by decide +kernel
theorem dX2_allThatArePut_13 : decode cX2_allThatArePut 13 = .ok (.getfield 11, 3) := by decide +kernel
theorem dX2_allThatArePut_16 : decode cX2_allThatArePut 16 = .ok (.iload_n 3, 1) := by decide +kernel
theorem dX2_allThatArePut_17 : decode cX2_allThatArePut 17 = .ok (.aaload, 1) := by decide +kernel
theorem dX2_allThatArePut_18 : decode cX2_allThatArePut 18 = .ok (.invokevirtual 96, 3) := by decide +kernel
theorem dX2_allThatArePut_21 : decode cX2_allThatArePut 21 = .ok (.ifCond .ne 15, 3) := by decide +kernel
theorem dX2_allThatArePut_24 : decode cX2_allThatArePut 24 = .ok (.lload_n 1, 1) := by decide +kernel
theorem dX2_allThatArePut_25 : decode cX2_allThatArePut 25 = .ok (.aload_n 0, 1) := by decide +kernel
theorem dX2_allThatArePut_26 : decode cX2_allThatArePut 26 = .ok (.getfield 11, 3) := by decide +kernel
theorem dX2_allThatArePut_29 : decode cX2_allThatArePut 29 = .ok (.iload_n 3, 1) := by decide +kernel
theorem dX2_allThatArePut_30 : decode cX2_allThatArePut 30 = .ok (.aaload, 1) := by decide +kernel
theorem dX2_allThatArePut_31 : decode cX2_allThatArePut 31 = .ok (.getfield 35, 3) := by decide +kernel
theorem dX2_allThatArePut_34 : decode cX2_allThatArePut 34 = .ok (.lor, 1) := by decide +kernel
theorem dX2_allThatArePut_35 : decode cX2_allThatArePut 35 = .ok (.lstore_n 1, 1) := by decide +kernel
theorem dX2_allThatArePut_36 : decode cX2_allThatArePut 36 = .ok (.iinc 3 1, 3) := by decide +kernel
theorem dX2_allThatArePut_39 : decode cX2_allThatArePut 39 = .ok (.goto (-35), 3) := by decide +kernel
theorem dX2_allThatArePut_42 : decode cX2_allThatArePut 42 = .ok (.lload_n 1, 1) := by decide +kernel
theorem dX2_allThatArePut_43 : decode cX2_allThatArePut 43 = .ok (.lreturn, 1) := by decide +kernel
theorem dX2_allDone_0 : decode cX2_allDone 0 = .ok (.lconst 0, 1) := by decide +kernel
theorem dX2_allDone_1 : decode cX2_allDone 1 = .ok (.lstore_n 2, 1) := by decide +kernel
theorem dX2_allDone_2 : decode cX2_allDone 2 = .ok (.iconst 0, 1) := by decide +kernel
theorem dX2_allDone_3 : decode cX2_allDone 3 = .ok (.istore 4, 2) := by decide +kernel
theorem dX2_allDone_5 : decode cX2_allDone 5 = .ok (.iload 4, 2) := by decide +kernel
theorem dX2_allDone_7 : decode cX2_allDone 7 = .ok (.aload_n 0, 1) := by decide +kernel
theorem dX2_allDone_8 : decode cX2_allDone 8 = .ok (.getfield 28, 3) := by decide +kernel
theorem dX2_allDone_11 : decode cX2_allDone 11 = .ok (.if_icmp .ge 36, 3) := by decide +kernel
theorem dX2_allDone_14 : decode cX2_allDone 14 = .ok (.aload_n 0, 1) := by decide +kernel
theorem dX2_allDone_15 : decode cX2_allDone 15 = .ok (.getfield 11, 3) := by decide +kernel
theorem dX2_allDone_18 : decode cX2_allDone 18 = .ok (.iload 4, 2) := by decide +kernel
theorem dX2_allDone_20 : decode cX2_allDone 20 = .ok (.aaload, 1) := by decide +kernel
theorem dX2_allDone_21 : decode cX2_allDone 21 = .ok (.iload_n 1, 1) := by decide +kernel
theorem dX2_allDone_22 : decode cX2_allDone 22 = .ok (.invokevirtual 100, 3) := by decide +kernel
theorem dX2_allDone_25 : decode cX2_allDone 25 = .ok (.ifCond .eq 16, 3) := by decide +kernel
theorem dX2_allDone_28 : decode cX2_allDone 28 = .ok (.lload_n 2, 1) := by decide +kernel
theorem dX2_allDone_29 : decode cX2_allDone 29 = .ok (.aload_n 0, 1) := by decide +kernel
theorem dX2_allDone_30 : decode cX2_allDone 30 = .ok (.getfield 11, 3) := by decide +kernel
theorem dX2_allDone_33 : decode cX2_allDone 33 = .ok (.iload 4, 2) := by decide +kernel
theorem dX2_allDone_35 : decode cX2_allDone 35 = .ok (.aaload, 1) := by decide +kernel
theorem dX2_allDone_36 : decode cX2_allDone 36 = .ok (.getfield 35, 3) := by decide +kernel
theorem dX2_allDone_39 : decode cX2_allDone 39 = .ok (.lor, 1) := by decide +kernel
theorem dX2_allDone_40 : decode cX2_allDone 40 = .ok (.lstore_n 2, 1) := by decide +kernel
theorem dX2_allDone_41 : decode cX2_allDone 41 = .ok (.iinc 4 1, 3) := by decide +kernel
theorem dX2_allDone_44 : decode cX2_allDone 44 = .ok (.goto (-39), 3) := by decide +kernel
theorem dX2_allDone_47 : decode cX2_allDone 47 = .ok (.lload_n 2, 1) := by decide +kernel
theorem dX2_allDone_48 : decode cX2_allDone 48 = .ok (.lreturn, 1) := by decide +kernel
theorem dX2_mostPressing_0 : decode cX2_mostPressing 0 = .ok (.aload_n 0, 1) := by decide +kernel
theorem dX2_mostPressing_1 : decode cX2_mostPressing 1 = .ok (.invokevirtual 104, 3) := by decide +kernel
theorem dX2_mostPressing_4 : decode cX2_mostPressing 4 = .ok (.lstore_n 3, 1) := by decide +kernel
theorem dX2_mostPressing_5 : decode cX2_mostPressing 5 = .ok (.aconst_null, 1) := by decide +kernel
theorem dX2_mostPressing_6 : decode cX2_mostPressing 6 = .ok (.astore 5, 2) := by decide +kernel
theorem dX2_mostPressing_8 : decode cX2_mostPressing 8 = .ok (.iconst 0, 1) := by decide +kernel
theorem dX2_mostPressing_9 : decode cX2_mostPressing 9 = .ok (.istore 6, 2) := by decide +kernel
theorem dX2_mostPressing_11 : decode cX2_mostPressing 11 = .ok (.iload 6, 2) := by decide +kernel
theorem dX2_mostPressing_13 : decode cX2_mostPressing 13 = .ok (.aload_n 0, 1) := by decide +kernel
theorem dX2_mostPressing_14 : decode cX2_mostPressing 14 = .ok (.getfield 28, 3) := by decide +kernel
theorem dX2_mostPressing_17 : decode cX2_mostPressing 17 = .ok (.if_icmp .ge 75, 3) := by decide +kernel
theorem dX2_mostPressing_20 : decode cX2_mostPressing 20 = .ok (.aload_n 0, 1) := by decide +kernel
theorem dX2_mostPressing_21 : decode cX2_mostPressing 21 = .ok (.getfield 11, 3) := by decide +kernel
theorem dX2_mostPressing_24 : decode cX2_mostPressing 24 = .ok (.iload 6, 2) := by decide +kernel
theorem dX2_mostPressing_26 : decode cX2_mostPressing 26 = .ok (.aaload, 1) := by decide +kernel
theorem dX2_mostPressing_27 : decode cX2_mostPressing 27 = .ok (.astore 7, 2) := by decide +kernel
theorem dX2_mostPressing_29 : decode cX2_mostPressing 29 = .ok (.lload_n 1, 1) := by decide +kernel
theorem dX2_mostPressing_30 : decode cX2_mostPressing 30 = .ok (.aload 7, 2) := by decide +kernel
theorem dX2_mostPressing_32 : decode cX2_mostPressing 32 = .ok (.getfield 35, 3) := by decide +kernel
theorem dX2_mostPressing_35 : decode cX2_mostPressing 35 = .ok (.land, 1) := by decide +kernel
theorem dX2_mostPressing_36 : decode cX2_mostPressing 36 = .ok (.lconst 0, 1) := by decide +kernel
theorem dX2_mostPressing_37 : decode cX2_mostPressing 37 = .ok (.lcmp, 1) := by decide +kernel
theorem dX2_mostPressing_38 : decode cX2_mostPressing 38 = .ok (.ifCond .ne 16, 3) := by decide +kernel
theorem dX2_mostPressing_41 : decode cX2_mostPressing 41 = .ok (.aload 7, 2) := by decide +kernel
theorem dX2_mostPressing_43 : decode cX2_mostPressing 43 = .ok (.lload_n 3, 1) := by decide +kernel
theorem dX2_mostPressing_44 : decode cX2_mostPressing 44 = .ok (.invokevirtual 108, 3) := by decide +kernel
theorem dX2_mostPressing_47 : decode cX2_mostPressing 47 = .ok (.ifCond .eq 7, 3) := by decide +kernel
theorem dX2_mostPressing_50 : decode cX2_mostPressing 50 = .ok (.iconst 1, 1) := by decide +kernel
theorem dX2_mostPressing_51 : decode cX2_mostPressing 51 = .ok (.goto 4, 3) := by decide +kernel
theorem dX2_mostPressing_54 : decode cX2_mostPressing 54 = .ok (.iconst 0, 1) := by decide +kernel
theorem dX2_mostPressing_55 : decode cX2_mostPressing 55 = .ok (.istore 8, 2) := by decide +kernel
theorem dX2_mostPressing_57 : decode cX2_mostPressing 57 = .ok (.iload 8, 2) := by decide +kernel
theorem dX2_mostPressing_59 : decode cX2_mostPressing 59 = .ok (.ifCond .eq 27, 3) := by decide +kernel
theorem dX2_mostPressing_62 : decode cX2_mostPressing 62 = .ok (.aload 5, 2) := by decide +kernel
theorem dX2_mostPressing_64 : decode cX2_mostPressing 64 = .ok (.ifnull 18, 3) := by decide +kernel
theorem dX2_mostPressing_67 : decode cX2_mostPressing 67 = .ok (.aload_n 0, 1) := by decide +kernel
theorem dX2_mostPressing_68 : decode cX2_mostPressing 68 = .ok (.aload 7, 2) := by decide +kernel
theorem dX2_mostPressing_70 : decode cX2_mostPressing 70 = .ok (.invokevirtual 112, 3) := by decide +kernel
theorem dX2_mostPressing_73 : decode cX2_mostPressing 73 = .ok (.aload_n 0, 1) := by decide +kernel
theorem dX2_mostPressing_74 : decode cX2_mostPressing 74 = .ok (.aload 5, 2) := by decide +kernel
theorem dX2_mostPressing_76 : decode cX2_mostPressing 76 = .ok (.invokevirtual 112, 3) := by decide +kernel
theorem dX2_mostPressing_79 : decode cX2_mostPressing 79 = .ok (.if_icmp .ge 7, 3) := by decide +kernel
theorem dX2_mostPressing_82 : decode cX2_mostPressing 82 = .ok (.aload 7, 2) := by decide +kernel
theorem dX2_mostPressing_84 : decode cX2_mostPressing 84 = .ok (.astore 5, 2) := by decide +kernel
theorem dX2_mostPressing_86 : decode cX2_mostPressing 86 = .ok (.iinc 6 1, 3) := by decide +kernel
theorem dX2_mostPressing_89 : decode cX2_mostPressing 89 = .ok (.goto (-78), 3) := by decide +kernel
theorem dX2_mostPressing_92 : decode cX2_mostPressing 92 = .ok (.aload 5, 2) := by decide +kernel
theorem dX2_mostPressing_94 : decode cX2_mostPressing 94 = .ok (.areturn, 1) := by decide +kernel
theorem dX2_readyFrom_0 : decode cX2_readyFrom 0 = .ok (.iconst 0, 1) := by decide +kernel
theorem dX2_readyFrom_1 : decode cX2_readyFrom 1 = .ok (.istore_n 2, 1) := by decide +kernel
theorem dX2_readyFrom_2 : decode cX2_readyFrom 2 = .ok (.iconst 0, 1) := by decide +kernel
theorem dX2_readyFrom_3 : decode cX2_readyFrom 3 = .ok (.istore_n 3, 1) := by decide +kernel
theorem dX2_readyFrom_4 : decode cX2_readyFrom 4 = .ok (.iload_n 3, 1) := by decide +kernel
theorem dX2_readyFrom_5 : decode cX2_readyFrom 5 = .ok (.aload_n 0, 1) := by decide +kernel
theorem dX2_readyFrom_6 : decode cX2_readyFrom 6 = .ok (.getfield 28, 3) := by decide +kernel
theorem dX2_readyFrom_9 : decode cX2_readyFrom 9 = .ok (.if_icmp .ge 50, 3) := by decide +kernel
theorem dX2_readyFrom_12 : decode cX2_readyFrom 12 = .ok (.aload_n 0, 1) := by decide +kernel
theorem dX2_readyFrom_13 : decode cX2_readyFrom 13 = .ok (.getfield 11, 3) := by decide +kernel
theorem dX2_readyFrom_16 : decode cX2_readyFrom 16 = .ok (.iload_n 3, 1) := by decide +kernel
theorem dX2_readyFrom_17 : decode cX2_readyFrom 17 = .ok (.aaload, 1) := by decide +kernel
theorem dX2_readyFrom_18 : decode cX2_readyFrom 18 = .ok (.astore 4, 2) := by decide +kernel
theorem dX2_readyFrom_20 : decode cX2_readyFrom 20 = .ok (.aload_n 1, 1) := by decide +kernel
theorem dX2_readyFrom_21 : decode cX2_readyFrom 21 = .ok (.aload 4, 2) := by decide +kernel
theorem dX2_readyFrom_23 : decode cX2_readyFrom 23 = .ok (.invokevirtual 90, 3) := by decide +kernel
theorem dX2_readyFrom_26 : decode cX2_readyFrom 26 = .ok (.ifCond .eq 27, 3) := by decide +kernel
theorem dX2_readyFrom_29 : decode cX2_readyFrom 29 = .ok (.iload_n 2, 1) := by decide +kernel
theorem dX2_readyFrom_30 : decode cX2_readyFrom 30 = .ok (.aload 4, 2) := by decide +kernel
theorem dX2_readyFrom_32 : decode cX2_readyFrom 32 = .ok (.invokevirtual 96, 3) := by decide +kernel
theorem dX2_readyFrom_35 : decode cX2_readyFrom 35 = .ok (.ifCond .eq 9, 3) := by decide +kernel
end
section
theorem dX2_readyFrom_38 : decode cX2_readyFrom 38 = .ok (.sipush 400, 3) := by decide +kernel
theorem dX2_readyFrom_41 : decode cX2_readyFrom 41 = .ok (.goto 8, 3) := by decide +kernel
theorem dX2_readyFrom_44 : decode cX2_readyFrom 44 = .ok (.aload 4, 2) := by decide +kernel
theorem dX2_readyFrom_46 : decode cX2_readyFrom 46 = .ok (.invokevirtual 116, 3) := by decide +kernel
theorem dX2_readyFrom_49 : decode cX2_readyFrom 49 = .ok (.invokestatic 78, 3) := by decide +kernel
theorem dX2_readyFrom_52 : decode cX2_readyFrom 52 = .ok (.istore_n 2, 1) := by decide +kernel
theorem dX2_readyFrom_53 : decode cX2_readyFrom 53 = .ok (.iinc 3 1, 3) := by decide +kernel
theorem dX2_readyFrom_56 : decode cX2_readyFrom 56 = .ok (.goto (-52), 3) := by decide +kernel
theorem dX2_readyFrom_59 : decode cX2_readyFrom 59 = .ok (.iload_n 2, 1) := by decide +kernel
theorem dX2_readyFrom_60 : decode cX2_readyFrom 60 = .ok (.ireturn, 1) := by decide +kernel
theorem dX2_dueBy_0 : decode cX2_dueBy 0 = .ok (.sipush 400, 3) := by decide +kernel
theorem dX2_dueBy_3 : decode cX2_dueBy 3 = .ok (.istore_n 2, 1) := by decide +kernel
theorem dX2_dueBy_4 : decode cX2_dueBy 4 = .ok (.iconst 0, 1) := by decide +kernel
theorem dX2_dueBy_5 : decode cX2_dueBy 5 = .ok (.istore_n 3, 1) := by decide +kernel
theorem dX2_dueBy_6 : decode cX2_dueBy 6 = .ok (.iload_n 3, 1) := by decide +kernel
theorem dX2_dueBy_7 : decode cX2_dueBy 7 = .ok (.aload_n 0, 1) := by decide +kernel
theorem dX2_dueBy_8 : decode cX2_dueBy 8 = .ok (.getfield 28, 3) := by decide +kernel
theorem dX2_dueBy_11 : decode cX2_dueBy 11 = .ok (.if_icmp .ge 44, 3) := by decide +kernel
theorem dX2_dueBy_14 : decode cX2_dueBy 14 = .ok (.aload_n 0, 1) := by decide +kernel
theorem dX2_dueBy_15 : decode cX2_dueBy 15 = .ok (.getfield 11, 3) := by decide +kernel
theorem dX2_dueBy_18 : decode cX2_dueBy 18 = .ok (.iload_n 3, 1) := by decide +kernel
theorem dX2_dueBy_19 : decode cX2_dueBy 19 = .ok (.aaload, 1) := by decide +kernel
theorem dX2_dueBy_20 : decode cX2_dueBy 20 = .ok (.astore 4, 2) := by decide +kernel
theorem dX2_dueBy_22 : decode cX2_dueBy 22 = .ok (.aload 4, 2) := by decide +kernel
theorem dX2_dueBy_24 : decode cX2_dueBy 24 = .ok (.aload_n 1, 1) := by decide +kernel
theorem dX2_dueBy_25 : decode cX2_dueBy 25 = .ok (.invokevirtual 90, 3) := by decide +kernel
theorem dX2_dueBy_28 : decode cX2_dueBy 28 = .ok (.ifCond .eq 21, 3) := by decide +kernel
theorem dX2_dueBy_31 : decode cX2_dueBy 31 = .ok (.aload 4, 2) := by decide +kernel
theorem dX2_dueBy_33 : decode cX2_dueBy 33 = .ok (.invokevirtual 96, 3) := by decide +kernel
theorem dX2_dueBy_36 : decode cX2_dueBy 36 = .ok (.ifCond .ne 13, 3) := by decide +kernel
theorem dX2_dueBy_39 : decode cX2_dueBy 39 = .ok (.iload_n 2, 1) := by decide +kernel
theorem dX2_dueBy_40 : decode cX2_dueBy 40 = .ok (.aload 4, 2) := by decide +kernel
theorem dX2_dueBy_42 : decode cX2_dueBy 42 = .ok (.getfield 119, 3) := by decide +kernel
theorem dX2_dueBy_45 : decode cX2_dueBy 45 = .ok (.invokestatic 122, 3) := by decide +kernel
theorem dX2_dueBy_48 : decode cX2_dueBy 48 = .ok (.istore_n 2, 1) := by decide +kernel
theorem dX2_dueBy_49 : decode cX2_dueBy 49 = .ok (.iinc 3 1, 3) := by decide +kernel
theorem dX2_dueBy_52 : decode cX2_dueBy 52 = .ok (.goto (-46), 3) := by decide +kernel
theorem dX2_dueBy_55 : decode cX2_dueBy 55 = .ok (.iload_n 2, 1) := by decide +kernel
theorem dX2_dueBy_56 : decode cX2_dueBy 56 = .ok (.ireturn, 1) := by decide +kernel
theorem dX2_openedWith_0 : decode cX2_openedWith 0 = .ok (.aload_n 0, 1) := by decide +kernel
theorem dX2_openedWith_1 : decode cX2_openedWith 1 = .ok (.iload_n 2, 1) := by decide +kernel
theorem dX2_openedWith_2 : decode cX2_openedWith 2 = .ok (.invokevirtual 125, 3) := by decide +kernel
theorem dX2_openedWith_5 : decode cX2_openedWith 5 = .ok (.lstore_n 3, 1) := by decide +kernel
theorem dX2_openedWith_6 : decode cX2_openedWith 6 = .ok (.aload_n 1, 1) := by decide +kernel
theorem dX2_openedWith_7 : decode cX2_openedWith 7 = .ok (.getfield 35, 3) := by decide +kernel
theorem dX2_openedWith_10 : decode cX2_openedWith 10 = .ok (.aload_n 1, 1) := by decide +kernel
theorem dX2_openedWith_11 : decode cX2_openedWith 11 = .ok (.getfield 129, 3) := by decide +kernel
theorem dX2_openedWith_14 : decode cX2_openedWith 14 = .ok (.lor, 1) := by decide +kernel
theorem dX2_openedWith_15 : decode cX2_openedWith 15 = .ok (.lload_n 3, 1) := by decide +kernel
theorem dX2_openedWith_16 : decode cX2_openedWith 16 = .ok (.land, 1) := by decide +kernel
theorem dX2_openedWith_17 : decode cX2_openedWith 17 = .ok (.lstore 5, 2) := by decide +kernel
theorem dX2_openedWith_19 : decode cX2_openedWith 19 = .ok (.iconst 0, 1) := by decide +kernel
theorem dX2_openedWith_20 : decode cX2_openedWith 20 = .ok (.istore 7, 2) := by decide +kernel
theorem dX2_openedWith_22 : decode cX2_openedWith 22 = .ok (.iload 7, 2) := by decide +kernel
theorem dX2_openedWith_24 : decode cX2_openedWith 24 = .ok (.aload_n 0, 1) := by decide +kernel
theorem dX2_openedWith_25 : decode cX2_openedWith 25 = .ok (.getfield 28, 3) := by decide +kernel
theorem dX2_openedWith_28 : decode cX2_openedWith 28 = .ok (.if_icmp .ge 22, 3) := by decide +kernel
theorem dX2_openedWith_31 : decode cX2_openedWith 31 = .ok (.lload 5, 2) := by decide +kernel
theorem dX2_openedWith_33 : decode cX2_openedWith 33 = .ok (.aload_n 0, 1) := by decide +kernel
theorem dX2_openedWith_34 : decode cX2_openedWith 34 = .ok (.lload 5, 2) := by decide +kernel
theorem dX2_openedWith_36 : decode cX2_openedWith 36 = .ok (.invokevirtual 132, 3) := by decide +kernel
theorem dX2_openedWith_39 : decode cX2_openedWith 39 = .ok (.lload_n 3, 1) := by decide +kernel
theorem dX2_openedWith_40 : decode cX2_openedWith 40 = .ok (.land, 1) := by decide +kernel
theorem dX2_openedWith_41 : decode cX2_openedWith 41 = .ok (.lor, 1) := by decide +kernel
theorem dX2_openedWith_42 : decode cX2_openedWith 42 = .ok (.lstore 5, 2) := by decide +kernel
theorem dX2_openedWith_44 : decode cX2_openedWith 44 = .ok (.iinc 7 1, 3) := by decide +kernel
theorem dX2_openedWith_47 : decode cX2_openedWith 47 = .ok (.goto (-25), 3) := by decide +kernel
theorem dX2_openedWith_50 : decode cX2_openedWith 50 = .ok (.lload 5, 2) := by decide +kernel
theorem dX2_openedWith_52 : decode cX2_openedWith 52 = .ok (.lreturn, 1) := by decide +kernel
theorem dX2_needersOf_0 : decode cX2_needersOf 0 = .ok (.lconst 0, 1) := by decide +kernel
theorem dX2_needersOf_1 : decode cX2_needersOf 1 = .ok (.lstore_n 3, 1) := by decide +kernel
theorem dX2_needersOf_2 : decode cX2_needersOf 2 = .ok (.iconst 0, 1) := by decide +kernel
theorem dX2_needersOf_3 : decode cX2_needersOf 3 = .ok (.istore 5, 2) := by decide +kernel
theorem dX2_needersOf_5 : decode cX2_needersOf 5 = .ok (.iload 5, 2) := by decide +kernel
theorem dX2_needersOf_7 : decode cX2_needersOf 7 = .ok (.aload_n 0, 1) := by decide +kernel
theorem dX2_needersOf_8 : decode cX2_needersOf 8 = .ok (.getfield 28, 3) := by decide +kernel
theorem dX2_needersOf_11 : decode cX2_needersOf 11 = .ok (.if_icmp .ge 39, 3) := by decide +kernel
theorem dX2_needersOf_14 : decode cX2_needersOf 14 = .ok (.aload_n 0, 1) := by decide +kernel
theorem dX2_needersOf_15 : decode cX2_needersOf 15 = .ok (.getfield 11, 3) := by decide +kernel
theorem dX2_needersOf_18 : decode cX2_needersOf 18 = .ok (.iload 5, 2) := by decide +kernel
theorem dX2_needersOf_20 : decode cX2_needersOf 20 = .ok (.aaload, 1) := by decide +kernel
theorem dX2_needersOf_21 : decode cX2_needersOf 21 = .ok (.getfield 45, 3) := by decide +kernel
theorem dX2_needersOf_24 : decode cX2_needersOf 24 = .ok (.lload_n 1, 1) := by decide +kernel
theorem dX2_needersOf_25 : decode cX2_needersOf 25 = .ok (.land, 1) := by decide +kernel
theorem dX2_needersOf_26 : decode cX2_needersOf 26 = .ok (.lconst 0, 1) := by decide +kernel
theorem dX2_needersOf_27 : decode cX2_needersOf 27 = .ok (.lcmp, 1) := by decide +kernel
theorem dX2_needersOf_28 : decode cX2_needersOf 28 = .ok (.ifCond .eq 16, 3) := by decide +kernel
theorem dX2_needersOf_31 : decode cX2_needersOf 31 = .ok (.lload_n 3, 1) := by decide +kernel
theorem dX2_needersOf_32 : decode cX2_needersOf 32 = .ok (.aload_n 0, 1) := by decide +kernel
theorem dX2_needersOf_33 : decode cX2_needersOf 33 = .ok (.getfield 11, 3) := by decide +kernel
theorem dX2_needersOf_36 : decode cX2_needersOf 36 = .ok (.iload 5, 2) := by decide +kernel
theorem dX2_needersOf_38 : decode cX2_needersOf 38 = .ok (.aaload, 1) := by decide +kernel
theorem dX2_needersOf_39 : decode cX2_needersOf 39 = .ok (.getfield 35, 3) := by decide +kernel
theorem dX2_needersOf_42 : decode cX2_needersOf 42 = .ok (.lor, 1) := by decide +kernel
theorem dX2_needersOf_43 : decode cX2_needersOf 43 = .ok (.lstore_n 3, 1) := by decide +kernel
theorem dX2_needersOf_44 : decode cX2_needersOf 44 = .ok (.iinc 5 1, 3) := by decide +kernel
theorem dX2_needersOf_47 : decode cX2_needersOf 47 = .ok (.goto (-42), 3) := by decide +kernel
theorem dX2_needersOf_50 : decode cX2_needersOf 50 = .ok (.lload_n 3, 1) := by decide +kernel
theorem dX2_needersOf_51 : decode cX2_needersOf 51 = .ok (.lreturn, 1) := by decide +kernel
theorem dX2_askedOfTrade_0 : decode cX2_askedOfTrade 0 = .ok (.iconst 0, 1) := by decide +kernel
theorem dX2_askedOfTrade_1 : decode cX2_askedOfTrade 1 = .ok (.istore_n 2, 1) := by decide +kernel
theorem dX2_askedOfTrade_2 : decode cX2_askedOfTrade 2 = .ok (.iconst 0, 1) := by decide +kernel
theorem dX2_askedOfTrade_3 : decode cX2_askedOfTrade 3 = .ok (.istore_n 3, 1) := by decide +kernel
theorem dX2_askedOfTrade_4 : decode cX2_askedOfTrade 4 = .ok (.iload_n 3, 1) := by decide +kernel
theorem dX2_askedOfTrade_5 : decode cX2_askedOfTrade 5 = .ok (.aload_n 0, 1) := by decide +kernel
theorem dX2_askedOfTrade_6 : decode cX2_askedOfTrade 6 = .ok (.getfield 28, 3) := by decide +kernel
theorem dX2_askedOfTrade_9 : decode cX2_askedOfTrade 9 = .ok (.if_icmp .ge 44, 3) := by decide +kernel
theorem dX2_askedOfTrade_12 : decode cX2_askedOfTrade 12 = .ok (.aload_n 0, 1) := by decide +kernel
theorem dX2_askedOfTrade_13 : decode cX2_askedOfTrade 13 = .ok (.getfield 11, 3) := by decide +kernel
theorem dX2_askedOfTrade_16 : decode cX2_askedOfTrade 16 = .ok (.iload_n 3, 1) := by decide +kernel
theorem dX2_askedOfTrade_17 : decode cX2_askedOfTrade 17 = .ok (.aaload, 1) := by decide +kernel
theorem dX2_askedOfTrade_18 : decode cX2_askedOfTrade 18 = .ok (.getfield 136, 3) := by decide +kernel
theorem dX2_askedOfTrade_21 : decode cX2_askedOfTrade 21 = .ok (.iload_n 1, 1) := by decide +kernel
theorem dX2_askedOfTrade_22 : decode cX2_askedOfTrade 22 = .ok (.if_icmp .ne 25, 3) := by decide +kernel
theorem dX2_askedOfTrade_25 : decode cX2_askedOfTrade 25 = .ok (.iload_n 2, 1) := by decide +kernel
theorem dX2_askedOfTrade_26 : decode cX2_askedOfTrade 26 = .ok (.aload_n 0, 1) := by decide +kernel
theorem dX2_askedOfTrade_27 : decode cX2_askedOfTrade 27 = .ok (.getfield 11, 3) := by decide +kernel
theorem dX2_askedOfTrade_30 : decode cX2_askedOfTrade 30 = .ok (.iload_n 3, 1) := by decide +kernel
theorem dX2_askedOfTrade_31 : decode cX2_askedOfTrade 31 = .ok (.aaload, 1) := by decide +kernel
theorem dX2_askedOfTrade_32 : decode cX2_askedOfTrade 32 = .ok (.getfield 93, 3) := by decide +kernel
theorem dX2_askedOfTrade_35 : decode cX2_askedOfTrade 35 = .ok (.aload_n 0, 1) := by decide +kernel
theorem dX2_askedOfTrade_36 : decode cX2_askedOfTrade 36 = .ok (.getfield 11, 3) := by decide +kernel
theorem dX2_askedOfTrade_39 : decode cX2_askedOfTrade 39 = .ok (.iload_n 3, 1) := by decide +kernel
theorem dX2_askedOfTrade_40 : decode cX2_askedOfTrade 40 = .ok (.aaload, 1) := by decide +kernel
theorem dX2_askedOfTrade_41 : decode cX2_askedOfTrade 41 = .ok (.getfield 139, 3) := by decide +kernel
theorem dX2_askedOfTrade_44 : decode cX2_askedOfTrade 44 = .ok (.imul, 1) := by decide +kernel
theorem dX2_askedOfTrade_45 : decode cX2_askedOfTrade 45 = .ok (.iadd, 1) := by decide +kernel
theorem dX2_askedOfTrade_46 : decode cX2_askedOfTrade 46 = .ok (.istore_n 2, 1) := by decide +kernel
theorem dX2_askedOfTrade_47 : decode cX2_askedOfTrade 47 = .ok (.iinc 3 1, 3) := by decide +kernel
theorem dX2_askedOfTrade_50 : decode cX2_askedOfTrade 50 = .ok (.goto (-46), 3) := by decide +kernel
theorem dX2_askedOfTrade_53 : decode cX2_askedOfTrade 53 = .ok (.iload_n 2, 1) := by decide +kernel
theorem dX2_askedOfTrade_54 : decode cX2_askedOfTrade 54 = .ok (.ireturn, 1) := by decide +kernel
theorem dX2_askedOfGood_0 : decode cX2_askedOfGood 0 = .ok (.aload_n 0, 1) := by decide +kernel
theorem dX2_askedOfGood_1 : decode cX2_askedOfGood 1 = .ok (.aload_n 0, 1) := by decide +kernel
theorem dX2_askedOfGood_2 : decode cX2_askedOfGood 2 = .ok (.getfield 21, 3) := by decide +kernel
theorem dX2_askedOfGood_5 : decode cX2_askedOfGood 5 = .ok (.iload_n 1, 1) := by decide +kernel
theorem dX2_askedOfGood_6 : decode cX2_askedOfGood 6 = .ok (.laload, 1) := by decide +kernel
theorem dX2_askedOfGood_7 : decode cX2_askedOfGood 7 = .ok (.invokevirtual 142, 3) := by decide +kernel
theorem dX2_askedOfGood_10 : decode cX2_askedOfGood 10 = .ok (.ireturn, 1) := by decide +kernel
theorem dX2_askedOfSpace_0 : decode cX2_askedOfSpace 0 = .ok (.aload_n 0, 1) := by decide +kernel
theorem dX2_askedOfSpace_1 : decode cX2_askedOfSpace 1 = .ok (.aload_n 0, 1) := by decide +kernel
theorem dX2_askedOfSpace_2 : decode cX2_askedOfSpace 2 = .ok (.getfield 25, 3) := by decide +kernel
theorem dX2_askedOfSpace_5 : decode cX2_askedOfSpace 5 = .ok (.iload_n 1, 1) := by decide +kernel
theorem dX2_askedOfSpace_6 : decode cX2_askedOfSpace 6 = .ok (.laload, 1) := by decide +kernel
theorem dX2_askedOfSpace_7 : decode cX2_askedOfSpace 7 = .ok (.invokevirtual 142, 3) := by decide +kernel
theorem dX2_askedOfSpace_10 : decode cX2_askedOfSpace 10 = .ok (.ireturn, 1) := by decide +kernel
theorem dX2_lengthOf_0 : decode cX2_lengthOf 0 = .ok (.iconst 0, 1) := by decide +kernel
theorem dX2_lengthOf_1 : decode cX2_lengthOf 1 = .ok (.istore_n 3, 1) := by decide +kernel
theorem dX2_lengthOf_2 : decode cX2_lengthOf 2 = .ok (.iconst 0, 1) := by decide +kernel
theorem dX2_lengthOf_3 : decode cX2_lengthOf 3 = .ok (.istore 4, 2) := by decide +kernel
theorem dX2_lengthOf_5 : decode cX2_lengthOf 5 = .ok (.iload 4, 2) := by decide +kernel
theorem dX2_lengthOf_7 : decode cX2_lengthOf 7 = .ok (.aload_n 0, 1) := by decide +kernel
theorem dX2_lengthOf_8 : decode cX2_lengthOf 8 = .ok (.getfield 28, 3) := by decide +kernel
theorem dX2_lengthOf_11 : decode cX2_lengthOf 11 = .ok (.if_icmp .ge 39, 3) := by decide +kernel
theorem dX2_lengthOf_14 : decode cX2_lengthOf 14 = .ok (.lload_n 1, 1) := by decide +kernel
theorem dX2_lengthOf_15 : decode cX2_lengthOf 15 = .ok (.aload_n 0, 1) := by decide +kernel
theorem dX2_lengthOf_16 : decode cX2_lengthOf 16 = .ok (.getfield 11, 3) := by decide +kernel
theorem dX2_lengthOf_19 : decode cX2_lengthOf 19 = .ok (.iload 4, 2) := by decide +kernel
theorem dX2_lengthOf_21 : decode cX2_lengthOf 21 = .ok (.aaload, 1) := by decide +kernel
theorem dX2_lengthOf_22 : decode cX2_lengthOf 22 = .ok (.getfield 35, 3) := by decide +kernel
theorem dX2_lengthOf_25 : decode cX2_lengthOf 25 = .ok (.land, 1) := by decide +kernel
theorem dX2_lengthOf_26 : decode cX2_lengthOf 26 = .ok (.lconst 0, 1) := by decide +kernel
theorem dX2_lengthOf_27 : decode cX2_lengthOf 27 = .ok (.lcmp, 1) := by decide +kernel
theorem dX2_lengthOf_28 : decode cX2_lengthOf 28 = .ok (.ifCond .eq 16, 3) := by decide +kernel
theorem dX2_lengthOf_31 : decode cX2_lengthOf 31 = .ok (.iload_n 3, 1) := by decide +kernel
theorem dX2_lengthOf_32 : decode cX2_lengthOf 32 = .ok (.aload_n 0, 1) := by decide +kernel
theorem dX2_lengthOf_33 : decode cX2_lengthOf 33 = .ok (.getfield 11, 3) := by decide +kernel
theorem dX2_lengthOf_36 : decode cX2_lengthOf 36 = .ok (.iload 4, 2) := by decide +kernel
theorem dX2_lengthOf_38 : decode cX2_lengthOf 38 = .ok (.aaload, 1) := by decide +kernel
theorem dX2_lengthOf_39 : decode cX2_lengthOf 39 = .ok (.getfield 93, 3) := by decide +kernel
theorem dX2_lengthOf_42 : decode cX2_lengthOf 42 = .ok (.iadd, 1) := by decide +kernel
theorem dX2_lengthOf_43 : decode cX2_lengthOf 43 = .ok (.istore_n 3, 1) := by decide +kernel
theorem dX2_lengthOf_44 : decode cX2_lengthOf 44 = .ok (.iinc 4 1, 3) := by decide +kernel
theorem dX2_lengthOf_47 : decode cX2_lengthOf 47 = .ok (.goto (-42), 3) := by decide +kernel
theorem dX2_lengthOf_50 : decode cX2_lengthOf 50 = .ok (.iload_n 3, 1) := by decide +kernel
theorem dX2_lengthOf_51 : decode cX2_lengthOf 51 = .ok (.ireturn, 1) := by decide +kernel
theorem dX3_init_0 : decode cX3_init 0 = .ok (.aload_n 0, 1) := by decide +kernel
theorem dX3_init_1 : decode cX3_init 1 = .ok (.invokespecial 3, 3) := by decide +kernel
theorem dX3_init_4 : decode cX3_init 4 = .ok (.aload_n 0, 1) := by decide +kernel
theorem dX3_init_5 : decode cX3_init 5 = .ok (.bipush 6, 2) := by decide +kernel
theorem dX3_init_7 : decode cX3_init 7 = .ok (.newarray .int, 2) := by decide +kernel
theorem dX3_init_9 : decode cX3_init 9 = .ok (.putfield 9, 3) := by decide +kernel
theorem dX3_init_12 : decode cX3_init 12 = .ok (.aload_n 0, 1) := by decide +kernel
theorem dX3_init_13 : decode cX3_init 13 = .ok (.aload_n 1, 1) := by decide +kernel
theorem dX3_init_14 : decode cX3_init 14 = .ok (.putfield 15, 3) := by decide +kernel
theorem dX3_init_17 : decode cX3_init 17 = .ok (.aload_n 0, 1) := by decide +kernel
theorem dX3_init_18 : decode cX3_init 18 = .ok (.aload_n 2, 1) := by decide +kernel
theorem dX3_init_19 : decode cX3_init 19 = .ok (.putfield 19, 3) := by decide +kernel
theorem dX3_init_22 : decode cX3_init 22 = .ok (.aload_n 0, 1) := by decide +kernel
theorem dX3_init_23 : decode cX3_init 23 = .ok (.aload_n 3, 1) := by decide +kernel
theorem dX3_init_24 : decode cX3_init 24 = .ok (.putfield 23, 3) := by decide +kernel
theorem dX3_init_27 : decode cX3_init 27 = .ok (.return_, 1) := by decide +kernel
theorem dX3_layBest_0 : decode cX3_layBest 0 = .ok (.aload_n 0, 1) := by decide +kernel
theorem dX3_layBest_1 : decode cX3_layBest 1 = .ok (.sipush 401, 3) := by decide +kernel
theorem dX3_layBest_4 : decode cX3_layBest 4 = .ok (.putfield 27, 3) := by decide +kernel
theorem dX3_layBest_7 : decode cX3_layBest 7 = .ok (.aload_n 0, 1) := by decide +kernel
theorem dX3_layBest_8 : decode cX3_layBest 8 = .ok (.iconst 0, 1) := by decide +kernel
theorem dX3_layBest_9 : decode cX3_layBest 9 = .ok (.iconst 0, 1) := by decide +kernel
theorem dX3_layBest_10 : decode cX3_layBest 10 = .ok (.invokevirtual 31, 3) := by decide +kernel
theorem dX3_layBest_13 : decode cX3_layBest 13 = .ok (.aload_n 0, 1) := by decide +kernel
theorem dX3_layBest_14 : decode cX3_layBest 14 = .ok (.getfield 27, 3) := by decide +kernel
theorem dX3_layBest_17 : decode cX3_layBest 17 = .ok (.sipush 400, 3) := by decide +kernel
theorem dX3_layBest_20 : decode cX3_layBest 20 = .ok (.if_icmp .le 5, 3) := by decide +kernel
theorem dX3_layBest_23 : decode cX3_layBest 23 = .ok (.iconst (-1), 1) := by decide +kernel
theorem dX3_layBest_24 : decode cX3_layBest 24 = .ok (.ireturn, 1) := by decide +kernel
theorem dX3_layBest_25 : decode cX3_layBest 25 = .ok (.iconst 0, 1) := by decide +kernel
theorem dX3_layBest_26 : decode cX3_layBest 26 = .ok (.istore_n 1, 1) := by decide +kernel
theorem dX3_layBest_27 : decode cX3_layBest 27 = .ok (.iload_n 1, 1) := by decide +kernel
theorem dX3_layBest_28 : decode cX3_layBest 28 = .ok (.aload_n 0, 1) := by decide +kernel
theorem dX3_layBest_29 : decode cX3_layBest 29 = .ok (.getfield 15, 3) := by decide +kernel
theorem dX3_layBest_32 : decode cX3_layBest 32 = .ok (.getfield 35, 3) := by decide +kernel
theorem dX3_layBest_35 : decode cX3_layBest 35 = .ok (.if_icmp .ge 37, 3) := by decide +kernel
theorem dX3_layBest_38 : decode cX3_layBest 38 = .ok (.iload_n 1, 1) := by decide +kernel
theorem dX3_layBest_39 : decode cX3_layBest 39 = .ok (.bipush 6, 2) := by decide +kernel
theorem dX3_layBest_41 : decode cX3_layBest 41 = .ok (.if_icmp .ge 31, 3) := by decide +kernel
theorem dX3_layBest_44 : decode cX3_layBest 44 = .ok (.aload_n 0, 1) := by decide +kernel
theorem dX3_layBest_45 : decode cX3_layBest 45 = .ok (.getfield 19, 3) := by decide +kernel
theorem dX3_layBest_48 : decode cX3_layBest 48 = .ok (.aload_n 0, 1) := by decide +kernel
theorem dX3_layBest_49 : decode cX3_layBest 49 = .ok (.getfield 15, 3) := by decide +kernel
theorem dX3_layBest_52 : decode cX3_layBest 52 = .ok (.getfield 40, 3) := by decide +kernel
theorem dX3_layBest_55 : decode cX3_layBest 55 = .ok (.iload_n 1, 1) := by decide +kernel
theorem dX3_layBest_56 : decode cX3_layBest 56 = .ok (.aaload, 1) := by decide +kernel
theorem dX3_layBest_57 : decode cX3_layBest 57 = .ok (.aload_n 0, 1) := by decide +kernel
theorem dX3_layBest_58 : decode cX3_layBest 58 = .ok (.getfield 9, 3) := by decide +kernel
theorem dX3_layBest_61 : decode cX3_layBest 61 = .ok (.iload_n 1, 1) := by decide +kernel
theorem dX3_layBest_62 : decode cX3_layBest 62 = .ok (.iaload, 1) := by decide +kernel
theorem dX3_layBest_63 : decode cX3_layBest 63 = .ok (.invokevirtual 44, 3) := by decide +kernel
theorem dX3_layBest_66 : decode cX3_layBest 66 = .ok (.iinc 1 1, 3) := by decide +kernel
theorem dX3_layBest_69 : decode cX3_layBest 69 = .ok (.goto (-42), 3) := by decide +kernel
theorem dX3_layBest_72 : decode cX3_layBest 72 = .ok (.aload_n 0, 1) := by decide +kernel
theorem dX3_layBest_73 : decode cX3_layBest 73 = .ok (.getfield 27, 3) := by decide +kernel
theorem dX3_layBest_76 : decode cX3_layBest 76 = .ok (.ireturn, 1) := by decide +kernel
theorem dX3_layNext_0 : decode cX3_layNext 0 = .ok (.iload_n 1, 1) := by decide +kernel
theorem dX3_layNext_1 : decode cX3_layNext 1 = .ok (.aload_n 0, 1) := by decide +kernel
theorem dX3_layNext_2 : decode cX3_layNext 2 = .ok (.getfield 15, 3) := by decide +kernel
theorem dX3_layNext_5 : decode cX3_layNext 5 = .ok (.getfield 35, 3) := by decide +kernel
theorem dX3_layNext_8 : decode cX3_layNext 8 = .ok (.if_icmp .ge 9, 3) := by decide +kernel
theorem dX3_layNext_11 : decode cX3_layNext 11 = .ok (.iload_n 1, 1) := by decide +kernel
theorem dX3_layNext_12 : decode cX3_layNext 12 = .ok (.bipush 6, 2) := by decide +kernel
theorem dX3_layNext_14 : decode cX3_layNext 14 = .ok (.if_icmp .lt 9, 3) := by decide +kernel
theorem dX3_layNext_17 : decode cX3_layNext 17 = .ok (.aload_n 0, 1) := by decide +kernel
theorem dX3_layNext_18 : decode cX3_layNext 18 = .ok (.iload_n 2, 1) := by decide +kernel
theorem dX3_layNext_19 : decode cX3_layNext 19 = .ok (.invokevirtual 50, 3) := by decide +kernel
theorem dX3_layNext_22 : decode cX3_layNext 22 = .ok (.return_, 1) := by decide +kernel
theorem dX3_layNext_23 : decode cX3_layNext 23 = .ok (.aload_n 0, 1) := by decide +kernel
theorem dX3_layNext_24 : decode cX3_layNext 24 = .ok (.getfield 15, 3) := by decide +kernel
theorem dX3_layNext_27 : decode cX3_layNext 27 = .ok (.invokevirtual 54, 3) := by decide +kernel
theorem dX3_layNext_30 : decode cX3_layNext 30 = .ok (.lstore_n 3, 1) := by decide +kernel
theorem dX3_layNext_31 : decode cX3_layNext 31 = .ok (.iconst 0, 1) := by decide +kernel
theorem dX3_layNext_32 : decode cX3_layNext 32 = .ok (.istore 5, 2) := by decide +kernel
theorem dX3_layNext_34 : decode cX3_layNext 34 = .ok (.iload 5, 2) := by decide +kernel
theorem dX3_layNext_36 : decode cX3_layNext 36 = .ok (.aload_n 0, 1) := by decide +kernel
theorem dX3_layNext_37 : decode cX3_layNext 37 = .ok (.getfield 15, 3) := by decide +kernel
theorem dX3_layNext_40 : decode cX3_layNext 40 = .ok (.getfield 35, 3) := by decide +kernel
theorem dX3_layNext_43 : decode cX3_layNext 43 = .ok (.if_icmp .ge 42, 3) := by decide +kernel
theorem dX3_layNext_46 : decode cX3_layNext 46 = .ok (.aload_n 0, 1) := by decide +kernel
theorem dX3_layNext_47 : decode cX3_layNext 47 = .ok (.getfield 15, 3) := by decide +kernel
theorem dX3_layNext_50 : decode cX3_layNext 50 = .ok (.getfield 40, 3) := by decide +kernel
theorem dX3_layNext_53 : decode cX3_layNext 53 = .ok (.iload 5, 2) := by decide +kernel
theorem dX3_layNext_55 : decode cX3_layNext 55 = .ok (.aaload, 1) := by decide +kernel
theorem dX3_layNext_56 : decode cX3_layNext 56 = .ok (.lload_n 3, 1) := by decide +kernel
theorem dX3_layNext_57 : decode cX3_layNext 57 = .ok (.invokevirtual 58, 3) := by decide +kernel
theorem dX3_layNext_60 : decode cX3_layNext 60 = .ok (.ifCond .eq 19, 3) := by decide +kernel
theorem dX3_layNext_63 : decode cX3_layNext 63 = .ok (.aload_n 0, 1) := by decide +kernel
theorem dX3_layNext_64 : decode cX3_layNext 64 = .ok (.aload_n 0, 1) := by decide +kernel
theorem dX3_layNext_65 : decode cX3_layNext 65 = .ok (.getfield 15, 3) := by decide +kernel
theorem dX3_layNext_68 : decode cX3_layNext 68 = .ok (.getfield 40, 3) := by decide +kernel
theorem dX3_layNext_71 : decode cX3_layNext 71 = .ok (.iload 5, 2) := by decide +kernel
theorem dX3_layNext_73 : decode cX3_layNext 73 = .ok (.aaload, 1) := by decide +kernel
theorem dX3_layNext_74 : decode cX3_layNext 74 = .ok (.iload_n 1, 1) := by decide +kernel
theorem dX3_layNext_75 : decode cX3_layNext 75 = .ok (.iload_n 2, 1) := by decide +kernel
theorem dX3_layNext_76 : decode cX3_layNext 76 = .ok (.invokevirtual 64, 3) := by decide +kernel
theorem dX3_layNext_79 : decode cX3_layNext 79 = .ok (.iinc 5 1, 3) := by decide +kernel
theorem dX3_layNext_82 : decode cX3_layNext 82 = .ok (.goto (-48), 3) := by decide +kernel
theorem dX3_layNext_85 : decode cX3_layNext 85 = .ok (.return_, 1) := by decide +kernel
theorem dX3_layAndGoOn_0 : decode cX3_layAndGoOn 0 = .ok (.aload_n 0, 1) := by decide +kernel
theorem dX3_layAndGoOn_1 : decode cX3_layAndGoOn 1 = .ok (.getfield 23, 3) := by decide +kernel
theorem dX3_layAndGoOn_4 : decode cX3_layAndGoOn 4 = .ok (.aload_n 1, 1) := by decide +kernel
theorem dX3_layAndGoOn_5 : decode cX3_layAndGoOn 5 = .ok (.iconst 0, 1) := by decide +kernel
theorem dX3_layAndGoOn_6 : decode cX3_layAndGoOn 6 = .ok (.invokevirtual 68, 3) := by decide +kernel
theorem dX3_layAndGoOn_9 : decode cX3_layAndGoOn 9 = .ok (.istore 4, 2) := by decide +kernel
theorem dX3_layAndGoOn_11 : decode cX3_layAndGoOn 11 = .ok (.iload 4, 2) := by decide +kernel
theorem dX3_layAndGoOn_13 : decode cX3_layAndGoOn 13 = .ok (.iconst (-1), 1) := by decide +kernel
theorem dX3_layAndGoOn_14 : decode cX3_layAndGoOn 14 = .ok (.if_icmp .eq 21, 3) := by decide +kernel
theorem dX3_layAndGoOn_17 : decode cX3_layAndGoOn 17 = .ok (.iload_n 3, 1) := by decide +kernel
theorem dX3_layAndGoOn_18 : decode cX3_layAndGoOn 18 = .ok (.iload 4, 2) := by decide +kernel
theorem dX3_layAndGoOn_20 : decode cX3_layAndGoOn 20 = .ok (.aload_n 1, 1) := by decide +kernel
theorem dX3_layAndGoOn_21 : decode cX3_layAndGoOn 21 = .ok (.getfield 74, 3) := by decide +kernel
theorem dX3_layAndGoOn_24 : decode cX3_layAndGoOn 24 = .ok (.iadd, 1) := by decide +kernel
theorem dX3_layAndGoOn_25 : decode cX3_layAndGoOn 25 = .ok (.invokestatic 77, 3) := by decide +kernel
theorem dX3_layAndGoOn_28 : decode cX3_layAndGoOn 28 = .ok (.aload_n 0, 1) := by decide +kernel
theorem dX3_layAndGoOn_29 : decode cX3_layAndGoOn 29 = .ok (.getfield 27, 3) := by decide +kernel
theorem dX3_layAndGoOn_32 : decode cX3_layAndGoOn 32 = .ok (.if_icmp .lt 4, 3) := by decide +kernel
theorem dX3_layAndGoOn_35 : decode cX3_layAndGoOn 35 = .ok (.return_, 1) := by decide +kernel
theorem dX3_layAndGoOn_36 : decode cX3_layAndGoOn 36 = .ok (.aload_n 0, 1) := by decide +kernel
theorem dX3_layAndGoOn_37 : decode cX3_layAndGoOn 37 = .ok (.getfield 19, 3) := by decide +kernel
theorem dX3_layAndGoOn_40 : decode cX3_layAndGoOn 40 = .ok (.aload_n 1, 1) := by decide +kernel
theorem dX3_layAndGoOn_41 : decode cX3_layAndGoOn 41 = .ok (.iload 4, 2) := by decide +kernel
theorem dX3_layAndGoOn_43 : decode cX3_layAndGoOn 43 = .ok (.invokevirtual 44, 3) := by decide +kernel
theorem dX3_layAndGoOn_46 : decode cX3_layAndGoOn 46 = .ok (.aload_n 0, 1) := by decide +kernel
theorem dX3_layAndGoOn_47 : decode cX3_layAndGoOn 47 = .ok (.iload_n 2, 1) := by decide +kernel
theorem dX3_layAndGoOn_48 : decode cX3_layAndGoOn 48 = .ok (.iconst 1, 1) := by decide +kernel
theorem dX3_layAndGoOn_49 : decode cX3_layAndGoOn 49 = .ok (.iadd, 1) := by decide +kernel
theorem dX3_layAndGoOn_50 : decode cX3_layAndGoOn 50 = .ok (.iload_n 3, 1) := by decide +kernel
theorem dX3_layAndGoOn_51 : decode cX3_layAndGoOn 51 = .ok (.aload_n 1, 1) := by decide +kernel
theorem dX3_layAndGoOn_52 : decode cX3_layAndGoOn 52 = .ok (.invokevirtual 83, 3) := by decide +kernel
theorem dX3_layAndGoOn_55 : decode cX3_layAndGoOn 55 = .ok (.invokestatic 77, 3) := by decide +kernel
theorem dX3_layAndGoOn_58 : decode cX3_layAndGoOn 58 = .ok (.invokevirtual 31, 3) := by decide +kernel
theorem dX3_layAndGoOn_61 : decode cX3_layAndGoOn 61 = .ok (.aload_n 0, 1) := by decide +kernel
theorem dX3_layAndGoOn_62 : decode cX3_layAndGoOn 62 = .ok (.getfield 19, 3) := by decide +kernel
theorem dX3_layAndGoOn_65 : decode cX3_layAndGoOn 65 = .ok (.aload_n 1, 1) := by decide +kernel
theorem dX3_layAndGoOn_66 : decode cX3_layAndGoOn 66 = .ok (.invokevirtual 87, 3) := by decide +kernel
theorem dX3_layAndGoOn_69 : decode cX3_layAndGoOn 69 = .ok (.return_, 1) := by decide +kernel
theorem dX3_keep_0 : decode cX3_keep 0 = .ok (.aload_n 0, 1) := by decide +kernel
theorem dX3_keep_1 : decode cX3_keep 1 = .ok (.iload_n 1, 1) := by decide +kernel
theorem dX3_keep_2 : decode cX3_keep 2 = .ok (.putfield 27, 3) := by decide +kernel
theorem dX3_keep_5 : decode cX3_keep 5 = .ok (.iconst 0, 1) := by decide +kernel
theorem dX3_keep_6 : decode cX3_keep 6 = .ok (.istore_n 2, 1) := by decide +kernel
theorem dX3_keep_7 : decode cX3_keep 7 = .ok (.iload_n 2, 1) := by decide +kernel
theorem dX3_keep_8 : decode cX3_keep 8 = .ok (.aload_n 0, 1) := by decide +kernel
theorem dX3_keep_9 : decode cX3_keep 9 = .ok (.getfield 15, 3) := by decide +kernel
theorem dX3_keep_12 : decode cX3_keep 12 = .ok (.getfield 35, 3) := by decide +kernel
theorem dX3_keep_15 : decode cX3_keep 15 = .ok (.if_icmp .ge 33, 3) := by decide +kernel
theorem dX3_keep_18 : decode cX3_keep 18 = .ok (.iload_n 2, 1) := by decide +kernel
theorem dX3_keep_19 : decode cX3_keep 19 = .ok (.bipush 6, 2) := by decide +kernel
theorem dX3_keep_21 : decode cX3_keep 21 = .ok (.if_icmp .ge 27, 3) := by decide +kernel
theorem dX3_keep_24 : decode cX3_keep 24 = .ok (.aload_n 0, 1) := by decide +kernel
theorem dX3_keep_25 : decode cX3_keep 25 = .ok (.getfield 9, 3) := by decide +kernel
theorem dX3_keep_28 : decode cX3_keep 28 = .ok (.iload_n 2, 1) := by decide +kernel
theorem dX3_keep_29 : decode cX3_keep 29 = .ok (.aload_n 0, 1) := by decide +kernel
theorem dX3_keep_30 : decode cX3_keep 30 = .ok (.getfield 15, 3) := by decide +kernel
theorem dX3_keep_33 : decode cX3_keep 33 = .ok (.getfield 40, 3) := by decide +kernel
theorem dX3_keep_36 : decode cX3_keep 36 = .ok (.iload_n 2, 1) := by decide +kernel
theorem dX3_keep_37 : decode cX3_keep 37 = .ok (.aaload, 1) := by decide +kernel
theorem dX3_keep_38 : decode cX3_keep 38 = .ok (.getfield 91, 3) := by decide +kernel
theorem dX3_keep_41 : decode cX3_keep 41 = .ok (.iastore, 1) := by decide +kernel
theorem dX3_keep_42 : decode cX3_keep 42 = .ok (.iinc 2 1, 3) := by decide +kernel
theorem dX3_keep_45 : decode cX3_keep 45 = .ok (.goto (-38), 3) := by decide +kernel
theorem dX3_keep_48 : decode cX3_keep 48 = .ok (.return_, 1) := by decide +kernel
theorem dX4_init_0 : decode cX4_init 0 = .ok (.aload_n 0, 1) := by decide +kernel
theorem dX4_init_1 : decode cX4_init 1 = .ok (.invokespecial 3, 3) := by decide +kernel
theorem dX4_init_4 : decode cX4_init 4 = .ok (.aload_n 0, 1) := by decide +kernel
theorem dX4_init_5 : decode cX4_init 5 = .ok (.iconst 4, 1) := by decide +kernel
theorem dX4_init_6 : decode cX4_init 6 = .ok (.newarray .int, 2) := by decide +kernel
theorem dX4_init_8 : decode cX4_init 8 = .ok (.dup, 1) := by decide +kernel
theorem dX4_init_9 : decode cX4_init 9 = .ok (.iconst 0, 1) := by decide +kernel
theorem dX4_init_10 : decode cX4_init 10 = .ok (.iconst 4, 1) := by decide +kernel
theorem dX4_init_11 : decode cX4_init 11 = .ok (.iastore, 1) := by decide +kernel
theorem dX4_init_12 : decode cX4_init 12 = .ok (.dup, 1) := by decide +kernel
theorem dX4_init_13 : decode cX4_init 13 = .ok (.iconst 1, 1) := by decide +kernel
theorem dX4_init_14 : decode cX4_init 14 = .ok (.iconst 4, 1) := by decide +kernel
theorem dX4_init_15 : decode cX4_init 15 = .ok (.iastore, 1) := by decide +kernel
theorem dX4_init_16 : decode cX4_init 16 = .ok (.dup, 1) := by decide +kernel
theorem dX4_init_17 : decode cX4_init 17 = .ok (.iconst 2, 1) := by decide +kernel
theorem dX4_init_18 : decode cX4_init 18 = .ok (.iconst 4, 1) := by decide +kernel
theorem dX4_init_19 : decode cX4_init 19 = .ok (.iastore, 1) := by decide +kernel
theorem dX4_init_20 : decode cX4_init 20 = .ok (.dup, 1) := by decide +kernel
theorem dX4_init_21 : decode cX4_init 21 = .ok (.iconst 3, 1) := by decide +kernel
theorem dX4_init_22 : decode cX4_init 22 = .ok (.iconst 4, 1) := by decide +kernel
theorem dX4_init_23 : decode cX4_init 23 = .ok (.iastore, 1) := by decide +kernel
theorem dX4_init_24 : decode cX4_init 24 = .ok (.putfield 9, 3) := by decide +kernel
theorem dX4_init_27 : decode cX4_init 27 = .ok (.aload_n 0, 1) := by decide +kernel
theorem dX4_init_28 : decode cX4_init 28 = .ok (.iconst 4, 1) := by decide +kernel
theorem dX4_init_29 : decode cX4_init 29 = .ok (.newarray .int, 2) := by decide +kernel
theorem dX4_init_31 : decode cX4_init 31 = .ok (.dup, 1) := by decide +kernel
theorem dX4_init_32 : decode cX4_init 32 = .ok (.iconst 0, 1) := by decide +kernel
theorem dX4_init_33 : decode cX4_init 33 = .ok (.iconst 1, 1) := by decide +kernel
theorem dX4_init_34 : decode cX4_init 34 = .ok (.iastore, 1) := by decide +kernel
theorem dX4_init_35 : decode cX4_init 35 = .ok (.dup, 1) := by decide +kernel
theorem dX4_init_36 : decode cX4_init 36 = .ok (.iconst 1, 1) := by decide +kernel
theorem dX4_init_37 : decode cX4_init 37 = .ok (.iconst 1, 1) := by decide +kernel
theorem dX4_init_38 : decode cX4_init 38 = .ok (.iastore, 1) := by decide +kernel
theorem dX4_init_39 : decode cX4_init 39 = .ok (.dup, 1) := by decide +kernel
theorem dX4_init_40 : decode cX4_init 40 = .ok (.iconst 2, 1) := by decide +kernel
theorem dX4_init_41 : decode cX4_init 41 = .ok (.iconst 1, 1) := by decide +kernel
theorem dX4_init_42 : decode cX4_init 42 = .ok (.iastore, 1) := by decide +kernel
theorem dX4_init_43 : decode cX4_init 43 = .ok (.dup, 1) := by decide +kernel
theorem dX4_init_44 : decode cX4_init 44 = .ok (.iconst 3, 1) := by decide +kernel
theorem dX4_init_45 : decode cX4_init 45 = .ok (.iconst 1, 1) := by decide +kernel
theorem dX4_init_46 : decode cX4_init 46 = .ok (.iastore, 1) := by decide +kernel
theorem dX4_init_47 : decode cX4_init 47 = .ok (.putfield 15, 3) := by decide +kernel
theorem dX4_init_50 : decode cX4_init 50 = .ok (.aload_n 0, 1) := by decide +kernel
theorem dX4_init_51 : decode cX4_init 51 = .ok (.aload_n 1, 1) := by decide +kernel
theorem dX4_init_52 : decode cX4_init 52 = .ok (.putfield 18, 3) := by decide +kernel
theorem dX4_init_55 : decode cX4_init 55 = .ok (.aload_n 0, 1) := by decide +kernel
theorem dX4_init_56 : decode cX4_init 56 = .ok (.aload_n 2, 1) := by decide +kernel
theorem dX4_init_57 : decode cX4_init 57 = .ok (.putfield 22, 3) := by decide +kernel
theorem dX4_init_60 : decode cX4_init 60 = .ok (.aload_n 0, 1) := by decide +kernel
theorem dX4_init_61 : decode cX4_init 61 = .ok (.aload_n 3, 1) := by decide +kernel
theorem dX4_init_62 : decode cX4_init 62 = .ok (.putfield 26, 3) := by decide +kernel
theorem dX4_init_65 : decode cX4_init 65 = .ok (.return_, 1) := by decide +kernel
theorem dX4_markFoes_0 : decode cX4_markFoes 0 = .ok (.iconst 0, 1) := by decide +kernel
theorem dX4_markFoes_1 : decode cX4_markFoes 1 = .ok (.istore_n 1, 1) := by decide +kernel
theorem dX4_markFoes_2 : decode cX4_markFoes 2 = .ok (.iload_n 1, 1) := by decide +kernel
theorem dX4_markFoes_3 : decode cX4_markFoes 3 = .ok (.aload_n 0, 1) := by decide +kernel
theorem dX4_markFoes_4 : decode cX4_markFoes 4 = .ok (.getfield 22, 3) := by decide +kernel
theorem dX4_markFoes_7 : decode cX4_markFoes 7 = .ok (.getfield 30, 3) := by decide +kernel
theorem dX4_markFoes_10 : decode cX4_markFoes 10 = .ok (.if_icmp .ge 34, 3) := by decide +kernel
theorem dX4_markFoes_13 : decode cX4_markFoes 13 = .ok (.aload_n 0, 1) := by decide +kernel
theorem dX4_markFoes_14 : decode cX4_markFoes 14 = .ok (.getfield 22, 3) := by decide +kernel
theorem dX4_markFoes_17 : decode cX4_markFoes 17 = .ok (.getfield 36, 3) := by decide +kernel
theorem dX4_markFoes_20 : decode cX4_markFoes 20 = .ok (.iload_n 1, 1) := by decide +kernel
theorem dX4_markFoes_21 : decode cX4_markFoes 21 = .ok (.aaload, 1) := by decide +kernel
theorem dX4_markFoes_22 : decode cX4_markFoes 22 = .ok (.aload_n 0, 1) := by decide +kernel
theorem dX4_markFoes_23 : decode cX4_markFoes 23 = .ok (.aload_n 0, 1) := by decide +kernel
theorem dX4_markFoes_24 : decode cX4_markFoes 24 = .ok (.getfield 22, 3) := by decide +kernel
theorem dX4_markFoes_27 : decode cX4_markFoes 27 = .ok (.getfield 36, 3) := by decide +kernel
theorem dX4_markFoes_30 : decode cX4_markFoes 30 = .ok (.iload_n 1, 1) := by decide +kernel
theorem dX4_markFoes_31 : decode cX4_markFoes 31 = .ok (.aaload, 1) := by decide +kernel
theorem dX4_markFoes_32 : decode cX4_markFoes 32 = .ok (.invokevirtual 40, 3) := by decide +kernel
theorem dX4_markFoes_35 : decode cX4_markFoes 35 = .ok (.putfield 44, 3) := by decide +kernel
theorem dX4_markFoes_38 : decode cX4_markFoes 38 = .ok (.iinc 1 1, 3) := by decide +kernel
theorem dX4_markFoes_41 : decode cX4_markFoes 41 = .ok (.goto (-39), 3) := by decide +kernel
theorem dX4_markFoes_44 : decode cX4_markFoes 44 = .ok (.return_, 1) := by decide +kernel
theorem dX4_foesOf_0 : decode cX4_foesOf 0 = .ok (.lconst 0, 1) := by decide +kernel
theorem dX4_foesOf_1 : decode cX4_foesOf 1 = .ok (.lstore_n 2, 1) := by decide +kernel
theorem dX4_foesOf_2 : decode cX4_foesOf 2 = .ok (.iconst 0, 1) := by decide +kernel
theorem dX4_foesOf_3 : decode cX4_foesOf 3 = .ok (.istore 4, 2) := by decide +kernel
theorem dX4_foesOf_5 : decode cX4_foesOf 5 = .ok (.iload 4, 2) := by decide +kernel
theorem dX4_foesOf_7 : decode cX4_foesOf 7 = .ok (.aload_n 0, 1) := by decide +kernel
theorem dX4_foesOf_8 : decode cX4_foesOf 8 = .ok (.getfield 22, 3) := by decide +kernel
theorem dX4_foesOf_11 : decode cX4_foesOf 11 = .ok (.getfield 30, 3) := by decide +kernel
theorem dX4_foesOf_14 : decode cX4_foesOf 14 = .ok (.if_icmp .ge 48, 3) := by decide +kernel
theorem dX4_foesOf_17 : decode cX4_foesOf 17 = .ok (.aload_n 0, 1) := by decide +kernel
theorem dX4_foesOf_18 : decode cX4_foesOf 18 = .ok (.getfield 22, 3) := by decide +kernel
theorem dX4_foesOf_21 : decode cX4_foesOf 21 = .ok (.getfield 36, 3) := by decide +kernel
theorem dX4_foesOf_24 : decode cX4_foesOf 24 = .ok (.iload 4, 2) := by decide +kernel
theorem dX4_foesOf_26 : decode cX4_foesOf 26 = .ok (.aaload, 1) := by decide +kernel
theorem dX4_foesOf_27 : decode cX4_foesOf 27 = .ok (.astore 5, 2) := by decide +kernel
theorem dX4_foesOf_29 : decode cX4_foesOf 29 = .ok (.aload 5, 2) := by decide +kernel
theorem dX4_foesOf_31 : decode cX4_foesOf 31 = .ok (.aload_n 1, 1) := by decide +kernel
theorem dX4_foesOf_32 : decode cX4_foesOf 32 = .ok (.if_acmp .eq 24, 3) := by decide +kernel
theorem dX4_foesOf_35 : decode cX4_foesOf 35 = .ok (.aload_n 0, 1) := by decide +kernel
theorem dX4_foesOf_36 : decode cX4_foesOf 36 = .ok (.getfield 18, 3) := by decide +kernel
theorem dX4_foesOf_39 : decode cX4_foesOf 39 = .ok (.aload_n 1, 1) := by decide +kernel
theorem dX4_foesOf_40 : decode cX4_foesOf 40 = .ok (.aload 5, 2) := by decide +kernel
theorem dX4_foesOf_42 : decode cX4_foesOf 42 = .ok (.invokevirtual 50, 3) := by decide +kernel
theorem dX4_foesOf_45 : decode cX4_foesOf 45 = .ok (.ifCond .eq 11, 3) := by decide +kernel
theorem dX4_foesOf_48 : decode cX4_foesOf 48 = .ok (.lload_n 2, 1) := by decide +kernel
theorem dX4_foesOf_49 : decode cX4_foesOf 49 = .ok (.aload 5, 2) := by decide +kernel
theorem dX4_foesOf_51 : decode cX4_foesOf 51 = .ok (.getfield 56, 3) := by decide +kernel
theorem dX4_foesOf_54 : decode cX4_foesOf 54 = .ok (.lor, 1) := by decide +kernel
theorem dX4_foesOf_55 : decode cX4_foesOf 55 = .ok (.lstore_n 2, 1) := by decide +kernel
theorem dX4_foesOf_56 : decode cX4_foesOf 56 = .ok (.iinc 4 1, 3) := by decide +kernel
theorem dX4_foesOf_59 : decode cX4_foesOf 59 = .ok (.goto (-54), 3) := by decide +kernel
theorem dX4_foesOf_62 : decode cX4_foesOf 62 = .ok (.lload_n 2, 1) := by decide +kernel
theorem dX4_foesOf_63 : decode cX4_foesOf 63 = .ok (.lreturn, 1) := by decide +kernel
theorem dX4_isBroken_0 : decode cX4_isBroken 0 = .ok (.iload_n 2, 1) := by decide +kernel
theorem dX4_isBroken_1 : decode cX4_isBroken 1 = .ok (.tableswitch 89 1 5 #[35, 61, 68, 75, 82], 35) := by decide +kernel
theorem dX4_isBroken_36 : decode cX4_isBroken 36 = .ok (.iload_n 3, 1) := by decide +kernel
theorem dX4_isBroken_37 : decode cX4_isBroken 37 = .ok (.aload_n 1, 1) := by decide +kernel
theorem dX4_isBroken_38 : decode cX4_isBroken 38 = .ok (.getfield 59, 3) := by decide +kernel
theorem dX4_isBroken_41 : decode cX4_isBroken 41 = .ok (.if_icmp .ne 19, 3) := by decide +kernel
theorem dX4_isBroken_44 : decode cX4_isBroken 44 = .ok (.aload_n 0, 1) := by decide +kernel
theorem dX4_isBroken_45 : decode cX4_isBroken 45 = .ok (.getfield 22, 3) := by decide +kernel
theorem dX4_isBroken_48 : decode cX4_isBroken 48 = .ok (.aload_n 1, 1) := by decide +kernel
theorem dX4_isBroken_49 : decode cX4_isBroken 49 = .ok (.invokevirtual 62, 3) := by decide +kernel
theorem dX4_isBroken_52 : decode cX4_isBroken 52 = .ok (.iload_n 3, 1) := by decide +kernel
theorem dX4_isBroken_53 : decode cX4_isBroken 53 = .ok (.if_icmp .le 7, 3) := by decide +kernel
theorem dX4_isBroken_56 : decode cX4_isBroken 56 = .ok (.iconst 1, 1) := by decide +kernel
theorem dX4_isBroken_57 : decode cX4_isBroken 57 = .ok (.goto 4, 3) := by decide +kernel
theorem dX4_isBroken_60 : decode cX4_isBroken 60 = .ok (.iconst 0, 1) := by decide +kernel
theorem dX4_isBroken_61 : decode cX4_isBroken 61 = .ok (.ireturn, 1) := by decide +kernel
theorem dX4_isBroken_62 : decode cX4_isBroken 62 = .ok (.aload_n 0, 1) := by decide +kernel
theorem dX4_isBroken_63 : decode cX4_isBroken 63 = .ok (.aload_n 1, 1) := by decide +kernel
theorem dX4_isBroken_64 : decode cX4_isBroken 64 = .ok (.iload_n 3, 1) := by decide +kernel
theorem dX4_isBroken_65 : decode cX4_isBroken 65 = .ok (.invokevirtual 66, 3) := by decide +kernel
theorem dX4_isBroken_68 : decode cX4_isBroken 68 = .ok (.ireturn, 1) := by decide +kernel
theorem dX4_isBroken_69 : decode cX4_isBroken 69 = .ok (.aload_n 0, 1) := by decide +kernel
theorem dX4_isBroken_70 : decode cX4_isBroken 70 = .ok (.aload_n 1, 1) := by decide +kernel
theorem dX4_isBroken_71 : decode cX4_isBroken 71 = .ok (.iload_n 3, 1) := by decide +kernel
theorem dX4_isBroken_72 : decode cX4_isBroken 72 = .ok (.invokevirtual 70, 3) := by decide +kernel
theorem dX4_isBroken_75 : decode cX4_isBroken 75 = .ok (.ireturn, 1) := by decide +kernel
theorem dX4_isBroken_76 : decode cX4_isBroken 76 = .ok (.aload_n 0, 1) := by decide +kernel
theorem dX4_isBroken_77 : decode cX4_isBroken 77 = .ok (.aload_n 1, 1) := by decide +kernel
theorem dX4_isBroken_78 : decode cX4_isBroken 78 = .ok (.iload_n 3, 1) := by decide +kernel
theorem dX4_isBroken_79 : decode cX4_isBroken 79 = .ok (.invokevirtual 73, 3) := by decide +kernel
theorem dX4_isBroken_82 : decode cX4_isBroken 82 = .ok (.ireturn, 1) := by decide +kernel
theorem dX4_isBroken_83 : decode cX4_isBroken 83 = .ok (.aload_n 0, 1) := by decide +kernel
theorem dX4_isBroken_84 : decode cX4_isBroken 84 = .ok (.aload_n 1, 1) := by decide +kernel
theorem dX4_isBroken_85 : decode cX4_isBroken 85 = .ok (.iload_n 3, 1) := by decide +kernel
theorem dX4_isBroken_86 : decode cX4_isBroken 86 = .ok (.invokevirtual 76, 3) := by decide +kernel
theorem dX4_isBroken_89 : decode cX4_isBroken 89 = .ok (.ireturn, 1) := by decide +kernel
theorem dX4_isBroken_90 : decode cX4_isBroken 90 = .ok (.iconst 0, 1) := by decide +kernel
theorem dX4_isBroken_91 : decode cX4_isBroken 91 = .ok (.ireturn, 1) := by decide +kernel
theorem dX4_lacksHands_0 : decode cX4_lacksHands 0 = .ok (.aload_n 0, 1) := by decide +kernel
theorem dX4_lacksHands_1 : decode cX4_lacksHands 1 = .ok (.getfield 26, 3) := by decide +kernel
theorem dX4_lacksHands_4 : decode cX4_lacksHands 4 = .ok (.getfield 79, 3) := by decide +kernel
theorem dX4_lacksHands_7 : decode cX4_lacksHands 7 = .ok (.aload_n 1, 1) := by decide +kernel
theorem dX4_lacksHands_8 : decode cX4_lacksHands 8 = .ok (.getfield 85, 3) := by decide +kernel
theorem dX4_lacksHands_11 : decode cX4_lacksHands 11 = .ok (.aaload, 1) := by decide +kernel
theorem dX4_lacksHands_12 : decode cX4_lacksHands 12 = .ok (.iload_n 2, 1) := by decide +kernel
theorem dX4_lacksHands_13 : decode cX4_lacksHands 13 = .ok (.iaload, 1) := by decide +kernel
theorem dX4_lacksHands_14 : decode cX4_lacksHands 14 = .ok (.istore_n 3, 1) := by decide +kernel
theorem dX4_lacksHands_15 : decode cX4_lacksHands 15 = .ok (.aload_n 0, 1) := by decide +kernel
theorem dX4_lacksHands_16 : decode cX4_lacksHands 16 = .ok (.getfield 26, 3) := by decide +kernel
theorem dX4_lacksHands_19 : decode cX4_lacksHands 19 = .ok (.getfield 88, 3) := by decide +kernel
theorem dX4_lacksHands_22 : decode cX4_lacksHands 22 = .ok (.iload_n 2, 1) := by decide +kernel
theorem dX4_lacksHands_23 : decode cX4_lacksHands 23 = .ok (.laload, 1) := by decide +kernel
theorem dX4_lacksHands_24 : decode cX4_lacksHands 24 = .ok (.aload_n 1, 1) := by decide +kernel
theorem dX4_lacksHands_25 : decode cX4_lacksHands 25 = .ok (.getfield 56, 3) := by decide +kernel
theorem dX4_lacksHands_28 : decode cX4_lacksHands 28 = .ok (.land, 1) := by decide +kernel
theorem dX4_lacksHands_29 : decode cX4_lacksHands 29 = .ok (.lconst 0, 1) := by decide +kernel
theorem dX4_lacksHands_30 : decode cX4_lacksHands 30 = .ok (.lcmp, 1) := by decide +kernel
theorem dX4_lacksHands_31 : decode cX4_lacksHands 31 = .ok (.ifCond .eq 7, 3) := by decide +kernel
theorem dX4_lacksHands_34 : decode cX4_lacksHands 34 = .ok (.iconst 1, 1) := by decide +kernel
theorem dX4_lacksHands_35 : decode cX4_lacksHands 35 = .ok (.goto 4, 3) := by decide +kernel
theorem dX4_lacksHands_38 : decode cX4_lacksHands 38 = .ok (.iconst 0, 1) := by decide +kernel
theorem dX4_lacksHands_39 : decode cX4_lacksHands 39 = .ok (.istore 4, 2) := by decide +kernel
theorem dX4_lacksHands_41 : decode cX4_lacksHands 41 = .ok (.iload 4, 2) := by decide +kernel
theorem dX4_lacksHands_43 : decode cX4_lacksHands 43 = .ok (.ifCond .eq 7, 3) := by decide +kernel
theorem dX4_lacksHands_46 : decode cX4_lacksHands 46 = .ok (.iload_n 3, 1) := by decide +kernel
theorem dX4_lacksHands_47 : decode cX4_lacksHands 47 = .ok (.goto 9, 3) := by decide +kernel
theorem dX4_lacksHands_50 : decode cX4_lacksHands 50 = .ok (.iload_n 3, 1) := by decide +kernel
theorem dX4_lacksHands_51 : decode cX4_lacksHands 51 = .ok (.aload_n 1, 1) := by decide +kernel
theorem dX4_lacksHands_52 : decode cX4_lacksHands 52 = .ok (.getfield 92, 3) := by decide +kernel
theorem dX4_lacksHands_55 : decode cX4_lacksHands 55 = .ok (.iadd, 1) := by decide +kernel
theorem dX4_lacksHands_56 : decode cX4_lacksHands 56 = .ok (.aload_n 0, 1) := by decide +kernel
theorem dX4_lacksHands_57 : decode cX4_lacksHands 57 = .ok (.getfield 9, 3) := by decide +kernel
theorem dX4_lacksHands_60 : decode cX4_lacksHands 60 = .ok (.aload_n 1, 1) := by decide +kernel
theorem dX4_lacksHands_61 : decode cX4_lacksHands 61 = .ok (.getfield 85, 3) := by decide +kernel
theorem dX4_lacksHands_64 : decode cX4_lacksHands 64 = .ok (.iaload, 1) := by decide +kernel
theorem dX4_lacksHands_65 : decode cX4_lacksHands 65 = .ok (.if_icmp .le 7, 3) := by decide +kernel
theorem dX4_lacksHands_68 : decode cX4_lacksHands 68 = .ok (.iconst 1, 1) := by decide +kernel
theorem dX4_lacksHands_69 : decode cX4_lacksHands 69 = .ok (.goto 4, 3) := by decide +kernel
theorem dX4_lacksHands_72 : decode cX4_lacksHands 72 = .ok (.iconst 0, 1) := by decide +kernel
theorem dX4_lacksHands_73 : decode cX4_lacksHands 73 = .ok (.ireturn, 1) := by decide +kernel
theorem dX4_lacksGood_0 : decode cX4_lacksGood 0 = .ok (.aload_n 1, 1) := by decide +kernel
theorem dX4_lacksGood_1 : decode cX4_lacksGood 1 = .ok (.getfield 94, 3) := by decide +kernel
theorem dX4_lacksGood_4 : decode cX4_lacksGood 4 = .ok (.iconst (-1), 1) := by decide +kernel
theorem dX4_lacksGood_5 : decode cX4_lacksGood 5 = .ok (.if_icmp .ne 5, 3) := by decide +kernel
theorem dX4_lacksGood_8 : decode cX4_lacksGood 8 = .ok (.iconst 0, 1) := by decide +kernel
theorem dX4_lacksGood_9 : decode cX4_lacksGood 9 = .ok (.ireturn, 1) := by decide +kernel
theorem dX4_lacksGood_10 : decode cX4_lacksGood 10 = .ok (.aload_n 0, 1) := by decide +kernel
theorem dX4_lacksGood_11 : decode cX4_lacksGood 11 = .ok (.getfield 26, 3) := by decide +kernel
theorem dX4_lacksGood_14 : decode cX4_lacksGood 14 = .ok (.getfield 88, 3) := by decide +kernel
theorem dX4_lacksGood_17 : decode cX4_lacksGood 17 = .ok (.iload_n 2, 1) := by decide +kernel
theorem dX4_lacksGood_18 : decode cX4_lacksGood 18 = .ok (.laload, 1) := by decide +kernel
theorem dX4_lacksGood_19 : decode cX4_lacksGood 19 = .ok (.aload_n 1, 1) := by decide +kernel
theorem dX4_lacksGood_20 : decode cX4_lacksGood 20 = .ok (.getfield 56, 3) := by decide +kernel
theorem dX4_lacksGood_23 : decode cX4_lacksGood 23 = .ok (.lor, 1) := by decide +kernel
theorem dX4_lacksGood_24 : decode cX4_lacksGood 24 = .ok (.aload_n 0, 1) := by decide +kernel
theorem dX4_lacksGood_25 : decode cX4_lacksGood 25 = .ok (.getfield 22, 3) := by decide +kernel
theorem dX4_lacksGood_28 : decode cX4_lacksGood 28 = .ok (.getfield 97, 3) := by decide +kernel
theorem dX4_lacksGood_31 : decode cX4_lacksGood 31 = .ok (.aload_n 1, 1) := by decide +kernel
theorem dX4_lacksGood_32 : decode cX4_lacksGood 32 = .ok (.getfield 94, 3) := by decide +kernel
theorem dX4_lacksGood_35 : decode cX4_lacksGood 35 = .ok (.laload, 1) := by decide +kernel
theorem dX4_lacksGood_36 : decode cX4_lacksGood 36 = .ok (.land, 1) := by decide +kernel
theorem dX4_lacksGood_37 : decode cX4_lacksGood 37 = .ok (.lstore_n 3, 1) := by decide +kernel
theorem dX4_lacksGood_38 : decode cX4_lacksGood 38 = .ok (.lload_n 3, 1) := by decide +kernel
theorem dX4_lacksGood_39 : decode cX4_lacksGood 39 = .ok (.invokestatic 100, 3) := by decide +kernel
theorem dX4_lacksGood_42 : decode cX4_lacksGood 42 = .ok (.aload_n 0, 1) := by decide +kernel
theorem dX4_lacksGood_43 : decode cX4_lacksGood 43 = .ok (.getfield 15, 3) := by decide +kernel
theorem dX4_lacksGood_46 : decode cX4_lacksGood 46 = .ok (.aload_n 1, 1) := by decide +kernel
theorem dX4_lacksGood_47 : decode cX4_lacksGood 47 = .ok (.getfield 94, 3) := by decide +kernel
theorem dX4_lacksGood_50 : decode cX4_lacksGood 50 = .ok (.iaload, 1) := by decide +kernel
theorem dX4_lacksGood_51 : decode cX4_lacksGood 51 = .ok (.if_icmp .le 7, 3) := by decide +kernel
theorem dX4_lacksGood_54 : decode cX4_lacksGood 54 = .ok (.iconst 1, 1) := by decide +kernel
theorem dX4_lacksGood_55 : decode cX4_lacksGood 55 = .ok (.goto 4, 3) := by decide +kernel
theorem dX4_lacksGood_58 : decode cX4_lacksGood 58 = .ok (.iconst 0, 1) := by decide +kernel
theorem dX4_lacksGood_59 : decode cX4_lacksGood 59 = .ok (.ireturn, 1) := by decide +kernel
theorem dX4_lacksRoom_0 : decode cX4_lacksRoom 0 = .ok (.aload_n 0, 1) := by decide +kernel
theorem dX4_lacksRoom_1 : decode cX4_lacksRoom 1 = .ok (.getfield 26, 3) := by decide +kernel
theorem dX4_lacksRoom_4 : decode cX4_lacksRoom 4 = .ok (.getfield 88, 3) := by decide +kernel
theorem dX4_lacksRoom_7 : decode cX4_lacksRoom 7 = .ok (.iload_n 2, 1) := by decide +kernel
theorem dX4_lacksRoom_8 : decode cX4_lacksRoom 8 = .ok (.laload, 1) := by decide +kernel
theorem dX4_lacksRoom_9 : decode cX4_lacksRoom 9 = .ok (.aload_n 1, 1) := by decide +kernel
theorem dX4_lacksRoom_10 : decode cX4_lacksRoom 10 = .ok (.getfield 56, 3) := by decide +kernel
theorem dX4_lacksRoom_13 : decode cX4_lacksRoom 13 = .ok (.lor, 1) := by decide +kernel
theorem dX4_lacksRoom_14 : decode cX4_lacksRoom 14 = .ok (.aload_n 0, 1) := by decide +kernel
theorem dX4_lacksRoom_15 : decode cX4_lacksRoom 15 = .ok (.getfield 22, 3) := by decide +kernel
theorem dX4_lacksRoom_18 : decode cX4_lacksRoom 18 = .ok (.getfield 106, 3) := by decide +kernel
theorem dX4_lacksRoom_21 : decode cX4_lacksRoom 21 = .ok (.aload_n 1, 1) := by decide +kernel
theorem dX4_lacksRoom_22 : decode cX4_lacksRoom 22 = .ok (.getfield 109, 3) := by decide +kernel
theorem dX4_lacksRoom_25 : decode cX4_lacksRoom 25 = .ok (.laload, 1) := by decide +kernel
theorem dX4_lacksRoom_26 : decode cX4_lacksRoom 26 = .ok (.land, 1) := by decide +kernel
theorem dX4_lacksRoom_27 : decode cX4_lacksRoom 27 = .ok (.lstore_n 3, 1) := by decide +kernel
theorem dX4_lacksRoom_28 : decode cX4_lacksRoom 28 = .ok (.lload_n 3, 1) := by decide +kernel
theorem dX4_lacksRoom_29 : decode cX4_lacksRoom 29 = .ok (.invokestatic 100, 3) := by decide +kernel
theorem dX4_lacksRoom_32 : decode cX4_lacksRoom 32 = .ok (.aload_n 0, 1) := by decide +kernel
theorem dX4_lacksRoom_33 : decode cX4_lacksRoom 33 = .ok (.getfield 18, 3) := by decide +kernel
theorem dX4_lacksRoom_36 : decode cX4_lacksRoom 36 = .ok (.getfield 112, 3) := by decide +kernel
theorem dX4_lacksRoom_39 : decode cX4_lacksRoom 39 = .ok (.aload_n 1, 1) := by decide +kernel
theorem dX4_lacksRoom_40 : decode cX4_lacksRoom 40 = .ok (.getfield 109, 3) := by decide +kernel
theorem dX4_lacksRoom_43 : decode cX4_lacksRoom 43 = .ok (.iaload, 1) := by decide +kernel
theorem dX4_lacksRoom_44 : decode cX4_lacksRoom 44 = .ok (.if_icmp .le 7, 3) := by decide +kernel
theorem dX4_lacksRoom_47 : decode cX4_lacksRoom 47 = .ok (.iconst 1, 1) := by decide +kernel
theorem dX4_lacksRoom_48 : decode cX4_lacksRoom 48 = .ok (.goto 4, 3) := by decide +kernel
theorem dX4_lacksRoom_51 : decode cX4_lacksRoom 51 = .ok (.iconst 0, 1) := by decide +kernel
theorem dX4_lacksRoom_52 : decode cX4_lacksRoom 52 = .ok (.ireturn, 1) := by decide +kernel
theorem dX4_meetsFoe_0 : decode cX4_meetsFoe 0 = .ok (.aload_n 0, 1) := by decide +kernel
theorem dX4_meetsFoe_1 : decode cX4_meetsFoe 1 = .ok (.getfield 26, 3) := by decide +kernel
theorem dX4_meetsFoe_4 : decode cX4_meetsFoe 4 = .ok (.getfield 88, 3) := by decide +kernel
theorem dX4_meetsFoe_7 : decode cX4_meetsFoe 7 = .ok (.iload_n 2, 1) := by decide +kernel
theorem dX4_meetsFoe_8 : decode cX4_meetsFoe 8 = .ok (.laload, 1) := by decide +kernel
theorem dX4_meetsFoe_9 : decode cX4_meetsFoe 9 = .ok (.aload_n 1, 1) := by decide +kernel
theorem dX4_meetsFoe_10 : decode cX4_meetsFoe 10 = .ok (.getfield 44, 3) := by decide +kernel
theorem dX4_meetsFoe_13 : decode cX4_meetsFoe 13 = .ok (.land, 1) := by decide +kernel
theorem dX4_meetsFoe_14 : decode cX4_meetsFoe 14 = .ok (.lconst 0, 1) := by decide +kernel
theorem dX4_meetsFoe_15 : decode cX4_meetsFoe 15 = .ok (.lcmp, 1) := by decide +kernel
theorem dX4_meetsFoe_16 : decode cX4_meetsFoe 16 = .ok (.ifCond .eq 7, 3) := by decide +kernel
theorem dX4_meetsFoe_19 : decode cX4_meetsFoe 19 = .ok (.iconst 1, 1) := by decide +kernel
theorem dX4_meetsFoe_20 : decode cX4_meetsFoe 20 = .ok (.goto 4, 3) := by decide +kernel
theorem dX4_meetsFoe_23 : decode cX4_meetsFoe 23 = .ok (.iconst 0, 1) := by decide +kernel
theorem dX4_meetsFoe_24 : decode cX4_meetsFoe 24 = .ok (.ireturn, 1) := by decide +kernel
theorem dX4_isFree_0 : decode cX4_isFree 0 = .ok (.aload_n 0, 1) := by decide +kernel
theorem dX4_isFree_1 : decode cX4_isFree 1 = .ok (.aload_n 1, 1) := by decide +kernel
theorem dX4_isFree_2 : decode cX4_isFree 2 = .ok (.iload_n 2, 1) := by decide +kernel
theorem dX4_isFree_3 : decode cX4_isFree 3 = .ok (.invokevirtual 66, 3) := by decide +kernel
theorem dX4_isFree_6 : decode cX4_isFree 6 = .ok (.ifCond .ne 34, 3) := by decide +kernel
theorem dX4_isFree_9 : decode cX4_isFree 9 = .ok (.aload_n 0, 1) := by decide +kernel
theorem dX4_isFree_10 : decode cX4_isFree 10 = .ok (.aload_n 1, 1) := by decide +kernel
theorem dX4_isFree_11 : decode cX4_isFree 11 = .ok (.iload_n 2, 1) := by decide +kernel
theorem dX4_isFree_12 : decode cX4_isFree 12 = .ok (.invokevirtual 70, 3) := by decide +kernel
theorem dX4_isFree_15 : decode cX4_isFree 15 = .ok (.ifCond .ne 25, 3) := by decide +kernel
theorem dX4_isFree_18 : decode cX4_isFree 18 = .ok (.aload_n 0, 1) := by decide +kernel
theorem dX4_isFree_19 : decode cX4_isFree 19 = .ok (.aload_n 1, 1) := by decide +kernel
theorem dX4_isFree_20 : decode cX4_isFree 20 = .ok (.iload_n 2, 1) := by decide +kernel
theorem dX4_isFree_21 : decode cX4_isFree 21 = .ok (.invokevirtual 73, 3) := by decide +kernel
theorem dX4_isFree_24 : decode cX4_isFree 24 = .ok (.ifCond .ne 16, 3) := by decide +kernel
theorem dX4_isFree_27 : decode cX4_isFree 27 = .ok (.aload_n 0, 1) := by decide +kernel
theorem dX4_isFree_28 : decode cX4_isFree 28 = .ok (.aload_n 1, 1) := by decide +kernel
theorem dX4_isFree_29 : decode cX4_isFree 29 = .ok (.iload_n 2, 1) := by decide +kernel
theorem dX4_isFree_30 : decode cX4_isFree 30 = .ok (.invokevirtual 76, 3) := by decide +kernel
theorem dX4_isFree_33 : decode cX4_isFree 33 = .ok (.ifCond .ne 7, 3) := by decide +kernel
theorem dX4_isFree_36 : decode cX4_isFree 36 = .ok (.iconst 1, 1) := by decide +kernel
theorem dX4_isFree_37 : decode cX4_isFree 37 = .ok (.goto 4, 3) := by decide +kernel
theorem dX4_isFree_40 : decode cX4_isFree 40 = .ok (.iconst 0, 1) := by decide +kernel
theorem dX4_isFree_41 : decode cX4_isFree 41 = .ok (.ireturn, 1) := by decide +kernel
theorem dX4_leastBroken_0 : decode cX4_leastBroken 0 = .ok (.iconst 1, 1) := by decide +kernel
theorem dX4_leastBroken_1 : decode cX4_leastBroken 1 = .ok (.istore_n 2, 1) := by decide +kernel
theorem dX4_leastBroken_2 : decode cX4_leastBroken 2 = .ok (.iload_n 2, 1) := by decide +kernel
theorem dX4_leastBroken_3 : decode cX4_leastBroken 3 = .ok (.iconst 5, 1) := by decide +kernel
theorem dX4_leastBroken_4 : decode cX4_leastBroken 4 = .ok (.if_icmp .gt 21, 3) := by decide +kernel
theorem dX4_leastBroken_7 : decode cX4_leastBroken 7 = .ok (.aload_n 0, 1) := by decide +kernel
theorem dX4_leastBroken_8 : decode cX4_leastBroken 8 = .ok (.aload_n 1, 1) := by decide +kernel
theorem dX4_leastBroken_9 : decode cX4_leastBroken 9 = .ok (.iload_n 2, 1) := by decide +kernel
theorem dX4_leastBroken_10 : decode cX4_leastBroken 10 = .ok (.invokevirtual 115, 3) := by decide +kernel
theorem dX4_leastBroken_13 : decode cX4_leastBroken 13 = .ok (.iconst (-1), 1) := by decide +kernel
theorem dX4_leastBroken_14 : decode cX4_leastBroken 14 = .ok (.if_icmp .eq 5, 3) := by decide +kernel
theorem dX4_leastBroken_17 : decode cX4_leastBroken 17 = .ok (.iload_n 2, 1) := by decide +kernel
theorem dX4_leastBroken_18 : decode cX4_leastBroken 18 = .ok (.ireturn, 1) := by decide +kernel
theorem dX4_leastBroken_19 : decode cX4_leastBroken 19 = .ok (.iinc 2 1, 3) := by decide +kernel
theorem dX4_leastBroken_22 : decode cX4_leastBroken 22 = .ok (.goto (-20), 3) := by decide +kernel
theorem dX4_leastBroken_25 : decode cX4_leastBroken 25 = .ok (.iconst (-1), 1) := by decide +kernel
theorem dX4_leastBroken_26 : decode cX4_leastBroken 26 = .ok (.ireturn, 1) := by decide +kernel
theorem dX4_leastShift_0 : decode cX4_leastShift 0 = .ok (.aload_n 1, 1) := by decide +kernel
theorem dX4_leastShift_1 : decode cX4_leastShift 1 = .ok (.invokevirtual 119, 3) := by decide +kernel
theorem dX4_leastShift_4 : decode cX4_leastShift 4 = .ok (.ifCond .eq 5, 3) := by decide +kernel
theorem dX4_leastShift_7 : decode cX4_leastShift 7 = .ok (.iconst (-1), 1) := by decide +kernel
theorem dX4_leastShift_8 : decode cX4_leastShift 8 = .ok (.ireturn, 1) := by decide +kernel
theorem dX4_leastShift_9 : decode cX4_leastShift 9 = .ok (.aload_n 1, 1) := by decide +kernel
theorem dX4_leastShift_10 : decode cX4_leastShift 10 = .ok (.getfield 59, 3) := by decide +kernel
theorem dX4_leastShift_13 : decode cX4_leastShift 13 = .ok (.istore_n 3, 1) := by decide +kernel
theorem dX4_leastShift_14 : decode cX4_leastShift 14 = .ok (.iload_n 3, 1) := by decide +kernel
theorem dX4_leastShift_15 : decode cX4_leastShift 15 = .ok (.aload_n 1, 1) := by decide +kernel
theorem dX4_leastShift_16 : decode cX4_leastShift 16 = .ok (.invokevirtual 123, 3) := by decide +kernel
theorem dX4_leastShift_19 : decode cX4_leastShift 19 = .ok (.if_icmp .ge 21, 3) := by decide +kernel
theorem dX4_leastShift_22 : decode cX4_leastShift 22 = .ok (.aload_n 0, 1) := by decide +kernel
theorem dX4_leastShift_23 : decode cX4_leastShift 23 = .ok (.aload_n 1, 1) := by decide +kernel
theorem dX4_leastShift_24 : decode cX4_leastShift 24 = .ok (.iload_n 2, 1) := by decide +kernel
theorem dX4_leastShift_25 : decode cX4_leastShift 25 = .ok (.iload_n 3, 1) := by decide +kernel
theorem dX4_leastShift_26 : decode cX4_leastShift 26 = .ok (.invokevirtual 127, 3) := by decide +kernel
theorem dX4_leastShift_29 : decode cX4_leastShift 29 = .ok (.ifCond .eq 5, 3) := by decide +kernel
theorem dX4_leastShift_32 : decode cX4_leastShift 32 = .ok (.iload_n 3, 1) := by decide +kernel
theorem dX4_leastShift_33 : decode cX4_leastShift 33 = .ok (.ireturn, 1) := by decide +kernel
theorem dX4_leastShift_34 : decode cX4_leastShift 34 = .ok (.iinc 3 1, 3) := by decide +kernel
theorem dX4_leastShift_37 : decode cX4_leastShift 37 = .ok (.goto (-23), 3) := by decide +kernel
theorem dX4_leastShift_40 : decode cX4_leastShift 40 = .ok (.iconst (-1), 1) := by decide +kernel
theorem dX4_leastShift_41 : decode cX4_leastShift 41 = .ok (.ireturn, 1) := by decide +kernel
theorem dX4_firstPlace_0 : decode cX4_firstPlace 0 = .ok (.aload_n 0, 1) := by decide +kernel
theorem dX4_firstPlace_1 : decode cX4_firstPlace 1 = .ok (.getfield 22, 3) := by decide +kernel
theorem dX4_firstPlace_4 : decode cX4_firstPlace 4 = .ok (.aload_n 1, 1) := by decide +kernel
theorem dX4_firstPlace_5 : decode cX4_firstPlace 5 = .ok (.invokevirtual 131, 3) := by decide +kernel
theorem dX4_firstPlace_8 : decode cX4_firstPlace 8 = .ok (.istore_n 3, 1) := by decide +kernel
theorem dX4_firstPlace_9 : decode cX4_firstPlace 9 = .ok (.iconst 0, 1) := by decide +kernel
theorem dX4_firstPlace_10 : decode cX4_firstPlace 10 = .ok (.istore 4, 2) := by decide +kernel
theorem dX4_firstPlace_12 : decode cX4_firstPlace 12 = .ok (.iload_n 2, 1) := by decide +kernel
theorem dX4_firstPlace_13 : decode cX4_firstPlace 13 = .ok (.aload_n 0, 1) := by decide +kernel
theorem dX4_firstPlace_14 : decode cX4_firstPlace 14 = .ok (.getfield 26, 3) := by decide +kernel
theorem dX4_firstPlace_17 : decode cX4_firstPlace 17 = .ok (.getfield 134, 3) := by decide +kernel
theorem dX4_firstPlace_20 : decode cX4_firstPlace 20 = .ok (.invokestatic 137, 3) := by decide +kernel
theorem dX4_firstPlace_23 : decode cX4_firstPlace 23 = .ok (.aload_n 0, 1) := by decide +kernel
theorem dX4_firstPlace_24 : decode cX4_firstPlace 24 = .ok (.getfield 22, 3) := by decide +kernel
theorem dX4_firstPlace_27 : decode cX4_firstPlace 27 = .ok (.aload_n 1, 1) := by decide +kernel
theorem dX4_firstPlace_28 : decode cX4_firstPlace 28 = .ok (.invokevirtual 62, 3) := by decide +kernel
theorem dX4_firstPlace_31 : decode cX4_firstPlace 31 = .ok (.invokestatic 137, 3) := by decide +kernel
theorem dX4_firstPlace_34 : decode cX4_firstPlace 34 = .ok (.istore 5, 2) := by decide +kernel
theorem dX4_firstPlace_36 : decode cX4_firstPlace 36 = .ok (.iload 5, 2) := by decide +kernel
theorem dX4_firstPlace_38 : decode cX4_firstPlace 38 = .ok (.iload_n 3, 1) := by decide +kernel
theorem dX4_firstPlace_39 : decode cX4_firstPlace 39 = .ok (.if_icmp .ge 48, 3) := by decide +kernel
theorem dX4_firstPlace_42 : decode cX4_firstPlace 42 = .ok (.aload_n 0, 1) := by decide +kernel
theorem dX4_firstPlace_43 : decode cX4_firstPlace 43 = .ok (.aload_n 1, 1) := by decide +kernel
theorem dX4_firstPlace_44 : decode cX4_firstPlace 44 = .ok (.iload 5, 2) := by decide +kernel
theorem dX4_firstPlace_46 : decode cX4_firstPlace 46 = .ok (.invokevirtual 143, 3) := by decide +kernel
theorem dX4_firstPlace_49 : decode cX4_firstPlace 49 = .ok (.ifCond .eq 10, 3) := by decide +kernel
theorem dX4_firstPlace_52 : decode cX4_firstPlace 52 = .ok (.iload 4, 2) := by decide +kernel
theorem dX4_firstPlace_54 : decode cX4_firstPlace 54 = .ok (.iconst 1, 1) := by decide +kernel
theorem dX4_firstPlace_55 : decode cX4_firstPlace 55 = .ok (.iadd, 1) := by decide +kernel
theorem dX4_firstPlace_56 : decode cX4_firstPlace 56 = .ok (.goto 4, 3) := by decide +kernel
end
section
theorem dX4_firstPlace_59 : decode cX4_firstPlace 59 = .ok (.iconst 0, 1) := by decide +kernel
theorem dX4_firstPlace_60 : decode cX4_firstPlace 60 = .ok (.istore 4, 2) := by decide +kernel
theorem dX4_firstPlace_62 : decode cX4_firstPlace 62 = .ok (.iload 4, 2) := by decide +kernel
theorem dX4_firstPlace_64 : decode cX4_firstPlace 64 = .ok (.aload_n 1, 1) := by decide +kernel
theorem dX4_firstPlace_65 : decode cX4_firstPlace 65 = .ok (.getfield 146, 3) := by decide +kernel
theorem dX4_firstPlace_68 : decode cX4_firstPlace 68 = .ok (.if_icmp .ne 13, 3) := by decide +kernel
theorem dX4_firstPlace_71 : decode cX4_firstPlace 71 = .ok (.iload 5, 2) := by decide +kernel
theorem dX4_firstPlace_73 : decode cX4_firstPlace 73 = .ok (.aload_n 1, 1) := by decide +kernel
theorem dX4_firstPlace_74 : decode cX4_firstPlace 74 = .ok (.getfield 146, 3) := by decide +kernel
theorem dX4_firstPlace_77 : decode cX4_firstPlace 77 = .ok (.isub, 1) := by decide +kernel
theorem dX4_firstPlace_78 : decode cX4_firstPlace 78 = .ok (.iconst 1, 1) := by decide +kernel
theorem dX4_firstPlace_79 : decode cX4_firstPlace 79 = .ok (.iadd, 1) := by decide +kernel
theorem dX4_firstPlace_80 : decode cX4_firstPlace 80 = .ok (.ireturn, 1) := by decide +kernel
theorem dX4_firstPlace_81 : decode cX4_firstPlace 81 = .ok (.iinc 5 1, 3) := by decide +kernel
theorem dX4_firstPlace_84 : decode cX4_firstPlace 84 = .ok (.goto (-48), 3) := by decide +kernel
theorem dX4_firstPlace_87 : decode cX4_firstPlace 87 = .ok (.iconst (-1), 1) := by decide +kernel
theorem dX4_firstPlace_88 : decode cX4_firstPlace 88 = .ok (.ireturn, 1) := by decide +kernel
theorem dX5_init_0 : decode cX5_init 0 = .ok (.aload_n 0, 1) := by decide +kernel
theorem dX5_init_1 : decode cX5_init 1 = .ok (.invokespecial 3, 3) := by decide +kernel
theorem dX5_init_4 : decode cX5_init 4 = .ok (.aload_n 0, 1) := by decide +kernel
theorem dX5_init_5 : decode cX5_init 5 = .ok (.iconst (-1), 1) := by decide +kernel
theorem dX5_init_6 : decode cX5_init 6 = .ok (.putfield 9, 3) := by decide +kernel
theorem dX5_init_9 : decode cX5_init 9 = .ok (.aload_n 0, 1) := by decide +kernel
theorem dX5_init_10 : decode cX5_init 10 = .ok (.iload_n 1, 1) := by decide +kernel
theorem dX5_init_11 : decode cX5_init 11 = .ok (.putfield 15, 3) := by decide +kernel
theorem dX5_init_14 : decode cX5_init 14 = .ok (.aload_n 0, 1) := by decide +kernel
theorem dX5_init_15 : decode cX5_init 15 = .ok (.lconst 1, 1) := by decide +kernel
theorem dX5_init_16 : decode cX5_init 16 = .ok (.iload_n 1, 1) := by decide +kernel
theorem dX5_init_17 : decode cX5_init 17 = .ok (.lshl, 1) := by decide +kernel
theorem dX5_init_18 : decode cX5_init 18 = .ok (.putfield 18, 3) := by decide +kernel
theorem dX5_init_21 : decode cX5_init 21 = .ok (.aload_n 0, 1) := by decide +kernel
theorem dX5_init_22 : decode cX5_init 22 = .ok (.iload_n 3, 1) := by decide +kernel
theorem dX5_init_23 : decode cX5_init 23 = .ok (.putfield 22, 3) := by decide +kernel
theorem dX5_init_26 : decode cX5_init 26 = .ok (.aload_n 0, 1) := by decide +kernel
theorem dX5_init_27 : decode cX5_init 27 = .ok (.iload_n 2, 1) := by decide +kernel
theorem dX5_init_28 : decode cX5_init 28 = .ok (.bipush 100, 2) := by decide +kernel
theorem dX5_init_30 : decode cX5_init 30 = .ok (.irem, 1) := by decide +kernel
theorem dX5_init_31 : decode cX5_init 31 = .ok (.putfield 25, 3) := by decide +kernel
theorem dX5_init_34 : decode cX5_init 34 = .ok (.aload_n 0, 1) := by decide +kernel
theorem dX5_init_35 : decode cX5_init 35 = .ok (.iload_n 2, 1) := by decide +kernel
theorem dX5_init_36 : decode cX5_init 36 = .ok (.bipush 100, 2) := by decide +kernel
theorem dX5_init_38 : decode cX5_init 38 = .ok (.idiv, 1) := by decide +kernel
theorem dX5_init_39 : decode cX5_init 39 = .ok (.bipush 10, 2) := by decide +kernel
theorem dX5_init_41 : decode cX5_init 41 = .ok (.irem, 1) := by decide +kernel
theorem dX5_init_42 : decode cX5_init 42 = .ok (.putfield 28, 3) := by decide +kernel
theorem dX5_init_45 : decode cX5_init 45 = .ok (.aload_n 0, 1) := by decide +kernel
theorem dX5_init_46 : decode cX5_init 46 = .ok (.iload_n 2, 1) := by decide +kernel
theorem dX5_init_47 : decode cX5_init 47 = .ok (.sipush 1000, 3) := by decide +kernel
theorem dX5_init_50 : decode cX5_init 50 = .ok (.idiv, 1) := by decide +kernel
theorem dX5_init_51 : decode cX5_init 51 = .ok (.bipush 10, 2) := by decide +kernel
theorem dX5_init_53 : decode cX5_init 53 = .ok (.irem, 1) := by decide +kernel
theorem dX5_init_54 : decode cX5_init 54 = .ok (.putfield 31, 3) := by decide +kernel
theorem dX5_init_57 : decode cX5_init 57 = .ok (.aload_n 0, 1) := by decide +kernel
theorem dX5_init_58 : decode cX5_init 58 = .ok (.iload_n 2, 1) := by decide +kernel
theorem dX5_init_59 : decode cX5_init 59 = .ok (.sipush 10000, 3) := by decide +kernel
theorem dX5_init_62 : decode cX5_init 62 = .ok (.idiv, 1) := by decide +kernel
theorem dX5_init_63 : decode cX5_init 63 = .ok (.bipush 10, 2) := by decide +kernel
theorem dX5_init_65 : decode cX5_init 65 = .ok (.irem, 1) := by decide +kernel
theorem dX5_init_66 : decode cX5_init 66 = .ok (.putfield 34, 3) := by decide +kernel
theorem dX5_init_69 : decode cX5_init 69 = .ok (.aload_n 0, 1) := by decide +kernel
theorem dX5_init_70 : decode cX5_init 70 = .ok (.iload_n 2, 1) := by decide +kernel
theorem dX5_init_71 : decode cX5_init 71 = .ok (.ldc 37, 2) := by decide +kernel
theorem dX5_init_73 : decode cX5_init 73 = .ok (.idiv, 1) := by decide +kernel
theorem dX5_init_74 : decode cX5_init 74 = .ok (.putfield 38, 3) := by decide +kernel
theorem dX5_init_77 : decode cX5_init 77 = .ok (.return_, 1) := by decide +kernel
theorem dX5_isOpen_0 : decode cX5_isOpen 0 = .ok (.aload_n 0, 1) := by decide +kernel
theorem dX5_isOpen_1 : decode cX5_isOpen 1 = .ok (.getfield 9, 3) := by decide +kernel
theorem dX5_isOpen_4 : decode cX5_isOpen 4 = .ok (.iconst (-1), 1) := by decide +kernel
theorem dX5_isOpen_5 : decode cX5_isOpen 5 = .ok (.if_icmp .ne 7, 3) := by decide +kernel
theorem dX5_isOpen_8 : decode cX5_isOpen 8 = .ok (.iconst 1, 1) := by decide +kernel
theorem dX5_isOpen_9 : decode cX5_isOpen 9 = .ok (.goto 4, 3) := by decide +kernel
theorem dX5_isOpen_12 : decode cX5_isOpen 12 = .ok (.iconst 0, 1) := by decide +kernel
theorem dX5_isOpen_13 : decode cX5_isOpen 13 = .ok (.ireturn, 1) := by decide +kernel
theorem dX5_behind_0 : decode cX5_behind 0 = .ok (.aload_n 0, 1) := by decide +kernel
theorem dX5_behind_1 : decode cX5_behind 1 = .ok (.getfield 9, 3) := by decide +kernel
theorem dX5_behind_4 : decode cX5_behind 4 = .ok (.aload_n 0, 1) := by decide +kernel
theorem dX5_behind_5 : decode cX5_behind 5 = .ok (.getfield 38, 3) := by decide +kernel
theorem dX5_behind_8 : decode cX5_behind 8 = .ok (.iadd, 1) := by decide +kernel
theorem dX5_behind_9 : decode cX5_behind 9 = .ok (.ireturn, 1) := by decide +kernel
theorem dX5_hasBegun_0 : decode cX5_hasBegun 0 = .ok (.aload_n 0, 1) := by decide +kernel
theorem dX5_hasBegun_1 : decode cX5_hasBegun 1 = .ok (.invokevirtual 41, 3) := by decide +kernel
theorem dX5_hasBegun_4 : decode cX5_hasBegun 4 = .ok (.ifCond .ne 15, 3) := by decide +kernel
theorem dX5_hasBegun_7 : decode cX5_hasBegun 7 = .ok (.aload_n 0, 1) := by decide +kernel
theorem dX5_hasBegun_8 : decode cX5_hasBegun 8 = .ok (.getfield 9, 3) := by decide +kernel
theorem dX5_hasBegun_11 : decode cX5_hasBegun 11 = .ok (.iload_n 1, 1) := by decide +kernel
theorem dX5_hasBegun_12 : decode cX5_hasBegun 12 = .ok (.if_icmp .ge 7, 3) := by decide +kernel
theorem dX5_hasBegun_15 : decode cX5_hasBegun 15 = .ok (.iconst 1, 1) := by decide +kernel
theorem dX5_hasBegun_16 : decode cX5_hasBegun 16 = .ok (.goto 4, 3) := by decide +kernel
theorem dX5_hasBegun_19 : decode cX5_hasBegun 19 = .ok (.iconst 0, 1) := by decide +kernel
theorem dX5_hasBegun_20 : decode cX5_hasBegun 20 = .ok (.ireturn, 1) := by decide +kernel
theorem dX5_isDone_0 : decode cX5_isDone 0 = .ok (.aload_n 0, 1) := by decide +kernel
theorem dX5_isDone_1 : decode cX5_isDone 1 = .ok (.invokevirtual 41, 3) := by decide +kernel
theorem dX5_isDone_4 : decode cX5_isDone 4 = .ok (.ifCond .ne 15, 3) := by decide +kernel
theorem dX5_isDone_7 : decode cX5_isDone 7 = .ok (.aload_n 0, 1) := by decide +kernel
theorem dX5_isDone_8 : decode cX5_isDone 8 = .ok (.invokevirtual 45, 3) := by decide +kernel
theorem dX5_isDone_11 : decode cX5_isDone 11 = .ok (.iload_n 1, 1) := by decide +kernel
theorem dX5_isDone_12 : decode cX5_isDone 12 = .ok (.if_icmp .gt 7, 3) := by decide +kernel
theorem dX5_isDone_15 : decode cX5_isDone 15 = .ok (.iconst 1, 1) := by decide +kernel
theorem dX5_isDone_16 : decode cX5_isDone 16 = .ok (.goto 4, 3) := by decide +kernel
theorem dX5_isDone_19 : decode cX5_isDone 19 = .ok (.iconst 0, 1) := by decide +kernel
theorem dX5_isDone_20 : decode cX5_isDone 20 = .ok (.ireturn, 1) := by decide +kernel
theorem dX5_leansOn_0 : decode cX5_leansOn 0 = .ok (.aload_n 0, 1) := by decide +kernel
theorem dX5_leansOn_1 : decode cX5_leansOn 1 = .ok (.getfield 49, 3) := by decide +kernel
theorem dX5_leansOn_4 : decode cX5_leansOn 4 = .ok (.aload_n 1, 1) := by decide +kernel
theorem dX5_leansOn_5 : decode cX5_leansOn 5 = .ok (.getfield 18, 3) := by decide +kernel
theorem dX5_leansOn_8 : decode cX5_leansOn 8 = .ok (.land, 1) := by decide +kernel
theorem dX5_leansOn_9 : decode cX5_leansOn 9 = .ok (.lconst 0, 1) := by decide +kernel
theorem dX5_leansOn_10 : decode cX5_leansOn 10 = .ok (.lcmp, 1) := by decide +kernel
theorem dX5_leansOn_11 : decode cX5_leansOn 11 = .ok (.ifCond .eq 7, 3) := by decide +kernel
theorem dX5_leansOn_14 : decode cX5_leansOn 14 = .ok (.iconst 1, 1) := by decide +kernel
theorem dX5_leansOn_15 : decode cX5_leansOn 15 = .ok (.goto 4, 3) := by decide +kernel
theorem dX5_leansOn_18 : decode cX5_leansOn 18 = .ok (.iconst 0, 1) := by decide +kernel
theorem dX5_leansOn_19 : decode cX5_leansOn 19 = .ok (.ireturn, 1) := by decide +kernel
theorem dX5_hangsOn_0 : decode cX5_hangsOn 0 = .ok (.aload_n 0, 1) := by decide +kernel
theorem dX5_hangsOn_1 : decode cX5_hangsOn 1 = .ok (.getfield 52, 3) := by decide +kernel
theorem dX5_hangsOn_4 : decode cX5_hangsOn 4 = .ok (.aload_n 1, 1) := by decide +kernel
theorem dX5_hangsOn_5 : decode cX5_hangsOn 5 = .ok (.getfield 18, 3) := by decide +kernel
theorem dX5_hangsOn_8 : decode cX5_hangsOn 8 = .ok (.land, 1) := by decide +kernel
theorem dX5_hangsOn_9 : decode cX5_hangsOn 9 = .ok (.lconst 0, 1) := by decide +kernel
theorem dX5_hangsOn_10 : decode cX5_hangsOn 10 = .ok (.lcmp, 1) := by decide +kernel
theorem dX5_hangsOn_11 : decode cX5_hangsOn 11 = .ok (.ifCond .eq 7, 3) := by decide +kernel
theorem dX5_hangsOn_14 : decode cX5_hangsOn 14 = .ok (.iconst 1, 1) := by decide +kernel
theorem dX5_hangsOn_15 : decode cX5_hangsOn 15 = .ok (.goto 4, 3) := by decide +kernel
theorem dX5_hangsOn_18 : decode cX5_hangsOn 18 = .ok (.iconst 0, 1) := by decide +kernel
theorem dX5_hangsOn_19 : decode cX5_hangsOn 19 = .ok (.ireturn, 1) := by decide +kernel
theorem dX5_isReady_0 : decode cX5_isReady 0 = .ok (.aload_n 0, 1) := by decide +kernel
theorem dX5_isReady_1 : decode cX5_isReady 1 = .ok (.invokevirtual 41, 3) := by decide +kernel
theorem dX5_isReady_4 : decode cX5_isReady 4 = .ok (.ifCond .eq 22, 3) := by decide +kernel
theorem dX5_isReady_7 : decode cX5_isReady 7 = .ok (.aload_n 0, 1) := by decide +kernel
theorem dX5_isReady_8 : decode cX5_isReady 8 = .ok (.getfield 49, 3) := by decide +kernel
theorem dX5_isReady_11 : decode cX5_isReady 11 = .ok (.lload_n 1, 1) := by decide +kernel
theorem dX5_isReady_12 : decode cX5_isReady 12 = .ok (.ldc2_w 55, 3) := by decide +kernel
theorem dX5_isReady_15 : decode cX5_isReady 15 = .ok (.lxor, 1) := by decide +kernel
theorem dX5_isReady_16 : decode cX5_isReady 16 = .ok (.land, 1) := by decide +kernel
theorem dX5_isReady_17 : decode cX5_isReady 17 = .ok (.lconst 0, 1) := by decide +kernel
theorem dX5_isReady_18 : decode cX5_isReady 18 = .ok (.lcmp, 1) := by decide +kernel
theorem dX5_isReady_19 : decode cX5_isReady 19 = .ok (.ifCond .ne 7, 3) := by decide +kernel
theorem dX5_isReady_22 : decode cX5_isReady 22 = .ok (.iconst 1, 1) := by decide +kernel
theorem dX5_isReady_23 : decode cX5_isReady 23 = .ok (.goto 4, 3) := by decide +kernel
theorem dX5_isReady_26 : decode cX5_isReady 26 = .ok (.iconst 0, 1) := by decide +kernel
theorem dX5_isReady_27 : decode cX5_isReady 27 = .ok (.ireturn, 1) := by decide +kernel
theorem dX5_wholeWay_0 : decode cX5_wholeWay 0 = .ok (.aload_n 0, 1) := by decide +kernel
theorem dX5_wholeWay_1 : decode cX5_wholeWay 1 = .ok (.getfield 57, 3) := by decide +kernel
theorem dX5_wholeWay_4 : decode cX5_wholeWay 4 = .ok (.aload_n 0, 1) := by decide +kernel
theorem dX5_wholeWay_5 : decode cX5_wholeWay 5 = .ok (.getfield 38, 3) := by decide +kernel
theorem dX5_wholeWay_8 : decode cX5_wholeWay 8 = .ok (.iadd, 1) := by decide +kernel
theorem dX5_wholeWay_9 : decode cX5_wholeWay 9 = .ok (.aload_n 0, 1) := by decide +kernel
theorem dX5_wholeWay_10 : decode cX5_wholeWay 10 = .ok (.getfield 60, 3) := by decide +kernel
theorem dX5_wholeWay_13 : decode cX5_wholeWay 13 = .ok (.iadd, 1) := by decide +kernel
theorem dX5_wholeWay_14 : decode cX5_wholeWay 14 = .ok (.ireturn, 1) := by decide +kernel
theorem dX6_init_0 : decode cX6_init 0 = .ok (.aload_n 0, 1) := by decide +kernel
theorem dX6_init_1 : decode cX6_init 1 = .ok (.invokespecial 1, 3) := by decide +kernel
theorem dX6_init_4 : decode cX6_init 4 = .ok (.aload_n 0, 1) := by decide +kernel
theorem dX6_init_5 : decode cX6_init 5 = .ok (.new 7, 3) := by decide +kernel
theorem dX6_init_8 : decode cX6_init 8 = .ok (.dup, 1) := by decide +kernel
theorem dX6_init_9 : decode cX6_init 9 = .ok (.invokespecial 9, 3) := by decide +kernel
theorem dX6_init_12 : decode cX6_init 12 = .ok (.putfield 10, 3) := by decide +kernel
theorem dX6_init_15 : decode cX6_init 15 = .ok (.aload_n 0, 1) := by decide +kernel
theorem dX6_init_16 : decode cX6_init 16 = .ok (.new 16, 3) := by decide +kernel
theorem dX6_init_19 : decode cX6_init 19 = .ok (.dup, 1) := by decide +kernel
theorem dX6_init_20 : decode cX6_init 20 = .ok (.invokespecial 18, 3) := by decide +kernel
theorem dX6_init_23 : decode cX6_init 23 = .ok (.putfield 19, 3) := by decide +kernel
theorem dX6_init_26 : decode cX6_init 26 = .ok (.aload_n 0, 1) := by decide +kernel
theorem dX6_init_27 : decode cX6_init 27 = .ok (.new 23, 3) := by decide +kernel
theorem dX6_init_30 : decode cX6_init 30 = .ok (.dup, 1) := by decide +kernel
theorem dX6_init_31 : decode cX6_init 31 = .ok (.invokespecial 25, 3) := by decide +kernel
theorem dX6_init_34 : decode cX6_init 34 = .ok (.putfield 26, 3) := by decide +kernel
theorem dX6_init_37 : decode cX6_init 37 = .ok (.aload_n 0, 1) := by decide +kernel
theorem dX6_init_38 : decode cX6_init 38 = .ok (.new 30, 3) := by decide +kernel
theorem dX6_init_41 : decode cX6_init 41 = .ok (.dup, 1) := by decide +kernel
theorem dX6_init_42 : decode cX6_init 42 = .ok (.aload_n 0, 1) := by decide +kernel
theorem dX6_init_43 : decode cX6_init 43 = .ok (.getfield 10, 3) := by decide +kernel
theorem dX6_init_46 : decode cX6_init 46 = .ok (.aload_n 0, 1) := by decide +kernel
theorem dX6_init_47 : decode cX6_init 47 = .ok (.getfield 19, 3) := by decide +kernel
theorem dX6_init_50 : decode cX6_init 50 = .ok (.aload_n 0, 1) := by decide +kernel
theorem dX6_init_51 : decode cX6_init 51 = .ok (.getfield 26, 3) := by decide +kernel
theorem dX6_init_54 : decode cX6_init 54 = .ok (.invokespecial 32, 3) := by decide +kernel
theorem dX6_init_57 : decode cX6_init 57 = .ok (.putfield 35, 3) := by decide +kernel
theorem dX6_init_60 : decode cX6_init 60 = .ok (.aload_n 0, 1) := by decide +kernel
theorem dX6_init_61 : decode cX6_init 61 = .ok (.new 39, 3) := by decide +kernel
theorem dX6_init_64 : decode cX6_init 64 = .ok (.dup, 1) := by decide +kernel
theorem dX6_init_65 : decode cX6_init 65 = .ok (.aload_n 0, 1) := by decide +kernel
theorem dX6_init_66 : decode cX6_init 66 = .ok (.getfield 19, 3) := by decide +kernel
theorem dX6_init_69 : decode cX6_init 69 = .ok (.aload_n 0, 1) := by decide +kernel
theorem dX6_init_70 : decode cX6_init 70 = .ok (.getfield 26, 3) := by decide +kernel
theorem dX6_init_73 : decode cX6_init 73 = .ok (.aload_n 0, 1) := by decide +kernel
theorem dX6_init_74 : decode cX6_init 74 = .ok (.getfield 35, 3) := by decide +kernel
theorem dX6_init_77 : decode cX6_init 77 = .ok (.invokespecial 41, 3) := by decide +kernel
theorem dX6_init_80 : decode cX6_init 80 = .ok (.putfield 44, 3) := by decide +kernel
theorem dX6_init_83 : decode cX6_init 83 = .ok (.return_, 1) := by decide +kernel
theorem dX6_space_0 : decode cX6_space 0 = .ok (.iload_n 1, 1) := by decide +kernel
theorem dX6_space_1 : decode cX6_space 1 = .ok (.iconst 1, 1) := by decide +kernel
theorem dX6_space_2 : decode cX6_space 2 = .ok (.if_icmp .lt 21, 3) := by decide +kernel
theorem dX6_space_5 : decode cX6_space 5 = .ok (.iload_n 1, 1) := by decide +kernel
theorem dX6_space_6 : decode cX6_space 6 = .ok (.bipush 9, 2) := by decide +kernel
theorem dX6_space_8 : decode cX6_space 8 = .ok (.if_icmp .gt 15, 3) := by decide +kernel
theorem dX6_space_11 : decode cX6_space 11 = .ok (.aload_n 0, 1) := by decide +kernel
theorem dX6_space_12 : decode cX6_space 12 = .ok (.getfield 10, 3) := by decide +kernel
theorem dX6_space_15 : decode cX6_space 15 = .ok (.getfield 48, 3) := by decide +kernel
theorem dX6_space_18 : decode cX6_space 18 = .ok (.bipush 20, 2) := by decide +kernel
theorem dX6_space_20 : decode cX6_space 20 = .ok (.if_icmp .lt 5, 3) := by decide +kernel
theorem dX6_space_23 : decode cX6_space 23 = .ok (.iconst (-1), 1) := by decide +kernel
theorem dX6_space_24 : decode cX6_space 24 = .ok (.ireturn, 1) := by decide +kernel
theorem dX6_space_25 : decode cX6_space 25 = .ok (.aload_n 0, 1) := by decide +kernel
theorem dX6_space_26 : decode cX6_space 26 = .ok (.getfield 10, 3) := by decide +kernel
theorem dX6_space_29 : decode cX6_space 29 = .ok (.iload_n 1, 1) := by decide +kernel
theorem dX6_space_30 : decode cX6_space 30 = .ok (.invokevirtual 52, 3) := by decide +kernel
theorem dX6_space_33 : decode cX6_space 33 = .ok (.ireturn, 1) := by decide +kernel
theorem dX6_near_0 : decode cX6_near 0 = .ok (.aload_n 0, 1) := by decide +kernel
theorem dX6_near_1 : decode cX6_near 1 = .ok (.getfield 10, 3) := by decide +kernel
theorem dX6_near_4 : decode cX6_near 4 = .ok (.iload_n 1, 1) := by decide +kernel
theorem dX6_near_5 : decode cX6_near 5 = .ok (.invokevirtual 56, 3) := by decide +kernel
theorem dX6_near_8 : decode cX6_near 8 = .ok (.ifCond .eq 31, 3) := by decide +kernel
theorem dX6_near_11 : decode cX6_near 11 = .ok (.aload_n 0, 1) := by decide +kernel
theorem dX6_near_12 : decode cX6_near 12 = .ok (.getfield 10, 3) := by decide +kernel
theorem dX6_near_15 : decode cX6_near 15 = .ok (.iload_n 2, 1) := by decide +kernel
theorem dX6_near_16 : decode cX6_near 16 = .ok (.invokevirtual 56, 3) := by decide +kernel
theorem dX6_near_19 : decode cX6_near 19 = .ok (.ifCond .eq 20, 3) := by decide +kernel
theorem dX6_near_22 : decode cX6_near 22 = .ok (.iload_n 1, 1) := by decide +kernel
theorem dX6_near_23 : decode cX6_near 23 = .ok (.iload_n 2, 1) := by decide +kernel
theorem dX6_near_24 : decode cX6_near 24 = .ok (.if_icmp .eq 15, 3) := by decide +kernel
theorem dX6_near_27 : decode cX6_near 27 = .ok (.aload_n 0, 1) := by decide +kernel
theorem dX6_near_28 : decode cX6_near 28 = .ok (.getfield 10, 3) := by decide +kernel
theorem dX6_near_31 : decode cX6_near 31 = .ok (.iload_n 1, 1) := by decide +kernel
theorem dX6_near_32 : decode cX6_near 32 = .ok (.iload_n 2, 1) := by decide +kernel
theorem dX6_near_33 : decode cX6_near 33 = .ok (.invokevirtual 60, 3) := by decide +kernel
theorem dX6_near_36 : decode cX6_near 36 = .ok (.ifCond .eq 5, 3) := by decide +kernel
theorem dX6_near_39 : decode cX6_near 39 = .ok (.iconst 0, 1) := by decide +kernel
theorem dX6_near_40 : decode cX6_near 40 = .ok (.ireturn, 1) := by decide +kernel
theorem dX6_near_41 : decode cX6_near 41 = .ok (.aload_n 0, 1) := by decide +kernel
theorem dX6_near_42 : decode cX6_near 42 = .ok (.getfield 10, 3) := by decide +kernel
theorem dX6_near_45 : decode cX6_near 45 = .ok (.iload_n 1, 1) := by decide +kernel
theorem dX6_near_46 : decode cX6_near 46 = .ok (.iload_n 2, 1) := by decide +kernel
theorem dX6_near_47 : decode cX6_near 47 = .ok (.invokevirtual 64, 3) := by decide +kernel
theorem dX6_near_50 : decode cX6_near 50 = .ok (.aload_n 0, 1) := by decide +kernel
theorem dX6_near_51 : decode cX6_near 51 = .ok (.getfield 35, 3) := by decide +kernel
theorem dX6_near_54 : decode cX6_near 54 = .ok (.invokevirtual 68, 3) := by decide +kernel
theorem dX6_near_57 : decode cX6_near 57 = .ok (.iconst 1, 1) := by decide +kernel
theorem dX6_near_58 : decode cX6_near 58 = .ok (.ireturn, 1) := by decide +kernel
theorem dX6_gang_0 : decode cX6_gang 0 = .ok (.iload_n 1, 1) := by decide +kernel
theorem dX6_gang_1 : decode cX6_gang 1 = .ok (.invokestatic 71, 3) := by decide +kernel
theorem dX6_gang_4 : decode cX6_gang 4 = .ok (.ifCond .eq 13, 3) := by decide +kernel
theorem dX6_gang_7 : decode cX6_gang 7 = .ok (.iload_n 2, 1) := by decide +kernel
theorem dX6_gang_8 : decode cX6_gang 8 = .ok (.ifCond .lt 9, 3) := by decide +kernel
theorem dX6_gang_11 : decode cX6_gang 11 = .ok (.iload_n 2, 1) := by decide +kernel
theorem dX6_gang_12 : decode cX6_gang 12 = .ok (.bipush 99, 2) := by decide +kernel
theorem dX6_gang_14 : decode cX6_gang 14 = .ok (.if_icmp .le 5, 3) := by decide +kernel
theorem dX6_gang_17 : decode cX6_gang 17 = .ok (.iconst 0, 1) := by decide +kernel
theorem dX6_gang_18 : decode cX6_gang 18 = .ok (.ireturn, 1) := by decide +kernel
theorem dX6_gang_19 : decode cX6_gang 19 = .ok (.aload_n 0, 1) := by decide +kernel
theorem dX6_gang_20 : decode cX6_gang 20 = .ok (.getfield 35, 3) := by decide +kernel
theorem dX6_gang_23 : decode cX6_gang 23 = .ok (.getfield 74, 3) := by decide +kernel
theorem dX6_gang_26 : decode cX6_gang 26 = .ok (.iload_n 1, 1) := by decide +kernel
theorem dX6_gang_27 : decode cX6_gang 27 = .ok (.iload_n 2, 1) := by decide +kernel
theorem dX6_gang_28 : decode cX6_gang 28 = .ok (.iastore, 1) := by decide +kernel
theorem dX6_gang_29 : decode cX6_gang 29 = .ok (.iconst 1, 1) := by decide +kernel
theorem dX6_gang_30 : decode cX6_gang 30 = .ok (.ireturn, 1) := by decide +kernel
theorem dX6_good_0 : decode cX6_good 0 = .ok (.iload_n 1, 1) := by decide +kernel
theorem dX6_good_1 : decode cX6_good 1 = .ok (.invokestatic 78, 3) := by decide +kernel
theorem dX6_good_4 : decode cX6_good 4 = .ok (.ifCond .eq 13, 3) := by decide +kernel
theorem dX6_good_7 : decode cX6_good 7 = .ok (.iload_n 2, 1) := by decide +kernel
theorem dX6_good_8 : decode cX6_good 8 = .ok (.ifCond .lt 9, 3) := by decide +kernel
theorem dX6_good_11 : decode cX6_good 11 = .ok (.iload_n 2, 1) := by decide +kernel
theorem dX6_good_12 : decode cX6_good 12 = .ok (.bipush 9, 2) := by decide +kernel
theorem dX6_good_14 : decode cX6_good 14 = .ok (.if_icmp .le 5, 3) := by decide +kernel
theorem dX6_good_17 : decode cX6_good 17 = .ok (.iconst 0, 1) := by decide +kernel
theorem dX6_good_18 : decode cX6_good 18 = .ok (.ireturn, 1) := by decide +kernel
theorem dX6_good_19 : decode cX6_good 19 = .ok (.aload_n 0, 1) := by decide +kernel
theorem dX6_good_20 : decode cX6_good 20 = .ok (.getfield 35, 3) := by decide +kernel
theorem dX6_good_23 : decode cX6_good 23 = .ok (.getfield 81, 3) := by decide +kernel
theorem dX6_good_26 : decode cX6_good 26 = .ok (.iload_n 1, 1) := by decide +kernel
theorem dX6_good_27 : decode cX6_good 27 = .ok (.iload_n 2, 1) := by decide +kernel
theorem dX6_good_28 : decode cX6_good 28 = .ok (.iastore, 1) := by decide +kernel
theorem dX6_good_29 : decode cX6_good 29 = .ok (.iconst 1, 1) := by decide +kernel
theorem dX6_good_30 : decode cX6_good 30 = .ok (.ireturn, 1) := by decide +kernel
theorem dX6_bar_0 : decode cX6_bar 0 = .ok (.iload_n 1, 1) := by decide +kernel
theorem dX6_bar_1 : decode cX6_bar 1 = .ok (.invokestatic 84, 3) := by decide +kernel
theorem dX6_bar_4 : decode cX6_bar 4 = .ok (.ifCond .eq 32, 3) := by decide +kernel
theorem dX6_bar_7 : decode cX6_bar 7 = .ok (.iload_n 2, 1) := by decide +kernel
theorem dX6_bar_8 : decode cX6_bar 8 = .ok (.invokestatic 84, 3) := by decide +kernel
theorem dX6_bar_11 : decode cX6_bar 11 = .ok (.ifCond .eq 25, 3) := by decide +kernel
theorem dX6_bar_14 : decode cX6_bar 14 = .ok (.iload_n 3, 1) := by decide +kernel
theorem dX6_bar_15 : decode cX6_bar 15 = .ok (.ifCond .lt 21, 3) := by decide +kernel
theorem dX6_bar_18 : decode cX6_bar 18 = .ok (.iload_n 3, 1) := by decide +kernel
theorem dX6_bar_19 : decode cX6_bar 19 = .ok (.iconst 3, 1) := by decide +kernel
theorem dX6_bar_20 : decode cX6_bar 20 = .ok (.if_icmp .ge 16, 3) := by decide +kernel
theorem dX6_bar_23 : decode cX6_bar 23 = .ok (.aload_n 0, 1) := by decide +kernel
theorem dX6_bar_24 : decode cX6_bar 24 = .ok (.getfield 10, 3) := by decide +kernel
theorem dX6_bar_27 : decode cX6_bar 27 = .ok (.iload_n 1, 1) := by decide +kernel
theorem dX6_bar_28 : decode cX6_bar 28 = .ok (.iload_n 2, 1) := by decide +kernel
theorem dX6_bar_29 : decode cX6_bar 29 = .ok (.iload_n 3, 1) := by decide +kernel
theorem dX6_bar_30 : decode cX6_bar 30 = .ok (.invokevirtual 87, 3) := by decide +kernel
theorem dX6_bar_33 : decode cX6_bar 33 = .ok (.ifCond .eq 5, 3) := by decide +kernel
theorem dX6_bar_36 : decode cX6_bar 36 = .ok (.iconst 0, 1) := by decide +kernel
theorem dX6_bar_37 : decode cX6_bar 37 = .ok (.ireturn, 1) := by decide +kernel
theorem dX6_bar_38 : decode cX6_bar 38 = .ok (.aload_n 0, 1) := by decide +kernel
theorem dX6_bar_39 : decode cX6_bar 39 = .ok (.getfield 10, 3) := by decide +kernel
theorem dX6_bar_42 : decode cX6_bar 42 = .ok (.iload_n 1, 1) := by decide +kernel
theorem dX6_bar_43 : decode cX6_bar 43 = .ok (.iload_n 2, 1) := by decide +kernel
theorem dX6_bar_44 : decode cX6_bar 44 = .ok (.iload_n 3, 1) := by decide +kernel
theorem dX6_bar_45 : decode cX6_bar 45 = .ok (.invokevirtual 91, 3) := by decide +kernel
theorem dX6_bar_48 : decode cX6_bar 48 = .ok (.aload_n 0, 1) := by decide +kernel
theorem dX6_bar_49 : decode cX6_bar 49 = .ok (.getfield 35, 3) := by decide +kernel
theorem dX6_bar_52 : decode cX6_bar 52 = .ok (.invokevirtual 68, 3) := by decide +kernel
theorem dX6_bar_55 : decode cX6_bar 55 = .ok (.iconst 1, 1) := by decide +kernel
theorem dX6_bar_56 : decode cX6_bar 56 = .ok (.ireturn, 1) := by decide +kernel
theorem dX6_work_0 : decode cX6_work 0 = .ok (.iload_n 1, 1) := by decide +kernel
theorem dX6_work_1 : decode cX6_work 1 = .ok (.ifCond .lt 27, 3) := by decide +kernel
theorem dX6_work_4 : decode cX6_work 4 = .ok (.aload_n 0, 1) := by decide +kernel
theorem dX6_work_5 : decode cX6_work 5 = .ok (.getfield 19, 3) := by decide +kernel
theorem dX6_work_8 : decode cX6_work 8 = .ok (.getfield 95, 3) := by decide +kernel
theorem dX6_work_11 : decode cX6_work 11 = .ok (.bipush 40, 2) := by decide +kernel
theorem dX6_work_13 : decode cX6_work 13 = .ok (.if_icmp .ge 15, 3) := by decide +kernel
theorem dX6_work_16 : decode cX6_work 16 = .ok (.iload_n 2, 1) := by decide +kernel
theorem dX6_work_17 : decode cX6_work 17 = .ok (.iconst (-1), 1) := by decide +kernel
theorem dX6_work_18 : decode cX6_work 18 = .ok (.if_icmp .eq 12, 3) := by decide +kernel
theorem dX6_work_21 : decode cX6_work 21 = .ok (.iload_n 2, 1) := by decide +kernel
theorem dX6_work_22 : decode cX6_work 22 = .ok (.invokestatic 78, 3) := by decide +kernel
theorem dX6_work_25 : decode cX6_work 25 = .ok (.ifCond .ne 5, 3) := by decide +kernel
theorem dX6_work_28 : decode cX6_work 28 = .ok (.iconst (-1), 1) := by decide +kernel
theorem dX6_work_29 : decode cX6_work 29 = .ok (.ireturn, 1) := by decide +kernel
theorem dX6_work_30 : decode cX6_work 30 = .ok (.new 98, 3) := by decide +kernel
theorem dX6_work_33 : decode cX6_work 33 = .ok (.dup, 1) := by decide +kernel
theorem dX6_work_34 : decode cX6_work 34 = .ok (.aload_n 0, 1) := by decide +kernel
theorem dX6_work_35 : decode cX6_work 35 = .ok (.getfield 19, 3) := by decide +kernel
theorem dX6_work_38 : decode cX6_work 38 = .ok (.getfield 95, 3) := by decide +kernel
theorem dX6_work_41 : decode cX6_work 41 = .ok (.iload_n 1, 1) := by decide +kernel
theorem dX6_work_42 : decode cX6_work 42 = .ok (.iload_n 2, 1) := by decide +kernel
theorem dX6_work_43 : decode cX6_work 43 = .ok (.invokespecial 100, 3) := by decide +kernel
theorem dX6_work_46 : decode cX6_work 46 = .ok (.astore_n 3, 1) := by decide +kernel
theorem dX6_work_47 : decode cX6_work 47 = .ok (.aload_n 0, 1) := by decide +kernel
theorem dX6_work_48 : decode cX6_work 48 = .ok (.aload_n 3, 1) := by decide +kernel
theorem dX6_work_49 : decode cX6_work 49 = .ok (.invokevirtual 102, 3) := by decide +kernel
theorem dX6_work_52 : decode cX6_work 52 = .ok (.ifCond .ne 5, 3) := by decide +kernel
theorem dX6_work_55 : decode cX6_work 55 = .ok (.iconst (-1), 1) := by decide +kernel
theorem dX6_work_56 : decode cX6_work 56 = .ok (.ireturn, 1) := by decide +kernel
theorem dX6_work_57 : decode cX6_work 57 = .ok (.aload_n 0, 1) := by decide +kernel
theorem dX6_work_58 : decode cX6_work 58 = .ok (.getfield 19, 3) := by decide +kernel
theorem dX6_work_61 : decode cX6_work 61 = .ok (.aload_n 3, 1) := by decide +kernel
theorem dX6_work_62 : decode cX6_work 62 = .ok (.invokevirtual 106, 3) := by decide +kernel
theorem dX6_work_65 : decode cX6_work 65 = .ok (.aload_n 0, 1) := by decide +kernel
theorem dX6_work_66 : decode cX6_work 66 = .ok (.getfield 35, 3) := by decide +kernel
theorem dX6_work_69 : decode cX6_work 69 = .ok (.invokevirtual 68, 3) := by decide +kernel
theorem dX6_work_72 : decode cX6_work 72 = .ok (.aload_n 3, 1) := by decide +kernel
theorem dX6_work_73 : decode cX6_work 73 = .ok (.getfield 110, 3) := by decide +kernel
theorem dX6_work_76 : decode cX6_work 76 = .ok (.ireturn, 1) := by decide +kernel
theorem dX6_need_0 : decode cX6_need 0 = .ok (.aload_n 0, 1) := by decide +kernel
theorem dX6_need_1 : decode cX6_need 1 = .ok (.getfield 19, 3) := by decide +kernel
theorem dX6_need_4 : decode cX6_need 4 = .ok (.iload_n 1, 1) := by decide +kernel
theorem dX6_need_5 : decode cX6_need 5 = .ok (.invokevirtual 113, 3) := by decide +kernel
theorem dX6_need_8 : decode cX6_need 8 = .ok (.astore_n 3, 1) := by decide +kernel
theorem dX6_need_9 : decode cX6_need 9 = .ok (.aload_n 0, 1) := by decide +kernel
theorem dX6_need_10 : decode cX6_need 10 = .ok (.getfield 19, 3) := by decide +kernel
theorem dX6_need_13 : decode cX6_need 13 = .ok (.iload_n 2, 1) := by decide +kernel
theorem dX6_need_14 : decode cX6_need 14 = .ok (.invokevirtual 113, 3) := by decide +kernel
theorem dX6_need_17 : decode cX6_need 17 = .ok (.astore 4, 2) := by decide +kernel
theorem dX6_need_19 : decode cX6_need 19 = .ok (.aload_n 3, 1) := by decide +kernel
theorem dX6_need_20 : decode cX6_need 20 = .ok (.ifnull 27, 3) := by decide +kernel
theorem dX6_need_23 : decode cX6_need 23 = .ok (.aload 4, 2) := by decide +kernel
theorem dX6_need_25 : decode cX6_need 25 = .ok (.ifnull 22, 3) := by decide +kernel
theorem dX6_need_28 : decode cX6_need 28 = .ok (.aload_n 0, 1) := by decide +kernel
theorem dX6_need_29 : decode cX6_need 29 = .ok (.aload_n 3, 1) := by decide +kernel
theorem dX6_need_30 : decode cX6_need 30 = .ok (.aload 4, 2) := by decide +kernel
theorem dX6_need_32 : decode cX6_need 32 = .ok (.invokevirtual 117, 3) := by decide +kernel
theorem dX6_need_35 : decode cX6_need 35 = .ok (.ifCond .eq 12, 3) := by decide +kernel
theorem dX6_need_38 : decode cX6_need 38 = .ok (.aload_n 3, 1) := by decide +kernel
theorem dX6_need_39 : decode cX6_need 39 = .ok (.aload 4, 2) := by decide +kernel
theorem dX6_need_41 : decode cX6_need 41 = .ok (.invokevirtual 121, 3) := by decide +kernel
theorem dX6_need_44 : decode cX6_need 44 = .ok (.ifCond .eq 5, 3) := by decide +kernel
theorem dX6_need_47 : decode cX6_need 47 = .ok (.iconst 0, 1) := by decide +kernel
theorem dX6_need_48 : decode cX6_need 48 = .ok (.ireturn, 1) := by decide +kernel
theorem dX6_need_49 : decode cX6_need 49 = .ok (.aload_n 0, 1) := by decide +kernel
theorem dX6_need_50 : decode cX6_need 50 = .ok (.getfield 19, 3) := by decide +kernel
theorem dX6_need_53 : decode cX6_need 53 = .ok (.aload_n 3, 1) := by decide +kernel
theorem dX6_need_54 : decode cX6_need 54 = .ok (.aload 4, 2) := by decide +kernel
theorem dX6_need_56 : decode cX6_need 56 = .ok (.invokevirtual 124, 3) := by decide +kernel
theorem dX6_need_59 : decode cX6_need 59 = .ok (.iconst 1, 1) := by decide +kernel
theorem dX6_need_60 : decode cX6_need 60 = .ok (.ireturn, 1) := by decide +kernel
theorem dX6_tells_0 : decode cX6_tells 0 = .ok (.aload_n 0, 1) := by decide +kernel
theorem dX6_tells_1 : decode cX6_tells 1 = .ok (.getfield 19, 3) := by decide +kernel
theorem dX6_tells_4 : decode cX6_tells 4 = .ok (.iload_n 1, 1) := by decide +kernel
theorem dX6_tells_5 : decode cX6_tells 5 = .ok (.invokevirtual 113, 3) := by decide +kernel
theorem dX6_tells_8 : decode cX6_tells 8 = .ok (.astore_n 3, 1) := by decide +kernel
theorem dX6_tells_9 : decode cX6_tells 9 = .ok (.aload_n 0, 1) := by decide +kernel
theorem dX6_tells_10 : decode cX6_tells 10 = .ok (.getfield 19, 3) := by decide +kernel
theorem dX6_tells_13 : decode cX6_tells 13 = .ok (.iload_n 2, 1) := by decide +kernel
theorem dX6_tells_14 : decode cX6_tells 14 = .ok (.invokevirtual 113, 3) := by decide +kernel
theorem dX6_tells_17 : decode cX6_tells 17 = .ok (.astore 4, 2) := by decide +kernel
theorem dX6_tells_19 : decode cX6_tells 19 = .ok (.aload_n 3, 1) := by decide +kernel
theorem dX6_tells_20 : decode cX6_tells 20 = .ok (.ifnull 26, 3) := by decide +kernel
theorem dX6_tells_23 : decode cX6_tells 23 = .ok (.aload 4, 2) := by decide +kernel
theorem dX6_tells_25 : decode cX6_tells 25 = .ok (.ifnull 21, 3) := by decide +kernel
theorem dX6_tells_28 : decode cX6_tells 28 = .ok (.aload_n 3, 1) := by decide +kernel
theorem dX6_tells_29 : decode cX6_tells 29 = .ok (.getfield 128, 3) := by decide +kernel
theorem dX6_tells_32 : decode cX6_tells 32 = .ok (.iconst 4, 1) := by decide +kernel
theorem dX6_tells_33 : decode cX6_tells 33 = .ok (.if_icmp .ne 13, 3) := by decide +kernel
theorem dX6_tells_36 : decode cX6_tells 36 = .ok (.aload_n 0, 1) := by decide +kernel
theorem dX6_tells_37 : decode cX6_tells 37 = .ok (.aload_n 3, 1) := by decide +kernel
theorem dX6_tells_38 : decode cX6_tells 38 = .ok (.aload 4, 2) := by decide +kernel
theorem dX6_tells_40 : decode cX6_tells 40 = .ok (.invokevirtual 117, 3) := by decide +kernel
theorem dX6_tells_43 : decode cX6_tells 43 = .ok (.ifCond .ne 5, 3) := by decide +kernel
theorem dX6_tells_46 : decode cX6_tells 46 = .ok (.iconst 0, 1) := by decide +kernel
theorem dX6_tells_47 : decode cX6_tells 47 = .ok (.ireturn, 1) := by decide +kernel
theorem dX6_tells_48 : decode cX6_tells 48 = .ok (.aload_n 3, 1) := by decide +kernel
theorem dX6_tells_49 : decode cX6_tells 49 = .ok (.getfield 131, 3) := by decide +kernel
theorem dX6_tells_52 : decode cX6_tells 52 = .ok (.aload 4, 2) := by decide +kernel
theorem dX6_tells_54 : decode cX6_tells 54 = .ok (.getfield 135, 3) := by decide +kernel
theorem dX6_tells_57 : decode cX6_tells 57 = .ok (.land, 1) := by decide +kernel
theorem dX6_tells_58 : decode cX6_tells 58 = .ok (.lconst 0, 1) := by decide +kernel
theorem dX6_tells_59 : decode cX6_tells 59 = .ok (.lcmp, 1) := by decide +kernel
theorem dX6_tells_60 : decode cX6_tells 60 = .ok (.ifCond .eq 5, 3) := by decide +kernel
theorem dX6_tells_63 : decode cX6_tells 63 = .ok (.iconst 0, 1) := by decide +kernel
theorem dX6_tells_64 : decode cX6_tells 64 = .ok (.ireturn, 1) := by decide +kernel
theorem dX6_tells_65 : decode cX6_tells 65 = .ok (.aload_n 3, 1) := by decide +kernel
theorem dX6_tells_66 : decode cX6_tells 66 = .ok (.dup, 1) := by decide +kernel
theorem dX6_tells_67 : decode cX6_tells 67 = .ok (.getfield 131, 3) := by decide +kernel
theorem dX6_tells_70 : decode cX6_tells 70 = .ok (.aload 4, 2) := by decide +kernel
theorem dX6_tells_72 : decode cX6_tells 72 = .ok (.getfield 135, 3) := by decide +kernel
theorem dX6_tells_75 : decode cX6_tells 75 = .ok (.lor, 1) := by decide +kernel
theorem dX6_tells_76 : decode cX6_tells 76 = .ok (.putfield 131, 3) := by decide +kernel
theorem dX6_tells_79 : decode cX6_tells 79 = .ok (.aload_n 0, 1) := by decide +kernel
theorem dX6_tells_80 : decode cX6_tells 80 = .ok (.getfield 19, 3) := by decide +kernel
theorem dX6_tells_83 : decode cX6_tells 83 = .ok (.aload_n 3, 1) := by decide +kernel
theorem dX6_tells_84 : decode cX6_tells 84 = .ok (.aload 4, 2) := by decide +kernel
theorem dX6_tells_86 : decode cX6_tells 86 = .ok (.invokevirtual 124, 3) := by decide +kernel
theorem dX6_tells_89 : decode cX6_tells 89 = .ok (.iconst 1, 1) := by decide +kernel
theorem dX6_tells_90 : decode cX6_tells 90 = .ok (.ireturn, 1) := by decide +kernel
theorem dX6_put_0 : decode cX6_put 0 = .ok (.aload_n 0, 1) := by decide +kernel
theorem dX6_put_1 : decode cX6_put 1 = .ok (.getfield 19, 3) := by decide +kernel
theorem dX6_put_4 : decode cX6_put 4 = .ok (.iload_n 1, 1) := by decide +kernel
theorem dX6_put_5 : decode cX6_put 5 = .ok (.invokevirtual 113, 3) := by decide +kernel
theorem dX6_put_8 : decode cX6_put 8 = .ok (.astore_n 3, 1) := by decide +kernel
theorem dX6_put_9 : decode cX6_put 9 = .ok (.aload_n 3, 1) := by decide +kernel
theorem dX6_put_10 : decode cX6_put 10 = .ok (.ifnull 40, 3) := by decide +kernel
theorem dX6_put_13 : decode cX6_put 13 = .ok (.aload_n 3, 1) := by decide +kernel
theorem dX6_put_14 : decode cX6_put 14 = .ok (.aload_n 0, 1) := by decide +kernel
theorem dX6_put_15 : decode cX6_put 15 = .ok (.getfield 26, 3) := by decide +kernel
theorem dX6_put_18 : decode cX6_put 18 = .ok (.getfield 138, 3) := by decide +kernel
theorem dX6_put_21 : decode cX6_put 21 = .ok (.invokevirtual 141, 3) := by decide +kernel
theorem dX6_put_24 : decode cX6_put 24 = .ok (.ifCond .ne 26, 3) := by decide +kernel
theorem dX6_put_27 : decode cX6_put 27 = .ok (.iload_n 2, 1) := by decide +kernel
theorem dX6_put_28 : decode cX6_put 28 = .ok (.aload_n 0, 1) := by decide +kernel
theorem dX6_put_29 : decode cX6_put 29 = .ok (.getfield 26, 3) := by decide +kernel
theorem dX6_put_32 : decode cX6_put 32 = .ok (.getfield 138, 3) := by decide +kernel
theorem dX6_put_35 : decode cX6_put 35 = .ok (.if_icmp .lt 15, 3) := by decide +kernel
theorem dX6_put_38 : decode cX6_put 38 = .ok (.iload_n 2, 1) := by decide +kernel
theorem dX6_put_39 : decode cX6_put 39 = .ok (.sipush 400, 3) := by decide +kernel
theorem dX6_put_42 : decode cX6_put 42 = .ok (.aload_n 3, 1) := by decide +kernel
theorem dX6_put_43 : decode cX6_put 43 = .ok (.getfield 144, 3) := by decide +kernel
theorem dX6_put_46 : decode cX6_put 46 = .ok (.isub, 1) := by decide +kernel
theorem dX6_put_47 : decode cX6_put 47 = .ok (.if_icmp .le 5, 3) := by decide +kernel
theorem dX6_put_50 : decode cX6_put 50 = .ok (.iconst 0, 1) := by decide +kernel
theorem dX6_put_51 : decode cX6_put 51 = .ok (.ireturn, 1) := by decide +kernel
theorem dX6_put_52 : decode cX6_put 52 = .ok (.aload_n 0, 1) := by decide +kernel
theorem dX6_put_53 : decode cX6_put 53 = .ok (.getfield 26, 3) := by decide +kernel
theorem dX6_put_56 : decode cX6_put 56 = .ok (.aload_n 3, 1) := by decide +kernel
theorem dX6_put_57 : decode cX6_put 57 = .ok (.invokevirtual 147, 3) := by decide +kernel
theorem dX6_put_60 : decode cX6_put 60 = .ok (.aload_n 0, 1) := by decide +kernel
theorem dX6_put_61 : decode cX6_put 61 = .ok (.getfield 26, 3) := by decide +kernel
theorem dX6_put_64 : decode cX6_put 64 = .ok (.aload_n 3, 1) := by decide +kernel
theorem dX6_put_65 : decode cX6_put 65 = .ok (.iload_n 2, 1) := by decide +kernel
theorem dX6_put_66 : decode cX6_put 66 = .ok (.invokevirtual 150, 3) := by decide +kernel
theorem dX6_put_69 : decode cX6_put 69 = .ok (.iconst 1, 1) := by decide +kernel
theorem dX6_put_70 : decode cX6_put 70 = .ok (.ireturn, 1) := by decide +kernel
theorem dX6_take_0 : decode cX6_take 0 = .ok (.aload_n 0, 1) := by decide +kernel
theorem dX6_take_1 : decode cX6_take 1 = .ok (.getfield 19, 3) := by decide +kernel
theorem dX6_take_4 : decode cX6_take 4 = .ok (.iload_n 1, 1) := by decide +kernel
theorem dX6_take_5 : decode cX6_take 5 = .ok (.invokevirtual 113, 3) := by decide +kernel
theorem dX6_take_8 : decode cX6_take 8 = .ok (.astore_n 2, 1) := by decide +kernel
theorem dX6_take_9 : decode cX6_take 9 = .ok (.aload_n 2, 1) := by decide +kernel
theorem dX6_take_10 : decode cX6_take 10 = .ok (.ifnull 24, 3) := by decide +kernel
theorem dX6_take_13 : decode cX6_take 13 = .ok (.aload_n 2, 1) := by decide +kernel
theorem dX6_take_14 : decode cX6_take 14 = .ok (.invokevirtual 154, 3) := by decide +kernel
theorem dX6_take_17 : decode cX6_take 17 = .ok (.ifCond .ne 17, 3) := by decide +kernel
theorem dX6_take_20 : decode cX6_take 20 = .ok (.aload_n 2, 1) := by decide +kernel
theorem dX6_take_21 : decode cX6_take 21 = .ok (.aload_n 0, 1) := by decide +kernel
theorem dX6_take_22 : decode cX6_take 22 = .ok (.getfield 26, 3) := by decide +kernel
theorem dX6_take_25 : decode cX6_take 25 = .ok (.getfield 138, 3) := by decide +kernel
theorem dX6_take_28 : decode cX6_take 28 = .ok (.invokevirtual 141, 3) := by decide +kernel
theorem dX6_take_31 : decode cX6_take 31 = .ok (.ifCond .eq 5, 3) := by decide +kernel
theorem dX6_take_34 : decode cX6_take 34 = .ok (.iconst 0, 1) := by decide +kernel
theorem dX6_take_35 : decode cX6_take 35 = .ok (.ireturn, 1) := by decide +kernel
theorem dX6_take_36 : decode cX6_take 36 = .ok (.aload_n 0, 1) := by decide +kernel
theorem dX6_take_37 : decode cX6_take 37 = .ok (.getfield 26, 3) := by decide +kernel
theorem dX6_take_40 : decode cX6_take 40 = .ok (.aload_n 2, 1) := by decide +kernel
theorem dX6_take_41 : decode cX6_take 41 = .ok (.invokevirtual 147, 3) := by decide +kernel
theorem dX6_take_44 : decode cX6_take 44 = .ok (.iconst 1, 1) := by decide +kernel
theorem dX6_take_45 : decode cX6_take 45 = .ok (.ireturn, 1) := by decide +kernel
theorem dX6_may_0 : decode cX6_may 0 = .ok (.iload_n 2, 1) := by decide +kernel
theorem dX6_may_1 : decode cX6_may 1 = .ok (.ifCond .lt 17, 3) := by decide +kernel
theorem dX6_may_4 : decode cX6_may 4 = .ok (.aload_n 0, 1) := by decide +kernel
theorem dX6_may_5 : decode cX6_may 5 = .ok (.iload_n 1, 1) := by decide +kernel
theorem dX6_may_6 : decode cX6_may 6 = .ok (.iload_n 2, 1) := by decide +kernel
theorem dX6_may_7 : decode cX6_may 7 = .ok (.invokevirtual 158, 3) := by decide +kernel
theorem dX6_may_10 : decode cX6_may 10 = .ok (.iload_n 2, 1) := by decide +kernel
theorem dX6_may_11 : decode cX6_may 11 = .ok (.if_icmp .ne 7, 3) := by decide +kernel
theorem dX6_may_14 : decode cX6_may 14 = .ok (.iconst 1, 1) := by decide +kernel
theorem dX6_may_15 : decode cX6_may 15 = .ok (.goto 4, 3) := by decide +kernel
theorem dX6_may_18 : decode cX6_may 18 = .ok (.iconst 0, 1) := by decide +kernel
theorem dX6_may_19 : decode cX6_may 19 = .ok (.ireturn, 1) := by decide +kernel
theorem dX6_first_0 : decode cX6_first 0 = .ok (.aload_n 0, 1) := by decide +kernel
theorem dX6_first_1 : decode cX6_first 1 = .ok (.getfield 19, 3) := by decide +kernel
theorem dX6_first_4 : decode cX6_first 4 = .ok (.iload_n 1, 1) := by decide +kernel
theorem dX6_first_5 : decode cX6_first 5 = .ok (.invokevirtual 113, 3) := by decide +kernel
theorem dX6_first_8 : decode cX6_first 8 = .ok (.astore_n 3, 1) := by decide +kernel
theorem dX6_first_9 : decode cX6_first 9 = .ok (.aload_n 3, 1) := by decide +kernel
theorem dX6_first_10 : decode cX6_first 10 = .ok (.ifnull 17, 3) := by decide +kernel
theorem dX6_first_13 : decode cX6_first 13 = .ok (.aload_n 3, 1) := by decide +kernel
theorem dX6_first_14 : decode cX6_first 14 = .ok (.aload_n 0, 1) := by decide +kernel
theorem dX6_first_15 : decode cX6_first 15 = .ok (.getfield 26, 3) := by decide +kernel
theorem dX6_first_18 : decode cX6_first 18 = .ok (.getfield 138, 3) := by decide +kernel
theorem dX6_first_21 : decode cX6_first 21 = .ok (.invokevirtual 141, 3) := by decide +kernel
theorem dX6_first_24 : decode cX6_first 24 = .ok (.ifCond .eq 5, 3) := by decide +kernel
theorem dX6_first_27 : decode cX6_first 27 = .ok (.iconst (-1), 1) := by decide +kernel
theorem dX6_first_28 : decode cX6_first 28 = .ok (.ireturn, 1) := by decide +kernel
theorem dX6_first_29 : decode cX6_first 29 = .ok (.aload_n 0, 1) := by decide +kernel
theorem dX6_first_30 : decode cX6_first 30 = .ok (.getfield 35, 3) := by decide +kernel
theorem dX6_first_33 : decode cX6_first 33 = .ok (.aload_n 3, 1) := by decide +kernel
theorem dX6_first_34 : decode cX6_first 34 = .ok (.iload_n 2, 1) := by decide +kernel
theorem dX6_first_35 : decode cX6_first 35 = .ok (.invokevirtual 162, 3) := by decide +kernel
theorem dX6_first_38 : decode cX6_first 38 = .ok (.ireturn, 1) := by decide +kernel
theorem dX6_why_0 : decode cX6_why 0 = .ok (.iconst 0, 1) := by decide +kernel
theorem dX6_why_1 : decode cX6_why 1 = .ok (.istore_n 2, 1) := by decide +kernel
theorem dX6_why_2 : decode cX6_why 2 = .ok (.iload_n 2, 1) := by decide +kernel
theorem dX6_why_3 : decode cX6_why 3 = .ok (.aload_n 0, 1) := by decide +kernel
theorem dX6_why_4 : decode cX6_why 4 = .ok (.getfield 19, 3) := by decide +kernel
theorem dX6_why_7 : decode cX6_why 7 = .ok (.getfield 95, 3) := by decide +kernel
theorem dX6_why_10 : decode cX6_why 10 = .ok (.if_icmp .ge 44, 3) := by decide +kernel
theorem dX6_why_13 : decode cX6_why 13 = .ok (.aload_n 0, 1) := by decide +kernel
theorem dX6_why_14 : decode cX6_why 14 = .ok (.getfield 19, 3) := by decide +kernel
theorem dX6_why_17 : decode cX6_why 17 = .ok (.getfield 166, 3) := by decide +kernel
theorem dX6_why_20 : decode cX6_why 20 = .ok (.iload_n 2, 1) := by decide +kernel
theorem dX6_why_21 : decode cX6_why 21 = .ok (.aaload, 1) := by decide +kernel
theorem dX6_why_22 : decode cX6_why 22 = .ok (.astore_n 3, 1) := by decide +kernel
theorem dX6_why_23 : decode cX6_why 23 = .ok (.aload_n 0, 1) := by decide +kernel
theorem dX6_why_24 : decode cX6_why 24 = .ok (.getfield 35, 3) := by decide +kernel
theorem dX6_why_27 : decode cX6_why 27 = .ok (.aload_n 3, 1) := by decide +kernel
theorem dX6_why_28 : decode cX6_why 28 = .ok (.invokevirtual 170, 3) := by decide +kernel
theorem dX6_why_31 : decode cX6_why 31 = .ok (.istore 4, 2) := by decide +kernel
theorem dX6_why_33 : decode cX6_why 33 = .ok (.iload 4, 2) := by decide +kernel
theorem dX6_why_35 : decode cX6_why 35 = .ok (.iconst (-1), 1) := by decide +kernel
theorem dX6_why_36 : decode cX6_why 36 = .ok (.if_icmp .eq 12, 3) := by decide +kernel
theorem dX6_why_39 : decode cX6_why 39 = .ok (.aload_n 0, 1) := by decide +kernel
theorem dX6_why_40 : decode cX6_why 40 = .ok (.aload_n 3, 1) := by decide +kernel
theorem dX6_why_41 : decode cX6_why 41 = .ok (.iload 4, 2) := by decide +kernel
theorem dX6_why_43 : decode cX6_why 43 = .ok (.iload_n 1, 1) := by decide +kernel
theorem dX6_why_44 : decode cX6_why 44 = .ok (.invokevirtual 174, 3) := by decide +kernel
theorem dX6_why_47 : decode cX6_why 47 = .ok (.ireturn, 1) := by decide +kernel
theorem dX6_why_48 : decode cX6_why 48 = .ok (.iinc 2 1, 3) := by decide +kernel
theorem dX6_why_51 : decode cX6_why 51 = .ok (.goto (-49), 3) := by decide +kernel
theorem dX6_why_54 : decode cX6_why 54 = .ok (.iconst (-1), 1) := by decide +kernel
theorem dX6_why_55 : decode cX6_why 55 = .ok (.ireturn, 1) := by decide +kernel
theorem dX6_told_0 : decode cX6_told 0 = .ok (.aload_n 0, 1) := by decide +kernel
theorem dX6_told_1 : decode cX6_told 1 = .ok (.getfield 19, 3) := by decide +kernel
theorem dX6_told_4 : decode cX6_told 4 = .ok (.iload_n 1, 1) := by decide +kernel
theorem dX6_told_5 : decode cX6_told 5 = .ok (.invokevirtual 113, 3) := by decide +kernel
theorem dX6_told_8 : decode cX6_told 8 = .ok (.astore_n 3, 1) := by decide +kernel
theorem dX6_told_9 : decode cX6_told 9 = .ok (.aload_n 3, 1) := by decide +kernel
theorem dX6_told_10 : decode cX6_told 10 = .ok (.ifnonnull 5, 3) := by decide +kernel
theorem dX6_told_13 : decode cX6_told 13 = .ok (.iconst (-1), 1) := by decide +kernel
theorem dX6_told_14 : decode cX6_told 14 = .ok (.ireturn, 1) := by decide +kernel
theorem dX6_told_15 : decode cX6_told 15 = .ok (.iload_n 2, 1) := by decide +kernel
theorem dX6_told_16 : decode cX6_told 16 = .ok (.tableswitch 141 0 12 #[68, 73, 78, 83, 88, 93, 98, 104, 109, 114, 119, 128, 136], 68) := by decide +kernel
theorem dX6_told_84 : decode cX6_told 84 = .ok (.aload_n 3, 1) := by decide +kernel
theorem dX6_told_85 : decode cX6_told 85 = .ok (.getfield 144, 3) := by decide +kernel
theorem dX6_told_88 : decode cX6_told 88 = .ok (.ireturn, 1) := by decide +kernel
theorem dX6_told_89 : decode cX6_told 89 = .ok (.aload_n 3, 1) := by decide +kernel
theorem dX6_told_90 : decode cX6_told 90 = .ok (.getfield 178, 3) := by decide +kernel
theorem dX6_told_93 : decode cX6_told 93 = .ok (.ireturn, 1) := by decide +kernel
theorem dX6_told_94 : decode cX6_told 94 = .ok (.aload_n 3, 1) := by decide +kernel
theorem dX6_told_95 : decode cX6_told 95 = .ok (.getfield 181, 3) := by decide +kernel
theorem dX6_told_98 : decode cX6_told 98 = .ok (.ireturn, 1) := by decide +kernel
theorem dX6_told_99 : decode cX6_told 99 = .ok (.aload_n 3, 1) := by decide +kernel
theorem dX6_told_100 : decode cX6_told 100 = .ok (.getfield 184, 3) := by decide +kernel
theorem dX6_told_103 : decode cX6_told 103 = .ok (.ireturn, 1) := by decide +kernel
theorem dX6_told_104 : decode cX6_told 104 = .ok (.aload_n 3, 1) := by decide +kernel
theorem dX6_told_105 : decode cX6_told 105 = .ok (.getfield 128, 3) := by decide +kernel
theorem dX6_told_108 : decode cX6_told 108 = .ok (.ireturn, 1) := by decide +kernel
theorem dX6_told_109 : decode cX6_told 109 = .ok (.aload_n 3, 1) := by decide +kernel
theorem dX6_told_110 : decode cX6_told 110 = .ok (.getfield 187, 3) := by decide +kernel
theorem dX6_told_113 : decode cX6_told 113 = .ok (.ireturn, 1) := by decide +kernel
theorem dX6_told_114 : decode cX6_told 114 = .ok (.aload_n 0, 1) := by decide +kernel
theorem dX6_told_115 : decode cX6_told 115 = .ok (.aload_n 3, 1) := by decide +kernel
theorem dX6_told_116 : decode cX6_told 116 = .ok (.invokevirtual 190, 3) := by decide +kernel
theorem dX6_told_119 : decode cX6_told 119 = .ok (.ireturn, 1) := by decide +kernel
theorem dX6_told_120 : decode cX6_told 120 = .ok (.aload_n 3, 1) := by decide +kernel
theorem dX6_told_121 : decode cX6_told 121 = .ok (.getfield 193, 3) := by decide +kernel
theorem dX6_told_124 : decode cX6_told 124 = .ok (.ireturn, 1) := by decide +kernel
theorem dX6_told_125 : decode cX6_told 125 = .ok (.aload_n 3, 1) := by decide +kernel
theorem dX6_told_126 : decode cX6_told 126 = .ok (.getfield 196, 3) := by decide +kernel
theorem dX6_told_129 : decode cX6_told 129 = .ok (.ireturn, 1) := by decide +kernel
theorem dX6_told_130 : decode cX6_told 130 = .ok (.aload_n 3, 1) := by decide +kernel
theorem dX6_told_131 : decode cX6_told 131 = .ok (.getfield 199, 3) := by decide +kernel
theorem dX6_told_134 : decode cX6_told 134 = .ok (.ireturn, 1) := by decide +kernel
theorem dX6_told_135 : decode cX6_told 135 = .ok (.aload_n 0, 1) := by decide +kernel
theorem dX6_told_136 : decode cX6_told 136 = .ok (.getfield 19, 3) := by decide +kernel
theorem dX6_told_139 : decode cX6_told 139 = .ok (.aload_n 3, 1) := by decide +kernel
theorem dX6_told_140 : decode cX6_told 140 = .ok (.invokevirtual 202, 3) := by decide +kernel
theorem dX6_told_143 : decode cX6_told 143 = .ok (.ireturn, 1) := by decide +kernel
theorem dX6_told_144 : decode cX6_told 144 = .ok (.aload_n 3, 1) := by decide +kernel
theorem dX6_told_145 : decode cX6_told 145 = .ok (.getfield 205, 3) := by decide +kernel
theorem dX6_told_148 : decode cX6_told 148 = .ok (.invokestatic 208, 3) := by decide +kernel
theorem dX6_told_151 : decode cX6_told 151 = .ok (.ireturn, 1) := by decide +kernel
theorem dX6_told_152 : decode cX6_told 152 = .ok (.aload_n 3, 1) := by decide +kernel
theorem dX6_told_153 : decode cX6_told 153 = .ok (.getfield 214, 3) := by decide +kernel
theorem dX6_told_156 : decode cX6_told 156 = .ok (.ireturn, 1) := by decide +kernel
theorem dX6_told_157 : decode cX6_told 157 = .ok (.iconst (-1), 1) := by decide +kernel
theorem dX6_told_158 : decode cX6_told 158 = .ok (.ireturn, 1) := by decide +kernel
theorem dX6_load_0 : decode cX6_load 0 = .ok (.iload_n 1, 1) := by decide +kernel
theorem dX6_load_1 : decode cX6_load 1 = .ok (.ifCond .lt 20, 3) := by decide +kernel
theorem dX6_load_4 : decode cX6_load 4 = .ok (.iload_n 1, 1) := by decide +kernel
theorem dX6_load_5 : decode cX6_load 5 = .ok (.sipush 400, 3) := by decide +kernel
theorem dX6_load_8 : decode cX6_load 8 = .ok (.if_icmp .ge 13, 3) := by decide +kernel
theorem dX6_load_11 : decode cX6_load 11 = .ok (.iload_n 2, 1) := by decide +kernel
theorem dX6_load_12 : decode cX6_load 12 = .ok (.ifCond .lt 9, 3) := by decide +kernel
theorem dX6_load_15 : decode cX6_load 15 = .ok (.iload_n 2, 1) := by decide +kernel
theorem dX6_load_16 : decode cX6_load 16 = .ok (.bipush 8, 2) := by decide +kernel
theorem dX6_load_18 : decode cX6_load 18 = .ok (.if_icmp .le 5, 3) := by decide +kernel
theorem dX6_load_21 : decode cX6_load 21 = .ok (.iconst (-1), 1) := by decide +kernel
theorem dX6_load_22 : decode cX6_load 22 = .ok (.ireturn, 1) := by decide +kernel
theorem dX6_load_23 : decode cX6_load 23 = .ok (.iload_n 2, 1) := by decide +kernel
theorem dX6_load_24 : decode cX6_load 24 = .ok (.iconst 4, 1) := by decide +kernel
theorem dX6_load_25 : decode cX6_load 25 = .ok (.if_icmp .ge 15, 3) := by decide +kernel
theorem dX6_load_28 : decode cX6_load 28 = .ok (.aload_n 0, 1) := by decide +kernel
theorem dX6_load_29 : decode cX6_load 29 = .ok (.getfield 26, 3) := by decide +kernel
theorem dX6_load_32 : decode cX6_load 32 = .ok (.getfield 217, 3) := by decide +kernel
theorem dX6_load_35 : decode cX6_load 35 = .ok (.iload_n 2, 1) := by decide +kernel
theorem dX6_load_36 : decode cX6_load 36 = .ok (.aaload, 1) := by decide +kernel
theorem dX6_load_37 : decode cX6_load 37 = .ok (.iload_n 1, 1) := by decide +kernel
theorem dX6_load_38 : decode cX6_load 38 = .ok (.iaload, 1) := by decide +kernel
theorem dX6_load_39 : decode cX6_load 39 = .ok (.ireturn, 1) := by decide +kernel
theorem dX6_load_40 : decode cX6_load 40 = .ok (.iload_n 2, 1) := by decide +kernel
theorem dX6_load_41 : decode cX6_load 41 = .ok (.bipush 8, 2) := by decide +kernel
theorem dX6_load_43 : decode cX6_load 43 = .ok (.if_icmp .ge 28, 3) := by decide +kernel
theorem dX6_load_46 : decode cX6_load 46 = .ok (.aload_n 0, 1) := by decide +kernel
theorem dX6_load_47 : decode cX6_load 47 = .ok (.getfield 26, 3) := by decide +kernel
theorem dX6_load_50 : decode cX6_load 50 = .ok (.getfield 220, 3) := by decide +kernel
theorem dX6_load_53 : decode cX6_load 53 = .ok (.iload_n 1, 1) := by decide +kernel
theorem dX6_load_54 : decode cX6_load 54 = .ok (.laload, 1) := by decide +kernel
theorem dX6_load_55 : decode cX6_load 55 = .ok (.aload_n 0, 1) := by decide +kernel
theorem dX6_load_56 : decode cX6_load 56 = .ok (.getfield 19, 3) := by decide +kernel
theorem dX6_load_59 : decode cX6_load 59 = .ok (.getfield 224, 3) := by decide +kernel
theorem dX6_load_62 : decode cX6_load 62 = .ok (.iload_n 2, 1) := by decide +kernel
theorem dX6_load_63 : decode cX6_load 63 = .ok (.iconst 4, 1) := by decide +kernel
theorem dX6_load_64 : decode cX6_load 64 = .ok (.isub, 1) := by decide +kernel
theorem dX6_load_65 : decode cX6_load 65 = .ok (.laload, 1) := by decide +kernel
theorem dX6_load_66 : decode cX6_load 66 = .ok (.land, 1) := by decide +kernel
theorem dX6_load_67 : decode cX6_load 67 = .ok (.invokestatic 208, 3) := by decide +kernel
theorem dX6_load_70 : decode cX6_load 70 = .ok (.ireturn, 1) := by decide +kernel
theorem dX6_load_71 : decode cX6_load 71 = .ok (.aload_n 0, 1) := by decide +kernel
theorem dX6_load_72 : decode cX6_load 72 = .ok (.getfield 26, 3) := by decide +kernel
theorem dX6_load_75 : decode cX6_load 75 = .ok (.getfield 220, 3) := by decide +kernel
theorem dX6_load_78 : decode cX6_load 78 = .ok (.iload_n 1, 1) := by decide +kernel
theorem dX6_load_79 : decode cX6_load 79 = .ok (.laload, 1) := by decide +kernel
theorem dX6_load_80 : decode cX6_load 80 = .ok (.invokestatic 208, 3) := by decide +kernel
theorem dX6_load_83 : decode cX6_load 83 = .ok (.ireturn, 1) := by decide +kernel
theorem dX6_plan_0 : decode cX6_plan 0 = .ok (.lconst 0, 1) := by decide +kernel
theorem dX6_plan_1 : decode cX6_plan 1 = .ok (.lstore_n 1, 1) := by decide +kernel
theorem dX6_plan_2 : decode cX6_plan 2 = .ok (.iconst 0, 1) := by decide +kernel
theorem dX6_plan_3 : decode cX6_plan 3 = .ok (.istore_n 3, 1) := by decide +kernel
theorem dX6_plan_4 : decode cX6_plan 4 = .ok (.iconst 0, 1) := by decide +kernel
theorem dX6_plan_5 : decode cX6_plan 5 = .ok (.istore 4, 2) := by decide +kernel
theorem dX6_plan_7 : decode cX6_plan 7 = .ok (.iload 4, 2) := by decide +kernel
theorem dX6_plan_9 : decode cX6_plan 9 = .ok (.aload_n 0, 1) := by decide +kernel
theorem dX6_plan_10 : decode cX6_plan 10 = .ok (.getfield 19, 3) := by decide +kernel
theorem dX6_plan_13 : decode cX6_plan 13 = .ok (.getfield 95, 3) := by decide +kernel
theorem dX6_plan_16 : decode cX6_plan 16 = .ok (.if_icmp .ge 72, 3) := by decide +kernel
theorem dX6_plan_19 : decode cX6_plan 19 = .ok (.aload_n 0, 1) := by decide +kernel
theorem dX6_plan_20 : decode cX6_plan 20 = .ok (.getfield 19, 3) := by decide +kernel
theorem dX6_plan_23 : decode cX6_plan 23 = .ok (.lload_n 1, 1) := by decide +kernel
theorem dX6_plan_24 : decode cX6_plan 24 = .ok (.invokevirtual 227, 3) := by decide +kernel
theorem dX6_plan_27 : decode cX6_plan 27 = .ok (.astore 5, 2) := by decide +kernel
theorem dX6_plan_29 : decode cX6_plan 29 = .ok (.aload 5, 2) := by decide +kernel
theorem dX6_plan_31 : decode cX6_plan 31 = .ok (.ifnonnull 5, 3) := by decide +kernel
theorem dX6_plan_34 : decode cX6_plan 34 = .ok (.iload_n 3, 1) := by decide +kernel
theorem dX6_plan_35 : decode cX6_plan 35 = .ok (.ireturn, 1) := by decide +kernel
theorem dX6_plan_36 : decode cX6_plan 36 = .ok (.lload_n 1, 1) := by decide +kernel
theorem dX6_plan_37 : decode cX6_plan 37 = .ok (.aload 5, 2) := by decide +kernel
theorem dX6_plan_39 : decode cX6_plan 39 = .ok (.getfield 135, 3) := by decide +kernel
theorem dX6_plan_42 : decode cX6_plan 42 = .ok (.lor, 1) := by decide +kernel
theorem dX6_plan_43 : decode cX6_plan 43 = .ok (.lstore_n 1, 1) := by decide +kernel
theorem dX6_plan_44 : decode cX6_plan 44 = .ok (.aload_n 0, 1) := by decide +kernel
theorem dX6_plan_45 : decode cX6_plan 45 = .ok (.getfield 35, 3) := by decide +kernel
theorem dX6_plan_48 : decode cX6_plan 48 = .ok (.aload 5, 2) := by decide +kernel
theorem dX6_plan_50 : decode cX6_plan 50 = .ok (.aload_n 0, 1) := by decide +kernel
theorem dX6_plan_51 : decode cX6_plan 51 = .ok (.getfield 26, 3) := by decide +kernel
theorem dX6_plan_54 : decode cX6_plan 54 = .ok (.getfield 138, 3) := by decide +kernel
theorem dX6_plan_57 : decode cX6_plan 57 = .ok (.invokevirtual 162, 3) := by decide +kernel
theorem dX6_plan_60 : decode cX6_plan 60 = .ok (.istore 6, 2) := by decide +kernel
theorem dX6_plan_62 : decode cX6_plan 62 = .ok (.iload 6, 2) := by decide +kernel
theorem dX6_plan_64 : decode cX6_plan 64 = .ok (.iconst (-1), 1) := by decide +kernel
theorem dX6_plan_65 : decode cX6_plan 65 = .ok (.if_icmp .eq 17, 3) := by decide +kernel
theorem dX6_plan_68 : decode cX6_plan 68 = .ok (.aload_n 0, 1) := by decide +kernel
theorem dX6_plan_69 : decode cX6_plan 69 = .ok (.getfield 26, 3) := by decide +kernel
theorem dX6_plan_72 : decode cX6_plan 72 = .ok (.aload 5, 2) := by decide +kernel
theorem dX6_plan_74 : decode cX6_plan 74 = .ok (.iload 6, 2) := by decide +kernel
theorem dX6_plan_76 : decode cX6_plan 76 = .ok (.invokevirtual 150, 3) := by decide +kernel
theorem dX6_plan_79 : decode cX6_plan 79 = .ok (.iinc 3 1, 3) := by decide +kernel
theorem dX6_plan_82 : decode cX6_plan 82 = .ok (.iinc 4 1, 3) := by decide +kernel
theorem dX6_plan_85 : decode cX6_plan 85 = .ok (.goto (-78), 3) := by decide +kernel
end
section
theorem dX6_plan_88 : decode cX6_plan 88 = .ok (.iload_n 3, 1) := by decide +kernel
theorem dX6_plan_89 : decode cX6_plan 89 = .ok (.ireturn, 1) := by decide +kernel
theorem dX6_best_0 : decode cX6_best 0 = .ok (.aload_n 0, 1) := by decide +kernel
theorem dX6_best_1 : decode cX6_best 1 = .ok (.getfield 19, 3) := by decide +kernel
theorem dX6_best_4 : decode cX6_best 4 = .ok (.getfield 95, 3) := by decide +kernel
theorem dX6_best_7 : decode cX6_best 7 = .ok (.iconst 1, 1) := by decide +kernel
theorem dX6_best_8 : decode cX6_best 8 = .ok (.if_icmp .lt 37, 3) := by decide +kernel
theorem dX6_best_11 : decode cX6_best 11 = .ok (.aload_n 0, 1) := by decide +kernel
theorem dX6_best_12 : decode cX6_best 12 = .ok (.getfield 19, 3) := by decide +kernel
theorem dX6_best_15 : decode cX6_best 15 = .ok (.getfield 95, 3) := by decide +kernel
theorem dX6_best_18 : decode cX6_best 18 = .ok (.bipush 6, 2) := by decide +kernel
theorem dX6_best_20 : decode cX6_best 20 = .ok (.if_icmp .gt 25, 3) := by decide +kernel
theorem dX6_best_23 : decode cX6_best 23 = .ok (.aload_n 0, 1) := by decide +kernel
theorem dX6_best_24 : decode cX6_best 24 = .ok (.getfield 26, 3) := by decide +kernel
theorem dX6_best_27 : decode cX6_best 27 = .ok (.getfield 138, 3) := by decide +kernel
theorem dX6_best_30 : decode cX6_best 30 = .ok (.ifCond .ne 15, 3) := by decide +kernel
theorem dX6_best_33 : decode cX6_best 33 = .ok (.aload_n 0, 1) := by decide +kernel
theorem dX6_best_34 : decode cX6_best 34 = .ok (.getfield 19, 3) := by decide +kernel
theorem dX6_best_37 : decode cX6_best 37 = .ok (.invokevirtual 231, 3) := by decide +kernel
theorem dX6_best_40 : decode cX6_best 40 = .ok (.lconst 0, 1) := by decide +kernel
theorem dX6_best_41 : decode cX6_best 41 = .ok (.lcmp, 1) := by decide +kernel
theorem dX6_best_42 : decode cX6_best 42 = .ok (.ifCond .eq 5, 3) := by decide +kernel
theorem dX6_best_45 : decode cX6_best 45 = .ok (.iconst (-1), 1) := by decide +kernel
theorem dX6_best_46 : decode cX6_best 46 = .ok (.ireturn, 1) := by decide +kernel
theorem dX6_best_47 : decode cX6_best 47 = .ok (.aload_n 0, 1) := by decide +kernel
theorem dX6_best_48 : decode cX6_best 48 = .ok (.getfield 44, 3) := by decide +kernel
theorem dX6_best_51 : decode cX6_best 51 = .ok (.invokevirtual 235, 3) := by decide +kernel
theorem dX6_best_54 : decode cX6_best 54 = .ok (.ireturn, 1) := by decide +kernel
theorem dX6_end_0 : decode cX6_end 0 = .ok (.iconst 0, 1) := by decide +kernel
theorem dX6_end_1 : decode cX6_end 1 = .ok (.istore_n 1, 1) := by decide +kernel
theorem dX6_end_2 : decode cX6_end 2 = .ok (.iconst 0, 1) := by decide +kernel
theorem dX6_end_3 : decode cX6_end 3 = .ok (.istore_n 2, 1) := by decide +kernel
theorem dX6_end_4 : decode cX6_end 4 = .ok (.iload_n 2, 1) := by decide +kernel
theorem dX6_end_5 : decode cX6_end 5 = .ok (.aload_n 0, 1) := by decide +kernel
theorem dX6_end_6 : decode cX6_end 6 = .ok (.getfield 19, 3) := by decide +kernel
theorem dX6_end_9 : decode cX6_end 9 = .ok (.getfield 95, 3) := by decide +kernel
theorem dX6_end_12 : decode cX6_end 12 = .ok (.if_icmp .ge 35, 3) := by decide +kernel
theorem dX6_end_15 : decode cX6_end 15 = .ok (.aload_n 0, 1) := by decide +kernel
theorem dX6_end_16 : decode cX6_end 16 = .ok (.getfield 19, 3) := by decide +kernel
theorem dX6_end_19 : decode cX6_end 19 = .ok (.getfield 166, 3) := by decide +kernel
theorem dX6_end_22 : decode cX6_end 22 = .ok (.iload_n 2, 1) := by decide +kernel
theorem dX6_end_23 : decode cX6_end 23 = .ok (.aaload, 1) := by decide +kernel
theorem dX6_end_24 : decode cX6_end 24 = .ok (.astore_n 3, 1) := by decide +kernel
theorem dX6_end_25 : decode cX6_end 25 = .ok (.aload_n 3, 1) := by decide +kernel
theorem dX6_end_26 : decode cX6_end 26 = .ok (.invokevirtual 154, 3) := by decide +kernel
theorem dX6_end_29 : decode cX6_end 29 = .ok (.ifCond .ne 12, 3) := by decide +kernel
theorem dX6_end_32 : decode cX6_end 32 = .ok (.iload_n 1, 1) := by decide +kernel
theorem dX6_end_33 : decode cX6_end 33 = .ok (.aload_n 3, 1) := by decide +kernel
theorem dX6_end_34 : decode cX6_end 34 = .ok (.invokevirtual 239, 3) := by decide +kernel
theorem dX6_end_37 : decode cX6_end 37 = .ok (.invokestatic 242, 3) := by decide +kernel
theorem dX6_end_40 : decode cX6_end 40 = .ok (.istore_n 1, 1) := by decide +kernel
theorem dX6_end_41 : decode cX6_end 41 = .ok (.iinc 2 1, 3) := by decide +kernel
theorem dX6_end_44 : decode cX6_end 44 = .ok (.goto (-40), 3) := by decide +kernel
theorem dX6_end_47 : decode cX6_end 47 = .ok (.iload_n 1, 1) := by decide +kernel
theorem dX6_end_48 : decode cX6_end 48 = .ok (.ireturn, 1) := by decide +kernel
theorem dX6_bound_0 : decode cX6_bound 0 = .ok (.aload_n 0, 1) := by decide +kernel
theorem dX6_bound_1 : decode cX6_bound 1 = .ok (.getfield 19, 3) := by decide +kernel
theorem dX6_bound_4 : decode cX6_bound 4 = .ok (.getfield 247, 3) := by decide +kernel
theorem dX6_bound_7 : decode cX6_bound 7 = .ok (.istore_n 1, 1) := by decide +kernel
theorem dX6_bound_8 : decode cX6_bound 8 = .ok (.iconst 0, 1) := by decide +kernel
theorem dX6_bound_9 : decode cX6_bound 9 = .ok (.istore_n 2, 1) := by decide +kernel
theorem dX6_bound_10 : decode cX6_bound 10 = .ok (.iload_n 2, 1) := by decide +kernel
theorem dX6_bound_11 : decode cX6_bound 11 = .ok (.iconst 4, 1) := by decide +kernel
theorem dX6_bound_12 : decode cX6_bound 12 = .ok (.if_icmp .ge 34, 3) := by decide +kernel
theorem dX6_bound_15 : decode cX6_bound 15 = .ok (.iload_n 1, 1) := by decide +kernel
theorem dX6_bound_16 : decode cX6_bound 16 = .ok (.aload_n 0, 1) := by decide +kernel
theorem dX6_bound_17 : decode cX6_bound 17 = .ok (.getfield 19, 3) := by decide +kernel
theorem dX6_bound_20 : decode cX6_bound 20 = .ok (.iload_n 2, 1) := by decide +kernel
theorem dX6_bound_21 : decode cX6_bound 21 = .ok (.invokevirtual 250, 3) := by decide +kernel
theorem dX6_bound_24 : decode cX6_bound 24 = .ok (.aload_n 0, 1) := by decide +kernel
theorem dX6_bound_25 : decode cX6_bound 25 = .ok (.getfield 35, 3) := by decide +kernel
theorem dX6_bound_28 : decode cX6_bound 28 = .ok (.getfield 74, 3) := by decide +kernel
theorem dX6_bound_31 : decode cX6_bound 31 = .ok (.iload_n 2, 1) := by decide +kernel
theorem dX6_bound_32 : decode cX6_bound 32 = .ok (.iaload, 1) := by decide +kernel
theorem dX6_bound_33 : decode cX6_bound 33 = .ok (.invokestatic 253, 3) := by decide +kernel
theorem dX6_bound_36 : decode cX6_bound 36 = .ok (.invokestatic 256, 3) := by decide +kernel
theorem dX6_bound_39 : decode cX6_bound 39 = .ok (.istore_n 1, 1) := by decide +kernel
theorem dX6_bound_40 : decode cX6_bound 40 = .ok (.iinc 2 1, 3) := by decide +kernel
theorem dX6_bound_43 : decode cX6_bound 43 = .ok (.goto (-33), 3) := by decide +kernel
theorem dX6_bound_46 : decode cX6_bound 46 = .ok (.iconst 0, 1) := by decide +kernel
theorem dX6_bound_47 : decode cX6_bound 47 = .ok (.istore_n 2, 1) := by decide +kernel
theorem dX6_bound_48 : decode cX6_bound 48 = .ok (.iload_n 2, 1) := by decide +kernel
theorem dX6_bound_49 : decode cX6_bound 49 = .ok (.iconst 4, 1) := by decide +kernel
theorem dX6_bound_50 : decode cX6_bound 50 = .ok (.if_icmp .ge 34, 3) := by decide +kernel
theorem dX6_bound_53 : decode cX6_bound 53 = .ok (.iload_n 1, 1) := by decide +kernel
theorem dX6_bound_54 : decode cX6_bound 54 = .ok (.aload_n 0, 1) := by decide +kernel
theorem dX6_bound_55 : decode cX6_bound 55 = .ok (.getfield 19, 3) := by decide +kernel
theorem dX6_bound_58 : decode cX6_bound 58 = .ok (.iload_n 2, 1) := by decide +kernel
theorem dX6_bound_59 : decode cX6_bound 59 = .ok (.invokevirtual 259, 3) := by decide +kernel
theorem dX6_bound_62 : decode cX6_bound 62 = .ok (.aload_n 0, 1) := by decide +kernel
theorem dX6_bound_63 : decode cX6_bound 63 = .ok (.getfield 35, 3) := by decide +kernel
theorem dX6_bound_66 : decode cX6_bound 66 = .ok (.getfield 81, 3) := by decide +kernel
theorem dX6_bound_69 : decode cX6_bound 69 = .ok (.iload_n 2, 1) := by decide +kernel
theorem dX6_bound_70 : decode cX6_bound 70 = .ok (.iaload, 1) := by decide +kernel
theorem dX6_bound_71 : decode cX6_bound 71 = .ok (.invokestatic 253, 3) := by decide +kernel
theorem dX6_bound_74 : decode cX6_bound 74 = .ok (.invokestatic 256, 3) := by decide +kernel
theorem dX6_bound_77 : decode cX6_bound 77 = .ok (.istore_n 1, 1) := by decide +kernel
theorem dX6_bound_78 : decode cX6_bound 78 = .ok (.iinc 2 1, 3) := by decide +kernel
theorem dX6_bound_81 : decode cX6_bound 81 = .ok (.goto (-33), 3) := by decide +kernel
theorem dX6_bound_84 : decode cX6_bound 84 = .ok (.iconst 0, 1) := by decide +kernel
theorem dX6_bound_85 : decode cX6_bound 85 = .ok (.istore_n 2, 1) := by decide +kernel
theorem dX6_bound_86 : decode cX6_bound 86 = .ok (.iload_n 2, 1) := by decide +kernel
theorem dX6_bound_87 : decode cX6_bound 87 = .ok (.aload_n 0, 1) := by decide +kernel
theorem dX6_bound_88 : decode cX6_bound 88 = .ok (.getfield 10, 3) := by decide +kernel
theorem dX6_bound_91 : decode cX6_bound 91 = .ok (.getfield 48, 3) := by decide +kernel
theorem dX6_bound_94 : decode cX6_bound 94 = .ok (.if_icmp .ge 34, 3) := by decide +kernel
theorem dX6_bound_97 : decode cX6_bound 97 = .ok (.iload_n 1, 1) := by decide +kernel
theorem dX6_bound_98 : decode cX6_bound 98 = .ok (.aload_n 0, 1) := by decide +kernel
theorem dX6_bound_99 : decode cX6_bound 99 = .ok (.getfield 19, 3) := by decide +kernel
theorem dX6_bound_102 : decode cX6_bound 102 = .ok (.iload_n 2, 1) := by decide +kernel
theorem dX6_bound_103 : decode cX6_bound 103 = .ok (.invokevirtual 262, 3) := by decide +kernel
theorem dX6_bound_106 : decode cX6_bound 106 = .ok (.aload_n 0, 1) := by decide +kernel
theorem dX6_bound_107 : decode cX6_bound 107 = .ok (.getfield 10, 3) := by decide +kernel
theorem dX6_bound_110 : decode cX6_bound 110 = .ok (.getfield 265, 3) := by decide +kernel
theorem dX6_bound_113 : decode cX6_bound 113 = .ok (.iload_n 2, 1) := by decide +kernel
theorem dX6_bound_114 : decode cX6_bound 114 = .ok (.iaload, 1) := by decide +kernel
theorem dX6_bound_115 : decode cX6_bound 115 = .ok (.invokestatic 253, 3) := by decide +kernel
theorem dX6_bound_118 : decode cX6_bound 118 = .ok (.invokestatic 256, 3) := by decide +kernel
theorem dX6_bound_121 : decode cX6_bound 121 = .ok (.istore_n 1, 1) := by decide +kernel
theorem dX6_bound_122 : decode cX6_bound 122 = .ok (.iinc 2 1, 3) := by decide +kernel
theorem dX6_bound_125 : decode cX6_bound 125 = .ok (.goto (-39), 3) := by decide +kernel
theorem dX6_bound_128 : decode cX6_bound 128 = .ok (.iload_n 1, 1) := by decide +kernel
theorem dX6_bound_129 : decode cX6_bound 129 = .ok (.ireturn, 1) := by decide +kernel
theorem dX6_go_0 : decode cX6_go 0 = .ok (.iload_n 1, 1) := by decide +kernel
theorem dX6_go_1 : decode cX6_go 1 = .ok (.ifCond .lt 10, 3) := by decide +kernel
theorem dX6_go_4 : decode cX6_go 4 = .ok (.iload_n 1, 1) := by decide +kernel
theorem dX6_go_5 : decode cX6_go 5 = .ok (.sipush 400, 3) := by decide +kernel
theorem dX6_go_8 : decode cX6_go 8 = .ok (.if_icmp .le 5, 3) := by decide +kernel
theorem dX6_go_11 : decode cX6_go 11 = .ok (.iconst (-1), 1) := by decide +kernel
theorem dX6_go_12 : decode cX6_go 12 = .ok (.ireturn, 1) := by decide +kernel
theorem dX6_go_13 : decode cX6_go 13 = .ok (.aload_n 0, 1) := by decide +kernel
theorem dX6_go_14 : decode cX6_go 14 = .ok (.getfield 26, 3) := by decide +kernel
theorem dX6_go_17 : decode cX6_go 17 = .ok (.sipush 400, 3) := by decide +kernel
theorem dX6_go_20 : decode cX6_go 20 = .ok (.aload_n 0, 1) := by decide +kernel
theorem dX6_go_21 : decode cX6_go 21 = .ok (.getfield 26, 3) := by decide +kernel
theorem dX6_go_24 : decode cX6_go 24 = .ok (.getfield 138, 3) := by decide +kernel
theorem dX6_go_27 : decode cX6_go 27 = .ok (.iload_n 1, 1) := by decide +kernel
theorem dX6_go_28 : decode cX6_go 28 = .ok (.iadd, 1) := by decide +kernel
theorem dX6_go_29 : decode cX6_go 29 = .ok (.invokestatic 268, 3) := by decide +kernel
theorem dX6_go_32 : decode cX6_go 32 = .ok (.putfield 138, 3) := by decide +kernel
theorem dX6_go_35 : decode cX6_go 35 = .ok (.aload_n 0, 1) := by decide +kernel
theorem dX6_go_36 : decode cX6_go 36 = .ok (.getfield 26, 3) := by decide +kernel
theorem dX6_go_39 : decode cX6_go 39 = .ok (.getfield 138, 3) := by decide +kernel
theorem dX6_go_42 : decode cX6_go 42 = .ok (.ireturn, 1) := by decide +kernel
theorem dX6_fail_0 : decode cX6_fail 0 = .ok (.aload_n 0, 1) := by decide +kernel
theorem dX6_fail_1 : decode cX6_fail 1 = .ok (.getfield 19, 3) := by decide +kernel
theorem dX6_fail_4 : decode cX6_fail 4 = .ok (.iload_n 1, 1) := by decide +kernel
theorem dX6_fail_5 : decode cX6_fail 5 = .ok (.invokevirtual 113, 3) := by decide +kernel
theorem dX6_fail_8 : decode cX6_fail 8 = .ok (.astore_n 2, 1) := by decide +kernel
theorem dX6_fail_9 : decode cX6_fail 9 = .ok (.aload_n 2, 1) := by decide +kernel
theorem dX6_fail_10 : decode cX6_fail 10 = .ok (.ifnull 25, 3) := by decide +kernel
theorem dX6_fail_13 : decode cX6_fail 13 = .ok (.aload_n 2, 1) := by decide +kernel
theorem dX6_fail_14 : decode cX6_fail 14 = .ok (.getfield 128, 3) := by decide +kernel
theorem dX6_fail_17 : decode cX6_fail 17 = .ok (.iconst 4, 1) := by decide +kernel
theorem dX6_fail_18 : decode cX6_fail 18 = .ok (.if_icmp .ne 17, 3) := by decide +kernel
theorem dX6_fail_21 : decode cX6_fail 21 = .ok (.aload_n 2, 1) := by decide +kernel
theorem dX6_fail_22 : decode cX6_fail 22 = .ok (.aload_n 0, 1) := by decide +kernel
theorem dX6_fail_23 : decode cX6_fail 23 = .ok (.getfield 26, 3) := by decide +kernel
theorem dX6_fail_26 : decode cX6_fail 26 = .ok (.getfield 138, 3) := by decide +kernel
theorem dX6_fail_29 : decode cX6_fail 29 = .ok (.invokevirtual 271, 3) := by decide +kernel
theorem dX6_fail_32 : decode cX6_fail 32 = .ok (.ifCond .ne 5, 3) := by decide +kernel
theorem dX6_fail_35 : decode cX6_fail 35 = .ok (.iconst (-1), 1) := by decide +kernel
theorem dX6_fail_36 : decode cX6_fail 36 = .ok (.ireturn, 1) := by decide +kernel
theorem dX6_fail_37 : decode cX6_fail 37 = .ok (.aload_n 0, 1) := by decide +kernel
theorem dX6_fail_38 : decode cX6_fail 38 = .ok (.getfield 19, 3) := by decide +kernel
theorem dX6_fail_41 : decode cX6_fail 41 = .ok (.aload_n 2, 1) := by decide +kernel
theorem dX6_fail_42 : decode cX6_fail 42 = .ok (.aload_n 0, 1) := by decide +kernel
theorem dX6_fail_43 : decode cX6_fail 43 = .ok (.getfield 26, 3) := by decide +kernel
theorem dX6_fail_46 : decode cX6_fail 46 = .ok (.getfield 138, 3) := by decide +kernel
theorem dX6_fail_49 : decode cX6_fail 49 = .ok (.invokevirtual 274, 3) := by decide +kernel
theorem dX6_fail_52 : decode cX6_fail 52 = .ok (.lstore_n 3, 1) := by decide +kernel
theorem dX6_fail_53 : decode cX6_fail 53 = .ok (.iconst 0, 1) := by decide +kernel
theorem dX6_fail_54 : decode cX6_fail 54 = .ok (.istore 5, 2) := by decide +kernel
theorem dX6_fail_56 : decode cX6_fail 56 = .ok (.iload 5, 2) := by decide +kernel
theorem dX6_fail_58 : decode cX6_fail 58 = .ok (.aload_n 0, 1) := by decide +kernel
theorem dX6_fail_59 : decode cX6_fail 59 = .ok (.getfield 19, 3) := by decide +kernel
theorem dX6_fail_62 : decode cX6_fail 62 = .ok (.getfield 95, 3) := by decide +kernel
theorem dX6_fail_65 : decode cX6_fail 65 = .ok (.if_icmp .ge 53, 3) := by decide +kernel
theorem dX6_fail_68 : decode cX6_fail 68 = .ok (.aload_n 0, 1) := by decide +kernel
theorem dX6_fail_69 : decode cX6_fail 69 = .ok (.getfield 19, 3) := by decide +kernel
theorem dX6_fail_72 : decode cX6_fail 72 = .ok (.getfield 166, 3) := by decide +kernel
theorem dX6_fail_75 : decode cX6_fail 75 = .ok (.iload 5, 2) := by decide +kernel
theorem dX6_fail_77 : decode cX6_fail 77 = .ok (.aaload, 1) := by decide +kernel
theorem dX6_fail_78 : decode cX6_fail 78 = .ok (.astore 6, 2) := by decide +kernel
theorem dX6_fail_80 : decode cX6_fail 80 = .ok (.lload_n 3, 1) := by decide +kernel
theorem dX6_fail_81 : decode cX6_fail 81 = .ok (.aload 6, 2) := by decide +kernel
theorem dX6_fail_83 : decode cX6_fail 83 = .ok (.getfield 135, 3) := by decide +kernel
theorem dX6_fail_86 : decode cX6_fail 86 = .ok (.land, 1) := by decide +kernel
theorem dX6_fail_87 : decode cX6_fail 87 = .ok (.lconst 0, 1) := by decide +kernel
theorem dX6_fail_88 : decode cX6_fail 88 = .ok (.lcmp, 1) := by decide +kernel
theorem dX6_fail_89 : decode cX6_fail 89 = .ok (.ifCond .eq 23, 3) := by decide +kernel
theorem dX6_fail_92 : decode cX6_fail 92 = .ok (.aload_n 0, 1) := by decide +kernel
theorem dX6_fail_93 : decode cX6_fail 93 = .ok (.getfield 26, 3) := by decide +kernel
theorem dX6_fail_96 : decode cX6_fail 96 = .ok (.aload 6, 2) := by decide +kernel
theorem dX6_fail_98 : decode cX6_fail 98 = .ok (.invokevirtual 147, 3) := by decide +kernel
theorem dX6_fail_101 : decode cX6_fail 101 = .ok (.aload 6, 2) := by decide +kernel
theorem dX6_fail_103 : decode cX6_fail 103 = .ok (.dup, 1) := by decide +kernel
theorem dX6_fail_104 : decode cX6_fail 104 = .ok (.getfield 214, 3) := by decide +kernel
theorem dX6_fail_107 : decode cX6_fail 107 = .ok (.iconst 1, 1) := by decide +kernel
theorem dX6_fail_108 : decode cX6_fail 108 = .ok (.iadd, 1) := by decide +kernel
theorem dX6_fail_109 : decode cX6_fail 109 = .ok (.putfield 214, 3) := by decide +kernel
theorem dX6_fail_112 : decode cX6_fail 112 = .ok (.iinc 5 1, 3) := by decide +kernel
theorem dX6_fail_115 : decode cX6_fail 115 = .ok (.goto (-59), 3) := by decide +kernel
theorem dX6_fail_118 : decode cX6_fail 118 = .ok (.lload_n 3, 1) := by decide +kernel
theorem dX6_fail_119 : decode cX6_fail 119 = .ok (.invokestatic 208, 3) := by decide +kernel
theorem dX6_fail_122 : decode cX6_fail 122 = .ok (.ireturn, 1) := by decide +kernel
theorem dX6_more_0 : decode cX6_more 0 = .ok (.aload_n 0, 1) := by decide +kernel
theorem dX6_more_1 : decode cX6_more 1 = .ok (.getfield 19, 3) := by decide +kernel
theorem dX6_more_4 : decode cX6_more 4 = .ok (.iload_n 1, 1) := by decide +kernel
theorem dX6_more_5 : decode cX6_more 5 = .ok (.invokevirtual 113, 3) := by decide +kernel
theorem dX6_more_8 : decode cX6_more 8 = .ok (.astore_n 3, 1) := by decide +kernel
theorem dX6_more_9 : decode cX6_more 9 = .ok (.aload_n 3, 1) := by decide +kernel
theorem dX6_more_10 : decode cX6_more 10 = .ok (.ifnull 33, 3) := by decide +kernel
theorem dX6_more_13 : decode cX6_more 13 = .ok (.aload_n 3, 1) := by decide +kernel
theorem dX6_more_14 : decode cX6_more 14 = .ok (.aload_n 0, 1) := by decide +kernel
theorem dX6_more_15 : decode cX6_more 15 = .ok (.getfield 26, 3) := by decide +kernel
theorem dX6_more_18 : decode cX6_more 18 = .ok (.getfield 138, 3) := by decide +kernel
theorem dX6_more_21 : decode cX6_more 21 = .ok (.invokevirtual 271, 3) := by decide +kernel
theorem dX6_more_24 : decode cX6_more 24 = .ok (.ifCond .ne 19, 3) := by decide +kernel
theorem dX6_more_27 : decode cX6_more 27 = .ok (.iload_n 2, 1) := by decide +kernel
theorem dX6_more_28 : decode cX6_more 28 = .ok (.iconst 1, 1) := by decide +kernel
theorem dX6_more_29 : decode cX6_more 29 = .ok (.if_icmp .lt 14, 3) := by decide +kernel
theorem dX6_more_32 : decode cX6_more 32 = .ok (.iload_n 2, 1) := by decide +kernel
theorem dX6_more_33 : decode cX6_more 33 = .ok (.bipush 40, 2) := by decide +kernel
theorem dX6_more_35 : decode cX6_more 35 = .ok (.aload_n 3, 1) := by decide +kernel
theorem dX6_more_36 : decode cX6_more 36 = .ok (.getfield 144, 3) := by decide +kernel
theorem dX6_more_39 : decode cX6_more 39 = .ok (.isub, 1) := by decide +kernel
theorem dX6_more_40 : decode cX6_more 40 = .ok (.if_icmp .le 5, 3) := by decide +kernel
theorem dX6_more_43 : decode cX6_more 43 = .ok (.iconst (-1), 1) := by decide +kernel
theorem dX6_more_44 : decode cX6_more 44 = .ok (.ireturn, 1) := by decide +kernel
theorem dX6_more_45 : decode cX6_more 45 = .ok (.aload_n 3, 1) := by decide +kernel
theorem dX6_more_46 : decode cX6_more 46 = .ok (.invokevirtual 154, 3) := by decide +kernel
theorem dX6_more_49 : decode cX6_more 49 = .ok (.ifCond .ne 17, 3) := by decide +kernel
theorem dX6_more_52 : decode cX6_more 52 = .ok (.aload_n 3, 1) := by decide +kernel
theorem dX6_more_53 : decode cX6_more 53 = .ok (.invokevirtual 239, 3) := by decide +kernel
theorem dX6_more_56 : decode cX6_more 56 = .ok (.iload_n 2, 1) := by decide +kernel
theorem dX6_more_57 : decode cX6_more 57 = .ok (.iadd, 1) := by decide +kernel
theorem dX6_more_58 : decode cX6_more 58 = .ok (.sipush 400, 3) := by decide +kernel
theorem dX6_more_61 : decode cX6_more 61 = .ok (.if_icmp .le 5, 3) := by decide +kernel
theorem dX6_more_64 : decode cX6_more 64 = .ok (.iconst (-1), 1) := by decide +kernel
theorem dX6_more_65 : decode cX6_more 65 = .ok (.ireturn, 1) := by decide +kernel
theorem dX6_more_66 : decode cX6_more 66 = .ok (.aload_n 0, 1) := by decide +kernel
theorem dX6_more_67 : decode cX6_more 67 = .ok (.getfield 26, 3) := by decide +kernel
theorem dX6_more_70 : decode cX6_more 70 = .ok (.aload_n 3, 1) := by decide +kernel
theorem dX6_more_71 : decode cX6_more 71 = .ok (.iload_n 2, 1) := by decide +kernel
theorem dX6_more_72 : decode cX6_more 72 = .ok (.invokevirtual 278, 3) := by decide +kernel
theorem dX6_more_75 : decode cX6_more 75 = .ok (.aload_n 0, 1) := by decide +kernel
theorem dX6_more_76 : decode cX6_more 76 = .ok (.getfield 19, 3) := by decide +kernel
theorem dX6_more_79 : decode cX6_more 79 = .ok (.invokevirtual 281, 3) := by decide +kernel
theorem dX6_more_82 : decode cX6_more 82 = .ok (.aload_n 3, 1) := by decide +kernel
theorem dX6_more_83 : decode cX6_more 83 = .ok (.getfield 144, 3) := by decide +kernel
theorem dX6_more_86 : decode cX6_more 86 = .ok (.ireturn, 1) := by decide +kernel
theorem dX6_count_0 : decode cX6_count 0 = .ok (.iload_n 1, 1) := by decide +kernel
theorem dX6_count_1 : decode cX6_count 1 = .ok (.tableswitch 120 0 6 #[43, 51, 59, 67, 86, 104, 112], 43) := by decide +kernel
theorem dX6_count_44 : decode cX6_count 44 = .ok (.aload_n 0, 1) := by decide +kernel
theorem dX6_count_45 : decode cX6_count 45 = .ok (.getfield 26, 3) := by decide +kernel
theorem dX6_count_48 : decode cX6_count 48 = .ok (.getfield 138, 3) := by decide +kernel
theorem dX6_count_51 : decode cX6_count 51 = .ok (.ireturn, 1) := by decide +kernel
theorem dX6_count_52 : decode cX6_count 52 = .ok (.aload_n 0, 1) := by decide +kernel
theorem dX6_count_53 : decode cX6_count 53 = .ok (.getfield 10, 3) := by decide +kernel
theorem dX6_count_56 : decode cX6_count 56 = .ok (.getfield 48, 3) := by decide +kernel
theorem dX6_count_59 : decode cX6_count 59 = .ok (.ireturn, 1) := by decide +kernel
theorem dX6_count_60 : decode cX6_count 60 = .ok (.aload_n 0, 1) := by decide +kernel
theorem dX6_count_61 : decode cX6_count 61 = .ok (.getfield 19, 3) := by decide +kernel
theorem dX6_count_64 : decode cX6_count 64 = .ok (.getfield 95, 3) := by decide +kernel
theorem dX6_count_67 : decode cX6_count 67 = .ok (.ireturn, 1) := by decide +kernel
theorem dX6_count_68 : decode cX6_count 68 = .ok (.aload_n 0, 1) := by decide +kernel
theorem dX6_count_69 : decode cX6_count 69 = .ok (.getfield 19, 3) := by decide +kernel
theorem dX6_count_72 : decode cX6_count 72 = .ok (.getfield 95, 3) := by decide +kernel
theorem dX6_count_75 : decode cX6_count 75 = .ok (.aload_n 0, 1) := by decide +kernel
theorem dX6_count_76 : decode cX6_count 76 = .ok (.getfield 19, 3) := by decide +kernel
theorem dX6_count_79 : decode cX6_count 79 = .ok (.invokevirtual 231, 3) := by decide +kernel
theorem dX6_count_82 : decode cX6_count 82 = .ok (.invokestatic 208, 3) := by decide +kernel
theorem dX6_count_85 : decode cX6_count 85 = .ok (.isub, 1) := by decide +kernel
theorem dX6_count_86 : decode cX6_count 86 = .ok (.ireturn, 1) := by decide +kernel
theorem dX6_count_87 : decode cX6_count 87 = .ok (.aload_n 0, 1) := by decide +kernel
theorem dX6_count_88 : decode cX6_count 88 = .ok (.getfield 19, 3) := by decide +kernel
theorem dX6_count_91 : decode cX6_count 91 = .ok (.aload_n 0, 1) := by decide +kernel
theorem dX6_count_92 : decode cX6_count 92 = .ok (.getfield 26, 3) := by decide +kernel
theorem dX6_count_95 : decode cX6_count 95 = .ok (.getfield 138, 3) := by decide +kernel
theorem dX6_count_98 : decode cX6_count 98 = .ok (.invokevirtual 284, 3) := by decide +kernel
theorem dX6_count_101 : decode cX6_count 101 = .ok (.invokestatic 208, 3) := by decide +kernel
theorem dX6_count_104 : decode cX6_count 104 = .ok (.ireturn, 1) := by decide +kernel
theorem dX6_count_105 : decode cX6_count 105 = .ok (.aload_n 0, 1) := by decide +kernel
theorem dX6_count_106 : decode cX6_count 106 = .ok (.getfield 10, 3) := by decide +kernel
theorem dX6_count_109 : decode cX6_count 109 = .ok (.getfield 288, 3) := by decide +kernel
theorem dX6_count_112 : decode cX6_count 112 = .ok (.ireturn, 1) := by decide +kernel
theorem dX6_count_113 : decode cX6_count 113 = .ok (.aload_n 0, 1) := by decide +kernel
theorem dX6_count_114 : decode cX6_count 114 = .ok (.getfield 19, 3) := by decide +kernel
theorem dX6_count_117 : decode cX6_count 117 = .ok (.getfield 247, 3) := by decide +kernel
theorem dX6_count_120 : decode cX6_count 120 = .ok (.ireturn, 1) := by decide +kernel
theorem dX6_count_121 : decode cX6_count 121 = .ok (.iconst (-1), 1) := by decide +kernel
theorem dX6_count_122 : decode cX6_count 122 = .ok (.ireturn, 1) := by decide +kernel
theorem dX6_isTrade_0 : decode cX6_isTrade 0 = .ok (.iload_n 0, 1) := by decide +kernel
theorem dX6_isTrade_1 : decode cX6_isTrade 1 = .ok (.ifCond .lt 12, 3) := by decide +kernel
theorem dX6_isTrade_4 : decode cX6_isTrade 4 = .ok (.iload_n 0, 1) := by decide +kernel
theorem dX6_isTrade_5 : decode cX6_isTrade 5 = .ok (.iconst 4, 1) := by decide +kernel
theorem dX6_isTrade_6 : decode cX6_isTrade 6 = .ok (.if_icmp .ge 7, 3) := by decide +kernel
theorem dX6_isTrade_9 : decode cX6_isTrade 9 = .ok (.iconst 1, 1) := by decide +kernel
theorem dX6_isTrade_10 : decode cX6_isTrade 10 = .ok (.goto 4, 3) := by decide +kernel
theorem dX6_isTrade_13 : decode cX6_isTrade 13 = .ok (.iconst 0, 1) := by decide +kernel
theorem dX6_isTrade_14 : decode cX6_isTrade 14 = .ok (.ireturn, 1) := by decide +kernel
theorem dX6_isGood_0 : decode cX6_isGood 0 = .ok (.iload_n 0, 1) := by decide +kernel
theorem dX6_isGood_1 : decode cX6_isGood 1 = .ok (.ifCond .lt 12, 3) := by decide +kernel
theorem dX6_isGood_4 : decode cX6_isGood 4 = .ok (.iload_n 0, 1) := by decide +kernel
theorem dX6_isGood_5 : decode cX6_isGood 5 = .ok (.iconst 4, 1) := by decide +kernel
theorem dX6_isGood_6 : decode cX6_isGood 6 = .ok (.if_icmp .ge 7, 3) := by decide +kernel
theorem dX6_isGood_9 : decode cX6_isGood 9 = .ok (.iconst 1, 1) := by decide +kernel
theorem dX6_isGood_10 : decode cX6_isGood 10 = .ok (.goto 4, 3) := by decide +kernel
theorem dX6_isGood_13 : decode cX6_isGood 13 = .ok (.iconst 0, 1) := by decide +kernel
theorem dX6_isGood_14 : decode cX6_isGood 14 = .ok (.ireturn, 1) := by decide +kernel
theorem dX6_isKind_0 : decode cX6_isKind 0 = .ok (.iload_n 0, 1) := by decide +kernel
theorem dX6_isKind_1 : decode cX6_isKind 1 = .ok (.ifCond .lt 12, 3) := by decide +kernel
theorem dX6_isKind_4 : decode cX6_isKind 4 = .ok (.iload_n 0, 1) := by decide +kernel
theorem dX6_isKind_5 : decode cX6_isKind 5 = .ok (.iconst 5, 1) := by decide +kernel
theorem dX6_isKind_6 : decode cX6_isKind 6 = .ok (.if_icmp .ge 7, 3) := by decide +kernel
theorem dX6_isKind_9 : decode cX6_isKind 9 = .ok (.iconst 1, 1) := by decide +kernel
theorem dX6_isKind_10 : decode cX6_isKind 10 = .ok (.goto 4, 3) := by decide +kernel
theorem dX6_isKind_13 : decode cX6_isKind 13 = .ok (.iconst 0, 1) := by decide +kernel
theorem dX6_isKind_14 : decode cX6_isKind 14 = .ok (.ireturn, 1) := by decide +kernel
theorem dX6_canBe_0 : decode cX6_canBe 0 = .ok (.aload_n 1, 1) := by decide +kernel
theorem dX6_canBe_1 : decode cX6_canBe 1 = .ok (.getfield 144, 3) := by decide +kernel
theorem dX6_canBe_4 : decode cX6_canBe 4 = .ok (.iconst 1, 1) := by decide +kernel
theorem dX6_canBe_5 : decode cX6_canBe 5 = .ok (.if_icmp .lt 58, 3) := by decide +kernel
theorem dX6_canBe_8 : decode cX6_canBe 8 = .ok (.aload_n 1, 1) := by decide +kernel
theorem dX6_canBe_9 : decode cX6_canBe 9 = .ok (.getfield 144, 3) := by decide +kernel
theorem dX6_canBe_12 : decode cX6_canBe 12 = .ok (.bipush 40, 2) := by decide +kernel
theorem dX6_canBe_14 : decode cX6_canBe 14 = .ok (.if_icmp .gt 49, 3) := by decide +kernel
theorem dX6_canBe_17 : decode cX6_canBe 17 = .ok (.aload_n 1, 1) := by decide +kernel
theorem dX6_canBe_18 : decode cX6_canBe 18 = .ok (.getfield 181, 3) := by decide +kernel
theorem dX6_canBe_21 : decode cX6_canBe 21 = .ok (.iconst 1, 1) := by decide +kernel
theorem dX6_canBe_22 : decode cX6_canBe 22 = .ok (.if_icmp .lt 41, 3) := by decide +kernel
theorem dX6_canBe_25 : decode cX6_canBe 25 = .ok (.aload_n 1, 1) := by decide +kernel
theorem dX6_canBe_26 : decode cX6_canBe 26 = .ok (.getfield 178, 3) := by decide +kernel
theorem dX6_canBe_29 : decode cX6_canBe 29 = .ok (.invokestatic 71, 3) := by decide +kernel
theorem dX6_canBe_32 : decode cX6_canBe 32 = .ok (.ifCond .eq 31, 3) := by decide +kernel
theorem dX6_canBe_35 : decode cX6_canBe 35 = .ok (.aload_n 1, 1) := by decide +kernel
theorem dX6_canBe_36 : decode cX6_canBe 36 = .ok (.getfield 128, 3) := by decide +kernel
theorem dX6_canBe_39 : decode cX6_canBe 39 = .ok (.invokestatic 84, 3) := by decide +kernel
theorem dX6_canBe_42 : decode cX6_canBe 42 = .ok (.ifCond .eq 21, 3) := by decide +kernel
theorem dX6_canBe_45 : decode cX6_canBe 45 = .ok (.aload_n 0, 1) := by decide +kernel
theorem dX6_canBe_46 : decode cX6_canBe 46 = .ok (.getfield 10, 3) := by decide +kernel
theorem dX6_canBe_49 : decode cX6_canBe 49 = .ok (.aload_n 1, 1) := by decide +kernel
theorem dX6_canBe_50 : decode cX6_canBe 50 = .ok (.getfield 184, 3) := by decide +kernel
theorem dX6_canBe_53 : decode cX6_canBe 53 = .ok (.invokevirtual 56, 3) := by decide +kernel
theorem dX6_canBe_56 : decode cX6_canBe 56 = .ok (.ifCond .eq 7, 3) := by decide +kernel
theorem dX6_canBe_59 : decode cX6_canBe 59 = .ok (.iconst 1, 1) := by decide +kernel
theorem dX6_canBe_60 : decode cX6_canBe 60 = .ok (.goto 4, 3) := by decide +kernel
theorem dX6_canBe_63 : decode cX6_canBe 63 = .ok (.iconst 0, 1) := by decide +kernel
theorem dX6_canBe_64 : decode cX6_canBe 64 = .ok (.ireturn, 1) := by decide +kernel
theorem dX6_mayLean_0 : decode cX6_mayLean 0 = .ok (.aload_n 1, 1) := by decide +kernel
theorem dX6_mayLean_1 : decode cX6_mayLean 1 = .ok (.aload_n 2, 1) := by decide +kernel
theorem dX6_mayLean_2 : decode cX6_mayLean 2 = .ok (.if_acmp .eq 29, 3) := by decide +kernel
theorem dX6_mayLean_5 : decode cX6_mayLean 5 = .ok (.aload_n 2, 1) := by decide +kernel
theorem dX6_mayLean_6 : decode cX6_mayLean 6 = .ok (.aload_n 1, 1) := by decide +kernel
theorem dX6_mayLean_7 : decode cX6_mayLean 7 = .ok (.invokevirtual 291, 3) := by decide +kernel
theorem dX6_mayLean_10 : decode cX6_mayLean 10 = .ok (.ifCond .ne 21, 3) := by decide +kernel
theorem dX6_mayLean_13 : decode cX6_mayLean 13 = .ok (.aload_n 1, 1) := by decide +kernel
theorem dX6_mayLean_14 : decode cX6_mayLean 14 = .ok (.aload_n 0, 1) := by decide +kernel
theorem dX6_mayLean_15 : decode cX6_mayLean 15 = .ok (.getfield 26, 3) := by decide +kernel
theorem dX6_mayLean_18 : decode cX6_mayLean 18 = .ok (.getfield 138, 3) := by decide +kernel
theorem dX6_mayLean_21 : decode cX6_mayLean 21 = .ok (.invokevirtual 141, 3) := by decide +kernel
theorem dX6_mayLean_24 : decode cX6_mayLean 24 = .ok (.ifCond .ne 7, 3) := by decide +kernel
theorem dX6_mayLean_27 : decode cX6_mayLean 27 = .ok (.iconst 1, 1) := by decide +kernel
theorem dX6_mayLean_28 : decode cX6_mayLean 28 = .ok (.goto 4, 3) := by decide +kernel
theorem dX6_mayLean_31 : decode cX6_mayLean 31 = .ok (.iconst 0, 1) := by decide +kernel
theorem dX6_mayLean_32 : decode cX6_mayLean 32 = .ok (.ireturn, 1) := by decide +kernel
theorem dX6_partOfBreak_0 : decode cX6_partOfBreak 0 = .ok (.iload_n 3, 1) := by decide +kernel
theorem dX6_partOfBreak_1 : decode cX6_partOfBreak 1 = .ok (.tableswitch 44 0 2 #[27, 32, 34], 27) := by decide +kernel
theorem dX6_partOfBreak_28 : decode cX6_partOfBreak 28 = .ok (.aload_n 1, 1) := by decide +kernel
theorem dX6_partOfBreak_29 : decode cX6_partOfBreak 29 = .ok (.getfield 110, 3) := by decide +kernel
theorem dX6_partOfBreak_32 : decode cX6_partOfBreak 32 = .ok (.ireturn, 1) := by decide +kernel
theorem dX6_partOfBreak_33 : decode cX6_partOfBreak 33 = .ok (.iload_n 2, 1) := by decide +kernel
theorem dX6_partOfBreak_34 : decode cX6_partOfBreak 34 = .ok (.ireturn, 1) := by decide +kernel
theorem dX6_partOfBreak_35 : decode cX6_partOfBreak 35 = .ok (.aload_n 0, 1) := by decide +kernel
theorem dX6_partOfBreak_36 : decode cX6_partOfBreak 36 = .ok (.getfield 35, 3) := by decide +kernel
theorem dX6_partOfBreak_39 : decode cX6_partOfBreak 39 = .ok (.aload_n 1, 1) := by decide +kernel
theorem dX6_partOfBreak_40 : decode cX6_partOfBreak 40 = .ok (.iload_n 2, 1) := by decide +kernel
theorem dX6_partOfBreak_41 : decode cX6_partOfBreak 41 = .ok (.invokevirtual 294, 3) := by decide +kernel
theorem dX6_partOfBreak_44 : decode cX6_partOfBreak 44 = .ok (.ireturn, 1) := by decide +kernel
theorem dX6_partOfBreak_45 : decode cX6_partOfBreak 45 = .ok (.iconst (-1), 1) := by decide +kernel
theorem dX6_partOfBreak_46 : decode cX6_partOfBreak 46 = .ok (.ireturn, 1) := by decide +kernel
theorem dX6_stateOf_0 : decode cX6_stateOf 0 = .ok (.aload_n 1, 1) := by decide +kernel
theorem dX6_stateOf_1 : decode cX6_stateOf 1 = .ok (.invokevirtual 154, 3) := by decide +kernel
theorem dX6_stateOf_4 : decode cX6_stateOf 4 = .ok (.ifCond .eq 5, 3) := by decide +kernel
theorem dX6_stateOf_7 : decode cX6_stateOf 7 = .ok (.iconst 0, 1) := by decide +kernel
theorem dX6_stateOf_8 : decode cX6_stateOf 8 = .ok (.ireturn, 1) := by decide +kernel
theorem dX6_stateOf_9 : decode cX6_stateOf 9 = .ok (.aload_n 1, 1) := by decide +kernel
theorem dX6_stateOf_10 : decode cX6_stateOf 10 = .ok (.aload_n 0, 1) := by decide +kernel
theorem dX6_stateOf_11 : decode cX6_stateOf 11 = .ok (.getfield 26, 3) := by decide +kernel
theorem dX6_stateOf_14 : decode cX6_stateOf 14 = .ok (.getfield 138, 3) := by decide +kernel
theorem dX6_stateOf_17 : decode cX6_stateOf 17 = .ok (.invokevirtual 271, 3) := by decide +kernel
theorem dX6_stateOf_20 : decode cX6_stateOf 20 = .ok (.ifCond .eq 5, 3) := by decide +kernel
theorem dX6_stateOf_23 : decode cX6_stateOf 23 = .ok (.iconst 3, 1) := by decide +kernel
theorem dX6_stateOf_24 : decode cX6_stateOf 24 = .ok (.ireturn, 1) := by decide +kernel
theorem dX6_stateOf_25 : decode cX6_stateOf 25 = .ok (.aload_n 1, 1) := by decide +kernel
theorem dX6_stateOf_26 : decode cX6_stateOf 26 = .ok (.aload_n 0, 1) := by decide +kernel
theorem dX6_stateOf_27 : decode cX6_stateOf 27 = .ok (.getfield 26, 3) := by decide +kernel
theorem dX6_stateOf_30 : decode cX6_stateOf 30 = .ok (.getfield 138, 3) := by decide +kernel
theorem dX6_stateOf_33 : decode cX6_stateOf 33 = .ok (.invokevirtual 141, 3) := by decide +kernel
theorem dX6_stateOf_36 : decode cX6_stateOf 36 = .ok (.ifCond .eq 7, 3) := by decide +kernel
theorem dX6_stateOf_39 : decode cX6_stateOf 39 = .ok (.iconst 2, 1) := by decide +kernel
theorem dX6_stateOf_40 : decode cX6_stateOf 40 = .ok (.goto 4, 3) := by decide +kernel
theorem dX6_stateOf_43 : decode cX6_stateOf 43 = .ok (.iconst 1, 1) := by decide +kernel
theorem dX6_stateOf_44 : decode cX6_stateOf 44 = .ok (.ireturn, 1) := by decide +kernel
theorem dX6_shiftsFor_0 : decode cX6_shiftsFor 0 = .ok (.iload_n 0, 1) := by decide +kernel
theorem dX6_shiftsFor_1 : decode cX6_shiftsFor 1 = .ok (.ifCond .ne 5, 3) := by decide +kernel
theorem dX6_shiftsFor_4 : decode cX6_shiftsFor 4 = .ok (.iconst 0, 1) := by decide +kernel
theorem dX6_shiftsFor_5 : decode cX6_shiftsFor 5 = .ok (.ireturn, 1) := by decide +kernel
theorem dX6_shiftsFor_6 : decode cX6_shiftsFor 6 = .ok (.iload_n 1, 1) := by decide +kernel
theorem dX6_shiftsFor_7 : decode cX6_shiftsFor 7 = .ok (.iconst 1, 1) := by decide +kernel
theorem dX6_shiftsFor_8 : decode cX6_shiftsFor 8 = .ok (.if_icmp .ge 7, 3) := by decide +kernel
theorem dX6_shiftsFor_11 : decode cX6_shiftsFor 11 = .ok (.iconst (-1), 1) := by decide +kernel
theorem dX6_shiftsFor_12 : decode cX6_shiftsFor 12 = .ok (.goto 10, 3) := by decide +kernel
theorem dX6_shiftsFor_15 : decode cX6_shiftsFor 15 = .ok (.iload_n 0, 1) := by decide +kernel
theorem dX6_shiftsFor_16 : decode cX6_shiftsFor 16 = .ok (.iload_n 1, 1) := by decide +kernel
theorem dX6_shiftsFor_17 : decode cX6_shiftsFor 17 = .ok (.iadd, 1) := by decide +kernel
theorem dX6_shiftsFor_18 : decode cX6_shiftsFor 18 = .ok (.iconst 1, 1) := by decide +kernel
theorem dX6_shiftsFor_19 : decode cX6_shiftsFor 19 = .ok (.isub, 1) := by decide +kernel
theorem dX6_shiftsFor_20 : decode cX6_shiftsFor 20 = .ok (.iload_n 1, 1) := by decide +kernel
theorem dX6_shiftsFor_21 : decode cX6_shiftsFor 21 = .ok (.idiv, 1) := by decide +kernel
theorem dX6_shiftsFor_22 : decode cX6_shiftsFor 22 = .ok (.ireturn, 1) := by decide +kernel
theorem dX6_greater_0 : decode cX6_greater 0 = .ok (.iload_n 0, 1) := by decide +kernel
theorem dX6_greater_1 : decode cX6_greater 1 = .ok (.iconst (-1), 1) := by decide +kernel
theorem dX6_greater_2 : decode cX6_greater 2 = .ok (.if_icmp .eq 8, 3) := by decide +kernel
theorem dX6_greater_5 : decode cX6_greater 5 = .ok (.iload_n 1, 1) := by decide +kernel
theorem dX6_greater_6 : decode cX6_greater 6 = .ok (.iconst (-1), 1) := by decide +kernel
theorem dX6_greater_7 : decode cX6_greater 7 = .ok (.if_icmp .ne 7, 3) := by decide +kernel
theorem dX6_greater_10 : decode cX6_greater 10 = .ok (.iconst (-1), 1) := by decide +kernel
theorem dX6_greater_11 : decode cX6_greater 11 = .ok (.goto 8, 3) := by decide +kernel
theorem dX6_greater_14 : decode cX6_greater 14 = .ok (.iload_n 0, 1) := by decide +kernel
theorem dX6_greater_15 : decode cX6_greater 15 = .ok (.iload_n 1, 1) := by decide +kernel
theorem dX6_greater_16 : decode cX6_greater 16 = .ok (.invokestatic 242, 3) := by decide +kernel
theorem dX6_greater_19 : decode cX6_greater 19 = .ok (.ireturn, 1) := by decide +kernel
theorem dX7_init_0 : decode cX7_init 0 = .ok (.aload_n 0, 1) := by decide +kernel
theorem dX7_init_1 : decode cX7_init 1 = .ok (.invokespecial 1, 3) := by decide +kernel
theorem dX7_init_4 : decode cX7_init 4 = .ok (.aload_n 0, 1) := by decide +kernel
theorem dX7_init_5 : decode cX7_init 5 = .ok (.bipush 20, 2) := by decide +kernel
theorem dX7_init_7 : decode cX7_init 7 = .ok (.newarray .int, 2) := by decide +kernel
theorem dX7_init_9 : decode cX7_init 9 = .ok (.putfield 9, 3) := by decide +kernel
theorem dX7_init_12 : decode cX7_init 12 = .ok (.aload_n 0, 1) := by decide +kernel
theorem dX7_init_13 : decode cX7_init 13 = .ok (.sipush 400, 3) := by decide +kernel
theorem dX7_init_16 : decode cX7_init 16 = .ok (.newarray .boolean, 2) := by decide +kernel
theorem dX7_init_18 : decode cX7_init 18 = .ok (.putfield 13, 3) := by decide +kernel
theorem dX7_init_21 : decode cX7_init 21 = .ok (.aload_n 0, 1) := by decide +kernel
theorem dX7_init_22 : decode cX7_init 22 = .ok (.iconst 4, 1) := by decide +kernel
theorem dX7_init_23 : decode cX7_init 23 = .ok (.newarray .int, 2) := by decide +kernel
theorem dX7_init_25 : decode cX7_init 25 = .ok (.dup, 1) := by decide +kernel
theorem dX7_init_26 : decode cX7_init 26 = .ok (.iconst 0, 1) := by decide +kernel
theorem dX7_init_27 : decode cX7_init 27 = .ok (.iconst 4, 1) := by decide +kernel
theorem dX7_init_28 : decode cX7_init 28 = .ok (.iastore, 1) := by decide +kernel
theorem dX7_init_29 : decode cX7_init 29 = .ok (.dup, 1) := by decide +kernel
theorem dX7_init_30 : decode cX7_init 30 = .ok (.iconst 1, 1) := by decide +kernel
theorem dX7_init_31 : decode cX7_init 31 = .ok (.iconst 4, 1) := by decide +kernel
theorem dX7_init_32 : decode cX7_init 32 = .ok (.iastore, 1) := by decide +kernel
theorem dX7_init_33 : decode cX7_init 33 = .ok (.dup, 1) := by decide +kernel
theorem dX7_init_34 : decode cX7_init 34 = .ok (.iconst 2, 1) := by decide +kernel
theorem dX7_init_35 : decode cX7_init 35 = .ok (.iconst 4, 1) := by decide +kernel
theorem dX7_init_36 : decode cX7_init 36 = .ok (.iastore, 1) := by decide +kernel
theorem dX7_init_37 : decode cX7_init 37 = .ok (.dup, 1) := by decide +kernel
theorem dX7_init_38 : decode cX7_init 38 = .ok (.iconst 3, 1) := by decide +kernel
theorem dX7_init_39 : decode cX7_init 39 = .ok (.iconst 4, 1) := by decide +kernel
theorem dX7_init_40 : decode cX7_init 40 = .ok (.iastore, 1) := by decide +kernel
theorem dX7_init_41 : decode cX7_init 41 = .ok (.putfield 17, 3) := by decide +kernel
theorem dX7_init_44 : decode cX7_init 44 = .ok (.aload_n 0, 1) := by decide +kernel
theorem dX7_init_45 : decode cX7_init 45 = .ok (.iconst 4, 1) := by decide +kernel
theorem dX7_init_46 : decode cX7_init 46 = .ok (.newarray .int, 2) := by decide +kernel
theorem dX7_init_48 : decode cX7_init 48 = .ok (.dup, 1) := by decide +kernel
theorem dX7_init_49 : decode cX7_init 49 = .ok (.iconst 0, 1) := by decide +kernel
theorem dX7_init_50 : decode cX7_init 50 = .ok (.iconst 1, 1) := by decide +kernel
theorem dX7_init_51 : decode cX7_init 51 = .ok (.iastore, 1) := by decide +kernel
theorem dX7_init_52 : decode cX7_init 52 = .ok (.dup, 1) := by decide +kernel
theorem dX7_init_53 : decode cX7_init 53 = .ok (.iconst 1, 1) := by decide +kernel
theorem dX7_init_54 : decode cX7_init 54 = .ok (.iconst 1, 1) := by decide +kernel
theorem dX7_init_55 : decode cX7_init 55 = .ok (.iastore, 1) := by decide +kernel
theorem dX7_init_56 : decode cX7_init 56 = .ok (.dup, 1) := by decide +kernel
theorem dX7_init_57 : decode cX7_init 57 = .ok (.iconst 2, 1) := by decide +kernel
theorem dX7_init_58 : decode cX7_init 58 = .ok (.iconst 1, 1) := by decide +kernel
theorem dX7_init_59 : decode cX7_init 59 = .ok (.iastore, 1) := by decide +kernel
theorem dX7_init_60 : decode cX7_init 60 = .ok (.dup, 1) := by decide +kernel
theorem dX7_init_61 : decode cX7_init 61 = .ok (.iconst 3, 1) := by decide +kernel
theorem dX7_init_62 : decode cX7_init 62 = .ok (.iconst 1, 1) := by decide +kernel
theorem dX7_init_63 : decode cX7_init 63 = .ok (.iastore, 1) := by decide +kernel
theorem dX7_init_64 : decode cX7_init 64 = .ok (.putfield 20, 3) := by decide +kernel
theorem dX7_init_67 : decode cX7_init 67 = .ok (.aload_n 0, 1) := by decide +kernel
theorem dX7_init_68 : decode cX7_init 68 = .ok (.bipush 25, 2) := by decide +kernel
theorem dX7_init_70 : decode cX7_init 70 = .ok (.newarray .int, 2) := by decide +kernel
theorem dX7_init_72 : decode cX7_init 72 = .ok (.putfield 23, 3) := by decide +kernel
theorem dX7_init_75 : decode cX7_init 75 = .ok (.aload_n 0, 1) := by decide +kernel
theorem dX7_init_76 : decode cX7_init 76 = .ok (.bipush 40, 2) := by decide +kernel
theorem dX7_init_78 : decode cX7_init 78 = .ok (.newarray .int, 2) := by decide +kernel
theorem dX7_init_80 : decode cX7_init 80 = .ok (.putfield 26, 3) := by decide +kernel
theorem dX7_init_83 : decode cX7_init 83 = .ok (.aload_n 0, 1) := by decide +kernel
theorem dX7_init_84 : decode cX7_init 84 = .ok (.bipush 40, 2) := by decide +kernel
theorem dX7_init_86 : decode cX7_init 86 = .ok (.newarray .int, 2) := by decide +kernel
theorem dX7_init_88 : decode cX7_init 88 = .ok (.putfield 29, 3) := by decide +kernel
theorem dX7_init_91 : decode cX7_init 91 = .ok (.aload_n 0, 1) := by decide +kernel
theorem dX7_init_92 : decode cX7_init 92 = .ok (.bipush 40, 2) := by decide +kernel
theorem dX7_init_94 : decode cX7_init 94 = .ok (.newarray .int, 2) := by decide +kernel
theorem dX7_init_96 : decode cX7_init 96 = .ok (.putfield 32, 3) := by decide +kernel
theorem dX7_init_99 : decode cX7_init 99 = .ok (.aload_n 0, 1) := by decide +kernel
theorem dX7_init_100 : decode cX7_init 100 = .ok (.bipush 40, 2) := by decide +kernel
theorem dX7_init_102 : decode cX7_init 102 = .ok (.newarray .int, 2) := by decide +kernel
theorem dX7_init_104 : decode cX7_init 104 = .ok (.putfield 35, 3) := by decide +kernel
theorem dX7_init_107 : decode cX7_init 107 = .ok (.aload_n 0, 1) := by decide +kernel
theorem dX7_init_108 : decode cX7_init 108 = .ok (.bipush 40, 2) := by decide +kernel
theorem dX7_init_110 : decode cX7_init 110 = .ok (.newarray .int, 2) := by decide +kernel
theorem dX7_init_112 : decode cX7_init 112 = .ok (.putfield 38, 3) := by decide +kernel
theorem dX7_init_115 : decode cX7_init 115 = .ok (.aload_n 0, 1) := by decide +kernel
theorem dX7_init_116 : decode cX7_init 116 = .ok (.bipush 40, 2) := by decide +kernel
theorem dX7_init_118 : decode cX7_init 118 = .ok (.newarray .int, 2) := by decide +kernel
theorem dX7_init_120 : decode cX7_init 120 = .ok (.putfield 41, 3) := by decide +kernel
theorem dX7_init_123 : decode cX7_init 123 = .ok (.aload_n 0, 1) := by decide +kernel
theorem dX7_init_124 : decode cX7_init 124 = .ok (.bipush 40, 2) := by decide +kernel
theorem dX7_init_126 : decode cX7_init 126 = .ok (.newarray .int, 2) := by decide +kernel
theorem dX7_init_128 : decode cX7_init 128 = .ok (.putfield 44, 3) := by decide +kernel
theorem dX7_init_131 : decode cX7_init 131 = .ok (.aload_n 0, 1) := by decide +kernel
theorem dX7_init_132 : decode cX7_init 132 = .ok (.bipush 40, 2) := by decide +kernel
theorem dX7_init_134 : decode cX7_init 134 = .ok (.newarray .int, 2) := by decide +kernel
theorem dX7_init_136 : decode cX7_init 136 = .ok (.putfield 47, 3) := by decide +kernel
theorem dX7_init_139 : decode cX7_init 139 = .ok (.aload_n 0, 1) := by decide +kernel
theorem dX7_init_140 : decode cX7_init 140 = .ok (.sipush 1600, 3) := by decide +kernel
theorem dX7_init_143 : decode cX7_init 143 = .ok (.newarray .boolean, 2) := by decide +kernel
theorem dX7_init_145 : decode cX7_init 145 = .ok (.putfield 50, 3) := by decide +kernel
theorem dX7_init_148 : decode cX7_init 148 = .ok (.aload_n 0, 1) := by decide +kernel
theorem dX7_init_149 : decode cX7_init 149 = .ok (.sipush 1600, 3) := by decide +kernel
theorem dX7_init_152 : decode cX7_init 152 = .ok (.newarray .boolean, 2) := by decide +kernel
theorem dX7_init_154 : decode cX7_init 154 = .ok (.putfield 53, 3) := by decide +kernel
theorem dX7_init_157 : decode cX7_init 157 = .ok (.aload_n 0, 1) := by decide +kernel
theorem dX7_init_158 : decode cX7_init 158 = .ok (.bipush 40, 2) := by decide +kernel
theorem dX7_init_160 : decode cX7_init 160 = .ok (.newarray .boolean, 2) := by decide +kernel
theorem dX7_init_162 : decode cX7_init 162 = .ok (.putfield 56, 3) := by decide +kernel
theorem dX7_init_165 : decode cX7_init 165 = .ok (.aload_n 0, 1) := by decide +kernel
theorem dX7_init_166 : decode cX7_init 166 = .ok (.bipush 40, 2) := by decide +kernel
theorem dX7_init_168 : decode cX7_init 168 = .ok (.newarray .int, 2) := by decide +kernel
theorem dX7_init_170 : decode cX7_init 170 = .ok (.putfield 59, 3) := by decide +kernel
theorem dX7_init_173 : decode cX7_init 173 = .ok (.aload_n 0, 1) := by decide +kernel
theorem dX7_init_174 : decode cX7_init 174 = .ok (.bipush 40, 2) := by decide +kernel
theorem dX7_init_176 : decode cX7_init 176 = .ok (.newarray .int, 2) := by decide +kernel
theorem dX7_init_178 : decode cX7_init 178 = .ok (.putfield 62, 3) := by decide +kernel
theorem dX7_init_181 : decode cX7_init 181 = .ok (.aload_n 0, 1) := by decide +kernel
theorem dX7_init_182 : decode cX7_init 182 = .ok (.bipush 6, 2) := by decide +kernel
theorem dX7_init_184 : decode cX7_init 184 = .ok (.newarray .int, 2) := by decide +kernel
theorem dX7_init_186 : decode cX7_init 186 = .ok (.putfield 65, 3) := by decide +kernel
theorem dX7_init_189 : decode cX7_init 189 = .ok (.aload_n 0, 1) := by decide +kernel
theorem dX7_init_190 : decode cX7_init 190 = .ok (.bipush 7, 2) := by decide +kernel
theorem dX7_init_192 : decode cX7_init 192 = .ok (.newarray .int, 2) := by decide +kernel
theorem dX7_init_194 : decode cX7_init 194 = .ok (.putfield 68, 3) := by decide +kernel
theorem dX7_init_197 : decode cX7_init 197 = .ok (.aload_n 0, 1) := by decide +kernel
theorem dX7_init_198 : decode cX7_init 198 = .ok (.bipush 6, 2) := by decide +kernel
theorem dX7_init_200 : decode cX7_init 200 = .ok (.newarray .int, 2) := by decide +kernel
theorem dX7_init_202 : decode cX7_init 202 = .ok (.putfield 71, 3) := by decide +kernel
theorem dX7_init_205 : decode cX7_init 205 = .ok (.return_, 1) := by decide +kernel
theorem dX7_in_0 : decode cX7_in 0 = .ok (.iload_n 0, 1) := by decide +kernel
theorem dX7_in_1 : decode cX7_in 1 = .ok (.iload_n 1, 1) := by decide +kernel
theorem dX7_in_2 : decode cX7_in 2 = .ok (.if_icmp .lt 12, 3) := by decide +kernel
theorem dX7_in_5 : decode cX7_in 5 = .ok (.iload_n 0, 1) := by decide +kernel
theorem dX7_in_6 : decode cX7_in 6 = .ok (.iload_n 2, 1) := by decide +kernel
theorem dX7_in_7 : decode cX7_in 7 = .ok (.if_icmp .gt 7, 3) := by decide +kernel
theorem dX7_in_10 : decode cX7_in 10 = .ok (.iconst 1, 1) := by decide +kernel
theorem dX7_in_11 : decode cX7_in 11 = .ok (.goto 4, 3) := by decide +kernel
theorem dX7_in_14 : decode cX7_in 14 = .ok (.iconst 0, 1) := by decide +kernel
theorem dX7_in_15 : decode cX7_in 15 = .ok (.ireturn, 1) := by decide +kernel
theorem dX7_isWork_0 : decode cX7_isWork 0 = .ok (.iload_n 1, 1) := by decide +kernel
theorem dX7_isWork_1 : decode cX7_isWork 1 = .ok (.iconst 0, 1) := by decide +kernel
theorem dX7_isWork_2 : decode cX7_isWork 2 = .ok (.aload_n 0, 1) := by decide +kernel
theorem dX7_isWork_3 : decode cX7_isWork 3 = .ok (.getfield 74, 3) := by decide +kernel
theorem dX7_isWork_6 : decode cX7_isWork 6 = .ok (.iconst 1, 1) := by decide +kernel
theorem dX7_isWork_7 : decode cX7_isWork 7 = .ok (.isub, 1) := by decide +kernel
theorem dX7_isWork_8 : decode cX7_isWork 8 = .ok (.invokestatic 78, 3) := by decide +kernel
theorem dX7_isWork_11 : decode cX7_isWork 11 = .ok (.ireturn, 1) := by decide +kernel
theorem dX7_space_0 : decode cX7_space 0 = .ok (.iload_n 1, 1) := by decide +kernel
theorem dX7_space_1 : decode cX7_space 1 = .ok (.iconst 1, 1) := by decide +kernel
theorem dX7_space_2 : decode cX7_space 2 = .ok (.bipush 9, 2) := by decide +kernel
theorem dX7_space_4 : decode cX7_space 4 = .ok (.invokestatic 78, 3) := by decide +kernel
theorem dX7_space_7 : decode cX7_space 7 = .ok (.ifCond .eq 12, 3) := by decide +kernel
theorem dX7_space_10 : decode cX7_space 10 = .ok (.aload_n 0, 1) := by decide +kernel
theorem dX7_space_11 : decode cX7_space 11 = .ok (.getfield 82, 3) := by decide +kernel
theorem dX7_space_14 : decode cX7_space 14 = .ok (.bipush 20, 2) := by decide +kernel
theorem dX7_space_16 : decode cX7_space 16 = .ok (.if_icmp .ne 5, 3) := by decide +kernel
theorem dX7_space_19 : decode cX7_space 19 = .ok (.iconst (-1), 1) := by decide +kernel
theorem dX7_space_20 : decode cX7_space 20 = .ok (.ireturn, 1) := by decide +kernel
theorem dX7_space_21 : decode cX7_space 21 = .ok (.aload_n 0, 1) := by decide +kernel
theorem dX7_space_22 : decode cX7_space 22 = .ok (.getfield 9, 3) := by decide +kernel
theorem dX7_space_25 : decode cX7_space 25 = .ok (.aload_n 0, 1) := by decide +kernel
theorem dX7_space_26 : decode cX7_space 26 = .ok (.getfield 82, 3) := by decide +kernel
theorem dX7_space_29 : decode cX7_space 29 = .ok (.iload_n 1, 1) := by decide +kernel
theorem dX7_space_30 : decode cX7_space 30 = .ok (.iastore, 1) := by decide +kernel
theorem dX7_space_31 : decode cX7_space 31 = .ok (.aload_n 0, 1) := by decide +kernel
theorem dX7_space_32 : decode cX7_space 32 = .ok (.dup, 1) := by decide +kernel
theorem dX7_space_33 : decode cX7_space 33 = .ok (.getfield 82, 3) := by decide +kernel
theorem dX7_space_36 : decode cX7_space 36 = .ok (.iconst 1, 1) := by decide +kernel
theorem dX7_space_37 : decode cX7_space 37 = .ok (.iadd, 1) := by decide +kernel
theorem dX7_space_38 : decode cX7_space 38 = .ok (.putfield 82, 3) := by decide +kernel
theorem dX7_space_41 : decode cX7_space 41 = .ok (.aload_n 0, 1) := by decide +kernel
theorem dX7_space_42 : decode cX7_space 42 = .ok (.getfield 82, 3) := by decide +kernel
theorem dX7_space_45 : decode cX7_space 45 = .ok (.iconst 1, 1) := by decide +kernel
theorem dX7_space_46 : decode cX7_space 46 = .ok (.isub, 1) := by decide +kernel
theorem dX7_space_47 : decode cX7_space 47 = .ok (.ireturn, 1) := by decide +kernel
theorem dX7_near_0 : decode cX7_near 0 = .ok (.iload_n 1, 1) := by decide +kernel
theorem dX7_near_1 : decode cX7_near 1 = .ok (.iconst 0, 1) := by decide +kernel
theorem dX7_near_2 : decode cX7_near 2 = .ok (.aload_n 0, 1) := by decide +kernel
theorem dX7_near_3 : decode cX7_near 3 = .ok (.getfield 82, 3) := by decide +kernel
theorem dX7_near_6 : decode cX7_near 6 = .ok (.iconst 1, 1) := by decide +kernel
theorem dX7_near_7 : decode cX7_near 7 = .ok (.isub, 1) := by decide +kernel
theorem dX7_near_8 : decode cX7_near 8 = .ok (.invokestatic 78, 3) := by decide +kernel
theorem dX7_near_11 : decode cX7_near 11 = .ok (.ifCond .eq 36, 3) := by decide +kernel
theorem dX7_near_14 : decode cX7_near 14 = .ok (.iload_n 2, 1) := by decide +kernel
theorem dX7_near_15 : decode cX7_near 15 = .ok (.iconst 0, 1) := by decide +kernel
theorem dX7_near_16 : decode cX7_near 16 = .ok (.aload_n 0, 1) := by decide +kernel
theorem dX7_near_17 : decode cX7_near 17 = .ok (.getfield 82, 3) := by decide +kernel
theorem dX7_near_20 : decode cX7_near 20 = .ok (.iconst 1, 1) := by decide +kernel
theorem dX7_near_21 : decode cX7_near 21 = .ok (.isub, 1) := by decide +kernel
theorem dX7_near_22 : decode cX7_near 22 = .ok (.invokestatic 78, 3) := by decide +kernel
theorem dX7_near_25 : decode cX7_near 25 = .ok (.ifCond .eq 22, 3) := by decide +kernel
theorem dX7_near_28 : decode cX7_near 28 = .ok (.iload_n 1, 1) := by decide +kernel
theorem dX7_near_29 : decode cX7_near 29 = .ok (.iload_n 2, 1) := by decide +kernel
theorem dX7_near_30 : decode cX7_near 30 = .ok (.if_icmp .eq 17, 3) := by decide +kernel
theorem dX7_near_33 : decode cX7_near 33 = .ok (.aload_n 0, 1) := by decide +kernel
theorem dX7_near_34 : decode cX7_near 34 = .ok (.getfield 13, 3) := by decide +kernel
theorem dX7_near_37 : decode cX7_near 37 = .ok (.bipush 20, 2) := by decide +kernel
theorem dX7_near_39 : decode cX7_near 39 = .ok (.iload_n 1, 1) := by decide +kernel
theorem dX7_near_40 : decode cX7_near 40 = .ok (.imul, 1) := by decide +kernel
theorem dX7_near_41 : decode cX7_near 41 = .ok (.iload_n 2, 1) := by decide +kernel
theorem dX7_near_42 : decode cX7_near 42 = .ok (.iadd, 1) := by decide +kernel
theorem dX7_near_43 : decode cX7_near 43 = .ok (.baload, 1) := by decide +kernel
theorem dX7_near_44 : decode cX7_near 44 = .ok (.ifCond .eq 5, 3) := by decide +kernel
theorem dX7_near_47 : decode cX7_near 47 = .ok (.iconst 0, 1) := by decide +kernel
theorem dX7_near_48 : decode cX7_near 48 = .ok (.ireturn, 1) := by decide +kernel
theorem dX7_near_49 : decode cX7_near 49 = .ok (.aload_n 0, 1) := by decide +kernel
theorem dX7_near_50 : decode cX7_near 50 = .ok (.getfield 13, 3) := by decide +kernel
theorem dX7_near_53 : decode cX7_near 53 = .ok (.bipush 20, 2) := by decide +kernel
theorem dX7_near_55 : decode cX7_near 55 = .ok (.iload_n 1, 1) := by decide +kernel
theorem dX7_near_56 : decode cX7_near 56 = .ok (.imul, 1) := by decide +kernel
theorem dX7_near_57 : decode cX7_near 57 = .ok (.iload_n 2, 1) := by decide +kernel
theorem dX7_near_58 : decode cX7_near 58 = .ok (.iadd, 1) := by decide +kernel
theorem dX7_near_59 : decode cX7_near 59 = .ok (.iconst 1, 1) := by decide +kernel
theorem dX7_near_60 : decode cX7_near 60 = .ok (.bastore, 1) := by decide +kernel
theorem dX7_near_61 : decode cX7_near 61 = .ok (.aload_n 0, 1) := by decide +kernel
theorem dX7_near_62 : decode cX7_near 62 = .ok (.getfield 13, 3) := by decide +kernel
theorem dX7_near_65 : decode cX7_near 65 = .ok (.bipush 20, 2) := by decide +kernel
theorem dX7_near_67 : decode cX7_near 67 = .ok (.iload_n 2, 1) := by decide +kernel
theorem dX7_near_68 : decode cX7_near 68 = .ok (.imul, 1) := by decide +kernel
theorem dX7_near_69 : decode cX7_near 69 = .ok (.iload_n 1, 1) := by decide +kernel
theorem dX7_near_70 : decode cX7_near 70 = .ok (.iadd, 1) := by decide +kernel
theorem dX7_near_71 : decode cX7_near 71 = .ok (.iconst 1, 1) := by decide +kernel
theorem dX7_near_72 : decode cX7_near 72 = .ok (.bastore, 1) := by decide +kernel
theorem dX7_near_73 : decode cX7_near 73 = .ok (.iconst 1, 1) := by decide +kernel
theorem dX7_near_74 : decode cX7_near 74 = .ok (.ireturn, 1) := by decide +kernel
theorem dX7_gang_0 : decode cX7_gang 0 = .ok (.iload_n 1, 1) := by decide +kernel
theorem dX7_gang_1 : decode cX7_gang 1 = .ok (.iconst 0, 1) := by decide +kernel
theorem dX7_gang_2 : decode cX7_gang 2 = .ok (.iconst 3, 1) := by decide +kernel
theorem dX7_gang_3 : decode cX7_gang 3 = .ok (.invokestatic 78, 3) := by decide +kernel
theorem dX7_gang_6 : decode cX7_gang 6 = .ok (.ifCond .eq 13, 3) := by decide +kernel
theorem dX7_gang_9 : decode cX7_gang 9 = .ok (.iload_n 2, 1) := by decide +kernel
theorem dX7_gang_10 : decode cX7_gang 10 = .ok (.iconst 0, 1) := by decide +kernel
theorem dX7_gang_11 : decode cX7_gang 11 = .ok (.bipush 99, 2) := by decide +kernel
theorem dX7_gang_13 : decode cX7_gang 13 = .ok (.invokestatic 78, 3) := by decide +kernel
theorem dX7_gang_16 : decode cX7_gang 16 = .ok (.ifCond .ne 5, 3) := by decide +kernel
theorem dX7_gang_19 : decode cX7_gang 19 = .ok (.iconst 0, 1) := by decide +kernel
theorem dX7_gang_20 : decode cX7_gang 20 = .ok (.ireturn, 1) := by decide +kernel
theorem dX7_gang_21 : decode cX7_gang 21 = .ok (.aload_n 0, 1) := by decide +kernel
theorem dX7_gang_22 : decode cX7_gang 22 = .ok (.getfield 17, 3) := by decide +kernel
theorem dX7_gang_25 : decode cX7_gang 25 = .ok (.iload_n 1, 1) := by decide +kernel
theorem dX7_gang_26 : decode cX7_gang 26 = .ok (.iload_n 2, 1) := by decide +kernel
theorem dX7_gang_27 : decode cX7_gang 27 = .ok (.iastore, 1) := by decide +kernel
theorem dX7_gang_28 : decode cX7_gang 28 = .ok (.iconst 1, 1) := by decide +kernel
theorem dX7_gang_29 : decode cX7_gang 29 = .ok (.ireturn, 1) := by decide +kernel
theorem dX7_good_0 : decode cX7_good 0 = .ok (.iload_n 1, 1) := by decide +kernel
theorem dX7_good_1 : decode cX7_good 1 = .ok (.iconst 0, 1) := by decide +kernel
theorem dX7_good_2 : decode cX7_good 2 = .ok (.iconst 3, 1) := by decide +kernel
theorem dX7_good_3 : decode cX7_good 3 = .ok (.invokestatic 78, 3) := by decide +kernel
theorem dX7_good_6 : decode cX7_good 6 = .ok (.ifCond .eq 13, 3) := by decide +kernel
theorem dX7_good_9 : decode cX7_good 9 = .ok (.iload_n 2, 1) := by decide +kernel
theorem dX7_good_10 : decode cX7_good 10 = .ok (.iconst 0, 1) := by decide +kernel
theorem dX7_good_11 : decode cX7_good 11 = .ok (.bipush 9, 2) := by decide +kernel
theorem dX7_good_13 : decode cX7_good 13 = .ok (.invokestatic 78, 3) := by decide +kernel
theorem dX7_good_16 : decode cX7_good 16 = .ok (.ifCond .ne 5, 3) := by decide +kernel
theorem dX7_good_19 : decode cX7_good 19 = .ok (.iconst 0, 1) := by decide +kernel
theorem dX7_good_20 : decode cX7_good 20 = .ok (.ireturn, 1) := by decide +kernel
theorem dX7_good_21 : decode cX7_good 21 = .ok (.aload_n 0, 1) := by decide +kernel
theorem dX7_good_22 : decode cX7_good 22 = .ok (.getfield 20, 3) := by decide +kernel
theorem dX7_good_25 : decode cX7_good 25 = .ok (.iload_n 1, 1) := by decide +kernel
theorem dX7_good_26 : decode cX7_good 26 = .ok (.iload_n 2, 1) := by decide +kernel
theorem dX7_good_27 : decode cX7_good 27 = .ok (.iastore, 1) := by decide +kernel
theorem dX7_good_28 : decode cX7_good 28 = .ok (.iconst 1, 1) := by decide +kernel
theorem dX7_good_29 : decode cX7_good 29 = .ok (.ireturn, 1) := by decide +kernel
theorem dX7_bar_0 : decode cX7_bar 0 = .ok (.iload_n 1, 1) := by decide +kernel
theorem dX7_bar_1 : decode cX7_bar 1 = .ok (.iconst 0, 1) := by decide +kernel
theorem dX7_bar_2 : decode cX7_bar 2 = .ok (.iconst 4, 1) := by decide +kernel
theorem dX7_bar_3 : decode cX7_bar 3 = .ok (.invokestatic 78, 3) := by decide +kernel
theorem dX7_bar_6 : decode cX7_bar 6 = .ok (.ifCond .eq 39, 3) := by decide +kernel
theorem dX7_bar_9 : decode cX7_bar 9 = .ok (.iload_n 2, 1) := by decide +kernel
theorem dX7_bar_10 : decode cX7_bar 10 = .ok (.iconst 0, 1) := by decide +kernel
theorem dX7_bar_11 : decode cX7_bar 11 = .ok (.iconst 4, 1) := by decide +kernel
theorem dX7_bar_12 : decode cX7_bar 12 = .ok (.invokestatic 78, 3) := by decide +kernel
theorem dX7_bar_15 : decode cX7_bar 15 = .ok (.ifCond .eq 30, 3) := by decide +kernel
theorem dX7_bar_18 : decode cX7_bar 18 = .ok (.iload_n 3, 1) := by decide +kernel
theorem dX7_bar_19 : decode cX7_bar 19 = .ok (.iconst 0, 1) := by decide +kernel
theorem dX7_bar_20 : decode cX7_bar 20 = .ok (.iconst 2, 1) := by decide +kernel
end
section
theorem dX7_bar_21 : decode cX7_bar 21 = .ok (.invokestatic 78, 3) := by decide +kernel
theorem dX7_bar_24 : decode cX7_bar 24 = .ok (.ifCond .eq 21, 3) := by decide +kernel
theorem dX7_bar_27 : decode cX7_bar 27 = .ok (.aload_n 0, 1) := by decide +kernel
theorem dX7_bar_28 : decode cX7_bar 28 = .ok (.getfield 23, 3) := by decide +kernel
theorem dX7_bar_31 : decode cX7_bar 31 = .ok (.iconst 5, 1) := by decide +kernel
theorem dX7_bar_32 : decode cX7_bar 32 = .ok (.iload_n 1, 1) := by decide +kernel
theorem dX7_bar_33 : decode cX7_bar 33 = .ok (.imul, 1) := by decide +kernel
theorem dX7_bar_34 : decode cX7_bar 34 = .ok (.iload_n 2, 1) := by decide +kernel
theorem dX7_bar_35 : decode cX7_bar 35 = .ok (.iadd, 1) := by decide +kernel
theorem dX7_bar_36 : decode cX7_bar 36 = .ok (.iaload, 1) := by decide +kernel
theorem dX7_bar_37 : decode cX7_bar 37 = .ok (.iload_n 3, 1) := by decide +kernel
theorem dX7_bar_38 : decode cX7_bar 38 = .ok (.ishr, 1) := by decide +kernel
theorem dX7_bar_39 : decode cX7_bar 39 = .ok (.iconst 1, 1) := by decide +kernel
theorem dX7_bar_40 : decode cX7_bar 40 = .ok (.iand, 1) := by decide +kernel
theorem dX7_bar_41 : decode cX7_bar 41 = .ok (.iconst 1, 1) := by decide +kernel
theorem dX7_bar_42 : decode cX7_bar 42 = .ok (.if_icmp .ne 5, 3) := by decide +kernel
theorem dX7_bar_45 : decode cX7_bar 45 = .ok (.iconst 0, 1) := by decide +kernel
theorem dX7_bar_46 : decode cX7_bar 46 = .ok (.ireturn, 1) := by decide +kernel
theorem dX7_bar_47 : decode cX7_bar 47 = .ok (.aload_n 0, 1) := by decide +kernel
theorem dX7_bar_48 : decode cX7_bar 48 = .ok (.getfield 23, 3) := by decide +kernel
theorem dX7_bar_51 : decode cX7_bar 51 = .ok (.iconst 5, 1) := by decide +kernel
theorem dX7_bar_52 : decode cX7_bar 52 = .ok (.iload_n 1, 1) := by decide +kernel
theorem dX7_bar_53 : decode cX7_bar 53 = .ok (.imul, 1) := by decide +kernel
theorem dX7_bar_54 : decode cX7_bar 54 = .ok (.iload_n 2, 1) := by decide +kernel
theorem dX7_bar_55 : decode cX7_bar 55 = .ok (.iadd, 1) := by decide +kernel
theorem dX7_bar_56 : decode cX7_bar 56 = .ok (.dup2, 1) := by decide +kernel
theorem dX7_bar_57 : decode cX7_bar 57 = .ok (.iaload, 1) := by decide +kernel
theorem dX7_bar_58 : decode cX7_bar 58 = .ok (.iconst 1, 1) := by decide +kernel
theorem dX7_bar_59 : decode cX7_bar 59 = .ok (.iload_n 3, 1) := by decide +kernel
theorem dX7_bar_60 : decode cX7_bar 60 = .ok (.ishl, 1) := by decide +kernel
theorem dX7_bar_61 : decode cX7_bar 61 = .ok (.ior, 1) := by decide +kernel
theorem dX7_bar_62 : decode cX7_bar 62 = .ok (.iastore, 1) := by decide +kernel
theorem dX7_bar_63 : decode cX7_bar 63 = .ok (.iload_n 1, 1) := by decide +kernel
theorem dX7_bar_64 : decode cX7_bar 64 = .ok (.iload_n 2, 1) := by decide +kernel
theorem dX7_bar_65 : decode cX7_bar 65 = .ok (.if_icmp .eq 19, 3) := by decide +kernel
theorem dX7_bar_68 : decode cX7_bar 68 = .ok (.aload_n 0, 1) := by decide +kernel
theorem dX7_bar_69 : decode cX7_bar 69 = .ok (.getfield 23, 3) := by decide +kernel
theorem dX7_bar_72 : decode cX7_bar 72 = .ok (.iconst 5, 1) := by decide +kernel
theorem dX7_bar_73 : decode cX7_bar 73 = .ok (.iload_n 2, 1) := by decide +kernel
theorem dX7_bar_74 : decode cX7_bar 74 = .ok (.imul, 1) := by decide +kernel
theorem dX7_bar_75 : decode cX7_bar 75 = .ok (.iload_n 1, 1) := by decide +kernel
theorem dX7_bar_76 : decode cX7_bar 76 = .ok (.iadd, 1) := by decide +kernel
theorem dX7_bar_77 : decode cX7_bar 77 = .ok (.dup2, 1) := by decide +kernel
theorem dX7_bar_78 : decode cX7_bar 78 = .ok (.iaload, 1) := by decide +kernel
theorem dX7_bar_79 : decode cX7_bar 79 = .ok (.iconst 1, 1) := by decide +kernel
theorem dX7_bar_80 : decode cX7_bar 80 = .ok (.iload_n 3, 1) := by decide +kernel
theorem dX7_bar_81 : decode cX7_bar 81 = .ok (.ishl, 1) := by decide +kernel
theorem dX7_bar_82 : decode cX7_bar 82 = .ok (.ior, 1) := by decide +kernel
theorem dX7_bar_83 : decode cX7_bar 83 = .ok (.iastore, 1) := by decide +kernel
theorem dX7_bar_84 : decode cX7_bar 84 = .ok (.aload_n 0, 1) := by decide +kernel
theorem dX7_bar_85 : decode cX7_bar 85 = .ok (.dup, 1) := by decide +kernel
theorem dX7_bar_86 : decode cX7_bar 86 = .ok (.getfield 85, 3) := by decide +kernel
theorem dX7_bar_89 : decode cX7_bar 89 = .ok (.iconst 1, 1) := by decide +kernel
theorem dX7_bar_90 : decode cX7_bar 90 = .ok (.iadd, 1) := by decide +kernel
theorem dX7_bar_91 : decode cX7_bar 91 = .ok (.putfield 85, 3) := by decide +kernel
theorem dX7_bar_94 : decode cX7_bar 94 = .ok (.iconst 1, 1) := by decide +kernel
theorem dX7_bar_95 : decode cX7_bar 95 = .ok (.ireturn, 1) := by decide +kernel
theorem dX7_work_0 : decode cX7_work 0 = .ok (.iload_n 1, 1) := by decide +kernel
theorem dX7_work_1 : decode cX7_work 1 = .ok (.ldc 88, 2) := by decide +kernel
theorem dX7_work_3 : decode cX7_work 3 = .ok (.idiv, 1) := by decide +kernel
theorem dX7_work_4 : decode cX7_work 4 = .ok (.istore_n 3, 1) := by decide +kernel
theorem dX7_work_5 : decode cX7_work 5 = .ok (.iload_n 1, 1) := by decide +kernel
theorem dX7_work_6 : decode cX7_work 6 = .ok (.sipush 10000, 3) := by decide +kernel
theorem dX7_work_9 : decode cX7_work 9 = .ok (.idiv, 1) := by decide +kernel
theorem dX7_work_10 : decode cX7_work 10 = .ok (.bipush 10, 2) := by decide +kernel
theorem dX7_work_12 : decode cX7_work 12 = .ok (.irem, 1) := by decide +kernel
theorem dX7_work_13 : decode cX7_work 13 = .ok (.istore 4, 2) := by decide +kernel
theorem dX7_work_15 : decode cX7_work 15 = .ok (.iload_n 1, 1) := by decide +kernel
theorem dX7_work_16 : decode cX7_work 16 = .ok (.sipush 1000, 3) := by decide +kernel
theorem dX7_work_19 : decode cX7_work 19 = .ok (.idiv, 1) := by decide +kernel
theorem dX7_work_20 : decode cX7_work 20 = .ok (.bipush 10, 2) := by decide +kernel
theorem dX7_work_22 : decode cX7_work 22 = .ok (.irem, 1) := by decide +kernel
theorem dX7_work_23 : decode cX7_work 23 = .ok (.istore 5, 2) := by decide +kernel
theorem dX7_work_25 : decode cX7_work 25 = .ok (.iload_n 1, 1) := by decide +kernel
theorem dX7_work_26 : decode cX7_work 26 = .ok (.bipush 100, 2) := by decide +kernel
theorem dX7_work_28 : decode cX7_work 28 = .ok (.idiv, 1) := by decide +kernel
theorem dX7_work_29 : decode cX7_work 29 = .ok (.bipush 10, 2) := by decide +kernel
theorem dX7_work_31 : decode cX7_work 31 = .ok (.irem, 1) := by decide +kernel
theorem dX7_work_32 : decode cX7_work 32 = .ok (.istore 6, 2) := by decide +kernel
theorem dX7_work_34 : decode cX7_work 34 = .ok (.iload_n 1, 1) := by decide +kernel
theorem dX7_work_35 : decode cX7_work 35 = .ok (.bipush 100, 2) := by decide +kernel
theorem dX7_work_37 : decode cX7_work 37 = .ok (.irem, 1) := by decide +kernel
theorem dX7_work_38 : decode cX7_work 38 = .ok (.istore 7, 2) := by decide +kernel
theorem dX7_work_40 : decode cX7_work 40 = .ok (.iload_n 1, 1) := by decide +kernel
theorem dX7_work_41 : decode cX7_work 41 = .ok (.ifCond .lt 58, 3) := by decide +kernel
theorem dX7_work_44 : decode cX7_work 44 = .ok (.iload_n 3, 1) := by decide +kernel
theorem dX7_work_45 : decode cX7_work 45 = .ok (.iconst 1, 1) := by decide +kernel
theorem dX7_work_46 : decode cX7_work 46 = .ok (.bipush 40, 2) := by decide +kernel
theorem dX7_work_48 : decode cX7_work 48 = .ok (.invokestatic 78, 3) := by decide +kernel
theorem dX7_work_51 : decode cX7_work 51 = .ok (.ifCond .eq 48, 3) := by decide +kernel
theorem dX7_work_54 : decode cX7_work 54 = .ok (.iload 4, 2) := by decide +kernel
theorem dX7_work_56 : decode cX7_work 56 = .ok (.iconst 1, 1) := by decide +kernel
theorem dX7_work_57 : decode cX7_work 57 = .ok (.if_icmp .lt 42, 3) := by decide +kernel
theorem dX7_work_60 : decode cX7_work 60 = .ok (.iload 5, 2) := by decide +kernel
theorem dX7_work_62 : decode cX7_work 62 = .ok (.iconst 3, 1) := by decide +kernel
theorem dX7_work_63 : decode cX7_work 63 = .ok (.if_icmp .gt 36, 3) := by decide +kernel
theorem dX7_work_66 : decode cX7_work 66 = .ok (.iload 6, 2) := by decide +kernel
theorem dX7_work_68 : decode cX7_work 68 = .ok (.iconst 4, 1) := by decide +kernel
theorem dX7_work_69 : decode cX7_work 69 = .ok (.if_icmp .gt 30, 3) := by decide +kernel
theorem dX7_work_72 : decode cX7_work 72 = .ok (.iload 7, 2) := by decide +kernel
theorem dX7_work_74 : decode cX7_work 74 = .ok (.aload_n 0, 1) := by decide +kernel
theorem dX7_work_75 : decode cX7_work 75 = .ok (.getfield 82, 3) := by decide +kernel
theorem dX7_work_78 : decode cX7_work 78 = .ok (.if_icmp .ge 21, 3) := by decide +kernel
theorem dX7_work_81 : decode cX7_work 81 = .ok (.iload_n 2, 1) := by decide +kernel
theorem dX7_work_82 : decode cX7_work 82 = .ok (.iconst (-1), 1) := by decide +kernel
theorem dX7_work_83 : decode cX7_work 83 = .ok (.iconst 3, 1) := by decide +kernel
theorem dX7_work_84 : decode cX7_work 84 = .ok (.invokestatic 78, 3) := by decide +kernel
theorem dX7_work_87 : decode cX7_work 87 = .ok (.ifCond .eq 12, 3) := by decide +kernel
theorem dX7_work_90 : decode cX7_work 90 = .ok (.aload_n 0, 1) := by decide +kernel
theorem dX7_work_91 : decode cX7_work 91 = .ok (.getfield 74, 3) := by decide +kernel
theorem dX7_work_94 : decode cX7_work 94 = .ok (.bipush 40, 2) := by decide +kernel
theorem dX7_work_96 : decode cX7_work 96 = .ok (.if_icmp .ne 5, 3) := by decide +kernel
theorem dX7_work_99 : decode cX7_work 99 = .ok (.iconst (-1), 1) := by decide +kernel
theorem dX7_work_100 : decode cX7_work 100 = .ok (.ireturn, 1) := by decide +kernel
theorem dX7_work_101 : decode cX7_work 101 = .ok (.aload_n 0, 1) := by decide +kernel
theorem dX7_work_102 : decode cX7_work 102 = .ok (.getfield 26, 3) := by decide +kernel
theorem dX7_work_105 : decode cX7_work 105 = .ok (.aload_n 0, 1) := by decide +kernel
theorem dX7_work_106 : decode cX7_work 106 = .ok (.getfield 74, 3) := by decide +kernel
theorem dX7_work_109 : decode cX7_work 109 = .ok (.iload_n 3, 1) := by decide +kernel
theorem dX7_work_110 : decode cX7_work 110 = .ok (.iastore, 1) := by decide +kernel
theorem dX7_work_111 : decode cX7_work 111 = .ok (.aload_n 0, 1) := by decide +kernel
theorem dX7_work_112 : decode cX7_work 112 = .ok (.getfield 29, 3) := by decide +kernel
theorem dX7_work_115 : decode cX7_work 115 = .ok (.aload_n 0, 1) := by decide +kernel
theorem dX7_work_116 : decode cX7_work 116 = .ok (.getfield 74, 3) := by decide +kernel
theorem dX7_work_119 : decode cX7_work 119 = .ok (.iload 5, 2) := by decide +kernel
theorem dX7_work_121 : decode cX7_work 121 = .ok (.iastore, 1) := by decide +kernel
theorem dX7_work_122 : decode cX7_work 122 = .ok (.aload_n 0, 1) := by decide +kernel
theorem dX7_work_123 : decode cX7_work 123 = .ok (.getfield 32, 3) := by decide +kernel
theorem dX7_work_126 : decode cX7_work 126 = .ok (.aload_n 0, 1) := by decide +kernel
theorem dX7_work_127 : decode cX7_work 127 = .ok (.getfield 74, 3) := by decide +kernel
theorem dX7_work_130 : decode cX7_work 130 = .ok (.iload 4, 2) := by decide +kernel
theorem dX7_work_132 : decode cX7_work 132 = .ok (.iastore, 1) := by decide +kernel
theorem dX7_work_133 : decode cX7_work 133 = .ok (.aload_n 0, 1) := by decide +kernel
theorem dX7_work_134 : decode cX7_work 134 = .ok (.getfield 35, 3) := by decide +kernel
theorem dX7_work_137 : decode cX7_work 137 = .ok (.aload_n 0, 1) := by decide +kernel
theorem dX7_work_138 : decode cX7_work 138 = .ok (.getfield 74, 3) := by decide +kernel
theorem dX7_work_141 : decode cX7_work 141 = .ok (.iload 7, 2) := by decide +kernel
theorem dX7_work_143 : decode cX7_work 143 = .ok (.iastore, 1) := by decide +kernel
theorem dX7_work_144 : decode cX7_work 144 = .ok (.aload_n 0, 1) := by decide +kernel
theorem dX7_work_145 : decode cX7_work 145 = .ok (.getfield 38, 3) := by decide +kernel
theorem dX7_work_148 : decode cX7_work 148 = .ok (.aload_n 0, 1) := by decide +kernel
theorem dX7_work_149 : decode cX7_work 149 = .ok (.getfield 74, 3) := by decide +kernel
theorem dX7_work_152 : decode cX7_work 152 = .ok (.iload 6, 2) := by decide +kernel
theorem dX7_work_154 : decode cX7_work 154 = .ok (.iastore, 1) := by decide +kernel
theorem dX7_work_155 : decode cX7_work 155 = .ok (.aload_n 0, 1) := by decide +kernel
theorem dX7_work_156 : decode cX7_work 156 = .ok (.getfield 41, 3) := by decide +kernel
theorem dX7_work_159 : decode cX7_work 159 = .ok (.aload_n 0, 1) := by decide +kernel
theorem dX7_work_160 : decode cX7_work 160 = .ok (.getfield 74, 3) := by decide +kernel
theorem dX7_work_163 : decode cX7_work 163 = .ok (.iload_n 2, 1) := by decide +kernel
theorem dX7_work_164 : decode cX7_work 164 = .ok (.iastore, 1) := by decide +kernel
theorem dX7_work_165 : decode cX7_work 165 = .ok (.aload_n 0, 1) := by decide +kernel
theorem dX7_work_166 : decode cX7_work 166 = .ok (.getfield 44, 3) := by decide +kernel
theorem dX7_work_169 : decode cX7_work 169 = .ok (.aload_n 0, 1) := by decide +kernel
theorem dX7_work_170 : decode cX7_work 170 = .ok (.getfield 74, 3) := by decide +kernel
theorem dX7_work_173 : decode cX7_work 173 = .ok (.iconst (-1), 1) := by decide +kernel
theorem dX7_work_174 : decode cX7_work 174 = .ok (.iastore, 1) := by decide +kernel
theorem dX7_work_175 : decode cX7_work 175 = .ok (.aload_n 0, 1) := by decide +kernel
theorem dX7_work_176 : decode cX7_work 176 = .ok (.dup, 1) := by decide +kernel
theorem dX7_work_177 : decode cX7_work 177 = .ok (.getfield 74, 3) := by decide +kernel
theorem dX7_work_180 : decode cX7_work 180 = .ok (.iconst 1, 1) := by decide +kernel
theorem dX7_work_181 : decode cX7_work 181 = .ok (.iadd, 1) := by decide +kernel
theorem dX7_work_182 : decode cX7_work 182 = .ok (.putfield 74, 3) := by decide +kernel
theorem dX7_work_185 : decode cX7_work 185 = .ok (.aload_n 0, 1) := by decide +kernel
theorem dX7_work_186 : decode cX7_work 186 = .ok (.getfield 74, 3) := by decide +kernel
theorem dX7_work_189 : decode cX7_work 189 = .ok (.iconst 1, 1) := by decide +kernel
theorem dX7_work_190 : decode cX7_work 190 = .ok (.isub, 1) := by decide +kernel
theorem dX7_work_191 : decode cX7_work 191 = .ok (.ireturn, 1) := by decide +kernel
theorem dX7_isPut_0 : decode cX7_isPut 0 = .ok (.aload_n 0, 1) := by decide +kernel
theorem dX7_isPut_1 : decode cX7_isPut 1 = .ok (.getfield 44, 3) := by decide +kernel
theorem dX7_isPut_4 : decode cX7_isPut 4 = .ok (.iload_n 1, 1) := by decide +kernel
theorem dX7_isPut_5 : decode cX7_isPut 5 = .ok (.iaload, 1) := by decide +kernel
theorem dX7_isPut_6 : decode cX7_isPut 6 = .ok (.iconst (-1), 1) := by decide +kernel
theorem dX7_isPut_7 : decode cX7_isPut 7 = .ok (.if_icmp .eq 7, 3) := by decide +kernel
theorem dX7_isPut_10 : decode cX7_isPut 10 = .ok (.iconst 1, 1) := by decide +kernel
theorem dX7_isPut_11 : decode cX7_isPut 11 = .ok (.goto 4, 3) := by decide +kernel
theorem dX7_isPut_14 : decode cX7_isPut 14 = .ok (.iconst 0, 1) := by decide +kernel
theorem dX7_isPut_15 : decode cX7_isPut 15 = .ok (.ireturn, 1) := by decide +kernel
theorem dX7_isBegun_0 : decode cX7_isBegun 0 = .ok (.aload_n 0, 1) := by decide +kernel
theorem dX7_isBegun_1 : decode cX7_isBegun 1 = .ok (.iload_n 1, 1) := by decide +kernel
theorem dX7_isBegun_2 : decode cX7_isBegun 2 = .ok (.invokevirtual 89, 3) := by decide +kernel
theorem dX7_isBegun_5 : decode cX7_isBegun 5 = .ok (.ifCond .eq 20, 3) := by decide +kernel
theorem dX7_isBegun_8 : decode cX7_isBegun 8 = .ok (.aload_n 0, 1) := by decide +kernel
theorem dX7_isBegun_9 : decode cX7_isBegun 9 = .ok (.getfield 44, 3) := by decide +kernel
theorem dX7_isBegun_12 : decode cX7_isBegun 12 = .ok (.iload_n 1, 1) := by decide +kernel
theorem dX7_isBegun_13 : decode cX7_isBegun 13 = .ok (.iaload, 1) := by decide +kernel
theorem dX7_isBegun_14 : decode cX7_isBegun 14 = .ok (.aload_n 0, 1) := by decide +kernel
theorem dX7_isBegun_15 : decode cX7_isBegun 15 = .ok (.getfield 93, 3) := by decide +kernel
theorem dX7_isBegun_18 : decode cX7_isBegun 18 = .ok (.if_icmp .ge 7, 3) := by decide +kernel
theorem dX7_isBegun_21 : decode cX7_isBegun 21 = .ok (.iconst 1, 1) := by decide +kernel
theorem dX7_isBegun_22 : decode cX7_isBegun 22 = .ok (.goto 4, 3) := by decide +kernel
theorem dX7_isBegun_25 : decode cX7_isBegun 25 = .ok (.iconst 0, 1) := by decide +kernel
theorem dX7_isBegun_26 : decode cX7_isBegun 26 = .ok (.ireturn, 1) := by decide +kernel
theorem dX7_endOf_0 : decode cX7_endOf 0 = .ok (.aload_n 0, 1) := by decide +kernel
theorem dX7_endOf_1 : decode cX7_endOf 1 = .ok (.getfield 44, 3) := by decide +kernel
theorem dX7_endOf_4 : decode cX7_endOf 4 = .ok (.iload_n 1, 1) := by decide +kernel
theorem dX7_endOf_5 : decode cX7_endOf 5 = .ok (.iaload, 1) := by decide +kernel
theorem dX7_endOf_6 : decode cX7_endOf 6 = .ok (.aload_n 0, 1) := by decide +kernel
theorem dX7_endOf_7 : decode cX7_endOf 7 = .ok (.getfield 26, 3) := by decide +kernel
theorem dX7_endOf_10 : decode cX7_endOf 10 = .ok (.iload_n 1, 1) := by decide +kernel
theorem dX7_endOf_11 : decode cX7_endOf 11 = .ok (.iaload, 1) := by decide +kernel
theorem dX7_endOf_12 : decode cX7_endOf 12 = .ok (.iadd, 1) := by decide +kernel
theorem dX7_endOf_13 : decode cX7_endOf 13 = .ok (.ireturn, 1) := by decide +kernel
theorem dX7_isDone_0 : decode cX7_isDone 0 = .ok (.aload_n 0, 1) := by decide +kernel
theorem dX7_isDone_1 : decode cX7_isDone 1 = .ok (.iload_n 1, 1) := by decide +kernel
theorem dX7_isDone_2 : decode cX7_isDone 2 = .ok (.invokevirtual 89, 3) := by decide +kernel
theorem dX7_isDone_5 : decode cX7_isDone 5 = .ok (.ifCond .eq 19, 3) := by decide +kernel
theorem dX7_isDone_8 : decode cX7_isDone 8 = .ok (.aload_n 0, 1) := by decide +kernel
theorem dX7_isDone_9 : decode cX7_isDone 9 = .ok (.iload_n 1, 1) := by decide +kernel
theorem dX7_isDone_10 : decode cX7_isDone 10 = .ok (.invokevirtual 96, 3) := by decide +kernel
theorem dX7_isDone_13 : decode cX7_isDone 13 = .ok (.aload_n 0, 1) := by decide +kernel
theorem dX7_isDone_14 : decode cX7_isDone 14 = .ok (.getfield 93, 3) := by decide +kernel
theorem dX7_isDone_17 : decode cX7_isDone 17 = .ok (.if_icmp .gt 7, 3) := by decide +kernel
theorem dX7_isDone_20 : decode cX7_isDone 20 = .ok (.iconst 1, 1) := by decide +kernel
theorem dX7_isDone_21 : decode cX7_isDone 21 = .ok (.goto 4, 3) := by decide +kernel
theorem dX7_isDone_24 : decode cX7_isDone 24 = .ok (.iconst 0, 1) := by decide +kernel
theorem dX7_isDone_25 : decode cX7_isDone 25 = .ok (.ireturn, 1) := by decide +kernel
theorem dX7_hangs_0 : decode cX7_hangs 0 = .ok (.aload_n 0, 1) := by decide +kernel
theorem dX7_hangs_1 : decode cX7_hangs 1 = .ok (.getfield 56, 3) := by decide +kernel
theorem dX7_hangs_4 : decode cX7_hangs 4 = .ok (.astore_n 3, 1) := by decide +kernel
theorem dX7_hangs_5 : decode cX7_hangs 5 = .ok (.iconst 0, 1) := by decide +kernel
theorem dX7_hangs_6 : decode cX7_hangs 6 = .ok (.istore 4, 2) := by decide +kernel
theorem dX7_hangs_8 : decode cX7_hangs 8 = .ok (.iload 4, 2) := by decide +kernel
theorem dX7_hangs_10 : decode cX7_hangs 10 = .ok (.aload_n 0, 1) := by decide +kernel
theorem dX7_hangs_11 : decode cX7_hangs 11 = .ok (.getfield 74, 3) := by decide +kernel
theorem dX7_hangs_14 : decode cX7_hangs 14 = .ok (.if_icmp .ge 25, 3) := by decide +kernel
theorem dX7_hangs_17 : decode cX7_hangs 17 = .ok (.aload_n 3, 1) := by decide +kernel
theorem dX7_hangs_18 : decode cX7_hangs 18 = .ok (.iload 4, 2) := by decide +kernel
theorem dX7_hangs_20 : decode cX7_hangs 20 = .ok (.aload_n 0, 1) := by decide +kernel
theorem dX7_hangs_21 : decode cX7_hangs 21 = .ok (.getfield 50, 3) := by decide +kernel
theorem dX7_hangs_24 : decode cX7_hangs 24 = .ok (.bipush 40, 2) := by decide +kernel
theorem dX7_hangs_26 : decode cX7_hangs 26 = .ok (.iload_n 1, 1) := by decide +kernel
theorem dX7_hangs_27 : decode cX7_hangs 27 = .ok (.imul, 1) := by decide +kernel
theorem dX7_hangs_28 : decode cX7_hangs 28 = .ok (.iload 4, 2) := by decide +kernel
theorem dX7_hangs_30 : decode cX7_hangs 30 = .ok (.iadd, 1) := by decide +kernel
theorem dX7_hangs_31 : decode cX7_hangs 31 = .ok (.baload, 1) := by decide +kernel
theorem dX7_hangs_32 : decode cX7_hangs 32 = .ok (.bastore, 1) := by decide +kernel
theorem dX7_hangs_33 : decode cX7_hangs 33 = .ok (.iinc 4 1, 3) := by decide +kernel
theorem dX7_hangs_36 : decode cX7_hangs 36 = .ok (.goto (-28), 3) := by decide +kernel
theorem dX7_hangs_39 : decode cX7_hangs 39 = .ok (.iconst 1, 1) := by decide +kernel
theorem dX7_hangs_40 : decode cX7_hangs 40 = .ok (.istore 4, 2) := by decide +kernel
theorem dX7_hangs_42 : decode cX7_hangs 42 = .ok (.iload 4, 2) := by decide +kernel
theorem dX7_hangs_44 : decode cX7_hangs 44 = .ok (.ifCond .eq 86, 3) := by decide +kernel
theorem dX7_hangs_47 : decode cX7_hangs 47 = .ok (.iconst 0, 1) := by decide +kernel
theorem dX7_hangs_48 : decode cX7_hangs 48 = .ok (.istore 4, 2) := by decide +kernel
theorem dX7_hangs_50 : decode cX7_hangs 50 = .ok (.iconst 0, 1) := by decide +kernel
theorem dX7_hangs_51 : decode cX7_hangs 51 = .ok (.istore 5, 2) := by decide +kernel
theorem dX7_hangs_53 : decode cX7_hangs 53 = .ok (.iload 5, 2) := by decide +kernel
theorem dX7_hangs_55 : decode cX7_hangs 55 = .ok (.aload_n 0, 1) := by decide +kernel
theorem dX7_hangs_56 : decode cX7_hangs 56 = .ok (.getfield 74, 3) := by decide +kernel
theorem dX7_hangs_59 : decode cX7_hangs 59 = .ok (.if_icmp .ge 68, 3) := by decide +kernel
theorem dX7_hangs_62 : decode cX7_hangs 62 = .ok (.iconst 0, 1) := by decide +kernel
theorem dX7_hangs_63 : decode cX7_hangs 63 = .ok (.istore 6, 2) := by decide +kernel
theorem dX7_hangs_65 : decode cX7_hangs 65 = .ok (.iload 6, 2) := by decide +kernel
theorem dX7_hangs_67 : decode cX7_hangs 67 = .ok (.aload_n 0, 1) := by decide +kernel
theorem dX7_hangs_68 : decode cX7_hangs 68 = .ok (.getfield 74, 3) := by decide +kernel
theorem dX7_hangs_71 : decode cX7_hangs 71 = .ok (.if_icmp .ge 50, 3) := by decide +kernel
theorem dX7_hangs_74 : decode cX7_hangs 74 = .ok (.aload_n 3, 1) := by decide +kernel
theorem dX7_hangs_75 : decode cX7_hangs 75 = .ok (.iload 5, 2) := by decide +kernel
theorem dX7_hangs_77 : decode cX7_hangs 77 = .ok (.baload, 1) := by decide +kernel
theorem dX7_hangs_78 : decode cX7_hangs 78 = .ok (.ifCond .eq 43, 3) := by decide +kernel
theorem dX7_hangs_81 : decode cX7_hangs 81 = .ok (.aload_n 3, 1) := by decide +kernel
theorem dX7_hangs_82 : decode cX7_hangs 82 = .ok (.iload 6, 2) := by decide +kernel
theorem dX7_hangs_84 : decode cX7_hangs 84 = .ok (.baload, 1) := by decide +kernel
theorem dX7_hangs_85 : decode cX7_hangs 85 = .ok (.ifCond .ne 30, 3) := by decide +kernel
theorem dX7_hangs_88 : decode cX7_hangs 88 = .ok (.aload_n 0, 1) := by decide +kernel
theorem dX7_hangs_89 : decode cX7_hangs 89 = .ok (.getfield 50, 3) := by decide +kernel
theorem dX7_hangs_92 : decode cX7_hangs 92 = .ok (.bipush 40, 2) := by decide +kernel
theorem dX7_hangs_94 : decode cX7_hangs 94 = .ok (.iload 5, 2) := by decide +kernel
theorem dX7_hangs_96 : decode cX7_hangs 96 = .ok (.imul, 1) := by decide +kernel
theorem dX7_hangs_97 : decode cX7_hangs 97 = .ok (.iload 6, 2) := by decide +kernel
theorem dX7_hangs_99 : decode cX7_hangs 99 = .ok (.iadd, 1) := by decide +kernel
theorem dX7_hangs_100 : decode cX7_hangs 100 = .ok (.baload, 1) := by decide +kernel
theorem dX7_hangs_101 : decode cX7_hangs 101 = .ok (.ifCond .ne 6, 3) := by decide +kernel
theorem dX7_hangs_104 : decode cX7_hangs 104 = .ok (.goto 11, 3) := by decide +kernel
theorem dX7_hangs_107 : decode cX7_hangs 107 = .ok (.aload_n 3, 1) := by decide +kernel
theorem dX7_hangs_108 : decode cX7_hangs 108 = .ok (.iload 6, 2) := by decide +kernel
theorem dX7_hangs_110 : decode cX7_hangs 110 = .ok (.iconst 1, 1) := by decide +kernel
theorem dX7_hangs_111 : decode cX7_hangs 111 = .ok (.bastore, 1) := by decide +kernel
theorem dX7_hangs_112 : decode cX7_hangs 112 = .ok (.iconst 1, 1) := by decide +kernel
theorem dX7_hangs_113 : decode cX7_hangs 113 = .ok (.istore 4, 2) := by decide +kernel
theorem dX7_hangs_115 : decode cX7_hangs 115 = .ok (.iinc 6 1, 3) := by decide +kernel
theorem dX7_hangs_118 : decode cX7_hangs 118 = .ok (.goto (-53), 3) := by decide +kernel
theorem dX7_hangs_121 : decode cX7_hangs 121 = .ok (.iinc 5 1, 3) := by decide +kernel
theorem dX7_hangs_124 : decode cX7_hangs 124 = .ok (.goto (-71), 3) := by decide +kernel
theorem dX7_hangs_127 : decode cX7_hangs 127 = .ok (.goto (-85), 3) := by decide +kernel
theorem dX7_hangs_130 : decode cX7_hangs 130 = .ok (.aload_n 3, 1) := by decide +kernel
theorem dX7_hangs_131 : decode cX7_hangs 131 = .ok (.iload_n 2, 1) := by decide +kernel
theorem dX7_hangs_132 : decode cX7_hangs 132 = .ok (.baload, 1) := by decide +kernel
theorem dX7_hangs_133 : decode cX7_hangs 133 = .ok (.ireturn, 1) := by decide +kernel
theorem dX7_canNeed_0 : decode cX7_canNeed 0 = .ok (.aload_n 0, 1) := by decide +kernel
theorem dX7_canNeed_1 : decode cX7_canNeed 1 = .ok (.iload_n 1, 1) := by decide +kernel
theorem dX7_canNeed_2 : decode cX7_canNeed 2 = .ok (.invokevirtual 100, 3) := by decide +kernel
theorem dX7_canNeed_5 : decode cX7_canNeed 5 = .ok (.ifCond .eq 37, 3) := by decide +kernel
theorem dX7_canNeed_8 : decode cX7_canNeed 8 = .ok (.aload_n 0, 1) := by decide +kernel
theorem dX7_canNeed_9 : decode cX7_canNeed 9 = .ok (.iload_n 2, 1) := by decide +kernel
theorem dX7_canNeed_10 : decode cX7_canNeed 10 = .ok (.invokevirtual 100, 3) := by decide +kernel
theorem dX7_canNeed_13 : decode cX7_canNeed 13 = .ok (.ifCond .eq 29, 3) := by decide +kernel
theorem dX7_canNeed_16 : decode cX7_canNeed 16 = .ok (.iload_n 1, 1) := by decide +kernel
theorem dX7_canNeed_17 : decode cX7_canNeed 17 = .ok (.iload_n 2, 1) := by decide +kernel
theorem dX7_canNeed_18 : decode cX7_canNeed 18 = .ok (.if_icmp .eq 24, 3) := by decide +kernel
theorem dX7_canNeed_21 : decode cX7_canNeed 21 = .ok (.aload_n 0, 1) := by decide +kernel
theorem dX7_canNeed_22 : decode cX7_canNeed 22 = .ok (.iload_n 1, 1) := by decide +kernel
theorem dX7_canNeed_23 : decode cX7_canNeed 23 = .ok (.invokevirtual 103, 3) := by decide +kernel
theorem dX7_canNeed_26 : decode cX7_canNeed 26 = .ok (.ifCond .ne 16, 3) := by decide +kernel
theorem dX7_canNeed_29 : decode cX7_canNeed 29 = .ok (.aload_n 0, 1) := by decide +kernel
theorem dX7_canNeed_30 : decode cX7_canNeed 30 = .ok (.iload_n 2, 1) := by decide +kernel
theorem dX7_canNeed_31 : decode cX7_canNeed 31 = .ok (.iload_n 1, 1) := by decide +kernel
theorem dX7_canNeed_32 : decode cX7_canNeed 32 = .ok (.invokevirtual 106, 3) := by decide +kernel
theorem dX7_canNeed_35 : decode cX7_canNeed 35 = .ok (.ifCond .ne 7, 3) := by decide +kernel
theorem dX7_canNeed_38 : decode cX7_canNeed 38 = .ok (.iconst 1, 1) := by decide +kernel
theorem dX7_canNeed_39 : decode cX7_canNeed 39 = .ok (.goto 4, 3) := by decide +kernel
theorem dX7_canNeed_42 : decode cX7_canNeed 42 = .ok (.iconst 0, 1) := by decide +kernel
theorem dX7_canNeed_43 : decode cX7_canNeed 43 = .ok (.ireturn, 1) := by decide +kernel
theorem dX7_need_0 : decode cX7_need 0 = .ok (.aload_n 0, 1) := by decide +kernel
theorem dX7_need_1 : decode cX7_need 1 = .ok (.iload_n 1, 1) := by decide +kernel
theorem dX7_need_2 : decode cX7_need 2 = .ok (.iload_n 2, 1) := by decide +kernel
theorem dX7_need_3 : decode cX7_need 3 = .ok (.invokevirtual 110, 3) := by decide +kernel
theorem dX7_need_6 : decode cX7_need 6 = .ok (.ifCond .eq 17, 3) := by decide +kernel
theorem dX7_need_9 : decode cX7_need 9 = .ok (.aload_n 0, 1) := by decide +kernel
theorem dX7_need_10 : decode cX7_need 10 = .ok (.getfield 50, 3) := by decide +kernel
theorem dX7_need_13 : decode cX7_need 13 = .ok (.bipush 40, 2) := by decide +kernel
theorem dX7_need_15 : decode cX7_need 15 = .ok (.iload_n 1, 1) := by decide +kernel
theorem dX7_need_16 : decode cX7_need 16 = .ok (.imul, 1) := by decide +kernel
theorem dX7_need_17 : decode cX7_need 17 = .ok (.iload_n 2, 1) := by decide +kernel
theorem dX7_need_18 : decode cX7_need 18 = .ok (.iadd, 1) := by decide +kernel
theorem dX7_need_19 : decode cX7_need 19 = .ok (.baload, 1) := by decide +kernel
theorem dX7_need_20 : decode cX7_need 20 = .ok (.ifCond .eq 5, 3) := by decide +kernel
theorem dX7_need_23 : decode cX7_need 23 = .ok (.iconst 0, 1) := by decide +kernel
theorem dX7_need_24 : decode cX7_need 24 = .ok (.ireturn, 1) := by decide +kernel
theorem dX7_need_25 : decode cX7_need 25 = .ok (.aload_n 0, 1) := by decide +kernel
theorem dX7_need_26 : decode cX7_need 26 = .ok (.getfield 50, 3) := by decide +kernel
theorem dX7_need_29 : decode cX7_need 29 = .ok (.bipush 40, 2) := by decide +kernel
theorem dX7_need_31 : decode cX7_need 31 = .ok (.iload_n 1, 1) := by decide +kernel
theorem dX7_need_32 : decode cX7_need 32 = .ok (.imul, 1) := by decide +kernel
theorem dX7_need_33 : decode cX7_need 33 = .ok (.iload_n 2, 1) := by decide +kernel
theorem dX7_need_34 : decode cX7_need 34 = .ok (.iadd, 1) := by decide +kernel
theorem dX7_need_35 : decode cX7_need 35 = .ok (.iconst 1, 1) := by decide +kernel
theorem dX7_need_36 : decode cX7_need 36 = .ok (.bastore, 1) := by decide +kernel
theorem dX7_need_37 : decode cX7_need 37 = .ok (.iconst 1, 1) := by decide +kernel
theorem dX7_need_38 : decode cX7_need 38 = .ok (.ireturn, 1) := by decide +kernel
theorem dX7_tells_0 : decode cX7_tells 0 = .ok (.aload_n 0, 1) := by decide +kernel
theorem dX7_tells_1 : decode cX7_tells 1 = .ok (.iload_n 1, 1) := by decide +kernel
theorem dX7_tells_2 : decode cX7_tells 2 = .ok (.iload_n 2, 1) := by decide +kernel
theorem dX7_tells_3 : decode cX7_tells 3 = .ok (.invokevirtual 110, 3) := by decide +kernel
theorem dX7_tells_6 : decode cX7_tells 6 = .ok (.ifCond .eq 27, 3) := by decide +kernel
theorem dX7_tells_9 : decode cX7_tells 9 = .ok (.aload_n 0, 1) := by decide +kernel
theorem dX7_tells_10 : decode cX7_tells 10 = .ok (.getfield 38, 3) := by decide +kernel
theorem dX7_tells_13 : decode cX7_tells 13 = .ok (.iload_n 1, 1) := by decide +kernel
theorem dX7_tells_14 : decode cX7_tells 14 = .ok (.iaload, 1) := by decide +kernel
theorem dX7_tells_15 : decode cX7_tells 15 = .ok (.iconst 4, 1) := by decide +kernel
theorem dX7_tells_16 : decode cX7_tells 16 = .ok (.if_icmp .ne 17, 3) := by decide +kernel
theorem dX7_tells_19 : decode cX7_tells 19 = .ok (.aload_n 0, 1) := by decide +kernel
theorem dX7_tells_20 : decode cX7_tells 20 = .ok (.getfield 53, 3) := by decide +kernel
theorem dX7_tells_23 : decode cX7_tells 23 = .ok (.bipush 40, 2) := by decide +kernel
theorem dX7_tells_25 : decode cX7_tells 25 = .ok (.iload_n 1, 1) := by decide +kernel
theorem dX7_tells_26 : decode cX7_tells 26 = .ok (.imul, 1) := by decide +kernel
theorem dX7_tells_27 : decode cX7_tells 27 = .ok (.iload_n 2, 1) := by decide +kernel
theorem dX7_tells_28 : decode cX7_tells 28 = .ok (.iadd, 1) := by decide +kernel
theorem dX7_tells_29 : decode cX7_tells 29 = .ok (.baload, 1) := by decide +kernel
theorem dX7_tells_30 : decode cX7_tells 30 = .ok (.ifCond .eq 5, 3) := by decide +kernel
theorem dX7_tells_33 : decode cX7_tells 33 = .ok (.iconst 0, 1) := by decide +kernel
theorem dX7_tells_34 : decode cX7_tells 34 = .ok (.ireturn, 1) := by decide +kernel
theorem dX7_tells_35 : decode cX7_tells 35 = .ok (.aload_n 0, 1) := by decide +kernel
theorem dX7_tells_36 : decode cX7_tells 36 = .ok (.getfield 50, 3) := by decide +kernel
theorem dX7_tells_39 : decode cX7_tells 39 = .ok (.bipush 40, 2) := by decide +kernel
theorem dX7_tells_41 : decode cX7_tells 41 = .ok (.iload_n 1, 1) := by decide +kernel
theorem dX7_tells_42 : decode cX7_tells 42 = .ok (.imul, 1) := by decide +kernel
theorem dX7_tells_43 : decode cX7_tells 43 = .ok (.iload_n 2, 1) := by decide +kernel
theorem dX7_tells_44 : decode cX7_tells 44 = .ok (.iadd, 1) := by decide +kernel
theorem dX7_tells_45 : decode cX7_tells 45 = .ok (.iconst 1, 1) := by decide +kernel
theorem dX7_tells_46 : decode cX7_tells 46 = .ok (.bastore, 1) := by decide +kernel
theorem dX7_tells_47 : decode cX7_tells 47 = .ok (.aload_n 0, 1) := by decide +kernel
theorem dX7_tells_48 : decode cX7_tells 48 = .ok (.getfield 53, 3) := by decide +kernel
theorem dX7_tells_51 : decode cX7_tells 51 = .ok (.bipush 40, 2) := by decide +kernel
theorem dX7_tells_53 : decode cX7_tells 53 = .ok (.iload_n 1, 1) := by decide +kernel
theorem dX7_tells_54 : decode cX7_tells 54 = .ok (.imul, 1) := by decide +kernel
theorem dX7_tells_55 : decode cX7_tells 55 = .ok (.iload_n 2, 1) := by decide +kernel
theorem dX7_tells_56 : decode cX7_tells 56 = .ok (.iadd, 1) := by decide +kernel
theorem dX7_tells_57 : decode cX7_tells 57 = .ok (.iconst 1, 1) := by decide +kernel
theorem dX7_tells_58 : decode cX7_tells 58 = .ok (.bastore, 1) := by decide +kernel
theorem dX7_tells_59 : decode cX7_tells 59 = .ok (.iconst 1, 1) := by decide +kernel
theorem dX7_tells_60 : decode cX7_tells 60 = .ok (.ireturn, 1) := by decide +kernel
theorem dX7_put_0 : decode cX7_put 0 = .ok (.aload_n 0, 1) := by decide +kernel
theorem dX7_put_1 : decode cX7_put 1 = .ok (.iload_n 1, 1) := by decide +kernel
theorem dX7_put_2 : decode cX7_put 2 = .ok (.invokevirtual 100, 3) := by decide +kernel
theorem dX7_put_5 : decode cX7_put 5 = .ok (.ifCond .eq 33, 3) := by decide +kernel
theorem dX7_put_8 : decode cX7_put 8 = .ok (.aload_n 0, 1) := by decide +kernel
theorem dX7_put_9 : decode cX7_put 9 = .ok (.iload_n 1, 1) := by decide +kernel
theorem dX7_put_10 : decode cX7_put 10 = .ok (.invokevirtual 103, 3) := by decide +kernel
theorem dX7_put_13 : decode cX7_put 13 = .ok (.ifCond .ne 25, 3) := by decide +kernel
theorem dX7_put_16 : decode cX7_put 16 = .ok (.iload_n 2, 1) := by decide +kernel
theorem dX7_put_17 : decode cX7_put 17 = .ok (.aload_n 0, 1) := by decide +kernel
theorem dX7_put_18 : decode cX7_put 18 = .ok (.getfield 93, 3) := by decide +kernel
theorem dX7_put_21 : decode cX7_put 21 = .ok (.if_icmp .lt 17, 3) := by decide +kernel
theorem dX7_put_24 : decode cX7_put 24 = .ok (.iload_n 2, 1) := by decide +kernel
theorem dX7_put_25 : decode cX7_put 25 = .ok (.sipush 400, 3) := by decide +kernel
theorem dX7_put_28 : decode cX7_put 28 = .ok (.aload_n 0, 1) := by decide +kernel
theorem dX7_put_29 : decode cX7_put 29 = .ok (.getfield 26, 3) := by decide +kernel
theorem dX7_put_32 : decode cX7_put 32 = .ok (.iload_n 1, 1) := by decide +kernel
theorem dX7_put_33 : decode cX7_put 33 = .ok (.iaload, 1) := by decide +kernel
theorem dX7_put_34 : decode cX7_put 34 = .ok (.isub, 1) := by decide +kernel
theorem dX7_put_35 : decode cX7_put 35 = .ok (.if_icmp .le 5, 3) := by decide +kernel
theorem dX7_put_38 : decode cX7_put 38 = .ok (.iconst 0, 1) := by decide +kernel
theorem dX7_put_39 : decode cX7_put 39 = .ok (.ireturn, 1) := by decide +kernel
theorem dX7_put_40 : decode cX7_put 40 = .ok (.aload_n 0, 1) := by decide +kernel
theorem dX7_put_41 : decode cX7_put 41 = .ok (.getfield 44, 3) := by decide +kernel
theorem dX7_put_44 : decode cX7_put 44 = .ok (.iload_n 1, 1) := by decide +kernel
theorem dX7_put_45 : decode cX7_put 45 = .ok (.iload_n 2, 1) := by decide +kernel
theorem dX7_put_46 : decode cX7_put 46 = .ok (.iastore, 1) := by decide +kernel
theorem dX7_put_47 : decode cX7_put 47 = .ok (.iconst 1, 1) := by decide +kernel
theorem dX7_put_48 : decode cX7_put 48 = .ok (.ireturn, 1) := by decide +kernel
theorem dX7_take_0 : decode cX7_take 0 = .ok (.aload_n 0, 1) := by decide +kernel
theorem dX7_take_1 : decode cX7_take 1 = .ok (.iload_n 1, 1) := by decide +kernel
theorem dX7_take_2 : decode cX7_take 2 = .ok (.invokevirtual 100, 3) := by decide +kernel
theorem dX7_take_5 : decode cX7_take 5 = .ok (.ifCond .eq 19, 3) := by decide +kernel
theorem dX7_take_8 : decode cX7_take 8 = .ok (.aload_n 0, 1) := by decide +kernel
theorem dX7_take_9 : decode cX7_take 9 = .ok (.iload_n 1, 1) := by decide +kernel
theorem dX7_take_10 : decode cX7_take 10 = .ok (.invokevirtual 89, 3) := by decide +kernel
theorem dX7_take_13 : decode cX7_take 13 = .ok (.ifCond .eq 11, 3) := by decide +kernel
theorem dX7_take_16 : decode cX7_take 16 = .ok (.aload_n 0, 1) := by decide +kernel
theorem dX7_take_17 : decode cX7_take 17 = .ok (.iload_n 1, 1) := by decide +kernel
theorem dX7_take_18 : decode cX7_take 18 = .ok (.invokevirtual 103, 3) := by decide +kernel
theorem dX7_take_21 : decode cX7_take 21 = .ok (.ifCond .eq 5, 3) := by decide +kernel
theorem dX7_take_24 : decode cX7_take 24 = .ok (.iconst 0, 1) := by decide +kernel
theorem dX7_take_25 : decode cX7_take 25 = .ok (.ireturn, 1) := by decide +kernel
theorem dX7_take_26 : decode cX7_take 26 = .ok (.aload_n 0, 1) := by decide +kernel
theorem dX7_take_27 : decode cX7_take 27 = .ok (.getfield 44, 3) := by decide +kernel
theorem dX7_take_30 : decode cX7_take 30 = .ok (.iload_n 1, 1) := by decide +kernel
theorem dX7_take_31 : decode cX7_take 31 = .ok (.iconst (-1), 1) := by decide +kernel
theorem dX7_take_32 : decode cX7_take 32 = .ok (.iastore, 1) := by decide +kernel
theorem dX7_take_33 : decode cX7_take 33 = .ok (.iconst 1, 1) := by decide +kernel
theorem dX7_take_34 : decode cX7_take 34 = .ok (.ireturn, 1) := by decide +kernel
theorem dX7_isIn_0 : decode cX7_isIn 0 = .ok (.aload_n 0, 1) := by decide +kernel
theorem dX7_isIn_1 : decode cX7_isIn 1 = .ok (.iload_n 1, 1) := by decide +kernel
theorem dX7_isIn_2 : decode cX7_isIn 2 = .ok (.invokevirtual 89, 3) := by decide +kernel
theorem dX7_isIn_5 : decode cX7_isIn 5 = .ok (.ifCond .eq 27, 3) := by decide +kernel
theorem dX7_isIn_8 : decode cX7_isIn 8 = .ok (.iload_n 2, 1) := by decide +kernel
theorem dX7_isIn_9 : decode cX7_isIn 9 = .ok (.aload_n 0, 1) := by decide +kernel
theorem dX7_isIn_10 : decode cX7_isIn 10 = .ok (.getfield 44, 3) := by decide +kernel
theorem dX7_isIn_13 : decode cX7_isIn 13 = .ok (.iload_n 1, 1) := by decide +kernel
theorem dX7_isIn_14 : decode cX7_isIn 14 = .ok (.iaload, 1) := by decide +kernel
theorem dX7_isIn_15 : decode cX7_isIn 15 = .ok (.aload_n 0, 1) := by decide +kernel
theorem dX7_isIn_16 : decode cX7_isIn 16 = .ok (.iload_n 1, 1) := by decide +kernel
theorem dX7_isIn_17 : decode cX7_isIn 17 = .ok (.invokevirtual 96, 3) := by decide +kernel
theorem dX7_isIn_20 : decode cX7_isIn 20 = .ok (.iconst 1, 1) := by decide +kernel
theorem dX7_isIn_21 : decode cX7_isIn 21 = .ok (.isub, 1) := by decide +kernel
theorem dX7_isIn_22 : decode cX7_isIn 22 = .ok (.invokestatic 78, 3) := by decide +kernel
theorem dX7_isIn_25 : decode cX7_isIn 25 = .ok (.ifCond .eq 7, 3) := by decide +kernel
theorem dX7_isIn_28 : decode cX7_isIn 28 = .ok (.iconst 1, 1) := by decide +kernel
theorem dX7_isIn_29 : decode cX7_isIn 29 = .ok (.goto 4, 3) := by decide +kernel
theorem dX7_isIn_32 : decode cX7_isIn 32 = .ok (.iconst 0, 1) := by decide +kernel
theorem dX7_isIn_33 : decode cX7_isIn 33 = .ok (.ireturn, 1) := by decide +kernel
theorem dX7_isBarred_0 : decode cX7_isBarred 0 = .ok (.aload_n 0, 1) := by decide +kernel
theorem dX7_isBarred_1 : decode cX7_isBarred 1 = .ok (.getfield 23, 3) := by decide +kernel
theorem dX7_isBarred_4 : decode cX7_isBarred 4 = .ok (.iconst 5, 1) := by decide +kernel
theorem dX7_isBarred_5 : decode cX7_isBarred 5 = .ok (.aload_n 0, 1) := by decide +kernel
theorem dX7_isBarred_6 : decode cX7_isBarred 6 = .ok (.getfield 38, 3) := by decide +kernel
theorem dX7_isBarred_9 : decode cX7_isBarred 9 = .ok (.iload_n 1, 1) := by decide +kernel
theorem dX7_isBarred_10 : decode cX7_isBarred 10 = .ok (.iaload, 1) := by decide +kernel
theorem dX7_isBarred_11 : decode cX7_isBarred 11 = .ok (.imul, 1) := by decide +kernel
theorem dX7_isBarred_12 : decode cX7_isBarred 12 = .ok (.aload_n 0, 1) := by decide +kernel
theorem dX7_isBarred_13 : decode cX7_isBarred 13 = .ok (.getfield 38, 3) := by decide +kernel
theorem dX7_isBarred_16 : decode cX7_isBarred 16 = .ok (.iload_n 2, 1) := by decide +kernel
theorem dX7_isBarred_17 : decode cX7_isBarred 17 = .ok (.iaload, 1) := by decide +kernel
theorem dX7_isBarred_18 : decode cX7_isBarred 18 = .ok (.iadd, 1) := by decide +kernel
theorem dX7_isBarred_19 : decode cX7_isBarred 19 = .ok (.iaload, 1) := by decide +kernel
theorem dX7_isBarred_20 : decode cX7_isBarred 20 = .ok (.istore_n 3, 1) := by decide +kernel
theorem dX7_isBarred_21 : decode cX7_isBarred 21 = .ok (.iload_n 3, 1) := by decide +kernel
theorem dX7_isBarred_22 : decode cX7_isBarred 22 = .ok (.ifCond .ne 5, 3) := by decide +kernel
theorem dX7_isBarred_25 : decode cX7_isBarred 25 = .ok (.iconst 0, 1) := by decide +kernel
theorem dX7_isBarred_26 : decode cX7_isBarred 26 = .ok (.ireturn, 1) := by decide +kernel
theorem dX7_isBarred_27 : decode cX7_isBarred 27 = .ok (.iload_n 3, 1) := by decide +kernel
theorem dX7_isBarred_28 : decode cX7_isBarred 28 = .ok (.iconst 4, 1) := by decide +kernel
theorem dX7_isBarred_29 : decode cX7_isBarred 29 = .ok (.iand, 1) := by decide +kernel
theorem dX7_isBarred_30 : decode cX7_isBarred 30 = .ok (.ifCond .ne 18, 3) := by decide +kernel
theorem dX7_isBarred_33 : decode cX7_isBarred 33 = .ok (.aload_n 0, 1) := by decide +kernel
theorem dX7_isBarred_34 : decode cX7_isBarred 34 = .ok (.getfield 35, 3) := by decide +kernel
theorem dX7_isBarred_37 : decode cX7_isBarred 37 = .ok (.iload_n 1, 1) := by decide +kernel
theorem dX7_isBarred_38 : decode cX7_isBarred 38 = .ok (.iaload, 1) := by decide +kernel
theorem dX7_isBarred_39 : decode cX7_isBarred 39 = .ok (.aload_n 0, 1) := by decide +kernel
theorem dX7_isBarred_40 : decode cX7_isBarred 40 = .ok (.getfield 35, 3) := by decide +kernel
theorem dX7_isBarred_43 : decode cX7_isBarred 43 = .ok (.iload_n 2, 1) := by decide +kernel
theorem dX7_isBarred_44 : decode cX7_isBarred 44 = .ok (.iaload, 1) := by decide +kernel
theorem dX7_isBarred_45 : decode cX7_isBarred 45 = .ok (.if_icmp .ne 5, 3) := by decide +kernel
theorem dX7_isBarred_48 : decode cX7_isBarred 48 = .ok (.iconst 1, 1) := by decide +kernel
theorem dX7_isBarred_49 : decode cX7_isBarred 49 = .ok (.ireturn, 1) := by decide +kernel
theorem dX7_isBarred_50 : decode cX7_isBarred 50 = .ok (.iload_n 3, 1) := by decide +kernel
theorem dX7_isBarred_51 : decode cX7_isBarred 51 = .ok (.iconst 2, 1) := by decide +kernel
theorem dX7_isBarred_52 : decode cX7_isBarred 52 = .ok (.iand, 1) := by decide +kernel
theorem dX7_isBarred_53 : decode cX7_isBarred 53 = .ok (.ifCond .eq 31, 3) := by decide +kernel
theorem dX7_isBarred_56 : decode cX7_isBarred 56 = .ok (.aload_n 0, 1) := by decide +kernel
theorem dX7_isBarred_57 : decode cX7_isBarred 57 = .ok (.getfield 13, 3) := by decide +kernel
theorem dX7_isBarred_60 : decode cX7_isBarred 60 = .ok (.bipush 20, 2) := by decide +kernel
theorem dX7_isBarred_62 : decode cX7_isBarred 62 = .ok (.aload_n 0, 1) := by decide +kernel
theorem dX7_isBarred_63 : decode cX7_isBarred 63 = .ok (.getfield 35, 3) := by decide +kernel
theorem dX7_isBarred_66 : decode cX7_isBarred 66 = .ok (.iload_n 1, 1) := by decide +kernel
theorem dX7_isBarred_67 : decode cX7_isBarred 67 = .ok (.iaload, 1) := by decide +kernel
theorem dX7_isBarred_68 : decode cX7_isBarred 68 = .ok (.imul, 1) := by decide +kernel
theorem dX7_isBarred_69 : decode cX7_isBarred 69 = .ok (.aload_n 0, 1) := by decide +kernel
theorem dX7_isBarred_70 : decode cX7_isBarred 70 = .ok (.getfield 35, 3) := by decide +kernel
theorem dX7_isBarred_73 : decode cX7_isBarred 73 = .ok (.iload_n 2, 1) := by decide +kernel
theorem dX7_isBarred_74 : decode cX7_isBarred 74 = .ok (.iaload, 1) := by decide +kernel
theorem dX7_isBarred_75 : decode cX7_isBarred 75 = .ok (.iadd, 1) := by decide +kernel
theorem dX7_isBarred_76 : decode cX7_isBarred 76 = .ok (.baload, 1) := by decide +kernel
theorem dX7_isBarred_77 : decode cX7_isBarred 77 = .ok (.ifCond .eq 7, 3) := by decide +kernel
theorem dX7_isBarred_80 : decode cX7_isBarred 80 = .ok (.iconst 1, 1) := by decide +kernel
theorem dX7_isBarred_81 : decode cX7_isBarred 81 = .ok (.goto 4, 3) := by decide +kernel
theorem dX7_isBarred_84 : decode cX7_isBarred 84 = .ok (.iconst 0, 1) := by decide +kernel
theorem dX7_isBarred_85 : decode cX7_isBarred 85 = .ok (.ireturn, 1) := by decide +kernel
theorem dX7_breaks_0 : decode cX7_breaks 0 = .ok (.iload_n 2, 1) := by decide +kernel
theorem dX7_breaks_1 : decode cX7_breaks 1 = .ok (.iconst 1, 1) := by decide +kernel
theorem dX7_breaks_2 : decode cX7_breaks 2 = .ok (.if_icmp .ne 64, 3) := by decide +kernel
theorem dX7_breaks_5 : decode cX7_breaks 5 = .ok (.iconst 0, 1) := by decide +kernel
theorem dX7_breaks_6 : decode cX7_breaks 6 = .ok (.istore_n 3, 1) := by decide +kernel
theorem dX7_breaks_7 : decode cX7_breaks 7 = .ok (.iload_n 3, 1) := by decide +kernel
theorem dX7_breaks_8 : decode cX7_breaks 8 = .ok (.aload_n 0, 1) := by decide +kernel
theorem dX7_breaks_9 : decode cX7_breaks 9 = .ok (.getfield 74, 3) := by decide +kernel
theorem dX7_breaks_12 : decode cX7_breaks 12 = .ok (.if_icmp .ge 52, 3) := by decide +kernel
theorem dX7_breaks_15 : decode cX7_breaks 15 = .ok (.aload_n 0, 1) := by decide +kernel
theorem dX7_breaks_16 : decode cX7_breaks 16 = .ok (.getfield 50, 3) := by decide +kernel
theorem dX7_breaks_19 : decode cX7_breaks 19 = .ok (.bipush 40, 2) := by decide +kernel
theorem dX7_breaks_21 : decode cX7_breaks 21 = .ok (.iload_n 1, 1) := by decide +kernel
theorem dX7_breaks_22 : decode cX7_breaks 22 = .ok (.imul, 1) := by decide +kernel
theorem dX7_breaks_23 : decode cX7_breaks 23 = .ok (.iload_n 3, 1) := by decide +kernel
theorem dX7_breaks_24 : decode cX7_breaks 24 = .ok (.iadd, 1) := by decide +kernel
theorem dX7_breaks_25 : decode cX7_breaks 25 = .ok (.baload, 1) := by decide +kernel
theorem dX7_breaks_26 : decode cX7_breaks 26 = .ok (.ifCond .eq 32, 3) := by decide +kernel
theorem dX7_breaks_29 : decode cX7_breaks 29 = .ok (.aload_n 0, 1) := by decide +kernel
theorem dX7_breaks_30 : decode cX7_breaks 30 = .ok (.iload_n 3, 1) := by decide +kernel
theorem dX7_breaks_31 : decode cX7_breaks 31 = .ok (.invokevirtual 89, 3) := by decide +kernel
theorem dX7_breaks_34 : decode cX7_breaks 34 = .ok (.ifCond .eq 17, 3) := by decide +kernel
theorem dX7_breaks_37 : decode cX7_breaks 37 = .ok (.aload_n 0, 1) := by decide +kernel
theorem dX7_breaks_38 : decode cX7_breaks 38 = .ok (.iload_n 3, 1) := by decide +kernel
theorem dX7_breaks_39 : decode cX7_breaks 39 = .ok (.invokevirtual 96, 3) := by decide +kernel
theorem dX7_breaks_42 : decode cX7_breaks 42 = .ok (.aload_n 0, 1) := by decide +kernel
theorem dX7_breaks_43 : decode cX7_breaks 43 = .ok (.getfield 44, 3) := by decide +kernel
theorem dX7_breaks_46 : decode cX7_breaks 46 = .ok (.iload_n 1, 1) := by decide +kernel
theorem dX7_breaks_47 : decode cX7_breaks 47 = .ok (.iaload, 1) := by decide +kernel
theorem dX7_breaks_48 : decode cX7_breaks 48 = .ok (.if_icmp .le 10, 3) := by decide +kernel
theorem dX7_breaks_51 : decode cX7_breaks 51 = .ok (.aload_n 0, 1) := by decide +kernel
theorem dX7_breaks_52 : decode cX7_breaks 52 = .ok (.getfield 44, 3) := by decide +kernel
theorem dX7_breaks_55 : decode cX7_breaks 55 = .ok (.iload_n 1, 1) := by decide +kernel
theorem dX7_breaks_56 : decode cX7_breaks 56 = .ok (.iaload, 1) := by decide +kernel
theorem dX7_breaks_57 : decode cX7_breaks 57 = .ok (.ireturn, 1) := by decide +kernel
theorem dX7_breaks_58 : decode cX7_breaks 58 = .ok (.iinc 3 1, 3) := by decide +kernel
theorem dX7_breaks_61 : decode cX7_breaks 61 = .ok (.goto (-54), 3) := by decide +kernel
theorem dX7_breaks_64 : decode cX7_breaks 64 = .ok (.iconst (-1), 1) := by decide +kernel
theorem dX7_breaks_65 : decode cX7_breaks 65 = .ok (.ireturn, 1) := by decide +kernel
theorem dX7_breaks_66 : decode cX7_breaks 66 = .ok (.aload_n 0, 1) := by decide +kernel
theorem dX7_breaks_67 : decode cX7_breaks 67 = .ok (.getfield 44, 3) := by decide +kernel
theorem dX7_breaks_70 : decode cX7_breaks 70 = .ok (.iload_n 1, 1) := by decide +kernel
theorem dX7_breaks_71 : decode cX7_breaks 71 = .ok (.iaload, 1) := by decide +kernel
theorem dX7_breaks_72 : decode cX7_breaks 72 = .ok (.istore_n 3, 1) := by decide +kernel
theorem dX7_breaks_73 : decode cX7_breaks 73 = .ok (.iload_n 3, 1) := by decide +kernel
theorem dX7_breaks_74 : decode cX7_breaks 74 = .ok (.aload_n 0, 1) := by decide +kernel
theorem dX7_breaks_75 : decode cX7_breaks 75 = .ok (.iload_n 1, 1) := by decide +kernel
theorem dX7_breaks_76 : decode cX7_breaks 76 = .ok (.invokevirtual 96, 3) := by decide +kernel
theorem dX7_breaks_79 : decode cX7_breaks 79 = .ok (.if_icmp .ge 21, 3) := by decide +kernel
theorem dX7_breaks_82 : decode cX7_breaks 82 = .ok (.aload_n 0, 1) := by decide +kernel
theorem dX7_breaks_83 : decode cX7_breaks 83 = .ok (.iload_n 1, 1) := by decide +kernel
theorem dX7_breaks_84 : decode cX7_breaks 84 = .ok (.iload_n 2, 1) := by decide +kernel
theorem dX7_breaks_85 : decode cX7_breaks 85 = .ok (.iload_n 3, 1) := by decide +kernel
theorem dX7_breaks_86 : decode cX7_breaks 86 = .ok (.invokevirtual 113, 3) := by decide +kernel
theorem dX7_breaks_89 : decode cX7_breaks 89 = .ok (.ifCond .eq 5, 3) := by decide +kernel
theorem dX7_breaks_92 : decode cX7_breaks 92 = .ok (.iload_n 3, 1) := by decide +kernel
theorem dX7_breaks_93 : decode cX7_breaks 93 = .ok (.ireturn, 1) := by decide +kernel
theorem dX7_breaks_94 : decode cX7_breaks 94 = .ok (.iinc 3 1, 3) := by decide +kernel
theorem dX7_breaks_97 : decode cX7_breaks 97 = .ok (.goto (-24), 3) := by decide +kernel
theorem dX7_breaks_100 : decode cX7_breaks 100 = .ok (.iconst (-1), 1) := by decide +kernel
theorem dX7_breaks_101 : decode cX7_breaks 101 = .ok (.ireturn, 1) := by decide +kernel
theorem dX7_isBroken_0 : decode cX7_isBroken 0 = .ok (.iconst 0, 1) := by decide +kernel
theorem dX7_isBroken_1 : decode cX7_isBroken 1 = .ok (.istore 4, 2) := by decide +kernel
theorem dX7_isBroken_3 : decode cX7_isBroken 3 = .ok (.iconst 0, 1) := by decide +kernel
theorem dX7_isBroken_4 : decode cX7_isBroken 4 = .ok (.istore 5, 2) := by decide +kernel
theorem dX7_isBroken_6 : decode cX7_isBroken 6 = .ok (.iload 5, 2) := by decide +kernel
theorem dX7_isBroken_8 : decode cX7_isBroken 8 = .ok (.aload_n 0, 1) := by decide +kernel
theorem dX7_isBroken_9 : decode cX7_isBroken 9 = .ok (.getfield 74, 3) := by decide +kernel
theorem dX7_isBroken_12 : decode cX7_isBroken 12 = .ok (.if_icmp .ge 179, 3) := by decide +kernel
theorem dX7_isBroken_15 : decode cX7_isBroken 15 = .ok (.aload_n 0, 1) := by decide +kernel
theorem dX7_isBroken_16 : decode cX7_isBroken 16 = .ok (.iload 5, 2) := by decide +kernel
theorem dX7_isBroken_18 : decode cX7_isBroken 18 = .ok (.iload_n 3, 1) := by decide +kernel
theorem dX7_isBroken_19 : decode cX7_isBroken 19 = .ok (.invokevirtual 116, 3) := by decide +kernel
theorem dX7_isBroken_22 : decode cX7_isBroken 22 = .ok (.ifCond .ne 6, 3) := by decide +kernel
theorem dX7_isBroken_25 : decode cX7_isBroken 25 = .ok (.goto 160, 3) := by decide +kernel
theorem dX7_isBroken_28 : decode cX7_isBroken 28 = .ok (.iload_n 2, 1) := by decide +kernel
theorem dX7_isBroken_29 : decode cX7_isBroken 29 = .ok (.tableswitch 130 2 4 #[27, 62, 101], 27) := by decide +kernel
theorem dX7_isBroken_56 : decode cX7_isBroken 56 = .ok (.iload 4, 2) := by decide +kernel
theorem dX7_isBroken_58 : decode cX7_isBroken 58 = .ok (.aload_n 0, 1) := by decide +kernel
theorem dX7_isBroken_59 : decode cX7_isBroken 59 = .ok (.getfield 29, 3) := by decide +kernel
theorem dX7_isBroken_62 : decode cX7_isBroken 62 = .ok (.iload 5, 2) := by decide +kernel
theorem dX7_isBroken_64 : decode cX7_isBroken 64 = .ok (.iaload, 1) := by decide +kernel
theorem dX7_isBroken_65 : decode cX7_isBroken 65 = .ok (.aload_n 0, 1) := by decide +kernel
theorem dX7_isBroken_66 : decode cX7_isBroken 66 = .ok (.getfield 29, 3) := by decide +kernel
theorem dX7_isBroken_69 : decode cX7_isBroken 69 = .ok (.iload_n 1, 1) := by decide +kernel
theorem dX7_isBroken_70 : decode cX7_isBroken 70 = .ok (.iaload, 1) := by decide +kernel
theorem dX7_isBroken_71 : decode cX7_isBroken 71 = .ok (.if_icmp .ne 13, 3) := by decide +kernel
theorem dX7_isBroken_74 : decode cX7_isBroken 74 = .ok (.aload_n 0, 1) := by decide +kernel
theorem dX7_isBroken_75 : decode cX7_isBroken 75 = .ok (.getfield 32, 3) := by decide +kernel
theorem dX7_isBroken_78 : decode cX7_isBroken 78 = .ok (.iload 5, 2) := by decide +kernel
theorem dX7_isBroken_80 : decode cX7_isBroken 80 = .ok (.iaload, 1) := by decide +kernel
theorem dX7_isBroken_81 : decode cX7_isBroken 81 = .ok (.goto 4, 3) := by decide +kernel
theorem dX7_isBroken_84 : decode cX7_isBroken 84 = .ok (.iconst 0, 1) := by decide +kernel
theorem dX7_isBroken_85 : decode cX7_isBroken 85 = .ok (.iadd, 1) := by decide +kernel
theorem dX7_isBroken_86 : decode cX7_isBroken 86 = .ok (.istore 4, 2) := by decide +kernel
theorem dX7_isBroken_88 : decode cX7_isBroken 88 = .ok (.goto 97, 3) := by decide +kernel
theorem dX7_isBroken_91 : decode cX7_isBroken 91 = .ok (.iload 4, 2) := by decide +kernel
theorem dX7_isBroken_93 : decode cX7_isBroken 93 = .ok (.aload_n 0, 1) := by decide +kernel
theorem dX7_isBroken_94 : decode cX7_isBroken 94 = .ok (.getfield 41, 3) := by decide +kernel
theorem dX7_isBroken_97 : decode cX7_isBroken 97 = .ok (.iload_n 1, 1) := by decide +kernel
theorem dX7_isBroken_98 : decode cX7_isBroken 98 = .ok (.iaload, 1) := by decide +kernel
theorem dX7_isBroken_99 : decode cX7_isBroken 99 = .ok (.iconst (-1), 1) := by decide +kernel
theorem dX7_isBroken_100 : decode cX7_isBroken 100 = .ok (.if_icmp .eq 23, 3) := by decide +kernel
theorem dX7_isBroken_103 : decode cX7_isBroken 103 = .ok (.aload_n 0, 1) := by decide +kernel
theorem dX7_isBroken_104 : decode cX7_isBroken 104 = .ok (.getfield 41, 3) := by decide +kernel
theorem dX7_isBroken_107 : decode cX7_isBroken 107 = .ok (.iload 5, 2) := by decide +kernel
theorem dX7_isBroken_109 : decode cX7_isBroken 109 = .ok (.iaload, 1) := by decide +kernel
theorem dX7_isBroken_110 : decode cX7_isBroken 110 = .ok (.aload_n 0, 1) := by decide +kernel
theorem dX7_isBroken_111 : decode cX7_isBroken 111 = .ok (.getfield 41, 3) := by decide +kernel
theorem dX7_isBroken_114 : decode cX7_isBroken 114 = .ok (.iload_n 1, 1) := by decide +kernel
theorem dX7_isBroken_115 : decode cX7_isBroken 115 = .ok (.iaload, 1) := by decide +kernel
theorem dX7_isBroken_116 : decode cX7_isBroken 116 = .ok (.if_icmp .ne 7, 3) := by decide +kernel
theorem dX7_isBroken_119 : decode cX7_isBroken 119 = .ok (.iconst 1, 1) := by decide +kernel
theorem dX7_isBroken_120 : decode cX7_isBroken 120 = .ok (.goto 4, 3) := by decide +kernel
theorem dX7_isBroken_123 : decode cX7_isBroken 123 = .ok (.iconst 0, 1) := by decide +kernel
theorem dX7_isBroken_124 : decode cX7_isBroken 124 = .ok (.iadd, 1) := by decide +kernel
theorem dX7_isBroken_125 : decode cX7_isBroken 125 = .ok (.istore 4, 2) := by decide +kernel
theorem dX7_isBroken_127 : decode cX7_isBroken 127 = .ok (.goto 58, 3) := by decide +kernel
theorem dX7_isBroken_130 : decode cX7_isBroken 130 = .ok (.iload 4, 2) := by decide +kernel
theorem dX7_isBroken_132 : decode cX7_isBroken 132 = .ok (.aload_n 0, 1) := by decide +kernel
theorem dX7_isBroken_133 : decode cX7_isBroken 133 = .ok (.getfield 35, 3) := by decide +kernel
theorem dX7_isBroken_136 : decode cX7_isBroken 136 = .ok (.iload 5, 2) := by decide +kernel
theorem dX7_isBroken_138 : decode cX7_isBroken 138 = .ok (.iaload, 1) := by decide +kernel
theorem dX7_isBroken_139 : decode cX7_isBroken 139 = .ok (.aload_n 0, 1) := by decide +kernel
theorem dX7_isBroken_140 : decode cX7_isBroken 140 = .ok (.getfield 35, 3) := by decide +kernel
theorem dX7_isBroken_143 : decode cX7_isBroken 143 = .ok (.iload_n 1, 1) := by decide +kernel
theorem dX7_isBroken_144 : decode cX7_isBroken 144 = .ok (.iaload, 1) := by decide +kernel
theorem dX7_isBroken_145 : decode cX7_isBroken 145 = .ok (.if_icmp .ne 7, 3) := by decide +kernel
theorem dX7_isBroken_148 : decode cX7_isBroken 148 = .ok (.iconst 1, 1) := by decide +kernel
theorem dX7_isBroken_149 : decode cX7_isBroken 149 = .ok (.goto 4, 3) := by decide +kernel
theorem dX7_isBroken_152 : decode cX7_isBroken 152 = .ok (.iconst 0, 1) := by decide +kernel
theorem dX7_isBroken_153 : decode cX7_isBroken 153 = .ok (.iadd, 1) := by decide +kernel
theorem dX7_isBroken_154 : decode cX7_isBroken 154 = .ok (.istore 4, 2) := by decide +kernel
theorem dX7_isBroken_156 : decode cX7_isBroken 156 = .ok (.goto 29, 3) := by decide +kernel
theorem dX7_isBroken_159 : decode cX7_isBroken 159 = .ok (.iload 4, 2) := by decide +kernel
theorem dX7_isBroken_161 : decode cX7_isBroken 161 = .ok (.iload 5, 2) := by decide +kernel
theorem dX7_isBroken_163 : decode cX7_isBroken 163 = .ok (.iload_n 1, 1) := by decide +kernel
theorem dX7_isBroken_164 : decode cX7_isBroken 164 = .ok (.if_icmp .eq 17, 3) := by decide +kernel
theorem dX7_isBroken_167 : decode cX7_isBroken 167 = .ok (.aload_n 0, 1) := by decide +kernel
theorem dX7_isBroken_168 : decode cX7_isBroken 168 = .ok (.iload 5, 2) := by decide +kernel
theorem dX7_isBroken_170 : decode cX7_isBroken 170 = .ok (.iload_n 1, 1) := by decide +kernel
theorem dX7_isBroken_171 : decode cX7_isBroken 171 = .ok (.invokevirtual 119, 3) := by decide +kernel
theorem dX7_isBroken_174 : decode cX7_isBroken 174 = .ok (.ifCond .eq 7, 3) := by decide +kernel
theorem dX7_isBroken_177 : decode cX7_isBroken 177 = .ok (.iconst 1, 1) := by decide +kernel
theorem dX7_isBroken_178 : decode cX7_isBroken 178 = .ok (.goto 4, 3) := by decide +kernel
theorem dX7_isBroken_181 : decode cX7_isBroken 181 = .ok (.iconst 0, 1) := by decide +kernel
theorem dX7_isBroken_182 : decode cX7_isBroken 182 = .ok (.iadd, 1) := by decide +kernel
theorem dX7_isBroken_183 : decode cX7_isBroken 183 = .ok (.istore 4, 2) := by decide +kernel
theorem dX7_isBroken_185 : decode cX7_isBroken 185 = .ok (.iinc 5 1, 3) := by decide +kernel
theorem dX7_isBroken_188 : decode cX7_isBroken 188 = .ok (.goto (-182), 3) := by decide +kernel
theorem dX7_isBroken_191 : decode cX7_isBroken 191 = .ok (.iload_n 2, 1) := by decide +kernel
theorem dX7_isBroken_192 : decode cX7_isBroken 192 = .ok (.iconst 2, 1) := by decide +kernel
theorem dX7_isBroken_193 : decode cX7_isBroken 193 = .ok (.if_icmp .ne 25, 3) := by decide +kernel
theorem dX7_isBroken_196 : decode cX7_isBroken 196 = .ok (.iload 4, 2) := by decide +kernel
theorem dX7_isBroken_198 : decode cX7_isBroken 198 = .ok (.aload_n 0, 1) := by decide +kernel
theorem dX7_isBroken_199 : decode cX7_isBroken 199 = .ok (.getfield 17, 3) := by decide +kernel
theorem dX7_isBroken_202 : decode cX7_isBroken 202 = .ok (.aload_n 0, 1) := by decide +kernel
theorem dX7_isBroken_203 : decode cX7_isBroken 203 = .ok (.getfield 29, 3) := by decide +kernel
theorem dX7_isBroken_206 : decode cX7_isBroken 206 = .ok (.iload_n 1, 1) := by decide +kernel
theorem dX7_isBroken_207 : decode cX7_isBroken 207 = .ok (.iaload, 1) := by decide +kernel
theorem dX7_isBroken_208 : decode cX7_isBroken 208 = .ok (.iaload, 1) := by decide +kernel
theorem dX7_isBroken_209 : decode cX7_isBroken 209 = .ok (.if_icmp .le 7, 3) := by decide +kernel
theorem dX7_isBroken_212 : decode cX7_isBroken 212 = .ok (.iconst 1, 1) := by decide +kernel
theorem dX7_isBroken_213 : decode cX7_isBroken 213 = .ok (.goto 4, 3) := by decide +kernel
theorem dX7_isBroken_216 : decode cX7_isBroken 216 = .ok (.iconst 0, 1) := by decide +kernel
theorem dX7_isBroken_217 : decode cX7_isBroken 217 = .ok (.ireturn, 1) := by decide +kernel
theorem dX7_isBroken_218 : decode cX7_isBroken 218 = .ok (.iload_n 2, 1) := by decide +kernel
theorem dX7_isBroken_219 : decode cX7_isBroken 219 = .ok (.iconst 3, 1) := by decide +kernel
theorem dX7_isBroken_220 : decode cX7_isBroken 220 = .ok (.if_icmp .ne 35, 3) := by decide +kernel
theorem dX7_isBroken_223 : decode cX7_isBroken 223 = .ok (.aload_n 0, 1) := by decide +kernel
theorem dX7_isBroken_224 : decode cX7_isBroken 224 = .ok (.getfield 41, 3) := by decide +kernel
theorem dX7_isBroken_227 : decode cX7_isBroken 227 = .ok (.iload_n 1, 1) := by decide +kernel
theorem dX7_isBroken_228 : decode cX7_isBroken 228 = .ok (.iaload, 1) := by decide +kernel
theorem dX7_isBroken_229 : decode cX7_isBroken 229 = .ok (.iconst (-1), 1) := by decide +kernel
theorem dX7_isBroken_230 : decode cX7_isBroken 230 = .ok (.if_icmp .eq 23, 3) := by decide +kernel
theorem dX7_isBroken_233 : decode cX7_isBroken 233 = .ok (.iload 4, 2) := by decide +kernel
theorem dX7_isBroken_235 : decode cX7_isBroken 235 = .ok (.aload_n 0, 1) := by decide +kernel
theorem dX7_isBroken_236 : decode cX7_isBroken 236 = .ok (.getfield 20, 3) := by decide +kernel
theorem dX7_isBroken_239 : decode cX7_isBroken 239 = .ok (.aload_n 0, 1) := by decide +kernel
theorem dX7_isBroken_240 : decode cX7_isBroken 240 = .ok (.getfield 41, 3) := by decide +kernel
theorem dX7_isBroken_243 : decode cX7_isBroken 243 = .ok (.iload_n 1, 1) := by decide +kernel
theorem dX7_isBroken_244 : decode cX7_isBroken 244 = .ok (.iaload, 1) := by decide +kernel
theorem dX7_isBroken_245 : decode cX7_isBroken 245 = .ok (.iaload, 1) := by decide +kernel
theorem dX7_isBroken_246 : decode cX7_isBroken 246 = .ok (.if_icmp .le 7, 3) := by decide +kernel
theorem dX7_isBroken_249 : decode cX7_isBroken 249 = .ok (.iconst 1, 1) := by decide +kernel
theorem dX7_isBroken_250 : decode cX7_isBroken 250 = .ok (.goto 4, 3) := by decide +kernel
theorem dX7_isBroken_253 : decode cX7_isBroken 253 = .ok (.iconst 0, 1) := by decide +kernel
theorem dX7_isBroken_254 : decode cX7_isBroken 254 = .ok (.ireturn, 1) := by decide +kernel
theorem dX7_isBroken_255 : decode cX7_isBroken 255 = .ok (.iload_n 2, 1) := by decide +kernel
theorem dX7_isBroken_256 : decode cX7_isBroken 256 = .ok (.iconst 4, 1) := by decide +kernel
theorem dX7_isBroken_257 : decode cX7_isBroken 257 = .ok (.if_icmp .ne 27, 3) := by decide +kernel
end
section
theorem dX7_isBroken_260 : decode cX7_isBroken 260 = .ok (.iload 4, 2) := by decide +kernel
theorem dX7_isBroken_262 : decode cX7_isBroken 262 = .ok (.aload_n 0, 1) := by decide +kernel
theorem dX7_isBroken_263 : decode cX7_isBroken 263 = .ok (.getfield 9, 3) := by decide +kernel
theorem dX7_isBroken_266 : decode cX7_isBroken 266 = .ok (.aload_n 0, 1) := by decide +kernel
theorem dX7_isBroken_267 : decode cX7_isBroken 267 = .ok (.getfield 35, 3) := by decide +kernel
theorem dX7_isBroken_270 : decode cX7_isBroken 270 = .ok (.iload_n 1, 1) := by decide +kernel
theorem dX7_isBroken_271 : decode cX7_isBroken 271 = .ok (.iaload, 1) := by decide +kernel
theorem dX7_isBroken_272 : decode cX7_isBroken 272 = .ok (.iaload, 1) := by decide +kernel
theorem dX7_isBroken_273 : decode cX7_isBroken 273 = .ok (.if_icmp .le 7, 3) := by decide +kernel
theorem dX7_isBroken_276 : decode cX7_isBroken 276 = .ok (.iconst 1, 1) := by decide +kernel
theorem dX7_isBroken_277 : decode cX7_isBroken 277 = .ok (.goto 17, 3) := by decide +kernel
theorem dX7_isBroken_280 : decode cX7_isBroken 280 = .ok (.iconst 0, 1) := by decide +kernel
theorem dX7_isBroken_281 : decode cX7_isBroken 281 = .ok (.goto 13, 3) := by decide +kernel
theorem dX7_isBroken_284 : decode cX7_isBroken 284 = .ok (.iload 4, 2) := by decide +kernel
theorem dX7_isBroken_286 : decode cX7_isBroken 286 = .ok (.ifCond .le 7, 3) := by decide +kernel
theorem dX7_isBroken_289 : decode cX7_isBroken 289 = .ok (.iconst 1, 1) := by decide +kernel
theorem dX7_isBroken_290 : decode cX7_isBroken 290 = .ok (.goto 4, 3) := by decide +kernel
theorem dX7_isBroken_293 : decode cX7_isBroken 293 = .ok (.iconst 0, 1) := by decide +kernel
theorem dX7_isBroken_294 : decode cX7_isBroken 294 = .ok (.ireturn, 1) := by decide +kernel
theorem dX7_isBad_0 : decode cX7_isBad 0 = .ok (.iconst 0, 1) := by decide +kernel
theorem dX7_isBad_1 : decode cX7_isBad 1 = .ok (.istore_n 2, 1) := by decide +kernel
theorem dX7_isBad_2 : decode cX7_isBad 2 = .ok (.iconst 1, 1) := by decide +kernel
theorem dX7_isBad_3 : decode cX7_isBad 3 = .ok (.istore_n 3, 1) := by decide +kernel
theorem dX7_isBad_4 : decode cX7_isBad 4 = .ok (.iload_n 3, 1) := by decide +kernel
theorem dX7_isBad_5 : decode cX7_isBad 5 = .ok (.iconst 5, 1) := by decide +kernel
theorem dX7_isBad_6 : decode cX7_isBad 6 = .ok (.if_icmp .gt 29, 3) := by decide +kernel
theorem dX7_isBad_9 : decode cX7_isBad 9 = .ok (.iload_n 2, 1) := by decide +kernel
theorem dX7_isBad_10 : decode cX7_isBad 10 = .ok (.ifCond .ne 25, 3) := by decide +kernel
theorem dX7_isBad_13 : decode cX7_isBad 13 = .ok (.aload_n 0, 1) := by decide +kernel
theorem dX7_isBad_14 : decode cX7_isBad 14 = .ok (.iload_n 1, 1) := by decide +kernel
theorem dX7_isBad_15 : decode cX7_isBad 15 = .ok (.iload_n 3, 1) := by decide +kernel
theorem dX7_isBad_16 : decode cX7_isBad 16 = .ok (.invokevirtual 122, 3) := by decide +kernel
theorem dX7_isBad_19 : decode cX7_isBad 19 = .ok (.iconst (-1), 1) := by decide +kernel
theorem dX7_isBad_20 : decode cX7_isBad 20 = .ok (.if_icmp .eq 7, 3) := by decide +kernel
theorem dX7_isBad_23 : decode cX7_isBad 23 = .ok (.iconst 1, 1) := by decide +kernel
theorem dX7_isBad_24 : decode cX7_isBad 24 = .ok (.goto 4, 3) := by decide +kernel
theorem dX7_isBad_27 : decode cX7_isBad 27 = .ok (.iconst 0, 1) := by decide +kernel
theorem dX7_isBad_28 : decode cX7_isBad 28 = .ok (.istore_n 2, 1) := by decide +kernel
theorem dX7_isBad_29 : decode cX7_isBad 29 = .ok (.iinc 3 1, 3) := by decide +kernel
theorem dX7_isBad_32 : decode cX7_isBad 32 = .ok (.goto (-28), 3) := by decide +kernel
theorem dX7_isBad_35 : decode cX7_isBad 35 = .ok (.iload_n 2, 1) := by decide +kernel
theorem dX7_isBad_36 : decode cX7_isBad 36 = .ok (.ireturn, 1) := by decide +kernel
theorem dX7_why_0 : decode cX7_why 0 = .ok (.iload_n 1, 1) := by decide +kernel
theorem dX7_why_1 : decode cX7_why 1 = .ok (.iconst 0, 1) := by decide +kernel
theorem dX7_why_2 : decode cX7_why 2 = .ok (.iconst 2, 1) := by decide +kernel
theorem dX7_why_3 : decode cX7_why 3 = .ok (.invokestatic 78, 3) := by decide +kernel
theorem dX7_why_6 : decode cX7_why 6 = .ok (.ifCond .ne 5, 3) := by decide +kernel
theorem dX7_why_9 : decode cX7_why 9 = .ok (.iconst (-1), 1) := by decide +kernel
theorem dX7_why_10 : decode cX7_why 10 = .ok (.ireturn, 1) := by decide +kernel
theorem dX7_why_11 : decode cX7_why 11 = .ok (.iconst 0, 1) := by decide +kernel
theorem dX7_why_12 : decode cX7_why 12 = .ok (.istore_n 2, 1) := by decide +kernel
theorem dX7_why_13 : decode cX7_why 13 = .ok (.iload_n 2, 1) := by decide +kernel
theorem dX7_why_14 : decode cX7_why 14 = .ok (.aload_n 0, 1) := by decide +kernel
theorem dX7_why_15 : decode cX7_why 15 = .ok (.getfield 74, 3) := by decide +kernel
theorem dX7_why_18 : decode cX7_why 18 = .ok (.if_icmp .ge 64, 3) := by decide +kernel
theorem dX7_why_21 : decode cX7_why 21 = .ok (.iconst 1, 1) := by decide +kernel
theorem dX7_why_22 : decode cX7_why 22 = .ok (.istore_n 3, 1) := by decide +kernel
theorem dX7_why_23 : decode cX7_why 23 = .ok (.iload_n 3, 1) := by decide +kernel
theorem dX7_why_24 : decode cX7_why 24 = .ok (.iconst 5, 1) := by decide +kernel
theorem dX7_why_25 : decode cX7_why 25 = .ok (.if_icmp .gt 51, 3) := by decide +kernel
theorem dX7_why_28 : decode cX7_why 28 = .ok (.aload_n 0, 1) := by decide +kernel
theorem dX7_why_29 : decode cX7_why 29 = .ok (.iload_n 2, 1) := by decide +kernel
theorem dX7_why_30 : decode cX7_why 30 = .ok (.invokevirtual 89, 3) := by decide +kernel
theorem dX7_why_33 : decode cX7_why 33 = .ok (.ifCond .eq 43, 3) := by decide +kernel
theorem dX7_why_36 : decode cX7_why 36 = .ok (.aload_n 0, 1) := by decide +kernel
theorem dX7_why_37 : decode cX7_why 37 = .ok (.iload_n 2, 1) := by decide +kernel
theorem dX7_why_38 : decode cX7_why 38 = .ok (.iload_n 3, 1) := by decide +kernel
theorem dX7_why_39 : decode cX7_why 39 = .ok (.invokevirtual 122, 3) := by decide +kernel
theorem dX7_why_42 : decode cX7_why 42 = .ok (.istore 4, 2) := by decide +kernel
theorem dX7_why_44 : decode cX7_why 44 = .ok (.iload 4, 2) := by decide +kernel
theorem dX7_why_46 : decode cX7_why 46 = .ok (.iconst (-1), 1) := by decide +kernel
theorem dX7_why_47 : decode cX7_why 47 = .ok (.if_icmp .eq 23, 3) := by decide +kernel
theorem dX7_why_50 : decode cX7_why 50 = .ok (.iload_n 1, 1) := by decide +kernel
theorem dX7_why_51 : decode cX7_why 51 = .ok (.ifCond .ne 7, 3) := by decide +kernel
theorem dX7_why_54 : decode cX7_why 54 = .ok (.iload_n 2, 1) := by decide +kernel
theorem dX7_why_55 : decode cX7_why 55 = .ok (.goto 14, 3) := by decide +kernel
theorem dX7_why_58 : decode cX7_why 58 = .ok (.iload_n 1, 1) := by decide +kernel
theorem dX7_why_59 : decode cX7_why 59 = .ok (.iconst 1, 1) := by decide +kernel
theorem dX7_why_60 : decode cX7_why 60 = .ok (.if_icmp .ne 7, 3) := by decide +kernel
theorem dX7_why_63 : decode cX7_why 63 = .ok (.iload_n 3, 1) := by decide +kernel
theorem dX7_why_64 : decode cX7_why 64 = .ok (.goto 5, 3) := by decide +kernel
theorem dX7_why_67 : decode cX7_why 67 = .ok (.iload 4, 2) := by decide +kernel
theorem dX7_why_69 : decode cX7_why 69 = .ok (.ireturn, 1) := by decide +kernel
theorem dX7_why_70 : decode cX7_why 70 = .ok (.iinc 3 1, 3) := by decide +kernel
theorem dX7_why_73 : decode cX7_why 73 = .ok (.goto (-50), 3) := by decide +kernel
theorem dX7_why_76 : decode cX7_why 76 = .ok (.iinc 2 1, 3) := by decide +kernel
theorem dX7_why_79 : decode cX7_why 79 = .ok (.goto (-66), 3) := by decide +kernel
theorem dX7_why_82 : decode cX7_why 82 = .ok (.iconst (-1), 1) := by decide +kernel
theorem dX7_why_83 : decode cX7_why 83 = .ok (.ireturn, 1) := by decide +kernel
theorem dX7_may_0 : decode cX7_may 0 = .ok (.aload_n 0, 1) := by decide +kernel
theorem dX7_may_1 : decode cX7_may 1 = .ok (.iload_n 1, 1) := by decide +kernel
theorem dX7_may_2 : decode cX7_may 2 = .ok (.invokevirtual 100, 3) := by decide +kernel
theorem dX7_may_5 : decode cX7_may 5 = .ok (.ifCond .eq 33, 3) := by decide +kernel
theorem dX7_may_8 : decode cX7_may 8 = .ok (.aload_n 0, 1) := by decide +kernel
theorem dX7_may_9 : decode cX7_may 9 = .ok (.iload_n 1, 1) := by decide +kernel
theorem dX7_may_10 : decode cX7_may 10 = .ok (.invokevirtual 103, 3) := by decide +kernel
theorem dX7_may_13 : decode cX7_may 13 = .ok (.ifCond .ne 25, 3) := by decide +kernel
theorem dX7_may_16 : decode cX7_may 16 = .ok (.iload_n 2, 1) := by decide +kernel
theorem dX7_may_17 : decode cX7_may 17 = .ok (.aload_n 0, 1) := by decide +kernel
theorem dX7_may_18 : decode cX7_may 18 = .ok (.getfield 93, 3) := by decide +kernel
theorem dX7_may_21 : decode cX7_may 21 = .ok (.if_icmp .lt 17, 3) := by decide +kernel
theorem dX7_may_24 : decode cX7_may 24 = .ok (.iload_n 2, 1) := by decide +kernel
theorem dX7_may_25 : decode cX7_may 25 = .ok (.sipush 400, 3) := by decide +kernel
theorem dX7_may_28 : decode cX7_may 28 = .ok (.aload_n 0, 1) := by decide +kernel
theorem dX7_may_29 : decode cX7_may 29 = .ok (.getfield 26, 3) := by decide +kernel
theorem dX7_may_32 : decode cX7_may 32 = .ok (.iload_n 1, 1) := by decide +kernel
theorem dX7_may_33 : decode cX7_may 33 = .ok (.iaload, 1) := by decide +kernel
theorem dX7_may_34 : decode cX7_may 34 = .ok (.isub, 1) := by decide +kernel
theorem dX7_may_35 : decode cX7_may 35 = .ok (.if_icmp .le 5, 3) := by decide +kernel
theorem dX7_may_38 : decode cX7_may 38 = .ok (.iconst 0, 1) := by decide +kernel
theorem dX7_may_39 : decode cX7_may 39 = .ok (.ireturn, 1) := by decide +kernel
theorem dX7_may_40 : decode cX7_may 40 = .ok (.aload_n 0, 1) := by decide +kernel
theorem dX7_may_41 : decode cX7_may 41 = .ok (.getfield 44, 3) := by decide +kernel
theorem dX7_may_44 : decode cX7_may 44 = .ok (.iload_n 1, 1) := by decide +kernel
theorem dX7_may_45 : decode cX7_may 45 = .ok (.iaload, 1) := by decide +kernel
theorem dX7_may_46 : decode cX7_may 46 = .ok (.istore_n 3, 1) := by decide +kernel
theorem dX7_may_47 : decode cX7_may 47 = .ok (.aload_n 0, 1) := by decide +kernel
theorem dX7_may_48 : decode cX7_may 48 = .ok (.getfield 44, 3) := by decide +kernel
theorem dX7_may_51 : decode cX7_may 51 = .ok (.iload_n 1, 1) := by decide +kernel
theorem dX7_may_52 : decode cX7_may 52 = .ok (.iload_n 2, 1) := by decide +kernel
theorem dX7_may_53 : decode cX7_may 53 = .ok (.iastore, 1) := by decide +kernel
theorem dX7_may_54 : decode cX7_may 54 = .ok (.aload_n 0, 1) := by decide +kernel
theorem dX7_may_55 : decode cX7_may 55 = .ok (.iload_n 1, 1) := by decide +kernel
theorem dX7_may_56 : decode cX7_may 56 = .ok (.invokevirtual 126, 3) := by decide +kernel
theorem dX7_may_59 : decode cX7_may 59 = .ok (.ifCond .ne 7, 3) := by decide +kernel
theorem dX7_may_62 : decode cX7_may 62 = .ok (.iconst 1, 1) := by decide +kernel
theorem dX7_may_63 : decode cX7_may 63 = .ok (.goto 4, 3) := by decide +kernel
theorem dX7_may_66 : decode cX7_may 66 = .ok (.iconst 0, 1) := by decide +kernel
theorem dX7_may_67 : decode cX7_may 67 = .ok (.istore 4, 2) := by decide +kernel
theorem dX7_may_69 : decode cX7_may 69 = .ok (.iconst 0, 1) := by decide +kernel
theorem dX7_may_70 : decode cX7_may 70 = .ok (.istore 5, 2) := by decide +kernel
theorem dX7_may_72 : decode cX7_may 72 = .ok (.iload 5, 2) := by decide +kernel
theorem dX7_may_74 : decode cX7_may 74 = .ok (.aload_n 0, 1) := by decide +kernel
theorem dX7_may_75 : decode cX7_may 75 = .ok (.getfield 74, 3) := by decide +kernel
theorem dX7_may_78 : decode cX7_may 78 = .ok (.if_icmp .ge 60, 3) := by decide +kernel
theorem dX7_may_81 : decode cX7_may 81 = .ok (.iload 4, 2) := by decide +kernel
theorem dX7_may_83 : decode cX7_may 83 = .ok (.ifCond .eq 55, 3) := by decide +kernel
theorem dX7_may_86 : decode cX7_may 86 = .ok (.aload_n 0, 1) := by decide +kernel
theorem dX7_may_87 : decode cX7_may 87 = .ok (.getfield 50, 3) := by decide +kernel
theorem dX7_may_90 : decode cX7_may 90 = .ok (.bipush 40, 2) := by decide +kernel
theorem dX7_may_92 : decode cX7_may 92 = .ok (.iload 5, 2) := by decide +kernel
theorem dX7_may_94 : decode cX7_may 94 = .ok (.imul, 1) := by decide +kernel
theorem dX7_may_95 : decode cX7_may 95 = .ok (.iload_n 1, 1) := by decide +kernel
theorem dX7_may_96 : decode cX7_may 96 = .ok (.iadd, 1) := by decide +kernel
theorem dX7_may_97 : decode cX7_may 97 = .ok (.baload, 1) := by decide +kernel
theorem dX7_may_98 : decode cX7_may 98 = .ok (.ifCond .eq 27, 3) := by decide +kernel
theorem dX7_may_101 : decode cX7_may 101 = .ok (.aload_n 0, 1) := by decide +kernel
theorem dX7_may_102 : decode cX7_may 102 = .ok (.iload 5, 2) := by decide +kernel
theorem dX7_may_104 : decode cX7_may 104 = .ok (.invokevirtual 89, 3) := by decide +kernel
theorem dX7_may_107 : decode cX7_may 107 = .ok (.ifCond .eq 18, 3) := by decide +kernel
theorem dX7_may_110 : decode cX7_may 110 = .ok (.aload_n 0, 1) := by decide +kernel
theorem dX7_may_111 : decode cX7_may 111 = .ok (.iload_n 1, 1) := by decide +kernel
theorem dX7_may_112 : decode cX7_may 112 = .ok (.invokevirtual 96, 3) := by decide +kernel
theorem dX7_may_115 : decode cX7_may 115 = .ok (.aload_n 0, 1) := by decide +kernel
theorem dX7_may_116 : decode cX7_may 116 = .ok (.getfield 44, 3) := by decide +kernel
theorem dX7_may_119 : decode cX7_may 119 = .ok (.iload 5, 2) := by decide +kernel
theorem dX7_may_121 : decode cX7_may 121 = .ok (.iaload, 1) := by decide +kernel
theorem dX7_may_122 : decode cX7_may 122 = .ok (.if_icmp .gt 7, 3) := by decide +kernel
theorem dX7_may_125 : decode cX7_may 125 = .ok (.iconst 1, 1) := by decide +kernel
theorem dX7_may_126 : decode cX7_may 126 = .ok (.goto 4, 3) := by decide +kernel
theorem dX7_may_129 : decode cX7_may 129 = .ok (.iconst 0, 1) := by decide +kernel
theorem dX7_may_130 : decode cX7_may 130 = .ok (.istore 4, 2) := by decide +kernel
theorem dX7_may_132 : decode cX7_may 132 = .ok (.iinc 5 1, 3) := by decide +kernel
theorem dX7_may_135 : decode cX7_may 135 = .ok (.goto (-63), 3) := by decide +kernel
theorem dX7_may_138 : decode cX7_may 138 = .ok (.aload_n 0, 1) := by decide +kernel
theorem dX7_may_139 : decode cX7_may 139 = .ok (.getfield 44, 3) := by decide +kernel
theorem dX7_may_142 : decode cX7_may 142 = .ok (.iload_n 1, 1) := by decide +kernel
theorem dX7_may_143 : decode cX7_may 143 = .ok (.iload_n 3, 1) := by decide +kernel
theorem dX7_may_144 : decode cX7_may 144 = .ok (.iastore, 1) := by decide +kernel
theorem dX7_may_145 : decode cX7_may 145 = .ok (.iload 4, 2) := by decide +kernel
theorem dX7_may_147 : decode cX7_may 147 = .ok (.ireturn, 1) := by decide +kernel
theorem dX7_first_0 : decode cX7_first 0 = .ok (.iload_n 2, 1) := by decide +kernel
theorem dX7_first_1 : decode cX7_first 1 = .ok (.aload_n 0, 1) := by decide +kernel
theorem dX7_first_2 : decode cX7_first 2 = .ok (.getfield 93, 3) := by decide +kernel
theorem dX7_first_5 : decode cX7_first 5 = .ok (.if_icmp .le 7, 3) := by decide +kernel
theorem dX7_first_8 : decode cX7_first 8 = .ok (.iload_n 2, 1) := by decide +kernel
theorem dX7_first_9 : decode cX7_first 9 = .ok (.goto 7, 3) := by decide +kernel
theorem dX7_first_12 : decode cX7_first 12 = .ok (.aload_n 0, 1) := by decide +kernel
theorem dX7_first_13 : decode cX7_first 13 = .ok (.getfield 93, 3) := by decide +kernel
theorem dX7_first_16 : decode cX7_first 16 = .ok (.istore_n 3, 1) := by decide +kernel
theorem dX7_first_17 : decode cX7_first 17 = .ok (.iload_n 3, 1) := by decide +kernel
theorem dX7_first_18 : decode cX7_first 18 = .ok (.sipush 400, 3) := by decide +kernel
theorem dX7_first_21 : decode cX7_first 21 = .ok (.if_icmp .ge 20, 3) := by decide +kernel
theorem dX7_first_24 : decode cX7_first 24 = .ok (.aload_n 0, 1) := by decide +kernel
theorem dX7_first_25 : decode cX7_first 25 = .ok (.iload_n 1, 1) := by decide +kernel
theorem dX7_first_26 : decode cX7_first 26 = .ok (.iload_n 3, 1) := by decide +kernel
theorem dX7_first_27 : decode cX7_first 27 = .ok (.invokevirtual 129, 3) := by decide +kernel
theorem dX7_first_30 : decode cX7_first 30 = .ok (.ifCond .eq 5, 3) := by decide +kernel
theorem dX7_first_33 : decode cX7_first 33 = .ok (.iload_n 3, 1) := by decide +kernel
theorem dX7_first_34 : decode cX7_first 34 = .ok (.ireturn, 1) := by decide +kernel
theorem dX7_first_35 : decode cX7_first 35 = .ok (.iinc 3 1, 3) := by decide +kernel
theorem dX7_first_38 : decode cX7_first 38 = .ok (.goto (-21), 3) := by decide +kernel
theorem dX7_first_41 : decode cX7_first 41 = .ok (.iconst (-1), 1) := by decide +kernel
theorem dX7_first_42 : decode cX7_first 42 = .ok (.ireturn, 1) := by decide +kernel
theorem dX7_way_0 : decode cX7_way 0 = .ok (.iconst 0, 1) := by decide +kernel
theorem dX7_way_1 : decode cX7_way 1 = .ok (.istore_n 1, 1) := by decide +kernel
theorem dX7_way_2 : decode cX7_way 2 = .ok (.iload_n 1, 1) := by decide +kernel
theorem dX7_way_3 : decode cX7_way 3 = .ok (.aload_n 0, 1) := by decide +kernel
theorem dX7_way_4 : decode cX7_way 4 = .ok (.getfield 74, 3) := by decide +kernel
theorem dX7_way_7 : decode cX7_way 7 = .ok (.if_icmp .ge 23, 3) := by decide +kernel
theorem dX7_way_10 : decode cX7_way 10 = .ok (.aload_n 0, 1) := by decide +kernel
theorem dX7_way_11 : decode cX7_way 11 = .ok (.getfield 59, 3) := by decide +kernel
theorem dX7_way_14 : decode cX7_way 14 = .ok (.iload_n 1, 1) := by decide +kernel
theorem dX7_way_15 : decode cX7_way 15 = .ok (.iconst 0, 1) := by decide +kernel
theorem dX7_way_16 : decode cX7_way 16 = .ok (.iastore, 1) := by decide +kernel
theorem dX7_way_17 : decode cX7_way 17 = .ok (.aload_n 0, 1) := by decide +kernel
theorem dX7_way_18 : decode cX7_way 18 = .ok (.getfield 62, 3) := by decide +kernel
theorem dX7_way_21 : decode cX7_way 21 = .ok (.iload_n 1, 1) := by decide +kernel
theorem dX7_way_22 : decode cX7_way 22 = .ok (.iconst 0, 1) := by decide +kernel
theorem dX7_way_23 : decode cX7_way 23 = .ok (.iastore, 1) := by decide +kernel
theorem dX7_way_24 : decode cX7_way 24 = .ok (.iinc 1 1, 3) := by decide +kernel
theorem dX7_way_27 : decode cX7_way 27 = .ok (.goto (-25), 3) := by decide +kernel
theorem dX7_way_30 : decode cX7_way 30 = .ok (.iconst 1, 1) := by decide +kernel
theorem dX7_way_31 : decode cX7_way 31 = .ok (.istore_n 1, 1) := by decide +kernel
theorem dX7_way_32 : decode cX7_way 32 = .ok (.iload_n 1, 1) := by decide +kernel
theorem dX7_way_33 : decode cX7_way 33 = .ok (.ifCond .eq 143, 3) := by decide +kernel
theorem dX7_way_36 : decode cX7_way 36 = .ok (.iconst 0, 1) := by decide +kernel
theorem dX7_way_37 : decode cX7_way 37 = .ok (.istore_n 1, 1) := by decide +kernel
theorem dX7_way_38 : decode cX7_way 38 = .ok (.iconst 0, 1) := by decide +kernel
theorem dX7_way_39 : decode cX7_way 39 = .ok (.istore_n 2, 1) := by decide +kernel
theorem dX7_way_40 : decode cX7_way 40 = .ok (.iload_n 2, 1) := by decide +kernel
theorem dX7_way_41 : decode cX7_way 41 = .ok (.aload_n 0, 1) := by decide +kernel
theorem dX7_way_42 : decode cX7_way 42 = .ok (.getfield 74, 3) := by decide +kernel
theorem dX7_way_45 : decode cX7_way 45 = .ok (.if_icmp .ge 128, 3) := by decide +kernel
theorem dX7_way_48 : decode cX7_way 48 = .ok (.iconst 0, 1) := by decide +kernel
theorem dX7_way_49 : decode cX7_way 49 = .ok (.istore_n 3, 1) := by decide +kernel
theorem dX7_way_50 : decode cX7_way 50 = .ok (.iload_n 3, 1) := by decide +kernel
theorem dX7_way_51 : decode cX7_way 51 = .ok (.aload_n 0, 1) := by decide +kernel
theorem dX7_way_52 : decode cX7_way 52 = .ok (.getfield 74, 3) := by decide +kernel
theorem dX7_way_55 : decode cX7_way 55 = .ok (.if_icmp .ge 112, 3) := by decide +kernel
theorem dX7_way_58 : decode cX7_way 58 = .ok (.aload_n 0, 1) := by decide +kernel
theorem dX7_way_59 : decode cX7_way 59 = .ok (.getfield 50, 3) := by decide +kernel
theorem dX7_way_62 : decode cX7_way 62 = .ok (.bipush 40, 2) := by decide +kernel
theorem dX7_way_64 : decode cX7_way 64 = .ok (.iload_n 2, 1) := by decide +kernel
theorem dX7_way_65 : decode cX7_way 65 = .ok (.imul, 1) := by decide +kernel
theorem dX7_way_66 : decode cX7_way 66 = .ok (.iload_n 3, 1) := by decide +kernel
theorem dX7_way_67 : decode cX7_way 67 = .ok (.iadd, 1) := by decide +kernel
theorem dX7_way_68 : decode cX7_way 68 = .ok (.baload, 1) := by decide +kernel
theorem dX7_way_69 : decode cX7_way 69 = .ok (.ifCond .ne 6, 3) := by decide +kernel
theorem dX7_way_72 : decode cX7_way 72 = .ok (.goto 89, 3) := by decide +kernel
theorem dX7_way_75 : decode cX7_way 75 = .ok (.aload_n 0, 1) := by decide +kernel
theorem dX7_way_76 : decode cX7_way 76 = .ok (.getfield 59, 3) := by decide +kernel
theorem dX7_way_79 : decode cX7_way 79 = .ok (.iload_n 3, 1) := by decide +kernel
theorem dX7_way_80 : decode cX7_way 80 = .ok (.iaload, 1) := by decide +kernel
theorem dX7_way_81 : decode cX7_way 81 = .ok (.aload_n 0, 1) := by decide +kernel
theorem dX7_way_82 : decode cX7_way 82 = .ok (.getfield 26, 3) := by decide +kernel
theorem dX7_way_85 : decode cX7_way 85 = .ok (.iload_n 3, 1) := by decide +kernel
theorem dX7_way_86 : decode cX7_way 86 = .ok (.iaload, 1) := by decide +kernel
theorem dX7_way_87 : decode cX7_way 87 = .ok (.iadd, 1) := by decide +kernel
theorem dX7_way_88 : decode cX7_way 88 = .ok (.aload_n 0, 1) := by decide +kernel
theorem dX7_way_89 : decode cX7_way 89 = .ok (.getfield 59, 3) := by decide +kernel
theorem dX7_way_92 : decode cX7_way 92 = .ok (.iload_n 2, 1) := by decide +kernel
theorem dX7_way_93 : decode cX7_way 93 = .ok (.iaload, 1) := by decide +kernel
theorem dX7_way_94 : decode cX7_way 94 = .ok (.if_icmp .le 24, 3) := by decide +kernel
theorem dX7_way_97 : decode cX7_way 97 = .ok (.aload_n 0, 1) := by decide +kernel
theorem dX7_way_98 : decode cX7_way 98 = .ok (.getfield 59, 3) := by decide +kernel
theorem dX7_way_101 : decode cX7_way 101 = .ok (.iload_n 2, 1) := by decide +kernel
theorem dX7_way_102 : decode cX7_way 102 = .ok (.aload_n 0, 1) := by decide +kernel
theorem dX7_way_103 : decode cX7_way 103 = .ok (.getfield 59, 3) := by decide +kernel
theorem dX7_way_106 : decode cX7_way 106 = .ok (.iload_n 3, 1) := by decide +kernel
theorem dX7_way_107 : decode cX7_way 107 = .ok (.iaload, 1) := by decide +kernel
theorem dX7_way_108 : decode cX7_way 108 = .ok (.aload_n 0, 1) := by decide +kernel
theorem dX7_way_109 : decode cX7_way 109 = .ok (.getfield 26, 3) := by decide +kernel
theorem dX7_way_112 : decode cX7_way 112 = .ok (.iload_n 3, 1) := by decide +kernel
theorem dX7_way_113 : decode cX7_way 113 = .ok (.iaload, 1) := by decide +kernel
theorem dX7_way_114 : decode cX7_way 114 = .ok (.iadd, 1) := by decide +kernel
theorem dX7_way_115 : decode cX7_way 115 = .ok (.iastore, 1) := by decide +kernel
theorem dX7_way_116 : decode cX7_way 116 = .ok (.iconst 1, 1) := by decide +kernel
theorem dX7_way_117 : decode cX7_way 117 = .ok (.istore_n 1, 1) := by decide +kernel
theorem dX7_way_118 : decode cX7_way 118 = .ok (.aload_n 0, 1) := by decide +kernel
theorem dX7_way_119 : decode cX7_way 119 = .ok (.getfield 62, 3) := by decide +kernel
theorem dX7_way_122 : decode cX7_way 122 = .ok (.iload_n 2, 1) := by decide +kernel
theorem dX7_way_123 : decode cX7_way 123 = .ok (.iaload, 1) := by decide +kernel
theorem dX7_way_124 : decode cX7_way 124 = .ok (.aload_n 0, 1) := by decide +kernel
theorem dX7_way_125 : decode cX7_way 125 = .ok (.getfield 26, 3) := by decide +kernel
theorem dX7_way_128 : decode cX7_way 128 = .ok (.iload_n 2, 1) := by decide +kernel
theorem dX7_way_129 : decode cX7_way 129 = .ok (.iaload, 1) := by decide +kernel
theorem dX7_way_130 : decode cX7_way 130 = .ok (.iadd, 1) := by decide +kernel
theorem dX7_way_131 : decode cX7_way 131 = .ok (.aload_n 0, 1) := by decide +kernel
theorem dX7_way_132 : decode cX7_way 132 = .ok (.getfield 62, 3) := by decide +kernel
theorem dX7_way_135 : decode cX7_way 135 = .ok (.iload_n 3, 1) := by decide +kernel
theorem dX7_way_136 : decode cX7_way 136 = .ok (.iaload, 1) := by decide +kernel
theorem dX7_way_137 : decode cX7_way 137 = .ok (.if_icmp .le 24, 3) := by decide +kernel
theorem dX7_way_140 : decode cX7_way 140 = .ok (.aload_n 0, 1) := by decide +kernel
theorem dX7_way_141 : decode cX7_way 141 = .ok (.getfield 62, 3) := by decide +kernel
theorem dX7_way_144 : decode cX7_way 144 = .ok (.iload_n 3, 1) := by decide +kernel
theorem dX7_way_145 : decode cX7_way 145 = .ok (.aload_n 0, 1) := by decide +kernel
theorem dX7_way_146 : decode cX7_way 146 = .ok (.getfield 62, 3) := by decide +kernel
theorem dX7_way_149 : decode cX7_way 149 = .ok (.iload_n 2, 1) := by decide +kernel
theorem dX7_way_150 : decode cX7_way 150 = .ok (.iaload, 1) := by decide +kernel
theorem dX7_way_151 : decode cX7_way 151 = .ok (.aload_n 0, 1) := by decide +kernel
theorem dX7_way_152 : decode cX7_way 152 = .ok (.getfield 26, 3) := by decide +kernel
theorem dX7_way_155 : decode cX7_way 155 = .ok (.iload_n 2, 1) := by decide +kernel
theorem dX7_way_156 : decode cX7_way 156 = .ok (.iaload, 1) := by decide +kernel
theorem dX7_way_157 : decode cX7_way 157 = .ok (.iadd, 1) := by decide +kernel
theorem dX7_way_158 : decode cX7_way 158 = .ok (.iastore, 1) := by decide +kernel
theorem dX7_way_159 : decode cX7_way 159 = .ok (.iconst 1, 1) := by decide +kernel
theorem dX7_way_160 : decode cX7_way 160 = .ok (.istore_n 1, 1) := by decide +kernel
theorem dX7_way_161 : decode cX7_way 161 = .ok (.iinc 3 1, 3) := by decide +kernel
theorem dX7_way_164 : decode cX7_way 164 = .ok (.goto (-114), 3) := by decide +kernel
theorem dX7_way_167 : decode cX7_way 167 = .ok (.iinc 2 1, 3) := by decide +kernel
theorem dX7_way_170 : decode cX7_way 170 = .ok (.goto (-130), 3) := by decide +kernel
theorem dX7_way_173 : decode cX7_way 173 = .ok (.goto (-141), 3) := by decide +kernel
theorem dX7_way_176 : decode cX7_way 176 = .ok (.iconst 0, 1) := by decide +kernel
theorem dX7_way_177 : decode cX7_way 177 = .ok (.istore_n 2, 1) := by decide +kernel
theorem dX7_way_178 : decode cX7_way 178 = .ok (.iconst 0, 1) := by decide +kernel
theorem dX7_way_179 : decode cX7_way 179 = .ok (.istore_n 3, 1) := by decide +kernel
theorem dX7_way_180 : decode cX7_way 180 = .ok (.iload_n 3, 1) := by decide +kernel
theorem dX7_way_181 : decode cX7_way 181 = .ok (.aload_n 0, 1) := by decide +kernel
theorem dX7_way_182 : decode cX7_way 182 = .ok (.getfield 74, 3) := by decide +kernel
theorem dX7_way_185 : decode cX7_way 185 = .ok (.if_icmp .ge 54, 3) := by decide +kernel
theorem dX7_way_188 : decode cX7_way 188 = .ok (.aload_n 0, 1) := by decide +kernel
theorem dX7_way_189 : decode cX7_way 189 = .ok (.getfield 59, 3) := by decide +kernel
theorem dX7_way_192 : decode cX7_way 192 = .ok (.iload_n 3, 1) := by decide +kernel
theorem dX7_way_193 : decode cX7_way 193 = .ok (.iaload, 1) := by decide +kernel
theorem dX7_way_194 : decode cX7_way 194 = .ok (.aload_n 0, 1) := by decide +kernel
theorem dX7_way_195 : decode cX7_way 195 = .ok (.getfield 26, 3) := by decide +kernel
theorem dX7_way_198 : decode cX7_way 198 = .ok (.iload_n 3, 1) := by decide +kernel
theorem dX7_way_199 : decode cX7_way 199 = .ok (.iaload, 1) := by decide +kernel
theorem dX7_way_200 : decode cX7_way 200 = .ok (.iadd, 1) := by decide +kernel
theorem dX7_way_201 : decode cX7_way 201 = .ok (.aload_n 0, 1) := by decide +kernel
theorem dX7_way_202 : decode cX7_way 202 = .ok (.getfield 62, 3) := by decide +kernel
theorem dX7_way_205 : decode cX7_way 205 = .ok (.iload_n 3, 1) := by decide +kernel
theorem dX7_way_206 : decode cX7_way 206 = .ok (.iaload, 1) := by decide +kernel
theorem dX7_way_207 : decode cX7_way 207 = .ok (.iadd, 1) := by decide +kernel
theorem dX7_way_208 : decode cX7_way 208 = .ok (.iload_n 2, 1) := by decide +kernel
theorem dX7_way_209 : decode cX7_way 209 = .ok (.if_icmp .le 24, 3) := by decide +kernel
theorem dX7_way_212 : decode cX7_way 212 = .ok (.aload_n 0, 1) := by decide +kernel
theorem dX7_way_213 : decode cX7_way 213 = .ok (.getfield 59, 3) := by decide +kernel
theorem dX7_way_216 : decode cX7_way 216 = .ok (.iload_n 3, 1) := by decide +kernel
theorem dX7_way_217 : decode cX7_way 217 = .ok (.iaload, 1) := by decide +kernel
theorem dX7_way_218 : decode cX7_way 218 = .ok (.aload_n 0, 1) := by decide +kernel
theorem dX7_way_219 : decode cX7_way 219 = .ok (.getfield 26, 3) := by decide +kernel
theorem dX7_way_222 : decode cX7_way 222 = .ok (.iload_n 3, 1) := by decide +kernel
theorem dX7_way_223 : decode cX7_way 223 = .ok (.iaload, 1) := by decide +kernel
theorem dX7_way_224 : decode cX7_way 224 = .ok (.iadd, 1) := by decide +kernel
theorem dX7_way_225 : decode cX7_way 225 = .ok (.aload_n 0, 1) := by decide +kernel
theorem dX7_way_226 : decode cX7_way 226 = .ok (.getfield 62, 3) := by decide +kernel
theorem dX7_way_229 : decode cX7_way 229 = .ok (.iload_n 3, 1) := by decide +kernel
theorem dX7_way_230 : decode cX7_way 230 = .ok (.iaload, 1) := by decide +kernel
theorem dX7_way_231 : decode cX7_way 231 = .ok (.iadd, 1) := by decide +kernel
theorem dX7_way_232 : decode cX7_way 232 = .ok (.istore_n 2, 1) := by decide +kernel
theorem dX7_way_233 : decode cX7_way 233 = .ok (.iinc 3 1, 3) := by decide +kernel
theorem dX7_way_236 : decode cX7_way 236 = .ok (.goto (-56), 3) := by decide +kernel
theorem dX7_way_239 : decode cX7_way 239 = .ok (.iload_n 2, 1) := by decide +kernel
theorem dX7_way_240 : decode cX7_way 240 = .ok (.ireturn, 1) := by decide +kernel
theorem dX7_slack_0 : decode cX7_slack 0 = .ok (.iload_n 1, 1) := by decide +kernel
theorem dX7_slack_1 : decode cX7_slack 1 = .ok (.aload_n 0, 1) := by decide +kernel
theorem dX7_slack_2 : decode cX7_slack 2 = .ok (.getfield 59, 3) := by decide +kernel
theorem dX7_slack_5 : decode cX7_slack 5 = .ok (.iload_n 2, 1) := by decide +kernel
theorem dX7_slack_6 : decode cX7_slack 6 = .ok (.iaload, 1) := by decide +kernel
theorem dX7_slack_7 : decode cX7_slack 7 = .ok (.isub, 1) := by decide +kernel
theorem dX7_slack_8 : decode cX7_slack 8 = .ok (.aload_n 0, 1) := by decide +kernel
theorem dX7_slack_9 : decode cX7_slack 9 = .ok (.getfield 26, 3) := by decide +kernel
theorem dX7_slack_12 : decode cX7_slack 12 = .ok (.iload_n 2, 1) := by decide +kernel
theorem dX7_slack_13 : decode cX7_slack 13 = .ok (.iaload, 1) := by decide +kernel
theorem dX7_slack_14 : decode cX7_slack 14 = .ok (.isub, 1) := by decide +kernel
theorem dX7_slack_15 : decode cX7_slack 15 = .ok (.aload_n 0, 1) := by decide +kernel
theorem dX7_slack_16 : decode cX7_slack 16 = .ok (.getfield 62, 3) := by decide +kernel
theorem dX7_slack_19 : decode cX7_slack 19 = .ok (.iload_n 2, 1) := by decide +kernel
theorem dX7_slack_20 : decode cX7_slack 20 = .ok (.iaload, 1) := by decide +kernel
theorem dX7_slack_21 : decode cX7_slack 21 = .ok (.isub, 1) := by decide +kernel
theorem dX7_slack_22 : decode cX7_slack 22 = .ok (.ireturn, 1) := by decide +kernel
theorem dX7_bound_0 : decode cX7_bound 0 = .ok (.aload_n 0, 1) := by decide +kernel
theorem dX7_bound_1 : decode cX7_bound 1 = .ok (.invokevirtual 132, 3) := by decide +kernel
theorem dX7_bound_4 : decode cX7_bound 4 = .ok (.istore_n 1, 1) := by decide +kernel
theorem dX7_bound_5 : decode cX7_bound 5 = .ok (.iconst 0, 1) := by decide +kernel
theorem dX7_bound_6 : decode cX7_bound 6 = .ok (.istore_n 2, 1) := by decide +kernel
theorem dX7_bound_7 : decode cX7_bound 7 = .ok (.iload_n 2, 1) := by decide +kernel
theorem dX7_bound_8 : decode cX7_bound 8 = .ok (.bipush 8, 2) := by decide +kernel
theorem dX7_bound_10 : decode cX7_bound 10 = .ok (.aload_n 0, 1) := by decide +kernel
theorem dX7_bound_11 : decode cX7_bound 11 = .ok (.getfield 82, 3) := by decide +kernel
theorem dX7_bound_14 : decode cX7_bound 14 = .ok (.iadd, 1) := by decide +kernel
theorem dX7_bound_15 : decode cX7_bound 15 = .ok (.if_icmp .ge 209, 3) := by decide +kernel
theorem dX7_bound_18 : decode cX7_bound 18 = .ok (.iconst 0, 1) := by decide +kernel
theorem dX7_bound_19 : decode cX7_bound 19 = .ok (.istore_n 3, 1) := by decide +kernel
theorem dX7_bound_20 : decode cX7_bound 20 = .ok (.iconst 0, 1) := by decide +kernel
theorem dX7_bound_21 : decode cX7_bound 21 = .ok (.istore 4, 2) := by decide +kernel
theorem dX7_bound_23 : decode cX7_bound 23 = .ok (.iload 4, 2) := by decide +kernel
theorem dX7_bound_25 : decode cX7_bound 25 = .ok (.aload_n 0, 1) := by decide +kernel
theorem dX7_bound_26 : decode cX7_bound 26 = .ok (.getfield 74, 3) := by decide +kernel
theorem dX7_bound_29 : decode cX7_bound 29 = .ok (.if_icmp .ge 113, 3) := by decide +kernel
theorem dX7_bound_32 : decode cX7_bound 32 = .ok (.iload_n 2, 1) := by decide +kernel
theorem dX7_bound_33 : decode cX7_bound 33 = .ok (.iconst 4, 1) := by decide +kernel
theorem dX7_bound_34 : decode cX7_bound 34 = .ok (.if_icmp .ge 22, 3) := by decide +kernel
theorem dX7_bound_37 : decode cX7_bound 37 = .ok (.aload_n 0, 1) := by decide +kernel
theorem dX7_bound_38 : decode cX7_bound 38 = .ok (.getfield 29, 3) := by decide +kernel
theorem dX7_bound_41 : decode cX7_bound 41 = .ok (.iload 4, 2) := by decide +kernel
theorem dX7_bound_43 : decode cX7_bound 43 = .ok (.iaload, 1) := by decide +kernel
theorem dX7_bound_44 : decode cX7_bound 44 = .ok (.iload_n 2, 1) := by decide +kernel
theorem dX7_bound_45 : decode cX7_bound 45 = .ok (.if_icmp .ne 7, 3) := by decide +kernel
theorem dX7_bound_48 : decode cX7_bound 48 = .ok (.iconst 1, 1) := by decide +kernel
theorem dX7_bound_49 : decode cX7_bound 49 = .ok (.goto 53, 3) := by decide +kernel
theorem dX7_bound_52 : decode cX7_bound 52 = .ok (.iconst 0, 1) := by decide +kernel
theorem dX7_bound_53 : decode cX7_bound 53 = .ok (.goto 49, 3) := by decide +kernel
theorem dX7_bound_56 : decode cX7_bound 56 = .ok (.iload_n 2, 1) := by decide +kernel
theorem dX7_bound_57 : decode cX7_bound 57 = .ok (.bipush 8, 2) := by decide +kernel
theorem dX7_bound_59 : decode cX7_bound 59 = .ok (.if_icmp .ge 24, 3) := by decide +kernel
theorem dX7_bound_62 : decode cX7_bound 62 = .ok (.aload_n 0, 1) := by decide +kernel
theorem dX7_bound_63 : decode cX7_bound 63 = .ok (.getfield 41, 3) := by decide +kernel
theorem dX7_bound_66 : decode cX7_bound 66 = .ok (.iload 4, 2) := by decide +kernel
theorem dX7_bound_68 : decode cX7_bound 68 = .ok (.iaload, 1) := by decide +kernel
theorem dX7_bound_69 : decode cX7_bound 69 = .ok (.iload_n 2, 1) := by decide +kernel
theorem dX7_bound_70 : decode cX7_bound 70 = .ok (.iconst 4, 1) := by decide +kernel
theorem dX7_bound_71 : decode cX7_bound 71 = .ok (.isub, 1) := by decide +kernel
theorem dX7_bound_72 : decode cX7_bound 72 = .ok (.if_icmp .ne 7, 3) := by decide +kernel
theorem dX7_bound_75 : decode cX7_bound 75 = .ok (.iconst 1, 1) := by decide +kernel
theorem dX7_bound_76 : decode cX7_bound 76 = .ok (.goto 26, 3) := by decide +kernel
theorem dX7_bound_79 : decode cX7_bound 79 = .ok (.iconst 0, 1) := by decide +kernel
theorem dX7_bound_80 : decode cX7_bound 80 = .ok (.goto 22, 3) := by decide +kernel
theorem dX7_bound_83 : decode cX7_bound 83 = .ok (.aload_n 0, 1) := by decide +kernel
theorem dX7_bound_84 : decode cX7_bound 84 = .ok (.getfield 35, 3) := by decide +kernel
theorem dX7_bound_87 : decode cX7_bound 87 = .ok (.iload 4, 2) := by decide +kernel
theorem dX7_bound_89 : decode cX7_bound 89 = .ok (.iaload, 1) := by decide +kernel
theorem dX7_bound_90 : decode cX7_bound 90 = .ok (.iload_n 2, 1) := by decide +kernel
theorem dX7_bound_91 : decode cX7_bound 91 = .ok (.bipush 8, 2) := by decide +kernel
theorem dX7_bound_93 : decode cX7_bound 93 = .ok (.isub, 1) := by decide +kernel
theorem dX7_bound_94 : decode cX7_bound 94 = .ok (.if_icmp .ne 7, 3) := by decide +kernel
theorem dX7_bound_97 : decode cX7_bound 97 = .ok (.iconst 1, 1) := by decide +kernel
theorem dX7_bound_98 : decode cX7_bound 98 = .ok (.goto 4, 3) := by decide +kernel
theorem dX7_bound_101 : decode cX7_bound 101 = .ok (.iconst 0, 1) := by decide +kernel
theorem dX7_bound_102 : decode cX7_bound 102 = .ok (.istore 5, 2) := by decide +kernel
theorem dX7_bound_104 : decode cX7_bound 104 = .ok (.iload 5, 2) := by decide +kernel
theorem dX7_bound_106 : decode cX7_bound 106 = .ok (.ifCond .eq 30, 3) := by decide +kernel
theorem dX7_bound_109 : decode cX7_bound 109 = .ok (.iload_n 3, 1) := by decide +kernel
theorem dX7_bound_110 : decode cX7_bound 110 = .ok (.aload_n 0, 1) := by decide +kernel
theorem dX7_bound_111 : decode cX7_bound 111 = .ok (.getfield 26, 3) := by decide +kernel
theorem dX7_bound_114 : decode cX7_bound 114 = .ok (.iload 4, 2) := by decide +kernel
theorem dX7_bound_116 : decode cX7_bound 116 = .ok (.iaload, 1) := by decide +kernel
theorem dX7_bound_117 : decode cX7_bound 117 = .ok (.iload_n 2, 1) := by decide +kernel
theorem dX7_bound_118 : decode cX7_bound 118 = .ok (.iconst 4, 1) := by decide +kernel
theorem dX7_bound_119 : decode cX7_bound 119 = .ok (.if_icmp .ge 13, 3) := by decide +kernel
theorem dX7_bound_122 : decode cX7_bound 122 = .ok (.aload_n 0, 1) := by decide +kernel
theorem dX7_bound_123 : decode cX7_bound 123 = .ok (.getfield 32, 3) := by decide +kernel
theorem dX7_bound_126 : decode cX7_bound 126 = .ok (.iload 4, 2) := by decide +kernel
theorem dX7_bound_128 : decode cX7_bound 128 = .ok (.iaload, 1) := by decide +kernel
theorem dX7_bound_129 : decode cX7_bound 129 = .ok (.goto 4, 3) := by decide +kernel
theorem dX7_bound_132 : decode cX7_bound 132 = .ok (.iconst 1, 1) := by decide +kernel
theorem dX7_bound_133 : decode cX7_bound 133 = .ok (.imul, 1) := by decide +kernel
theorem dX7_bound_134 : decode cX7_bound 134 = .ok (.iadd, 1) := by decide +kernel
theorem dX7_bound_135 : decode cX7_bound 135 = .ok (.istore_n 3, 1) := by decide +kernel
theorem dX7_bound_136 : decode cX7_bound 136 = .ok (.iinc 4 1, 3) := by decide +kernel
theorem dX7_bound_139 : decode cX7_bound 139 = .ok (.goto (-116), 3) := by decide +kernel
theorem dX7_bound_142 : decode cX7_bound 142 = .ok (.iload_n 2, 1) := by decide +kernel
theorem dX7_bound_143 : decode cX7_bound 143 = .ok (.iconst 4, 1) := by decide +kernel
theorem dX7_bound_144 : decode cX7_bound 144 = .ok (.if_icmp .ge 12, 3) := by decide +kernel
theorem dX7_bound_147 : decode cX7_bound 147 = .ok (.aload_n 0, 1) := by decide +kernel
theorem dX7_bound_148 : decode cX7_bound 148 = .ok (.getfield 17, 3) := by decide +kernel
theorem dX7_bound_151 : decode cX7_bound 151 = .ok (.iload_n 2, 1) := by decide +kernel
theorem dX7_bound_152 : decode cX7_bound 152 = .ok (.iaload, 1) := by decide +kernel
theorem dX7_bound_153 : decode cX7_bound 153 = .ok (.goto 29, 3) := by decide +kernel
theorem dX7_bound_156 : decode cX7_bound 156 = .ok (.iload_n 2, 1) := by decide +kernel
theorem dX7_bound_157 : decode cX7_bound 157 = .ok (.bipush 8, 2) := by decide +kernel
theorem dX7_bound_159 : decode cX7_bound 159 = .ok (.if_icmp .ge 14, 3) := by decide +kernel
theorem dX7_bound_162 : decode cX7_bound 162 = .ok (.aload_n 0, 1) := by decide +kernel
theorem dX7_bound_163 : decode cX7_bound 163 = .ok (.getfield 20, 3) := by decide +kernel
theorem dX7_bound_166 : decode cX7_bound 166 = .ok (.iload_n 2, 1) := by decide +kernel
theorem dX7_bound_167 : decode cX7_bound 167 = .ok (.iconst 4, 1) := by decide +kernel
theorem dX7_bound_168 : decode cX7_bound 168 = .ok (.isub, 1) := by decide +kernel
theorem dX7_bound_169 : decode cX7_bound 169 = .ok (.iaload, 1) := by decide +kernel
theorem dX7_bound_170 : decode cX7_bound 170 = .ok (.goto 12, 3) := by decide +kernel
theorem dX7_bound_173 : decode cX7_bound 173 = .ok (.aload_n 0, 1) := by decide +kernel
theorem dX7_bound_174 : decode cX7_bound 174 = .ok (.getfield 9, 3) := by decide +kernel
theorem dX7_bound_177 : decode cX7_bound 177 = .ok (.iload_n 2, 1) := by decide +kernel
theorem dX7_bound_178 : decode cX7_bound 178 = .ok (.bipush 8, 2) := by decide +kernel
theorem dX7_bound_180 : decode cX7_bound 180 = .ok (.isub, 1) := by decide +kernel
theorem dX7_bound_181 : decode cX7_bound 181 = .ok (.iaload, 1) := by decide +kernel
theorem dX7_bound_182 : decode cX7_bound 182 = .ok (.istore 4, 2) := by decide +kernel
theorem dX7_bound_184 : decode cX7_bound 184 = .ok (.iload_n 3, 1) := by decide +kernel
theorem dX7_bound_185 : decode cX7_bound 185 = .ok (.ifCond .ne 6, 3) := by decide +kernel
theorem dX7_bound_188 : decode cX7_bound 188 = .ok (.goto 30, 3) := by decide +kernel
theorem dX7_bound_191 : decode cX7_bound 191 = .ok (.iload 4, 2) := by decide +kernel
theorem dX7_bound_193 : decode cX7_bound 193 = .ok (.ifCond .ne 5, 3) := by decide +kernel
theorem dX7_bound_196 : decode cX7_bound 196 = .ok (.iconst (-1), 1) := by decide +kernel
theorem dX7_bound_197 : decode cX7_bound 197 = .ok (.ireturn, 1) := by decide +kernel
theorem dX7_bound_198 : decode cX7_bound 198 = .ok (.iload_n 3, 1) := by decide +kernel
theorem dX7_bound_199 : decode cX7_bound 199 = .ok (.iload 4, 2) := by decide +kernel
theorem dX7_bound_201 : decode cX7_bound 201 = .ok (.iadd, 1) := by decide +kernel
theorem dX7_bound_202 : decode cX7_bound 202 = .ok (.iconst 1, 1) := by decide +kernel
theorem dX7_bound_203 : decode cX7_bound 203 = .ok (.isub, 1) := by decide +kernel
theorem dX7_bound_204 : decode cX7_bound 204 = .ok (.iload 4, 2) := by decide +kernel
theorem dX7_bound_206 : decode cX7_bound 206 = .ok (.idiv, 1) := by decide +kernel
theorem dX7_bound_207 : decode cX7_bound 207 = .ok (.istore 5, 2) := by decide +kernel
theorem dX7_bound_209 : decode cX7_bound 209 = .ok (.iload 5, 2) := by decide +kernel
theorem dX7_bound_211 : decode cX7_bound 211 = .ok (.iload_n 1, 1) := by decide +kernel
theorem dX7_bound_212 : decode cX7_bound 212 = .ok (.if_icmp .le 6, 3) := by decide +kernel
theorem dX7_bound_215 : decode cX7_bound 215 = .ok (.iload 5, 2) := by decide +kernel
theorem dX7_bound_217 : decode cX7_bound 217 = .ok (.istore_n 1, 1) := by decide +kernel
theorem dX7_bound_218 : decode cX7_bound 218 = .ok (.iinc 2 1, 3) := by decide +kernel
theorem dX7_bound_221 : decode cX7_bound 221 = .ok (.goto (-214), 3) := by decide +kernel
theorem dX7_bound_224 : decode cX7_bound 224 = .ok (.iload_n 1, 1) := by decide +kernel
theorem dX7_bound_225 : decode cX7_bound 225 = .ok (.ireturn, 1) := by decide +kernel
theorem dX7_isReady_0 : decode cX7_isReady 0 = .ok (.aload_n 0, 1) := by decide +kernel
theorem dX7_isReady_1 : decode cX7_isReady 1 = .ok (.iload_n 1, 1) := by decide +kernel
theorem dX7_isReady_2 : decode cX7_isReady 2 = .ok (.invokevirtual 89, 3) := by decide +kernel
theorem dX7_isReady_5 : decode cX7_isReady 5 = .ok (.ifCond .ne 7, 3) := by decide +kernel
theorem dX7_isReady_8 : decode cX7_isReady 8 = .ok (.iconst 1, 1) := by decide +kernel
theorem dX7_isReady_9 : decode cX7_isReady 9 = .ok (.goto 4, 3) := by decide +kernel
theorem dX7_isReady_12 : decode cX7_isReady 12 = .ok (.iconst 0, 1) := by decide +kernel
theorem dX7_isReady_13 : decode cX7_isReady 13 = .ok (.istore_n 2, 1) := by decide +kernel
theorem dX7_isReady_14 : decode cX7_isReady 14 = .ok (.iconst 0, 1) := by decide +kernel
theorem dX7_isReady_15 : decode cX7_isReady 15 = .ok (.istore_n 3, 1) := by decide +kernel
theorem dX7_isReady_16 : decode cX7_isReady 16 = .ok (.iload_n 3, 1) := by decide +kernel
theorem dX7_isReady_17 : decode cX7_isReady 17 = .ok (.aload_n 0, 1) := by decide +kernel
theorem dX7_isReady_18 : decode cX7_isReady 18 = .ok (.getfield 74, 3) := by decide +kernel
theorem dX7_isReady_21 : decode cX7_isReady 21 = .ok (.if_icmp .ge 41, 3) := by decide +kernel
theorem dX7_isReady_24 : decode cX7_isReady 24 = .ok (.iload_n 2, 1) := by decide +kernel
theorem dX7_isReady_25 : decode cX7_isReady 25 = .ok (.ifCond .eq 37, 3) := by decide +kernel
theorem dX7_isReady_28 : decode cX7_isReady 28 = .ok (.aload_n 0, 1) := by decide +kernel
theorem dX7_isReady_29 : decode cX7_isReady 29 = .ok (.getfield 50, 3) := by decide +kernel
theorem dX7_isReady_32 : decode cX7_isReady 32 = .ok (.bipush 40, 2) := by decide +kernel
theorem dX7_isReady_34 : decode cX7_isReady 34 = .ok (.iload_n 1, 1) := by decide +kernel
theorem dX7_isReady_35 : decode cX7_isReady 35 = .ok (.imul, 1) := by decide +kernel
theorem dX7_isReady_36 : decode cX7_isReady 36 = .ok (.iload_n 3, 1) := by decide +kernel
theorem dX7_isReady_37 : decode cX7_isReady 37 = .ok (.iadd, 1) := by decide +kernel
theorem dX7_isReady_38 : decode cX7_isReady 38 = .ok (.baload, 1) := by decide +kernel
theorem dX7_isReady_39 : decode cX7_isReady 39 = .ok (.ifCond .eq 11, 3) := by decide +kernel
theorem dX7_isReady_42 : decode cX7_isReady 42 = .ok (.aload_n 0, 1) := by decide +kernel
theorem dX7_isReady_43 : decode cX7_isReady 43 = .ok (.iload_n 3, 1) := by decide +kernel
theorem dX7_isReady_44 : decode cX7_isReady 44 = .ok (.invokevirtual 89, 3) := by decide +kernel
theorem dX7_isReady_47 : decode cX7_isReady 47 = .ok (.ifCond .eq 7, 3) := by decide +kernel
theorem dX7_isReady_50 : decode cX7_isReady 50 = .ok (.iconst 1, 1) := by decide +kernel
theorem dX7_isReady_51 : decode cX7_isReady 51 = .ok (.goto 4, 3) := by decide +kernel
theorem dX7_isReady_54 : decode cX7_isReady 54 = .ok (.iconst 0, 1) := by decide +kernel
theorem dX7_isReady_55 : decode cX7_isReady 55 = .ok (.istore_n 2, 1) := by decide +kernel
theorem dX7_isReady_56 : decode cX7_isReady 56 = .ok (.iinc 3 1, 3) := by decide +kernel
theorem dX7_isReady_59 : decode cX7_isReady 59 = .ok (.goto (-43), 3) := by decide +kernel
theorem dX7_isReady_62 : decode cX7_isReady 62 = .ok (.iload_n 2, 1) := by decide +kernel
theorem dX7_isReady_63 : decode cX7_isReady 63 = .ok (.ireturn, 1) := by decide +kernel
theorem dX7_plan_0 : decode cX7_plan 0 = .ok (.bipush 40, 2) := by decide +kernel
theorem dX7_plan_2 : decode cX7_plan 2 = .ok (.newarray .boolean, 2) := by decide +kernel
theorem dX7_plan_4 : decode cX7_plan 4 = .ok (.astore_n 1, 1) := by decide +kernel
theorem dX7_plan_5 : decode cX7_plan 5 = .ok (.bipush 40, 2) := by decide +kernel
theorem dX7_plan_7 : decode cX7_plan 7 = .ok (.newarray .int, 2) := by decide +kernel
theorem dX7_plan_9 : decode cX7_plan 9 = .ok (.astore_n 2, 1) := by decide +kernel
theorem dX7_plan_10 : decode cX7_plan 10 = .ok (.aload_n 0, 1) := by decide +kernel
theorem dX7_plan_11 : decode cX7_plan 11 = .ok (.invokevirtual 132, 3) := by decide +kernel
theorem dX7_plan_14 : decode cX7_plan 14 = .ok (.istore_n 3, 1) := by decide +kernel
theorem dX7_plan_15 : decode cX7_plan 15 = .ok (.iconst 0, 1) := by decide +kernel
theorem dX7_plan_16 : decode cX7_plan 16 = .ok (.istore 4, 2) := by decide +kernel
theorem dX7_plan_18 : decode cX7_plan 18 = .ok (.iload 4, 2) := by decide +kernel
theorem dX7_plan_20 : decode cX7_plan 20 = .ok (.aload_n 0, 1) := by decide +kernel
theorem dX7_plan_21 : decode cX7_plan 21 = .ok (.getfield 74, 3) := by decide +kernel
theorem dX7_plan_24 : decode cX7_plan 24 = .ok (.if_icmp .ge 20, 3) := by decide +kernel
theorem dX7_plan_27 : decode cX7_plan 27 = .ok (.aload_n 2, 1) := by decide +kernel
theorem dX7_plan_28 : decode cX7_plan 28 = .ok (.iload 4, 2) := by decide +kernel
theorem dX7_plan_30 : decode cX7_plan 30 = .ok (.aload_n 0, 1) := by decide +kernel
theorem dX7_plan_31 : decode cX7_plan 31 = .ok (.iload_n 3, 1) := by decide +kernel
theorem dX7_plan_32 : decode cX7_plan 32 = .ok (.iload 4, 2) := by decide +kernel
theorem dX7_plan_34 : decode cX7_plan 34 = .ok (.invokevirtual 136, 3) := by decide +kernel
theorem dX7_plan_37 : decode cX7_plan 37 = .ok (.iastore, 1) := by decide +kernel
theorem dX7_plan_38 : decode cX7_plan 38 = .ok (.iinc 4 1, 3) := by decide +kernel
theorem dX7_plan_41 : decode cX7_plan 41 = .ok (.goto (-23), 3) := by decide +kernel
theorem dX7_plan_44 : decode cX7_plan 44 = .ok (.iconst 0, 1) := by decide +kernel
theorem dX7_plan_45 : decode cX7_plan 45 = .ok (.istore 4, 2) := by decide +kernel
theorem dX7_plan_47 : decode cX7_plan 47 = .ok (.iconst 1, 1) := by decide +kernel
theorem dX7_plan_48 : decode cX7_plan 48 = .ok (.istore 5, 2) := by decide +kernel
theorem dX7_plan_50 : decode cX7_plan 50 = .ok (.iload 5, 2) := by decide +kernel
theorem dX7_plan_52 : decode cX7_plan 52 = .ok (.ifCond .eq 123, 3) := by decide +kernel
theorem dX7_plan_55 : decode cX7_plan 55 = .ok (.iconst (-1), 1) := by decide +kernel
theorem dX7_plan_56 : decode cX7_plan 56 = .ok (.istore 6, 2) := by decide +kernel
theorem dX7_plan_58 : decode cX7_plan 58 = .ok (.iconst 0, 1) := by decide +kernel
theorem dX7_plan_59 : decode cX7_plan 59 = .ok (.istore 7, 2) := by decide +kernel
theorem dX7_plan_61 : decode cX7_plan 61 = .ok (.iload 7, 2) := by decide +kernel
theorem dX7_plan_63 : decode cX7_plan 63 = .ok (.aload_n 0, 1) := by decide +kernel
theorem dX7_plan_64 : decode cX7_plan 64 = .ok (.getfield 74, 3) := by decide +kernel
theorem dX7_plan_67 : decode cX7_plan 67 = .ok (.if_icmp .ge 46, 3) := by decide +kernel
theorem dX7_plan_70 : decode cX7_plan 70 = .ok (.aload_n 1, 1) := by decide +kernel
theorem dX7_plan_71 : decode cX7_plan 71 = .ok (.iload 7, 2) := by decide +kernel
theorem dX7_plan_73 : decode cX7_plan 73 = .ok (.baload, 1) := by decide +kernel
theorem dX7_plan_74 : decode cX7_plan 74 = .ok (.ifCond .ne 33, 3) := by decide +kernel
theorem dX7_plan_77 : decode cX7_plan 77 = .ok (.aload_n 0, 1) := by decide +kernel
theorem dX7_plan_78 : decode cX7_plan 78 = .ok (.iload 7, 2) := by decide +kernel
theorem dX7_plan_80 : decode cX7_plan 80 = .ok (.invokevirtual 139, 3) := by decide +kernel
theorem dX7_plan_83 : decode cX7_plan 83 = .ok (.ifCond .eq 24, 3) := by decide +kernel
theorem dX7_plan_86 : decode cX7_plan 86 = .ok (.iload 6, 2) := by decide +kernel
theorem dX7_plan_88 : decode cX7_plan 88 = .ok (.iconst (-1), 1) := by decide +kernel
theorem dX7_plan_89 : decode cX7_plan 89 = .ok (.if_icmp .eq 14, 3) := by decide +kernel
theorem dX7_plan_92 : decode cX7_plan 92 = .ok (.aload_n 2, 1) := by decide +kernel
theorem dX7_plan_93 : decode cX7_plan 93 = .ok (.iload 7, 2) := by decide +kernel
theorem dX7_plan_95 : decode cX7_plan 95 = .ok (.iaload, 1) := by decide +kernel
theorem dX7_plan_96 : decode cX7_plan 96 = .ok (.aload_n 2, 1) := by decide +kernel
theorem dX7_plan_97 : decode cX7_plan 97 = .ok (.iload 6, 2) := by decide +kernel
theorem dX7_plan_99 : decode cX7_plan 99 = .ok (.iaload, 1) := by decide +kernel
theorem dX7_plan_100 : decode cX7_plan 100 = .ok (.if_icmp .ge 7, 3) := by decide +kernel
theorem dX7_plan_103 : decode cX7_plan 103 = .ok (.iload 7, 2) := by decide +kernel
theorem dX7_plan_105 : decode cX7_plan 105 = .ok (.istore 6, 2) := by decide +kernel
theorem dX7_plan_107 : decode cX7_plan 107 = .ok (.iinc 7 1, 3) := by decide +kernel
theorem dX7_plan_110 : decode cX7_plan 110 = .ok (.goto (-49), 3) := by decide +kernel
theorem dX7_plan_113 : decode cX7_plan 113 = .ok (.iload 6, 2) := by decide +kernel
theorem dX7_plan_115 : decode cX7_plan 115 = .ok (.iconst (-1), 1) := by decide +kernel
theorem dX7_plan_116 : decode cX7_plan 116 = .ok (.if_icmp .eq 7, 3) := by decide +kernel
theorem dX7_plan_119 : decode cX7_plan 119 = .ok (.iconst 1, 1) := by decide +kernel
theorem dX7_plan_120 : decode cX7_plan 120 = .ok (.goto 4, 3) := by decide +kernel
theorem dX7_plan_123 : decode cX7_plan 123 = .ok (.iconst 0, 1) := by decide +kernel
theorem dX7_plan_124 : decode cX7_plan 124 = .ok (.istore 5, 2) := by decide +kernel
theorem dX7_plan_126 : decode cX7_plan 126 = .ok (.iload 5, 2) := by decide +kernel
theorem dX7_plan_128 : decode cX7_plan 128 = .ok (.ifCond .ne 6, 3) := by decide +kernel
theorem dX7_plan_131 : decode cX7_plan 131 = .ok (.goto (-81), 3) := by decide +kernel
theorem dX7_plan_134 : decode cX7_plan 134 = .ok (.aload_n 1, 1) := by decide +kernel
theorem dX7_plan_135 : decode cX7_plan 135 = .ok (.iload 6, 2) := by decide +kernel
theorem dX7_plan_137 : decode cX7_plan 137 = .ok (.iconst 1, 1) := by decide +kernel
theorem dX7_plan_138 : decode cX7_plan 138 = .ok (.bastore, 1) := by decide +kernel
theorem dX7_plan_139 : decode cX7_plan 139 = .ok (.aload_n 0, 1) := by decide +kernel
theorem dX7_plan_140 : decode cX7_plan 140 = .ok (.iload 6, 2) := by decide +kernel
theorem dX7_plan_142 : decode cX7_plan 142 = .ok (.aload_n 0, 1) := by decide +kernel
theorem dX7_plan_143 : decode cX7_plan 143 = .ok (.getfield 93, 3) := by decide +kernel
theorem dX7_plan_146 : decode cX7_plan 146 = .ok (.invokevirtual 142, 3) := by decide +kernel
theorem dX7_plan_149 : decode cX7_plan 149 = .ok (.istore 7, 2) := by decide +kernel
theorem dX7_plan_151 : decode cX7_plan 151 = .ok (.iload 7, 2) := by decide +kernel
theorem dX7_plan_153 : decode cX7_plan 153 = .ok (.iconst (-1), 1) := by decide +kernel
theorem dX7_plan_154 : decode cX7_plan 154 = .ok (.if_icmp .ne 6, 3) := by decide +kernel
theorem dX7_plan_157 : decode cX7_plan 157 = .ok (.goto (-107), 3) := by decide +kernel
theorem dX7_plan_160 : decode cX7_plan 160 = .ok (.aload_n 0, 1) := by decide +kernel
theorem dX7_plan_161 : decode cX7_plan 161 = .ok (.getfield 44, 3) := by decide +kernel
theorem dX7_plan_164 : decode cX7_plan 164 = .ok (.iload 6, 2) := by decide +kernel
theorem dX7_plan_166 : decode cX7_plan 166 = .ok (.iload 7, 2) := by decide +kernel
theorem dX7_plan_168 : decode cX7_plan 168 = .ok (.iastore, 1) := by decide +kernel
theorem dX7_plan_169 : decode cX7_plan 169 = .ok (.iinc 4 1, 3) := by decide +kernel
theorem dX7_plan_172 : decode cX7_plan 172 = .ok (.goto (-122), 3) := by decide +kernel
theorem dX7_plan_175 : decode cX7_plan 175 = .ok (.iload 4, 2) := by decide +kernel
theorem dX7_plan_177 : decode cX7_plan 177 = .ok (.ireturn, 1) := by decide +kernel
theorem dX7_end_0 : decode cX7_end 0 = .ok (.iconst 0, 1) := by decide +kernel
theorem dX7_end_1 : decode cX7_end 1 = .ok (.istore_n 1, 1) := by decide +kernel
theorem dX7_end_2 : decode cX7_end 2 = .ok (.iconst 0, 1) := by decide +kernel
theorem dX7_end_3 : decode cX7_end 3 = .ok (.istore_n 2, 1) := by decide +kernel
theorem dX7_end_4 : decode cX7_end 4 = .ok (.iload_n 2, 1) := by decide +kernel
theorem dX7_end_5 : decode cX7_end 5 = .ok (.aload_n 0, 1) := by decide +kernel
theorem dX7_end_6 : decode cX7_end 6 = .ok (.getfield 74, 3) := by decide +kernel
theorem dX7_end_9 : decode cX7_end 9 = .ok (.if_icmp .ge 32, 3) := by decide +kernel
theorem dX7_end_12 : decode cX7_end 12 = .ok (.aload_n 0, 1) := by decide +kernel
theorem dX7_end_13 : decode cX7_end 13 = .ok (.iload_n 2, 1) := by decide +kernel
theorem dX7_end_14 : decode cX7_end 14 = .ok (.invokevirtual 89, 3) := by decide +kernel
theorem dX7_end_17 : decode cX7_end 17 = .ok (.ifCond .eq 18, 3) := by decide +kernel
theorem dX7_end_20 : decode cX7_end 20 = .ok (.aload_n 0, 1) := by decide +kernel
theorem dX7_end_21 : decode cX7_end 21 = .ok (.iload_n 2, 1) := by decide +kernel
theorem dX7_end_22 : decode cX7_end 22 = .ok (.invokevirtual 96, 3) := by decide +kernel
theorem dX7_end_25 : decode cX7_end 25 = .ok (.iload_n 1, 1) := by decide +kernel
theorem dX7_end_26 : decode cX7_end 26 = .ok (.if_icmp .le 9, 3) := by decide +kernel
theorem dX7_end_29 : decode cX7_end 29 = .ok (.aload_n 0, 1) := by decide +kernel
theorem dX7_end_30 : decode cX7_end 30 = .ok (.iload_n 2, 1) := by decide +kernel
theorem dX7_end_31 : decode cX7_end 31 = .ok (.invokevirtual 96, 3) := by decide +kernel
theorem dX7_end_34 : decode cX7_end 34 = .ok (.istore_n 1, 1) := by decide +kernel
theorem dX7_end_35 : decode cX7_end 35 = .ok (.iinc 2 1, 3) := by decide +kernel
theorem dX7_end_38 : decode cX7_end 38 = .ok (.goto (-34), 3) := by decide +kernel
theorem dX7_end_41 : decode cX7_end 41 = .ok (.iload_n 1, 1) := by decide +kernel
theorem dX7_end_42 : decode cX7_end 42 = .ok (.ireturn, 1) := by decide +kernel
theorem dX7_best_0 : decode cX7_best 0 = .ok (.aload_n 0, 1) := by decide +kernel
theorem dX7_best_1 : decode cX7_best 1 = .ok (.getfield 74, 3) := by decide +kernel
theorem dX7_best_4 : decode cX7_best 4 = .ok (.iconst 1, 1) := by decide +kernel
theorem dX7_best_5 : decode cX7_best 5 = .ok (.if_icmp .lt 19, 3) := by decide +kernel
theorem dX7_best_8 : decode cX7_best 8 = .ok (.aload_n 0, 1) := by decide +kernel
theorem dX7_best_9 : decode cX7_best 9 = .ok (.getfield 74, 3) := by decide +kernel
theorem dX7_best_12 : decode cX7_best 12 = .ok (.bipush 6, 2) := by decide +kernel
theorem dX7_best_14 : decode cX7_best 14 = .ok (.if_icmp .gt 10, 3) := by decide +kernel
theorem dX7_best_17 : decode cX7_best 17 = .ok (.aload_n 0, 1) := by decide +kernel
theorem dX7_best_18 : decode cX7_best 18 = .ok (.getfield 93, 3) := by decide +kernel
theorem dX7_best_21 : decode cX7_best 21 = .ok (.ifCond .le 5, 3) := by decide +kernel
theorem dX7_best_24 : decode cX7_best 24 = .ok (.iconst (-1), 1) := by decide +kernel
theorem dX7_best_25 : decode cX7_best 25 = .ok (.ireturn, 1) := by decide +kernel
theorem dX7_best_26 : decode cX7_best 26 = .ok (.iconst 0, 1) := by decide +kernel
theorem dX7_best_27 : decode cX7_best 27 = .ok (.istore_n 1, 1) := by decide +kernel
theorem dX7_best_28 : decode cX7_best 28 = .ok (.iload_n 1, 1) := by decide +kernel
theorem dX7_best_29 : decode cX7_best 29 = .ok (.aload_n 0, 1) := by decide +kernel
theorem dX7_best_30 : decode cX7_best 30 = .ok (.getfield 74, 3) := by decide +kernel
theorem dX7_best_33 : decode cX7_best 33 = .ok (.if_icmp .ge 19, 3) := by decide +kernel
theorem dX7_best_36 : decode cX7_best 36 = .ok (.aload_n 0, 1) := by decide +kernel
theorem dX7_best_37 : decode cX7_best 37 = .ok (.iload_n 1, 1) := by decide +kernel
theorem dX7_best_38 : decode cX7_best 38 = .ok (.invokevirtual 89, 3) := by decide +kernel
theorem dX7_best_41 : decode cX7_best 41 = .ok (.ifCond .eq 5, 3) := by decide +kernel
theorem dX7_best_44 : decode cX7_best 44 = .ok (.iconst (-1), 1) := by decide +kernel
theorem dX7_best_45 : decode cX7_best 45 = .ok (.ireturn, 1) := by decide +kernel
theorem dX7_best_46 : decode cX7_best 46 = .ok (.iinc 1 1, 3) := by decide +kernel
theorem dX7_best_49 : decode cX7_best 49 = .ok (.goto (-21), 3) := by decide +kernel
theorem dX7_best_52 : decode cX7_best 52 = .ok (.iconst (-1), 1) := by decide +kernel
theorem dX7_best_53 : decode cX7_best 53 = .ok (.istore_n 1, 1) := by decide +kernel
theorem dX7_best_54 : decode cX7_best 54 = .ok (.iconst 0, 1) := by decide +kernel
theorem dX7_best_55 : decode cX7_best 55 = .ok (.istore_n 2, 1) := by decide +kernel
theorem dX7_best_56 : decode cX7_best 56 = .ok (.aload_n 0, 1) := by decide +kernel
theorem dX7_best_57 : decode cX7_best 57 = .ok (.getfield 68, 3) := by decide +kernel
theorem dX7_best_60 : decode cX7_best 60 = .ok (.iconst 0, 1) := by decide +kernel
theorem dX7_best_61 : decode cX7_best 61 = .ok (.iconst 0, 1) := by decide +kernel
theorem dX7_best_62 : decode cX7_best 62 = .ok (.iastore, 1) := by decide +kernel
theorem dX7_best_63 : decode cX7_best 63 = .ok (.iload_n 2, 1) := by decide +kernel
theorem dX7_best_64 : decode cX7_best 64 = .ok (.ifCond .lt 178, 3) := by decide +kernel
theorem dX7_best_67 : decode cX7_best 67 = .ok (.iload_n 2, 1) := by decide +kernel
theorem dX7_best_68 : decode cX7_best 68 = .ok (.aload_n 0, 1) := by decide +kernel
theorem dX7_best_69 : decode cX7_best 69 = .ok (.getfield 74, 3) := by decide +kernel
theorem dX7_best_72 : decode cX7_best 72 = .ok (.if_icmp .ne 52, 3) := by decide +kernel
theorem dX7_best_75 : decode cX7_best 75 = .ok (.aload_n 0, 1) := by decide +kernel
theorem dX7_best_76 : decode cX7_best 76 = .ok (.invokevirtual 145, 3) := by decide +kernel
theorem dX7_best_79 : decode cX7_best 79 = .ok (.istore_n 3, 1) := by decide +kernel
theorem dX7_best_80 : decode cX7_best 80 = .ok (.iload_n 1, 1) := by decide +kernel
theorem dX7_best_81 : decode cX7_best 81 = .ok (.iconst (-1), 1) := by decide +kernel
theorem dX7_best_82 : decode cX7_best 82 = .ok (.if_icmp .eq 8, 3) := by decide +kernel
theorem dX7_best_85 : decode cX7_best 85 = .ok (.iload_n 3, 1) := by decide +kernel
theorem dX7_best_86 : decode cX7_best 86 = .ok (.iload_n 1, 1) := by decide +kernel
theorem dX7_best_87 : decode cX7_best 87 = .ok (.if_icmp .ge 37, 3) := by decide +kernel
theorem dX7_best_90 : decode cX7_best 90 = .ok (.iload_n 3, 1) := by decide +kernel
theorem dX7_best_91 : decode cX7_best 91 = .ok (.istore_n 1, 1) := by decide +kernel
end
section
theorem dX7_best_92 : decode cX7_best 92 = .ok (.iconst 0, 1) := by decide +kernel
theorem dX7_best_93 : decode cX7_best 93 = .ok (.istore 4, 2) := by decide +kernel
theorem dX7_best_95 : decode cX7_best 95 = .ok (.iload 4, 2) := by decide +kernel
theorem dX7_best_97 : decode cX7_best 97 = .ok (.aload_n 0, 1) := by decide +kernel
theorem dX7_best_98 : decode cX7_best 98 = .ok (.getfield 74, 3) := by decide +kernel
theorem dX7_best_101 : decode cX7_best 101 = .ok (.if_icmp .ge 23, 3) := by decide +kernel
theorem dX7_best_104 : decode cX7_best 104 = .ok (.aload_n 0, 1) := by decide +kernel
theorem dX7_best_105 : decode cX7_best 105 = .ok (.getfield 71, 3) := by decide +kernel
theorem dX7_best_108 : decode cX7_best 108 = .ok (.iload 4, 2) := by decide +kernel
theorem dX7_best_110 : decode cX7_best 110 = .ok (.aload_n 0, 1) := by decide +kernel
theorem dX7_best_111 : decode cX7_best 111 = .ok (.getfield 44, 3) := by decide +kernel
theorem dX7_best_114 : decode cX7_best 114 = .ok (.iload 4, 2) := by decide +kernel
theorem dX7_best_116 : decode cX7_best 116 = .ok (.iaload, 1) := by decide +kernel
theorem dX7_best_117 : decode cX7_best 117 = .ok (.iastore, 1) := by decide +kernel
theorem dX7_best_118 : decode cX7_best 118 = .ok (.iinc 4 1, 3) := by decide +kernel
theorem dX7_best_121 : decode cX7_best 121 = .ok (.goto (-26), 3) := by decide +kernel
theorem dX7_best_124 : decode cX7_best 124 = .ok (.iload_n 2, 1) := by decide +kernel
theorem dX7_best_125 : decode cX7_best 125 = .ok (.aload_n 0, 1) := by decide +kernel
theorem dX7_best_126 : decode cX7_best 126 = .ok (.getfield 74, 3) := by decide +kernel
theorem dX7_best_129 : decode cX7_best 129 = .ok (.if_icmp .ne 10, 3) := by decide +kernel
theorem dX7_best_132 : decode cX7_best 132 = .ok (.aload_n 0, 1) := by decide +kernel
theorem dX7_best_133 : decode cX7_best 133 = .ok (.getfield 74, 3) := by decide +kernel
theorem dX7_best_136 : decode cX7_best 136 = .ok (.goto 9, 3) := by decide +kernel
theorem dX7_best_139 : decode cX7_best 139 = .ok (.aload_n 0, 1) := by decide +kernel
theorem dX7_best_140 : decode cX7_best 140 = .ok (.getfield 68, 3) := by decide +kernel
theorem dX7_best_143 : decode cX7_best 143 = .ok (.iload_n 2, 1) := by decide +kernel
theorem dX7_best_144 : decode cX7_best 144 = .ok (.iaload, 1) := by decide +kernel
theorem dX7_best_145 : decode cX7_best 145 = .ok (.istore_n 3, 1) := by decide +kernel
theorem dX7_best_146 : decode cX7_best 146 = .ok (.iload_n 3, 1) := by decide +kernel
theorem dX7_best_147 : decode cX7_best 147 = .ok (.aload_n 0, 1) := by decide +kernel
theorem dX7_best_148 : decode cX7_best 148 = .ok (.getfield 74, 3) := by decide +kernel
theorem dX7_best_151 : decode cX7_best 151 = .ok (.if_icmp .ne 25, 3) := by decide +kernel
theorem dX7_best_154 : decode cX7_best 154 = .ok (.iinc 2 (-1), 3) := by decide +kernel
theorem dX7_best_157 : decode cX7_best 157 = .ok (.iload_n 2, 1) := by decide +kernel
theorem dX7_best_158 : decode cX7_best 158 = .ok (.ifCond .lt (-95), 3) := by decide +kernel
theorem dX7_best_161 : decode cX7_best 161 = .ok (.aload_n 0, 1) := by decide +kernel
theorem dX7_best_162 : decode cX7_best 162 = .ok (.getfield 44, 3) := by decide +kernel
theorem dX7_best_165 : decode cX7_best 165 = .ok (.aload_n 0, 1) := by decide +kernel
theorem dX7_best_166 : decode cX7_best 166 = .ok (.getfield 65, 3) := by decide +kernel
theorem dX7_best_169 : decode cX7_best 169 = .ok (.iload_n 2, 1) := by decide +kernel
theorem dX7_best_170 : decode cX7_best 170 = .ok (.iaload, 1) := by decide +kernel
theorem dX7_best_171 : decode cX7_best 171 = .ok (.iconst (-1), 1) := by decide +kernel
theorem dX7_best_172 : decode cX7_best 172 = .ok (.iastore, 1) := by decide +kernel
theorem dX7_best_173 : decode cX7_best 173 = .ok (.goto (-110), 3) := by decide +kernel
theorem dX7_best_176 : decode cX7_best 176 = .ok (.aload_n 0, 1) := by decide +kernel
theorem dX7_best_177 : decode cX7_best 177 = .ok (.getfield 68, 3) := by decide +kernel
theorem dX7_best_180 : decode cX7_best 180 = .ok (.iload_n 2, 1) := by decide +kernel
theorem dX7_best_181 : decode cX7_best 181 = .ok (.dup2, 1) := by decide +kernel
theorem dX7_best_182 : decode cX7_best 182 = .ok (.iaload, 1) := by decide +kernel
theorem dX7_best_183 : decode cX7_best 183 = .ok (.iconst 1, 1) := by decide +kernel
theorem dX7_best_184 : decode cX7_best 184 = .ok (.iadd, 1) := by decide +kernel
theorem dX7_best_185 : decode cX7_best 185 = .ok (.iastore, 1) := by decide +kernel
theorem dX7_best_186 : decode cX7_best 186 = .ok (.aload_n 0, 1) := by decide +kernel
theorem dX7_best_187 : decode cX7_best 187 = .ok (.iload_n 3, 1) := by decide +kernel
theorem dX7_best_188 : decode cX7_best 188 = .ok (.invokevirtual 139, 3) := by decide +kernel
theorem dX7_best_191 : decode cX7_best 191 = .ok (.ifCond .ne 6, 3) := by decide +kernel
theorem dX7_best_194 : decode cX7_best 194 = .ok (.goto (-131), 3) := by decide +kernel
theorem dX7_best_197 : decode cX7_best 197 = .ok (.aload_n 0, 1) := by decide +kernel
theorem dX7_best_198 : decode cX7_best 198 = .ok (.iload_n 3, 1) := by decide +kernel
theorem dX7_best_199 : decode cX7_best 199 = .ok (.iconst 0, 1) := by decide +kernel
theorem dX7_best_200 : decode cX7_best 200 = .ok (.invokevirtual 142, 3) := by decide +kernel
theorem dX7_best_203 : decode cX7_best 203 = .ok (.istore 4, 2) := by decide +kernel
theorem dX7_best_205 : decode cX7_best 205 = .ok (.iload 4, 2) := by decide +kernel
theorem dX7_best_207 : decode cX7_best 207 = .ok (.iconst (-1), 1) := by decide +kernel
theorem dX7_best_208 : decode cX7_best 208 = .ok (.if_icmp .ne 6, 3) := by decide +kernel
theorem dX7_best_211 : decode cX7_best 211 = .ok (.goto (-148), 3) := by decide +kernel
theorem dX7_best_214 : decode cX7_best 214 = .ok (.aload_n 0, 1) := by decide +kernel
theorem dX7_best_215 : decode cX7_best 215 = .ok (.getfield 44, 3) := by decide +kernel
theorem dX7_best_218 : decode cX7_best 218 = .ok (.iload_n 3, 1) := by decide +kernel
theorem dX7_best_219 : decode cX7_best 219 = .ok (.iload 4, 2) := by decide +kernel
theorem dX7_best_221 : decode cX7_best 221 = .ok (.iastore, 1) := by decide +kernel
theorem dX7_best_222 : decode cX7_best 222 = .ok (.aload_n 0, 1) := by decide +kernel
theorem dX7_best_223 : decode cX7_best 223 = .ok (.getfield 65, 3) := by decide +kernel
theorem dX7_best_226 : decode cX7_best 226 = .ok (.iload_n 2, 1) := by decide +kernel
theorem dX7_best_227 : decode cX7_best 227 = .ok (.iload_n 3, 1) := by decide +kernel
theorem dX7_best_228 : decode cX7_best 228 = .ok (.iastore, 1) := by decide +kernel
theorem dX7_best_229 : decode cX7_best 229 = .ok (.iinc 2 1, 3) := by decide +kernel
theorem dX7_best_232 : decode cX7_best 232 = .ok (.aload_n 0, 1) := by decide +kernel
theorem dX7_best_233 : decode cX7_best 233 = .ok (.getfield 68, 3) := by decide +kernel
theorem dX7_best_236 : decode cX7_best 236 = .ok (.iload_n 2, 1) := by decide +kernel
theorem dX7_best_237 : decode cX7_best 237 = .ok (.iconst 0, 1) := by decide +kernel
theorem dX7_best_238 : decode cX7_best 238 = .ok (.iastore, 1) := by decide +kernel
theorem dX7_best_239 : decode cX7_best 239 = .ok (.goto (-176), 3) := by decide +kernel
theorem dX7_best_242 : decode cX7_best 242 = .ok (.iconst 0, 1) := by decide +kernel
theorem dX7_best_243 : decode cX7_best 243 = .ok (.istore_n 3, 1) := by decide +kernel
theorem dX7_best_244 : decode cX7_best 244 = .ok (.iload_n 3, 1) := by decide +kernel
theorem dX7_best_245 : decode cX7_best 245 = .ok (.aload_n 0, 1) := by decide +kernel
theorem dX7_best_246 : decode cX7_best 246 = .ok (.getfield 74, 3) := by decide +kernel
theorem dX7_best_249 : decode cX7_best 249 = .ok (.if_icmp .ge 26, 3) := by decide +kernel
theorem dX7_best_252 : decode cX7_best 252 = .ok (.iload_n 1, 1) := by decide +kernel
theorem dX7_best_253 : decode cX7_best 253 = .ok (.iconst (-1), 1) := by decide +kernel
theorem dX7_best_254 : decode cX7_best 254 = .ok (.if_icmp .eq 21, 3) := by decide +kernel
theorem dX7_best_257 : decode cX7_best 257 = .ok (.aload_n 0, 1) := by decide +kernel
theorem dX7_best_258 : decode cX7_best 258 = .ok (.getfield 44, 3) := by decide +kernel
theorem dX7_best_261 : decode cX7_best 261 = .ok (.iload_n 3, 1) := by decide +kernel
theorem dX7_best_262 : decode cX7_best 262 = .ok (.aload_n 0, 1) := by decide +kernel
theorem dX7_best_263 : decode cX7_best 263 = .ok (.getfield 71, 3) := by decide +kernel
theorem dX7_best_266 : decode cX7_best 266 = .ok (.iload_n 3, 1) := by decide +kernel
theorem dX7_best_267 : decode cX7_best 267 = .ok (.iaload, 1) := by decide +kernel
theorem dX7_best_268 : decode cX7_best 268 = .ok (.iastore, 1) := by decide +kernel
theorem dX7_best_269 : decode cX7_best 269 = .ok (.iinc 3 1, 3) := by decide +kernel
theorem dX7_best_272 : decode cX7_best 272 = .ok (.goto (-28), 3) := by decide +kernel
theorem dX7_best_275 : decode cX7_best 275 = .ok (.iload_n 1, 1) := by decide +kernel
theorem dX7_best_276 : decode cX7_best 276 = .ok (.ireturn, 1) := by decide +kernel
theorem dX7_go_0 : decode cX7_go 0 = .ok (.iload_n 1, 1) := by decide +kernel
theorem dX7_go_1 : decode cX7_go 1 = .ok (.iconst 0, 1) := by decide +kernel
theorem dX7_go_2 : decode cX7_go 2 = .ok (.sipush 400, 3) := by decide +kernel
theorem dX7_go_5 : decode cX7_go 5 = .ok (.invokestatic 78, 3) := by decide +kernel
theorem dX7_go_8 : decode cX7_go 8 = .ok (.ifCond .ne 5, 3) := by decide +kernel
theorem dX7_go_11 : decode cX7_go 11 = .ok (.iconst (-1), 1) := by decide +kernel
theorem dX7_go_12 : decode cX7_go 12 = .ok (.ireturn, 1) := by decide +kernel
theorem dX7_go_13 : decode cX7_go 13 = .ok (.aload_n 0, 1) := by decide +kernel
theorem dX7_go_14 : decode cX7_go 14 = .ok (.aload_n 0, 1) := by decide +kernel
theorem dX7_go_15 : decode cX7_go 15 = .ok (.getfield 93, 3) := by decide +kernel
theorem dX7_go_18 : decode cX7_go 18 = .ok (.iload_n 1, 1) := by decide +kernel
theorem dX7_go_19 : decode cX7_go 19 = .ok (.iadd, 1) := by decide +kernel
theorem dX7_go_20 : decode cX7_go 20 = .ok (.sipush 400, 3) := by decide +kernel
theorem dX7_go_23 : decode cX7_go 23 = .ok (.if_icmp .le 9, 3) := by decide +kernel
theorem dX7_go_26 : decode cX7_go 26 = .ok (.sipush 400, 3) := by decide +kernel
theorem dX7_go_29 : decode cX7_go 29 = .ok (.goto 9, 3) := by decide +kernel
theorem dX7_go_32 : decode cX7_go 32 = .ok (.aload_n 0, 1) := by decide +kernel
theorem dX7_go_33 : decode cX7_go 33 = .ok (.getfield 93, 3) := by decide +kernel
theorem dX7_go_36 : decode cX7_go 36 = .ok (.iload_n 1, 1) := by decide +kernel
theorem dX7_go_37 : decode cX7_go 37 = .ok (.iadd, 1) := by decide +kernel
theorem dX7_go_38 : decode cX7_go 38 = .ok (.putfield 93, 3) := by decide +kernel
theorem dX7_go_41 : decode cX7_go 41 = .ok (.aload_n 0, 1) := by decide +kernel
theorem dX7_go_42 : decode cX7_go 42 = .ok (.getfield 93, 3) := by decide +kernel
theorem dX7_go_45 : decode cX7_go 45 = .ok (.ireturn, 1) := by decide +kernel
theorem dX7_fail_0 : decode cX7_fail 0 = .ok (.aload_n 0, 1) := by decide +kernel
theorem dX7_fail_1 : decode cX7_fail 1 = .ok (.iload_n 1, 1) := by decide +kernel
theorem dX7_fail_2 : decode cX7_fail 2 = .ok (.invokevirtual 100, 3) := by decide +kernel
theorem dX7_fail_5 : decode cX7_fail 5 = .ok (.ifCond .eq 21, 3) := by decide +kernel
theorem dX7_fail_8 : decode cX7_fail 8 = .ok (.aload_n 0, 1) := by decide +kernel
theorem dX7_fail_9 : decode cX7_fail 9 = .ok (.getfield 38, 3) := by decide +kernel
theorem dX7_fail_12 : decode cX7_fail 12 = .ok (.iload_n 1, 1) := by decide +kernel
theorem dX7_fail_13 : decode cX7_fail 13 = .ok (.iaload, 1) := by decide +kernel
theorem dX7_fail_14 : decode cX7_fail 14 = .ok (.iconst 4, 1) := by decide +kernel
theorem dX7_fail_15 : decode cX7_fail 15 = .ok (.if_icmp .ne 11, 3) := by decide +kernel
theorem dX7_fail_18 : decode cX7_fail 18 = .ok (.aload_n 0, 1) := by decide +kernel
theorem dX7_fail_19 : decode cX7_fail 19 = .ok (.iload_n 1, 1) := by decide +kernel
theorem dX7_fail_20 : decode cX7_fail 20 = .ok (.invokevirtual 148, 3) := by decide +kernel
theorem dX7_fail_23 : decode cX7_fail 23 = .ok (.ifCond .ne 5, 3) := by decide +kernel
theorem dX7_fail_26 : decode cX7_fail 26 = .ok (.iconst (-1), 1) := by decide +kernel
theorem dX7_fail_27 : decode cX7_fail 27 = .ok (.ireturn, 1) := by decide +kernel
theorem dX7_fail_28 : decode cX7_fail 28 = .ok (.bipush 40, 2) := by decide +kernel
theorem dX7_fail_30 : decode cX7_fail 30 = .ok (.newarray .boolean, 2) := by decide +kernel
theorem dX7_fail_32 : decode cX7_fail 32 = .ok (.astore_n 2, 1) := by decide +kernel
theorem dX7_fail_33 : decode cX7_fail 33 = .ok (.iconst 0, 1) := by decide +kernel
theorem dX7_fail_34 : decode cX7_fail 34 = .ok (.istore_n 3, 1) := by decide +kernel
theorem dX7_fail_35 : decode cX7_fail 35 = .ok (.iload_n 3, 1) := by decide +kernel
theorem dX7_fail_36 : decode cX7_fail 36 = .ok (.aload_n 0, 1) := by decide +kernel
theorem dX7_fail_37 : decode cX7_fail 37 = .ok (.getfield 74, 3) := by decide +kernel
theorem dX7_fail_40 : decode cX7_fail 40 = .ok (.if_icmp .ge 44, 3) := by decide +kernel
theorem dX7_fail_43 : decode cX7_fail 43 = .ok (.aload_n 2, 1) := by decide +kernel
theorem dX7_fail_44 : decode cX7_fail 44 = .ok (.iload_n 3, 1) := by decide +kernel
theorem dX7_fail_45 : decode cX7_fail 45 = .ok (.aload_n 0, 1) := by decide +kernel
theorem dX7_fail_46 : decode cX7_fail 46 = .ok (.iload_n 3, 1) := by decide +kernel
theorem dX7_fail_47 : decode cX7_fail 47 = .ok (.invokevirtual 148, 3) := by decide +kernel
theorem dX7_fail_50 : decode cX7_fail 50 = .ok (.ifCond .eq 26, 3) := by decide +kernel
theorem dX7_fail_53 : decode cX7_fail 53 = .ok (.iload_n 3, 1) := by decide +kernel
theorem dX7_fail_54 : decode cX7_fail 54 = .ok (.iload_n 1, 1) := by decide +kernel
theorem dX7_fail_55 : decode cX7_fail 55 = .ok (.if_icmp .eq 17, 3) := by decide +kernel
theorem dX7_fail_58 : decode cX7_fail 58 = .ok (.aload_n 0, 1) := by decide +kernel
theorem dX7_fail_59 : decode cX7_fail 59 = .ok (.getfield 53, 3) := by decide +kernel
theorem dX7_fail_62 : decode cX7_fail 62 = .ok (.bipush 40, 2) := by decide +kernel
theorem dX7_fail_64 : decode cX7_fail 64 = .ok (.iload_n 1, 1) := by decide +kernel
theorem dX7_fail_65 : decode cX7_fail 65 = .ok (.imul, 1) := by decide +kernel
theorem dX7_fail_66 : decode cX7_fail 66 = .ok (.iload_n 3, 1) := by decide +kernel
theorem dX7_fail_67 : decode cX7_fail 67 = .ok (.iadd, 1) := by decide +kernel
theorem dX7_fail_68 : decode cX7_fail 68 = .ok (.baload, 1) := by decide +kernel
theorem dX7_fail_69 : decode cX7_fail 69 = .ok (.ifCond .eq 7, 3) := by decide +kernel
theorem dX7_fail_72 : decode cX7_fail 72 = .ok (.iconst 1, 1) := by decide +kernel
theorem dX7_fail_73 : decode cX7_fail 73 = .ok (.goto 4, 3) := by decide +kernel
theorem dX7_fail_76 : decode cX7_fail 76 = .ok (.iconst 0, 1) := by decide +kernel
theorem dX7_fail_77 : decode cX7_fail 77 = .ok (.bastore, 1) := by decide +kernel
theorem dX7_fail_78 : decode cX7_fail 78 = .ok (.iinc 3 1, 3) := by decide +kernel
theorem dX7_fail_81 : decode cX7_fail 81 = .ok (.goto (-46), 3) := by decide +kernel
theorem dX7_fail_84 : decode cX7_fail 84 = .ok (.iconst 1, 1) := by decide +kernel
theorem dX7_fail_85 : decode cX7_fail 85 = .ok (.istore_n 3, 1) := by decide +kernel
theorem dX7_fail_86 : decode cX7_fail 86 = .ok (.iload_n 3, 1) := by decide +kernel
theorem dX7_fail_87 : decode cX7_fail 87 = .ok (.ifCond .eq 93, 3) := by decide +kernel
theorem dX7_fail_90 : decode cX7_fail 90 = .ok (.iconst 0, 1) := by decide +kernel
theorem dX7_fail_91 : decode cX7_fail 91 = .ok (.istore_n 3, 1) := by decide +kernel
theorem dX7_fail_92 : decode cX7_fail 92 = .ok (.iconst 0, 1) := by decide +kernel
theorem dX7_fail_93 : decode cX7_fail 93 = .ok (.istore 4, 2) := by decide +kernel
theorem dX7_fail_95 : decode cX7_fail 95 = .ok (.iload 4, 2) := by decide +kernel
theorem dX7_fail_97 : decode cX7_fail 97 = .ok (.aload_n 0, 1) := by decide +kernel
theorem dX7_fail_98 : decode cX7_fail 98 = .ok (.getfield 74, 3) := by decide +kernel
theorem dX7_fail_101 : decode cX7_fail 101 = .ok (.if_icmp .ge 76, 3) := by decide +kernel
theorem dX7_fail_104 : decode cX7_fail 104 = .ok (.iconst 0, 1) := by decide +kernel
theorem dX7_fail_105 : decode cX7_fail 105 = .ok (.istore 5, 2) := by decide +kernel
theorem dX7_fail_107 : decode cX7_fail 107 = .ok (.iload 5, 2) := by decide +kernel
theorem dX7_fail_109 : decode cX7_fail 109 = .ok (.aload_n 0, 1) := by decide +kernel
theorem dX7_fail_110 : decode cX7_fail 110 = .ok (.getfield 74, 3) := by decide +kernel
theorem dX7_fail_113 : decode cX7_fail 113 = .ok (.if_icmp .ge 58, 3) := by decide +kernel
theorem dX7_fail_116 : decode cX7_fail 116 = .ok (.aload_n 2, 1) := by decide +kernel
theorem dX7_fail_117 : decode cX7_fail 117 = .ok (.iload 4, 2) := by decide +kernel
theorem dX7_fail_119 : decode cX7_fail 119 = .ok (.baload, 1) := by decide +kernel
theorem dX7_fail_120 : decode cX7_fail 120 = .ok (.ifCond .ne 51, 3) := by decide +kernel
theorem dX7_fail_123 : decode cX7_fail 123 = .ok (.aload_n 0, 1) := by decide +kernel
theorem dX7_fail_124 : decode cX7_fail 124 = .ok (.iload 4, 2) := by decide +kernel
theorem dX7_fail_126 : decode cX7_fail 126 = .ok (.invokevirtual 148, 3) := by decide +kernel
theorem dX7_fail_129 : decode cX7_fail 129 = .ok (.ifCond .eq 42, 3) := by decide +kernel
theorem dX7_fail_132 : decode cX7_fail 132 = .ok (.aload_n 2, 1) := by decide +kernel
theorem dX7_fail_133 : decode cX7_fail 133 = .ok (.iload 5, 2) := by decide +kernel
theorem dX7_fail_135 : decode cX7_fail 135 = .ok (.baload, 1) := by decide +kernel
theorem dX7_fail_136 : decode cX7_fail 136 = .ok (.ifCond .eq 29, 3) := by decide +kernel
theorem dX7_fail_139 : decode cX7_fail 139 = .ok (.aload_n 0, 1) := by decide +kernel
theorem dX7_fail_140 : decode cX7_fail 140 = .ok (.getfield 50, 3) := by decide +kernel
theorem dX7_fail_143 : decode cX7_fail 143 = .ok (.bipush 40, 2) := by decide +kernel
theorem dX7_fail_145 : decode cX7_fail 145 = .ok (.iload 4, 2) := by decide +kernel
theorem dX7_fail_147 : decode cX7_fail 147 = .ok (.imul, 1) := by decide +kernel
theorem dX7_fail_148 : decode cX7_fail 148 = .ok (.iload 5, 2) := by decide +kernel
theorem dX7_fail_150 : decode cX7_fail 150 = .ok (.iadd, 1) := by decide +kernel
theorem dX7_fail_151 : decode cX7_fail 151 = .ok (.baload, 1) := by decide +kernel
theorem dX7_fail_152 : decode cX7_fail 152 = .ok (.ifCond .ne 6, 3) := by decide +kernel
theorem dX7_fail_155 : decode cX7_fail 155 = .ok (.goto 10, 3) := by decide +kernel
theorem dX7_fail_158 : decode cX7_fail 158 = .ok (.aload_n 2, 1) := by decide +kernel
theorem dX7_fail_159 : decode cX7_fail 159 = .ok (.iload 4, 2) := by decide +kernel
theorem dX7_fail_161 : decode cX7_fail 161 = .ok (.iconst 1, 1) := by decide +kernel
theorem dX7_fail_162 : decode cX7_fail 162 = .ok (.bastore, 1) := by decide +kernel
theorem dX7_fail_163 : decode cX7_fail 163 = .ok (.iconst 1, 1) := by decide +kernel
theorem dX7_fail_164 : decode cX7_fail 164 = .ok (.istore_n 3, 1) := by decide +kernel
theorem dX7_fail_165 : decode cX7_fail 165 = .ok (.iinc 5 1, 3) := by decide +kernel
theorem dX7_fail_168 : decode cX7_fail 168 = .ok (.goto (-61), 3) := by decide +kernel
theorem dX7_fail_171 : decode cX7_fail 171 = .ok (.iinc 4 1, 3) := by decide +kernel
theorem dX7_fail_174 : decode cX7_fail 174 = .ok (.goto (-79), 3) := by decide +kernel
theorem dX7_fail_177 : decode cX7_fail 177 = .ok (.goto (-91), 3) := by decide +kernel
theorem dX7_fail_180 : decode cX7_fail 180 = .ok (.iconst 0, 1) := by decide +kernel
theorem dX7_fail_181 : decode cX7_fail 181 = .ok (.istore 4, 2) := by decide +kernel
theorem dX7_fail_183 : decode cX7_fail 183 = .ok (.iconst 0, 1) := by decide +kernel
theorem dX7_fail_184 : decode cX7_fail 184 = .ok (.istore 5, 2) := by decide +kernel
theorem dX7_fail_186 : decode cX7_fail 186 = .ok (.iload 5, 2) := by decide +kernel
theorem dX7_fail_188 : decode cX7_fail 188 = .ok (.aload_n 0, 1) := by decide +kernel
theorem dX7_fail_189 : decode cX7_fail 189 = .ok (.getfield 74, 3) := by decide +kernel
theorem dX7_fail_192 : decode cX7_fail 192 = .ok (.if_icmp .ge 41, 3) := by decide +kernel
theorem dX7_fail_195 : decode cX7_fail 195 = .ok (.aload_n 2, 1) := by decide +kernel
theorem dX7_fail_196 : decode cX7_fail 196 = .ok (.iload 5, 2) := by decide +kernel
theorem dX7_fail_198 : decode cX7_fail 198 = .ok (.baload, 1) := by decide +kernel
theorem dX7_fail_199 : decode cX7_fail 199 = .ok (.ifCond .ne 6, 3) := by decide +kernel
theorem dX7_fail_202 : decode cX7_fail 202 = .ok (.goto 25, 3) := by decide +kernel
theorem dX7_fail_205 : decode cX7_fail 205 = .ok (.aload_n 0, 1) := by decide +kernel
theorem dX7_fail_206 : decode cX7_fail 206 = .ok (.getfield 44, 3) := by decide +kernel
theorem dX7_fail_209 : decode cX7_fail 209 = .ok (.iload 5, 2) := by decide +kernel
theorem dX7_fail_211 : decode cX7_fail 211 = .ok (.iconst (-1), 1) := by decide +kernel
theorem dX7_fail_212 : decode cX7_fail 212 = .ok (.iastore, 1) := by decide +kernel
theorem dX7_fail_213 : decode cX7_fail 213 = .ok (.aload_n 0, 1) := by decide +kernel
theorem dX7_fail_214 : decode cX7_fail 214 = .ok (.getfield 47, 3) := by decide +kernel
theorem dX7_fail_217 : decode cX7_fail 217 = .ok (.iload 5, 2) := by decide +kernel
theorem dX7_fail_219 : decode cX7_fail 219 = .ok (.dup2, 1) := by decide +kernel
theorem dX7_fail_220 : decode cX7_fail 220 = .ok (.iaload, 1) := by decide +kernel
theorem dX7_fail_221 : decode cX7_fail 221 = .ok (.iconst 1, 1) := by decide +kernel
theorem dX7_fail_222 : decode cX7_fail 222 = .ok (.iadd, 1) := by decide +kernel
theorem dX7_fail_223 : decode cX7_fail 223 = .ok (.iastore, 1) := by decide +kernel
theorem dX7_fail_224 : decode cX7_fail 224 = .ok (.iinc 4 1, 3) := by decide +kernel
theorem dX7_fail_227 : decode cX7_fail 227 = .ok (.iinc 5 1, 3) := by decide +kernel
theorem dX7_fail_230 : decode cX7_fail 230 = .ok (.goto (-44), 3) := by decide +kernel
theorem dX7_fail_233 : decode cX7_fail 233 = .ok (.iload 4, 2) := by decide +kernel
theorem dX7_fail_235 : decode cX7_fail 235 = .ok (.ireturn, 1) := by decide +kernel
theorem dX7_more_0 : decode cX7_more 0 = .ok (.aload_n 0, 1) := by decide +kernel
theorem dX7_more_1 : decode cX7_more 1 = .ok (.iload_n 1, 1) := by decide +kernel
theorem dX7_more_2 : decode cX7_more 2 = .ok (.invokevirtual 100, 3) := by decide +kernel
theorem dX7_more_5 : decode cX7_more 5 = .ok (.ifCond .eq 55, 3) := by decide +kernel
theorem dX7_more_8 : decode cX7_more 8 = .ok (.aload_n 0, 1) := by decide +kernel
theorem dX7_more_9 : decode cX7_more 9 = .ok (.iload_n 1, 1) := by decide +kernel
theorem dX7_more_10 : decode cX7_more 10 = .ok (.invokevirtual 148, 3) := by decide +kernel
theorem dX7_more_13 : decode cX7_more 13 = .ok (.ifCond .ne 47, 3) := by decide +kernel
theorem dX7_more_16 : decode cX7_more 16 = .ok (.iload_n 2, 1) := by decide +kernel
theorem dX7_more_17 : decode cX7_more 17 = .ok (.iconst 1, 1) := by decide +kernel
theorem dX7_more_18 : decode cX7_more 18 = .ok (.bipush 40, 2) := by decide +kernel
theorem dX7_more_20 : decode cX7_more 20 = .ok (.invokestatic 78, 3) := by decide +kernel
theorem dX7_more_23 : decode cX7_more 23 = .ok (.ifCond .eq 37, 3) := by decide +kernel
theorem dX7_more_26 : decode cX7_more 26 = .ok (.aload_n 0, 1) := by decide +kernel
theorem dX7_more_27 : decode cX7_more 27 = .ok (.getfield 26, 3) := by decide +kernel
theorem dX7_more_30 : decode cX7_more 30 = .ok (.iload_n 1, 1) := by decide +kernel
theorem dX7_more_31 : decode cX7_more 31 = .ok (.iaload, 1) := by decide +kernel
theorem dX7_more_32 : decode cX7_more 32 = .ok (.iload_n 2, 1) := by decide +kernel
theorem dX7_more_33 : decode cX7_more 33 = .ok (.iadd, 1) := by decide +kernel
theorem dX7_more_34 : decode cX7_more 34 = .ok (.bipush 40, 2) := by decide +kernel
theorem dX7_more_36 : decode cX7_more 36 = .ok (.if_icmp .gt 24, 3) := by decide +kernel
theorem dX7_more_39 : decode cX7_more 39 = .ok (.aload_n 0, 1) := by decide +kernel
theorem dX7_more_40 : decode cX7_more 40 = .ok (.iload_n 1, 1) := by decide +kernel
theorem dX7_more_41 : decode cX7_more 41 = .ok (.invokevirtual 89, 3) := by decide +kernel
theorem dX7_more_44 : decode cX7_more 44 = .ok (.ifCond .eq 18, 3) := by decide +kernel
theorem dX7_more_47 : decode cX7_more 47 = .ok (.aload_n 0, 1) := by decide +kernel
theorem dX7_more_48 : decode cX7_more 48 = .ok (.iload_n 1, 1) := by decide +kernel
theorem dX7_more_49 : decode cX7_more 49 = .ok (.invokevirtual 96, 3) := by decide +kernel
theorem dX7_more_52 : decode cX7_more 52 = .ok (.iload_n 2, 1) := by decide +kernel
theorem dX7_more_53 : decode cX7_more 53 = .ok (.iadd, 1) := by decide +kernel
theorem dX7_more_54 : decode cX7_more 54 = .ok (.sipush 400, 3) := by decide +kernel
theorem dX7_more_57 : decode cX7_more 57 = .ok (.if_icmp .le 5, 3) := by decide +kernel
theorem dX7_more_60 : decode cX7_more 60 = .ok (.iconst (-1), 1) := by decide +kernel
theorem dX7_more_61 : decode cX7_more 61 = .ok (.ireturn, 1) := by decide +kernel
theorem dX7_more_62 : decode cX7_more 62 = .ok (.aload_n 0, 1) := by decide +kernel
theorem dX7_more_63 : decode cX7_more 63 = .ok (.getfield 26, 3) := by decide +kernel
theorem dX7_more_66 : decode cX7_more 66 = .ok (.iload_n 1, 1) := by decide +kernel
theorem dX7_more_67 : decode cX7_more 67 = .ok (.dup2, 1) := by decide +kernel
theorem dX7_more_68 : decode cX7_more 68 = .ok (.iaload, 1) := by decide +kernel
theorem dX7_more_69 : decode cX7_more 69 = .ok (.iload_n 2, 1) := by decide +kernel
theorem dX7_more_70 : decode cX7_more 70 = .ok (.iadd, 1) := by decide +kernel
theorem dX7_more_71 : decode cX7_more 71 = .ok (.iastore, 1) := by decide +kernel
theorem dX7_more_72 : decode cX7_more 72 = .ok (.aload_n 0, 1) := by decide +kernel
theorem dX7_more_73 : decode cX7_more 73 = .ok (.getfield 26, 3) := by decide +kernel
theorem dX7_more_76 : decode cX7_more 76 = .ok (.iload_n 1, 1) := by decide +kernel
theorem dX7_more_77 : decode cX7_more 77 = .ok (.iaload, 1) := by decide +kernel
theorem dX7_more_78 : decode cX7_more 78 = .ok (.ireturn, 1) := by decide +kernel
theorem dX7_stateOf_0 : decode cX7_stateOf 0 = .ok (.aload_n 0, 1) := by decide +kernel
theorem dX7_stateOf_1 : decode cX7_stateOf 1 = .ok (.iload_n 1, 1) := by decide +kernel
theorem dX7_stateOf_2 : decode cX7_stateOf 2 = .ok (.invokevirtual 89, 3) := by decide +kernel
theorem dX7_stateOf_5 : decode cX7_stateOf 5 = .ok (.ifCond .ne 7, 3) := by decide +kernel
theorem dX7_stateOf_8 : decode cX7_stateOf 8 = .ok (.iconst 0, 1) := by decide +kernel
theorem dX7_stateOf_9 : decode cX7_stateOf 9 = .ok (.goto 28, 3) := by decide +kernel
theorem dX7_stateOf_12 : decode cX7_stateOf 12 = .ok (.aload_n 0, 1) := by decide +kernel
theorem dX7_stateOf_13 : decode cX7_stateOf 13 = .ok (.iload_n 1, 1) := by decide +kernel
theorem dX7_stateOf_14 : decode cX7_stateOf 14 = .ok (.invokevirtual 148, 3) := by decide +kernel
theorem dX7_stateOf_17 : decode cX7_stateOf 17 = .ok (.ifCond .eq 7, 3) := by decide +kernel
theorem dX7_stateOf_20 : decode cX7_stateOf 20 = .ok (.iconst 3, 1) := by decide +kernel
theorem dX7_stateOf_21 : decode cX7_stateOf 21 = .ok (.goto 16, 3) := by decide +kernel
theorem dX7_stateOf_24 : decode cX7_stateOf 24 = .ok (.aload_n 0, 1) := by decide +kernel
theorem dX7_stateOf_25 : decode cX7_stateOf 25 = .ok (.iload_n 1, 1) := by decide +kernel
theorem dX7_stateOf_26 : decode cX7_stateOf 26 = .ok (.invokevirtual 103, 3) := by decide +kernel
theorem dX7_stateOf_29 : decode cX7_stateOf 29 = .ok (.ifCond .eq 7, 3) := by decide +kernel
theorem dX7_stateOf_32 : decode cX7_stateOf 32 = .ok (.iconst 2, 1) := by decide +kernel
theorem dX7_stateOf_33 : decode cX7_stateOf 33 = .ok (.goto 4, 3) := by decide +kernel
theorem dX7_stateOf_36 : decode cX7_stateOf 36 = .ok (.iconst 1, 1) := by decide +kernel
theorem dX7_stateOf_37 : decode cX7_stateOf 37 = .ok (.ireturn, 1) := by decide +kernel
theorem dX7_told_0 : decode cX7_told 0 = .ok (.aload_n 0, 1) := by decide +kernel
theorem dX7_told_1 : decode cX7_told 1 = .ok (.iload_n 1, 1) := by decide +kernel
theorem dX7_told_2 : decode cX7_told 2 = .ok (.invokevirtual 100, 3) := by decide +kernel
theorem dX7_told_5 : decode cX7_told 5 = .ok (.ifCond .ne 5, 3) := by decide +kernel
theorem dX7_told_8 : decode cX7_told 8 = .ok (.iconst (-1), 1) := by decide +kernel
theorem dX7_told_9 : decode cX7_told 9 = .ok (.ireturn, 1) := by decide +kernel
theorem dX7_told_10 : decode cX7_told 10 = .ok (.iconst 0, 1) := by decide +kernel
theorem dX7_told_11 : decode cX7_told 11 = .ok (.istore_n 3, 1) := by decide +kernel
theorem dX7_told_12 : decode cX7_told 12 = .ok (.iload_n 2, 1) := by decide +kernel
theorem dX7_told_13 : decode cX7_told 13 = .ok (.bipush 8, 2) := by decide +kernel
theorem dX7_told_15 : decode cX7_told 15 = .ok (.if_icmp .lt 16, 3) := by decide +kernel
theorem dX7_told_18 : decode cX7_told 18 = .ok (.iload_n 2, 1) := by decide +kernel
theorem dX7_told_19 : decode cX7_told 19 = .ok (.bipush 10, 2) := by decide +kernel
theorem dX7_told_21 : decode cX7_told 21 = .ok (.if_icmp .gt 10, 3) := by decide +kernel
theorem dX7_told_24 : decode cX7_told 24 = .ok (.aload_n 0, 1) := by decide +kernel
theorem dX7_told_25 : decode cX7_told 25 = .ok (.invokevirtual 132, 3) := by decide +kernel
theorem dX7_told_28 : decode cX7_told 28 = .ok (.goto 4, 3) := by decide +kernel
theorem dX7_told_31 : decode cX7_told 31 = .ok (.iconst 0, 1) := by decide +kernel
theorem dX7_told_32 : decode cX7_told 32 = .ok (.istore 4, 2) := by decide +kernel
theorem dX7_told_34 : decode cX7_told 34 = .ok (.iload_n 2, 1) := by decide +kernel
theorem dX7_told_35 : decode cX7_told 35 = .ok (.tableswitch 192 0 12 #[65, 72, 79, 86, 93, 100, 107, 113, 120, 127, 134, 142, 185], 65) := by decide +kernel
theorem dX7_told_100 : decode cX7_told 100 = .ok (.aload_n 0, 1) := by decide +kernel
theorem dX7_told_101 : decode cX7_told 101 = .ok (.getfield 26, 3) := by decide +kernel
theorem dX7_told_104 : decode cX7_told 104 = .ok (.iload_n 1, 1) := by decide +kernel
theorem dX7_told_105 : decode cX7_told 105 = .ok (.iaload, 1) := by decide +kernel
theorem dX7_told_106 : decode cX7_told 106 = .ok (.ireturn, 1) := by decide +kernel
theorem dX7_told_107 : decode cX7_told 107 = .ok (.aload_n 0, 1) := by decide +kernel
theorem dX7_told_108 : decode cX7_told 108 = .ok (.getfield 29, 3) := by decide +kernel
theorem dX7_told_111 : decode cX7_told 111 = .ok (.iload_n 1, 1) := by decide +kernel
theorem dX7_told_112 : decode cX7_told 112 = .ok (.iaload, 1) := by decide +kernel
theorem dX7_told_113 : decode cX7_told 113 = .ok (.ireturn, 1) := by decide +kernel
theorem dX7_told_114 : decode cX7_told 114 = .ok (.aload_n 0, 1) := by decide +kernel
theorem dX7_told_115 : decode cX7_told 115 = .ok (.getfield 32, 3) := by decide +kernel
theorem dX7_told_118 : decode cX7_told 118 = .ok (.iload_n 1, 1) := by decide +kernel
theorem dX7_told_119 : decode cX7_told 119 = .ok (.iaload, 1) := by decide +kernel
theorem dX7_told_120 : decode cX7_told 120 = .ok (.ireturn, 1) := by decide +kernel
theorem dX7_told_121 : decode cX7_told 121 = .ok (.aload_n 0, 1) := by decide +kernel
theorem dX7_told_122 : decode cX7_told 122 = .ok (.getfield 35, 3) := by decide +kernel
theorem dX7_told_125 : decode cX7_told 125 = .ok (.iload_n 1, 1) := by decide +kernel
theorem dX7_told_126 : decode cX7_told 126 = .ok (.iaload, 1) := by decide +kernel
theorem dX7_told_127 : decode cX7_told 127 = .ok (.ireturn, 1) := by decide +kernel
theorem dX7_told_128 : decode cX7_told 128 = .ok (.aload_n 0, 1) := by decide +kernel
theorem dX7_told_129 : decode cX7_told 129 = .ok (.getfield 38, 3) := by decide +kernel
theorem dX7_told_132 : decode cX7_told 132 = .ok (.iload_n 1, 1) := by decide +kernel
theorem dX7_told_133 : decode cX7_told 133 = .ok (.iaload, 1) := by decide +kernel
theorem dX7_told_134 : decode cX7_told 134 = .ok (.ireturn, 1) := by decide +kernel
theorem dX7_told_135 : decode cX7_told 135 = .ok (.aload_n 0, 1) := by decide +kernel
theorem dX7_told_136 : decode cX7_told 136 = .ok (.getfield 41, 3) := by decide +kernel
theorem dX7_told_139 : decode cX7_told 139 = .ok (.iload_n 1, 1) := by decide +kernel
theorem dX7_told_140 : decode cX7_told 140 = .ok (.iaload, 1) := by decide +kernel
theorem dX7_told_141 : decode cX7_told 141 = .ok (.ireturn, 1) := by decide +kernel
theorem dX7_told_142 : decode cX7_told 142 = .ok (.aload_n 0, 1) := by decide +kernel
theorem dX7_told_143 : decode cX7_told 143 = .ok (.iload_n 1, 1) := by decide +kernel
theorem dX7_told_144 : decode cX7_told 144 = .ok (.invokevirtual 151, 3) := by decide +kernel
theorem dX7_told_147 : decode cX7_told 147 = .ok (.ireturn, 1) := by decide +kernel
theorem dX7_told_148 : decode cX7_told 148 = .ok (.aload_n 0, 1) := by decide +kernel
theorem dX7_told_149 : decode cX7_told 149 = .ok (.getfield 44, 3) := by decide +kernel
theorem dX7_told_152 : decode cX7_told 152 = .ok (.iload_n 1, 1) := by decide +kernel
theorem dX7_told_153 : decode cX7_told 153 = .ok (.iaload, 1) := by decide +kernel
theorem dX7_told_154 : decode cX7_told 154 = .ok (.ireturn, 1) := by decide +kernel
theorem dX7_told_155 : decode cX7_told 155 = .ok (.aload_n 0, 1) := by decide +kernel
theorem dX7_told_156 : decode cX7_told 156 = .ok (.getfield 59, 3) := by decide +kernel
theorem dX7_told_159 : decode cX7_told 159 = .ok (.iload_n 1, 1) := by decide +kernel
theorem dX7_told_160 : decode cX7_told 160 = .ok (.iaload, 1) := by decide +kernel
theorem dX7_told_161 : decode cX7_told 161 = .ok (.ireturn, 1) := by decide +kernel
theorem dX7_told_162 : decode cX7_told 162 = .ok (.aload_n 0, 1) := by decide +kernel
theorem dX7_told_163 : decode cX7_told 163 = .ok (.getfield 62, 3) := by decide +kernel
theorem dX7_told_166 : decode cX7_told 166 = .ok (.iload_n 1, 1) := by decide +kernel
theorem dX7_told_167 : decode cX7_told 167 = .ok (.iaload, 1) := by decide +kernel
theorem dX7_told_168 : decode cX7_told 168 = .ok (.ireturn, 1) := by decide +kernel
theorem dX7_told_169 : decode cX7_told 169 = .ok (.aload_n 0, 1) := by decide +kernel
theorem dX7_told_170 : decode cX7_told 170 = .ok (.iload 4, 2) := by decide +kernel
theorem dX7_told_172 : decode cX7_told 172 = .ok (.iload_n 1, 1) := by decide +kernel
theorem dX7_told_173 : decode cX7_told 173 = .ok (.invokevirtual 136, 3) := by decide +kernel
theorem dX7_told_176 : decode cX7_told 176 = .ok (.ireturn, 1) := by decide +kernel
theorem dX7_told_177 : decode cX7_told 177 = .ok (.iconst 0, 1) := by decide +kernel
theorem dX7_told_178 : decode cX7_told 178 = .ok (.istore 5, 2) := by decide +kernel
theorem dX7_told_180 : decode cX7_told 180 = .ok (.iload 5, 2) := by decide +kernel
theorem dX7_told_182 : decode cX7_told 182 = .ok (.aload_n 0, 1) := by decide +kernel
theorem dX7_told_183 : decode cX7_told 183 = .ok (.getfield 74, 3) := by decide +kernel
theorem dX7_told_186 : decode cX7_told 186 = .ok (.if_icmp .ge 32, 3) := by decide +kernel
theorem dX7_told_189 : decode cX7_told 189 = .ok (.iload_n 3, 1) := by decide +kernel
theorem dX7_told_190 : decode cX7_told 190 = .ok (.aload_n 0, 1) := by decide +kernel
theorem dX7_told_191 : decode cX7_told 191 = .ok (.getfield 50, 3) := by decide +kernel
theorem dX7_told_194 : decode cX7_told 194 = .ok (.bipush 40, 2) := by decide +kernel
theorem dX7_told_196 : decode cX7_told 196 = .ok (.iload_n 1, 1) := by decide +kernel
theorem dX7_told_197 : decode cX7_told 197 = .ok (.imul, 1) := by decide +kernel
theorem dX7_told_198 : decode cX7_told 198 = .ok (.iload 5, 2) := by decide +kernel
theorem dX7_told_200 : decode cX7_told 200 = .ok (.iadd, 1) := by decide +kernel
theorem dX7_told_201 : decode cX7_told 201 = .ok (.baload, 1) := by decide +kernel
theorem dX7_told_202 : decode cX7_told 202 = .ok (.ifCond .eq 7, 3) := by decide +kernel
theorem dX7_told_205 : decode cX7_told 205 = .ok (.iconst 1, 1) := by decide +kernel
theorem dX7_told_206 : decode cX7_told 206 = .ok (.goto 4, 3) := by decide +kernel
theorem dX7_told_209 : decode cX7_told 209 = .ok (.iconst 0, 1) := by decide +kernel
theorem dX7_told_210 : decode cX7_told 210 = .ok (.iadd, 1) := by decide +kernel
theorem dX7_told_211 : decode cX7_told 211 = .ok (.istore_n 3, 1) := by decide +kernel
theorem dX7_told_212 : decode cX7_told 212 = .ok (.iinc 5 1, 3) := by decide +kernel
theorem dX7_told_215 : decode cX7_told 215 = .ok (.goto (-35), 3) := by decide +kernel
theorem dX7_told_218 : decode cX7_told 218 = .ok (.iload_n 3, 1) := by decide +kernel
theorem dX7_told_219 : decode cX7_told 219 = .ok (.ireturn, 1) := by decide +kernel
theorem dX7_told_220 : decode cX7_told 220 = .ok (.aload_n 0, 1) := by decide +kernel
theorem dX7_told_221 : decode cX7_told 221 = .ok (.getfield 47, 3) := by decide +kernel
theorem dX7_told_224 : decode cX7_told 224 = .ok (.iload_n 1, 1) := by decide +kernel
theorem dX7_told_225 : decode cX7_told 225 = .ok (.iaload, 1) := by decide +kernel
theorem dX7_told_226 : decode cX7_told 226 = .ok (.ireturn, 1) := by decide +kernel
theorem dX7_told_227 : decode cX7_told 227 = .ok (.iconst (-1), 1) := by decide +kernel
theorem dX7_told_228 : decode cX7_told 228 = .ok (.ireturn, 1) := by decide +kernel
theorem dX7_load_0 : decode cX7_load 0 = .ok (.iload_n 1, 1) := by decide +kernel
theorem dX7_load_1 : decode cX7_load 1 = .ok (.iconst 0, 1) := by decide +kernel
theorem dX7_load_2 : decode cX7_load 2 = .ok (.sipush 399, 3) := by decide +kernel
theorem dX7_load_5 : decode cX7_load 5 = .ok (.invokestatic 78, 3) := by decide +kernel
theorem dX7_load_8 : decode cX7_load 8 = .ok (.ifCond .eq 13, 3) := by decide +kernel
theorem dX7_load_11 : decode cX7_load 11 = .ok (.iload_n 2, 1) := by decide +kernel
theorem dX7_load_12 : decode cX7_load 12 = .ok (.iconst 0, 1) := by decide +kernel
theorem dX7_load_13 : decode cX7_load 13 = .ok (.bipush 8, 2) := by decide +kernel
theorem dX7_load_15 : decode cX7_load 15 = .ok (.invokestatic 78, 3) := by decide +kernel
theorem dX7_load_18 : decode cX7_load 18 = .ok (.ifCond .ne 5, 3) := by decide +kernel
theorem dX7_load_21 : decode cX7_load 21 = .ok (.iconst (-1), 1) := by decide +kernel
theorem dX7_load_22 : decode cX7_load 22 = .ok (.ireturn, 1) := by decide +kernel
theorem dX7_load_23 : decode cX7_load 23 = .ok (.iconst 0, 1) := by decide +kernel
theorem dX7_load_24 : decode cX7_load 24 = .ok (.istore_n 3, 1) := by decide +kernel
theorem dX7_load_25 : decode cX7_load 25 = .ok (.iconst 0, 1) := by decide +kernel
theorem dX7_load_26 : decode cX7_load 26 = .ok (.istore 4, 2) := by decide +kernel
theorem dX7_load_28 : decode cX7_load 28 = .ok (.iload 4, 2) := by decide +kernel
theorem dX7_load_30 : decode cX7_load 30 = .ok (.aload_n 0, 1) := by decide +kernel
theorem dX7_load_31 : decode cX7_load 31 = .ok (.getfield 74, 3) := by decide +kernel
theorem dX7_load_34 : decode cX7_load 34 = .ok (.if_icmp .ge 88, 3) := by decide +kernel
theorem dX7_load_37 : decode cX7_load 37 = .ok (.aload_n 0, 1) := by decide +kernel
theorem dX7_load_38 : decode cX7_load 38 = .ok (.iload 4, 2) := by decide +kernel
theorem dX7_load_40 : decode cX7_load 40 = .ok (.iload_n 1, 1) := by decide +kernel
theorem dX7_load_41 : decode cX7_load 41 = .ok (.invokevirtual 116, 3) := by decide +kernel
theorem dX7_load_44 : decode cX7_load 44 = .ok (.ifCond .ne 6, 3) := by decide +kernel
theorem dX7_load_47 : decode cX7_load 47 = .ok (.goto 69, 3) := by decide +kernel
theorem dX7_load_50 : decode cX7_load 50 = .ok (.iload_n 2, 1) := by decide +kernel
theorem dX7_load_51 : decode cX7_load 51 = .ok (.iconst 4, 1) := by decide +kernel
theorem dX7_load_52 : decode cX7_load 52 = .ok (.if_icmp .ge 31, 3) := by decide +kernel
theorem dX7_load_55 : decode cX7_load 55 = .ok (.iload_n 3, 1) := by decide +kernel
theorem dX7_load_56 : decode cX7_load 56 = .ok (.aload_n 0, 1) := by decide +kernel
theorem dX7_load_57 : decode cX7_load 57 = .ok (.getfield 29, 3) := by decide +kernel
theorem dX7_load_60 : decode cX7_load 60 = .ok (.iload 4, 2) := by decide +kernel
theorem dX7_load_62 : decode cX7_load 62 = .ok (.iaload, 1) := by decide +kernel
theorem dX7_load_63 : decode cX7_load 63 = .ok (.iload_n 2, 1) := by decide +kernel
theorem dX7_load_64 : decode cX7_load 64 = .ok (.if_icmp .ne 13, 3) := by decide +kernel
theorem dX7_load_67 : decode cX7_load 67 = .ok (.aload_n 0, 1) := by decide +kernel
theorem dX7_load_68 : decode cX7_load 68 = .ok (.getfield 32, 3) := by decide +kernel
theorem dX7_load_71 : decode cX7_load 71 = .ok (.iload 4, 2) := by decide +kernel
theorem dX7_load_73 : decode cX7_load 73 = .ok (.iaload, 1) := by decide +kernel
theorem dX7_load_74 : decode cX7_load 74 = .ok (.goto 4, 3) := by decide +kernel
theorem dX7_load_77 : decode cX7_load 77 = .ok (.iconst 0, 1) := by decide +kernel
theorem dX7_load_78 : decode cX7_load 78 = .ok (.iadd, 1) := by decide +kernel
theorem dX7_load_79 : decode cX7_load 79 = .ok (.istore_n 3, 1) := by decide +kernel
theorem dX7_load_80 : decode cX7_load 80 = .ok (.goto 36, 3) := by decide +kernel
theorem dX7_load_83 : decode cX7_load 83 = .ok (.iload_n 2, 1) := by decide +kernel
theorem dX7_load_84 : decode cX7_load 84 = .ok (.bipush 8, 2) := by decide +kernel
theorem dX7_load_86 : decode cX7_load 86 = .ok (.if_icmp .ge 27, 3) := by decide +kernel
theorem dX7_load_89 : decode cX7_load 89 = .ok (.iload_n 3, 1) := by decide +kernel
theorem dX7_load_90 : decode cX7_load 90 = .ok (.aload_n 0, 1) := by decide +kernel
theorem dX7_load_91 : decode cX7_load 91 = .ok (.getfield 41, 3) := by decide +kernel
theorem dX7_load_94 : decode cX7_load 94 = .ok (.iload 4, 2) := by decide +kernel
theorem dX7_load_96 : decode cX7_load 96 = .ok (.iaload, 1) := by decide +kernel
theorem dX7_load_97 : decode cX7_load 97 = .ok (.iload_n 2, 1) := by decide +kernel
theorem dX7_load_98 : decode cX7_load 98 = .ok (.iconst 4, 1) := by decide +kernel
theorem dX7_load_99 : decode cX7_load 99 = .ok (.isub, 1) := by decide +kernel
theorem dX7_load_100 : decode cX7_load 100 = .ok (.if_icmp .ne 7, 3) := by decide +kernel
theorem dX7_load_103 : decode cX7_load 103 = .ok (.iconst 1, 1) := by decide +kernel
theorem dX7_load_104 : decode cX7_load 104 = .ok (.goto 4, 3) := by decide +kernel
theorem dX7_load_107 : decode cX7_load 107 = .ok (.iconst 0, 1) := by decide +kernel
theorem dX7_load_108 : decode cX7_load 108 = .ok (.iadd, 1) := by decide +kernel
theorem dX7_load_109 : decode cX7_load 109 = .ok (.istore_n 3, 1) := by decide +kernel
theorem dX7_load_110 : decode cX7_load 110 = .ok (.goto 6, 3) := by decide +kernel
theorem dX7_load_113 : decode cX7_load 113 = .ok (.iinc 3 1, 3) := by decide +kernel
theorem dX7_load_116 : decode cX7_load 116 = .ok (.iinc 4 1, 3) := by decide +kernel
theorem dX7_load_119 : decode cX7_load 119 = .ok (.goto (-91), 3) := by decide +kernel
theorem dX7_load_122 : decode cX7_load 122 = .ok (.iload_n 3, 1) := by decide +kernel
theorem dX7_load_123 : decode cX7_load 123 = .ok (.ireturn, 1) := by decide +kernel
theorem dX7_count_0 : decode cX7_count 0 = .ok (.iconst 0, 1) := by decide +kernel
theorem dX7_count_1 : decode cX7_count 1 = .ok (.istore_n 2, 1) := by decide +kernel
theorem dX7_count_2 : decode cX7_count 2 = .ok (.iload_n 1, 1) := by decide +kernel
theorem dX7_count_3 : decode cX7_count 3 = .ok (.tableswitch 134 0 6 #[41, 46, 51, 56, 90, 124, 129], 41) := by decide +kernel
theorem dX7_count_44 : decode cX7_count 44 = .ok (.aload_n 0, 1) := by decide +kernel
theorem dX7_count_45 : decode cX7_count 45 = .ok (.getfield 93, 3) := by decide +kernel
theorem dX7_count_48 : decode cX7_count 48 = .ok (.ireturn, 1) := by decide +kernel
theorem dX7_count_49 : decode cX7_count 49 = .ok (.aload_n 0, 1) := by decide +kernel
theorem dX7_count_50 : decode cX7_count 50 = .ok (.getfield 82, 3) := by decide +kernel
theorem dX7_count_53 : decode cX7_count 53 = .ok (.ireturn, 1) := by decide +kernel
theorem dX7_count_54 : decode cX7_count 54 = .ok (.aload_n 0, 1) := by decide +kernel
theorem dX7_count_55 : decode cX7_count 55 = .ok (.getfield 74, 3) := by decide +kernel
theorem dX7_count_58 : decode cX7_count 58 = .ok (.ireturn, 1) := by decide +kernel
theorem dX7_count_59 : decode cX7_count 59 = .ok (.iconst 0, 1) := by decide +kernel
theorem dX7_count_60 : decode cX7_count 60 = .ok (.istore_n 3, 1) := by decide +kernel
theorem dX7_count_61 : decode cX7_count 61 = .ok (.iload_n 3, 1) := by decide +kernel
theorem dX7_count_62 : decode cX7_count 62 = .ok (.aload_n 0, 1) := by decide +kernel
theorem dX7_count_63 : decode cX7_count 63 = .ok (.getfield 74, 3) := by decide +kernel
theorem dX7_count_66 : decode cX7_count 66 = .ok (.if_icmp .ge 25, 3) := by decide +kernel
theorem dX7_count_69 : decode cX7_count 69 = .ok (.iload_n 2, 1) := by decide +kernel
theorem dX7_count_70 : decode cX7_count 70 = .ok (.aload_n 0, 1) := by decide +kernel
theorem dX7_count_71 : decode cX7_count 71 = .ok (.iload_n 3, 1) := by decide +kernel
theorem dX7_count_72 : decode cX7_count 72 = .ok (.invokevirtual 89, 3) := by decide +kernel
theorem dX7_count_75 : decode cX7_count 75 = .ok (.ifCond .eq 7, 3) := by decide +kernel
theorem dX7_count_78 : decode cX7_count 78 = .ok (.iconst 0, 1) := by decide +kernel
theorem dX7_count_79 : decode cX7_count 79 = .ok (.goto 4, 3) := by decide +kernel
theorem dX7_count_82 : decode cX7_count 82 = .ok (.iconst 1, 1) := by decide +kernel
theorem dX7_count_83 : decode cX7_count 83 = .ok (.iadd, 1) := by decide +kernel
theorem dX7_count_84 : decode cX7_count 84 = .ok (.istore_n 2, 1) := by decide +kernel
theorem dX7_count_85 : decode cX7_count 85 = .ok (.iinc 3 1, 3) := by decide +kernel
theorem dX7_count_88 : decode cX7_count 88 = .ok (.goto (-27), 3) := by decide +kernel
theorem dX7_count_91 : decode cX7_count 91 = .ok (.iload_n 2, 1) := by decide +kernel
theorem dX7_count_92 : decode cX7_count 92 = .ok (.ireturn, 1) := by decide +kernel
theorem dX7_count_93 : decode cX7_count 93 = .ok (.iconst 0, 1) := by decide +kernel
theorem dX7_count_94 : decode cX7_count 94 = .ok (.istore_n 3, 1) := by decide +kernel
theorem dX7_count_95 : decode cX7_count 95 = .ok (.iload_n 3, 1) := by decide +kernel
theorem dX7_count_96 : decode cX7_count 96 = .ok (.aload_n 0, 1) := by decide +kernel
theorem dX7_count_97 : decode cX7_count 97 = .ok (.getfield 74, 3) := by decide +kernel
theorem dX7_count_100 : decode cX7_count 100 = .ok (.if_icmp .ge 25, 3) := by decide +kernel
theorem dX7_count_103 : decode cX7_count 103 = .ok (.iload_n 2, 1) := by decide +kernel
theorem dX7_count_104 : decode cX7_count 104 = .ok (.aload_n 0, 1) := by decide +kernel
theorem dX7_count_105 : decode cX7_count 105 = .ok (.iload_n 3, 1) := by decide +kernel
theorem dX7_count_106 : decode cX7_count 106 = .ok (.invokevirtual 148, 3) := by decide +kernel
theorem dX7_count_109 : decode cX7_count 109 = .ok (.ifCond .eq 7, 3) := by decide +kernel
theorem dX7_count_112 : decode cX7_count 112 = .ok (.iconst 1, 1) := by decide +kernel
theorem dX7_count_113 : decode cX7_count 113 = .ok (.goto 4, 3) := by decide +kernel
theorem dX7_count_116 : decode cX7_count 116 = .ok (.iconst 0, 1) := by decide +kernel
theorem dX7_count_117 : decode cX7_count 117 = .ok (.iadd, 1) := by decide +kernel
theorem dX7_count_118 : decode cX7_count 118 = .ok (.istore_n 2, 1) := by decide +kernel
theorem dX7_count_119 : decode cX7_count 119 = .ok (.iinc 3 1, 3) := by decide +kernel
theorem dX7_count_122 : decode cX7_count 122 = .ok (.goto (-27), 3) := by decide +kernel
theorem dX7_count_125 : decode cX7_count 125 = .ok (.iload_n 2, 1) := by decide +kernel
theorem dX7_count_126 : decode cX7_count 126 = .ok (.ireturn, 1) := by decide +kernel
theorem dX7_count_127 : decode cX7_count 127 = .ok (.aload_n 0, 1) := by decide +kernel
theorem dX7_count_128 : decode cX7_count 128 = .ok (.getfield 85, 3) := by decide +kernel
theorem dX7_count_131 : decode cX7_count 131 = .ok (.ireturn, 1) := by decide +kernel
theorem dX7_count_132 : decode cX7_count 132 = .ok (.aload_n 0, 1) := by decide +kernel
theorem dX7_count_133 : decode cX7_count 133 = .ok (.invokevirtual 132, 3) := by decide +kernel
theorem dX7_count_136 : decode cX7_count 136 = .ok (.ireturn, 1) := by decide +kernel
theorem dX7_count_137 : decode cX7_count 137 = .ok (.iconst (-1), 1) := by decide +kernel
theorem dX7_count_138 : decode cX7_count 138 = .ok (.ireturn, 1) := by decide +kernel
theorem dJ13_bitCount_95d88_0 : decode cJ13_bitCount_95d88 0 = .ok (.lload_n 0, 1) := by decide +kernel
theorem dJ13_bitCount_95d88_1 : decode cJ13_bitCount_95d88 1 = .ok (.lload_n 0, 1) := by decide +kernel
theorem dJ13_bitCount_95d88_2 : decode cJ13_bitCount_95d88 2 = .ok (.iconst 1, 1) := by decide +kernel
theorem dJ13_bitCount_95d88_3 : decode cJ13_bitCount_95d88 3 = .ok (.lushr, 1) := by decide +kernel
theorem dJ13_bitCount_95d88_4 : decode cJ13_bitCount_95d88 4 = .ok (.ldc2_w 314, 3) := by decide +kernel
theorem dJ13_bitCount_95d88_7 : decode cJ13_bitCount_95d88 7 = .ok (.land, 1) := by decide +kernel
theorem dJ13_bitCount_95d88_8 : decode cJ13_bitCount_95d88 8 = .ok (.lsub, 1) := by decide +kernel
theorem dJ13_bitCount_95d88_9 : decode cJ13_bitCount_95d88 9 = .ok (.lstore_n 0, 1) := by decide +kernel
theorem dJ13_bitCount_95d88_10 : decode cJ13_bitCount_95d88 10 = .ok (.lload_n 0, 1) := by decide +kernel
theorem dJ13_bitCount_95d88_11 : decode cJ13_bitCount_95d88 11 = .ok (.ldc2_w 316, 3) := by decide +kernel
theorem dJ13_bitCount_95d88_14 : decode cJ13_bitCount_95d88 14 = .ok (.land, 1) := by decide +kernel
theorem dJ13_bitCount_95d88_15 : decode cJ13_bitCount_95d88 15 = .ok (.lload_n 0, 1) := by decide +kernel
theorem dJ13_bitCount_95d88_16 : decode cJ13_bitCount_95d88 16 = .ok (.iconst 2, 1) := by decide +kernel
theorem dJ13_bitCount_95d88_17 : decode cJ13_bitCount_95d88 17 = .ok (.lushr, 1) := by decide +kernel
theorem dJ13_bitCount_95d88_18 : decode cJ13_bitCount_95d88 18 = .ok (.ldc2_w 316, 3) := by decide +kernel
theorem dJ13_bitCount_95d88_21 : decode cJ13_bitCount_95d88 21 = .ok (.land, 1) := by decide +kernel
theorem dJ13_bitCount_95d88_22 : decode cJ13_bitCount_95d88 22 = .ok (.ladd, 1) := by decide +kernel
theorem dJ13_bitCount_95d88_23 : decode cJ13_bitCount_95d88 23 = .ok (.lstore_n 0, 1) := by decide +kernel
theorem dJ13_bitCount_95d88_24 : decode cJ13_bitCount_95d88 24 = .ok (.lload_n 0, 1) := by decide +kernel
theorem dJ13_bitCount_95d88_25 : decode cJ13_bitCount_95d88 25 = .ok (.lload_n 0, 1) := by decide +kernel
theorem dJ13_bitCount_95d88_26 : decode cJ13_bitCount_95d88 26 = .ok (.iconst 4, 1) := by decide +kernel
theorem dJ13_bitCount_95d88_27 : decode cJ13_bitCount_95d88 27 = .ok (.lushr, 1) := by decide +kernel
theorem dJ13_bitCount_95d88_28 : decode cJ13_bitCount_95d88 28 = .ok (.ladd, 1) := by decide +kernel
theorem dJ13_bitCount_95d88_29 : decode cJ13_bitCount_95d88 29 = .ok (.ldc2_w 318, 3) := by decide +kernel
theorem dJ13_bitCount_95d88_32 : decode cJ13_bitCount_95d88 32 = .ok (.land, 1) := by decide +kernel
theorem dJ13_bitCount_95d88_33 : decode cJ13_bitCount_95d88 33 = .ok (.lstore_n 0, 1) := by decide +kernel
theorem dJ13_bitCount_95d88_34 : decode cJ13_bitCount_95d88 34 = .ok (.lload_n 0, 1) := by decide +kernel
theorem dJ13_bitCount_95d88_35 : decode cJ13_bitCount_95d88 35 = .ok (.lload_n 0, 1) := by decide +kernel
theorem dJ13_bitCount_95d88_36 : decode cJ13_bitCount_95d88 36 = .ok (.bipush 8, 2) := by decide +kernel
theorem dJ13_bitCount_95d88_38 : decode cJ13_bitCount_95d88 38 = .ok (.lushr, 1) := by decide +kernel
theorem dJ13_bitCount_95d88_39 : decode cJ13_bitCount_95d88 39 = .ok (.ladd, 1) := by decide +kernel
theorem dJ13_bitCount_95d88_40 : decode cJ13_bitCount_95d88 40 = .ok (.lstore_n 0, 1) := by decide +kernel
theorem dJ13_bitCount_95d88_41 : decode cJ13_bitCount_95d88 41 = .ok (.lload_n 0, 1) := by decide +kernel
theorem dJ13_bitCount_95d88_42 : decode cJ13_bitCount_95d88 42 = .ok (.lload_n 0, 1) := by decide +kernel
theorem dJ13_bitCount_95d88_43 : decode cJ13_bitCount_95d88 43 = .ok (.bipush 16, 2) := by decide +kernel
theorem dJ13_bitCount_95d88_45 : decode cJ13_bitCount_95d88 45 = .ok (.lushr, 1) := by decide +kernel
theorem dJ13_bitCount_95d88_46 : decode cJ13_bitCount_95d88 46 = .ok (.ladd, 1) := by decide +kernel
theorem dJ13_bitCount_95d88_47 : decode cJ13_bitCount_95d88 47 = .ok (.lstore_n 0, 1) := by decide +kernel
theorem dJ13_bitCount_95d88_48 : decode cJ13_bitCount_95d88 48 = .ok (.lload_n 0, 1) := by decide +kernel
theorem dJ13_bitCount_95d88_49 : decode cJ13_bitCount_95d88 49 = .ok (.lload_n 0, 1) := by decide +kernel
theorem dJ13_bitCount_95d88_50 : decode cJ13_bitCount_95d88 50 = .ok (.bipush 32, 2) := by decide +kernel
theorem dJ13_bitCount_95d88_52 : decode cJ13_bitCount_95d88 52 = .ok (.lushr, 1) := by decide +kernel
theorem dJ13_bitCount_95d88_53 : decode cJ13_bitCount_95d88 53 = .ok (.ladd, 1) := by decide +kernel
theorem dJ13_bitCount_95d88_54 : decode cJ13_bitCount_95d88 54 = .ok (.lstore_n 0, 1) := by decide +kernel
theorem dJ13_bitCount_95d88_55 : decode cJ13_bitCount_95d88 55 = .ok (.lload_n 0, 1) := by decide +kernel
theorem dJ13_bitCount_95d88_56 : decode cJ13_bitCount_95d88 56 = .ok (.l2i, 1) := by decide +kernel
theorem dJ13_bitCount_95d88_57 : decode cJ13_bitCount_95d88 57 = .ok (.bipush 127, 2) := by decide +kernel
theorem dJ13_bitCount_95d88_59 : decode cJ13_bitCount_95d88 59 = .ok (.iand, 1) := by decide +kernel
theorem dJ13_bitCount_95d88_60 : decode cJ13_bitCount_95d88 60 = .ok (.ireturn, 1) := by decide +kernel
theorem dJ9_max_7cf53_0 : decode cJ9_max_7cf53 0 = .ok (.iload_n 0, 1) := by decide +kernel
theorem dJ9_max_7cf53_1 : decode cJ9_max_7cf53 1 = .ok (.iload_n 1, 1) := by decide +kernel
theorem dJ9_max_7cf53_2 : decode cJ9_max_7cf53 2 = .ok (.if_icmp .lt 7, 3) := by decide +kernel
theorem dJ9_max_7cf53_5 : decode cJ9_max_7cf53 5 = .ok (.iload_n 0, 1) := by decide +kernel
theorem dJ9_max_7cf53_6 : decode cJ9_max_7cf53 6 = .ok (.goto 4, 3) := by decide +kernel
theorem dJ9_max_7cf53_9 : decode cJ9_max_7cf53 9 = .ok (.iload_n 1, 1) := by decide +kernel
theorem dJ9_max_7cf53_10 : decode cJ9_max_7cf53 10 = .ok (.ireturn, 1) := by decide +kernel
theorem dJ9_min_7cf53_0 : decode cJ9_min_7cf53 0 = .ok (.iload_n 0, 1) := by decide +kernel
theorem dJ9_min_7cf53_1 : decode cJ9_min_7cf53 1 = .ok (.iload_n 1, 1) := by decide +kernel
theorem dJ9_min_7cf53_2 : decode cJ9_min_7cf53 2 = .ok (.if_icmp .gt 7, 3) := by decide +kernel
theorem dJ9_min_7cf53_5 : decode cJ9_min_7cf53 5 = .ok (.iload_n 0, 1) := by decide +kernel
theorem dJ9_min_7cf53_6 : decode cJ9_min_7cf53 6 = .ok (.goto 4, 3) := by decide +kernel
theorem dJ9_min_7cf53_9 : decode cJ9_min_7cf53 9 = .ok (.iload_n 1, 1) := by decide +kernel
theorem dJ9_min_7cf53_10 : decode cJ9_min_7cf53 10 = .ok (.ireturn, 1) := by decide +kernel
theorem dL_law_0 : decode cL_law 0 = .ok (.new 7, 3) := by decide +kernel
theorem dL_law_3 : decode cL_law 3 = .ok (.dup, 1) := by decide +kernel
theorem dL_law_4 : decode cL_law 4 = .ok (.invokespecial 9, 3) := by decide +kernel
theorem dL_law_7 : decode cL_law 7 = .ok (.astore_n 1, 1) := by decide +kernel
theorem dL_law_8 : decode cL_law 8 = .ok (.new 10, 3) := by decide +kernel
theorem dL_law_11 : decode cL_law 11 = .ok (.dup, 1) := by decide +kernel
theorem dL_law_12 : decode cL_law 12 = .ok (.invokespecial 12, 3) := by decide +kernel
theorem dL_law_15 : decode cL_law 15 = .ok (.astore_n 2, 1) := by decide +kernel
theorem dL_law_16 : decode cL_law 16 = .ok (.iconst 0, 1) := by decide +kernel
theorem dL_law_17 : decode cL_law 17 = .ok (.istore_n 3, 1) := by decide +kernel
theorem dL_law_18 : decode cL_law 18 = .ok (.iload_n 3, 1) := by decide +kernel
theorem dL_law_19 : decode cL_law 19 = .ok (.aload_n 0, 1) := by decide +kernel
theorem dL_law_20 : decode cL_law 20 = .ok (.arraylength, 1) := by decide +kernel
theorem dL_law_21 : decode cL_law 21 = .ok (.iconst 4, 1) := by decide +kernel
theorem dL_law_22 : decode cL_law 22 = .ok (.isub, 1) := by decide +kernel
theorem dL_law_23 : decode cL_law 23 = .ok (.if_icmp .gt 752, 3) := by decide +kernel
theorem dL_law_26 : decode cL_law 26 = .ok (.aload_n 0, 1) := by decide +kernel
theorem dL_law_27 : decode cL_law 27 = .ok (.iload_n 3, 1) := by decide +kernel
theorem dL_law_28 : decode cL_law 28 = .ok (.iaload, 1) := by decide +kernel
theorem dL_law_29 : decode cL_law 29 = .ok (.bipush 31, 2) := by decide +kernel
theorem dL_law_31 : decode cL_law 31 = .ok (.iand, 1) := by decide +kernel
theorem dL_law_32 : decode cL_law 32 = .ok (.tableswitch 737 0 22 #[108, 131, 164, 197, 230, 273, 306, 339, 372, 405, 428, 461, 494, 517, 550, 583, 596, 609, 622, 635, 658, 681, 714], 108) := by decide +kernel
theorem dL_law_140 : decode cL_law 140 = .ok (.aload_n 1, 1) := by decide +kernel
theorem dL_law_141 : decode cL_law 141 = .ok (.aload_n 0, 1) := by decide +kernel
theorem dL_law_142 : decode cL_law 142 = .ok (.iload_n 3, 1) := by decide +kernel
theorem dL_law_143 : decode cL_law 143 = .ok (.iconst 1, 1) := by decide +kernel
theorem dL_law_144 : decode cL_law 144 = .ok (.iadd, 1) := by decide +kernel
theorem dL_law_145 : decode cL_law 145 = .ok (.iaload, 1) := by decide +kernel
theorem dL_law_146 : decode cL_law 146 = .ok (.invokevirtual 13, 3) := by decide +kernel
theorem dL_law_149 : decode cL_law 149 = .ok (.aload_n 2, 1) := by decide +kernel
theorem dL_law_150 : decode cL_law 150 = .ok (.aload_n 0, 1) := by decide +kernel
theorem dL_law_151 : decode cL_law 151 = .ok (.iload_n 3, 1) := by decide +kernel
theorem dL_law_152 : decode cL_law 152 = .ok (.iconst 1, 1) := by decide +kernel
theorem dL_law_153 : decode cL_law 153 = .ok (.iadd, 1) := by decide +kernel
theorem dL_law_154 : decode cL_law 154 = .ok (.iaload, 1) := by decide +kernel
theorem dL_law_155 : decode cL_law 155 = .ok (.invokevirtual 17, 3) := by decide +kernel
theorem dL_law_158 : decode cL_law 158 = .ok (.if_icmp .eq 611, 3) := by decide +kernel
theorem dL_law_161 : decode cL_law 161 = .ok (.iconst 0, 1) := by decide +kernel
theorem dL_law_162 : decode cL_law 162 = .ok (.ireturn, 1) := by decide +kernel
theorem dL_law_163 : decode cL_law 163 = .ok (.aload_n 1, 1) := by decide +kernel
theorem dL_law_164 : decode cL_law 164 = .ok (.aload_n 0, 1) := by decide +kernel
theorem dL_law_165 : decode cL_law 165 = .ok (.iload_n 3, 1) := by decide +kernel
theorem dL_law_166 : decode cL_law 166 = .ok (.iconst 1, 1) := by decide +kernel
theorem dL_law_167 : decode cL_law 167 = .ok (.iadd, 1) := by decide +kernel
theorem dL_law_168 : decode cL_law 168 = .ok (.iaload, 1) := by decide +kernel
theorem dL_law_169 : decode cL_law 169 = .ok (.aload_n 0, 1) := by decide +kernel
theorem dL_law_170 : decode cL_law 170 = .ok (.iload_n 3, 1) := by decide +kernel
theorem dL_law_171 : decode cL_law 171 = .ok (.iconst 2, 1) := by decide +kernel
theorem dL_law_172 : decode cL_law 172 = .ok (.iadd, 1) := by decide +kernel
theorem dL_law_173 : decode cL_law 173 = .ok (.iaload, 1) := by decide +kernel
theorem dL_law_174 : decode cL_law 174 = .ok (.invokevirtual 18, 3) := by decide +kernel
theorem dL_law_177 : decode cL_law 177 = .ok (.aload_n 2, 1) := by decide +kernel
theorem dL_law_178 : decode cL_law 178 = .ok (.aload_n 0, 1) := by decide +kernel
theorem dL_law_179 : decode cL_law 179 = .ok (.iload_n 3, 1) := by decide +kernel
theorem dL_law_180 : decode cL_law 180 = .ok (.iconst 1, 1) := by decide +kernel
theorem dL_law_181 : decode cL_law 181 = .ok (.iadd, 1) := by decide +kernel
theorem dL_law_182 : decode cL_law 182 = .ok (.iaload, 1) := by decide +kernel
theorem dL_law_183 : decode cL_law 183 = .ok (.aload_n 0, 1) := by decide +kernel
theorem dL_law_184 : decode cL_law 184 = .ok (.iload_n 3, 1) := by decide +kernel
theorem dL_law_185 : decode cL_law 185 = .ok (.iconst 2, 1) := by decide +kernel
theorem dL_law_186 : decode cL_law 186 = .ok (.iadd, 1) := by decide +kernel
theorem dL_law_187 : decode cL_law 187 = .ok (.iaload, 1) := by decide +kernel
theorem dL_law_188 : decode cL_law 188 = .ok (.invokevirtual 22, 3) := by decide +kernel
theorem dL_law_191 : decode cL_law 191 = .ok (.if_icmp .eq 578, 3) := by decide +kernel
theorem dL_law_194 : decode cL_law 194 = .ok (.iconst 0, 1) := by decide +kernel
theorem dL_law_195 : decode cL_law 195 = .ok (.ireturn, 1) := by decide +kernel
theorem dL_law_196 : decode cL_law 196 = .ok (.aload_n 1, 1) := by decide +kernel
theorem dL_law_197 : decode cL_law 197 = .ok (.aload_n 0, 1) := by decide +kernel
theorem dL_law_198 : decode cL_law 198 = .ok (.iload_n 3, 1) := by decide +kernel
theorem dL_law_199 : decode cL_law 199 = .ok (.iconst 1, 1) := by decide +kernel
theorem dL_law_200 : decode cL_law 200 = .ok (.iadd, 1) := by decide +kernel
theorem dL_law_201 : decode cL_law 201 = .ok (.iaload, 1) := by decide +kernel
theorem dL_law_202 : decode cL_law 202 = .ok (.aload_n 0, 1) := by decide +kernel
theorem dL_law_203 : decode cL_law 203 = .ok (.iload_n 3, 1) := by decide +kernel
theorem dL_law_204 : decode cL_law 204 = .ok (.iconst 2, 1) := by decide +kernel
end
section
theorem dL_law_205 : decode cL_law 205 = .ok (.iadd, 1) := by decide +kernel
theorem dL_law_206 : decode cL_law 206 = .ok (.iaload, 1) := by decide +kernel
theorem dL_law_207 : decode cL_law 207 = .ok (.invokevirtual 23, 3) := by decide +kernel
theorem dL_law_210 : decode cL_law 210 = .ok (.aload_n 2, 1) := by decide +kernel
theorem dL_law_211 : decode cL_law 211 = .ok (.aload_n 0, 1) := by decide +kernel
theorem dL_law_212 : decode cL_law 212 = .ok (.iload_n 3, 1) := by decide +kernel
theorem dL_law_213 : decode cL_law 213 = .ok (.iconst 1, 1) := by decide +kernel
theorem dL_law_214 : decode cL_law 214 = .ok (.iadd, 1) := by decide +kernel
theorem dL_law_215 : decode cL_law 215 = .ok (.iaload, 1) := by decide +kernel
theorem dL_law_216 : decode cL_law 216 = .ok (.aload_n 0, 1) := by decide +kernel
theorem dL_law_217 : decode cL_law 217 = .ok (.iload_n 3, 1) := by decide +kernel
theorem dL_law_218 : decode cL_law 218 = .ok (.iconst 2, 1) := by decide +kernel
theorem dL_law_219 : decode cL_law 219 = .ok (.iadd, 1) := by decide +kernel
theorem dL_law_220 : decode cL_law 220 = .ok (.iaload, 1) := by decide +kernel
theorem dL_law_221 : decode cL_law 221 = .ok (.invokevirtual 26, 3) := by decide +kernel
theorem dL_law_224 : decode cL_law 224 = .ok (.if_icmp .eq 545, 3) := by decide +kernel
theorem dL_law_227 : decode cL_law 227 = .ok (.iconst 0, 1) := by decide +kernel
theorem dL_law_228 : decode cL_law 228 = .ok (.ireturn, 1) := by decide +kernel
theorem dL_law_229 : decode cL_law 229 = .ok (.aload_n 1, 1) := by decide +kernel
theorem dL_law_230 : decode cL_law 230 = .ok (.aload_n 0, 1) := by decide +kernel
theorem dL_law_231 : decode cL_law 231 = .ok (.iload_n 3, 1) := by decide +kernel
theorem dL_law_232 : decode cL_law 232 = .ok (.iconst 1, 1) := by decide +kernel
theorem dL_law_233 : decode cL_law 233 = .ok (.iadd, 1) := by decide +kernel
theorem dL_law_234 : decode cL_law 234 = .ok (.iaload, 1) := by decide +kernel
theorem dL_law_235 : decode cL_law 235 = .ok (.aload_n 0, 1) := by decide +kernel
theorem dL_law_236 : decode cL_law 236 = .ok (.iload_n 3, 1) := by decide +kernel
theorem dL_law_237 : decode cL_law 237 = .ok (.iconst 2, 1) := by decide +kernel
theorem dL_law_238 : decode cL_law 238 = .ok (.iadd, 1) := by decide +kernel
theorem dL_law_239 : decode cL_law 239 = .ok (.iaload, 1) := by decide +kernel
theorem dL_law_240 : decode cL_law 240 = .ok (.invokevirtual 27, 3) := by decide +kernel
theorem dL_law_243 : decode cL_law 243 = .ok (.aload_n 2, 1) := by decide +kernel
theorem dL_law_244 : decode cL_law 244 = .ok (.aload_n 0, 1) := by decide +kernel
theorem dL_law_245 : decode cL_law 245 = .ok (.iload_n 3, 1) := by decide +kernel
theorem dL_law_246 : decode cL_law 246 = .ok (.iconst 1, 1) := by decide +kernel
theorem dL_law_247 : decode cL_law 247 = .ok (.iadd, 1) := by decide +kernel
theorem dL_law_248 : decode cL_law 248 = .ok (.iaload, 1) := by decide +kernel
theorem dL_law_249 : decode cL_law 249 = .ok (.aload_n 0, 1) := by decide +kernel
theorem dL_law_250 : decode cL_law 250 = .ok (.iload_n 3, 1) := by decide +kernel
theorem dL_law_251 : decode cL_law 251 = .ok (.iconst 2, 1) := by decide +kernel
theorem dL_law_252 : decode cL_law 252 = .ok (.iadd, 1) := by decide +kernel
theorem dL_law_253 : decode cL_law 253 = .ok (.iaload, 1) := by decide +kernel
theorem dL_law_254 : decode cL_law 254 = .ok (.invokevirtual 30, 3) := by decide +kernel
theorem dL_law_257 : decode cL_law 257 = .ok (.if_icmp .eq 512, 3) := by decide +kernel
theorem dL_law_260 : decode cL_law 260 = .ok (.iconst 0, 1) := by decide +kernel
theorem dL_law_261 : decode cL_law 261 = .ok (.ireturn, 1) := by decide +kernel
theorem dL_law_262 : decode cL_law 262 = .ok (.aload_n 1, 1) := by decide +kernel
theorem dL_law_263 : decode cL_law 263 = .ok (.aload_n 0, 1) := by decide +kernel
theorem dL_law_264 : decode cL_law 264 = .ok (.iload_n 3, 1) := by decide +kernel
theorem dL_law_265 : decode cL_law 265 = .ok (.iconst 1, 1) := by decide +kernel
theorem dL_law_266 : decode cL_law 266 = .ok (.iadd, 1) := by decide +kernel
theorem dL_law_267 : decode cL_law 267 = .ok (.iaload, 1) := by decide +kernel
theorem dL_law_268 : decode cL_law 268 = .ok (.aload_n 0, 1) := by decide +kernel
theorem dL_law_269 : decode cL_law 269 = .ok (.iload_n 3, 1) := by decide +kernel
theorem dL_law_270 : decode cL_law 270 = .ok (.iconst 2, 1) := by decide +kernel
theorem dL_law_271 : decode cL_law 271 = .ok (.iadd, 1) := by decide +kernel
theorem dL_law_272 : decode cL_law 272 = .ok (.iaload, 1) := by decide +kernel
theorem dL_law_273 : decode cL_law 273 = .ok (.aload_n 0, 1) := by decide +kernel
theorem dL_law_274 : decode cL_law 274 = .ok (.iload_n 3, 1) := by decide +kernel
theorem dL_law_275 : decode cL_law 275 = .ok (.iconst 3, 1) := by decide +kernel
theorem dL_law_276 : decode cL_law 276 = .ok (.iadd, 1) := by decide +kernel
theorem dL_law_277 : decode cL_law 277 = .ok (.iaload, 1) := by decide +kernel
theorem dL_law_278 : decode cL_law 278 = .ok (.invokevirtual 31, 3) := by decide +kernel
theorem dL_law_281 : decode cL_law 281 = .ok (.aload_n 2, 1) := by decide +kernel
theorem dL_law_282 : decode cL_law 282 = .ok (.aload_n 0, 1) := by decide +kernel
theorem dL_law_283 : decode cL_law 283 = .ok (.iload_n 3, 1) := by decide +kernel
theorem dL_law_284 : decode cL_law 284 = .ok (.iconst 1, 1) := by decide +kernel
theorem dL_law_285 : decode cL_law 285 = .ok (.iadd, 1) := by decide +kernel
theorem dL_law_286 : decode cL_law 286 = .ok (.iaload, 1) := by decide +kernel
theorem dL_law_287 : decode cL_law 287 = .ok (.aload_n 0, 1) := by decide +kernel
theorem dL_law_288 : decode cL_law 288 = .ok (.iload_n 3, 1) := by decide +kernel
theorem dL_law_289 : decode cL_law 289 = .ok (.iconst 2, 1) := by decide +kernel
theorem dL_law_290 : decode cL_law 290 = .ok (.iadd, 1) := by decide +kernel
theorem dL_law_291 : decode cL_law 291 = .ok (.iaload, 1) := by decide +kernel
theorem dL_law_292 : decode cL_law 292 = .ok (.aload_n 0, 1) := by decide +kernel
theorem dL_law_293 : decode cL_law 293 = .ok (.iload_n 3, 1) := by decide +kernel
theorem dL_law_294 : decode cL_law 294 = .ok (.iconst 3, 1) := by decide +kernel
theorem dL_law_295 : decode cL_law 295 = .ok (.iadd, 1) := by decide +kernel
theorem dL_law_296 : decode cL_law 296 = .ok (.iaload, 1) := by decide +kernel
theorem dL_law_297 : decode cL_law 297 = .ok (.invokevirtual 35, 3) := by decide +kernel
theorem dL_law_300 : decode cL_law 300 = .ok (.if_icmp .eq 469, 3) := by decide +kernel
theorem dL_law_303 : decode cL_law 303 = .ok (.iconst 0, 1) := by decide +kernel
theorem dL_law_304 : decode cL_law 304 = .ok (.ireturn, 1) := by decide +kernel
theorem dL_law_305 : decode cL_law 305 = .ok (.aload_n 1, 1) := by decide +kernel
theorem dL_law_306 : decode cL_law 306 = .ok (.aload_n 0, 1) := by decide +kernel
theorem dL_law_307 : decode cL_law 307 = .ok (.iload_n 3, 1) := by decide +kernel
theorem dL_law_308 : decode cL_law 308 = .ok (.iconst 1, 1) := by decide +kernel
theorem dL_law_309 : decode cL_law 309 = .ok (.iadd, 1) := by decide +kernel
theorem dL_law_310 : decode cL_law 310 = .ok (.iaload, 1) := by decide +kernel
theorem dL_law_311 : decode cL_law 311 = .ok (.aload_n 0, 1) := by decide +kernel
theorem dL_law_312 : decode cL_law 312 = .ok (.iload_n 3, 1) := by decide +kernel
theorem dL_law_313 : decode cL_law 313 = .ok (.iconst 2, 1) := by decide +kernel
theorem dL_law_314 : decode cL_law 314 = .ok (.iadd, 1) := by decide +kernel
theorem dL_law_315 : decode cL_law 315 = .ok (.iaload, 1) := by decide +kernel
theorem dL_law_316 : decode cL_law 316 = .ok (.invokevirtual 36, 3) := by decide +kernel
theorem dL_law_319 : decode cL_law 319 = .ok (.aload_n 2, 1) := by decide +kernel
theorem dL_law_320 : decode cL_law 320 = .ok (.aload_n 0, 1) := by decide +kernel
theorem dL_law_321 : decode cL_law 321 = .ok (.iload_n 3, 1) := by decide +kernel
theorem dL_law_322 : decode cL_law 322 = .ok (.iconst 1, 1) := by decide +kernel
theorem dL_law_323 : decode cL_law 323 = .ok (.iadd, 1) := by decide +kernel
theorem dL_law_324 : decode cL_law 324 = .ok (.iaload, 1) := by decide +kernel
theorem dL_law_325 : decode cL_law 325 = .ok (.aload_n 0, 1) := by decide +kernel
theorem dL_law_326 : decode cL_law 326 = .ok (.iload_n 3, 1) := by decide +kernel
theorem dL_law_327 : decode cL_law 327 = .ok (.iconst 2, 1) := by decide +kernel
theorem dL_law_328 : decode cL_law 328 = .ok (.iadd, 1) := by decide +kernel
theorem dL_law_329 : decode cL_law 329 = .ok (.iaload, 1) := by decide +kernel
theorem dL_law_330 : decode cL_law 330 = .ok (.invokevirtual 40, 3) := by decide +kernel
theorem dL_law_333 : decode cL_law 333 = .ok (.if_icmp .eq 436, 3) := by decide +kernel
theorem dL_law_336 : decode cL_law 336 = .ok (.iconst 0, 1) := by decide +kernel
theorem dL_law_337 : decode cL_law 337 = .ok (.ireturn, 1) := by decide +kernel
theorem dL_law_338 : decode cL_law 338 = .ok (.aload_n 1, 1) := by decide +kernel
theorem dL_law_339 : decode cL_law 339 = .ok (.aload_n 0, 1) := by decide +kernel
theorem dL_law_340 : decode cL_law 340 = .ok (.iload_n 3, 1) := by decide +kernel
theorem dL_law_341 : decode cL_law 341 = .ok (.iconst 1, 1) := by decide +kernel
theorem dL_law_342 : decode cL_law 342 = .ok (.iadd, 1) := by decide +kernel
theorem dL_law_343 : decode cL_law 343 = .ok (.iaload, 1) := by decide +kernel
theorem dL_law_344 : decode cL_law 344 = .ok (.aload_n 0, 1) := by decide +kernel
theorem dL_law_345 : decode cL_law 345 = .ok (.iload_n 3, 1) := by decide +kernel
theorem dL_law_346 : decode cL_law 346 = .ok (.iconst 2, 1) := by decide +kernel
theorem dL_law_347 : decode cL_law 347 = .ok (.iadd, 1) := by decide +kernel
theorem dL_law_348 : decode cL_law 348 = .ok (.iaload, 1) := by decide +kernel
theorem dL_law_349 : decode cL_law 349 = .ok (.invokevirtual 41, 3) := by decide +kernel
theorem dL_law_352 : decode cL_law 352 = .ok (.aload_n 2, 1) := by decide +kernel
theorem dL_law_353 : decode cL_law 353 = .ok (.aload_n 0, 1) := by decide +kernel
theorem dL_law_354 : decode cL_law 354 = .ok (.iload_n 3, 1) := by decide +kernel
theorem dL_law_355 : decode cL_law 355 = .ok (.iconst 1, 1) := by decide +kernel
theorem dL_law_356 : decode cL_law 356 = .ok (.iadd, 1) := by decide +kernel
theorem dL_law_357 : decode cL_law 357 = .ok (.iaload, 1) := by decide +kernel
theorem dL_law_358 : decode cL_law 358 = .ok (.aload_n 0, 1) := by decide +kernel
theorem dL_law_359 : decode cL_law 359 = .ok (.iload_n 3, 1) := by decide +kernel
theorem dL_law_360 : decode cL_law 360 = .ok (.iconst 2, 1) := by decide +kernel
theorem dL_law_361 : decode cL_law 361 = .ok (.iadd, 1) := by decide +kernel
theorem dL_law_362 : decode cL_law 362 = .ok (.iaload, 1) := by decide +kernel
theorem dL_law_363 : decode cL_law 363 = .ok (.invokevirtual 44, 3) := by decide +kernel
theorem dL_law_366 : decode cL_law 366 = .ok (.if_icmp .eq 403, 3) := by decide +kernel
theorem dL_law_369 : decode cL_law 369 = .ok (.iconst 0, 1) := by decide +kernel
theorem dL_law_370 : decode cL_law 370 = .ok (.ireturn, 1) := by decide +kernel
theorem dL_law_371 : decode cL_law 371 = .ok (.aload_n 1, 1) := by decide +kernel
theorem dL_law_372 : decode cL_law 372 = .ok (.aload_n 0, 1) := by decide +kernel
theorem dL_law_373 : decode cL_law 373 = .ok (.iload_n 3, 1) := by decide +kernel
theorem dL_law_374 : decode cL_law 374 = .ok (.iconst 1, 1) := by decide +kernel
theorem dL_law_375 : decode cL_law 375 = .ok (.iadd, 1) := by decide +kernel
theorem dL_law_376 : decode cL_law 376 = .ok (.iaload, 1) := by decide +kernel
theorem dL_law_377 : decode cL_law 377 = .ok (.aload_n 0, 1) := by decide +kernel
theorem dL_law_378 : decode cL_law 378 = .ok (.iload_n 3, 1) := by decide +kernel
theorem dL_law_379 : decode cL_law 379 = .ok (.iconst 2, 1) := by decide +kernel
theorem dL_law_380 : decode cL_law 380 = .ok (.iadd, 1) := by decide +kernel
theorem dL_law_381 : decode cL_law 381 = .ok (.iaload, 1) := by decide +kernel
theorem dL_law_382 : decode cL_law 382 = .ok (.invokevirtual 45, 3) := by decide +kernel
theorem dL_law_385 : decode cL_law 385 = .ok (.aload_n 2, 1) := by decide +kernel
theorem dL_law_386 : decode cL_law 386 = .ok (.aload_n 0, 1) := by decide +kernel
theorem dL_law_387 : decode cL_law 387 = .ok (.iload_n 3, 1) := by decide +kernel
theorem dL_law_388 : decode cL_law 388 = .ok (.iconst 1, 1) := by decide +kernel
theorem dL_law_389 : decode cL_law 389 = .ok (.iadd, 1) := by decide +kernel
theorem dL_law_390 : decode cL_law 390 = .ok (.iaload, 1) := by decide +kernel
theorem dL_law_391 : decode cL_law 391 = .ok (.aload_n 0, 1) := by decide +kernel
theorem dL_law_392 : decode cL_law 392 = .ok (.iload_n 3, 1) := by decide +kernel
theorem dL_law_393 : decode cL_law 393 = .ok (.iconst 2, 1) := by decide +kernel
theorem dL_law_394 : decode cL_law 394 = .ok (.iadd, 1) := by decide +kernel
theorem dL_law_395 : decode cL_law 395 = .ok (.iaload, 1) := by decide +kernel
theorem dL_law_396 : decode cL_law 396 = .ok (.invokevirtual 48, 3) := by decide +kernel
theorem dL_law_399 : decode cL_law 399 = .ok (.if_icmp .eq 370, 3) := by decide +kernel
theorem dL_law_402 : decode cL_law 402 = .ok (.iconst 0, 1) := by decide +kernel
theorem dL_law_403 : decode cL_law 403 = .ok (.ireturn, 1) := by decide +kernel
theorem dL_law_404 : decode cL_law 404 = .ok (.aload_n 1, 1) := by decide +kernel
theorem dL_law_405 : decode cL_law 405 = .ok (.aload_n 0, 1) := by decide +kernel
theorem dL_law_406 : decode cL_law 406 = .ok (.iload_n 3, 1) := by decide +kernel
theorem dL_law_407 : decode cL_law 407 = .ok (.iconst 1, 1) := by decide +kernel
theorem dL_law_408 : decode cL_law 408 = .ok (.iadd, 1) := by decide +kernel
theorem dL_law_409 : decode cL_law 409 = .ok (.iaload, 1) := by decide +kernel
theorem dL_law_410 : decode cL_law 410 = .ok (.aload_n 0, 1) := by decide +kernel
theorem dL_law_411 : decode cL_law 411 = .ok (.iload_n 3, 1) := by decide +kernel
theorem dL_law_412 : decode cL_law 412 = .ok (.iconst 2, 1) := by decide +kernel
theorem dL_law_413 : decode cL_law 413 = .ok (.iadd, 1) := by decide +kernel
theorem dL_law_414 : decode cL_law 414 = .ok (.iaload, 1) := by decide +kernel
theorem dL_law_415 : decode cL_law 415 = .ok (.invokevirtual 49, 3) := by decide +kernel
theorem dL_law_418 : decode cL_law 418 = .ok (.aload_n 2, 1) := by decide +kernel
theorem dL_law_419 : decode cL_law 419 = .ok (.aload_n 0, 1) := by decide +kernel
theorem dL_law_420 : decode cL_law 420 = .ok (.iload_n 3, 1) := by decide +kernel
theorem dL_law_421 : decode cL_law 421 = .ok (.iconst 1, 1) := by decide +kernel
theorem dL_law_422 : decode cL_law 422 = .ok (.iadd, 1) := by decide +kernel
theorem dL_law_423 : decode cL_law 423 = .ok (.iaload, 1) := by decide +kernel
theorem dL_law_424 : decode cL_law 424 = .ok (.aload_n 0, 1) := by decide +kernel
theorem dL_law_425 : decode cL_law 425 = .ok (.iload_n 3, 1) := by decide +kernel
theorem dL_law_426 : decode cL_law 426 = .ok (.iconst 2, 1) := by decide +kernel
theorem dL_law_427 : decode cL_law 427 = .ok (.iadd, 1) := by decide +kernel
theorem dL_law_428 : decode cL_law 428 = .ok (.iaload, 1) := by decide +kernel
theorem dL_law_429 : decode cL_law 429 = .ok (.invokevirtual 52, 3) := by decide +kernel
theorem dL_law_432 : decode cL_law 432 = .ok (.if_icmp .eq 337, 3) := by decide +kernel
theorem dL_law_435 : decode cL_law 435 = .ok (.iconst 0, 1) := by decide +kernel
theorem dL_law_436 : decode cL_law 436 = .ok (.ireturn, 1) := by decide +kernel
theorem dL_law_437 : decode cL_law 437 = .ok (.aload_n 1, 1) := by decide +kernel
theorem dL_law_438 : decode cL_law 438 = .ok (.aload_n 0, 1) := by decide +kernel
theorem dL_law_439 : decode cL_law 439 = .ok (.iload_n 3, 1) := by decide +kernel
theorem dL_law_440 : decode cL_law 440 = .ok (.iconst 1, 1) := by decide +kernel
theorem dL_law_441 : decode cL_law 441 = .ok (.iadd, 1) := by decide +kernel
theorem dL_law_442 : decode cL_law 442 = .ok (.iaload, 1) := by decide +kernel
theorem dL_law_443 : decode cL_law 443 = .ok (.invokevirtual 53, 3) := by decide +kernel
theorem dL_law_446 : decode cL_law 446 = .ok (.aload_n 2, 1) := by decide +kernel
theorem dL_law_447 : decode cL_law 447 = .ok (.aload_n 0, 1) := by decide +kernel
theorem dL_law_448 : decode cL_law 448 = .ok (.iload_n 3, 1) := by decide +kernel
theorem dL_law_449 : decode cL_law 449 = .ok (.iconst 1, 1) := by decide +kernel
theorem dL_law_450 : decode cL_law 450 = .ok (.iadd, 1) := by decide +kernel
theorem dL_law_451 : decode cL_law 451 = .ok (.iaload, 1) := by decide +kernel
theorem dL_law_452 : decode cL_law 452 = .ok (.invokevirtual 57, 3) := by decide +kernel
theorem dL_law_455 : decode cL_law 455 = .ok (.if_icmp .eq 314, 3) := by decide +kernel
theorem dL_law_458 : decode cL_law 458 = .ok (.iconst 0, 1) := by decide +kernel
theorem dL_law_459 : decode cL_law 459 = .ok (.ireturn, 1) := by decide +kernel
theorem dL_law_460 : decode cL_law 460 = .ok (.aload_n 1, 1) := by decide +kernel
theorem dL_law_461 : decode cL_law 461 = .ok (.aload_n 0, 1) := by decide +kernel
theorem dL_law_462 : decode cL_law 462 = .ok (.iload_n 3, 1) := by decide +kernel
theorem dL_law_463 : decode cL_law 463 = .ok (.iconst 1, 1) := by decide +kernel
theorem dL_law_464 : decode cL_law 464 = .ok (.iadd, 1) := by decide +kernel
theorem dL_law_465 : decode cL_law 465 = .ok (.iaload, 1) := by decide +kernel
theorem dL_law_466 : decode cL_law 466 = .ok (.aload_n 0, 1) := by decide +kernel
theorem dL_law_467 : decode cL_law 467 = .ok (.iload_n 3, 1) := by decide +kernel
theorem dL_law_468 : decode cL_law 468 = .ok (.iconst 2, 1) := by decide +kernel
theorem dL_law_469 : decode cL_law 469 = .ok (.iadd, 1) := by decide +kernel
theorem dL_law_470 : decode cL_law 470 = .ok (.iaload, 1) := by decide +kernel
theorem dL_law_471 : decode cL_law 471 = .ok (.invokevirtual 58, 3) := by decide +kernel
theorem dL_law_474 : decode cL_law 474 = .ok (.aload_n 2, 1) := by decide +kernel
theorem dL_law_475 : decode cL_law 475 = .ok (.aload_n 0, 1) := by decide +kernel
theorem dL_law_476 : decode cL_law 476 = .ok (.iload_n 3, 1) := by decide +kernel
theorem dL_law_477 : decode cL_law 477 = .ok (.iconst 1, 1) := by decide +kernel
theorem dL_law_478 : decode cL_law 478 = .ok (.iadd, 1) := by decide +kernel
theorem dL_law_479 : decode cL_law 479 = .ok (.iaload, 1) := by decide +kernel
theorem dL_law_480 : decode cL_law 480 = .ok (.aload_n 0, 1) := by decide +kernel
theorem dL_law_481 : decode cL_law 481 = .ok (.iload_n 3, 1) := by decide +kernel
theorem dL_law_482 : decode cL_law 482 = .ok (.iconst 2, 1) := by decide +kernel
theorem dL_law_483 : decode cL_law 483 = .ok (.iadd, 1) := by decide +kernel
theorem dL_law_484 : decode cL_law 484 = .ok (.iaload, 1) := by decide +kernel
theorem dL_law_485 : decode cL_law 485 = .ok (.invokevirtual 61, 3) := by decide +kernel
theorem dL_law_488 : decode cL_law 488 = .ok (.if_icmp .eq 281, 3) := by decide +kernel
theorem dL_law_491 : decode cL_law 491 = .ok (.iconst 0, 1) := by decide +kernel
theorem dL_law_492 : decode cL_law 492 = .ok (.ireturn, 1) := by decide +kernel
theorem dL_law_493 : decode cL_law 493 = .ok (.aload_n 1, 1) := by decide +kernel
theorem dL_law_494 : decode cL_law 494 = .ok (.aload_n 0, 1) := by decide +kernel
theorem dL_law_495 : decode cL_law 495 = .ok (.iload_n 3, 1) := by decide +kernel
theorem dL_law_496 : decode cL_law 496 = .ok (.iconst 1, 1) := by decide +kernel
theorem dL_law_497 : decode cL_law 497 = .ok (.iadd, 1) := by decide +kernel
theorem dL_law_498 : decode cL_law 498 = .ok (.iaload, 1) := by decide +kernel
theorem dL_law_499 : decode cL_law 499 = .ok (.aload_n 0, 1) := by decide +kernel
theorem dL_law_500 : decode cL_law 500 = .ok (.iload_n 3, 1) := by decide +kernel
theorem dL_law_501 : decode cL_law 501 = .ok (.iconst 2, 1) := by decide +kernel
theorem dL_law_502 : decode cL_law 502 = .ok (.iadd, 1) := by decide +kernel
theorem dL_law_503 : decode cL_law 503 = .ok (.iaload, 1) := by decide +kernel
theorem dL_law_504 : decode cL_law 504 = .ok (.invokevirtual 62, 3) := by decide +kernel
theorem dL_law_507 : decode cL_law 507 = .ok (.aload_n 2, 1) := by decide +kernel
theorem dL_law_508 : decode cL_law 508 = .ok (.aload_n 0, 1) := by decide +kernel
theorem dL_law_509 : decode cL_law 509 = .ok (.iload_n 3, 1) := by decide +kernel
theorem dL_law_510 : decode cL_law 510 = .ok (.iconst 1, 1) := by decide +kernel
theorem dL_law_511 : decode cL_law 511 = .ok (.iadd, 1) := by decide +kernel
theorem dL_law_512 : decode cL_law 512 = .ok (.iaload, 1) := by decide +kernel
theorem dL_law_513 : decode cL_law 513 = .ok (.aload_n 0, 1) := by decide +kernel
theorem dL_law_514 : decode cL_law 514 = .ok (.iload_n 3, 1) := by decide +kernel
theorem dL_law_515 : decode cL_law 515 = .ok (.iconst 2, 1) := by decide +kernel
theorem dL_law_516 : decode cL_law 516 = .ok (.iadd, 1) := by decide +kernel
theorem dL_law_517 : decode cL_law 517 = .ok (.iaload, 1) := by decide +kernel
theorem dL_law_518 : decode cL_law 518 = .ok (.invokevirtual 65, 3) := by decide +kernel
theorem dL_law_521 : decode cL_law 521 = .ok (.if_icmp .eq 248, 3) := by decide +kernel
theorem dL_law_524 : decode cL_law 524 = .ok (.iconst 0, 1) := by decide +kernel
theorem dL_law_525 : decode cL_law 525 = .ok (.ireturn, 1) := by decide +kernel
theorem dL_law_526 : decode cL_law 526 = .ok (.aload_n 1, 1) := by decide +kernel
theorem dL_law_527 : decode cL_law 527 = .ok (.aload_n 0, 1) := by decide +kernel
theorem dL_law_528 : decode cL_law 528 = .ok (.iload_n 3, 1) := by decide +kernel
theorem dL_law_529 : decode cL_law 529 = .ok (.iconst 1, 1) := by decide +kernel
theorem dL_law_530 : decode cL_law 530 = .ok (.iadd, 1) := by decide +kernel
theorem dL_law_531 : decode cL_law 531 = .ok (.iaload, 1) := by decide +kernel
theorem dL_law_532 : decode cL_law 532 = .ok (.invokevirtual 66, 3) := by decide +kernel
theorem dL_law_535 : decode cL_law 535 = .ok (.aload_n 2, 1) := by decide +kernel
theorem dL_law_536 : decode cL_law 536 = .ok (.aload_n 0, 1) := by decide +kernel
theorem dL_law_537 : decode cL_law 537 = .ok (.iload_n 3, 1) := by decide +kernel
theorem dL_law_538 : decode cL_law 538 = .ok (.iconst 1, 1) := by decide +kernel
theorem dL_law_539 : decode cL_law 539 = .ok (.iadd, 1) := by decide +kernel
theorem dL_law_540 : decode cL_law 540 = .ok (.iaload, 1) := by decide +kernel
theorem dL_law_541 : decode cL_law 541 = .ok (.invokevirtual 69, 3) := by decide +kernel
theorem dL_law_544 : decode cL_law 544 = .ok (.if_icmp .eq 225, 3) := by decide +kernel
theorem dL_law_547 : decode cL_law 547 = .ok (.iconst 0, 1) := by decide +kernel
theorem dL_law_548 : decode cL_law 548 = .ok (.ireturn, 1) := by decide +kernel
theorem dL_law_549 : decode cL_law 549 = .ok (.aload_n 1, 1) := by decide +kernel
theorem dL_law_550 : decode cL_law 550 = .ok (.aload_n 0, 1) := by decide +kernel
theorem dL_law_551 : decode cL_law 551 = .ok (.iload_n 3, 1) := by decide +kernel
theorem dL_law_552 : decode cL_law 552 = .ok (.iconst 1, 1) := by decide +kernel
theorem dL_law_553 : decode cL_law 553 = .ok (.iadd, 1) := by decide +kernel
theorem dL_law_554 : decode cL_law 554 = .ok (.iaload, 1) := by decide +kernel
theorem dL_law_555 : decode cL_law 555 = .ok (.aload_n 0, 1) := by decide +kernel
theorem dL_law_556 : decode cL_law 556 = .ok (.iload_n 3, 1) := by decide +kernel
theorem dL_law_557 : decode cL_law 557 = .ok (.iconst 2, 1) := by decide +kernel
theorem dL_law_558 : decode cL_law 558 = .ok (.iadd, 1) := by decide +kernel
theorem dL_law_559 : decode cL_law 559 = .ok (.iaload, 1) := by decide +kernel
theorem dL_law_560 : decode cL_law 560 = .ok (.invokevirtual 70, 3) := by decide +kernel
theorem dL_law_563 : decode cL_law 563 = .ok (.aload_n 2, 1) := by decide +kernel
theorem dL_law_564 : decode cL_law 564 = .ok (.aload_n 0, 1) := by decide +kernel
theorem dL_law_565 : decode cL_law 565 = .ok (.iload_n 3, 1) := by decide +kernel
theorem dL_law_566 : decode cL_law 566 = .ok (.iconst 1, 1) := by decide +kernel
theorem dL_law_567 : decode cL_law 567 = .ok (.iadd, 1) := by decide +kernel
theorem dL_law_568 : decode cL_law 568 = .ok (.iaload, 1) := by decide +kernel
theorem dL_law_569 : decode cL_law 569 = .ok (.aload_n 0, 1) := by decide +kernel
theorem dL_law_570 : decode cL_law 570 = .ok (.iload_n 3, 1) := by decide +kernel
theorem dL_law_571 : decode cL_law 571 = .ok (.iconst 2, 1) := by decide +kernel
theorem dL_law_572 : decode cL_law 572 = .ok (.iadd, 1) := by decide +kernel
theorem dL_law_573 : decode cL_law 573 = .ok (.iaload, 1) := by decide +kernel
theorem dL_law_574 : decode cL_law 574 = .ok (.invokevirtual 73, 3) := by decide +kernel
theorem dL_law_577 : decode cL_law 577 = .ok (.if_icmp .eq 192, 3) := by decide +kernel
theorem dL_law_580 : decode cL_law 580 = .ok (.iconst 0, 1) := by decide +kernel
theorem dL_law_581 : decode cL_law 581 = .ok (.ireturn, 1) := by decide +kernel
theorem dL_law_582 : decode cL_law 582 = .ok (.aload_n 1, 1) := by decide +kernel
theorem dL_law_583 : decode cL_law 583 = .ok (.aload_n 0, 1) := by decide +kernel
theorem dL_law_584 : decode cL_law 584 = .ok (.iload_n 3, 1) := by decide +kernel
theorem dL_law_585 : decode cL_law 585 = .ok (.iconst 1, 1) := by decide +kernel
theorem dL_law_586 : decode cL_law 586 = .ok (.iadd, 1) := by decide +kernel
theorem dL_law_587 : decode cL_law 587 = .ok (.iaload, 1) := by decide +kernel
theorem dL_law_588 : decode cL_law 588 = .ok (.aload_n 0, 1) := by decide +kernel
theorem dL_law_589 : decode cL_law 589 = .ok (.iload_n 3, 1) := by decide +kernel
theorem dL_law_590 : decode cL_law 590 = .ok (.iconst 2, 1) := by decide +kernel
theorem dL_law_591 : decode cL_law 591 = .ok (.iadd, 1) := by decide +kernel
theorem dL_law_592 : decode cL_law 592 = .ok (.iaload, 1) := by decide +kernel
theorem dL_law_593 : decode cL_law 593 = .ok (.invokevirtual 74, 3) := by decide +kernel
theorem dL_law_596 : decode cL_law 596 = .ok (.aload_n 2, 1) := by decide +kernel
theorem dL_law_597 : decode cL_law 597 = .ok (.aload_n 0, 1) := by decide +kernel
theorem dL_law_598 : decode cL_law 598 = .ok (.iload_n 3, 1) := by decide +kernel
theorem dL_law_599 : decode cL_law 599 = .ok (.iconst 1, 1) := by decide +kernel
theorem dL_law_600 : decode cL_law 600 = .ok (.iadd, 1) := by decide +kernel
theorem dL_law_601 : decode cL_law 601 = .ok (.iaload, 1) := by decide +kernel
theorem dL_law_602 : decode cL_law 602 = .ok (.aload_n 0, 1) := by decide +kernel
theorem dL_law_603 : decode cL_law 603 = .ok (.iload_n 3, 1) := by decide +kernel
theorem dL_law_604 : decode cL_law 604 = .ok (.iconst 2, 1) := by decide +kernel
theorem dL_law_605 : decode cL_law 605 = .ok (.iadd, 1) := by decide +kernel
theorem dL_law_606 : decode cL_law 606 = .ok (.iaload, 1) := by decide +kernel
theorem dL_law_607 : decode cL_law 607 = .ok (.invokevirtual 77, 3) := by decide +kernel
theorem dL_law_610 : decode cL_law 610 = .ok (.if_icmp .eq 159, 3) := by decide +kernel
theorem dL_law_613 : decode cL_law 613 = .ok (.iconst 0, 1) := by decide +kernel
theorem dL_law_614 : decode cL_law 614 = .ok (.ireturn, 1) := by decide +kernel
theorem dL_law_615 : decode cL_law 615 = .ok (.aload_n 1, 1) := by decide +kernel
theorem dL_law_616 : decode cL_law 616 = .ok (.invokevirtual 78, 3) := by decide +kernel
theorem dL_law_619 : decode cL_law 619 = .ok (.aload_n 2, 1) := by decide +kernel
theorem dL_law_620 : decode cL_law 620 = .ok (.invokevirtual 82, 3) := by decide +kernel
theorem dL_law_623 : decode cL_law 623 = .ok (.if_icmp .eq 146, 3) := by decide +kernel
theorem dL_law_626 : decode cL_law 626 = .ok (.iconst 0, 1) := by decide +kernel
theorem dL_law_627 : decode cL_law 627 = .ok (.ireturn, 1) := by decide +kernel
theorem dL_law_628 : decode cL_law 628 = .ok (.aload_n 1, 1) := by decide +kernel
theorem dL_law_629 : decode cL_law 629 = .ok (.invokevirtual 83, 3) := by decide +kernel
theorem dL_law_632 : decode cL_law 632 = .ok (.aload_n 2, 1) := by decide +kernel
theorem dL_law_633 : decode cL_law 633 = .ok (.invokevirtual 86, 3) := by decide +kernel
theorem dL_law_636 : decode cL_law 636 = .ok (.if_icmp .eq 133, 3) := by decide +kernel
theorem dL_law_639 : decode cL_law 639 = .ok (.iconst 0, 1) := by decide +kernel
theorem dL_law_640 : decode cL_law 640 = .ok (.ireturn, 1) := by decide +kernel
theorem dL_law_641 : decode cL_law 641 = .ok (.aload_n 1, 1) := by decide +kernel
theorem dL_law_642 : decode cL_law 642 = .ok (.invokevirtual 87, 3) := by decide +kernel
theorem dL_law_645 : decode cL_law 645 = .ok (.aload_n 2, 1) := by decide +kernel
theorem dL_law_646 : decode cL_law 646 = .ok (.invokevirtual 90, 3) := by decide +kernel
theorem dL_law_649 : decode cL_law 649 = .ok (.if_icmp .eq 120, 3) := by decide +kernel
theorem dL_law_652 : decode cL_law 652 = .ok (.iconst 0, 1) := by decide +kernel
theorem dL_law_653 : decode cL_law 653 = .ok (.ireturn, 1) := by decide +kernel
theorem dL_law_654 : decode cL_law 654 = .ok (.aload_n 1, 1) := by decide +kernel
theorem dL_law_655 : decode cL_law 655 = .ok (.invokevirtual 91, 3) := by decide +kernel
theorem dL_law_658 : decode cL_law 658 = .ok (.aload_n 2, 1) := by decide +kernel
theorem dL_law_659 : decode cL_law 659 = .ok (.invokevirtual 94, 3) := by decide +kernel
theorem dL_law_662 : decode cL_law 662 = .ok (.if_icmp .eq 107, 3) := by decide +kernel
theorem dL_law_665 : decode cL_law 665 = .ok (.iconst 0, 1) := by decide +kernel
theorem dL_law_666 : decode cL_law 666 = .ok (.ireturn, 1) := by decide +kernel
theorem dL_law_667 : decode cL_law 667 = .ok (.aload_n 1, 1) := by decide +kernel
theorem dL_law_668 : decode cL_law 668 = .ok (.aload_n 0, 1) := by decide +kernel
theorem dL_law_669 : decode cL_law 669 = .ok (.iload_n 3, 1) := by decide +kernel
theorem dL_law_670 : decode cL_law 670 = .ok (.iconst 1, 1) := by decide +kernel
theorem dL_law_671 : decode cL_law 671 = .ok (.iadd, 1) := by decide +kernel
theorem dL_law_672 : decode cL_law 672 = .ok (.iaload, 1) := by decide +kernel
theorem dL_law_673 : decode cL_law 673 = .ok (.invokevirtual 95, 3) := by decide +kernel
theorem dL_law_676 : decode cL_law 676 = .ok (.aload_n 2, 1) := by decide +kernel
theorem dL_law_677 : decode cL_law 677 = .ok (.aload_n 0, 1) := by decide +kernel
theorem dL_law_678 : decode cL_law 678 = .ok (.iload_n 3, 1) := by decide +kernel
theorem dL_law_679 : decode cL_law 679 = .ok (.iconst 1, 1) := by decide +kernel
theorem dL_law_680 : decode cL_law 680 = .ok (.iadd, 1) := by decide +kernel
theorem dL_law_681 : decode cL_law 681 = .ok (.iaload, 1) := by decide +kernel
theorem dL_law_682 : decode cL_law 682 = .ok (.invokevirtual 98, 3) := by decide +kernel
theorem dL_law_685 : decode cL_law 685 = .ok (.if_icmp .eq 84, 3) := by decide +kernel
theorem dL_law_688 : decode cL_law 688 = .ok (.iconst 0, 1) := by decide +kernel
theorem dL_law_689 : decode cL_law 689 = .ok (.ireturn, 1) := by decide +kernel
theorem dL_law_690 : decode cL_law 690 = .ok (.aload_n 1, 1) := by decide +kernel
theorem dL_law_691 : decode cL_law 691 = .ok (.aload_n 0, 1) := by decide +kernel
theorem dL_law_692 : decode cL_law 692 = .ok (.iload_n 3, 1) := by decide +kernel
theorem dL_law_693 : decode cL_law 693 = .ok (.iconst 1, 1) := by decide +kernel
theorem dL_law_694 : decode cL_law 694 = .ok (.iadd, 1) := by decide +kernel
theorem dL_law_695 : decode cL_law 695 = .ok (.iaload, 1) := by decide +kernel
theorem dL_law_696 : decode cL_law 696 = .ok (.invokevirtual 99, 3) := by decide +kernel
theorem dL_law_699 : decode cL_law 699 = .ok (.aload_n 2, 1) := by decide +kernel
theorem dL_law_700 : decode cL_law 700 = .ok (.aload_n 0, 1) := by decide +kernel
theorem dL_law_701 : decode cL_law 701 = .ok (.iload_n 3, 1) := by decide +kernel
theorem dL_law_702 : decode cL_law 702 = .ok (.iconst 1, 1) := by decide +kernel
theorem dL_law_703 : decode cL_law 703 = .ok (.iadd, 1) := by decide +kernel
theorem dL_law_704 : decode cL_law 704 = .ok (.iaload, 1) := by decide +kernel
theorem dL_law_705 : decode cL_law 705 = .ok (.invokevirtual 102, 3) := by decide +kernel
theorem dL_law_708 : decode cL_law 708 = .ok (.if_icmp .eq 61, 3) := by decide +kernel
theorem dL_law_711 : decode cL_law 711 = .ok (.iconst 0, 1) := by decide +kernel
theorem dL_law_712 : decode cL_law 712 = .ok (.ireturn, 1) := by decide +kernel
theorem dL_law_713 : decode cL_law 713 = .ok (.aload_n 1, 1) := by decide +kernel
theorem dL_law_714 : decode cL_law 714 = .ok (.aload_n 0, 1) := by decide +kernel
theorem dL_law_715 : decode cL_law 715 = .ok (.iload_n 3, 1) := by decide +kernel
theorem dL_law_716 : decode cL_law 716 = .ok (.iconst 1, 1) := by decide +kernel
theorem dL_law_717 : decode cL_law 717 = .ok (.iadd, 1) := by decide +kernel
theorem dL_law_718 : decode cL_law 718 = .ok (.iaload, 1) := by decide +kernel
theorem dL_law_719 : decode cL_law 719 = .ok (.aload_n 0, 1) := by decide +kernel
theorem dL_law_720 : decode cL_law 720 = .ok (.iload_n 3, 1) := by decide +kernel
theorem dL_law_721 : decode cL_law 721 = .ok (.iconst 2, 1) := by decide +kernel
theorem dL_law_722 : decode cL_law 722 = .ok (.iadd, 1) := by decide +kernel
theorem dL_law_723 : decode cL_law 723 = .ok (.iaload, 1) := by decide +kernel
theorem dL_law_724 : decode cL_law 724 = .ok (.invokevirtual 103, 3) := by decide +kernel
theorem dL_law_727 : decode cL_law 727 = .ok (.aload_n 2, 1) := by decide +kernel
theorem dL_law_728 : decode cL_law 728 = .ok (.aload_n 0, 1) := by decide +kernel
theorem dL_law_729 : decode cL_law 729 = .ok (.iload_n 3, 1) := by decide +kernel
theorem dL_law_730 : decode cL_law 730 = .ok (.iconst 1, 1) := by decide +kernel
theorem dL_law_731 : decode cL_law 731 = .ok (.iadd, 1) := by decide +kernel
theorem dL_law_732 : decode cL_law 732 = .ok (.iaload, 1) := by decide +kernel
theorem dL_law_733 : decode cL_law 733 = .ok (.aload_n 0, 1) := by decide +kernel
theorem dL_law_734 : decode cL_law 734 = .ok (.iload_n 3, 1) := by decide +kernel
theorem dL_law_735 : decode cL_law 735 = .ok (.iconst 2, 1) := by decide +kernel
theorem dL_law_736 : decode cL_law 736 = .ok (.iadd, 1) := by decide +kernel
theorem dL_law_737 : decode cL_law 737 = .ok (.iaload, 1) := by decide +kernel
theorem dL_law_738 : decode cL_law 738 = .ok (.invokevirtual 106, 3) := by decide +kernel
theorem dL_law_741 : decode cL_law 741 = .ok (.if_icmp .eq 28, 3) := by decide +kernel
theorem dL_law_744 : decode cL_law 744 = .ok (.iconst 0, 1) := by decide +kernel
theorem dL_law_745 : decode cL_law 745 = .ok (.ireturn, 1) := by decide +kernel
theorem dL_law_746 : decode cL_law 746 = .ok (.aload_n 1, 1) := by decide +kernel
theorem dL_law_747 : decode cL_law 747 = .ok (.aload_n 0, 1) := by decide +kernel
theorem dL_law_748 : decode cL_law 748 = .ok (.iload_n 3, 1) := by decide +kernel
theorem dL_law_749 : decode cL_law 749 = .ok (.iconst 1, 1) := by decide +kernel
theorem dL_law_750 : decode cL_law 750 = .ok (.iadd, 1) := by decide +kernel
theorem dL_law_751 : decode cL_law 751 = .ok (.iaload, 1) := by decide +kernel
theorem dL_law_752 : decode cL_law 752 = .ok (.invokevirtual 107, 3) := by decide +kernel
theorem dL_law_755 : decode cL_law 755 = .ok (.aload_n 2, 1) := by decide +kernel
theorem dL_law_756 : decode cL_law 756 = .ok (.aload_n 0, 1) := by decide +kernel
theorem dL_law_757 : decode cL_law 757 = .ok (.iload_n 3, 1) := by decide +kernel
theorem dL_law_758 : decode cL_law 758 = .ok (.iconst 1, 1) := by decide +kernel
theorem dL_law_759 : decode cL_law 759 = .ok (.iadd, 1) := by decide +kernel
theorem dL_law_760 : decode cL_law 760 = .ok (.iaload, 1) := by decide +kernel
theorem dL_law_761 : decode cL_law 761 = .ok (.invokevirtual 110, 3) := by decide +kernel
theorem dL_law_764 : decode cL_law 764 = .ok (.if_icmp .eq 5, 3) := by decide +kernel
theorem dL_law_767 : decode cL_law 767 = .ok (.iconst 0, 1) := by decide +kernel
theorem dL_law_768 : decode cL_law 768 = .ok (.ireturn, 1) := by decide +kernel
theorem dL_law_769 : decode cL_law 769 = .ok (.iinc 3 4, 3) := by decide +kernel
theorem dL_law_772 : decode cL_law 772 = .ok (.goto (-754), 3) := by decide +kernel
theorem dL_law_775 : decode cL_law 775 = .ok (.iconst 1, 1) := by decide +kernel
theorem dL_law_776 : decode cL_law 776 = .ok (.ireturn, 1) := by decide +kernel
end
section
/-! ===== an abstract memory: kinds and sizes of cells, ints as numbers, longs, references; the judgement zZ over it ===== -/
abbrev zV : Type := Int ⊕ (Int64 ⊕ Option Nat)
abbrev zM : Type := Nat × (Nat → Nat × Nat) × (Nat → Int → Int) × (Nat → Int → Int64) × (Nat → Int → Option Nat)
abbrev zE : Type := Launch × Nat × va_G × (Nat → ClassId)
abbrev zX : Type := Program × Env × State × MethodId × Array Value × List Frame × Method × Code
abbrev zF : Type := MethodName × ByteArray × Nat × Option FieldType
abbrev vI (x : Int) : zV := Sum.inl x
abbrev vL (x : Int64) : zV := Sum.inr (Sum.inl x)
abbrev vR (r : Option Nat) : zV := Sum.inr (Sum.inr r)
def zsz (M : zM) : Nat := M.1
def zK (M : zM) (a : Nat) : Nat × Nat := M.2.1 a
def zI (M : zM) (a : Nat) (j : Int) : Int := M.2.2.1 a j
def zL (M : zM) (a : Nat) (j : Int) : Int64 := M.2.2.2.1 a j
def zR (M : zM) (a : Nat) (j : Int) : Option Nat := M.2.2.2.2 a j
def zsI (M : zM) (a : Nat) (j x : Int) : zM := (M.1, M.2.1, fun b i => if b = a ∧ i = j then x else M.2.2.1 b i, M.2.2.2.1, M.2.2.2.2)
def zsL (M : zM) (a : Nat) (j : Int) (x : Int64) : zM := (M.1, M.2.1, M.2.2.1, fun b i => if b = a ∧ i = j then x else M.2.2.2.1 b i, M.2.2.2.2)
def zsR (M : zM) (a : Nat) (j : Int) (x : Option Nat) : zM := (M.1, M.2.1, M.2.2.1, M.2.2.2.1, fun b i => if b = a ∧ i = j then x else M.2.2.2.2 b i)
def znew (M : zM) (t n : Nat) : zM := (M.1 + 1, fun b => if b = M.1 then (t, n) else M.2.1 b, fun b i => if b = M.1 then 0 else M.2.2.1 b i, fun b i => if b = M.1 then 0 else M.2.2.2.1 b i, fun b i => if b = M.1 then none else M.2.2.2.2 b i)
theorem zI_sI (M : zM) (a : Nat) (j x : Int) (b : Nat) (i : Int) : zI (zsI M a j x) b i = if b = a ∧ i = j then x else zI M b i := rfl
theorem zI_sL (M : zM) (a : Nat) (j : Int) (x : Int64) (b : Nat) (i : Int) : zI (zsL M a j x) b i = zI M b i := rfl
theorem zI_sR (M : zM) (a : Nat) (j : Int) (x : Option Nat) (b : Nat) (i : Int) : zI (zsR M a j x) b i = zI M b i := rfl
theorem zI_new (M : zM) (t n b : Nat) (i : Int) : zI (znew M t n) b i = if b = zsz M then 0 else zI M b i := rfl
theorem zL_sI (M : zM) (a : Nat) (j x : Int) (b : Nat) (i : Int) : zL (zsI M a j x) b i = zL M b i := rfl
theorem zL_sL (M : zM) (a : Nat) (j : Int) (x : Int64) (b : Nat) (i : Int) : zL (zsL M a j x) b i = if b = a ∧ i = j then x else zL M b i := rfl
theorem zL_sR (M : zM) (a : Nat) (j : Int) (x : Option Nat) (b : Nat) (i : Int) : zL (zsR M a j x) b i = zL M b i := rfl
theorem zL_new (M : zM) (t n b : Nat) (i : Int) : zL (znew M t n) b i = if b = zsz M then 0 else zL M b i := rfl
theorem zR_sI (M : zM) (a : Nat) (j x : Int) (b : Nat) (i : Int) : zR (zsI M a j x) b i = zR M b i := rfl
theorem zR_sL (M : zM) (a : Nat) (j : Int) (x : Int64) (b : Nat) (i : Int) : zR (zsL M a j x) b i = zR M b i := rfl
theorem zR_sR (M : zM) (a : Nat) (j : Int) (x : Option Nat) (b : Nat) (i : Int) : zR (zsR M a j x) b i = if b = a ∧ i = j then x else zR M b i := rfl
theorem zR_new (M : zM) (t n b : Nat) (i : Int) : zR (znew M t n) b i = if b = zsz M then none else zR M b i := rfl
theorem zK_sI (M : zM) (a : Nat) (j x : Int) (b : Nat) : zK (zsI M a j x) b = zK M b := rfl
theorem zK_sL (M : zM) (a : Nat) (j : Int) (x : Int64) (b : Nat) : zK (zsL M a j x) b = zK M b := rfl
theorem zK_sR (M : zM) (a : Nat) (j : Int) (x : Option Nat) (b : Nat) : zK (zsR M a j x) b = zK M b := rfl
theorem zK_new (M : zM) (t n b : Nat) : zK (znew M t n) b = if b = zsz M then (t, n) else zK M b := rfl
theorem zsz_sI (M : zM) (a : Nat) (j x : Int) : zsz (zsI M a j x) = zsz M := rfl
theorem zsz_sL (M : zM) (a : Nat) (j : Int) (x : Int64) : zsz (zsL M a j x) = zsz M := rfl
theorem zsz_sR (M : zM) (a : Nat) (j : Int) (x : Option Nat) : zsz (zsR M a j x) = zsz M := rfl
theorem zsz_new (M : zM) (t n : Nat) : zsz (znew M t n) = zsz M + 1 := rfl
def zin (x : Int) : Prop := -2147483648 ≤ x ∧ x ≤ 2147483647
def zv (v : zV) : Value := match v with
  | .inl x => .int (Int32.ofInt x)
  | .inr (.inl y) => .long y
  | .inr (.inr r) => va_rf r
def zok (v : zV) : Prop := match v with
  | .inl x => zin x
  | .inr _ => True
def zokS (S : List zV) : Prop := ∀ v ∈ S, zok v
def zokL (Lc : List (Nat × zV)) : Prop := ∀ q ∈ Lc, zok q.2
def zokM (E : zE) (M : zM) : Prop := (∀ a j, zin (zI M a j)) ∧ (∀ a, (zK M a).2 < 2147483648) ∧ (∀ a, (zK M a).1 ≠ 0 → E.2.1 ≤ a ∧ a < zsz M)
def zlv (Lc : List (Nat × zV)) : List (Nat × Value) := Lc.map (fun q => (q.1, zv q.2))
def zc2 (v : zV) : Bool := match v with
  | .inr (.inl _) => true
  | _ => false
def zput (i : Nat) (v : zV) (Lc : List (Nat × zV)) : List (Nat × zV) := (i, v) :: Lc.filter (fun q => !(q.1 == i) && !(q.1 + 1 == i && zc2 q.2))
def zputL (i : Nat) (v : zV) (Lc : List (Nat × zV)) : List (Nat × zV) := (i, v) :: Lc.filter (fun q => !(q.1 == i) && (!(q.1 == i + 1) && !(q.1 + 1 == i && zc2 q.2)))
theorem zv_cat (v : zV) : ((zv v).category == 2) = zc2 v := by
  rcases v with x | y | r
  · rfl
  · rfl
  · cases r <;> rfl
theorem zlv_put (i : Nat) (v : zV) (Lc : List (Nat × zV)) : (i, zv v) :: (zlv Lc).filter (fun q => !(q.1 == i) && !(q.1 + 1 == i && q.2.category == 2)) = zlv (zput i v Lc) := by
  unfold zput zlv
  rw [List.map_cons, List.filter_map]
  congr 2
  apply List.filter_congr
  intro q _
  simp only [Function.comp, zv_cat]
theorem zlv_putL (i : Nat) (v : zV) (Lc : List (Nat × zV)) : (i, zv v) :: (zlv Lc).filter (fun q => !(q.1 == i) && (!(q.1 == i + 1) && !(q.1 + 1 == i && q.2.category == 2))) = zlv (zputL i v Lc) := by
  unfold zputL zlv
  rw [List.map_cons, List.filter_map]
  congr 2
  apply List.filter_congr
  intro q _
  simp only [Function.comp, zv_cat]
theorem zlv_get {Lc : List (Nat × zV)} {k i : Nat} {v : zV} (h : Lc[k]? = some (i, v)) : (zlv Lc)[k]? = some (i, zv v) := by
  unfold zlv
  rw [List.getElem?_map, h]
  rfl
theorem zokL_put {i : Nat} {v : zV} {Lc : List (Nat × zV)} (h : zokL Lc) (hv : zok v) : zokL (zput i v Lc) := by
  intro q hq
  rcases List.mem_cons.mp hq with e | e
  · rw [e]; exact hv
  · exact h q (List.mem_filter.mp e).1
theorem zokL_putL {i : Nat} {v : zV} {Lc : List (Nat × zV)} (h : zokL Lc) (hv : zok v) : zokL (zputL i v Lc) := by
  intro q hq
  rcases List.mem_cons.mp hq with e | e
  · rw [e]; exact hv
  · exact h q (List.mem_filter.mp e).1
theorem zokL_get {Lc : List (Nat × zV)} {k i : Nat} {v : zV} (h : zokL Lc) (hk : Lc[k]? = some (i, v)) : zok v := h (i, v) (List.mem_of_getElem? hk)
theorem zokS_cons {v : zV} {S : List zV} (hv : zok v) (h : zokS S) : zokS (v :: S) := fun q hq => (List.mem_cons.mp hq).elim (fun e => e ▸ hv) (h q)
theorem zokS_hd {v : zV} {S : List zV} (h : zokS (v :: S)) : zok v := h v List.mem_cons_self
theorem zokS_tl {v : zV} {S : List zV} (h : zokS (v :: S)) : zokS S := fun q hq => h q (List.mem_cons_of_mem _ hq)
theorem zokS_nil : zokS [] := fun _ h => absurd h List.not_mem_nil
/-! numbers -/
theorem zi_toInt {x : Int} (h : zin x) : (Int32.ofInt x).toInt = x := Int32.toInt_ofInt_of_le (by have := h.1; omega) (by have := h.2; omega)
theorem zi_inj {x y : Int} (hx : zin x) (hy : zin y) : Int32.ofInt x = Int32.ofInt y ↔ x = y := by
  rw [← Int32.toInt_inj, zi_toInt hx, zi_toInt hy]
theorem zi_lt {x y : Int} (hx : zin x) (hy : zin y) : Int32.ofInt x < Int32.ofInt y ↔ x < y := by
  rw [Int32.lt_iff_toInt_lt, zi_toInt hx, zi_toInt hy]
theorem zi_le {x y : Int} (hx : zin x) (hy : zin y) : Int32.ofInt x ≤ Int32.ofInt y ↔ x ≤ y := by
  rw [Int32.le_iff_toInt_le, zi_toInt hx, zi_toInt hy]
theorem zi_0 : Int32.ofInt 0 = 0 := by decide
theorem zin_0 : zin 0 := by unfold zin; omega
theorem zi_nat {x : Int} (h0 : 0 ≤ x) (h : zin x) : (Int32.ofInt x).toNatClampNeg = x.toNat := Int32.toNatClampNeg_ofInt_of_le (by have := h.1; omega) (by have := h.2; omega)
theorem zi_in {x : Int} {n : Nat} (hx : zin x) (h0 : 0 ≤ x) (h1 : x < n) : vp_in (Int32.ofInt x) n := by
  rw [vp_in_iff, zi_toInt hx]
  exact ⟨h0, h1⟩
/-! cells -/
def zfty (t j : Nat) : FieldType := match t with
  | 0 => tyX0 j
  | 1 => tyX1 j
  | 2 => tyX2 j
  | 3 => tyX3 j
  | 4 => tyX4 j
  | 5 => tyX5 j
  | 6 => tyX6 j
  | _ => tyX7 j
def zfv (M : zM) (a : Nat) (ty : FieldType) (j : Int) : Value := match ty with
  | .int => .int (Int32.ofInt (zI M a j))
  | .long => .long (zL M a j)
  | _ => va_rf (zR M a j)
def zarr (M : zM) (a t : Nat) : (Nat → Int32) ⊕ (Nat → Int64) ⊕ (Nat → UInt32) ⊕ (Nat → UInt64) ⊕ (Nat → Option Nat) := match t with
  | 9 => .inl (fun i => Int32.ofInt (zI M a i))
  | 10 => .inl (fun i => Int32.ofInt (zI M a i))
  | 11 => .inr (.inl (fun i => zL M a i))
  | _ => .inr (.inr (.inr (.inr (fun i => zR M a i))))
def zobj (M : zM) (a t n : Nat) : List Value := (List.range n).map (fun j => zfv M a (zfty t j) j)
def zcell (cA : Nat → ClassId) (M : zM) (a : Nat) : va_E :=
  if (zK M a).1 < 9 then .inr ((zK M a).1 - 1, zobj M a ((zK M a).1 - 1) (zK M a).2) else .inl (cA (zK M a).1, (zK M a).2, zarr M a (zK M a).1)
def zws (N : Nat) (cA : Nat → ClassId) (M : zM) : va_W := (List.range (zsz M - N)).map (fun k => (N + k, zcell cA M (N + k)))
def ztys (cA : Nat → ClassId) : List (ClassId × FieldType) := [(cA 9, .int), (cA 10, .boolean), (cA 11, .long), (cA 12, .object RX5), (cA 13, .array .int)]
def zRel (E : zE) (M : zM) (H : Heap) : Prop := H.size = zsz M ∧ E.2.1 ≤ zsz M ∧ va_P E.2.2.1 vwCl (zws E.2.1 E.2.2.2 M) H
theorem zws_get {N : Nat} {cA : Nat → ClassId} {M : zM} {a : Nat} (h1 : N ≤ a) (h2 : a < zsz M) : (zws N cA M)[a - N]? = some (a, zcell cA M a) := by
  unfold zws
  rw [List.getElem?_map, List.getElem?_range (by omega)]
  simp only [Option.map_some, Option.some.injEq, Prod.mk.injEq]
  rw [show N + (a - N) = a by omega]
  exact ⟨rfl, rfl⟩
theorem zws_at {N : Nat} {cA : Nat → ClassId} {M : zM} {k : Nat} {q : Nat × va_E} (h : (zws N cA M)[k]? = some q) : k < zsz M - N ∧ q = (N + k, zcell cA M (N + k)) := by
  unfold zws at h
  rw [List.getElem?_map] at h
  by_cases hk : k < zsz M - N
  · rw [List.getElem?_range hk] at h
    exact ⟨hk, (Option.some.inj h).symm⟩
  · rw [List.getElem?_eq_none (by rw [List.length_range]; omega)] at h
    cases h
theorem zws_D {N : Nat} {cA : Nat → ClassId} {M : zM} : va_D (fun q => N ≤ q) (zws N cA M) := by
  refine ⟨fun i j p q hi hj hpq => ?_, fun k q hk => ?_⟩
  · obtain ⟨h1, e1⟩ := zws_at hi
    obtain ⟨h2, e2⟩ := zws_at hj
    rw [e1, e2] at hpq
    have hpq : N + i = N + j := hpq
    omega
  · obtain ⟨h1, e1⟩ := zws_at hk
    rw [e1]
    exact Nat.le_add_right _ _
theorem zws_set {N : Nat} {cA : Nat → ClassId} {M M' : zM} {a : Nat} (h1 : N ≤ a) (h2 : a < zsz M) (hs : zsz M' = zsz M) (ho : ∀ b, b ≠ a → zcell cA M' b = zcell cA M b) : (zws N cA M).set (a - N) (a, zcell cA M' a) = zws N cA M' := by
  apply List.ext_getElem?
  intro k
  by_cases hk : k = a - N
  · subst hk
    rw [List.getElem?_set_self (by unfold zws; rw [List.length_map, List.length_range]; omega), zws_get h1 (by rw [hs]; exact h2)]
  · rw [List.getElem?_set_ne (fun e => hk e.symm)]
    unfold zws
    rw [hs, List.getElem?_map, List.getElem?_map]
    by_cases hl : k < zsz M - N
    · rw [List.getElem?_range hl]
      simp only [Option.map_some]
      rw [ho (N + k) (by omega)]
    · rw [List.getElem?_eq_none (by rw [List.length_range]; omega)]
      rfl
theorem zws_push {N : Nat} {cA : Nat → ClassId} {M M' : zM} (h1 : N ≤ zsz M) (hs : zsz M' = zsz M + 1) (ho : ∀ b, b < zsz M → zcell cA M' b = zcell cA M b) : zws N cA M ++ [(zsz M, zcell cA M' (zsz M))] = zws N cA M' := by
  unfold zws
  rw [hs, show zsz M + 1 - N = (zsz M - N) + 1 by omega, List.range_succ, List.map_append]
  congr 1
  · apply List.map_congr_left
    intro k hk
    have hk := List.mem_range.mp hk
    rw [ho (N + k) (by omega)]
  · simp only [List.map_cons, List.map_nil]
    rw [show N + (zsz M - N) = zsz M by omega]
end
section
/-! ===== the judgement and its rows ===== -/
def zT : List Cond := lw_tbl.filter goodWord
theorem zT_good {c : Cond} (h : c ∈ zT) : GoodIn zT (c :: zT) := by
  have key : ∀ w ∈ zT, w ∈ zT ∧ ((w.onTables && w.keeps) = true ∨ ∃ ty, w = .arrayClass ty) := fun w hw => ⟨hw, good_of_word (List.mem_filter.mp hw).2⟩
  intro w hw
  rcases List.mem_cons.mp hw with e | e
  · rw [e]; exact key c h
  · exact key w e
theorem zT_of {c : Cond} (i : Nat) (h : lw_tbl[i]? = some c) (g : goodWord c = true) : c ∈ zT := List.mem_filter.mpr ⟨List.mem_of_getElem? h, g⟩
def zAOA (U : State) : Prop := ∃ (comp c : ClassId) (k : Class), U.vm.findClass "[I" = some comp ∧ (U.vm.classes.findIdx? fun (x : Class) => match x.kind with | .array component _ => component == comp | _ => false) = some c ∧ U.vm.classes[c]? = some k ∧ k.kind = .array comp (.array .int) ∧ U.vm.findClass "[[I" = some c
def zKn (E : zE) (U : State) : Prop := va_K E.2.2.1 vwCl (ztys E.2.2.2) U ∧ va_AO RX5 U ∧ zAOA U
abbrev xp (X : zX) : Program := X.1
abbrev xe (X : zX) : Env := X.2.1
abbrev xs (X : zX) : State := X.2.2.1
abbrev xm (X : zX) : MethodId := X.2.2.2.1
abbrev xa (X : zX) : Array Value := X.2.2.2.2.1
abbrev xb (X : zX) : List Frame := X.2.2.2.2.2.1
abbrev xh (X : zX) : Method := X.2.2.2.2.2.2.1
abbrev xc (X : zX) : Code := X.2.2.2.2.2.2.2
def zSt (cc : ByteArray) (own nm : String) (nL : Nat) (E : zE) (X : zX) : Prop :=
  (xp X).tables.exec = Jvm.exec ∧ (xc X).code = cc ∧ (xc X).maxLocals = nL ∧ (xs X).vm.findClass own = some (xm X).cls ∧ (∀ w ∈ zT, w.before (xa X) (xs X) = true) ∧ zKn E (xs X) ∧ (xh X).locks = false ∧ E.2.1 ≤ (xs X).heap.size ∧ (xh X).name = nm
def zZ (cc : ByteArray) (own nm : String) (nL : Nat) (E : zE) (R : Room) (X : zX) (Q : State → Prop) (pc : Nat) (Lc : List (Nat × zV)) (S : List zV) (M : zM) (ce sl : Nat) : Prop :=
  zSt cc own nm nL E X → zokM E M → zokS S → zokL Lc → ∀ (H : Heap) (locs : List Loc) (ls : Array Slot), zRel E M H → va_S (fun q => E.2.1 ≤ q) (xs X).heap H locs → lv_has ls nL (zlv Lc) →
    W (xp X) E.1 (xe X) R (xs X) (xm X) (xa X) (xb X) (xh X) (xc X) H locs ce sl Q (F0 (xm X) pc ls (S.map zv))
section ZR
variable {cc : ByteArray} {own nm : String} {nL : Nat} {E : zE} {R : Room} {X : zX} {Q : State → Prop} {pc : Nat} {Lc : List (Nat × zV)} {S : List zV} {M : zM} {ce sl : Nat}
/-! locals and constants -/
theorem z_iload_n {k : Fin 4} (pl : Nat) {x : Int} (hd : decode cc pc = .ok (.iload_n k, 1)) (hl : Lc[pl]? = some ((k : Nat), vI x)) (h : zZ cc own nm nL E R X Q (pc + 1) Lc (vI x :: S) M ce sl) : zZ cc own nm nL E R X Q pc Lc S M ce sl := by
  intro hSt hM hS hL H locs ls hR hV hls
  refine lv_iload_n hSt.1 hSt.2.1 hd rfl (lv_at hls pl (zlv_get hl)) ?_
  exact h hSt hM (zokS_cons (zokL_get hL hl) hS) hL H locs ls hR hV hls
theorem z_iload {i : Nat} (pl : Nat) {x : Int} (hd : decode cc pc = .ok (.iload i, 2)) (hl : Lc[pl]? = some (i, vI x)) (h : zZ cc own nm nL E R X Q (pc + 2) Lc (vI x :: S) M ce sl) : zZ cc own nm nL E R X Q pc Lc S M ce sl := by
  intro hSt hM hS hL H locs ls hR hV hls
  refine lv_iload hSt.1 hSt.2.1 hd (lv_at hls pl (zlv_get hl)) ?_
  exact h hSt hM (zokS_cons (zokL_get hL hl) hS) hL H locs ls hR hV hls
theorem z_lload_n {k : Fin 4} (pl : Nat) {x : Int64} (hd : decode cc pc = .ok (.lload_n k, 1)) (hl : Lc[pl]? = some ((k : Nat), vL x)) (h : zZ cc own nm nL E R X Q (pc + 1) Lc (vL x :: S) M ce sl) : zZ cc own nm nL E R X Q pc Lc S M ce sl := by
  intro hSt hM hS hL H locs ls hR hV hls
  refine lv_lload_n hSt.1 hSt.2.1 hd rfl (lv_at hls pl (zlv_get hl)) ?_
  exact h hSt hM (zokS_cons trivial hS) hL H locs ls hR hV hls
theorem z_lload {i : Nat} (pl : Nat) {x : Int64} (hd : decode cc pc = .ok (.lload i, 2)) (hl : Lc[pl]? = some (i, vL x)) (h : zZ cc own nm nL E R X Q (pc + 2) Lc (vL x :: S) M ce sl) : zZ cc own nm nL E R X Q pc Lc S M ce sl := by
  intro hSt hM hS hL H locs ls hR hV hls
  refine lv_lload hSt.1 hSt.2.1 hd (lv_at hls pl (zlv_get hl)) ?_
  exact h hSt hM (zokS_cons trivial hS) hL H locs ls hR hV hls
theorem z_aload_n {k : Fin 4} (pl : Nat) {x : Option Nat} (hd : decode cc pc = .ok (.aload_n k, 1)) (hl : Lc[pl]? = some ((k : Nat), vR x)) (h : zZ cc own nm nL E R X Q (pc + 1) Lc (vR x :: S) M ce sl) : zZ cc own nm nL E R X Q pc Lc S M ce sl := by
  intro hSt hM hS hL H locs ls hR hV hls
  have hk := h hSt hM (zokS_cons trivial hS) hL H locs ls hR hV hls
  have hg : ls[(k : Nat)]? = some (.val (va_rf x)) := lv_at hls pl (zlv_get hl)
  have hx := hSt.1
  have hb := hSt.2.1
  cases x with
  | some a => exact lv_aload_n hx hb hd rfl hg hk
  | none =>
    intro T hT Y
    obtain ⟨t, a, b⟩ := hk T hT Y
    refine ⟨t, ?_, b⟩
    jvm_step Y.here [Y.here.top, hx, hb, hd, hg, va_rf]
    exact ⟨rfl, a⟩
theorem z_aload {i : Nat} (pl : Nat) {x : Option Nat} (hd : decode cc pc = .ok (.aload i, 2)) (hl : Lc[pl]? = some (i, vR x)) (h : zZ cc own nm nL E R X Q (pc + 2) Lc (vR x :: S) M ce sl) : zZ cc own nm nL E R X Q pc Lc S M ce sl := by
  intro hSt hM hS hL H locs ls hR hV hls
  have hk := h hSt hM (zokS_cons trivial hS) hL H locs ls hR hV hls
  have hg : ls[i]? = some (.val (va_rf x)) := lv_at hls pl (zlv_get hl)
  have hx := hSt.1
  have hb := hSt.2.1
  cases x with
  | some a => exact lv_aload hx hb hd hg hk
  | none =>
    intro T hT Y
    obtain ⟨t, a, b⟩ := hk T hT Y
    refine ⟨t, ?_, b⟩
    jvm_step Y.here [Y.here.top, hx, hb, hd, hg, va_rf]
    exact ⟨rfl, a⟩
theorem z_istore_n {k : Fin 4} {x : Int} {Lc' : List (Nat × zV)} (hd : decode cc pc = .ok (.istore_n k, 1)) (hn : (k : Nat) < nL) (hl : zput (k : Nat) (vI x) Lc = Lc') (h : zZ cc own nm nL E R X Q (pc + 1) Lc' S M ce sl) : zZ cc own nm nL E R X Q pc Lc (vI x :: S) M ce sl := by
  subst hl
  intro hSt hM hS hL H locs ls hR hV hls
  refine lv_istore_n hSt.1 hSt.2.1 hd rfl hls hn (zlv_put _ (vI x) Lc) (fun ls' hls' => ?_)
  exact h hSt hM (zokS_tl hS) (zokL_put hL (zokS_hd hS)) H locs ls' hR hV hls'
theorem z_istore {i : Nat} {x : Int} {Lc' : List (Nat × zV)} (hd : decode cc pc = .ok (.istore i, 2)) (hn : i < nL) (hl : zput i (vI x) Lc = Lc') (h : zZ cc own nm nL E R X Q (pc + 2) Lc' S M ce sl) : zZ cc own nm nL E R X Q pc Lc (vI x :: S) M ce sl := by
  subst hl
  intro hSt hM hS hL H locs ls hR hV hls
  refine lv_istore hSt.1 hSt.2.1 hd hls hn (zlv_put _ (vI x) Lc) (fun ls' hls' => ?_)
  exact h hSt hM (zokS_tl hS) (zokL_put hL (zokS_hd hS)) H locs ls' hR hV hls'
theorem z_lstore_n {k : Fin 4} {x : Int64} {Lc' : List (Nat × zV)} (hd : decode cc pc = .ok (.lstore_n k, 1)) (hn : (k : Nat) + 1 < nL) (hl : zputL (k : Nat) (vL x) Lc = Lc') (h : zZ cc own nm nL E R X Q (pc + 1) Lc' S M ce sl) : zZ cc own nm nL E R X Q pc Lc (vL x :: S) M ce sl := by
  subst hl
  intro hSt hM hS hL H locs ls hR hV hls
  refine lv_lstore_n hSt.1 hSt.2.1 hd rfl hls hn (zlv_putL _ (vL x) Lc) (fun ls' hls' => ?_)
  exact h hSt hM (zokS_tl hS) (zokL_putL hL trivial) H locs ls' hR hV hls'
theorem z_lstore {i : Nat} {x : Int64} {Lc' : List (Nat × zV)} (hd : decode cc pc = .ok (.lstore i, 2)) (hn : i + 1 < nL) (hl : zputL i (vL x) Lc = Lc') (h : zZ cc own nm nL E R X Q (pc + 2) Lc' S M ce sl) : zZ cc own nm nL E R X Q pc Lc (vL x :: S) M ce sl := by
  subst hl
  intro hSt hM hS hL H locs ls hR hV hls
  refine lv_lstore hSt.1 hSt.2.1 hd hls hn (zlv_putL _ (vL x) Lc) (fun ls' hls' => ?_)
  exact h hSt hM (zokS_tl hS) (zokL_putL hL trivial) H locs ls' hR hV hls'
theorem z_astore_n {k : Fin 4} {x : Option Nat} {Lc' : List (Nat × zV)} (hd : decode cc pc = .ok (.astore_n k, 1)) (hn : (k : Nat) < nL) (hl : zput (k : Nat) (vR x) Lc = Lc') (h : zZ cc own nm nL E R X Q (pc + 1) Lc' S M ce sl) : zZ cc own nm nL E R X Q pc Lc (vR x :: S) M ce sl := by
  subst hl
  intro hSt hM hS hL H locs ls hR hV hls
  have hx := hSt.1
  have hb := hSt.2.1
  cases x with
  | some a =>
    refine lv_astore_n hx hb hd rfl hls hn (zlv_put _ (vR (some a)) Lc) (fun ls' hls' => ?_)
    exact h hSt hM (zokS_tl hS) (zokL_put hL trivial) H locs ls' hR hV hls'
  | none =>
    obtain ⟨ls', e', h'⟩ := lv_store1 (v := .null) hls hn rfl
    have hk := h hSt hM (zokS_tl hS) (zokL_put hL trivial) H locs ls' hR hV (by rw [← zlv_put]; exact h')
    intro T hT Y
    obtain ⟨t, a, b⟩ := hk T hT Y
    refine ⟨t, ?_, b⟩
    jvm_step Y.here [Y.here.top, hx, hb, hd, e', zv, va_rf]
    exact ⟨rfl, a⟩
theorem z_astore {i : Nat} {x : Option Nat} {Lc' : List (Nat × zV)} (hd : decode cc pc = .ok (.astore i, 2)) (hn : i < nL) (hl : zput i (vR x) Lc = Lc') (h : zZ cc own nm nL E R X Q (pc + 2) Lc' S M ce sl) : zZ cc own nm nL E R X Q pc Lc (vR x :: S) M ce sl := by
  subst hl
  intro hSt hM hS hL H locs ls hR hV hls
  have hx := hSt.1
  have hb := hSt.2.1
  cases x with
  | some a =>
    refine lv_astore hx hb hd hls hn (zlv_put _ (vR (some a)) Lc) (fun ls' hls' => ?_)
    exact h hSt hM (zokS_tl hS) (zokL_put hL trivial) H locs ls' hR hV hls'
  | none =>
    obtain ⟨ls', e', h'⟩ := lv_store1 (v := .null) hls hn rfl
    have hk := h hSt hM (zokS_tl hS) (zokL_put hL trivial) H locs ls' hR hV (by rw [← zlv_put]; exact h')
    intro T hT Y
    obtain ⟨t, a, b⟩ := hk T hT Y
    refine ⟨t, ?_, b⟩
    jvm_step Y.here [Y.here.top, hx, hb, hd, e', zv, va_rf]
    exact ⟨rfl, a⟩
theorem z_iconst {n : Int} (hd : decode cc pc = .ok (.iconst n, 1)) (hn : -2147483648 ≤ n ∧ n ≤ 2147483647) (h : zZ cc own nm nL E R X Q (pc + 1) Lc (vI n :: S) M ce sl) : zZ cc own nm nL E R X Q pc Lc S M ce sl := by
  intro hSt hM hS hL H locs ls hR hV hls
  refine lv_iconst hSt.1 hSt.2.1 hd rfl ?_
  exact h hSt hM (zokS_cons hn hS) hL H locs ls hR hV hls
theorem z_bipush {n : Int} (hd : decode cc pc = .ok (.bipush n, 2)) (hn : -128 ≤ n ∧ n ≤ 127) (h : zZ cc own nm nL E R X Q (pc + 2) Lc (vI n :: S) M ce sl) : zZ cc own nm nL E R X Q pc Lc S M ce sl := by
  intro hSt hM hS hL H locs ls hR hV hls
  refine lv_bipush (v := Int32.ofInt n) hSt.1 hSt.2.1 hd ?_ ?_
  · rw [← Int32.toInt_inj, Int8.toInt_toInt32, Int8.toInt_ofInt_of_le (by omega) (by omega), zi_toInt (by unfold zin; omega)]
  · exact h hSt hM (zokS_cons (by show zin n; unfold zin; omega) hS) hL H locs ls hR hV hls
theorem z_sipush {n : Int} (hd : decode cc pc = .ok (.sipush n, 3)) (hn : -32768 ≤ n ∧ n ≤ 32767) (h : zZ cc own nm nL E R X Q (pc + 3) Lc (vI n :: S) M ce sl) : zZ cc own nm nL E R X Q pc Lc S M ce sl := by
  intro hSt hM hS hL H locs ls hR hV hls
  refine lv_sipush (v := Int32.ofInt n) hSt.1 hSt.2.1 hd ?_ ?_
  · rw [← Int32.toInt_inj, Int16.toInt_toInt32, Int16.toInt_ofInt_of_le (by omega) (by omega), zi_toInt (by unfold zin; omega)]
  · exact h hSt hM (zokS_cons (by show zin n; unfold zin; omega) hS) hL H locs ls hR hV hls
theorem z_ldc {idx : Nat} {v : Int32} {n : Int} (hd : decode cc pc = .ok (.ldc idx, 2)) (hc : Cond.constant own idx v ∈ zT) (hv : Int32.ofInt n = v) (hn : -2147483648 ≤ n ∧ n ≤ 2147483647) (h : zZ cc own nm nL E R X Q (pc + 2) Lc (vI n :: S) M ce sl) : zZ cc own nm nL E R X Q pc Lc S M ce sl := by
  subst hv
  intro hSt hM hS hL H locs ls hR hV hls
  refine lv_ldc hSt.1 hSt.2.1 hSt.2.2.2.1 (hSt.2.2.2.2.1 _ hc) hd ?_
  exact h hSt hM (zokS_cons hn hS) hL H locs ls hR hV hls
theorem z_ldc2 {idx : Nat} {v : Int64} (hd : decode cc pc = .ok (.ldc2_w idx, 3)) (hc : Cond.constantLong own idx v ∈ zT) (h : zZ cc own nm nL E R X Q (pc + 3) Lc (vL v :: S) M ce sl) : zZ cc own nm nL E R X Q pc Lc S M ce sl := by
  intro hSt hM hS hL H locs ls hR hV hls
  refine lv_ldc2 hSt.1 hSt.2.1 hSt.2.2.2.1 (hSt.2.2.2.2.1 _ hc) hd ?_
  exact h hSt hM (zokS_cons trivial hS) hL H locs ls hR hV hls
theorem z_lconst {n : Fin 2} {v : Int64} (hd : decode cc pc = .ok (.lconst n, 1)) (hv : Int64.ofNat (n : Nat) = v) (h : zZ cc own nm nL E R X Q (pc + 1) Lc (vL v :: S) M ce sl) : zZ cc own nm nL E R X Q pc Lc S M ce sl := by
  intro hSt hM hS hL H locs ls hR hV hls
  refine lv_lconst hSt.1 hSt.2.1 hd hv ?_
  exact h hSt hM (zokS_cons trivial hS) hL H locs ls hR hV hls
theorem z_null (hd : decode cc pc = .ok (.aconst_null, 1)) (h : zZ cc own nm nL E R X Q (pc + 1) Lc (vR none :: S) M ce sl) : zZ cc own nm nL E R X Q pc Lc S M ce sl := by
  intro hSt hM hS hL H locs ls hR hV hls
  refine lv_null hSt.1 hSt.2.1 hd ?_
  exact h hSt hM (zokS_cons trivial hS) hL H locs ls hR hV hls
theorem z_dup {v : zV} (hd : decode cc pc = .ok (.dup, 1)) (hc : zc2 v = false) (h : zZ cc own nm nL E R X Q (pc + 1) Lc (v :: v :: S) M ce sl) : zZ cc own nm nL E R X Q pc Lc (v :: S) M ce sl := by
  intro hSt hM hS hL H locs ls hR hV hls
  refine lv_dup hSt.1 hSt.2.1 hd ?_ ?_
  · rcases lv_cat (zv v) with e | e
    · exact e
    · exact absurd hc (by rw [← zv_cat, e]; decide)
  · exact h hSt hM (zokS_cons (zokS_hd hS) hS) hL H locs ls hR hV hls
/-! arithmetic -/
theorem z_iadd {x y : Int} (hd : decode cc pc = .ok (.iadd, 1)) (hz : zin (x + y)) (h : zZ cc own nm nL E R X Q (pc + 1) Lc (vI (x + y) :: S) M ce sl) : zZ cc own nm nL E R X Q pc Lc (vI y :: vI x :: S) M ce sl := by
  intro hSt hM hS hL H locs ls hR hV hls
  refine lv_iadd hSt.1 hSt.2.1 hd ?_
  rw [← Int32.ofInt_add]
  exact h hSt hM (zokS_cons hz (zokS_tl (zokS_tl hS))) hL H locs ls hR hV hls
theorem z_isub {x y : Int} (hd : decode cc pc = .ok (.isub, 1)) (hz : zin (x - y)) (h : zZ cc own nm nL E R X Q (pc + 1) Lc (vI (x - y) :: S) M ce sl) : zZ cc own nm nL E R X Q pc Lc (vI y :: vI x :: S) M ce sl := by
  intro hSt hM hS hL H locs ls hR hV hls
  refine lv_isub hSt.1 hSt.2.1 hd ?_
  rw [← Int32.ofInt_sub]
  exact h hSt hM (zokS_cons hz (zokS_tl (zokS_tl hS))) hL H locs ls hR hV hls
theorem z_imul {x y : Int} (hd : decode cc pc = .ok (.imul, 1)) (hz : zin (x * y)) (h : zZ cc own nm nL E R X Q (pc + 1) Lc (vI (x * y) :: S) M ce sl) : zZ cc own nm nL E R X Q pc Lc (vI y :: vI x :: S) M ce sl := by
  intro hSt hM hS hL H locs ls hR hV hls
  refine lv_imul hSt.1 hSt.2.1 hd ?_
  rw [← Int32.ofInt_mul]
  exact h hSt hM (zokS_cons hz (zokS_tl (zokS_tl hS))) hL H locs ls hR hV hls
theorem z_div_eq {x y : Int} (hx : zin x) (hy : zin y) (h0 : 0 < y) : Int32.ofInt x / Int32.ofInt y = Int32.ofInt (x.tdiv y) ∧ zin (x.tdiv y) := by
  have hr : zin (x.tdiv y) := by
    have h1 := Int.natAbs_tdiv_le_natAbs x y
    unfold zin at *
    by_cases hx0 : 0 ≤ x
    · have := Int.tdiv_nonneg hx0 (Int.le_of_lt h0)
      omega
    · have h2 : 0 ≤ (-x).tdiv y := Int.tdiv_nonneg (by omega) (by omega)
      rw [Int.neg_tdiv] at h2
      omega
  refine ⟨?_, hr⟩
  rw [← Int32.toInt_inj, Int32.toInt_div_of_ne_right _ _ (by
    rw [show (-1 : Int32) = Int32.ofInt (-1) from rfl, Ne, zi_inj hy (by unfold zin; omega)]
    omega), zi_toInt hx, zi_toInt hy, zi_toInt hr]
theorem z_idiv {x y : Int} (hd : decode cc pc = .ok (.idiv, 1)) (h0 : 0 < y) (h : zZ cc own nm nL E R X Q (pc + 1) Lc (vI (x.tdiv y) :: S) M ce sl) : zZ cc own nm nL E R X Q pc Lc (vI y :: vI x :: S) M ce sl := by
  intro hSt hM hS hL H locs ls hR hV hls
  have hx : zin x := zokS_hd (zokS_tl hS)
  have hy : zin y := zokS_hd hS
  obtain ⟨e, hr⟩ := z_div_eq hx hy h0
  refine lv_idiv hSt.1 hSt.2.1 hd ?_ ?_
  · rw [← zi_0, zi_inj hy zin_0]; omega
  · rw [e]
    exact h hSt hM (zokS_cons hr (zokS_tl (zokS_tl hS))) hL H locs ls hR hV hls
theorem z_irem {x y : Int} (hd : decode cc pc = .ok (.irem, 1)) (h0 : 0 < y) (h : zZ cc own nm nL E R X Q (pc + 1) Lc (vI (x.tmod y) :: S) M ce sl) : zZ cc own nm nL E R X Q pc Lc (vI y :: vI x :: S) M ce sl := by
  intro hSt hM hS hL H locs ls hR hV hls
  have hx : zin x := zokS_hd (zokS_tl hS)
  have hy : zin y := zokS_hd hS
  obtain ⟨e, hr⟩ := z_div_eq hx hy h0
  have hm : x - x.tdiv y * y = x.tmod y := by rw [Int.tmod_def, Int.mul_comm]
  have hz : zin (x.tmod y) := by
    have h1 := Int.tmod_lt_of_pos x h0
    have h2 : -y < x.tmod y := by
      have := Int.lt_tmod_of_pos x h0
      omega
    unfold zin at *
    omega
  refine lv_irem hSt.1 hSt.2.1 hd ?_ ?_
  · rw [← zi_0, zi_inj hy zin_0]; omega
  · rw [e, ← Int32.ofInt_mul, ← Int32.ofInt_sub, hm]
    exact h hSt hM (zokS_cons hz (zokS_tl (zokS_tl hS))) hL H locs ls hR hV hls
theorem z_iinc {i : Nat} {n : Int} (pl : Nat) {x : Int} {Lc' : List (Nat × zV)} (hd : decode cc pc = .ok (.iinc i n, 3)) (hk : Lc[pl]? = some (i, vI x)) (hn : i < nL) (hz : zin (x + n)) (hl : zput i (vI (x + n)) Lc = Lc') (h : zZ cc own nm nL E R X Q (pc + 3) Lc' S M ce sl) : zZ cc own nm nL E R X Q pc Lc S M ce sl := by
  subst hl
  intro hSt hM hS hL H locs ls hR hV hls
  refine lv_iinc (v := Int32.ofInt (x + n)) hSt.1 hSt.2.1 hd hls (zlv_get hk) (by rw [Int32.ofInt_add]) hn (zlv_put _ (vI (x + n)) Lc) (fun ls' hls' => ?_)
  exact h hSt hM hS (zokL_put hL hz) H locs ls' hR hV hls'
theorem z_land {x y : Int64} (hd : decode cc pc = .ok (.land, 1)) (h : zZ cc own nm nL E R X Q (pc + 1) Lc (vL (x &&& y) :: S) M ce sl) : zZ cc own nm nL E R X Q pc Lc (vL y :: vL x :: S) M ce sl := by
  intro hSt hM hS hL H locs ls hR hV hls
  refine lv_land hSt.1 hSt.2.1 hd ?_
  exact h hSt hM (zokS_cons trivial (zokS_tl (zokS_tl hS))) hL H locs ls hR hV hls
theorem z_lor {x y : Int64} (hd : decode cc pc = .ok (.lor, 1)) (h : zZ cc own nm nL E R X Q (pc + 1) Lc (vL (x ||| y) :: S) M ce sl) : zZ cc own nm nL E R X Q pc Lc (vL y :: vL x :: S) M ce sl := by
  intro hSt hM hS hL H locs ls hR hV hls
  refine lv_lor hSt.1 hSt.2.1 hd ?_
  exact h hSt hM (zokS_cons trivial (zokS_tl (zokS_tl hS))) hL H locs ls hR hV hls
theorem z_lxor {x y : Int64} (hd : decode cc pc = .ok (.lxor, 1)) (h : zZ cc own nm nL E R X Q (pc + 1) Lc (vL (x ^^^ y) :: S) M ce sl) : zZ cc own nm nL E R X Q pc Lc (vL y :: vL x :: S) M ce sl := by
  intro hSt hM hS hL H locs ls hR hV hls
  refine lv_lxor hSt.1 hSt.2.1 hd ?_
  exact h hSt hM (zokS_cons trivial (zokS_tl (zokS_tl hS))) hL H locs ls hR hV hls
/-! branches -/
theorem z_goto {off : Int} {tgt : Nat} (hd : decode cc pc = .ok (.goto off, 3)) (ht : (pc : Int) + off = (tgt : Int)) (h : zZ cc own nm nL E R X Q tgt Lc S M ce sl) : zZ cc own nm nL E R X Q pc Lc S M ce sl := by
  intro hSt hM hS hL H locs ls hR hV hls
  exact lv_goto hSt.1 hSt.2.1 hd ht (h hSt hM hS hL H locs ls hR hV hls)
theorem z_icmp_eq {x y off : Int} {tgt : Nat} (hd : decode cc pc = .ok (.if_icmp .eq off, 3)) (ht : (pc : Int) + off = (tgt : Int)) (h1 : x = y → zZ cc own nm nL E R X Q tgt Lc S M ce sl) (h2 : x ≠ y → zZ cc own nm nL E R X Q (pc + 3) Lc S M ce sl) : zZ cc own nm nL E R X Q pc Lc (vI y :: vI x :: S) M ce sl := by
  intro hSt hM hS hL H locs ls hR hV hls
  have hx : zin x := zokS_hd (zokS_tl hS)
  have hy : zin y := zokS_hd hS
  exact lv_icmp_eq hSt.1 hSt.2.1 hd ht (fun c => h1 ((zi_inj hx hy).mp c) hSt hM (zokS_tl (zokS_tl hS)) hL H locs ls hR hV hls) (fun c => h2 (fun e => c ((zi_inj hx hy).mpr e)) hSt hM (zokS_tl (zokS_tl hS)) hL H locs ls hR hV hls)
theorem z_icmp_ne {x y off : Int} {tgt : Nat} (hd : decode cc pc = .ok (.if_icmp .ne off, 3)) (ht : (pc : Int) + off = (tgt : Int)) (h1 : x ≠ y → zZ cc own nm nL E R X Q tgt Lc S M ce sl) (h2 : x = y → zZ cc own nm nL E R X Q (pc + 3) Lc S M ce sl) : zZ cc own nm nL E R X Q pc Lc (vI y :: vI x :: S) M ce sl := by
  intro hSt hM hS hL H locs ls hR hV hls
  have hx : zin x := zokS_hd (zokS_tl hS)
  have hy : zin y := zokS_hd hS
  refine lv_icmp_ne hSt.1 hSt.2.1 hd ht (fun c => h1 (fun e => c ((zi_inj hx hy).mpr e)) hSt hM (zokS_tl (zokS_tl hS)) hL H locs ls hR hV hls) (fun c => h2 ?_ hSt hM (zokS_tl (zokS_tl hS)) hL H locs ls hR hV hls)
  exact (zi_inj hx hy).mp c
theorem z_icmp_lt {x y off : Int} {tgt : Nat} (hd : decode cc pc = .ok (.if_icmp .lt off, 3)) (ht : (pc : Int) + off = (tgt : Int)) (h1 : x < y → zZ cc own nm nL E R X Q tgt Lc S M ce sl) (h2 : y ≤ x → zZ cc own nm nL E R X Q (pc + 3) Lc S M ce sl) : zZ cc own nm nL E R X Q pc Lc (vI y :: vI x :: S) M ce sl := by
  intro hSt hM hS hL H locs ls hR hV hls
  have hx : zin x := zokS_hd (zokS_tl hS)
  have hy : zin y := zokS_hd hS
  exact lv_icmp_lt hSt.1 hSt.2.1 hd ht (fun c => h1 ((zi_lt hx hy).mp c) hSt hM (zokS_tl (zokS_tl hS)) hL H locs ls hR hV hls) (fun c => h2 (Int.not_lt.mp fun e => c ((zi_lt hx hy).mpr e)) hSt hM (zokS_tl (zokS_tl hS)) hL H locs ls hR hV hls)
theorem z_icmp_ge {x y off : Int} {tgt : Nat} (hd : decode cc pc = .ok (.if_icmp .ge off, 3)) (ht : (pc : Int) + off = (tgt : Int)) (h1 : y ≤ x → zZ cc own nm nL E R X Q tgt Lc S M ce sl) (h2 : x < y → zZ cc own nm nL E R X Q (pc + 3) Lc S M ce sl) : zZ cc own nm nL E R X Q pc Lc (vI y :: vI x :: S) M ce sl := by
  intro hSt hM hS hL H locs ls hR hV hls
  have hx : zin x := zokS_hd (zokS_tl hS)
  have hy : zin y := zokS_hd hS
  exact lv_icmp_ge hSt.1 hSt.2.1 hd ht (fun c => h1 ((zi_le hy hx).mp c) hSt hM (zokS_tl (zokS_tl hS)) hL H locs ls hR hV hls) (fun c => h2 (Int.not_le.mp fun e => c ((zi_le hy hx).mpr e)) hSt hM (zokS_tl (zokS_tl hS)) hL H locs ls hR hV hls)
theorem z_icmp_gt {x y off : Int} {tgt : Nat} (hd : decode cc pc = .ok (.if_icmp .gt off, 3)) (ht : (pc : Int) + off = (tgt : Int)) (h1 : y < x → zZ cc own nm nL E R X Q tgt Lc S M ce sl) (h2 : x ≤ y → zZ cc own nm nL E R X Q (pc + 3) Lc S M ce sl) : zZ cc own nm nL E R X Q pc Lc (vI y :: vI x :: S) M ce sl := by
  intro hSt hM hS hL H locs ls hR hV hls
  have hx : zin x := zokS_hd (zokS_tl hS)
  have hy : zin y := zokS_hd hS
  exact lv_icmp_gt hSt.1 hSt.2.1 hd ht (fun c => h1 ((zi_lt hy hx).mp c) hSt hM (zokS_tl (zokS_tl hS)) hL H locs ls hR hV hls) (fun c => h2 (Int.not_lt.mp fun e => c ((zi_lt hy hx).mpr e)) hSt hM (zokS_tl (zokS_tl hS)) hL H locs ls hR hV hls)
theorem z_icmp_le {x y off : Int} {tgt : Nat} (hd : decode cc pc = .ok (.if_icmp .le off, 3)) (ht : (pc : Int) + off = (tgt : Int)) (h1 : x ≤ y → zZ cc own nm nL E R X Q tgt Lc S M ce sl) (h2 : y < x → zZ cc own nm nL E R X Q (pc + 3) Lc S M ce sl) : zZ cc own nm nL E R X Q pc Lc (vI y :: vI x :: S) M ce sl := by
  intro hSt hM hS hL H locs ls hR hV hls
  have hx : zin x := zokS_hd (zokS_tl hS)
  have hy : zin y := zokS_hd hS
  exact lv_icmp_le hSt.1 hSt.2.1 hd ht (fun c => h1 ((zi_le hx hy).mp c) hSt hM (zokS_tl (zokS_tl hS)) hL H locs ls hR hV hls) (fun c => h2 (Int.not_le.mp fun e => c ((zi_le hx hy).mpr e)) hSt hM (zokS_tl (zokS_tl hS)) hL H locs ls hR hV hls)
theorem z_if_eq {x off : Int} {tgt : Nat} (hd : decode cc pc = .ok (.ifCond .eq off, 3)) (ht : (pc : Int) + off = (tgt : Int)) (h1 : x = 0 → zZ cc own nm nL E R X Q tgt Lc S M ce sl) (h2 : x ≠ 0 → zZ cc own nm nL E R X Q (pc + 3) Lc S M ce sl) : zZ cc own nm nL E R X Q pc Lc (vI x :: S) M ce sl := by
  intro hSt hM hS hL H locs ls hR hV hls
  have hx : zin x := zokS_hd hS
  exact lv_if_eq hSt.1 hSt.2.1 hd ht (fun c => h1 ((zi_inj hx zin_0).mp (by rw [zi_0]; exact c)) hSt hM (zokS_tl hS) hL H locs ls hR hV hls) (fun c => h2 (fun e => c (by rw [← zi_0]; exact (zi_inj hx zin_0).mpr e)) hSt hM (zokS_tl hS) hL H locs ls hR hV hls)
theorem z_if_ne {x off : Int} {tgt : Nat} (hd : decode cc pc = .ok (.ifCond .ne off, 3)) (ht : (pc : Int) + off = (tgt : Int)) (h1 : x ≠ 0 → zZ cc own nm nL E R X Q tgt Lc S M ce sl) (h2 : x = 0 → zZ cc own nm nL E R X Q (pc + 3) Lc S M ce sl) : zZ cc own nm nL E R X Q pc Lc (vI x :: S) M ce sl := by
  intro hSt hM hS hL H locs ls hR hV hls
  have hx : zin x := zokS_hd hS
  exact lv_if_ne hSt.1 hSt.2.1 hd ht (fun c => h1 (fun e => c (by rw [← zi_0]; exact (zi_inj hx zin_0).mpr e)) hSt hM (zokS_tl hS) hL H locs ls hR hV hls) (fun c => h2 ((zi_inj hx zin_0).mp (by rw [zi_0]; exact c)) hSt hM (zokS_tl hS) hL H locs ls hR hV hls)
theorem z_if_lt {x off : Int} {tgt : Nat} (hd : decode cc pc = .ok (.ifCond .lt off, 3)) (ht : (pc : Int) + off = (tgt : Int)) (h1 : x < 0 → zZ cc own nm nL E R X Q tgt Lc S M ce sl) (h2 : 0 ≤ x → zZ cc own nm nL E R X Q (pc + 3) Lc S M ce sl) : zZ cc own nm nL E R X Q pc Lc (vI x :: S) M ce sl := by
  intro hSt hM hS hL H locs ls hR hV hls
  have hx : zin x := zokS_hd hS
  exact lv_if_lt hSt.1 hSt.2.1 hd ht (fun c => h1 ((zi_lt hx zin_0).mp (by rw [zi_0]; exact c)) hSt hM (zokS_tl hS) hL H locs ls hR hV hls) (fun c => h2 (Int.not_lt.mp fun e => c (by rw [← zi_0]; exact (zi_lt hx zin_0).mpr e)) hSt hM (zokS_tl hS) hL H locs ls hR hV hls)
theorem z_if_le {x off : Int} {tgt : Nat} (hd : decode cc pc = .ok (.ifCond .le off, 3)) (ht : (pc : Int) + off = (tgt : Int)) (h1 : x ≤ 0 → zZ cc own nm nL E R X Q tgt Lc S M ce sl) (h2 : 0 < x → zZ cc own nm nL E R X Q (pc + 3) Lc S M ce sl) : zZ cc own nm nL E R X Q pc Lc (vI x :: S) M ce sl := by
  intro hSt hM hS hL H locs ls hR hV hls
  have hx : zin x := zokS_hd hS
  exact lv_if_le hSt.1 hSt.2.1 hd ht (fun c => h1 ((zi_le hx zin_0).mp (by rw [zi_0]; exact c)) hSt hM (zokS_tl hS) hL H locs ls hR hV hls) (fun c => h2 (Int.not_le.mp fun e => c (by rw [← zi_0]; exact (zi_le hx zin_0).mpr e)) hSt hM (zokS_tl hS) hL H locs ls hR hV hls)
theorem z_ifnull {r : Option Nat} {off : Int} {tgt : Nat} (hd : decode cc pc = .ok (.ifnull off, 3)) (ht : (pc : Int) + off = (tgt : Int)) (h1 : r = none → zZ cc own nm nL E R X Q tgt Lc S M ce sl) (h2 : r ≠ none → zZ cc own nm nL E R X Q (pc + 3) Lc S M ce sl) : zZ cc own nm nL E R X Q pc Lc (vR r :: S) M ce sl := by
  intro hSt hM hS hL H locs ls hR hV hls
  cases r with
  | none => exact lv_ifnullN hSt.1 hSt.2.1 hd ht (h1 rfl hSt hM (zokS_tl hS) hL H locs ls hR hV hls)
  | some a => exact lv_ifnull hSt.1 hSt.2.1 hd (h2 (fun e => by cases e) hSt hM (zokS_tl hS) hL H locs ls hR hV hls)
theorem z_ifnonnull {r : Option Nat} {off : Int} {tgt : Nat} (hd : decode cc pc = .ok (.ifnonnull off, 3)) (ht : (pc : Int) + off = (tgt : Int)) (h1 : r ≠ none → zZ cc own nm nL E R X Q tgt Lc S M ce sl) (h2 : r = none → zZ cc own nm nL E R X Q (pc + 3) Lc S M ce sl) : zZ cc own nm nL E R X Q pc Lc (vR r :: S) M ce sl := by
  intro hSt hM hS hL H locs ls hR hV hls
  cases r with
  | none => exact lv_ifnonnullN hSt.1 hSt.2.1 hd (h2 rfl hSt hM (zokS_tl hS) hL H locs ls hR hV hls)
  | some a => exact lv_ifnonnull hSt.1 hSt.2.1 hd ht (h1 (fun e => by cases e) hSt hM (zokS_tl hS) hL H locs ls hR hV hls)
theorem z_acmp_eq {rx ry : Option Nat} {off : Int} {tgt : Nat} (hd : decode cc pc = .ok (.if_acmp .eq off, 3)) (ht : (pc : Int) + off = (tgt : Int)) (h1 : rx = ry → zZ cc own nm nL E R X Q tgt Lc S M ce sl) (h2 : rx ≠ ry → zZ cc own nm nL E R X Q (pc + 3) Lc S M ce sl) : zZ cc own nm nL E R X Q pc Lc (vR ry :: vR rx :: S) M ce sl := by
  intro hSt hM hS hL H locs ls hR hV hls
  exact lv_acmp_eq hSt.1 hSt.2.1 hd ht (fun c => h1 c hSt hM (zokS_tl (zokS_tl hS)) hL H locs ls hR hV hls) (fun c => h2 c hSt hM (zokS_tl (zokS_tl hS)) hL H locs ls hR hV hls)
theorem z_acmp_ne {rx ry : Option Nat} {off : Int} {tgt : Nat} (hd : decode cc pc = .ok (.if_acmp .ne off, 3)) (ht : (pc : Int) + off = (tgt : Int)) (h1 : rx ≠ ry → zZ cc own nm nL E R X Q tgt Lc S M ce sl) (h2 : rx = ry → zZ cc own nm nL E R X Q (pc + 3) Lc S M ce sl) : zZ cc own nm nL E R X Q pc Lc (vR ry :: vR rx :: S) M ce sl := by
  intro hSt hM hS hL H locs ls hR hV hls
  exact lv_acmp_ne hSt.1 hSt.2.1 hd ht (fun c => h1 c hSt hM (zokS_tl (zokS_tl hS)) hL H locs ls hR hV hls) (fun c => h2 c hSt hM (zokS_tl (zokS_tl hS)) hL H locs ls hR hV hls)
theorem z_tableIn {dflt lo hi : Int} {offs : Array Int} {len : Nat} {x off : Int} {tgt : Nat} (hd : decode cc pc = .ok (.tableswitch dflt lo hi offs, len)) (k : Int) (hx : x = k) (h1 : ¬ k < lo) (h2 : ¬ hi < k) (ho : offs[(k - lo).toNat]? = some off) (ht : (pc : Int) + off = (tgt : Int)) (h : zZ cc own nm nL E R X Q tgt Lc S M ce sl) : zZ cc own nm nL E R X Q pc Lc (vI x :: S) M ce sl := by
  subst hx
  intro hSt hM hS hL H locs ls hR hV hls
  have hx : zin x := zokS_hd hS
  exact lv_tableIn hSt.1 hSt.2.1 hd (by rw [zi_toInt hx]; exact h1) (by rw [zi_toInt hx]; exact h2) (by rw [zi_toInt hx]; exact ho) ht (h hSt hM (zokS_tl hS) hL H locs ls hR hV hls)
theorem z_tableOut {dflt lo hi : Int} {offs : Array Int} {len : Nat} {x : Int} {tgt : Nat} (hd : decode cc pc = .ok (.tableswitch dflt lo hi offs, len)) (h0 : x < lo ∨ hi < x) (ht : (pc : Int) + dflt = (tgt : Int)) (h : zZ cc own nm nL E R X Q tgt Lc S M ce sl) : zZ cc own nm nL E R X Q pc Lc (vI x :: S) M ce sl := by
  intro hSt hM hS hL H locs ls hR hV hls
  have hx : zin x := zokS_hd hS
  exact lv_tableOut hSt.1 hSt.2.1 hd (by rw [zi_toInt hx]; exact h0) ht (h hSt hM (zokS_tl hS) hL H locs ls hR hV hls)
theorem z_lcmp {x y : Int64} (hd : decode cc pc = .ok (.lcmp, 1)) (h : zZ cc own nm nL E R X Q (pc + 1) Lc (vI (if y < x then 1 else if x = y then 0 else -1) :: S) M ce sl) : zZ cc own nm nL E R X Q pc Lc (vL y :: vL x :: S) M ce sl := by
  intro hSt hM hS hL H locs ls hR hV hls
  refine W.lcmp hSt.1 hSt.2.1 hd ?_
  have hz : zin (if y < x then 1 else if x = y then 0 else -1) := by
    unfold zin
    split
    · omega
    · split <;> omega
  have e : lg_cmp x y = Int32.ofInt (if y < x then 1 else if x = y then 0 else -1) := by
    unfold lg_cmp
    by_cases h1 : y < x
    · rw [if_pos h1, if_pos h1]; rfl
    · rw [if_neg h1, if_neg h1]
      by_cases h2 : x = y
      · rw [if_pos h2, if_pos h2]; rfl
      · rw [if_neg h2, if_neg h2]; rfl
  rw [e]
  exact h hSt hM (zokS_cons hz (zokS_tl (zokS_tl hS))) hL H locs ls hR hV hls
end ZR
end
section
/-! ===== rows on memory ===== -/
def zFl (own : String) (idx tg : Nat) (j : Int) (n : Nat) (ty : FieldType) (fin : Bool) : Prop :=
  ∃ (C : String) (T : u_T) (k : Nat), vwCl[tg - 1]? = some (C, T, n) ∧ (1 ≤ tg ∧ tg < 9) ∧ j = (k : Int) ∧ k < n ∧ (∀ w ∈ u_ws C T n, w ∈ zT) ∧ Cond.fieldLink own idx (T k).1 (T k).2.1 (T k).2.2.1 ∈ zT ∧ zfty (tg - 1) k = ty ∧ (∀ i, i < n → parseFieldDescriptor (T i).2.2.1 = some (zfty (tg - 1) i)) ∧ (∀ a, a < n → ∀ b, b < n → a ≠ b → (T a).2.1 ≠ (T b).2.1) ∧ (T k).2.2.2 = fin ∧ (T k).1 = C
theorem zcell_obj {cA : Nat → ClassId} {M : zM} {a tg n : Nat} (hK : zK M a = (tg, n)) (h : tg < 9) : zcell cA M a = .inr (tg - 1, zobj M a (tg - 1) n) := by
  unfold zcell
  rw [hK]
  exact if_pos h
theorem zcell_arr {cA : Nat → ClassId} {M : zM} {a tg n : Nat} (hK : zK M a = (tg, n)) (h : 9 ≤ tg) : zcell cA M a = .inl (cA tg, n, zarr M a tg) := by
  unfold zcell
  rw [hK]
  exact if_neg (by show ¬ tg < 9; omega)
theorem zobj_get {M : zM} {a t n k : Nat} (hk : k < n) : (zobj M a t n)[k]? = some (zfv M a (zfty t k) k) := by
  unfold zobj
  rw [List.getElem?_map, List.getElem?_range hk]
  rfl
theorem zobj_len {M : zM} {a t n : Nat} : (zobj M a t n).length = n := by
  unfold zobj
  rw [List.length_map, List.length_range]
theorem zobj_set {M M' : zM} {a t n k : Nat} {v : Value} (hk : k < n) (h1 : zfv M' a (zfty t k) k = v) (h2 : ∀ (j : Nat) (ty : FieldType), j ≠ k → zfv M' a ty j = zfv M a ty j) : (zobj M a t n).set k v = zobj M' a t n := by
  apply List.ext_getElem?
  intro i
  by_cases hi : i = k
  · subst hi
    rw [List.getElem?_set_self (by rw [zobj_len]; exact hk), zobj_get hk, h1]
  · rw [List.getElem?_set_ne (fun e => hi e.symm)]
    by_cases hl : i < n
    · rw [zobj_get hl, zobj_get hl, h2 i _ hi]
    · rw [List.getElem?_eq_none (by rw [zobj_len]; omega), List.getElem?_eq_none (by rw [zobj_len]; omega)]
theorem zcell_sI {cA : Nat → ClassId} {M : zM} {a b : Nat} {j x : Int} (hb : b ≠ a) : zcell cA (zsI M a j x) b = zcell cA M b := by
  simp only [zcell, zobj, zarr, zfv, zK_sI, zI_sI, zL_sI, zR_sI, hb, false_and, if_false]
theorem zcell_sL {cA : Nat → ClassId} {M : zM} {a b : Nat} {j : Int} {x : Int64} (hb : b ≠ a) : zcell cA (zsL M a j x) b = zcell cA M b := by
  simp only [zcell, zobj, zarr, zfv, zK_sL, zI_sL, zL_sL, zR_sL, hb, false_and, if_false]
theorem zcell_sR {cA : Nat → ClassId} {M : zM} {a b : Nat} {j : Int} {x : Option Nat} (hb : b ≠ a) : zcell cA (zsR M a j x) b = zcell cA M b := by
  simp only [zcell, zobj, zarr, zfv, zK_sR, zI_sR, zL_sR, zR_sR, hb, false_and, if_false]
theorem zcell_new {cA : Nat → ClassId} {M : zM} {b t n : Nat} (hb : b < zsz M) : zcell cA (znew M t n) b = zcell cA M b := by
  have hb : b ≠ zsz M := Nat.ne_of_lt hb
  simp only [zcell, zobj, zarr, zfv, zK_new, zI_new, zL_new, zR_new, hb, if_false]
theorem zokM_at {E : zE} {M : zM} (hM : zokM E M) {a tg n : Nat} (hK : zK M a = (tg, n)) (h : 1 ≤ tg) : E.2.1 ≤ a ∧ a < zsz M := hM.2.2 a (by rw [hK]; show tg ≠ 0; omega)
theorem zokM_n {E : zE} {M : zM} (hM : zokM E M) {a tg n : Nat} (hK : zK M a = (tg, n)) : n < 2147483648 := by have := hM.2.1 a; rw [hK] at this; exact this
theorem zokM_sI {E : zE} {M : zM} (hM : zokM E M) {a : Nat} {j x : Int} (hx : zin x) : zokM E (zsI M a j x) := by
  refine ⟨fun b i => ?_, hM.2.1, hM.2.2⟩
  rw [zI_sI]
  split
  · exact hx
  · exact hM.1 b i
theorem zokM_sL {E : zE} {M : zM} (hM : zokM E M) {a : Nat} {j : Int} {x : Int64} : zokM E (zsL M a j x) := ⟨hM.1, hM.2.1, hM.2.2⟩
theorem zokM_sR {E : zE} {M : zM} (hM : zokM E M) {a : Nat} {j : Int} {x : Option Nat} : zokM E (zsR M a j x) := ⟨hM.1, hM.2.1, hM.2.2⟩
theorem zokM_new {E : zE} {M : zM} (hM : zokM E M) {t n : Nat} (hn : n < 2147483648) (hN : E.2.1 ≤ zsz M) : zokM E (znew M t n) := by
  refine ⟨fun b i => ?_, fun b => ?_, fun b hb => ?_⟩
  · rw [zI_new]
    split
    · exact zin_0
    · exact hM.1 b i
  · rw [zK_new]
    split
    · exact hn
    · exact hM.2.1 b
  · rw [zsz_new]
    rw [zK_new] at hb
    by_cases e : b = zsz M
    · omega
    · rw [if_neg e] at hb
      have := hM.2.2 b hb
      omega
section ZM
variable {cc : ByteArray} {own nm : String} {nL : Nat} {E : zE} {R : Room} {X : zX} {Q : State → Prop} {pc : Nat} {Lc : List (Nat × zV)} {S : List zV} {M : zM} {ce sl : Nat}
theorem z_get {idx tg n a : Nat} {j : Int} {ty : FieldType} {fin : Bool} (hf : zFl own idx tg j n ty fin) (hd : decode cc pc = .ok (.getfield idx, 3)) (hK : zK M a = (tg, n)) {v : zV} (hv : zv v = zfv M a ty j) (hok : zokM E M → zok v) (h : zZ cc own nm nL E R X Q (pc + 3) Lc (v :: S) M ce sl) : zZ cc own nm nL E R X Q pc Lc (vR (some a) :: S) M ce sl := by
  intro hSt hM hS hL H locs ls hR hV hls
  obtain ⟨C, T, k, hc, ht, hj, hk, hin, hlink, hty, -⟩ := hf
  obtain ⟨a1, a2⟩ := zokM_at hM hK ht.1
  have he := zws_get (cA := E.2.2.2) a1 a2
  rw [zcell_obj hK ht.2] at he
  refine va_get (v := zv v) hSt.1 hSt.2.1 hSt.2.2.2.2.1 hin hSt.2.2.2.1 hSt.2.2.2.2.2.1.1 hR.2.2 _ he hc k hk (hSt.2.2.2.2.1 _ hlink) (fun _ h9 => h9) (by rw [zobj_get hk, hty, hv, hj]) hd ?_
  exact h hSt hM (zokS_cons (hok hM) (zokS_tl hS)) hL H locs ls hR hV hls
theorem z_getI {idx tg n a : Nat} {j : Int} {fin : Bool} (hf : zFl own idx tg j n .int fin) (hd : decode cc pc = .ok (.getfield idx, 3)) (hK : zK M a = (tg, n)) (h : zZ cc own nm nL E R X Q (pc + 3) Lc (vI (zI M a j) :: S) M ce sl) : zZ cc own nm nL E R X Q pc Lc (vR (some a) :: S) M ce sl := z_get (v := vI (zI M a j)) hf hd hK rfl (fun hM => hM.1 a j) h
theorem z_getL {idx tg n a : Nat} {j : Int} {fin : Bool} (hf : zFl own idx tg j n .long fin) (hd : decode cc pc = .ok (.getfield idx, 3)) (hK : zK M a = (tg, n)) (h : zZ cc own nm nL E R X Q (pc + 3) Lc (vL (zL M a j) :: S) M ce sl) : zZ cc own nm nL E R X Q pc Lc (vR (some a) :: S) M ce sl := z_get (v := vL (zL M a j)) hf hd hK rfl (fun _ => trivial) h
def zisR (ty : FieldType) : Bool := match ty with
  | .object _ => true
  | .array _ => true
  | _ => false
theorem zfv_R {M : zM} {a : Nat} {ty : FieldType} {j : Int} (h : zisR ty = true) : zfv M a ty j = va_rf (zR M a j) := by
  cases ty <;> first | rfl | cases h
theorem z_getR {idx tg n a : Nat} {j : Int} {ty : FieldType} {fin : Bool} (hf : zFl own idx tg j n ty fin) (hty : zisR ty = true) (hd : decode cc pc = .ok (.getfield idx, 3)) (hK : zK M a = (tg, n)) (h : zZ cc own nm nL E R X Q (pc + 3) Lc (vR (zR M a j) :: S) M ce sl) : zZ cc own nm nL E R X Q pc Lc (vR (some a) :: S) M ce sl := z_get (v := vR (zR M a j)) hf hd hK (by rw [zfv_R hty]; rfl) (fun _ => trivial) h
/-- a field is stored: the general row -/
theorem z_put {idx tg n a : Nat} {j : Int} {ty : FieldType} {fin : Bool} (hf : zFl own idx tg j n ty fin) (hfin : fin = false ∨ (nm = "<init>" ∧ (vwCl[tg - 1]?).map (fun q => q.1) = some own)) (hd : decode cc pc = .ok (.putfield idx, 3)) (hK : zK M a = (tg, n)) {v : zV} {M' : zM} (hn : narrow ty (zv v) = zv v) (hfit : fits ty (zv v) = true) (hv : zfv M' a ty j = zv v) (hK' : ∀ b, zK M' b = zK M b) (hs : zsz M' = zsz M) (ho : ∀ b, b ≠ a → zcell E.2.2.2 M' b = zcell E.2.2.2 M b) (h2 : ∀ (i : Nat) (t2 : FieldType), (i : Int) ≠ j → zfv M' a t2 i = zfv M a t2 i) (hok : zokM E M → zok v → zokM E M') (h : zZ cc own nm nL E R X Q (pc + 3) Lc S M' ce sl) : zZ cc own nm nL E R X Q pc Lc (v :: vR (some a) :: S) M ce sl := by
  intro hSt hM hS hL H locs ls hR hV hls
  obtain ⟨C, T, k, hc, ht, hj, hk, hin, hlink, hty, htys, hnms, hff, hfo⟩ := hf
  obtain ⟨a1, a2⟩ := zokM_at hM hK ht.1
  have he := zws_get (cA := E.2.2.2) a1 a2
  rw [zcell_obj hK ht.2] at he
  have hM' := hok hM (zokS_hd hS)
  have hset : (zobj M a (tg - 1) n).set k (zv v) = zobj M' a (tg - 1) n := zobj_set hk (by rw [hty, ← hj]; exact hv) (fun i t2 hi => h2 i t2 (by rw [hj]; omega))
  have hcell : zcell E.2.2.2 M' a = .inr (tg - 1, zobj M' a (tg - 1) n) := zcell_obj (by rw [hK', hK]) ht.2
  have kk : ∀ (H1 : Heap) (locs1 : List Loc), va_P E.2.2.1 vwCl ((zws E.2.1 E.2.2.2 M).set (a - E.2.1) (a, .inr (tg - 1, (zobj M a (tg - 1) n).set k (zv v)))) H1 → va_D (fun q => E.2.1 ≤ q) ((zws E.2.1 E.2.2.2 M).set (a - E.2.1) (a, .inr (tg - 1, (zobj M a (tg - 1) n).set k (zv v)))) → va_S (fun q => E.2.1 ≤ q) (xs X).heap H1 locs1 → H1.size = H.size → W (xp X) E.1 (xe X) R (xs X) (xm X) (xa X) (xb X) (xh X) (xc X) H1 locs1 ce sl Q (F0 (xm X) (pc + 3) ls (S.map zv)) := by
    intro H1 locs1 hP1 hD1 hS1 hz
    rw [hset, ← hcell, zws_set a1 a2 hs ho] at hP1
    exact h hSt hM' (zokS_tl (zokS_tl hS)) hL H1 locs1 ls ⟨by rw [hz, hs]; exact hR.1, by rw [hs]; exact hR.2.1, hP1⟩ hS1 hls
  have hap := va_apart (own := own) hSt.2.2.2.2.1 hin (zfty (tg - 1)) htys hnms hSt.2.2.2.2.2.1.1 hc
  obtain ⟨r, h1, cell, q1, q2, q3, q4⟩ := hR.2.2 _ _ he
  have hr : r = (C, T, n) := Option.some.inj (h1.symm.trans hc)
  subst hr
  obtain ⟨hSl, hfc, kC, hkC, hkind⟩ := hSt.2.2.2.2.2.1.1.1 (tg - 1) _ hc
  obtain ⟨cf, kf, fi, f, hi, hsl⟩ := hSl k hk
  have hlay := hSt.2.2.2.2.1 _ (hin _ (u_in_lay hk))
  unfold u_lay at hlay
  have hst := (u_facts hfc hkC (u_lays hSt.2.2.2.2.1 hin hk) hi).1
  have hdt : parseFieldDescriptor (T k).2.2.1 = some ty := by rw [htys k hk, hty]
  have fin2 : ∀ H' : Heap, H'[a]? = some (cell.setSlot (E.2.2.1.2 (tg - 1) k) (zv v)) → H'.size = H.size → (∀ q, q ≠ a → H'[q]? = H[q]?) → ∀ fs : Nat, W (xp X) E.1 (xe X) R (xs X) (xm X) (xa X) (xb X) (xh X) (xc X) H' (locs ++ [⟨a, fs⟩]) ce sl Q (F0 (xm X) (pc + 3) ls (S.map zv)) := by
    intro H' e1 e2 e3 fs
    exact kk H' _ (hR.2.2.set zws_D he ⟨_, hc, t_OB.to (V := updV (vp_V (zobj M a (tg - 1) n)) k (zv v)) ⟨_, e1, q2, q3, t_set q4 hap hk (zv v)⟩ (fun i _ => vp_updV_set (by rw [zobj_len]; exact hk) (zv v) i)⟩ e3) (zws_D.set he) (hV.put e2 e3 a1) e2
  cases fin with
  | false =>
    rw [if_neg (by rw [hff]; decide)] at hlay
    have h6 := u_store hfc hkC hkind hlay hi hdt hn hfit
    refine W.putK hSt.1 hSt.2.1 (f := f) ⟨hSt.2.2.2.1, hSt.2.2.2.2.1 _ hlink, ⟨_, _, _, hi⟩, hst⟩ (by rw [q2]; exact h6) q1 q3 (by rw [hsl]; exact k2_hasslot (q4 k hk)) rfl rfl hd fun H' e1 e2 e3 => ?_
    rw [hsl] at e1 ⊢
    exact fin2 H' e1 e2 e3 _
  | true =>
    rw [if_pos hff] at hlay
    have hin2 : (xh X).name = "<init>" := by
      rcases hfin with e | e
      · cases e
      · rw [hSt.2.2.2.2.2.2.2.2]; exact e.1
    have hfo2 : (T k).1 = own := by
      rcases hfin with e | e
      · cases e
      · have e2 := e.2
        rw [hc] at e2
        rw [hfo]
        exact Option.some.inj e2
    have hcf : (xm X).cls = cf := by
      obtain ⟨_, _, c', _, _, _, -, -, hf', -, -, -, hown2, -⟩ := Cond.laysFinal_spec hlay
      have e1 : c' = cf := by have := hi.symm.trans hf'; simp at this; exact this.1.symm
      rw [hfo2] at hown2
      rw [← e1]; exact Option.some.inj (hSt.2.2.2.1.symm.trans hown2)
    have h6 := u_fits hfc hkC hkind (Or.inr hlay) hi hdt hn hfit
    refine W.putFinK hSt.1 hSt.2.1 hSt.2.2.2.1 (hSt.2.2.2.2.1 _ hlink) hi hst hcf hin2 (by rw [q2]; exact h6) q1 q3 (by rw [hsl]; exact k2_hasslot (q4 k hk)) rfl rfl hd fun H' e1 e2 e3 => ?_
    rw [hsl] at e1 ⊢
    exact fin2 H' e1 e2 e3 _
theorem z_putI {idx tg n a : Nat} {j x : Int} {fin : Bool} (hf : zFl own idx tg j n .int fin) (hfin : fin = false ∨ (nm = "<init>" ∧ (vwCl[tg - 1]?).map (fun q => q.1) = some own)) (hd : decode cc pc = .ok (.putfield idx, 3)) (hK : zK M a = (tg, n)) (h : zZ cc own nm nL E R X Q (pc + 3) Lc S (zsI M a j x) ce sl) : zZ cc own nm nL E R X Q pc Lc (vI x :: vR (some a) :: S) M ce sl :=
  z_put (v := vI x) (M' := zsI M a j x) hf hfin hd hK rfl rfl (by simp only [zfv, zI_sI, and_self, if_true]; rfl) (fun _ => rfl) rfl (fun _ hb => zcell_sI hb) (fun i t2 hi => by simp only [zfv, zI_sI, zL_sI, zR_sI, hi, and_false, if_false]) (fun hM hx => zokM_sI hM hx) h
theorem z_putL {idx tg n a : Nat} {j : Int} {x : Int64} {fin : Bool} (hf : zFl own idx tg j n .long fin) (hfin : fin = false ∨ (nm = "<init>" ∧ (vwCl[tg - 1]?).map (fun q => q.1) = some own)) (hd : decode cc pc = .ok (.putfield idx, 3)) (hK : zK M a = (tg, n)) (h : zZ cc own nm nL E R X Q (pc + 3) Lc S (zsL M a j x) ce sl) : zZ cc own nm nL E R X Q pc Lc (vL x :: vR (some a) :: S) M ce sl :=
  z_put (v := vL x) (M' := zsL M a j x) hf hfin hd hK rfl rfl (by simp only [zfv, zL_sL, and_self, if_true]; rfl) (fun _ => rfl) rfl (fun _ hb => zcell_sL hb) (fun i t2 hi => by simp only [zfv, zI_sL, zL_sL, zR_sL, hi, and_false, if_false]) (fun hM _ => zokM_sL hM) h
theorem z_putR {idx tg n a : Nat} {j : Int} {x : Option Nat} {ty : FieldType} {fin : Bool} (hf : zFl own idx tg j n ty fin) (hty : zisR ty = true) (hfin : fin = false ∨ (nm = "<init>" ∧ (vwCl[tg - 1]?).map (fun q => q.1) = some own)) (hd : decode cc pc = .ok (.putfield idx, 3)) (hK : zK M a = (tg, n)) (h : zZ cc own nm nL E R X Q (pc + 3) Lc S (zsR M a j x) ce sl) : zZ cc own nm nL E R X Q pc Lc (vR x :: vR (some a) :: S) M ce sl :=
  z_put (v := vR x) (M' := zsR M a j x) hf hfin hd hK (by cases ty <;> first | (cases x <;> rfl) | cases hty) (by cases ty <;> first | (cases x <;> rfl) | cases hty) (by rw [zfv_R hty, zR_sR, if_pos ⟨rfl, rfl⟩]; rfl) (fun _ => rfl) rfl (fun _ hb => zcell_sR hb) (fun i t2 hi => by simp only [zfv, zI_sR, zL_sR, zR_sR, hi, and_false, if_false]) (fun hM _ => zokM_sR hM) h
end ZM
end
section
/-! ===== arrays, new ===== -/
theorem z_idx {i : Int} {q : Nat} (h0 : 0 ≤ i) : ((q : Int) = i) ↔ q = i.toNat := by omega
theorem zarr_up {M : zM} {a : Nat} {i x : Int} (h0 : 0 ≤ i) : (fun q : Nat => Int32.ofInt (zI (zsI M a i x) a q)) = upd (fun q : Nat => Int32.ofInt (zI M a q)) i.toNat (Int32.ofInt x) := by
  funext q
  simp only [zI_sI, true_and, z_idx h0, upd]
  split <;> rfl
theorem zarr_upL {M : zM} {a : Nat} {i : Int} {x : Int64} (h0 : 0 ≤ i) : (fun q : Nat => zL (zsL M a i x) a q) = vp_updL (fun q : Nat => zL M a q) i.toNat x := by
  funext q
  simp only [zL_sL, true_and, z_idx h0, vp_updL]
theorem zarr_upR {M : zM} {a : Nat} {i : Int} {x : Option Nat} (h0 : 0 ≤ i) : (fun q : Nat => zR (zsR M a i x) a q) = va_up (fun q : Nat => zR M a q) i.toNat x := by
  funext q
  simp only [zR_sR, true_and, z_idx h0, va_up]
section ZA
variable {cc : ByteArray} {own nm : String} {nL : Nat} {E : zE} {R : Room} {X : zX} {Q : State → Prop} {pc : Nat} {Lc : List (Nat × zV)} {S : List zV} {M : zM} {ce sl : Nat}
theorem z_iald {a n : Nat} {i : Int} (hd : decode cc pc = .ok (.iaload, 1)) (hK : zK M a = (9, n)) (h0 : 0 ≤ i) (h1 : i < n) (h : zZ cc own nm nL E R X Q (pc + 1) Lc (vI (zI M a i) :: S) M ce sl) : zZ cc own nm nL E R X Q pc Lc (vI i :: vR (some a) :: S) M ce sl := by
  intro hSt hM hS hL H locs ls hR hV hls
  obtain ⟨a1, a2⟩ := zokM_at hM hK (by decide)
  have he := zws_get (cA := E.2.2.2) a1 a2
  rw [zcell_arr hK (by decide)] at he
  have hi : zin i := zokS_hd hS
  refine va_iald hSt.1 hSt.2.1 hSt.2.2.2.2.2.1.1 hR.2.2 _ 0 he rfl (zi_in hi h0 h1) hd ?_
  rw [zi_nat h0 hi]
  have e : ((i.toNat : Nat) : Int) = i := Int.toNat_of_nonneg h0
  have := h hSt hM (zokS_cons (hM.1 a i) (zokS_tl (zokS_tl hS))) hL H locs ls hR hV hls
  simp only [e]
  exact this
theorem z_bald {a n : Nat} {i : Int} (hd : decode cc pc = .ok (.baload, 1)) (hK : zK M a = (10, n)) (h0 : 0 ≤ i) (h1 : i < n) (h : zZ cc own nm nL E R X Q (pc + 1) Lc (vI (zI M a i) :: S) M ce sl) : zZ cc own nm nL E R X Q pc Lc (vI i :: vR (some a) :: S) M ce sl := by
  intro hSt hM hS hL H locs ls hR hV hls
  obtain ⟨a1, a2⟩ := zokM_at hM hK (by decide)
  have he := zws_get (cA := E.2.2.2) a1 a2
  rw [zcell_arr hK (by decide)] at he
  have hi : zin i := zokS_hd hS
  refine va_zald hSt.1 hSt.2.1 hSt.2.2.2.2.2.1.1 hR.2.2 _ 1 he rfl (zi_in hi h0 h1) hd ?_
  rw [zi_nat h0 hi]
  have e : ((i.toNat : Nat) : Int) = i := Int.toNat_of_nonneg h0
  have := h hSt hM (zokS_cons (hM.1 a i) (zokS_tl (zokS_tl hS))) hL H locs ls hR hV hls
  simp only [e]
  exact this
theorem z_lald {a n : Nat} {i : Int} (hd : decode cc pc = .ok (.laload, 1)) (hK : zK M a = (11, n)) (h0 : 0 ≤ i) (h1 : i < n) (h : zZ cc own nm nL E R X Q (pc + 1) Lc (vL (zL M a i) :: S) M ce sl) : zZ cc own nm nL E R X Q pc Lc (vI i :: vR (some a) :: S) M ce sl := by
  intro hSt hM hS hL H locs ls hR hV hls
  obtain ⟨a1, a2⟩ := zokM_at hM hK (by decide)
  have he := zws_get (cA := E.2.2.2) a1 a2
  rw [zcell_arr hK (by decide)] at he
  have hi : zin i := zokS_hd hS
  refine va_lald hSt.1 hSt.2.1 hSt.2.2.2.2.2.1.1 hR.2.2 _ 2 he rfl (zi_in hi h0 h1) hd ?_
  rw [zi_nat h0 hi]
  have e : ((i.toNat : Nat) : Int) = i := Int.toNat_of_nonneg h0
  have := h hSt hM (zokS_cons trivial (zokS_tl (zokS_tl hS))) hL H locs ls hR hV hls
  simp only [e]
  exact this
/-- an array of references: Work[] (12) or int[][] (13) -/
theorem z_aald {a n tg : Nat} {i : Int} (hd : decode cc pc = .ok (.aaload, 1)) (hK : zK M a = (tg, n)) (htg : tg = 12 ∨ tg = 13) (h0 : 0 ≤ i) (h1 : i < n) (h : zZ cc own nm nL E R X Q (pc + 1) Lc (vR (zR M a i) :: S) M ce sl) : zZ cc own nm nL E R X Q pc Lc (vI i :: vR (some a) :: S) M ce sl := by
  intro hSt hM hS hL H locs ls hR hV hls
  obtain ⟨a1, a2⟩ := zokM_at hM hK (by omega)
  have he := zws_get (cA := E.2.2.2) a1 a2
  rw [zcell_arr hK (by omega)] at he
  have hi : zin i := zokS_hd hS
  have hlt : (Int32.ofInt i).toNatClampNeg < n := by rw [zi_nat h0 hi]; omega
  have e : ((i.toNat : Nat) : Int) = i := Int.toNat_of_nonneg h0
  have hh := h hSt hM (zokS_cons trivial (zokS_tl (zokS_tl hS))) hL H locs ls hR hV hls
  have hin := zi_in hi h0 h1
  rcases htg with rfl | rfl
  · refine W.aald (v := va_rf (zR M a i)) (ty := .object RX5) hSt.1 hSt.2.1 (hR.2.2 _ _ he) ((hSt.2.2.2.2.2.1.1.2 3 _ rfl).1 n (fun j => va_rf (zR M a j))) rfl (fun q => by cases q) (by show ¬ (_ ∨ (arrV _ _ _).slots.size ≤ _); rw [arrV_size]; exact hin) (by show (arrV _ _ _).slots[_]? = _; rw [arrV_read _ _ hlt, zi_nat h0 hi]; show some (va_rf (zR M a ((i.toNat : Nat) : Int))) = _; rw [e]) rfl rfl hd hh
  · refine W.aald (v := va_rf (zR M a i)) (ty := .array .int) hSt.1 hSt.2.1 (hR.2.2 _ _ he) ((hSt.2.2.2.2.2.1.1.2 4 _ rfl).1 n (fun j => va_rf (zR M a j))) rfl (fun q => by cases q) (by show ¬ (_ ∨ (arrV _ _ _).slots.size ≤ _); rw [arrV_size]; exact hin) (by show (arrV _ _ _).slots[_]? = _; rw [arrV_read _ _ hlt, zi_nat h0 hi]; show some (va_rf (zR M a ((i.toNat : Nat) : Int))) = _; rw [e]) rfl rfl hd hh
theorem z_iast {a n : Nat} {i x : Int} (hd : decode cc pc = .ok (.iastore, 1)) (hK : zK M a = (9, n)) (h0 : 0 ≤ i) (h1 : i < n) (h : zZ cc own nm nL E R X Q (pc + 1) Lc S (zsI M a i x) ce sl) : zZ cc own nm nL E R X Q pc Lc (vI x :: vI i :: vR (some a) :: S) M ce sl := by
  intro hSt hM hS hL H locs ls hR hV hls
  obtain ⟨a1, a2⟩ := zokM_at hM hK (by decide)
  have he := zws_get (cA := E.2.2.2) a1 a2
  rw [zcell_arr hK (by decide)] at he
  have hx : zin x := zokS_hd hS
  have hi : zin i := zokS_hd (zokS_tl hS)
  have hc : zcell E.2.2.2 (zsI M a i x) a = .inl (E.2.2.2 9, n, .inl (upd (fun q : Nat => Int32.ofInt (zI M a q)) i.toNat (Int32.ofInt x))) := by
    rw [zcell_arr (M := zsI M a i x) (tg := 9) (n := n) hK (by decide)]
    show Sum.inl (_, _, Sum.inl _) = _
    rw [zarr_up h0]
  have hk := fun H1 locs1 (hP1 : va_P E.2.2.1 vwCl (zws E.2.1 E.2.2.2 (zsI M a i x)) H1) hS1 (hz : H1.size = H.size) => h hSt (zokM_sI hM hx) (zokS_tl (zokS_tl (zokS_tl hS))) hL H1 locs1 ls ⟨hz.trans hR.1, hR.2.1, hP1⟩ hS1 hls
  refine W.iast hSt.1 hSt.2.1 (hR.2.2 _ _ he) ((hSt.2.2.2.2.2.1.1.2 0 _ rfl).1 n (fun j => .int (Int32.ofInt (zI M a j)))) (fun q => by cases q) (by show ¬ (_ ∨ (arrV _ _ _).slots.size ≤ _); rw [arrV_size]; exact zi_in hi h0 h1) rfl rfl hd fun H1 e z oq => ?_
  refine hk H1 _ ?_ (hV.put z oq a1) z
  rw [← zws_set (M := M) (M' := zsI M a i x) a1 a2 rfl (fun b hb => zcell_sI hb)]
  refine hR.2.2.set zws_D he ?_ oq
  rw [hc]
  show H1[a]? = some (vp_cell _ _)
  rw [e]
  show some ((vp_cell _ (n, .inl (fun q : Nat => Int32.ofInt (zI M a q)))).setSlot _ _) = some (vp_cell _ (n, .inl _))
  rw [vp_cell_i, vp_cell_i, arrV_store, zi_nat h0 hi]
  congr 2
  funext q
  by_cases hq : q = i.toNat
  · subst hq; simp [updV, upd]
  · simp [updV, upd, hq]
theorem z_bast {a n : Nat} {i x : Int} (hd : decode cc pc = .ok (.bastore, 1)) (hK : zK M a = (10, n)) (h0 : 0 ≤ i) (h1 : i < n) (hb01 : x = 0 ∨ x = 1) (h : zZ cc own nm nL E R X Q (pc + 1) Lc S (zsI M a i x) ce sl) : zZ cc own nm nL E R X Q pc Lc (vI x :: vI i :: vR (some a) :: S) M ce sl := by
  intro hSt hM hS hL H locs ls hR hV hls
  obtain ⟨a1, a2⟩ := zokM_at hM hK (by decide)
  have he := zws_get (cA := E.2.2.2) a1 a2
  rw [zcell_arr hK (by decide)] at he
  have hx : zin x := zokS_hd hS
  have hi : zin i := zokS_hd (zokS_tl hS)
  have hc : zcell E.2.2.2 (zsI M a i x) a = .inl (E.2.2.2 10, n, .inl (upd (fun q : Nat => Int32.ofInt (zI M a q)) i.toNat (Int32.ofInt x))) := by
    rw [zcell_arr (M := zsI M a i x) (tg := 10) (n := n) hK (by decide)]
    show Sum.inl (_, _, Sum.inl _) = _
    rw [zarr_up h0]
  have hnar : narrow .boolean (.int (Int32.ofInt x)) = .int (Int32.ofInt x) := by rcases hb01 with rfl | rfl <;> rfl
  have hk := fun H1 locs1 (hP1 : va_P E.2.2.1 vwCl (zws E.2.1 E.2.2.2 (zsI M a i x)) H1) hS1 (hz : H1.size = H.size) => h hSt (zokM_sI hM hx) (zokS_tl (zokS_tl (zokS_tl hS))) hL H1 locs1 ls ⟨hz.trans hR.1, hR.2.1, hP1⟩ hS1 hls
  refine W.zast hSt.1 hSt.2.1 (hR.2.2 _ _ he) ((hSt.2.2.2.2.2.1.1.2 1 _ rfl).1 n (fun j => .int (Int32.ofInt (zI M a j)))) (fun q => by cases q) (by show ¬ (_ ∨ (arrV _ _ _).slots.size ≤ _); rw [arrV_size]; exact zi_in hi h0 h1) rfl rfl hd fun H1 e z oq => ?_
  refine hk H1 _ ?_ (hV.put z oq a1) z
  rw [← zws_set (M := M) (M' := zsI M a i x) a1 a2 rfl (fun b hb => zcell_sI hb)]
  refine hR.2.2.set zws_D he ?_ oq
  rw [hc]
  show H1[a]? = some (vp_cell _ _)
  rw [e, hnar]
  show some ((vp_cell _ (n, .inl (fun q : Nat => Int32.ofInt (zI M a q)))).setSlot _ _) = some (vp_cell _ (n, .inl _))
  rw [vp_cell_i, vp_cell_i, arrV_store, zi_nat h0 hi]
  congr 2
  funext q
  by_cases hq : q = i.toNat
  · subst hq; simp [updV, upd]
  · simp [updV, upd, hq]
theorem z_last {a n : Nat} {i : Int} {x : Int64} (hd : decode cc pc = .ok (.lastore, 1)) (hK : zK M a = (11, n)) (h0 : 0 ≤ i) (h1 : i < n) (h : zZ cc own nm nL E R X Q (pc + 1) Lc S (zsL M a i x) ce sl) : zZ cc own nm nL E R X Q pc Lc (vL x :: vI i :: vR (some a) :: S) M ce sl := by
  intro hSt hM hS hL H locs ls hR hV hls
  obtain ⟨a1, a2⟩ := zokM_at hM hK (by decide)
  have he := zws_get (cA := E.2.2.2) a1 a2
  rw [zcell_arr hK (by decide)] at he
  have hi : zin i := zokS_hd (zokS_tl hS)
  have hc : zcell E.2.2.2 (zsL M a i x) a = .inl (E.2.2.2 11, n, .inr (.inl (vp_updL (fun q : Nat => zL M a q) i.toNat x))) := by
    rw [zcell_arr (M := zsL M a i x) (tg := 11) (n := n) hK (by decide)]
    show Sum.inl (_, _, Sum.inr (Sum.inl _)) = _
    rw [zarr_upL h0]
  have hk := fun H1 locs1 (hP1 : va_P E.2.2.1 vwCl (zws E.2.1 E.2.2.2 (zsL M a i x)) H1) hS1 (hz : H1.size = H.size) => h hSt (zokM_sL hM) (zokS_tl (zokS_tl (zokS_tl hS))) hL H1 locs1 ls ⟨hz.trans hR.1, hR.2.1, hP1⟩ hS1 hls
  refine W.last hSt.1 hSt.2.1 (hR.2.2 _ _ he) ((hSt.2.2.2.2.2.1.1.2 2 _ rfl).1 n (fun j => .long (zL M a j))) (fun q => by cases q) (by show ¬ (_ ∨ (arrV _ _ _).slots.size ≤ _); rw [arrV_size]; exact zi_in hi h0 h1) rfl rfl hd fun H1 e z oq => ?_
  refine hk H1 _ ?_ (hV.put z oq a1) z
  rw [← zws_set (M := M) (M' := zsL M a i x) a1 a2 rfl (fun b hb => zcell_sL hb)]
  refine hR.2.2.set zws_D he ?_ oq
  rw [hc]
  show H1[a]? = some (vp_cell _ _)
  rw [e]
  show some ((vp_cell _ (n, .inr (.inl (fun q : Nat => zL M a q)))).setSlot _ _) = some (vp_cell _ (n, .inr (.inl _)))
  rw [vp_cell_l, vp_cell_l, arrV_store, zi_nat h0 hi]
  congr 2
  funext q
  by_cases hq : q = i.toNat
  · subst hq; simp [updV, vp_updL]
  · simp [updV, vp_updL, hq]
/-- a Work goes into a Work[] -/
theorem z_aast {a b n nw : Nat} {i : Int} (hd : decode cc pc = .ok (.aastore, 1)) (hK : zK M a = (12, n)) (hKb : zK M b = (6, nw)) (h0 : 0 ≤ i) (h1 : i < n) (h : zZ cc own nm nL E R X Q (pc + 1) Lc S (zsR M a i (some b)) ce sl) : zZ cc own nm nL E R X Q pc Lc (vR (some b) :: vI i :: vR (some a) :: S) M ce sl := by
  intro hSt hM hS hL H locs ls hR hV hls
  obtain ⟨a1, a2⟩ := zokM_at hM hK (by decide)
  obtain ⟨b1, b2⟩ := zokM_at hM hKb (by decide)
  have he := zws_get (cA := E.2.2.2) a1 a2
  rw [zcell_arr hK (by decide)] at he
  have heb := zws_get (cA := E.2.2.2) b1 b2
  rw [zcell_obj hKb (by decide)] at heb
  have hi : zin i := zokS_hd (zokS_tl hS)
  have hc : zcell E.2.2.2 (zsR M a i (some b)) a = .inl (E.2.2.2 12, n, .inr (.inr (.inr (.inr (va_up (fun q : Nat => zR M a q) i.toNat (some b)))))) := by
    rw [zcell_arr (M := zsR M a i (some b)) (tg := 12) (n := n) hK (by decide)]
    show Sum.inl (_, _, Sum.inr (Sum.inr (Sum.inr (Sum.inr _)))) = _
    rw [zarr_upR h0]
  have hk := fun H1 locs1 (hP1 : va_P E.2.2.1 vwCl (zws E.2.1 E.2.2.2 (zsR M a i (some b))) H1) hS1 (hz : H1.size = H.size) => h hSt (zokM_sR hM) (zokS_tl (zokS_tl (zokS_tl hS))) hL H1 locs1 ls ⟨hz.trans hR.1, hR.2.1, hP1⟩ hS1 hls
  have hin := zi_in hi h0 h1
  have hlt : (Int32.ofInt i).toNatClampNeg < n := by rw [zi_nat h0 hi]; omega
  have h00 : ¬ Int32.ofInt i < 0 := fun q => hin (Or.inl q)
  obtain ⟨r', hr', cellV, g1, g2, g3, -⟩ := hR.2.2 _ _ heb
  have hcls := (hSt.2.2.2.2.2.1.1.1 5 (RX5, TX5, 16) rfl).2
  obtain ⟨kA, comp, k1, k2, k3, -⟩ := (hSt.2.2.2.2.2.1.1.2 3 _ rfl).2
  have hcomp : comp = E.2.2.1.1 5 := Option.some.inj (k3.symm.trans hcls.1)
  subst hcomp
  obtain ⟨kC, hkC, -⟩ := id hcls.2
  refine W.aast hSt.1 hSt.2.1 (hR.2.2 _ _ he) (fun q h => by cases h) (fun h => by cases h) k1 k2 rfl hkC ⟨h00, by show _ < (arrV _ _ _).slots.size; rw [arrV_size]; exact hlt⟩ g1 (fun q h => by rw [g3] at h; cases h) (by rw [g2]; exact hkC) (by rw [g2]; exact va_assign hcls) rfl rfl hd fun H1 e z oq => ?_
  refine hk H1 _ ?_ (hV.put z oq a1) z
  rw [← zws_set (M := M) (M' := zsR M a i (some b)) a1 a2 rfl (fun c hb => zcell_sR hb)]
  refine hR.2.2.set zws_D he ?_ oq
  rw [hc]
  show H1[a]? = some (vp_cell _ _)
  rw [e]
  show some ((vp_cell _ (n, .inr (.inr (.inr (.inr (fun q : Nat => zR M a q)))))).setSlot _ _) = some (vp_cell _ (n, .inr (.inr (.inr (.inr _)))))
  rw [vp_cell_q, vp_cell_q, arrV_store, zi_nat h0 hi]
  congr 2
  funext q
  by_cases hq : q = i.toNat
  · subst hq; simp [updV, va_up, va_rf]
  · simp [updV, va_up, hq]
/-- what a new cell leaves -/
theorem zRel_push {t n : Nat} {H H1 : Heap} {locs : List Loc} (hR : zRel E M H) (hV : va_S (fun q => E.2.1 ≤ q) (xs X).heap H locs) (e1 : va_at E.2.2.1 vwCl (zsz M, zcell E.2.2.2 (znew M t n) (zsz M)) H1) (z1 : H1.size = zsz M + 1) (o1 : ∀ q, q < zsz M → H1[q]? = H[q]?) : zRel E (znew M t n) H1 ∧ va_S (fun q => E.2.1 ≤ q) (xs X).heap H1 locs := by
  obtain ⟨r1, r2, r3⟩ := hR
  refine ⟨⟨z1, by rw [zsz_new]; omega, ?_⟩, by rw [z1, ← r1]; have := hV.1; omega, fun q h1 h2 => ?_, hV.2.2⟩
  · rw [← zws_push r2 (zsz_new M t n) (fun b hb => zcell_new hb)]
    refine va_P.app (r3.kept fun k q hk => o1 q.1 (by rw [← r1]; exact (r3 k q hk).lt)) (fun k q hk => ?_)
    have hz : k < 1 := (List.getElem?_eq_some_iff.mp hk).1
    rw [show k = 0 by omega] at hk
    cases hk
    exact e1
  · rw [o1 q (by rw [← r1]; exact Nat.lt_of_lt_of_le h1 hV.1)]
    exact hV.2.1 q h1 h2
def zNw (own : String) (idx tg n : Nat) : Prop := ∃ (C : String) (T : u_T), vwCl[tg - 1]? = some (C, T, n) ∧ (1 ≤ tg ∧ tg < 9) ∧ n < 2147483648 ∧ (∀ w ∈ u_ws C T n, w ∈ zT) ∧ (∀ i, i < n → parseFieldDescriptor (T i).2.2.1 = some (zfty (tg - 1) i)) ∧ Cond.classLink own idx C ∈ zT ∧ Cond.instantiable C n ∈ zT ∧ Cond.initialized C ∈ zT ∧ (∀ i, i < n → zfty (tg - 1) i = .int ∨ zfty (tg - 1) i = .long ∨ zisR (zfty (tg - 1) i) = true)
theorem z_new {idx tg n : Nat} (hn : zNw own idx tg n) (hd : decode cc pc = .ok (.new idx, 3)) (hc : ce + 1 ≤ R.cells) (hs : sl + n ≤ R.slots) (h : zZ cc own nm nL E R X Q (pc + 3) Lc (vR (some (zsz M)) :: S) (znew M tg n) (ce + 1) (sl + n)) : zZ cc own nm nL E R X Q pc Lc S M ce sl := by
  intro hSt hM hS hL H locs ls hR hV hls
  obtain ⟨C, T, hcl, ht, hb, hin, hty, w1, w2, w3, hdf⟩ := hn
  have hKn := hSt.2.2.2.2.2.1.1.1 (tg - 1) _ hcl
  refine W.newcK hSt.1 hSt.2.1 hSt.2.2.2.1 (hSt.2.2.2.2.1 _ w1) (hSt.2.2.2.2.1 _ w2) (hSt.2.2.2.2.1 _ w3) rfl hd hc hs hKn.2.1 hR.1 fun H1 kC hkC e1 z1 o1 => ?_
  obtain ⟨p1, p2⟩ := zRel_push (t := tg) (n := n) hR hV (by
    rw [zcell_obj (tg := tg) (n := n) (by rw [zK_new, if_pos rfl]) ht.2]
    refine ⟨_, hcl, (u_born (zfty (tg - 1)) hSt.2.2.2.2.1 hin hKn hkC e1 hty).to fun i hi => ?_⟩
    have hg := zobj_get (M := znew M tg n) (a := zsz M) (t := tg - 1) hi
    simp only [vp_V, List.getD_eq_getElem?_getD, hg, Option.getD_some]
    rcases hdf i hi with q | q | q
    · rw [q]; simp only [zfv, zI_new, if_true]; rfl
    · rw [q]; simp only [zfv, zL_new, if_true]; rfl
    · rw [zfv_R q, zR_new, if_pos rfl]
      cases hq : zfty (tg - 1) i <;> rw [hq] at q <;> first | rfl | cases q) z1 o1
  exact h hSt (zokM_new hM hb hR.2.1) (zokS_cons trivial hS) hL H1 locs ls p1 p2 hls
theorem z_newa {at_ : ArrayType} {tg n : Nat} {k : Int} (hat : (at_ = .int ∧ tg = 9) ∨ (at_ = .boolean ∧ tg = 10) ∨ (at_ = .long ∧ tg = 11)) (hw : Cond.arrayClass (newarray.typeOf at_) ∈ zT) (hd : decode cc pc = .ok (.newarray at_, 2)) (hk : k = (n : Int)) (hn : n ≤ 10000) (hc : ce + 1 ≤ R.cells) (hs : sl + n ≤ R.slots) (h : zZ cc own nm nL E R X Q (pc + 2) Lc (vR (some (zsz M)) :: S) (znew M tg n) (ce + 1) (sl + n)) : zZ cc own nm nL E R X Q pc Lc (vI k :: S) M ce sl := by
  subst hk
  intro hSt hM hS hL H locs ls hR hV hls
  have hz : zin (n : Int) := zokS_hd hS
  have hh := h hSt (zokM_new hM (by omega) hR.2.1) (zokS_cons trivial (zokS_tl hS)) hL
  refine va_newaK (N := n) hSt.1 hSt.2.1 (hSt.2.2.2.2.1 _ hw) rfl hd rfl (by rw [← zi_0, zi_lt hz zin_0]; omega) (by rw [zi_nat (by omega) hz]; omega) (by rcases hat with ⟨rfl, -⟩ | ⟨rfl, -⟩ | ⟨rfl, -⟩ <;> simp [newarray.typeOf, componentBytes] <;> omega) hc hs hR.1 fun H1 cA e1 z1 o1 hAr hNm => ?_
  have key : ∀ (hcA : cA = E.2.2.2 tg), zRel E (znew M tg n) H1 ∧ va_S (fun q => E.2.1 ≤ q) (xs X).heap H1 locs := fun hcA => zRel_push (t := tg) (n := n) hR hV (by
    rw [zcell_arr (tg := tg) (n := n) (by rw [zK_new, if_pos rfl]) (by omega), ← hcA]
    show H1[zsz M]? = some (vp_cell _ _)
    rw [e1]
    rcases hat with ⟨rfl, rfl⟩ | ⟨rfl, rfl⟩ | ⟨rfl, rfl⟩
    · show _ = some (vp_cell _ (n, .inl (fun q : Nat => Int32.ofInt (zI (znew M 9 n) (zsz M) q)))); rw [vp_cell_i]; simp only [zI_new, if_true]; rfl
    · show _ = some (vp_cell _ (n, .inl (fun q : Nat => Int32.ofInt (zI (znew M 10 n) (zsz M) q)))); rw [vp_cell_i]; simp only [zI_new, if_true]; rfl
    · show _ = some (vp_cell _ (n, .inr (.inl (fun q : Nat => zL (znew M 11 n) (zsz M) q)))); rw [vp_cell_l]; simp only [zL_new, if_true]; rfl) z1 o1
  have hcA : cA = E.2.2.2 tg := by
    rcases hat with ⟨rfl, rfl⟩ | ⟨rfl, rfl⟩ | ⟨rfl, rfl⟩
    · exact Option.some.inj (hNm.symm.trans (hSt.2.2.2.2.2.1.1.2 0 _ rfl).2)
    · exact Option.some.inj (hNm.symm.trans (hSt.2.2.2.2.2.1.1.2 1 _ rfl).2)
    · exact Option.some.inj (hNm.symm.trans (hSt.2.2.2.2.2.1.1.2 2 _ rfl).2)
  obtain ⟨p1, p2⟩ := key hcA
  exact hh H1 locs ls p1 p2 hls
theorem z_anew {idx n : Nat} {k : Int} (hw : Cond.classLink own idx RX5 ∈ zT) (hd : decode cc pc = .ok (.anewarray idx, 3)) (hk : k = (n : Int)) (hn : n ≤ 10000) (hc : ce + 1 ≤ R.cells) (hs : sl + n ≤ R.slots) (h : zZ cc own nm nL E R X Q (pc + 3) Lc (vR (some (zsz M)) :: S) (znew M 12 n) (ce + 1) (sl + n)) : zZ cc own nm nL E R X Q pc Lc (vI k :: S) M ce sl := by
  subst hk
  intro hSt hM hS hL H locs ls hR hV hls
  have hz : zin (n : Int) := zokS_hd hS
  have hnat : (Int32.ofInt (n : Int)).toNatClampNeg = n := by rw [zi_nat (by omega) hz]; omega
  have hh := h hSt (zokM_new hM (by omega) hR.2.1) (zokS_cons trivial (zokS_tl hS)) hL
  refine W.anew hSt.1 hSt.2.1 hSt.2.2.2.1 (hSt.2.2.2.2.1 _ hw) (va_AO.use hSt.2.2.2.2.2.1.2.1) rfl hd rfl (by rw [← zi_0, zi_lt hz zin_0]; omega) (by rw [hnat]; omega) hc (by rw [hnat]; exact hs) fun cA kA comp f1 f2 f3 f4 => ?_
  rw [hnat]
  obtain ⟨kA2, comp2, -, -, -, g4⟩ := (hSt.2.2.2.2.2.1.1.2 3 _ rfl).2
  have hcA : cA = E.2.2.2 12 := Option.some.inj (f1.symm.trans g4)
  obtain ⟨p1, p2⟩ := zRel_push (t := 12) (n := n) (H1 := H.push { cls := cA, slots := Array.replicate n .null, vm := .none }) hR hV (by
    rw [zcell_arr (tg := 12) (n := n) (by rw [zK_new, if_pos rfl]) (by decide), ← hcA]
    show _ = some (vp_cell _ (n, .inr (.inr (.inr (.inr (fun q : Nat => zR (znew M 12 n) (zsz M) q))))))
    rw [vp_cell_q]
    simp only [zR_new, if_true]
    show (H.push _)[zsz M]? = _
    rw [← hR.1, Array.getElem?_push_size, arrV_new]
    rfl) (by rw [Array.size_push, hR.1]) (fun q hq => by rw [Array.getElem?_push, if_neg (by rw [hR.1]; omega)])
  have := hh _ locs ls p1 p2 hls
  rw [← hR.1] at this
  exact this
end ZA
end
section
/-! ===== contracts: start, return, call ===== -/
theorem zAOA_moved {u U : State} (hvm : u.vm.Alike U.vm) (h : zAOA u) : zAOA U := by
  obtain ⟨comp, c, k, h1, h2, h3, h4, h5⟩ := h
  obtain ⟨k', hk', he⟩ := hvm.2.2 _ _ h3
  have hi : (U.vm.classes.findIdx? fun (x : Class) => match x.kind with | .array component _ => component == comp | _ => false) = some c := by
    have a := va_idx_bare U.vm comp
    have b := va_idx_bare u.vm comp
    first | rw [hvm.bare_eq] at a | rw [← hvm.bare_eq] at a
    exact a.symm.trans (b.trans h2)
  exact ⟨comp, c, k', by rw [hvm.findClass]; exact h1, hi, hk', by rw [he]; exact h4, by rw [hvm.findClass]; exact h5⟩
theorem zKn_moved {E : zE} {u U : State} (hvm : u.vm.Alike U.vm) (h : zKn E u) : zKn E U := ⟨va_K.moved hvm h.1, va_AO.moved hvm h.2.1, zAOA_moved hvm h.2.2⟩
def zrm (d mc ms : Nat) : Room := { frames := d, cells := mc, slots := ms, locals := 40 * d }
def zQc (E : zE) (P : Option zV → zM → Prop) : Array Value → State → Outcome → State → Prop := fun _ st oc t => (∃ (v : Option zV) (M' : zM), oc = .returned (v.map zv) ∧ P v M' ∧ zokM E M' ∧ (∀ w, v = some w → zok w) ∧ zRel E M' t.heap ∧ zKn E t) ∧ va_F (fun q => E.2.1 ≤ q) st t
def zPc (E : zE) (as : List zV) (M : zM) : Array Value → State → Prop := va_Pc (as.map zv) (fun U => zRel E M U.heap ∧ zKn E U)
def zCC (E : zE) (f : zF) (d mc ms : Nat) (as : List zV) (M : zM) (P : Option zV → zM → Prop) : Prop :=
  zokM E M → zokS as → Met E.1 f.1 (Cond.code f.1 f.2.1 f.2.2.1 f.2.2.2 :: zT) (zrm d mc ms) (zPc E as M) (zQc E P) mc ms (fun q => E.2.1 ≤ q)
def zQ (E : zE) (P : Option zV → zM → Prop) (X : zX) (mc ms : Nat) : State → Prop := MQ (xb X) (zQc E P) (xa X) (xs X) mc ms (fun q => E.2.1 ≤ q)
def zargs : Nat → List zV → List (Nat × zV)
  | _, [] => []
  | i, v :: vs => (i, v) :: zargs (if zc2 v then i + 2 else i + 1) vs
theorem zargs_eq (as : List zV) : ∀ i : Nat, lv_args i (as.map zv) = zlv (zargs i as) := by
  induction as with
  | nil => intro i; rfl
  | cons v vs ih =>
    intro i
    show (i, zv v) :: lv_args (if (zv v).category = 2 then i + 2 else i + 1) (vs.map zv) = (i, zv v) :: zlv (zargs (if zc2 v then i + 2 else i + 1) vs)
    rw [← zv_cat, ih]
    congr 2
    by_cases h : (zv v).category = 2
    · rw [if_pos h, if_pos (by rw [h]; rfl)]
    · rw [if_neg h, if_neg (by simpa using h)]
theorem zargs_ok {as : List zV} (h : zokS as) : ∀ i : Nat, zokL (zargs i as) := by
  induction as with
  | nil => intro i q hq; cases hq
  | cons v vs ih =>
    intro i q hq
    rcases List.mem_cons.mp hq with e | e
    · rw [e]; exact zokS_hd h
    · exact ih (zokS_tl h) _ q e
def zcat (v : zV) : Nat := match v with
  | .inr (.inl _) => 2
  | _ => 1
theorem zcat_eq (v : zV) : (zv v).category = zcat v := by
  rcases v with x | y | r
  · rfl
  · rfl
  · cases r <;> rfl
theorem zcat_sum (S : List zV) : ((S.map zv).map fun v => v.category).sum = (S.map zcat).sum := by
  rw [List.map_map]
  congr 1
  apply List.map_congr_left
  intro v _
  exact zcat_eq v
theorem zsl_len (as : List zV) : (lg_sl (as.map zv)).length = (as.map zcat).sum := by
  induction as with
  | nil => rfl
  | cons v vs ih =>
    rcases v with x | y | r
    · show (lg_sl (.int _ :: vs.map zv)).length = _
      simp only [lg_sl, List.map_cons, List.sum_cons, zcat, ← ih]
      simp [Value.category]
      try omega
    · show (lg_sl (.long _ :: vs.map zv)).length = _
      simp only [lg_sl, List.map_cons, List.sum_cons, zcat, ← ih]
      simp [Value.category]
      try omega
    · cases r with
      | none =>
        show (lg_sl (.null :: vs.map zv)).length = _
        simp only [lg_sl, List.map_cons, List.sum_cons, zcat, ← ih]
        simp [Value.category]
        try omega
      | some a =>
        show (lg_sl (.ref a :: vs.map zv)).length = _
        simp only [lg_sl, List.map_cons, List.sum_cons, zcat, ← ih]
        simp [Value.category]
        try omega
theorem z_start {E : zE} {f : zF} {d mc ms : Nat} {as : List zV} {M : zM} {P : Option zV → zM → Prop} (hy : plainName f.1.cls = true) (hlen : (as.map zcat).sum ≤ f.2.2.1) {Lc : List (Nat × zV)} (hLc : zargs 0 as = Lc)
    (h : ∀ X : zX, (xh X).sig.returnType = f.2.2.2 → zZ f.2.1 f.1.cls f.1.name f.2.2.1 E (zrm d mc ms) X (zQ E P X mc ms) 0 Lc [] M 0 0) : zCC E f d mc ms as M P := by
  subst hLc
  intro hM hS
  refine Met.ofW (cc := f.2.1) (maxL := f.2.2.1) (ret := f.2.2.2) hy rfl ?_
  intro p e s m args below meth c s₁ B hml hv
  obtain ⟨rfl, hR, hKn⟩ := hv
  have hts := atoms_spec (ws := Cond.code f.1 f.2.1 f.2.2.1 f.2.2.2 :: zT) B.pre
  have hown : s.vm.findClass f.1.cls = some m.cls := findClass_of_methodNamed B.named
  have hnm : meth.name = f.1.name := (name_of_methodNamed B.named B.method).1
  have hl := lv_entry (as.map zv) (n := f.2.2.1) (by rw [zsl_len]; exact hlen)
  rw [lg_entry_eq]
  generalize (lg_sl (as.map zv) ++ List.replicate (f.2.2.1 - (lg_sl (as.map zv)).length) Slot.unset).toArray = ls at hl ⊢
  rw [zargs_eq] at hl
  exact h (p, e, s, m, (as.map zv).toArray, below, meth, c) B.returns ⟨B.exec, B.bytes, hml, hown, fun w hw => hts w (List.mem_cons_of_mem _ hw), hKn, B.notSynchronized, by rw [hR.1]; exact hR.2.1, hnm⟩ hM zokS_nil (zargs_ok hS 0) s.heap [] ls hR va_S.rf hl
section ZC
variable {cc : ByteArray} {own nm : String} {nL : Nat} {E : zE} {R : Room} {X : zX} {Q : State → Prop} {pc : Nat} {Lc : List (Nat × zV)} {S : List zV} {M : zM} {ce sl : Nat}
theorem z_iret {P : Option zV → zM → Prop} {mc ms : Nat} {x : Int} (hr : (xh X).sig.returnType = some .int) (hd : decode cc pc = .ok (.ireturn, 1)) (hc : ce ≤ mc) (hs : sl ≤ ms) (h : P (some (vI x)) M) : zZ cc own nm nL E R X (zQ E P X mc ms) pc Lc [vI x] M ce sl := by
  intro hSt hM hS hL H locs ls hR hV hls
  refine W.widen (k := mc) (n := ms) hc hs ?_
  exact W.iret hSt.1 hSt.2.1 hr (fun t ht hW => ⟨⟨some (vI x), M, rfl, h, hM, fun w e => by cases e; exact zokS_hd hS, by rw [ht]; exact hR, zKn_moved hW.alike hSt.2.2.2.2.2.1⟩, hV.F ht⟩) hV.2.2 hd hSt.2.2.2.2.2.2.1
theorem z_zret {P : Option zV → zM → Prop} {mc ms : Nat} {x : Int} (hr : (xh X).sig.returnType = some .boolean) (hd : decode cc pc = .ok (.ireturn, 1)) (hc : ce ≤ mc) (hs : sl ≤ ms) (hb01 : x = 0 ∨ x = 1) (h : P (some (vI x)) M) : zZ cc own nm nL E R X (zQ E P X mc ms) pc Lc [vI x] M ce sl := by
  intro hSt hM hS hL H locs ls hR hV hls
  refine W.widen (k := mc) (n := ms) hc hs ?_
  exact W.zret hSt.1 hSt.2.1 hr (by rcases hb01 with rfl | rfl <;> rfl) (fun t ht hW => ⟨⟨some (vI x), M, rfl, h, hM, fun w e => by cases e; exact zokS_hd hS, by rw [ht]; exact hR, zKn_moved hW.alike hSt.2.2.2.2.2.1⟩, hV.F ht⟩) hV.2.2 hd hSt.2.2.2.2.2.2.1
theorem z_lret {P : Option zV → zM → Prop} {mc ms : Nat} {x : Int64} (hr : (xh X).sig.returnType = some .long) (hd : decode cc pc = .ok (.lreturn, 1)) (hc : ce ≤ mc) (hs : sl ≤ ms) (h : P (some (vL x)) M) : zZ cc own nm nL E R X (zQ E P X mc ms) pc Lc [vL x] M ce sl := by
  intro hSt hM hS hL H locs ls hR hV hls
  refine W.widen (k := mc) (n := ms) hc hs ?_
  exact W.lret hSt.1 hSt.2.1 hr (fun t ht hW => ⟨⟨some (vL x), M, rfl, h, hM, fun w e => by cases e; trivial, by rw [ht]; exact hR, zKn_moved hW.alike hSt.2.2.2.2.2.1⟩, hV.F ht⟩) hV.2.2 hd (hlocks := hSt.2.2.2.2.2.2.1)
theorem z_aret {P : Option zV → zM → Prop} {mc ms : Nat} {x : Option Nat} {C : String} (hr : (xh X).sig.returnType = some (.object C)) (hd : decode cc pc = .ok (.areturn, 1)) (hc : ce ≤ mc) (hs : sl ≤ ms) (h : P (some (vR x)) M) : zZ cc own nm nL E R X (zQ E P X mc ms) pc Lc [vR x] M ce sl := by
  intro hSt hM hS hL H locs ls hR hV hls
  refine W.widen (k := mc) (n := ms) hc hs ?_
  exact W.aret hSt.1 hSt.2.1 hr (Or.inl ⟨C, rfl⟩) (by cases x with | none => exact Or.inl rfl | some a => exact Or.inr ⟨a, rfl⟩) (fun t ht hW => ⟨⟨some (vR x), M, rfl, h, hM, fun w e => by cases e; trivial, by rw [ht]; exact hR, zKn_moved hW.alike hSt.2.2.2.2.2.1⟩, hV.F ht⟩) hV.2.2 hd hSt.2.2.2.2.2.2.1
theorem z_vret {P : Option zV → zM → Prop} {mc ms : Nat} (hr : (xh X).sig.returnType = none) (hd : decode cc pc = .ok (.return_, 1)) (hc : ce ≤ mc) (hs : sl ≤ ms) (h : P none M) : zZ cc own nm nL E R X (zQ E P X mc ms) pc Lc [] M ce sl := by
  intro hSt hM hS hL H locs ls hR hV hls
  refine W.widen (k := mc) (n := ms) hc hs ?_
  exact W.vret hSt.1 hSt.2.1 hr (fun t ht hW => ⟨⟨none, M, rfl, h, hM, (fun w e => by cases e), by rw [ht]; exact hR, zKn_moved hW.alike hSt.2.2.2.2.2.1⟩, hV.F ht⟩) hV.2.2 hd hSt.2.2.2.2.2.2.1
/-! calls -/
theorem zPc_blind {as : List zV} : FrameBlind (zPc E as M) := fun a U g mk q => ⟨q.1, q.2.1, zKn_moved (u := U) (U := U.calling g mk a) (Vm.Alike.refl U.vm) q.2.2⟩
def zMm (f : zF) (n : Nat) : Prop := Cond.initialized f.1.cls ∈ zT ∧ Cond.code f.1 f.2.1 f.2.2.1 f.2.2.2 ∈ zT ∧ (f.1.cls ≠ "java/lang/invoke/MethodHandle" ∧ f.1.cls ≠ "java/lang/invoke/VarHandle" ∧ (parseMethodDescriptor f.1.desc).map (fun d => d.parameters.length) = some n) ∧ f.2.2.1 ≤ 20
theorem z_run {f : zF} {d mc ms : Nat} {as : List zV} {P : Option zV → zM → Prop} {H : Heap} {locs : List Loc} {ls : Array Slot} {St : List zV}
    (hrun : va_Run (xp X) E.1 (xe X) R (xs X) (xm X) (xa X) (xb X) (xh X) (xc X) H locs ce sl mc ms (F0 (xm X) pc ls (St.map zv)) (S.map zv) (zQc E P (as.map zv).toArray) (fun q => E.2.1 ≤ q))
    (hSt : zSt cc own nm nL E X) (hS : zokS S) (hL : zokL Lc) (hV : va_S (fun q => E.2.1 ≤ q) (xs X).heap H locs) (hls : lv_has ls nL (zlv Lc))
    (h : ∀ v M', P v M' → zZ cc own nm nL E R X Q (pc + 3) Lc (v.toList ++ S) M' (ce + mc) (sl + ms)) :
    W (xp X) E.1 (xe X) R (xs X) (xm X) (xa X) (xb X) (xh X) (xc X) H locs ce sl Q (F0 (xm X) pc ls (St.map zv)) := by
  intro T hT Y
  obtain ⟨v0, st₀, t, T', L, h0, Y', hLl, e1, e2, ⟨⟨v, M', hv, hp, hM', hok, hR', hKn'⟩, hz, hk⟩, st⟩ := hrun T hT Y
  have hv0 : v0 = v.map zv := by injection hv
  rw [h0] at hz hk
  have hS2 : zokS (v.toList ++ S) := by
    intro w hw
    rcases List.mem_append.mp hw with q | q
    · exact hok w (by simpa using q)
    · exact hS w q
  obtain ⟨t2, a1, b1⟩ := h v M' hp hSt hM' hS2 hL T'.heap (locs ++ L) ls (by rw [e1]; exact hR') ⟨Nat.le_trans hV.1 (by rw [e1]; exact hz), fun q h1 h2 => by rw [e1, hk q (Nat.lt_of_lt_of_le h1 hV.1) h2]; exact hV.2.1 q h1 h2, fun q hq => by
      rcases List.mem_append.mp hq with z | z
      · exact hV.2.2 q z
      · exact hLl q z⟩ hls T' rfl Y'
  refine ⟨t2, st t2 ?_, b1⟩
  have e : (v.toList ++ S).map zv = v0.toList ++ S.map zv := by
    rw [hv0, List.map_append]
    cases v <;> rfl
  rw [← e]
  exact a1
theorem z_callV {f : zF} {d mc ms idx n b tg nf : Nat} {T : u_T} {as St : List zV} {P : Option zV → zM → Prop} (hC : zCC E f d mc ms (vR (some b) :: as) M P) (hm : zMm f n) (hw : Cond.methodLink own idx f.1 ∈ zT ∧ Cond.instanceMethod f.1 ∈ zT ∧ Cond.selects f.1.cls f.1 f.1 ∈ zT) (hd : decode cc pc = .ok (.invokevirtual idx, 3)) (hcl : vwCl[tg - 1]? = some (f.1.cls, T, nf) ∧ 1 ≤ tg ∧ tg < 9) (hK : zK M b = (tg, nf)) (hn : as.length = n) (hst : as.reverse ++ vR (some b) :: S = St) (hcat : (S.map zcat).sum ≤ 8) (hR1 : d + 1 ≤ R.frames) (hR2 : 8 + (f.2.2.1 + 11) + 40 * d ≤ R.locals) (hc : ce + mc ≤ R.cells) (hs : sl + ms ≤ R.slots)
    (h : ∀ v M', P v M' → zZ cc own nm nL E R X Q (pc + 3) Lc (v.toList ++ S) M' (ce + mc) (sl + ms)) : zZ cc own nm nL E R X Q pc Lc St M ce sl := by
  subst hst
  intro hSt hM hS hL H locs ls hR hV hls
  obtain ⟨a1, a2⟩ := zokM_at hM hK hcl.2.1
  have he := zws_get (cA := E.2.2.2) a1 a2
  rw [zcell_obj hK hcl.2.2] at he
  have hS1 : zokS (vR (some b) :: as) := fun w hw => by
    rcases List.mem_cons.mp hw with e | e
    · rw [e]; trivial
    · exact hS w (List.mem_append_left _ (List.mem_reverse.mpr e))
  have hS2 : zokS S := fun w hw => hS w (List.mem_append_right _ (List.mem_cons_of_mem _ hw))
  have hts := hSt.2.2.2.2.1
  refine z_run (f := f) (d := d) (as := vR (some b) :: as) (va_runV (As := as.map zv) (C := f.1.cls) (b := b) (n := n) (ret := f.2.2.2) (bytes := f.2.1) (maxL := f.2.2.1) (Ts := zT) ⟨hSt.1, hSt.2.1, hSt.2.2.1, hSt.2.2.2.1, hts⟩ (hC hM hS1) ⟨callB_of n hts (zT_good hm.2.1) rfl rfl rfl (hts _ hm.1) (hts _ hw.1) hm.2.2.1 ⟨hR1, hR2⟩, hts _ hw.2.1, hts _ hw.2.2⟩ ⟨zPc_blind, va_recv hSt.2.2.2.2.2.1.1 hR.2.2 hcl.1 he, fun U hU hW => ⟨rfl, by rw [hU]; exact hR, zKn_moved hW.alike hSt.2.2.2.2.2.1⟩⟩ rfl (by rw [List.length_map]; exact hn) hls.1 (by show List.map zv _ = _; rw [List.map_append, List.map_reverse]; rfl) (lv_room (by rw [zcat_sum]; exact hcat)) hd ⟨hc, hs⟩) hSt hS2 hL hV hls h
theorem z_callS {f : zF} {d mc ms idx n : Nat} {as St : List zV} {P : Option zV → zM → Prop} (hC : zCC E f d mc ms as M P) (hm : zMm f n) (hw : Cond.methodLink own idx f.1 ∈ zT ∧ Cond.static f.1 ∈ zT) (hd : decode cc pc = .ok (.invokestatic idx, 3)) (hn : as.length = n) (hst : as.reverse ++ S = St) (hcat : (S.map zcat).sum ≤ 8) (hR1 : d + 1 ≤ R.frames) (hR2 : 8 + (f.2.2.1 + 11) + 40 * d ≤ R.locals) (hc : ce + mc ≤ R.cells) (hs : sl + ms ≤ R.slots)
    (h : ∀ v M', P v M' → zZ cc own nm nL E R X Q (pc + 3) Lc (v.toList ++ S) M' (ce + mc) (sl + ms)) : zZ cc own nm nL E R X Q pc Lc St M ce sl := by
  subst hst
  intro hSt hM hS hL H locs ls hR hV hls
  have hS1 : zokS as := fun w hw => hS w (List.mem_append_left _ (List.mem_reverse.mpr hw))
  have hS2 : zokS S := fun w hw => hS w (List.mem_append_right _ hw)
  have hts := hSt.2.2.2.2.1
  refine z_run (f := f) (d := d) (as := as) (va_runS (As := as.map zv) (n := n) (ret := f.2.2.2) (bytes := f.2.1) (maxL := f.2.2.1) (Ts := zT) ⟨hSt.1, hSt.2.1, hSt.2.2.1, hSt.2.2.2.1, hts⟩ (hC hM hS1) ⟨callB_of n hts (zT_good hm.2.1) rfl rfl rfl (hts _ hm.1) (hts _ hw.1) hm.2.2.1 ⟨hR1, hR2⟩, hts _ hw.2⟩ ⟨zPc_blind, fun U hU hW => ⟨rfl, by rw [hU]; exact hR, zKn_moved hW.alike hSt.2.2.2.2.2.1⟩⟩ rfl (by rw [List.length_map]; exact hn) hls.1 (by show List.map zv _ = _; rw [List.map_append, List.map_reverse]) (lv_room (by rw [zcat_sum]; exact hcat)) hd ⟨hc, hs⟩) hSt hS2 hL hV hls h
/-- a constructor -/
theorem z_callI {f : zF} {d mc ms idx n b : Nat} {as St : List zV} {P : Option zV → zM → Prop} (hC : zCC E f d mc ms (vR (some b) :: as) M P) (hm : zMm f n) (hnone : f.2.2.2 = none) (hini : f.1.name = "<init>") (hw : Cond.methodLink own idx f.1 ∈ zT ∧ Cond.instanceMethod f.1 ∈ zT) (hd : decode cc pc = .ok (.invokespecial idx, 3)) (hn : as.length = n) (hst : as.reverse ++ vR (some b) :: S = St) (hcat : (S.map zcat).sum ≤ 8) (hR1 : d + 1 ≤ R.frames) (hR2 : 8 + (f.2.2.1 + 11) + 40 * d ≤ R.locals) (hc : ce + mc ≤ R.cells) (hs : sl + ms ≤ R.slots)
    (h : ∀ v M', P v M' → zZ cc own nm nL E R X Q (pc + 3) Lc (v.toList ++ S) M' (ce + mc) (sl + ms)) : zZ cc own nm nL E R X Q pc Lc St M ce sl := by
  subst hst
  obtain ⟨y, cb, nl, ret⟩ := f
  cases hnone
  intro hSt hM hS hL H locs ls hR hV hls
  have hS1 : zokS (vR (some b) :: as) := fun w hw => by
    rcases List.mem_cons.mp hw with e | e
    · rw [e]; trivial
    · exact hS w (List.mem_append_left _ (List.mem_reverse.mpr e))
  have hS2 : zokS S := fun w hw => hS w (List.mem_append_right _ (List.mem_cons_of_mem _ hw))
  have hts := hSt.2.2.2.2.1
  refine z_run (f := (y, cb, nl, none)) (d := d) (as := vR (some b) :: as) (va_runI (As := as.map zv) (b := b) (n := n) (bytes := cb) (maxL := nl) (Ts := zT) ⟨hSt.1, hSt.2.1, hSt.2.2.1, hSt.2.2.2.1, hts⟩ (hC hM hS1) ⟨callB_of n hts (zT_good hm.2.1) rfl rfl rfl (hts _ hm.1) (hts _ hw.1) hm.2.2.1 ⟨hR1, hR2⟩, hini, hts _ hw.2⟩ ⟨zPc_blind, fun U hU hW => ⟨rfl, by rw [hU]; exact hR, zKn_moved hW.alike hSt.2.2.2.2.2.1⟩⟩ rfl (by rw [List.length_map]; exact hn) hls.1 (by show List.map zv _ = _; rw [List.map_append, List.map_reverse]; rfl) (lv_room (by rw [zcat_sum]; exact hcat)) hd ⟨hc, hs⟩) hSt hS2 hL hV hls h
/-- a nest mate's private constructor -/
theorem z_callIN {f : zF} {d mc ms idx n b : Nat} {host : String} {as St : List zV} {P : Option zV → zM → Prop} (hC : zCC E f d mc ms (vR (some b) :: as) M P) (hm : zMm f n) (hnone : f.2.2.2 = none) (hini : f.1.name = "<init>") (hw : Cond.methodLinkNest own idx f.1 host ∈ zT ∧ Cond.instanceMethod f.1 ∈ zT) (hd : decode cc pc = .ok (.invokespecial idx, 3)) (hn : as.length = n) (hst : as.reverse ++ vR (some b) :: S = St) (hcat : (S.map zcat).sum ≤ 8) (hR1 : d + 1 ≤ R.frames) (hR2 : 8 + (f.2.2.1 + 11) + 40 * d ≤ R.locals) (hc : ce + mc ≤ R.cells) (hs : sl + ms ≤ R.slots)
    (h : ∀ v M', P v M' → zZ cc own nm nL E R X Q (pc + 3) Lc (v.toList ++ S) M' (ce + mc) (sl + ms)) : zZ cc own nm nL E R X Q pc Lc St M ce sl := by
  subst hst
  obtain ⟨y, cb, nl, ret⟩ := f
  cases hnone
  intro hSt hM hS hL H locs ls hR hV hls
  have hS1 : zokS (vR (some b) :: as) := fun w hw => by
    rcases List.mem_cons.mp hw with e | e
    · rw [e]; trivial
    · exact hS w (List.mem_append_left _ (List.mem_reverse.mpr e))
  have hS2 : zokS S := fun w hw => hS w (List.mem_append_right _ (List.mem_cons_of_mem _ hw))
  have hts := hSt.2.2.2.2.1
  refine z_run (f := (y, cb, nl, none)) (d := d) (as := vR (some b) :: as) (va_runIN (As := as.map zv) (b := b) (n := n) (bytes := cb) (maxL := nl) (Ts := zT) (host := host) ⟨hSt.1, hSt.2.1, hSt.2.2.1, hSt.2.2.2.1, hts⟩ (hC hM hS1) ⟨va_cnB n hts (zT_good hm.2.1) rfl rfl rfl (va_Nw.of rfl (hts _ hw.1)) (hts _ hm.1) hm.2.2.1 ⟨hR1, hR2⟩, hini, hts _ hw.2⟩ ⟨zPc_blind, fun U hU hW => ⟨rfl, by rw [hU]; exact hR, zKn_moved hW.alike hSt.2.2.2.2.2.1⟩⟩ rfl (by rw [List.length_map]; exact hn) hls.1 (by show List.map zv _ = _; rw [List.map_append, List.map_reverse]; rfl) (lv_room (by rw [zcat_sum]; exact hcat)) hd ⟨hc, hs⟩) hSt hS2 hL hV hls h
theorem z_objInit {idx b : Nat} (hw : Cond.methodLink own idx Lib.objectInit ∈ zT ∧ Cond.instanceMethod Lib.objectInit ∈ zT ∧ Cond.code Lib.objectInit ⟨#[0xb1]⟩ 1 none ∈ zT) (hd : decode cc pc = .ok (.invokespecial idx, 3)) (hcat : (S.map zcat).sum ≤ 8) (hR1 : 1 ≤ R.frames) (hR2 : 20 ≤ R.locals) (h : zZ cc own nm nL E R X Q (pc + 3) Lc S M ce sl) : zZ cc own nm nL E R X Q pc Lc (vR (some b) :: S) M ce sl := by
  intro hSt hM hS hL H locs ls hR hV hls
  have hts := hSt.2.2.2.2.1
  have hlr := lv_room (m := xm X) (pc := pc) (ls := ls) (rest := (vR (some b) :: S).map zv) (st := S.map zv) (by rw [zcat_sum]; exact hcat)
  refine W.objInit hSt.1 hSt.2.1 hSt.2.2.2.1 (hts _ hw.1) (hts _ hw.2.1) (hts _ hw.2.2) rfl (by rw [hSt.2.2.1]; exact hls.1) (rest := S.map zv) rfl hd hR1 (by omega) ?_
  exact h hSt hM (zokS_tl hS) hL H locs ls hR hV hls
theorem z_max {idx : Nat} {x y : Int} (hw : Cond.methodLink own idx Lib.Math.max.name ∈ zT ∧ Cond.static Lib.Math.max.name ∈ zT ∧ Cond.initialized "java/lang/Math" ∈ zT ∧ Cond.code Lib.Math.max.name Lib.Math.max.code 2 (some .int) ∈ zT) (hd : decode cc pc = .ok (.invokestatic idx, 3)) (hcat : (S.map zcat).sum ≤ 8) (hR1 : 1 ≤ R.frames) (hR2 : 21 ≤ R.locals) (hc : ce ≤ R.cells) (hs : sl ≤ R.slots) (h : zZ cc own nm nL E R X Q (pc + 3) Lc (vI (max x y) :: S) M ce sl) : zZ cc own nm nL E R X Q pc Lc (vI y :: vI x :: S) M ce sl := by
  intro hSt hM hS hL H locs ls hR hV hls
  have hx : zin x := zokS_hd (zokS_tl hS)
  have hy : zin y := zokS_hd hS
  have hts := hSt.2.2.2.2.1
  refine va_mmax hSt.1 hSt.2.1 (by rw [hSt.2.2.1]; exact hls.1.symm) hSt.2.2.2.1 (hts _ hw.1) (hts _ hw.2.1) (hts _ hw.2.2.1) (hts _ hw.2.2.2) hR1 (by rw [zcat_sum]; omega) hc hs hd ?_
  have e : (if Int32.ofInt x < Int32.ofInt y then Int32.ofInt y else Int32.ofInt x) = Int32.ofInt (max x y) := by
    by_cases q : x < y
    · rw [if_pos ((zi_lt hx hy).mpr q), Int.max_def, if_pos (by omega)]
    · rw [if_neg (fun z => q ((zi_lt hx hy).mp z)), Int.max_def]
      by_cases q2 : x ≤ y
      · rw [if_pos q2, show x = y by omega]
      · rw [if_neg q2]
  rw [e]
  exact h hSt hM (zokS_cons (by show zin _; unfold zin at *; omega) (zokS_tl (zokS_tl hS))) hL H locs ls hR hV hls
theorem z_min {idx : Nat} {x y : Int} (hw : Cond.methodLink own idx Lib.Math.min.name ∈ zT ∧ Cond.static Lib.Math.min.name ∈ zT ∧ Cond.initialized "java/lang/Math" ∈ zT ∧ Cond.code Lib.Math.min.name Lib.Math.min.code 2 (some .int) ∈ zT) (hd : decode cc pc = .ok (.invokestatic idx, 3)) (hcat : (S.map zcat).sum ≤ 8) (hR1 : 1 ≤ R.frames) (hR2 : 21 ≤ R.locals) (hc : ce ≤ R.cells) (hs : sl ≤ R.slots) (h : zZ cc own nm nL E R X Q (pc + 3) Lc (vI (min x y) :: S) M ce sl) : zZ cc own nm nL E R X Q pc Lc (vI y :: vI x :: S) M ce sl := by
  intro hSt hM hS hL H locs ls hR hV hls
  have hx : zin x := zokS_hd (zokS_tl hS)
  have hy : zin y := zokS_hd hS
  have hts := hSt.2.2.2.2.1
  refine va_mmin hSt.1 hSt.2.1 (by rw [hSt.2.2.1]; exact hls.1.symm) hSt.2.2.2.1 (hts _ hw.1) (hts _ hw.2.1) (hts _ hw.2.2.1) (hts _ hw.2.2.2) hR1 (by rw [zcat_sum]; omega) hc hs hd ?_
  have e : (if Int32.ofInt y < Int32.ofInt x then Int32.ofInt y else Int32.ofInt x) = Int32.ofInt (min x y) := by
    by_cases q : y < x
    · rw [if_pos ((zi_lt hy hx).mpr q), Int.min_def, if_neg (by omega)]
    · rw [if_neg (fun z => q ((zi_lt hy hx).mp z)), Int.min_def, if_pos (by omega)]
  rw [e]
  exact h hSt hM (zokS_cons (by show zin _; unfold zin at *; omega) (zokS_tl (zokS_tl hS))) hL H locs ls hR hV hls
end ZC
end
section
/-! ===== bits, fewer locals, more ===== -/
theorem zi_of_nat (n : Nat) : Int32.ofInt (n : Int) = nI n := Int32.ofInt_eq_ofNat
theorem zi_and (a b : Nat) : nI a &&& nI b = nI (a &&& b) := by
  apply Int32.toBitVec_inj.1
  show BitVec.ofNat 32 a &&& BitVec.ofNat 32 b = BitVec.ofNat 32 (a &&& b)
  apply BitVec.eq_of_getLsbD_eq
  intro i hi
  simp [hi]
theorem zi_or (a b : Nat) : nI a ||| nI b = nI (a ||| b) := by
  apply Int32.toBitVec_inj.1
  show BitVec.ofNat 32 a ||| BitVec.ofNat 32 b = BitVec.ofNat 32 (a ||| b)
  apply BitVec.eq_of_getLsbD_eq
  intro i hi
  simp [hi]
def zand (x y : Int) : Int := ((x.toNat &&& y.toNat : Nat) : Int)
def zor (x y : Int) : Int := ((x.toNat ||| y.toNat : Nat) : Int)
def zshr (x y : Int) : Int := ((x.toNat >>> y.toNat : Nat) : Int)
def zpw (y : Int) : Int := ((2 ^ y.toNat : Nat) : Int)
def zbit (y : Int) : Int64 := (1 : Int64) <<< ((Int32.ofInt y).toInt64 &&& 63)
def zushr (x : Int64) (y : Int) : Int64 := (x.toUInt64 >>> ((Int32.ofInt y).toInt64.toUInt64 &&& Int64.toUInt64 63)).toInt64
theorem zand_le {x y : Int} (h : 0 ≤ x) : zand x y ≤ x := by
  unfold zand
  have := Nat.and_le_left (n := x.toNat) (m := y.toNat)
  omega
section ZB
variable {cc : ByteArray} {own nm : String} {nL : Nat} {E : zE} {R : Room} {X : zX} {Q : State → Prop} {pc : Nat} {Lc : List (Nat × zV)} {S : List zV} {M : zM} {ce sl : Nat}
theorem z_sub {Lc' : List (Nat × zV)} (ks : List Nat) (hl : ks.filterMap (fun k => Lc'[k]?) = Lc) (h : zZ cc own nm nL E R X Q pc Lc S M ce sl) : zZ cc own nm nL E R X Q pc Lc' S M ce sl := by
  subst hl
  intro hSt hM hS hL H locs ls hR hV hls
  have hm : ∀ q ∈ ks.filterMap (fun k => Lc'[k]?), q ∈ Lc' := fun q hq => by
    obtain ⟨k, -, hk⟩ := List.mem_filterMap.mp hq
    exact List.mem_of_getElem? hk
  refine h hSt hM hS (fun q hq => hL q (hm q hq)) H locs ls hR hV ⟨hls.1, hls.2.1, fun q hq => ?_⟩
  unfold zlv at hq
  obtain ⟨q', h1, rfl⟩ := List.mem_map.mp hq
  exact hls.2.2 _ (List.mem_map.mpr ⟨q', hm q' h1, rfl⟩)
theorem z_iand {x y : Int} (hd : decode cc pc = .ok (.iand, 1)) (hx0 : 0 ≤ x) (hy0 : 0 ≤ y) (h : zZ cc own nm nL E R X Q (pc + 1) Lc (vI (zand x y) :: S) M ce sl) : zZ cc own nm nL E R X Q pc Lc (vI y :: vI x :: S) M ce sl := by
  intro hSt hM hS hL H locs ls hR hV hls
  have hx : zin x := zokS_hd (zokS_tl hS)
  refine lv_iand hSt.1 hSt.2.1 hd ?_
  have e : Int32.ofInt x &&& Int32.ofInt y = Int32.ofInt (zand x y) := by
    unfold zand
    rw [zi_of_nat, ← zi_and, ← zi_of_nat, ← zi_of_nat, Int.toNat_of_nonneg hx0, Int.toNat_of_nonneg hy0]
  rw [e]
  refine h hSt hM (zokS_cons ?_ (zokS_tl (zokS_tl hS))) hL H locs ls hR hV hls
  show zin _
  have := zand_le (y := y) hx0
  have h0 : 0 ≤ zand x y := by unfold zand; omega
  unfold zin at *
  omega
theorem z_ior {x y : Int} (hd : decode cc pc = .ok (.ior, 1)) (hx0 : 0 ≤ x) (hy0 : 0 ≤ y) (h : zZ cc own nm nL E R X Q (pc + 1) Lc (vI (zor x y) :: S) M ce sl) : zZ cc own nm nL E R X Q pc Lc (vI y :: vI x :: S) M ce sl := by
  intro hSt hM hS hL H locs ls hR hV hls
  have hx : zin x := zokS_hd (zokS_tl hS)
  have hy : zin y := zokS_hd hS
  refine lv_ior hSt.1 hSt.2.1 hd ?_
  have e : Int32.ofInt x ||| Int32.ofInt y = Int32.ofInt (zor x y) := by
    unfold zor
    rw [zi_of_nat, ← zi_or, ← zi_of_nat, ← zi_of_nat, Int.toNat_of_nonneg hx0, Int.toNat_of_nonneg hy0]
  rw [e]
  refine h hSt hM (zokS_cons ?_ (zokS_tl (zokS_tl hS))) hL H locs ls hR hV hls
  show zin _
  have : x.toNat ||| y.toNat < 2 ^ 31 := Nat.or_lt_two_pow (by unfold zin at hx; omega) (by unfold zin at hy; omega)
  unfold zin zor
  omega
theorem z_ishl {y : Int} (hd : decode cc pc = .ok (.ishl, 1)) (hy0 : 0 ≤ y) (hy1 : y < 31) (h : zZ cc own nm nL E R X Q (pc + 1) Lc (vI (zpw y) :: S) M ce sl) : zZ cc own nm nL E R X Q pc Lc (vI y :: vI 1 :: S) M ce sl := by
  intro hSt hM hS hL H locs ls hR hV hls
  refine lv_ishl hSt.1 hSt.2.1 hd ?_
  obtain ⟨n, rfl⟩ : ∃ n : Nat, y = (n : Int) := ⟨y.toNat, by omega⟩
  have hn : n < 31 := by omega
  have key : ∀ k : Nat, k < 31 → Int32.ofInt 1 <<< (Int32.ofInt (k : Int) &&& 31) = Int32.ofInt (zpw (k : Int)) ∧ zin (zpw (k : Int)) := by
    unfold zin zpw
    decide +kernel
  rw [(key n hn).1]
  exact h hSt hM (zokS_cons (key n hn).2 (zokS_tl (zokS_tl hS))) hL H locs ls hR hV hls
/-- of small numbers alone -/
theorem z_ishr {x y : Int} (hd : decode cc pc = .ok (.ishr, 1)) (hx0 : 0 ≤ x) (hx1 : x < 8) (hy0 : 0 ≤ y) (hy1 : y < 3) (h : zZ cc own nm nL E R X Q (pc + 1) Lc (vI (zshr x y) :: S) M ce sl) : zZ cc own nm nL E R X Q pc Lc (vI y :: vI x :: S) M ce sl := by
  intro hSt hM hS hL H locs ls hR hV hls
  refine lv_ishr hSt.1 hSt.2.1 hd ?_
  obtain ⟨n, rfl⟩ : ∃ n : Nat, y = (n : Int) := ⟨y.toNat, by omega⟩
  obtain ⟨k, rfl⟩ : ∃ n : Nat, x = (n : Int) := ⟨x.toNat, by omega⟩
  have key : ∀ k : Nat, k < 8 → ∀ n : Nat, n < 3 → Int32.ofInt (k : Int) >>> (Int32.ofInt (n : Int) &&& 31) = Int32.ofInt (zshr (k : Int) (n : Int)) ∧ zin (zshr (k : Int) (n : Int)) := by
    unfold zin zshr
    decide +kernel
  rw [(key k (by omega) n (by omega)).1]
  exact h hSt hM (zokS_cons (key k (by omega) n (by omega)).2 (zokS_tl (zokS_tl hS))) hL H locs ls hR hV hls
theorem z_lshl {y : Int} (hd : decode cc pc = .ok (.lshl, 1)) (h : zZ cc own nm nL E R X Q (pc + 1) Lc (vL (zbit y) :: S) M ce sl) : zZ cc own nm nL E R X Q pc Lc (vI y :: vL 1 :: S) M ce sl := by
  intro hSt hM hS hL H locs ls hR hV hls
  refine lv_lshl hSt.1 hSt.2.1 hd rfl ?_
  exact h hSt hM (zokS_cons trivial (zokS_tl (zokS_tl hS))) hL H locs ls hR hV hls
theorem z_ladd {x y : Int64} (hd : decode cc pc = .ok (.ladd, 1)) (h : zZ cc own nm nL E R X Q (pc + 1) Lc (vL (x + y) :: S) M ce sl) : zZ cc own nm nL E R X Q pc Lc (vL y :: vL x :: S) M ce sl := by
  intro hSt hM hS hL H locs ls hR hV hls
  refine lv_ladd hSt.1 hSt.2.1 hd ?_
  exact h hSt hM (zokS_cons trivial (zokS_tl (zokS_tl hS))) hL H locs ls hR hV hls
theorem z_lsub {x y : Int64} (hd : decode cc pc = .ok (.lsub, 1)) (h : zZ cc own nm nL E R X Q (pc + 1) Lc (vL (x - y) :: S) M ce sl) : zZ cc own nm nL E R X Q pc Lc (vL y :: vL x :: S) M ce sl := by
  intro hSt hM hS hL H locs ls hR hV hls
  refine lv_lsub hSt.1 hSt.2.1 hd ?_
  exact h hSt hM (zokS_cons trivial (zokS_tl (zokS_tl hS))) hL H locs ls hR hV hls
theorem z_lushr {x : Int64} {y : Int} (hd : decode cc pc = .ok (.lushr, 1)) (h : zZ cc own nm nL E R X Q (pc + 1) Lc (vL (zushr x y) :: S) M ce sl) : zZ cc own nm nL E R X Q pc Lc (vI y :: vL x :: S) M ce sl := by
  intro hSt hM hS hL H locs ls hR hV hls
  refine lv_lushr hSt.1 hSt.2.1 hd rfl ?_
  exact h hSt hM (zokS_cons trivial (zokS_tl (zokS_tl hS))) hL H locs ls hR hV hls
theorem z_l2i {x : Int64} (hd : decode cc pc = .ok (.l2i, 1)) (h : zZ cc own nm nL E R X Q (pc + 1) Lc (vI x.toInt32.toInt :: S) M ce sl) : zZ cc own nm nL E R X Q pc Lc (vL x :: S) M ce sl := by
  intro hSt hM hS hL H locs ls hR hV hls
  refine lv_l2i (v := Int32.ofInt x.toInt32.toInt) hSt.1 hSt.2.1 hd (by rw [Int32.ofInt_toInt]) ?_
  refine h hSt hM (zokS_cons ?_ (zokS_tl hS)) hL H locs ls hR hV hls
  show zin _
  have h1 := x.toInt32.toInt_lt
  have h2 := x.toInt32.le_toInt
  unfold zin
  omega
theorem z_iandb {x y : Int} (hd : decode cc pc = .ok (.iand, 1)) (hb : (x = 0 ∨ x = 1) ∧ (y = 0 ∨ y = 1)) (h : zZ cc own nm nL E R X Q (pc + 1) Lc (vI (x * y) :: S) M ce sl) : zZ cc own nm nL E R X Q pc Lc (vI y :: vI x :: S) M ce sl := by
  refine z_iand hd (by omega) (by omega) ?_
  have e : zand x y = x * y := by
    rcases hb with ⟨rfl | rfl, rfl | rfl⟩ <;> rfl
  rw [e]
  exact h
theorem z_dup2 {v w : zV} (hd : decode cc pc = .ok (.dup2, 1)) (hv : zc2 v = false) (hw : zc2 w = false) (h : zZ cc own nm nL E R X Q (pc + 1) Lc (v :: w :: v :: w :: S) M ce sl) : zZ cc own nm nL E R X Q pc Lc (v :: w :: S) M ce sl := by
  have cat : ∀ u : zV, zc2 u = false → (zv u).category = 1 := fun u hu => by
    rcases lv_cat (zv u) with e | e
    · exact e
    · exact absurd hu (by rw [← zv_cat, e]; decide)
  intro hSt hM hS hL H locs ls hR hV hls
  refine lv_dup2_11 hSt.1 hSt.2.1 hd (cat v hv) (cat w hw) ?_
  exact h hSt hM (zokS_cons (zokS_hd hS) (zokS_cons (zokS_hd (zokS_tl hS)) hS)) hL H locs ls hR hV hls
theorem zr1 {d mc ms : Nat} : d + 1 ≤ (zrm (d + 1) mc ms).frames := Nat.le_refl _
theorem zr2 {d mc ms n : Nat} (h : n ≤ 20) : 8 + (n + 11) + 40 * d ≤ (zrm (d + 1) mc ms).locals := by
  show 8 + (n + 11) + 40 * d ≤ 40 * (d + 1)
  omega
theorem zr3 {d mc ms : Nat} : 1 ≤ (zrm (d + 1) mc ms).frames := by show 1 ≤ d + 1; omega
theorem zr4 {d mc ms : Nat} : 21 ≤ (zrm (d + 1) mc ms).locals := by show 21 ≤ 40 * (d + 1); omega
theorem zr5 {d mc ms : Nat} : 20 ≤ (zrm (d + 1) mc ms).locals := by show 20 ≤ 40 * (d + 1); omega
end ZB
/-! typed contracts -/
def zPi (P : Int → zM → Prop) : Option zV → zM → Prop := fun v M => ∃ r, v = some (vI r) ∧ P r M
def zPl (P : Int64 → zM → Prop) : Option zV → zM → Prop := fun v M => ∃ r, v = some (vL r) ∧ P r M
def zPr (P : Option Nat → zM → Prop) : Option zV → zM → Prop := fun v M => ∃ r, v = some (vR r) ∧ P r M
def zPv (P : zM → Prop) : Option zV → zM → Prop := fun v M => v = none ∧ P M
def zCi (E : zE) (f : zF) (d mc ms : Nat) (as : List zV) (M : zM) (P : Int → zM → Prop) : Prop := zCC E f d mc ms as M (zPi P)
def zCl (E : zE) (f : zF) (d mc ms : Nat) (as : List zV) (M : zM) (P : Int64 → zM → Prop) : Prop := zCC E f d mc ms as M (zPl P)
def zCr (E : zE) (f : zF) (d mc ms : Nat) (as : List zV) (M : zM) (P : Option Nat → zM → Prop) : Prop := zCC E f d mc ms as M (zPr P)
def zCv (E : zE) (f : zF) (d mc ms : Nat) (as : List zV) (M : zM) (P : zM → Prop) : Prop := zCC E f d mc ms as M (zPv P)
end
section
/-! ===== calls, typed, from a room zrm ===== -/
def zMV (own : String) (idx : Nat) (f : zF) (n tg nf : Nat) : Prop := zMm f n ∧ (Cond.methodLink own idx f.1 ∈ zT ∧ Cond.instanceMethod f.1 ∈ zT ∧ Cond.selects f.1.cls f.1 f.1 ∈ zT) ∧ ∃ T, vwCl[tg - 1]? = some (f.1.cls, T, nf) ∧ 1 ≤ tg ∧ tg < 9
def zMS (own : String) (idx : Nat) (f : zF) (n : Nat) : Prop := zMm f n ∧ (Cond.methodLink own idx f.1 ∈ zT ∧ Cond.static f.1 ∈ zT)
def zMI (own : String) (idx : Nat) (f : zF) (n : Nat) : Prop := zMm f n ∧ f.2.2.2 = none ∧ f.1.name = "<init>" ∧ Cond.instanceMethod f.1 ∈ zT ∧ (Cond.methodLink own idx f.1 ∈ zT ∨ ∃ host, Cond.methodLinkNest own idx f.1 host ∈ zT)
section ZK
variable {cc : ByteArray} {own nm : String} {nL : Nat} {E : zE} {X : zX} {Q : State → Prop} {pc : Nat} {Lc : List (Nat × zV)} {S : List zV} {M : zM} {ce sl : Nat} {f : zF} {d mc ms mc0 ms0 idx n b tg nf : Nat} {as St : List zV}
theorem z_V {P : Option zV → zM → Prop} (hm : zMV own idx f n tg nf) (hd : decode cc pc = .ok (.invokevirtual idx, 3)) (hC : zCC E f d mc ms (vR (some b) :: as) M P) (hK : zK M b = (tg, nf)) (hn : as.length = n) (hst : as.reverse ++ vR (some b) :: S = St) (hcat : (S.map zcat).sum ≤ 8) (hc : ce + mc ≤ mc0) (hs : sl + ms ≤ ms0)
    (h : ∀ v M', P v M' → zZ cc own nm nL E (zrm (d + 1) mc0 ms0) X Q (pc + 3) Lc (v.toList ++ S) M' (ce + mc) (sl + ms)) : zZ cc own nm nL E (zrm (d + 1) mc0 ms0) X Q pc Lc St M ce sl := by
  obtain ⟨h1, h2, T, h3⟩ := hm
  exact z_callV hC h1 h2 hd h3 hK hn hst hcat zr1 (zr2 h1.2.2.2) hc hs h
theorem z_Vi {P : Int → zM → Prop} (hm : zMV own idx f n tg nf) (hd : decode cc pc = .ok (.invokevirtual idx, 3)) (hC : zCi E f d mc ms (vR (some b) :: as) M P) (hK : zK M b = (tg, nf)) (hn : as.length = n) (hst : as.reverse ++ vR (some b) :: S = St) (hcat : (S.map zcat).sum ≤ 8) (hc : ce + mc ≤ mc0) (hs : sl + ms ≤ ms0)
    (h : ∀ r M', P r M' → zZ cc own nm nL E (zrm (d + 1) mc0 ms0) X Q (pc + 3) Lc (vI r :: S) M' (ce + mc) (sl + ms)) : zZ cc own nm nL E (zrm (d + 1) mc0 ms0) X Q pc Lc St M ce sl :=
  z_V hm hd hC hK hn hst hcat hc hs (fun v M' ⟨r, e, hp⟩ => by subst e; exact h r M' hp)
theorem z_Vl {P : Int64 → zM → Prop} (hm : zMV own idx f n tg nf) (hd : decode cc pc = .ok (.invokevirtual idx, 3)) (hC : zCl E f d mc ms (vR (some b) :: as) M P) (hK : zK M b = (tg, nf)) (hn : as.length = n) (hst : as.reverse ++ vR (some b) :: S = St) (hcat : (S.map zcat).sum ≤ 8) (hc : ce + mc ≤ mc0) (hs : sl + ms ≤ ms0)
    (h : ∀ r M', P r M' → zZ cc own nm nL E (zrm (d + 1) mc0 ms0) X Q (pc + 3) Lc (vL r :: S) M' (ce + mc) (sl + ms)) : zZ cc own nm nL E (zrm (d + 1) mc0 ms0) X Q pc Lc St M ce sl :=
  z_V hm hd hC hK hn hst hcat hc hs (fun v M' ⟨r, e, hp⟩ => by subst e; exact h r M' hp)
theorem z_Vr {P : Option Nat → zM → Prop} (hm : zMV own idx f n tg nf) (hd : decode cc pc = .ok (.invokevirtual idx, 3)) (hC : zCr E f d mc ms (vR (some b) :: as) M P) (hK : zK M b = (tg, nf)) (hn : as.length = n) (hst : as.reverse ++ vR (some b) :: S = St) (hcat : (S.map zcat).sum ≤ 8) (hc : ce + mc ≤ mc0) (hs : sl + ms ≤ ms0)
    (h : ∀ r M', P r M' → zZ cc own nm nL E (zrm (d + 1) mc0 ms0) X Q (pc + 3) Lc (vR r :: S) M' (ce + mc) (sl + ms)) : zZ cc own nm nL E (zrm (d + 1) mc0 ms0) X Q pc Lc St M ce sl :=
  z_V hm hd hC hK hn hst hcat hc hs (fun v M' ⟨r, e, hp⟩ => by subst e; exact h r M' hp)
theorem z_Vv {P : zM → Prop} (hm : zMV own idx f n tg nf) (hd : decode cc pc = .ok (.invokevirtual idx, 3)) (hC : zCv E f d mc ms (vR (some b) :: as) M P) (hK : zK M b = (tg, nf)) (hn : as.length = n) (hst : as.reverse ++ vR (some b) :: S = St) (hcat : (S.map zcat).sum ≤ 8) (hc : ce + mc ≤ mc0) (hs : sl + ms ≤ ms0)
    (h : ∀ M', P M' → zZ cc own nm nL E (zrm (d + 1) mc0 ms0) X Q (pc + 3) Lc S M' (ce + mc) (sl + ms)) : zZ cc own nm nL E (zrm (d + 1) mc0 ms0) X Q pc Lc St M ce sl :=
  z_V hm hd hC hK hn hst hcat hc hs (fun v M' ⟨e, hp⟩ => by subst e; exact h M' hp)
theorem z_Si {P : Int → zM → Prop} (hm : zMS own idx f n) (hd : decode cc pc = .ok (.invokestatic idx, 3)) (hC : zCi E f d mc ms as M P) (hn : as.length = n) (hst : as.reverse ++ S = St) (hcat : (S.map zcat).sum ≤ 8) (hc : ce + mc ≤ mc0) (hs : sl + ms ≤ ms0)
    (h : ∀ r M', P r M' → zZ cc own nm nL E (zrm (d + 1) mc0 ms0) X Q (pc + 3) Lc (vI r :: S) M' (ce + mc) (sl + ms)) : zZ cc own nm nL E (zrm (d + 1) mc0 ms0) X Q pc Lc St M ce sl :=
  z_callS hC hm.1 hm.2 hd hn hst hcat zr1 (zr2 hm.1.2.2.2) hc hs (fun v M' ⟨r, e, hp⟩ => by subst e; exact h r M' hp)
theorem z_Iv {P : zM → Prop} (hm : zMI own idx f n) (hd : decode cc pc = .ok (.invokespecial idx, 3)) (hC : zCv E f d mc ms (vR (some b) :: as) M P) (hn : as.length = n) (hst : as.reverse ++ vR (some b) :: S = St) (hcat : (S.map zcat).sum ≤ 8) (hc : ce + mc ≤ mc0) (hs : sl + ms ≤ ms0)
    (h : ∀ M', P M' → zZ cc own nm nL E (zrm (d + 1) mc0 ms0) X Q (pc + 3) Lc S M' (ce + mc) (sl + ms)) : zZ cc own nm nL E (zrm (d + 1) mc0 ms0) X Q pc Lc St M ce sl := by
  obtain ⟨h1, h2, h3, h4, h5 | ⟨host, h5⟩⟩ := hm
  · exact z_callI hC h1 h2 h3 ⟨h5, h4⟩ hd hn hst hcat zr1 (zr2 h1.2.2.2) hc hs (fun v M' ⟨e, hp⟩ => by subst e; exact h M' hp)
  · exact z_callIN hC h1 h2 h3 ⟨h5, h4⟩ hd hn hst hcat zr1 (zr2 h1.2.2.2) hc hs (fun v M' ⟨e, hp⟩ => by subst e; exact h M' hp)
end ZK
end
section
def mJ13_bitCount_95d88 : zF := (yJ13_bitCount_95d88, cJ13_bitCount_95d88, 2, (some .int))
theorem kw_44 : Cond.initialized "java/lang/Long" ∈ zT := zT_of 44 (by decide +kernel) (by decide +kernel)
theorem kc_354 : Cond.code yJ13_bitCount_95d88 cJ13_bitCount_95d88 2 (some .int) ∈ zT := zT_of 389 (by decide +kernel) (by decide +kernel)
theorem mmJ13_bitCount_95d88 : zMm mJ13_bitCount_95d88 1 := ⟨kw_44, kc_354, by decide +kernel, by decide⟩
theorem kw_390 : Cond.constantLong "java/lang/Long" (314 : Nat) (6148914691236517205 : Int64) ∈ zT := zT_of 390 (by decide +kernel) (by decide +kernel)
theorem kw_391 : Cond.constantLong "java/lang/Long" (316 : Nat) (3689348814741910323 : Int64) ∈ zT := zT_of 391 (by decide +kernel) (by decide +kernel)
theorem kw_392 : Cond.constantLong "java/lang/Long" (318 : Nat) (1085102592571150095 : Int64) ∈ zT := zT_of 392 (by decide +kernel) (by decide +kernel)
def mX5_init : zF := (yX5_init, cX5_init, 4, none)
theorem kw_43 : Cond.initialized "RefitYard$Work" ∈ zT := zT_of 43 (by decide +kernel) (by decide +kernel)
theorem kc_244 : Cond.code yX5_init cX5_init 4 none ∈ zT := zT_of 279 (by decide +kernel) (by decide +kernel)
theorem mmX5_init : zMm mX5_init 3 := ⟨kw_43, kc_244, by decide +kernel, by decide⟩
theorem kw_280 : Cond.methodLink "RefitYard$Work" (3 : Nat) ⟨"java/lang/Object", "<init>", "()V"⟩ ∈ zT := zT_of 280 (by decide +kernel) (by decide +kernel)
theorem kw_52 : Cond.instanceMethod ⟨"java/lang/Object", "<init>", "()V"⟩ ∈ zT := zT_of 52 (by decide +kernel) (by decide +kernel)
theorem oi_X5_3 : Cond.methodLink RX5 3 Lib.objectInit ∈ zT ∧ Cond.instanceMethod Lib.objectInit ∈ zT ∧ Cond.code Lib.objectInit ⟨#[0xb1]⟩ 1 none ∈ zT := ⟨kw_280, kw_52, zT_of 53 (by decide +kernel) (by decide +kernel)⟩
theorem kw_317 : Cond.fieldLink "RefitYard$Work" (9 : Nat) "RefitYard$Work" "shift" "I" ∈ zT := zT_of 317 (by decide +kernel) (by decide +kernel)
theorem ui_X5 : ∀ w ∈ u_ws RX5 TX5 16, w ∈ zT := by decide +kernel
theorem fl_X5_9 : zFl RX5 9 6 8 16 .int false := ⟨RX5, TX5, 8, rfl, by decide, rfl, by decide, ui_X5, kw_317, rfl, tyX5_ok, nmX5, rfl, rfl⟩
theorem kw_282 : Cond.fieldLink "RefitYard$Work" (15 : Nat) "RefitYard$Work" "number" "I" ∈ zT := zT_of 282 (by decide +kernel) (by decide +kernel)
theorem fl_X5_15 : zFl RX5 15 6 0 16 .int true := ⟨RX5, TX5, 0, rfl, by decide, rfl, by decide, ui_X5, kw_282, rfl, tyX5_ok, nmX5, rfl, rfl⟩
theorem kw_284 : Cond.fieldLink "RefitYard$Work" (18 : Nat) "RefitYard$Work" "bit" "J" ∈ zT := zT_of 284 (by decide +kernel) (by decide +kernel)
theorem fl_X5_18 : zFl RX5 18 6 1 16 .long true := ⟨RX5, TX5, 1, rfl, by decide, rfl, by decide, ui_X5, kw_284, rfl, tyX5_ok, nmX5, rfl, rfl⟩
theorem kw_307 : Cond.fieldLink "RefitYard$Work" (22 : Nat) "RefitYard$Work" "good" "I" ∈ zT := zT_of 307 (by decide +kernel) (by decide +kernel)
theorem fl_X5_22 : zFl RX5 22 6 6 16 .int true := ⟨RX5, TX5, 6, rfl, by decide, rfl, by decide, ui_X5, kw_307, rfl, tyX5_ok, nmX5, rfl, rfl⟩
theorem kw_299 : Cond.fieldLink "RefitYard$Work" (25 : Nat) "RefitYard$Work" "space" "I" ∈ zT := zT_of 299 (by decide +kernel) (by decide +kernel)
theorem fl_X5_25 : zFl RX5 25 6 4 16 .int true := ⟨RX5, TX5, 4, rfl, by decide, rfl, by decide, ui_X5, kw_299, rfl, tyX5_ok, nmX5, rfl, rfl⟩
theorem kw_304 : Cond.fieldLink "RefitYard$Work" (28 : Nat) "RefitYard$Work" "kind" "I" ∈ zT := zT_of 304 (by decide +kernel) (by decide +kernel)
theorem fl_X5_28 : zFl RX5 28 6 5 16 .int true := ⟨RX5, TX5, 5, rfl, by decide, rfl, by decide, ui_X5, kw_304, rfl, tyX5_ok, nmX5, rfl, rfl⟩
theorem kw_289 : Cond.fieldLink "RefitYard$Work" (31 : Nat) "RefitYard$Work" "trade" "I" ∈ zT := zT_of 289 (by decide +kernel) (by decide +kernel)
theorem fl_X5_31 : zFl RX5 31 6 2 16 .int true := ⟨RX5, TX5, 2, rfl, by decide, rfl, by decide, ui_X5, kw_289, rfl, tyX5_ok, nmX5, rfl, rfl⟩
theorem kw_294 : Cond.fieldLink "RefitYard$Work" (34 : Nat) "RefitYard$Work" "hands" "I" ∈ zT := zT_of 294 (by decide +kernel) (by decide +kernel)
theorem fl_X5_34 : zFl RX5 34 6 3 16 .int true := ⟨RX5, TX5, 3, rfl, by decide, rfl, by decide, ui_X5, kw_294, rfl, tyX5_ok, nmX5, rfl, rfl⟩
theorem kw_281 : Cond.constant "RefitYard$Work" (37 : Nat) (100000 : Int32) ∈ zT := zT_of 281 (by decide +kernel) (by decide +kernel)
theorem kw_311 : Cond.fieldLink "RefitYard$Work" (38 : Nat) "RefitYard$Work" "length" "I" ∈ zT := zT_of 311 (by decide +kernel) (by decide +kernel)
theorem fl_X5_38 : zFl RX5 38 6 7 16 .int false := ⟨RX5, TX5, 7, rfl, by decide, rfl, by decide, ui_X5, kw_311, rfl, tyX5_ok, nmX5, rfl, rfl⟩
def mX5_isOpen : zF := (yX5_isOpen, cX5_isOpen, 1, (some .boolean))
theorem kc_400 : Cond.code yX5_isOpen cX5_isOpen 1 (some .boolean) ∈ zT := zT_of 435 (by decide +kernel) (by decide +kernel)
theorem mmX5_isOpen : zMm mX5_isOpen 0 := ⟨kw_43, kc_400, by decide +kernel, by decide⟩
def mX5_behind : zF := (yX5_behind, cX5_behind, 1, (some .int))
theorem kc_423 : Cond.code yX5_behind cX5_behind 1 (some .int) ∈ zT := zT_of 458 (by decide +kernel) (by decide +kernel)
theorem mmX5_behind : zMm mX5_behind 0 := ⟨kw_43, kc_423, by decide +kernel, by decide⟩
def mX5_hasBegun : zF := (yX5_hasBegun, cX5_hasBegun, 2, (some .boolean))
theorem kc_396 : Cond.code yX5_hasBegun cX5_hasBegun 2 (some .boolean) ∈ zT := zT_of 431 (by decide +kernel) (by decide +kernel)
theorem mmX5_hasBegun : zMm mX5_hasBegun 1 := ⟨kw_43, kc_396, by decide +kernel, by decide⟩
theorem kw_432 : Cond.methodLink "RefitYard$Work" (41 : Nat) ⟨"RefitYard$Work", "isOpen", "()Z"⟩ ∈ zT := zT_of 432 (by decide +kernel) (by decide +kernel)
theorem kw_433 : Cond.instanceMethod ⟨"RefitYard$Work", "isOpen", "()Z"⟩ ∈ zT := zT_of 433 (by decide +kernel) (by decide +kernel)
theorem kw_434 : Cond.selects "RefitYard$Work" ⟨"RefitYard$Work", "isOpen", "()Z"⟩ ⟨"RefitYard$Work", "isOpen", "()Z"⟩ ∈ zT := zT_of 434 (by decide +kernel) (by decide +kernel)
theorem mv_X5_41 : zMV RX5 41 mX5_isOpen 0 6 16 := ⟨mmX5_isOpen, ⟨kw_432, kw_433, kw_434⟩, TX5, rfl, by decide, by decide⟩
def mX5_isDone : zF := (yX5_isDone, cX5_isDone, 2, (some .boolean))
theorem kc_516 : Cond.code yX5_isDone cX5_isDone 2 (some .boolean) ∈ zT := zT_of 551 (by decide +kernel) (by decide +kernel)
theorem mmX5_isDone : zMm mX5_isDone 1 := ⟨kw_43, kc_516, by decide +kernel, by decide⟩
theorem kw_552 : Cond.methodLink "RefitYard$Work" (45 : Nat) ⟨"RefitYard$Work", "behind", "()I"⟩ ∈ zT := zT_of 552 (by decide +kernel) (by decide +kernel)
theorem kw_456 : Cond.instanceMethod ⟨"RefitYard$Work", "behind", "()I"⟩ ∈ zT := zT_of 456 (by decide +kernel) (by decide +kernel)
theorem kw_457 : Cond.selects "RefitYard$Work" ⟨"RefitYard$Work", "behind", "()I"⟩ ⟨"RefitYard$Work", "behind", "()I"⟩ ∈ zT := zT_of 457 (by decide +kernel) (by decide +kernel)
theorem mv_X5_45 : zMV RX5 45 mX5_behind 0 6 16 := ⟨mmX5_behind, ⟨kw_552, kw_456, kw_457⟩, TX5, rfl, by decide, by decide⟩
def mX5_leansOn : zF := (yX5_leansOn, cX5_leansOn, 2, (some .boolean))
theorem kc_365 : Cond.code yX5_leansOn cX5_leansOn 2 (some .boolean) ∈ zT := zT_of 400 (by decide +kernel) (by decide +kernel)
theorem mmX5_leansOn : zMm mX5_leansOn 1 := ⟨kw_43, kc_365, by decide +kernel, by decide⟩
theorem kw_331 : Cond.fieldLink "RefitYard$Work" (49 : Nat) "RefitYard$Work" "needs" "J" ∈ zT := zT_of 331 (by decide +kernel) (by decide +kernel)
theorem fl_X5_49 : zFl RX5 49 6 12 16 .long false := ⟨RX5, TX5, 12, rfl, by decide, rfl, by decide, ui_X5, kw_331, rfl, tyX5_ok, nmX5, rfl, rfl⟩
def mX5_hangsOn : zF := (yX5_hangsOn, cX5_hangsOn, 2, (some .boolean))
theorem kc_392 : Cond.code yX5_hangsOn cX5_hangsOn 2 (some .boolean) ∈ zT := zT_of 427 (by decide +kernel) (by decide +kernel)
theorem mmX5_hangsOn : zMm mX5_hangsOn 1 := ⟨kw_43, kc_392, by decide +kernel, by decide⟩
theorem kw_334 : Cond.fieldLink "RefitYard$Work" (52 : Nat) "RefitYard$Work" "under" "J" ∈ zT := zT_of 334 (by decide +kernel) (by decide +kernel)
theorem fl_X5_52 : zFl RX5 52 6 13 16 .long false := ⟨RX5, TX5, 13, rfl, by decide, rfl, by decide, ui_X5, kw_334, rfl, tyX5_ok, nmX5, rfl, rfl⟩
def mX5_isReady : zF := (yX5_isReady, cX5_isReady, 3, (some .boolean))
theorem kc_542 : Cond.code yX5_isReady cX5_isReady 3 (some .boolean) ∈ zT := zT_of 577 (by decide +kernel) (by decide +kernel)
theorem mmX5_isReady : zMm mX5_isReady 1 := ⟨kw_43, kc_542, by decide +kernel, by decide⟩
theorem kw_578 : Cond.constantLong "RefitYard$Work" (55 : Nat) (-1 : Int64) ∈ zT := zT_of 578 (by decide +kernel) (by decide +kernel)
def mX5_wholeWay : zF := (yX5_wholeWay, cX5_wholeWay, 1, (some .int))
theorem kc_376 : Cond.code yX5_wholeWay cX5_wholeWay 1 (some .int) ∈ zT := zT_of 411 (by decide +kernel) (by decide +kernel)
theorem mmX5_wholeWay : zMm mX5_wholeWay 0 := ⟨kw_43, kc_376, by decide +kernel, by decide⟩
theorem kw_325 : Cond.fieldLink "RefitYard$Work" (57 : Nat) "RefitYard$Work" "early" "I" ∈ zT := zT_of 325 (by decide +kernel) (by decide +kernel)
theorem fl_X5_57 : zFl RX5 57 6 10 16 .int false := ⟨RX5, TX5, 10, rfl, by decide, rfl, by decide, ui_X5, kw_325, rfl, tyX5_ok, nmX5, rfl, rfl⟩
theorem kw_328 : Cond.fieldLink "RefitYard$Work" (60 : Nat) "RefitYard$Work" "tail" "I" ∈ zT := zT_of 328 (by decide +kernel) (by decide +kernel)
theorem fl_X5_60 : zFl RX5 60 6 11 16 .int false := ⟨RX5, TX5, 11, rfl, by decide, rfl, by decide, ui_X5, kw_328, rfl, tyX5_ok, nmX5, rfl, rfl⟩
def mX1_init : zF := (yX1_init, cX1_init, 1, none)
theorem kw_37 : Cond.initialized "RefitYard$Ground" ∈ zT := zT_of 37 (by decide +kernel) (by decide +kernel)
theorem kc_23 : Cond.code yX1_init cX1_init 1 none ∈ zT := zT_of 58 (by decide +kernel) (by decide +kernel)
theorem mmX1_init : zMm mX1_init 0 := ⟨kw_37, kc_23, by decide +kernel, by decide⟩
theorem kw_59 : Cond.methodLink "RefitYard$Ground" (3 : Nat) ⟨"java/lang/Object", "<init>", "()V"⟩ ∈ zT := zT_of 59 (by decide +kernel) (by decide +kernel)
theorem oi_X1_3 : Cond.methodLink RX1 3 Lib.objectInit ∈ zT ∧ Cond.instanceMethod Lib.objectInit ∈ zT ∧ Cond.code Lib.objectInit ⟨#[0xb1]⟩ 1 none ∈ zT := ⟨kw_59, kw_52, zT_of 53 (by decide +kernel) (by decide +kernel)⟩
theorem kw_80 : Cond.arrayClass .int ∈ zT := zT_of 80 (by decide +kernel) (by decide +kernel)
theorem kw_60 : Cond.fieldLink "RefitYard$Ground" (9 : Nat) "RefitYard$Ground" "bears" "[I" ∈ zT := zT_of 60 (by decide +kernel) (by decide +kernel)
theorem ui_X1 : ∀ w ∈ u_ws RX1 TX1 5, w ∈ zT := by decide +kernel
theorem fl_X1_9 : zFl RX1 9 2 0 5 (.array .int) true := ⟨RX1, TX1, 0, rfl, by decide, rfl, by decide, ui_X1, kw_60, rfl, tyX1_ok, nmX1, rfl, rfl⟩
theorem kw_63 : Cond.fieldLink "RefitYard$Ground" (15 : Nat) "RefitYard$Ground" "neighbours" "[I" ∈ zT := zT_of 63 (by decide +kernel) (by decide +kernel)
theorem fl_X1_15 : zFl RX1 15 2 1 5 (.array .int) true := ⟨RX1, TX1, 1, rfl, by decide, rfl, by decide, ui_X1, kw_63, rfl, tyX1_ok, nmX1, rfl, rfl⟩
theorem kw_64 : Cond.fieldLink "RefitYard$Ground" (18 : Nat) "RefitYard$Ground" "barred" "[I" ∈ zT := zT_of 64 (by decide +kernel) (by decide +kernel)
theorem fl_X1_18 : zFl RX1 18 2 2 5 (.array .int) true := ⟨RX1, TX1, 2, rfl, by decide, rfl, by decide, ui_X1, kw_64, rfl, tyX1_ok, nmX1, rfl, rfl⟩
def mX1_addSpace : zF := (yX1_addSpace, cX1_addSpace, 2, (some .int))
theorem kc_176 : Cond.code yX1_addSpace cX1_addSpace 2 (some .int) ∈ zT := zT_of 211 (by decide +kernel) (by decide +kernel)
theorem mmX1_addSpace : zMm mX1_addSpace 1 := ⟨kw_37, kc_176, by decide +kernel, by decide⟩
theorem kw_65 : Cond.fieldLink "RefitYard$Ground" (21 : Nat) "RefitYard$Ground" "spaces" "I" ∈ zT := zT_of 65 (by decide +kernel) (by decide +kernel)
theorem fl_X1_21 : zFl RX1 21 2 3 5 .int false := ⟨RX1, TX1, 3, rfl, by decide, rfl, by decide, ui_X1, kw_65, rfl, tyX1_ok, nmX1, rfl, rfl⟩
def mX1_hasSpace : zF := (yX1_hasSpace, cX1_hasSpace, 2, (some .boolean))
theorem kc_184 : Cond.code yX1_hasSpace cX1_hasSpace 2 (some .boolean) ∈ zT := zT_of 219 (by decide +kernel) (by decide +kernel)
theorem mmX1_hasSpace : zMm mX1_hasSpace 1 := ⟨kw_37, kc_184, by decide +kernel, by decide⟩
def mX1_areNear : zF := (yX1_areNear, cX1_areNear, 3, (some .boolean))
theorem kc_188 : Cond.code yX1_areNear cX1_areNear 3 (some .boolean) ∈ zT := zT_of 223 (by decide +kernel) (by decide +kernel)
theorem mmX1_areNear : zMm mX1_areNear 2 := ⟨kw_37, kc_188, by decide +kernel, by decide⟩
def mX1_join : zF := (yX1_join, cX1_join, 3, none)
theorem kc_192 : Cond.code yX1_join cX1_join 3 none ∈ zT := zT_of 227 (by decide +kernel) (by decide +kernel)
theorem mmX1_join : zMm mX1_join 2 := ⟨kw_37, kc_192, by decide +kernel, by decide⟩
def mX1_isBarred : zF := (yX1_isBarred, cX1_isBarred, 4, (some .boolean))
theorem kc_208 : Cond.code yX1_isBarred cX1_isBarred 4 (some .boolean) ∈ zT := zT_of 243 (by decide +kernel) (by decide +kernel)
theorem mmX1_isBarred : zMm mX1_isBarred 3 := ⟨kw_37, kc_208, by decide +kernel, by decide⟩
def mX1_forbid : zF := (yX1_forbid, cX1_forbid, 4, none)
theorem kc_235 : Cond.code yX1_forbid cX1_forbid 4 none ∈ zT := zT_of 270 (by decide +kernel) (by decide +kernel)
theorem mmX1_forbid : zMm mX1_forbid 3 := ⟨kw_37, kc_235, by decide +kernel, by decide⟩
theorem kw_67 : Cond.fieldLink "RefitYard$Ground" (25 : Nat) "RefitYard$Ground" "bars" "I" ∈ zT := zT_of 67 (by decide +kernel) (by decide +kernel)
theorem fl_X1_25 : zFl RX1 25 2 4 5 .int false := ⟨RX1, TX1, 4, rfl, by decide, rfl, by decide, ui_X1, kw_67, rfl, tyX1_ok, nmX1, rfl, rfl⟩
def mX1_keepsApart : zF := (yX1_keepsApart, cX1_keepsApart, 3, (some .boolean))
theorem kc_204 : Cond.code yX1_keepsApart cX1_keepsApart 3 (some .boolean) ∈ zT := zT_of 239 (by decide +kernel) (by decide +kernel)
theorem mmX1_keepsApart : zMm mX1_keepsApart 2 := ⟨kw_37, kc_204, by decide +kernel, by decide⟩
theorem kw_305 : Cond.fieldLink "RefitYard$Ground" (28 : Nat) "RefitYard$Work" "kind" "I" ∈ zT := zT_of 305 (by decide +kernel) (by decide +kernel)
theorem fl_X1_28 : zFl RX1 28 6 5 16 .int true := ⟨RX5, TX5, 5, rfl, by decide, rfl, by decide, ui_X5, kw_305, rfl, tyX5_ok, nmX5, rfl, rfl⟩
theorem kw_240 : Cond.methodLink "RefitYard$Ground" (33 : Nat) ⟨"RefitYard$Ground", "isBarred", "(III)Z"⟩ ∈ zT := zT_of 240 (by decide +kernel) (by decide +kernel)
theorem kw_241 : Cond.instanceMethod ⟨"RefitYard$Ground", "isBarred", "(III)Z"⟩ ∈ zT := zT_of 241 (by decide +kernel) (by decide +kernel)
theorem kw_242 : Cond.selects "RefitYard$Ground" ⟨"RefitYard$Ground", "isBarred", "(III)Z"⟩ ⟨"RefitYard$Ground", "isBarred", "(III)Z"⟩ ∈ zT := zT_of 242 (by decide +kernel) (by decide +kernel)
theorem mv_X1_33 : zMV RX1 33 mX1_isBarred 3 2 5 := ⟨mmX1_isBarred, ⟨kw_240, kw_241, kw_242⟩, TX1, rfl, by decide, by decide⟩
theorem kw_302 : Cond.fieldLink "RefitYard$Ground" (37 : Nat) "RefitYard$Work" "space" "I" ∈ zT := zT_of 302 (by decide +kernel) (by decide +kernel)
theorem fl_X1_37 : zFl RX1 37 6 4 16 .int true := ⟨RX5, TX5, 4, rfl, by decide, rfl, by decide, ui_X5, kw_302, rfl, tyX5_ok, nmX5, rfl, rfl⟩
theorem kw_244 : Cond.methodLink "RefitYard$Ground" (40 : Nat) ⟨"RefitYard$Ground", "areNear", "(II)Z"⟩ ∈ zT := zT_of 244 (by decide +kernel) (by decide +kernel)
theorem kw_221 : Cond.instanceMethod ⟨"RefitYard$Ground", "areNear", "(II)Z"⟩ ∈ zT := zT_of 221 (by decide +kernel) (by decide +kernel)
theorem kw_222 : Cond.selects "RefitYard$Ground" ⟨"RefitYard$Ground", "areNear", "(II)Z"⟩ ⟨"RefitYard$Ground", "areNear", "(II)Z"⟩ ∈ zT := zT_of 222 (by decide +kernel) (by decide +kernel)
theorem mv_X1_40 : zMV RX1 40 mX1_areNear 2 2 5 := ⟨mmX1_areNear, ⟨kw_244, kw_221, kw_222⟩, TX1, rfl, by decide, by decide⟩
def mX7_init : zF := (yX7_init, cX7_init, 1, none)
theorem kw_42 : Cond.initialized "RefitYardModel" ∈ zT := zT_of 42 (by decide +kernel) (by decide +kernel)
theorem kc_647 : Cond.code yX7_init cX7_init 1 none ∈ zT := zT_of 682 (by decide +kernel) (by decide +kernel)
theorem mmX7_init : zMm mX7_init 0 := ⟨kw_42, kc_647, by decide +kernel, by decide⟩
theorem kw_683 : Cond.methodLink "RefitYardModel" (1 : Nat) ⟨"java/lang/Object", "<init>", "()V"⟩ ∈ zT := zT_of 683 (by decide +kernel) (by decide +kernel)
theorem oi_X7_1 : Cond.methodLink RX7 1 Lib.objectInit ∈ zT ∧ Cond.instanceMethod Lib.objectInit ∈ zT ∧ Cond.code Lib.objectInit ⟨#[0xb1]⟩ 1 none ∈ zT := ⟨kw_683, kw_52, zT_of 53 (by decide +kernel) (by decide +kernel)⟩
theorem kw_686 : Cond.fieldLink "RefitYardModel" (9 : Nat) "RefitYardModel" "bears" "[I" ∈ zT := zT_of 686 (by decide +kernel) (by decide +kernel)
theorem ui_X7 : ∀ w ∈ u_ws RX7 TX7 25, w ∈ zT := by decide +kernel
theorem fl_X7_9 : zFl RX7 9 8 2 25 (.array .int) true := ⟨RX7, TX7, 2, rfl, by decide, rfl, by decide, ui_X7, kw_686, rfl, tyX7_ok, nmX7, rfl, rfl⟩
theorem kw_760 : Cond.arrayClass .boolean ∈ zT := zT_of 760 (by decide +kernel) (by decide +kernel)
theorem kw_687 : Cond.fieldLink "RefitYardModel" (13 : Nat) "RefitYardModel" "isNear" "[Z" ∈ zT := zT_of 687 (by decide +kernel) (by decide +kernel)
theorem fl_X7_13 : zFl RX7 13 8 3 25 (.array .boolean) true := ⟨RX7, TX7, 3, rfl, by decide, rfl, by decide, ui_X7, kw_687, rfl, tyX7_ok, nmX7, rfl, rfl⟩
theorem kw_688 : Cond.fieldLink "RefitYardModel" (17 : Nat) "RefitYardModel" "hands" "[I" ∈ zT := zT_of 688 (by decide +kernel) (by decide +kernel)
theorem fl_X7_17 : zFl RX7 17 8 4 25 (.array .int) true := ⟨RX7, TX7, 4, rfl, by decide, rfl, by decide, ui_X7, kw_688, rfl, tyX7_ok, nmX7, rfl, rfl⟩
theorem kw_689 : Cond.fieldLink "RefitYardModel" (20 : Nat) "RefitYardModel" "goods" "[I" ∈ zT := zT_of 689 (by decide +kernel) (by decide +kernel)
theorem fl_X7_20 : zFl RX7 20 8 5 25 (.array .int) true := ⟨RX7, TX7, 5, rfl, by decide, rfl, by decide, ui_X7, kw_689, rfl, tyX7_ok, nmX7, rfl, rfl⟩
theorem kw_691 : Cond.fieldLink "RefitYardModel" (23 : Nat) "RefitYardModel" "barred" "[I" ∈ zT := zT_of 691 (by decide +kernel) (by decide +kernel)
theorem fl_X7_23 : zFl RX7 23 8 7 25 (.array .int) true := ⟨RX7, TX7, 7, rfl, by decide, rfl, by decide, ui_X7, kw_691, rfl, tyX7_ok, nmX7, rfl, rfl⟩
theorem kw_693 : Cond.fieldLink "RefitYardModel" (26 : Nat) "RefitYardModel" "length" "[I" ∈ zT := zT_of 693 (by decide +kernel) (by decide +kernel)
theorem fl_X7_26 : zFl RX7 26 8 9 25 (.array .int) true := ⟨RX7, TX7, 9, rfl, by decide, rfl, by decide, ui_X7, kw_693, rfl, tyX7_ok, nmX7, rfl, rfl⟩
theorem kw_694 : Cond.fieldLink "RefitYardModel" (29 : Nat) "RefitYardModel" "trade" "[I" ∈ zT := zT_of 694 (by decide +kernel) (by decide +kernel)
theorem fl_X7_29 : zFl RX7 29 8 10 25 (.array .int) true := ⟨RX7, TX7, 10, rfl, by decide, rfl, by decide, ui_X7, kw_694, rfl, tyX7_ok, nmX7, rfl, rfl⟩
theorem kw_695 : Cond.fieldLink "RefitYardModel" (32 : Nat) "RefitYardModel" "asks" "[I" ∈ zT := zT_of 695 (by decide +kernel) (by decide +kernel)
theorem fl_X7_32 : zFl RX7 32 8 11 25 (.array .int) true := ⟨RX7, TX7, 11, rfl, by decide, rfl, by decide, ui_X7, kw_695, rfl, tyX7_ok, nmX7, rfl, rfl⟩
theorem kw_696 : Cond.fieldLink "RefitYardModel" (35 : Nat) "RefitYardModel" "space" "[I" ∈ zT := zT_of 696 (by decide +kernel) (by decide +kernel)
theorem fl_X7_35 : zFl RX7 35 8 12 25 (.array .int) true := ⟨RX7, TX7, 12, rfl, by decide, rfl, by decide, ui_X7, kw_696, rfl, tyX7_ok, nmX7, rfl, rfl⟩
theorem kw_697 : Cond.fieldLink "RefitYardModel" (38 : Nat) "RefitYardModel" "kind" "[I" ∈ zT := zT_of 697 (by decide +kernel) (by decide +kernel)
theorem fl_X7_38 : zFl RX7 38 8 13 25 (.array .int) true := ⟨RX7, TX7, 13, rfl, by decide, rfl, by decide, ui_X7, kw_697, rfl, tyX7_ok, nmX7, rfl, rfl⟩
theorem kw_698 : Cond.fieldLink "RefitYardModel" (41 : Nat) "RefitYardModel" "good" "[I" ∈ zT := zT_of 698 (by decide +kernel) (by decide +kernel)
theorem fl_X7_41 : zFl RX7 41 8 14 25 (.array .int) true := ⟨RX7, TX7, 14, rfl, by decide, rfl, by decide, ui_X7, kw_698, rfl, tyX7_ok, nmX7, rfl, rfl⟩
theorem kw_699 : Cond.fieldLink "RefitYardModel" (44 : Nat) "RefitYardModel" "shift" "[I" ∈ zT := zT_of 699 (by decide +kernel) (by decide +kernel)
theorem fl_X7_44 : zFl RX7 44 8 15 25 (.array .int) true := ⟨RX7, TX7, 15, rfl, by decide, rfl, by decide, ui_X7, kw_699, rfl, tyX7_ok, nmX7, rfl, rfl⟩
theorem kw_700 : Cond.fieldLink "RefitYardModel" (47 : Nat) "RefitYardModel" "again" "[I" ∈ zT := zT_of 700 (by decide +kernel) (by decide +kernel)
theorem fl_X7_47 : zFl RX7 47 8 16 25 (.array .int) true := ⟨RX7, TX7, 16, rfl, by decide, rfl, by decide, ui_X7, kw_700, rfl, tyX7_ok, nmX7, rfl, rfl⟩
theorem kw_701 : Cond.fieldLink "RefitYardModel" (50 : Nat) "RefitYardModel" "needs" "[Z" ∈ zT := zT_of 701 (by decide +kernel) (by decide +kernel)
theorem fl_X7_50 : zFl RX7 50 8 17 25 (.array .boolean) true := ⟨RX7, TX7, 17, rfl, by decide, rfl, by decide, ui_X7, kw_701, rfl, tyX7_ok, nmX7, rfl, rfl⟩
theorem kw_702 : Cond.fieldLink "RefitYardModel" (53 : Nat) "RefitYardModel" "tells" "[Z" ∈ zT := zT_of 702 (by decide +kernel) (by decide +kernel)
theorem fl_X7_53 : zFl RX7 53 8 18 25 (.array .boolean) true := ⟨RX7, TX7, 18, rfl, by decide, rfl, by decide, ui_X7, kw_702, rfl, tyX7_ok, nmX7, rfl, rfl⟩
theorem kw_703 : Cond.fieldLink "RefitYardModel" (56 : Nat) "RefitYardModel" "isTried" "[Z" ∈ zT := zT_of 703 (by decide +kernel) (by decide +kernel)
theorem fl_X7_56 : zFl RX7 56 8 19 25 (.array .boolean) true := ⟨RX7, TX7, 19, rfl, by decide, rfl, by decide, ui_X7, kw_703, rfl, tyX7_ok, nmX7, rfl, rfl⟩
theorem kw_704 : Cond.fieldLink "RefitYardModel" (59 : Nat) "RefitYardModel" "early" "[I" ∈ zT := zT_of 704 (by decide +kernel) (by decide +kernel)
theorem fl_X7_59 : zFl RX7 59 8 20 25 (.array .int) true := ⟨RX7, TX7, 20, rfl, by decide, rfl, by decide, ui_X7, kw_704, rfl, tyX7_ok, nmX7, rfl, rfl⟩
theorem kw_705 : Cond.fieldLink "RefitYardModel" (62 : Nat) "RefitYardModel" "tail" "[I" ∈ zT := zT_of 705 (by decide +kernel) (by decide +kernel)
theorem fl_X7_62 : zFl RX7 62 8 21 25 (.array .int) true := ⟨RX7, TX7, 21, rfl, by decide, rfl, by decide, ui_X7, kw_705, rfl, tyX7_ok, nmX7, rfl, rfl⟩
theorem kw_706 : Cond.fieldLink "RefitYardModel" (65 : Nat) "RefitYardModel" "order" "[I" ∈ zT := zT_of 706 (by decide +kernel) (by decide +kernel)
theorem fl_X7_65 : zFl RX7 65 8 22 25 (.array .int) true := ⟨RX7, TX7, 22, rfl, by decide, rfl, by decide, ui_X7, kw_706, rfl, tyX7_ok, nmX7, rfl, rfl⟩
theorem kw_707 : Cond.fieldLink "RefitYardModel" (68 : Nat) "RefitYardModel" "choice" "[I" ∈ zT := zT_of 707 (by decide +kernel) (by decide +kernel)
theorem fl_X7_68 : zFl RX7 68 8 23 25 (.array .int) true := ⟨RX7, TX7, 23, rfl, by decide, rfl, by decide, ui_X7, kw_707, rfl, tyX7_ok, nmX7, rfl, rfl⟩
theorem kw_708 : Cond.fieldLink "RefitYardModel" (71 : Nat) "RefitYardModel" "bestShift" "[I" ∈ zT := zT_of 708 (by decide +kernel) (by decide +kernel)
theorem fl_X7_71 : zFl RX7 71 8 24 25 (.array .int) true := ⟨RX7, TX7, 24, rfl, by decide, rfl, by decide, ui_X7, kw_708, rfl, tyX7_ok, nmX7, rfl, rfl⟩
def mX7_in : zF := (yX7_in, cX7_in, 3, (some .boolean))
theorem kc_732 : Cond.code yX7_in cX7_in 3 (some .boolean) ∈ zT := zT_of 767 (by decide +kernel) (by decide +kernel)
theorem mmX7_in : zMm mX7_in 3 := ⟨kw_42, kc_732, by decide +kernel, by decide⟩
def mX7_isWork : zF := (yX7_isWork, cX7_isWork, 2, (some .boolean))
theorem kc_765 : Cond.code yX7_isWork cX7_isWork 2 (some .boolean) ∈ zT := zT_of 800 (by decide +kernel) (by decide +kernel)
theorem mmX7_isWork : zMm mX7_isWork 1 := ⟨kw_42, kc_765, by decide +kernel, by decide⟩
theorem kw_692 : Cond.fieldLink "RefitYardModel" (74 : Nat) "RefitYardModel" "works" "I" ∈ zT := zT_of 692 (by decide +kernel) (by decide +kernel)
theorem fl_X7_74 : zFl RX7 74 8 8 25 .int false := ⟨RX7, TX7, 8, rfl, by decide, rfl, by decide, ui_X7, kw_692, rfl, tyX7_ok, nmX7, rfl, rfl⟩
theorem kw_765 : Cond.methodLink "RefitYardModel" (78 : Nat) ⟨"RefitYardModel", "in", "(III)Z"⟩ ∈ zT := zT_of 765 (by decide +kernel) (by decide +kernel)
theorem kw_766 : Cond.static ⟨"RefitYardModel", "in", "(III)Z"⟩ ∈ zT := zT_of 766 (by decide +kernel) (by decide +kernel)
theorem ms_X7_78 : zMS RX7 78 mX7_in 3 := ⟨mmX7_in, kw_765, kw_766⟩
def mX7_space : zF := (yX7_space, cX7_space, 2, (some .int))
theorem kc_729 : Cond.code yX7_space cX7_space 2 (some .int) ∈ zT := zT_of 764 (by decide +kernel) (by decide +kernel)
theorem mmX7_space : zMm mX7_space 1 := ⟨kw_42, kc_729, by decide +kernel, by decide⟩
theorem kw_685 : Cond.fieldLink "RefitYardModel" (82 : Nat) "RefitYardModel" "spaces" "I" ∈ zT := zT_of 685 (by decide +kernel) (by decide +kernel)
theorem fl_X7_82 : zFl RX7 82 8 1 25 .int false := ⟨RX7, TX7, 1, rfl, by decide, rfl, by decide, ui_X7, kw_685, rfl, tyX7_ok, nmX7, rfl, rfl⟩
def mX7_near : zF := (yX7_near, cX7_near, 3, (some .boolean))
theorem kc_736 : Cond.code yX7_near cX7_near 3 (some .boolean) ∈ zT := zT_of 771 (by decide +kernel) (by decide +kernel)
theorem mmX7_near : zMm mX7_near 2 := ⟨kw_42, kc_736, by decide +kernel, by decide⟩
def mX7_gang : zF := (yX7_gang, cX7_gang, 3, (some .boolean))
theorem kc_740 : Cond.code yX7_gang cX7_gang 3 (some .boolean) ∈ zT := zT_of 775 (by decide +kernel) (by decide +kernel)
theorem mmX7_gang : zMm mX7_gang 2 := ⟨kw_42, kc_740, by decide +kernel, by decide⟩
def mX7_good : zF := (yX7_good, cX7_good, 3, (some .boolean))
theorem kc_744 : Cond.code yX7_good cX7_good 3 (some .boolean) ∈ zT := zT_of 779 (by decide +kernel) (by decide +kernel)
theorem mmX7_good : zMm mX7_good 2 := ⟨kw_42, kc_744, by decide +kernel, by decide⟩
def mX7_bar : zF := (yX7_bar, cX7_bar, 4, (some .boolean))
theorem kc_748 : Cond.code yX7_bar cX7_bar 4 (some .boolean) ∈ zT := zT_of 783 (by decide +kernel) (by decide +kernel)
theorem mmX7_bar : zMm mX7_bar 3 := ⟨kw_42, kc_748, by decide +kernel, by decide⟩
theorem kw_690 : Cond.fieldLink "RefitYardModel" (85 : Nat) "RefitYardModel" "bars" "I" ∈ zT := zT_of 690 (by decide +kernel) (by decide +kernel)
theorem fl_X7_85 : zFl RX7 85 8 6 25 .int false := ⟨RX7, TX7, 6, rfl, by decide, rfl, by decide, ui_X7, kw_690, rfl, tyX7_ok, nmX7, rfl, rfl⟩
def mX7_work : zF := (yX7_work, cX7_work, 8, (some .int))
theorem kc_752 : Cond.code yX7_work cX7_work 8 (some .int) ∈ zT := zT_of 787 (by decide +kernel) (by decide +kernel)
theorem mmX7_work : zMm mX7_work 2 := ⟨kw_42, kc_752, by decide +kernel, by decide⟩
theorem kw_788 : Cond.constant "RefitYardModel" (88 : Nat) (100000 : Int32) ∈ zT := zT_of 788 (by decide +kernel) (by decide +kernel)
def mX7_isPut : zF := (yX7_isPut, cX7_isPut, 2, (some .boolean))
theorem kc_773 : Cond.code yX7_isPut cX7_isPut 2 (some .boolean) ∈ zT := zT_of 808 (by decide +kernel) (by decide +kernel)
theorem mmX7_isPut : zMm mX7_isPut 1 := ⟨kw_42, kc_773, by decide +kernel, by decide⟩
def mX7_isBegun : zF := (yX7_isBegun, cX7_isBegun, 2, (some .boolean))
theorem kc_769 : Cond.code yX7_isBegun cX7_isBegun 2 (some .boolean) ∈ zT := zT_of 804 (by decide +kernel) (by decide +kernel)
theorem mmX7_isBegun : zMm mX7_isBegun 1 := ⟨kw_42, kc_769, by decide +kernel, by decide⟩
theorem kw_805 : Cond.methodLink "RefitYardModel" (89 : Nat) ⟨"RefitYardModel", "isPut", "(I)Z"⟩ ∈ zT := zT_of 805 (by decide +kernel) (by decide +kernel)
theorem kw_807 : Cond.instanceMethod ⟨"RefitYardModel", "isPut", "(I)Z"⟩ ∈ zT := zT_of 807 (by decide +kernel) (by decide +kernel)
theorem kw_22 : Cond.selects "RefitYardModel" ⟨"RefitYardModel", "isPut", "(I)Z"⟩ ⟨"RefitYardModel", "isPut", "(I)Z"⟩ ∈ zT := zT_of 22 (by decide +kernel) (by decide +kernel)
theorem mv_X7_89 : zMV RX7 89 mX7_isPut 1 8 25 := ⟨mmX7_isPut, ⟨kw_805, kw_807, kw_22⟩, TX7, rfl, by decide, by decide⟩
theorem kw_684 : Cond.fieldLink "RefitYardModel" (93 : Nat) "RefitYardModel" "now" "I" ∈ zT := zT_of 684 (by decide +kernel) (by decide +kernel)
theorem fl_X7_93 : zFl RX7 93 8 0 25 .int false := ⟨RX7, TX7, 0, rfl, by decide, rfl, by decide, ui_X7, kw_684, rfl, tyX7_ok, nmX7, rfl, rfl⟩
def mX7_endOf : zF := (yX7_endOf, cX7_endOf, 2, (some .int))
theorem kc_801 : Cond.code yX7_endOf cX7_endOf 2 (some .int) ∈ zT := zT_of 836 (by decide +kernel) (by decide +kernel)
theorem mmX7_endOf : zMm mX7_endOf 1 := ⟨kw_42, kc_801, by decide +kernel, by decide⟩
def mX7_isDone : zF := (yX7_isDone, cX7_isDone, 2, (some .boolean))
theorem kc_868 : Cond.code yX7_isDone cX7_isDone 2 (some .boolean) ∈ zT := zT_of 903 (by decide +kernel) (by decide +kernel)
theorem mmX7_isDone : zMm mX7_isDone 1 := ⟨kw_42, kc_868, by decide +kernel, by decide⟩
theorem kw_833 : Cond.methodLink "RefitYardModel" (96 : Nat) ⟨"RefitYardModel", "endOf", "(I)I"⟩ ∈ zT := zT_of 833 (by decide +kernel) (by decide +kernel)
theorem kw_835 : Cond.instanceMethod ⟨"RefitYardModel", "endOf", "(I)I"⟩ ∈ zT := zT_of 835 (by decide +kernel) (by decide +kernel)
theorem kw_25 : Cond.selects "RefitYardModel" ⟨"RefitYardModel", "endOf", "(I)I"⟩ ⟨"RefitYardModel", "endOf", "(I)I"⟩ ∈ zT := zT_of 25 (by decide +kernel) (by decide +kernel)
theorem mv_X7_96 : zMV RX7 96 mX7_endOf 1 8 25 := ⟨mmX7_endOf, ⟨kw_833, kw_835, kw_25⟩, TX7, rfl, by decide, by decide⟩
def mX7_hangs : zF := (yX7_hangs, cX7_hangs, 7, (some .boolean))
theorem kc_777 : Cond.code yX7_hangs cX7_hangs 7 (some .boolean) ∈ zT := zT_of 812 (by decide +kernel) (by decide +kernel)
theorem mmX7_hangs : zMm mX7_hangs 2 := ⟨kw_42, kc_777, by decide +kernel, by decide⟩
def mX7_canNeed : zF := (yX7_canNeed, cX7_canNeed, 3, (some .boolean))
theorem kc_761 : Cond.code yX7_canNeed cX7_canNeed 3 (some .boolean) ∈ zT := zT_of 796 (by decide +kernel) (by decide +kernel)
theorem mmX7_canNeed : zMm mX7_canNeed 2 := ⟨kw_42, kc_761, by decide +kernel, by decide⟩
theorem kw_797 : Cond.methodLink "RefitYardModel" (100 : Nat) ⟨"RefitYardModel", "isWork", "(I)Z"⟩ ∈ zT := zT_of 797 (by decide +kernel) (by decide +kernel)
theorem kw_799 : Cond.instanceMethod ⟨"RefitYardModel", "isWork", "(I)Z"⟩ ∈ zT := zT_of 799 (by decide +kernel) (by decide +kernel)
theorem kw_20 : Cond.selects "RefitYardModel" ⟨"RefitYardModel", "isWork", "(I)Z"⟩ ⟨"RefitYardModel", "isWork", "(I)Z"⟩ ∈ zT := zT_of 20 (by decide +kernel) (by decide +kernel)
theorem mv_X7_100 : zMV RX7 100 mX7_isWork 1 8 25 := ⟨mmX7_isWork, ⟨kw_797, kw_799, kw_20⟩, TX7, rfl, by decide, by decide⟩
theorem kw_801 : Cond.methodLink "RefitYardModel" (103 : Nat) ⟨"RefitYardModel", "isBegun", "(I)Z"⟩ ∈ zT := zT_of 801 (by decide +kernel) (by decide +kernel)
theorem kw_803 : Cond.instanceMethod ⟨"RefitYardModel", "isBegun", "(I)Z"⟩ ∈ zT := zT_of 803 (by decide +kernel) (by decide +kernel)
theorem kw_21 : Cond.selects "RefitYardModel" ⟨"RefitYardModel", "isBegun", "(I)Z"⟩ ⟨"RefitYardModel", "isBegun", "(I)Z"⟩ ∈ zT := zT_of 21 (by decide +kernel) (by decide +kernel)
theorem mv_X7_103 : zMV RX7 103 mX7_isBegun 1 8 25 := ⟨mmX7_isBegun, ⟨kw_801, kw_803, kw_21⟩, TX7, rfl, by decide, by decide⟩
theorem kw_809 : Cond.methodLink "RefitYardModel" (106 : Nat) ⟨"RefitYardModel", "hangs", "(II)Z"⟩ ∈ zT := zT_of 809 (by decide +kernel) (by decide +kernel)
theorem kw_811 : Cond.instanceMethod ⟨"RefitYardModel", "hangs", "(II)Z"⟩ ∈ zT := zT_of 811 (by decide +kernel) (by decide +kernel)
theorem kw_23 : Cond.selects "RefitYardModel" ⟨"RefitYardModel", "hangs", "(II)Z"⟩ ⟨"RefitYardModel", "hangs", "(II)Z"⟩ ∈ zT := zT_of 23 (by decide +kernel) (by decide +kernel)
theorem mv_X7_106 : zMV RX7 106 mX7_hangs 2 8 25 := ⟨mmX7_hangs, ⟨kw_809, kw_811, kw_23⟩, TX7, rfl, by decide, by decide⟩
def mX7_need : zF := (yX7_need, cX7_need, 3, (some .boolean))
theorem kc_757 : Cond.code yX7_need cX7_need 3 (some .boolean) ∈ zT := zT_of 792 (by decide +kernel) (by decide +kernel)
theorem mmX7_need : zMm mX7_need 2 := ⟨kw_42, kc_757, by decide +kernel, by decide⟩
theorem kw_793 : Cond.methodLink "RefitYardModel" (110 : Nat) ⟨"RefitYardModel", "canNeed", "(II)Z"⟩ ∈ zT := zT_of 793 (by decide +kernel) (by decide +kernel)
theorem kw_795 : Cond.instanceMethod ⟨"RefitYardModel", "canNeed", "(II)Z"⟩ ∈ zT := zT_of 795 (by decide +kernel) (by decide +kernel)
theorem kw_19 : Cond.selects "RefitYardModel" ⟨"RefitYardModel", "canNeed", "(II)Z"⟩ ⟨"RefitYardModel", "canNeed", "(II)Z"⟩ ∈ zT := zT_of 19 (by decide +kernel) (by decide +kernel)
theorem mv_X7_110 : zMV RX7 110 mX7_canNeed 2 8 25 := ⟨mmX7_canNeed, ⟨kw_793, kw_795, kw_19⟩, TX7, rfl, by decide, by decide⟩
def mX7_tells : zF := (yX7_tells, cX7_tells, 3, (some .boolean))
theorem kc_781 : Cond.code yX7_tells cX7_tells 3 (some .boolean) ∈ zT := zT_of 816 (by decide +kernel) (by decide +kernel)
theorem mmX7_tells : zMm mX7_tells 2 := ⟨kw_42, kc_781, by decide +kernel, by decide⟩
def mX7_put : zF := (yX7_put, cX7_put, 3, (some .boolean))
theorem kc_785 : Cond.code yX7_put cX7_put 3 (some .boolean) ∈ zT := zT_of 820 (by decide +kernel) (by decide +kernel)
theorem mmX7_put : zMm mX7_put 2 := ⟨kw_42, kc_785, by decide +kernel, by decide⟩
def mX7_take : zF := (yX7_take, cX7_take, 2, (some .boolean))
theorem kc_789 : Cond.code yX7_take cX7_take 2 (some .boolean) ∈ zT := zT_of 824 (by decide +kernel) (by decide +kernel)
theorem mmX7_take : zMm mX7_take 1 := ⟨kw_42, kc_789, by decide +kernel, by decide⟩
def mX7_isIn : zF := (yX7_isIn, cX7_isIn, 3, (some .boolean))
theorem kc_809 : Cond.code yX7_isIn cX7_isIn 3 (some .boolean) ∈ zT := zT_of 844 (by decide +kernel) (by decide +kernel)
theorem mmX7_isIn : zMm mX7_isIn 2 := ⟨kw_42, kc_809, by decide +kernel, by decide⟩
def mX7_isBarred : zF := (yX7_isBarred, cX7_isBarred, 4, (some .boolean))
theorem kc_813 : Cond.code yX7_isBarred cX7_isBarred 4 (some .boolean) ∈ zT := zT_of 848 (by decide +kernel) (by decide +kernel)
theorem mmX7_isBarred : zMm mX7_isBarred 2 := ⟨kw_42, kc_813, by decide +kernel, by decide⟩
def mX7_breaks : zF := (yX7_breaks, cX7_breaks, 4, (some .int))
theorem kc_797 : Cond.code yX7_breaks cX7_breaks 4 (some .int) ∈ zT := zT_of 832 (by decide +kernel) (by decide +kernel)
theorem mmX7_breaks : zMm mX7_breaks 2 := ⟨kw_42, kc_797, by decide +kernel, by decide⟩
def mX7_isBroken : zF := (yX7_isBroken, cX7_isBroken, 6, (some .boolean))
theorem kc_805 : Cond.code yX7_isBroken cX7_isBroken 6 (some .boolean) ∈ zT := zT_of 840 (by decide +kernel) (by decide +kernel)
theorem mmX7_isBroken : zMm mX7_isBroken 3 := ⟨kw_42, kc_805, by decide +kernel, by decide⟩
theorem kw_837 : Cond.methodLink "RefitYardModel" (113 : Nat) ⟨"RefitYardModel", "isBroken", "(III)Z"⟩ ∈ zT := zT_of 837 (by decide +kernel) (by decide +kernel)
theorem kw_839 : Cond.instanceMethod ⟨"RefitYardModel", "isBroken", "(III)Z"⟩ ∈ zT := zT_of 839 (by decide +kernel) (by decide +kernel)
theorem kw_26 : Cond.selects "RefitYardModel" ⟨"RefitYardModel", "isBroken", "(III)Z"⟩ ⟨"RefitYardModel", "isBroken", "(III)Z"⟩ ∈ zT := zT_of 26 (by decide +kernel) (by decide +kernel)
theorem mv_X7_113 : zMV RX7 113 mX7_isBroken 3 8 25 := ⟨mmX7_isBroken, ⟨kw_837, kw_839, kw_26⟩, TX7, rfl, by decide, by decide⟩
theorem kw_841 : Cond.methodLink "RefitYardModel" (116 : Nat) ⟨"RefitYardModel", "isIn", "(II)Z"⟩ ∈ zT := zT_of 841 (by decide +kernel) (by decide +kernel)
theorem kw_843 : Cond.instanceMethod ⟨"RefitYardModel", "isIn", "(II)Z"⟩ ∈ zT := zT_of 843 (by decide +kernel) (by decide +kernel)
theorem kw_27 : Cond.selects "RefitYardModel" ⟨"RefitYardModel", "isIn", "(II)Z"⟩ ⟨"RefitYardModel", "isIn", "(II)Z"⟩ ∈ zT := zT_of 27 (by decide +kernel) (by decide +kernel)
theorem mv_X7_116 : zMV RX7 116 mX7_isIn 2 8 25 := ⟨mmX7_isIn, ⟨kw_841, kw_843, kw_27⟩, TX7, rfl, by decide, by decide⟩
theorem kw_845 : Cond.methodLink "RefitYardModel" (119 : Nat) ⟨"RefitYardModel", "isBarred", "(II)Z"⟩ ∈ zT := zT_of 845 (by decide +kernel) (by decide +kernel)
theorem kw_847 : Cond.instanceMethod ⟨"RefitYardModel", "isBarred", "(II)Z"⟩ ∈ zT := zT_of 847 (by decide +kernel) (by decide +kernel)
theorem kw_28 : Cond.selects "RefitYardModel" ⟨"RefitYardModel", "isBarred", "(II)Z"⟩ ⟨"RefitYardModel", "isBarred", "(II)Z"⟩ ∈ zT := zT_of 28 (by decide +kernel) (by decide +kernel)
theorem mv_X7_119 : zMV RX7 119 mX7_isBarred 2 8 25 := ⟨mmX7_isBarred, ⟨kw_845, kw_847, kw_28⟩, TX7, rfl, by decide, by decide⟩
def mX7_isBad : zF := (yX7_isBad, cX7_isBad, 4, (some .boolean))
theorem kc_821 : Cond.code yX7_isBad cX7_isBad 4 (some .boolean) ∈ zT := zT_of 856 (by decide +kernel) (by decide +kernel)
theorem mmX7_isBad : zMm mX7_isBad 1 := ⟨kw_42, kc_821, by decide +kernel, by decide⟩
theorem kw_829 : Cond.methodLink "RefitYardModel" (122 : Nat) ⟨"RefitYardModel", "breaks", "(II)I"⟩ ∈ zT := zT_of 829 (by decide +kernel) (by decide +kernel)
theorem kw_831 : Cond.instanceMethod ⟨"RefitYardModel", "breaks", "(II)I"⟩ ∈ zT := zT_of 831 (by decide +kernel) (by decide +kernel)
theorem kw_24 : Cond.selects "RefitYardModel" ⟨"RefitYardModel", "breaks", "(II)I"⟩ ⟨"RefitYardModel", "breaks", "(II)I"⟩ ∈ zT := zT_of 24 (by decide +kernel) (by decide +kernel)
theorem mv_X7_122 : zMV RX7 122 mX7_breaks 2 8 25 := ⟨mmX7_breaks, ⟨kw_829, kw_831, kw_24⟩, TX7, rfl, by decide, by decide⟩
def mX7_why : zF := (yX7_why, cX7_why, 5, (some .int))
theorem kc_793 : Cond.code yX7_why cX7_why 5 (some .int) ∈ zT := zT_of 828 (by decide +kernel) (by decide +kernel)
theorem mmX7_why : zMm mX7_why 1 := ⟨kw_42, kc_793, by decide +kernel, by decide⟩
def mX7_may : zF := (yX7_may, cX7_may, 6, (some .boolean))
theorem kc_817 : Cond.code yX7_may cX7_may 6 (some .boolean) ∈ zT := zT_of 852 (by decide +kernel) (by decide +kernel)
theorem mmX7_may : zMm mX7_may 2 := ⟨kw_42, kc_817, by decide +kernel, by decide⟩
theorem kw_853 : Cond.methodLink "RefitYardModel" (126 : Nat) ⟨"RefitYardModel", "isBad", "(I)Z"⟩ ∈ zT := zT_of 853 (by decide +kernel) (by decide +kernel)
theorem kw_855 : Cond.instanceMethod ⟨"RefitYardModel", "isBad", "(I)Z"⟩ ∈ zT := zT_of 855 (by decide +kernel) (by decide +kernel)
theorem kw_29 : Cond.selects "RefitYardModel" ⟨"RefitYardModel", "isBad", "(I)Z"⟩ ⟨"RefitYardModel", "isBad", "(I)Z"⟩ ∈ zT := zT_of 29 (by decide +kernel) (by decide +kernel)
theorem mv_X7_126 : zMV RX7 126 mX7_isBad 1 8 25 := ⟨mmX7_isBad, ⟨kw_853, kw_855, kw_29⟩, TX7, rfl, by decide, by decide⟩
def mX7_first : zF := (yX7_first, cX7_first, 4, (some .int))
theorem kc_825 : Cond.code yX7_first cX7_first 4 (some .int) ∈ zT := zT_of 860 (by decide +kernel) (by decide +kernel)
theorem mmX7_first : zMm mX7_first 2 := ⟨kw_42, kc_825, by decide +kernel, by decide⟩
theorem kw_861 : Cond.methodLink "RefitYardModel" (129 : Nat) ⟨"RefitYardModel", "may", "(II)Z"⟩ ∈ zT := zT_of 861 (by decide +kernel) (by decide +kernel)
theorem kw_850 : Cond.instanceMethod ⟨"RefitYardModel", "may", "(II)Z"⟩ ∈ zT := zT_of 850 (by decide +kernel) (by decide +kernel)
theorem kw_851 : Cond.selects "RefitYardModel" ⟨"RefitYardModel", "may", "(II)Z"⟩ ⟨"RefitYardModel", "may", "(II)Z"⟩ ∈ zT := zT_of 851 (by decide +kernel) (by decide +kernel)
theorem mv_X7_129 : zMV RX7 129 mX7_may 2 8 25 := ⟨mmX7_may, ⟨kw_861, kw_850, kw_851⟩, TX7, rfl, by decide, by decide⟩
def mX7_way : zF := (yX7_way, cX7_way, 4, (some .int))
theorem kc_834 : Cond.code yX7_way cX7_way 4 (some .int) ∈ zT := zT_of 869 (by decide +kernel) (by decide +kernel)
theorem mmX7_way : zMm mX7_way 0 := ⟨kw_42, kc_834, by decide +kernel, by decide⟩
def mX7_slack : zF := (yX7_slack, cX7_slack, 3, (some .int))
theorem kc_842 : Cond.code yX7_slack cX7_slack 3 (some .int) ∈ zT := zT_of 877 (by decide +kernel) (by decide +kernel)
theorem mmX7_slack : zMm mX7_slack 2 := ⟨kw_42, kc_842, by decide +kernel, by decide⟩
def mX7_bound : zF := (yX7_bound, cX7_bound, 6, (some .int))
theorem kc_830 : Cond.code yX7_bound cX7_bound 6 (some .int) ∈ zT := zT_of 865 (by decide +kernel) (by decide +kernel)
theorem mmX7_bound : zMm mX7_bound 0 := ⟨kw_42, kc_830, by decide +kernel, by decide⟩
theorem kw_866 : Cond.methodLink "RefitYardModel" (132 : Nat) ⟨"RefitYardModel", "way", "()I"⟩ ∈ zT := zT_of 866 (by decide +kernel) (by decide +kernel)
theorem kw_868 : Cond.instanceMethod ⟨"RefitYardModel", "way", "()I"⟩ ∈ zT := zT_of 868 (by decide +kernel) (by decide +kernel)
theorem kw_30 : Cond.selects "RefitYardModel" ⟨"RefitYardModel", "way", "()I"⟩ ⟨"RefitYardModel", "way", "()I"⟩ ∈ zT := zT_of 30 (by decide +kernel) (by decide +kernel)
theorem mv_X7_132 : zMV RX7 132 mX7_way 0 8 25 := ⟨mmX7_way, ⟨kw_866, kw_868, kw_30⟩, TX7, rfl, by decide, by decide⟩
def mX7_isReady : zF := (yX7_isReady, cX7_isReady, 4, (some .boolean))
theorem kc_846 : Cond.code yX7_isReady cX7_isReady 4 (some .boolean) ∈ zT := zT_of 881 (by decide +kernel) (by decide +kernel)
theorem mmX7_isReady : zMm mX7_isReady 1 := ⟨kw_42, kc_846, by decide +kernel, by decide⟩
def mX7_plan : zF := (yX7_plan, cX7_plan, 8, (some .int))
theorem kc_838 : Cond.code yX7_plan cX7_plan 8 (some .int) ∈ zT := zT_of 873 (by decide +kernel) (by decide +kernel)
theorem mmX7_plan : zMm mX7_plan 0 := ⟨kw_42, kc_838, by decide +kernel, by decide⟩
theorem kw_874 : Cond.methodLink "RefitYardModel" (136 : Nat) ⟨"RefitYardModel", "slack", "(II)I"⟩ ∈ zT := zT_of 874 (by decide +kernel) (by decide +kernel)
theorem kw_876 : Cond.instanceMethod ⟨"RefitYardModel", "slack", "(II)I"⟩ ∈ zT := zT_of 876 (by decide +kernel) (by decide +kernel)
theorem kw_31 : Cond.selects "RefitYardModel" ⟨"RefitYardModel", "slack", "(II)I"⟩ ⟨"RefitYardModel", "slack", "(II)I"⟩ ∈ zT := zT_of 31 (by decide +kernel) (by decide +kernel)
theorem mv_X7_136 : zMV RX7 136 mX7_slack 2 8 25 := ⟨mmX7_slack, ⟨kw_874, kw_876, kw_31⟩, TX7, rfl, by decide, by decide⟩
theorem kw_882 : Cond.methodLink "RefitYardModel" (142 : Nat) ⟨"RefitYardModel", "first", "(II)I"⟩ ∈ zT := zT_of 882 (by decide +kernel) (by decide +kernel)
theorem kw_858 : Cond.instanceMethod ⟨"RefitYardModel", "first", "(II)I"⟩ ∈ zT := zT_of 858 (by decide +kernel) (by decide +kernel)
theorem kw_859 : Cond.selects "RefitYardModel" ⟨"RefitYardModel", "first", "(II)I"⟩ ⟨"RefitYardModel", "first", "(II)I"⟩ ∈ zT := zT_of 859 (by decide +kernel) (by decide +kernel)
theorem mv_X7_142 : zMV RX7 142 mX7_first 2 8 25 := ⟨mmX7_first, ⟨kw_882, kw_858, kw_859⟩, TX7, rfl, by decide, by decide⟩
theorem kw_878 : Cond.methodLink "RefitYardModel" (139 : Nat) ⟨"RefitYardModel", "isReady", "(I)Z"⟩ ∈ zT := zT_of 878 (by decide +kernel) (by decide +kernel)
theorem kw_880 : Cond.instanceMethod ⟨"RefitYardModel", "isReady", "(I)Z"⟩ ∈ zT := zT_of 880 (by decide +kernel) (by decide +kernel)
theorem kw_32 : Cond.selects "RefitYardModel" ⟨"RefitYardModel", "isReady", "(I)Z"⟩ ⟨"RefitYardModel", "isReady", "(I)Z"⟩ ∈ zT := zT_of 32 (by decide +kernel) (by decide +kernel)
theorem mv_X7_139 : zMV RX7 139 mX7_isReady 1 8 25 := ⟨mmX7_isReady, ⟨kw_878, kw_880, kw_32⟩, TX7, rfl, by decide, by decide⟩
def mX7_end : zF := (yX7_end, cX7_end, 3, (some .int))
theorem kc_851 : Cond.code yX7_end cX7_end 3 (some .int) ∈ zT := zT_of 886 (by decide +kernel) (by decide +kernel)
theorem mmX7_end : zMm mX7_end 0 := ⟨kw_42, kc_851, by decide +kernel, by decide⟩
def mX7_best : zF := (yX7_best, cX7_best, 5, (some .int))
theorem kc_855 : Cond.code yX7_best cX7_best 5 (some .int) ∈ zT := zT_of 890 (by decide +kernel) (by decide +kernel)
theorem mmX7_best : zMm mX7_best 0 := ⟨kw_42, kc_855, by decide +kernel, by decide⟩
theorem kw_891 : Cond.methodLink "RefitYardModel" (145 : Nat) ⟨"RefitYardModel", "end", "()I"⟩ ∈ zT := zT_of 891 (by decide +kernel) (by decide +kernel)
theorem kw_884 : Cond.instanceMethod ⟨"RefitYardModel", "end", "()I"⟩ ∈ zT := zT_of 884 (by decide +kernel) (by decide +kernel)
theorem kw_885 : Cond.selects "RefitYardModel" ⟨"RefitYardModel", "end", "()I"⟩ ⟨"RefitYardModel", "end", "()I"⟩ ∈ zT := zT_of 885 (by decide +kernel) (by decide +kernel)
theorem mv_X7_145 : zMV RX7 145 mX7_end 0 8 25 := ⟨mmX7_end, ⟨kw_891, kw_884, kw_885⟩, TX7, rfl, by decide, by decide⟩
def mX7_go : zF := (yX7_go, cX7_go, 2, (some .int))
theorem kc_860 : Cond.code yX7_go cX7_go 2 (some .int) ∈ zT := zT_of 895 (by decide +kernel) (by decide +kernel)
theorem mmX7_go : zMm mX7_go 1 := ⟨kw_42, kc_860, by decide +kernel, by decide⟩
def mX7_fail : zF := (yX7_fail, cX7_fail, 6, (some .int))
theorem kc_864 : Cond.code yX7_fail cX7_fail 6 (some .int) ∈ zT := zT_of 899 (by decide +kernel) (by decide +kernel)
theorem mmX7_fail : zMm mX7_fail 1 := ⟨kw_42, kc_864, by decide +kernel, by decide⟩
theorem kw_900 : Cond.methodLink "RefitYardModel" (148 : Nat) ⟨"RefitYardModel", "isDone", "(I)Z"⟩ ∈ zT := zT_of 900 (by decide +kernel) (by decide +kernel)
theorem kw_902 : Cond.instanceMethod ⟨"RefitYardModel", "isDone", "(I)Z"⟩ ∈ zT := zT_of 902 (by decide +kernel) (by decide +kernel)
theorem kw_33 : Cond.selects "RefitYardModel" ⟨"RefitYardModel", "isDone", "(I)Z"⟩ ⟨"RefitYardModel", "isDone", "(I)Z"⟩ ∈ zT := zT_of 33 (by decide +kernel) (by decide +kernel)
theorem mv_X7_148 : zMV RX7 148 mX7_isDone 1 8 25 := ⟨mmX7_isDone, ⟨kw_900, kw_902, kw_33⟩, TX7, rfl, by decide, by decide⟩
def mX7_more : zF := (yX7_more, cX7_more, 3, (some .int))
theorem kc_872 : Cond.code yX7_more cX7_more 3 (some .int) ∈ zT := zT_of 907 (by decide +kernel) (by decide +kernel)
theorem mmX7_more : zMm mX7_more 2 := ⟨kw_42, kc_872, by decide +kernel, by decide⟩
def mX7_stateOf : zF := (yX7_stateOf, cX7_stateOf, 2, (some .int))
theorem kc_880 : Cond.code yX7_stateOf cX7_stateOf 2 (some .int) ∈ zT := zT_of 915 (by decide +kernel) (by decide +kernel)
theorem mmX7_stateOf : zMm mX7_stateOf 1 := ⟨kw_42, kc_880, by decide +kernel, by decide⟩
def mX7_told : zF := (yX7_told, cX7_told, 6, (some .int))
theorem kc_876 : Cond.code yX7_told cX7_told 6 (some .int) ∈ zT := zT_of 911 (by decide +kernel) (by decide +kernel)
theorem mmX7_told : zMm mX7_told 2 := ⟨kw_42, kc_876, by decide +kernel, by decide⟩
theorem kw_912 : Cond.methodLink "RefitYardModel" (151 : Nat) ⟨"RefitYardModel", "stateOf", "(I)I"⟩ ∈ zT := zT_of 912 (by decide +kernel) (by decide +kernel)
theorem kw_914 : Cond.instanceMethod ⟨"RefitYardModel", "stateOf", "(I)I"⟩ ∈ zT := zT_of 914 (by decide +kernel) (by decide +kernel)
theorem kw_34 : Cond.selects "RefitYardModel" ⟨"RefitYardModel", "stateOf", "(I)I"⟩ ⟨"RefitYardModel", "stateOf", "(I)I"⟩ ∈ zT := zT_of 34 (by decide +kernel) (by decide +kernel)
theorem mv_X7_151 : zMV RX7 151 mX7_stateOf 1 8 25 := ⟨mmX7_stateOf, ⟨kw_912, kw_914, kw_34⟩, TX7, rfl, by decide, by decide⟩
def mX7_load : zF := (yX7_load, cX7_load, 5, (some .int))
theorem kc_884 : Cond.code yX7_load cX7_load 5 (some .int) ∈ zT := zT_of 919 (by decide +kernel) (by decide +kernel)
theorem mmX7_load : zMm mX7_load 2 := ⟨kw_42, kc_884, by decide +kernel, by decide⟩
def mX7_count : zF := (yX7_count, cX7_count, 4, (some .int))
theorem kc_888 : Cond.code yX7_count cX7_count 4 (some .int) ∈ zT := zT_of 923 (by decide +kernel) (by decide +kernel)
theorem mmX7_count : zMm mX7_count 1 := ⟨kw_42, kc_888, by decide +kernel, by decide⟩
def mX0_init : zF := (yX0_init, cX0_init, 1, none)
theorem kw_39 : Cond.initialized "RefitYard$Board" ∈ zT := zT_of 39 (by decide +kernel) (by decide +kernel)
theorem kc_88 : Cond.code yX0_init cX0_init 1 none ∈ zT := zT_of 123 (by decide +kernel) (by decide +kernel)
theorem mmX0_init : zMm mX0_init 0 := ⟨kw_39, kc_88, by decide +kernel, by decide⟩
theorem kw_124 : Cond.methodLink "RefitYard$Board" (3 : Nat) ⟨"java/lang/Object", "<init>", "()V"⟩ ∈ zT := zT_of 124 (by decide +kernel) (by decide +kernel)
theorem oi_X0_3 : Cond.methodLink RX0 3 Lib.objectInit ∈ zT ∧ Cond.instanceMethod Lib.objectInit ∈ zT ∧ Cond.code Lib.objectInit ⟨#[0xb1]⟩ 1 none ∈ zT := ⟨kw_124, kw_52, zT_of 53 (by decide +kernel) (by decide +kernel)⟩
theorem kw_118 : Cond.arrayClass .long ∈ zT := zT_of 118 (by decide +kernel) (by decide +kernel)
theorem kw_127 : Cond.fieldLink "RefitYard$Board" (9 : Nat) "RefitYard$Board" "within" "[J" ∈ zT := zT_of 127 (by decide +kernel) (by decide +kernel)
theorem ui_X0 : ∀ w ∈ u_ws RX0 TX0 3, w ∈ zT := by decide +kernel
theorem fl_X0_9 : zFl RX0 9 1 0 3 (.array .long) true := ⟨RX0, TX0, 0, rfl, by decide, rfl, by decide, ui_X0, kw_127, rfl, tyX0_ok, nmX0, rfl, rfl⟩
theorem kw_125 : Cond.classLink "RefitYard$Board" (15 : Nat) "[[I" ∈ zT := zT_of 125 (by decide +kernel) (by decide +kernel)
theorem kw_130 : Cond.fieldLink "RefitYard$Board" (17 : Nat) "RefitYard$Board" "hands" "[[I" ∈ zT := zT_of 130 (by decide +kernel) (by decide +kernel)
theorem fl_X0_17 : zFl RX0 17 1 1 3 (.array (.array .int)) true := ⟨RX0, TX0, 1, rfl, by decide, rfl, by decide, ui_X0, kw_130, rfl, tyX0_ok, nmX0, rfl, rfl⟩
def mX0_lay : zF := (yX0_lay, cX0_lay, 5, none)
theorem kc_428 : Cond.code yX0_lay cX0_lay 5 none ∈ zT := zT_of 463 (by decide +kernel) (by decide +kernel)
theorem mmX0_lay : zMm mX0_lay 2 := ⟨kw_39, kc_428, by decide +kernel, by decide⟩
theorem kw_318 : Cond.fieldLink "RefitYard$Board" (20 : Nat) "RefitYard$Work" "shift" "I" ∈ zT := zT_of 318 (by decide +kernel) (by decide +kernel)
theorem fl_X0_20 : zFl RX0 20 6 8 16 .int false := ⟨RX5, TX5, 8, rfl, by decide, rfl, by decide, ui_X5, kw_318, rfl, tyX5_ok, nmX5, rfl, rfl⟩
theorem kw_290 : Cond.fieldLink "RefitYard$Board" (26 : Nat) "RefitYard$Work" "trade" "I" ∈ zT := zT_of 290 (by decide +kernel) (by decide +kernel)
theorem fl_X0_26 : zFl RX0 26 6 2 16 .int true := ⟨RX5, TX5, 2, rfl, by decide, rfl, by decide, ui_X5, kw_290, rfl, tyX5_ok, nmX5, rfl, rfl⟩
theorem kw_455 : Cond.methodLink "RefitYard$Board" (29 : Nat) ⟨"RefitYard$Work", "behind", "()I"⟩ ∈ zT := zT_of 455 (by decide +kernel) (by decide +kernel)
theorem mv_X0_29 : zMV RX0 29 mX5_behind 0 6 16 := ⟨mmX5_behind, ⟨kw_455, kw_456, kw_457⟩, TX5, rfl, by decide, by decide⟩
theorem kw_285 : Cond.fieldLink "RefitYard$Board" (33 : Nat) "RefitYard$Work" "bit" "J" ∈ zT := zT_of 285 (by decide +kernel) (by decide +kernel)
theorem fl_X0_33 : zFl RX0 33 6 1 16 .long true := ⟨RX5, TX5, 1, rfl, by decide, rfl, by decide, ui_X5, kw_285, rfl, tyX5_ok, nmX5, rfl, rfl⟩
theorem kw_295 : Cond.fieldLink "RefitYard$Board" (37 : Nat) "RefitYard$Work" "hands" "I" ∈ zT := zT_of 295 (by decide +kernel) (by decide +kernel)
theorem fl_X0_37 : zFl RX0 37 6 3 16 .int true := ⟨RX5, TX5, 3, rfl, by decide, rfl, by decide, ui_X5, kw_295, rfl, tyX5_ok, nmX5, rfl, rfl⟩
def mX0_lift : zF := (yX0_lift, cX0_lift, 4, none)
theorem kc_418 : Cond.code yX0_lift cX0_lift 4 none ∈ zT := zT_of 453 (by decide +kernel) (by decide +kernel)
theorem mmX0_lift : zMm mX0_lift 1 := ⟨kw_39, kc_418, by decide +kernel, by decide⟩
theorem kw_454 : Cond.methodLink "RefitYard$Board" (39 : Nat) ⟨"RefitYard$Work", "isOpen", "()Z"⟩ ∈ zT := zT_of 454 (by decide +kernel) (by decide +kernel)
theorem mv_X0_39 : zMV RX0 39 mX5_isOpen 0 6 16 := ⟨mmX5_isOpen, ⟨kw_454, kw_433, kw_434⟩, TX5, rfl, by decide, by decide⟩
theorem kw_459 : Cond.constantLong "RefitYard$Board" (43 : Nat) (-1 : Int64) ∈ zT := zT_of 459 (by decide +kernel) (by decide +kernel)
def mX0_lengthen : zF := (yX0_lengthen, cX0_lengthen, 4, none)
theorem kc_634 : Cond.code yX0_lengthen cX0_lengthen 4 none ∈ zT := zT_of 669 (by decide +kernel) (by decide +kernel)
theorem mmX0_lengthen : zMm mX0_lengthen 2 := ⟨kw_39, kc_634, by decide +kernel, by decide⟩
theorem kw_670 : Cond.methodLink "RefitYard$Board" (45 : Nat) ⟨"RefitYard$Board", "lift", "(LRefitYard$Work;)V"⟩ ∈ zT := zT_of 670 (by decide +kernel) (by decide +kernel)
theorem kw_451 : Cond.instanceMethod ⟨"RefitYard$Board", "lift", "(LRefitYard$Work;)V"⟩ ∈ zT := zT_of 451 (by decide +kernel) (by decide +kernel)
theorem kw_452 : Cond.selects "RefitYard$Board" ⟨"RefitYard$Board", "lift", "(LRefitYard$Work;)V"⟩ ⟨"RefitYard$Board", "lift", "(LRefitYard$Work;)V"⟩ ∈ zT := zT_of 452 (by decide +kernel) (by decide +kernel)
theorem mv_X0_45 : zMV RX0 45 mX0_lift 1 1 3 := ⟨mmX0_lift, ⟨kw_670, kw_451, kw_452⟩, TX0, rfl, by decide, by decide⟩
theorem kw_312 : Cond.fieldLink "RefitYard$Board" (49 : Nat) "RefitYard$Work" "length" "I" ∈ zT := zT_of 312 (by decide +kernel) (by decide +kernel)
theorem fl_X0_49 : zFl RX0 49 6 7 16 .int false := ⟨RX5, TX5, 7, rfl, by decide, rfl, by decide, ui_X5, kw_312, rfl, tyX5_ok, nmX5, rfl, rfl⟩
theorem kw_671 : Cond.methodLink "RefitYard$Board" (52 : Nat) ⟨"RefitYard$Board", "lay", "(LRefitYard$Work;I)V"⟩ ∈ zT := zT_of 671 (by decide +kernel) (by decide +kernel)
theorem kw_461 : Cond.instanceMethod ⟨"RefitYard$Board", "lay", "(LRefitYard$Work;I)V"⟩ ∈ zT := zT_of 461 (by decide +kernel) (by decide +kernel)
theorem kw_462 : Cond.selects "RefitYard$Board" ⟨"RefitYard$Board", "lay", "(LRefitYard$Work;I)V"⟩ ⟨"RefitYard$Board", "lay", "(LRefitYard$Work;I)V"⟩ ∈ zT := zT_of 462 (by decide +kernel) (by decide +kernel)
theorem mv_X0_52 : zMV RX0 52 mX0_lay 2 1 3 := ⟨mmX0_lay, ⟨kw_671, kw_461, kw_462⟩, TX0, rfl, by decide, by decide⟩
def mX2_init : zF := (yX2_init, cX2_init, 1, none)
theorem kw_38 : Cond.initialized "RefitYard$Net" ∈ zT := zT_of 38 (by decide +kernel) (by decide +kernel)
theorem kc_50 : Cond.code yX2_init cX2_init 1 none ∈ zT := zT_of 85 (by decide +kernel) (by decide +kernel)
theorem mmX2_init : zMm mX2_init 0 := ⟨kw_38, kc_50, by decide +kernel, by decide⟩
theorem kw_86 : Cond.methodLink "RefitYard$Net" (3 : Nat) ⟨"java/lang/Object", "<init>", "()V"⟩ ∈ zT := zT_of 86 (by decide +kernel) (by decide +kernel)
theorem oi_X2_3 : Cond.methodLink RX2 3 Lib.objectInit ∈ zT ∧ Cond.instanceMethod Lib.objectInit ∈ zT ∧ Cond.code Lib.objectInit ⟨#[0xb1]⟩ 1 none ∈ zT := ⟨kw_86, kw_52, zT_of 53 (by decide +kernel) (by decide +kernel)⟩
theorem kw_87 : Cond.classLink "RefitYard$Net" (9 : Nat) "RefitYard$Work" ∈ zT := zT_of 87 (by decide +kernel) (by decide +kernel)
theorem kw_89 : Cond.fieldLink "RefitYard$Net" (11 : Nat) "RefitYard$Net" "works" "[LRefitYard$Work;" ∈ zT := zT_of 89 (by decide +kernel) (by decide +kernel)
theorem ui_X2 : ∀ w ∈ u_ws RX2 TX2 6, w ∈ zT := by decide +kernel
theorem fl_X2_11 : zFl RX2 11 3 0 6 (.array (.object "RefitYard$Work")) true := ⟨RX2, TX2, 0, rfl, by decide, rfl, by decide, ui_X2, kw_89, rfl, tyX2_ok, nmX2, rfl, rfl⟩
theorem kw_93 : Cond.fieldLink "RefitYard$Net" (17 : Nat) "RefitYard$Net" "ranked" "[I" ∈ zT := zT_of 93 (by decide +kernel) (by decide +kernel)
theorem fl_X2_17 : zFl RX2 17 3 1 6 (.array .int) true := ⟨RX2, TX2, 1, rfl, by decide, rfl, by decide, ui_X2, kw_93, rfl, tyX2_ok, nmX2, rfl, rfl⟩
theorem kw_94 : Cond.fieldLink "RefitYard$Net" (21 : Nat) "RefitYard$Net" "takers" "[J" ∈ zT := zT_of 94 (by decide +kernel) (by decide +kernel)
theorem fl_X2_21 : zFl RX2 21 3 2 6 (.array .long) true := ⟨RX2, TX2, 2, rfl, by decide, rfl, by decide, ui_X2, kw_94, rfl, tyX2_ok, nmX2, rfl, rfl⟩
theorem kw_97 : Cond.fieldLink "RefitYard$Net" (25 : Nat) "RefitYard$Net" "dwellers" "[J" ∈ zT := zT_of 97 (by decide +kernel) (by decide +kernel)
theorem fl_X2_25 : zFl RX2 25 3 3 6 (.array .long) true := ⟨RX2, TX2, 3, rfl, by decide, rfl, by decide, ui_X2, kw_97, rfl, tyX2_ok, nmX2, rfl, rfl⟩
def mX2_find : zF := (yX2_find, cX2_find, 2, (some (.object "RefitYard$Work")))
theorem kc_384 : Cond.code yX2_find cX2_find 2 (some (.object "RefitYard$Work")) ∈ zT := zT_of 419 (by decide +kernel) (by decide +kernel)
theorem mmX2_find : zMm mX2_find 1 := ⟨kw_38, kc_384, by decide +kernel, by decide⟩
theorem kw_99 : Cond.fieldLink "RefitYard$Net" (28 : Nat) "RefitYard$Net" "size" "I" ∈ zT := zT_of 99 (by decide +kernel) (by decide +kernel)
theorem fl_X2_28 : zFl RX2 28 3 4 6 .int false := ⟨RX2, TX2, 4, rfl, by decide, rfl, by decide, ui_X2, kw_99, rfl, tyX2_ok, nmX2, rfl, rfl⟩
def mX2_addWork : zF := (yX2_addWork, cX2_addWork, 2, none)
theorem kc_343 : Cond.code yX2_addWork cX2_addWork 2 none ∈ zT := zT_of 378 (by decide +kernel) (by decide +kernel)
theorem mmX2_addWork : zMm mX2_addWork 1 := ⟨kw_38, kc_343, by decide +kernel, by decide⟩
theorem kw_300 : Cond.fieldLink "RefitYard$Net" (32 : Nat) "RefitYard$Work" "space" "I" ∈ zT := zT_of 300 (by decide +kernel) (by decide +kernel)
theorem fl_X2_32 : zFl RX2 32 6 4 16 .int true := ⟨RX5, TX5, 4, rfl, by decide, rfl, by decide, ui_X5, kw_300, rfl, tyX5_ok, nmX5, rfl, rfl⟩
theorem kw_286 : Cond.fieldLink "RefitYard$Net" (35 : Nat) "RefitYard$Work" "bit" "J" ∈ zT := zT_of 286 (by decide +kernel) (by decide +kernel)
theorem fl_X2_35 : zFl RX2 35 6 1 16 .long true := ⟨RX5, TX5, 1, rfl, by decide, rfl, by decide, ui_X5, kw_286, rfl, tyX5_ok, nmX5, rfl, rfl⟩
theorem kw_308 : Cond.fieldLink "RefitYard$Net" (39 : Nat) "RefitYard$Work" "good" "I" ∈ zT := zT_of 308 (by decide +kernel) (by decide +kernel)
theorem fl_X2_39 : zFl RX2 39 6 6 16 .int true := ⟨RX5, TX5, 6, rfl, by decide, rfl, by decide, ui_X5, kw_308, rfl, tyX5_ok, nmX5, rfl, rfl⟩
def mX2_weigh : zF := (yX2_weigh, cX2_weigh, 2, none)
theorem kc_347 : Cond.code yX2_weigh cX2_weigh 2 none ∈ zT := zT_of 382 (by decide +kernel) (by decide +kernel)
theorem mmX2_weigh : zMm mX2_weigh 0 := ⟨kw_38, kc_347, by decide +kernel, by decide⟩
theorem kw_379 : Cond.methodLink "RefitYard$Net" (42 : Nat) ⟨"RefitYard$Net", "weigh", "()V"⟩ ∈ zT := zT_of 379 (by decide +kernel) (by decide +kernel)
theorem kw_380 : Cond.instanceMethod ⟨"RefitYard$Net", "weigh", "()V"⟩ ∈ zT := zT_of 380 (by decide +kernel) (by decide +kernel)
theorem kw_381 : Cond.selects "RefitYard$Net" ⟨"RefitYard$Net", "weigh", "()V"⟩ ⟨"RefitYard$Net", "weigh", "()V"⟩ ∈ zT := zT_of 381 (by decide +kernel) (by decide +kernel)
theorem mv_X2_42 : zMV RX2 42 mX2_weigh 0 3 6 := ⟨mmX2_weigh, ⟨kw_379, kw_380, kw_381⟩, TX2, rfl, by decide, by decide⟩
def mX2_link : zF := (yX2_link, cX2_link, 7, none)
theorem kc_405 : Cond.code yX2_link cX2_link 7 none ∈ zT := zT_of 440 (by decide +kernel) (by decide +kernel)
theorem mmX2_link : zMm mX2_link 2 := ⟨kw_38, kc_405, by decide +kernel, by decide⟩
theorem kw_330 : Cond.fieldLink "RefitYard$Net" (45 : Nat) "RefitYard$Work" "needs" "J" ∈ zT := zT_of 330 (by decide +kernel) (by decide +kernel)
theorem fl_X2_45 : zFl RX2 45 6 12 16 .long false := ⟨RX5, TX5, 12, rfl, by decide, rfl, by decide, ui_X5, kw_330, rfl, tyX5_ok, nmX5, rfl, rfl⟩
theorem kw_333 : Cond.fieldLink "RefitYard$Net" (48 : Nat) "RefitYard$Work" "under" "J" ∈ zT := zT_of 333 (by decide +kernel) (by decide +kernel)
theorem fl_X2_48 : zFl RX2 48 6 13 16 .long false := ⟨RX5, TX5, 13, rfl, by decide, rfl, by decide, ui_X5, kw_333, rfl, tyX5_ok, nmX5, rfl, rfl⟩
theorem kw_441 : Cond.methodLink "RefitYard$Net" (51 : Nat) ⟨"RefitYard$Work", "hangsOn", "(LRefitYard$Work;)Z"⟩ ∈ zT := zT_of 441 (by decide +kernel) (by decide +kernel)
theorem kw_425 : Cond.instanceMethod ⟨"RefitYard$Work", "hangsOn", "(LRefitYard$Work;)Z"⟩ ∈ zT := zT_of 425 (by decide +kernel) (by decide +kernel)
theorem kw_426 : Cond.selects "RefitYard$Work" ⟨"RefitYard$Work", "hangsOn", "(LRefitYard$Work;)Z"⟩ ⟨"RefitYard$Work", "hangsOn", "(LRefitYard$Work;)Z"⟩ ∈ zT := zT_of 426 (by decide +kernel) (by decide +kernel)
theorem mv_X2_51 : zMV RX2 51 mX5_hangsOn 1 6 16 := ⟨mmX5_hangsOn, ⟨kw_441, kw_425, kw_426⟩, TX5, rfl, by decide, by decide⟩
def mX2_rank : zF := (yX2_rank, cX2_rank, 4, none)
theorem kc_351 : Cond.code yX2_rank cX2_rank 4 none ∈ zT := zT_of 386 (by decide +kernel) (by decide +kernel)
theorem mmX2_rank : zMm mX2_rank 0 := ⟨kw_38, kc_351, by decide +kernel, by decide⟩
theorem kw_383 : Cond.methodLink "RefitYard$Net" (55 : Nat) ⟨"RefitYard$Net", "rank", "()V"⟩ ∈ zT := zT_of 383 (by decide +kernel) (by decide +kernel)
theorem kw_385 : Cond.instanceMethod ⟨"RefitYard$Net", "rank", "()V"⟩ ∈ zT := zT_of 385 (by decide +kernel) (by decide +kernel)
theorem kw_2 : Cond.selects "RefitYard$Net" ⟨"RefitYard$Net", "rank", "()V"⟩ ⟨"RefitYard$Net", "rank", "()V"⟩ ∈ zT := zT_of 2 (by decide +kernel) (by decide +kernel)
theorem mv_X2_55 : zMV RX2 55 mX2_rank 0 3 6 := ⟨mmX2_rank, ⟨kw_383, kw_385, kw_2⟩, TX2, rfl, by decide, by decide⟩
theorem kw_324 : Cond.fieldLink "RefitYard$Net" (58 : Nat) "RefitYard$Work" "early" "I" ∈ zT := zT_of 324 (by decide +kernel) (by decide +kernel)
theorem fl_X2_58 : zFl RX2 58 6 10 16 .int false := ⟨RX5, TX5, 10, rfl, by decide, rfl, by decide, ui_X5, kw_324, rfl, tyX5_ok, nmX5, rfl, rfl⟩
theorem kw_327 : Cond.fieldLink "RefitYard$Net" (61 : Nat) "RefitYard$Work" "tail" "I" ∈ zT := zT_of 327 (by decide +kernel) (by decide +kernel)
theorem fl_X2_61 : zFl RX2 61 6 11 16 .int false := ⟨RX5, TX5, 11, rfl, by decide, rfl, by decide, ui_X5, kw_327, rfl, tyX5_ok, nmX5, rfl, rfl⟩
def mX2_pushEarly : zF := (yX2_pushEarly, cX2_pushEarly, 4, none)
theorem kc_361 : Cond.code yX2_pushEarly cX2_pushEarly 4 none ∈ zT := zT_of 396 (by decide +kernel) (by decide +kernel)
theorem mmX2_pushEarly : zMm mX2_pushEarly 1 := ⟨kw_38, kc_361, by decide +kernel, by decide⟩
theorem kw_393 : Cond.methodLink "RefitYard$Net" (64 : Nat) ⟨"RefitYard$Net", "pushEarly", "(LRefitYard$Work;)V"⟩ ∈ zT := zT_of 393 (by decide +kernel) (by decide +kernel)
theorem kw_395 : Cond.instanceMethod ⟨"RefitYard$Net", "pushEarly", "(LRefitYard$Work;)V"⟩ ∈ zT := zT_of 395 (by decide +kernel) (by decide +kernel)
theorem kw_3 : Cond.selects "RefitYard$Net" ⟨"RefitYard$Net", "pushEarly", "(LRefitYard$Work;)V"⟩ ⟨"RefitYard$Net", "pushEarly", "(LRefitYard$Work;)V"⟩ ∈ zT := zT_of 3 (by decide +kernel) (by decide +kernel)
theorem mv_X2_64 : zMV RX2 64 mX2_pushEarly 1 3 6 := ⟨mmX2_pushEarly, ⟨kw_393, kw_395, kw_3⟩, TX2, rfl, by decide, by decide⟩
theorem kw_103 : Cond.fieldLink "RefitYard$Net" (71 : Nat) "RefitYard$Net" "way" "I" ∈ zT := zT_of 103 (by decide +kernel) (by decide +kernel)
theorem fl_X2_71 : zFl RX2 71 3 5 6 .int false := ⟨RX2, TX2, 5, rfl, by decide, rfl, by decide, ui_X2, kw_103, rfl, tyX2_ok, nmX2, rfl, rfl⟩
def mX2_pushTail : zF := (yX2_pushTail, cX2_pushTail, 4, none)
theorem kc_372 : Cond.code yX2_pushTail cX2_pushTail 4 none ∈ zT := zT_of 407 (by decide +kernel) (by decide +kernel)
theorem mmX2_pushTail : zMm mX2_pushTail 1 := ⟨kw_38, kc_372, by decide +kernel, by decide⟩
theorem kw_404 : Cond.methodLink "RefitYard$Net" (68 : Nat) ⟨"RefitYard$Net", "pushTail", "(LRefitYard$Work;)V"⟩ ∈ zT := zT_of 404 (by decide +kernel) (by decide +kernel)
theorem kw_406 : Cond.instanceMethod ⟨"RefitYard$Net", "pushTail", "(LRefitYard$Work;)V"⟩ ∈ zT := zT_of 406 (by decide +kernel) (by decide +kernel)
theorem kw_4 : Cond.selects "RefitYard$Net" ⟨"RefitYard$Net", "pushTail", "(LRefitYard$Work;)V"⟩ ⟨"RefitYard$Net", "pushTail", "(LRefitYard$Work;)V"⟩ ∈ zT := zT_of 4 (by decide +kernel) (by decide +kernel)
theorem mv_X2_68 : zMV RX2 68 mX2_pushTail 1 3 6 := ⟨mmX2_pushTail, ⟨kw_404, kw_406, kw_4⟩, TX2, rfl, by decide, by decide⟩
theorem kw_408 : Cond.methodLink "RefitYard$Net" (74 : Nat) ⟨"RefitYard$Work", "wholeWay", "()I"⟩ ∈ zT := zT_of 408 (by decide +kernel) (by decide +kernel)
theorem kw_409 : Cond.instanceMethod ⟨"RefitYard$Work", "wholeWay", "()I"⟩ ∈ zT := zT_of 409 (by decide +kernel) (by decide +kernel)
theorem kw_410 : Cond.selects "RefitYard$Work" ⟨"RefitYard$Work", "wholeWay", "()I"⟩ ⟨"RefitYard$Work", "wholeWay", "()I"⟩ ∈ zT := zT_of 410 (by decide +kernel) (by decide +kernel)
theorem mv_X2_74 : zMV RX2 74 mX5_wholeWay 0 6 16 := ⟨mmX5_wholeWay, ⟨kw_408, kw_409, kw_410⟩, TX5, rfl, by decide, by decide⟩
theorem kw_401 : Cond.methodLink "RefitYard$Net" (78 : Nat) ⟨"java/lang/Math", "max", "(II)I"⟩ ∈ zT := zT_of 401 (by decide +kernel) (by decide +kernel)
theorem kw_402 : Cond.static ⟨"java/lang/Math", "max", "(II)I"⟩ ∈ zT := zT_of 402 (by decide +kernel) (by decide +kernel)
theorem kw_45 : Cond.initialized "java/lang/Math" ∈ zT := zT_of 45 (by decide +kernel) (by decide +kernel)
theorem mm_X2_78 : Cond.methodLink RX2 78 Lib.Math.max.name ∈ zT ∧ Cond.static Lib.Math.max.name ∈ zT ∧ Cond.initialized "java/lang/Math" ∈ zT ∧ Cond.code Lib.Math.max.name Lib.Math.max.code 2 (some .int) ∈ zT := ⟨kw_401, kw_402, kw_45, zT_of 403 (by decide +kernel) (by decide +kernel)⟩
theorem kw_387 : Cond.methodLink "RefitYard$Net" (84 : Nat) ⟨"java/lang/Long", "bitCount", "(J)I"⟩ ∈ zT := zT_of 387 (by decide +kernel) (by decide +kernel)
theorem kw_388 : Cond.static ⟨"java/lang/Long", "bitCount", "(J)I"⟩ ∈ zT := zT_of 388 (by decide +kernel) (by decide +kernel)
theorem ms_X2_84 : zMS RX2 84 mJ13_bitCount_95d88 1 := ⟨mmJ13_bitCount_95d88, kw_387, kw_388⟩
theorem kw_397 : Cond.methodLink "RefitYard$Net" (90 : Nat) ⟨"RefitYard$Work", "leansOn", "(LRefitYard$Work;)Z"⟩ ∈ zT := zT_of 397 (by decide +kernel) (by decide +kernel)
theorem kw_398 : Cond.instanceMethod ⟨"RefitYard$Work", "leansOn", "(LRefitYard$Work;)Z"⟩ ∈ zT := zT_of 398 (by decide +kernel) (by decide +kernel)
theorem kw_399 : Cond.selects "RefitYard$Work" ⟨"RefitYard$Work", "leansOn", "(LRefitYard$Work;)Z"⟩ ⟨"RefitYard$Work", "leansOn", "(LRefitYard$Work;)Z"⟩ ∈ zT := zT_of 399 (by decide +kernel) (by decide +kernel)
theorem mv_X2_90 : zMV RX2 90 mX5_leansOn 1 6 16 := ⟨mmX5_leansOn, ⟨kw_397, kw_398, kw_399⟩, TX5, rfl, by decide, by decide⟩
theorem kw_314 : Cond.fieldLink "RefitYard$Net" (93 : Nat) "RefitYard$Work" "length" "I" ∈ zT := zT_of 314 (by decide +kernel) (by decide +kernel)
theorem fl_X2_93 : zFl RX2 93 6 7 16 .int false := ⟨RX5, TX5, 7, rfl, by decide, rfl, by decide, ui_X5, kw_314, rfl, tyX5_ok, nmX5, rfl, rfl⟩
def mX2_slackOf : zF := (yX2_slackOf, cX2_slackOf, 2, (some .int))
theorem kc_521 : Cond.code yX2_slackOf cX2_slackOf 2 (some .int) ∈ zT := zT_of 556 (by decide +kernel) (by decide +kernel)
theorem mmX2_slackOf : zMm mX2_slackOf 1 := ⟨kw_38, kc_521, by decide +kernel, by decide⟩
def mX2_allThatArePut : zF := (yX2_allThatArePut, cX2_allThatArePut, 4, (some .long))
theorem kc_538 : Cond.code yX2_allThatArePut cX2_allThatArePut 4 (some .long) ∈ zT := zT_of 573 (by decide +kernel) (by decide +kernel)
theorem mmX2_allThatArePut : zMm mX2_allThatArePut 0 := ⟨kw_38, kc_538, by decide +kernel, by decide⟩
theorem kw_485 : Cond.methodLink "RefitYard$Net" (96 : Nat) ⟨"RefitYard$Work", "isOpen", "()Z"⟩ ∈ zT := zT_of 485 (by decide +kernel) (by decide +kernel)
theorem mv_X2_96 : zMV RX2 96 mX5_isOpen 0 6 16 := ⟨mmX5_isOpen, ⟨kw_485, kw_433, kw_434⟩, TX5, rfl, by decide, by decide⟩
def mX2_allDone : zF := (yX2_allDone, cX2_allDone, 5, (some .long))
theorem kc_621 : Cond.code yX2_allDone cX2_allDone 5 (some .long) ∈ zT := zT_of 656 (by decide +kernel) (by decide +kernel)
theorem mmX2_allDone : zMm mX2_allDone 1 := ⟨kw_38, kc_621, by decide +kernel, by decide⟩
theorem kw_657 : Cond.methodLink "RefitYard$Net" (100 : Nat) ⟨"RefitYard$Work", "isDone", "(I)Z"⟩ ∈ zT := zT_of 657 (by decide +kernel) (by decide +kernel)
theorem kw_549 : Cond.instanceMethod ⟨"RefitYard$Work", "isDone", "(I)Z"⟩ ∈ zT := zT_of 549 (by decide +kernel) (by decide +kernel)
theorem kw_550 : Cond.selects "RefitYard$Work" ⟨"RefitYard$Work", "isDone", "(I)Z"⟩ ⟨"RefitYard$Work", "isDone", "(I)Z"⟩ ∈ zT := zT_of 550 (by decide +kernel) (by decide +kernel)
theorem mv_X2_100 : zMV RX2 100 mX5_isDone 1 6 16 := ⟨mmX5_isDone, ⟨kw_657, kw_549, kw_550⟩, TX5, rfl, by decide, by decide⟩
def mX2_mostPressing : zF := (yX2_mostPressing, cX2_mostPressing, 9, (some (.object "RefitYard$Work")))
theorem kc_534 : Cond.code yX2_mostPressing cX2_mostPressing 9 (some (.object "RefitYard$Work")) ∈ zT := zT_of 569 (by decide +kernel) (by decide +kernel)
theorem mmX2_mostPressing : zMm mX2_mostPressing 1 := ⟨kw_38, kc_534, by decide +kernel, by decide⟩
theorem kw_570 : Cond.methodLink "RefitYard$Net" (104 : Nat) ⟨"RefitYard$Net", "allThatArePut", "()J"⟩ ∈ zT := zT_of 570 (by decide +kernel) (by decide +kernel)
theorem kw_571 : Cond.instanceMethod ⟨"RefitYard$Net", "allThatArePut", "()J"⟩ ∈ zT := zT_of 571 (by decide +kernel) (by decide +kernel)
theorem kw_572 : Cond.selects "RefitYard$Net" ⟨"RefitYard$Net", "allThatArePut", "()J"⟩ ⟨"RefitYard$Net", "allThatArePut", "()J"⟩ ∈ zT := zT_of 572 (by decide +kernel) (by decide +kernel)
theorem mv_X2_104 : zMV RX2 104 mX2_allThatArePut 0 3 6 := ⟨mmX2_allThatArePut, ⟨kw_570, kw_571, kw_572⟩, TX2, rfl, by decide, by decide⟩
theorem kw_579 : Cond.methodLink "RefitYard$Net" (112 : Nat) ⟨"RefitYard$Net", "slackOf", "(LRefitYard$Work;)I"⟩ ∈ zT := zT_of 579 (by decide +kernel) (by decide +kernel)
theorem kw_554 : Cond.instanceMethod ⟨"RefitYard$Net", "slackOf", "(LRefitYard$Work;)I"⟩ ∈ zT := zT_of 554 (by decide +kernel) (by decide +kernel)
theorem kw_555 : Cond.selects "RefitYard$Net" ⟨"RefitYard$Net", "slackOf", "(LRefitYard$Work;)I"⟩ ⟨"RefitYard$Net", "slackOf", "(LRefitYard$Work;)I"⟩ ∈ zT := zT_of 555 (by decide +kernel) (by decide +kernel)
theorem mv_X2_112 : zMV RX2 112 mX2_slackOf 1 3 6 := ⟨mmX2_slackOf, ⟨kw_579, kw_554, kw_555⟩, TX2, rfl, by decide, by decide⟩
theorem kw_574 : Cond.methodLink "RefitYard$Net" (108 : Nat) ⟨"RefitYard$Work", "isReady", "(J)Z"⟩ ∈ zT := zT_of 574 (by decide +kernel) (by decide +kernel)
theorem kw_575 : Cond.instanceMethod ⟨"RefitYard$Work", "isReady", "(J)Z"⟩ ∈ zT := zT_of 575 (by decide +kernel) (by decide +kernel)
theorem kw_576 : Cond.selects "RefitYard$Work" ⟨"RefitYard$Work", "isReady", "(J)Z"⟩ ⟨"RefitYard$Work", "isReady", "(J)Z"⟩ ∈ zT := zT_of 576 (by decide +kernel) (by decide +kernel)
theorem mv_X2_108 : zMV RX2 108 mX5_isReady 1 6 16 := ⟨mmX5_isReady, ⟨kw_574, kw_575, kw_576⟩, TX5, rfl, by decide, by decide⟩
def mX2_readyFrom : zF := (yX2_readyFrom, cX2_readyFrom, 5, (some .int))
theorem kc_458 : Cond.code yX2_readyFrom cX2_readyFrom 5 (some .int) ∈ zT := zT_of 493 (by decide +kernel) (by decide +kernel)
theorem mmX2_readyFrom : zMm mX2_readyFrom 1 := ⟨kw_38, kc_458, by decide +kernel, by decide⟩
theorem kw_494 : Cond.methodLink "RefitYard$Net" (116 : Nat) ⟨"RefitYard$Work", "behind", "()I"⟩ ∈ zT := zT_of 494 (by decide +kernel) (by decide +kernel)
theorem mv_X2_116 : zMV RX2 116 mX5_behind 0 6 16 := ⟨mmX5_behind, ⟨kw_494, kw_456, kw_457⟩, TX5, rfl, by decide, by decide⟩
def mX2_dueBy : zF := (yX2_dueBy, cX2_dueBy, 5, (some .int))
theorem kc_449 : Cond.code yX2_dueBy cX2_dueBy 5 (some .int) ∈ zT := zT_of 484 (by decide +kernel) (by decide +kernel)
theorem mmX2_dueBy : zMm mX2_dueBy 1 := ⟨kw_38, kc_449, by decide +kernel, by decide⟩
theorem kw_321 : Cond.fieldLink "RefitYard$Net" (119 : Nat) "RefitYard$Work" "shift" "I" ∈ zT := zT_of 321 (by decide +kernel) (by decide +kernel)
theorem fl_X2_119 : zFl RX2 119 6 8 16 .int false := ⟨RX5, TX5, 8, rfl, by decide, rfl, by decide, ui_X5, kw_321, rfl, tyX5_ok, nmX5, rfl, rfl⟩
theorem kw_486 : Cond.methodLink "RefitYard$Net" (122 : Nat) ⟨"java/lang/Math", "min", "(II)I"⟩ ∈ zT := zT_of 486 (by decide +kernel) (by decide +kernel)
theorem kw_487 : Cond.static ⟨"java/lang/Math", "min", "(II)I"⟩ ∈ zT := zT_of 487 (by decide +kernel) (by decide +kernel)
theorem mm_X2_122 : Cond.methodLink RX2 122 Lib.Math.min.name ∈ zT ∧ Cond.static Lib.Math.min.name ∈ zT ∧ Cond.initialized "java/lang/Math" ∈ zT ∧ Cond.code Lib.Math.min.name Lib.Math.min.code 2 (some .int) ∈ zT := ⟨kw_486, kw_487, kw_45, zT_of 488 (by decide +kernel) (by decide +kernel)⟩
def mX2_openedWith : zF := (yX2_openedWith, cX2_openedWith, 8, (some .long))
theorem kc_617 : Cond.code yX2_openedWith cX2_openedWith 8 (some .long) ∈ zT := zT_of 652 (by decide +kernel) (by decide +kernel)
theorem mmX2_openedWith : zMm mX2_openedWith 2 := ⟨kw_38, kc_617, by decide +kernel, by decide⟩
theorem kw_653 : Cond.methodLink "RefitYard$Net" (125 : Nat) ⟨"RefitYard$Net", "allDone", "(I)J"⟩ ∈ zT := zT_of 653 (by decide +kernel) (by decide +kernel)
theorem kw_654 : Cond.instanceMethod ⟨"RefitYard$Net", "allDone", "(I)J"⟩ ∈ zT := zT_of 654 (by decide +kernel) (by decide +kernel)
theorem kw_655 : Cond.selects "RefitYard$Net" ⟨"RefitYard$Net", "allDone", "(I)J"⟩ ⟨"RefitYard$Net", "allDone", "(I)J"⟩ ∈ zT := zT_of 655 (by decide +kernel) (by decide +kernel)
theorem mv_X2_125 : zMV RX2 125 mX2_allDone 1 3 6 := ⟨mmX2_allDone, ⟨kw_653, kw_654, kw_655⟩, TX2, rfl, by decide, by decide⟩
theorem kw_336 : Cond.fieldLink "RefitYard$Net" (129 : Nat) "RefitYard$Work" "toldOf" "J" ∈ zT := zT_of 336 (by decide +kernel) (by decide +kernel)
theorem fl_X2_129 : zFl RX2 129 6 14 16 .long false := ⟨RX5, TX5, 14, rfl, by decide, rfl, by decide, ui_X5, kw_336, rfl, tyX5_ok, nmX5, rfl, rfl⟩
def mX2_needersOf : zF := (yX2_needersOf, cX2_needersOf, 6, (some .long))
theorem kc_626 : Cond.code yX2_needersOf cX2_needersOf 6 (some .long) ∈ zT := zT_of 661 (by decide +kernel) (by decide +kernel)
theorem mmX2_needersOf : zMm mX2_needersOf 1 := ⟨kw_38, kc_626, by decide +kernel, by decide⟩
theorem kw_658 : Cond.methodLink "RefitYard$Net" (132 : Nat) ⟨"RefitYard$Net", "needersOf", "(J)J"⟩ ∈ zT := zT_of 658 (by decide +kernel) (by decide +kernel)
theorem kw_660 : Cond.instanceMethod ⟨"RefitYard$Net", "needersOf", "(J)J"⟩ ∈ zT := zT_of 660 (by decide +kernel) (by decide +kernel)
theorem kw_18 : Cond.selects "RefitYard$Net" ⟨"RefitYard$Net", "needersOf", "(J)J"⟩ ⟨"RefitYard$Net", "needersOf", "(J)J"⟩ ∈ zT := zT_of 18 (by decide +kernel) (by decide +kernel)
theorem mv_X2_132 : zMV RX2 132 mX2_needersOf 1 3 6 := ⟨mmX2_needersOf, ⟨kw_658, kw_660, kw_18⟩, TX2, rfl, by decide, by decide⟩
def mX2_askedOfTrade : zF := (yX2_askedOfTrade, cX2_askedOfTrade, 4, (some .int))
theorem kc_586 : Cond.code yX2_askedOfTrade cX2_askedOfTrade 4 (some .int) ∈ zT := zT_of 621 (by decide +kernel) (by decide +kernel)
theorem mmX2_askedOfTrade : zMm mX2_askedOfTrade 1 := ⟨kw_38, kc_586, by decide +kernel, by decide⟩
theorem kw_293 : Cond.fieldLink "RefitYard$Net" (136 : Nat) "RefitYard$Work" "trade" "I" ∈ zT := zT_of 293 (by decide +kernel) (by decide +kernel)
theorem fl_X2_136 : zFl RX2 136 6 2 16 .int true := ⟨RX5, TX5, 2, rfl, by decide, rfl, by decide, ui_X5, kw_293, rfl, tyX5_ok, nmX5, rfl, rfl⟩
theorem kw_298 : Cond.fieldLink "RefitYard$Net" (139 : Nat) "RefitYard$Work" "hands" "I" ∈ zT := zT_of 298 (by decide +kernel) (by decide +kernel)
theorem fl_X2_139 : zFl RX2 139 6 3 16 .int true := ⟨RX5, TX5, 3, rfl, by decide, rfl, by decide, ui_X5, kw_298, rfl, tyX5_ok, nmX5, rfl, rfl⟩
def mX2_askedOfGood : zF := (yX2_askedOfGood, cX2_askedOfGood, 2, (some .int))
theorem kc_596 : Cond.code yX2_askedOfGood cX2_askedOfGood 2 (some .int) ∈ zT := zT_of 631 (by decide +kernel) (by decide +kernel)
theorem mmX2_askedOfGood : zMm mX2_askedOfGood 1 := ⟨kw_38, kc_596, by decide +kernel, by decide⟩
def mX2_lengthOf : zF := (yX2_lengthOf, cX2_lengthOf, 5, (some .int))
theorem kc_600 : Cond.code yX2_lengthOf cX2_lengthOf 5 (some .int) ∈ zT := zT_of 635 (by decide +kernel) (by decide +kernel)
theorem mmX2_lengthOf : zMm mX2_lengthOf 1 := ⟨kw_38, kc_600, by decide +kernel, by decide⟩
theorem kw_632 : Cond.methodLink "RefitYard$Net" (142 : Nat) ⟨"RefitYard$Net", "lengthOf", "(J)I"⟩ ∈ zT := zT_of 632 (by decide +kernel) (by decide +kernel)
theorem kw_634 : Cond.instanceMethod ⟨"RefitYard$Net", "lengthOf", "(J)I"⟩ ∈ zT := zT_of 634 (by decide +kernel) (by decide +kernel)
theorem kw_17 : Cond.selects "RefitYard$Net" ⟨"RefitYard$Net", "lengthOf", "(J)I"⟩ ⟨"RefitYard$Net", "lengthOf", "(J)I"⟩ ∈ zT := zT_of 17 (by decide +kernel) (by decide +kernel)
theorem mv_X2_142 : zMV RX2 142 mX2_lengthOf 1 3 6 := ⟨mmX2_lengthOf, ⟨kw_632, kw_634, kw_17⟩, TX2, rfl, by decide, by decide⟩
def mX2_askedOfSpace : zF := (yX2_askedOfSpace, cX2_askedOfSpace, 2, (some .int))
theorem kc_604 : Cond.code yX2_askedOfSpace cX2_askedOfSpace 2 (some .int) ∈ zT := zT_of 639 (by decide +kernel) (by decide +kernel)
theorem mmX2_askedOfSpace : zMm mX2_askedOfSpace 1 := ⟨kw_38, kc_604, by decide +kernel, by decide⟩
def mX4_init : zF := (yX4_init, cX4_init, 4, none)
theorem kw_40 : Cond.initialized "RefitYard$Rules" ∈ zT := zT_of 40 (by decide +kernel) (by decide +kernel)
theorem kc_111 : Cond.code yX4_init cX4_init 4 none ∈ zT := zT_of 146 (by decide +kernel) (by decide +kernel)
theorem mmX4_init : zMm mX4_init 3 := ⟨kw_40, kc_111, by decide +kernel, by decide⟩
theorem kw_147 : Cond.methodLink "RefitYard$Rules" (3 : Nat) ⟨"java/lang/Object", "<init>", "()V"⟩ ∈ zT := zT_of 147 (by decide +kernel) (by decide +kernel)
theorem oi_X4_3 : Cond.methodLink RX4 3 Lib.objectInit ∈ zT ∧ Cond.instanceMethod Lib.objectInit ∈ zT ∧ Cond.code Lib.objectInit ⟨#[0xb1]⟩ 1 none ∈ zT := ⟨kw_147, kw_52, zT_of 53 (by decide +kernel) (by decide +kernel)⟩
theorem kw_148 : Cond.fieldLink "RefitYard$Rules" (9 : Nat) "RefitYard$Rules" "gangs" "[I" ∈ zT := zT_of 148 (by decide +kernel) (by decide +kernel)
theorem ui_X4 : ∀ w ∈ u_ws RX4 TX4 5, w ∈ zT := by decide +kernel
theorem fl_X4_9 : zFl RX4 9 5 0 5 (.array .int) true := ⟨RX4, TX4, 0, rfl, by decide, rfl, by decide, ui_X4, kw_148, rfl, tyX4_ok, nmX4, rfl, rfl⟩
theorem kw_150 : Cond.fieldLink "RefitYard$Rules" (15 : Nat) "RefitYard$Rules" "goods" "[I" ∈ zT := zT_of 150 (by decide +kernel) (by decide +kernel)
theorem fl_X4_15 : zFl RX4 15 5 1 5 (.array .int) true := ⟨RX4, TX4, 1, rfl, by decide, rfl, by decide, ui_X4, kw_150, rfl, tyX4_ok, nmX4, rfl, rfl⟩
theorem kw_152 : Cond.fieldLink "RefitYard$Rules" (18 : Nat) "RefitYard$Rules" "ground" "LRefitYard$Ground;" ∈ zT := zT_of 152 (by decide +kernel) (by decide +kernel)
theorem fl_X4_18 : zFl RX4 18 5 2 5 (.object "RefitYard$Ground") true := ⟨RX4, TX4, 2, rfl, by decide, rfl, by decide, ui_X4, kw_152, rfl, tyX4_ok, nmX4, rfl, rfl⟩
theorem kw_153 : Cond.fieldLink "RefitYard$Rules" (22 : Nat) "RefitYard$Rules" "net" "LRefitYard$Net;" ∈ zT := zT_of 153 (by decide +kernel) (by decide +kernel)
theorem fl_X4_22 : zFl RX4 22 5 3 5 (.object "RefitYard$Net") true := ⟨RX4, TX4, 3, rfl, by decide, rfl, by decide, ui_X4, kw_153, rfl, tyX4_ok, nmX4, rfl, rfl⟩
theorem kw_154 : Cond.fieldLink "RefitYard$Rules" (26 : Nat) "RefitYard$Rules" "board" "LRefitYard$Board;" ∈ zT := zT_of 154 (by decide +kernel) (by decide +kernel)
theorem fl_X4_26 : zFl RX4 26 5 4 5 (.object "RefitYard$Board") true := ⟨RX4, TX4, 4, rfl, by decide, rfl, by decide, ui_X4, kw_154, rfl, tyX4_ok, nmX4, rfl, rfl⟩
def mX4_markFoes : zF := (yX4_markFoes, cX4_markFoes, 2, none)
theorem kc_196 : Cond.code yX4_markFoes cX4_markFoes 2 none ∈ zT := zT_of 231 (by decide +kernel) (by decide +kernel)
theorem mmX4_markFoes : zMm mX4_markFoes 0 := ⟨kw_40, kc_196, by decide +kernel, by decide⟩
theorem kw_100 : Cond.fieldLink "RefitYard$Rules" (30 : Nat) "RefitYard$Net" "size" "I" ∈ zT := zT_of 100 (by decide +kernel) (by decide +kernel)
theorem fl_X4_30 : zFl RX4 30 3 4 6 .int false := ⟨RX2, TX2, 4, rfl, by decide, rfl, by decide, ui_X2, kw_100, rfl, tyX2_ok, nmX2, rfl, rfl⟩
theorem kw_90 : Cond.fieldLink "RefitYard$Rules" (36 : Nat) "RefitYard$Net" "works" "[LRefitYard$Work;" ∈ zT := zT_of 90 (by decide +kernel) (by decide +kernel)
theorem fl_X4_36 : zFl RX4 36 3 0 6 (.array (.object "RefitYard$Work")) true := ⟨RX2, TX2, 0, rfl, by decide, rfl, by decide, ui_X2, kw_90, rfl, tyX2_ok, nmX2, rfl, rfl⟩
def mX4_foesOf : zF := (yX4_foesOf, cX4_foesOf, 6, (some .long))
theorem kc_200 : Cond.code yX4_foesOf cX4_foesOf 6 (some .long) ∈ zT := zT_of 235 (by decide +kernel) (by decide +kernel)
theorem mmX4_foesOf : zMm mX4_foesOf 1 := ⟨kw_40, kc_200, by decide +kernel, by decide⟩
theorem kw_232 : Cond.methodLink "RefitYard$Rules" (40 : Nat) ⟨"RefitYard$Rules", "foesOf", "(LRefitYard$Work;)J"⟩ ∈ zT := zT_of 232 (by decide +kernel) (by decide +kernel)
theorem kw_234 : Cond.instanceMethod ⟨"RefitYard$Rules", "foesOf", "(LRefitYard$Work;)J"⟩ ∈ zT := zT_of 234 (by decide +kernel) (by decide +kernel)
theorem kw_0 : Cond.selects "RefitYard$Rules" ⟨"RefitYard$Rules", "foesOf", "(LRefitYard$Work;)J"⟩ ⟨"RefitYard$Rules", "foesOf", "(LRefitYard$Work;)J"⟩ ∈ zT := zT_of 0 (by decide +kernel) (by decide +kernel)
theorem mv_X4_40 : zMV RX4 40 mX4_foesOf 1 5 5 := ⟨mmX4_foesOf, ⟨kw_232, kw_234, kw_0⟩, TX4, rfl, by decide, by decide⟩
theorem kw_337 : Cond.fieldLink "RefitYard$Rules" (44 : Nat) "RefitYard$Work" "foes" "J" ∈ zT := zT_of 337 (by decide +kernel) (by decide +kernel)
theorem fl_X4_44 : zFl RX4 44 6 15 16 .long false := ⟨RX5, TX5, 15, rfl, by decide, rfl, by decide, ui_X5, kw_337, rfl, tyX5_ok, nmX5, rfl, rfl⟩
theorem kw_236 : Cond.methodLink "RefitYard$Rules" (50 : Nat) ⟨"RefitYard$Ground", "keepsApart", "(LRefitYard$Work;LRefitYard$Work;)Z"⟩ ∈ zT := zT_of 236 (by decide +kernel) (by decide +kernel)
theorem kw_237 : Cond.instanceMethod ⟨"RefitYard$Ground", "keepsApart", "(LRefitYard$Work;LRefitYard$Work;)Z"⟩ ∈ zT := zT_of 237 (by decide +kernel) (by decide +kernel)
theorem kw_238 : Cond.selects "RefitYard$Ground" ⟨"RefitYard$Ground", "keepsApart", "(LRefitYard$Work;LRefitYard$Work;)Z"⟩ ⟨"RefitYard$Ground", "keepsApart", "(LRefitYard$Work;LRefitYard$Work;)Z"⟩ ∈ zT := zT_of 238 (by decide +kernel) (by decide +kernel)
theorem mv_X4_50 : zMV RX4 50 mX1_keepsApart 2 2 5 := ⟨mmX1_keepsApart, ⟨kw_236, kw_237, kw_238⟩, TX1, rfl, by decide, by decide⟩
theorem kw_287 : Cond.fieldLink "RefitYard$Rules" (56 : Nat) "RefitYard$Work" "bit" "J" ∈ zT := zT_of 287 (by decide +kernel) (by decide +kernel)
theorem fl_X4_56 : zFl RX4 56 6 1 16 .long true := ⟨RX5, TX5, 1, rfl, by decide, rfl, by decide, ui_X5, kw_287, rfl, tyX5_ok, nmX5, rfl, rfl⟩
def mX4_isBroken : zF := (yX4_isBroken, cX4_isBroken, 4, (some .boolean))
theorem kc_499 : Cond.code yX4_isBroken cX4_isBroken 4 (some .boolean) ∈ zT := zT_of 534 (by decide +kernel) (by decide +kernel)
theorem mmX4_isBroken : zMm mX4_isBroken 3 := ⟨kw_40, kc_499, by decide +kernel, by decide⟩
theorem kw_319 : Cond.fieldLink "RefitYard$Rules" (59 : Nat) "RefitYard$Work" "shift" "I" ∈ zT := zT_of 319 (by decide +kernel) (by decide +kernel)
theorem fl_X4_59 : zFl RX4 59 6 8 16 .int false := ⟨RX5, TX5, 8, rfl, by decide, rfl, by decide, ui_X5, kw_319, rfl, tyX5_ok, nmX5, rfl, rfl⟩
theorem kw_490 : Cond.methodLink "RefitYard$Rules" (62 : Nat) ⟨"RefitYard$Net", "readyFrom", "(LRefitYard$Work;)I"⟩ ∈ zT := zT_of 490 (by decide +kernel) (by decide +kernel)
theorem kw_491 : Cond.instanceMethod ⟨"RefitYard$Net", "readyFrom", "(LRefitYard$Work;)I"⟩ ∈ zT := zT_of 491 (by decide +kernel) (by decide +kernel)
theorem kw_492 : Cond.selects "RefitYard$Net" ⟨"RefitYard$Net", "readyFrom", "(LRefitYard$Work;)I"⟩ ⟨"RefitYard$Net", "readyFrom", "(LRefitYard$Work;)I"⟩ ∈ zT := zT_of 492 (by decide +kernel) (by decide +kernel)
theorem mv_X4_62 : zMV RX4 62 mX2_readyFrom 1 3 6 := ⟨mmX2_readyFrom, ⟨kw_490, kw_491, kw_492⟩, TX2, rfl, by decide, by decide⟩
def mX4_lacksHands : zF := (yX4_lacksHands, cX4_lacksHands, 5, (some .boolean))
theorem kc_467 : Cond.code yX4_lacksHands cX4_lacksHands 5 (some .boolean) ∈ zT := zT_of 502 (by decide +kernel) (by decide +kernel)
theorem mmX4_lacksHands : zMm mX4_lacksHands 2 := ⟨kw_40, kc_467, by decide +kernel, by decide⟩
theorem kw_499 : Cond.methodLink "RefitYard$Rules" (66 : Nat) ⟨"RefitYard$Rules", "lacksHands", "(LRefitYard$Work;I)Z"⟩ ∈ zT := zT_of 499 (by decide +kernel) (by decide +kernel)
theorem kw_501 : Cond.instanceMethod ⟨"RefitYard$Rules", "lacksHands", "(LRefitYard$Work;I)Z"⟩ ∈ zT := zT_of 501 (by decide +kernel) (by decide +kernel)
theorem kw_7 : Cond.selects "RefitYard$Rules" ⟨"RefitYard$Rules", "lacksHands", "(LRefitYard$Work;I)Z"⟩ ⟨"RefitYard$Rules", "lacksHands", "(LRefitYard$Work;I)Z"⟩ ∈ zT := zT_of 7 (by decide +kernel) (by decide +kernel)
theorem mv_X4_66 : zMV RX4 66 mX4_lacksHands 2 5 5 := ⟨mmX4_lacksHands, ⟨kw_499, kw_501, kw_7⟩, TX4, rfl, by decide, by decide⟩
def mX4_lacksGood : zF := (yX4_lacksGood, cX4_lacksGood, 5, (some .boolean))
theorem kc_471 : Cond.code yX4_lacksGood cX4_lacksGood 5 (some .boolean) ∈ zT := zT_of 506 (by decide +kernel) (by decide +kernel)
theorem mmX4_lacksGood : zMm mX4_lacksGood 2 := ⟨kw_40, kc_471, by decide +kernel, by decide⟩
theorem kw_503 : Cond.methodLink "RefitYard$Rules" (70 : Nat) ⟨"RefitYard$Rules", "lacksGood", "(LRefitYard$Work;I)Z"⟩ ∈ zT := zT_of 503 (by decide +kernel) (by decide +kernel)
theorem kw_505 : Cond.instanceMethod ⟨"RefitYard$Rules", "lacksGood", "(LRefitYard$Work;I)Z"⟩ ∈ zT := zT_of 505 (by decide +kernel) (by decide +kernel)
theorem kw_8 : Cond.selects "RefitYard$Rules" ⟨"RefitYard$Rules", "lacksGood", "(LRefitYard$Work;I)Z"⟩ ⟨"RefitYard$Rules", "lacksGood", "(LRefitYard$Work;I)Z"⟩ ∈ zT := zT_of 8 (by decide +kernel) (by decide +kernel)
theorem mv_X4_70 : zMV RX4 70 mX4_lacksGood 2 5 5 := ⟨mmX4_lacksGood, ⟨kw_503, kw_505, kw_8⟩, TX4, rfl, by decide, by decide⟩
def mX4_lacksRoom : zF := (yX4_lacksRoom, cX4_lacksRoom, 5, (some .boolean))
theorem kc_476 : Cond.code yX4_lacksRoom cX4_lacksRoom 5 (some .boolean) ∈ zT := zT_of 511 (by decide +kernel) (by decide +kernel)
theorem mmX4_lacksRoom : zMm mX4_lacksRoom 2 := ⟨kw_40, kc_476, by decide +kernel, by decide⟩
theorem kw_508 : Cond.methodLink "RefitYard$Rules" (73 : Nat) ⟨"RefitYard$Rules", "lacksRoom", "(LRefitYard$Work;I)Z"⟩ ∈ zT := zT_of 508 (by decide +kernel) (by decide +kernel)
theorem kw_510 : Cond.instanceMethod ⟨"RefitYard$Rules", "lacksRoom", "(LRefitYard$Work;I)Z"⟩ ∈ zT := zT_of 510 (by decide +kernel) (by decide +kernel)
theorem kw_9 : Cond.selects "RefitYard$Rules" ⟨"RefitYard$Rules", "lacksRoom", "(LRefitYard$Work;I)Z"⟩ ⟨"RefitYard$Rules", "lacksRoom", "(LRefitYard$Work;I)Z"⟩ ∈ zT := zT_of 9 (by decide +kernel) (by decide +kernel)
theorem mv_X4_73 : zMV RX4 73 mX4_lacksRoom 2 5 5 := ⟨mmX4_lacksRoom, ⟨kw_508, kw_510, kw_9⟩, TX4, rfl, by decide, by decide⟩
def mX4_meetsFoe : zF := (yX4_meetsFoe, cX4_meetsFoe, 3, (some .boolean))
theorem kc_480 : Cond.code yX4_meetsFoe cX4_meetsFoe 3 (some .boolean) ∈ zT := zT_of 515 (by decide +kernel) (by decide +kernel)
theorem mmX4_meetsFoe : zMm mX4_meetsFoe 2 := ⟨kw_40, kc_480, by decide +kernel, by decide⟩
theorem kw_512 : Cond.methodLink "RefitYard$Rules" (76 : Nat) ⟨"RefitYard$Rules", "meetsFoe", "(LRefitYard$Work;I)Z"⟩ ∈ zT := zT_of 512 (by decide +kernel) (by decide +kernel)
theorem kw_514 : Cond.instanceMethod ⟨"RefitYard$Rules", "meetsFoe", "(LRefitYard$Work;I)Z"⟩ ∈ zT := zT_of 514 (by decide +kernel) (by decide +kernel)
theorem kw_10 : Cond.selects "RefitYard$Rules" ⟨"RefitYard$Rules", "meetsFoe", "(LRefitYard$Work;I)Z"⟩ ⟨"RefitYard$Rules", "meetsFoe", "(LRefitYard$Work;I)Z"⟩ ∈ zT := zT_of 10 (by decide +kernel) (by decide +kernel)
theorem mv_X4_76 : zMV RX4 76 mX4_meetsFoe 2 5 5 := ⟨mmX4_meetsFoe, ⟨kw_512, kw_514, kw_10⟩, TX4, rfl, by decide, by decide⟩
theorem kw_131 : Cond.fieldLink "RefitYard$Rules" (79 : Nat) "RefitYard$Board" "hands" "[[I" ∈ zT := zT_of 131 (by decide +kernel) (by decide +kernel)
theorem fl_X4_79 : zFl RX4 79 1 1 3 (.array (.array .int)) true := ⟨RX0, TX0, 1, rfl, by decide, rfl, by decide, ui_X0, kw_131, rfl, tyX0_ok, nmX0, rfl, rfl⟩
theorem kw_291 : Cond.fieldLink "RefitYard$Rules" (85 : Nat) "RefitYard$Work" "trade" "I" ∈ zT := zT_of 291 (by decide +kernel) (by decide +kernel)
theorem fl_X4_85 : zFl RX4 85 6 2 16 .int true := ⟨RX5, TX5, 2, rfl, by decide, rfl, by decide, ui_X5, kw_291, rfl, tyX5_ok, nmX5, rfl, rfl⟩
theorem kw_128 : Cond.fieldLink "RefitYard$Rules" (88 : Nat) "RefitYard$Board" "within" "[J" ∈ zT := zT_of 128 (by decide +kernel) (by decide +kernel)
theorem fl_X4_88 : zFl RX4 88 1 0 3 (.array .long) true := ⟨RX0, TX0, 0, rfl, by decide, rfl, by decide, ui_X0, kw_128, rfl, tyX0_ok, nmX0, rfl, rfl⟩
theorem kw_296 : Cond.fieldLink "RefitYard$Rules" (92 : Nat) "RefitYard$Work" "hands" "I" ∈ zT := zT_of 296 (by decide +kernel) (by decide +kernel)
theorem fl_X4_92 : zFl RX4 92 6 3 16 .int true := ⟨RX5, TX5, 3, rfl, by decide, rfl, by decide, ui_X5, kw_296, rfl, tyX5_ok, nmX5, rfl, rfl⟩
theorem kw_309 : Cond.fieldLink "RefitYard$Rules" (94 : Nat) "RefitYard$Work" "good" "I" ∈ zT := zT_of 309 (by decide +kernel) (by decide +kernel)
theorem fl_X4_94 : zFl RX4 94 6 6 16 .int true := ⟨RX5, TX5, 6, rfl, by decide, rfl, by decide, ui_X5, kw_309, rfl, tyX5_ok, nmX5, rfl, rfl⟩
theorem kw_95 : Cond.fieldLink "RefitYard$Rules" (97 : Nat) "RefitYard$Net" "takers" "[J" ∈ zT := zT_of 95 (by decide +kernel) (by decide +kernel)
theorem fl_X4_97 : zFl RX4 97 3 2 6 (.array .long) true := ⟨RX2, TX2, 2, rfl, by decide, rfl, by decide, ui_X2, kw_95, rfl, tyX2_ok, nmX2, rfl, rfl⟩
theorem kw_507 : Cond.methodLink "RefitYard$Rules" (100 : Nat) ⟨"java/lang/Long", "bitCount", "(J)I"⟩ ∈ zT := zT_of 507 (by decide +kernel) (by decide +kernel)
theorem ms_X4_100 : zMS RX4 100 mJ13_bitCount_95d88 1 := ⟨mmJ13_bitCount_95d88, kw_507, kw_388⟩
theorem kw_98 : Cond.fieldLink "RefitYard$Rules" (106 : Nat) "RefitYard$Net" "dwellers" "[J" ∈ zT := zT_of 98 (by decide +kernel) (by decide +kernel)
theorem fl_X4_106 : zFl RX4 106 3 3 6 (.array .long) true := ⟨RX2, TX2, 3, rfl, by decide, rfl, by decide, ui_X2, kw_98, rfl, tyX2_ok, nmX2, rfl, rfl⟩
theorem kw_301 : Cond.fieldLink "RefitYard$Rules" (109 : Nat) "RefitYard$Work" "space" "I" ∈ zT := zT_of 301 (by decide +kernel) (by decide +kernel)
theorem fl_X4_109 : zFl RX4 109 6 4 16 .int true := ⟨RX5, TX5, 4, rfl, by decide, rfl, by decide, ui_X5, kw_301, rfl, tyX5_ok, nmX5, rfl, rfl⟩
theorem kw_61 : Cond.fieldLink "RefitYard$Rules" (112 : Nat) "RefitYard$Ground" "bears" "[I" ∈ zT := zT_of 61 (by decide +kernel) (by decide +kernel)
theorem fl_X4_112 : zFl RX4 112 2 0 5 (.array .int) true := ⟨RX1, TX1, 0, rfl, by decide, rfl, by decide, ui_X1, kw_61, rfl, tyX1_ok, nmX1, rfl, rfl⟩
def mX4_isFree : zF := (yX4_isFree, cX4_isFree, 3, (some .boolean))
theorem kc_463 : Cond.code yX4_isFree cX4_isFree 3 (some .boolean) ∈ zT := zT_of 498 (by decide +kernel) (by decide +kernel)
theorem mmX4_isFree : zMm mX4_isFree 2 := ⟨kw_40, kc_463, by decide +kernel, by decide⟩
def mX4_leastBroken : zF := (yX4_leastBroken, cX4_leastBroken, 3, (some .int))
theorem kc_489 : Cond.code yX4_leastBroken cX4_leastBroken 3 (some .int) ∈ zT := zT_of 524 (by decide +kernel) (by decide +kernel)
theorem mmX4_leastBroken : zMm mX4_leastBroken 1 := ⟨kw_40, kc_489, by decide +kernel, by decide⟩
def mX4_leastShift : zF := (yX4_leastShift, cX4_leastShift, 4, (some .int))
theorem kc_493 : Cond.code yX4_leastShift cX4_leastShift 4 (some .int) ∈ zT := zT_of 528 (by decide +kernel) (by decide +kernel)
theorem mmX4_leastShift : zMm mX4_leastShift 2 := ⟨kw_40, kc_493, by decide +kernel, by decide⟩
theorem kw_525 : Cond.methodLink "RefitYard$Rules" (115 : Nat) ⟨"RefitYard$Rules", "leastShift", "(LRefitYard$Work;I)I"⟩ ∈ zT := zT_of 525 (by decide +kernel) (by decide +kernel)
theorem kw_526 : Cond.instanceMethod ⟨"RefitYard$Rules", "leastShift", "(LRefitYard$Work;I)I"⟩ ∈ zT := zT_of 526 (by decide +kernel) (by decide +kernel)
theorem kw_527 : Cond.selects "RefitYard$Rules" ⟨"RefitYard$Rules", "leastShift", "(LRefitYard$Work;I)I"⟩ ⟨"RefitYard$Rules", "leastShift", "(LRefitYard$Work;I)I"⟩ ∈ zT := zT_of 527 (by decide +kernel) (by decide +kernel)
theorem mv_X4_115 : zMV RX4 115 mX4_leastShift 2 5 5 := ⟨mmX4_leastShift, ⟨kw_525, kw_526, kw_527⟩, TX4, rfl, by decide, by decide⟩
theorem kw_529 : Cond.methodLink "RefitYard$Rules" (119 : Nat) ⟨"RefitYard$Work", "isOpen", "()Z"⟩ ∈ zT := zT_of 529 (by decide +kernel) (by decide +kernel)
theorem mv_X4_119 : zMV RX4 119 mX5_isOpen 0 6 16 := ⟨mmX5_isOpen, ⟨kw_529, kw_433, kw_434⟩, TX5, rfl, by decide, by decide⟩
theorem kw_530 : Cond.methodLink "RefitYard$Rules" (123 : Nat) ⟨"RefitYard$Work", "behind", "()I"⟩ ∈ zT := zT_of 530 (by decide +kernel) (by decide +kernel)
theorem mv_X4_123 : zMV RX4 123 mX5_behind 0 6 16 := ⟨mmX5_behind, ⟨kw_530, kw_456, kw_457⟩, TX5, rfl, by decide, by decide⟩
theorem kw_531 : Cond.methodLink "RefitYard$Rules" (127 : Nat) ⟨"RefitYard$Rules", "isBroken", "(LRefitYard$Work;II)Z"⟩ ∈ zT := zT_of 531 (by decide +kernel) (by decide +kernel)
theorem kw_533 : Cond.instanceMethod ⟨"RefitYard$Rules", "isBroken", "(LRefitYard$Work;II)Z"⟩ ∈ zT := zT_of 533 (by decide +kernel) (by decide +kernel)
theorem kw_11 : Cond.selects "RefitYard$Rules" ⟨"RefitYard$Rules", "isBroken", "(LRefitYard$Work;II)Z"⟩ ⟨"RefitYard$Rules", "isBroken", "(LRefitYard$Work;II)Z"⟩ ∈ zT := zT_of 11 (by decide +kernel) (by decide +kernel)
theorem mv_X4_127 : zMV RX4 127 mX4_isBroken 3 5 5 := ⟨mmX4_isBroken, ⟨kw_531, kw_533, kw_11⟩, TX4, rfl, by decide, by decide⟩
def mX4_firstPlace : zF := (yX4_firstPlace, cX4_firstPlace, 6, (some .int))
theorem kc_445 : Cond.code yX4_firstPlace cX4_firstPlace 6 (some .int) ∈ zT := zT_of 480 (by decide +kernel) (by decide +kernel)
theorem mmX4_firstPlace : zMm mX4_firstPlace 2 := ⟨kw_40, kc_445, by decide +kernel, by decide⟩
theorem kw_481 : Cond.methodLink "RefitYard$Rules" (131 : Nat) ⟨"RefitYard$Net", "dueBy", "(LRefitYard$Work;)I"⟩ ∈ zT := zT_of 481 (by decide +kernel) (by decide +kernel)
theorem kw_482 : Cond.instanceMethod ⟨"RefitYard$Net", "dueBy", "(LRefitYard$Work;)I"⟩ ∈ zT := zT_of 482 (by decide +kernel) (by decide +kernel)
theorem kw_483 : Cond.selects "RefitYard$Net" ⟨"RefitYard$Net", "dueBy", "(LRefitYard$Work;)I"⟩ ⟨"RefitYard$Net", "dueBy", "(LRefitYard$Work;)I"⟩ ∈ zT := zT_of 483 (by decide +kernel) (by decide +kernel)
theorem mv_X4_131 : zMV RX4 131 mX2_dueBy 1 3 6 := ⟨mmX2_dueBy, ⟨kw_481, kw_482, kw_483⟩, TX2, rfl, by decide, by decide⟩
theorem kw_134 : Cond.fieldLink "RefitYard$Rules" (134 : Nat) "RefitYard$Board" "now" "I" ∈ zT := zT_of 134 (by decide +kernel) (by decide +kernel)
theorem fl_X4_134 : zFl RX4 134 1 2 3 .int false := ⟨RX0, TX0, 2, rfl, by decide, rfl, by decide, ui_X0, kw_134, rfl, tyX0_ok, nmX0, rfl, rfl⟩
theorem kw_489 : Cond.methodLink "RefitYard$Rules" (137 : Nat) ⟨"java/lang/Math", "max", "(II)I"⟩ ∈ zT := zT_of 489 (by decide +kernel) (by decide +kernel)
theorem mm_X4_137 : Cond.methodLink RX4 137 Lib.Math.max.name ∈ zT ∧ Cond.static Lib.Math.max.name ∈ zT ∧ Cond.initialized "java/lang/Math" ∈ zT ∧ Cond.code Lib.Math.max.name Lib.Math.max.code 2 (some .int) ∈ zT := ⟨kw_489, kw_402, kw_45, zT_of 403 (by decide +kernel) (by decide +kernel)⟩
theorem kw_495 : Cond.methodLink "RefitYard$Rules" (143 : Nat) ⟨"RefitYard$Rules", "isFree", "(LRefitYard$Work;I)Z"⟩ ∈ zT := zT_of 495 (by decide +kernel) (by decide +kernel)
theorem kw_497 : Cond.instanceMethod ⟨"RefitYard$Rules", "isFree", "(LRefitYard$Work;I)Z"⟩ ∈ zT := zT_of 497 (by decide +kernel) (by decide +kernel)
theorem kw_6 : Cond.selects "RefitYard$Rules" ⟨"RefitYard$Rules", "isFree", "(LRefitYard$Work;I)Z"⟩ ⟨"RefitYard$Rules", "isFree", "(LRefitYard$Work;I)Z"⟩ ∈ zT := zT_of 6 (by decide +kernel) (by decide +kernel)
theorem mv_X4_143 : zMV RX4 143 mX4_isFree 2 5 5 := ⟨mmX4_isFree, ⟨kw_495, kw_497, kw_6⟩, TX4, rfl, by decide, by decide⟩
theorem kw_316 : Cond.fieldLink "RefitYard$Rules" (146 : Nat) "RefitYard$Work" "length" "I" ∈ zT := zT_of 316 (by decide +kernel) (by decide +kernel)
theorem fl_X4_146 : zFl RX4 146 6 7 16 .int false := ⟨RX5, TX5, 7, rfl, by decide, rfl, by decide, ui_X5, kw_316, rfl, tyX5_ok, nmX5, rfl, rfl⟩
def mX3_init : zF := (yX3_init, cX3_init, 4, none)
theorem kw_41 : Cond.initialized "RefitYard$Orders" ∈ zT := zT_of 41 (by decide +kernel) (by decide +kernel)
theorem kc_135 : Cond.code yX3_init cX3_init 4 none ∈ zT := zT_of 170 (by decide +kernel) (by decide +kernel)
theorem mmX3_init : zMm mX3_init 3 := ⟨kw_41, kc_135, by decide +kernel, by decide⟩
theorem kw_171 : Cond.methodLink "RefitYard$Orders" (3 : Nat) ⟨"java/lang/Object", "<init>", "()V"⟩ ∈ zT := zT_of 171 (by decide +kernel) (by decide +kernel)
theorem oi_X3_3 : Cond.methodLink RX3 3 Lib.objectInit ∈ zT ∧ Cond.instanceMethod Lib.objectInit ∈ zT ∧ Cond.code Lib.objectInit ⟨#[0xb1]⟩ 1 none ∈ zT := ⟨kw_171, kw_52, zT_of 53 (by decide +kernel) (by decide +kernel)⟩
theorem kw_172 : Cond.fieldLink "RefitYard$Orders" (9 : Nat) "RefitYard$Orders" "places" "[I" ∈ zT := zT_of 172 (by decide +kernel) (by decide +kernel)
theorem ui_X3 : ∀ w ∈ u_ws RX3 TX3 5, w ∈ zT := by decide +kernel
theorem fl_X3_9 : zFl RX3 9 4 0 5 (.array .int) true := ⟨RX3, TX3, 0, rfl, by decide, rfl, by decide, ui_X3, kw_172, rfl, tyX3_ok, nmX3, rfl, rfl⟩
theorem kw_173 : Cond.fieldLink "RefitYard$Orders" (15 : Nat) "RefitYard$Orders" "net" "LRefitYard$Net;" ∈ zT := zT_of 173 (by decide +kernel) (by decide +kernel)
theorem fl_X3_15 : zFl RX3 15 4 1 5 (.object "RefitYard$Net") true := ⟨RX3, TX3, 1, rfl, by decide, rfl, by decide, ui_X3, kw_173, rfl, tyX3_ok, nmX3, rfl, rfl⟩
theorem kw_174 : Cond.fieldLink "RefitYard$Orders" (19 : Nat) "RefitYard$Orders" "board" "LRefitYard$Board;" ∈ zT := zT_of 174 (by decide +kernel) (by decide +kernel)
theorem fl_X3_19 : zFl RX3 19 4 2 5 (.object "RefitYard$Board") true := ⟨RX3, TX3, 2, rfl, by decide, rfl, by decide, ui_X3, kw_174, rfl, tyX3_ok, nmX3, rfl, rfl⟩
theorem kw_175 : Cond.fieldLink "RefitYard$Orders" (23 : Nat) "RefitYard$Orders" "rules" "LRefitYard$Rules;" ∈ zT := zT_of 175 (by decide +kernel) (by decide +kernel)
theorem fl_X3_23 : zFl RX3 23 4 3 5 (.object "RefitYard$Rules") true := ⟨RX3, TX3, 3, rfl, by decide, rfl, by decide, ui_X3, kw_175, rfl, tyX3_ok, nmX3, rfl, rfl⟩
def mX3_layBest : zF := (yX3_layBest, cX3_layBest, 2, (some .int))
theorem kc_553 : Cond.code yX3_layBest cX3_layBest 2 (some .int) ∈ zT := zT_of 588 (by decide +kernel) (by decide +kernel)
theorem mmX3_layBest : zMm mX3_layBest 0 := ⟨kw_41, kc_553, by decide +kernel, by decide⟩
theorem kw_176 : Cond.fieldLink "RefitYard$Orders" (27 : Nat) "RefitYard$Orders" "soonest" "I" ∈ zT := zT_of 176 (by decide +kernel) (by decide +kernel)
theorem fl_X3_27 : zFl RX3 27 4 4 5 .int false := ⟨RX3, TX3, 4, rfl, by decide, rfl, by decide, ui_X3, kw_176, rfl, tyX3_ok, nmX3, rfl, rfl⟩
def mX3_layNext : zF := (yX3_layNext, cX3_layNext, 6, none)
theorem kc_557 : Cond.code yX3_layNext cX3_layNext 6 none ∈ zT := zT_of 592 (by decide +kernel) (by decide +kernel)
theorem mmX3_layNext : zMm mX3_layNext 2 := ⟨kw_41, kc_557, by decide +kernel, by decide⟩
theorem kw_589 : Cond.methodLink "RefitYard$Orders" (31 : Nat) ⟨"RefitYard$Orders", "layNext", "(II)V"⟩ ∈ zT := zT_of 589 (by decide +kernel) (by decide +kernel)
theorem kw_591 : Cond.instanceMethod ⟨"RefitYard$Orders", "layNext", "(II)V"⟩ ∈ zT := zT_of 591 (by decide +kernel) (by decide +kernel)
theorem kw_14 : Cond.selects "RefitYard$Orders" ⟨"RefitYard$Orders", "layNext", "(II)V"⟩ ⟨"RefitYard$Orders", "layNext", "(II)V"⟩ ∈ zT := zT_of 14 (by decide +kernel) (by decide +kernel)
theorem mv_X3_31 : zMV RX3 31 mX3_layNext 2 4 5 := ⟨mmX3_layNext, ⟨kw_589, kw_591, kw_14⟩, TX3, rfl, by decide, by decide⟩
theorem kw_101 : Cond.fieldLink "RefitYard$Orders" (35 : Nat) "RefitYard$Net" "size" "I" ∈ zT := zT_of 101 (by decide +kernel) (by decide +kernel)
theorem fl_X3_35 : zFl RX3 35 3 4 6 .int false := ⟨RX2, TX2, 4, rfl, by decide, rfl, by decide, ui_X2, kw_101, rfl, tyX2_ok, nmX2, rfl, rfl⟩
theorem kw_91 : Cond.fieldLink "RefitYard$Orders" (40 : Nat) "RefitYard$Net" "works" "[LRefitYard$Work;" ∈ zT := zT_of 91 (by decide +kernel) (by decide +kernel)
theorem fl_X3_40 : zFl RX3 40 3 0 6 (.array (.object "RefitYard$Work")) true := ⟨RX2, TX2, 0, rfl, by decide, rfl, by decide, ui_X2, kw_91, rfl, tyX2_ok, nmX2, rfl, rfl⟩
theorem kw_605 : Cond.methodLink "RefitYard$Orders" (44 : Nat) ⟨"RefitYard$Board", "lay", "(LRefitYard$Work;I)V"⟩ ∈ zT := zT_of 605 (by decide +kernel) (by decide +kernel)
theorem mv_X3_44 : zMV RX3 44 mX0_lay 2 1 3 := ⟨mmX0_lay, ⟨kw_605, kw_461, kw_462⟩, TX0, rfl, by decide, by decide⟩
def mX3_keep : zF := (yX3_keep, cX3_keep, 3, none)
theorem kc_561 : Cond.code yX3_keep cX3_keep 3 none ∈ zT := zT_of 596 (by decide +kernel) (by decide +kernel)
theorem mmX3_keep : zMm mX3_keep 1 := ⟨kw_41, kc_561, by decide +kernel, by decide⟩
theorem kw_593 : Cond.methodLink "RefitYard$Orders" (50 : Nat) ⟨"RefitYard$Orders", "keep", "(I)V"⟩ ∈ zT := zT_of 593 (by decide +kernel) (by decide +kernel)
theorem kw_595 : Cond.instanceMethod ⟨"RefitYard$Orders", "keep", "(I)V"⟩ ∈ zT := zT_of 595 (by decide +kernel) (by decide +kernel)
theorem kw_15 : Cond.selects "RefitYard$Orders" ⟨"RefitYard$Orders", "keep", "(I)V"⟩ ⟨"RefitYard$Orders", "keep", "(I)V"⟩ ∈ zT := zT_of 15 (by decide +kernel) (by decide +kernel)
theorem mv_X3_50 : zMV RX3 50 mX3_keep 1 4 5 := ⟨mmX3_keep, ⟨kw_593, kw_595, kw_15⟩, TX3, rfl, by decide, by decide⟩
theorem kw_597 : Cond.methodLink "RefitYard$Orders" (54 : Nat) ⟨"RefitYard$Net", "allThatArePut", "()J"⟩ ∈ zT := zT_of 597 (by decide +kernel) (by decide +kernel)
theorem mv_X3_54 : zMV RX3 54 mX2_allThatArePut 0 3 6 := ⟨mmX2_allThatArePut, ⟨kw_597, kw_571, kw_572⟩, TX2, rfl, by decide, by decide⟩
theorem kw_598 : Cond.methodLink "RefitYard$Orders" (58 : Nat) ⟨"RefitYard$Work", "isReady", "(J)Z"⟩ ∈ zT := zT_of 598 (by decide +kernel) (by decide +kernel)
theorem mv_X3_58 : zMV RX3 58 mX5_isReady 1 6 16 := ⟨mmX5_isReady, ⟨kw_598, kw_575, kw_576⟩, TX5, rfl, by decide, by decide⟩
def mX3_layAndGoOn : zF := (yX3_layAndGoOn, cX3_layAndGoOn, 5, none)
theorem kc_567 : Cond.code yX3_layAndGoOn cX3_layAndGoOn 5 none ∈ zT := zT_of 602 (by decide +kernel) (by decide +kernel)
theorem mmX3_layAndGoOn : zMm mX3_layAndGoOn 3 := ⟨kw_41, kc_567, by decide +kernel, by decide⟩
theorem kw_599 : Cond.methodLink "RefitYard$Orders" (64 : Nat) ⟨"RefitYard$Orders", "layAndGoOn", "(LRefitYard$Work;II)V"⟩ ∈ zT := zT_of 599 (by decide +kernel) (by decide +kernel)
theorem kw_601 : Cond.instanceMethod ⟨"RefitYard$Orders", "layAndGoOn", "(LRefitYard$Work;II)V"⟩ ∈ zT := zT_of 601 (by decide +kernel) (by decide +kernel)
theorem kw_16 : Cond.selects "RefitYard$Orders" ⟨"RefitYard$Orders", "layAndGoOn", "(LRefitYard$Work;II)V"⟩ ⟨"RefitYard$Orders", "layAndGoOn", "(LRefitYard$Work;II)V"⟩ ∈ zT := zT_of 16 (by decide +kernel) (by decide +kernel)
theorem mv_X3_64 : zMV RX3 64 mX3_layAndGoOn 3 4 5 := ⟨mmX3_layAndGoOn, ⟨kw_599, kw_601, kw_16⟩, TX3, rfl, by decide, by decide⟩
theorem kw_603 : Cond.methodLink "RefitYard$Orders" (68 : Nat) ⟨"RefitYard$Rules", "firstPlace", "(LRefitYard$Work;I)I"⟩ ∈ zT := zT_of 603 (by decide +kernel) (by decide +kernel)
theorem kw_478 : Cond.instanceMethod ⟨"RefitYard$Rules", "firstPlace", "(LRefitYard$Work;I)I"⟩ ∈ zT := zT_of 478 (by decide +kernel) (by decide +kernel)
theorem kw_479 : Cond.selects "RefitYard$Rules" ⟨"RefitYard$Rules", "firstPlace", "(LRefitYard$Work;I)I"⟩ ⟨"RefitYard$Rules", "firstPlace", "(LRefitYard$Work;I)I"⟩ ∈ zT := zT_of 479 (by decide +kernel) (by decide +kernel)
theorem mv_X3_68 : zMV RX3 68 mX4_firstPlace 2 5 5 := ⟨mmX4_firstPlace, ⟨kw_603, kw_478, kw_479⟩, TX4, rfl, by decide, by decide⟩
theorem kw_313 : Cond.fieldLink "RefitYard$Orders" (74 : Nat) "RefitYard$Work" "length" "I" ∈ zT := zT_of 313 (by decide +kernel) (by decide +kernel)
theorem fl_X3_74 : zFl RX3 74 6 7 16 .int false := ⟨RX5, TX5, 7, rfl, by decide, rfl, by decide, ui_X5, kw_313, rfl, tyX5_ok, nmX5, rfl, rfl⟩
theorem kw_604 : Cond.methodLink "RefitYard$Orders" (77 : Nat) ⟨"java/lang/Math", "max", "(II)I"⟩ ∈ zT := zT_of 604 (by decide +kernel) (by decide +kernel)
theorem mm_X3_77 : Cond.methodLink RX3 77 Lib.Math.max.name ∈ zT ∧ Cond.static Lib.Math.max.name ∈ zT ∧ Cond.initialized "java/lang/Math" ∈ zT ∧ Cond.code Lib.Math.max.name Lib.Math.max.code 2 (some .int) ∈ zT := ⟨kw_604, kw_402, kw_45, zT_of 403 (by decide +kernel) (by decide +kernel)⟩
theorem kw_606 : Cond.methodLink "RefitYard$Orders" (83 : Nat) ⟨"RefitYard$Work", "behind", "()I"⟩ ∈ zT := zT_of 606 (by decide +kernel) (by decide +kernel)
theorem mv_X3_83 : zMV RX3 83 mX5_behind 0 6 16 := ⟨mmX5_behind, ⟨kw_606, kw_456, kw_457⟩, TX5, rfl, by decide, by decide⟩
theorem kw_607 : Cond.methodLink "RefitYard$Orders" (87 : Nat) ⟨"RefitYard$Board", "lift", "(LRefitYard$Work;)V"⟩ ∈ zT := zT_of 607 (by decide +kernel) (by decide +kernel)
theorem mv_X3_87 : zMV RX3 87 mX0_lift 1 1 3 := ⟨mmX0_lift, ⟨kw_607, kw_451, kw_452⟩, TX0, rfl, by decide, by decide⟩
theorem kw_320 : Cond.fieldLink "RefitYard$Orders" (91 : Nat) "RefitYard$Work" "shift" "I" ∈ zT := zT_of 320 (by decide +kernel) (by decide +kernel)
theorem fl_X3_91 : zFl RX3 91 6 8 16 .int false := ⟨RX5, TX5, 8, rfl, by decide, rfl, by decide, ui_X5, kw_320, rfl, tyX5_ok, nmX5, rfl, rfl⟩
def mX6_init : zF := (yX6_init, cX6_init, 1, none)
theorem kw_36 : Cond.initialized "RefitYard" ∈ zT := zT_of 36 (by decide +kernel) (by decide +kernel)
theorem kc_15 : Cond.code yX6_init cX6_init 1 none ∈ zT := zT_of 50 (by decide +kernel) (by decide +kernel)
theorem mmX6_init : zMm mX6_init 0 := ⟨kw_36, kc_15, by decide +kernel, by decide⟩
theorem kw_51 : Cond.methodLink "RefitYard" (1 : Nat) ⟨"java/lang/Object", "<init>", "()V"⟩ ∈ zT := zT_of 51 (by decide +kernel) (by decide +kernel)
theorem oi_X6_1 : Cond.methodLink RX6 1 Lib.objectInit ∈ zT ∧ Cond.instanceMethod Lib.objectInit ∈ zT ∧ Cond.code Lib.objectInit ⟨#[0xb1]⟩ 1 none ∈ zT := ⟨kw_51, kw_52, zT_of 53 (by decide +kernel) (by decide +kernel)⟩
theorem kw_54 : Cond.classLink "RefitYard" (7 : Nat) "RefitYard$Ground" ∈ zT := zT_of 54 (by decide +kernel) (by decide +kernel)
theorem kw_55 : Cond.instantiable "RefitYard$Ground" (5 : Nat) ∈ zT := zT_of 55 (by decide +kernel) (by decide +kernel)
theorem nw_X6_7 : zNw RX6 7 2 5 := ⟨RX1, TX1, rfl, by decide, by decide, ui_X1, tyX1_ok, kw_54, kw_55, kw_37, by decide⟩
theorem kw_57 : Cond.instanceMethod ⟨"RefitYard$Ground", "<init>", "()V"⟩ ∈ zT := zT_of 57 (by decide +kernel) (by decide +kernel)
theorem kw_56 : Cond.methodLinkNest "RefitYard" (9 : Nat) ⟨"RefitYard$Ground", "<init>", "()V"⟩ "RefitYard" ∈ zT := zT_of 56 (by decide +kernel) (by decide +kernel)
theorem mi_X6_9 : zMI RX6 9 mX1_init 0 := ⟨mmX1_init, rfl, rfl, kw_57, Or.inr ⟨_, kw_56⟩⟩
theorem kw_188 : Cond.fieldLink "RefitYard" (10 : Nat) "RefitYard" "ground" "LRefitYard$Ground;" ∈ zT := zT_of 188 (by decide +kernel) (by decide +kernel)
theorem ui_X6 : ∀ w ∈ u_ws RX6 TX6 5, w ∈ zT := by decide +kernel
theorem fl_X6_10 : zFl RX6 10 7 0 5 (.object "RefitYard$Ground") true := ⟨RX6, TX6, 0, rfl, by decide, rfl, by decide, ui_X6, kw_188, rfl, tyX6_ok, nmX6, rfl, rfl⟩
theorem kw_81 : Cond.classLink "RefitYard" (16 : Nat) "RefitYard$Net" ∈ zT := zT_of 81 (by decide +kernel) (by decide +kernel)
theorem kw_82 : Cond.instantiable "RefitYard$Net" (6 : Nat) ∈ zT := zT_of 82 (by decide +kernel) (by decide +kernel)
theorem nw_X6_16 : zNw RX6 16 3 6 := ⟨RX2, TX2, rfl, by decide, by decide, ui_X2, tyX2_ok, kw_81, kw_82, kw_38, by decide⟩
theorem kw_84 : Cond.instanceMethod ⟨"RefitYard$Net", "<init>", "()V"⟩ ∈ zT := zT_of 84 (by decide +kernel) (by decide +kernel)
theorem kw_83 : Cond.methodLinkNest "RefitYard" (18 : Nat) ⟨"RefitYard$Net", "<init>", "()V"⟩ "RefitYard" ∈ zT := zT_of 83 (by decide +kernel) (by decide +kernel)
theorem mi_X6_18 : zMI RX6 18 mX2_init 0 := ⟨mmX2_init, rfl, rfl, kw_84, Or.inr ⟨_, kw_83⟩⟩
theorem kw_189 : Cond.fieldLink "RefitYard" (19 : Nat) "RefitYard" "net" "LRefitYard$Net;" ∈ zT := zT_of 189 (by decide +kernel) (by decide +kernel)
theorem fl_X6_19 : zFl RX6 19 7 1 5 (.object "RefitYard$Net") true := ⟨RX6, TX6, 1, rfl, by decide, rfl, by decide, ui_X6, kw_189, rfl, tyX6_ok, nmX6, rfl, rfl⟩
theorem kw_119 : Cond.classLink "RefitYard" (23 : Nat) "RefitYard$Board" ∈ zT := zT_of 119 (by decide +kernel) (by decide +kernel)
theorem kw_120 : Cond.instantiable "RefitYard$Board" (3 : Nat) ∈ zT := zT_of 120 (by decide +kernel) (by decide +kernel)
theorem nw_X6_23 : zNw RX6 23 1 3 := ⟨RX0, TX0, rfl, by decide, by decide, ui_X0, tyX0_ok, kw_119, kw_120, kw_39, by decide⟩
theorem kw_122 : Cond.instanceMethod ⟨"RefitYard$Board", "<init>", "()V"⟩ ∈ zT := zT_of 122 (by decide +kernel) (by decide +kernel)
theorem kw_121 : Cond.methodLinkNest "RefitYard" (25 : Nat) ⟨"RefitYard$Board", "<init>", "()V"⟩ "RefitYard" ∈ zT := zT_of 121 (by decide +kernel) (by decide +kernel)
theorem mi_X6_25 : zMI RX6 25 mX0_init 0 := ⟨mmX0_init, rfl, rfl, kw_122, Or.inr ⟨_, kw_121⟩⟩
theorem kw_190 : Cond.fieldLink "RefitYard" (26 : Nat) "RefitYard" "board" "LRefitYard$Board;" ∈ zT := zT_of 190 (by decide +kernel) (by decide +kernel)
theorem fl_X6_26 : zFl RX6 26 7 2 5 (.object "RefitYard$Board") true := ⟨RX6, TX6, 2, rfl, by decide, rfl, by decide, ui_X6, kw_190, rfl, tyX6_ok, nmX6, rfl, rfl⟩
theorem kw_142 : Cond.classLink "RefitYard" (30 : Nat) "RefitYard$Rules" ∈ zT := zT_of 142 (by decide +kernel) (by decide +kernel)
theorem kw_143 : Cond.instantiable "RefitYard$Rules" (5 : Nat) ∈ zT := zT_of 143 (by decide +kernel) (by decide +kernel)
theorem nw_X6_30 : zNw RX6 30 5 5 := ⟨RX4, TX4, rfl, by decide, by decide, ui_X4, tyX4_ok, kw_142, kw_143, kw_40, by decide⟩
theorem kw_145 : Cond.instanceMethod ⟨"RefitYard$Rules", "<init>", "(LRefitYard$Ground;LRefitYard$Net;LRefitYard$Board;)V"⟩ ∈ zT := zT_of 145 (by decide +kernel) (by decide +kernel)
theorem kw_144 : Cond.methodLink "RefitYard" (32 : Nat) ⟨"RefitYard$Rules", "<init>", "(LRefitYard$Ground;LRefitYard$Net;LRefitYard$Board;)V"⟩ ∈ zT := zT_of 144 (by decide +kernel) (by decide +kernel)
theorem mi_X6_32 : zMI RX6 32 mX4_init 3 := ⟨mmX4_init, rfl, rfl, kw_145, Or.inl kw_144⟩
theorem kw_191 : Cond.fieldLink "RefitYard" (35 : Nat) "RefitYard" "rules" "LRefitYard$Rules;" ∈ zT := zT_of 191 (by decide +kernel) (by decide +kernel)
theorem fl_X6_35 : zFl RX6 35 7 3 5 (.object "RefitYard$Rules") true := ⟨RX6, TX6, 3, rfl, by decide, rfl, by decide, ui_X6, kw_191, rfl, tyX6_ok, nmX6, rfl, rfl⟩
theorem kw_166 : Cond.classLink "RefitYard" (39 : Nat) "RefitYard$Orders" ∈ zT := zT_of 166 (by decide +kernel) (by decide +kernel)
theorem kw_167 : Cond.instantiable "RefitYard$Orders" (5 : Nat) ∈ zT := zT_of 167 (by decide +kernel) (by decide +kernel)
theorem nw_X6_39 : zNw RX6 39 4 5 := ⟨RX3, TX3, rfl, by decide, by decide, ui_X3, tyX3_ok, kw_166, kw_167, kw_41, by decide⟩
theorem kw_169 : Cond.instanceMethod ⟨"RefitYard$Orders", "<init>", "(LRefitYard$Net;LRefitYard$Board;LRefitYard$Rules;)V"⟩ ∈ zT := zT_of 169 (by decide +kernel) (by decide +kernel)
theorem kw_168 : Cond.methodLink "RefitYard" (41 : Nat) ⟨"RefitYard$Orders", "<init>", "(LRefitYard$Net;LRefitYard$Board;LRefitYard$Rules;)V"⟩ ∈ zT := zT_of 168 (by decide +kernel) (by decide +kernel)
theorem mi_X6_41 : zMI RX6 41 mX3_init 3 := ⟨mmX3_init, rfl, rfl, kw_169, Or.inl kw_168⟩
theorem kw_192 : Cond.fieldLink "RefitYard" (44 : Nat) "RefitYard" "orders" "LRefitYard$Orders;" ∈ zT := zT_of 192 (by decide +kernel) (by decide +kernel)
theorem fl_X6_44 : zFl RX6 44 7 4 5 (.object "RefitYard$Orders") true := ⟨RX6, TX6, 4, rfl, by decide, rfl, by decide, ui_X6, kw_192, rfl, tyX6_ok, nmX6, rfl, rfl⟩
def mX6_space : zF := (yX6_space, cX6_space, 2, (some .int))
theorem kc_172 : Cond.code yX6_space cX6_space 2 (some .int) ∈ zT := zT_of 207 (by decide +kernel) (by decide +kernel)
theorem mmX6_space : zMm mX6_space 1 := ⟨kw_36, kc_172, by decide +kernel, by decide⟩
theorem kw_66 : Cond.fieldLink "RefitYard" (48 : Nat) "RefitYard$Ground" "spaces" "I" ∈ zT := zT_of 66 (by decide +kernel) (by decide +kernel)
theorem fl_X6_48 : zFl RX6 48 2 3 5 .int false := ⟨RX1, TX1, 3, rfl, by decide, rfl, by decide, ui_X1, kw_66, rfl, tyX1_ok, nmX1, rfl, rfl⟩
theorem kw_208 : Cond.methodLink "RefitYard" (52 : Nat) ⟨"RefitYard$Ground", "addSpace", "(I)I"⟩ ∈ zT := zT_of 208 (by decide +kernel) (by decide +kernel)
theorem kw_209 : Cond.instanceMethod ⟨"RefitYard$Ground", "addSpace", "(I)I"⟩ ∈ zT := zT_of 209 (by decide +kernel) (by decide +kernel)
theorem kw_210 : Cond.selects "RefitYard$Ground" ⟨"RefitYard$Ground", "addSpace", "(I)I"⟩ ⟨"RefitYard$Ground", "addSpace", "(I)I"⟩ ∈ zT := zT_of 210 (by decide +kernel) (by decide +kernel)
theorem mv_X6_52 : zMV RX6 52 mX1_addSpace 1 2 5 := ⟨mmX1_addSpace, ⟨kw_208, kw_209, kw_210⟩, TX1, rfl, by decide, by decide⟩
def mX6_near : zF := (yX6_near, cX6_near, 3, (some .boolean))
theorem kc_180 : Cond.code yX6_near cX6_near 3 (some .boolean) ∈ zT := zT_of 215 (by decide +kernel) (by decide +kernel)
theorem mmX6_near : zMm mX6_near 2 := ⟨kw_36, kc_180, by decide +kernel, by decide⟩
theorem kw_216 : Cond.methodLink "RefitYard" (56 : Nat) ⟨"RefitYard$Ground", "hasSpace", "(I)Z"⟩ ∈ zT := zT_of 216 (by decide +kernel) (by decide +kernel)
theorem kw_217 : Cond.instanceMethod ⟨"RefitYard$Ground", "hasSpace", "(I)Z"⟩ ∈ zT := zT_of 217 (by decide +kernel) (by decide +kernel)
theorem kw_218 : Cond.selects "RefitYard$Ground" ⟨"RefitYard$Ground", "hasSpace", "(I)Z"⟩ ⟨"RefitYard$Ground", "hasSpace", "(I)Z"⟩ ∈ zT := zT_of 218 (by decide +kernel) (by decide +kernel)
theorem mv_X6_56 : zMV RX6 56 mX1_hasSpace 1 2 5 := ⟨mmX1_hasSpace, ⟨kw_216, kw_217, kw_218⟩, TX1, rfl, by decide, by decide⟩
theorem kw_220 : Cond.methodLink "RefitYard" (60 : Nat) ⟨"RefitYard$Ground", "areNear", "(II)Z"⟩ ∈ zT := zT_of 220 (by decide +kernel) (by decide +kernel)
theorem mv_X6_60 : zMV RX6 60 mX1_areNear 2 2 5 := ⟨mmX1_areNear, ⟨kw_220, kw_221, kw_222⟩, TX1, rfl, by decide, by decide⟩
theorem kw_224 : Cond.methodLink "RefitYard" (64 : Nat) ⟨"RefitYard$Ground", "join", "(II)V"⟩ ∈ zT := zT_of 224 (by decide +kernel) (by decide +kernel)
theorem kw_225 : Cond.instanceMethod ⟨"RefitYard$Ground", "join", "(II)V"⟩ ∈ zT := zT_of 225 (by decide +kernel) (by decide +kernel)
theorem kw_226 : Cond.selects "RefitYard$Ground" ⟨"RefitYard$Ground", "join", "(II)V"⟩ ⟨"RefitYard$Ground", "join", "(II)V"⟩ ∈ zT := zT_of 226 (by decide +kernel) (by decide +kernel)
theorem mv_X6_64 : zMV RX6 64 mX1_join 2 2 5 := ⟨mmX1_join, ⟨kw_224, kw_225, kw_226⟩, TX1, rfl, by decide, by decide⟩
theorem kw_228 : Cond.methodLink "RefitYard" (68 : Nat) ⟨"RefitYard$Rules", "markFoes", "()V"⟩ ∈ zT := zT_of 228 (by decide +kernel) (by decide +kernel)
theorem kw_229 : Cond.instanceMethod ⟨"RefitYard$Rules", "markFoes", "()V"⟩ ∈ zT := zT_of 229 (by decide +kernel) (by decide +kernel)
theorem kw_230 : Cond.selects "RefitYard$Rules" ⟨"RefitYard$Rules", "markFoes", "()V"⟩ ⟨"RefitYard$Rules", "markFoes", "()V"⟩ ∈ zT := zT_of 230 (by decide +kernel) (by decide +kernel)
theorem mv_X6_68 : zMV RX6 68 mX4_markFoes 0 5 5 := ⟨mmX4_markFoes, ⟨kw_228, kw_229, kw_230⟩, TX4, rfl, by decide, by decide⟩
def mX6_gang : zF := (yX6_gang, cX6_gang, 3, (some .boolean))
theorem kc_213 : Cond.code yX6_gang cX6_gang 3 (some .boolean) ∈ zT := zT_of 248 (by decide +kernel) (by decide +kernel)
theorem mmX6_gang : zMm mX6_gang 2 := ⟨kw_36, kc_213, by decide +kernel, by decide⟩
def mX6_isTrade : zF := (yX6_isTrade, cX6_isTrade, 1, (some .boolean))
theorem kc_216 : Cond.code yX6_isTrade cX6_isTrade 1 (some .boolean) ∈ zT := zT_of 251 (by decide +kernel) (by decide +kernel)
theorem mmX6_isTrade : zMm mX6_isTrade 1 := ⟨kw_36, kc_216, by decide +kernel, by decide⟩
theorem kw_249 : Cond.methodLink "RefitYard" (71 : Nat) ⟨"RefitYard", "isTrade", "(I)Z"⟩ ∈ zT := zT_of 249 (by decide +kernel) (by decide +kernel)
theorem kw_250 : Cond.static ⟨"RefitYard", "isTrade", "(I)Z"⟩ ∈ zT := zT_of 250 (by decide +kernel) (by decide +kernel)
theorem ms_X6_71 : zMS RX6 71 mX6_isTrade 1 := ⟨mmX6_isTrade, kw_249, kw_250⟩
theorem kw_149 : Cond.fieldLink "RefitYard" (74 : Nat) "RefitYard$Rules" "gangs" "[I" ∈ zT := zT_of 149 (by decide +kernel) (by decide +kernel)
theorem fl_X6_74 : zFl RX6 74 5 0 5 (.array .int) true := ⟨RX4, TX4, 0, rfl, by decide, rfl, by decide, ui_X4, kw_149, rfl, tyX4_ok, nmX4, rfl, rfl⟩
def mX6_good : zF := (yX6_good, cX6_good, 3, (some .boolean))
theorem kc_220 : Cond.code yX6_good cX6_good 3 (some .boolean) ∈ zT := zT_of 255 (by decide +kernel) (by decide +kernel)
theorem mmX6_good : zMm mX6_good 2 := ⟨kw_36, kc_220, by decide +kernel, by decide⟩
def mX6_isGood : zF := (yX6_isGood, cX6_isGood, 1, (some .boolean))
theorem kc_223 : Cond.code yX6_isGood cX6_isGood 1 (some .boolean) ∈ zT := zT_of 258 (by decide +kernel) (by decide +kernel)
theorem mmX6_isGood : zMm mX6_isGood 1 := ⟨kw_36, kc_223, by decide +kernel, by decide⟩
theorem kw_256 : Cond.methodLink "RefitYard" (78 : Nat) ⟨"RefitYard", "isGood", "(I)Z"⟩ ∈ zT := zT_of 256 (by decide +kernel) (by decide +kernel)
theorem kw_257 : Cond.static ⟨"RefitYard", "isGood", "(I)Z"⟩ ∈ zT := zT_of 257 (by decide +kernel) (by decide +kernel)
theorem ms_X6_78 : zMS RX6 78 mX6_isGood 1 := ⟨mmX6_isGood, kw_256, kw_257⟩
theorem kw_151 : Cond.fieldLink "RefitYard" (81 : Nat) "RefitYard$Rules" "goods" "[I" ∈ zT := zT_of 151 (by decide +kernel) (by decide +kernel)
theorem fl_X6_81 : zFl RX6 81 5 1 5 (.array .int) true := ⟨RX4, TX4, 1, rfl, by decide, rfl, by decide, ui_X4, kw_151, rfl, tyX4_ok, nmX4, rfl, rfl⟩
def mX6_bar : zF := (yX6_bar, cX6_bar, 4, (some .boolean))
theorem kc_227 : Cond.code yX6_bar cX6_bar 4 (some .boolean) ∈ zT := zT_of 262 (by decide +kernel) (by decide +kernel)
theorem mmX6_bar : zMm mX6_bar 3 := ⟨kw_36, kc_227, by decide +kernel, by decide⟩
def mX6_isKind : zF := (yX6_isKind, cX6_isKind, 1, (some .boolean))
theorem kc_230 : Cond.code yX6_isKind cX6_isKind 1 (some .boolean) ∈ zT := zT_of 265 (by decide +kernel) (by decide +kernel)
theorem mmX6_isKind : zMm mX6_isKind 1 := ⟨kw_36, kc_230, by decide +kernel, by decide⟩
theorem kw_263 : Cond.methodLink "RefitYard" (84 : Nat) ⟨"RefitYard", "isKind", "(I)Z"⟩ ∈ zT := zT_of 263 (by decide +kernel) (by decide +kernel)
theorem kw_264 : Cond.static ⟨"RefitYard", "isKind", "(I)Z"⟩ ∈ zT := zT_of 264 (by decide +kernel) (by decide +kernel)
theorem ms_X6_84 : zMS RX6 84 mX6_isKind 1 := ⟨mmX6_isKind, kw_263, kw_264⟩
theorem kw_266 : Cond.methodLink "RefitYard" (87 : Nat) ⟨"RefitYard$Ground", "isBarred", "(III)Z"⟩ ∈ zT := zT_of 266 (by decide +kernel) (by decide +kernel)
theorem mv_X6_87 : zMV RX6 87 mX1_isBarred 3 2 5 := ⟨mmX1_isBarred, ⟨kw_266, kw_241, kw_242⟩, TX1, rfl, by decide, by decide⟩
theorem kw_267 : Cond.methodLink "RefitYard" (91 : Nat) ⟨"RefitYard$Ground", "forbid", "(III)V"⟩ ∈ zT := zT_of 267 (by decide +kernel) (by decide +kernel)
theorem kw_268 : Cond.instanceMethod ⟨"RefitYard$Ground", "forbid", "(III)V"⟩ ∈ zT := zT_of 268 (by decide +kernel) (by decide +kernel)
theorem kw_269 : Cond.selects "RefitYard$Ground" ⟨"RefitYard$Ground", "forbid", "(III)V"⟩ ⟨"RefitYard$Ground", "forbid", "(III)V"⟩ ∈ zT := zT_of 269 (by decide +kernel) (by decide +kernel)
theorem mv_X6_91 : zMV RX6 91 mX1_forbid 3 2 5 := ⟨mmX1_forbid, ⟨kw_267, kw_268, kw_269⟩, TX1, rfl, by decide, by decide⟩
def mX6_work : zF := (yX6_work, cX6_work, 4, (some .int))
theorem kc_239 : Cond.code yX6_work cX6_work 4 (some .int) ∈ zT := zT_of 274 (by decide +kernel) (by decide +kernel)
theorem mmX6_work : zMm mX6_work 2 := ⟨kw_36, kc_239, by decide +kernel, by decide⟩
theorem kw_102 : Cond.fieldLink "RefitYard" (95 : Nat) "RefitYard$Net" "size" "I" ∈ zT := zT_of 102 (by decide +kernel) (by decide +kernel)
theorem fl_X6_95 : zFl RX6 95 3 4 6 .int false := ⟨RX2, TX2, 4, rfl, by decide, rfl, by decide, ui_X2, kw_102, rfl, tyX2_ok, nmX2, rfl, rfl⟩
theorem kw_275 : Cond.classLink "RefitYard" (98 : Nat) "RefitYard$Work" ∈ zT := zT_of 275 (by decide +kernel) (by decide +kernel)
theorem kw_276 : Cond.instantiable "RefitYard$Work" (16 : Nat) ∈ zT := zT_of 276 (by decide +kernel) (by decide +kernel)
theorem nw_X6_98 : zNw RX6 98 6 16 := ⟨RX5, TX5, rfl, by decide, by decide, ui_X5, tyX5_ok, kw_275, kw_276, kw_43, by decide⟩
theorem kw_278 : Cond.instanceMethod ⟨"RefitYard$Work", "<init>", "(III)V"⟩ ∈ zT := zT_of 278 (by decide +kernel) (by decide +kernel)
theorem kw_277 : Cond.methodLink "RefitYard" (100 : Nat) ⟨"RefitYard$Work", "<init>", "(III)V"⟩ ∈ zT := zT_of 277 (by decide +kernel) (by decide +kernel)
theorem mi_X6_100 : zMI RX6 100 mX5_init 3 := ⟨mmX5_init, rfl, rfl, kw_278, Or.inl kw_277⟩
def mX6_canBe : zF := (yX6_canBe, cX6_canBe, 2, (some .boolean))
theorem kc_339 : Cond.code yX6_canBe cX6_canBe 2 (some .boolean) ∈ zT := zT_of 374 (by decide +kernel) (by decide +kernel)
theorem mmX6_canBe : zMm mX6_canBe 1 := ⟨kw_36, kc_339, by decide +kernel, by decide⟩
theorem kw_371 : Cond.methodLink "RefitYard" (102 : Nat) ⟨"RefitYard", "canBe", "(LRefitYard$Work;)Z"⟩ ∈ zT := zT_of 371 (by decide +kernel) (by decide +kernel)
theorem kw_373 : Cond.instanceMethod ⟨"RefitYard", "canBe", "(LRefitYard$Work;)Z"⟩ ∈ zT := zT_of 373 (by decide +kernel) (by decide +kernel)
theorem kw_1 : Cond.selects "RefitYard" ⟨"RefitYard", "canBe", "(LRefitYard$Work;)Z"⟩ ⟨"RefitYard", "canBe", "(LRefitYard$Work;)Z"⟩ ∈ zT := zT_of 1 (by decide +kernel) (by decide +kernel)
theorem mv_X6_102 : zMV RX6 102 mX6_canBe 1 7 5 := ⟨mmX6_canBe, ⟨kw_371, kw_373, kw_1⟩, TX6, rfl, by decide, by decide⟩
theorem kw_375 : Cond.methodLink "RefitYard" (106 : Nat) ⟨"RefitYard$Net", "addWork", "(LRefitYard$Work;)V"⟩ ∈ zT := zT_of 375 (by decide +kernel) (by decide +kernel)
theorem kw_376 : Cond.instanceMethod ⟨"RefitYard$Net", "addWork", "(LRefitYard$Work;)V"⟩ ∈ zT := zT_of 376 (by decide +kernel) (by decide +kernel)
theorem kw_377 : Cond.selects "RefitYard$Net" ⟨"RefitYard$Net", "addWork", "(LRefitYard$Work;)V"⟩ ⟨"RefitYard$Net", "addWork", "(LRefitYard$Work;)V"⟩ ∈ zT := zT_of 377 (by decide +kernel) (by decide +kernel)
theorem mv_X6_106 : zMV RX6 106 mX2_addWork 1 3 6 := ⟨mmX2_addWork, ⟨kw_375, kw_376, kw_377⟩, TX2, rfl, by decide, by decide⟩
theorem kw_283 : Cond.fieldLink "RefitYard" (110 : Nat) "RefitYard$Work" "number" "I" ∈ zT := zT_of 283 (by decide +kernel) (by decide +kernel)
theorem fl_X6_110 : zFl RX6 110 6 0 16 .int true := ⟨RX5, TX5, 0, rfl, by decide, rfl, by decide, ui_X5, kw_283, rfl, tyX5_ok, nmX5, rfl, rfl⟩
def mX6_need : zF := (yX6_need, cX6_need, 5, (some .boolean))
theorem kc_380 : Cond.code yX6_need cX6_need 5 (some .boolean) ∈ zT := zT_of 415 (by decide +kernel) (by decide +kernel)
theorem mmX6_need : zMm mX6_need 2 := ⟨kw_36, kc_380, by decide +kernel, by decide⟩
theorem kw_416 : Cond.methodLink "RefitYard" (113 : Nat) ⟨"RefitYard$Net", "find", "(I)LRefitYard$Work;"⟩ ∈ zT := zT_of 416 (by decide +kernel) (by decide +kernel)
theorem kw_417 : Cond.instanceMethod ⟨"RefitYard$Net", "find", "(I)LRefitYard$Work;"⟩ ∈ zT := zT_of 417 (by decide +kernel) (by decide +kernel)
theorem kw_418 : Cond.selects "RefitYard$Net" ⟨"RefitYard$Net", "find", "(I)LRefitYard$Work;"⟩ ⟨"RefitYard$Net", "find", "(I)LRefitYard$Work;"⟩ ∈ zT := zT_of 418 (by decide +kernel) (by decide +kernel)
theorem mv_X6_113 : zMV RX6 113 mX2_find 1 3 6 := ⟨mmX2_find, ⟨kw_416, kw_417, kw_418⟩, TX2, rfl, by decide, by decide⟩
def mX6_mayLean : zF := (yX6_mayLean, cX6_mayLean, 3, (some .boolean))
theorem kc_388 : Cond.code yX6_mayLean cX6_mayLean 3 (some .boolean) ∈ zT := zT_of 423 (by decide +kernel) (by decide +kernel)
theorem mmX6_mayLean : zMm mX6_mayLean 2 := ⟨kw_36, kc_388, by decide +kernel, by decide⟩
theorem kw_420 : Cond.methodLink "RefitYard" (117 : Nat) ⟨"RefitYard", "mayLean", "(LRefitYard$Work;LRefitYard$Work;)Z"⟩ ∈ zT := zT_of 420 (by decide +kernel) (by decide +kernel)
theorem kw_422 : Cond.instanceMethod ⟨"RefitYard", "mayLean", "(LRefitYard$Work;LRefitYard$Work;)Z"⟩ ∈ zT := zT_of 422 (by decide +kernel) (by decide +kernel)
theorem kw_5 : Cond.selects "RefitYard" ⟨"RefitYard", "mayLean", "(LRefitYard$Work;LRefitYard$Work;)Z"⟩ ⟨"RefitYard", "mayLean", "(LRefitYard$Work;LRefitYard$Work;)Z"⟩ ∈ zT := zT_of 5 (by decide +kernel) (by decide +kernel)
theorem mv_X6_117 : zMV RX6 117 mX6_mayLean 2 7 5 := ⟨mmX6_mayLean, ⟨kw_420, kw_422, kw_5⟩, TX6, rfl, by decide, by decide⟩
theorem kw_436 : Cond.methodLink "RefitYard" (121 : Nat) ⟨"RefitYard$Work", "leansOn", "(LRefitYard$Work;)Z"⟩ ∈ zT := zT_of 436 (by decide +kernel) (by decide +kernel)
theorem mv_X6_121 : zMV RX6 121 mX5_leansOn 1 6 16 := ⟨mmX5_leansOn, ⟨kw_436, kw_398, kw_399⟩, TX5, rfl, by decide, by decide⟩
theorem kw_437 : Cond.methodLink "RefitYard" (124 : Nat) ⟨"RefitYard$Net", "link", "(LRefitYard$Work;LRefitYard$Work;)V"⟩ ∈ zT := zT_of 437 (by decide +kernel) (by decide +kernel)
theorem kw_438 : Cond.instanceMethod ⟨"RefitYard$Net", "link", "(LRefitYard$Work;LRefitYard$Work;)V"⟩ ∈ zT := zT_of 438 (by decide +kernel) (by decide +kernel)
theorem kw_439 : Cond.selects "RefitYard$Net" ⟨"RefitYard$Net", "link", "(LRefitYard$Work;LRefitYard$Work;)V"⟩ ⟨"RefitYard$Net", "link", "(LRefitYard$Work;LRefitYard$Work;)V"⟩ ∈ zT := zT_of 439 (by decide +kernel) (by decide +kernel)
theorem mv_X6_124 : zMV RX6 124 mX2_link 2 3 6 := ⟨mmX2_link, ⟨kw_437, kw_438, kw_439⟩, TX2, rfl, by decide, by decide⟩
def mX6_tells : zF := (yX6_tells, cX6_tells, 5, (some .boolean))
theorem kc_410 : Cond.code yX6_tells cX6_tells 5 (some .boolean) ∈ zT := zT_of 445 (by decide +kernel) (by decide +kernel)
theorem mmX6_tells : zMm mX6_tells 2 := ⟨kw_36, kc_410, by decide +kernel, by decide⟩
theorem kw_306 : Cond.fieldLink "RefitYard" (128 : Nat) "RefitYard$Work" "kind" "I" ∈ zT := zT_of 306 (by decide +kernel) (by decide +kernel)
theorem fl_X6_128 : zFl RX6 128 6 5 16 .int true := ⟨RX5, TX5, 5, rfl, by decide, rfl, by decide, ui_X5, kw_306, rfl, tyX5_ok, nmX5, rfl, rfl⟩
theorem kw_335 : Cond.fieldLink "RefitYard" (131 : Nat) "RefitYard$Work" "toldOf" "J" ∈ zT := zT_of 335 (by decide +kernel) (by decide +kernel)
theorem fl_X6_131 : zFl RX6 131 6 14 16 .long false := ⟨RX5, TX5, 14, rfl, by decide, rfl, by decide, ui_X5, kw_335, rfl, tyX5_ok, nmX5, rfl, rfl⟩
theorem kw_288 : Cond.fieldLink "RefitYard" (135 : Nat) "RefitYard$Work" "bit" "J" ∈ zT := zT_of 288 (by decide +kernel) (by decide +kernel)
theorem fl_X6_135 : zFl RX6 135 6 1 16 .long true := ⟨RX5, TX5, 1, rfl, by decide, rfl, by decide, ui_X5, kw_288, rfl, tyX5_ok, nmX5, rfl, rfl⟩
def mX6_put : zF := (yX6_put, cX6_put, 4, (some .boolean))
theorem kc_414 : Cond.code yX6_put cX6_put 4 (some .boolean) ∈ zT := zT_of 449 (by decide +kernel) (by decide +kernel)
theorem mmX6_put : zMm mX6_put 2 := ⟨kw_36, kc_414, by decide +kernel, by decide⟩
theorem kw_133 : Cond.fieldLink "RefitYard" (138 : Nat) "RefitYard$Board" "now" "I" ∈ zT := zT_of 133 (by decide +kernel) (by decide +kernel)
theorem fl_X6_138 : zFl RX6 138 1 2 3 .int false := ⟨RX0, TX0, 2, rfl, by decide, rfl, by decide, ui_X0, kw_133, rfl, tyX0_ok, nmX0, rfl, rfl⟩
theorem kw_428 : Cond.methodLink "RefitYard" (141 : Nat) ⟨"RefitYard$Work", "hasBegun", "(I)Z"⟩ ∈ zT := zT_of 428 (by decide +kernel) (by decide +kernel)
theorem kw_429 : Cond.instanceMethod ⟨"RefitYard$Work", "hasBegun", "(I)Z"⟩ ∈ zT := zT_of 429 (by decide +kernel) (by decide +kernel)
theorem kw_430 : Cond.selects "RefitYard$Work" ⟨"RefitYard$Work", "hasBegun", "(I)Z"⟩ ⟨"RefitYard$Work", "hasBegun", "(I)Z"⟩ ∈ zT := zT_of 430 (by decide +kernel) (by decide +kernel)
theorem mv_X6_141 : zMV RX6 141 mX5_hasBegun 1 6 16 := ⟨mmX5_hasBegun, ⟨kw_428, kw_429, kw_430⟩, TX5, rfl, by decide, by decide⟩
theorem kw_315 : Cond.fieldLink "RefitYard" (144 : Nat) "RefitYard$Work" "length" "I" ∈ zT := zT_of 315 (by decide +kernel) (by decide +kernel)
theorem fl_X6_144 : zFl RX6 144 6 7 16 .int false := ⟨RX5, TX5, 7, rfl, by decide, rfl, by decide, ui_X5, kw_315, rfl, tyX5_ok, nmX5, rfl, rfl⟩
theorem kw_450 : Cond.methodLink "RefitYard" (147 : Nat) ⟨"RefitYard$Board", "lift", "(LRefitYard$Work;)V"⟩ ∈ zT := zT_of 450 (by decide +kernel) (by decide +kernel)
theorem mv_X6_147 : zMV RX6 147 mX0_lift 1 1 3 := ⟨mmX0_lift, ⟨kw_450, kw_451, kw_452⟩, TX0, rfl, by decide, by decide⟩
theorem kw_460 : Cond.methodLink "RefitYard" (150 : Nat) ⟨"RefitYard$Board", "lay", "(LRefitYard$Work;I)V"⟩ ∈ zT := zT_of 460 (by decide +kernel) (by decide +kernel)
theorem mv_X6_150 : zMV RX6 150 mX0_lay 2 1 3 := ⟨mmX0_lay, ⟨kw_460, kw_461, kw_462⟩, TX0, rfl, by decide, by decide⟩
def mX6_take : zF := (yX6_take, cX6_take, 3, (some .boolean))
theorem kc_432 : Cond.code yX6_take cX6_take 3 (some .boolean) ∈ zT := zT_of 467 (by decide +kernel) (by decide +kernel)
theorem mmX6_take : zMm mX6_take 1 := ⟨kw_36, kc_432, by decide +kernel, by decide⟩
theorem kw_468 : Cond.methodLink "RefitYard" (154 : Nat) ⟨"RefitYard$Work", "isOpen", "()Z"⟩ ∈ zT := zT_of 468 (by decide +kernel) (by decide +kernel)
theorem mv_X6_154 : zMV RX6 154 mX5_isOpen 0 6 16 := ⟨mmX5_isOpen, ⟨kw_468, kw_433, kw_434⟩, TX5, rfl, by decide, by decide⟩
def mX6_may : zF := (yX6_may, cX6_may, 3, (some .boolean))
theorem kc_437 : Cond.code yX6_may cX6_may 3 (some .boolean) ∈ zT := zT_of 472 (by decide +kernel) (by decide +kernel)
theorem mmX6_may : zMm mX6_may 2 := ⟨kw_36, kc_437, by decide +kernel, by decide⟩
def mX6_first : zF := (yX6_first, cX6_first, 4, (some .int))
theorem kc_441 : Cond.code yX6_first cX6_first 4 (some .int) ∈ zT := zT_of 476 (by decide +kernel) (by decide +kernel)
theorem mmX6_first : zMm mX6_first 2 := ⟨kw_36, kc_441, by decide +kernel, by decide⟩
theorem kw_473 : Cond.methodLink "RefitYard" (158 : Nat) ⟨"RefitYard", "first", "(II)I"⟩ ∈ zT := zT_of 473 (by decide +kernel) (by decide +kernel)
theorem kw_474 : Cond.instanceMethod ⟨"RefitYard", "first", "(II)I"⟩ ∈ zT := zT_of 474 (by decide +kernel) (by decide +kernel)
theorem kw_475 : Cond.selects "RefitYard" ⟨"RefitYard", "first", "(II)I"⟩ ⟨"RefitYard", "first", "(II)I"⟩ ∈ zT := zT_of 475 (by decide +kernel) (by decide +kernel)
theorem mv_X6_158 : zMV RX6 158 mX6_first 2 7 5 := ⟨mmX6_first, ⟨kw_473, kw_474, kw_475⟩, TX6, rfl, by decide, by decide⟩
theorem kw_477 : Cond.methodLink "RefitYard" (162 : Nat) ⟨"RefitYard$Rules", "firstPlace", "(LRefitYard$Work;I)I"⟩ ∈ zT := zT_of 477 (by decide +kernel) (by decide +kernel)
theorem mv_X6_162 : zMV RX6 162 mX4_firstPlace 2 5 5 := ⟨mmX4_firstPlace, ⟨kw_477, kw_478, kw_479⟩, TX4, rfl, by decide, by decide⟩
def mX6_why : zF := (yX6_why, cX6_why, 5, (some .int))
theorem kc_485 : Cond.code yX6_why cX6_why 5 (some .int) ∈ zT := zT_of 520 (by decide +kernel) (by decide +kernel)
theorem mmX6_why : zMm mX6_why 1 := ⟨kw_36, kc_485, by decide +kernel, by decide⟩
theorem kw_92 : Cond.fieldLink "RefitYard" (166 : Nat) "RefitYard$Net" "works" "[LRefitYard$Work;" ∈ zT := zT_of 92 (by decide +kernel) (by decide +kernel)
theorem fl_X6_166 : zFl RX6 166 3 0 6 (.array (.object "RefitYard$Work")) true := ⟨RX2, TX2, 0, rfl, by decide, rfl, by decide, ui_X2, kw_92, rfl, tyX2_ok, nmX2, rfl, rfl⟩
theorem kw_521 : Cond.methodLink "RefitYard" (170 : Nat) ⟨"RefitYard$Rules", "leastBroken", "(LRefitYard$Work;)I"⟩ ∈ zT := zT_of 521 (by decide +kernel) (by decide +kernel)
theorem kw_522 : Cond.instanceMethod ⟨"RefitYard$Rules", "leastBroken", "(LRefitYard$Work;)I"⟩ ∈ zT := zT_of 522 (by decide +kernel) (by decide +kernel)
theorem kw_523 : Cond.selects "RefitYard$Rules" ⟨"RefitYard$Rules", "leastBroken", "(LRefitYard$Work;)I"⟩ ⟨"RefitYard$Rules", "leastBroken", "(LRefitYard$Work;)I"⟩ ∈ zT := zT_of 523 (by decide +kernel) (by decide +kernel)
theorem mv_X6_170 : zMV RX6 170 mX4_leastBroken 1 5 5 := ⟨mmX4_leastBroken, ⟨kw_521, kw_522, kw_523⟩, TX4, rfl, by decide, by decide⟩
def mX6_partOfBreak : zF := (yX6_partOfBreak, cX6_partOfBreak, 4, (some .int))
theorem kc_503 : Cond.code yX6_partOfBreak cX6_partOfBreak 4 (some .int) ∈ zT := zT_of 538 (by decide +kernel) (by decide +kernel)
theorem mmX6_partOfBreak : zMm mX6_partOfBreak 3 := ⟨kw_36, kc_503, by decide +kernel, by decide⟩
theorem kw_535 : Cond.methodLink "RefitYard" (174 : Nat) ⟨"RefitYard", "partOfBreak", "(LRefitYard$Work;II)I"⟩ ∈ zT := zT_of 535 (by decide +kernel) (by decide +kernel)
theorem kw_537 : Cond.instanceMethod ⟨"RefitYard", "partOfBreak", "(LRefitYard$Work;II)I"⟩ ∈ zT := zT_of 537 (by decide +kernel) (by decide +kernel)
theorem kw_12 : Cond.selects "RefitYard" ⟨"RefitYard", "partOfBreak", "(LRefitYard$Work;II)I"⟩ ⟨"RefitYard", "partOfBreak", "(LRefitYard$Work;II)I"⟩ ∈ zT := zT_of 12 (by decide +kernel) (by decide +kernel)
theorem mv_X6_174 : zMV RX6 174 mX6_partOfBreak 3 7 5 := ⟨mmX6_partOfBreak, ⟨kw_535, kw_537, kw_12⟩, TX6, rfl, by decide, by decide⟩
def mX6_told : zF := (yX6_told, cX6_told, 4, (some .int))
theorem kc_508 : Cond.code yX6_told cX6_told 4 (some .int) ∈ zT := zT_of 543 (by decide +kernel) (by decide +kernel)
theorem mmX6_told : zMm mX6_told 2 := ⟨kw_36, kc_508, by decide +kernel, by decide⟩
theorem kw_292 : Cond.fieldLink "RefitYard" (178 : Nat) "RefitYard$Work" "trade" "I" ∈ zT := zT_of 292 (by decide +kernel) (by decide +kernel)
theorem fl_X6_178 : zFl RX6 178 6 2 16 .int true := ⟨RX5, TX5, 2, rfl, by decide, rfl, by decide, ui_X5, kw_292, rfl, tyX5_ok, nmX5, rfl, rfl⟩
theorem kw_297 : Cond.fieldLink "RefitYard" (181 : Nat) "RefitYard$Work" "hands" "I" ∈ zT := zT_of 297 (by decide +kernel) (by decide +kernel)
theorem fl_X6_181 : zFl RX6 181 6 3 16 .int true := ⟨RX5, TX5, 3, rfl, by decide, rfl, by decide, ui_X5, kw_297, rfl, tyX5_ok, nmX5, rfl, rfl⟩
theorem kw_303 : Cond.fieldLink "RefitYard" (184 : Nat) "RefitYard$Work" "space" "I" ∈ zT := zT_of 303 (by decide +kernel) (by decide +kernel)
theorem fl_X6_184 : zFl RX6 184 6 4 16 .int true := ⟨RX5, TX5, 4, rfl, by decide, rfl, by decide, ui_X5, kw_303, rfl, tyX5_ok, nmX5, rfl, rfl⟩
theorem kw_310 : Cond.fieldLink "RefitYard" (187 : Nat) "RefitYard$Work" "good" "I" ∈ zT := zT_of 310 (by decide +kernel) (by decide +kernel)
theorem fl_X6_187 : zFl RX6 187 6 6 16 .int true := ⟨RX5, TX5, 6, rfl, by decide, rfl, by decide, ui_X5, kw_310, rfl, tyX5_ok, nmX5, rfl, rfl⟩
def mX6_stateOf : zF := (yX6_stateOf, cX6_stateOf, 2, (some .int))
theorem kc_512 : Cond.code yX6_stateOf cX6_stateOf 2 (some .int) ∈ zT := zT_of 547 (by decide +kernel) (by decide +kernel)
theorem mmX6_stateOf : zMm mX6_stateOf 1 := ⟨kw_36, kc_512, by decide +kernel, by decide⟩
theorem kw_544 : Cond.methodLink "RefitYard" (190 : Nat) ⟨"RefitYard", "stateOf", "(LRefitYard$Work;)I"⟩ ∈ zT := zT_of 544 (by decide +kernel) (by decide +kernel)
theorem kw_546 : Cond.instanceMethod ⟨"RefitYard", "stateOf", "(LRefitYard$Work;)I"⟩ ∈ zT := zT_of 546 (by decide +kernel) (by decide +kernel)
theorem kw_13 : Cond.selects "RefitYard" ⟨"RefitYard", "stateOf", "(LRefitYard$Work;)I"⟩ ⟨"RefitYard", "stateOf", "(LRefitYard$Work;)I"⟩ ∈ zT := zT_of 13 (by decide +kernel) (by decide +kernel)
theorem mv_X6_190 : zMV RX6 190 mX6_stateOf 1 7 5 := ⟨mmX6_stateOf, ⟨kw_544, kw_546, kw_13⟩, TX6, rfl, by decide, by decide⟩
theorem kw_322 : Cond.fieldLink "RefitYard" (193 : Nat) "RefitYard$Work" "shift" "I" ∈ zT := zT_of 322 (by decide +kernel) (by decide +kernel)
theorem fl_X6_193 : zFl RX6 193 6 8 16 .int false := ⟨RX5, TX5, 8, rfl, by decide, rfl, by decide, ui_X5, kw_322, rfl, tyX5_ok, nmX5, rfl, rfl⟩
theorem kw_326 : Cond.fieldLink "RefitYard" (196 : Nat) "RefitYard$Work" "early" "I" ∈ zT := zT_of 326 (by decide +kernel) (by decide +kernel)
theorem fl_X6_196 : zFl RX6 196 6 10 16 .int false := ⟨RX5, TX5, 10, rfl, by decide, rfl, by decide, ui_X5, kw_326, rfl, tyX5_ok, nmX5, rfl, rfl⟩
theorem kw_329 : Cond.fieldLink "RefitYard" (199 : Nat) "RefitYard$Work" "tail" "I" ∈ zT := zT_of 329 (by decide +kernel) (by decide +kernel)
theorem fl_X6_199 : zFl RX6 199 6 11 16 .int false := ⟨RX5, TX5, 11, rfl, by decide, rfl, by decide, ui_X5, kw_329, rfl, tyX5_ok, nmX5, rfl, rfl⟩
theorem kw_553 : Cond.methodLink "RefitYard" (202 : Nat) ⟨"RefitYard$Net", "slackOf", "(LRefitYard$Work;)I"⟩ ∈ zT := zT_of 553 (by decide +kernel) (by decide +kernel)
theorem mv_X6_202 : zMV RX6 202 mX2_slackOf 1 3 6 := ⟨mmX2_slackOf, ⟨kw_553, kw_554, kw_555⟩, TX2, rfl, by decide, by decide⟩
theorem kw_332 : Cond.fieldLink "RefitYard" (205 : Nat) "RefitYard$Work" "needs" "J" ∈ zT := zT_of 332 (by decide +kernel) (by decide +kernel)
theorem fl_X6_205 : zFl RX6 205 6 12 16 .long false := ⟨RX5, TX5, 12, rfl, by decide, rfl, by decide, ui_X5, kw_332, rfl, tyX5_ok, nmX5, rfl, rfl⟩
theorem kw_557 : Cond.methodLink "RefitYard" (208 : Nat) ⟨"java/lang/Long", "bitCount", "(J)I"⟩ ∈ zT := zT_of 557 (by decide +kernel) (by decide +kernel)
theorem ms_X6_208 : zMS RX6 208 mJ13_bitCount_95d88 1 := ⟨mmJ13_bitCount_95d88, kw_557, kw_388⟩
theorem kw_323 : Cond.fieldLink "RefitYard" (214 : Nat) "RefitYard$Work" "reopened" "I" ∈ zT := zT_of 323 (by decide +kernel) (by decide +kernel)
theorem fl_X6_214 : zFl RX6 214 6 9 16 .int false := ⟨RX5, TX5, 9, rfl, by decide, rfl, by decide, ui_X5, kw_323, rfl, tyX5_ok, nmX5, rfl, rfl⟩
def mX6_load : zF := (yX6_load, cX6_load, 3, (some .int))
theorem kc_526 : Cond.code yX6_load cX6_load 3 (some .int) ∈ zT := zT_of 561 (by decide +kernel) (by decide +kernel)
theorem mmX6_load : zMm mX6_load 2 := ⟨kw_36, kc_526, by decide +kernel, by decide⟩
theorem kw_129 : Cond.fieldLink "RefitYard" (220 : Nat) "RefitYard$Board" "within" "[J" ∈ zT := zT_of 129 (by decide +kernel) (by decide +kernel)
theorem fl_X6_220 : zFl RX6 220 1 0 3 (.array .long) true := ⟨RX0, TX0, 0, rfl, by decide, rfl, by decide, ui_X0, kw_129, rfl, tyX0_ok, nmX0, rfl, rfl⟩
theorem kw_96 : Cond.fieldLink "RefitYard" (224 : Nat) "RefitYard$Net" "takers" "[J" ∈ zT := zT_of 96 (by decide +kernel) (by decide +kernel)
theorem fl_X6_224 : zFl RX6 224 3 2 6 (.array .long) true := ⟨RX2, TX2, 2, rfl, by decide, rfl, by decide, ui_X2, kw_96, rfl, tyX2_ok, nmX2, rfl, rfl⟩
theorem kw_132 : Cond.fieldLink "RefitYard" (217 : Nat) "RefitYard$Board" "hands" "[[I" ∈ zT := zT_of 132 (by decide +kernel) (by decide +kernel)
theorem fl_X6_217 : zFl RX6 217 1 1 3 (.array (.array .int)) true := ⟨RX0, TX0, 1, rfl, by decide, rfl, by decide, ui_X0, kw_132, rfl, tyX0_ok, nmX0, rfl, rfl⟩
def mX6_plan : zF := (yX6_plan, cX6_plan, 7, (some .int))
theorem kc_530 : Cond.code yX6_plan cX6_plan 7 (some .int) ∈ zT := zT_of 565 (by decide +kernel) (by decide +kernel)
theorem mmX6_plan : zMm mX6_plan 0 := ⟨kw_36, kc_530, by decide +kernel, by decide⟩
theorem kw_566 : Cond.methodLink "RefitYard" (227 : Nat) ⟨"RefitYard$Net", "mostPressing", "(J)LRefitYard$Work;"⟩ ∈ zT := zT_of 566 (by decide +kernel) (by decide +kernel)
theorem kw_567 : Cond.instanceMethod ⟨"RefitYard$Net", "mostPressing", "(J)LRefitYard$Work;"⟩ ∈ zT := zT_of 567 (by decide +kernel) (by decide +kernel)
theorem kw_568 : Cond.selects "RefitYard$Net" ⟨"RefitYard$Net", "mostPressing", "(J)LRefitYard$Work;"⟩ ⟨"RefitYard$Net", "mostPressing", "(J)LRefitYard$Work;"⟩ ∈ zT := zT_of 568 (by decide +kernel) (by decide +kernel)
theorem mv_X6_227 : zMV RX6 227 mX2_mostPressing 1 3 6 := ⟨mmX2_mostPressing, ⟨kw_566, kw_567, kw_568⟩, TX2, rfl, by decide, by decide⟩
def mX6_best : zF := (yX6_best, cX6_best, 1, (some .int))
theorem kc_548 : Cond.code yX6_best cX6_best 1 (some .int) ∈ zT := zT_of 583 (by decide +kernel) (by decide +kernel)
theorem mmX6_best : zMm mX6_best 0 := ⟨kw_36, kc_548, by decide +kernel, by decide⟩
theorem kw_584 : Cond.methodLink "RefitYard" (231 : Nat) ⟨"RefitYard$Net", "allThatArePut", "()J"⟩ ∈ zT := zT_of 584 (by decide +kernel) (by decide +kernel)
theorem mv_X6_231 : zMV RX6 231 mX2_allThatArePut 0 3 6 := ⟨mmX2_allThatArePut, ⟨kw_584, kw_571, kw_572⟩, TX2, rfl, by decide, by decide⟩
theorem kw_585 : Cond.methodLink "RefitYard" (235 : Nat) ⟨"RefitYard$Orders", "layBest", "()I"⟩ ∈ zT := zT_of 585 (by decide +kernel) (by decide +kernel)
theorem kw_586 : Cond.instanceMethod ⟨"RefitYard$Orders", "layBest", "()I"⟩ ∈ zT := zT_of 586 (by decide +kernel) (by decide +kernel)
theorem kw_587 : Cond.selects "RefitYard$Orders" ⟨"RefitYard$Orders", "layBest", "()I"⟩ ⟨"RefitYard$Orders", "layBest", "()I"⟩ ∈ zT := zT_of 587 (by decide +kernel) (by decide +kernel)
theorem mv_X6_235 : zMV RX6 235 mX3_layBest 0 4 5 := ⟨mmX3_layBest, ⟨kw_585, kw_586, kw_587⟩, TX3, rfl, by decide, by decide⟩
def mX6_end : zF := (yX6_end, cX6_end, 4, (some .int))
theorem kc_576 : Cond.code yX6_end cX6_end 4 (some .int) ∈ zT := zT_of 611 (by decide +kernel) (by decide +kernel)
theorem mmX6_end : zMm mX6_end 0 := ⟨kw_36, kc_576, by decide +kernel, by decide⟩
theorem kw_612 : Cond.methodLink "RefitYard" (239 : Nat) ⟨"RefitYard$Work", "behind", "()I"⟩ ∈ zT := zT_of 612 (by decide +kernel) (by decide +kernel)
theorem mv_X6_239 : zMV RX6 239 mX5_behind 0 6 16 := ⟨mmX5_behind, ⟨kw_612, kw_456, kw_457⟩, TX5, rfl, by decide, by decide⟩
theorem kw_613 : Cond.methodLink "RefitYard" (242 : Nat) ⟨"java/lang/Math", "max", "(II)I"⟩ ∈ zT := zT_of 613 (by decide +kernel) (by decide +kernel)
theorem mm_X6_242 : Cond.methodLink RX6 242 Lib.Math.max.name ∈ zT ∧ Cond.static Lib.Math.max.name ∈ zT ∧ Cond.initialized "java/lang/Math" ∈ zT ∧ Cond.code Lib.Math.max.name Lib.Math.max.code 2 (some .int) ∈ zT := ⟨kw_613, kw_402, kw_45, zT_of 403 (by decide +kernel) (by decide +kernel)⟩
def mX6_bound : zF := (yX6_bound, cX6_bound, 3, (some .int))
theorem kc_582 : Cond.code yX6_bound cX6_bound 3 (some .int) ∈ zT := zT_of 617 (by decide +kernel) (by decide +kernel)
theorem mmX6_bound : zMm mX6_bound 0 := ⟨kw_36, kc_582, by decide +kernel, by decide⟩
theorem kw_104 : Cond.fieldLink "RefitYard" (247 : Nat) "RefitYard$Net" "way" "I" ∈ zT := zT_of 104 (by decide +kernel) (by decide +kernel)
theorem fl_X6_247 : zFl RX6 247 3 5 6 .int false := ⟨RX2, TX2, 5, rfl, by decide, rfl, by decide, ui_X2, kw_104, rfl, tyX2_ok, nmX2, rfl, rfl⟩
theorem kw_618 : Cond.methodLink "RefitYard" (250 : Nat) ⟨"RefitYard$Net", "askedOfTrade", "(I)I"⟩ ∈ zT := zT_of 618 (by decide +kernel) (by decide +kernel)
theorem kw_619 : Cond.instanceMethod ⟨"RefitYard$Net", "askedOfTrade", "(I)I"⟩ ∈ zT := zT_of 619 (by decide +kernel) (by decide +kernel)
theorem kw_620 : Cond.selects "RefitYard$Net" ⟨"RefitYard$Net", "askedOfTrade", "(I)I"⟩ ⟨"RefitYard$Net", "askedOfTrade", "(I)I"⟩ ∈ zT := zT_of 620 (by decide +kernel) (by decide +kernel)
theorem mv_X6_250 : zMV RX6 250 mX2_askedOfTrade 1 3 6 := ⟨mmX2_askedOfTrade, ⟨kw_618, kw_619, kw_620⟩, TX2, rfl, by decide, by decide⟩
def mX6_shiftsFor : zF := (yX6_shiftsFor, cX6_shiftsFor, 2, (some .int))
theorem kc_589 : Cond.code yX6_shiftsFor cX6_shiftsFor 2 (some .int) ∈ zT := zT_of 624 (by decide +kernel) (by decide +kernel)
theorem mmX6_shiftsFor : zMm mX6_shiftsFor 2 := ⟨kw_36, kc_589, by decide +kernel, by decide⟩
theorem kw_622 : Cond.methodLink "RefitYard" (253 : Nat) ⟨"RefitYard", "shiftsFor", "(II)I"⟩ ∈ zT := zT_of 622 (by decide +kernel) (by decide +kernel)
theorem kw_623 : Cond.static ⟨"RefitYard", "shiftsFor", "(II)I"⟩ ∈ zT := zT_of 623 (by decide +kernel) (by decide +kernel)
theorem ms_X6_253 : zMS RX6 253 mX6_shiftsFor 2 := ⟨mmX6_shiftsFor, kw_622, kw_623⟩
def mX6_greater : zF := (yX6_greater, cX6_greater, 2, (some .int))
theorem kc_592 : Cond.code yX6_greater cX6_greater 2 (some .int) ∈ zT := zT_of 627 (by decide +kernel) (by decide +kernel)
theorem mmX6_greater : zMm mX6_greater 2 := ⟨kw_36, kc_592, by decide +kernel, by decide⟩
theorem kw_625 : Cond.methodLink "RefitYard" (256 : Nat) ⟨"RefitYard", "greater", "(II)I"⟩ ∈ zT := zT_of 625 (by decide +kernel) (by decide +kernel)
theorem kw_626 : Cond.static ⟨"RefitYard", "greater", "(II)I"⟩ ∈ zT := zT_of 626 (by decide +kernel) (by decide +kernel)
theorem ms_X6_256 : zMS RX6 256 mX6_greater 2 := ⟨mmX6_greater, kw_625, kw_626⟩
theorem kw_628 : Cond.methodLink "RefitYard" (259 : Nat) ⟨"RefitYard$Net", "askedOfGood", "(I)I"⟩ ∈ zT := zT_of 628 (by decide +kernel) (by decide +kernel)
theorem kw_629 : Cond.instanceMethod ⟨"RefitYard$Net", "askedOfGood", "(I)I"⟩ ∈ zT := zT_of 629 (by decide +kernel) (by decide +kernel)
theorem kw_630 : Cond.selects "RefitYard$Net" ⟨"RefitYard$Net", "askedOfGood", "(I)I"⟩ ⟨"RefitYard$Net", "askedOfGood", "(I)I"⟩ ∈ zT := zT_of 630 (by decide +kernel) (by decide +kernel)
theorem mv_X6_259 : zMV RX6 259 mX2_askedOfGood 1 3 6 := ⟨mmX2_askedOfGood, ⟨kw_628, kw_629, kw_630⟩, TX2, rfl, by decide, by decide⟩
theorem kw_636 : Cond.methodLink "RefitYard" (262 : Nat) ⟨"RefitYard$Net", "askedOfSpace", "(I)I"⟩ ∈ zT := zT_of 636 (by decide +kernel) (by decide +kernel)
theorem kw_637 : Cond.instanceMethod ⟨"RefitYard$Net", "askedOfSpace", "(I)I"⟩ ∈ zT := zT_of 637 (by decide +kernel) (by decide +kernel)
theorem kw_638 : Cond.selects "RefitYard$Net" ⟨"RefitYard$Net", "askedOfSpace", "(I)I"⟩ ⟨"RefitYard$Net", "askedOfSpace", "(I)I"⟩ ∈ zT := zT_of 638 (by decide +kernel) (by decide +kernel)
theorem mv_X6_262 : zMV RX6 262 mX2_askedOfSpace 1 3 6 := ⟨mmX2_askedOfSpace, ⟨kw_636, kw_637, kw_638⟩, TX2, rfl, by decide, by decide⟩
theorem kw_62 : Cond.fieldLink "RefitYard" (265 : Nat) "RefitYard$Ground" "bears" "[I" ∈ zT := zT_of 62 (by decide +kernel) (by decide +kernel)
theorem fl_X6_265 : zFl RX6 265 2 0 5 (.array .int) true := ⟨RX1, TX1, 0, rfl, by decide, rfl, by decide, ui_X1, kw_62, rfl, tyX1_ok, nmX1, rfl, rfl⟩
def mX6_go : zF := (yX6_go, cX6_go, 2, (some .int))
theorem kc_608 : Cond.code yX6_go cX6_go 2 (some .int) ∈ zT := zT_of 643 (by decide +kernel) (by decide +kernel)
theorem mmX6_go : zMm mX6_go 1 := ⟨kw_36, kc_608, by decide +kernel, by decide⟩
theorem kw_644 : Cond.methodLink "RefitYard" (268 : Nat) ⟨"java/lang/Math", "min", "(II)I"⟩ ∈ zT := zT_of 644 (by decide +kernel) (by decide +kernel)
theorem mm_X6_268 : Cond.methodLink RX6 268 Lib.Math.min.name ∈ zT ∧ Cond.static Lib.Math.min.name ∈ zT ∧ Cond.initialized "java/lang/Math" ∈ zT ∧ Cond.code Lib.Math.min.name Lib.Math.min.code 2 (some .int) ∈ zT := ⟨kw_644, kw_487, kw_45, zT_of 488 (by decide +kernel) (by decide +kernel)⟩
def mX6_fail : zF := (yX6_fail, cX6_fail, 7, (some .int))
theorem kc_613 : Cond.code yX6_fail cX6_fail 7 (some .int) ∈ zT := zT_of 648 (by decide +kernel) (by decide +kernel)
theorem mmX6_fail : zMm mX6_fail 1 := ⟨kw_36, kc_613, by decide +kernel, by decide⟩
theorem kw_548 : Cond.methodLink "RefitYard" (271 : Nat) ⟨"RefitYard$Work", "isDone", "(I)Z"⟩ ∈ zT := zT_of 548 (by decide +kernel) (by decide +kernel)
theorem mv_X6_271 : zMV RX6 271 mX5_isDone 1 6 16 := ⟨mmX5_isDone, ⟨kw_548, kw_549, kw_550⟩, TX5, rfl, by decide, by decide⟩
theorem kw_649 : Cond.methodLink "RefitYard" (274 : Nat) ⟨"RefitYard$Net", "openedWith", "(LRefitYard$Work;I)J"⟩ ∈ zT := zT_of 649 (by decide +kernel) (by decide +kernel)
theorem kw_650 : Cond.instanceMethod ⟨"RefitYard$Net", "openedWith", "(LRefitYard$Work;I)J"⟩ ∈ zT := zT_of 650 (by decide +kernel) (by decide +kernel)
theorem kw_651 : Cond.selects "RefitYard$Net" ⟨"RefitYard$Net", "openedWith", "(LRefitYard$Work;I)J"⟩ ⟨"RefitYard$Net", "openedWith", "(LRefitYard$Work;I)J"⟩ ∈ zT := zT_of 651 (by decide +kernel) (by decide +kernel)
theorem mv_X6_274 : zMV RX6 274 mX2_openedWith 2 3 6 := ⟨mmX2_openedWith, ⟨kw_649, kw_650, kw_651⟩, TX2, rfl, by decide, by decide⟩
def mX6_more : zF := (yX6_more, cX6_more, 4, (some .int))
theorem kc_630 : Cond.code yX6_more cX6_more 4 (some .int) ∈ zT := zT_of 665 (by decide +kernel) (by decide +kernel)
theorem mmX6_more : zMm mX6_more 2 := ⟨kw_36, kc_630, by decide +kernel, by decide⟩
theorem kw_666 : Cond.methodLink "RefitYard" (278 : Nat) ⟨"RefitYard$Board", "lengthen", "(LRefitYard$Work;I)V"⟩ ∈ zT := zT_of 666 (by decide +kernel) (by decide +kernel)
theorem kw_667 : Cond.instanceMethod ⟨"RefitYard$Board", "lengthen", "(LRefitYard$Work;I)V"⟩ ∈ zT := zT_of 667 (by decide +kernel) (by decide +kernel)
theorem kw_668 : Cond.selects "RefitYard$Board" ⟨"RefitYard$Board", "lengthen", "(LRefitYard$Work;I)V"⟩ ⟨"RefitYard$Board", "lengthen", "(LRefitYard$Work;I)V"⟩ ∈ zT := zT_of 668 (by decide +kernel) (by decide +kernel)
theorem mv_X6_278 : zMV RX6 278 mX0_lengthen 2 1 3 := ⟨mmX0_lengthen, ⟨kw_666, kw_667, kw_668⟩, TX0, rfl, by decide, by decide⟩
theorem kw_672 : Cond.methodLink "RefitYard" (281 : Nat) ⟨"RefitYard$Net", "weigh", "()V"⟩ ∈ zT := zT_of 672 (by decide +kernel) (by decide +kernel)
theorem mv_X6_281 : zMV RX6 281 mX2_weigh 0 3 6 := ⟨mmX2_weigh, ⟨kw_672, kw_380, kw_381⟩, TX2, rfl, by decide, by decide⟩
def mX6_count : zF := (yX6_count, cX6_count, 2, (some .int))
theorem kc_641 : Cond.code yX6_count cX6_count 2 (some .int) ∈ zT := zT_of 676 (by decide +kernel) (by decide +kernel)
theorem mmX6_count : zMm mX6_count 1 := ⟨kw_36, kc_641, by decide +kernel, by decide⟩
theorem kw_677 : Cond.methodLink "RefitYard" (284 : Nat) ⟨"RefitYard$Net", "allDone", "(I)J"⟩ ∈ zT := zT_of 677 (by decide +kernel) (by decide +kernel)
theorem mv_X6_284 : zMV RX6 284 mX2_allDone 1 3 6 := ⟨mmX2_allDone, ⟨kw_677, kw_654, kw_655⟩, TX2, rfl, by decide, by decide⟩
theorem kw_68 : Cond.fieldLink "RefitYard" (288 : Nat) "RefitYard$Ground" "bars" "I" ∈ zT := zT_of 68 (by decide +kernel) (by decide +kernel)
theorem fl_X6_288 : zFl RX6 288 2 4 5 .int false := ⟨RX1, TX1, 4, rfl, by decide, rfl, by decide, ui_X1, kw_68, rfl, tyX1_ok, nmX1, rfl, rfl⟩
theorem kw_424 : Cond.methodLink "RefitYard" (291 : Nat) ⟨"RefitYard$Work", "hangsOn", "(LRefitYard$Work;)Z"⟩ ∈ zT := zT_of 424 (by decide +kernel) (by decide +kernel)
theorem mv_X6_291 : zMV RX6 291 mX5_hangsOn 1 6 16 := ⟨mmX5_hangsOn, ⟨kw_424, kw_425, kw_426⟩, TX5, rfl, by decide, by decide⟩
theorem kw_539 : Cond.methodLink "RefitYard" (294 : Nat) ⟨"RefitYard$Rules", "leastShift", "(LRefitYard$Work;I)I"⟩ ∈ zT := zT_of 539 (by decide +kernel) (by decide +kernel)
theorem mv_X6_294 : zMV RX6 294 mX4_leastShift 2 5 5 := ⟨mmX4_leastShift, ⟨kw_539, kw_526, kw_527⟩, TX4, rfl, by decide, by decide⟩
end
section
abbrev ZX5_init (E : zE) (d : Nat) (X : zX) (P : zM → Prop) (pc : Nat) (Lc : List (Nat × zV)) (S : List zV) (M : zM) (ce sl : Nat) : Prop := zZ cX5_init RX5 "<init>" 4 E (zrm (d + 1) 0 0) X (zQ E (zPv P) X 0 0) pc Lc S M ce sl
set_option maxRecDepth 20000 in
theorem vX5_init_0 {E : zE} {d : Nat} {X : zX} {P : zM → Prop} {M : zM} (hr : (xh X).sig.returnType = none) (a0 : Nat) (x1 : Int) (x2 : Int) (x3 : Int)
    (h : zK M a0 = (6, 16) ∧ ∀ M2, M2 = zsI M a0 8 (-1) → zK M2 a0 = (6, 16) ∧ ∀ M4, M4 = zsI M2 a0 0 x1 → zK M4 a0 = (6, 16) ∧ ∀ M6, M6 = zsL M4 a0 1 (zbit x1) → zK M6 a0 = (6, 16) ∧ ∀ M8, M8 = zsI M6 a0 6 x3 → 0 < (100 : Int) ∧ zK M8 a0 = (6, 16) ∧ ∀ M11, M11 = zsI M8 a0 4 (Int.tmod x2 100) → 0 < (100 : Int) ∧ 0 < (10 : Int) ∧ zK M11 a0 = (6, 16) ∧ ∀ M15, M15 = zsI M11 a0 5 (Int.tmod (Int.tdiv x2 100) 10) → 0 < (1000 : Int) ∧ 0 < (10 : Int) ∧ zK M15 a0 = (6, 16) ∧ ∀ M19, M19 = zsI M15 a0 2 (Int.tmod (Int.tdiv x2 1000) 10) → 0 < (10000 : Int) ∧ 0 < (10 : Int) ∧ zK M19 a0 = (6, 16) ∧ ∀ M23, M23 = zsI M19 a0 3 (Int.tmod (Int.tdiv x2 10000) 10) → 0 < (100000 : Int) ∧ zK M23 a0 = (6, 16) ∧ ∀ M26, M26 = zsI M23 a0 7 (Int.tdiv x2 100000) → P M26) :
    ZX5_init E d X P 0 [(0, vR (some a0)), (1, vI x1), (2, vI x2), (3, vI x3)] [] M 0 0 := by
  refine z_aload_n 0 dX5_init_0 rfl ?_
  refine z_objInit oi_X5_3 dX5_init_1 (Nat.le_of_ble_eq_true rfl) zr3 zr5 ?_
  refine z_aload_n 0 dX5_init_4 rfl ?_
  refine z_iconst dX5_init_5 (by decide) ?_
  obtain ⟨q1, h⟩ := h
  refine z_putI fl_X5_9 (Or.inl rfl) dX5_init_6 q1 ?_
  obtain ⟨M2, hmM2⟩ : ∃ z, z = zsI M a0 8 (-1) := ⟨_, rfl⟩
  rw [← hmM2]
  have h := h M2 hmM2
  refine z_aload_n 0 dX5_init_9 rfl ?_
  refine z_iload_n 1 dX5_init_10 rfl ?_
  obtain ⟨q3, h⟩ := h
  refine z_putI fl_X5_15 (Or.inr ⟨rfl, rfl⟩) dX5_init_11 q3 ?_
  obtain ⟨M4, hmM4⟩ : ∃ z, z = zsI M2 a0 0 x1 := ⟨_, rfl⟩
  rw [← hmM4]
  have h := h M4 hmM4
  refine z_aload_n 0 dX5_init_14 rfl ?_
  refine z_lconst (v := 1) dX5_init_15 rfl ?_
  refine z_iload_n 1 dX5_init_16 rfl ?_
  refine z_lshl dX5_init_17 ?_
  obtain ⟨q5, h⟩ := h
  refine z_putL fl_X5_18 (Or.inr ⟨rfl, rfl⟩) dX5_init_18 q5 ?_
  obtain ⟨M6, hmM6⟩ : ∃ z, z = zsL M4 a0 1 (zbit x1) := ⟨_, rfl⟩
  rw [← hmM6]
  have h := h M6 hmM6
  refine z_aload_n 0 dX5_init_21 rfl ?_
  refine z_iload_n 3 dX5_init_22 rfl ?_
  obtain ⟨q7, h⟩ := h
  refine z_putI fl_X5_22 (Or.inr ⟨rfl, rfl⟩) dX5_init_23 q7 ?_
  obtain ⟨M8, hmM8⟩ : ∃ z, z = zsI M6 a0 6 x3 := ⟨_, rfl⟩
  rw [← hmM8]
  have h := h M8 hmM8
  refine z_aload_n 0 dX5_init_26 rfl ?_
  refine z_iload_n 2 dX5_init_27 rfl ?_
  refine z_bipush dX5_init_28 (by decide) ?_
  obtain ⟨q9, h⟩ := h
  refine z_irem dX5_init_30 q9 ?_
  obtain ⟨q10, h⟩ := h
  refine z_putI fl_X5_25 (Or.inr ⟨rfl, rfl⟩) dX5_init_31 q10 ?_
  obtain ⟨M11, hmM11⟩ : ∃ z, z = zsI M8 a0 4 (Int.tmod x2 100) := ⟨_, rfl⟩
  rw [← hmM11]
  have h := h M11 hmM11
  refine z_aload_n 0 dX5_init_34 rfl ?_
  refine z_iload_n 2 dX5_init_35 rfl ?_
  refine z_bipush dX5_init_36 (by decide) ?_
  obtain ⟨q12, h⟩ := h
  refine z_idiv dX5_init_38 q12 ?_
  refine z_bipush dX5_init_39 (by decide) ?_
  obtain ⟨q13, h⟩ := h
  refine z_irem dX5_init_41 q13 ?_
  obtain ⟨q14, h⟩ := h
  refine z_putI fl_X5_28 (Or.inr ⟨rfl, rfl⟩) dX5_init_42 q14 ?_
  obtain ⟨M15, hmM15⟩ : ∃ z, z = zsI M11 a0 5 (Int.tmod (Int.tdiv x2 100) 10) := ⟨_, rfl⟩
  rw [← hmM15]
  have h := h M15 hmM15
  refine z_aload_n 0 dX5_init_45 rfl ?_
  refine z_iload_n 2 dX5_init_46 rfl ?_
  refine z_sipush dX5_init_47 (by decide) ?_
  obtain ⟨q16, h⟩ := h
  refine z_idiv dX5_init_50 q16 ?_
  refine z_bipush dX5_init_51 (by decide) ?_
  obtain ⟨q17, h⟩ := h
  refine z_irem dX5_init_53 q17 ?_
  obtain ⟨q18, h⟩ := h
  refine z_putI fl_X5_31 (Or.inr ⟨rfl, rfl⟩) dX5_init_54 q18 ?_
  obtain ⟨M19, hmM19⟩ : ∃ z, z = zsI M15 a0 2 (Int.tmod (Int.tdiv x2 1000) 10) := ⟨_, rfl⟩
  rw [← hmM19]
  have h := h M19 hmM19
  refine z_aload_n 0 dX5_init_57 rfl ?_
  refine z_iload_n 2 dX5_init_58 rfl ?_
  refine z_sipush dX5_init_59 (by decide) ?_
  obtain ⟨q20, h⟩ := h
  refine z_idiv dX5_init_62 q20 ?_
  refine z_bipush dX5_init_63 (by decide) ?_
  obtain ⟨q21, h⟩ := h
  refine z_irem dX5_init_65 q21 ?_
  obtain ⟨q22, h⟩ := h
  refine z_putI fl_X5_34 (Or.inr ⟨rfl, rfl⟩) dX5_init_66 q22 ?_
  obtain ⟨M23, hmM23⟩ : ∃ z, z = zsI M19 a0 3 (Int.tmod (Int.tdiv x2 10000) 10) := ⟨_, rfl⟩
  rw [← hmM23]
  have h := h M23 hmM23
  refine z_aload_n 0 dX5_init_69 rfl ?_
  refine z_iload_n 2 dX5_init_70 rfl ?_
  refine z_ldc (n := 100000) dX5_init_71 kw_281 rfl (by decide) ?_
  obtain ⟨q24, h⟩ := h
  refine z_idiv dX5_init_73 q24 ?_
  obtain ⟨q25, h⟩ := h
  refine z_putI fl_X5_38 (Or.inl rfl) dX5_init_74 q25 ?_
  obtain ⟨M26, hmM26⟩ : ∃ z, z = zsI M23 a0 7 (Int.tdiv x2 100000) := ⟨_, rfl⟩
  rw [← hmM26]
  have h := h M26 hmM26
  exact z_vret hr dX5_init_77 (Nat.le_of_ble_eq_true rfl) (Nat.le_of_ble_eq_true rfl) ⟨rfl, h⟩
theorem sX5_init {E : zE} {d : Nat} {P : zM → Prop} {M : zM} (a0 : Nat) (x1 : Int) (x2 : Int) (x3 : Int) (h : ∀ X : zX, (xh X).sig.returnType = none → ZX5_init E d X P 0 [(0, vR (some a0)), (1, vI x1), (2, vI x2), (3, vI x3)] [] M 0 0) : zCv E mX5_init (d + 1) 0 0 [vR (some a0), vI x1, vI x2, vI x3] M P := z_start (f := mX5_init) rfl (Nat.le_of_ble_eq_true rfl) rfl h
abbrev ZX5_isOpen (E : zE) (d : Nat) (X : zX) (P : Int → zM → Prop) (pc : Nat) (Lc : List (Nat × zV)) (S : List zV) (M : zM) (ce sl : Nat) : Prop := zZ cX5_isOpen RX5 "isOpen" 1 E (zrm (d + 1) 0 0) X (zQ E (zPi P) X 0 0) pc Lc S M ce sl
set_option maxRecDepth 20000 in
theorem vX5_isOpen_0 {E : zE} {d : Nat} {X : zX} {P : Int → zM → Prop} {M : zM} (hr : (xh X).sig.returnType = (some .boolean)) (a0 : Nat)
    (h : zK M a0 = (6, 16) ∧ (((zI M a0 8) ≠ (-1) → P 0 M) ∧ ((zI M a0 8) = (-1) → P 1 M))) :
    ZX5_isOpen E d X P 0 [(0, vR (some a0))] [] M 0 0 := by
  refine z_aload_n 0 dX5_isOpen_0 rfl ?_
  obtain ⟨q1, h⟩ := h
  refine z_getI fl_X5_9 dX5_isOpen_1 q1 ?_
  refine z_iconst dX5_isOpen_4 (by decide) ?_
  refine z_icmp_ne (tgt := 12) dX5_isOpen_5 (by decide) (fun q2 => ?_) (fun q2 => ?_)
  · have h := h.1 q2
    refine z_iconst dX5_isOpen_12 (by decide) ?_
    exact z_zret hr dX5_isOpen_13 (Nat.le_of_ble_eq_true rfl) (Nat.le_of_ble_eq_true rfl) (by decide) ⟨_, rfl, h⟩
  · have h := h.2 q2
    refine z_iconst dX5_isOpen_8 (by decide) ?_
    refine z_goto (tgt := 13) dX5_isOpen_9 (by decide) ?_
    exact z_zret hr dX5_isOpen_13 (Nat.le_of_ble_eq_true rfl) (Nat.le_of_ble_eq_true rfl) (by decide) ⟨_, rfl, h⟩
theorem sX5_isOpen {E : zE} {d : Nat} {P : Int → zM → Prop} {M : zM} (a0 : Nat) (h : ∀ X : zX, (xh X).sig.returnType = (some .boolean) → ZX5_isOpen E d X P 0 [(0, vR (some a0))] [] M 0 0) : zCi E mX5_isOpen (d + 1) 0 0 [vR (some a0)] M P := z_start (f := mX5_isOpen) rfl (Nat.le_of_ble_eq_true rfl) rfl h
abbrev ZX5_behind (E : zE) (d : Nat) (X : zX) (P : Int → zM → Prop) (pc : Nat) (Lc : List (Nat × zV)) (S : List zV) (M : zM) (ce sl : Nat) : Prop := zZ cX5_behind RX5 "behind" 1 E (zrm (d + 1) 0 0) X (zQ E (zPi P) X 0 0) pc Lc S M ce sl
set_option maxRecDepth 20000 in
theorem vX5_behind_0 {E : zE} {d : Nat} {X : zX} {P : Int → zM → Prop} {M : zM} (hr : (xh X).sig.returnType = (some .int)) (a0 : Nat)
    (h : zK M a0 = (6, 16) ∧ zK M a0 = (6, 16) ∧ zin ((zI M a0 8) + (zI M a0 7)) ∧ P ((zI M a0 8) + (zI M a0 7)) M) :
    ZX5_behind E d X P 0 [(0, vR (some a0))] [] M 0 0 := by
  refine z_aload_n 0 dX5_behind_0 rfl ?_
  obtain ⟨q1, h⟩ := h
  refine z_getI fl_X5_9 dX5_behind_1 q1 ?_
  refine z_aload_n 0 dX5_behind_4 rfl ?_
  obtain ⟨q2, h⟩ := h
  refine z_getI fl_X5_38 dX5_behind_5 q2 ?_
  obtain ⟨q3, h⟩ := h
  refine z_iadd dX5_behind_8 q3 ?_
  exact z_iret hr dX5_behind_9 (Nat.le_of_ble_eq_true rfl) (Nat.le_of_ble_eq_true rfl) ⟨_, rfl, h⟩
theorem sX5_behind {E : zE} {d : Nat} {P : Int → zM → Prop} {M : zM} (a0 : Nat) (h : ∀ X : zX, (xh X).sig.returnType = (some .int) → ZX5_behind E d X P 0 [(0, vR (some a0))] [] M 0 0) : zCi E mX5_behind (d + 1) 0 0 [vR (some a0)] M P := z_start (f := mX5_behind) rfl (Nat.le_of_ble_eq_true rfl) rfl h
abbrev ZX5_hasBegun (E : zE) (d : Nat) (X : zX) (P : Int → zM → Prop) (pc : Nat) (Lc : List (Nat × zV)) (S : List zV) (M : zM) (ce sl : Nat) : Prop := zZ cX5_hasBegun RX5 "hasBegun" 2 E (zrm (d + 1) 0 0) X (zQ E (zPi P) X 0 0) pc Lc S M ce sl
set_option maxRecDepth 20000 in
theorem vX5_hasBegun_0 {E : zE} {d : Nat} {X : zX} {P : Int → zM → Prop} {M : zM} (hr : (xh X).sig.returnType = (some .boolean)) (a0 : Nat) (x1 : Int)
    (h : zK M a0 = (6, 16) ∧ ∃ P1 : Int → zM → Prop, zCi E mX5_isOpen d 0 0 [vR (some a0)] M P1 ∧ ∀ r4 M3, P1 r4 M3 → ((r4 ≠ 0 → P 0 M3) ∧ (r4 = 0 → zK M3 a0 = (6, 16) ∧ ((x1 ≤ (zI M3 a0 8) → P 0 M3) ∧ ((zI M3 a0 8) < x1 → P 1 M3))))) :
    ZX5_hasBegun E d X P 0 [(0, vR (some a0)), (1, vI x1)] [] M 0 0 := by
  refine z_aload_n 0 dX5_hasBegun_0 rfl ?_
  obtain ⟨q6, h⟩ := h
  obtain ⟨P1, c2, h⟩ := h
  refine z_Vi (as := []) mv_X5_41 dX5_hasBegun_1 c2 q6 rfl rfl (Nat.le_of_ble_eq_true rfl) (Nat.le_of_ble_eq_true rfl) (Nat.le_of_ble_eq_true rfl) (fun r4 M3 p5 => ?_)
  have h := h r4 M3 p5
  refine z_if_ne (tgt := 19) dX5_hasBegun_4 (by decide) (fun q7 => ?_) (fun q7 => ?_)
  · have h := h.1 q7
    refine z_iconst dX5_hasBegun_19 (by decide) ?_
    exact z_zret hr dX5_hasBegun_20 (Nat.le_of_ble_eq_true rfl) (Nat.le_of_ble_eq_true rfl) (by decide) ⟨_, rfl, h⟩
  · have h := h.2 q7
    refine z_aload_n 0 dX5_hasBegun_7 rfl ?_
    obtain ⟨q8, h⟩ := h
    refine z_getI fl_X5_9 dX5_hasBegun_8 q8 ?_
    refine z_iload_n 1 dX5_hasBegun_11 rfl ?_
    refine z_icmp_ge (tgt := 19) dX5_hasBegun_12 (by decide) (fun q9 => ?_) (fun q9 => ?_)
    · have h := h.1 q9
      refine z_iconst dX5_hasBegun_19 (by decide) ?_
      exact z_zret hr dX5_hasBegun_20 (Nat.le_of_ble_eq_true rfl) (Nat.le_of_ble_eq_true rfl) (by decide) ⟨_, rfl, h⟩
    · have h := h.2 q9
      refine z_iconst dX5_hasBegun_15 (by decide) ?_
      refine z_goto (tgt := 20) dX5_hasBegun_16 (by decide) ?_
      exact z_zret hr dX5_hasBegun_20 (Nat.le_of_ble_eq_true rfl) (Nat.le_of_ble_eq_true rfl) (by decide) ⟨_, rfl, h⟩
theorem sX5_hasBegun {E : zE} {d : Nat} {P : Int → zM → Prop} {M : zM} (a0 : Nat) (x1 : Int) (h : ∀ X : zX, (xh X).sig.returnType = (some .boolean) → ZX5_hasBegun E d X P 0 [(0, vR (some a0)), (1, vI x1)] [] M 0 0) : zCi E mX5_hasBegun (d + 1) 0 0 [vR (some a0), vI x1] M P := z_start (f := mX5_hasBegun) rfl (Nat.le_of_ble_eq_true rfl) rfl h
abbrev ZX5_isDone (E : zE) (d : Nat) (X : zX) (P : Int → zM → Prop) (pc : Nat) (Lc : List (Nat × zV)) (S : List zV) (M : zM) (ce sl : Nat) : Prop := zZ cX5_isDone RX5 "isDone" 2 E (zrm (d + 1) 0 0) X (zQ E (zPi P) X 0 0) pc Lc S M ce sl
set_option maxRecDepth 20000 in
theorem vX5_isDone_0 {E : zE} {d : Nat} {X : zX} {P : Int → zM → Prop} {M : zM} (hr : (xh X).sig.returnType = (some .boolean)) (a0 : Nat) (x1 : Int)
    (h : zK M a0 = (6, 16) ∧ ∃ P1 : Int → zM → Prop, zCi E mX5_isOpen d 0 0 [vR (some a0)] M P1 ∧ ∀ r4 M3, P1 r4 M3 → ((r4 ≠ 0 → P 0 M3) ∧ (r4 = 0 → zK M3 a0 = (6, 16) ∧ ∃ P8 : Int → zM → Prop, zCi E mX5_behind d 0 0 [vR (some a0)] M3 P8 ∧ ∀ r11 M10, P8 r11 M10 → ((x1 < r11 → P 0 M10) ∧ (r11 ≤ x1 → P 1 M10))))) :
    ZX5_isDone E d X P 0 [(0, vR (some a0)), (1, vI x1)] [] M 0 0 := by
  refine z_aload_n 0 dX5_isDone_0 rfl ?_
  obtain ⟨q6, h⟩ := h
  obtain ⟨P1, c2, h⟩ := h
  refine z_Vi (as := []) mv_X5_41 dX5_isDone_1 c2 q6 rfl rfl (Nat.le_of_ble_eq_true rfl) (Nat.le_of_ble_eq_true rfl) (Nat.le_of_ble_eq_true rfl) (fun r4 M3 p5 => ?_)
  have h := h r4 M3 p5
  refine z_if_ne (tgt := 19) dX5_isDone_4 (by decide) (fun q7 => ?_) (fun q7 => ?_)
  · have h := h.1 q7
    refine z_iconst dX5_isDone_19 (by decide) ?_
    exact z_zret hr dX5_isDone_20 (Nat.le_of_ble_eq_true rfl) (Nat.le_of_ble_eq_true rfl) (by decide) ⟨_, rfl, h⟩
  · have h := h.2 q7
    refine z_aload_n 0 dX5_isDone_7 rfl ?_
    obtain ⟨q13, h⟩ := h
    obtain ⟨P8, c9, h⟩ := h
    refine z_Vi (as := []) mv_X5_45 dX5_isDone_8 c9 q13 rfl rfl (Nat.le_of_ble_eq_true rfl) (Nat.le_of_ble_eq_true rfl) (Nat.le_of_ble_eq_true rfl) (fun r11 M10 p12 => ?_)
    have h := h r11 M10 p12
    refine z_iload_n 1 dX5_isDone_11 rfl ?_
    refine z_icmp_gt (tgt := 19) dX5_isDone_12 (by decide) (fun q14 => ?_) (fun q14 => ?_)
    · have h := h.1 q14
      refine z_iconst dX5_isDone_19 (by decide) ?_
      exact z_zret hr dX5_isDone_20 (Nat.le_of_ble_eq_true rfl) (Nat.le_of_ble_eq_true rfl) (by decide) ⟨_, rfl, h⟩
    · have h := h.2 q14
      refine z_iconst dX5_isDone_15 (by decide) ?_
      refine z_goto (tgt := 20) dX5_isDone_16 (by decide) ?_
      exact z_zret hr dX5_isDone_20 (Nat.le_of_ble_eq_true rfl) (Nat.le_of_ble_eq_true rfl) (by decide) ⟨_, rfl, h⟩
theorem sX5_isDone {E : zE} {d : Nat} {P : Int → zM → Prop} {M : zM} (a0 : Nat) (x1 : Int) (h : ∀ X : zX, (xh X).sig.returnType = (some .boolean) → ZX5_isDone E d X P 0 [(0, vR (some a0)), (1, vI x1)] [] M 0 0) : zCi E mX5_isDone (d + 1) 0 0 [vR (some a0), vI x1] M P := z_start (f := mX5_isDone) rfl (Nat.le_of_ble_eq_true rfl) rfl h
abbrev ZX5_leansOn (E : zE) (d : Nat) (X : zX) (P : Int → zM → Prop) (pc : Nat) (Lc : List (Nat × zV)) (S : List zV) (M : zM) (ce sl : Nat) : Prop := zZ cX5_leansOn RX5 "leansOn" 2 E (zrm (d + 1) 0 0) X (zQ E (zPi P) X 0 0) pc Lc S M ce sl
set_option maxRecDepth 20000 in
theorem vX5_leansOn_0 {E : zE} {d : Nat} {X : zX} {P : Int → zM → Prop} {M : zM} (hr : (xh X).sig.returnType = (some .boolean)) (a0 : Nat) (a1 : Nat)
    (h : zK M a0 = (6, 16) ∧ zK M a1 = (6, 16) ∧ (((if (0 : Int64) < ((zL M a0 12) &&& (zL M a1 1)) then 1 else if ((zL M a0 12) &&& (zL M a1 1)) = (0 : Int64) then 0 else -1) = 0 → P 0 M) ∧ ((if (0 : Int64) < ((zL M a0 12) &&& (zL M a1 1)) then 1 else if ((zL M a0 12) &&& (zL M a1 1)) = (0 : Int64) then 0 else -1) ≠ 0 → P 1 M))) :
    ZX5_leansOn E d X P 0 [(0, vR (some a0)), (1, vR (some a1))] [] M 0 0 := by
  refine z_aload_n 0 dX5_leansOn_0 rfl ?_
  obtain ⟨q1, h⟩ := h
  refine z_getL fl_X5_49 dX5_leansOn_1 q1 ?_
  refine z_aload_n 1 dX5_leansOn_4 rfl ?_
  obtain ⟨q2, h⟩ := h
  refine z_getL fl_X5_18 dX5_leansOn_5 q2 ?_
  refine z_land dX5_leansOn_8 ?_
  refine z_lconst (v := 0) dX5_leansOn_9 rfl ?_
  refine z_lcmp dX5_leansOn_10 ?_
  refine z_if_eq (tgt := 18) dX5_leansOn_11 (by decide) (fun q3 => ?_) (fun q3 => ?_)
  · have h := h.1 q3
    refine z_iconst dX5_leansOn_18 (by decide) ?_
    exact z_zret hr dX5_leansOn_19 (Nat.le_of_ble_eq_true rfl) (Nat.le_of_ble_eq_true rfl) (by decide) ⟨_, rfl, h⟩
  · have h := h.2 q3
    refine z_iconst dX5_leansOn_14 (by decide) ?_
    refine z_goto (tgt := 19) dX5_leansOn_15 (by decide) ?_
    exact z_zret hr dX5_leansOn_19 (Nat.le_of_ble_eq_true rfl) (Nat.le_of_ble_eq_true rfl) (by decide) ⟨_, rfl, h⟩
theorem sX5_leansOn {E : zE} {d : Nat} {P : Int → zM → Prop} {M : zM} (a0 : Nat) (a1 : Nat) (h : ∀ X : zX, (xh X).sig.returnType = (some .boolean) → ZX5_leansOn E d X P 0 [(0, vR (some a0)), (1, vR (some a1))] [] M 0 0) : zCi E mX5_leansOn (d + 1) 0 0 [vR (some a0), vR (some a1)] M P := z_start (f := mX5_leansOn) rfl (Nat.le_of_ble_eq_true rfl) rfl h
abbrev ZX5_hangsOn (E : zE) (d : Nat) (X : zX) (P : Int → zM → Prop) (pc : Nat) (Lc : List (Nat × zV)) (S : List zV) (M : zM) (ce sl : Nat) : Prop := zZ cX5_hangsOn RX5 "hangsOn" 2 E (zrm (d + 1) 0 0) X (zQ E (zPi P) X 0 0) pc Lc S M ce sl
set_option maxRecDepth 20000 in
theorem vX5_hangsOn_0 {E : zE} {d : Nat} {X : zX} {P : Int → zM → Prop} {M : zM} (hr : (xh X).sig.returnType = (some .boolean)) (a0 : Nat) (a1 : Nat)
    (h : zK M a0 = (6, 16) ∧ zK M a1 = (6, 16) ∧ (((if (0 : Int64) < ((zL M a0 13) &&& (zL M a1 1)) then 1 else if ((zL M a0 13) &&& (zL M a1 1)) = (0 : Int64) then 0 else -1) = 0 → P 0 M) ∧ ((if (0 : Int64) < ((zL M a0 13) &&& (zL M a1 1)) then 1 else if ((zL M a0 13) &&& (zL M a1 1)) = (0 : Int64) then 0 else -1) ≠ 0 → P 1 M))) :
    ZX5_hangsOn E d X P 0 [(0, vR (some a0)), (1, vR (some a1))] [] M 0 0 := by
  refine z_aload_n 0 dX5_hangsOn_0 rfl ?_
  obtain ⟨q1, h⟩ := h
  refine z_getL fl_X5_52 dX5_hangsOn_1 q1 ?_
  refine z_aload_n 1 dX5_hangsOn_4 rfl ?_
  obtain ⟨q2, h⟩ := h
  refine z_getL fl_X5_18 dX5_hangsOn_5 q2 ?_
  refine z_land dX5_hangsOn_8 ?_
  refine z_lconst (v := 0) dX5_hangsOn_9 rfl ?_
  refine z_lcmp dX5_hangsOn_10 ?_
  refine z_if_eq (tgt := 18) dX5_hangsOn_11 (by decide) (fun q3 => ?_) (fun q3 => ?_)
  · have h := h.1 q3
    refine z_iconst dX5_hangsOn_18 (by decide) ?_
    exact z_zret hr dX5_hangsOn_19 (Nat.le_of_ble_eq_true rfl) (Nat.le_of_ble_eq_true rfl) (by decide) ⟨_, rfl, h⟩
  · have h := h.2 q3
    refine z_iconst dX5_hangsOn_14 (by decide) ?_
    refine z_goto (tgt := 19) dX5_hangsOn_15 (by decide) ?_
    exact z_zret hr dX5_hangsOn_19 (Nat.le_of_ble_eq_true rfl) (Nat.le_of_ble_eq_true rfl) (by decide) ⟨_, rfl, h⟩
theorem sX5_hangsOn {E : zE} {d : Nat} {P : Int → zM → Prop} {M : zM} (a0 : Nat) (a1 : Nat) (h : ∀ X : zX, (xh X).sig.returnType = (some .boolean) → ZX5_hangsOn E d X P 0 [(0, vR (some a0)), (1, vR (some a1))] [] M 0 0) : zCi E mX5_hangsOn (d + 1) 0 0 [vR (some a0), vR (some a1)] M P := z_start (f := mX5_hangsOn) rfl (Nat.le_of_ble_eq_true rfl) rfl h
abbrev ZX5_isReady (E : zE) (d : Nat) (X : zX) (P : Int → zM → Prop) (pc : Nat) (Lc : List (Nat × zV)) (S : List zV) (M : zM) (ce sl : Nat) : Prop := zZ cX5_isReady RX5 "isReady" 3 E (zrm (d + 1) 0 0) X (zQ E (zPi P) X 0 0) pc Lc S M ce sl
set_option maxRecDepth 20000 in
theorem vX5_isReady_0 {E : zE} {d : Nat} {X : zX} {P : Int → zM → Prop} {M : zM} (hr : (xh X).sig.returnType = (some .boolean)) (a0 : Nat) (l1 : Int64)
    (h : zK M a0 = (6, 16) ∧ ∃ P1 : Int → zM → Prop, zCi E mX5_isOpen d 0 0 [vR (some a0)] M P1 ∧ ∀ r4 M3, P1 r4 M3 → ((r4 = 0 → P 0 M3) ∧ (r4 ≠ 0 → zK M3 a0 = (6, 16) ∧ (((if (0 : Int64) < ((zL M3 a0 12) &&& (l1 ^^^ (-1 : Int64))) then 1 else if ((zL M3 a0 12) &&& (l1 ^^^ (-1 : Int64))) = (0 : Int64) then 0 else -1) ≠ 0 → P 0 M3) ∧ ((if (0 : Int64) < ((zL M3 a0 12) &&& (l1 ^^^ (-1 : Int64))) then 1 else if ((zL M3 a0 12) &&& (l1 ^^^ (-1 : Int64))) = (0 : Int64) then 0 else -1) = 0 → P 1 M3))))) :
    ZX5_isReady E d X P 0 [(0, vR (some a0)), (1, vL l1)] [] M 0 0 := by
  refine z_aload_n 0 dX5_isReady_0 rfl ?_
  obtain ⟨q6, h⟩ := h
  obtain ⟨P1, c2, h⟩ := h
  refine z_Vi (as := []) mv_X5_41 dX5_isReady_1 c2 q6 rfl rfl (Nat.le_of_ble_eq_true rfl) (Nat.le_of_ble_eq_true rfl) (Nat.le_of_ble_eq_true rfl) (fun r4 M3 p5 => ?_)
  have h := h r4 M3 p5
  refine z_if_eq (tgt := 26) dX5_isReady_4 (by decide) (fun q7 => ?_) (fun q7 => ?_)
  · have h := h.1 q7
    refine z_iconst dX5_isReady_26 (by decide) ?_
    exact z_zret hr dX5_isReady_27 (Nat.le_of_ble_eq_true rfl) (Nat.le_of_ble_eq_true rfl) (by decide) ⟨_, rfl, h⟩
  · have h := h.2 q7
    refine z_aload_n 0 dX5_isReady_7 rfl ?_
    obtain ⟨q8, h⟩ := h
    refine z_getL fl_X5_49 dX5_isReady_8 q8 ?_
    refine z_lload_n 1 dX5_isReady_11 rfl ?_
    refine z_ldc2 dX5_isReady_12 kw_578 ?_
    refine z_lxor dX5_isReady_15 ?_
    refine z_land dX5_isReady_16 ?_
    refine z_lconst (v := 0) dX5_isReady_17 rfl ?_
    refine z_lcmp dX5_isReady_18 ?_
    refine z_if_ne (tgt := 26) dX5_isReady_19 (by decide) (fun q9 => ?_) (fun q9 => ?_)
    · have h := h.1 q9
      refine z_iconst dX5_isReady_26 (by decide) ?_
      exact z_zret hr dX5_isReady_27 (Nat.le_of_ble_eq_true rfl) (Nat.le_of_ble_eq_true rfl) (by decide) ⟨_, rfl, h⟩
    · have h := h.2 q9
      refine z_iconst dX5_isReady_22 (by decide) ?_
      refine z_goto (tgt := 27) dX5_isReady_23 (by decide) ?_
      exact z_zret hr dX5_isReady_27 (Nat.le_of_ble_eq_true rfl) (Nat.le_of_ble_eq_true rfl) (by decide) ⟨_, rfl, h⟩
theorem sX5_isReady {E : zE} {d : Nat} {P : Int → zM → Prop} {M : zM} (a0 : Nat) (l1 : Int64) (h : ∀ X : zX, (xh X).sig.returnType = (some .boolean) → ZX5_isReady E d X P 0 [(0, vR (some a0)), (1, vL l1)] [] M 0 0) : zCi E mX5_isReady (d + 1) 0 0 [vR (some a0), vL l1] M P := z_start (f := mX5_isReady) rfl (Nat.le_of_ble_eq_true rfl) rfl h
abbrev ZX5_wholeWay (E : zE) (d : Nat) (X : zX) (P : Int → zM → Prop) (pc : Nat) (Lc : List (Nat × zV)) (S : List zV) (M : zM) (ce sl : Nat) : Prop := zZ cX5_wholeWay RX5 "wholeWay" 1 E (zrm (d + 1) 0 0) X (zQ E (zPi P) X 0 0) pc Lc S M ce sl
set_option maxRecDepth 20000 in
theorem vX5_wholeWay_0 {E : zE} {d : Nat} {X : zX} {P : Int → zM → Prop} {M : zM} (hr : (xh X).sig.returnType = (some .int)) (a0 : Nat)
    (h : zK M a0 = (6, 16) ∧ zK M a0 = (6, 16) ∧ zin ((zI M a0 10) + (zI M a0 7)) ∧ zK M a0 = (6, 16) ∧ zin (((zI M a0 10) + (zI M a0 7)) + (zI M a0 11)) ∧ P (((zI M a0 10) + (zI M a0 7)) + (zI M a0 11)) M) :
    ZX5_wholeWay E d X P 0 [(0, vR (some a0))] [] M 0 0 := by
  refine z_aload_n 0 dX5_wholeWay_0 rfl ?_
  obtain ⟨q1, h⟩ := h
  refine z_getI fl_X5_57 dX5_wholeWay_1 q1 ?_
  refine z_aload_n 0 dX5_wholeWay_4 rfl ?_
  obtain ⟨q2, h⟩ := h
  refine z_getI fl_X5_38 dX5_wholeWay_5 q2 ?_
  obtain ⟨q3, h⟩ := h
  refine z_iadd dX5_wholeWay_8 q3 ?_
  refine z_aload_n 0 dX5_wholeWay_9 rfl ?_
  obtain ⟨q4, h⟩ := h
  refine z_getI fl_X5_60 dX5_wholeWay_10 q4 ?_
  obtain ⟨q5, h⟩ := h
  refine z_iadd dX5_wholeWay_13 q5 ?_
  exact z_iret hr dX5_wholeWay_14 (Nat.le_of_ble_eq_true rfl) (Nat.le_of_ble_eq_true rfl) ⟨_, rfl, h⟩
theorem sX5_wholeWay {E : zE} {d : Nat} {P : Int → zM → Prop} {M : zM} (a0 : Nat) (h : ∀ X : zX, (xh X).sig.returnType = (some .int) → ZX5_wholeWay E d X P 0 [(0, vR (some a0))] [] M 0 0) : zCi E mX5_wholeWay (d + 1) 0 0 [vR (some a0)] M P := z_start (f := mX5_wholeWay) rfl (Nat.le_of_ble_eq_true rfl) rfl h
end
